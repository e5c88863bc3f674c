/-! JOURNEYS, by the class: the rows are found -/
def FN (σ τ : sa_St) : Prop := τ.2 = σ.2 ∧ (∀ j, j ≠ 136 → j ≠ 137 → j ≠ 138 → j ≠ 139 → τ.1 j = σ.1 j) ∧ ∀ k, k ≠ 3 → τ.1 136 k = σ.1 136 k
theorem FN.rfl' {σ : sa_St} : FN σ σ := ⟨rfl, fun _ _ _ _ _ => rfl, fun _ _ => rfl⟩
theorem FN.trans {σ τ υ : sa_St} (h : FN σ τ) (h2 : FN τ υ) : FN σ υ := ⟨h2.1.trans h.1, fun j a b c d => (h2.2.1 j a b c d).trans (h.2.1 j a b c d), fun k a => (h2.2.2 k a).trans (h.2.2 k a)⟩
theorem FN.dn {σ τ : sa_St} (h : FN σ τ) : Dn [0] σ τ := by
  refine ⟨fun a b _ _ => by rw [h.1], fun a k g => ?_⟩
  by_cases e1 : a = 136
  · subst e1; cases g
  by_cases e2 : a = 137
  · subst e2; cases g
  by_cases e3 : a = 138
  · subst e3; cases g
  by_cases e4 : a = 139
  · subst e4; cases g
  rw [h.2.1 a e1 e2 e3 e4]
theorem Cx.fn {L P W F n : Nat} {f : Nat → LWt} {z : Nat → Int32} {hold : Int32} {σ τ : sa_St} (h : Cx L P W F n f z hold σ) (hf : FN σ τ) : Cx L P W F n f z hold τ := h.dn hf.dn rfl rfl (by rw [hf.1, hf.2.1 176 (by omega) (by omega) (by omega) (by omega)]; exact h.memo)
theorem flat_pre {α : Type} {g : Nat → List α} {p : Nat} : ∀ d, ∃ X, (List.range (p + d)).flatMap g = (List.range p).flatMap g ++ X := by
  intro d
  induction d with
  | zero => exact ⟨[], by rw [List.append_nil]; rfl⟩
  | succ d ih =>
    obtain ⟨X, h⟩ := ih
    refine ⟨X ++ g (p + d), ?_⟩
    rw [← Nat.add_assoc, List.range_succ, List.flatMap_append, h, List.append_assoc]
    simp
theorem flat_succ {α : Type} {g : Nat → List α} {p : Nat} : (List.range (p + 1)).flatMap g = (List.range p).flatMap g ++ g p := by
  rw [List.range_succ, List.flatMap_append]
  simp
section CFIND
variable {L P W F n : Nat} {f : Nat → LWt} {z : Nat → Int32} {hold : Int32} {a0 to : Nat}
theorem c_from (hP : P ≤ 8) (hP0 : 0 < P) (ht : to < P) : ∀ (fu : Nat) (tr : List Nat) (here seen : Nat) (σ : sa_St) (rs : List (List Nat)) (Q : Unit → sa_St → Prop), Tr P W z a0 tr here seen → fu + tr.length = 61 → TR rs σ → rs.length < 200 → (∀ q, q ∈ rs → q.length ≤ 8) → (∀ j, j < tr.length → σ.1 139 j = nI (tr.getD j 0)) → Cx L P W F n f z hold σ → σ.2.1 136 2 = L + 1 → σ.1 136 9 = nI to → (∀ τ, FN σ τ → TR ((rs ++ pth P W z to fu tr here seen).take 200) τ → (∀ j, j < tr.length → τ.1 139 j = σ.1 139 j) → Q () τ) → wp (gr_X9_findFrom fu 136 (nI tr.length) (nI seen)) σ Q := by
  intro fu
  induction fu with
  | zero =>
    intro tr here seen σ rs Q hTr hfu
    have := hTr.len
    omega
  | succ fu ih =>
    intro tr here seen σ rs Q hTr hfu hTR hl8 hq8 h139 hcx h2 h9 hQ
    have hlen := hTr.len
    have hpos := hTr.1
    have hhP := hTr.hP
    have hk := hcx.1
    have hseen := hTr.2.2.2.2.2.2.2
    have e1 : nI tr.length - 1 = nI (tr.length - 1) := pk_sub (a := tr.length) (b := 1) hpos
    have hhere : σ.1 139 (tr.length - 1) = nI here := by rw [h139 _ (by omega), hTr.2.2.1]
    show wp (fb_X9_findFrom (gr_X9_findFrom fu) 136 (nI tr.length) (nI seen)) σ Q
    have hpth : pth P W z to (fu + 1) tr here seen = if here = to then [tr] else (List.range P).flatMap (fun p => if seen.testBit p = false ∧ (lwy W z here p).isSome = true then pth P W z to fu (tr ++ [p]) p (seen ||| 2 ^ p) else []) := rfl
    unfold fb_X9_findFrom
    rw [wp_gd]
    refine ⟨rfl, ?_⟩
    rw [wp_bnd, wp_rdR (v := 139) rfl (sk_136_12 hk), wp_bnd, e1, wp_ldI (n := tr.length - 1) (len := 8) al_139 rfl (by omega) (by omega), hhere, wp_bnd, wp_rdI, h9]
    refine ⟨rfl, ?_⟩
    rw [wp_if, nI_eq (by omega) (by omega)]
    refine ⟨fun hne => ?_, fun hne => ?_⟩
    · rw [if_neg hne] at hpth
      rw [hpth] at hQ
      rw [wp_let]
      generalize hg : (fun p => if seen.testBit p = false ∧ (lwy W z here p).isSome = true then pth P W z to fu (tr ++ [p]) p (seen ||| 2 ^ p) else []) = g at hQ
      have hgp : ∀ p, g p = if seen.testBit p = false ∧ (lwy W z here p).isSome = true then pth P W z to fu (tr ++ [p]) p (seen ||| 2 ^ p) else [] := fun p => by rw [← hg]
      have hg8 : ∀ p, p < P → ∀ q, q ∈ g p → q.length ≤ 8 := fun p hp q hq => by
        rw [hgp] at hq
        by_cases hc : seen.testBit p = false ∧ (lwy W z here p).isSome = true
        · rw [if_pos hc] at hq
          exact (pth_pa hP fu _ _ _ (hTr.step hP hp hc.1 hc.2) q hq).2.1
        · rw [if_neg hc] at hq
          cases hq
      refine wp_for1 P 0 (fun p τ => FN σ τ ∧ TR ((rs ++ (List.range p).flatMap g).take 200) τ ∧ (∀ j, j < tr.length → τ.1 139 j = σ.1 139 j)) ?_ ?_ ⟨FN.rfl', by rw [List.range_zero, List.flatMap_nil, List.append_nil, List.take_of_length_le (by omega)]; exact hTR, fun _ _ => rfl⟩ (Nat.zero_le _) (by unfold sa_F; omega)
      · rintro p τ hp ⟨fn, hT, htr⟩ j hj
        have hcx1 := hcx.fn fn
        have hk1 := hcx1.1
        have h21 : τ.2.1 136 2 = L + 1 := by rw [fn.1]; exact h2
        have c0 : τ.1 (L + 1) 0 = nI P := hcx1.2.2.1.2.1.1
        obtain ⟨⟨a1, a2, a3, a4, a5, a6⟩, s1, s2, s3, s4, s5, s6⟩ := LD.of hcx1.1 hcx1.2.1
        have hfs := flat_succ (g := g) (p := p)
        have next : g p = [] → wp (sa_let ((nI p + 1) : Int32) fun x10 => j x10) τ Q := fun e => by
          rw [wp_let, nI_1]
          refine hj _ ⟨fn, ?_, htr⟩
          rw [hfs, e, List.append_nil]
          exact hT
        rw [wp_bnd, wp_rdR (v := L) rfl h21, wp_bnd, wp_rdR s1 a2, wp_bnd, wp_ldI (j := 0) (n := 0) (len := 4) s2 rfl (by omega) (by omega), c0, wp_jn0, wp_if]
        refine ⟨fun q => absurd q (nI_ge hp (by omega)), fun _ => ?_⟩
        rw [wp_if]
        refine ⟨fun q => ?_, fun _ => ?_⟩
        · have q' : 8 ≤ tr.length := (nI_leI (a := 8) (by omega) (by omega)).mp q
          rw [wp_ret]
          have hnil : ∀ c, c < P → g c = [] := fun c hc => by
            rw [hgp, if_neg (fun h => by rw [hTr.full (by omega) hc] at h; exact absurd h.1 (by decide))]
          have ef := flat_trim (g := g) (m := p) (P - p) (fun c _ h => hnil c (by omega))
          rw [show p + (P - p) = P by omega] at ef
          refine hQ τ fn ?_ htr
          rw [ef]
          exact hT
        · rw [wp_bnd, wp_rdI, hT.1]
          refine ⟨rfl, ?_⟩
          have hTl := hT.2.1
          rw [wp_if]
          refine ⟨fun q => ?_, fun q => ?_⟩
          · have q' : 200 ≤ ((rs ++ (List.range p).flatMap g).take 200).length := (nI_leI (a := 200) (by omega) (by omega)).mp q
            rw [List.length_take] at q'
            rw [wp_ret]
            obtain ⟨X, hX⟩ := flat_pre (g := g) (p := p) (P - p)
            rw [show p + (P - p) = P by omega] at hX
            refine hQ τ fn ?_ htr
            rw [hX, ← List.append_assoc, List.take_append_of_le_length (by omega)]
            exact hT
          · have q' : ¬ 200 ≤ ((rs ++ (List.range p).flatMap g).take 200).length := fun h => q ((nI_leI (a := 200) (by omega) (by omega)).mpr h)
            rw [List.length_take] at q'
            have etk : (rs ++ (List.range p).flatMap g).take 200 = rs ++ (List.range p).flatMap g := List.take_of_length_le (by omega)
            have hb : (nI seen >>> (nI p &&& 31)) &&& 1 = nI (seen / 2 ^ p % 2) := bitI (by omega) (by omega)
            rw [wp_jn0, hb, wp_if]
            refine ⟨fun hs => ?_, fun hs => ?_⟩
            · refine next ?_
              rw [hgp, if_neg]
              rintro ⟨h, -⟩
              rw [Nat.testBit_eq_decide_div_mod_eq, decide_eq_false_iff_not] at h
              refine hs ?_
              rw [L0, nI_eq (by omega) (by omega)]
              omega
            · have hsb : seen.testBit p = false := by
                have h := Decidable.not_not.mp hs
                rw [L0, nI_eq (by omega) (by omega)] at h
                rw [Nat.testBit_eq_decide_div_mod_eq, decide_eq_false_iff_not]
                omega
              rw [wp_bnd, wp_rdR (v := L) rfl h21, wp_bnd, wp_of_eq (e_lwy hcx1 hP0 hhP hp), wp_if]
              cases hw : lwy W z here p with
              | none =>
                refine ⟨fun _ => ?_, fun q => absurd (show oI none < 0 by decide) q⟩
                refine next ?_
                rw [hgp, if_neg (fun h => by rw [hw] at h; exact absurd h.2 (by decide))]
              | some k =>
                have hkW := lwy_lt hw
                have W12 := hcx.zr.1.2.1
                refine ⟨fun q => absurd q (show ¬ nI k < 0 from nI_pos (by omega)), fun _ => ?_⟩
                have hso : (lwy W z here p).isSome = true := by rw [hw]; rfl
                have hstep := hTr.step hP hp hsb hso
                have hsl : (tr ++ [p]).length = tr.length + 1 := by simp
                have hsl8 := hstep.len
                have hor : nI seen ||| ((1 : Int32) <<< (nI p &&& 31)) = nI (seen ||| 2 ^ p) := or_2p hseen (by omega)
                rw [wp_bnd, wp_rdR (v := 139) rfl (sk_136_12 hk1), wp_bnd, wp_stI (n := tr.length) (len := 8) al_139 rfl (by omega) (by omega), hor, nI_1, wp_bnd, ← hsl]
                have fn1 : FN τ (sa_upI τ 139 tr.length (nI p)) := ⟨rfl, fun j _ _ _ h => upI_ne h, fun k _ => by rw [upI_ne (by omega)]⟩
                refine ih (tr ++ [p]) p (seen ||| 2 ^ p) (sa_upI τ 139 tr.length (nI p)) (rs ++ (List.range p).flatMap g) _ hstep (by omega) (by rw [← etk]; exact hT.of (by rw [upI_ne (by omega)]) (upI_ne (by omega)) (upI_ne (by omega))) (by omega) (fun q hq => ?_) (fun x hx => ?_) (hcx1.fn fn1) h21 ?_ (fun τ2 fn2 hT2 htr2 => ?_)
                · rw [List.mem_append, List.mem_flatMap] at hq
                  rcases hq with hq | ⟨c, hc, hq⟩
                  · exact hq8 q hq
                  · exact hg8 c (by rw [List.mem_range] at hc; omega) q hq
                · rw [getD_app, upI_self]
                  by_cases e : x < tr.length
                  · rw [if_pos e, va_up_ne _ _ (by omega), htr x e]
                    exact h139 x e
                  · rw [if_neg e, if_pos (by omega), show x = tr.length by omega, va_up_self]
                · rw [upI_ne (by omega), fn.2.2 9 (by omega)]
                  exact h9
                · rw [wp_let, nI_1]
                  refine hj _ ⟨(fn.trans fn1).trans fn2, ?_, fun x hx => ?_⟩
                  · rw [hfs, hgp, if_pos ⟨hsb, hso⟩, ← List.append_assoc]
                    exact hT2
                  · rw [htr2 x (by omega), upI_self, va_up_ne _ _ (by omega)]
                    exact htr x hx
      · rintro τ ⟨fn, hT, htr⟩ j
        have hcx1 := hcx.fn fn
        have h21 : τ.2.1 136 2 = L + 1 := by rw [fn.1]; exact h2
        have c0 : τ.1 (L + 1) 0 = nI P := hcx1.2.2.1.2.1.1
        obtain ⟨⟨a1, a2, a3, a4, a5, a6⟩, s1, s2, s3, s4, s5, s6⟩ := LD.of hcx1.1 hcx1.2.1
        rw [wp_bnd, wp_rdR (v := L) rfl h21, wp_bnd, wp_rdR s1 a2, wp_bnd, wp_ldI (j := 0) (n := 0) (len := 4) s2 rfl (by omega) (by omega), c0, wp_jn0, wp_if]
        refine ⟨fun _ => ?_, fun q => absurd (nI_le (Nat.le_refl _) (by omega)) q⟩
        rw [wp_ret]
        exact hQ τ fn hT htr
    · have hh : here = to := Decidable.not_not.mp hne
      rw [if_pos hh] at hpth
      rw [hpth, List.take_of_length_le (by rw [List.length_append, List.length_singleton]; omega)] at hQ
      have e8 : nI rs.length * 8 = nI (8 * rs.length) := (show nI rs.length * nI 8 = _ by rw [pk_mul, Nat.mul_comm])
      rw [wp_bnd, wp_rdR (v := 139) rfl (sk_136_12 hk), wp_bnd, wp_rdR (v := 137) rfl (sk_136_10 hk), wp_bnd, wp_rdI, hTR.1]
      refine ⟨rfl, ?_⟩
      rw [wp_bnd, wp_cpI (sp := 0) (sn := 0) (dn := 8 * rs.length) (nn := tr.length) al_139 al_137 rfl e8 rfl (by omega) (by omega) (by omega) (by omega)]
      have g3 : (va_up σ.1 137 (va_cpy (σ.1 139) (σ.1 137) 0 (8 * rs.length) tr.length), σ.2).1 136 3 = nI rs.length := by
        show va_up σ.1 137 (va_cpy (σ.1 139) (σ.1 137) 0 (8 * rs.length) tr.length) 136 3 = _
        rw [va_up_ne _ _ (by omega)]
        exact hTR.1
      rw [wp_bnd, wp_rdR (σ := (va_up σ.1 137 (va_cpy (σ.1 139) (σ.1 137) 0 (8 * rs.length) tr.length), σ.2)) (v := 138) rfl (sk_136_11 hk), wp_bnd, wp_rdI, g3]
      refine ⟨rfl, ?_⟩
      rw [wp_bnd, wp_stI (n := rs.length) (len := 200) al_138 rfl (by omega) (by omega), wp_bnd, wp_rdI, upI_ne (by omega), g3]
      refine ⟨rfl, ?_⟩
      rw [nI_1, wp_bnd, wp_wrI]
      refine ⟨rfl, ?_⟩
      rw [wp_ret]
      refine hQ _ ⟨rfl, fun j h6 h7 h8 h9 => ?_, fun k hk3 => ?_⟩ ⟨?_, ?_, fun i q hq => ?_⟩ (fun j hj => ?_)
      · rw [upI_ne h6, upI_ne h8]
        show va_up σ.1 137 (va_cpy (σ.1 139) (σ.1 137) 0 (8 * rs.length) tr.length) j = _
        rw [va_up_ne _ _ h7]
      · rw [upI_self, va_up_ne _ _ hk3, upI_ne (by omega)]
        show va_up σ.1 137 (va_cpy (σ.1 139) (σ.1 137) 0 (8 * rs.length) tr.length) 136 k = _
        rw [va_up_ne _ _ (by omega)]
      · rw [upI_self, va_up_self, List.length_append, List.length_singleton]
      · rw [List.length_append, List.length_singleton]
        omega
      · have r138 : (sa_upI (sa_upI (va_up σ.1 137 (va_cpy (σ.1 139) (σ.1 137) 0 (8 * rs.length) tr.length), σ.2) 138 rs.length (nI tr.length)) 136 3 (nI (rs.length + 1))).1 138 = va_up (σ.1 138) rs.length (nI tr.length) := by
          rw [upI_ne (by omega), upI_self]
          congr 1
        have r137 : (sa_upI (sa_upI (va_up σ.1 137 (va_cpy (σ.1 139) (σ.1 137) 0 (8 * rs.length) tr.length), σ.2) 138 rs.length (nI tr.length)) 136 3 (nI (rs.length + 1))).1 137 = va_cpy (σ.1 139) (σ.1 137) 0 (8 * rs.length) tr.length := by
          rw [upI_ne (by omega), upI_ne (by omega)]
          show va_up σ.1 137 (va_cpy (σ.1 139) (σ.1 137) 0 (8 * rs.length) tr.length) 137 = _
          rw [va_up_self]
        rw [r138, r137]
        by_cases e : i < rs.length
        · rw [List.getElem?_append_left e] at hq
          have hqm := hq8 q (List.mem_of_getElem? hq)
          obtain ⟨b1, b2⟩ := hTR.2.2 i q hq
          refine ⟨by rw [va_up_ne _ _ (by omega)]; exact b1, fun j hj => ?_⟩
          rw [pk_cpy_out (by omega)]
          exact b2 j hj
        · rw [List.getElem?_append_right (by omega)] at hq
          have hil := lt_of_some hq
          rw [List.length_singleton] at hil
          have ei : i = rs.length := by omega
          subst ei
          rw [Nat.sub_self] at hq
          have hqt : q = tr := (Option.some.inj hq).symm
          subst hqt
          refine ⟨va_up_self _ _ _, fun j hj => ?_⟩
          rw [pk_cpy_in (by omega) (by omega), show 0 + (8 * rs.length + j - 8 * rs.length) = j by omega]
          exact h139 j hj
      · rw [upI_ne (by omega), upI_ne (by omega)]
        show va_up σ.1 137 (va_cpy (σ.1 139) (σ.1 137) 0 (8 * rs.length) tr.length) 139 j = _
        rw [va_up_ne _ _ (by omega)]
end CFIND
