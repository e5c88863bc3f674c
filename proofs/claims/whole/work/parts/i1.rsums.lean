/-! TEXTS: sums, by the reference: atoms, chains -/
section RSMS
variable {T : Nat → Nat} {N R o d p g w h m t : Nat} {σ : sa_St}
theorem RSt.out {d2 : Nat} (hs : RSt T N R o d2 p σ) : RSt T N R o d p (sa_upI σ 159 12 (nI d)) := by
  obtain ⟨a, ⟨p', b1, b2, b3⟩, c, e⟩ := hs
  exact ⟨a.up (by omega), ⟨p', b1, b2, by rw [upI_self, va_up_ne _ _ (by omega)]; exact b3⟩, by rw [upI_self, va_up_ne _ _ (by omega)]; exact c, by rw [upI_self, va_up_self]⟩
theorem atm_br {SP : Nat → PRs} (h91 : sgn T N p = 91) : atm T N (some SP) p = clR T N 93 (SP (bk T N (p + 1))) := by
  unfold atm clR
  rw [if_pos h91]
  rfl
theorem m_atom {gA gS gT : Nat → sa_M Int32} {S : Option (Nat → PRs)} (hd : d ≤ 6) (hn : S = none → d = 6) (hS : ∀ SP, S = some SP → d < 6 ∧ PAdv N SP ∧ ∀ (q : Nat) (σ : sa_St), RSt T N R o (d + 1) q σ → EV g w h m t σ → wp (gS 159) σ (RPo T N R o (d + 1) g w h m t σ (SP q))) (hs : RSt T N R o d p σ) (he : EV g w h m t σ) : wp (fb_X12_atom gA gS gT 159) σ (RPo T N R o d g w h m t σ (atm T N S p)) := by
  obtain ⟨hlk, hs1, x10⟩ := hs.look
  have hpN := hs.nb.1
  have h240 := hs.1.2.1
  have fr1 : RFr σ (sa_upI σ 159 10 (nI p)) := RFr.up (by omega)
  have he1 := he.fr fr1
  generalize sa_upI σ 159 10 (nI p) = σ1 at *
  have e91 := lkv_eq (p := p) hs.1 (c := 91) (by omega) (by omega)
  have e91' : (lkv T N p = 91) ↔ sgn T N p = 91 := e91
  unfold fb_X12_atom
  rw [wp_gd]
  refine ⟨rfl, ?_⟩
  rw [wp_bnd, wp_of_eq hlk, wp_bnd, wp_of_eq (am_ix hs1.1 (j := 0) (by omega)), wp_if]
  cases hi : ixS 0 (sgn T N p) with
  | none =>
    refine ⟨fun _ => ?_, fun q => absurd rfl q⟩
    rw [wp_if, e91']
    refine ⟨fun hne => ?_, fun heq => ?_⟩
    · have ha : atm T N S p = match (numR T N p 4 0 1000000).2 with
          | none => ((numR T N p 4 0 1000000).1, none)
          | some n => ((numR T N p 4 0 1000000).1, some ([16 * n], fun _ _ _ _ _ => nI n)) := by
        unfold atm
        rw [if_neg hne, hi]
        rfl
      rw [ha]
      exact wp_mono (m_num hs1 x10) (fun r τ hr => hr.fr fr1)
    · have h91 := Decidable.not_not.mp heq
      have hin := sgn_in (c := 91) (by omega) h91
      have hgi := m_goesIn hs1 x10 hd
      cases S with
      | none =>
        have hd6 := hn rfl
        rw [if_neg (by omega)] at hgi
        have ha : atm T N none p = (p, none) := by unfold atm; rw [if_pos h91]
        rw [ha, wp_bnd, wp_of_eq hgi, wp_if]
        refine ⟨fun q => absurd rfl q, fun _ => ?_⟩
        rw [wp_ret]
        exact ⟨fr1.trans (RFr.up (by omega)), by dsimp only; rw [upI_self, va_up_self]⟩
      | some SP =>
        obtain ⟨d6, adv, hSP⟩ := hS SP rfl
        rw [if_pos d6] at hgi
        have hle := bk_le (T := T) (N := N) (p := p + 1) (by omega)
        have a1 := (adv _ hle).1
        have fr2 : RFr σ1 (sa_upI (sa_upI σ1 159 12 (nI (d + 1))) 159 10 (nI (p + 1))) := (RFr.up (by omega)).trans (RFr.up (by omega))
        have hs2 := hs1.deep (q := p + 1) (by omega) (d2 := d + 1)
        rw [atm_br h91, wp_bnd, wp_of_eq hgi, wp_if]
        refine ⟨fun _ => ?_, fun q => absurd (show ¬ (1 : Int32) = 0 by decide) q⟩
        rw [wp_bnd]
        refine wp_mono (hSP _ _ hs2 (he1.fr fr2)) (fun v τ hr => ?_)
        have hr2 := (hr.fr fr2).fr fr1
        rw [wp_bnd]
        refine m_close (c := 93) (by omega) (by omega) hr2 (fun υ q fr e11 eq => ?_) (fun υ q x fr hsq eq hv => ?_)
        · rw [← eq, wp_if]
          refine ⟨fun q => absurd rfl q, fun _ => ?_⟩
          rw [wp_ret]
          exact ⟨fr, e11⟩
        · rw [← eq, wp_if]
          refine ⟨fun _ => ?_, fun q => absurd (show ¬ (1 : Int32) = 0 by decide) q⟩
          rw [wp_bnd, wp_rdI, hsq.2.2.2]
          refine ⟨rfl, ?_⟩
          have ed : nI (d + 1) - 1 = nI d := nI_pred d
          rw [wp_bnd, wp_wrI, ed]
          refine ⟨rfl, ?_⟩
          rw [wp_ret]
          exact ⟨fr.trans (RFr.up (by omega)), hv, hsq.out⟩
  | some i =>
    refine ⟨fun q => absurd q (show ¬ nI 1 = 0 by decide), fun _ => ?_⟩
    have hix := ix_in hi (by omega)
    have hin := sgn_in (c := sgn T N p) hix.1 rfl
    have hT := (hs.1.2.2.1 p hin.1).2
    have ha : atm T N S p = (bk T N (p + 1), some ([16 * i + 1], envV i)) := by
      have h91 : ¬ sgn T N p = 91 := fun e => by
        rw [e, show ixS 0 91 = none by decide] at hi
        cases hi
      unfold atm
      rw [if_neg h91, hi]
    have hlv : lkv T N p = nI (sgn T N p) := by
      unfold lkv sgn
      rw [if_pos hin.1, if_pos hin.1]
    have fr2 : RFr σ1 (sa_upI σ1 159 10 (nI (p + 1))) := RFr.up (by omega)
    have he2 := he1.fr fr2
    have hs2 := hs1.at (q := p + 1) (by omega)
    rw [ha, wp_bnd, wp_rdI, x10]
    refine ⟨rfl, ?_⟩
    rw [wp_bnd, wp_wrI, nI_1]
    refine ⟨rfl, ?_⟩
    have key : sgn T N p < 128 ∧ (sa_upI σ1 159 10 (nI (p + 1))).1 163 (sgn T N p) = envV i g w h m t := by
      obtain ⟨v1, v2, v3, v4, v5⟩ := he2
      rcases ix0 (by omega) hi with ⟨rfl, e⟩ | ⟨rfl, e⟩ | ⟨rfl, e⟩ | ⟨rfl, e⟩ | ⟨rfl, e⟩ <;> rw [e]
      · exact ⟨by omega, v1⟩
      · exact ⟨by omega, v2⟩
      · exact ⟨by omega, v3⟩
      · exact ⟨by omega, v4⟩
      · exact ⟨by omega, v5⟩
    rw [wp_bnd, wp_rdR (v := 163) rfl (sk_159_4 hs2.1.1), hlv, wp_bnd, wp_ldI (n := sgn T N p) (len := 128) al_163 rfl key.1 (by omega), key.2, wp_ret]
    exact ⟨fr1.trans fr2, rfl, hs2⟩
theorem m_chain {A : sa_M Int32} {cb : Int32 → Int32 → Int64 → (Int64 → sa_M Int32) → sa_M Int32} {AP : Nat → PRs} {c1 o1 c2 o2 : Nat} {g1 g2 : Int32 → Int32 → Int32} {σ0 : sa_St} {r0 : PRs} {v0 : Int32} (b1 : 0 < c1 ∧ c1 < 256 ∧ 0 < c2 ∧ c2 < 256 ∧ c1 ≠ c2) (hA : ∀ (q : Nat) (σ : sa_St), RSt T N R o d q σ → EV g w h m t σ → wp A σ (RPo T N R o d g w h m t σ (AP q))) (hadv : PAdv N AP) (hN : N ≤ 240) (hcb0 : ∀ (x v : Int32) (K : Int64 → sa_M Int32) (σ : sa_St) (Q : Int32 → sa_St → Prop), (∀ y, clp y = g2 x v → wp (K y) σ Q) → wp (cb 0 x v.toInt64 K) σ Q) (hcb1 : ∀ (x v : Int32) (K : Int64 → sa_M Int32) (σ : sa_St) (Q : Int32 → sa_St → Prop), (∀ y, clp y = g1 x v → wp (K y) σ Q) → wp (cb 1 x v.toInt64 K) σ Q) (hr0 : r0.1 ≤ N) (h0 : RPo T N R o d g w h m t σ0 r0 v0 σ) (he : EV g w h m t σ0) :
    wp (sa_wh1 (fun j5 (x2 : Int32) =>
sa_bnd (sa_rdI 12 159 11) fun v3 =>
sa_jn0 (sa_ret (x2 : Int32)) fun j84 =>
if ¬ v3 = (-1) then
j84
else
sa_bnd (f_X12_look 159) fun v4 =>
sa_jn0 (sa_bnd (f_X12_look 159) fun v5 =>
sa_jn1 (fun (y6 : Int32) =>
sa_bnd (sa_rdI 12 159 10) fun v7 =>
sa_bnd (sa_wrI 12 159 10 (v7 + 1)) fun _ =>
sa_bnd A fun v8 =>
sa_let ((v8.toInt64) : Int64) fun x9 =>
sa_jn1 (fun (y10 : Int64) =>
sa_bnd (f_X12_within y10) fun v11 =>
j5 v11) fun j77 =>
cb y6 x2 x9 j77) fun j45 =>
if ¬ v5 = nI c1 then
j45 0
else
j45 1) fun j31 =>
if v4 = nI c1 then
j31
else
sa_bnd (f_X12_look 159) fun v12 =>
if ¬ v12 = nI c2 then
j84
else
j31) sa_F v0) σ (RPo T N R o d g w h m t σ0 (chn T N (op2 c1 o1 g1 c2 o2 g2) AP (N + 1) r0)) := by
  refine wp_wh1 (fun f x τ => RFr σ0 τ ∧ ((f = 0 ∧ ∃ q, q ≤ N ∧ τ.1 159 11 = nI q ∧ chn T N (op2 c1 o1 g1 c2 o2 g2) AP (N + 1) r0 = (q, none)) ∨ ∃ (q : Nat) (y : List Nat × LWt), N - q < f ∧ RSt T N R o d q τ ∧ x = y.2 g w h m t ∧ chn T N (op2 c1 o1 g1 c2 o2 g2) AP f (q, some y) = chn T N (op2 c1 o1 g1 c2 o2 g2) AP (N + 1) r0)) ?_ sa_F (if r0.2.isSome then N + 1 else 0) v0 σ (by unfold sa_F; split <;> omega) ?_
  · rintro f x τ ⟨fr, hP⟩ j hj
    rcases hP with ⟨-, q, hq, e11, hc⟩ | ⟨q, y, hf, hs, rfl, hc⟩
    · have h11 : ¬ τ.1 159 11 = -1 := fun e => by
        rw [e11] at e
        have e' : nI q = mI := e
        rw [eq_mI (by omega)] at e'
        exact e'
      rw [wp_bnd, wp_rdI]
      refine ⟨rfl, ?_⟩
      rw [wp_jn0, wp_if]
      refine ⟨fun _ => ?_, fun q => absurd h11 q⟩
      rw [wp_ret, hc]
      exact ⟨fr, e11⟩
    · obtain ⟨f, rfl⟩ : ∃ f', f = f' + 1 := ⟨f - 1, by omega⟩
      obtain ⟨hlk, hs1, x10⟩ := hs.look
      have hqN := hs.nb.1
      have hbq := hs.nb.2
      have e1 := lkv_eq (p := q) hs.1 (c := c1) b1.1 b1.2.1
      have e2 := lkv_eq (p := q) hs.1 (c := c2) b1.2.2.1 b1.2.2.2.1
      have fr1 : RFr τ (sa_upI τ 159 10 (nI q)) := RFr.up (by omega)
      have hlk2 := hs1.look.1
      rw [upI_two] at hlk2
      have hch : chn T N (op2 c1 o1 g1 c2 o2 g2) AP (f + 1) (q, some y) = match op2 c1 o1 g1 c2 o2 g2 (sgn T N q) with
          | none => (q, some y)
          | some o => match (AP (bk T N (q + 1))).2 with
            | none => AP (bk T N (q + 1))
            | some m2 => chn T N (op2 c1 o1 g1 c2 o2 g2) AP f ((AP (bk T N (q + 1))).1, some (y.1 ++ m2.1 ++ [o.1], fun a b c d e => o.2 (y.2 a b c d e) (m2.2 a b c d e))) := rfl
      rw [hc] at hch
      have go : ∀ (b : Int32) (oo : Nat) (gg : Int32 → Int32 → Int32), sgn T N q ≠ 0 → op2 c1 o1 g1 c2 o2 g2 (sgn T N q) = some (oo, gg) → (∀ (x v : Int32) (K : Int64 → sa_M Int32) (σ : sa_St) (Q : Int32 → sa_St → Prop), (∀ y, clp y = gg x v → wp (K y) σ Q) → wp (cb b x v.toInt64 K) σ Q) → wp (sa_bnd (sa_rdI 12 159 10) fun v7 =>
sa_bnd (sa_wrI 12 159 10 (v7 + 1)) fun _ =>
sa_bnd A fun v8 =>
sa_let ((v8.toInt64) : Int64) fun x9 =>
sa_jn1 (fun (y10 : Int64) =>
sa_bnd (f_X12_within y10) fun v11 =>
j v11) fun j77 =>
cb b (y.2 g w h m t) x9 j77) (sa_upI τ 159 10 (nI q)) (RPo T N R o d g w h m t σ0 (chn T N (op2 c1 o1 g1 c2 o2 g2) AP (N + 1) r0)) := by
        intro b oo gg hne hop hcb
        have hq2 : q < N := by
          by_cases hh : q < N
          · exact hh
          · unfold sgn at hne
            rw [if_neg hh] at hne
            exact absurd rfl hne
        have hge := bk_ge (T := T) (N := N) (p := q + 1)
        have hle := bk_le (T := T) (N := N) (p := q + 1) (by omega)
        obtain ⟨a1, a2, a3⟩ := hadv _ hle
        rw [hop] at hch
        dsimp only at hch
        rw [wp_bnd, wp_rdI, x10]
        refine ⟨rfl, ?_⟩
        rw [wp_bnd, wp_wrI, nI_1, upI_two]
        refine ⟨rfl, ?_⟩
        have fr2 : RFr σ0 (sa_upI τ 159 10 (nI (q + 1))) := fr.trans (RFr.up (by omega))
        have hs2 := hs.at (q := q + 1) (by omega)
        rw [wp_bnd]
        refine wp_mono (hA _ _ hs2 (he.fr fr2)) (fun v τ2 hr => ?_)
        obtain ⟨fr3, hr⟩ := hr
        have fr4 := fr2.trans fr3
        rw [wp_let, wp_jn1]
        refine hcb _ _ _ _ _ (fun z hz => ?_)
        show wp (sa_bnd (f_X12_within z) fun v11 => j v11) τ2 _
        rw [wp_bnd, wp_of_eq (show f_X12_within z τ2 = some (clp z, τ2) from rfl), hz]
        generalize AP (bk T N (q + 1)) = r1 at *
        obtain ⟨q1, m1⟩ := r1
        cases m1 with
        | none => exact hj 0 _ _ (by omega) ⟨fr4, Or.inl ⟨rfl, q1, a1, hr, hch⟩⟩
        | some m1 =>
          obtain ⟨rfl, hs3⟩ := hr
          have a3' := (a3 m1 rfl).1
          dsimp only at a1 a2 a3' hch
          exact hj f _ _ (by omega) ⟨fr4, Or.inr ⟨q1, (y.1 ++ m1.1 ++ [oo], fun a b c d e => gg (y.2 a b c d e) (m1.2 a b c d e)), by omega, hs3, rfl, hch.symm⟩⟩
      have j31 : sgn T N q = c1 ∨ sgn T N q = c2 → wp (sa_bnd (f_X12_look 159) fun v5 =>
sa_jn1 (fun (y6 : Int32) =>
sa_bnd (sa_rdI 12 159 10) fun v7 =>
sa_bnd (sa_wrI 12 159 10 (v7 + 1)) fun _ =>
sa_bnd A fun v8 =>
sa_let ((v8.toInt64) : Int64) fun x9 =>
sa_jn1 (fun (y10 : Int64) =>
sa_bnd (f_X12_within y10) fun v11 =>
j v11) fun j77 =>
cb y6 (y.2 g w h m t) x9 j77) fun j45 =>
if ¬ v5 = nI c1 then
j45 0
else
j45 1) (sa_upI τ 159 10 (nI q)) (RPo T N R o d g w h m t σ0 (chn T N (op2 c1 o1 g1 c2 o2 g2) AP (N + 1) r0)) := fun hor => by
        rw [wp_bnd, wp_of_eq hlk2, wp_jn1, wp_if, e1]
        refine ⟨fun n1 => ?_, fun n1 => ?_⟩
        · have n2 : sgn T N q = c2 := by
            rcases hor with hh | hh
            · exact absurd hh n1
            · exact hh
          exact go 0 o2 g2 (by omega) (by unfold op2; rw [if_neg n1, if_pos n2]) hcb0
        · have n1' := Decidable.not_not.mp n1
          exact go 1 o1 g1 (by omega) (by unfold op2; rw [if_pos n1']) hcb1
      rw [wp_bnd, wp_rdI, hs.2.2.1]
      refine ⟨rfl, ?_⟩
      rw [wp_jn0, wp_if]
      refine ⟨fun q => absurd rfl q, fun _ => ?_⟩
      rw [wp_bnd, wp_of_eq hlk, wp_jn0, wp_if, e1]
      refine ⟨fun n1 => j31 (Or.inl n1), fun n1 => ?_⟩
      rw [wp_bnd, wp_of_eq hlk2, wp_if, e2]
      refine ⟨fun n2 => ?_, fun n2 => j31 (Or.inr (Decidable.not_not.mp n2))⟩
      have hop : op2 c1 o1 g1 c2 o2 g2 (sgn T N q) = none := by unfold op2; rw [if_neg n1, if_neg n2]
      rw [hop] at hch
      dsimp only at hch
      rw [wp_ret, hch]
      exact ⟨fr.trans fr1, rfl, hs1⟩
  · obtain ⟨fr, hr⟩ := h0
    obtain ⟨q, mm⟩ := r0
    cases mm with
    | none => exact ⟨fr, Or.inl ⟨rfl, q, hr0, hr, chn_none rfl _⟩⟩
    | some y =>
      obtain ⟨rfl, hs⟩ := hr
      exact ⟨fr, Or.inr ⟨q, y, by show N - q < N + 1; omega, hs, rfl, rfl⟩⟩
end RSMS
