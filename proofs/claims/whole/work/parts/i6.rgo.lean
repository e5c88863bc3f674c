/-! TEXTS: clauses and laws, by the reference: all of it -/
section RGO
variable {T : Nat → Nat} {N R o p g w h m t : Nat} {σ : sa_St} {s : Option Int32}
theorem qm_no {c : PRs} {q : Nat} (e : (q, none) = clR T N 63 c) : qmR T N c = (q, none) := by
  obtain ⟨q0, mm⟩ := c
  cases mm with
  | none =>
    cases e
    rfl
  | some x =>
    unfold clR at e
    dsimp only at e
    unfold qmR
    dsimp only
    by_cases h63 : sgn T N q0 = 63
    · rw [if_pos h63] at e; cases e
    · rw [if_neg h63] at e ⊢
      cases e
      rfl
theorem qm_yes {c : PRs} {q : Nat} {x : List Nat × LWt} (e : (q, some x) = clR T N 63 c) : ((smD T N 6 q).2 = none → qmR T N c = ((smD T N 6 q).1, none)) ∧ ∀ ms, (smD T N 6 q).2 = some ms → qmR T N c = ((smD T N 6 q).1, some (some x, ms)) := by
  obtain ⟨q0, mm⟩ := c
  cases mm with
  | none => cases e
  | some y =>
    unfold clR at e
    dsimp only at e
    unfold qmR
    dsimp only
    by_cases h63 : sgn T N q0 = 63
    · rw [if_pos h63] at e ⊢
      cases e
      refine ⟨fun h => ?_, fun ms h => ?_⟩
      · rw [h]
      · rw [h]
    · rw [if_neg h63] at e; cases e
theorem m_quest {c : PRs} {v : Int32} {τ : sa_St} (hN : N ≤ 240) (hc : c.1 ≤ N) (hg : GSt s σ) (he : EV g w h m t σ) (hr : RPo T N R o 0 g w h m t σ c v τ) : wp (sa_bnd (f_X12_takes 159 63) fun v14 =>
if ¬ v14 = 0 then
sa_bnd (f_X12_sum 60 159) fun v15 =>
sa_bnd (sa_rdI 12 159 11) fun v10 =>
sa_jn0 (sa_ret ()) fun j161 =>
if ¬ v10 = (-1) then
j161
else
sa_bnd (sa_rdI 12 159 17) fun v11 =>
if ¬ v11 = 0 then
j161
else
sa_bnd (sa_rdI 12 159 13) fun v12 =>
if ¬ (121 : Int32) = v12 then
j161
else
if ¬ v = 0 then
sa_bnd (sa_wrZ 12 159 17 1) fun _ =>
sa_bnd (sa_wrI 12 159 14 v15) fun _ =>
sa_ret ()
else
j161
else
sa_ret ()) τ (fun _ υ => RCo T N R o g w h m t s σ (qmR T N c) υ) := by
  rw [wp_bnd]
  refine m_takeR (c := 63) (by omega) (by omega) hr (fun υ q fr e11 eq => ?_) (fun υ q x fr hsq eq hv => ?_)
  · rw [qm_no eq, wp_if]
    refine ⟨fun q => absurd rfl q, fun _ => ?_⟩
    rw [wp_ret]
    exact ⟨fr.g, e11⟩
  · rw [wp_if]
    refine ⟨fun _ => ?_, fun q => absurd (show ¬ (1 : Int32) = 0 by decide) q⟩
    rw [wp_bnd]
    have ad := (smD_adv (T := T) (N := N) 6 q hsq.nb.1).1
    have hq := qm_yes eq
    refine wp_mono (m_sums 6 60 0 rfl (by omega) _ _ hsq (he.fr fr)) (fun v2 τ2 hr2 => ?_)
    refine m_settle (r0 := smD T N 6 q) (by omega) hg (hr2.fr fr) hq.1 (fun ms e => ⟨some x, hq.2 ms e, (fun e => by cases e), (fun mc e => by cases e; exact hv)⟩)
theorem m_clause (hs : RSt T N R o 0 p σ) (hg : GSt s σ) (he : EV g w h m t σ) : wp (f_X12_clause 159) σ (fun _ υ => RCo T N R o g w h m t s σ (clP T N p) υ) := by
  obtain ⟨hlk, hs1, x10⟩ := hs.look
  have hpN := hs.nb.1
  have h240 := hs.1.2.1
  have fr1 : RFr σ (sa_upI σ 159 10 (nI p)) := RFr.up (by omega)
  generalize sa_upI σ 159 10 (nI p) = σ1 at *
  have hy : ixS 5 121 = some 0 := by decide
  have hy2 : ∀ c i, c < 256 → ixS 5 c = some i → c = 121 := fun c i hc hi => by
    have h5 : i < 1 := (ix_in hi (by omega)).2
    have h2 : decide ((sa_byt.getD 5 []).getD i 0 = nI c) = true := List.find?_some (p := fun i => decide ((sa_byt.getD 5 []).getD i 0 = nI c)) hi
    have h3 := of_decide_eq_true h2
    have i0 : i = 0 := by omega
    subst i0
    exact ((nI_eq (a := 121) (b := c) (by omega) (by omega)).mp h3).symm
  have hlt : sgn T N p < 256 := by
    unfold sgn
    split
    · exact (hs.1.2.2.1 p (by assumption)).2
    · omega
  unfold f_X12_clause clP
  rw [wp_gd]
  refine ⟨rfl, ?_⟩
  rw [wp_bnd, wp_of_eq hlk, wp_bnd, wp_of_eq (am_ix hs1.1 (j := 5) (by omega)), wp_if]
  by_cases h121 : sgn T N p = 121
  · have hin := sgn_in (c := 121) (by omega) h121
    have hlv : lkv T N p = 121 := (lkv_eq (c := 121) hs.1 (by omega) (by omega)).mpr h121
    rw [h121, hy, hlv, if_pos (show (121 : Nat) = 121 from rfl)]
    refine ⟨fun _ => ?_, fun q => absurd (show ¬ nI 1 = 0 by decide) q⟩
    rw [wp_bnd, wp_rdI, x10]
    refine ⟨rfl, ?_⟩
    rw [wp_bnd, wp_wrI, nI_1]
    refine ⟨rfl, ?_⟩
    have hs2 := hs1.at (q := p + 1) (by omega)
    have fr2 : RFr σ (sa_upI σ1 159 10 (nI (p + 1))) := fr1.trans (RFr.up (by omega))
    generalize sa_upI σ1 159 10 (nI (p + 1)) = σ2 at *
    have hle := bk_le (T := T) (N := N) (p := p + 1) (by omega)
    generalize bk T N (p + 1) = p1 at *
    rw [wp_bnd]
    refine m_takeR (c := 58) (σ := σ) (r0 := (p1, some ([], fun _ _ _ _ _ => 0))) (v := 0) (g := g) (w := w) (h := h) (m := m) (t := t) (by omega) (by dsimp only; omega) ⟨fr2, rfl, hs2⟩ (fun υ q fr e11 eq => ?_) (fun υ q x fr hsq eq _ => ?_)
    · unfold clR at eq
      dsimp only at eq
      by_cases h58 : sgn T N p1 = 58
      · rw [if_pos h58] at eq; cases eq
      · rw [if_neg h58] at eq ⊢
        cases eq
        rw [wp_if]
        refine ⟨fun q => absurd rfl q, fun _ => ?_⟩
        rw [wp_ret]
        exact ⟨fr.g, e11⟩
    · unfold clR at eq
      dsimp only at eq
      by_cases h58 : sgn T N p1 = 58
      · rw [if_pos h58] at eq ⊢
        have eq1 : q = bk T N (p1 + 1) := congrArg Prod.fst eq
        rw [← eq1, wp_if]
        refine ⟨fun _ => ?_, fun q => absurd (show ¬ (1 : Int32) = 0 by decide) q⟩
        clear eq eq1
        obtain ⟨hlk3, hs3, x103⟩ := hsq.look
        have hqN := hsq.nb.1
        have fr3 : RFr σ (sa_upI υ 159 10 (nI q)) := fr.trans (RFr.up (by omega))
        generalize sa_upI υ 159 10 (nI q) = σ3 at *
        have he3 := he.fr fr3
        have hcs := m_conds (T := T) (N := N) (R := R) (o := o) (g := g) (w := w) (h := h) (m := m) (t := t)
        have e33 : (lkv T N q = 33) ↔ sgn T N q = 33 := lkv_eq (c := 33) hs3.1 (by omega) (by omega)
        have e40 : (lkv T N q = 40) ↔ sgn T N q = 40 := lkv_eq (c := 40) hs3.1 (by omega) (by omega)
        rw [wp_let, wp_let, wp_bnd, wp_of_eq hlk3, wp_jn2, wp_jn0, wp_if, e33]
        have deep : sgn T N q = 33 ∨ sgn T N q = 40 → clQ T N q = qmR T N (coP T N (unD T N 6) q) := fun hc => by unfold clQ; rw [if_pos hc]
        have ad := (co_adv (T := T) (un_adv (T := T) (N := N) 6) q hqN).1
        refine ⟨fun h33 => ?_, fun n33 => ?_⟩
        · rw [deep (Or.inl h33), wp_bnd]
          exact wp_mono (hcs.1 q σ3 hs3 he3) (fun v τ hr => m_quest h240 ad hg he (hr.1.fr fr3))
        · rw [wp_if, e40]
          refine ⟨fun n40 => ?_, fun y40 => ?_⟩
          · have hcq : clQ T N q = match (smD T N 6 q).2 with
                | none => ((smD T N 6 q).1, none)
                | some m => match ixS 3 (sgn T N (smD T N 6 q).1) with
                  | none => ((smD T N 6 q).1, some (none, m))
                  | some _ => qmR T N (coF T N (unD T N 6) (trF T N (unD T N 6) (cmpR T N 6 (smD T N 6 q)))) := by
              unfold clQ
              rw [if_neg (show ¬ (sgn T N q = 33 ∨ sgn T N q = 40) by omega)]
              rfl
            have ra : RAdv N q (smD T N 6 q) := smD_adv 6 q hqN
            rw [hcq, wp_bnd]
            refine wp_mono (m_sums 6 60 0 rfl (by omega) _ _ hs3 he3) (fun v τ hr => ?_)
            have hr2 := hr.fr fr3
            have hr3 := hr2
            obtain ⟨fr4, hr⟩ := hr3
            generalize smD T N 6 q = r0 at *
            obtain ⟨q1, mm⟩ := r0
            rw [wp_bnd, wp_rdI]
            refine ⟨rfl, ?_⟩
            rw [wp_if]
            cases mm with
            | none =>
              have hr' : τ.1 159 11 = nI q1 := hr
              have h11 : ¬ τ.1 159 11 = -1 := fun e => by
                rw [hr'] at e
                have e' : nI q1 = mI := e
                rw [eq_mI (by have := ra.1; dsimp only at this; omega)] at e'
                exact e'
              refine ⟨fun _ => ?_, fun q => absurd h11 q⟩
              exact m_settle (r0 := (q1, none)) (by have := ra.1; omega) hg hr2 (fun _ => rfl) (fun ms e => by cases e)
            | some x1 =>
              obtain ⟨rfl, hs4⟩ := hr
              dsimp only at hs4
              refine ⟨fun q => absurd hs4.2.2.1 q, fun _ => ?_⟩
              obtain ⟨hlk5, hs5, x105⟩ := hs4.look
              have fr5 : RFr σ (sa_upI τ 159 10 (nI q1)) := fr4.trans (RFr.up (by omega))
              generalize sa_upI τ 159 10 (nI q1) = σ5 at *
              rw [wp_bnd, wp_of_eq hlk5, wp_bnd, wp_of_eq (m_isSign hs5.1), wp_if]
              dsimp only
              cases hi : ixS 3 (sgn T N q1) with
              | none =>
                refine ⟨fun _ => ?_, fun q => absurd rfl q⟩
                exact m_settle (r0 := (q1, some x1)) (by have := ra.1; omega) hg ⟨fr5, rfl, hs5⟩ (fun e => by cases e) (fun ms e => by cases e; exact ⟨none, rfl, fun _ => rfl, fun mc e => by cases e⟩)
              | some i =>
                refine ⟨fun q => absurd q (show ¬ nI 1 = 0 by decide), fun _ => ?_⟩
                rw [wp_bnd]
                refine wp_mono (hcs.2 q q1 x1 σ5 ra hqN hs5 (he.fr fr5)) (fun v τ2 hr => ?_)
                exact m_quest h240 (chF_adv (op1_0 (by omega)) (tr_adv (un_adv 6)) hqN (chF_adv (op1_0 (by omega)) (un_adv 6) hqN (cmp_adv ra))).1 hg he (hr.1.fr fr5)
          · have h40 := Decidable.not_not.mp y40
            rw [deep (Or.inr h40), wp_bnd]
            exact wp_mono (hcs.1 q σ3 hs3 he3) (fun v τ hr => m_quest h240 ad hg he (hr.1.fr fr3))
      · rw [if_neg h58] at eq; cases eq
  · have hn : ixS 5 (sgn T N p) = none := by
      cases hi : ixS 5 (sgn T N p) with
      | none => rfl
      | some i => exact absurd (hy2 _ i hlt hi) h121
    rw [hn, if_neg h121]
    refine ⟨fun q => absurd rfl q, fun _ => ?_⟩
    rw [wp_bnd, wp_of_eq (hs1.fail x10), wp_ret]
    exact ⟨(fr1.trans (RFr.up (by omega))).g, by dsimp only; rw [upI_self, va_up_self]⟩
end RGO
