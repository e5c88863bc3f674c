/-! TEXTS: conditions, by the reference -/
section RUN3
variable {T : Nat → Nat} {N R o d k p g w h m t : Nat} {σ : sa_St}
theorem RPb.fr {τ υ : sa_St} {res : PRs} {r : Int32} (hp : RPb T N R o d g w h m t τ res r υ) (hf : RFr σ τ) : RPb T N R o d g w h m t σ res r υ := ⟨hp.1.fr hf, hp.2⟩
theorem m_chain1 {A : sa_M Int32} {cb : Int32 → Int32 → (Int32 → sa_M Int32) → sa_M Int32} {AP : Nat → PRs} {c1 o1 : Nat} {g1 : Int32 → Int32 → Int32} {σ0 : sa_St} {r0 : PRs} {v0 : Int32} (b1 : 0 < c1 ∧ c1 < 256) (hg : ∀ x v, g1 x v = 0 ∨ g1 x v = 1) (hA : ∀ (q : Nat) (σ : sa_St), RSt T N R o d q σ → EV g w h m t σ → wp A σ (RPb T N R o d g w h m t σ (AP q))) (hadv : PAdv N AP) (hN : N ≤ 240) (hcb : ∀ (x v : Int32) (K : Int32 → sa_M Int32) (σ : sa_St) (Q : Int32 → sa_St → Prop), wp (K (g1 x v)) σ Q → wp (cb x v K) σ Q) (hr0 : r0.1 ≤ N) (h0 : RPb T N R o d g w h m t σ0 r0 v0 σ) (he : EV g w h m t σ0) :
    wp (sa_wh1 (fun j7 (x2 : Int32) =>
sa_bnd (sa_rdI 12 159 11) fun v3 =>
sa_jn0 (sa_retZ x2) fun j60 =>
if ¬ v3 = (-1) then
j60
else
sa_bnd (f_X12_look 159) fun v4 =>
if ¬ v4 = nI c1 then
j60
else
sa_bnd (sa_rdI 12 159 10) fun v5 =>
sa_bnd (sa_wrI 12 159 10 (v5 + 1)) fun _ =>
sa_bnd A fun v6 =>
sa_jn1 (fun (y7 : Int32) =>
j7 y7) fun j56 =>
cb x2 v6 j56) sa_F v0) σ (RPb T N R o d g w h m t σ0 (chn T N (op1 c1 o1 g1) AP (N + 1) r0)) := by
  refine wp_wh1 (fun f x τ => RFr σ0 τ ∧ (x = 0 ∨ x = 1) ∧ ((f = 0 ∧ ∃ q, q ≤ N ∧ τ.1 159 11 = nI q ∧ chn T N (op1 c1 o1 g1) AP (N + 1) r0 = (q, none)) ∨ ∃ (q : Nat) (y : List Nat × LWt), N - q < f ∧ RSt T N R o d q τ ∧ x = y.2 g w h m t ∧ chn T N (op1 c1 o1 g1) AP f (q, some y) = chn T N (op1 c1 o1 g1) AP (N + 1) r0)) ?_ sa_F (if r0.2.isSome then N + 1 else 0) v0 σ (by unfold sa_F; split <;> omega) ?_
  · rintro f x τ ⟨fr, x01, hP⟩ j hj
    rcases hP with ⟨-, q, hq, e11, hc⟩ | ⟨q, y, hf, hs, rfl, hc⟩
    · have h11 : ¬ τ.1 159 11 = -1 := fun e => by
        rw [e11] at e
        have e' : nI q = mI := e
        rw [eq_mI (by omega)] at e'
        exact e'
      rw [wp_bnd, wp_rdI]
      refine ⟨rfl, ?_⟩
      rw [wp_jn0, wp_if]
      refine ⟨fun _ => ?_, fun q => absurd h11 q⟩
      rw [wp_retZ, hc]
      exact ⟨x01, ⟨fr, e11⟩, x01⟩
    · obtain ⟨f, rfl⟩ : ∃ f', f = f' + 1 := ⟨f - 1, by omega⟩
      obtain ⟨hlk, hs1, x10⟩ := hs.look
      have hqN := hs.nb.1
      have e1 := lkv_eq (p := q) hs.1 (c := c1) b1.1 b1.2
      have fr1 : RFr τ (sa_upI τ 159 10 (nI q)) := RFr.up (by omega)
      have hch : chn T N (op1 c1 o1 g1) AP (f + 1) (q, some y) = match op1 c1 o1 g1 (sgn T N q) with
          | none => (q, some y)
          | some o => match (AP (bk T N (q + 1))).2 with
            | none => AP (bk T N (q + 1))
            | some m2 => chn T N (op1 c1 o1 g1) AP f ((AP (bk T N (q + 1))).1, some (y.1 ++ m2.1 ++ [o.1], fun a b c d e => o.2 (y.2 a b c d e) (m2.2 a b c d e))) := rfl
      rw [hc] at hch
      rw [wp_bnd, wp_rdI, hs.2.2.1]
      refine ⟨rfl, ?_⟩
      rw [wp_jn0, wp_if]
      refine ⟨fun q => absurd rfl q, fun _ => ?_⟩
      rw [wp_bnd, wp_of_eq hlk, wp_if, e1]
      refine ⟨fun n1 => ?_, fun n1 => ?_⟩
      · have hop : op1 c1 o1 g1 (sgn T N q) = none := by unfold op1; rw [if_neg n1]
        rw [hop] at hch
        dsimp only at hch
        rw [wp_retZ, hch]
        exact ⟨x01, ⟨fr.trans fr1, rfl, hs1⟩, x01⟩
      · have n1' := Decidable.not_not.mp n1
        have hop : op1 c1 o1 g1 (sgn T N q) = some (o1, g1) := by unfold op1; rw [if_pos n1']
        have hin := sgn_in b1.1 n1'
        have hge := bk_ge (T := T) (N := N) (p := q + 1)
        have hle := bk_le (T := T) (N := N) (p := q + 1) (by omega)
        obtain ⟨a1, a2, a3⟩ := hadv _ hle
        rw [hop] at hch
        dsimp only at hch
        rw [wp_bnd, wp_rdI, x10]
        refine ⟨rfl, ?_⟩
        rw [wp_bnd, wp_wrI, nI_1, upI_two]
        refine ⟨rfl, ?_⟩
        have fr2 : RFr σ0 (sa_upI τ 159 10 (nI (q + 1))) := fr.trans (RFr.up (by omega))
        have hs2 := hs.at (q := q + 1) (by omega)
        rw [wp_bnd]
        refine wp_mono (hA _ _ hs2 (he.fr fr2)) (fun v τ2 hr => ?_)
        obtain ⟨⟨fr3, hr⟩, v01⟩ := hr
        have fr4 := fr2.trans fr3
        rw [wp_jn1]
        refine hcb _ _ _ _ _ ?_
        show wp (j (g1 (y.2 g w h m t) v)) τ2 _
        generalize AP (bk T N (q + 1)) = r1 at *
        obtain ⟨q1, m1⟩ := r1
        cases m1 with
        | none => exact hj 0 _ _ (by omega) ⟨fr4, hg _ _, Or.inl ⟨rfl, q1, a1, hr, hch⟩⟩
        | some m1 =>
          obtain ⟨rfl, hs3⟩ := hr
          have a3' := (a3 m1 rfl).1
          dsimp only at a1 a2 a3' hch
          exact hj f _ _ (by omega) ⟨fr4, hg _ _, Or.inr ⟨q1, (y.1 ++ m1.1 ++ [o1], fun a b c d e => g1 (y.2 a b c d e) (m1.2 a b c d e)), by omega, hs3, rfl, hch.symm⟩⟩
  · obtain ⟨⟨fr, hr⟩, v01⟩ := h0
    obtain ⟨q, mm⟩ := r0
    cases mm with
    | none => exact ⟨fr, v01, Or.inl ⟨rfl, q, hr0, hr, chn_none rfl _⟩⟩
    | some y =>
      obtain ⟨rfl, hs⟩ := hr
      exact ⟨fr, v01, Or.inr ⟨q, y, by show N - q < N + 1; omega, hs, rfl, rfl⟩⟩
theorem m_cmp0 (hd : d + k = 6) (hs : RSt T N R o d p σ) (he : EV g w h m t σ) : wp (f_X12_compares 159 0 0) σ (RPb T N R o d g w h m t σ (cmpR T N k (smD T N k p))) := by
  have h240 := hs.1.2.1
  have ad := (smD_adv (T := T) (N := N) k p hs.nb.1).1
  unfold f_X12_compares
  rw [wp_gd]
  refine ⟨rfl, ?_⟩
  rw [wp_jn1, wp_if]
  refine ⟨fun _ => ?_, fun q => absurd rfl q⟩
  rw [wp_bnd]
  refine wp_mono (m_sums k 60 d hd (by omega) _ _ hs he) (fun v τ hr => ?_)
  exact m_cmpT hd (by omega) hr he
theorem m_cmp1 {x : List Nat × LWt} (hd : d + k = 6) (hs : RSt T N R o d p σ) (he : EV g w h m t σ) : wp (f_X12_compares 159 1 (x.2 g w h m t)) σ (RPb T N R o d g w h m t σ (cmpR T N k (p, some x))) := by
  have h240 := hs.1.2.1
  have hp := hs.nb.1
  unfold f_X12_compares
  rw [wp_gd]
  refine ⟨rfl, ?_⟩
  rw [wp_jn1, wp_if]
  refine ⟨fun q => absurd q (by decide), fun _ => ?_⟩
  exact m_cmpT (r0 := (p, some x)) hd (by dsimp only; omega) ⟨RFr.rfl', rfl, hs⟩ he
/-- parts, given units -/
theorem m_part {gU : Nat → sa_M Int32} {gC gP : Nat → Int32 → Int32 → sa_M Int32} (hd : d + k = 6) (hU : ∀ (q : Nat) (σ : sa_St), RSt T N R o d q σ → EV g w h m t σ → wp (gU 159) σ (RPb T N R o d g w h m t σ (unD T N k q))) : (∀ (q : Nat) (σ : sa_St), RSt T N R o d q σ → EV g w h m t σ → wp (fb_X12_part gU gC gP 159 0 0) σ (RPb T N R o d g w h m t σ (trP T N (unD T N k) q))) ∧ ∀ (p q : Nat) (x : List Nat × LWt) (σ : sa_St), RAdv N p (q, some x) → RSt T N R o d q σ → EV g w h m t σ → wp (fb_X12_part gU gC gP 159 1 (x.2 g w h m t)) σ (RPb T N R o d g w h m t σ (trF T N (unD T N k) (cmpR T N k (q, some x)))) := by
  have loop : ∀ {σ0 σ : sa_St} {r0 : PRs} {v0 : Int32}, N ≤ 240 → r0.1 ≤ N → RPb T N R o d g w h m t σ0 r0 v0 σ → EV g w h m t σ0 → wp (sa_wh1 (fun j18 (x2 : Int32) =>
sa_bnd (sa_rdI 12 159 11) fun v3 =>
sa_jn0 (sa_retZ x2) fun j69 =>
if ¬ v3 = (-1) then
j69
else
sa_bnd (f_X12_look 159) fun v4 =>
if ¬ v4 = 38 then
j69
else
sa_bnd (sa_rdI 12 159 10) fun v5 =>
sa_bnd (sa_wrI 12 159 10 (v5 + 1)) fun _ =>
sa_bnd (gU 159) fun v6 =>
sa_jn1 (fun (y7 : Int32) =>
j18 y7) fun j65 =>
sa_jn0 (j65 0) fun j64 =>
if x2 = 0 then
j64
else
if v6 = 0 then
j64
else
j65 1) sa_F v0) σ (RPb T N R o d g w h m t σ0 (trF T N (unD T N k) r0)) := fun hN hr0 h0 he => by
    refine m_chain1 (cb := fun x2 v6 j65 => sa_jn0 (j65 0) fun j64 => if x2 = 0 then j64 else if v6 = 0 then j64 else j65 1) (c1 := 38) (o1 := 12) (g1 := andC) (by omega) (fun x v => by unfold andC; split <;> simp) hU (un_adv k) hN (fun x v K σ Q hK => ?_) hr0 h0 he
    show wp (sa_jn0 _ _) σ Q
    unfold andC at hK
    rw [wp_jn0, wp_if]
    refine ⟨fun hx => ?_, fun hx => ?_⟩
    · rw [if_pos (Or.inl hx)] at hK
      exact hK
    · rw [wp_if]
      refine ⟨fun hv => ?_, fun hv => ?_⟩
      · rw [if_pos (Or.inr hv)] at hK
        exact hK
      · rw [if_neg (by simp [hx, hv])] at hK
        exact hK
  refine ⟨fun q σ hs he => ?_, fun p q x σ ra hs he => ?_⟩
  · unfold fb_X12_part
    rw [wp_gd]
    refine ⟨rfl, ?_⟩
    rw [wp_jn1, wp_if]
    refine ⟨fun _ => ?_, fun q => absurd rfl q⟩
    rw [wp_bnd]
    exact wp_mono (hU q σ hs he) (fun v τ hr => loop hs.1.2.1 (un_adv k q hs.nb.1).1 hr he)
  · unfold fb_X12_part
    rw [wp_gd]
    refine ⟨rfl, ?_⟩
    rw [wp_jn1, wp_if]
    refine ⟨fun q => absurd q (by decide), fun _ => ?_⟩
    rw [wp_bnd]
    exact wp_mono (m_cmp1 hd hs he) (fun v τ hr => loop hs.1.2.1 (cmp_adv ra).1 hr he)
theorem m_cond {gU : Nat → sa_M Int32} {gC gP : Nat → Int32 → Int32 → sa_M Int32} (hP : (∀ (q : Nat) (σ : sa_St), RSt T N R o d q σ → EV g w h m t σ → wp (gP 159 0 0) σ (RPb T N R o d g w h m t σ (trP T N (unD T N k) q))) ∧ ∀ (p q : Nat) (x : List Nat × LWt) (σ : sa_St), RAdv N p (q, some x) → RSt T N R o d q σ → EV g w h m t σ → wp (gP 159 1 (x.2 g w h m t)) σ (RPb T N R o d g w h m t σ (trF T N (unD T N k) (cmpR T N k (q, some x))))) : (∀ (q : Nat) (σ : sa_St), RSt T N R o d q σ → EV g w h m t σ → wp (fb_X12_condition gU gC gP 159 0 0) σ (RPb T N R o d g w h m t σ (coP T N (unD T N k) q))) ∧ ∀ (p q : Nat) (x : List Nat × LWt) (σ : sa_St), RAdv N p (q, some x) → p ≤ N → RSt T N R o d q σ → EV g w h m t σ → wp (fb_X12_condition gU gC gP 159 1 (x.2 g w h m t)) σ (RPb T N R o d g w h m t σ (coF T N (unD T N k) (trF T N (unD T N k) (cmpR T N k (q, some x))))) := by
  have ta := tr_adv (T := T) (un_adv (T := T) (N := N) k)
  have loop : ∀ {σ0 σ : sa_St} {r0 : PRs} {v0 : Int32}, N ≤ 240 → r0.1 ≤ N → RPb T N R o d g w h m t σ0 r0 v0 σ → EV g w h m t σ0 → wp (sa_wh1 (fun j7 (x2 : Int32) =>
sa_bnd (sa_rdI 12 159 11) fun v3 =>
sa_jn0 (sa_retZ x2) fun j60 =>
if ¬ v3 = (-1) then
j60
else
sa_bnd (f_X12_look 159) fun v4 =>
if ¬ v4 = 124 then
j60
else
sa_bnd (sa_rdI 12 159 10) fun v5 =>
sa_bnd (sa_wrI 12 159 10 (v5 + 1)) fun _ =>
sa_bnd (gP 159 0 0) fun v6 =>
sa_jn1 (fun (y7 : Int32) =>
j7 y7) fun j56 =>
sa_jn0 (j56 1) fun j51 =>
if ¬ x2 = 0 then
j51
else
if v6 = 0 then
j56 0
else
j51) sa_F v0) σ (RPb T N R o d g w h m t σ0 (coF T N (unD T N k) r0)) := fun hN hr0 h0 he => by
    refine m_chain1 (cb := fun x2 v6 j56 => sa_jn0 (j56 1) fun j51 => if ¬ x2 = 0 then j51 else if v6 = 0 then j56 0 else j51) (c1 := 124) (o1 := 13) (g1 := orC) (by omega) (fun x v => by unfold orC; split <;> simp) hP.1 ta hN (fun x v K σ Q hK => ?_) hr0 h0 he
    show wp (sa_jn0 _ _) σ Q
    unfold orC at hK
    rw [wp_jn0, wp_if]
    refine ⟨fun hx => ?_, fun hx => ?_⟩
    · rw [if_neg (by simp [hx])] at hK
      exact hK
    · have hx' := Decidable.not_not.mp hx
      rw [wp_if]
      refine ⟨fun hv => ?_, fun hv => ?_⟩
      · rw [if_pos ⟨hx', hv⟩] at hK
        exact hK
      · rw [if_neg (by simp [hv])] at hK
        exact hK
  refine ⟨fun q σ hs he => ?_, fun p q x σ ra hp hs he => ?_⟩
  · unfold fb_X12_condition
    rw [wp_gd]
    refine ⟨rfl, ?_⟩
    rw [wp_bnd]
    exact wp_mono (hP.1 q σ hs he) (fun v τ hr => loop hs.1.2.1 (ta q hs.nb.1).1 hr he)
  · unfold fb_X12_condition
    rw [wp_gd]
    refine ⟨rfl, ?_⟩
    rw [wp_bnd]
    exact wp_mono (hP.2 p q x σ ra hs he) (fun v τ hr => loop hs.1.2.1 (chF_adv (op1_0 (by omega)) (un_adv k) hp (cmp_adv ra)).1 hr he)
end RUN3
