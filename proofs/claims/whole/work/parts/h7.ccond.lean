/-! TEXTS: conditions, by the class, in their depth -/
section CCON
variable {T : Nat → Nat} {N l p d k : Nat} {mv : List Nat} {σ : sa_St}
theorem c_cmp {m : List Nat × LWt} (hl : l < 5) (hd : d + k = 6) (h : LSt T N l p (mv ++ m.1) σ) : wp (sa_bnd (f_X7_sign 1) fun v2 =>
sa_bnd (f_J0_indexOf_0f7a4 (1000 + 3) v2) fun v3 =>
if 0 ≤ v3 then
sa_bnd (f_X7_pass 1) fun _ =>
sa_bnd (f_X2_readSum 60 (18 + 3 * l) 1 (nI d)) fun v4 =>
sa_bnd (f_X2_add (18 + 3 * l) (9 + v3) 0) fun _ =>
sa_retZ v4
else
sa_retZ 0) σ (CPo T N l mv σ (cmpR T N k (p, some m))) := by
  have h0 := h
  obtain ⟨ct, hp, h2, hm, hz, hv⟩ := h
  have h240 := ct.2.1
  have hlt := sgn_lt (p := p) ct
  unfold cmpR
  dsimp only
  rw [wp_bnd, wp_of_eq (c_sign ct hp h2), wp_bnd, wp_of_eq (e_ix (j := 3) (by omega) hlt)]
  cases hi : ixS 3 (sgn T N p) with
  | none =>
    rw [wp_if]
    refine ⟨fun q => absurd q (show ¬ (0 : Int32) ≤ mI by decide), fun _ => ?_⟩
    rw [wp_retZ]
    exact ⟨Or.inl rfl, h0.no⟩
  | some i =>
    have hix := ix_in hi (by omega)
    have hi3 : i < 3 := hix.2
    have hin := sgn_in (c := sgn T N p) hix.1 rfl
    have hge := bk_ge (T := T) (N := N) (p := p + 1)
    have hle := bk_le (T := T) (N := N) (p := p + 1) (by omega)
    have ls1 := h0.to (show p ≤ bk T N (p + 1) by omega) hle
    obtain ⟨x1, x2, x3⟩ := smD_adv (T := T) (N := N) k _ hle
    have e9 : (9 : Int32) + nI i = nI (9 + i) := nI_add 9 i
    rw [wp_if]
    refine ⟨fun _ => ?_, fun q => absurd (show (0 : Int32) ≤ nI i from nI_le (a := 0) (b := i) (by omega) (by omega)) q⟩
    show wp (sa_bnd (f_X7_pass 1) fun _ => sa_bnd (f_X2_readSum 60 (18 + 3 * l) 1 (nI d)) fun v4 => sa_bnd (f_X2_add (18 + 3 * l) (9 + nI i) 0) fun _ => sa_retZ v4) σ _
    rw [e9, wp_bnd, wp_of_eq (c_pass ct hin.1 h2), wp_bnd]
    refine wp_mono (c_sums hl k 60 d hd (by omega) _ _ _ ls1) (fun r τ hr => ?_)
    obtain ⟨fr, hr⟩ := hr
    have fr2 : LFr l σ τ := LFr.at.trans fr
    dsimp only
    cases hm2 : (smD T N k (bk T N (p + 1))).2 with
    | none =>
      rw [hm2] at hr
      obtain ⟨rfl, h2', s, hs, hz'⟩ := hr
      rw [wp_bnd]
      refine c_addF (a := 0) (o := 9 + i) hl (by rw [fr2.1]; exact ct.1) (by omega) (by omega) hz' hs (fun τ2 fr3 e2 hs2 => ?_)
      rw [wp_retZ]
      refine ⟨Or.inl rfl, fr2.trans fr3, ?_⟩
      dsimp only
      rw [hm2]
      exact ⟨rfl, by rw [e2]; exact h2', hs2⟩
    | some m2 =>
      rw [hm2] at hr
      obtain ⟨rfl, ls2⟩ := hr
      have x3' := x3 m2 hm2
      have hlen : (mv ++ m.1 ++ m2.1).length + 1 ≤ (smD T N k (bk T N (p + 1))).1 := by
        rw [List.length_append]
        omega
      have hadd := c_addM (a := 0) (o := 9 + i) hl ls2.1.1 (by omega) (by omega) ls2.2.2.2.2.1 (by omega)
      have ls3 := ls2.add (x := 16 * 0 + (9 + i)) hlen
      rw [wp_bnd, wp_of_eq (show f_X2_add (18 + 3 * l) (nI (9 + i)) 0 τ = _ from hadd), wp_retZ]
      refine ⟨Or.inr rfl, fr2.trans (LFr.mv.trans LFr.sz), rfl, ?_⟩
      have ea : mv ++ (m.1 ++ m2.1 ++ [9 + i]) = mv ++ m.1 ++ m2.1 ++ [16 * 0 + (9 + i)] := by
        rw [show 16 * 0 + (9 + i) = 9 + i by omega, List.append_assoc, List.append_assoc, List.append_assoc]
      dsimp only
      rw [ea]
      exact ls3
/-- a unit read anew, and one whose first side is read -/
def CU (T : Nat → Nat) (N l d k : Nat) (g : Nat → Nat → Int32 → Int32 → sa_M Int32) : Prop := (∀ (q : Nat) (mv : List Nat) (σ : sa_St), LSt T N l q mv σ → wp (g (18 + 3 * l) 1 (nI d) 0) σ (CPo T N l mv σ (unD T N k q))) ∧ ∀ (q : Nat) (mv : List Nat) (m : List Nat × LWt) (σ : sa_St), LSt T N l q (mv ++ m.1) σ → wp (g (18 + 3 * l) 1 (nI d) 1) σ (CPo T N l mv σ (cmpR T N k (q, some m)))
theorem c_truth {gC gT gU : Nat → Nat → Int32 → Int32 → sa_M Int32} (hl : l < 5) (hU : CU T N l d k gU) : (∀ (q : Nat) (mv : List Nat) (σ : sa_St), LSt T N l q mv σ → wp (fb_X2_readTruth gC gT gU (18 + 3 * l) 1 (nI d) 0) σ (CPo T N l mv σ (trP T N (unD T N k) q))) ∧ ∀ (p q : Nat) (mv : List Nat) (m : List Nat × LWt) (σ : sa_St), RAdv N p (q, some m) → LSt T N l q (mv ++ m.1) σ → wp (fb_X2_readTruth gC gT gU (18 + 3 * l) 1 (nI d) 1) σ (CPo T N l mv σ (trF T N (unD T N k) (cmpR T N k (q, some m)))) := by
  refine ⟨fun q mv σ h => ?_, fun p q mv m σ ra h => ?_⟩
  · unfold fb_X2_readTruth
    rw [wp_gd]
    exact ⟨sh_law l hl, c_chain1P (c1 := 38) (o1 := 12) (g1 := andC) hl (by omega) (hU.1 q mv σ h) (un_adv k q h.2.1) hU.1 (un_adv k)⟩
  · unfold fb_X2_readTruth
    rw [wp_gd]
    exact ⟨sh_law l hl, c_chain1P (c1 := 38) (o1 := 12) (g1 := andC) hl (by omega) (hU.2 q mv m σ h) (cmp_adv ra) hU.1 (un_adv k)⟩
theorem c_cond {gC gT gU : Nat → Nat → Int32 → Int32 → sa_M Int32} (hl : l < 5) (hT : (∀ (q : Nat) (mv : List Nat) (σ : sa_St), LSt T N l q mv σ → wp (gT (18 + 3 * l) 1 (nI d) 0) σ (CPo T N l mv σ (trP T N (unD T N k) q))) ∧ ∀ (p q : Nat) (mv : List Nat) (m : List Nat × LWt) (σ : sa_St), RAdv N p (q, some m) → LSt T N l q (mv ++ m.1) σ → wp (gT (18 + 3 * l) 1 (nI d) 1) σ (CPo T N l mv σ (trF T N (unD T N k) (cmpR T N k (q, some m))))) : (∀ (q : Nat) (mv : List Nat) (σ : sa_St), LSt T N l q mv σ → wp (fb_X2_readCondition gC gT gU (18 + 3 * l) 1 (nI d) 0) σ (CPo T N l mv σ (coP T N (unD T N k) q))) ∧ ∀ (p q : Nat) (mv : List Nat) (m : List Nat × LWt) (σ : sa_St), RAdv N p (q, some m) → p ≤ N → LSt T N l q (mv ++ m.1) σ → wp (fb_X2_readCondition gC gT gU (18 + 3 * l) 1 (nI d) 1) σ (CPo T N l mv σ (coF T N (unD T N k) (trF T N (unD T N k) (cmpR T N k (q, some m))))) := by
  have ta := tr_adv (T := T) (un_adv (T := T) (N := N) k)
  refine ⟨fun q mv σ h => ?_, fun p q mv m σ ra hp h => ?_⟩
  · unfold fb_X2_readCondition
    rw [wp_gd]
    exact ⟨sh_law l hl, c_chain1P (c1 := 124) (o1 := 13) (g1 := orC) hl (by omega) (hT.1 q mv σ h) (ta q h.2.1) hT.1 ta⟩
  · unfold fb_X2_readCondition
    rw [wp_gd]
    exact ⟨sh_law l hl, c_chain1P (c1 := 124) (o1 := 13) (g1 := orC) hl (by omega) (hT.2 p q mv m σ ra h) (chF_adv (op1_0 (by omega)) (un_adv k) hp (cmp_adv ra)) hT.1 ta⟩
theorem c_unit {gC gT gU : Nat → Nat → Int32 → Int32 → sa_M Int32} (hl : l < 5) (hd : d + k = 6) (hU : ∀ k', k = k' + 1 → ∀ (q : Nat) (mv : List Nat) (σ : sa_St), LSt T N l q mv σ → wp (gU (18 + 3 * l) 1 (nI (d + 1)) 0) σ (CPo T N l mv σ (unD T N k' q))) (hC : ∀ k', k = k' + 1 → ∀ (q : Nat) (mv : List Nat) (σ : sa_St), LSt T N l q mv σ → wp (gC (18 + 3 * l) 1 (nI (d + 1)) 0) σ (CPo T N l mv σ (coP T N (unD T N k') q))) : CU T N l d k (fb_X2_readUnit gC gT gU) := by
  have e6 : (nI d < 6) ↔ d < 6 := nI_ltI (a := d) (b := 6) (by omega) (by omega)
  refine ⟨fun p mv σ h => ?_, fun p mv m σ h => ?_⟩
  · have h0 := h
    obtain ⟨ct, hp, h2, hm, hz, hv⟩ := h
    have h240 := ct.2.1
    have hlt := sgn_lt (p := p) ct
    have e33 : (nI (sgn T N p) = 33) ↔ sgn T N p = 33 := nI_eq (a := sgn T N p) (b := 33) (by omega) (by omega)
    have e40 : (nI (sgn T N p) = 40) ↔ sgn T N p = 40 := nI_eq (a := sgn T N p) (b := 40) (by omega) (by omega)
    have hge := bk_ge (T := T) (N := N) (p := p + 1)
    -- neither: a sum comes first
    have plain : ¬ sgn T N p = 33 → ¬ sgn T N p = 40 → unD T N k p = cmpR T N k (smD T N k p) := fun a b => by
      cases k with
      | zero => unfold unD; rw [if_neg (by omega)]
      | succ k => unfold unD; rw [if_neg a, if_neg b]
    have body : ¬ sgn T N p = 33 → ¬ sgn T N p = 40 → wp (sa_jn0 (sa_bnd (f_X7_sign 1) fun v2 =>
sa_bnd (f_J0_indexOf_0f7a4 (1000 + 3) v2) fun v3 =>
if 0 ≤ v3 then
sa_bnd (f_X7_pass 1) fun _ =>
sa_bnd (f_X2_readSum 60 (18 + 3 * l) 1 (nI d)) fun v4 =>
sa_bnd (f_X2_add (18 + 3 * l) (9 + v3) 0) fun _ =>
sa_retZ v4
else
sa_retZ 0) fun j105 =>
if ¬ (0 : Int32) = 0 then
j105
else
sa_bnd (f_X2_readSum 60 (18 + 3 * l) 1 (nI d)) fun v5 =>
if ¬ v5 = 0 then
j105
else
sa_retZ 0) σ (CPo T N l mv σ (unD T N k p)) := fun a b => by
      rw [plain a b, wp_jn0, wp_if]
      refine ⟨fun q => absurd rfl q, fun _ => ?_⟩
      rw [wp_bnd]
      refine wp_mono (c_sums hl k 60 d hd (by omega) _ _ _ h0) (fun r τ hr => ?_)
      obtain ⟨fr, hr⟩ := hr
      generalize smD T N k p = r0 at *
      obtain ⟨q, m⟩ := r0
      cases m with
      | none =>
        obtain ⟨rfl, h2', s, hs, hz'⟩ := hr
        rw [wp_if]
        refine ⟨fun q => absurd rfl q, fun _ => ?_⟩
        rw [wp_retZ]
        exact ⟨Or.inl rfl, CPo.no fr h2' hs hz'⟩
      | some m =>
        obtain ⟨rfl, ls2⟩ := hr
        rw [wp_if]
        refine ⟨fun _ => ?_, fun q => absurd (show ¬ (1 : Int32) = 0 by decide) q⟩
        exact wp_mono (c_cmp hl hd ls2) (fun r υ hr => hr.fr fr)
    -- a bracket or a not
    have deep : sgn T N p = 33 ∨ sgn T N p = 40 → wp (if nI d < 6 then
sa_bnd (f_X7_pass 1) fun _ =>
if ¬ nI (sgn T N p) = 40 then
sa_bnd (gU (18 + 3 * l) 1 (nI d + 1) 0) fun v6 =>
sa_bnd (f_X2_add (18 + 3 * l) 2 0) fun _ =>
sa_retZ v6
else
sa_bnd (gC (18 + 3 * l) 1 (nI d + 1) 0) fun v7 =>
sa_jn1 (fun (y8 : Int32) =>
sa_retZ y8) fun j69 =>
sa_jn0 (j69 0) fun j68 =>
if v7 = 0 then
j68
else
sa_bnd (f_X7_take 1 41) fun v9 =>
if v9 = 0 then
j68
else
j69 1
else
sa_retZ 0) σ (CPo T N l mv σ (unD T N k p)) := fun hc => by
      have hpN : p < N := by
        rcases hc with h | h
        · exact (sgn_in (c := 33) (by omega) h).1
        · exact (sgn_in (c := 40) (by omega) h).1
      have hle := bk_le (T := T) (N := N) (p := p + 1) (by omega)
      have ls1 := h0.to (show p ≤ bk T N (p + 1) by omega) hle
      rw [wp_if, e6]
      cases k with
      | zero =>
        refine ⟨fun q => by omega, fun _ => ?_⟩
        unfold unD
        rw [if_pos hc, wp_retZ]
        exact ⟨Or.inl rfl, h0.no⟩
      | succ k =>
        refine ⟨fun _ => ?_, fun q => by omega⟩
        unfold unD
        rw [wp_bnd, wp_of_eq (c_pass ct hpN h2), wp_if, e40, nI_1]
        refine ⟨fun n40 => ?_, fun n40 => ?_⟩
        · have h33 : sgn T N p = 33 := by
            rcases hc with h | h
            · exact h
            · exact absurd h n40
          rw [if_pos h33, wp_bnd]
          obtain ⟨x1, x2, x3⟩ := un_adv (T := T) (N := N) k _ hle
          refine wp_mono (hU k rfl _ _ _ ls1) (fun r τ hr => ?_)
          obtain ⟨fr, hr⟩ := hr
          have fr2 : LFr l σ τ := LFr.at.trans fr
          generalize unD T N k (bk T N (p + 1)) = r0 at *
          obtain ⟨q, m⟩ := r0
          cases m with
          | none =>
            obtain ⟨rfl, h2', s, hs, hz'⟩ := hr
            rw [wp_bnd]
            refine c_addF (a := 0) (o := 2) hl (by rw [fr2.1]; exact ct.1) (by omega) (by omega) hz' hs (fun τ2 fr3 e2 ⟨s2, hs2, hs3⟩ => ?_)
            rw [wp_retZ]
            exact ⟨Or.inl rfl, CPo.no (fr2.trans fr3) (by rw [e2]; exact h2') hs2 hs3⟩
          | some m =>
            obtain ⟨rfl, ls2⟩ := hr
            have x3' := x3 m rfl
            dsimp only at x1 x2 x3' ls2
            have hlen : (mv ++ m.1).length + 1 ≤ q := by
              rw [List.length_append]
              omega
            have hadd := c_addM (a := 0) (o := 2) hl ls2.1.1 (by omega) (by omega) ls2.2.2.2.2.1 (by omega)
            have ls3 := ls2.add (x := 16 * 0 + 2) hlen
            rw [wp_bnd, wp_of_eq (show f_X2_add (18 + 3 * l) 2 0 τ = _ from hadd), wp_retZ]
            refine ⟨Or.inr rfl, fr2.trans (LFr.mv.trans LFr.sz), rfl, ?_⟩
            rw [List.append_assoc] at ls3
            exact ls3
        · have h40 := Decidable.not_not.mp n40
          rw [if_neg (show ¬ sgn T N p = 33 by omega), if_pos h40, wp_bnd]
          refine wp_mono (hC k rfl _ _ _ ls1) (fun r τ hr => ?_)
          obtain ⟨fr, hr⟩ := hr
          have fr2 : LFr l σ τ := LFr.at.trans fr
          generalize coP T N (unD T N k) (bk T N (p + 1)) = r0 at *
          obtain ⟨q, m⟩ := r0
          cases m with
          | none =>
            obtain ⟨rfl, h2', s, hs, hz'⟩ := hr
            rw [wp_jn1, wp_jn0, wp_if]
            refine ⟨fun _ => ?_, fun q => absurd rfl q⟩
            rw [wp_retZ]
            exact ⟨Or.inl rfl, CPo.no fr2 h2' hs hz'⟩
          | some m =>
            obtain ⟨rfl, ls2⟩ := hr
            dsimp only at ls2
            have htk := c_take (c := 41) ls2.1 ls2.2.1 ls2.2.2.1 (by omega) (by omega)
            unfold clR
            dsimp only
            rw [wp_jn1, wp_jn0, wp_if]
            refine ⟨fun q => absurd q (by decide), fun _ => ?_⟩
            by_cases h41 : sgn T N q = 41
            · have hin2 := sgn_in (c := 41) (by omega) h41
              have hge2 := bk_ge (T := T) (N := N) (p := q + 1)
              have hle2 := bk_le (T := T) (N := N) (p := q + 1) (by omega)
              rw [if_pos h41] at htk ⊢
              rw [wp_bnd, wp_of_eq (show f_X7_take 1 41 τ = _ from htk), wp_if]
              refine ⟨fun q => absurd q (by decide), fun _ => ?_⟩
              rw [wp_retZ]
              exact ⟨Or.inr rfl, fr2.trans LFr.at, rfl, ls2.to (by omega) hle2⟩
            · rw [if_neg h41] at htk ⊢
              rw [wp_bnd, wp_of_eq (show f_X7_take 1 41 τ = _ from htk), wp_if]
              refine ⟨fun _ => ?_, fun q => absurd rfl q⟩
              rw [wp_retZ]
              exact ⟨Or.inl rfl, (ls2.no (mv2 := mv)).fr fr2⟩
    unfold fb_X2_readUnit
    rw [wp_gd]
    refine ⟨sh_law l hl, ?_⟩
    rw [wp_bnd, wp_of_eq (c_sign ct hp h2), wp_jn0, wp_if]
    refine ⟨fun q => absurd rfl q, fun _ => ?_⟩
    rw [wp_jn0, wp_if, e33]
    refine ⟨fun h33 => deep (Or.inl h33), fun n33 => ?_⟩
    rw [wp_if]
    exact ⟨fun n40 => body n33 (fun h => n40 (e40.mpr h)), fun n40 => deep (Or.inr (e40.mp (Decidable.not_not.mp n40)))⟩
  · obtain ⟨ct, hp, h2, hm, hz, hv⟩ := id h
    unfold fb_X2_readUnit
    rw [wp_gd]
    refine ⟨sh_law l hl, ?_⟩
    rw [wp_bnd, wp_of_eq (c_sign ct hp h2), wp_jn0, wp_if]
    refine ⟨fun _ => ?_, fun q => absurd (show ¬ (1 : Int32) = 0 by decide) q⟩
    rw [wp_jn0, wp_if]
    refine ⟨fun _ => ?_, fun q => absurd (show ¬ (1 : Int32) = 0 by decide) q⟩
    exact c_cmp hl hd h
theorem c_units (hl : l < 5) : ∀ k n d, d + k = 6 → 3 * k + 1 ≤ n → CU T N l d k (fun a b c e => f_X2_readUnit n a b c e) := by
  intro k
  induction k with
  | zero =>
    intro n d hd hn
    obtain ⟨n, rfl⟩ : ∃ n', n = n' + 1 := ⟨n - 1, by omega⟩
    exact c_unit (gC := (gr_X2_readCondition n).1) (gT := (gr_X2_readCondition n).2.1) (gU := (gr_X2_readCondition n).2.2) hl hd (fun k' h => by omega) (fun k' h => by omega)
  | succ k ih =>
    intro n d hd hn
    obtain ⟨n, rfl⟩ : ∃ n', n = n' + 3 := ⟨n - 3, by omega⟩
    have u2 := ih (n + 2) (d + 1) (by omega) (by omega)
    have u0 := ih n (d + 1) (by omega) (by omega)
    have t1 := c_truth (gC := (gr_X2_readCondition n).1) (gT := (gr_X2_readCondition n).2.1) hl u0
    have c2 := c_cond (gC := (gr_X2_readCondition (n + 1)).1) (gT := (gr_X2_readCondition (n + 1)).2.1) (gU := (gr_X2_readCondition (n + 1)).2.2) hl t1
    exact c_unit (gC := (gr_X2_readCondition (n + 2)).1) (gT := (gr_X2_readCondition (n + 2)).2.1) (gU := (gr_X2_readCondition (n + 2)).2.2) hl hd (fun k' h => by cases h; exact u2.1) (fun k' h => by cases h; exact c2.1)
theorem c_conds (hl : l < 5) : (∀ (q : Nat) (mv : List Nat) (σ : sa_St), LSt T N l q mv σ → wp (f_X2_readCondition 60 (18 + 3 * l) 1 0 0) σ (CPo T N l mv σ (coP T N (unD T N 6) q))) ∧ ∀ (p q : Nat) (mv : List Nat) (m : List Nat × LWt) (σ : sa_St), RAdv N p (q, some m) → p ≤ N → LSt T N l q (mv ++ m.1) σ → wp (f_X2_readCondition 60 (18 + 3 * l) 1 0 1) σ (CPo T N l mv σ (coF T N (unD T N 6) (trF T N (unD T N 6) (cmpR T N 6 (q, some m))))) := by
  have u0 := c_units (T := T) (N := N) hl 6 58 0 rfl (by omega)
  have t1 := c_truth (gC := (gr_X2_readCondition 58).1) (gT := (gr_X2_readCondition 58).2.1) hl u0
  exact c_cond (gC := (gr_X2_readCondition 59).1) (gT := (gr_X2_readCondition 59).2.1) (gU := (gr_X2_readCondition 59).2.2) hl t1
end CCON
