/-! TEXTS: conditions, as they are read -/
def andC (v w : Int32) : Int32 := if v = 0 ∨ w = 0 then 0 else 1
def orC (v w : Int32) : Int32 := if v = 0 ∧ w = 0 then 0 else 1
def notC (v : Int32) : Int32 := if v = 0 then 1 else 0
def cmpC (i : Nat) (v w : Int32) : Int32 := if i = 0 then (if v = w then 1 else 0) else if i = 1 then (if v < w then 1 else 0) else (if w < v then 1 else 0)
def op1 (c1 o1 : Nat) (g1 : Int32 → Int32 → Int32) : OPf := fun c => if c = c1 then some (o1, g1) else none
def opA : OPf := op1 38 12 andC
def opO : OPf := op1 124 13 orC
/-- one against another: the first is read -/
def cmpR (T : Nat → Nat) (N k : Nat) (r : PRs) : PRs := match r.2 with
  | none => r
  | some m => match ixS 3 (sgn T N r.1) with
    | none => (r.1, none)
    | some i => match (smD T N k (bk T N (r.1 + 1))).2 with
      | none => smD T N k (bk T N (r.1 + 1))
      | some m2 => ((smD T N k (bk T N (r.1 + 1))).1, some (m.1 ++ m2.1 ++ [9 + i], fun a b c d e => cmpC i (m.2 a b c d e) (m2.2 a b c d e)))
def trF (T : Nat → Nat) (N : Nat) (U : Nat → PRs) (r : PRs) : PRs := chn T N opA U (N + 1) r
def trP (T : Nat → Nat) (N : Nat) (U : Nat → PRs) (p : Nat) : PRs := trF T N U (U p)
def coF (T : Nat → Nat) (N : Nat) (U : Nat → PRs) (r : PRs) : PRs := chn T N opO (trP T N U) (N + 1) r
def coP (T : Nat → Nat) (N : Nat) (U : Nat → PRs) (p : Nat) : PRs := coF T N U (trP T N U p)
def ngR (r : PRs) : PRs := match r.2 with
  | none => r
  | some m => (r.1, some (m.1 ++ [2], fun a b c d e => notC (m.2 a b c d e)))
def clR (T : Nat → Nat) (N c : Nat) (r : PRs) : PRs := match r.2 with
  | none => r
  | some m => if sgn T N r.1 = c then (bk T N (r.1 + 1), some m) else (r.1, none)
def unD (T : Nat → Nat) (N : Nat) : Nat → Nat → PRs
  | 0, p => if sgn T N p = 33 ∨ sgn T N p = 40 then (p, none) else cmpR T N 0 (smD T N 0 p)
  | k + 1, p => if sgn T N p = 33 then ngR (unD T N k (bk T N (p + 1))) else if sgn T N p = 40 then clR T N 41 (coP T N (unD T N k) (bk T N (p + 1))) else cmpR T N (k + 1) (smD T N (k + 1) p)
/-- what is read from p on lies on -/
def RAdv (N p : Nat) (r : PRs) : Prop := r.1 ≤ N ∧ p ≤ r.1 ∧ ∀ m, r.2 = some m → p < r.1 ∧ p + m.1.length ≤ r.1
section CONDS
variable {T : Nat → Nat} {N p k : Nat} {r : PRs}
theorem op1_0 {c1 o1 : Nat} {g1 : Int32 → Int32 → Int32} (h1 : 0 < c1) : ∀ o, op1 c1 o1 g1 0 ≠ some o := by
  intro o h
  unfold op1 at h
  rw [if_neg (by omega)] at h
  cases h
theorem cmp_adv (h : RAdv N p r) : RAdv N p (cmpR T N k r) := by
  obtain ⟨a, b, c⟩ := h
  obtain ⟨q, m⟩ := r
  cases m with
  | none => exact ⟨a, b, c⟩
  | some m =>
    have c' := c m rfl
    dsimp only at a b c'
    unfold cmpR
    dsimp only
    cases hi : ixS 3 (sgn T N q) with
    | none => exact ⟨a, b, fun m h => by cases h⟩
    | some i =>
      have hin := sgn_in (c := sgn T N q) (ix_in hi (by omega)).1 rfl
      have hge := bk_ge (T := T) (N := N) (p := q + 1)
      have hle := bk_le (T := T) (N := N) (p := q + 1) (by omega)
      obtain ⟨x1, x2, x3⟩ := smD_adv (T := T) (N := N) k _ hle
      dsimp only
      cases hm : (smD T N k (bk T N (q + 1))).2 with
      | none =>
        refine ⟨x1, by dsimp only; omega, fun m h => ?_⟩
        dsimp only at h
        rw [hm] at h
        cases h
      | some m2 =>
        have x3' := x3 m2 hm
        refine ⟨x1, by dsimp only; omega, fun m3 h => ?_⟩
        cases h
        dsimp only
        rw [List.length_append, List.length_append, List.length_singleton]
        omega
theorem ng_adv (h : RAdv N (bk T N (p + 1)) r) : RAdv N p (ngR r) := by
  obtain ⟨a, b, c⟩ := h
  have hge := bk_ge (T := T) (N := N) (p := p + 1)
  obtain ⟨q, m⟩ := r
  cases m with
  | none => exact ⟨a, by dsimp only [ngR] at b ⊢; omega, fun m h => by cases h⟩
  | some m =>
    have c' := c m rfl
    dsimp only at a b c'
    refine ⟨a, by dsimp only [ngR]; omega, fun m3 h => ?_⟩
    cases h
    dsimp only [ngR]
    rw [List.length_append, List.length_singleton]
    omega
theorem cl_adv {c : Nat} (hc : 0 < c) (h : RAdv N (bk T N (p + 1)) r) : RAdv N p (clR T N c r) := by
  obtain ⟨a, b, d⟩ := h
  have hge := bk_ge (T := T) (N := N) (p := p + 1)
  obtain ⟨q, m⟩ := r
  cases m with
  | none => exact ⟨a, by dsimp only [clR] at b ⊢; omega, fun m h => by cases h⟩
  | some m =>
    have d' := d m rfl
    dsimp only at a b d'
    unfold clR
    dsimp only
    by_cases h : sgn T N q = c
    · rw [if_pos h]
      have hin := sgn_in hc h
      have hge2 := bk_ge (T := T) (N := N) (p := q + 1)
      have hle2 := bk_le (T := T) (N := N) (p := q + 1) (by omega)
      refine ⟨hle2, by dsimp only; omega, fun m3 h => ?_⟩
      cases h
      dsimp only
      omega
    · rw [if_neg h]
      exact ⟨a, by dsimp only; omega, fun m h => by cases h⟩
theorem tr_adv {U : Nat → PRs} (hU : PAdv N U) : PAdv N (trP T N U) := chP_adv (op1_0 (by omega)) hU
theorem co_adv {U : Nat → PRs} (hU : PAdv N U) : PAdv N (coP T N U) := chP_adv (op1_0 (by omega)) (tr_adv hU)
theorem un_adv : ∀ k, PAdv N (unD T N k) := by
  intro k
  induction k with
  | zero =>
    intro p hp
    unfold unD
    split
    · exact ⟨hp, Nat.le_refl _, fun m h => by cases h⟩
    · exact cmp_adv (smD_adv 0 p hp)
  | succ k ih =>
    intro p hp
    unfold unD
    by_cases h1 : sgn T N p = 33
    · rw [if_pos h1]
      have hin := sgn_in (c := 33) (by omega) h1
      exact ng_adv (ih _ (bk_le (by omega)))
    · rw [if_neg h1]
      by_cases h2 : sgn T N p = 40
      · rw [if_pos h2]
        have hin := sgn_in (c := 40) (by omega) h2
        exact cl_adv (by omega) (co_adv ih _ (bk_le (by omega)))
      · rw [if_neg h2]
        exact cmp_adv (smD_adv (k + 1) p hp)
theorem chF_adv {op : OPf} {A : Nat → PRs} (h0 : ∀ o, op 0 ≠ some o) (hA : PAdv N A) (hp : p ≤ N) (h : RAdv N p r) : RAdv N p (chn T N op A (N + 1) r) := chn_adv h0 hA hp _ _ h.1 h.2.1 h.2.2
end CONDS
/-! by the class -/
section CCOND
variable {T : Nat → Nat} {N l p d k : Nat} {mv : List Nat} {σ : sa_St}
theorem c_chain1 {A : sa_M Int32} {AP : Nat → PRs} {c1 o1 : Nat} {g1 : Int32 → Int32 → Int32} {q0 : Nat} {m0 : List Nat × LWt} (hl : l < 5) (b1 : 0 < c1 ∧ c1 < 256 ∧ o1 < 16) (hA : ∀ (q : Nat) (mv : List Nat) (σ : sa_St), LSt T N l q mv σ → wp A σ (CPo T N l mv σ (AP q))) (hadv : PAdv N AP) (h0 : LSt T N l q0 (mv ++ m0.1) σ) (hq0 : 0 < q0) :
    wp (sa_wh1 (fun j15 (x3 : Int32) =>
sa_jn0 (sa_retZ 1) fun j57 =>
if 240 ≤ x3 then
j57
else
sa_bnd (f_X7_take 1 (nI c1)) fun v4 =>
if v4 = 0 then
j57
else
sa_bnd A fun v5 =>
if ¬ v5 = 0 then
sa_bnd (f_X2_add (18 + 3 * l) (nI o1) 0) fun _ =>
sa_let ((x3 + 1) : Int32) fun x6 =>
j15 x6
else
sa_retZ 0) sa_F 0) σ (CPo T N l mv σ (chn T N (op1 c1 o1 g1) AP (N + 1) (q0, some m0))) := by
  have h240 := h0.1.2.1
  have hqN := h0.2.1
  refine wp_wh1 (fun f x τ => ∃ (i q : Nat) (m : List Nat × LWt), x = nI i ∧ i + 1 ≤ q ∧ N - q < f ∧ LFr l σ τ ∧ LSt T N l q (mv ++ m.1) τ ∧ chn T N (op1 c1 o1 g1) AP f (q, some m) = chn T N (op1 c1 o1 g1) AP (N + 1) (q0, some m0)) ?_ sa_F (N + 1) 0 σ (by unfold sa_F; omega) ⟨0, q0, m0, rfl, by omega, by omega, LFr.rfl', h0, rfl⟩
  rintro f x τ ⟨i, q, m, rfl, hi, hf, fr, hs, hc⟩ j hj
  obtain ⟨f, rfl⟩ : ∃ f', f = f' + 1 := ⟨f - 1, by omega⟩
  have hsq := hs
  obtain ⟨ct, hq, h2, hm, hz, hv⟩ := hs
  have htk := c_take (c := c1) ct hq h2 b1.1 b1.2.1
  have e240 : ¬ (240 : Int32) ≤ nI i := fun h => by
    have : 240 ≤ i := (nI_leI (a := 240) (b := i) (by omega) (by omega)).mp h
    omega
  have hch : chn T N (op1 c1 o1 g1) AP (f + 1) (q, some m) = match op1 c1 o1 g1 (sgn T N q) with
      | none => (q, some m)
      | some o => match (AP (bk T N (q + 1))).2 with
        | none => AP (bk T N (q + 1))
        | some m2 => chn T N (op1 c1 o1 g1) AP f ((AP (bk T N (q + 1))).1, some (m.1 ++ m2.1 ++ [o.1], fun a b c d e => o.2 (m.2 a b c d e) (m2.2 a b c d e))) := rfl
  rw [wp_jn0, wp_if]
  refine ⟨fun q => absurd q e240, fun _ => ?_⟩
  by_cases hsc : sgn T N q = c1
  · have hop : op1 c1 o1 g1 (sgn T N q) = some (o1, g1) := by unfold op1; rw [if_pos hsc]
    have hin := sgn_in b1.1 hsc
    have hge := bk_ge (T := T) (N := N) (p := q + 1)
    have hle := bk_le (T := T) (N := N) (p := q + 1) (by omega)
    have ls1 := hsq.to (show q ≤ bk T N (q + 1) by omega) hle
    obtain ⟨x1, x2, x3⟩ := hadv _ hle
    rw [if_pos hsc] at htk
    rw [hop] at hch
    dsimp only at hch
    rw [wp_bnd, wp_of_eq htk, wp_if]
    refine ⟨fun q => absurd q (by decide), fun _ => ?_⟩
    rw [wp_bnd]
    refine wp_mono (hA _ _ _ ls1) (fun r τ2 hr => ?_)
    obtain ⟨fr2, hr⟩ := hr
    have fr3 : LFr l σ τ2 := (fr.trans LFr.at).trans fr2
    cases hm2 : (AP (bk T N (q + 1))).2 with
    | none =>
      rw [hm2] at hr hch
      obtain ⟨rfl, h2', hs'⟩ := hr
      rw [← hc, hch, wp_if]
      refine ⟨fun q => absurd rfl q, fun _ => ?_⟩
      rw [wp_retZ]
      refine ⟨Or.inl rfl, fr3, ?_⟩
      dsimp only
      rw [hm2]
      exact ⟨rfl, h2', hs'⟩
    | some m2 =>
      rw [hm2] at hr hch
      dsimp only at hch
      obtain ⟨rfl, ls2⟩ := hr
      have x3' := x3 m2 hm2
      have hlen : (mv ++ m.1 ++ m2.1).length + 1 ≤ (AP (bk T N (q + 1))).1 := by
        rw [List.length_append]
        omega
      have hadd := c_addM (a := 0) (o := o1) hl ls2.1.1 (by omega) b1.2.2 ls2.2.2.2.2.1 (by omega)
      have ls3 := ls2.add (x := 16 * 0 + o1) hlen
      have e9 := hch.symm.trans hc
      rw [wp_if]
      refine ⟨fun _ => ?_, fun q => absurd (show ¬ (1 : Int32) = 0 by decide) q⟩
      rw [wp_bnd, wp_of_eq (show f_X2_add (18 + 3 * l) (nI o1) 0 τ2 = _ from hadd), wp_let, nI_1]
      refine hj f _ _ (by omega) ⟨i + 1, (AP (bk T N (q + 1))).1, (m.1 ++ m2.1 ++ [o1], fun a b c d e => g1 (m.2 a b c d e) (m2.2 a b c d e)), rfl, by omega, by omega, fr3.trans (LFr.mv.trans LFr.sz), ?_, e9⟩
      have ea : mv ++ (m.1 ++ m2.1 ++ [o1]) = mv ++ m.1 ++ m2.1 ++ [16 * 0 + o1] := by
        rw [show 16 * 0 + o1 = o1 by omega, List.append_assoc, List.append_assoc, List.append_assoc]
      dsimp only
      rw [ea]
      exact ls3
  · have hop : op1 c1 o1 g1 (sgn T N q) = none := by unfold op1; rw [if_neg hsc]
    rw [if_neg hsc] at htk
    rw [hop] at hch
    dsimp only at hch
    rw [wp_bnd, wp_of_eq htk, wp_if]
    refine ⟨fun _ => ?_, fun q => absurd rfl q⟩
    rw [wp_retZ, ← hc, hch]
    exact ⟨Or.inr rfl, fr, rfl, hsq⟩
theorem c_chain1P {A0 A : sa_M Int32} {AP : Nat → PRs} {r0 : PRs} {c1 o1 : Nat} {g1 : Int32 → Int32 → Int32} (hl : l < 5) (b1 : 0 < c1 ∧ c1 < 256 ∧ o1 < 16) (hA0 : wp A0 σ (CPo T N l mv σ r0)) (ra : RAdv N p r0) (hA : ∀ (q : Nat) (mv : List Nat) (σ : sa_St), LSt T N l q mv σ → wp A σ (CPo T N l mv σ (AP q))) (hadv : PAdv N AP) :
    wp (sa_bnd A0 fun v1 =>
if ¬ v1 = 0 then
sa_let (0 : Int32) fun x2 =>
sa_wh1 (fun j15 (x3 : Int32) =>
sa_jn0 (sa_retZ 1) fun j57 =>
if 240 ≤ x3 then
j57
else
sa_bnd (f_X7_take 1 (nI c1)) fun v4 =>
if v4 = 0 then
j57
else
sa_bnd A fun v5 =>
if ¬ v5 = 0 then
sa_bnd (f_X2_add (18 + 3 * l) (nI o1) 0) fun _ =>
sa_let ((x3 + 1) : Int32) fun x6 =>
j15 x6
else
sa_retZ 0) sa_F x2
else
sa_retZ 0) σ (CPo T N l mv σ (chn T N (op1 c1 o1 g1) AP (N + 1) r0)) := by
  obtain ⟨x1, x2, x3⟩ := ra
  rw [wp_bnd]
  refine wp_mono hA0 (fun r τ hr => ?_)
  obtain ⟨fr, hr⟩ := hr
  obtain ⟨q, m⟩ := r0
  cases m with
  | none =>
    obtain ⟨rfl, h2, s, hs, hz⟩ := hr
    rw [chn_none rfl, wp_if]
    refine ⟨fun q => absurd rfl q, fun _ => ?_⟩
    rw [wp_retZ]
    exact ⟨Or.inl rfl, CPo.no fr h2 hs hz⟩
  | some m =>
    obtain ⟨rfl, ls⟩ := hr
    have := (x3 m rfl).1
    rw [wp_if]
    refine ⟨fun _ => ?_, fun q => absurd (show ¬ (1 : Int32) = 0 by decide) q⟩
    rw [wp_let]
    exact wp_mono (c_chain1 hl b1 hA hadv ls (by dsimp only at this; omega)) (fun r υ hr => hr.fr fr)
end CCOND
