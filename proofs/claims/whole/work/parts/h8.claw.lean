/-! TEXTS: clauses, laws, as they are read -/
abbrev CLs : Type := Option (List Nat × LWt) × (List Nat × LWt)
def qmR (T : Nat → Nat) (N : Nat) (c : PRs) : Nat × Option CLs := match c.2 with
  | none => (c.1, none)
  | some mc => if sgn T N c.1 = 63 then (match (smD T N 6 (bk T N (c.1 + 1))).2 with
    | none => ((smD T N 6 (bk T N (c.1 + 1))).1, none)
    | some ms => ((smD T N 6 (bk T N (c.1 + 1))).1, some (some mc, ms))) else (c.1, none)
def clQ (T : Nat → Nat) (N q : Nat) : Nat × Option CLs := if sgn T N q = 33 ∨ sgn T N q = 40 then qmR T N (coP T N (unD T N 6) q) else match (smD T N 6 q).2 with
  | none => ((smD T N 6 q).1, none)
  | some m => match ixS 3 (sgn T N (smD T N 6 q).1) with
    | none => ((smD T N 6 q).1, some (none, m))
    | some _ => qmR T N (coF T N (unD T N 6) (trF T N (unD T N 6) (cmpR T N 6 (smD T N 6 q))))
def clP (T : Nat → Nat) (N p : Nat) : Nat × Option CLs := if sgn T N p = 121 then (if sgn T N (bk T N (p + 1)) = 58 then clQ T N (bk T N (bk T N (p + 1) + 1)) else (bk T N (p + 1), none)) else (p, none)
def clM (off : Nat) (c : CLs) : List Nat := match c.1 with
  | none => c.2.1 ++ [4]
  | some mc => mc.1 ++ [16 * (off + mc.1.length + c.2.1.length + 2) + 3] ++ c.2.1 ++ [4]
def lwM (cs : List CLs) : List Nat := cs.foldl (fun mv c => mv ++ clM mv.length c) []
def lwL (T : Nat → Nat) (N : Nat) : Nat → Nat → List CLs → Nat × Option (List CLs)
  | 0, p, _ => (p, none)
  | f + 1, p, acc => match (clP T N p).2 with
    | none => ((clP T N p).1, none)
    | some c => if (clP T N p).1 < N then (if sgn T N (clP T N p).1 = 59 then lwL T N f (bk T N ((clP T N p).1 + 1)) (acc ++ [c]) else ((clP T N p).1, none)) else ((clP T N p).1, some (acc ++ [c]))
/-- a law: where its text fails, or its clauses -/
def lwP (T : Nat → Nat) (N : Nat) : Nat × Option (List CLs) := lwL T N (N + 1) (bk T N 0) []
section CLAW
variable {T : Nat → Nat} {N l p : Nat} {mv : List Nat} {σ : sa_St}
theorem qm_adv {c : PRs} (h : RAdv N p c) : (qmR T N c).1 ≤ N ∧ p ≤ (qmR T N c).1 ∧ ∀ x, (qmR T N c).2 = some x → p + 1 ≤ (qmR T N c).1 ∧ ∀ off, p + (clM off x).length ≤ (qmR T N c).1 + 1 := by
  obtain ⟨a, b, d⟩ := h
  obtain ⟨q, m⟩ := c
  cases m with
  | none => exact ⟨a, b, fun x h => by cases h⟩
  | some mc =>
    have d' := d mc rfl
    dsimp only at a b d'
    unfold qmR
    dsimp only
    by_cases h : sgn T N q = 63
    · rw [if_pos h]
      have hin := sgn_in (c := 63) (by omega) h
      have hge := bk_ge (T := T) (N := N) (p := q + 1)
      have hle := bk_le (T := T) (N := N) (p := q + 1) (by omega)
      obtain ⟨x1, x2, x3⟩ := smD_adv (T := T) (N := N) 6 _ hle
      cases hm : (smD T N 6 (bk T N (q + 1))).2 with
      | none => exact ⟨x1, by dsimp only; omega, fun x h => by cases h⟩
      | some ms =>
        have x3' := x3 ms hm
        refine ⟨x1, by dsimp only; omega, fun x h => ?_⟩
        cases h
        dsimp only
        refine ⟨by omega, fun off => ?_⟩
        unfold clM
        dsimp only
        rw [List.length_append, List.length_append, List.length_append, List.length_singleton, List.length_singleton]
        omega
    · rw [if_neg h]
      exact ⟨a, b, fun x h => by cases h⟩
theorem cq_adv (hp : p ≤ N) : (clQ T N p).1 ≤ N ∧ p ≤ (clQ T N p).1 ∧ ∀ x, (clQ T N p).2 = some x → p + 1 ≤ (clQ T N p).1 ∧ ∀ off, p + (clM off x).length ≤ (clQ T N p).1 + 1 := by
  have hs := smD_adv (T := T) (N := N) 6 p hp
  unfold clQ
  split
  · exact qm_adv (co_adv (un_adv 6) p hp)
  · obtain ⟨x1, x2, x3⟩ := id hs
    cases hm : (smD T N 6 p).2 with
    | none => exact ⟨x1, x2, fun x h => by cases h⟩
    | some m =>
      have x3' := x3 m hm
      dsimp only
      cases hi : ixS 3 (sgn T N (smD T N 6 p).1) with
      | none =>
        refine ⟨x1, x2, fun x h => ?_⟩
        cases h
        refine ⟨by dsimp only; omega, fun off => ?_⟩
        unfold clM
        dsimp only
        rw [List.length_append, List.length_singleton]
        omega
      | some i => exact qm_adv (chF_adv (op1_0 (by omega)) (tr_adv (un_adv 6)) hp (chF_adv (op1_0 (by omega)) (un_adv 6) hp (cmp_adv hs)))
theorem cl_adv' (hp : p ≤ N) : (clP T N p).1 ≤ N ∧ p ≤ (clP T N p).1 ∧ ∀ x, (clP T N p).2 = some x → p + 3 ≤ (clP T N p).1 ∧ ∀ off, p + (clM off x).length + 1 ≤ (clP T N p).1 := by
  unfold clP
  by_cases h : sgn T N p = 121
  · rw [if_pos h]
    have hin := sgn_in (c := 121) (by omega) h
    have hge := bk_ge (T := T) (N := N) (p := p + 1)
    have hle := bk_le (T := T) (N := N) (p := p + 1) (by omega)
    by_cases h2 : sgn T N (bk T N (p + 1)) = 58
    · rw [if_pos h2]
      have hin2 := sgn_in (c := 58) (by omega) h2
      have hge2 := bk_ge (T := T) (N := N) (p := bk T N (p + 1) + 1)
      have hle2 := bk_le (T := T) (N := N) (p := bk T N (p + 1) + 1) (by omega)
      obtain ⟨x1, x2, x3⟩ := cq_adv (T := T) hle2
      refine ⟨x1, by omega, fun x h => ?_⟩
      have := x3 x h
      exact ⟨by omega, fun off => by have := this.2 off; omega⟩
    · rw [if_neg h2]
      exact ⟨hle, by dsimp only; omega, fun x h => by cases h⟩
  · rw [if_neg h]
    exact ⟨hp, Nat.le_refl _, fun x h => by cases h⟩
theorem LSt.patch {A B : List Nat} {x y : Nat} (h : LSt T N l p (A ++ [x] ++ B) σ) : LSt T N l p (A ++ [y] ++ B) (sa_upI σ (19 + 3 * l) A.length (nI y)) := by
  obtain ⟨⟨a, b, c, d, e⟩, hp, h2, hm, hs, hv⟩ := h
  have hlen : (A ++ [y] ++ B).length = (A ++ [x] ++ B).length := by
    rw [List.length_append, List.length_append, List.length_append, List.length_append]
    rfl
  refine ⟨⟨a, b, c, ?_, fun i hi => ?_⟩, hp, ?_, ?_, ?_, fun i hi => ?_⟩
  · rw [upI_ne (by omega)]; exact d
  · rw [upI_ne (by omega)]; exact e i hi
  · rw [upI_ne (by omega)]; exact h2
  · rw [hlen]; exact hm
  · rw [upI_ne (by omega), hlen]; exact hs
  · rw [hlen] at hi
    have hvi := hv i hi
    rw [upI_self]
    rw [List.getD_eq_getElem?_getD, List.append_assoc] at hvi ⊢
    rcases Nat.lt_trichotomy i A.length with h | h | h
    · rw [va_up_ne _ _ (by omega), hvi, List.getElem?_append_left h, List.getElem?_append_left h]
    · subst h
      rw [va_up_self, List.getElem?_append_right (Nat.le_refl _), Nat.sub_self]
      rfl
    · have e1 : (A ++ ([x] ++ B))[i]? = ([x] ++ B)[i - A.length]? := List.getElem?_append_right (by omega)
      have e2 : (A ++ ([y] ++ B))[i]? = ([y] ++ B)[i - A.length]? := List.getElem?_append_right (by omega)
      rw [va_up_ne _ _ (by omega), hvi, e1, e2]
      obtain ⟨w, hw⟩ : ∃ w, i - A.length = w + 1 := ⟨i - A.length - 1, by omega⟩
      rw [hw]
      rfl
/-- what reading a clause leaves -/
def CCo (T : Nat → Nat) (N l : Nat) (mv : List Nat) (σ : sa_St) (res : Nat × Option CLs) (r : Int32) (τ : sa_St) : Prop := LFr l σ τ ∧ match res.2 with
  | none => r = 0 ∧ τ.1 1 2 = nI res.1
  | some c => r = 1 ∧ LSt T N l res.1 (mv ++ clM mv.length c) τ
theorem CCo.fr {τ υ : sa_St} {res : Nat × Option CLs} {r : Int32} (h : CCo T N l mv τ res r υ) (hf : LFr l σ τ) : CCo T N l mv σ res r υ := ⟨hf.trans h.1, h.2⟩
theorem c_quest {mc : List Nat × LWt} {q0 : Nat} (hl : l < 5) (h : LSt T N l p (mv ++ mc.1) σ) (hq0 : mv.length + 2 ≤ q0) (hq : q0 + mc.1.length ≤ p) : wp (sa_bnd (f_X7_take 1 63) fun v6 =>
if ¬ v6 = 0 then
sa_bnd (sa_rdI 2 (18 + 3 * l) 2) fun v7 =>
sa_bnd (f_X2_add (18 + 3 * l) 3 0) fun _ =>
sa_bnd (f_X2_readSum 60 (18 + 3 * l) 1 0) fun v8 =>
if ¬ v8 = 0 then
sa_bnd (f_X2_add (18 + 3 * l) 4 0) fun _ =>
sa_bnd (sa_rdR 2 (18 + 3 * l) 0) fun v9 =>
sa_bnd (sa_len .int v9) fun v10 =>
sa_jn0 (sa_retZ 1) fun j151 =>
if v10 ≤ v7 then
j151
else
sa_bnd (sa_rdR 2 (18 + 3 * l) 0) fun v11 =>
sa_bnd (sa_rdI 2 (18 + 3 * l) 2) fun v12 =>
sa_bnd (sa_stI v11 v7 ((v12 <<< (4 &&& 31)) ||| 3)) fun _ =>
j151
else
sa_retZ 0
else
sa_retZ 0) σ (CCo T N l mv σ (qmR T N (p, some mc))) := by
  have h0 := h
  obtain ⟨ct, hp, h2, hm, hz, hv⟩ := h
  have h240 := ct.2.1
  have htk := c_take (c := 63) ct hp h2 (by omega) (by omega)
  unfold qmR
  dsimp only
  by_cases h63 : sgn T N p = 63
  · have hin := sgn_in (c := 63) (by omega) h63
    have hge := bk_ge (T := T) (N := N) (p := p + 1)
    have hle := bk_le (T := T) (N := N) (p := p + 1) (by omega)
    have ls1 := h0.to (show p ≤ bk T N (p + 1) by omega) hle
    rw [if_pos h63] at htk ⊢
    rw [wp_bnd, wp_of_eq (show f_X7_take 1 63 σ = _ from htk), wp_if]
    refine ⟨fun _ => ?_, fun q => absurd (show ¬ nI 1 = 0 by decide) q⟩
    have hla : (mv ++ mc.1).length = mv.length + mc.1.length := List.length_append
    have hadd := c_addM (a := 0) (o := 3) hl ls1.1.1 (by omega) (by omega) ls1.2.2.2.2.1 (by omega)
    have ls2 := ls1.add (x := 16 * 0 + 3) (by omega)
    rw [wp_bnd, wp_rdI, ls1.2.2.2.2.1]
    refine ⟨sh_law l hl, ?_⟩
    rw [wp_bnd, wp_of_eq (show f_X2_add (18 + 3 * l) 3 0 _ = _ from hadd), wp_bnd]
    obtain ⟨x1, x2, x3⟩ := smD_adv (T := T) (N := N) 6 _ hle
    refine wp_mono (c_sums hl 6 60 0 rfl (by omega) _ _ _ ls2) (fun r τ hr => ?_)
    obtain ⟨fr, hr⟩ := hr
    have fr2 : LFr l σ τ := (LFr.at.trans (LFr.mv.trans LFr.sz)).trans fr
    generalize smD T N 6 (bk T N (p + 1)) = r0 at *
    obtain ⟨q, m⟩ := r0
    cases m with
    | none =>
      obtain ⟨rfl, h2', -⟩ := hr
      rw [wp_if]
      refine ⟨fun q => absurd rfl q, fun _ => ?_⟩
      rw [wp_retZ]
      exact ⟨Or.inl rfl, fr2, rfl, h2'⟩
    | some ms =>
      obtain ⟨rfl, ls3⟩ := hr
      have x3' := x3 ms rfl
      dsimp only at x1 x2 x3' ls3 ⊢
      have hlb : (mv ++ mc.1 ++ [16 * 0 + 3] ++ ms.1).length = mv.length + mc.1.length + 1 + ms.1.length := by
        rw [List.length_append, List.length_append, List.length_append, List.length_singleton]
      have hadd2 := c_addM (a := 0) (o := 4) hl ls3.1.1 (by omega) (by omega) ls3.2.2.2.2.1 (by omega)
      have ls4 := ls3.add (x := 16 * 0 + 4) (by omega)
      have hlc : (mv ++ mc.1 ++ [16 * 0 + 3] ++ ms.1 ++ [16 * 0 + 4]).length = mv.length + mc.1.length + ms.1.length + 2 := by
        rw [List.length_append, hlb, List.length_singleton]
        omega
      rw [wp_if]
      refine ⟨fun _ => ?_, fun q => absurd (show ¬ (1 : Int32) = 0 by decide) q⟩
      rw [wp_bnd, wp_of_eq (show f_X2_add (18 + 3 * l) 4 0 _ = _ from hadd2)]
      have fr3 : LFr l σ (sa_upI (sa_upI τ (19 + 3 * l) (mv ++ mc.1 ++ [16 * 0 + 3] ++ ms.1).length (nI (16 * 0 + 4))) (18 + 3 * l) 2 (nI ((mv ++ mc.1 ++ [16 * 0 + 3] ++ ms.1).length + 1))) := fr2.trans (LFr.mv.trans LFr.sz)
      generalize sa_upI (sa_upI τ (19 + 3 * l) (mv ++ mc.1 ++ [16 * 0 + 3] ++ ms.1).length (nI (16 * 0 + 4))) (18 + 3 * l) 2 (nI ((mv ++ mc.1 ++ [16 * 0 + 3] ++ ms.1).length + 1)) = υ at ls4 fr3 ⊢
      have hsz := ls4.2.2.2.2.1
      rw [hlc] at hsz
      have henc : (nI (mv.length + mc.1.length + ms.1.length + 2) <<< ((4 : Int32) &&& 31)) ||| 3 = nI (16 * (mv.length + mc.1.length + ms.1.length + 2) + 3) := mv_enc (o := 3) (by omega) (by omega)
      rw [hla, wp_bnd, wp_rdR (v := 19 + 3 * l) (sh_law l hl) (sk_law0 ls4.1.1 hl), wp_bnd, wp_lenI (al_law l hl) (by omega), wp_jn0, wp_if, nI_leI (by omega) (by omega)]
      refine ⟨fun q => by omega, fun _ => ?_⟩
      rw [wp_bnd, wp_rdR (v := 19 + 3 * l) (sh_law l hl) (sk_law0 ls4.1.1 hl), wp_bnd, wp_rdI, hsz]
      refine ⟨sh_law l hl, ?_⟩
      rw [henc, wp_bnd, wp_stI (n := mv.length + mc.1.length) (len := 241) (al_law l hl) rfl (by omega) (by omega), wp_retZ]
      rw [List.append_assoc (mv ++ mc.1 ++ [16 * 0 + 3])] at ls4
      have ls5 := ls4.patch (y := 16 * (mv.length + mc.1.length + ms.1.length + 2) + 3)
      rw [hla] at ls5
      refine ⟨Or.inr rfl, fr3.trans LFr.mv, rfl, ?_⟩
      have ea : mv ++ clM mv.length (some mc, ms) = mv ++ mc.1 ++ [16 * (mv.length + mc.1.length + ms.1.length + 2) + 3] ++ (ms.1 ++ [16 * 0 + 4]) := by
        unfold clM
        dsimp only
        rw [show 16 * 0 + 4 = 4 by omega, List.append_assoc, List.append_assoc, List.append_assoc, List.append_assoc]
      dsimp only
      rw [ea]
      exact ls5
  · rw [if_neg h63] at htk ⊢
    rw [wp_bnd, wp_of_eq (show f_X7_take 1 63 σ = _ from htk), wp_if]
    refine ⟨fun q => absurd rfl q, fun _ => ?_⟩
    rw [wp_retZ]
    exact ⟨Or.inl rfl, LFr.rfl', rfl, h2⟩
theorem c_clause (hl : l < 5) (h : LSt T N l p mv σ) : wp (f_X2_readClause (18 + 3 * l) 1) σ (CCo T N l mv σ (clP T N p)) := by
  have h0 := h
  obtain ⟨ct, hp, h2, hm, hz, hv⟩ := h
  have h240 := ct.2.1
  have htk := c_take (c := 121) ct hp h2 (by omega) (by omega)
  have hge := bk_ge (T := T) (N := N) (p := p + 1)
  unfold f_X2_readClause clP
  rw [wp_gd]
  refine ⟨sh_law l hl, ?_⟩
  by_cases h121 : sgn T N p = 121
  · have hin := sgn_in (c := 121) (by omega) h121
    have hle := bk_le (T := T) (N := N) (p := p + 1) (by omega)
    have ls1 := h0.to (show p ≤ bk T N (p + 1) by omega) hle
    rw [if_pos h121] at htk ⊢
    rw [wp_bnd, wp_of_eq (show f_X7_take 1 121 σ = _ from htk), wp_jn0, wp_if]
    refine ⟨fun q => absurd q (by decide), fun _ => ?_⟩
    generalize bk T N (p + 1) = p1 at *
    have fr1 : LFr l σ (sa_upI σ 1 2 (nI p1)) := LFr.at
    generalize sa_upI σ 1 2 (nI p1) = σ1 at *
    have htk2 := c_take (c := 58) ls1.1 ls1.2.1 ls1.2.2.1 (by omega) (by omega)
    by_cases h58 : sgn T N p1 = 58
    · have hin2 := sgn_in (c := 58) (by omega) h58
      have hge2 := bk_ge (T := T) (N := N) (p := p1 + 1)
      have hle2 := bk_le (T := T) (N := N) (p := p1 + 1) (by omega)
      have ls2 := ls1.to (show p1 ≤ bk T N (p1 + 1) by omega) hle2
      rw [if_pos h58] at htk2 ⊢
      rw [wp_bnd, wp_of_eq (show f_X7_take 1 58 σ1 = _ from htk2), wp_if]
      refine ⟨fun _ => ?_, fun q => absurd (show ¬ nI 1 = 0 by decide) q⟩
      generalize bk T N (p1 + 1) = p2 at *
      have fr2 : LFr l σ (sa_upI σ1 1 2 (nI p2)) := fr1.trans LFr.at
      generalize sa_upI σ1 1 2 (nI p2) = σ2 at *
      have hlt := sgn_lt (p := p2) ls2.1
      have hsg := c_sign ls2.1 ls2.2.1 ls2.2.2.1
      have e33 : (nI (sgn T N p2) = 33) ↔ sgn T N p2 = 33 := nI_eq (a := sgn T N p2) (b := 33) (by omega) (by omega)
      have e40 : (nI (sgn T N p2) = 40) ↔ sgn T N p2 = 40 := nI_eq (a := sgn T N p2) (b := 40) (by omega) (by omega)
      have hcs := c_conds (T := T) (N := N) hl
      -- a condition read: then the question
      have quest : ∀ (c : PRs) (r : Int32) (τ : sa_St), LFr l σ τ → RAdv N p2 c → CPo T N l mv τ c r τ → wp (sa_jn0 (sa_retZ 0) fun j98 =>
if r = 0 then
j98
else
sa_bnd (f_X7_take 1 63) fun v6 =>
if ¬ v6 = 0 then
sa_bnd (sa_rdI 2 (18 + 3 * l) 2) fun v7 =>
sa_bnd (f_X2_add (18 + 3 * l) 3 0) fun _ =>
sa_bnd (f_X2_readSum 60 (18 + 3 * l) 1 0) fun v8 =>
if ¬ v8 = 0 then
sa_bnd (f_X2_add (18 + 3 * l) 4 0) fun _ =>
sa_bnd (sa_rdR 2 (18 + 3 * l) 0) fun v9 =>
sa_bnd (sa_len .int v9) fun v10 =>
sa_jn0 (sa_retZ 1) fun j151 =>
if v10 ≤ v7 then
j151
else
sa_bnd (sa_rdR 2 (18 + 3 * l) 0) fun v11 =>
sa_bnd (sa_rdI 2 (18 + 3 * l) 2) fun v12 =>
sa_bnd (sa_stI v11 v7 ((v12 <<< (4 &&& 31)) ||| 3)) fun _ =>
j151
else
sa_retZ 0
else
          j98) τ (CCo T N l mv σ (qmR T N c)) := by
        intro c r τ fr ra hc
        obtain ⟨-, hc⟩ := hc
        obtain ⟨x1, x2, x3⟩ := ra
        obtain ⟨q, m⟩ := c
        cases m with
        | none =>
          obtain ⟨rfl, h2', -⟩ := hc
          rw [wp_jn0, wp_if]
          refine ⟨fun _ => ?_, fun q => absurd rfl q⟩
          rw [wp_retZ]
          exact ⟨Or.inl rfl, fr, rfl, h2'⟩
        | some mc =>
          obtain ⟨rfl, ls3⟩ := hc
          have x3' := x3 mc rfl
          rw [wp_jn0, wp_if]
          refine ⟨fun q => absurd q (by decide), fun _ => ?_⟩
          exact wp_mono (c_quest (q0 := p2) hl ls3 (by omega) x3'.2) (fun r υ hr => hr.fr fr)
      have cond0 : sgn T N p2 = 33 ∨ sgn T N p2 = 40 → wp (sa_bnd (f_X2_readCondition 60 (18 + 3 * l) 1 0 0) fun v5 =>
sa_jn0 (sa_retZ 0) fun j98 =>
if v5 = 0 then
j98
else
sa_bnd (f_X7_take 1 63) fun v6 =>
if ¬ v6 = 0 then
sa_bnd (sa_rdI 2 (18 + 3 * l) 2) fun v7 =>
sa_bnd (f_X2_add (18 + 3 * l) 3 0) fun _ =>
sa_bnd (f_X2_readSum 60 (18 + 3 * l) 1 0) fun v8 =>
if ¬ v8 = 0 then
sa_bnd (f_X2_add (18 + 3 * l) 4 0) fun _ =>
sa_bnd (sa_rdR 2 (18 + 3 * l) 0) fun v9 =>
sa_bnd (sa_len .int v9) fun v10 =>
sa_jn0 (sa_retZ 1) fun j151 =>
if v10 ≤ v7 then
j151
else
sa_bnd (sa_rdR 2 (18 + 3 * l) 0) fun v11 =>
sa_bnd (sa_rdI 2 (18 + 3 * l) 2) fun v12 =>
sa_bnd (sa_stI v11 v7 ((v12 <<< (4 &&& 31)) ||| 3)) fun _ =>
j151
else
sa_retZ 0
else
          j98) σ2 (CCo T N l mv σ (clQ T N p2)) := by
        intro hc
        unfold clQ
        rw [if_pos hc, wp_bnd]
        refine wp_mono (hcs.1 p2 mv σ2 ls2) (fun r τ hr => ?_)
        exact quest _ r τ (fr2.trans hr.1) (co_adv (un_adv 6) p2 ls2.2.1) ⟨LFr.rfl', hr.2⟩
      rw [wp_bnd, wp_of_eq hsg, wp_jn1, wp_jn0, wp_if, e33]
      refine ⟨fun h33 => ?_, fun n33 => ?_⟩
      · rw [wp_jn0, wp_if]
        exact ⟨fun _ => cond0 (Or.inl h33), fun q => absurd rfl q⟩
      · rw [wp_bnd, wp_of_eq hsg, wp_if, e40]
        refine ⟨fun h40 => ?_, fun n40 => ?_⟩
        · rw [wp_jn0, wp_if]
          exact ⟨fun _ => cond0 (Or.inr h40), fun q => absurd rfl q⟩
        · rw [wp_jn0, wp_if]
          refine ⟨fun q => absurd q (by decide), fun _ => ?_⟩
          unfold clQ
          rw [if_neg (show ¬ (sgn T N p2 = 33 ∨ sgn T N p2 = 40) by omega), wp_bnd]
          have ra := smD_adv (T := T) (N := N) 6 p2 ls2.2.1
          refine wp_mono (c_sums hl 6 60 0 rfl (by omega) _ _ _ ls2) (fun r τ hr => ?_)
          obtain ⟨fr, hr⟩ := hr
          have fr3 := fr2.trans fr
          have hra : RAdv N p2 (smD T N 6 p2) := ra
          generalize smD T N 6 p2 = r0 at *
          obtain ⟨q, m⟩ := r0
          cases m with
          | none =>
            obtain ⟨rfl, h2', -⟩ := hr
            rw [wp_if]
            refine ⟨fun q => absurd rfl q, fun _ => ?_⟩
            rw [wp_retZ]
            exact ⟨Or.inl rfl, fr3, rfl, h2'⟩
          | some m =>
            obtain ⟨rfl, ls3⟩ := hr
            have x3' := ra.2.2 m rfl
            dsimp only at ls3 x3' ⊢
            have hlt3 := sgn_lt (p := q) ls3.1
            have hla : (mv ++ m.1).length = mv.length + m.1.length := List.length_append
            rw [wp_if]
            refine ⟨fun _ => ?_, fun q => absurd (show ¬ (1 : Int32) = 0 by decide) q⟩
            rw [wp_bnd, wp_of_eq (c_sign ls3.1 ls3.2.1 ls3.2.2.1), wp_bnd, wp_of_eq (e_ix (j := 3) (by omega) hlt3)]
            cases hi : ixS 3 (sgn T N q) with
            | none =>
              have hadd := c_addM (a := 0) (o := 4) hl ls3.1.1 (by omega) (by omega) ls3.2.2.2.2.1 (by have := ls3.2.1; omega)
              have ls4 := ls3.add (x := 16 * 0 + 4) (by omega)
              rw [wp_if]
              refine ⟨fun q => absurd q (show ¬ (0 : Int32) ≤ mI by decide), fun _ => ?_⟩
              rw [wp_bnd, wp_of_eq (show f_X2_add (18 + 3 * l) 4 0 τ = _ from hadd), wp_retZ]
              refine ⟨Or.inr rfl, fr3.trans (LFr.mv.trans LFr.sz), rfl, ?_⟩
              rw [List.append_assoc] at ls4
              exact ls4
            | some i =>
              have hi3 : i < 3 := (ix_in hi (by omega)).2
              rw [wp_if]
              refine ⟨fun _ => ?_, fun q => absurd (show (0 : Int32) ≤ nI i from nI_le (a := 0) (b := i) (by omega) (by omega)) q⟩
              rw [wp_bnd]
              refine wp_mono (hcs.2 p2 q mv m τ hra ls2.2.1 ls3) (fun r τ2 hr => ?_)
              exact quest _ r τ2 (fr3.trans hr.1) (chF_adv (op1_0 (by omega)) (tr_adv (un_adv 6)) ls2.2.1 (chF_adv (op1_0 (by omega)) (un_adv 6) ls2.2.1 (cmp_adv hra))) ⟨LFr.rfl', hr.2⟩
    · rw [if_neg h58] at htk2 ⊢
      rw [wp_bnd, wp_of_eq (show f_X7_take 1 58 σ1 = _ from htk2), wp_if]
      refine ⟨fun q => absurd rfl q, fun _ => ?_⟩
      rw [wp_retZ]
      exact ⟨Or.inl rfl, fr1, rfl, ls1.2.2.1⟩
  · rw [if_neg h121] at htk ⊢
    rw [wp_bnd, wp_of_eq (show f_X7_take 1 121 σ = _ from htk), wp_jn0, wp_if]
    refine ⟨fun _ => ?_, fun q => absurd rfl q⟩
    rw [wp_retZ]
    exact ⟨Or.inl rfl, LFr.rfl', rfl, h2⟩
end CLAW
