/-! TEXTS: orders, as they are read; by the class -/
abbrev STp : Type := Nat × Int32 × Int32
/-- a digit: where it ends or fails -/
def dgR (T : Nat → Nat) (N p : Nat) : Nat × Option Nat := if isD (sgn T N p) then (bk T N (p + 1), some (T p - 48)) else (p, none)
def stS (T : Nat → Nat) (N t d q : Nat) : Nat × Option STp := if t < 2 then (match (dgR T N q).2 with
    | none => ((dgR T N q).1, none)
    | some e => ((dgR T N q).1, some (t, nI d, nI e))) else (q, some (t, nI d, mI))
def stD (T : Nat → Nat) (N t q : Nat) : Nat × Option STp := if t < 4 then (match (dgR T N q).2 with
    | none => ((dgR T N q).1, none)
    | some d => stS T N t d (dgR T N q).1) else (q, some (t, mI, mI))
/-- a step: where it ends or fails; its sort, its digits -/
def stP (T : Nat → Nat) (N p : Nat) : Nat × Option STp := match ixS 4 (sgn T N p) with
  | none => (p, none)
  | some t => stD T N t (bk T N (p + 1))
def orK (T : Nat → Nat) (N : Nat) (L : Nat → List STp → Nat × Option (List STp)) (q : Nat) (acc : List STp) : Nat × Option (List STp) := if q < N then (if acc.length = 16 then (q, none) else if sgn T N q = 59 then L (bk T N (q + 1)) acc else (q, none)) else (q, some acc)
def orL (T : Nat → Nat) (N : Nat) : Nat → Nat → List STp → Nat × Option (List STp)
  | 0, p, _ => (p, none)
  | f + 1, p, acc => match (stP T N p).2 with
    | none => ((stP T N p).1, none)
    | some s => orK T N (orL T N f) (stP T N p).1 (acc ++ [s])
/-- orders: where their text fails, or their steps -/
def orP (T : Nat → Nat) (N : Nat) : Nat × Option (List STp) := orL T N 17 (bk T N 0) []
def nd (t : Nat) : Nat := if t < 2 then 2 else if t < 4 then 1 else 0
/-- one cell of the orders is new, and the tape stands elsewhere -/
def DFr (A i : Nat) (v : Int32) (σ τ : sa_St) : Prop := τ.2 = σ.2 ∧ (∀ j, j ≠ 1 → j ≠ A → τ.1 j = σ.1 j) ∧ (∀ k, k ≠ 2 → τ.1 1 k = σ.1 1 k) ∧ τ.1 A = va_up (σ.1 A) i v
/-- two rows, and where the tape stands -/
def TFr (A B : Nat) (σ τ : sa_St) : Prop := τ.2 = σ.2 ∧ (∀ j, j ≠ 1 → j ≠ A → j ≠ B → τ.1 j = σ.1 j) ∧ ∀ k, k ≠ 2 → τ.1 1 k = σ.1 1 k
theorem TFr.rfl' {A B : Nat} {σ : sa_St} : TFr A B σ σ := ⟨rfl, fun _ _ _ _ => rfl, fun _ _ => rfl⟩
theorem TFr.trans {A B : Nat} {σ τ υ : sa_St} (h : TFr A B σ τ) (h2 : TFr A B τ υ) : TFr A B σ υ := ⟨h2.1.trans h.1, fun j a b c => (h2.2.1 j a b c).trans (h.2.1 j a b c), fun k a => (h2.2.2 k a).trans (h.2.2 k a)⟩
theorem TFr.at {A B : Nat} {σ : sa_St} {v : Int32} : TFr A B σ (sa_upI σ 1 2 v) := ⟨rfl, fun j a _ _ => by rw [upI_ne a], fun k a => by rw [upI_self, va_up_ne _ _ a]⟩
theorem TFr.a {A B k : Nat} {σ : sa_St} {v : Int32} (h1 : 1 ≠ A) : TFr A B σ (sa_upI σ A k v) := ⟨rfl, fun j _ a _ => by rw [upI_ne a], fun k a => by rw [upI_ne h1]⟩
theorem TFr.b {A B k : Nat} {σ : sa_St} {v : Int32} (h1 : 1 ≠ B) : TFr A B σ (sa_upI σ B k v) := ⟨rfl, fun j _ _ a => by rw [upI_ne a], fun k a => by rw [upI_ne h1]⟩
theorem DFr.t {A B i : Nat} {v : Int32} {σ τ : sa_St} (h : DFr B i v σ τ) : TFr A B σ τ := ⟨h.1, fun j a _ b => h.2.1 j a b, h.2.2.1⟩
theorem CTp.tf {T : Nat → Nat} {N A B : Nat} {σ τ : sa_St} (h : CTp T N σ) (hf : TFr A B σ τ) (hA : A ≠ 2) (hB : B ≠ 2) : CTp T N τ := by
  obtain ⟨a, b, c, d, e⟩ := h
  exact ⟨by rw [hf.1]; exact a, b, c, by rw [hf.2.2 1 (by omega)]; exact d, fun i hi => by rw [hf.2.1 2 (by omega) (by omega) (by omega)]; exact e i hi⟩
theorem sh_ord : ∀ n, n < 5 → sa_sh (34 + 2 * n) = some (.inl 4) := by
  intro n hn
  match n, hn with
  | 0, _ => rfl
  | 1, _ => rfl
  | 2, _ => rfl
  | 3, _ => rfl
  | 4, _ => rfl
  | n + 5, hn => omega
theorem al_ord : ∀ n, n < 5 → sa_al .int (35 + 2 * n) = 48 := by
  intro n hn
  match n, hn with
  | 0, _ => rfl
  | 1, _ => rfl
  | 2, _ => rfl
  | 3, _ => rfl
  | 4, _ => rfl
  | n + 5, hn => omega
theorem sk_ord {ρ : Nat → Nat → Nat} (h : SK ρ) {n : Nat} (hn : n < 5) : ρ (34 + 2 * n) 0 = 35 + 2 * n + 1 := by
  match n, hn with
  | 0, _ => exact sk_34_0 h
  | 1, _ => exact sk_36_0 h
  | 2, _ => exact sk_38_0 h
  | 3, _ => exact sk_40_0 h
  | 4, _ => exact sk_42_0 h
  | n + 5, hn => omega
theorem row5 : ∀ t, t < 6 → (sa_row 5).getD t 0 = nI (nd t) := by decide
/-- the body of a step's loop -/
def oB (n : Nat) (v2 x4 : Int32) (j37 : Int32 → sa_M Int32) (x7 : Int32) : sa_M Int32 :=
if 3 ≤ x7 then
sa_retZ 1
else
sa_bnd (sa_rdR 4 (34 + 2 * n) 0) fun v8 =>
sa_bnd (sa_stI v8 (x4 + x7) (-1)) fun _ =>
sa_bnd (sa_tb 5 v2) fun v9 =>
sa_jn0 (sa_let ((x7 + 1) : Int32) fun x10 =>
j37 x10) fun j90 =>
if v9 < x7 then
j90
else
sa_bnd (sa_rdR 4 (34 + 2 * n) 0) fun v11 =>
sa_bnd (f_X7_takeDigit 1) fun v12 =>
sa_bnd (sa_stI v11 (x4 + x7) v12) fun _ =>
sa_bnd (sa_rdR 4 (34 + 2 * n) 0) fun v13 =>
sa_bnd (sa_ldI .int v13 (x4 + x7)) fun v14 =>
if 0 ≤ v14 then
j90
else
sa_retZ 0
theorem w_step (n : Nat) : f_X4_readStep (34 + 2 * n) 1 = sa_gd 4 (34 + 2 * n) (
sa_bnd (f_X7_sign 1) fun v1 =>
sa_bnd (f_J0_indexOf_0f7a4 (1000 + 4) v1) fun v2 =>
if 0 ≤ v2 then
sa_bnd (f_X7_pass 1) fun _ =>
sa_bnd (sa_rdI 4 (34 + 2 * n) 1) fun v3 =>
sa_let ((v3 * 3) : Int32) fun x4 =>
sa_bnd (sa_rdR 4 (34 + 2 * n) 0) fun v5 =>
sa_bnd (sa_stI v5 x4 v2) fun _ =>
sa_let (1 : Int32) fun x6 =>
sa_wh1 (oB n v2 x4) sa_F x6
else
sa_retZ 0) := rfl
section CORD
variable {T : Nat → Nat} {N n p q : Nat} {σ : sa_St}
theorem dg_adv (hq : q ≤ N) : (dgR T N q).1 ≤ N ∧ q ≤ (dgR T N q).1 ∧ ∀ d, (dgR T N q).2 = some d → d ≤ 9 := by
  unfold dgR
  cases e : isD (sgn T N q) with
  | true =>
    obtain ⟨i1, i2, i3, i4⟩ := isD_in e
    have hge := bk_ge (T := T) (N := N) (p := q + 1)
    have hle := bk_le (T := T) (N := N) (p := q + 1) (by omega)
    rw [if_pos rfl]
    exact ⟨hle, by dsimp only; omega, fun d h => by cases h; omega⟩
  | false =>
    rw [if_neg (by decide)]
    exact ⟨hq, Nat.le_refl _, fun d h => by cases h⟩
theorem c_oD {s x t : Nat} {j : Int32 → sa_M Int32} {Q : Int32 → sa_St → Prop} (hn : n < 5) (ct : CTp T N σ) (hq : q ≤ N) (h2 : σ.1 1 2 = nI q) (hs : s < 16) (hx : x = 1 ∨ x = 2) (ht : t < 6) (hskip : nd t < x → ∀ τ, DFr (35 + 2 * n) (3 * s + x) mI σ τ → τ.1 1 2 = nI q → wp (j (nI (x + 1))) τ Q) (hno : x ≤ nd t → (dgR T N q).2 = none → ∀ τ, DFr (35 + 2 * n) (3 * s + x) mI σ τ → τ.1 1 2 = nI q → Q 0 τ) (hyes : x ≤ nd t → ∀ d, (dgR T N q).2 = some d → ∀ τ, DFr (35 + 2 * n) (3 * s + x) (nI d) σ τ → τ.1 1 2 = nI (dgR T N q).1 → wp (j (nI (x + 1))) τ Q) : wp (oB n (nI t) (nI (3 * s)) j (nI x)) σ Q := by
  have hk := ct.1
  have h240 := ct.2.1
  have e3 : ¬ (3 : Int32) ≤ nI x := fun h => by
    have : 3 ≤ x := (nI_leI (a := 3) (b := x) (by omega) (by omega)).mp h
    omega
  have hnd : nd t ≤ 2 := by unfold nd; split <;> (try split) <;> omega
  have ed : (nI (nd t) < nI x) ↔ nd t < x := nI_ltI (by omega) (by omega)
  unfold oB
  rw [wp_if]
  refine ⟨fun q => absurd q e3, fun _ => ?_⟩
  rw [wp_bnd, wp_rdR (v := 35 + 2 * n) (sh_ord n hn) (sk_ord hk hn), wp_bnd, nI_add, wp_stI (n := 3 * s + x) (len := 48) (al_ord n hn) rfl (by omega) (by omega)]
  have fr1 : DFr (35 + 2 * n) (3 * s + x) mI σ (sa_upI σ (35 + 2 * n) (3 * s + x) (-1)) := ⟨rfl, fun j _ a => by rw [upI_ne a], fun k _ => by rw [upI_ne (by omega)], by rw [upI_self]; rfl⟩
  have h21 : (sa_upI σ (35 + 2 * n) (3 * s + x) (-1)).1 1 2 = nI q := by rw [upI_ne (by omega)]; exact h2
  generalize sa_upI σ (35 + 2 * n) (3 * s + x) (-1) = τ at *
  have ct1 := ct.tf (A := 34) (fr1.t) (by omega) (by omega)
  rw [wp_bnd, wp_tb (n := t) rfl (show t < (sa_row 5).length from ht) (by decide), row5 t ht, wp_jn0, wp_if, ed]
  refine ⟨fun c => ?_, fun c => ?_⟩
  · rw [wp_let, nI_1]
    exact hskip c τ fr1 h21
  · have htd := c_takeD ct1 hq h21
    rw [wp_bnd, wp_rdR (v := 35 + 2 * n) (sh_ord n hn) (sk_ord ct1.1 hn), wp_bnd]
    have hdg : dgR T N q = if isD (sgn T N q) then (bk T N (q + 1), some (T q - 48)) else (q, none) := rfl
    cases e : isD (sgn T N q) with
    | true =>
      obtain ⟨i1, i2, i3, i4⟩ := isD_in e
      rw [e, if_pos rfl] at hdg htd
      rw [wp_of_eq htd]
      rw [wp_bnd, wp_stI (n := 3 * s + x) (len := 48) (al_ord n hn) rfl (by omega) (by omega)]
      have fr2 : DFr (35 + 2 * n) (3 * s + x) (nI (T q - 48)) σ (sa_upI (sa_upI τ 1 2 (nI (bk T N (q + 1)))) (35 + 2 * n) (3 * s + x) (nI (T q - 48))) := ⟨fr1.1, fun j a b => by rw [upI_ne b, upI_ne a]; exact fr1.2.1 j a b, fun k a => by rw [upI_ne (by omega), upI_self, va_up_ne _ _ a]; exact fr1.2.2.1 k a, by rw [upI_self, upI_ne (by omega), fr1.2.2.2, va_up_two]⟩
      have h22 : (sa_upI (sa_upI τ 1 2 (nI (bk T N (q + 1)))) (35 + 2 * n) (3 * s + x) (nI (T q - 48))).1 1 2 = nI (bk T N (q + 1)) := by rw [upI_ne (by omega), upI_self, va_up_self]
      have h23 : (sa_upI (sa_upI τ 1 2 (nI (bk T N (q + 1)))) (35 + 2 * n) (3 * s + x) (nI (T q - 48))).1 (35 + 2 * n) (3 * s + x) = nI (T q - 48) := by rw [upI_self, va_up_self]
      generalize sa_upI (sa_upI τ 1 2 (nI (bk T N (q + 1)))) (35 + 2 * n) (3 * s + x) (nI (T q - 48)) = υ at *
      rw [wp_bnd, wp_rdR (v := 35 + 2 * n) (sh_ord n hn) (by rw [fr2.1]; exact sk_ord hk hn), wp_bnd, wp_ldI (n := 3 * s + x) (len := 48) (al_ord n hn) rfl (by omega) (by omega), h23, wp_if]
      refine ⟨fun _ => ?_, fun q => absurd (nI_pos' (by omega)) q⟩
      rw [wp_let, nI_1]
      exact hyes (by omega) (T q - 48) (by rw [hdg]) υ fr2 (by rw [hdg]; exact h22)
    | false =>
      rw [e, if_neg (show ¬ false = true by decide)] at hdg htd
      rw [wp_of_eq htd]
      rw [wp_bnd, wp_stI (n := 3 * s + x) (len := 48) (al_ord n hn) rfl (by omega) (by omega)]
      have hid : sa_upI τ (35 + 2 * n) (3 * s + x) mI = τ := upI_id (by rw [fr1.2.2.2, va_up_self])
      rw [hid, wp_bnd, wp_rdR (v := 35 + 2 * n) (sh_ord n hn) (sk_ord ct1.1 hn), wp_bnd, wp_ldI (n := 3 * s + x) (len := 48) (al_ord n hn) rfl (by omega) (by omega), fr1.2.2.2, va_up_self, wp_if]
      refine ⟨fun q => absurd q (show ¬ (0 : Int32) ≤ mI by decide), fun _ => ?_⟩
      rw [wp_retZ]
      exact ⟨Or.inl rfl, hno (by omega) (by rw [hdg]) τ fr1 h21⟩
/-- what reading a step leaves -/
def SPo (T : Nat → Nat) (N n s : Nat) (σ : sa_St) (res : Nat × Option STp) (r : Int32) (τ : sa_St) : Prop := TFr (34 + 2 * n) (35 + 2 * n) σ τ ∧ τ.1 1 2 = nI res.1 ∧ τ.1 (34 + 2 * n) = σ.1 (34 + 2 * n) ∧ match res.2 with
  | none => r = 0
  | some x => r = 1 ∧ τ.1 (35 + 2 * n) = va_up (va_up (va_up (σ.1 (35 + 2 * n)) (3 * s) (nI x.1)) (3 * s + 1) x.2.1) (3 * s + 2) x.2.2
theorem st_adv (hp : p ≤ N) : (stP T N p).1 ≤ N ∧ p ≤ (stP T N p).1 ∧ ∀ x, (stP T N p).2 = some x → p < (stP T N p).1 ∧ x.1 < 6 ∧ (if x.1 < 4 then ∃ d, d ≤ 9 ∧ x.2.1 = nI d else x.2.1 = -1) ∧ (if x.1 < 2 then ∃ d, d ≤ 9 ∧ x.2.2 = nI d else x.2.2 = -1) := by
  unfold stP
  cases hi : ixS 4 (sgn T N p) with
  | none => exact ⟨hp, Nat.le_refl _, fun x h => by cases h⟩
  | some t =>
    have hin := sgn_in (c := sgn T N p) (ix_in hi (by omega)).1 rfl
    have ht : t < 6 := (ix_in hi (by omega)).2
    have hge := bk_ge (T := T) (N := N) (p := p + 1)
    have hle := bk_le (T := T) (N := N) (p := p + 1) (by omega)
    generalize bk T N (p + 1) = q at *
    dsimp only
    unfold stD
    by_cases h4 : t < 4
    · rw [if_pos h4]
      obtain ⟨a1, a2, a3⟩ := dg_adv (T := T) hle
      generalize dgR T N q = r0 at *
      obtain ⟨q1, m1⟩ := r0
      cases m1 with
      | none => exact ⟨a1, by dsimp only at a2 ⊢; omega, fun x h => by cases h⟩
      | some d =>
        have a3' := a3 d rfl
        dsimp only at a1 a2 ⊢
        unfold stS
        by_cases h2 : t < 2
        · rw [if_pos h2]
          obtain ⟨b1, b2, b3⟩ := dg_adv (T := T) a1
          generalize dgR T N q1 = r1 at *
          obtain ⟨q2, m2⟩ := r1
          cases m2 with
          | none => exact ⟨b1, by dsimp only at b2 ⊢; omega, fun x h => by cases h⟩
          | some e =>
            have b3' := b3 e rfl
            dsimp only at b1 b2 ⊢
            refine ⟨b1, by omega, fun x h => ?_⟩
            cases h
            dsimp only
            rw [if_pos h4, if_pos h2]
            exact ⟨by omega, ht, ⟨d, a3', rfl⟩, ⟨e, b3', rfl⟩⟩
        · rw [if_neg h2]
          refine ⟨a1, by dsimp only; omega, fun x h => ?_⟩
          cases h
          dsimp only
          rw [if_pos h4, if_neg h2]
          exact ⟨by omega, ht, ⟨d, a3', rfl⟩, rfl⟩
    · rw [if_neg h4]
      refine ⟨hle, by dsimp only; omega, fun x h => ?_⟩
      cases h
      dsimp only
      rw [if_neg h4, if_neg (by omega)]
      exact ⟨by omega, ht, rfl, rfl⟩
theorem wp_un1 {A0 : Type} {b : (A0 → sa_M Int32) → A0 → sa_M Int32} {F : Nat} {a : A0} {σ : sa_St} {Q : Int32 → sa_St → Prop} (h : wp (b (sa_wh1 b F) a) σ Q) : wp (sa_wh1 b (F + 1) a) σ Q := h
theorem c_ostep {s : Nat} (hn : n < 5) (ct : CTp T N σ) (hp : p ≤ N) (h2 : σ.1 1 2 = nI p) (hs : s < 16) (hz : σ.1 (34 + 2 * n) 1 = nI s) : wp (f_X4_readStep (34 + 2 * n) 1) σ (SPo T N n s σ (stP T N p)) := by
  have hlt := sgn_lt (p := p) ct
  rw [w_step, wp_gd]
  refine ⟨sh_ord n hn, ?_⟩
  rw [wp_bnd, wp_of_eq (c_sign ct hp h2), wp_bnd, wp_of_eq (e_ix (j := 4) (by omega) hlt), wp_if]
  unfold stP
  cases hi : ixS 4 (sgn T N p) with
  | none =>
    refine ⟨fun q => absurd q (show ¬ (0 : Int32) ≤ mI by decide), fun _ => ?_⟩
    rw [wp_retZ]
    exact ⟨Or.inl rfl, TFr.rfl', h2, rfl, rfl⟩
  | some t =>
    have hin := sgn_in (c := sgn T N p) (ix_in hi (by omega)).1 rfl
    have ht : t < 6 := (ix_in hi (by omega)).2
    have hle := bk_le (T := T) (N := N) (p := p + 1) (by omega)
    refine ⟨fun _ => ?_, fun q => absurd (show (0 : Int32) ≤ nI t from nI_le (a := 0) (b := t) (by omega) (by omega)) q⟩
    have eo : oI (some t) = nI t := rfl
    rw [eo]
    have e3 : nI s * 3 = nI (3 * s) := by
      have := pk_mul s 3
      rw [Nat.mul_comm] at this
      exact this
    have ct1 := ct.at (q := nI (bk T N (p + 1)))
    rw [wp_bnd, wp_of_eq (c_pass ct hin.1 h2), wp_bnd, wp_rdI, upI_ne (by omega), hz]
    refine ⟨sh_ord n hn, ?_⟩
    rw [wp_let, e3, wp_bnd, wp_rdR (v := 35 + 2 * n) (sh_ord n hn) (sk_ord ct1.1 hn), wp_bnd, wp_stI (n := 3 * s) (len := 48) (al_ord n hn) rfl (by omega) (by omega), wp_let]
    have fr0 : TFr (34 + 2 * n) (35 + 2 * n) σ (sa_upI (sa_upI σ 1 2 (nI (bk T N (p + 1)))) (35 + 2 * n) (3 * s) (nI t)) := TFr.at.trans (TFr.b (by omega))
    have p0 : (sa_upI (sa_upI σ 1 2 (nI (bk T N (p + 1)))) (35 + 2 * n) (3 * s) (nI t)).1 1 2 = nI (bk T N (p + 1)) := by rw [upI_ne (by omega), upI_self, va_up_self]
    have z0 : (sa_upI (sa_upI σ 1 2 (nI (bk T N (p + 1)))) (35 + 2 * n) (3 * s) (nI t)).1 (34 + 2 * n) = σ.1 (34 + 2 * n) := by rw [upI_ne (by omega), upI_ne (by omega)]
    have r0 : (sa_upI (sa_upI σ 1 2 (nI (bk T N (p + 1)))) (35 + 2 * n) (3 * s) (nI t)).1 (35 + 2 * n) = va_up (σ.1 (35 + 2 * n)) (3 * s) (nI t) := by rw [upI_self, upI_ne (by omega)]
    generalize sa_upI (sa_upI σ 1 2 (nI (bk T N (p + 1)))) (35 + 2 * n) (3 * s) (nI t) = τ0 at *
    generalize bk T N (p + 1) = q at *
    have ct2 := ct.tf fr0 (by omega) (by omega)
    show wp (sa_wh1 (oB n (nI t) (nI (3 * s))) sa_F 1) τ0 (SPo T N n s σ (stD T N t q))
    obtain ⟨F, hF⟩ : ∃ F, sa_F = F + 3 := ⟨sa_F - 3, by unfold sa_F; omega⟩
    have fin : ∀ (F : Nat) (τ : sa_St) (Q : Int32 → sa_St → Prop), Q 1 τ → wp (sa_wh1 (oB n (nI t) (nI (3 * s))) (F + 1) (nI 3)) τ Q := fun F τ Q hQ => by
      refine wp_un1 ?_
      unfold oB
      rw [wp_if]
      refine ⟨fun _ => ?_, fun q => absurd (show (3 : Int32) ≤ nI 3 by decide) q⟩
      rw [wp_retZ]
      exact ⟨Or.inr rfl, hQ⟩
    rw [hF]
    unfold stD
    refine wp_un1 ?_
    refine c_oD (x := 1) hn ct2 hle p0 hs (by omega) ht (fun c τ f1 h1 => ?_) (fun c e τ f1 h1 => ?_) (fun c d e τ f1 h1 => ?_)
    · -- no digit
      have n4 : ¬ t < 4 := fun h => by unfold nd at c; split at c <;> omega
      have ct3 := ct2.tf (A := 34 + 2 * n) f1.t (by omega) (by omega)
      rw [if_neg n4]
      refine wp_un1 ?_
      refine c_oD (x := 2) hn ct3 hle h1 hs (by omega) ht (fun _ υ f2 h3 => ?_) (fun c2 _ _ _ _ => by omega) (fun c2 _ _ _ _ _ => by omega)
      refine fin F υ _ ⟨fr0.trans (f1.t.trans f2.t), h3, ?_, rfl, ?_⟩
      · rw [f2.2.1 _ (by omega) (by omega), f1.2.1 _ (by omega) (by omega)]; exact z0
      · rw [f2.2.2.2, f1.2.2.2, r0]
    · have h4 : t < 4 := by
        by_cases h : t < 4
        · exact h
        · unfold nd at c; rw [if_neg (by omega), if_neg h] at c; omega
      have hq1 : (dgR T N q).1 = q := by
        unfold dgR at e ⊢
        cases e0 : isD (sgn T N q) with
        | true => rw [e0] at e; cases e
        | false => rfl
      rw [if_pos h4, e]
      refine ⟨fr0.trans f1.t, ?_, ?_, rfl⟩
      · dsimp only; rw [hq1]; exact h1
      · rw [f1.2.1 _ (by omega) (by omega)]; exact z0
    · have h4 : t < 4 := by
        by_cases h : t < 4
        · exact h
        · unfold nd at c; rw [if_neg (by omega), if_neg h] at c; omega
      have ct3 := ct2.tf (A := 34 + 2 * n) f1.t (by omega) (by omega)
      have ad := (dg_adv (T := T) hle).1
      rw [if_pos h4, e]
      dsimp only
      generalize (dgR T N q).1 = q1 at *
      unfold stS
      refine wp_un1 ?_
      refine c_oD (x := 2) hn ct3 ad h1 hs (by omega) ht (fun c2 υ f2 h3 => ?_) (fun c2 e2 υ f2 h3 => ?_) (fun c2 d2 e2 υ f2 h3 => ?_)
      · have n2 : ¬ t < 2 := fun h => by unfold nd at c2; rw [if_pos h] at c2; omega
        rw [if_neg n2]
        refine fin F υ _ ⟨fr0.trans (f1.t.trans f2.t), h3, ?_, rfl, ?_⟩
        · rw [f2.2.1 _ (by omega) (by omega), f1.2.1 _ (by omega) (by omega)]; exact z0
        · rw [f2.2.2.2, f1.2.2.2, r0]
      · have h2 : t < 2 := by
          by_cases h : t < 2
          · exact h
          · unfold nd at c2; rw [if_neg h] at c2; split at c2 <;> omega
        have hq1 : (dgR T N q1).1 = q1 := by
          unfold dgR at e2 ⊢
          cases e0 : isD (sgn T N q1) with
          | true => rw [e0] at e2; cases e2
          | false => rfl
        rw [if_pos h2, e2]
        refine ⟨fr0.trans (f1.t.trans f2.t), ?_, ?_, rfl⟩
        · dsimp only; rw [hq1]; exact h3
        · rw [f2.2.1 _ (by omega) (by omega), f1.2.1 _ (by omega) (by omega)]; exact z0
      · have h2 : t < 2 := by
          by_cases h : t < 2
          · exact h
          · unfold nd at c2; rw [if_neg h] at c2; split at c2 <;> omega
        rw [if_pos h2, e2]
        refine fin F υ _ ⟨fr0.trans (f1.t.trans f2.t), h3, ?_, rfl, ?_⟩
        · rw [f2.2.1 _ (by omega) (by omega), f1.2.1 _ (by omega) (by omega)]; exact z0
        · rw [f2.2.2.2, f1.2.2.2, r0]
end CORD
