/-! TEXTS: what a law is worth: one move -/
section WTAIL
variable {l : Nat} {σ : sa_St} {j : Int32 → Int32 → sa_M Int32} {Q : Int32 → sa_St → Prop}
theorem clp_if (z : Int64) {P : Int64 → Prop} (h : ∀ y, y.toInt32 = clp z → P y) : ((lg_cmp z 1000000) ≤ 0 → (0 ≤ (lg_cmp z (-1000000)) → P z) ∧ (¬ 0 ≤ (lg_cmp z (-1000000)) → P (-1000000))) ∧ (¬ (lg_cmp z 1000000) ≤ 0 → P 1000000) := by
  have hm : (-1000000 : Int64).toInt = -1000000 := by decide
  have hp : (1000000 : Int64).toInt = 1000000 := by decide
  have c1 : ∀ a b : Int64, (lg_cmp a b ≤ 0) ↔ a.toInt ≤ b.toInt := fun a b => by
    rw [lg_cmp_le, Int64.le_iff_toInt_le]
  have c2 : ∀ a b : Int64, (0 ≤ lg_cmp a b) ↔ b.toInt ≤ a.toInt := fun a b => by
    rw [lg_cmp_ge, Int64.le_iff_toInt_le]
  rw [c1, c2, hm, hp]
  refine ⟨fun a => ⟨fun b => h z ?_, fun b => h _ ?_⟩, fun a => h _ ?_⟩
  · unfold clp
    by_cases e : z < 1000000
    · rw [if_pos e, if_neg (by rw [Int64.lt_iff_toInt_lt, hm]; omega)]
    · have : z = 1000000 := by
        rw [Int64.lt_iff_toInt_lt, hp] at e
        rw [← Int64.toInt_inj, hp]
        omega
      subst this
      decide
  · unfold clp
    rw [if_pos (show z < 1000000 by rw [Int64.lt_iff_toInt_lt, hp]; omega), if_pos (show z < -1000000 by rw [Int64.lt_iff_toInt_lt, hm]; omega)]
  · unfold clp
    rw [if_neg (show ¬ z < 1000000 by rw [Int64.lt_iff_toInt_lt, hp]; omega)]
    decide
theorem w_tail {op s s2 pc : Nat} {z : Int64} (hl : l < 5) (hk : SK σ.2.1) (hop : op < 16) (hs : s < 32) (h2 : s2 = if op < 2 then s + 1 else if op = 2 then s else s - 1) (h1 : 1 ≤ s2) (hpos : ¬ op < 2 → 1 ≤ s) (hQ : wp (j (nI s2) (nI (pc + 1))) (sa_upI σ (20 + 3 * l) (s2 - 1) (clp z)) Q) : wp (wT l j (nI s) (nI op) (nI pc) z) σ Q := by
  have e1 : ((1 : Int32) < nI op) ↔ 1 < op := nI_ltI (a := 1) (b := op) (by omega) (by omega)
  have e2 : (nI op = 2) ↔ op = 2 := nI_eq (a := op) (b := 2) (by omega) (by omega)
  have s32 : s2 ≤ 32 := by
    rw [h2]
    split
    · omega
    · split <;> omega
  have fin : ∀ y : Int32, nI s + y = nI s2 → wp (sa_let ((nI s + y) : Int32) fun x21 =>
sa_jn0 (sa_let ((nI pc + 1) : Int32) fun x22 =>
j x21 x22) fun j436 =>
if x21 ≤ 0 then
j436
else
sa_bnd (sa_rdR 2 (18 + 3 * l) 1) fun v23 =>
sa_jn1 (fun (y24 : Int64) =>
sa_bnd (sa_stI v23 (x21 - 1) (y24.toInt32)) fun _ =>
j436) fun j434 =>
if (lg_cmp z 1000000) ≤ 0 then
if 0 ≤ (lg_cmp z (-1000000)) then
j434 z
else
j434 (-1000000)
else
j434 1000000) σ Q := by
    intro y hy
    have e0 : (nI s2 ≤ 0) ↔ s2 ≤ 0 := nI_leI (a := s2) (b := 0) (by omega) (by omega)
    have es : nI s2 - 1 = nI (s2 - 1) := pk_sub (a := s2) (b := 1) (by omega)
    rw [wp_let, hy, wp_jn0, wp_if, e0]
    refine ⟨fun q => by omega, fun _ => ?_⟩
    rw [wp_bnd, wp_rdR (v := 20 + 3 * l) (sh_law l hl) (sk_law1 hk hl), wp_jn1, es]
    have st : ∀ y : Int64, y.toInt32 = clp z → wp (sa_bnd (sa_stI (20 + 3 * l) (nI (s2 - 1)) (y.toInt32)) fun _ => sa_let ((nI pc + 1) : Int32) fun x22 => j (nI s2) x22) σ Q := fun y hy => by
      rw [wp_bnd, wp_stI (n := s2 - 1) (len := 32) (al_stk l hl) rfl (by omega) (by omega), hy, wp_let, nI_1]
      exact hQ
    have hc := clp_if z (P := fun y => wp (sa_bnd (sa_stI (20 + 3 * l) (nI (s2 - 1)) (y.toInt32)) fun _ => sa_let ((nI pc + 1) : Int32) fun x22 => j (nI s2) x22) σ Q) st
    rw [wp_if]
    refine ⟨fun a => ?_, fun a => hc.2 a⟩
    rw [wp_if]
    exact hc.1 a
  unfold wT
  rw [wp_jn1, wp_if, e1]
  refine ⟨fun c => ?_, fun c => ?_⟩
  · rw [wp_if, e2]
    refine ⟨fun c2 => ?_, fun c2 => ?_⟩
    · refine fin (-1) ?_
      rw [h2, if_neg (by omega), if_neg c2]
      obtain ⟨x, rfl⟩ : ∃ x, s = x + 1 := ⟨s - 1, by have := hpos (by omega); omega⟩
      exact nI_dec x (by omega)
    · refine fin 0 ?_
      rw [h2, if_neg (by omega), if_pos (Decidable.not_not.mp c2)]
      exact nI_add s 0
  · refine fin 1 ?_
    rw [h2, if_pos (by omega)]
    exact nI_add s 1
end WTAIL
