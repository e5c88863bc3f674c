/-! TEXTS: lands, by the reference: clauses -/
/-- a land's draft as the reference holds it -/
def RLd (l : LDr) (σ : sa_St) : Prop := ∀ k, k < 4 → σ.1 159 (28 + k) = nI (l k).length ∧ ∀ x, x < (l k).length → ∀ i, i < cntI k → σ.1 (arK k) (cntI k * x + i) = (l k).getD x (fun _ => 0) i
def VFr (σ τ : sa_St) : Prop := τ.2 = σ.2 ∧ (∀ j, j ≠ 159 → j ≠ 165 → j ≠ 167 → j ≠ 168 → j ≠ 170 → τ.1 j = σ.1 j) ∧ ∀ k, k < 10 ∨ (12 < k ∧ k < 28) ∨ 31 < k → τ.1 159 k = σ.1 159 k
theorem VFr.rfl' {σ : sa_St} : VFr σ σ := ⟨rfl, fun _ _ _ _ _ _ => rfl, fun _ _ => rfl⟩
theorem VFr.trans {σ τ υ : sa_St} (h : VFr σ τ) (h2 : VFr τ υ) : VFr σ υ := ⟨h2.1.trans h.1, fun j a b c d e => (h2.2.1 j a b c d e).trans (h.2.1 j a b c d e), fun k a => (h2.2.2 k a).trans (h.2.2 k a)⟩
theorem RFr.v {σ τ : sa_St} (h : RFr σ τ) : VFr σ τ := ⟨h.1, fun j a _ _ _ _ => h.2.1 j a, fun k a => h.2.2 k (by omega)⟩
theorem VFr.f {σ : sa_St} {k : Nat} {v : Int32} (hk : 28 ≤ k ∧ k ≤ 31) : VFr σ (sa_upI σ 159 k v) := ⟨rfl, fun j a _ _ _ _ => by rw [upI_ne a], fun k2 a => by rw [upI_self, va_up_ne _ _ (by omega)]⟩
theorem ar_ok : ∀ k, k < 4 → (arK k ≠ 159 ∧ arK k ≠ 160 ∧ arK k ≠ 161) ∧ (arK k = 165 ∨ arK k = 167 ∨ arK k = 168 ∨ arK k = 170) ∧ ∀ j, j < 4 → j ≠ k → arK j ≠ arK k := by decide
theorem al_ar : ∀ k, k < 4 → sa_al .int (arK k) = cntI k * mxK k := by
  intro k hk
  match k, hk with
  | 0, _ => rfl
  | 1, _ => rfl
  | 2, _ => rfl
  | 3, _ => rfl
  | n + 4, hk => omega
theorem cm60 : ∀ k, k < 4 → cntI k * mxK k < 1000 := by decide
theorem JFr.v {k : Nat} {σ τ : sa_St} (hk : k < 4) (h : JFr (arK k) σ τ) : VFr σ τ := ⟨h.1, fun j a b c d e => h.2.1 j a (by rcases (ar_ok k hk).2.1 with q | q | q | q <;> omega), fun k a => h.2.2 k (by omega)⟩
theorem ch1 : ∀ k, k < 4 → ixS 1 (chK k) = some k ∧ chK k < 256 ∧ 0 < chK k := by decide
theorem byt1 : ∀ k, k < 4 → (sa_byt.getD 1 []).getD k 0 = nI (chK k) := by decide
theorem ch_of {c k : Nat} (hc : c < 256) (h : ixS 1 c = some k) : c = chK k := by
  have hk := ix1 h
  have h2 : decide ((sa_byt.getD 1 []).getD k 0 = nI c) = true := List.find?_some (p := fun i => decide ((sa_byt.getD 1 []).getD i 0 = nI c)) h
  have h3 := of_decide_eq_true h2
  rw [byt1 k hk] at h3
  have h4 := (ch1 k hk).2.1
  exact ((nI_eq (by omega) (by omega)).mp h3).symm
section MLAND
variable {T : Nat → Nat} {N R o d p : Nat} {σ : sa_St} {l : LDr}
theorem RSt.fld (hs : RSt T N R o d p σ) {k : Nat} {v : Int32} (hk : 12 < k) : RSt T N R o d p (sa_upI σ 159 k v) := by
  obtain ⟨a, ⟨p', u1, u2, u3⟩, h11, h12⟩ := hs
  exact ⟨a.up (by omega), ⟨p', u1, u2, by rw [upI_self, va_up_ne _ _ (by omega)]; exact u3⟩, by rw [upI_self, va_up_ne _ _ (by omega)]; exact h11, by rw [upI_self, va_up_ne _ _ (by omega)]; exact h12⟩
theorem m_cl1 {k q rf : Nat} (hk : k < 4) (hrf : σ.2.1 159 rf = arK k + 1) (hs : RSt T N R o d q σ) (hl : LOk l) (hd : RLd l σ) (hm : (l k).length < mxK k) : wp (sa_bnd (sa_rdI 12 159 (28 + k)) fun v4 =>
sa_bnd (sa_wrI 12 159 (28 + k) (v4 + 1)) fun _ =>
sa_bnd (sa_rdR 12 159 rf) fun v5 =>
sa_bnd (sa_rdI 12 159 (28 + k)) fun v6 =>
sa_bnd (f_X12_readItems 159 (nI (chK k)) v5 (nI (cntI k) * (v6 - 1)) (1000 + (6 + k))) fun _ =>
sa_ret ()) σ (fun _ τ => VFr σ τ ∧ match (itP T N k q).2 with
    | none => τ.1 159 11 = nI (itP T N k q).1
    | some v => RSt T N R o d (itP T N k q).1 τ ∧ RLd (l.add k v) τ) := by
  have m12 := mx12 k hk
  obtain ⟨ar1, ar2, ar3⟩ := ar_ok k hk
  have hoff : cntI k * (l k).length + cntI k ≤ cntI k * mxK k := by
    have := Nat.mul_le_mul_left (cntI k) (show (l k).length + 1 ≤ mxK k by omega)
    rw [Nat.mul_add, Nat.mul_one] at this
    exact this
  rw [wp_bnd, wp_rdI, (hd k hk).1]
  refine ⟨rfl, ?_⟩
  rw [wp_bnd, wp_wrI, nI_1]
  refine ⟨rfl, ?_⟩
  have hs1 := hs.fld (k := 28 + k) (v := nI ((l k).length + 1)) (by omega)
  have fr1 : VFr σ (sa_upI σ 159 (28 + k) (nI ((l k).length + 1))) := VFr.f (by omega)
  have f1 : (sa_upI σ 159 (28 + k) (nI ((l k).length + 1))).1 159 (28 + k) = nI ((l k).length + 1) := by rw [upI_self, va_up_self]
  have fo : ∀ j, j < 4 → j ≠ k → (sa_upI σ 159 (28 + k) (nI ((l k).length + 1))).1 159 (28 + j) = nI (l j).length := fun j hj e => by rw [upI_self, va_up_ne _ _ (by omega)]; exact (hd j hj).1
  have fa : ∀ j, j < 4 → (sa_upI σ 159 (28 + k) (nI ((l k).length + 1))).1 (arK j) = σ.1 (arK j) := fun j hj => upI_ne (ar_ok j hj).1.1
  have hrf1 : (sa_upI σ 159 (28 + k) (nI ((l k).length + 1))).2.1 159 rf = arK k + 1 := hrf
  generalize sa_upI σ 159 (28 + k) (nI ((l k).length + 1)) = σ1 at *
  have eo : nI (cntI k) * (nI ((l k).length + 1) - 1) = nI (cntI k * (l k).length) := by rw [nI_pred, pk_mul]
  rw [wp_bnd, wp_rdR (v := arK k) rfl hrf1, wp_bnd, wp_rdI, f1]
  refine ⟨rfl, ?_⟩
  rw [wp_bnd, eo]
  refine wp_mono (m_items hk ar1 (al_ar k hk) hoff (cm60 k hk) hs1) (fun _ τ hr => ?_)
  obtain ⟨fr2, hout, hr⟩ := hr
  rw [wp_ret]
  refine ⟨fr1.trans (fr2.v hk), ?_⟩
  generalize itP T N k q = r0 at *
  obtain ⟨q1, mm⟩ := r0
  cases mm with
  | none => exact hr
  | some v =>
    obtain ⟨hs2, hrow⟩ := hr
    refine ⟨hs2, fun j hj => ⟨?_, fun x hx i hi => ?_⟩⟩
    · rw [fr2.2.2 (28 + j) (by omega), add_len]
      by_cases e : j = k
      · subst e
        rw [if_pos rfl]
        exact f1
      · rw [if_neg e]
        exact fo j hj e
    · rw [add_len] at hx
      by_cases e : j = k
      · subst e
        rw [if_pos rfl] at hx
        by_cases e2 : x = (l j).length
        · subst e2
          rw [add_new]
          exact hrow i hi
        · have hx2 : x < (l j).length := by omega
          have := Nat.mul_le_mul_left (cntI j) (show x + 1 ≤ (l j).length by omega)
          rw [Nat.mul_add, Nat.mul_one] at this
          rw [add_old hx2, hout _ (by omega), fa j hj]
          exact (hd j hj).2 x hx2 i hi
      · rw [if_neg e] at hx
        rw [add_old hx, fr2.2.1 _ (ar_ok j hj).1.1 (ar3 j hj e), fa j hj]
        exact (hd j hj).2 x hx i hi
theorem m_disp {ex : Int32 → sa_M Unit} {Q : Unit → sa_St → Prop} (ht : RTp T N R o σ) (hl : LOk l) (hd : RLd l σ) (hyes : ((sgn T N p = 112 ∧ (l 0).length < 8) ∨ (sgn T N p = 119 ∧ (l 1).length < 12) ∨ (sgn T N p = 99 ∧ (l 2).length < 5) ∨ (sgn T N p = 102 ∧ (l 3).length < 3)) → wp (ex 1) σ Q) (hno : ¬ ((sgn T N p = 112 ∧ (l 0).length < 8) ∨ (sgn T N p = 119 ∧ (l 1).length < 12) ∨ (sgn T N p = 99 ∧ (l 2).length < 5) ∨ (sgn T N p = 102 ∧ (l 3).length < 3)) → wp (ex 0) σ Q) : wp (sa_jn1 ex fun j68 =>
sa_jn0 (j68 1) fun j63 =>
sa_jn0 (sa_jn0 (sa_jn0 (sa_jn0 (j68 0) fun j67 =>
if ¬ lkv T N p = 102 then
j67
else
sa_bnd (sa_rdI 12 159 31) fun v17 =>
if 3 ≤ v17 then
j67
else
j63) fun j49 =>
if ¬ lkv T N p = 99 then
j49
else
sa_bnd (sa_rdI 12 159 30) fun v18 =>
if v18 < 5 then
j63
else
j49) fun j35 =>
if ¬ lkv T N p = 119 then
j35
else
sa_bnd (sa_rdI 12 159 29) fun v19 =>
if v19 < 12 then
j63
else
j35) fun j20 =>
if ¬ lkv T N p = 112 then
j20
else
sa_bnd (sa_rdI 12 159 28) fun v20 =>
if v20 < 8 then
j63
else
j20) σ Q := by
  have l0 : (l 0).length ≤ 8 := (hl 0 (by omega)).1
  have l1 : (l 1).length ≤ 12 := (hl 1 (by omega)).1
  have l2 : (l 2).length ≤ 5 := (hl 2 (by omega)).1
  have l3 : (l 3).length ≤ 3 := (hl 3 (by omega)).1
  have d0 : σ.1 159 28 = nI (l 0).length := (hd 0 (by omega)).1
  have d1 : σ.1 159 29 = nI (l 1).length := (hd 1 (by omega)).1
  have d2 : σ.1 159 30 = nI (l 2).length := (hd 2 (by omega)).1
  have d3 : σ.1 159 31 = nI (l 3).length := (hd 3 (by omega)).1
  have e112 : (lkv T N p = 112) ↔ sgn T N p = 112 := lkv_eq (c := 112) ht (by omega) (by omega)
  have e119 : (lkv T N p = 119) ↔ sgn T N p = 119 := lkv_eq (c := 119) ht (by omega) (by omega)
  have e99 : (lkv T N p = 99) ↔ sgn T N p = 99 := lkv_eq (c := 99) ht (by omega) (by omega)
  have e102 : (lkv T N p = 102) ↔ sgn T N p = 102 := lkv_eq (c := 102) ht (by omega) (by omega)
  have b0 : (nI (l 0).length < 8) ↔ (l 0).length < 8 := nI_ltI (a := (l 0).length) (b := 8) (by omega) (by omega)
  have b1 : (nI (l 1).length < 12) ↔ (l 1).length < 12 := nI_ltI (a := (l 1).length) (b := 12) (by omega) (by omega)
  have b2 : (nI (l 2).length < 5) ↔ (l 2).length < 5 := nI_ltI (a := (l 2).length) (b := 5) (by omega) (by omega)
  have b3 : ((3 : Int32) ≤ nI (l 3).length) ↔ 3 ≤ (l 3).length := nI_leI (a := 3) (b := (l 3).length) (by omega) (by omega)
  have Kf : ¬ (sgn T N p = 112 ∧ (l 0).length < 8) → ¬ (sgn T N p = 119 ∧ (l 1).length < 12) → ¬ (sgn T N p = 99 ∧ (l 2).length < 5) → wp (sa_jn0 (ex 0) fun j67 =>
if ¬ lkv T N p = 102 then
j67
else
sa_bnd (sa_rdI 12 159 31) fun v17 =>
if 3 ≤ v17 then
j67
else
ex 1) σ Q := by
    intro n0 n1 n2
    rw [wp_jn0, wp_if, e102]
    refine ⟨fun c => hno (by omega), fun c => ?_⟩
    rw [wp_bnd, wp_rdI, d3]
    refine ⟨rfl, ?_⟩
    rw [wp_if, b3]
    exact ⟨fun c2 => hno (by omega), fun c2 => hyes (by omega)⟩
  have Kc : ¬ (sgn T N p = 112 ∧ (l 0).length < 8) → ¬ (sgn T N p = 119 ∧ (l 1).length < 12) → wp (sa_jn0 (sa_jn0 (ex 0) fun j67 =>
if ¬ lkv T N p = 102 then
j67
else
sa_bnd (sa_rdI 12 159 31) fun v17 =>
if 3 ≤ v17 then
j67
else
ex 1) fun j49 =>
if ¬ lkv T N p = 99 then
j49
else
sa_bnd (sa_rdI 12 159 30) fun v18 =>
if v18 < 5 then
ex 1
else
j49) σ Q := by
    intro n0 n1
    rw [wp_jn0, wp_if, e99]
    refine ⟨fun c => Kf n0 n1 (by omega), fun c => ?_⟩
    rw [wp_bnd, wp_rdI, d2]
    refine ⟨rfl, ?_⟩
    rw [wp_if, b2]
    exact ⟨fun c2 => hyes (by omega), fun c2 => Kf n0 n1 (by omega)⟩
  have Kw : ¬ (sgn T N p = 112 ∧ (l 0).length < 8) → wp (sa_jn0 (sa_jn0 (sa_jn0 (ex 0) fun j67 =>
if ¬ lkv T N p = 102 then
j67
else
sa_bnd (sa_rdI 12 159 31) fun v17 =>
if 3 ≤ v17 then
j67
else
ex 1) fun j49 =>
if ¬ lkv T N p = 99 then
j49
else
sa_bnd (sa_rdI 12 159 30) fun v18 =>
if v18 < 5 then
ex 1
else
j49) fun j35 =>
if ¬ lkv T N p = 119 then
j35
else
sa_bnd (sa_rdI 12 159 29) fun v19 =>
if v19 < 12 then
ex 1
else
j35) σ Q := by
    intro n0
    rw [wp_jn0, wp_if, e119]
    refine ⟨fun c => Kc n0 (by omega), fun c => ?_⟩
    rw [wp_bnd, wp_rdI, d1]
    refine ⟨rfl, ?_⟩
    rw [wp_if, b1]
    exact ⟨fun c2 => hyes (by omega), fun c2 => Kc n0 (by omega)⟩
  rw [wp_jn1, wp_jn0, wp_jn0, wp_if, e112]
  refine ⟨fun c => Kw (by omega), fun c => ?_⟩
  rw [wp_bnd, wp_rdI, d0]
  refine ⟨rfl, ?_⟩
  rw [wp_if, b0]
  exact ⟨fun c2 => hyes (by omega), fun c2 => Kw (by omega)⟩
theorem m_lclause (hs : RSt T N R o d p σ) (hl : LOk l) (hd : RLd l σ) : wp (f_X12_readClause 159) σ (fun _ τ => VFr σ τ ∧ match (lcP T N p l).2 with
    | none => τ.1 159 11 = nI (lcP T N p l).1
    | some x => RSt T N R o d (lcP T N p l).1 τ ∧ RLd (l.add x.1 x.2) τ) := by
  obtain ⟨hlk, hs1, x10⟩ := hs.look
  have hpN := hs.nb.1
  have fr1 : RFr σ (sa_upI σ 159 10 (nI p)) := RFr.up (by omega)
  have hlt : sgn T N p < 256 := by
    unfold sgn
    split
    · exact (hs.1.2.2.1 p (by assumption)).2
    · omega
  have hd1 : RLd l (sa_upI σ 159 10 (nI p)) := fun k hk => ⟨by rw [upI_self, va_up_ne _ _ (by omega)]; exact (hd k hk).1, fun x hx i hi => by rw [upI_ne (ar_ok k hk).1.1]; exact (hd k hk).2 x hx i hi⟩
  unfold f_X12_readClause
  rw [wp_gd]
  refine ⟨rfl, ?_⟩
  rw [wp_bnd, wp_of_eq hlk]
  generalize sa_upI σ 159 10 (nI p) = σ1 at *
  have hix : ∀ k, k < 4 → sgn T N p = chK k → ixS 1 (sgn T N p) = some k := fun k hk e => by rw [e]; exact (ch1 k hk).1
  refine m_disp (p := p) hs1.1 hl hd1 (fun hE => ?_) (fun hE => ?_)
  · have key : ∃ k, k < 4 ∧ sgn T N p = chK k ∧ (l k).length < mxK k := by
      rcases hE with h | h | h | h
      · exact ⟨0, by omega, h.1, h.2⟩
      · exact ⟨1, by omega, h.1, h.2⟩
      · exact ⟨2, by omega, h.1, h.2⟩
      · exact ⟨3, by omega, h.1, h.2⟩
    obtain ⟨k, hk, hsg, hm⟩ := key
    have hc1 := ch1 k hk
    have hin := sgn_in hc1.2.2 hsg
    have hlv : lkv T N p = nI (chK k) := by unfold lkv; rw [if_pos hin.1, hin.2]
    rw [wp_if]
    refine ⟨fun _ => ?_, fun q => absurd (show ¬ (1 : Int32) = 0 by decide) q⟩
    rw [wp_bnd, wp_rdI, x10]
    refine ⟨rfl, ?_⟩
    rw [wp_bnd, wp_wrI, nI_1]
    refine ⟨rfl, ?_⟩
    have hs2 := hs1.at (q := p + 1) (by omega)
    have fr2 : RFr σ (sa_upI σ1 159 10 (nI (p + 1))) := fr1.trans (RFr.up (by omega))
    have hd2 : RLd l (sa_upI σ1 159 10 (nI (p + 1))) := fun k hk => ⟨by rw [upI_self, va_up_ne _ _ (by omega)]; exact (hd1 k hk).1, fun x hx i hi => by rw [upI_ne (ar_ok k hk).1.1]; exact (hd1 k hk).2 x hx i hi⟩
    generalize sa_upI σ1 159 10 (nI (p + 1)) = σ2 at *
    have hsk := hs2.1.1
    unfold lcP
    rw [hix k hk hsg]
    dsimp only
    rw [if_pos hm]
    have conv : ∀ τ, (VFr σ2 τ ∧ match (itP T N k (bk T N (p + 1))).2 with
        | none => τ.1 159 11 = nI (itP T N k (bk T N (p + 1))).1
        | some v => RSt T N R o d (itP T N k (bk T N (p + 1))).1 τ ∧ RLd (l.add k v) τ) → (VFr σ τ ∧ match (match (itP T N k (bk T N (p + 1))).2 with
        | none => ((itP T N k (bk T N (p + 1))).1, none)
        | some v => ((itP T N k (bk T N (p + 1))).1, some (k, v)) : Nat × Option (Nat × (Nat → Int32))).2 with
        | none => τ.1 159 11 = nI (match (itP T N k (bk T N (p + 1))).2 with
          | none => ((itP T N k (bk T N (p + 1))).1, none)
          | some v => ((itP T N k (bk T N (p + 1))).1, some (k, v)) : Nat × Option (Nat × (Nat → Int32))).1
        | some x => RSt T N R o d (match (itP T N k (bk T N (p + 1))).2 with
          | none => ((itP T N k (bk T N (p + 1))).1, none)
          | some v => ((itP T N k (bk T N (p + 1))).1, some (k, v)) : Nat × Option (Nat × (Nat → Int32))).1 τ ∧ RLd (l.add x.1 x.2) τ) := fun τ hr => by
      refine ⟨fr2.v.trans hr.1, ?_⟩
      have hr2 := hr.2
      generalize itP T N k (bk T N (p + 1)) = r0 at *
      obtain ⟨q1, mm⟩ := r0
      cases mm with
      | none => exact hr2
      | some v => exact hr2
    have e0 : ∀ {a b : Nat}, a < 256 → b < 256 → ((nI a = nI b) ↔ a = b) := fun ha hb => nI_eq (by omega) (by omega)
    rw [wp_jn0, hlv]
    match k, hk with
    | 0, hk =>
      rw [wp_if]
      refine ⟨fun q => absurd rfl q, fun _ => ?_⟩
      exact wp_mono (m_cl1 (k := 0) (rf := 19) hk (sk_159_19 hsk) hs2 hl hd2 hm) (fun _ τ hr => conv τ hr)
    | 1, hk =>
      rw [wp_if]
      refine ⟨fun _ => ?_, fun q => absurd (show ¬ nI (chK 1) = 112 by decide) q⟩
      rw [wp_if]
      refine ⟨fun q => absurd rfl q, fun _ => ?_⟩
      exact wp_mono (m_cl1 (k := 1) (rf := 21) hk (sk_159_21 hsk) hs2 hl hd2 hm) (fun _ τ hr => conv τ hr)
    | 2, hk =>
      rw [wp_if]
      refine ⟨fun _ => ?_, fun q => absurd (show ¬ nI (chK 2) = 112 by decide) q⟩
      rw [wp_if]
      refine ⟨fun _ => ?_, fun q => absurd (show ¬ nI (chK 2) = 119 by decide) q⟩
      rw [wp_if]
      refine ⟨fun q => absurd rfl q, fun _ => ?_⟩
      exact wp_mono (m_cl1 (k := 2) (rf := 22) hk (sk_159_22 hsk) hs2 hl hd2 hm) (fun _ τ hr => conv τ hr)
    | 3, hk =>
      rw [wp_if]
      refine ⟨fun _ => ?_, fun q => absurd (show ¬ nI (chK 3) = 112 by decide) q⟩
      rw [wp_if]
      refine ⟨fun _ => ?_, fun q => absurd (show ¬ nI (chK 3) = 119 by decide) q⟩
      rw [wp_if]
      refine ⟨fun _ => ?_, fun q => absurd (show ¬ nI (chK 3) = 99 by decide) q⟩
      exact wp_mono (m_cl1 (k := 3) (rf := 24) hk (sk_159_24 hsk) hs2 hl hd2 hm) (fun _ τ hr => conv τ hr)
    | n + 4, hk => omega
  · have hr : lcP T N p l = (p, none) := by
      unfold lcP
      cases hi : ixS 1 (sgn T N p) with
      | none => rfl
      | some k =>
        have hk := ix1 hi
        have hc := ch_of hlt hi
        dsimp only
        refine if_neg (fun hm => hE ?_)
        match k, hk with
        | 0, _ => exact Or.inl ⟨hc, hm⟩
        | 1, _ => exact Or.inr (Or.inl ⟨hc, hm⟩)
        | 2, _ => exact Or.inr (Or.inr (Or.inl ⟨hc, hm⟩))
        | 3, _ => exact Or.inr (Or.inr (Or.inr ⟨hc, hm⟩))
        | n + 4, hk => omega
    rw [wp_if, hr]
    refine ⟨fun q => absurd rfl q, fun _ => ?_⟩
    rw [wp_bnd, wp_of_eq (hs1.fail x10), wp_ret]
    exact ⟨(fr1.trans (RFr.up (by omega))).v, by dsimp only; rw [upI_self, va_up_self]⟩
end MLAND
