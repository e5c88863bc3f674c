/-! TEXTS: clauses and laws, by the reference -/
/-- what the clauses before have settled -/
def GSt (s : Option Int32) (σ : sa_St) : Prop := σ.1 159 17 = (if s.isSome then 1 else 0) ∧ σ.1 159 14 = s.getD 0 ∧ σ.1 159 13 = 121
def GFr (σ τ : sa_St) : Prop := τ.2 = σ.2 ∧ (∀ j, j ≠ 159 → τ.1 j = σ.1 j) ∧ ∀ k, k < 10 ∨ k = 13 ∨ k = 15 ∨ k = 16 ∨ 17 < k → τ.1 159 k = σ.1 159 k
theorem GFr.rfl' {σ : sa_St} : GFr σ σ := ⟨rfl, fun _ _ => rfl, fun _ _ => rfl⟩
theorem GFr.trans {σ τ υ : sa_St} (h : GFr σ τ) (h2 : GFr τ υ) : GFr σ υ := ⟨h2.1.trans h.1, fun j a => (h2.2.1 j a).trans (h.2.1 j a), fun k a => (h2.2.2 k a).trans (h.2.2 k a)⟩
theorem RFr.g {σ τ : sa_St} (h : RFr σ τ) : GFr σ τ := ⟨h.1, h.2.1, fun k a => h.2.2 k (by omega)⟩
theorem GFr.up {σ : sa_St} {k : Nat} {v : Int32} (hk : k = 14 ∨ k = 17) : GFr σ (sa_upI σ 159 k v) := ⟨rfl, fun j a => by rw [upI_ne a], fun k2 a => by rw [upI_self, va_up_ne _ _ (by omega)]⟩
theorem GSt.fr {s : Option Int32} {σ τ : sa_St} (h : GSt s σ) (hf : RFr σ τ) : GSt s τ := by
  unfold GSt at h ⊢
  rw [hf.2.2 17 (by omega), hf.2.2 14 (by omega), hf.2.2 13 (by omega)]
  exact h
theorem EV.gf {g w h m t : Nat} {σ τ : sa_St} (he : EV g w h m t σ) (hf : GFr σ τ) : EV g w h m t τ := by
  unfold EV at he ⊢
  rw [hf.2.1 163 (by omega)]
  exact he
def clV (g w h m t : Nat) (s : Option Int32) (c : CLs) : Option Int32 := match s with
  | some v => some v
  | none => match c.1 with
    | none => some (c.2.2 g w h m t)
    | some mc => if mc.2 g w h m t = 0 then none else some (c.2.2 g w h m t)
/-- what reading a clause leaves -/
def RCo (T : Nat → Nat) (N R o g w h m t : Nat) (s : Option Int32) (σ : sa_St) (res : Nat × Option CLs) (τ : sa_St) : Prop := GFr σ τ ∧ match res.2 with
  | none => τ.1 159 11 = nI res.1
  | some c => RSt T N R o 0 res.1 τ ∧ GSt (clV g w h m t s c) τ
section RCL
variable {T : Nat → Nat} {N R o d p g w h m t : Nat} {σ : sa_St} {s : Option Int32}
theorem RCo.fr {τ υ : sa_St} {res : Nat × Option CLs} (hp : RCo T N R o g w h m t s τ res υ) (hf : GFr σ τ) : RCo T N R o g w h m t s σ res υ := ⟨hf.trans hp.1, hp.2⟩
theorem m_takeR {c : Nat} {r0 : PRs} {v : Int32} {τ : sa_St} (hc : 0 < c ∧ c < 256) (hn : r0.1 ≤ 240) (hr : RPo T N R o d g w h m t σ r0 v τ) {Q : Int32 → sa_St → Prop} (hno : ∀ υ q, RFr σ υ → υ.1 159 11 = nI q → (q, none) = clR T N c r0 → Q 0 υ) (hyes : ∀ υ q x, RFr σ υ → RSt T N R o d q υ → (q, some x) = clR T N c r0 → v = x.2 g w h m t → Q 1 υ) : wp (f_X12_takes 159 (nI c)) τ Q := by
  obtain ⟨fr, hr⟩ := hr
  obtain ⟨q, mm⟩ := r0
  cases mm with
  | none =>
    have hr' : τ.1 159 11 = nI q := hr
    have h11 : ¬ τ.1 159 11 = -1 := fun e => by
      rw [hr'] at e
      have e' : nI q = mI := e
      rw [eq_mI (by dsimp only at hn; omega)] at e'
      exact e'
    rw [wp_of_eq (m_took h11)]
    exact hno τ q fr hr' rfl
  | some x =>
    obtain ⟨rfl, hs⟩ := hr
    have hs0 := hs
    obtain ⟨a, ⟨p', b1, b2, b3⟩, c1, e⟩ := hs
    have htk := m_takesC a b1 b3 c1 hc.1 hc.2
    dsimp only at b2
    rw [b2] at htk
    by_cases hsg : sgn T N q = c
    · have hin := sgn_in hc.1 hsg
      rw [if_pos hsg] at htk
      rw [wp_of_eq htk]
      refine hyes _ (bk T N (q + 1)) x (fr.trans (RFr.up (by omega))) (hs0.at (by omega)) ?_ rfl
      unfold clR
      dsimp only
      rw [if_pos hsg]
    · rw [if_neg hsg] at htk
      rw [wp_of_eq htk]
      refine hno _ q (fr.trans ((RFr.up (by omega)).trans (RFr.up (by omega)))) (by rw [upI_self, va_up_self]) ?_
      unfold clR
      dsimp only
      rw [if_neg hsg]
/-- a clause read: does it settle -/
theorem m_settle {r0 : PRs} {x8 x9 : Int32} {τ : sa_St} {res : Nat × Option CLs} (hn : r0.1 ≤ 240) (hg : GSt s σ) (hr : RPo T N R o 0 g w h m t σ r0 x9 τ) (h1 : r0.2 = none → res = (r0.1, none)) (h2 : ∀ ms, r0.2 = some ms → ∃ cc : Option (List Nat × LWt), res = (r0.1, some (cc, ms)) ∧ (cc = none → x8 = 1) ∧ ∀ mc, cc = some mc → x8 = mc.2 g w h m t) : wp (sa_bnd (sa_rdI 12 159 11) fun v10 =>
sa_jn0 (sa_ret ()) fun j161 =>
if ¬ v10 = (-1) then
j161
else
sa_bnd (sa_rdI 12 159 17) fun v11 =>
if ¬ v11 = 0 then
j161
else
sa_bnd (sa_rdI 12 159 13) fun v12 =>
if ¬ (121 : Int32) = v12 then
j161
else
if ¬ x8 = 0 then
sa_bnd (sa_wrZ 12 159 17 1) fun _ =>
sa_bnd (sa_wrI 12 159 14 x9) fun _ =>
sa_ret ()
else
j161) τ (fun _ υ => RCo T N R o g w h m t s σ res υ) := by
  obtain ⟨fr, hr⟩ := hr
  obtain ⟨q, mm⟩ := r0
  rw [wp_bnd, wp_rdI]
  refine ⟨rfl, ?_⟩
  rw [wp_jn0, wp_if]
  cases mm with
  | none =>
    have hr' : τ.1 159 11 = nI q := hr
    have h11 : ¬ τ.1 159 11 = -1 := fun e => by
      rw [hr'] at e
      have e' : nI q = mI := e
      rw [eq_mI (by dsimp only at hn; omega)] at e'
      exact e'
    refine ⟨fun _ => ?_, fun q => absurd h11 q⟩
    rw [wp_ret, h1 rfl]
    exact ⟨fr.g, hr'⟩
  | some ms =>
    obtain ⟨rfl, hs⟩ := hr
    dsimp only at hs
    obtain ⟨cc, rfl, hc1, hc2⟩ := h2 ms rfl
    have hg2 := hg.fr fr
    refine ⟨fun q => absurd hs.2.2.1 q, fun _ => ?_⟩
    rw [wp_bnd, wp_rdI, hg2.1]
    refine ⟨rfl, ?_⟩
    rw [wp_if]
    cases s with
    | some v =>
      refine ⟨fun _ => ?_, fun q => absurd (show ¬ (1 : Int32) = 0 by decide) q⟩
      rw [wp_ret]
      exact ⟨fr.g, hs, hg2⟩
    | none =>
      refine ⟨fun q => absurd rfl q, fun _ => ?_⟩
      rw [wp_bnd, wp_rdI, hg2.2.2]
      refine ⟨rfl, ?_⟩
      rw [wp_if]
      refine ⟨fun q => absurd rfl q, fun _ => ?_⟩
      have up : RSt T N R o 0 q (sa_upI (sa_upI τ 159 17 1) 159 14 (ms.2 g w h m t)) := by
        obtain ⟨a, ⟨p', b1, b2, b3⟩, c, e⟩ := hs
        exact ⟨(a.up (by omega)).up (by omega), ⟨p', b1, b2, by rw [upI_self, va_up_ne _ _ (by omega), upI_self, va_up_ne _ _ (by omega)]; exact b3⟩, by rw [upI_self, va_up_ne _ _ (by omega), upI_self, va_up_ne _ _ (by omega)]; exact c, by rw [upI_self, va_up_ne _ _ (by omega), upI_self, va_up_ne _ _ (by omega)]; exact e⟩
      have gs : GSt (some (ms.2 g w h m t)) (sa_upI (sa_upI τ 159 17 1) 159 14 (ms.2 g w h m t)) := ⟨by rw [upI_self, va_up_ne _ _ (by omega), upI_self, va_up_self]; rfl, by rw [upI_self, va_up_self]; rfl, by rw [upI_self, va_up_ne _ _ (by omega), upI_self, va_up_ne _ _ (by omega)]; exact hg2.2.2⟩
      rw [wp_if]
      refine ⟨fun hx => ?_, fun hx => ?_⟩
      · rw [wp_bnd, wp_wrZ]
        refine ⟨⟨rfl, Or.inr rfl⟩, ?_⟩
        rw [wp_bnd, wp_wrI]
        refine ⟨rfl, ?_⟩
        rw [wp_ret]
        refine ⟨fr.g.trans ((GFr.up (Or.inr rfl)).trans (GFr.up (Or.inl rfl))), up, ?_⟩
        have hcv : clV g w h m t none (cc, ms) = some (ms.2 g w h m t) := by
          cases cc with
          | none => rfl
          | some mc =>
            unfold clV
            dsimp only
            rw [if_neg (fun e => hx (by rw [hc2 mc rfl]; exact e))]
        rw [hcv]
        exact gs
      · have hx' := Decidable.not_not.mp hx
        rw [wp_ret]
        refine ⟨fr.g, hs, ?_⟩
        have hcv : clV g w h m t none (cc, ms) = none := by
          cases cc with
          | none => rw [hc1 rfl] at hx'; exact absurd hx' (by decide)
          | some mc =>
            unfold clV
            dsimp only
            rw [if_pos (by rw [← hc2 mc rfl]; exact hx')]
        rw [hcv]
        exact hg2
end RCL
