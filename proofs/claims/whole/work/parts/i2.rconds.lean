/-! TEXTS: sums and conditions, by the reference, in their depth -/
section RCON
variable {T : Nat → Nat} {N R o d k p g w h m t : Nat} {σ : sa_St}
theorem m_sums : ∀ k n d, d + k = 6 → 3 * k + 3 ≤ n → ∀ (p : Nat) (σ : sa_St), RSt T N R o d p σ → EV g w h m t σ → wp (f_X12_sum n 159) σ (RPo T N R o d g w h m t σ (smD T N k p)) := by
  have key : ∀ (S : Option (Nat → PRs)) (n d : Nat), d ≤ 6 → (S = none → d = 6) → (∀ SP, S = some SP → d < 6 ∧ PAdv N SP ∧ ∀ (q : Nat) (σ : sa_St), RSt T N R o (d + 1) q σ → EV g w h m t σ → wp ((gr_X12_atom n).2.1 159) σ (RPo T N R o (d + 1) g w h m t σ (SP q))) → ∀ (p : Nat) (σ : sa_St), RSt T N R o d p σ → EV g w h m t σ → wp (f_X12_sum (n + 3) 159) σ (RPo T N R o d g w h m t σ (smP T N S p)) := by
    intro S n d hd hn hS p σ hs he
    have advS : ∀ A, S = some A → PAdv N A := fun A e => (hS A e).2.1
    have ha : ∀ (q : Nat) (σ : sa_St), RSt T N R o d q σ → EV g w h m t σ → wp ((gr_X12_atom (n + 1)).1 159) σ (RPo T N R o d g w h m t σ (atm T N S q)) := fun q σ hs he => m_atom (gA := (gr_X12_atom n).1) (gS := (gr_X12_atom n).2.1) (gT := (gr_X12_atom n).2.2) hd hn hS hs he
    have ht : ∀ (q : Nat) (σ : sa_St), RSt T N R o d q σ → EV g w h m t σ → wp ((gr_X12_atom (n + 2)).2.2 159) σ (RPo T N R o d g w h m t σ (tmP T N S q)) := fun q σ hs he => by
      show wp (fb_X12_term (gr_X12_atom (n + 1)).1 (gr_X12_atom (n + 1)).2.1 (gr_X12_atom (n + 1)).2.2 159) _ _
      unfold fb_X12_term
      rw [wp_gd]
      refine ⟨rfl, ?_⟩
      rw [wp_bnd]
      refine wp_mono (ha q σ hs he) (fun v τ hr => ?_)
      refine m_chain (cb := fun y6 x2 x9 j87 => if y6 = 0 then (if ¬ (lg_cmp x9 0) = 0 then sa_bnd (sa_dvL (x2.toInt64) x9) fun v12 => j87 v12 else j87 0) else j87 ((x2.toInt64) * x9)) (c1 := 42) (o1 := 7) (c2 := 47) (o2 := 8) (g1 := mulC) (g2 := divC) (by omega) ha (atm_adv advS) hs.1.2.1 (fun x v K σ Q hK => ?_) (fun x v K σ Q hK => ?_) (atm_adv advS q hs.nb.1).1 hr he
      · show wp (if (0 : Int32) = 0 then _ else _) σ Q
        rw [wp_if]
        refine ⟨fun _ => ?_, fun q => absurd rfl q⟩
        rw [wp_if]
        refine ⟨fun hz => ?_, fun hz => ?_⟩
        · have hz' : v.toInt64 ≠ 0 := fun e => hz (by rw [lg_cmp_eq] at *; exact e)
          rw [wp_bnd, wp_dvL hz']
          refine hK _ ?_
          unfold divC
          rw [if_pos hz]
        · refine hK _ ?_
          unfold divC
          rw [if_neg hz]
      · show wp (if (1 : Int32) = 0 then _ else _) σ Q
        rw [wp_if]
        exact ⟨fun q => absurd q (by decide), fun _ => hK _ rfl⟩
    have advT := (smP_adv (T := T) advS).2
    show wp (fb_X12_sum (gr_X12_atom (n + 2)).1 (gr_X12_atom (n + 2)).2.1 (gr_X12_atom (n + 2)).2.2 159) _ _
    unfold fb_X12_sum
    rw [wp_gd]
    refine ⟨rfl, ?_⟩
    rw [wp_bnd]
    refine wp_mono (ht p σ hs he) (fun v τ hr => ?_)
    refine m_chain (cb := fun y6 x2 x9 j77 => if y6 = 0 then j77 ((x2.toInt64) - x9) else j77 ((x2.toInt64) + x9)) (c1 := 43) (o1 := 5) (c2 := 45) (o2 := 6) (g1 := addC) (g2 := subC) (by omega) ht advT hs.1.2.1 (fun x v K σ Q hK => ?_) (fun x v K σ Q hK => ?_) (advT p hs.nb.1).1 hr he
    · show wp (if (0 : Int32) = 0 then _ else _) σ Q
      rw [wp_if]
      exact ⟨fun _ => hK _ rfl, fun q => absurd rfl q⟩
    · show wp (if (1 : Int32) = 0 then _ else _) σ Q
      rw [wp_if]
      exact ⟨fun q => absurd q (by decide), fun _ => hK _ rfl⟩
  intro k
  induction k with
  | zero =>
    intro n d hd hn p σ hs he
    obtain ⟨n, rfl⟩ : ∃ n', n = n' + 3 := ⟨n - 3, by omega⟩
    exact key none n d (by omega) (fun _ => by omega) (fun SP e => by cases e) p σ hs he
  | succ k ih =>
    intro n d hd hn p σ hs he
    obtain ⟨n, rfl⟩ : ∃ n', n = n' + 3 := ⟨n - 3, by omega⟩
    exact key (some (smD T N k)) n d (by omega) (fun e => by cases e) (fun SP e => by cases e; exact ⟨by omega, smD_adv k, ih n (d + 1) (by omega) (by omega)⟩) p σ hs he
/-- the same of a condition: 0 or 1 -/
def RPb (T : Nat → Nat) (N R o d g w h m t : Nat) (σ : sa_St) (res : PRs) (r : Int32) (τ : sa_St) : Prop := RPo T N R o d g w h m t σ res r τ ∧ (r = 0 ∨ r = 1)
theorem ix3 {c i : Nat} (hc : c < 256) (hi : ixS 3 c = some i) : (i = 0 ∧ c = 61) ∨ (i = 1 ∧ c = 60) ∨ (i = 2 ∧ c = 62) := by
  have h5 : i < 3 := (ix_in hi (by omega)).2
  have h2 : decide ((sa_byt.getD 3 []).getD i 0 = nI c) = true := List.find?_some (p := fun i => decide ((sa_byt.getD 3 []).getD i 0 = nI c)) hi
  have h3 := of_decide_eq_true h2
  match i, h5 with
  | 0, _ => exact Or.inl ⟨rfl, ((nI_eq (a := 61) (b := c) (by omega) (by omega)).mp h3).symm⟩
  | 1, _ => exact Or.inr (Or.inl ⟨rfl, ((nI_eq (a := 60) (b := c) (by omega) (by omega)).mp h3).symm⟩)
  | 2, _ => exact Or.inr (Or.inr ⟨rfl, ((nI_eq (a := 62) (b := c) (by omega) (by omega)).mp h3).symm⟩)
  | n + 3, h5 => omega
theorem m_isSign (ht : RTp T N R o σ) : f_X12_isSign (lkv T N p) σ = some (nI (if (ixS 3 (sgn T N p)).isSome then 1 else 0), σ) := by
  have e61 : (lkv T N p = 61) ↔ sgn T N p = 61 := lkv_eq (c := 61) ht (by omega) (by omega)
  have e60 : (lkv T N p = 60) ↔ sgn T N p = 60 := lkv_eq (c := 60) ht (by omega) (by omega)
  have e62 : (lkv T N p = 62) ↔ sgn T N p = 62 := lkv_eq (c := 62) ht (by omega) (by omega)
  have yes : ixS 3 61 = some 0 ∧ ixS 3 60 = some 1 ∧ ixS 3 62 = some 2 := by decide
  refine run_of ?_
  unfold f_X12_isSign
  rw [wp_jn1, wp_jn0, wp_if, e61]
  refine ⟨fun q => ?_, fun n1 => ?_⟩
  · rw [wp_retZ, q, yes.1]
    exact ⟨Or.inr rfl, rfl, rfl⟩
  · rw [wp_if, e60]
    refine ⟨fun q => ?_, fun n2 => ?_⟩
    · rw [wp_retZ, q, yes.2.1]
      exact ⟨Or.inr rfl, rfl, rfl⟩
    · rw [wp_if, e62]
      refine ⟨fun n3 => ?_, fun q => ?_⟩
      · have hn : ixS 3 (sgn T N p) = none := by
          cases hi : ixS 3 (sgn T N p) with
          | none => rfl
          | some i =>
            have hlt : sgn T N p < 256 := by
              unfold sgn
              split
              · exact (ht.2.2.1 p (by assumption)).2
              · omega
            rcases ix3 hlt hi with ⟨-, e⟩ | ⟨-, e⟩ | ⟨-, e⟩ <;> omega
        rw [wp_retZ, hn]
        exact ⟨Or.inl rfl, rfl, rfl⟩
      · rw [wp_retZ, Decidable.not_not.mp q, yes.2.2]
        exact ⟨Or.inr rfl, rfl, rfl⟩
/-- one against another, both read -/
def cmE (x : List Nat × LWt) (i : Nat) (r : PRs) : PRs := match r.2 with
  | none => r
  | some m2 => (r.1, some (x.1 ++ m2.1 ++ [9 + i], fun a b c d e => cmpC i (x.2 a b c d e) (m2.2 a b c d e)))
theorem m_cmpT {σ0 : sa_St} {r0 : PRs} {y : Int32} (hd : d + k = 6) (hN : r0.1 ≤ 240) (h0 : RPo T N R o d g w h m t σ0 r0 y σ) (he : EV g w h m t σ0) : wp (sa_bnd (sa_rdI 12 159 11) fun v2 =>
if v2 = (-1) then
sa_bnd (f_X12_look 159) fun v3 =>
sa_bnd (f_X12_isSign v3) fun v4 =>
if ¬ v4 = 0 then
sa_bnd (sa_rdI 12 159 10) fun v5 =>
sa_bnd (sa_wrI 12 159 10 (v5 + 1)) fun _ =>
sa_bnd (f_X12_sum 60 159) fun v6 =>
sa_jn1 (fun (y7 : Int32) =>
sa_retZ y7) fun j111 =>
if ¬ v3 = 61 then
if ¬ v3 = 60 then
if y ≤ v6 then
j111 0
else
j111 1
else
if v6 ≤ y then
j111 0
else
j111 1
else
if ¬ y = v6 then
j111 0
else
j111 1
else
sa_bnd (f_X12_fails 159) fun v8 =>
sa_retZ v8
else
sa_retZ 0) σ (RPb T N R o d g w h m t σ0 (cmpR T N k r0)) := by
  obtain ⟨fr, hr⟩ := h0
  obtain ⟨q, mm⟩ := r0
  cases mm with
  | none =>
    have hr' : σ.1 159 11 = nI q := hr
    have h11 : ¬ σ.1 159 11 = -1 := fun e => by
      rw [hr'] at e
      have e' : nI q = mI := e
      rw [eq_mI (by dsimp only at hN; omega)] at e'
      exact e'
    rw [wp_bnd, wp_rdI]
    refine ⟨rfl, ?_⟩
    rw [wp_if]
    refine ⟨fun q => absurd q h11, fun _ => ?_⟩
    rw [wp_retZ]
    exact ⟨Or.inl rfl, ⟨fr, hr⟩, Or.inl rfl⟩
  | some x =>
    obtain ⟨rfl, hs⟩ := hr
    dsimp only at hs hN
    obtain ⟨hlk, hs1, x10⟩ := hs.look
    have hqN := hs.nb.1
    have h240 := hs.1.2.1
    have fr1 : RFr σ0 (sa_upI σ 159 10 (nI q)) := fr.trans (RFr.up (by omega))
    rw [wp_bnd, wp_rdI, hs.2.2.1]
    refine ⟨rfl, ?_⟩
    rw [wp_if]
    refine ⟨fun _ => ?_, fun q => absurd rfl q⟩
    rw [wp_bnd, wp_of_eq hlk, wp_bnd, wp_of_eq (m_isSign hs1.1), wp_if]
    unfold cmpR
    dsimp only
    cases hi : ixS 3 (sgn T N q) with
    | none =>
      refine ⟨fun q => absurd rfl q, fun _ => ?_⟩
      rw [wp_bnd, wp_of_eq (hs1.fail x10), wp_retZ]
      exact ⟨Or.inl rfl, ⟨fr1.trans (RFr.up (by omega)), by dsimp only; rw [upI_self, va_up_self]⟩, Or.inl rfl⟩
    | some i =>
      have hix := ix_in hi (by omega)
      have hin := sgn_in (c := sgn T N q) hix.1 rfl
      have hlt := (hs.1.2.2.1 q hin.1).2
      have e61 : (lkv T N q = 61) ↔ sgn T N q = 61 := lkv_eq (c := 61) hs.1 (by omega) (by omega)
      have e60 : (lkv T N q = 60) ↔ sgn T N q = 60 := lkv_eq (c := 60) hs.1 (by omega) (by omega)
      refine ⟨fun _ => ?_, fun q => absurd (show ¬ nI 1 = 0 by decide) q⟩
      rw [wp_bnd, wp_rdI, x10]
      refine ⟨rfl, ?_⟩
      rw [wp_bnd, wp_wrI, nI_1, upI_two]
      refine ⟨rfl, ?_⟩
      have fr2 : RFr σ0 (sa_upI σ 159 10 (nI (q + 1))) := fr.trans (RFr.up (by omega))
      have hs2 := hs.at (q := q + 1) (by omega)
      rw [wp_bnd]
      refine wp_mono (m_sums k 60 d hd (by omega) _ _ hs2 (he.fr fr2)) (fun v τ hr => ?_)
      obtain ⟨fr3, hr⟩ := hr
      have fr4 := fr2.trans fr3
      generalize smD T N k (bk T N (q + 1)) = r1 at *
      obtain ⟨q1, m1⟩ := r1
      -- what comes of it, whatever was read
      have fin : ∀ b : Int32, b = cmpC i (x.2 g w h m t) v → wp (sa_retZ b) τ (RPb T N R o d g w h m t σ0 (cmE x i (q1, m1))) := by
        intro b hb
        have b01 : b = 0 ∨ b = 1 := by
          rw [hb]
          unfold cmpC
          split
          · split <;> simp
          · split
            · split <;> simp
            · split <;> simp
        rw [wp_retZ]
        refine ⟨b01, ⟨fr4, ?_⟩, b01⟩
        cases m1 with
        | none => exact hr
        | some m1 =>
          obtain ⟨rfl, hs3⟩ := hr
          exact ⟨hb, hs3⟩
      have lt_nle : ∀ a b : Int32, (¬ a ≤ b) ↔ b < a := fun a b => by rw [Int32.le_iff_toInt_le, Int32.lt_iff_toInt_lt]; omega
      show wp _ τ (RPb T N R o d g w h m t σ0 (cmE x i (q1, m1)))
      rw [wp_jn1, wp_if, e61]
      refine ⟨fun n1 => ?_, fun n1 => ?_⟩
      · rw [wp_if, e60]
        refine ⟨fun n2 => ?_, fun n2 => ?_⟩
        · have i2 : i = 2 := by rcases ix3 (by omega) hi with ⟨-, e⟩ | ⟨-, e⟩ | ⟨e, -⟩ <;> omega
          rw [wp_if]
          refine ⟨fun c => fin 0 ?_, fun c => fin 1 ?_⟩
          · unfold cmpC
            rw [if_neg (by omega), if_neg (by omega), if_neg (fun hh => (lt_nle _ _).mpr hh c)]
          · unfold cmpC
            rw [if_neg (by omega), if_neg (by omega), if_pos ((lt_nle _ _).mp c)]
        · have i1 : i = 1 := by rcases ix3 (by omega) hi with ⟨-, e⟩ | ⟨e, -⟩ | ⟨-, e⟩ <;> omega
          rw [wp_if]
          refine ⟨fun c => fin 0 ?_, fun c => fin 1 ?_⟩
          · unfold cmpC
            rw [if_neg (by omega), if_pos i1, if_neg (fun hh => (lt_nle _ _).mpr hh c)]
          · unfold cmpC
            rw [if_neg (by omega), if_pos i1, if_pos ((lt_nle _ _).mp c)]
      · have i0 : i = 0 := by rcases ix3 (by omega) hi with ⟨e, -⟩ | ⟨-, e⟩ | ⟨-, e⟩ <;> omega
        rw [wp_if]
        refine ⟨fun c => fin 0 ?_, fun c => fin 1 ?_⟩
        · unfold cmpC
          rw [if_pos i0, if_neg c]
        · unfold cmpC
          rw [if_pos i0, if_pos (Decidable.not_not.mp c)]
end RCON
