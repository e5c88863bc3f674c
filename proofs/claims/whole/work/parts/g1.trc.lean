/-! STREAKS, by the class -/
def ZG (σ τ : sa_St) : Prop := τ.2.1 = σ.2.1 ∧ (∀ j, j ∉ [17, 20, 23, 26, 29, 32] → j ≠ 151 → j ≠ 154 → j ≠ 155 → τ.1 j = σ.1 j) ∧ (∀ k, k ≠ 5 → τ.1 151 k = σ.1 151 k) ∧ ∀ j, 33 ≤ j → τ.2.2 j = σ.2.2 j
theorem ZG.rfl' {σ : sa_St} : ZG σ σ := ⟨rfl, fun _ _ _ _ _ => rfl, fun _ _ => rfl, fun _ _ => rfl⟩
theorem ZG.trans {σ τ υ : sa_St} (h : ZG σ τ) (h2 : ZG τ υ) : ZG σ υ := ⟨h2.1.trans h.1, fun j a b c d => (h2.2.1 j a b c d).trans (h.2.1 j a b c d), fun k a => (h2.2.2.1 k a).trans (h.2.2.1 k a), fun j a => (h2.2.2.2 j a).trans (h.2.2.2 j a)⟩
theorem ZG.ofFr {σ τ : sa_St} (h : Fr [17, 20, 23, 26, 29, 32] σ τ) : ZG σ τ := ⟨h.1, fun j a _ _ _ => (h.2 j a).1, fun k _ => by rw [(h.2 151 (nm_33 151 (by omega))).1], fun j a => (h.2 j (nm_33 j a)).2⟩
theorem ZG.up {σ τ : sa_St} {id k : Nat} {v : Int32} (h : ZG σ τ) (hid : id = 154 ∨ id = 155 ∨ (id = 151 ∧ k = 5)) : ZG σ (sa_upI τ id k v) := by
  refine ⟨h.1, fun j a b c d => ?_, fun k2 a => ?_, h.2.2.2⟩
  · rw [upI_ne (by omega)]
    exact h.2.1 j a b c d
  · rcases hid with rfl | rfl | ⟨rfl, rfl⟩
    · rw [upI_ne (by omega)]; exact h.2.2.1 k2 a
    · rw [upI_ne (by omega)]; exact h.2.2.1 k2 a
    · rw [upI_self, va_up_ne _ _ a]; exact h.2.2.1 k2 a
theorem ZG.dn {σ τ : sa_St} (h : ZG σ τ) : Dn [0] σ τ := by
  refine ⟨fun a b _ _ => by rw [h.1], fun a k g => ?_⟩
  by_cases e : a ∈ [17, 20, 23, 26, 29, 32]
  · simp only [List.mem_cons, List.not_mem_nil, or_false] at e
    rcases e with rfl | rfl | rfl | rfl | rfl | rfl <;> cases g
  · by_cases e1 : a = 151
    · subst e1
      by_cases e5 : k = 5
      · subst e5; cases g
      · exact h.2.2.1 k e5
    · by_cases e2 : a = 154
      · subst e2; cases g
      · by_cases e3 : a = 155
        · subst e3; cases g
        · rw [h.2.1 a e e1 e2 e3]
section TRC
variable {L P W F n : Nat} {f : Nat → LWt} {z : Nat → Int32} {hold : Int32} {sk : Nat → Nat → Int32} {wr md h0 : Nat} {σ τ : sa_St} {rs : List (List Nat)} {row a0 to g nz : Nat} {q : List Nat} {pl fo : Nat → Nat}
theorem TV.zg (h : TV L P W F n f z hold sk wr md h0 σ) (hf : ZG σ τ) : TV L P W F n f z hold sk wr md h0 τ := h.dn hf.dn (hf.2.2.2 175 (by omega)) (by rw [hf.1]) (fun k a b => by rw [hf.2.1 136 (nm_33 136 (by omega)) (by omega) (by omega) (by omega)])
theorem TR.zg (h : TR rs σ) (hf : ZG σ τ) : TR rs τ := h.of (by rw [hf.2.1 136 (nm_33 136 (by omega)) (by omega) (by omega) (by omega)]) (hf.2.1 137 (nm_33 137 (by omega)) (by omega) (by omega) (by omega)) (hf.2.1 138 (nm_33 138 (by omega)) (by omega) (by omega) (by omega))
/-- the streaks -/
def SZ (P nz : Nat) (pl fo : Nat → Nat) (σ : sa_St) : Prop := nz ≤ 8 ∧ σ.1 151 2 = nI nz ∧ ∀ x, x < nz → pl x < P ∧ fo x ≤ 99 ∧ σ.1 152 x = nI (pl x) ∧ σ.1 153 x = nI (fo x)
theorem SZ.zg (h : SZ P nz pl fo σ) (hf : ZG σ τ) : SZ P nz pl fo τ := by
  obtain ⟨a, b, c⟩ := h
  refine ⟨a, (hf.2.2.1 2 (by omega)).trans b, fun x hx => ?_⟩
  rw [hf.2.1 152 (nm_33 152 (by omega)) (by omega) (by omega) (by omega), hf.2.1 153 (nm_33 153 (by omega)) (by omega) (by omega) (by omega)]
  exact c x hx
theorem e_lossAt {p e x : Nat} {Q : Int32 → sa_St → Prop} (hT : TV L P W F n f z hold sk wr md h0 σ) (hp : p < P) (he : e ≤ 900) (hx : x ≤ 99) (hQ : ∀ τ, ZG σ τ → τ.1 154 = σ.1 154 → τ.1 155 = σ.1 155 → τ.1 151 = σ.1 151 → Q (nI (lsS f hold z wr md h0 p e x)) τ) : wp (f_X9_lossAt 136 (nI x) (nI p) (nI e)) σ Q := by
  obtain ⟨hcx, h2, ⟨f6, f7, f8⟩, hch, ⟨hP0, w9, m3, h99⟩, hsk⟩ := hT
  have hz := hcx.zr
  have P8 := hz.1.1
  have hk := hcx.1
  obtain ⟨hh, hh9, ezh⟩ := (hz.2.1 p hp).1
  have ezc : (z (5 * p)).toNatClampNeg = hh := by rw [ezh, nI_clamp (by omega)]
  have hlsd : lsS f hold z wr md h0 p e x = min (WN f hold x wr hh md (h0 + e)) x := by unfold lsS; rw [ezc]
  have fc := e_cell hcx (a := 0) (b := p) (c := 0) (by omega)
  rw [show (0 * 12 + p) * 5 + 0 = 5 * p by omega, ezh] at fc
  unfold f_X9_lossAt
  rw [wp_gd]
  refine ⟨rfl, ?_⟩
  rw [wp_bnd, wp_rdR (v := 15) rfl (sk_136_0 hk), wp_bnd, wp_rdI, f6]
  refine ⟨rfl, ?_⟩
  rw [wp_bnd, wp_rdR (v := L) rfl h2, wp_bnd, wp_of_eq (show f_X1_cell L 0 (nI p) 0 σ = _ from fc), wp_bnd, wp_rdI, f7]
  refine ⟨rfl, ?_⟩
  rw [wp_bnd, wp_rdI, f8]
  refine ⟨rfl, ?_⟩
  rw [nI_add, wp_bnd]
  refine w_loss hk hcx.2.2.2.2.1 hx w9 hh9 m3 (by omega) (fun τ2 hF => ?_)
  rw [hcx.2.2.2.2.2.2, wp_ret, ← hlsd]
  exact hQ τ2 (ZG.ofFr hF) (hF.2 154 (nm_33 154 (by omega))).1 (hF.2 155 (nm_33 155 (by omega))).1 (hF.2 151 (nm_33 151 (by omega))).1
/-- rows by sets: which fit still, what is left, what was lost -/
def Rw (N : Nat) (ok : Nat → Bool) (a o : Nat → Nat) (σ : sa_St) : Prop := ∀ S, S < N → a S ≤ 99 ∧ o S ≤ 99 ∧ σ.1 154 S = (if ok S then nI (a S) else mI) ∧ σ.1 155 S = nI (if ok S then o S else 0)
theorem c_addHour {N b e : Nat} {ok : Nat → Bool} {a o : Nat → Nat} {Q : Unit → sa_St → Prop} (hT : TV L P W F n f z hold sk wr md h0 σ) (hb : b < P) (he : e ≤ 900) (hN : 2 * N ≤ 4096) (h5 : σ.1 151 5 = nI N) (hr : Rw N ok a o σ) (hQ : ∀ τ, ZG σ τ → τ.1 151 5 = nI (2 * N) → (∀ S, S < N → τ.1 154 S = σ.1 154 S ∧ τ.1 155 S = σ.1 155 S ∧ τ.1 154 (N + S) = (if ok S then nI (a S - lsS f hold z wr md h0 b e (a S)) else mI) ∧ τ.1 155 (N + S) = nI (if ok S then o S + lsS f hold z wr md h0 b e (a S) else 0)) → Q () τ) : wp (f_X8_addHour 151 136 (nI b) (nI e)) σ Q := by
  have hk := hT.1.1
  unfold f_X8_addHour
  rw [wp_gd]
  refine ⟨rfl, ?_⟩
  rw [wp_let]
  refine wp_for1 N 0 (fun x τ => ZG σ τ ∧ τ.1 151 5 = nI N ∧ (∀ S, S < N → τ.1 154 S = σ.1 154 S ∧ τ.1 155 S = σ.1 155 S) ∧ ∀ S, S < x → τ.1 154 (N + S) = (if ok S then nI (a S - lsS f hold z wr md h0 b e (a S)) else mI) ∧ τ.1 155 (N + S) = nI (if ok S then o S + lsS f hold z wr md h0 b e (a S) else 0)) ?_ ?_ ⟨ZG.rfl', h5, fun _ _ => ⟨rfl, rfl⟩, fun S hS => by omega⟩ (Nat.zero_le _) (by unfold sa_F; omega)
  · rintro x τ hx ⟨zg, g5, gA, gB⟩ j hj
    have hT1 := hT.zg zg
    have hk1 := hT1.1.1
    obtain ⟨r1, r2, r3, r4⟩ := hr x hx
    obtain ⟨s1, s2⟩ := gA x hx
    rw [r3] at s1
    rw [r4] at s2
    have put : ∀ (y : Nat) (υ : sa_St), ZG σ υ → υ.1 154 = τ.1 154 → υ.1 155 = τ.1 155 → υ.1 151 5 = nI N → (ok x = true → y = lsS f hold z wr md h0 b e (a x)) → (ok x = false → y = 0) → (ok x = true → y ≤ a x) → wp (sa_bnd (sa_rdR 8 151 3) fun v8 =>
sa_bnd (sa_rdI 8 151 5) fun v9 =>
sa_bnd (sa_rdR 8 151 3) fun v10 =>
sa_bnd (sa_ldI .int v10 (nI x)) fun v11 =>
sa_bnd (sa_stI v8 (v9 + nI x) (v11 - nI y)) fun _ =>
sa_bnd (sa_rdR 8 151 4) fun v12 =>
sa_bnd (sa_rdI 8 151 5) fun v13 =>
sa_bnd (sa_rdR 8 151 4) fun v14 =>
sa_bnd (sa_ldI .int v14 (nI x)) fun v15 =>
sa_bnd (sa_stI v12 (v13 + nI x) (v15 + nI y)) fun _ =>
sa_let ((nI x + 1) : Int32) fun x16 =>
j x16) υ Q := by
      intro y υ zg2 e154 e155 e5 hy1 hy0 hyl
      have hk2 := (hT.zg zg2).1.1
      have t1 : υ.1 154 x = (if ok x then nI (a x) else mI) := by rw [e154]; exact s1
      have t2 : υ.1 155 x = nI (if ok x then o x else 0) := by rw [e155]; exact s2
      rw [wp_bnd, wp_rdR (v := 154) rfl (sk_151_3 hk2), wp_bnd, wp_rdI, e5]
      refine ⟨rfl, ?_⟩
      rw [wp_bnd, wp_rdR (v := 154) rfl (sk_151_3 hk2), wp_bnd, wp_ldI (n := x) (len := 4096) al_154 rfl (by omega) (by omega), t1, nI_add, wp_bnd, wp_stI (n := N + x) (len := 4096) al_154 rfl (by omega) (by omega)]
      have v1 : (if ok x then nI (a x) else mI) - nI y = (if ok x then nI (a x - lsS f hold z wr md h0 b e (a x)) else mI) := by
        cases ho : ok x with
        | true =>
          have := hyl ho
          rw [hy1 ho] at this ⊢
          exact pk_sub this
        | false =>
          rw [hy0 ho]
          show mI - nI 0 = mI
          decide
      rw [v1]
      generalize hv : (if ok x then nI (a x - lsS f hold z wr md h0 b e (a x)) else mI) = w1
      have u5 : (sa_upI υ 154 (N + x) w1).1 151 5 = nI N := by rw [upI_ne (by omega)]; exact e5
      have u2 : (sa_upI υ 154 (N + x) w1).1 155 x = nI (if ok x then o x else 0) := by rw [upI_ne (by omega)]; exact t2
      have hk3 : SK (sa_upI υ 154 (N + x) w1).2.1 := hk2
      rw [wp_bnd, wp_rdR (v := 155) rfl (sk_151_4 hk3), wp_bnd, wp_rdI, u5]
      refine ⟨rfl, ?_⟩
      rw [wp_bnd, wp_rdR (v := 155) rfl (sk_151_4 hk3), wp_bnd, wp_ldI (n := x) (len := 4096) al_155 rfl (by omega) (by omega), u2, nI_add, nI_add, wp_bnd, wp_stI (n := N + x) (len := 4096) al_155 rfl (by omega) (by omega), wp_let, nI_1]
      refine hj _ ⟨(zg2.up (Or.inl rfl)).up (Or.inr (Or.inl rfl)), by rw [upI_ne (by omega)]; exact u5, fun S hS => ⟨?_, ?_⟩, fun S hS => ⟨?_, ?_⟩⟩
      · rw [upI_ne (by omega), upI_self, va_up_ne _ _ (by omega), e154]
        exact (gA S hS).1
      · rw [upI_self, va_up_ne _ _ (by omega), upI_ne (by omega), e155]
        exact (gA S hS).2
      · rw [upI_ne (by omega), upI_self]
        by_cases e : S = x
        · subst e; rw [va_up_self, hv]
        · rw [va_up_ne _ _ (by omega), e154]
          exact (gB S (by omega)).1
      · rw [upI_self]
        by_cases e : S = x
        · subst e
          rw [va_up_self]
          cases ho : ok S with
          | true => rw [hy1 ho]; rfl
          | false => rw [hy0 ho]; rfl
        · rw [va_up_ne _ _ (by omega), upI_ne (by omega), e155]
          exact (gB S (by omega)).2
    rw [wp_bnd, wp_rdI, g5]
    refine ⟨rfl, ?_⟩
    rw [wp_if]
    refine ⟨fun q => absurd q (nI_ge hx (by omega)), fun _ => ?_⟩
    rw [wp_bnd, wp_rdR (v := 154) rfl (sk_151_3 hk1), wp_bnd, wp_ldI (n := x) (len := 4096) al_154 rfl (by omega) (by omega), s1, wp_jn1, wp_if]
    have ll : ∀ y, lsS f hold z wr md h0 b e y ≤ y := fun y => Nat.min_le_right _ _
    cases ho : ok x with
    | false =>
      refine ⟨fun _ => ?_, fun q => absurd (show mI ≤ 0 by decide) q⟩
      exact put 0 τ zg rfl rfl g5 (fun h => by rw [ho] at h; cases h) (fun _ => rfl) (fun h => by rw [ho] at h; cases h)
    | true =>
      rw [if_pos rfl]
      refine ⟨fun q => ?_, fun q => ?_⟩
      · have q0 : a x = 0 := by
          rw [L0, nI_leI (by omega) (by omega)] at q
          omega
        exact put 0 τ zg rfl rfl g5 (fun _ => by have := ll (a x); omega) (fun _ => rfl) (fun _ => Nat.zero_le _)
      · rw [ho, if_pos rfl] at s1
        rw [wp_bnd, wp_rdR (v := 154) rfl (sk_151_3 hk1), wp_bnd, wp_ldI (n := x) (len := 4096) al_154 rfl (by omega) (by omega), s1, wp_bnd]
        refine e_lossAt hT1 hb he r1 (fun υ zg2 e154 e155 e151 => ?_)
        exact put _ υ (zg.trans zg2) e154 e155 (by rw [e151]; exact g5) (fun _ => rfl) (fun h => by rw [ho] at h; cases h) (fun _ => ll _)
  · rintro τ ⟨zg, g5, gA, gB⟩ j
    rw [wp_bnd, wp_rdI, g5]
    refine ⟨rfl, ?_⟩
    rw [wp_if]
    refine ⟨fun _ => ?_, fun q => absurd (nI_le (Nat.le_refl _) (by omega)) q⟩
    have e2 : nI N * 2 = nI (2 * N) := (show nI N * nI 2 = _ by rw [pk_mul, Nat.mul_comm])
    rw [wp_bnd, wp_rdI, g5]
    refine ⟨rfl, ?_⟩
    rw [wp_bnd, wp_wrI, e2]
    refine ⟨rfl, ?_⟩
    rw [wp_ret]
    refine hQ _ (zg.up (Or.inr (Or.inr ⟨rfl, rfl⟩))) (by rw [upI_self, va_up_self]) (fun S hS => ?_)
    rw [upI_ne (by omega), upI_ne (by omega)]
    exact ⟨(gA S hS).1, (gA S hS).2, (gB S hS).1, (gB S hS).2⟩
theorem c_compare {N b v : Nat} {ok : Nat → Bool} {a o : Nat → Nat} {Q : Unit → sa_St → Prop} (hk : SK σ.2.1) (hP : P ≤ 8) (hb : b < P) (hv : v ≤ 9) (hN : N ≤ 4096) (h5 : σ.1 151 5 = nI N) (hz : SZ P nz pl fo σ) (hr : Rw N ok a o σ) (hQ : ∀ τ, ZG σ τ → τ.1 151 5 = nI N → Rw N (fun S => ok S && (List.range nz).all (fun x => !(pl x == b) || fo x == o S)) (fun S => a S - v) (fun _ => 0) τ → Q () τ) : wp (f_X8_compare 151 (nI b) (nI v)) σ Q := by
  unfold f_X8_compare
  rw [wp_gd]
  refine ⟨rfl, ?_⟩
  rw [wp_let]
  refine wp_for1 N 0 (fun x τ => ZG σ τ ∧ τ.1 151 5 = nI N ∧ (∀ S, x ≤ S → S < N → τ.1 154 S = σ.1 154 S ∧ τ.1 155 S = σ.1 155 S) ∧ ∀ S, S < x → τ.1 154 S = (if (ok S && (List.range nz).all (fun x => !(pl x == b) || fo x == o S)) then nI (a S - v) else mI) ∧ τ.1 155 S = nI 0) ?_ ?_ ⟨ZG.rfl', h5, fun _ _ _ => ⟨rfl, rfl⟩, fun S hS => by omega⟩ (Nat.zero_le _) (by unfold sa_F; omega)
  · rintro x τ hx ⟨zg, g5, gA, gB⟩ j hj
    have hk1 : SK τ.2.1 := by rw [zg.1]; exact hk
    obtain ⟨z8, z2, z3⟩ := hz.zg zg
    obtain ⟨r1, r2, r3, r4⟩ := hr x hx
    obtain ⟨s1, s2⟩ := gA x (Nat.le_refl _) hx
    rw [r3] at s1
    rw [r4] at s2
    -- what is written in the end
    have put : ∀ c : Bool, c = (ok x && (List.range nz).all (fun y => !(pl y == b) || fo y == o x)) → wp (sa_bnd (sa_rdR 8 151 3) fun v11 =>
sa_jn1 (fun (y12 : Int32) =>
sa_bnd (sa_stI v11 (nI x) y12) fun _ =>
sa_bnd (sa_rdR 8 151 4) fun v13 =>
sa_bnd (sa_stI v13 (nI x) 0) fun _ =>
sa_let ((nI x + 1) : Int32) fun x14 =>
j x14) fun j109 =>
if nI (if c then 1 else 0) = 0 then
j109 (-1)
else
sa_bnd (sa_rdR 8 151 3) fun v15 =>
sa_bnd (sa_ldI .int v15 (nI x)) fun v16 =>
j109 (sa_max 0 (v16 - nI v))) τ Q := by
      intro c hc
      have wr2 : ∀ y : Int32, y = (if (ok x && (List.range nz).all (fun y => !(pl y == b) || fo y == o x)) then nI (a x - v) else mI) → wp (sa_bnd (sa_stI 154 (nI x) y) fun _ => sa_bnd (sa_rdR 8 151 4) fun v13 => sa_bnd (sa_stI v13 (nI x) 0) fun _ => sa_let ((nI x + 1) : Int32) fun x14 => j x14) τ Q := by
        intro y hy
        rw [wp_bnd, wp_stI (n := x) (len := 4096) al_154 rfl (by omega) (by omega), wp_bnd, wp_rdR (v := 155) rfl (sk_151_4 (show SK (sa_upI τ 154 x y).2.1 from hk1)), wp_bnd, wp_stI (n := x) (len := 4096) al_155 rfl (by omega) (by omega), wp_let, nI_1]
        refine hj _ ⟨(zg.up (Or.inl rfl)).up (Or.inr (Or.inl rfl)), by rw [upI_ne (by omega), upI_ne (by omega)]; exact g5, fun S h1 h2 => ⟨?_, ?_⟩, fun S hS => ⟨?_, ?_⟩⟩
        · rw [upI_ne (by omega), upI_self, va_up_ne _ _ (by omega)]
          exact (gA S (by omega) h2).1
        · rw [upI_self, va_up_ne _ _ (by omega), upI_ne (by omega)]
          exact (gA S (by omega) h2).2
        · rw [upI_ne (by omega), upI_self]
          by_cases e : S = x
          · subst e; rw [va_up_self]; exact hy
          · rw [va_up_ne _ _ e]; exact (gB S (by omega)).1
        · rw [upI_self]
          by_cases e : S = x
          · subst e; rw [va_up_self]; rfl
          · rw [va_up_ne _ _ e, upI_ne (by omega)]; exact (gB S (by omega)).2
      rw [wp_bnd, wp_rdR (v := 154) rfl (sk_151_3 hk1), wp_jn1, wp_if]
      cases hcc : c with
      | false =>
        refine ⟨fun _ => wr2 _ ?_, fun q => absurd rfl q⟩
        rw [← hc, hcc]
        rfl
      | true =>
        refine ⟨fun q => absurd q (by decide), fun _ => ?_⟩
        rw [hcc] at hc
        have hox : ok x = true := by
          cases h : ok x with
          | true => rfl
          | false => rw [h] at hc; cases hc
        rw [hox, if_pos rfl] at s1
        have hmx : sa_max 0 (nI (a x) - nI v) = nI (a x - v) := mx_sub (by omega) (by omega)
        rw [wp_bnd, wp_rdR (v := 154) rfl (sk_151_3 hk1), wp_bnd, wp_ldI (n := x) (len := 4096) al_154 rfl (by omega) (by omega), s1, hmx]
        refine wr2 _ ?_
        rw [← hc, if_pos rfl]
    rw [wp_bnd, wp_rdI, g5]
    refine ⟨rfl, ?_⟩
    rw [wp_if]
    refine ⟨fun q => absurd q (nI_ge hx (by omega)), fun _ => ?_⟩
    -- the streaks one by one
    have inner : wp (sa_let (0 : Int32) fun x7 => sa_wh2 (fun j29 (x8 : Int32) (x9 : Int32) =>
sa_bnd (sa_rdI 8 151 2) fun v10 =>
sa_jn0 (sa_bnd (sa_rdR 8 151 3) fun v11 =>
sa_jn1 (fun (y12 : Int32) =>
sa_bnd (sa_stI v11 (nI x) y12) fun _ =>
sa_bnd (sa_rdR 8 151 4) fun v13 =>
sa_bnd (sa_stI v13 (nI x) 0) fun _ =>
sa_let ((nI x + 1) : Int32) fun x14 =>
j x14) fun j109 =>
if x8 = 0 then
j109 (-1)
else
sa_bnd (sa_rdR 8 151 3) fun v15 =>
sa_bnd (sa_ldI .int v15 (nI x)) fun v16 =>
j109 (sa_max 0 (v16 - nI v))) fun j83 =>
if v10 ≤ x9 then
j83
else
if x8 = 0 then
j83
else
sa_bnd (sa_rdR 8 151 0) fun v17 =>
sa_bnd (sa_ldI .int v17 x9) fun v18 =>
sa_jn1 (fun (y19 : Int32) =>
sa_let ((x9 + 1) : Int32) fun x20 =>
j29 y19 x20) fun j75 =>
sa_jn0 (j75 1) fun j70 =>
if ¬ v18 = nI b then
j70
else
sa_bnd (sa_rdR 8 151 1) fun v21 =>
sa_bnd (sa_ldI .int v21 x9) fun v22 =>
sa_bnd (sa_rdR 8 151 4) fun v23 =>
sa_bnd (sa_ldI .int v23 (nI x)) fun v24 =>
if ¬ v22 = v24 then
j75 0
else
j70) sa_F (nI (if ok x then 1 else 0)) x7) τ Q := by
      rw [wp_let]
      refine wp_for2 nz 0 (fun y c υ => υ = τ ∧ c = nI (if (ok x && (List.range y).all (fun y => !(pl y == b) || fo y == o x)) then 1 else 0)) ?_ ?_ ⟨rfl, by rw [List.range_zero, List.all_nil, Bool.and_true]⟩ (Nat.zero_le _) (by unfold sa_F; omega)
      · rintro y c υ hy ⟨rfl, rfl⟩ j2 hj2
        obtain ⟨y1, y2, y3, y4⟩ := z3 y hy
        have hs : (List.range (y + 1)).all (fun y => !(pl y == b) || fo y == o x) = ((List.range y).all (fun y => !(pl y == b) || fo y == o x) && (!(pl y == b) || fo y == o x)) := by
          rw [List.range_succ, List.all_append]
          simp
        rw [hs] at hj2
        rw [wp_bnd, wp_rdI, z2]
        refine ⟨rfl, ?_⟩
        rw [wp_jn0, wp_if]
        refine ⟨fun q => absurd q (nI_ge hy (by omega)), fun _ => ?_⟩
        rw [wp_if]
        refine ⟨fun q => ?_, fun q => ?_⟩
        · have q0 : (ok x && (List.range y).all (fun y => !(pl y == b) || fo y == o x)) = false := by
            cases h : (ok x && (List.range y).all (fun y => !(pl y == b) || fo y == o x)) with
            | false => rfl
            | true => rw [h] at q; exact absurd q (by decide)
          rw [q0]
          refine put false ?_
          cases h1 : ok x with
          | false => rfl
          | true =>
            rw [h1, Bool.true_and] at q0
            rw [Bool.true_and]
            cases h2 : (List.range nz).all (fun y => !(pl y == b) || fo y == o x) with
            | false => rfl
            | true =>
              rw [List.all_eq_true] at h2
              have : (List.range y).all (fun y => !(pl y == b) || fo y == o x) = true := by
                rw [List.all_eq_true]
                intro w hw
                exact h2 w (by rw [List.mem_range] at hw ⊢; omega)
              rw [this] at q0
              cases q0
        · have q1 : (ok x && (List.range y).all (fun y => !(pl y == b) || fo y == o x)) = true := by
            cases h : (ok x && (List.range y).all (fun y => !(pl y == b) || fo y == o x)) with
            | true => rfl
            | false => rw [h] at q; exact absurd rfl q
          have q2 : ok x = true ∧ (List.range y).all (fun y => !(pl y == b) || fo y == o x) = true := by
            rw [Bool.and_eq_true] at q1
            exact q1
          rw [q2.1, q2.2, Bool.true_and, Bool.true_and] at hj2
          rw [q2.1, if_pos rfl] at s2
          rw [wp_bnd, wp_rdR (v := 152) rfl (sk_151_0 hk1), wp_bnd, wp_ldI (n := y) (len := 8) al_152 rfl (by omega) (by omega), y3, wp_jn1, wp_jn0, wp_if, nI_eq (by omega) (by omega)]
          refine ⟨fun hne => ?_, fun heq => ?_⟩
          · rw [wp_let, nI_1]
            refine hj2 _ υ ⟨rfl, ?_⟩
            have : (pl y == b) = false := by rw [beq_eq_false_iff_ne]; exact hne
            rw [this]
            rfl
          · have he : (pl y == b) = true := by rw [beq_iff_eq]; exact Decidable.not_not.mp heq
            rw [he] at hj2
            rw [wp_bnd, wp_rdR (v := 153) rfl (sk_151_1 hk1), wp_bnd, wp_ldI (n := y) (len := 8) al_153 rfl (by omega) (by omega), y4, wp_bnd, wp_rdR (v := 155) rfl (sk_151_4 hk1), wp_bnd, wp_ldI (n := x) (len := 4096) al_155 rfl (by omega) (by omega), s2, wp_if, nI_eq (by omega) (by omega)]
            refine ⟨fun h9 => ?_, fun h9 => ?_⟩
            · rw [wp_let, nI_1]
              refine hj2 _ υ ⟨rfl, ?_⟩
              have : (fo y == o x) = false := by rw [beq_eq_false_iff_ne]; exact h9
              rw [this]
              rfl
            · rw [wp_let, nI_1]
              refine hj2 _ υ ⟨rfl, ?_⟩
              have : (fo y == o x) = true := by rw [beq_iff_eq]; exact Decidable.not_not.mp h9
              rw [this]
              rfl
      · rintro c υ ⟨rfl, rfl⟩ j2
        rw [wp_bnd, wp_rdI, z2]
        refine ⟨rfl, ?_⟩
        rw [wp_jn0, wp_if]
        refine ⟨fun _ => ?_, fun q => absurd (nI_le (Nat.le_refl _) (by omega)) q⟩
        exact put _ rfl
    rw [wp_bnd, wp_rdR (v := 154) rfl (sk_151_3 hk1), wp_bnd, wp_ldI (n := x) (len := 4096) al_154 rfl (by omega) (by omega), s1, wp_jn1, wp_if]
    cases ho : ok x with
    | false =>
      rw [ho] at inner
      refine ⟨fun _ => inner, fun q => absurd (show mI < 0 by decide) q⟩
    | true =>
      rw [ho] at inner
      refine ⟨fun q => absurd q (nI_pos (by omega)), fun _ => inner⟩
  · rintro τ ⟨zg, g5, gA, gB⟩ j
    rw [wp_bnd, wp_rdI, g5]
    refine ⟨rfl, ?_⟩
    rw [wp_if]
    refine ⟨fun _ => ?_, fun q => absurd (nI_le (Nat.le_refl _) (by omega)) q⟩
    rw [wp_ret]
    refine hQ τ zg g5 (fun S hS => ?_)
    obtain ⟨r1, r2, -, -⟩ := hr S hS
    refine ⟨by show a S - v ≤ 99; omega, Nat.zero_le _, (gB S hS).1, ?_⟩
    rw [(gB S hS).2]
    split <;> rfl
end TRC
