/-! STREAKS, by the class: weighed; how many, which -/
section TRW
variable {L P W F n : Nat} {f : Nat → LWt} {z : Nat → Int32} {hold : Int32} {sk : Nat → Nat → Int32} {wr md h0 : Nat} {σ τ : sa_St} {rs : List (List Nat)} {row a0 to g nz : Nat} {q : List Nat} {pl fo : Nat → Nat}
theorem e_pls (hk : SK σ.2.1) (hr : TR rs σ) (hq : rs[row]? = some q) : f_X9_placesOf 136 (nI row) σ = some (nI q.length, σ) := by
  have hl := lt_of_some hq
  have hr2 := hr.2.1
  refine run_of ?_
  unfold f_X9_placesOf
  rw [wp_gd]
  refine ⟨rfl, ?_⟩
  rw [wp_bnd, wp_rdR (v := 138) rfl (sk_136_11 hk), wp_bnd, wp_ldI (n := row) (len := 200) al_138 rfl (by omega) (by omega), wp_ret]
  exact ⟨(hr.2.2 row q hq).1, rfl⟩
/-- the places of a path, as bits -/
def seenB (q : List Nat) : Nat → Nat
  | 0 => 0
  | i + 1 => seenB q i ||| 2 ^ (q.getD (i + 1) 0)
theorem seenB_lt (hq : ∀ j, j < q.length → q.getD j 0 < 8) : ∀ i, i < q.length → seenB q i < 256 := by
  intro i
  induction i with
  | zero => intro _; exact (by decide : 0 < 256)
  | succ i ih =>
    intro hi
    exact Nat.or_lt_two_pow (n := 8) (ih (by omega)) (Nat.pow_lt_pow_right (by omega) (hq (i + 1) hi))
theorem seenB_bit {p : Nat} : ∀ i, (seenB q i).testBit p = (List.range i).any (fun j => p == q.getD (j + 1) 0) := by
  intro i
  induction i with
  | zero => exact Nat.zero_testBit p
  | succ i ih =>
    show (seenB q i ||| 2 ^ (q.getD (i + 1) 0)).testBit p = _
    rw [Nat.testBit_or, ih, tb_2, List.range_succ, List.any_append]
    congr 1
    simp only [List.any_cons, List.any_nil, Bool.or_false]
    by_cases h : p = q.getD (i + 1) 0
    · rw [decide_eq_true h, beq_iff_eq.mpr h]
    · rw [decide_eq_false h, beq_eq_false_iff_ne.mpr h]
theorem c_clear {Q : Int32 → sa_St → Prop} (hk : SK σ.2.1) (hP : P ≤ 8) (hr : TR rs σ) (hq : rs[row]? = some q) (hpa : Pa P W z a0 to q) (hz : SZ P nz pl fo σ) (hQ : Q (nI (if clrB q nz pl fo then 1 else 0)) σ) : wp (f_X8_isClearBeside 151 136 (nI row)) σ Q := by
  obtain ⟨p1, p8, -, -, pP, -, -⟩ := hpa
  obtain ⟨z8, z2, z3⟩ := hz
  have hsl := seenB_lt (q := q) (fun j hj => by have := pP j hj; omega)
  unfold f_X8_isClearBeside
  rw [wp_gd]
  refine ⟨rfl, ?_⟩
  rw [wp_let, wp_let]
  refine wp_for2 q.length 1 (fun i a τ => 1 ≤ i ∧ τ = σ ∧ a = nI (seenB q (i - 1))) ?_ ?_ ⟨Nat.le_refl 1, rfl, rfl⟩ p1 (by unfold sa_F; omega)
  · rintro i a τ hi ⟨i1, rfl, rfl⟩ j hj
    obtain ⟨y, rfl⟩ : ∃ y, i = y + 1 := ⟨i - 1, by omega⟩
    rw [show y + 1 - 1 = y by omega]
    have hpy := pP (y + 1) hi
    have hor : nI (seenB q y) ||| ((1 : Int32) <<< (nI (q.getD (y + 1) 0) &&& 31)) = nI (seenB q y ||| 2 ^ (q.getD (y + 1) 0)) := or_2p (hsl y (by omega)) (by omega)
    rw [wp_bnd, wp_of_eq (e_pls hk hr hq), wp_if]
    refine ⟨fun q => absurd q (nI_ge hi (by omega)), fun _ => ?_⟩
    rw [wp_bnd, wp_of_eq (e_pOf hk hr hq hi p8), wp_let, wp_let, nI_1, hor]
    exact hj _ _ ⟨by omega, rfl, rfl⟩
  · rintro a τ ⟨-, rfl, rfl⟩ j
    have hs256 := hsl (q.length - 1) (by omega)
    have hcl : clrB q nz pl fo = (List.range nz).all (fun x => (seenB q (q.length - 1)).testBit (pl x) || fo x == 0) := by
      unfold clrB
      congr 1
      funext x
      rw [seenB_bit]
    rw [hcl] at hQ
    generalize seenB q (q.length - 1) = S at hs256 hQ ⊢
    rw [wp_bnd, wp_of_eq (e_pls hk hr hq), wp_if]
    refine ⟨fun _ => ?_, fun q => absurd (nI_le (Nat.le_refl _) (by omega)) q⟩
    rw [wp_let]
    refine wp_for1 nz 0 (fun x υ => υ = τ ∧ (List.range x).all (fun x => S.testBit (pl x) || fo x == 0) = true) ?_ ?_ ⟨rfl, rfl⟩ (Nat.zero_le _) (by unfold sa_F; omega)
    · rintro x υ hx ⟨rfl, hf⟩ j2 hj2
      obtain ⟨y1, y2, y3, y4⟩ := z3 x hx
      have hs : (List.range (x + 1)).all (fun x => S.testBit (pl x) || fo x == 0) = (S.testBit (pl x) || fo x == 0) := by
        rw [List.range_succ, List.all_append, hf]
        simp
      have hb : (nI S >>> (nI (pl x) &&& 31)) &&& 1 = nI (S / 2 ^ (pl x) % 2) := bitI (by omega) (by omega)
      rw [wp_bnd, wp_rdI, z2]
      refine ⟨rfl, ?_⟩
      rw [wp_if]
      refine ⟨fun q => absurd q (nI_ge hx (by omega)), fun _ => ?_⟩
      rw [wp_bnd, wp_rdR (v := 152) rfl (sk_151_0 hk), wp_bnd, wp_ldI (n := x) (len := 8) al_152 rfl (by omega) (by omega), y3, wp_jn0, hb, wp_if]
      refine ⟨fun h1 => ?_, fun h1 => ?_⟩
      · rw [wp_let, nI_1]
        refine hj2 _ ⟨rfl, ?_⟩
        have : S.testBit (pl x) = true := by
          rw [Nat.testBit_eq_decide_div_mod_eq, decide_eq_true_iff]
          rw [L0, nI_eq (by omega) (by omega)] at h1
          omega
        rw [hs, this]
        rfl
      · have hsb : S.testBit (pl x) = false := by
          have h2 := Decidable.not_not.mp h1
          rw [L0, nI_eq (by omega) (by omega)] at h2
          rw [Nat.testBit_eq_decide_div_mod_eq, decide_eq_false_iff_not]
          omega
        rw [wp_bnd, wp_rdR (v := 153) rfl (sk_151_1 hk), wp_bnd, wp_ldI (n := x) (len := 8) al_153 rfl (by omega) (by omega), y4, wp_if]
        refine ⟨fun h3 => ?_, fun h3 => ?_⟩
        · rw [wp_let, nI_1]
          refine hj2 _ ⟨rfl, ?_⟩
          have : (fo x == 0) = true := by
            rw [beq_iff_eq]
            rw [L0, nI_eq (by omega) (by omega)] at h3
            exact h3
          rw [hs, this, Bool.or_true]
        · rw [wp_retZ]
          refine ⟨Or.inl rfl, ?_⟩
          have hfl : (List.range nz).all (fun x => S.testBit (pl x) || fo x == 0) = false := by
            cases h : (List.range nz).all (fun x => S.testBit (pl x) || fo x == 0) with
            | false => rfl
            | true =>
              rw [List.all_eq_true] at h
              have h5 := h x (List.mem_range.mpr hx)
              rw [hsb, Bool.false_or, beq_iff_eq] at h5
              exact absurd (show nI (fo x) = 0 by rw [h5]; rfl) h3
          rw [hfl] at hQ
          exact hQ
    · rintro υ ⟨rfl, hf⟩ j2
      rw [hf] at hQ
      rw [wp_bnd, wp_rdI, z2]
      refine ⟨rfl, ?_⟩
      rw [wp_if]
      refine ⟨fun _ => ?_, fun q => absurd (nI_le (Nat.le_refl _) (by omega)) q⟩
      rw [wp_retZ]
      exact ⟨Or.inr rfl, hQ⟩
theorem ls_le (p e g : Nat) : lsS f hold z wr md h0 p e g ≤ g := Nat.min_le_right _ _
theorem pow_12 {n : Nat} (h : n ≤ 12) : 2 ^ n ≤ 4096 := (show 2 ^ n ≤ 2 ^ 12 from Nat.pow_le_pow_right (by omega) h)
theorem c_weigh {Q : Unit → sa_St → Prop} (hT : TV L P W F n f z hold sk wr md h0 σ) (hr : TR rs σ) (hq : rs[row]? = some q) (hpa : Pa P W z a0 to q) (hH : vHr W z q ≤ 12) (hz : SZ P nz pl fo σ) (h5 : σ.1 136 5 = nI g) (hg : g ≤ 99) (hQ : ∀ τ, ZG σ τ → τ.1 151 5 = nI (2 ^ vHr W z q) → (∀ S, S < 2 ^ vHr W z q → (okB W z (lsS f hold z wr md h0) q g nz pl fo S (q.length - 1) = true ↔ ¬ τ.1 154 S < 0)) → Q () τ) : wp (f_X8_weigh 151 136 (nI row)) σ Q := by
  have hk := hT.1.1
  have hzr := hT.1.zr
  have P8 := hzr.1.1
  have W12 := hzr.1.2.1
  have hpa0 := hpa
  obtain ⟨p1, p8, -, -, pP, pnd, pw⟩ := hpa
  have hl : ∀ p e g, lsS f hold z wr md h0 p e g ≤ g := ls_le
  have hmono : ∀ i, i + 1 ≤ q.length → phr W z q i ≤ vHr W z q := by
    intro i hi
    unfold vHr
    have : ∀ d, phr W z q i ≤ phr W z q (i + d) := by
      intro d
      induction d with
      | zero => exact Nat.le_refl _
      | succ d ih => exact Nat.le_trans ih (Nat.le_add_right _ _)
    have := this (q.length - 1 - i)
    rw [show i + (q.length - 1 - i) = q.length - 1 by omega] at this
    exact this
  unfold f_X8_weigh
  rw [wp_gd]
  refine ⟨rfl, ?_⟩
  rw [wp_bnd, wp_wrI]
  refine ⟨rfl, ?_⟩
  have zg1 : ZG σ (sa_upI σ 151 5 1) := ZG.rfl'.up (Or.inr (Or.inr ⟨rfl, rfl⟩))
  have g51 : (sa_upI σ 151 5 1).1 151 5 = nI 1 := by rw [upI_self, va_up_self]; rfl
  generalize sa_upI σ 151 5 1 = σ1 at zg1 g51 ⊢
  have hT1 := hT.zg zg1
  have hk1 := hT1.1.1
  rw [wp_bnd, wp_rdR (v := 154) rfl (sk_151_3 hk1), wp_bnd]
  refine c_clear hk1 P8 (hr.zg zg1) hq hpa0 (hz.zg zg1) ?_
  have start : ∀ y : Int32, y = (if clrB q nz pl fo then nI g else mI) → wp (sa_bnd (sa_stI 154 0 y) fun _ =>
sa_bnd (sa_rdR 8 151 4) fun v4 =>
sa_bnd (sa_stI v4 0 0) fun _ =>
sa_let (0 : Int32) fun x5 =>
sa_let (1 : Int32) fun x6 =>
sa_wh2 (fun j40 (x7 : Int32) (x8 : Int32) =>
sa_bnd (f_X9_placesOf 136 (nI row)) fun v9 =>
if v9 ≤ x8 then
sa_ret ()
else
sa_bnd (f_X9_placeOf 136 (nI row) x8) fun v10 =>
sa_bnd (f_X9_wayTo 136 (nI row) x8) fun v11 =>
sa_bnd (sa_rdR 9 136 2) fun v12 =>
sa_bnd (f_X1_cell v12 1 v11 2) fun v13 =>
sa_let ((x7 + v13) : Int32) fun x14 =>
sa_wh1 (fun j83 (x15 : Int32) =>
sa_jn0 (sa_bnd (sa_rdR 9 136 2) fun v16 =>
sa_bnd (f_X1_cell v16 1 v11 3) fun v17 =>
sa_bnd (f_X8_compare 151 v10 v17) fun _ =>
sa_let ((x8 + 1) : Int32) fun x18 =>
j40 x15 x18) fun j113 =>
if x14 ≤ x15 then
j113
else
sa_bnd (sa_rdI 8 151 5) fun v19 =>
if 4096 ≤ v19 then
j113
else
sa_bnd (f_X8_addHour 151 136 v10 x15) fun _ =>
sa_let ((x15 + 1) : Int32) fun x20 =>
j83 x20) sa_F x7) sa_F x5 x6) σ1 Q := by
    intro y hy
    rw [wp_bnd, wp_stI (j := 0) (n := 0) (len := 4096) al_154 rfl (by omega) (by omega), wp_bnd, wp_rdR (v := 155) rfl (sk_151_4 (show SK (sa_upI σ1 154 0 y).2.1 from hk1)), wp_bnd, wp_stI (j := 0) (n := 0) (len := 4096) al_155 rfl (by omega) (by omega)]
    have zg2 : ZG σ (sa_upI (sa_upI σ1 154 0 y) 155 0 0) := (zg1.up (Or.inl rfl)).up (Or.inr (Or.inl rfl))
    have g52 : (sa_upI (sa_upI σ1 154 0 y) 155 0 0).1 151 5 = nI 1 := by rw [upI_ne (by omega), upI_ne (by omega)]; exact g51
    have rw2 : Rw 1 (fun S => okB W z (lsS f hold z wr md h0) q g nz pl fo S 0) (fun S => sRn W z (lsS f hold z wr md h0) q S g 0) (fun _ => 0) (sa_upI (sa_upI σ1 154 0 y) 155 0 0) := by
      intro S hS
      have : S = 0 := by omega
      subst this
      refine ⟨hg, Nat.zero_le _, ?_, ?_⟩
      · rw [upI_ne (by omega), upI_self, va_up_self]
        exact hy
      · rw [upI_self, va_up_self]
        split <;> rfl
    generalize sa_upI (sa_upI σ1 154 0 y) 155 0 0 = σ2 at zg2 g52 rw2 ⊢
    rw [wp_let, wp_let]
    refine wp_for2 q.length 1 (fun i a τ => 1 ≤ i ∧ ZG σ τ ∧ a = nI (phr W z q (i - 1)) ∧ τ.1 151 5 = nI (2 ^ phr W z q (i - 1)) ∧ Rw (2 ^ phr W z q (i - 1)) (fun S => okB W z (lsS f hold z wr md h0) q g nz pl fo S (i - 1)) (fun S => sRn W z (lsS f hold z wr md h0) q S g (i - 1)) (fun _ => 0) τ) ?_ ?_ ⟨Nat.le_refl 1, zg2, rfl, g52, rw2⟩ p1 (by unfold sa_F; omega)
    · rintro i a τ hi ⟨i1, zg, rfl, g5, hrw⟩ j hj
      obtain ⟨x, rfl⟩ : ∃ x, i = x + 1 := ⟨i - 1, by omega⟩
      rw [show x + 1 - 1 = x by omega] at g5 hrw ⊢
      rw [show x + 1 + 1 - 1 = x + 1 by omega] at hj
      have hTt := hT.zg zg
      have hrt := hr.zg zg
      have hkt := hTt.1.1
      have hpx := pP (x + 1) hi
      obtain ⟨k, hkk⟩ := Option.isSome_iff_exists.mp (pw x hi)
      have hkW := lwy_lt hkk
      obtain ⟨⟨t1, t9, et⟩, f9, ef⟩ := wt_eq hzr hkW
      have eh : hrs W z (q.getD x 0) (q.getD (x + 1) 0) = wtN z k := by unfold hrs; rw [hkk]
      have efd : frd W z (q.getD x 0) (q.getD (x + 1) 0) = wfN z k := by unfold frd; rw [hkk]
      have ephr : phr W z q (x + 1) = phr W z q x + wtN z k := by rw [← eh]; rfl
      have hle := hmono (x + 1) (by omega)
      have fw := e_wayTo hTt hrt hq hpa0 hi
      rw [hkk] at fw
      have fw' : f_X9_wayTo 136 (nI row) (nI (x + 1)) τ = some (nI k, τ) := fw
      have fc2 := e_cell hTt.1 (a := 1) (b := k) (c := 2) (by omega)
      rw [show (1 * 12 + k) * 5 + 2 = 60 + 5 * k + 2 by omega, et] at fc2
      rw [wp_bnd, wp_of_eq (e_pls hkt hrt hq), wp_if]
      refine ⟨fun q => absurd q (nI_ge hi (by omega)), fun _ => ?_⟩
      rw [wp_bnd, wp_of_eq (e_pOf hkt hrt hq hi p8), wp_bnd, wp_of_eq fw', wp_bnd, wp_rdR (v := L) rfl hTt.2.1, wp_bnd, wp_of_eq (show f_X1_cell L 1 (nI k) 2 τ = _ from fc2), wp_let, nI_add]
      generalize hB : q.getD (x + 1) 0 = b at *
      generalize hE : phr W z q x = e0 at *
      refine wp_for1 (e0 + wtN z k) e0 (fun h υ => e0 ≤ h ∧ ZG σ υ ∧ υ.1 151 5 = nI (2 ^ h) ∧ Rw (2 ^ h) (fun S => okB W z (lsS f hold z wr md h0) q g nz pl fo S x) (fun S => (rrS (lsS f hold z wr md h0) b e0 S (sRn W z (lsS f hold z wr md h0) q S g x) (h - e0)).1) (fun S => (rrS (lsS f hold z wr md h0) b e0 S (sRn W z (lsS f hold z wr md h0) q S g x) (h - e0)).2) υ) ?_ ?_ ⟨Nat.le_refl _, zg, g5, by rw [Nat.sub_self]; exact hrw⟩ (by omega) (by unfold sa_F; omega)
      · rintro h υ hh ⟨h1, zg3, g53, hrw3⟩ j2 hj2
        have hT3 := hT.zg zg3
        have hp2 : 2 ^ (h + 1) = 2 * 2 ^ h := by rw [Nat.pow_succ, Nat.mul_comm]
        have hpp := pow_12 (n := h + 1) (by omega)
        have e4096 : ¬ (4096 : Int32) ≤ nI (2 ^ h) := fun q => by
          have q' : 4096 ≤ 2 ^ h := (nI_leI (a := 4096) (by omega) (by omega)).mp q
          omega
        rw [wp_jn0, wp_if]
        refine ⟨fun q => absurd q (nI_ge hh (by omega)), fun _ => ?_⟩
        rw [wp_bnd, wp_rdI, g53]
        refine ⟨rfl, ?_⟩
        rw [wp_if]
        refine ⟨fun q => absurd q e4096, fun _ => ?_⟩
        rw [wp_bnd]
        refine c_addHour hT3 hpx (by omega) (by omega) g53 hrw3 (fun υ4 zg4 g54 hrows => ?_)
        rw [wp_let, nI_1]
        refine hj2 _ ⟨by omega, zg3.trans zg4, by rw [hp2]; exact g54, fun S hS => ?_⟩
        rw [show h + 1 - e0 = (h - e0) + 1 by omega]
        have rst : ∀ S, rrS (lsS f hold z wr md h0) b e0 S (sRn W z (lsS f hold z wr md h0) q S g x) (h - e0 + 1) = if S.testBit (e0 + (h - e0)) then ((rrS (lsS f hold z wr md h0) b e0 S (sRn W z (lsS f hold z wr md h0) q S g x) (h - e0)).1 - lsS f hold z wr md h0 b (e0 + (h - e0)) (rrS (lsS f hold z wr md h0) b e0 S (sRn W z (lsS f hold z wr md h0) q S g x) (h - e0)).1, (rrS (lsS f hold z wr md h0) b e0 S (sRn W z (lsS f hold z wr md h0) q S g x) (h - e0)).2 + lsS f hold z wr md h0 b (e0 + (h - e0)) (rrS (lsS f hold z wr md h0) b e0 S (sRn W z (lsS f hold z wr md h0) q S g x) (h - e0)).1) else rrS (lsS f hold z wr md h0) b e0 S (sRn W z (lsS f hold z wr md h0) q S g x) (h - e0) := fun S => rfl
        have eh2 : e0 + (h - e0) = h := by omega
        rw [eh2] at rst
        have bnd : ∀ S t, (rrS (lsS f hold z wr md h0) b e0 S (sRn W z (lsS f hold z wr md h0) q S g x) t).1 ≤ 99 ∧ (rrS (lsS f hold z wr md h0) b e0 S (sRn W z (lsS f hold z wr md h0) q S g x) t).2 ≤ 99 := fun S t => by
          have b1 := rrS_le (S := S) (g := sRn W z (lsS f hold z wr md h0) q S g x) (b := b) (e := e0) hl t
          have b2 := sRn_le (W := W) (z := z) (q := q) (S := S) (g := g) hl x
          omega
        by_cases hc : S < 2 ^ h
        · obtain ⟨c1, c2, -, -⟩ := hrows S hc
          obtain ⟨-, -, d3, d4⟩ := hrw3 S hc
          dsimp only at d3 d4
          have hbit : S.testBit h = false := tb_lt hc
          refine ⟨(bnd S _).1, (bnd S _).2, ?_, ?_⟩ <;> dsimp only
          · rw [c1, d3, rst S, hbit]
            rfl
          · rw [c2, d4, rst S, hbit]
            rfl
        · obtain ⟨s, rfl⟩ : ∃ s, S = 2 ^ h + s := ⟨S - 2 ^ h, by omega⟩
          have hs : s < 2 ^ h := by omega
          obtain ⟨-, -, c3, c4⟩ := hrows s hs
          have hcg : ∀ j, j < h → (2 ^ h + s).testBit j = s.testBit j := fun j hj => tb_add hs hj
          have ok2 : okB W z (lsS f hold z wr md h0) q g nz pl fo (2 ^ h + s) x = okB W z (lsS f hold z wr md h0) q g nz pl fo s x := okB_cg x (fun j hj => hcg j (by omega))
          have sr2 : sRn W z (lsS f hold z wr md h0) q (2 ^ h + s) g x = sRn W z (lsS f hold z wr md h0) q s g x := sRn_cg x (fun j hj => hcg j (by omega))
          have rr2 : rrS (lsS f hold z wr md h0) b e0 (2 ^ h + s) (sRn W z (lsS f hold z wr md h0) q (2 ^ h + s) g x) (h - e0) = rrS (lsS f hold z wr md h0) b e0 s (sRn W z (lsS f hold z wr md h0) q s g x) (h - e0) := by
            rw [sr2]
            exact rrS_cg _ (fun j hj => hcg j (by omega))
          have hbit : (2 ^ h + s).testBit h = true := tb_top hs
          have r1 := rst (2 ^ h + s)
          rw [hbit, if_pos rfl, rr2] at r1
          refine ⟨(bnd _ _).1, (bnd _ _).2, ?_, ?_⟩ <;> dsimp only
          · show υ4.1 154 (2 ^ h + s) = if okB W z (lsS f hold z wr md h0) q g nz pl fo (2 ^ h + s) x = true then nI (rrS (lsS f hold z wr md h0) b e0 (2 ^ h + s) (sRn W z (lsS f hold z wr md h0) q (2 ^ h + s) g x) (h - e0 + 1)).1 else mI
            rw [c3, r1, ok2]
          · show υ4.1 155 (2 ^ h + s) = nI (if okB W z (lsS f hold z wr md h0) q g nz pl fo (2 ^ h + s) x = true then (rrS (lsS f hold z wr md h0) b e0 (2 ^ h + s) (sRn W z (lsS f hold z wr md h0) q (2 ^ h + s) g x) (h - e0 + 1)).2 else 0)
            rw [c4, r1, ok2]
      · rintro υ ⟨-, zg3, g53, hrw3⟩ j2
        have hT3 := hT.zg zg3
        have fc3 := e_cell hT3.1 (a := 1) (b := k) (c := 3) (by omega)
        rw [show (1 * 12 + k) * 5 + 3 = 60 + 5 * k + 3 by omega, ef] at fc3
        have hpp := pow_12 (n := e0 + wtN z k) (by omega)
        rw [wp_jn0, wp_if]
        refine ⟨fun _ => ?_, fun q => absurd (nI_le (Nat.le_refl _) (by omega)) q⟩
        rw [wp_bnd, wp_rdR (v := L) rfl hT3.2.1, wp_bnd, wp_of_eq (show f_X1_cell L 1 (nI k) 3 υ = _ from fc3), wp_bnd]
        refine c_compare hT3.1.1 P8 hpx f9 hpp g53 (hz.zg zg3) hrw3 (fun υ4 zg4 g54 hrw4 => ?_)
        rw [wp_let, nI_1]
        refine hj _ _ ⟨by omega, zg3.trans zg4, by rw [ephr], by rw [ephr]; exact g54, ?_⟩
        rw [ephr]
        intro S hS
        obtain ⟨d1, d2, d3, d4⟩ := hrw4 S hS
        have elr : lRn W z (lsS f hold z wr md h0) q S g x = (rrS (lsS f hold z wr md h0) b e0 S (sRn W z (lsS f hold z wr md h0) q S g x) (e0 + wtN z k - e0)).2 := by
          unfold lRn
          rw [hB, hE, eh, show e0 + wtN z k - e0 = wtN z k by omega]
        have esr : sRn W z (lsS f hold z wr md h0) q S g (x + 1) = (rrS (lsS f hold z wr md h0) b e0 S (sRn W z (lsS f hold z wr md h0) q S g x) (e0 + wtN z k - e0)).1 - wfN z k := by
          show (rrS (lsS f hold z wr md h0) (q.getD (x + 1) 0) (phr W z q x) S (sRn W z (lsS f hold z wr md h0) q S g x) (hrs W z (q.getD x 0) (q.getD (x + 1) 0))).1 - frd W z (q.getD x 0) (q.getD (x + 1) 0) = _
          rw [hB, hE, eh, efd, show e0 + wtN z k - e0 = wtN z k by omega]
        have eok : okB W z (lsS f hold z wr md h0) q g nz pl fo S (x + 1) = (okB W z (lsS f hold z wr md h0) q g nz pl fo S x && (List.range nz).all (fun y => !(pl y == b) || fo y == (rrS (lsS f hold z wr md h0) b e0 S (sRn W z (lsS f hold z wr md h0) q S g x) (e0 + wtN z k - e0)).2)) := by
          show (okB W z (lsS f hold z wr md h0) q g nz pl fo S x && fitB W z (lsS f hold z wr md h0) q g nz pl fo S x) = _
          unfold fitB
          rw [elr, hB]
        refine ⟨?_, Nat.zero_le _, ?_, ?_⟩
        · show sRn W z (lsS f hold z wr md h0) q S g (x + 1) ≤ 99
          rw [esr]
          exact d1
        · show υ4.1 154 S = if okB W z (lsS f hold z wr md h0) q g nz pl fo S (x + 1) = true then nI (sRn W z (lsS f hold z wr md h0) q S g (x + 1)) else mI
          rw [eok, esr]
          exact d3
        · rw [d4]
          split
          · split <;> rfl
          · split <;> rfl
    · rintro a τ ⟨-, zg, rfl, g5, hrw⟩ j
      have hkt := (hT.zg zg).1.1
      rw [wp_bnd, wp_of_eq (e_pls hkt (hr.zg zg) hq), wp_if]
      refine ⟨fun _ => ?_, fun q => absurd (nI_le (Nat.le_refl _) (by omega)) q⟩
      rw [wp_ret]
      refine hQ τ zg g5 (fun S hS => ?_)
      have d1 : sRn W z (lsS f hold z wr md h0) q S g (q.length - 1) ≤ 99 := (hrw S hS).1
      have d3 : τ.1 154 S = if okB W z (lsS f hold z wr md h0) q g nz pl fo S (q.length - 1) = true then nI (sRn W z (lsS f hold z wr md h0) q S g (q.length - 1)) else mI := (hrw S hS).2.2.1
      rw [d3]
      generalize sRn W z (lsS f hold z wr md h0) q S g (q.length - 1) = y at d1
      generalize okB W z (lsS f hold z wr md h0) q g nz pl fo S (q.length - 1) = c
      cases c with
      | true => exact ⟨fun _ => nI_pos (by omega), fun _ => rfl⟩
      | false => exact ⟨fun h => absurd h (by decide), fun h => absurd (show mI < 0 by decide) h⟩
  rw [wp_jn1, wp_if]
  cases hc : clrB q nz pl fo with
  | false =>
    refine ⟨fun _ => start _ (by rw [hc]; rfl), fun q => absurd rfl q⟩
  | true =>
    refine ⟨fun q => absurd q (by decide), fun _ => ?_⟩
    have x5 : σ1.1 136 5 = nI g := by rw [zg1.2.1 136 (nm_33 136 (by omega)) (by omega) (by omega) (by omega)]; exact h5
    rw [wp_bnd, wp_rdI, x5]
    refine ⟨rfl, ?_⟩
    exact start _ (by rw [hc]; rfl)
end TRW
