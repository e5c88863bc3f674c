/-! FEED: bytes of a word -/
def byt (x : Int32) (i : Nat) : Nat := x.toBitVec.toNat / 2 ^ (24 - 8 * i) % 2 ^ 8
def shv (i : Nat) : Int32 := match i with | 0 => 24 | 1 => 16 | 2 => 8 | 3 => 0 | _ => -8
theorem byt_lt (x : Int32) (i : Nat) : byt x i < 256 := Nat.mod_lt _ (by decide)
theorem bitNat (y : Int32) : (y.toInt < 0 ∧ (y.toBitVec.toNat : Int) = y.toInt + 4294967296) ∨ (0 ≤ y.toInt ∧ (y.toBitVec.toNat : Int) = y.toInt) := by
  have h : y.toInt = _ := BitVec.toInt_eq_toNat_cond y.toBitVec
  have h2 := y.toBitVec.isLt
  split at h <;> omega
theorem shv_pos {i : Nat} (h : i < 4) : ¬ shv i < 0 := by
  rcases (show i = 0 ∨ i = 1 ∨ i = 2 ∨ i = 3 by omega) with rfl | rfl | rfl | rfl <;> decide
theorem shv_step {i : Nat} (h : i < 4) : shv i + (-8) = shv (i + 1) := by
  rcases (show i = 0 ∨ i = 1 ∨ i = 2 ∨ i = 3 by omega) with rfl | rfl | rfl | rfl <;> decide
theorem by_u (x : Int32) {i : Nat} (h : i < 4) : ((x.toUInt32 >>> ((shv i).toUInt32 &&& Int32.toUInt32 31)).toInt32) &&& 255 = nI (byt x i) := by
  rcases (show i = 0 ∨ i = 1 ∨ i = 2 ∨ i = 3 by omega) with rfl | rfl | rfl | rfl
  · show ((x.toUInt32 >>> ((24 : Int32).toUInt32 &&& Int32.toUInt32 31)).toInt32) &&& 255 = nI (x.toBitVec.toNat / 2 ^ 24 % 2 ^ 8)
    rw [pk_and _ 8 rfl, pk_ushr x 24 24 (by decide)]
  · show ((x.toUInt32 >>> ((16 : Int32).toUInt32 &&& Int32.toUInt32 31)).toInt32) &&& 255 = nI (x.toBitVec.toNat / 2 ^ 16 % 2 ^ 8)
    rw [pk_and _ 8 rfl, pk_ushr x 16 16 (by decide)]
  · show ((x.toUInt32 >>> ((8 : Int32).toUInt32 &&& Int32.toUInt32 31)).toInt32) &&& 255 = nI (x.toBitVec.toNat / 2 ^ 8 % 2 ^ 8)
    rw [pk_and _ 8 rfl, pk_ushr x 8 8 (by decide)]
  · show ((x.toUInt32 >>> ((0 : Int32).toUInt32 &&& Int32.toUInt32 31)).toInt32) &&& 255 = nI (x.toBitVec.toNat / 2 ^ 0 % 2 ^ 8)
    rw [pk_and _ 8 rfl, pk_ushr x 0 0 (by decide)]
theorem sh_d (x s : Int32) (k K : Nat) (hs : (s.toBitVec.smod 32).toNat = k) (hK : 2 ^ k = K) : (x >>> s).toInt = x.toInt / (K : Int) := by
  rw [pk_shr x s k hs, Int.shiftRight_eq_div_pow, hK]
theorem by_s (x : Int32) {i : Nat} (h : i < 4) : (x >>> (shv i &&& 31)) &&& 255 = nI (byt x i) := by
  rcases (show i = 0 ∨ i = 1 ∨ i = 2 ∨ i = 3 by omega) with rfl | rfl | rfl | rfl
  · show (x >>> ((24 : Int32) &&& 31)) &&& 255 = nI (x.toBitVec.toNat / 2 ^ 24 % 2 ^ 8)
    have h1 := sh_d x ((24 : Int32) &&& 31) 24 16777216 (by decide) (by decide)
    have h2 := bitNat (x >>> ((24 : Int32) &&& 31))
    have h3 := bitNat x
    rw [pk_and _ 8 rfl]
    refine congrArg nI ?_
    generalize (x >>> ((24 : Int32) &&& 31)) = y at *
    omega
  · show (x >>> ((16 : Int32) &&& 31)) &&& 255 = nI (x.toBitVec.toNat / 2 ^ 16 % 2 ^ 8)
    have h1 := sh_d x ((16 : Int32) &&& 31) 16 65536 (by decide) (by decide)
    have h2 := bitNat (x >>> ((16 : Int32) &&& 31))
    have h3 := bitNat x
    rw [pk_and _ 8 rfl]
    refine congrArg nI ?_
    generalize (x >>> ((16 : Int32) &&& 31)) = y at *
    omega
  · show (x >>> ((8 : Int32) &&& 31)) &&& 255 = nI (x.toBitVec.toNat / 2 ^ 8 % 2 ^ 8)
    have h1 := sh_d x ((8 : Int32) &&& 31) 8 256 (by decide) (by decide)
    have h2 := bitNat (x >>> ((8 : Int32) &&& 31))
    have h3 := bitNat x
    rw [pk_and _ 8 rfl]
    refine congrArg nI ?_
    generalize (x >>> ((8 : Int32) &&& 31)) = y at *
    omega
  · show (x >>> ((0 : Int32) &&& 31)) &&& 255 = nI (x.toBitVec.toNat / 2 ^ 0 % 2 ^ 8)
    have h1 := sh_d x ((0 : Int32) &&& 31) 0 1 (by decide) (by decide)
    have h2 := bitNat (x >>> ((0 : Int32) &&& 31))
    have h3 := bitNat x
    rw [pk_and _ 8 rfl]
    refine congrArg nI ?_
    generalize (x >>> ((0 : Int32) &&& 31)) = y at *
    omega
theorem by_b (x : Int32) {i : Nat} (h : i < 4) : vp_nar .byte ((x >>> (shv i &&& 31)).toInt8.toInt32) = vp_nar .byte (nI (byt x i)) := by
  rw [pk_vb, ← by_s x h, vp_nar_byte, Int32.toInt8_and, show (255 : Int32).toInt8 = -1 by decide, Int8.and_neg_one]
def cntB (x : Int32) : Nat → Nat
  | 0 => 0
  | i + 1 => cntB x i + (if byt x i = 0 then 0 else 1)
theorem cntB_le (x : Int32) : ∀ i, cntB x i ≤ i := by
  intro i
  induction i with
  | zero => exact Nat.le_refl _
  | succ i ih =>
    show cntB x i + (if byt x i = 0 then 0 else 1) ≤ _
    split <;> omega
/-- a tape's bytes, and how many, with i bytes of a word more -/
def tA (x : Int32) (s : (Nat → Nat) × Nat) : Nat → (Nat → Nat) × Nat
  | 0 => s
  | i + 1 => if byt x i = 0 then tA x s i else (va_up (tA x s i).1 (tA x s i).2 (byt x i), (tA x s i).2 + 1)
theorem tA_n (x : Int32) (s : (Nat → Nat) × Nat) : ∀ i, (tA x s i).2 = s.2 + cntB x i := by
  intro i
  induction i with
  | zero => rfl
  | succ i ih =>
    show (if byt x i = 0 then tA x s i else (va_up (tA x s i).1 (tA x s i).2 (byt x i), (tA x s i).2 + 1)).2 = s.2 + (cntB x i + (if byt x i = 0 then 0 else 1))
    by_cases h : byt x i = 0
    · rw [if_pos h, if_pos h, ih]; omega
    · rw [if_neg h, if_neg h]
      show (tA x s i).2 + 1 = _
      rw [ih]; omega
theorem cntB_mono (x : Int32) {i j : Nat} (h : i ≤ j) : cntB x i ≤ cntB x j := by
  induction h with
  | refl => exact Nat.le_refl _
  | step _ ih => exact Nat.le_trans ih (Nat.le_add_right _ _)
theorem tA_mono (x : Int32) (s : (Nat → Nat) × Nat) {i j : Nat} (h : i ≤ j) : (tA x s i).2 ≤ (tA x s j).2 := by
  have := cntB_mono x h
  rw [tA_n, tA_n]
  omega
theorem tA_ok (x : Int32) {s : (Nat → Nat) × Nat} (h : ∀ j, j < s.2 → 0 < s.1 j ∧ s.1 j < 256) : ∀ i, ∀ j, j < (tA x s i).2 → 0 < (tA x s i).1 j ∧ (tA x s i).1 j < 256 := by
  intro i
  induction i with
  | zero => exact h
  | succ i ih =>
    have e : tA x s (i + 1) = if byt x i = 0 then tA x s i else (va_up (tA x s i).1 (tA x s i).2 (byt x i), (tA x s i).2 + 1) := rfl
    rw [e]
    by_cases h0 : byt x i = 0
    · rw [if_pos h0]; exact ih
    · rw [if_neg h0]
      intro j hj
      have hj' : j < (tA x s i).2 + 1 := hj
      show 0 < va_up _ _ _ j ∧ va_up _ _ _ j < 256
      by_cases ej : j = (tA x s i).2
      · subst ej
        rw [va_up_self]
        have := byt_lt x i
        omega
      · rw [va_up_ne _ _ ej]
        exact ih j (by omega)
section FEED
variable {σ : sa_St} {x : Int32} {s : (Nat → Nat) × Nat}
theorem w_signs : f_X7_signsOf x σ = some (nI (cntB x 4), σ) := by
  refine run_of ?_
  unfold f_X7_signsOf
  rw [wp_let, wp_let]
  refine wp_wh2 (fun ms a c τ => ∃ i, i ≤ 4 ∧ i + ms = 4 ∧ τ = σ ∧ a = nI (cntB x i) ∧ c = shv i) ?_ sa_F 4 0 24 σ (by unfold sa_F; omega) ⟨0, by omega, by omega, rfl, rfl, rfl⟩
  rintro ms a c τ ⟨i, hi, hms, rfl, rfl, rfl⟩ j hj
  by_cases h4 : i = 4
  · subst h4
    rw [wp_if]
    refine ⟨fun _ => ?_, fun q => absurd (show shv 4 < 0 by decide) q⟩
    rw [wp_ret]
    exact ⟨rfl, rfl⟩
  · have h : i < 4 := by omega
    rw [wp_if]
    refine ⟨fun q => absurd q (shv_pos h), fun _ => ?_⟩
    have hb := byt_lt x i
    rw [wp_jn1, by_u x h, wp_if]
    refine ⟨fun q => ?_, fun q => ?_⟩
    · rw [L0, nI_eq (by omega) (by omega)] at q
      rw [wp_let, shv_step h]
      refine hj (ms - 1) _ _ _ (by omega) ⟨i + 1, by omega, by omega, rfl, ?_, rfl⟩
      show _ = nI (cntB x i + (if byt x i = 0 then 0 else 1))
      rw [if_pos q]
      rfl
    · rw [L0, nI_eq (by omega) (by omega)] at q
      rw [wp_let, nI_1, wp_let, shv_step h]
      refine hj (ms - 1) _ _ _ (by omega) ⟨i + 1, by omega, by omega, rfl, ?_, rfl⟩
      show _ = nI (cntB x i + (if byt x i = 0 then 0 else 1))
      rw [if_neg q]
theorem m_bytes : f_X12_bytesIn x σ = some (nI (cntB x 4), σ) := by
  refine run_of ?_
  unfold f_X12_bytesIn
  rw [wp_let, wp_let]
  refine wp_wh2 (fun ms a c τ => ∃ i, i ≤ 4 ∧ i + ms = 4 ∧ τ = σ ∧ a = nI (cntB x i) ∧ c = shv i) ?_ sa_F 4 0 24 σ (by unfold sa_F; omega) ⟨0, by omega, by omega, rfl, rfl, rfl⟩
  rintro ms a c τ ⟨i, hi, hms, rfl, rfl, rfl⟩ j hj
  by_cases h4 : i = 4
  · subst h4
    rw [wp_if]
    refine ⟨fun _ => ?_, fun q => absurd (show shv 4 < 0 by decide) q⟩
    rw [wp_ret]
    exact ⟨rfl, rfl⟩
  · have h : i < 4 := by omega
    rw [wp_if]
    refine ⟨fun q => absurd q (shv_pos h), fun _ => ?_⟩
    have hb := byt_lt x i
    rw [wp_jn1, by_s x h, wp_if]
    refine ⟨fun q => ?_, fun q => ?_⟩
    · rw [L0, nI_eq (by omega) (by omega)] at q
      rw [wp_let, wp_let, shv_step h]
      refine hj (ms - 1) _ _ _ (by omega) ⟨i + 1, by omega, by omega, rfl, ?_, rfl⟩
      show nI (cntB x i) + nI 0 = nI (cntB x i + (if byt x i = 0 then 0 else 1))
      rw [if_pos q, nI_add]
    · rw [L0, nI_eq (by omega) (by omega)] at q
      rw [wp_let, wp_let, shv_step h]
      refine hj (ms - 1) _ _ _ (by omega) ⟨i + 1, by omega, by omega, rfl, ?_, rfl⟩
      show nI (cntB x i) + nI 1 = nI (cntB x i + (if byt x i = 0 then 0 else 1))
      rw [if_neg q, nI_add]
/-- the class's tape -/
def CT (s : (Nat → Nat) × Nat) (σ : sa_St) : Prop := σ.1 1 1 = nI s.2 ∧ ∀ j, j < s.2 → σ.1 2 j = nI (s.1 j)
/-- the reference's -/
def RT (s : (Nat → Nat) × Nat) (σ : sa_St) : Prop := σ.1 159 6 = nI s.2 ∧ ∀ j, j < s.2 → σ.1 160 j = vp_nar .byte (nI (s.1 j))
/-- what feeding the class leaves -/
def FD (a : Nat) (σ τ : sa_St) : Prop := Dn [1] σ τ ∧ τ.2 = σ.2 ∧ (a = 0 → τ.1 159 = σ.1 159 ∧ τ.1 160 = σ.1 160) ∧ (a = 1 → τ.1 1 = σ.1 1 ∧ τ.1 2 = σ.1 2)
theorem FD.rfl' {a : Nat} : FD a σ σ := ⟨Dn.refl σ, rfl, fun _ => ⟨rfl, rfl⟩, fun _ => ⟨rfl, rfl⟩⟩
theorem FD.trans {a : Nat} {σ τ υ : sa_St} (h : FD a σ τ) (h2 : FD a τ υ) : FD a σ υ := ⟨h.1.trans h2.1, h2.2.1.trans h.2.1, fun e => ⟨(h2.2.2.1 e).1.trans (h.2.2.1 e).1, (h2.2.2.1 e).2.trans (h.2.2.1 e).2⟩, fun e => ⟨(h2.2.2.2 e).1.trans (h.2.2.2 e).1, (h2.2.2.2 e).2.trans (h.2.2.2 e).2⟩⟩
theorem c_add {Q : Unit → sa_St → Prop} (hk : SK σ.2.1) (hc : CT s σ) (hn : (tA x s 4).2 ≤ 240) (hQ : ∀ τ, CT (tA x s 4) τ → FD 0 σ τ → Q () τ) : wp (f_X7_add 1 x) σ Q := by
  unfold f_X7_add
  rw [wp_gd]
  refine ⟨rfl, ?_⟩
  rw [wp_let]
  refine wp_wh1 (fun ms c τ => ∃ i, i ≤ 4 ∧ i + ms = 4 ∧ CT (tA x s i) τ ∧ FD 0 σ τ ∧ c = shv i) ?_ sa_F 4 24 σ (by unfold sa_F; omega) ⟨0, by omega, by omega, hc, FD.rfl', rfl⟩
  rintro ms c τ ⟨i, hi, hms, hct, hfd, rfl⟩ j hj
  by_cases h4 : i = 4
  · subst h4
    rw [wp_if]
    refine ⟨fun _ => ?_, fun q => absurd (show shv 4 < 0 by decide) q⟩
    rw [wp_ret]
    exact hQ τ hct hfd
  · have h : i < 4 := by omega
    have e10 : τ.2.1 1 0 = 3 := by rw [hfd.2.1]; exact sk_1_0 hk
    rw [wp_if]
    refine ⟨fun q => absurd q (shv_pos h), fun _ => ?_⟩
    have hb := byt_lt x i
    have hm := tA_mono x s (show i + 1 ≤ 4 by omega)
    have e : tA x s (i + 1) = if byt x i = 0 then tA x s i else (va_up (tA x s i).1 (tA x s i).2 (byt x i), (tA x s i).2 + 1) := rfl
    rw [wp_let, by_u x h, wp_jn0, wp_if]
    refine ⟨fun q => ?_, fun q => ?_⟩
    · rw [L0, nI_eq (by omega) (by omega)] at q
      rw [wp_let, shv_step h]
      refine hj (ms - 1) _ _ (by omega) ⟨i + 1, by omega, by omega, ?_, hfd, rfl⟩
      rw [e, if_pos q]
      exact hct
    · rw [L0, nI_eq (by omega) (by omega)] at q
      rw [e, if_neg q] at hm
      have hm' : (tA x s i).2 + 1 ≤ (tA x s 4).2 := hm
      obtain ⟨t1, t2⟩ := hct
      rw [wp_bnd, wp_rdI]
      refine ⟨rfl, ?_⟩
      rw [t1, wp_if]
      refine ⟨fun q2 => absurd q2 (nI_ge (b := 240) (by omega) (by omega)), fun _ => ?_⟩
      rw [wp_bnd, wp_rdR (v := 2) rfl e10, wp_bnd, wp_rdI]
      refine ⟨rfl, ?_⟩
      rw [t1, wp_bnd, wp_stI (n := (tA x s i).2) (len := 240) rfl rfl (by omega) (by omega), wp_bnd, wp_rdI]
      refine ⟨rfl, ?_⟩
      rw [upI_ne (by omega), t1, nI_1, wp_bnd, wp_wrI]
      refine ⟨rfl, ?_⟩
      rw [wp_let, shv_step h]
      refine hj (ms - 1) _ _ (by omega) ⟨i + 1, by omega, by omega, ?_, hfd.trans ⟨Dn.up (Dn.up (Dn.refl τ) rfl) rfl, rfl, fun _ => ⟨?_, ?_⟩, fun e => by cases e⟩, rfl⟩
      · rw [e, if_neg q]
        refine ⟨?_, fun y hy => ?_⟩
        · rw [upI_self, va_up_self]
        · rw [upI_ne (by omega), upI_self]
          have hy' : y < (tA x s i).2 + 1 := hy
          show va_up _ _ _ y = nI (va_up _ _ _ y)
          by_cases ey : y = (tA x s i).2
          · subst ey; rw [va_up_self, va_up_self]
          · rw [va_up_ne _ _ ey, va_up_ne _ _ ey]
            exact t2 y (by omega)
      · rw [upI_ne (by omega), upI_ne (by omega)]
      · rw [upI_ne (by omega), upI_ne (by omega)]
theorem m_put {Q : Unit → sa_St → Prop} (hk : SK σ.2.1) (hc : RT s σ) (hn : (tA x s 4).2 ≤ 240) (hQ : ∀ τ, RT (tA x s 4) τ → FD 1 σ τ → Q () τ) : wp (f_X12_put 159 x) σ Q := by
  unfold f_X12_put
  rw [wp_gd]
  refine ⟨rfl, ?_⟩
  rw [wp_let]
  refine wp_wh1 (fun ms c τ => ∃ i, i ≤ 4 ∧ i + ms = 4 ∧ RT (tA x s i) τ ∧ FD 1 σ τ ∧ c = shv i) ?_ sa_F 4 24 σ (by unfold sa_F; omega) ⟨0, by omega, by omega, hc, FD.rfl', rfl⟩
  rintro ms c τ ⟨i, hi, hms, hct, hfd, rfl⟩ j hj
  by_cases h4 : i = 4
  · subst h4
    rw [wp_if]
    refine ⟨fun _ => ?_, fun q => absurd (show shv 4 < 0 by decide) q⟩
    rw [wp_ret]
    exact hQ τ hct hfd
  · have h : i < 4 := by omega
    have e10 : τ.2.1 159 1 = 161 := by rw [hfd.2.1]; exact sk_159_1 hk
    rw [wp_if]
    refine ⟨fun q => absurd q (shv_pos h), fun _ => ?_⟩
    have hb := byt_lt x i
    have hm := tA_mono x s (show i + 1 ≤ 4 by omega)
    have e : tA x s (i + 1) = if byt x i = 0 then tA x s i else (va_up (tA x s i).1 (tA x s i).2 (byt x i), (tA x s i).2 + 1) := rfl
    rw [wp_jn0, by_s x h, wp_if]
    refine ⟨fun q => ?_, fun q => ?_⟩
    · rw [L0, nI_eq (by omega) (by omega)] at q
      rw [e, if_neg q] at hm
      have hm' : (tA x s i).2 + 1 ≤ (tA x s 4).2 := hm
      obtain ⟨t1, t2⟩ := hct
      rw [wp_bnd, wp_rdR (v := 160) rfl e10, wp_bnd, wp_rdI]
      refine ⟨rfl, ?_⟩
      rw [t1, wp_bnd, wp_stB (n := (tA x s i).2) (len := 240) rfl rfl (by omega) (by omega), by_b x h, wp_bnd, wp_rdI]
      refine ⟨rfl, ?_⟩
      rw [upI_ne (by omega), t1, nI_1, wp_bnd, wp_wrI]
      refine ⟨rfl, ?_⟩
      rw [wp_let, shv_step h]
      refine hj (ms - 1) _ _ (by omega) ⟨i + 1, by omega, by omega, ?_, hfd.trans ⟨Dn.up (Dn.up (Dn.refl τ) rfl) rfl, rfl, (fun e => by cases e), fun _ => ⟨?_, ?_⟩⟩, rfl⟩
      · rw [e, if_neg q]
        refine ⟨?_, fun y hy => ?_⟩
        · rw [upI_self, va_up_self]
        · rw [upI_ne (by omega), upI_self]
          have hy' : y < (tA x s i).2 + 1 := hy
          show va_up _ _ _ y = vp_nar .byte (nI (va_up _ _ _ y))
          by_cases ey : y = (tA x s i).2
          · subst ey; rw [va_up_self, va_up_self]
          · rw [va_up_ne _ _ ey, va_up_ne _ _ ey]
            exact t2 y (by omega)
      · rw [upI_ne (by omega), upI_ne (by omega)]
      · rw [upI_ne (by omega), upI_ne (by omega)]
    · have q' : byt x i = 0 := by
        have q' := Decidable.not_not.mp q
        rw [L0, nI_eq (by omega) (by omega)] at q'
        exact q'
      rw [wp_let, shv_step h]
      refine hj (ms - 1) _ _ (by omega) ⟨i + 1, by omega, by omega, ?_, hfd, rfl⟩
      rw [e, if_pos q']
      exact hct
end FEED
