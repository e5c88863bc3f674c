/-! PHASE 2: WHAT THE FUNCTIONS DO. wp: a function comes to an answer, of which Q holds. -/
def wp {α : Type} (f : sa_M α) (σ : sa_St) (Q : α → sa_St → Prop) : Prop := ∃ r τ, f σ = some (r, τ) ∧ Q r τ
section RUN
variable {α β : Type} {σ : sa_St} {Q : α → sa_St → Prop}
theorem wp_ret {a : α} : wp (sa_ret a) σ Q ↔ Q a σ := by
  unfold wp sa_ret
  constructor
  · rintro ⟨r, τ, h, hq⟩
    cases h
    exact hq
  · exact fun h => ⟨a, σ, rfl, h⟩
theorem wp_bnd {x : sa_M β} {f : β → sa_M α} : wp (sa_bnd x f) σ Q ↔ wp x σ (fun a τ => wp (f a) τ Q) := by
  unfold wp sa_bnd
  constructor
  · rintro ⟨r, τ, h, hq⟩
    cases hx : x σ with
    | none => rw [hx] at h; cases h
    | some q =>
      rw [hx] at h
      exact ⟨q.1, q.2, rfl, r, τ, h, hq⟩
  · rintro ⟨a, τ, hx, r, τ2, hf, hq⟩
    exact ⟨r, τ2, by rw [hx]; exact hf, hq⟩
theorem wp_let {v : β} {f : β → sa_M α} : wp (sa_let v f) σ Q ↔ wp (f v) σ Q := Iff.rfl
theorem wp_jn0 {k : sa_M α} {b : sa_M α → sa_M α} : wp (sa_jn0 k b) σ Q ↔ wp (b k) σ Q := Iff.rfl
theorem wp_jn1 {A0 : Type} {k : A0 → sa_M α} {b : (A0 → sa_M α) → sa_M α} : wp (sa_jn1 k b) σ Q ↔ wp (b k) σ Q := Iff.rfl
theorem wp_jn2 {A0 A1 : Type} {k : A0 → A1 → sa_M α} {b : (A0 → A1 → sa_M α) → sa_M α} : wp (sa_jn2 k b) σ Q ↔ wp (b k) σ Q := Iff.rfl
theorem wp_if {c : Prop} [Decidable c] {a b : sa_M α} : wp (if c then a else b) σ Q ↔ (c → wp a σ Q) ∧ (¬ c → wp b σ Q) := by
  by_cases h : c
  · rw [if_pos h]; exact ⟨fun w => ⟨fun _ => w, fun n => absurd h n⟩, fun w => w.1 h⟩
  · rw [if_neg h]; exact ⟨fun w => ⟨fun n => absurd n h, fun _ => w⟩, fun w => w.2 h⟩
theorem wp_gd {ci id : Nat} {f : sa_M α} : wp (sa_gd ci id f) σ Q ↔ sa_sh id = some (.inl ci) ∧ wp f σ Q := by
  unfold sa_gd wp
  by_cases h : sa_sh id = some (.inl ci)
  · simp only [if_pos h]; exact ⟨fun w => ⟨h, w⟩, fun w => w.2⟩
  · simp only [if_neg h]
    constructor
    · rintro ⟨r, τ, w, -⟩; cases w
    · exact fun w => absurd w.1 h
theorem wp_of_eq {f : sa_M α} {r : α} {τ : sa_St} (h : f σ = some (r, τ)) : wp f σ Q ↔ Q r τ := by
  unfold wp
  constructor
  · rintro ⟨r2, τ2, w, hq⟩
    rw [h] at w
    cases w
    exact hq
  · exact fun hq => ⟨r, τ, h, hq⟩
theorem wp_mono {f : sa_M α} {Q2 : α → sa_St → Prop} (h : wp f σ Q2) (hq : ∀ r τ, Q2 r τ → Q r τ) : wp f σ Q := by
  obtain ⟨r, τ, h1, h2⟩ := h
  exact ⟨r, τ, h1, hq r τ h2⟩
theorem wp_rdI {ci id k : Nat} {Q : Int32 → sa_St → Prop} : wp (sa_rdI ci id k) σ Q ↔ sa_sh id = some (.inl ci) ∧ Q (σ.1 id k) σ := by
  unfold sa_rdI wp
  by_cases h : sa_sh id = some (.inl ci)
  · simp only [if_pos h]
    constructor
    · rintro ⟨r, τ, w, hq⟩; cases w; exact ⟨h, hq⟩
    · exact fun w => ⟨_, _, rfl, w.2⟩
  · simp only [if_neg h]
    constructor
    · rintro ⟨r, τ, w, -⟩; cases w
    · exact fun w => absurd w.1 h
theorem wp_rdL {ci id k : Nat} {Q : Int64 → sa_St → Prop} : wp (sa_rdL ci id k) σ Q ↔ sa_sh id = some (.inl ci) ∧ Q (σ.2.2 id k) σ := by
  unfold sa_rdL wp
  by_cases h : sa_sh id = some (.inl ci)
  · simp only [if_pos h]
    constructor
    · rintro ⟨r, τ, w, hq⟩; cases w; exact ⟨h, hq⟩
    · exact fun w => ⟨_, _, rfl, w.2⟩
  · simp only [if_neg h]
    constructor
    · rintro ⟨r, τ, w, -⟩; cases w
    · exact fun w => absurd w.1 h
theorem wp_rdR {ci id k v : Nat} {Q : Nat → sa_St → Prop} (hs : sa_sh id = some (.inl ci)) (hv : σ.2.1 id k = v + 1) : wp (sa_rdR ci id k) σ Q ↔ Q v σ := by
  refine wp_of_eq ?_
  unfold sa_rdR
  rw [if_pos hs, hv]
theorem wp_wrI {ci id k : Nat} {v : Int32} {Q : Unit → sa_St → Prop} : wp (sa_wrI ci id k v) σ Q ↔ sa_sh id = some (.inl ci) ∧ Q () (sa_upI σ id k v) := by
  unfold sa_wrI wp
  by_cases h : sa_sh id = some (.inl ci)
  · simp only [if_pos h]
    constructor
    · rintro ⟨r, τ, w, hq⟩; cases w; exact ⟨h, hq⟩
    · exact fun w => ⟨_, _, rfl, w.2⟩
  · simp only [if_neg h]
    constructor
    · rintro ⟨r, τ, w, -⟩; cases w
    · exact fun w => absurd w.1 h
theorem wp_wrL {ci id k : Nat} {v : Int64} {Q : Unit → sa_St → Prop} : wp (sa_wrL ci id k v) σ Q ↔ sa_sh id = some (.inl ci) ∧ Q () (sa_upL σ id k v) := by
  unfold sa_wrL wp
  by_cases h : sa_sh id = some (.inl ci)
  · simp only [if_pos h]
    constructor
    · rintro ⟨r, τ, w, hq⟩; cases w; exact ⟨h, hq⟩
    · exact fun w => ⟨_, _, rfl, w.2⟩
  · simp only [if_neg h]
    constructor
    · rintro ⟨r, τ, w, -⟩; cases w
    · exact fun w => absurd w.1 h
theorem wp_wrR {ci id k v : Nat} {Q : Unit → sa_St → Prop} : wp (sa_wrR ci id k v) σ Q ↔ sa_sh id = some (.inl ci) ∧ Q () (sa_upR σ id k (v + 1)) := by
  unfold sa_wrR wp
  by_cases h : sa_sh id = some (.inl ci)
  · simp only [if_pos h]
    constructor
    · rintro ⟨r, τ, w, hq⟩; cases w; exact ⟨h, hq⟩
    · exact fun w => ⟨_, _, rfl, w.2⟩
  · simp only [if_neg h]
    constructor
    · rintro ⟨r, τ, w, -⟩; cases w
    · exact fun w => absurd w.1 h
theorem wp_wrZ {ci id k : Nat} {v : Int32} {Q : Unit → sa_St → Prop} : wp (sa_wrZ ci id k v) σ Q ↔ (sa_sh id = some (.inl ci) ∧ (v = 0 ∨ v = 1)) ∧ Q () (sa_upI σ id k v) := by
  unfold sa_wrZ wp
  by_cases h : sa_sh id = some (.inl ci) ∧ (v = 0 ∨ v = 1)
  · simp only [if_pos h]
    constructor
    · rintro ⟨r, τ, w, hq⟩; cases w; exact ⟨h, hq⟩
    · exact fun w => ⟨_, _, rfl, w.2⟩
  · simp only [if_neg h]
    constructor
    · rintro ⟨r, τ, w, -⟩; cases w
    · exact fun w => absurd w.1 h
theorem wp_retZ {v : Int32} {Q : Int32 → sa_St → Prop} : wp (sa_retZ v) σ Q ↔ (v = 0 ∨ v = 1) ∧ Q v σ := by
  unfold sa_retZ wp
  by_cases h : v = 0 ∨ v = 1
  · simp only [if_pos h]
    constructor
    · rintro ⟨r, τ, w, hq⟩; cases w; exact ⟨h, hq⟩
    · exact fun w => ⟨_, _, rfl, w.2⟩
  · simp only [if_neg h]
    constructor
    · rintro ⟨r, τ, w, -⟩; cases w
    · exact fun w => absurd w.1 h
theorem wp_dv {a b : Int32} {Q : Int32 → sa_St → Prop} (hb : b ≠ 0) : wp (sa_dv a b) σ Q ↔ Q (a / b) σ := wp_of_eq (if_neg hb)
theorem wp_md {a b : Int32} {Q : Int32 → sa_St → Prop} (hb : b ≠ 0) : wp (sa_md a b) σ Q ↔ Q (a - a / b * b) σ := wp_of_eq (if_neg hb)
theorem wp_dvL {a b : Int64} {Q : Int64 → sa_St → Prop} (hb : b ≠ 0) : wp (sa_dvL a b) σ Q ↔ Q (a / b) σ := wp_of_eq (if_neg hb)
theorem wp_mdL {a b : Int64} {Q : Int64 → sa_St → Prop} (hb : b ≠ 0) : wp (sa_mdL a b) σ Q ↔ Q (a - a / b * b) σ := wp_of_eq (if_neg hb)
/-- an index: a number below a length -/
theorem ix_no {j : Int32} {n len : Nat} (hj : j = nI n) (hn : n < len) (hl : len < 2 ^ 31) : ¬ (j < 0 ∨ len ≤ j.toNatClampNeg) := by
  subst hj
  exact nI_in hn hl
theorem ix_at {j : Int32} {n : Nat} (hj : j = nI n) (hn : n < 2 ^ 31) : j.toNatClampNeg = n := by
  subst hj
  exact nI_clamp hn
theorem wp_ldI {ty : FieldType} {id n len : Nat} {j : Int32} {Q : Int32 → sa_St → Prop} (hal : sa_al ty id = len) (hj : j = nI n) (hn : n < len) (hl : len < 2 ^ 31) : wp (sa_ldI ty id j) σ Q ↔ Q (σ.1 id n) σ := by
  refine wp_of_eq ?_
  unfold sa_ldI
  rw [hal, if_neg (ix_no hj hn hl), ix_at hj (by omega)]
theorem wp_ldL {id n len : Nat} {j : Int32} {Q : Int64 → sa_St → Prop} (hal : sa_al .long id = len) (hj : j = nI n) (hn : n < len) (hl : len < 2 ^ 31) : wp (sa_ldL id j) σ Q ↔ Q (σ.2.2 id n) σ := by
  refine wp_of_eq ?_
  unfold sa_ldL
  rw [hal, if_neg (ix_no hj hn hl), ix_at hj (by omega)]
theorem wp_ldR {ty : FieldType} {id n len v : Nat} {j : Int32} {Q : Nat → sa_St → Prop} (hal : sa_al ty id = len) (hj : j = nI n) (hn : n < len) (hl : len < 2 ^ 31) (hv : σ.2.1 id n = v + 1) : wp (sa_ldR ty id j) σ Q ↔ Q v σ := by
  refine wp_of_eq ?_
  unfold sa_ldR
  rw [hal, if_neg (ix_no hj hn hl), ix_at hj (by omega), hv]
theorem wp_stI {id n len : Nat} {j v : Int32} {Q : Unit → sa_St → Prop} (hal : sa_al .int id = len) (hj : j = nI n) (hn : n < len) (hl : len < 2 ^ 31) : wp (sa_stI id j v) σ Q ↔ Q () (sa_upI σ id n v) := by
  refine wp_of_eq ?_
  unfold sa_stI
  rw [hal, if_neg (ix_no hj hn hl), ix_at hj (by omega)]
theorem wp_stB {id n len : Nat} {j v : Int32} {Q : Unit → sa_St → Prop} (hal : sa_al .byte id = len) (hj : j = nI n) (hn : n < len) (hl : len < 2 ^ 31) : wp (sa_stB id j v) σ Q ↔ Q () (sa_upI σ id n (vp_nar .byte v)) := by
  refine wp_of_eq ?_
  unfold sa_stB
  rw [hal, if_neg (ix_no hj hn hl), ix_at hj (by omega)]
theorem wp_stZ {id n len : Nat} {j v : Int32} {Q : Unit → sa_St → Prop} (hal : sa_al .boolean id = len) (hj : j = nI n) (hn : n < len) (hl : len < 2 ^ 31) : wp (sa_stZ id j v) σ Q ↔ Q () (sa_upI σ id n (vp_nar .boolean v)) := by
  refine wp_of_eq ?_
  unfold sa_stZ
  rw [hal, if_neg (ix_no hj hn hl), ix_at hj (by omega)]
theorem wp_stL {id n len : Nat} {j : Int32} {v : Int64} {Q : Unit → sa_St → Prop} (hal : sa_al .long id = len) (hj : j = nI n) (hn : n < len) (hl : len < 2 ^ 31) : wp (sa_stL id j v) σ Q ↔ Q () (sa_upL σ id n v) := by
  refine wp_of_eq ?_
  unfold sa_stL
  rw [hal, if_neg (ix_no hj hn hl), ix_at hj (by omega)]
theorem wp_tb {t n : Nat} {j : Int32} {Q : Int32 → sa_St → Prop} (hj : j = nI n) (hn : n < (sa_row t).length) (hl : (sa_row t).length < 2 ^ 31) : wp (sa_tb t j) σ Q ↔ Q ((sa_row t).getD n 0) σ := by
  refine wp_of_eq ?_
  unfold sa_tb
  rw [if_neg (ix_no hj hn hl), ix_at hj (by omega)]
theorem wp_cpI {a0 a sn dn nn l0 l1 : Nat} {sp dp n : Int32} {Q : Unit → sa_St → Prop} (h0 : sa_al .int a0 = l0) (h1 : sa_al .int a = l1) (hs : sp = nI sn) (hd : dp = nI dn) (hn : n = nI nn) (k0 : sn + nn ≤ l0) (k1 : dn + nn ≤ l1) (p0 : 0 < l0 ∧ l0 < 2 ^ 31) (p1 : 0 < l1 ∧ l1 < 2 ^ 31) : wp (sa_cpI a0 sp a dp n) σ Q ↔ Q () (va_up σ.1 a (va_cpy (σ.1 a0) (σ.1 a) sn dn nn), σ.2) := by
  refine wp_of_eq ?_
  subst hs hd hn
  unfold sa_cpI
  rw [h0, h1, nI_clamp (by omega), nI_clamp (by omega), nI_clamp (by omega), if_neg]
  rintro (h | h | h | h | h | h | h)
  · exact nI_pos (by omega) h
  · exact nI_pos (by omega) h
  · exact nI_pos (by omega) h
  all_goals omega
theorem wp_cpL {a0 a sn dn nn l0 l1 : Nat} {sp dp n : Int32} {Q : Unit → sa_St → Prop} (h0 : sa_al .long a0 = l0) (h1 : sa_al .long a = l1) (hs : sp = nI sn) (hd : dp = nI dn) (hn : n = nI nn) (k0 : sn + nn ≤ l0) (k1 : dn + nn ≤ l1) (p0 : 0 < l0 ∧ l0 < 2 ^ 31) (p1 : 0 < l1 ∧ l1 < 2 ^ 31) : wp (sa_cpL a0 sp a dp n) σ Q ↔ Q () (σ.1, σ.2.1, va_up σ.2.2 a (va_cpy (σ.2.2 a0) (σ.2.2 a) sn dn nn)) := by
  refine wp_of_eq ?_
  subst hs hd hn
  unfold sa_cpL
  rw [h0, h1, nI_clamp (by omega), nI_clamp (by omega), nI_clamp (by omega), if_neg]
  rintro (h | h | h | h | h | h | h)
  · exact nI_pos (by omega) h
  · exact nI_pos (by omega) h
  · exact nI_pos (by omega) h
  all_goals omega
/-! loops -/
theorem wp_wh1 {A0 : Type} {b : (A0 → sa_M α) → A0 → sa_M α} (P : Nat → A0 → sa_St → Prop) (hb : ∀ m a σ, P m a σ → ∀ k : A0 → sa_M α, (∀ m2 a2 σ2, m2 < m → P m2 a2 σ2 → wp (k a2) σ2 Q) → wp (b k a) σ Q) : ∀ (F m : Nat) (a : A0) (σ : sa_St), m < F → P m a σ → wp (sa_wh1 b F a) σ Q := by
  intro F
  induction F with
  | zero => intro m a σ h; omega
  | succ F ih => exact fun m a σ h hp => hb m a σ hp _ (fun m2 a2 σ2 h2 hp2 => ih m2 a2 σ2 (by omega) hp2)
theorem wp_wh0 {b : (sa_M α) → sa_M α} (P : Nat → sa_St → Prop) (hb : ∀ m σ, P m σ → ∀ k : sa_M α, (∀ m2 σ2, m2 < m → P m2 σ2 → wp k σ2 Q) → wp (b k) σ Q) : ∀ (F m : Nat) (σ : sa_St), m < F → P m σ → wp (sa_wh0 b F) σ Q := by
  intro F
  induction F with
  | zero => intro m σ h; omega
  | succ F ih => exact fun m σ h hp => hb m σ hp _ (fun m2 σ2 h2 hp2 => ih m2 σ2 (by omega) hp2)
theorem wp_wh2 {A0 A1 : Type} {b : (A0 → A1 → sa_M α) → A0 → A1 → sa_M α} (P : Nat → A0 → A1 → sa_St → Prop) (hb : ∀ m a c σ, P m a c σ → ∀ k : A0 → A1 → sa_M α, (∀ m2 a2 c2 σ2, m2 < m → P m2 a2 c2 σ2 → wp (k a2 c2) σ2 Q) → wp (b k a c) σ Q) : ∀ (F m : Nat) (a : A0) (c : A1) (σ : sa_St), m < F → P m a c σ → wp (sa_wh2 b F a c) σ Q := by
  intro F
  induction F with
  | zero => intro m a c σ h; omega
  | succ F ih => exact fun m a c σ h hp => hb m a c σ hp _ (fun m2 a2 c2 σ2 h2 hp2 => ih m2 a2 c2 σ2 (by omega) hp2)
theorem wp_wh3 {A0 A1 A2 : Type} {b : (A0 → A1 → A2 → sa_M α) → A0 → A1 → A2 → sa_M α} (P : Nat → A0 → A1 → A2 → sa_St → Prop) (hb : ∀ m a c d σ, P m a c d σ → ∀ k : A0 → A1 → A2 → sa_M α, (∀ m2 a2 c2 d2 σ2, m2 < m → P m2 a2 c2 d2 σ2 → wp (k a2 c2 d2) σ2 Q) → wp (b k a c d) σ Q) : ∀ (F m : Nat) (a : A0) (c : A1) (d : A2) (σ : sa_St), m < F → P m a c d σ → wp (sa_wh3 b F a c d) σ Q := by
  intro F
  induction F with
  | zero => intro m a c d σ h; omega
  | succ F ih => exact fun m a c d σ h hp => hb m a c d σ hp _ (fun m2 a2 c2 d2 σ2 h2 hp2 => ih m2 a2 c2 d2 σ2 (by omega) hp2)
theorem wp_wh4 {A0 A1 A2 A3 : Type} {b : (A0 → A1 → A2 → A3 → sa_M α) → A0 → A1 → A2 → A3 → sa_M α} (P : Nat → A0 → A1 → A2 → A3 → sa_St → Prop) (hb : ∀ m a c d e σ, P m a c d e σ → ∀ k : A0 → A1 → A2 → A3 → sa_M α, (∀ m2 a2 c2 d2 e2 σ2, m2 < m → P m2 a2 c2 d2 e2 σ2 → wp (k a2 c2 d2 e2) σ2 Q) → wp (b k a c d e) σ Q) : ∀ (F m : Nat) (a : A0) (c : A1) (d : A2) (e : A3) (σ : sa_St), m < F → P m a c d e σ → wp (sa_wh4 b F a c d e) σ Q := by
  intro F
  induction F with
  | zero => intro m a c d e σ h; omega
  | succ F ih => exact fun m a c d e σ h hp => hb m a c d e σ hp _ (fun m2 a2 c2 d2 e2 σ2 h2 hp2 => ih m2 a2 c2 d2 e2 σ2 (by omega) hp2)
/-- a loop that counts from i0 up to n -/
theorem wp_for1 {b : (Int32 → sa_M α) → Int32 → sa_M α} {F : Nat} (n i0 : Nat) (I : Nat → sa_St → Prop) (hs : ∀ i σ, i < n → I i σ → ∀ k : Int32 → sa_M α, (∀ σ2, I (i + 1) σ2 → wp (k (nI (i + 1))) σ2 Q) → wp (b k (nI i)) σ Q) (he : ∀ σ, I n σ → ∀ k, wp (b k (nI n)) σ Q) (h0 : I i0 σ) (hi : i0 ≤ n) (hF : n < F) : wp (sa_wh1 b F (nI i0)) σ Q := by
  refine wp_wh1 (fun m a σ => ∃ i, a = nI i ∧ i + m = n ∧ I i σ) ?_ F (n - i0) (nI i0) σ (by omega) ⟨i0, rfl, by omega, h0⟩
  rintro m a σ ⟨i, rfl, hm, hI⟩ k hk
  by_cases h : i < n
  · exact hs i σ h hI k (fun σ2 h2 => hk (m - 1) _ σ2 (by omega) ⟨i + 1, rfl, by omega, h2⟩)
  · have : i = n := by omega
    subst this
    exact he σ hI k
theorem wp_for2 {A0 : Type} {b : (A0 → Int32 → sa_M α) → A0 → Int32 → sa_M α} {F : Nat} {a0 : A0} (n i0 : Nat) (I : Nat → A0 → sa_St → Prop) (hs : ∀ i a σ, i < n → I i a σ → ∀ k : A0 → Int32 → sa_M α, (∀ a2 σ2, I (i + 1) a2 σ2 → wp (k a2 (nI (i + 1))) σ2 Q) → wp (b k a (nI i)) σ Q) (he : ∀ a σ, I n a σ → ∀ k, wp (b k a (nI n)) σ Q) (h0 : I i0 a0 σ) (hi : i0 ≤ n) (hF : n < F) : wp (sa_wh2 b F a0 (nI i0)) σ Q := by
  refine wp_wh2 (fun m a c σ => ∃ i, c = nI i ∧ i + m = n ∧ I i a σ) ?_ F (n - i0) a0 (nI i0) σ (by omega) ⟨i0, rfl, by omega, h0⟩
  rintro m a c σ ⟨i, rfl, hm, hI⟩ k hk
  by_cases h : i < n
  · exact hs i a σ h hI k (fun a2 σ2 h2 => hk (m - 1) _ _ σ2 (by omega) ⟨i + 1, rfl, by omega, h2⟩)
  · have : i = n := by omega
    subst this
    exact he a σ hI k
theorem wp_for3 {A0 A1 : Type} {b : (A0 → A1 → Int32 → sa_M α) → A0 → A1 → Int32 → sa_M α} {F : Nat} {a0 : A0} {c0 : A1} (n i0 : Nat) (I : Nat → A0 → A1 → sa_St → Prop) (hs : ∀ i a c σ, i < n → I i a c σ → ∀ k : A0 → A1 → Int32 → sa_M α, (∀ a2 c2 σ2, I (i + 1) a2 c2 σ2 → wp (k a2 c2 (nI (i + 1))) σ2 Q) → wp (b k a c (nI i)) σ Q) (he : ∀ a c σ, I n a c σ → ∀ k, wp (b k a c (nI n)) σ Q) (h0 : I i0 a0 c0 σ) (hi : i0 ≤ n) (hF : n < F) : wp (sa_wh3 b F a0 c0 (nI i0)) σ Q := by
  refine wp_wh3 (fun m a c d σ => ∃ i, d = nI i ∧ i + m = n ∧ I i a c σ) ?_ F (n - i0) a0 c0 (nI i0) σ (by omega) ⟨i0, rfl, by omega, h0⟩
  rintro m a c d σ ⟨i, rfl, hm, hI⟩ k hk
  by_cases h : i < n
  · exact hs i a c σ h hI k (fun a2 c2 σ2 h2 => hk (m - 1) _ _ _ σ2 (by omega) ⟨i + 1, rfl, by omega, h2⟩)
  · have : i = n := by omega
    subst this
    exact he a c σ hI k
end RUN
/-- ints and longs outside S, and all references, stand as they were -/
def Fr (S : List Nat) (σ τ : sa_St) : Prop := τ.2.1 = σ.2.1 ∧ ∀ j, j ∉ S → τ.1 j = σ.1 j ∧ τ.2.2 j = σ.2.2 j
theorem Fr.rfl' {S : List Nat} {σ : sa_St} : Fr S σ σ := ⟨rfl, fun _ _ => ⟨rfl, rfl⟩⟩
theorem Fr.trans {S : List Nat} {a b c : sa_St} (h1 : Fr S a b) (h2 : Fr S b c) : Fr S a c := ⟨h2.1.trans h1.1, fun j hj => ⟨(h2.2 j hj).1.trans (h1.2 j hj).1, (h2.2 j hj).2.trans (h1.2 j hj).2⟩⟩
theorem Fr.mono {S S2 : List Nat} {a b : sa_St} (h : Fr S a b) (hs : ∀ j, j ∈ S → j ∈ S2) : Fr S2 a b := ⟨h.1, fun j hj => h.2 j (fun q => hj (hs j q))⟩
theorem Fr.upI {S : List Nat} {σ : sa_St} {id k : Nat} {v : Int32} (h : id ∈ S) : Fr S σ (sa_upI σ id k v) := ⟨rfl, fun j hj => ⟨va_up_ne _ _ (fun e => hj (e ▸ h)), rfl⟩⟩
theorem Fr.upL {S : List Nat} {σ : sa_St} {id k : Nat} {v : Int64} (h : id ∈ S) : Fr S σ (sa_upL σ id k v) := ⟨rfl, fun j hj => ⟨rfl, va_up_ne _ _ (fun e => hj (e ▸ h))⟩⟩
theorem Fr.setI {S : List Nat} {σ : sa_St} {id : Nat} {f : Nat → Int32} (h : id ∈ S) : Fr S σ (va_up σ.1 id f, σ.2) := ⟨rfl, fun j hj => ⟨va_up_ne _ _ (fun e => hj (e ▸ h)), rfl⟩⟩
theorem upI_self {σ : sa_St} {id k : Nat} {v : Int32} : (sa_upI σ id k v).1 id = va_up (σ.1 id) k v := va_up_self _ _ _
theorem upI_ne {σ : sa_St} {id k j : Nat} {v : Int32} (h : j ≠ id) : (sa_upI σ id k v).1 j = σ.1 j := va_up_ne _ _ h
theorem upI_2 {σ : sa_St} {id k : Nat} {v : Int32} : (sa_upI σ id k v).2 = σ.2 := rfl
/-- Arrays.fill of a row of ints -/
theorem wp_fillI {id len : Nat} {v : Int32} {σ : sa_St} {Q : Unit → sa_St → Prop} (hal : sa_al .int id = len) (h0 : 0 < len) (hl : len < 100000) (hQ : ∀ f : Nat → Int32, (∀ j, j < len → f j = v) → (∀ j, len ≤ j → f j = σ.1 id j) → Q () (va_up σ.1 id f, σ.2)) : wp (f_J7_fill_53178 id v) σ Q := by
  unfold f_J7_fill_53178
  rw [wp_let, wp_bnd, wp_of_eq (show sa_len .int id σ = some (nI len, σ) from by unfold sa_len; rw [hal, if_neg (by omega)])]
  refine wp_for1 (Q := Q) len 0 (fun i τ => ∃ f : Nat → Int32, τ = (va_up σ.1 id f, σ.2) ∧ (∀ j, j < i → f j = v) ∧ ∀ j, i ≤ j → f j = σ.1 id j) ?_ ?_ ⟨σ.1 id, ?_, fun j hj => by omega, fun _ _ => rfl⟩ (Nat.zero_le _) (by unfold sa_F; omega)
  · rintro i τ hi ⟨f, rfl, hf1, hf2⟩ k hk
    rw [wp_if]
    refine ⟨fun h => absurd h (nI_ge hi (by omega)), fun _ => ?_⟩
    rw [wp_bnd, wp_stI hal rfl hi (by omega), wp_let, nI_1]
    refine hk _ ⟨va_up f i v, ?_, fun j hj => ?_, fun j hj => ?_⟩
    · unfold sa_upI
      simp only [va_up_self]
      congr 1
      funext j
      simp only [va_up]
      by_cases h : j = id <;> simp [h]
    · by_cases h : j = i
      · subst h; exact va_up_self _ _ _
      · rw [va_up_ne _ _ h]; exact hf1 j (by omega)
    · rw [va_up_ne _ _ (by omega)]; exact hf2 j (by omega)
  · rintro τ ⟨f, rfl, hf1, hf2⟩ k
    rw [wp_if]
    refine ⟨fun _ => ?_, fun h => absurd (nI_le (Nat.le_refl len) (by omega)) h⟩
    rw [wp_ret]
    exact hQ f hf1 hf2
  · have : va_up σ.1 id (σ.1 id) = σ.1 := by
      funext j
      simp only [va_up]
      by_cases h : j = id <;> simp [h]
    rw [this]
/-! the same without premises: what is asked stands in the answer -/
section RUN2
variable {σ : sa_St}
theorem v_rdR {ci id k : Nat} {Q : Nat → sa_St → Prop} : wp (sa_rdR ci id k) σ Q ↔ sa_sh id = some (.inl ci) ∧ 0 < σ.2.1 id k ∧ Q (σ.2.1 id k - 1) σ := by
  unfold sa_rdR wp
  by_cases h : sa_sh id = some (.inl ci)
  · simp only [if_pos h]
    cases hv : σ.2.1 id k with
    | zero =>
      constructor
      · rintro ⟨r, τ, w, hq⟩; cases w
      · rintro ⟨-, h, -⟩; omega
    | succ i =>
      constructor
      · rintro ⟨r, τ, w, hq⟩; cases w; exact ⟨h, by omega, hq⟩
      · exact fun w => ⟨_, _, rfl, w.2.2⟩
  · simp only [if_neg h]
    constructor
    · rintro ⟨r, τ, w, -⟩; cases w
    · exact fun w => absurd w.1 h
theorem v_ldI {ty : FieldType} {id : Nat} {j : Int32} {Q : Int32 → sa_St → Prop} : wp (sa_ldI ty id j) σ Q ↔ ¬ (j < 0 ∨ sa_al ty id ≤ j.toNatClampNeg) ∧ Q (σ.1 id j.toNatClampNeg) σ := by
  unfold sa_ldI wp
  by_cases h : j < 0 ∨ sa_al ty id ≤ j.toNatClampNeg
  · simp only [if_pos h]
    constructor
    · rintro ⟨r, τ, w, -⟩; cases w
    · exact fun w => absurd h w.1
  · simp only [if_neg h]
    constructor
    · rintro ⟨r, τ, w, hq⟩; cases w; exact ⟨h, hq⟩
    · exact fun w => ⟨_, _, rfl, w.2⟩
theorem v_ldL {id : Nat} {j : Int32} {Q : Int64 → sa_St → Prop} : wp (sa_ldL id j) σ Q ↔ ¬ (j < 0 ∨ sa_al .long id ≤ j.toNatClampNeg) ∧ Q (σ.2.2 id j.toNatClampNeg) σ := by
  unfold sa_ldL wp
  by_cases h : j < 0 ∨ sa_al .long id ≤ j.toNatClampNeg
  · simp only [if_pos h]
    constructor
    · rintro ⟨r, τ, w, -⟩; cases w
    · exact fun w => absurd h w.1
  · simp only [if_neg h]
    constructor
    · rintro ⟨r, τ, w, hq⟩; cases w; exact ⟨h, hq⟩
    · exact fun w => ⟨_, _, rfl, w.2⟩
theorem v_ldR {ty : FieldType} {id : Nat} {j : Int32} {Q : Nat → sa_St → Prop} : wp (sa_ldR ty id j) σ Q ↔ ¬ (j < 0 ∨ sa_al ty id ≤ j.toNatClampNeg) ∧ 0 < σ.2.1 id j.toNatClampNeg ∧ Q (σ.2.1 id j.toNatClampNeg - 1) σ := by
  unfold sa_ldR wp
  by_cases h : j < 0 ∨ sa_al ty id ≤ j.toNatClampNeg
  · simp only [if_pos h]
    constructor
    · rintro ⟨r, τ, w, -⟩; cases w
    · exact fun w => absurd h w.1
  · simp only [if_neg h]
    cases hv : σ.2.1 id j.toNatClampNeg with
    | zero =>
      constructor
      · rintro ⟨r, τ, w, hq⟩; cases w
      · rintro ⟨-, h, -⟩; omega
    | succ i =>
      constructor
      · rintro ⟨r, τ, w, hq⟩; cases w; exact ⟨h, by omega, hq⟩
      · exact fun w => ⟨_, _, rfl, w.2.2⟩
theorem v_stI {id : Nat} {j v : Int32} {Q : Unit → sa_St → Prop} : wp (sa_stI id j v) σ Q ↔ ¬ (j < 0 ∨ sa_al .int id ≤ j.toNatClampNeg) ∧ Q () (sa_upI σ id j.toNatClampNeg v) := by
  unfold sa_stI wp
  by_cases h : j < 0 ∨ sa_al .int id ≤ j.toNatClampNeg
  · simp only [if_pos h]
    constructor
    · rintro ⟨r, τ, w, -⟩; cases w
    · exact fun w => absurd h w.1
  · simp only [if_neg h]
    constructor
    · rintro ⟨r, τ, w, hq⟩; cases w; exact ⟨h, hq⟩
    · exact fun w => ⟨_, _, rfl, w.2⟩
theorem v_stB {id : Nat} {j v : Int32} {Q : Unit → sa_St → Prop} : wp (sa_stB id j v) σ Q ↔ ¬ (j < 0 ∨ sa_al .byte id ≤ j.toNatClampNeg) ∧ Q () (sa_upI σ id j.toNatClampNeg (vp_nar .byte v)) := by
  unfold sa_stB wp
  by_cases h : j < 0 ∨ sa_al .byte id ≤ j.toNatClampNeg
  · simp only [if_pos h]
    constructor
    · rintro ⟨r, τ, w, -⟩; cases w
    · exact fun w => absurd h w.1
  · simp only [if_neg h]
    constructor
    · rintro ⟨r, τ, w, hq⟩; cases w; exact ⟨h, hq⟩
    · exact fun w => ⟨_, _, rfl, w.2⟩
theorem v_stZ {id : Nat} {j v : Int32} {Q : Unit → sa_St → Prop} : wp (sa_stZ id j v) σ Q ↔ ¬ (j < 0 ∨ sa_al .boolean id ≤ j.toNatClampNeg) ∧ Q () (sa_upI σ id j.toNatClampNeg (vp_nar .boolean v)) := by
  unfold sa_stZ wp
  by_cases h : j < 0 ∨ sa_al .boolean id ≤ j.toNatClampNeg
  · simp only [if_pos h]
    constructor
    · rintro ⟨r, τ, w, -⟩; cases w
    · exact fun w => absurd h w.1
  · simp only [if_neg h]
    constructor
    · rintro ⟨r, τ, w, hq⟩; cases w; exact ⟨h, hq⟩
    · exact fun w => ⟨_, _, rfl, w.2⟩
theorem v_stL {id : Nat} {j : Int32} {v : Int64} {Q : Unit → sa_St → Prop} : wp (sa_stL id j v) σ Q ↔ ¬ (j < 0 ∨ sa_al .long id ≤ j.toNatClampNeg) ∧ Q () (sa_upL σ id j.toNatClampNeg v) := by
  unfold sa_stL wp
  by_cases h : j < 0 ∨ sa_al .long id ≤ j.toNatClampNeg
  · simp only [if_pos h]
    constructor
    · rintro ⟨r, τ, w, -⟩; cases w
    · exact fun w => absurd h w.1
  · simp only [if_neg h]
    constructor
    · rintro ⟨r, τ, w, hq⟩; cases w; exact ⟨h, hq⟩
    · exact fun w => ⟨_, _, rfl, w.2⟩
theorem v_md {a b : Int32} {Q : Int32 → sa_St → Prop} : wp (sa_md a b) σ Q ↔ b ≠ 0 ∧ Q (a - a / b * b) σ := by
  unfold sa_md wp
  by_cases h : b = 0
  · simp only [if_pos h]
    constructor
    · rintro ⟨r, τ, w, -⟩; cases w
    · exact fun w => absurd h w.1
  · simp only [if_neg h]
    constructor
    · rintro ⟨r, τ, w, hq⟩; cases w; exact ⟨h, hq⟩
    · exact fun w => ⟨_, _, rfl, w.2⟩
theorem v_dv {a b : Int32} {Q : Int32 → sa_St → Prop} : wp (sa_dv a b) σ Q ↔ b ≠ 0 ∧ Q (a / b) σ := by
  unfold sa_dv wp
  by_cases h : b = 0
  · simp only [if_pos h]
    constructor
    · rintro ⟨r, τ, w, -⟩; cases w
    · exact fun w => absurd h w.1
  · simp only [if_neg h]
    constructor
    · rintro ⟨r, τ, w, hq⟩; cases w; exact ⟨h, hq⟩
    · exact fun w => ⟨_, _, rfl, w.2⟩
/-- an index of a row -/
theorem v_ix {n len : Nat} (hn : n < len) (hl : len < 2 ^ 31) : (¬ (nI n < 0 ∨ len ≤ (nI n).toNatClampNeg)) = True := eq_true (nI_in hn hl)
end RUN2
