/-! PHASE 2: WHAT THE FUNCTIONS DO. wp: a function comes to an answer, of which Q holds. -/
def wp {α : Type} (f : sa_M α) (σ : sa_St) (Q : α → sa_St → Prop) : Prop := ∃ r τ, f σ = some (r, τ) ∧ Q r τ
section RUN
variable {α β : Type} {σ : sa_St} {Q : α → sa_St → Prop}
theorem wp_ret {a : α} : wp (sa_ret a) σ Q ↔ Q a σ := by
  unfold wp sa_ret
  constructor
  · rintro ⟨r, τ, h, hq⟩
    cases h
    exact hq
  · exact fun h => ⟨a, σ, rfl, h⟩
theorem wp_bnd {x : sa_M β} {f : β → sa_M α} : wp (sa_bnd x f) σ Q ↔ wp x σ (fun a τ => wp (f a) τ Q) := by
  unfold wp sa_bnd
  constructor
  · rintro ⟨r, τ, h, hq⟩
    cases hx : x σ with
    | none => rw [hx] at h; cases h
    | some q =>
      rw [hx] at h
      exact ⟨q.1, q.2, rfl, r, τ, h, hq⟩
  · rintro ⟨a, τ, hx, r, τ2, hf, hq⟩
    exact ⟨r, τ2, by rw [hx]; exact hf, hq⟩
theorem wp_let {v : β} {f : β → sa_M α} : wp (sa_let v f) σ Q ↔ wp (f v) σ Q := Iff.rfl
theorem wp_jn0 {k : sa_M α} {b : sa_M α → sa_M α} : wp (sa_jn0 k b) σ Q ↔ wp (b k) σ Q := Iff.rfl
theorem wp_jn1 {A0 : Type} {k : A0 → sa_M α} {b : (A0 → sa_M α) → sa_M α} : wp (sa_jn1 k b) σ Q ↔ wp (b k) σ Q := Iff.rfl
theorem wp_jn2 {A0 A1 : Type} {k : A0 → A1 → sa_M α} {b : (A0 → A1 → sa_M α) → sa_M α} : wp (sa_jn2 k b) σ Q ↔ wp (b k) σ Q := Iff.rfl
theorem wp_if {c : Prop} [Decidable c] {a b : sa_M α} : wp (if c then a else b) σ Q ↔ (c → wp a σ Q) ∧ (¬ c → wp b σ Q) := by
  by_cases h : c
  · rw [if_pos h]; exact ⟨fun w => ⟨fun _ => w, fun n => absurd h n⟩, fun w => w.1 h⟩
  · rw [if_neg h]; exact ⟨fun w => ⟨fun n => absurd n h, fun _ => w⟩, fun w => w.2 h⟩
theorem wp_gd {ci id : Nat} {f : sa_M α} : wp (sa_gd ci id f) σ Q ↔ sa_sh id = some (.inl ci) ∧ wp f σ Q := by
  unfold sa_gd wp
  by_cases h : sa_sh id = some (.inl ci)
  · simp only [if_pos h]; exact ⟨fun w => ⟨h, w⟩, fun w => w.2⟩
  · simp only [if_neg h]
    constructor
    · rintro ⟨r, τ, w, -⟩; cases w
    · exact fun w => absurd w.1 h
theorem wp_of_eq {f : sa_M α} {r : α} {τ : sa_St} (h : f σ = some (r, τ)) : wp f σ Q ↔ Q r τ := by
  unfold wp
  constructor
  · rintro ⟨r2, τ2, w, hq⟩
    rw [h] at w
    cases w
    exact hq
  · exact fun hq => ⟨r, τ, h, hq⟩
theorem wp_mono {f : sa_M α} {Q2 : α → sa_St → Prop} (h : wp f σ Q2) (hq : ∀ r τ, Q2 r τ → Q r τ) : wp f σ Q := by
  obtain ⟨r, τ, h1, h2⟩ := h
  exact ⟨r, τ, h1, hq r τ h2⟩
theorem wp_rdI {ci id k : Nat} {Q : Int32 → sa_St → Prop} : wp (sa_rdI ci id k) σ Q ↔ sa_sh id = some (.inl ci) ∧ Q (σ.1 id k) σ := by
  unfold sa_rdI wp
  by_cases h : sa_sh id = some (.inl ci)
  · simp only [if_pos h]
    constructor
    · rintro ⟨r, τ, w, hq⟩; cases w; exact ⟨h, hq⟩
    · exact fun w => ⟨_, _, rfl, w.2⟩
  · simp only [if_neg h]
    constructor
    · rintro ⟨r, τ, w, -⟩; cases w
    · exact fun w => absurd w.1 h
theorem wp_rdL {ci id k : Nat} {Q : Int64 → sa_St → Prop} : wp (sa_rdL ci id k) σ Q ↔ sa_sh id = some (.inl ci) ∧ Q (σ.2.2 id k) σ := by
  unfold sa_rdL wp
  by_cases h : sa_sh id = some (.inl ci)
  · simp only [if_pos h]
    constructor
    · rintro ⟨r, τ, w, hq⟩; cases w; exact ⟨h, hq⟩
    · exact fun w => ⟨_, _, rfl, w.2⟩
  · simp only [if_neg h]
    constructor
    · rintro ⟨r, τ, w, -⟩; cases w
    · exact fun w => absurd w.1 h
theorem wp_rdR {ci id k v : Nat} {Q : Nat → sa_St → Prop} (hs : sa_sh id = some (.inl ci)) (hv : σ.2.1 id k = v + 1) : wp (sa_rdR ci id k) σ Q ↔ Q v σ := by
  refine wp_of_eq ?_
  unfold sa_rdR
  rw [if_pos hs, hv]
theorem wp_wrI {ci id k : Nat} {v : Int32} {Q : Unit → sa_St → Prop} : wp (sa_wrI ci id k v) σ Q ↔ sa_sh id = some (.inl ci) ∧ Q () (sa_upI σ id k v) := by
  unfold sa_wrI wp
  by_cases h : sa_sh id = some (.inl ci)
  · simp only [if_pos h]
    constructor
    · rintro ⟨r, τ, w, hq⟩; cases w; exact ⟨h, hq⟩
    · exact fun w => ⟨_, _, rfl, w.2⟩
  · simp only [if_neg h]
    constructor
    · rintro ⟨r, τ, w, -⟩; cases w
    · exact fun w => absurd w.1 h
theorem wp_wrL {ci id k : Nat} {v : Int64} {Q : Unit → sa_St → Prop} : wp (sa_wrL ci id k v) σ Q ↔ sa_sh id = some (.inl ci) ∧ Q () (sa_upL σ id k v) := by
  unfold sa_wrL wp
  by_cases h : sa_sh id = some (.inl ci)
  · simp only [if_pos h]
    constructor
    · rintro ⟨r, τ, w, hq⟩; cases w; exact ⟨h, hq⟩
    · exact fun w => ⟨_, _, rfl, w.2⟩
  · simp only [if_neg h]
    constructor
    · rintro ⟨r, τ, w, -⟩; cases w
    · exact fun w => absurd w.1 h
theorem wp_wrR {ci id k v : Nat} {Q : Unit → sa_St → Prop} : wp (sa_wrR ci id k v) σ Q ↔ sa_sh id = some (.inl ci) ∧ Q () (sa_upR σ id k (v + 1)) := by
  unfold sa_wrR wp
  by_cases h : sa_sh id = some (.inl ci)
  · simp only [if_pos h]
    constructor
    · rintro ⟨r, τ, w, hq⟩; cases w; exact ⟨h, hq⟩
    · exact fun w => ⟨_, _, rfl, w.2⟩
  · simp only [if_neg h]
    constructor
    · rintro ⟨r, τ, w, -⟩; cases w
    · exact fun w => absurd w.1 h
theorem wp_wrZ {ci id k : Nat} {v : Int32} {Q : Unit → sa_St → Prop} : wp (sa_wrZ ci id k v) σ Q ↔ (sa_sh id = some (.inl ci) ∧ (v = 0 ∨ v = 1)) ∧ Q () (sa_upI σ id k v) := by
  unfold sa_wrZ wp
  by_cases h : sa_sh id = some (.inl ci) ∧ (v = 0 ∨ v = 1)
  · simp only [if_pos h]
    constructor
    · rintro ⟨r, τ, w, hq⟩; cases w; exact ⟨h, hq⟩
    · exact fun w => ⟨_, _, rfl, w.2⟩
  · simp only [if_neg h]
    constructor
    · rintro ⟨r, τ, w, -⟩; cases w
    · exact fun w => absurd w.1 h
theorem wp_retZ {v : Int32} {Q : Int32 → sa_St → Prop} : wp (sa_retZ v) σ Q ↔ (v = 0 ∨ v = 1) ∧ Q v σ := by
  unfold sa_retZ wp
  by_cases h : v = 0 ∨ v = 1
  · simp only [if_pos h]
    constructor
    · rintro ⟨r, τ, w, hq⟩; cases w; exact ⟨h, hq⟩
    · exact fun w => ⟨_, _, rfl, w.2⟩
  · simp only [if_neg h]
    constructor
    · rintro ⟨r, τ, w, -⟩; cases w
    · exact fun w => absurd w.1 h
theorem wp_dv {a b : Int32} {Q : Int32 → sa_St → Prop} (hb : b ≠ 0) : wp (sa_dv a b) σ Q ↔ Q (a / b) σ := wp_of_eq (if_neg hb)
theorem wp_md {a b : Int32} {Q : Int32 → sa_St → Prop} (hb : b ≠ 0) : wp (sa_md a b) σ Q ↔ Q (a - a / b * b) σ := wp_of_eq (if_neg hb)
theorem wp_dvL {a b : Int64} {Q : Int64 → sa_St → Prop} (hb : b ≠ 0) : wp (sa_dvL a b) σ Q ↔ Q (a / b) σ := wp_of_eq (if_neg hb)
theorem wp_mdL {a b : Int64} {Q : Int64 → sa_St → Prop} (hb : b ≠ 0) : wp (sa_mdL a b) σ Q ↔ Q (a - a / b * b) σ := wp_of_eq (if_neg hb)
/-- an index: a number below a length -/
theorem ix_no {j : Int32} {n len : Nat} (hj : j = nI n) (hn : n < len) (hl : len < 2 ^ 31) : ¬ (j < 0 ∨ len ≤ j.toNatClampNeg) := by
  subst hj
  exact nI_in hn hl
theorem ix_at {j : Int32} {n : Nat} (hj : j = nI n) (hn : n < 2 ^ 31) : j.toNatClampNeg = n := by
  subst hj
  exact nI_clamp hn
theorem wp_ldI {ty : FieldType} {id n len : Nat} {j : Int32} {Q : Int32 → sa_St → Prop} (hal : sa_al ty id = len) (hj : j = nI n) (hn : n < len) (hl : len < 2 ^ 31) : wp (sa_ldI ty id j) σ Q ↔ Q (σ.1 id n) σ := by
  refine wp_of_eq ?_
  unfold sa_ldI
  rw [hal, if_neg (ix_no hj hn hl), ix_at hj (by omega)]
theorem wp_ldL {id n len : Nat} {j : Int32} {Q : Int64 → sa_St → Prop} (hal : sa_al .long id = len) (hj : j = nI n) (hn : n < len) (hl : len < 2 ^ 31) : wp (sa_ldL id j) σ Q ↔ Q (σ.2.2 id n) σ := by
  refine wp_of_eq ?_
  unfold sa_ldL
  rw [hal, if_neg (ix_no hj hn hl), ix_at hj (by omega)]
theorem wp_ldR {ty : FieldType} {id n len v : Nat} {j : Int32} {Q : Nat → sa_St → Prop} (hal : sa_al ty id = len) (hj : j = nI n) (hn : n < len) (hl : len < 2 ^ 31) (hv : σ.2.1 id n = v + 1) : wp (sa_ldR ty id j) σ Q ↔ Q v σ := by
  refine wp_of_eq ?_
  unfold sa_ldR
  rw [hal, if_neg (ix_no hj hn hl), ix_at hj (by omega), hv]
theorem wp_stI {id n len : Nat} {j v : Int32} {Q : Unit → sa_St → Prop} (hal : sa_al .int id = len) (hj : j = nI n) (hn : n < len) (hl : len < 2 ^ 31) : wp (sa_stI id j v) σ Q ↔ Q () (sa_upI σ id n v) := by
  refine wp_of_eq ?_
  unfold sa_stI
  rw [hal, if_neg (ix_no hj hn hl), ix_at hj (by omega)]
theorem wp_stB {id n len : Nat} {j v : Int32} {Q : Unit → sa_St → Prop} (hal : sa_al .byte id = len) (hj : j = nI n) (hn : n < len) (hl : len < 2 ^ 31) : wp (sa_stB id j v) σ Q ↔ Q () (sa_upI σ id n (vp_nar .byte v)) := by
  refine wp_of_eq ?_
  unfold sa_stB
  rw [hal, if_neg (ix_no hj hn hl), ix_at hj (by omega)]
theorem wp_stZ {id n len : Nat} {j v : Int32} {Q : Unit → sa_St → Prop} (hal : sa_al .boolean id = len) (hj : j = nI n) (hn : n < len) (hl : len < 2 ^ 31) : wp (sa_stZ id j v) σ Q ↔ Q () (sa_upI σ id n (vp_nar .boolean v)) := by
  refine wp_of_eq ?_
  unfold sa_stZ
  rw [hal, if_neg (ix_no hj hn hl), ix_at hj (by omega)]
theorem wp_stL {id n len : Nat} {j : Int32} {v : Int64} {Q : Unit → sa_St → Prop} (hal : sa_al .long id = len) (hj : j = nI n) (hn : n < len) (hl : len < 2 ^ 31) : wp (sa_stL id j v) σ Q ↔ Q () (sa_upL σ id n v) := by
  refine wp_of_eq ?_
  unfold sa_stL
  rw [hal, if_neg (ix_no hj hn hl), ix_at hj (by omega)]
theorem wp_tb {t n : Nat} {j : Int32} {Q : Int32 → sa_St → Prop} (hj : j = nI n) (hn : n < (sa_row t).length) (hl : (sa_row t).length < 2 ^ 31) : wp (sa_tb t j) σ Q ↔ Q ((sa_row t).getD n 0) σ := by
  refine wp_of_eq ?_
  unfold sa_tb
  rw [if_neg (ix_no hj hn hl), ix_at hj (by omega)]
theorem wp_cpI {a0 a sn dn nn l0 l1 : Nat} {sp dp n : Int32} {Q : Unit → sa_St → Prop} (h0 : sa_al .int a0 = l0) (h1 : sa_al .int a = l1) (hs : sp = nI sn) (hd : dp = nI dn) (hn : n = nI nn) (k0 : sn + nn ≤ l0) (k1 : dn + nn ≤ l1) (p0 : 0 < l0 ∧ l0 < 2 ^ 31) (p1 : 0 < l1 ∧ l1 < 2 ^ 31) : wp (sa_cpI a0 sp a dp n) σ Q ↔ Q () (va_up σ.1 a (va_cpy (σ.1 a0) (σ.1 a) sn dn nn), σ.2) := by
  refine wp_of_eq ?_
  subst hs hd hn
  unfold sa_cpI
  rw [h0, h1, nI_clamp (by omega), nI_clamp (by omega), nI_clamp (by omega), if_neg]
  rintro (h | h | h | h | h | h | h)
  · exact nI_pos (by omega) h
  · exact nI_pos (by omega) h
  · exact nI_pos (by omega) h
  all_goals omega
theorem wp_cpL {a0 a sn dn nn l0 l1 : Nat} {sp dp n : Int32} {Q : Unit → sa_St → Prop} (h0 : sa_al .long a0 = l0) (h1 : sa_al .long a = l1) (hs : sp = nI sn) (hd : dp = nI dn) (hn : n = nI nn) (k0 : sn + nn ≤ l0) (k1 : dn + nn ≤ l1) (p0 : 0 < l0 ∧ l0 < 2 ^ 31) (p1 : 0 < l1 ∧ l1 < 2 ^ 31) : wp (sa_cpL a0 sp a dp n) σ Q ↔ Q () (σ.1, σ.2.1, va_up σ.2.2 a (va_cpy (σ.2.2 a0) (σ.2.2 a) sn dn nn)) := by
  refine wp_of_eq ?_
  subst hs hd hn
  unfold sa_cpL
  rw [h0, h1, nI_clamp (by omega), nI_clamp (by omega), nI_clamp (by omega), if_neg]
  rintro (h | h | h | h | h | h | h)
  · exact nI_pos (by omega) h
  · exact nI_pos (by omega) h
  · exact nI_pos (by omega) h
  all_goals omega
/-! loops -/
theorem wp_wh1 {A0 : Type} {b : (A0 → sa_M α) → A0 → sa_M α} (P : Nat → A0 → sa_St → Prop) (hb : ∀ m a σ, P m a σ → ∀ k : A0 → sa_M α, (∀ m2 a2 σ2, m2 < m → P m2 a2 σ2 → wp (k a2) σ2 Q) → wp (b k a) σ Q) : ∀ (F m : Nat) (a : A0) (σ : sa_St), m < F → P m a σ → wp (sa_wh1 b F a) σ Q := by
  intro F
  induction F with
  | zero => intro m a σ h; omega
  | succ F ih => exact fun m a σ h hp => hb m a σ hp _ (fun m2 a2 σ2 h2 hp2 => ih m2 a2 σ2 (by omega) hp2)
theorem wp_wh0 {b : (sa_M α) → sa_M α} (P : Nat → sa_St → Prop) (hb : ∀ m σ, P m σ → ∀ k : sa_M α, (∀ m2 σ2, m2 < m → P m2 σ2 → wp k σ2 Q) → wp (b k) σ Q) : ∀ (F m : Nat) (σ : sa_St), m < F → P m σ → wp (sa_wh0 b F) σ Q := by
  intro F
  induction F with
  | zero => intro m σ h; omega
  | succ F ih => exact fun m σ h hp => hb m σ hp _ (fun m2 σ2 h2 hp2 => ih m2 σ2 (by omega) hp2)
theorem wp_wh2 {A0 A1 : Type} {b : (A0 → A1 → sa_M α) → A0 → A1 → sa_M α} (P : Nat → A0 → A1 → sa_St → Prop) (hb : ∀ m a c σ, P m a c σ → ∀ k : A0 → A1 → sa_M α, (∀ m2 a2 c2 σ2, m2 < m → P m2 a2 c2 σ2 → wp (k a2 c2) σ2 Q) → wp (b k a c) σ Q) : ∀ (F m : Nat) (a : A0) (c : A1) (σ : sa_St), m < F → P m a c σ → wp (sa_wh2 b F a c) σ Q := by
  intro F
  induction F with
  | zero => intro m a c σ h; omega
  | succ F ih => exact fun m a c σ h hp => hb m a c σ hp _ (fun m2 a2 c2 σ2 h2 hp2 => ih m2 a2 c2 σ2 (by omega) hp2)
theorem wp_wh3 {A0 A1 A2 : Type} {b : (A0 → A1 → A2 → sa_M α) → A0 → A1 → A2 → sa_M α} (P : Nat → A0 → A1 → A2 → sa_St → Prop) (hb : ∀ m a c d σ, P m a c d σ → ∀ k : A0 → A1 → A2 → sa_M α, (∀ m2 a2 c2 d2 σ2, m2 < m → P m2 a2 c2 d2 σ2 → wp (k a2 c2 d2) σ2 Q) → wp (b k a c d) σ Q) : ∀ (F m : Nat) (a : A0) (c : A1) (d : A2) (σ : sa_St), m < F → P m a c d σ → wp (sa_wh3 b F a c d) σ Q := by
  intro F
  induction F with
  | zero => intro m a c d σ h; omega
  | succ F ih => exact fun m a c d σ h hp => hb m a c d σ hp _ (fun m2 a2 c2 d2 σ2 h2 hp2 => ih m2 a2 c2 d2 σ2 (by omega) hp2)
theorem wp_wh4 {A0 A1 A2 A3 : Type} {b : (A0 → A1 → A2 → A3 → sa_M α) → A0 → A1 → A2 → A3 → sa_M α} (P : Nat → A0 → A1 → A2 → A3 → sa_St → Prop) (hb : ∀ m a c d e σ, P m a c d e σ → ∀ k : A0 → A1 → A2 → A3 → sa_M α, (∀ m2 a2 c2 d2 e2 σ2, m2 < m → P m2 a2 c2 d2 e2 σ2 → wp (k a2 c2 d2 e2) σ2 Q) → wp (b k a c d e) σ Q) : ∀ (F m : Nat) (a : A0) (c : A1) (d : A2) (e : A3) (σ : sa_St), m < F → P m a c d e σ → wp (sa_wh4 b F a c d e) σ Q := by
  intro F
  induction F with
  | zero => intro m a c d e σ h; omega
  | succ F ih => exact fun m a c d e σ h hp => hb m a c d e σ hp _ (fun m2 a2 c2 d2 e2 σ2 h2 hp2 => ih m2 a2 c2 d2 e2 σ2 (by omega) hp2)
/-- a loop that counts from i0 up to n -/
theorem wp_for1 {b : (Int32 → sa_M α) → Int32 → sa_M α} {F : Nat} (n i0 : Nat) (I : Nat → sa_St → Prop) (hs : ∀ i σ, i < n → I i σ → ∀ k : Int32 → sa_M α, (∀ σ2, I (i + 1) σ2 → wp (k (nI (i + 1))) σ2 Q) → wp (b k (nI i)) σ Q) (he : ∀ σ, I n σ → ∀ k, wp (b k (nI n)) σ Q) (h0 : I i0 σ) (hi : i0 ≤ n) (hF : n < F) : wp (sa_wh1 b F (nI i0)) σ Q := by
  refine wp_wh1 (fun m a σ => ∃ i, a = nI i ∧ i + m = n ∧ I i σ) ?_ F (n - i0) (nI i0) σ (by omega) ⟨i0, rfl, by omega, h0⟩
  rintro m a σ ⟨i, rfl, hm, hI⟩ k hk
  by_cases h : i < n
  · exact hs i σ h hI k (fun σ2 h2 => hk (m - 1) _ σ2 (by omega) ⟨i + 1, rfl, by omega, h2⟩)
  · have : i = n := by omega
    subst this
    exact he σ hI k
theorem wp_for2 {A0 : Type} {b : (A0 → Int32 → sa_M α) → A0 → Int32 → sa_M α} {F : Nat} {a0 : A0} (n i0 : Nat) (I : Nat → A0 → sa_St → Prop) (hs : ∀ i a σ, i < n → I i a σ → ∀ k : A0 → Int32 → sa_M α, (∀ a2 σ2, I (i + 1) a2 σ2 → wp (k a2 (nI (i + 1))) σ2 Q) → wp (b k a (nI i)) σ Q) (he : ∀ a σ, I n a σ → ∀ k, wp (b k a (nI n)) σ Q) (h0 : I i0 a0 σ) (hi : i0 ≤ n) (hF : n < F) : wp (sa_wh2 b F a0 (nI i0)) σ Q := by
  refine wp_wh2 (fun m a c σ => ∃ i, c = nI i ∧ i + m = n ∧ I i a σ) ?_ F (n - i0) a0 (nI i0) σ (by omega) ⟨i0, rfl, by omega, h0⟩
  rintro m a c σ ⟨i, rfl, hm, hI⟩ k hk
  by_cases h : i < n
  · exact hs i a σ h hI k (fun a2 σ2 h2 => hk (m - 1) _ _ σ2 (by omega) ⟨i + 1, rfl, by omega, h2⟩)
  · have : i = n := by omega
    subst this
    exact he a σ hI k
theorem wp_for3 {A0 A1 : Type} {b : (A0 → A1 → Int32 → sa_M α) → A0 → A1 → Int32 → sa_M α} {F : Nat} {a0 : A0} {c0 : A1} (n i0 : Nat) (I : Nat → A0 → A1 → sa_St → Prop) (hs : ∀ i a c σ, i < n → I i a c σ → ∀ k : A0 → A1 → Int32 → sa_M α, (∀ a2 c2 σ2, I (i + 1) a2 c2 σ2 → wp (k a2 c2 (nI (i + 1))) σ2 Q) → wp (b k a c (nI i)) σ Q) (he : ∀ a c σ, I n a c σ → ∀ k, wp (b k a c (nI n)) σ Q) (h0 : I i0 a0 c0 σ) (hi : i0 ≤ n) (hF : n < F) : wp (sa_wh3 b F a0 c0 (nI i0)) σ Q := by
  refine wp_wh3 (fun m a c d σ => ∃ i, d = nI i ∧ i + m = n ∧ I i a c σ) ?_ F (n - i0) a0 c0 (nI i0) σ (by omega) ⟨i0, rfl, by omega, h0⟩
  rintro m a c d σ ⟨i, rfl, hm, hI⟩ k hk
  by_cases h : i < n
  · exact hs i a c σ h hI k (fun a2 c2 σ2 h2 => hk (m - 1) _ _ _ σ2 (by omega) ⟨i + 1, rfl, by omega, h2⟩)
  · have : i = n := by omega
    subst this
    exact he a c σ hI k
end RUN
/-- ints and longs outside S, and all references, stand as they were -/
def Fr (S : List Nat) (σ τ : sa_St) : Prop := τ.2.1 = σ.2.1 ∧ ∀ j, j ∉ S → τ.1 j = σ.1 j ∧ τ.2.2 j = σ.2.2 j
theorem Fr.rfl' {S : List Nat} {σ : sa_St} : Fr S σ σ := ⟨rfl, fun _ _ => ⟨rfl, rfl⟩⟩
theorem Fr.trans {S : List Nat} {a b c : sa_St} (h1 : Fr S a b) (h2 : Fr S b c) : Fr S a c := ⟨h2.1.trans h1.1, fun j hj => ⟨(h2.2 j hj).1.trans (h1.2 j hj).1, (h2.2 j hj).2.trans (h1.2 j hj).2⟩⟩
theorem Fr.mono {S S2 : List Nat} {a b : sa_St} (h : Fr S a b) (hs : ∀ j, j ∈ S → j ∈ S2) : Fr S2 a b := ⟨h.1, fun j hj => h.2 j (fun q => hj (hs j q))⟩
theorem Fr.upI {S : List Nat} {σ : sa_St} {id k : Nat} {v : Int32} (h : id ∈ S) : Fr S σ (sa_upI σ id k v) := ⟨rfl, fun j hj => ⟨va_up_ne _ _ (fun e => hj (e ▸ h)), rfl⟩⟩
theorem Fr.upL {S : List Nat} {σ : sa_St} {id k : Nat} {v : Int64} (h : id ∈ S) : Fr S σ (sa_upL σ id k v) := ⟨rfl, fun j hj => ⟨rfl, va_up_ne _ _ (fun e => hj (e ▸ h))⟩⟩
theorem Fr.setI {S : List Nat} {σ : sa_St} {id : Nat} {f : Nat → Int32} (h : id ∈ S) : Fr S σ (va_up σ.1 id f, σ.2) := ⟨rfl, fun j hj => ⟨va_up_ne _ _ (fun e => hj (e ▸ h)), rfl⟩⟩
theorem upI_self {σ : sa_St} {id k : Nat} {v : Int32} : (sa_upI σ id k v).1 id = va_up (σ.1 id) k v := va_up_self _ _ _
theorem upI_ne {σ : sa_St} {id k j : Nat} {v : Int32} (h : j ≠ id) : (sa_upI σ id k v).1 j = σ.1 j := va_up_ne _ _ h
theorem upI_2 {σ : sa_St} {id k : Nat} {v : Int32} : (sa_upI σ id k v).2 = σ.2 := rfl
/-- Arrays.fill of a row of ints -/
theorem wp_fillI {id len : Nat} {v : Int32} {σ : sa_St} {Q : Unit → sa_St → Prop} (hal : sa_al .int id = len) (h0 : 0 < len) (hl : len < 100000) (hQ : ∀ f : Nat → Int32, (∀ j, j < len → f j = v) → (∀ j, len ≤ j → f j = σ.1 id j) → Q () (va_up σ.1 id f, σ.2)) : wp (f_J7_fill_53178 id v) σ Q := by
  unfold f_J7_fill_53178
  rw [wp_let, wp_bnd, wp_of_eq (show sa_len .int id σ = some (nI len, σ) from by unfold sa_len; rw [hal, if_neg (by omega)])]
  refine wp_for1 (Q := Q) len 0 (fun i τ => ∃ f : Nat → Int32, τ = (va_up σ.1 id f, σ.2) ∧ (∀ j, j < i → f j = v) ∧ ∀ j, i ≤ j → f j = σ.1 id j) ?_ ?_ ⟨σ.1 id, ?_, fun j hj => by omega, fun _ _ => rfl⟩ (Nat.zero_le _) (by unfold sa_F; omega)
  · rintro i τ hi ⟨f, rfl, hf1, hf2⟩ k hk
    rw [wp_if]
    refine ⟨fun h => absurd h (nI_ge hi (by omega)), fun _ => ?_⟩
    rw [wp_bnd, wp_stI hal rfl hi (by omega), wp_let, nI_1]
    refine hk _ ⟨va_up f i v, ?_, fun j hj => ?_, fun j hj => ?_⟩
    · unfold sa_upI
      simp only [va_up_self]
      congr 1
      funext j
      simp only [va_up]
      by_cases h : j = id <;> simp [h]
    · by_cases h : j = i
      · subst h; exact va_up_self _ _ _
      · rw [va_up_ne _ _ h]; exact hf1 j (by omega)
    · rw [va_up_ne _ _ (by omega)]; exact hf2 j (by omega)
  · rintro τ ⟨f, rfl, hf1, hf2⟩ k
    rw [wp_if]
    refine ⟨fun _ => ?_, fun h => absurd (nI_le (Nat.le_refl len) (by omega)) h⟩
    rw [wp_ret]
    exact hQ f hf1 hf2
  · have : va_up σ.1 id (σ.1 id) = σ.1 := by
      funext j
      simp only [va_up]
      by_cases h : j = id <;> simp [h]
    rw [this]
/-! the same without premises: what is asked stands in the answer -/
/-- an index that may be read -/
def okx (len : Nat) (j : Int32) : Prop := ¬ (j < 0 ∨ len ≤ j.toNatClampNeg)
section RUN2
variable {σ : sa_St}
theorem v_rdR {ci id k : Nat} {Q : Nat → sa_St → Prop} : wp (sa_rdR ci id k) σ Q ↔ sa_sh id = some (.inl ci) ∧ 0 < σ.2.1 id k ∧ Q (σ.2.1 id k - 1) σ := by
  unfold sa_rdR wp
  by_cases h : sa_sh id = some (.inl ci)
  · simp only [if_pos h]
    cases hv : σ.2.1 id k with
    | zero =>
      constructor
      · rintro ⟨r, τ, w, hq⟩; cases w
      · rintro ⟨-, h, -⟩; omega
    | succ i =>
      constructor
      · rintro ⟨r, τ, w, hq⟩; cases w; exact ⟨h, by omega, hq⟩
      · exact fun w => ⟨_, _, rfl, w.2.2⟩
  · simp only [if_neg h]
    constructor
    · rintro ⟨r, τ, w, -⟩; cases w
    · exact fun w => absurd w.1 h
theorem v_ldI {ty : FieldType} {id : Nat} {j : Int32} {Q : Int32 → sa_St → Prop} : wp (sa_ldI ty id j) σ Q ↔ okx (sa_al ty id) j ∧ Q (σ.1 id j.toNatClampNeg) σ := by
  unfold sa_ldI wp
  by_cases h : j < 0 ∨ sa_al ty id ≤ j.toNatClampNeg
  · simp only [if_pos h]
    constructor
    · rintro ⟨r, τ, w, -⟩; cases w
    · exact fun w => absurd h w.1
  · simp only [if_neg h]
    constructor
    · rintro ⟨r, τ, w, hq⟩; cases w; exact ⟨h, hq⟩
    · exact fun w => ⟨_, _, rfl, w.2⟩
theorem v_ldL {id : Nat} {j : Int32} {Q : Int64 → sa_St → Prop} : wp (sa_ldL id j) σ Q ↔ okx (sa_al .long id) j ∧ Q (σ.2.2 id j.toNatClampNeg) σ := by
  unfold sa_ldL wp
  by_cases h : j < 0 ∨ sa_al .long id ≤ j.toNatClampNeg
  · simp only [if_pos h]
    constructor
    · rintro ⟨r, τ, w, -⟩; cases w
    · exact fun w => absurd h w.1
  · simp only [if_neg h]
    constructor
    · rintro ⟨r, τ, w, hq⟩; cases w; exact ⟨h, hq⟩
    · exact fun w => ⟨_, _, rfl, w.2⟩
theorem v_ldR {ty : FieldType} {id : Nat} {j : Int32} {Q : Nat → sa_St → Prop} : wp (sa_ldR ty id j) σ Q ↔ okx (sa_al ty id) j ∧ 0 < σ.2.1 id j.toNatClampNeg ∧ Q (σ.2.1 id j.toNatClampNeg - 1) σ := by
  unfold sa_ldR wp
  by_cases h : j < 0 ∨ sa_al ty id ≤ j.toNatClampNeg
  · simp only [if_pos h]
    constructor
    · rintro ⟨r, τ, w, -⟩; cases w
    · exact fun w => absurd h w.1
  · simp only [if_neg h]
    cases hv : σ.2.1 id j.toNatClampNeg with
    | zero =>
      constructor
      · rintro ⟨r, τ, w, hq⟩; cases w
      · rintro ⟨-, h, -⟩; omega
    | succ i =>
      constructor
      · rintro ⟨r, τ, w, hq⟩; cases w; exact ⟨h, by omega, hq⟩
      · exact fun w => ⟨_, _, rfl, w.2.2⟩
theorem v_stI {id : Nat} {j v : Int32} {Q : Unit → sa_St → Prop} : wp (sa_stI id j v) σ Q ↔ okx (sa_al .int id) j ∧ Q () (sa_upI σ id j.toNatClampNeg v) := by
  unfold sa_stI wp
  by_cases h : j < 0 ∨ sa_al .int id ≤ j.toNatClampNeg
  · simp only [if_pos h]
    constructor
    · rintro ⟨r, τ, w, -⟩; cases w
    · exact fun w => absurd h w.1
  · simp only [if_neg h]
    constructor
    · rintro ⟨r, τ, w, hq⟩; cases w; exact ⟨h, hq⟩
    · exact fun w => ⟨_, _, rfl, w.2⟩
theorem v_stB {id : Nat} {j v : Int32} {Q : Unit → sa_St → Prop} : wp (sa_stB id j v) σ Q ↔ okx (sa_al .byte id) j ∧ Q () (sa_upI σ id j.toNatClampNeg (vp_nar .byte v)) := by
  unfold sa_stB wp
  by_cases h : j < 0 ∨ sa_al .byte id ≤ j.toNatClampNeg
  · simp only [if_pos h]
    constructor
    · rintro ⟨r, τ, w, -⟩; cases w
    · exact fun w => absurd h w.1
  · simp only [if_neg h]
    constructor
    · rintro ⟨r, τ, w, hq⟩; cases w; exact ⟨h, hq⟩
    · exact fun w => ⟨_, _, rfl, w.2⟩
theorem v_stZ {id : Nat} {j v : Int32} {Q : Unit → sa_St → Prop} : wp (sa_stZ id j v) σ Q ↔ okx (sa_al .boolean id) j ∧ Q () (sa_upI σ id j.toNatClampNeg (vp_nar .boolean v)) := by
  unfold sa_stZ wp
  by_cases h : j < 0 ∨ sa_al .boolean id ≤ j.toNatClampNeg
  · simp only [if_pos h]
    constructor
    · rintro ⟨r, τ, w, -⟩; cases w
    · exact fun w => absurd h w.1
  · simp only [if_neg h]
    constructor
    · rintro ⟨r, τ, w, hq⟩; cases w; exact ⟨h, hq⟩
    · exact fun w => ⟨_, _, rfl, w.2⟩
theorem v_stL {id : Nat} {j : Int32} {v : Int64} {Q : Unit → sa_St → Prop} : wp (sa_stL id j v) σ Q ↔ okx (sa_al .long id) j ∧ Q () (sa_upL σ id j.toNatClampNeg v) := by
  unfold sa_stL wp
  by_cases h : j < 0 ∨ sa_al .long id ≤ j.toNatClampNeg
  · simp only [if_pos h]
    constructor
    · rintro ⟨r, τ, w, -⟩; cases w
    · exact fun w => absurd h w.1
  · simp only [if_neg h]
    constructor
    · rintro ⟨r, τ, w, hq⟩; cases w; exact ⟨h, hq⟩
    · exact fun w => ⟨_, _, rfl, w.2⟩
theorem v_md {a b : Int32} {Q : Int32 → sa_St → Prop} : wp (sa_md a b) σ Q ↔ b ≠ 0 ∧ Q (a - a / b * b) σ := by
  unfold sa_md wp
  by_cases h : b = 0
  · simp only [if_pos h]
    constructor
    · rintro ⟨r, τ, w, -⟩; cases w
    · exact fun w => absurd h w.1
  · simp only [if_neg h]
    constructor
    · rintro ⟨r, τ, w, hq⟩; cases w; exact ⟨h, hq⟩
    · exact fun w => ⟨_, _, rfl, w.2⟩
theorem v_dv {a b : Int32} {Q : Int32 → sa_St → Prop} : wp (sa_dv a b) σ Q ↔ b ≠ 0 ∧ Q (a / b) σ := by
  unfold sa_dv wp
  by_cases h : b = 0
  · simp only [if_pos h]
    constructor
    · rintro ⟨r, τ, w, -⟩; cases w
    · exact fun w => absurd h w.1
  · simp only [if_neg h]
    constructor
    · rintro ⟨r, τ, w, hq⟩; cases w; exact ⟨h, hq⟩
    · exact fun w => ⟨_, _, rfl, w.2⟩
theorem v_tb {t : Nat} {j : Int32} {Q : Int32 → sa_St → Prop} : wp (sa_tb t j) σ Q ↔ okx (sa_row t).length j ∧ Q ((sa_row t).getD j.toNatClampNeg 0) σ := by
  unfold sa_tb wp
  by_cases h : j < 0 ∨ (sa_row t).length ≤ j.toNatClampNeg
  · simp only [if_pos h]
    constructor
    · rintro ⟨r, τ, w, -⟩; cases w
    · exact fun w => absurd h w.1
  · simp only [if_neg h]
    constructor
    · rintro ⟨r, τ, w, hq⟩; cases w; exact ⟨h, hq⟩
    · exact fun w => ⟨_, _, rfl, w.2⟩
/-- an index of a row -/
theorem okN {n len : Nat} (hn : n < len) (hl : len < 2 ^ 31) : okx len (nI n) = True := eq_true (nI_in hn hl)
theorem ok0 {len : Nat} (hn : 0 < len) (hl : len < 2 ^ 31) : okx len 0 = True := okN (n := 0) hn hl
theorem cl0 : ((0 : Int32)).toNatClampNeg = 0 := nI_clamp (n := 0) (by decide)
theorem ok1 {len : Nat} (hn : 1 < len) (hl : len < 2 ^ 31) : okx len 1 = True := okN (n := 1) hn hl
theorem cl1 : ((1 : Int32)).toNatClampNeg = 1 := nI_clamp (n := 1) (by decide)
theorem ok2 {len : Nat} (hn : 2 < len) (hl : len < 2 ^ 31) : okx len 2 = True := okN (n := 2) hn hl
theorem cl2 : ((2 : Int32)).toNatClampNeg = 2 := nI_clamp (n := 2) (by decide)
theorem ok3 {len : Nat} (hn : 3 < len) (hl : len < 2 ^ 31) : okx len 3 = True := okN (n := 3) hn hl
theorem cl3 : ((3 : Int32)).toNatClampNeg = 3 := nI_clamp (n := 3) (by decide)
theorem ok4 {len : Nat} (hn : 4 < len) (hl : len < 2 ^ 31) : okx len 4 = True := okN (n := 4) hn hl
theorem cl4 : ((4 : Int32)).toNatClampNeg = 4 := nI_clamp (n := 4) (by decide)
theorem ok5 {len : Nat} (hn : 5 < len) (hl : len < 2 ^ 31) : okx len 5 = True := okN (n := 5) hn hl
theorem cl5 : ((5 : Int32)).toNatClampNeg = 5 := nI_clamp (n := 5) (by decide)
theorem ok6 {len : Nat} (hn : 6 < len) (hl : len < 2 ^ 31) : okx len 6 = True := okN (n := 6) hn hl
theorem cl6 : ((6 : Int32)).toNatClampNeg = 6 := nI_clamp (n := 6) (by decide)
theorem ok7 {len : Nat} (hn : 7 < len) (hl : len < 2 ^ 31) : okx len 7 = True := okN (n := 7) hn hl
theorem cl7 : ((7 : Int32)).toNatClampNeg = 7 := nI_clamp (n := 7) (by decide)
theorem ok8 {len : Nat} (hn : 8 < len) (hl : len < 2 ^ 31) : okx len 8 = True := okN (n := 8) hn hl
theorem cl8 : ((8 : Int32)).toNatClampNeg = 8 := nI_clamp (n := 8) (by decide)
theorem ok9 {len : Nat} (hn : 9 < len) (hl : len < 2 ^ 31) : okx len 9 = True := okN (n := 9) hn hl
theorem cl9 : ((9 : Int32)).toNatClampNeg = 9 := nI_clamp (n := 9) (by decide)
theorem ok10 {len : Nat} (hn : 10 < len) (hl : len < 2 ^ 31) : okx len 10 = True := okN (n := 10) hn hl
theorem cl10 : ((10 : Int32)).toNatClampNeg = 10 := nI_clamp (n := 10) (by decide)
theorem ok11 {len : Nat} (hn : 11 < len) (hl : len < 2 ^ 31) : okx len 11 = True := okN (n := 11) hn hl
theorem cl11 : ((11 : Int32)).toNatClampNeg = 11 := nI_clamp (n := 11) (by decide)
theorem ok12 {len : Nat} (hn : 12 < len) (hl : len < 2 ^ 31) : okx len 12 = True := okN (n := 12) hn hl
theorem cl12 : ((12 : Int32)).toNatClampNeg = 12 := nI_clamp (n := 12) (by decide)
theorem ok13 {len : Nat} (hn : 13 < len) (hl : len < 2 ^ 31) : okx len 13 = True := okN (n := 13) hn hl
theorem cl13 : ((13 : Int32)).toNatClampNeg = 13 := nI_clamp (n := 13) (by decide)
theorem ok14 {len : Nat} (hn : 14 < len) (hl : len < 2 ^ 31) : okx len 14 = True := okN (n := 14) hn hl
theorem cl14 : ((14 : Int32)).toNatClampNeg = 14 := nI_clamp (n := 14) (by decide)
theorem ok15 {len : Nat} (hn : 15 < len) (hl : len < 2 ^ 31) : okx len 15 = True := okN (n := 15) hn hl
theorem cl15 : ((15 : Int32)).toNatClampNeg = 15 := nI_clamp (n := 15) (by decide)
theorem ok16 {len : Nat} (hn : 16 < len) (hl : len < 2 ^ 31) : okx len 16 = True := okN (n := 16) hn hl
theorem cl16 : ((16 : Int32)).toNatClampNeg = 16 := nI_clamp (n := 16) (by decide)
theorem ok17 {len : Nat} (hn : 17 < len) (hl : len < 2 ^ 31) : okx len 17 = True := okN (n := 17) hn hl
theorem cl17 : ((17 : Int32)).toNatClampNeg = 17 := nI_clamp (n := 17) (by decide)
theorem ok18 {len : Nat} (hn : 18 < len) (hl : len < 2 ^ 31) : okx len 18 = True := okN (n := 18) hn hl
theorem cl18 : ((18 : Int32)).toNatClampNeg = 18 := nI_clamp (n := 18) (by decide)
theorem ok19 {len : Nat} (hn : 19 < len) (hl : len < 2 ^ 31) : okx len 19 = True := okN (n := 19) hn hl
theorem cl19 : ((19 : Int32)).toNatClampNeg = 19 := nI_clamp (n := 19) (by decide)
theorem ok20 {len : Nat} (hn : 20 < len) (hl : len < 2 ^ 31) : okx len 20 = True := okN (n := 20) hn hl
theorem cl20 : ((20 : Int32)).toNatClampNeg = 20 := nI_clamp (n := 20) (by decide)
theorem ok21 {len : Nat} (hn : 21 < len) (hl : len < 2 ^ 31) : okx len 21 = True := okN (n := 21) hn hl
theorem cl21 : ((21 : Int32)).toNatClampNeg = 21 := nI_clamp (n := 21) (by decide)
theorem ok22 {len : Nat} (hn : 22 < len) (hl : len < 2 ^ 31) : okx len 22 = True := okN (n := 22) hn hl
theorem cl22 : ((22 : Int32)).toNatClampNeg = 22 := nI_clamp (n := 22) (by decide)
theorem ok23 {len : Nat} (hn : 23 < len) (hl : len < 2 ^ 31) : okx len 23 = True := okN (n := 23) hn hl
theorem cl23 : ((23 : Int32)).toNatClampNeg = 23 := nI_clamp (n := 23) (by decide)
theorem ok24 {len : Nat} (hn : 24 < len) (hl : len < 2 ^ 31) : okx len 24 = True := okN (n := 24) hn hl
theorem cl24 : ((24 : Int32)).toNatClampNeg = 24 := nI_clamp (n := 24) (by decide)
theorem ok25 {len : Nat} (hn : 25 < len) (hl : len < 2 ^ 31) : okx len 25 = True := okN (n := 25) hn hl
theorem cl25 : ((25 : Int32)).toNatClampNeg = 25 := nI_clamp (n := 25) (by decide)
theorem ok26 {len : Nat} (hn : 26 < len) (hl : len < 2 ^ 31) : okx len 26 = True := okN (n := 26) hn hl
theorem cl26 : ((26 : Int32)).toNatClampNeg = 26 := nI_clamp (n := 26) (by decide)
theorem ok27 {len : Nat} (hn : 27 < len) (hl : len < 2 ^ 31) : okx len 27 = True := okN (n := 27) hn hl
theorem cl27 : ((27 : Int32)).toNatClampNeg = 27 := nI_clamp (n := 27) (by decide)
theorem ok28 {len : Nat} (hn : 28 < len) (hl : len < 2 ^ 31) : okx len 28 = True := okN (n := 28) hn hl
theorem cl28 : ((28 : Int32)).toNatClampNeg = 28 := nI_clamp (n := 28) (by decide)
theorem ok29 {len : Nat} (hn : 29 < len) (hl : len < 2 ^ 31) : okx len 29 = True := okN (n := 29) hn hl
theorem cl29 : ((29 : Int32)).toNatClampNeg = 29 := nI_clamp (n := 29) (by decide)
theorem ok30 {len : Nat} (hn : 30 < len) (hl : len < 2 ^ 31) : okx len 30 = True := okN (n := 30) hn hl
theorem cl30 : ((30 : Int32)).toNatClampNeg = 30 := nI_clamp (n := 30) (by decide)
theorem ok31 {len : Nat} (hn : 31 < len) (hl : len < 2 ^ 31) : okx len 31 = True := okN (n := 31) hn hl
theorem cl31 : ((31 : Int32)).toNatClampNeg = 31 := nI_clamp (n := 31) (by decide)
theorem ok32 {len : Nat} (hn : 32 < len) (hl : len < 2 ^ 31) : okx len 32 = True := okN (n := 32) hn hl
theorem cl32 : ((32 : Int32)).toNatClampNeg = 32 := nI_clamp (n := 32) (by decide)
theorem ok33 {len : Nat} (hn : 33 < len) (hl : len < 2 ^ 31) : okx len 33 = True := okN (n := 33) hn hl
theorem cl33 : ((33 : Int32)).toNatClampNeg = 33 := nI_clamp (n := 33) (by decide)
theorem ok34 {len : Nat} (hn : 34 < len) (hl : len < 2 ^ 31) : okx len 34 = True := okN (n := 34) hn hl
theorem cl34 : ((34 : Int32)).toNatClampNeg = 34 := nI_clamp (n := 34) (by decide)
theorem ok35 {len : Nat} (hn : 35 < len) (hl : len < 2 ^ 31) : okx len 35 = True := okN (n := 35) hn hl
theorem cl35 : ((35 : Int32)).toNatClampNeg = 35 := nI_clamp (n := 35) (by decide)
theorem ok36 {len : Nat} (hn : 36 < len) (hl : len < 2 ^ 31) : okx len 36 = True := okN (n := 36) hn hl
theorem cl36 : ((36 : Int32)).toNatClampNeg = 36 := nI_clamp (n := 36) (by decide)
theorem ok37 {len : Nat} (hn : 37 < len) (hl : len < 2 ^ 31) : okx len 37 = True := okN (n := 37) hn hl
theorem cl37 : ((37 : Int32)).toNatClampNeg = 37 := nI_clamp (n := 37) (by decide)
theorem ok38 {len : Nat} (hn : 38 < len) (hl : len < 2 ^ 31) : okx len 38 = True := okN (n := 38) hn hl
theorem cl38 : ((38 : Int32)).toNatClampNeg = 38 := nI_clamp (n := 38) (by decide)
theorem ok39 {len : Nat} (hn : 39 < len) (hl : len < 2 ^ 31) : okx len 39 = True := okN (n := 39) hn hl
theorem cl39 : ((39 : Int32)).toNatClampNeg = 39 := nI_clamp (n := 39) (by decide)
theorem ok40 {len : Nat} (hn : 40 < len) (hl : len < 2 ^ 31) : okx len 40 = True := okN (n := 40) hn hl
theorem cl40 : ((40 : Int32)).toNatClampNeg = 40 := nI_clamp (n := 40) (by decide)
theorem ok41 {len : Nat} (hn : 41 < len) (hl : len < 2 ^ 31) : okx len 41 = True := okN (n := 41) hn hl
theorem cl41 : ((41 : Int32)).toNatClampNeg = 41 := nI_clamp (n := 41) (by decide)
theorem ok42 {len : Nat} (hn : 42 < len) (hl : len < 2 ^ 31) : okx len 42 = True := okN (n := 42) hn hl
theorem cl42 : ((42 : Int32)).toNatClampNeg = 42 := nI_clamp (n := 42) (by decide)
theorem ok43 {len : Nat} (hn : 43 < len) (hl : len < 2 ^ 31) : okx len 43 = True := okN (n := 43) hn hl
theorem cl43 : ((43 : Int32)).toNatClampNeg = 43 := nI_clamp (n := 43) (by decide)
theorem ok44 {len : Nat} (hn : 44 < len) (hl : len < 2 ^ 31) : okx len 44 = True := okN (n := 44) hn hl
theorem cl44 : ((44 : Int32)).toNatClampNeg = 44 := nI_clamp (n := 44) (by decide)
theorem ok45 {len : Nat} (hn : 45 < len) (hl : len < 2 ^ 31) : okx len 45 = True := okN (n := 45) hn hl
theorem cl45 : ((45 : Int32)).toNatClampNeg = 45 := nI_clamp (n := 45) (by decide)
theorem ok46 {len : Nat} (hn : 46 < len) (hl : len < 2 ^ 31) : okx len 46 = True := okN (n := 46) hn hl
theorem cl46 : ((46 : Int32)).toNatClampNeg = 46 := nI_clamp (n := 46) (by decide)
theorem ok47 {len : Nat} (hn : 47 < len) (hl : len < 2 ^ 31) : okx len 47 = True := okN (n := 47) hn hl
theorem cl47 : ((47 : Int32)).toNatClampNeg = 47 := nI_clamp (n := 47) (by decide)
theorem ok48 {len : Nat} (hn : 48 < len) (hl : len < 2 ^ 31) : okx len 48 = True := okN (n := 48) hn hl
theorem cl48 : ((48 : Int32)).toNatClampNeg = 48 := nI_clamp (n := 48) (by decide)
theorem ok49 {len : Nat} (hn : 49 < len) (hl : len < 2 ^ 31) : okx len 49 = True := okN (n := 49) hn hl
theorem cl49 : ((49 : Int32)).toNatClampNeg = 49 := nI_clamp (n := 49) (by decide)
theorem ok50 {len : Nat} (hn : 50 < len) (hl : len < 2 ^ 31) : okx len 50 = True := okN (n := 50) hn hl
theorem cl50 : ((50 : Int32)).toNatClampNeg = 50 := nI_clamp (n := 50) (by decide)
theorem ok51 {len : Nat} (hn : 51 < len) (hl : len < 2 ^ 31) : okx len 51 = True := okN (n := 51) hn hl
theorem cl51 : ((51 : Int32)).toNatClampNeg = 51 := nI_clamp (n := 51) (by decide)
theorem ok52 {len : Nat} (hn : 52 < len) (hl : len < 2 ^ 31) : okx len 52 = True := okN (n := 52) hn hl
theorem cl52 : ((52 : Int32)).toNatClampNeg = 52 := nI_clamp (n := 52) (by decide)
theorem ok53 {len : Nat} (hn : 53 < len) (hl : len < 2 ^ 31) : okx len 53 = True := okN (n := 53) hn hl
theorem cl53 : ((53 : Int32)).toNatClampNeg = 53 := nI_clamp (n := 53) (by decide)
theorem ok54 {len : Nat} (hn : 54 < len) (hl : len < 2 ^ 31) : okx len 54 = True := okN (n := 54) hn hl
theorem cl54 : ((54 : Int32)).toNatClampNeg = 54 := nI_clamp (n := 54) (by decide)
theorem ok55 {len : Nat} (hn : 55 < len) (hl : len < 2 ^ 31) : okx len 55 = True := okN (n := 55) hn hl
theorem cl55 : ((55 : Int32)).toNatClampNeg = 55 := nI_clamp (n := 55) (by decide)
theorem ok56 {len : Nat} (hn : 56 < len) (hl : len < 2 ^ 31) : okx len 56 = True := okN (n := 56) hn hl
theorem cl56 : ((56 : Int32)).toNatClampNeg = 56 := nI_clamp (n := 56) (by decide)
theorem ok57 {len : Nat} (hn : 57 < len) (hl : len < 2 ^ 31) : okx len 57 = True := okN (n := 57) hn hl
theorem cl57 : ((57 : Int32)).toNatClampNeg = 57 := nI_clamp (n := 57) (by decide)
theorem ok58 {len : Nat} (hn : 58 < len) (hl : len < 2 ^ 31) : okx len 58 = True := okN (n := 58) hn hl
theorem cl58 : ((58 : Int32)).toNatClampNeg = 58 := nI_clamp (n := 58) (by decide)
theorem ok59 {len : Nat} (hn : 59 < len) (hl : len < 2 ^ 31) : okx len 59 = True := okN (n := 59) hn hl
theorem cl59 : ((59 : Int32)).toNatClampNeg = 59 := nI_clamp (n := 59) (by decide)
theorem ok60 {len : Nat} (hn : 60 < len) (hl : len < 2 ^ 31) : okx len 60 = True := okN (n := 60) hn hl
theorem cl60 : ((60 : Int32)).toNatClampNeg = 60 := nI_clamp (n := 60) (by decide)
theorem ok61 {len : Nat} (hn : 61 < len) (hl : len < 2 ^ 31) : okx len 61 = True := okN (n := 61) hn hl
theorem cl61 : ((61 : Int32)).toNatClampNeg = 61 := nI_clamp (n := 61) (by decide)
theorem ok62 {len : Nat} (hn : 62 < len) (hl : len < 2 ^ 31) : okx len 62 = True := okN (n := 62) hn hl
theorem cl62 : ((62 : Int32)).toNatClampNeg = 62 := nI_clamp (n := 62) (by decide)
theorem ok63 {len : Nat} (hn : 63 < len) (hl : len < 2 ^ 31) : okx len 63 = True := okN (n := 63) hn hl
theorem cl63 : ((63 : Int32)).toNatClampNeg = 63 := nI_clamp (n := 63) (by decide)
theorem ok64 {len : Nat} (hn : 64 < len) (hl : len < 2 ^ 31) : okx len 64 = True := okN (n := 64) hn hl
theorem cl64 : ((64 : Int32)).toNatClampNeg = 64 := nI_clamp (n := 64) (by decide)
theorem ok65 {len : Nat} (hn : 65 < len) (hl : len < 2 ^ 31) : okx len 65 = True := okN (n := 65) hn hl
theorem cl65 : ((65 : Int32)).toNatClampNeg = 65 := nI_clamp (n := 65) (by decide)
theorem ok66 {len : Nat} (hn : 66 < len) (hl : len < 2 ^ 31) : okx len 66 = True := okN (n := 66) hn hl
theorem cl66 : ((66 : Int32)).toNatClampNeg = 66 := nI_clamp (n := 66) (by decide)
theorem ok67 {len : Nat} (hn : 67 < len) (hl : len < 2 ^ 31) : okx len 67 = True := okN (n := 67) hn hl
theorem cl67 : ((67 : Int32)).toNatClampNeg = 67 := nI_clamp (n := 67) (by decide)
theorem ok68 {len : Nat} (hn : 68 < len) (hl : len < 2 ^ 31) : okx len 68 = True := okN (n := 68) hn hl
theorem cl68 : ((68 : Int32)).toNatClampNeg = 68 := nI_clamp (n := 68) (by decide)
theorem ok69 {len : Nat} (hn : 69 < len) (hl : len < 2 ^ 31) : okx len 69 = True := okN (n := 69) hn hl
theorem cl69 : ((69 : Int32)).toNatClampNeg = 69 := nI_clamp (n := 69) (by decide)
theorem ok70 {len : Nat} (hn : 70 < len) (hl : len < 2 ^ 31) : okx len 70 = True := okN (n := 70) hn hl
theorem cl70 : ((70 : Int32)).toNatClampNeg = 70 := nI_clamp (n := 70) (by decide)
theorem ok71 {len : Nat} (hn : 71 < len) (hl : len < 2 ^ 31) : okx len 71 = True := okN (n := 71) hn hl
theorem cl71 : ((71 : Int32)).toNatClampNeg = 71 := nI_clamp (n := 71) (by decide)
theorem ok72 {len : Nat} (hn : 72 < len) (hl : len < 2 ^ 31) : okx len 72 = True := okN (n := 72) hn hl
theorem cl72 : ((72 : Int32)).toNatClampNeg = 72 := nI_clamp (n := 72) (by decide)
theorem ok73 {len : Nat} (hn : 73 < len) (hl : len < 2 ^ 31) : okx len 73 = True := okN (n := 73) hn hl
theorem cl73 : ((73 : Int32)).toNatClampNeg = 73 := nI_clamp (n := 73) (by decide)
theorem ok74 {len : Nat} (hn : 74 < len) (hl : len < 2 ^ 31) : okx len 74 = True := okN (n := 74) hn hl
theorem cl74 : ((74 : Int32)).toNatClampNeg = 74 := nI_clamp (n := 74) (by decide)
theorem ok75 {len : Nat} (hn : 75 < len) (hl : len < 2 ^ 31) : okx len 75 = True := okN (n := 75) hn hl
theorem cl75 : ((75 : Int32)).toNatClampNeg = 75 := nI_clamp (n := 75) (by decide)
theorem ok76 {len : Nat} (hn : 76 < len) (hl : len < 2 ^ 31) : okx len 76 = True := okN (n := 76) hn hl
theorem cl76 : ((76 : Int32)).toNatClampNeg = 76 := nI_clamp (n := 76) (by decide)
theorem ok77 {len : Nat} (hn : 77 < len) (hl : len < 2 ^ 31) : okx len 77 = True := okN (n := 77) hn hl
theorem cl77 : ((77 : Int32)).toNatClampNeg = 77 := nI_clamp (n := 77) (by decide)
theorem ok78 {len : Nat} (hn : 78 < len) (hl : len < 2 ^ 31) : okx len 78 = True := okN (n := 78) hn hl
theorem cl78 : ((78 : Int32)).toNatClampNeg = 78 := nI_clamp (n := 78) (by decide)
theorem ok79 {len : Nat} (hn : 79 < len) (hl : len < 2 ^ 31) : okx len 79 = True := okN (n := 79) hn hl
theorem cl79 : ((79 : Int32)).toNatClampNeg = 79 := nI_clamp (n := 79) (by decide)
theorem ok80 {len : Nat} (hn : 80 < len) (hl : len < 2 ^ 31) : okx len 80 = True := okN (n := 80) hn hl
theorem cl80 : ((80 : Int32)).toNatClampNeg = 80 := nI_clamp (n := 80) (by decide)
theorem ok81 {len : Nat} (hn : 81 < len) (hl : len < 2 ^ 31) : okx len 81 = True := okN (n := 81) hn hl
theorem cl81 : ((81 : Int32)).toNatClampNeg = 81 := nI_clamp (n := 81) (by decide)
theorem ok82 {len : Nat} (hn : 82 < len) (hl : len < 2 ^ 31) : okx len 82 = True := okN (n := 82) hn hl
theorem cl82 : ((82 : Int32)).toNatClampNeg = 82 := nI_clamp (n := 82) (by decide)
theorem ok83 {len : Nat} (hn : 83 < len) (hl : len < 2 ^ 31) : okx len 83 = True := okN (n := 83) hn hl
theorem cl83 : ((83 : Int32)).toNatClampNeg = 83 := nI_clamp (n := 83) (by decide)
theorem ok84 {len : Nat} (hn : 84 < len) (hl : len < 2 ^ 31) : okx len 84 = True := okN (n := 84) hn hl
theorem cl84 : ((84 : Int32)).toNatClampNeg = 84 := nI_clamp (n := 84) (by decide)
theorem ok85 {len : Nat} (hn : 85 < len) (hl : len < 2 ^ 31) : okx len 85 = True := okN (n := 85) hn hl
theorem cl85 : ((85 : Int32)).toNatClampNeg = 85 := nI_clamp (n := 85) (by decide)
theorem ok86 {len : Nat} (hn : 86 < len) (hl : len < 2 ^ 31) : okx len 86 = True := okN (n := 86) hn hl
theorem cl86 : ((86 : Int32)).toNatClampNeg = 86 := nI_clamp (n := 86) (by decide)
theorem ok87 {len : Nat} (hn : 87 < len) (hl : len < 2 ^ 31) : okx len 87 = True := okN (n := 87) hn hl
theorem cl87 : ((87 : Int32)).toNatClampNeg = 87 := nI_clamp (n := 87) (by decide)
theorem ok88 {len : Nat} (hn : 88 < len) (hl : len < 2 ^ 31) : okx len 88 = True := okN (n := 88) hn hl
theorem cl88 : ((88 : Int32)).toNatClampNeg = 88 := nI_clamp (n := 88) (by decide)
theorem ok89 {len : Nat} (hn : 89 < len) (hl : len < 2 ^ 31) : okx len 89 = True := okN (n := 89) hn hl
theorem cl89 : ((89 : Int32)).toNatClampNeg = 89 := nI_clamp (n := 89) (by decide)
theorem ok90 {len : Nat} (hn : 90 < len) (hl : len < 2 ^ 31) : okx len 90 = True := okN (n := 90) hn hl
theorem cl90 : ((90 : Int32)).toNatClampNeg = 90 := nI_clamp (n := 90) (by decide)
theorem ok91 {len : Nat} (hn : 91 < len) (hl : len < 2 ^ 31) : okx len 91 = True := okN (n := 91) hn hl
theorem cl91 : ((91 : Int32)).toNatClampNeg = 91 := nI_clamp (n := 91) (by decide)
theorem ok92 {len : Nat} (hn : 92 < len) (hl : len < 2 ^ 31) : okx len 92 = True := okN (n := 92) hn hl
theorem cl92 : ((92 : Int32)).toNatClampNeg = 92 := nI_clamp (n := 92) (by decide)
theorem ok93 {len : Nat} (hn : 93 < len) (hl : len < 2 ^ 31) : okx len 93 = True := okN (n := 93) hn hl
theorem cl93 : ((93 : Int32)).toNatClampNeg = 93 := nI_clamp (n := 93) (by decide)
theorem ok94 {len : Nat} (hn : 94 < len) (hl : len < 2 ^ 31) : okx len 94 = True := okN (n := 94) hn hl
theorem cl94 : ((94 : Int32)).toNatClampNeg = 94 := nI_clamp (n := 94) (by decide)
theorem ok95 {len : Nat} (hn : 95 < len) (hl : len < 2 ^ 31) : okx len 95 = True := okN (n := 95) hn hl
theorem cl95 : ((95 : Int32)).toNatClampNeg = 95 := nI_clamp (n := 95) (by decide)
theorem ok96 {len : Nat} (hn : 96 < len) (hl : len < 2 ^ 31) : okx len 96 = True := okN (n := 96) hn hl
theorem cl96 : ((96 : Int32)).toNatClampNeg = 96 := nI_clamp (n := 96) (by decide)
theorem ok97 {len : Nat} (hn : 97 < len) (hl : len < 2 ^ 31) : okx len 97 = True := okN (n := 97) hn hl
theorem cl97 : ((97 : Int32)).toNatClampNeg = 97 := nI_clamp (n := 97) (by decide)
theorem ok98 {len : Nat} (hn : 98 < len) (hl : len < 2 ^ 31) : okx len 98 = True := okN (n := 98) hn hl
theorem cl98 : ((98 : Int32)).toNatClampNeg = 98 := nI_clamp (n := 98) (by decide)
theorem ok99 {len : Nat} (hn : 99 < len) (hl : len < 2 ^ 31) : okx len 99 = True := okN (n := 99) hn hl
theorem cl99 : ((99 : Int32)).toNatClampNeg = 99 := nI_clamp (n := 99) (by decide)
theorem ok100 {len : Nat} (hn : 100 < len) (hl : len < 2 ^ 31) : okx len 100 = True := okN (n := 100) hn hl
theorem cl100 : ((100 : Int32)).toNatClampNeg = 100 := nI_clamp (n := 100) (by decide)
theorem ok101 {len : Nat} (hn : 101 < len) (hl : len < 2 ^ 31) : okx len 101 = True := okN (n := 101) hn hl
theorem cl101 : ((101 : Int32)).toNatClampNeg = 101 := nI_clamp (n := 101) (by decide)
theorem ok102 {len : Nat} (hn : 102 < len) (hl : len < 2 ^ 31) : okx len 102 = True := okN (n := 102) hn hl
theorem cl102 : ((102 : Int32)).toNatClampNeg = 102 := nI_clamp (n := 102) (by decide)
theorem ok103 {len : Nat} (hn : 103 < len) (hl : len < 2 ^ 31) : okx len 103 = True := okN (n := 103) hn hl
theorem cl103 : ((103 : Int32)).toNatClampNeg = 103 := nI_clamp (n := 103) (by decide)
theorem ok104 {len : Nat} (hn : 104 < len) (hl : len < 2 ^ 31) : okx len 104 = True := okN (n := 104) hn hl
theorem cl104 : ((104 : Int32)).toNatClampNeg = 104 := nI_clamp (n := 104) (by decide)
theorem ok105 {len : Nat} (hn : 105 < len) (hl : len < 2 ^ 31) : okx len 105 = True := okN (n := 105) hn hl
theorem cl105 : ((105 : Int32)).toNatClampNeg = 105 := nI_clamp (n := 105) (by decide)
theorem ok106 {len : Nat} (hn : 106 < len) (hl : len < 2 ^ 31) : okx len 106 = True := okN (n := 106) hn hl
theorem cl106 : ((106 : Int32)).toNatClampNeg = 106 := nI_clamp (n := 106) (by decide)
theorem ok107 {len : Nat} (hn : 107 < len) (hl : len < 2 ^ 31) : okx len 107 = True := okN (n := 107) hn hl
theorem cl107 : ((107 : Int32)).toNatClampNeg = 107 := nI_clamp (n := 107) (by decide)
theorem ok108 {len : Nat} (hn : 108 < len) (hl : len < 2 ^ 31) : okx len 108 = True := okN (n := 108) hn hl
theorem cl108 : ((108 : Int32)).toNatClampNeg = 108 := nI_clamp (n := 108) (by decide)
theorem ok109 {len : Nat} (hn : 109 < len) (hl : len < 2 ^ 31) : okx len 109 = True := okN (n := 109) hn hl
theorem cl109 : ((109 : Int32)).toNatClampNeg = 109 := nI_clamp (n := 109) (by decide)
theorem ok110 {len : Nat} (hn : 110 < len) (hl : len < 2 ^ 31) : okx len 110 = True := okN (n := 110) hn hl
theorem cl110 : ((110 : Int32)).toNatClampNeg = 110 := nI_clamp (n := 110) (by decide)
theorem ok111 {len : Nat} (hn : 111 < len) (hl : len < 2 ^ 31) : okx len 111 = True := okN (n := 111) hn hl
theorem cl111 : ((111 : Int32)).toNatClampNeg = 111 := nI_clamp (n := 111) (by decide)
theorem ok112 {len : Nat} (hn : 112 < len) (hl : len < 2 ^ 31) : okx len 112 = True := okN (n := 112) hn hl
theorem cl112 : ((112 : Int32)).toNatClampNeg = 112 := nI_clamp (n := 112) (by decide)
theorem ok113 {len : Nat} (hn : 113 < len) (hl : len < 2 ^ 31) : okx len 113 = True := okN (n := 113) hn hl
theorem cl113 : ((113 : Int32)).toNatClampNeg = 113 := nI_clamp (n := 113) (by decide)
theorem ok114 {len : Nat} (hn : 114 < len) (hl : len < 2 ^ 31) : okx len 114 = True := okN (n := 114) hn hl
theorem cl114 : ((114 : Int32)).toNatClampNeg = 114 := nI_clamp (n := 114) (by decide)
theorem ok115 {len : Nat} (hn : 115 < len) (hl : len < 2 ^ 31) : okx len 115 = True := okN (n := 115) hn hl
theorem cl115 : ((115 : Int32)).toNatClampNeg = 115 := nI_clamp (n := 115) (by decide)
theorem ok116 {len : Nat} (hn : 116 < len) (hl : len < 2 ^ 31) : okx len 116 = True := okN (n := 116) hn hl
theorem cl116 : ((116 : Int32)).toNatClampNeg = 116 := nI_clamp (n := 116) (by decide)
theorem ok117 {len : Nat} (hn : 117 < len) (hl : len < 2 ^ 31) : okx len 117 = True := okN (n := 117) hn hl
theorem cl117 : ((117 : Int32)).toNatClampNeg = 117 := nI_clamp (n := 117) (by decide)
theorem ok118 {len : Nat} (hn : 118 < len) (hl : len < 2 ^ 31) : okx len 118 = True := okN (n := 118) hn hl
theorem cl118 : ((118 : Int32)).toNatClampNeg = 118 := nI_clamp (n := 118) (by decide)
theorem ok119 {len : Nat} (hn : 119 < len) (hl : len < 2 ^ 31) : okx len 119 = True := okN (n := 119) hn hl
theorem cl119 : ((119 : Int32)).toNatClampNeg = 119 := nI_clamp (n := 119) (by decide)
theorem ok120 {len : Nat} (hn : 120 < len) (hl : len < 2 ^ 31) : okx len 120 = True := okN (n := 120) hn hl
theorem cl120 : ((120 : Int32)).toNatClampNeg = 120 := nI_clamp (n := 120) (by decide)
theorem ok121 {len : Nat} (hn : 121 < len) (hl : len < 2 ^ 31) : okx len 121 = True := okN (n := 121) hn hl
theorem cl121 : ((121 : Int32)).toNatClampNeg = 121 := nI_clamp (n := 121) (by decide)
theorem ok122 {len : Nat} (hn : 122 < len) (hl : len < 2 ^ 31) : okx len 122 = True := okN (n := 122) hn hl
theorem cl122 : ((122 : Int32)).toNatClampNeg = 122 := nI_clamp (n := 122) (by decide)
theorem ok123 {len : Nat} (hn : 123 < len) (hl : len < 2 ^ 31) : okx len 123 = True := okN (n := 123) hn hl
theorem cl123 : ((123 : Int32)).toNatClampNeg = 123 := nI_clamp (n := 123) (by decide)
theorem ok124 {len : Nat} (hn : 124 < len) (hl : len < 2 ^ 31) : okx len 124 = True := okN (n := 124) hn hl
theorem cl124 : ((124 : Int32)).toNatClampNeg = 124 := nI_clamp (n := 124) (by decide)
theorem ok125 {len : Nat} (hn : 125 < len) (hl : len < 2 ^ 31) : okx len 125 = True := okN (n := 125) hn hl
theorem cl125 : ((125 : Int32)).toNatClampNeg = 125 := nI_clamp (n := 125) (by decide)
theorem ok126 {len : Nat} (hn : 126 < len) (hl : len < 2 ^ 31) : okx len 126 = True := okN (n := 126) hn hl
theorem cl126 : ((126 : Int32)).toNatClampNeg = 126 := nI_clamp (n := 126) (by decide)
theorem ok127 {len : Nat} (hn : 127 < len) (hl : len < 2 ^ 31) : okx len 127 = True := okN (n := 127) hn hl
theorem cl127 : ((127 : Int32)).toNatClampNeg = 127 := nI_clamp (n := 127) (by decide)
theorem ok128 {len : Nat} (hn : 128 < len) (hl : len < 2 ^ 31) : okx len 128 = True := okN (n := 128) hn hl
theorem cl128 : ((128 : Int32)).toNatClampNeg = 128 := nI_clamp (n := 128) (by decide)
theorem ok129 {len : Nat} (hn : 129 < len) (hl : len < 2 ^ 31) : okx len 129 = True := okN (n := 129) hn hl
theorem cl129 : ((129 : Int32)).toNatClampNeg = 129 := nI_clamp (n := 129) (by decide)
theorem ok130 {len : Nat} (hn : 130 < len) (hl : len < 2 ^ 31) : okx len 130 = True := okN (n := 130) hn hl
theorem cl130 : ((130 : Int32)).toNatClampNeg = 130 := nI_clamp (n := 130) (by decide)
theorem clN {n : Nat} (h : n < 2 ^ 31) : (nI n).toNatClampNeg = n := nI_clamp h
theorem nI_nn {p : Nat} (h : p < 2 ^ 31) : (nI p < 0) = False := eq_false (nI_pos h)
theorem nI_ge0 {p : Nat} (h : p < 2 ^ 31) : (0 ≤ nI p) = True := eq_true (nI_pos' h)
theorem m1_lt : ((-1 : Int32) < 0) = True := eq_true (by decide)
theorem m1_ge : ((0 : Int32) ≤ -1) = False := eq_false (by decide)
theorem e00 : ((0 : Int32) = 0) = True := eq_true rfl
theorem e10 : ((1 : Int32) = 0) = False := eq_false (by decide)
theorem e01 : ((0 : Int32) = 1) = False := eq_false (by decide)
theorem e11 : ((1 : Int32) = 1) = True := eq_true rfl
theorem ad0 (p : Nat) : (0 : Int32) + nI p = nI p := (nI_add 0 p).trans (by rw [Nat.zero_add])
theorem Fr.up {S : List Nat} {a b : sa_St} {id k : Nat} {v : Int32} (h : Fr S a b) (hid : id ∈ S) : Fr S a (sa_upI b id k v) := h.trans (Fr.upI hid)
end RUN2
