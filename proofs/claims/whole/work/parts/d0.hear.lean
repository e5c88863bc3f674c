/-! HEARS: who is told in the end. Sets of companies; R a b: b's words come to a -/
def Cl (R : Nat → Nat → Bool) (m a x : Nat) : Prop := ∀ S : Nat → Prop, S a → (∀ i j, i < m → j < m → S j → R i j = true → S i) → S x
theorem Cl.refl {R : Nat → Nat → Bool} {m a : Nat} : Cl R m a a := fun _ h _ => h
theorem Cl.step {R : Nat → Nat → Bool} {m a i j : Nat} (h : Cl R m a j) (hi : i < m) (hj : j < m) (hR : R i j = true) : Cl R m a i := fun S ha hc => hc i j hi hj (h S ha hc) hR
theorem Cl.symm {R : Nat → Nat → Bool} {m a x : Nat} (hs : ∀ i j, R i j = R j i) (h : Cl R m a x) : Cl R m x a := by
  refine h (fun y => Cl R m y a) Cl.refl (fun i j hi hj hj2 hR => ?_)
  intro T hTi hc
  refine hj2 T (hc j i hj hi hTi ?_) hc
  rw [hs]
  exact hR
def uS (R : Nat → Nat → Bool) (m : Nat) (S : Nat → Bool) (i : Nat) : Nat → Bool := fun x => S x || (decide (x = i) && (List.range m).any (fun j => S j && R i j))
def rS (R : Nat → Nat → Bool) (m : Nat) (S : Nat → Bool) (n : Nat) : Nat → Bool := ac (uS R m) S n
def r8 (R : Nat → Nat → Bool) (m : Nat) (S : Nat → Bool) (n : Nat) : Nat → Bool := ac (fun S _ => rS R m S m) S n
section SETS
variable {R : Nat → Nat → Bool} {m : Nat} {S S0 : Nat → Bool}
theorem uS_mono {i x : Nat} (h : S x = true) : uS R m S i x = true := by unfold uS; rw [h]; rfl
theorem rS_mono {x : Nat} (h : S x = true) : ∀ n, rS R m S n x = true := by
  intro n
  induction n with
  | zero => exact h
  | succ n ih => exact uS_mono ih
theorem rS_up {x a : Nat} : ∀ d, rS R m S a x = true → rS R m S (a + d) x = true := by
  intro d
  induction d with
  | zero => exact fun h => h
  | succ d ih => exact fun h => uS_mono (ih h)
theorem rS_cover {i j : Nat} (hi : i < m) (hj : j < m) (hS : S j = true) (hR : R i j = true) : rS R m S m i = true := by
  have h1 : rS R m S (i + 1) i = true := by
    show uS R m (rS R m S i) i i = true
    unfold uS
    rw [Bool.or_eq_true, Bool.and_eq_true, List.any_eq_true]
    exact Or.inr ⟨decide_eq_true rfl, j, List.mem_range.mpr hj, by rw [rS_mono hS i, hR]; rfl⟩
  have h2 := rS_up (m - (i + 1)) h1
  rw [show i + 1 + (m - (i + 1)) = m by omega] at h2
  exact h2
def Cd (R : Nat → Nat → Bool) (m : Nat) (S : Nat → Bool) : Prop := ∀ i j, i < m → j < m → S j = true → R i j = true → S i = true
theorem uS_stay (h : Cd R m S) {i : Nat} (hi : i < m) : uS R m S i = S := by
  funext x
  unfold uS
  cases hx : S x with
  | true => rfl
  | false =>
    rw [Bool.false_or]
    by_cases e : x = i
    · subst e
      rw [decide_eq_true rfl, Bool.true_and]
      cases ha : (List.range m).any (fun j => S j && R x j) with
      | false => rfl
      | true =>
        rw [List.any_eq_true] at ha
        obtain ⟨j, hj, h2⟩ := ha
        rw [Bool.and_eq_true] at h2
        rw [h x j hi (List.mem_range.mp hj) h2.1 h2.2] at hx
        cases hx
    · rw [decide_eq_false e]; rfl
theorem rS_stay (h : Cd R m S) : ∀ n, n ≤ m → rS R m S n = S := by
  intro n
  induction n with
  | zero => exact fun _ => rfl
  | succ n ih =>
    intro hn
    show uS R m (rS R m S n) n = S
    rw [ih (by omega)]
    exact uS_stay h (by omega)
def ct (m : Nat) (S : Nat → Bool) : Nat := zc_sm m (fun i => if S i = true then 1 else 0)
theorem zc_sm_lt {f g : Nat → Nat} : ∀ {n : Nat}, (∀ i, i < n → f i ≤ g i) → (∃ i, i < n ∧ f i < g i) → zc_sm n f < zc_sm n g := by
  intro n
  induction n with
  | zero => rintro _ ⟨i, hi, -⟩; omega
  | succ n ih =>
    rintro h ⟨i, hi, hl⟩
    show zc_sm n f + f n < zc_sm n g + g n
    have h0 := h n (by omega)
    by_cases e : i = n
    · subst e
      have h1 := zc_sm_le (n := i) (f := f) (g := g) (fun j hj => h j (by omega))
      omega
    · have h1 := ih (fun j hj => h j (by omega)) ⟨i, by omega, hl⟩
      omega
theorem zc_sm_ones : ∀ n, zc_sm n (fun _ => 1) = n := by
  intro n
  induction n with
  | zero => rfl
  | succ n ih => show zc_sm n (fun _ => 1) + 1 = _; rw [ih]
theorem ct_full (h : m ≤ ct m S) {i : Nat} (hi : i < m) : S i = true := by
  cases hS : S i with
  | true => rfl
  | false =>
    have := zc_sm_lt (n := m) (f := fun i => if S i = true then 1 else 0) (g := fun _ => 1) (fun j _ => by
      show (if S j = true then 1 else 0) ≤ 1
      split <;> omega) ⟨i, hi, by
      show (if S i = true then 1 else 0) < 1
      rw [hS]
      decide⟩
    rw [zc_sm_ones] at this
    unfold ct at h
    omega
theorem r8_grow (hm : m ≤ 8) : ∀ n, Cd R m (r8 R m S n) ∨ n ≤ ct m (r8 R m S n) := by
  intro n
  induction n with
  | zero => exact Or.inr (Nat.zero_le _)
  | succ n ih =>
    have e : r8 R m S (n + 1) = rS R m (r8 R m S n) m := rfl
    by_cases hc : Cd R m (r8 R m S n)
    · rw [e, rS_stay hc m (Nat.le_refl m)]
      exact Or.inl hc
    · rcases ih with h | h
      · exact absurd h hc
      · refine Or.inr ?_
        rw [e]
        have hx : ∃ i j, i < m ∧ j < m ∧ r8 R m S n j = true ∧ R i j = true ∧ r8 R m S n i = false := by
          refine Classical.byContradiction (fun hn => hc (fun i j hi hj h1 h2 => ?_))
          cases hS : r8 R m S n i with
          | true => rfl
          | false => exact absurd ⟨i, j, hi, hj, h1, h2, hS⟩ hn
        obtain ⟨i, j, hi, hj, h1, h2, h3⟩ := hx
        have := zc_sm_lt (n := m) (f := fun i => if r8 R m S n i = true then 1 else 0) (g := fun i => if rS R m (r8 R m S n) m i = true then 1 else 0) (fun x _ => by
          show (if r8 R m S n x = true then 1 else 0) ≤ (if rS R m (r8 R m S n) m x = true then 1 else 0)
          by_cases hx : r8 R m S n x = true
          · rw [if_pos hx, if_pos (rS_mono hx m)]; exact Nat.le_refl _
          · rw [if_neg hx]; exact Nat.zero_le _) ⟨i, hi, by
          show (if r8 R m S n i = true then 1 else 0) < (if rS R m (r8 R m S n) m i = true then 1 else 0)
          rw [h3, rS_cover hi hj h1 h2]
          decide⟩
        unfold ct at h ⊢
        omega
theorem r8_closed (hm : m ≤ 8) : Cd R m (r8 R m S 8) := by
  rcases r8_grow (R := R) (S := S) hm 8 with h | h
  · exact h
  · exact fun i j hi _ _ _ => ct_full (Nat.le_trans hm h) hi
theorem uS_sound (h : ∀ x, S x = true → x < m ∧ ∃ b, S0 b = true ∧ Cl R m b x) {i : Nat} (hi : i < m) : ∀ x, uS R m S i x = true → x < m ∧ ∃ b, S0 b = true ∧ Cl R m b x := by
  intro x hx
  unfold uS at hx
  rw [Bool.or_eq_true, Bool.and_eq_true, List.any_eq_true] at hx
  rcases hx with hx | ⟨hx, j, hj, h2⟩
  · exact h x hx
  · have e : x = i := of_decide_eq_true hx
    subst e
    rw [Bool.and_eq_true] at h2
    obtain ⟨hjm, b, hb, hcl⟩ := h j h2.1
    exact ⟨hi, b, hb, hcl.step hi hjm h2.2⟩
theorem r8_sound (h0 : ∀ x, S0 x = true → x < m) : ∀ n, ∀ x, r8 R m S0 n x = true → x < m ∧ ∃ b, S0 b = true ∧ Cl R m b x := by
  have hr : ∀ S : Nat → Bool, (∀ x, S x = true → x < m ∧ ∃ b, S0 b = true ∧ Cl R m b x) → ∀ n, n ≤ m → ∀ x, rS R m S n x = true → x < m ∧ ∃ b, S0 b = true ∧ Cl R m b x := by
    intro S hS n
    induction n with
    | zero => exact fun _ => hS
    | succ n ih => exact fun hn => uS_sound (ih (by omega)) (by omega)
  intro n
  induction n with
  | zero => exact fun x hx => ⟨h0 x hx, x, hx, Cl.refl⟩
  | succ n ih => exact hr _ ih m (Nat.le_refl m)
theorem r8_mono {x : Nat} (h : S x = true) : ∀ n, r8 R m S n x = true := by
  intro n
  induction n with
  | zero => exact h
  | succ n ih => exact rS_mono ih m
theorem r8_iff (hm : m ≤ 8) (h0 : ∀ x, S0 x = true → x < m) (x : Nat) : r8 R m S0 8 x = true ↔ ∃ b, S0 b = true ∧ Cl R m b x := by
  constructor
  · exact fun h => (r8_sound h0 8 x h).2
  · rintro ⟨b, hb, hcl⟩
    exact hcl (fun y => r8 R m S0 8 y = true) (r8_mono hb 8) (fun i j hi hj h1 h2 => r8_closed hm i j hi hj h1 h2)
end SETS
/-! the class's sets, as bits -/
def nrO (D : Nat → Nat → Bool) (m n i : Nat) : Bool := (List.range m).any (fun j => n.testBit j && D i j)
def tk1 (lv : Nat → Bool) (D : Nat → Nat → Bool) (m n i : Nat) : Nat := if lv i && nrO D m n i then n ||| 2 ^ i else n
def tkR (lv : Nat → Bool) (D : Nat → Nat → Bool) (m n : Nat) : Nat := ac (tk1 lv D m) n m
def tkN (lv : Nat → Bool) (D : Nat → Nat → Bool) (m c : Nat) : Nat → Nat := ac (fun n _ => tkR lv D m n) (2 ^ c)
def knB (lv : Nat → Bool) (q : Nat → Nat) (n : Nat) : Nat → Nat := ac (fun a i => if n.testBit i && lv i then a ||| q i else a) 0
/-- whose words come to whom at once -/
def nrR (lv : Nat → Bool) (D : Nat → Nat → Bool) (i j : Nat) : Bool := lv i && lv j && D i j
theorem tb_2 (i x : Nat) : (2 ^ i).testBit x = decide (x = i) := by
  rw [Nat.testBit_two_pow]
  exact decide_eq_decide.mpr ⟨fun h => h.symm, fun h => h.symm⟩
section BITS
variable {lv : Nat → Bool} {D : Nat → Nat → Bool} {m n : Nat} {q : Nat → Nat}
theorem tk1_set (h : ∀ x, n.testBit x = true → lv x = true) (i : Nat) : (fun x => (tk1 lv D m n i).testBit x) = uS (nrR lv D) m (fun x => n.testBit x) i := by
  funext x
  have e : (List.range m).any (fun j => n.testBit j && nrR lv D i j) = (lv i && nrO D m n i) := by
    unfold nrO nrR
    cases hi : lv i with
    | false => simp
    | true =>
      rw [Bool.true_and]
      congr 1
      funext j
      cases hj : n.testBit j with
      | false => rfl
      | true => rw [h j hj]; rfl
  show (tk1 lv D m n i).testBit x = (n.testBit x || (decide (x = i) && (List.range m).any (fun j => n.testBit j && nrR lv D i j)))
  rw [e]
  unfold tk1
  by_cases hc : (lv i && nrO D m n i) = true
  · rw [if_pos hc, Nat.testBit_or, tb_2, hc, Bool.and_true]
  · rw [if_neg hc]
    rw [Bool.not_eq_true] at hc
    rw [hc, Bool.and_false, Bool.or_false]
theorem tk1_lv (h : ∀ x, n.testBit x = true → lv x = true) (i x : Nat) (hx : (tk1 lv D m n i).testBit x = true) : lv x = true := by
  unfold tk1 at hx
  by_cases hc : (lv i && nrO D m n i) = true
  · rw [if_pos hc, Nat.testBit_or, tb_2, Bool.or_eq_true] at hx
    rcases hx with hx | hx
    · exact h x hx
    · have e : x = i := of_decide_eq_true hx
      subst e
      rw [Bool.and_eq_true] at hc
      exact hc.1
  · rw [if_neg hc] at hx
    exact h x hx
theorem tkR_set (h : ∀ x, n.testBit x = true → lv x = true) : ∀ k, (fun x => (ac (tk1 lv D m) n k).testBit x) = rS (nrR lv D) m (fun x => n.testBit x) k ∧ ∀ x, (ac (tk1 lv D m) n k).testBit x = true → lv x = true := by
  intro k
  induction k with
  | zero => exact ⟨rfl, h⟩
  | succ k ih =>
    refine ⟨?_, fun x hx => tk1_lv ih.2 k x hx⟩
    show (fun x => (tk1 lv D m (ac (tk1 lv D m) n k) k).testBit x) = uS (nrR lv D) m (rS (nrR lv D) m (fun x => n.testBit x) k) k
    rw [tk1_set ih.2 k, ih.1]
theorem tkN_set {c : Nat} (hc : lv c = true) : ∀ k, (fun x => (tkN lv D m c k).testBit x) = r8 (nrR lv D) m (fun x => decide (x = c)) k ∧ ∀ x, (tkN lv D m c k).testBit x = true → lv x = true := by
  intro k
  induction k with
  | zero =>
    refine ⟨funext fun x => tb_2 c x, fun x hx => ?_⟩
    have hx' : (2 ^ c).testBit x = true := hx
    rw [tb_2] at hx'
    rw [of_decide_eq_true hx']
    exact hc
  | succ k ih =>
    have h1 := tkR_set (D := D) (m := m) ih.2 m
    refine ⟨?_, h1.2⟩
    show (fun x => (tkR lv D m (tkN lv D m c k)).testBit x) = rS (nrR lv D) m (r8 (nrR lv D) m (fun x => decide (x = c)) k) m
    rw [← ih.1]
    exact h1.1
theorem tk1_lt (hm : m ≤ 8) (hn : n < 256) {i : Nat} (hi : i < 8) : tk1 lv D m n i < 256 := by
  unfold tk1
  split
  · exact Nat.or_lt_two_pow (n := 8) hn (Nat.pow_lt_pow_right (by omega) hi)
  · exact hn
theorem tkR_lt (hm : m ≤ 8) (hn : n < 256) : ∀ k, k ≤ m → ac (tk1 lv D m) n k < 256 := by
  intro k
  induction k with
  | zero => exact fun _ => hn
  | succ k ih => exact fun hk => tk1_lt hm (ih (by omega)) (by omega)
theorem tkN_lt (hm : m ≤ 8) {c : Nat} (hc : c < 8) : ∀ k, tkN lv D m c k < 256 := by
  intro k
  induction k with
  | zero => exact (show 2 ^ c < 2 ^ 8 from Nat.pow_lt_pow_right (by omega) hc)
  | succ k ih => exact tkR_lt hm ih m (Nat.le_refl m)
theorem knB_bit (t : Nat) : ∀ k, (knB lv q n k).testBit t = true ↔ ∃ i, i < k ∧ n.testBit i = true ∧ lv i = true ∧ (q i).testBit t = true := by
  intro k
  induction k with
  | zero =>
    constructor
    · intro h
      have h' : (0 : Nat).testBit t = true := h
      rw [Nat.zero_testBit] at h'
      cases h'
    · rintro ⟨i, hi, -⟩; omega
  | succ k ih =>
    have e : knB lv q n (k + 1) = if n.testBit k && lv k then knB lv q n k ||| q k else knB lv q n k := rfl
    rw [e]
    by_cases hc : (n.testBit k && lv k) = true
    · rw [if_pos hc, Nat.testBit_or, Bool.or_eq_true, ih]
      rw [Bool.and_eq_true] at hc
      constructor
      · rintro (⟨i, hi, h⟩ | h)
        · exact ⟨i, by omega, h⟩
        · exact ⟨k, by omega, hc.1, hc.2, h⟩
      · rintro ⟨i, hi, h1, h2, h3⟩
        by_cases ei : i = k
        · subst ei; exact Or.inr h3
        · exact Or.inl ⟨i, by omega, h1, h2, h3⟩
    · rw [if_neg hc, ih]
      constructor
      · rintro ⟨i, hi, h⟩; exact ⟨i, by omega, h⟩
      · rintro ⟨i, hi, h1, h2, h3⟩
        by_cases ei : i = k
        · subst ei
          exact absurd (by rw [h1, h2]; rfl) hc
        · exact ⟨i, by omega, h1, h2, h3⟩
theorem knB_lt (hq : ∀ i, q i < 16) : ∀ k, knB lv q n k < 16 := by
  intro k
  induction k with
  | zero => exact (by decide : 0 < 16)
  | succ k ih =>
    show (if n.testBit k && lv k then knB lv q n k ||| q k else knB lv q n k) < 16
    split
    · exact or_16 ih (hq k)
    · exact ih
end BITS
/-! the reference's -/
def hr1 (R : Nat → Nat → Bool) (a : Nat) (h : Nat → Nat) (b : Nat) : Nat → Nat := va_up h a (h a ||| (if R a b then h b else 0))
def hrA (R : Nat → Nat → Bool) (m : Nat) (h : Nat → Nat) (a : Nat) : Nat → Nat := ac (hr1 R a) h m
def hrR (R : Nat → Nat → Bool) (m : Nat) (h : Nat → Nat) : Nat → Nat := ac (hrA R m) h m
def hrN (R : Nat → Nat → Bool) (m : Nat) (h : Nat → Nat) : Nat → Nat → Nat := ac (fun h _ => hrR R m h) h
section REF
variable {R : Nat → Nat → Bool} {m : Nat} {h : Nat → Nat}
theorem hr1_in (t a x : Nat) : ∀ k, ((ac (hr1 R a) h k) x).testBit t = ((h x).testBit t || (decide (x = a) && (List.range k).any (fun j => (h j).testBit t && R a j))) := by
  intro k
  induction k generalizing x with
  | zero => simp [ac]
  | succ k ih =>
    show (va_up (ac (hr1 R a) h k) a (ac (hr1 R a) h k a ||| (if R a k then ac (hr1 R a) h k k else 0)) x).testBit t = _
    by_cases e : x = a
    · subst e
      rw [va_up_self, Nat.testBit_or, ih x, List.range_succ, List.any_append]
      rw [decide_eq_true rfl, Bool.true_and, Bool.true_and]
      have e2 : (if R x k = true then (ac (hr1 R x) h k) k else 0).testBit t = (R x k && ((ac (hr1 R x) h k) k).testBit t) := by
        cases R x k with
        | true => simp
        | false => simp
      rw [e2, ih k]
      simp only [List.any_cons, List.any_nil, Bool.or_false]
      by_cases e3 : k = x
      · subst e3
        rw [decide_eq_true rfl, Bool.true_and]
        cases (h k).testBit t <;> cases R k k <;> cases (List.range k).any (fun j => (h j).testBit t && R k j) <;> rfl
      · rw [decide_eq_false e3, Bool.false_and, Bool.or_false]
        cases (h x).testBit t <;> cases R x k <;> cases (List.range k).any (fun j => (h j).testBit t && R x j) <;> cases (h k).testBit t <;> rfl
    · rw [va_up_ne _ _ e, ih x, decide_eq_false e, Bool.false_and, Bool.false_and]
theorem hrR_set (t : Nat) : ∀ k, (fun x => ((ac (hrA R m) h k) x).testBit t) = rS R m (fun x => (h x).testBit t) k := by
  intro k
  induction k with
  | zero => rfl
  | succ k ih =>
    show (fun x => ((hrA R m (ac (hrA R m) h k) k) x).testBit t) = uS R m (rS R m (fun x => (h x).testBit t) k) k
    rw [← ih]
    funext x
    exact hr1_in t k x m
theorem hrN_set (t : Nat) : ∀ k, (fun x => (hrN R m h k x).testBit t) = r8 R m (fun x => (h x).testBit t) k := by
  intro k
  induction k with
  | zero => rfl
  | succ k ih =>
    show (fun x => (hrR R m (hrN R m h k) x).testBit t) = rS R m (r8 R m (fun x => (h x).testBit t) k) m
    rw [← ih]
    exact hrR_set t m
theorem hr1_lt (hq : ∀ i, h i < 16) (a b : Nat) : ∀ i, hr1 R a h b i < 16 := by
  intro i
  unfold hr1
  by_cases e : i = a
  · subst e
    rw [va_up_self]
    refine or_16 (hq i) ?_
    split
    · exact hq b
    · decide
  · rw [va_up_ne _ _ e]; exact hq i
theorem acK {α : Type} {f : α → Nat → α} {p : α → Prop} (hs : ∀ a i, p a → p (f a i)) {a : α} (h : p a) : ∀ k, p (ac f a k) := by
  intro k
  induction k with
  | zero => exact h
  | succ k ih => exact hs _ _ ih
theorem hrA_lt (hq : ∀ i, h i < 16) (a : Nat) : ∀ k i, ac (hr1 R a) h k i < 16 := acK (p := fun h : Nat → Nat => ∀ i, h i < 16) (fun h b hh => hr1_lt hh a b) hq
theorem hrR_lt (hq : ∀ i, h i < 16) : ∀ k i, ac (hrA R m) h k i < 16 := acK (p := fun h : Nat → Nat => ∀ i, h i < 16) (fun h a hh => hrA_lt hh a m) hq
theorem hrN_lt (hq : ∀ i, h i < 16) : ∀ k i, hrN R m h k i < 16 := acK (p := fun h : Nat → Nat => ∀ i, h i < 16) (fun h _ hh => hrR_lt hh m) hq
end REF
/-- what comes to one: by the class's sets, and by the reference's rounds -/
theorem hear_same {lv : Nat → Bool} {D : Nat → Nat → Bool} {m c : Nat} {q : Nat → Nat} (hm : m ≤ 8) (hs : ∀ i j, D i j = D j i) (hlv : ∀ i, lv i = true → i < m) (hc : lv c = true) : knB lv q (tkN lv D m c 8) m = hrN (nrR lv D) m (fun i => if lv i then q i else 0) 8 c := by
  have hsR : ∀ i j, nrR lv D i j = nrR lv D j i := by
    intro i j
    unfold nrR
    rw [hs i j, Bool.and_comm (lv i) (lv j)]
  apply Nat.eq_of_testBit_eq
  intro t
  have h1 := tkN_set (D := D) (m := m) hc 8
  have h2 := congrFun (hrN_set (R := nrR lv D) (m := m) (h := fun i => if lv i then q i else 0) t 8) c
  have h2' : (hrN (nrR lv D) m (fun i => if lv i then q i else 0) 8 c).testBit t = r8 (nrR lv D) m (fun x => (if lv x then q x else 0).testBit t) 8 c := h2
  rw [h2']
  have hz : ∀ x, (if lv x then q x else 0).testBit t = (lv x && (q x).testBit t) := by
    intro x
    cases lv x with
    | true => simp
    | false => simp
  rw [Bool.eq_iff_iff, knB_bit, r8_iff hm (fun x hx => by
    rw [hz, Bool.and_eq_true] at hx
    exact hlv x hx.1)]
  constructor
  · rintro ⟨i, hi, g1, g2, g3⟩
    have g1' : r8 (nrR lv D) m (fun x => decide (x = c)) 8 i = true := by
      rw [← congrFun h1.1 i]; exact g1
    rw [r8_iff hm (fun x hx => by rw [of_decide_eq_true hx]; exact hlv c hc)] at g1'
    obtain ⟨b, hb, hcl⟩ := g1'
    have e : b = c := of_decide_eq_true hb
    subst e
    exact ⟨i, by rw [hz, g2, g3]; rfl, hcl.symm hsR⟩
  · rintro ⟨i, hi, hcl⟩
    rw [hz, Bool.and_eq_true] at hi
    refine ⟨i, hlv i hi.1, ?_, hi.1, hi.2⟩
    have : r8 (nrR lv D) m (fun x => decide (x = c)) 8 i = true := by
      rw [r8_iff hm (fun x hx => by rw [of_decide_eq_true hx]; exact hlv c hc)]
      exact ⟨c, decide_eq_true rfl, hcl.symm hsR⟩
    rw [← congrFun h1.1 i] at this
    exact this
theorem mpN_symm {M : Nat → Nat → Nat} (h : ∀ a b, M a b = M b a) : ∀ n a b, mpN M n a b = mpN M n b a := by
  intro n
  induction n with
  | zero => exact h
  | succ n ih =>
    intro a b
    rw [mpN_succ, mpN_succ, ih a b, ih a n, ih n b]
    omega
theorem mpE_symm {W : Nat} {c : Nat → Nat} {z : Nat → Int32} (a b : Nat) : mpE W c z a b = mpE W c z b a := by
  have hw : ∀ k, wayB z a b k = wayB z b a k := by
    intro k
    unfold wayB
    exact decide_eq_decide.mpr ⟨Or.symm, Or.symm⟩
  unfold mpE mp0
  rw [show wayB z a b = wayB z b a from funext hw]
  by_cases h : a = b
  · subst h; rfl
  · rw [if_neg h, if_neg (Ne.symm h), if_neg h, if_neg (Ne.symm h)]
    by_cases h2 : a < 8 ∧ b < 8
    · rw [if_pos h2, if_pos ⟨h2.2, h2.1⟩]
    · rw [if_neg h2, if_neg (fun h3 => h2 ⟨h3.2, h3.1⟩)]
