/-! MAPS: the fewest hours, or ways, from place to place -/
theorem zc_sm_le {f g : Nat → Nat} : ∀ {n : Nat}, (∀ i, i < n → f i ≤ g i) → zc_sm n f ≤ zc_sm n g := by
  intro n
  induction n with
  | zero => intro _; exact Nat.le_refl _
  | succ n ih =>
    intro h
    exact Nat.add_le_add (ih (fun i hi => h i (by omega))) (h n (by omega))
theorem zc_sm_one {f : Nat → Nat} (h : ∀ i, f i ≤ 1) : ∀ n : Nat, zc_sm n f ≤ n := by
  intro n
  induction n with
  | zero => exact Nat.le_refl _
  | succ n ih => exact Nat.add_le_add ih (h n)
section MAPS
variable {m : Nat → Nat → Nat}
theorem mpN_succ (n a b : Nat) : mpN m (n + 1) a b = min (mpN m n a b) (mpN m n a n + mpN m n n b) := rfl
theorem mpN_mono (n a b : Nat) : mpN m (n + 1) a b ≤ mpN m n a b := Nat.min_le_left _ _
theorem mpN_via (n a b : Nat) : mpN m (n + 1) a b ≤ mpN m n a n + mpN m n n b := Nat.min_le_right _ _
theorem mpN_le (h : ∀ a b, m a b ≤ 1000) : ∀ n a b, mpN m n a b ≤ 1000 := by
  intro n
  induction n with
  | zero => exact h
  | succ n ih => exact fun a b => Nat.le_trans (mpN_mono n a b) (ih a b)
theorem mpN_diag (h : ∀ a, m a a = 0) : ∀ n a, mpN m n a a = 0 := by
  intro n
  induction n with
  | zero => exact h
  | succ n ih => exact fun a => Nat.le_zero.mp (Nat.le_trans (mpN_mono n a a) (Nat.le_of_eq (ih a)))
theorem mpN_tri (h : ∀ a, m a a = 0) : ∀ n x a b, x < n → mpN m n a b ≤ mpN m n a x + mpN m n x b := by
  intro n
  induction n with
  | zero => intro x a b hx; omega
  | succ n ih =>
    intro x a b hx
    have d := mpN_diag h n n
    by_cases hxn : x = n
    · subst hxn
      rw [mpN_succ, mpN_succ, mpN_succ]
      omega
    · have h1 := ih x a b (by omega)
      have h2 := ih x n b (by omega)
      have h3 := ih x a n (by omega)
      have h4 := ih x n n (by omega)
      rw [mpN_succ, mpN_succ, mpN_succ]
      omega
theorem mpN_bound (hd : ∀ a, m a a = 0) (hw : ∀ a b, m a b < 1000 → m a b ≤ 9) : ∀ n, n ≤ 8 → ∀ a b, mpN m n a b < 1000 → mpN m n a b ≤ 9 * (1 + zc_sm n (fun x => if mpN m n a x < 1000 ∧ mpN m n x b < 1000 then 1 else 0)) := by
  intro n
  induction n with
  | zero => exact fun _ a b h => hw a b h
  | succ n ih =>
    intro hn a b h
    have hone : ∀ a b, zc_sm n (fun x => if mpN m n a x < 1000 ∧ mpN m n x b < 1000 then 1 else 0) ≤ n := by
      intro a b
      refine zc_sm_one (fun x => ?_) n
      show (if _ then 1 else 0) ≤ 1
      split <;> omega
    have hb : ∀ a b, mpN m n a b < 1000 → mpN m n a b ≤ 81 := by
      intro a b h
      have h1 := ih (by omega) a b h
      have h2 := hone a b
      omega
    by_cases hf : mpN m n a b < 1000
    · have h1 := ih (by omega) a b hf
      have h2 := mpN_mono (m := m) n a b
      have h3 : zc_sm n (fun x => if mpN m n a x < 1000 ∧ mpN m n x b < 1000 then 1 else 0) ≤ zc_sm n (fun x => if mpN m (n + 1) a x < 1000 ∧ mpN m (n + 1) x b < 1000 then 1 else 0) := by
        refine zc_sm_le (fun x _ => ?_)
        by_cases hx : mpN m n a x < 1000 ∧ mpN m n x b < 1000
        · have h4 := mpN_mono (m := m) n a x
          have h5 := mpN_mono (m := m) n x b
          rw [if_pos hx, if_pos (by omega)]
          exact Nat.le_refl _
        · rw [if_neg hx]
          exact Nat.zero_le _
      have h4 : zc_sm n (fun x => if mpN m (n + 1) a x < 1000 ∧ mpN m (n + 1) x b < 1000 then 1 else 0) ≤ zc_sm (n + 1) (fun x => if mpN m (n + 1) a x < 1000 ∧ mpN m (n + 1) x b < 1000 then 1 else 0) := Nat.le_add_right _ _
      omega
    · have hs : mpN m (n + 1) a b = mpN m n a n + mpN m n n b := by
        rw [mpN_succ] at h ⊢
        omega
      have fa : mpN m n a n < 1000 := by omega
      have fb : mpN m n n b < 1000 := by omega
      have h1 := ih (by omega) a n fa
      have h2 := ih (by omega) n b fb
      have hp : zc_sm n (fun x => (if mpN m n a x < 1000 ∧ mpN m n x n < 1000 then 1 else 0) + (if mpN m n n x < 1000 ∧ mpN m n x b < 1000 then 1 else 0)) ≤ zc_sm n (fun x => if mpN m (n + 1) a x < 1000 ∧ mpN m (n + 1) x b < 1000 then 1 else 0) := by
        refine zc_sm_le (fun x hx => ?_)
        have ht := mpN_tri hd n x a b hx
        have n1 : ¬ (mpN m n a x < 1000 ∧ mpN m n x b < 1000) := by
          rintro ⟨g1, g2⟩
          have := hb a x g1
          have := hb x b g2
          omega
        have b1 := hb a n fa
        have b2 := hb n b fb
        have v1 := mpN_via (m := m) n a x
        have v2 := mpN_via (m := m) n x b
        have m1 := mpN_mono (m := m) n a x
        have m2 := mpN_mono (m := m) n x b
        by_cases c1 : mpN m n a x < 1000 ∧ mpN m n x n < 1000
        · have c2 : ¬ (mpN m n n x < 1000 ∧ mpN m n x b < 1000) := fun g => n1 ⟨c1.1, g.2⟩
          have := hb x n c1.2
          rw [if_pos c1, if_neg c2, if_pos (by omega)]
          exact Nat.le_refl _
        · by_cases c2 : mpN m n n x < 1000 ∧ mpN m n x b < 1000
          · have := hb n x c2.1
            rw [if_neg c1, if_pos c2, if_pos (by omega)]
            exact Nat.le_refl _
          · rw [if_neg c1, if_neg c2]
            exact Nat.zero_le _
      rw [zc_sm_add] at hp
      have hl : zc_sm (n + 1) (fun x => if mpN m (n + 1) a x < 1000 ∧ mpN m (n + 1) x b < 1000 then 1 else 0) = zc_sm n (fun x => if mpN m (n + 1) a x < 1000 ∧ mpN m (n + 1) x b < 1000 then 1 else 0) + 1 := by
        show _ + (if _ then 1 else 0) = _
        have d := mpN_diag hd n n
        rw [if_pos]
        rw [mpN_succ, mpN_succ]
        omega
      rw [hl, hs]
      omega
theorem mpN_81 (hd : ∀ a, m a a = 0) (hw : ∀ a b, m a b < 1000 → m a b ≤ 9) {n a b : Nat} (hn : n ≤ 8) (h : mpN m n a b < 1000) : mpN m n a b ≤ 81 := by
  have h1 := mpN_bound hd hw n hn a b h
  have h2 : zc_sm n (fun x => if mpN m n a x < 1000 ∧ mpN m n x b < 1000 then 1 else 0) ≤ n := by
    refine zc_sm_one (fun x => ?_) n
    show (if _ then 1 else 0) ≤ 1
    split <;> omega
  omega
/-- places that are not there lie apart from all -/
theorem mpN_far (hd : ∀ a, m a a = 0) {P : Nat} (hf : ∀ a b, a ≠ b → (P ≤ a ∨ P ≤ b) → 1000 ≤ m a b) : ∀ n a b, a ≠ b → (P ≤ a ∨ P ≤ b) → 1000 ≤ mpN m n a b := by
  intro n
  induction n with
  | zero => exact hf
  | succ n ih =>
    intro a b hab hP
    have h1 := ih a b hab hP
    rw [mpN_succ]
    by_cases e1 : a = n
    · subst e1
      omega
    · by_cases e2 : n = b
      · subst e2
        omega
      · rcases hP with h | h
        · have := ih a n e1 (Or.inl h)
          omega
        · have := ih n b e2 (Or.inr h)
          omega
theorem mpN_same (hd : ∀ a, m a a = 0) (hl : ∀ a b, m a b ≤ 1000) {P : Nat} (hf : ∀ a b, a ≠ b → (P ≤ a ∨ P ≤ b) → 1000 ≤ m a b) : ∀ n, P ≤ n → ∀ a b, mpN m n a b = mpN m P a b := by
  intro n hn
  induction hn with
  | refl => exact fun _ _ => rfl
  | @step n hn ih =>
    intro a b
    rw [← ih a b, mpN_succ]
    have h1 := mpN_le hl n a b
    by_cases e1 : a = n
    · subst e1
      have := mpN_diag hd a a
      omega
    · have := mpN_far hd hf n a n e1 (Or.inr hn)
      omega
end MAPS
