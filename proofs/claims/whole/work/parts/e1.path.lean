/-! JOURNEYS: ways, legs, paths -/
def lwy (W : Nat) (z : Nat → Int32) (a b : Nat) : Option Nat := (List.range W).find? (wayB z a b)
theorem wayB_iff {z : Nat → Int32} {a b k : Nat} : wayB z a b k = true ↔ wayIs z a b k := by
  unfold wayB wayIs
  exact decide_eq_true_iff
theorem find_range {p : Nat → Bool} : ∀ W, ((List.range W).find? p = none ∧ ∀ k, k < W → p k = false) ∨ ∃ k, k < W ∧ (List.range W).find? p = some k ∧ p k = true ∧ ∀ j, j < k → p j = false := by
  intro W
  induction W with
  | zero => exact Or.inl ⟨rfl, fun k hk => by omega⟩
  | succ W ih =>
    rw [List.range_succ, List.find?_append]
    rcases ih with ⟨h1, h2⟩ | ⟨k, h1, h2, h3, h4⟩
    · rw [h1]
      cases hW : p W with
      | true =>
        refine Or.inr ⟨W, by omega, ?_, hW, h2⟩
        simp [hW]
      | false =>
        refine Or.inl ⟨?_, fun k hk => ?_⟩
        · simp [hW]
        · by_cases e : k = W
          · subst e; exact hW
          · exact h2 k (by omega)
    · rw [h2]
      exact Or.inr ⟨k, by omega, rfl, h3, h4⟩
theorem lwy_low {W : Nat} {z : Nat → Int32} {a b : Nat} : LowR W z a b (oI (lwy W z a b)) := by
  rcases find_range (p := wayB z a b) W with ⟨h1, h2⟩ | ⟨k, h1, h2, h3, h4⟩
  · refine Or.inl ⟨?_, fun k hk hw => ?_⟩
    · unfold lwy; rw [h1]; rfl
    · rw [← wayB_iff, h2 k hk] at hw; cases hw
  · refine Or.inr ⟨k, h1, ?_, wayB_iff.mp h3, fun j hj hw => ?_⟩
    · unfold lwy; rw [h2]; rfl
    · rw [← wayB_iff, h4 j hj] at hw; cases hw
theorem low_lwy {W : Nat} {z : Nat → Int32} {a b : Nat} {v : Int32} (h : LowR W z a b v) : v = oI (lwy W z a b) := by
  rcases find_range (p := wayB z a b) W with ⟨h1, h2⟩ | ⟨k, h1, h2, h3, h4⟩
  · rcases h with ⟨e, -⟩ | ⟨j, hj, -, hw, -⟩
    · unfold lwy; rw [h1]; exact e
    · rw [← wayB_iff, h2 j hj] at hw; cases hw
  · rcases h with ⟨-, hn⟩ | ⟨j, hj, e, hw, hl⟩
    · exact absurd (wayB_iff.mp h3) (hn k h1)
    · have : j = k := by
        rcases Nat.lt_trichotomy j k with g | g | g
        · rw [← wayB_iff, h4 j g] at hw; cases hw
        · exact g
        · exact absurd (wayB_iff.mp h3) (hl k g)
      subst this
      unfold lwy
      rw [h2]
      exact e
theorem lwy_lt {W : Nat} {z : Nat → Int32} {a b k : Nat} (h : lwy W z a b = some k) : k < W := by
  unfold lwy at h
  exact List.mem_range.mp (List.mem_of_find?_eq_some h)
/-- hours and ford of a way -/
def wtN (z : Nat → Int32) (k : Nat) : Nat := (z (60 + 5 * k + 2)).toNatClampNeg
def wfN (z : Nat → Int32) (k : Nat) : Nat := (z (60 + 5 * k + 3)).toNatClampNeg
theorem wt_eq {P W F : Nat} {z : Nat → Int32} (h : ZR P W F z) {k : Nat} (hk : k < W) : (1 ≤ wtN z k ∧ wtN z k ≤ 9 ∧ z (60 + 5 * k + 2) = nI (wtN z k)) ∧ wfN z k ≤ 9 ∧ z (60 + 5 * k + 3) = nI (wfN z k) := by
  obtain ⟨-, ⟨t, t1, t9, et⟩, ⟨w, w9, ew⟩⟩ := h.2.2.1 k hk
  unfold wtN wfN
  rw [et, ew, nI_clamp (by omega), nI_clamp (by omega)]
  exact ⟨⟨t1, t9, rfl⟩, w9, rfl⟩
def hrs (W : Nat) (z : Nat → Int32) (a b : Nat) : Nat := match lwy W z a b with | some k => wtN z k | none => 0
def frd (W : Nat) (z : Nat → Int32) (a b : Nat) : Nat := match lwy W z a b with | some k => wfN z k | none => 0
theorem hrs_le {P W F : Nat} {z : Nat → Int32} (h : ZR P W F z) (a b : Nat) : hrs W z a b ≤ 9 := by
  unfold hrs
  cases e : lwy W z a b with
  | none => exact Nat.zero_le _
  | some k => exact (wt_eq h (lwy_lt e)).1.2.1
/-- chances and losses: cn p e, ls p e g (e hours have gone) -/
abbrev CNf : Type := Nat → Nat → Nat
abbrev LSf : Type := Nat → Nat → Nat → Nat
def rnT (cn : CNf) (ls : LSf) (b e : Nat) (d : Nat → Nat) : Nat → Nat → Nat := ac (fun d i => rnD (cn b (e + i)) (ls b (e + i)) d 99) d
def leg (W : Nat) (z : Nat → Int32) (cn : CNf) (ls : LSf) (a b : Nat) (s : (Nat → Nat) × Nat) : (Nat → Nat) × Nat := (prD (frd W z a b) (rnT cn ls b s.2 s.1 (hrs W z a b)) 99, s.2 + hrs W z a b)
def legA (W : Nat) (z : Nat → Int32) (cn : CNf) (ls : LSf) (am : Option Nat) (a b : Nat) (s : (Nat → Nat) × Nat) : (Nat → Nat) × Nat := if am = some b then (prD 10 (leg W z cn ls a b s).1 99, (leg W z cn ls a b s).2) else leg W z cn ls a b s
def pv (W : Nat) (z : Nat → Int32) (cn : CNf) (ls : LSf) (am : Option Nat) (q : List Nat) (s : (Nat → Nat) × Nat) : Nat → (Nat → Nat) × Nat
  | 0 => s
  | i + 1 => legA W z cn ls am (q.getD i 0) (q.getD (i + 1) 0) (pv W z cn ls am q s i)
def phr (W : Nat) (z : Nat → Int32) (q : List Nat) : Nat → Nat
  | 0 => 0
  | i + 1 => phr W z q i + hrs W z (q.getD i 0) (q.getD (i + 1) 0)
section PV
variable {P W F : Nat} {z : Nat → Int32} {cn : CNf} {ls : LSf} {am : Option Nat} {q : List Nat} {s : (Nat → Nat) × Nat}
theorem rnT_sum {b e : Nat} {d : Nat → Nat} (hc : ∀ e, cn b e ≤ 100) : ∀ t, zc_sm 100 (rnT cn ls b e d t) = zc_sm 100 d := by
  intro t
  induction t with
  | zero => rfl
  | succ t ih => exact (rnD_sum (hc _) 99 (Nat.le_refl _)).trans ih
theorem leg_sum {a b : Nat} (hc : ∀ p e, cn p e ≤ 100) : zc_sm 100 (leg W z cn ls a b s).1 = zc_sm 100 s.1 := (prD_sum 99 (Nat.le_refl _)).trans (rnT_sum (hc b) _)
theorem legA_sum {a b : Nat} (hc : ∀ p e, cn p e ≤ 100) : zc_sm 100 (legA W z cn ls am a b s).1 = zc_sm 100 s.1 := by
  unfold legA
  split
  · exact (prD_sum 99 (Nat.le_refl _)).trans (leg_sum hc)
  · exact leg_sum hc
theorem legA_e {a b : Nat} : (legA W z cn ls am a b s).2 = s.2 + hrs W z a b := by
  unfold legA
  split <;> rfl
theorem pv_sum (hc : ∀ p e, cn p e ≤ 100) : ∀ i, zc_sm 100 (pv W z cn ls am q s i).1 = zc_sm 100 s.1 := by
  intro i
  induction i with
  | zero => rfl
  | succ i ih => exact (legA_sum hc).trans ih
theorem pv_e : ∀ i, (pv W z cn ls am q s i).2 = s.2 + phr W z q i := by
  intro i
  induction i with
  | zero => rfl
  | succ i ih =>
    show (legA W z cn ls am _ _ _).2 = s.2 + (phr W z q i + _)
    rw [legA_e, ih]
    omega
theorem phr_le (h : ZR P W F z) : ∀ i, phr W z q i ≤ 9 * i := by
  intro i
  induction i with
  | zero => exact Nat.le_refl _
  | succ i ih =>
    have := hrs_le h (q.getD i 0) (q.getD (i + 1) 0)
    show phr W z q i + _ ≤ _
    omega
/-- somebody lies in wait at the i-th place: until there as without, then poured, then as without -/
theorem pv_amb {i : Nat} (hnd : ∀ j, j ≤ i → j ≠ i → q.getD j 0 ≠ q.getD i 0) : ∀ j, j < i → pv W z cn ls (some (q.getD i 0)) q s j = pv W z cn ls none q s j := by
  intro j
  induction j with
  | zero => intro _; rfl
  | succ j ih =>
    intro hj
    show legA W z cn ls (some (q.getD i 0)) _ _ _ = legA W z cn ls none _ _ _
    rw [ih (by omega)]
    unfold legA
    rw [if_neg (fun e => by
      have e2 := Option.some.inj e
      exact hnd (j + 1) (by omega) (by omega) e2.symm), if_neg (fun e => by cases e)]
theorem pv_amb1 {i : Nat} (hnd : ∀ j, j ≤ i + 1 → j ≠ i + 1 → q.getD j 0 ≠ q.getD (i + 1) 0) : pv W z cn ls (some (q.getD (i + 1) 0)) q s (i + 1) = (prD 10 (pv W z cn ls none q s (i + 1)).1 99, (pv W z cn ls none q s (i + 1)).2) := by
  show legA W z cn ls (some (q.getD (i + 1) 0)) _ _ _ = _
  rw [pv_amb hnd i (by omega)]
  have e : pv W z cn ls none q s (i + 1) = leg W z cn ls (q.getD i 0) (q.getD (i + 1) 0) (pv W z cn ls none q s i) := by
    show legA W z cn ls none _ _ _ = _
    unfold legA
    rw [if_neg (fun e => by cases e)]
  rw [e]
  unfold legA
  rw [if_pos rfl]
theorem pv_amb2 {i j : Nat} (hne : q.getD (j + 1) 0 ≠ q.getD i 0) : pv W z cn ls (some (q.getD i 0)) q s (j + 1) = leg W z cn ls (q.getD j 0) (q.getD (j + 1) 0) (pv W z cn ls (some (q.getD i 0)) q s j) := by
  show legA W z cn ls (some (q.getD i 0)) _ _ _ = _
  unfold legA
  rw [if_neg (fun e => hne (Option.some.inj e).symm)]
theorem pv_none {j : Nat} : pv W z cn ls none q s (j + 1) = leg W z cn ls (q.getD j 0) (q.getD (j + 1) 0) (pv W z cn ls none q s j) := by
  show legA W z cn ls none _ _ _ = _
  unfold legA
  rw [if_neg (fun e => by cases e)]
/-- two paths that begin alike -/
theorem pv_same {q2 : List Nat} {n : Nat} (h : ∀ j, j < n → q.getD j 0 = q2.getD j 0) : ∀ j, j < n → pv W z cn ls am q s j = pv W z cn ls am q2 s j := by
  intro j
  induction j with
  | zero => intro _; rfl
  | succ j ih =>
    intro hj
    show legA W z cn ls am _ _ _ = legA W z cn ls am _ _ _
    rw [ih (by omega), h j (by omega), h (j + 1) hj]
end PV
/-! all paths, in their order -/
def pth (P W : Nat) (z : Nat → Int32) (to : Nat) : Nat → List Nat → Nat → Nat → List (List Nat)
  | 0, _, _, _ => []
  | f + 1, tr, here, seen => if here = to then [tr] else (List.range P).flatMap (fun p => if seen.testBit p = false ∧ (lwy W z here p).isSome = true then pth P W z to f (tr ++ [p]) p (seen ||| 2 ^ p) else [])
/-- a trail: its places are those seen, each once, with ways between -/
def Tr (P W : Nat) (z : Nat → Int32) (a0 : Nat) (tr : List Nat) (here seen : Nat) : Prop := 0 < tr.length ∧ tr.getD 0 0 = a0 ∧ tr.getD (tr.length - 1) 0 = here ∧ (∀ j, j < tr.length → tr.getD j 0 < P ∧ seen.testBit (tr.getD j 0) = true) ∧ (∀ i j, i < j → j < tr.length → tr.getD i 0 ≠ tr.getD j 0) ∧ (∀ j, j + 1 < tr.length → (lwy W z (tr.getD j 0) (tr.getD (j + 1) 0)).isSome = true) ∧ zc_sm P (fun p => if seen.testBit p = true then 1 else 0) = tr.length ∧ seen < 256
section PTH
variable {P W : Nat} {z : Nat → Int32} {a0 here seen p to : Nat} {tr : List Nat}
theorem getD_app {l : List Nat} {x j : Nat} : (l ++ [x]).getD j 0 = if j < l.length then l.getD j 0 else if j = l.length then x else 0 := by
  rw [List.getD_eq_getElem?_getD, List.getD_eq_getElem?_getD]
  by_cases h : j < l.length
  · rw [if_pos h, List.getElem?_append_left h]
  · rw [if_neg h, List.getElem?_append_right (by omega)]
    by_cases h2 : j = l.length
    · rw [if_pos h2, h2, Nat.sub_self]; rfl
    · rw [if_neg h2, List.getElem?_eq_none (by simp; omega)]; rfl
theorem Tr.len (h : Tr P W z a0 tr here seen) : tr.length ≤ P := by
  rw [← h.2.2.2.2.2.2.1]
  exact zc_sm_one (fun i => by
    show (if seen.testBit i = true then 1 else 0) ≤ 1
    split <;> omega) P
/-- all places seen -/
theorem Tr.full (h : Tr P W z a0 tr here seen) (hl : P ≤ tr.length) (hp : p < P) : seen.testBit p = true := by
  have h1 := h.2.2.2.2.2.2.1
  exact ct_full (m := P) (S := fun p => seen.testBit p) (by unfold ct; rw [h1]; exact hl) hp
theorem Tr.hP (h : Tr P W z a0 tr here seen) : here < P := by
  have := (h.2.2.2.1 (tr.length - 1) (by have := h.1; omega)).1
  rw [h.2.2.1] at this
  exact this
theorem Tr.step (h : Tr P W z a0 tr here seen) (hP : P ≤ 8) (hp : p < P) (hs : seen.testBit p = false) (hw : (lwy W z here p).isSome = true) : Tr P W z a0 (tr ++ [p]) p (seen ||| 2 ^ p) := by
  have hlen : (tr ++ [p]).length = tr.length + 1 := by simp
  obtain ⟨h0, ha0, hh, h1, h2, h3, h4, h5⟩ := h
  have hb : ∀ x, (seen ||| 2 ^ p).testBit x = (seen.testBit x || decide (x = p)) := fun x => by rw [Nat.testBit_or, tb_2]
  refine ⟨by omega, ?_, ?_, ?_, ?_, ?_, ?_, ?_⟩
  · rw [getD_app, if_pos h0]; exact ha0
  · rw [hlen, getD_app, if_neg (by omega), if_pos (by omega)]
  · intro j hj
    rw [hlen] at hj
    rw [getD_app, hb]
    by_cases e : j < tr.length
    · rw [if_pos e, (h1 j e).2]; exact ⟨(h1 j e).1, rfl⟩
    · rw [if_neg e, if_pos (by omega)]
      exact ⟨hp, by rw [decide_eq_true rfl, Bool.or_true]⟩
  · intro i j hij hj
    rw [hlen] at hj
    rw [getD_app, getD_app, if_pos (show i < tr.length by omega)]
    by_cases e : j < tr.length
    · rw [if_pos e]; exact h2 i j hij e
    · rw [if_neg e, if_pos (by omega)]
      intro e2
      have := (h1 i (by omega)).2
      rw [e2, hs] at this
      cases this
  · intro j hj
    rw [hlen] at hj
    rw [getD_app, getD_app, if_pos (show j < tr.length by omega)]
    by_cases e : j + 1 < tr.length
    · rw [if_pos e]; exact h3 j e
    · rw [if_neg e, if_pos (by omega)]
      have : j = tr.length - 1 := by omega
      rw [this, hh]
      exact hw
  · have e1 : zc_sm P (fun x => if (seen ||| 2 ^ p).testBit x = true then 1 else 0) = zc_sm P (va_up (fun x => if seen.testBit x = true then 1 else 0) p 1) := by
      refine zc_sm_congr (fun x _ => ?_)
      rw [hb]
      by_cases e : x = p
      · subst e; rw [va_up_self, decide_eq_true rfl, Bool.or_true]; rfl
      · rw [va_up_ne _ _ e, decide_eq_false e, Bool.or_false]
    have e2 := zc_sm_up (f := fun x => if seen.testBit x = true then 1 else 0) (i := p) (v := 1) (n := P) hp
    simp only [hs, Bool.false_eq_true, if_false] at e2
    rw [e1, hlen]
    omega
  · exact Nat.or_lt_two_pow (n := 8) h5 (Nat.pow_lt_pow_right (by omega) (by omega))
/-- what a path is -/
def Pa (P W : Nat) (z : Nat → Int32) (a0 to : Nat) (q : List Nat) : Prop := 0 < q.length ∧ q.length ≤ 8 ∧ q.getD 0 0 = a0 ∧ q.getD (q.length - 1) 0 = to ∧ (∀ j, j < q.length → q.getD j 0 < P) ∧ (∀ i j, i < j → j < q.length → q.getD i 0 ≠ q.getD j 0) ∧ ∀ j, j + 1 < q.length → (lwy W z (q.getD j 0) (q.getD (j + 1) 0)).isSome = true
theorem pth_pa (hP : P ≤ 8) : ∀ (f : Nat) (tr : List Nat) (here seen : Nat), Tr P W z a0 tr here seen → ∀ q, q ∈ pth P W z to f tr here seen → Pa P W z a0 to q := by
  intro f
  induction f with
  | zero => intro tr here seen _ q hq; cases hq
  | succ f ih =>
    intro tr here seen ht q hq
    have hq' : q ∈ (if here = to then [tr] else (List.range P).flatMap (fun p => if seen.testBit p = false ∧ (lwy W z here p).isSome = true then pth P W z to f (tr ++ [p]) p (seen ||| 2 ^ p) else [])) := hq
    by_cases e : here = to
    · rw [if_pos e] at hq'
      have : q = tr := by simpa using hq'
      subst this
      have hl := ht.len
      exact ⟨ht.1, by omega, ht.2.1, ht.2.2.1.trans e, fun j hj => (ht.2.2.2.1 j hj).1, ht.2.2.2.2.1, ht.2.2.2.2.2.1⟩
    · rw [if_neg e, List.mem_flatMap] at hq'
      obtain ⟨p, hp, h2⟩ := hq'
      rw [List.mem_range] at hp
      by_cases hc : seen.testBit p = false ∧ (lwy W z here p).isSome = true
      · rw [if_pos hc] at h2
        exact ih _ _ _ (ht.step hP hp hc.1 hc.2) q h2
      · rw [if_neg hc] at h2
        cases h2
theorem pth_len (hP : P ≤ 8) : ∀ (f : Nat) (tr : List Nat) (here seen : Nat), Tr P W z a0 tr here seen → (pth P W z to f tr here seen).length ≤ 8 ^ (8 - tr.length) := by
  intro f
  induction f with
  | zero => intro tr here seen _; exact Nat.zero_le _
  | succ f ih =>
    intro tr here seen ht
    have hl := ht.len
    show (if here = to then [tr] else (List.range P).flatMap (fun p => if seen.testBit p = false ∧ (lwy W z here p).isSome = true then pth P W z to f (tr ++ [p]) p (seen ||| 2 ^ p) else [])).length ≤ _
    by_cases e : here = to
    · rw [if_pos e]
      exact (show 1 ≤ 8 ^ (8 - tr.length) from Nat.pow_pos (by omega))
    · rw [if_neg e, zc_len_flat]
      by_cases hf : P ≤ tr.length
      · have : zc_sm P (fun c => (if seen.testBit c = false ∧ (lwy W z here c).isSome = true then pth P W z to f (tr ++ [c]) c (seen ||| 2 ^ c) else []).length) = zc_sm P (fun _ => 0) := zc_sm_congr (fun p hp => by
          rw [if_neg (fun h => by rw [ht.full hf hp] at h; exact absurd h.1 (by decide))]; rfl)
        rw [this, zc_sm_zero]
        exact Nat.zero_le _
      · have h1 := zc_sm_ub (f := fun c => (if seen.testBit c = false ∧ (lwy W z here c).isSome = true then pth P W z to f (tr ++ [c]) c (seen ||| 2 ^ c) else []).length) (b := 8 ^ (8 - (tr.length + 1))) P (fun p hp => by
          by_cases hc : seen.testBit p = false ∧ (lwy W z here p).isSome = true
          · simp only [if_pos hc]
            have := ih _ _ _ (ht.step hP hp hc.1 hc.2)
            rw [show (tr ++ [p]).length = tr.length + 1 by simp] at this
            exact this
          · simp only [if_neg hc]
            exact Nat.zero_le _)
        have h2 : P * 8 ^ (8 - (tr.length + 1)) ≤ 8 * 8 ^ (8 - (tr.length + 1)) := Nat.mul_le_mul_right _ hP
        have h3 : 8 ^ (8 - tr.length) = 8 * 8 ^ (8 - (tr.length + 1)) := by
          rw [show 8 - tr.length = (8 - (tr.length + 1)) + 1 by omega, Nat.pow_succ, Nat.mul_comm]
        omega
theorem Tr.one (ha : a0 < P) (hP : P ≤ 8) : Tr P W z a0 [a0] a0 (2 ^ a0) := by
  have hb : ∀ x, (2 ^ a0).testBit x = decide (x = a0) := fun x => tb_2 a0 x
  refine ⟨by simp, rfl, rfl, ?_, ?_, ?_, ?_, ?_⟩
  · intro j hj
    have : j = 0 := by simpa using hj
    subst this
    exact ⟨ha, by rw [hb]; exact decide_eq_true rfl⟩
  · intro i j hij hj
    have : j = 0 := by simpa using hj
    omega
  · intro j hj
    have : j + 1 = 0 := by simpa using hj
    omega
  · have e1 : zc_sm P (fun x => if (2 ^ a0).testBit x = true then 1 else 0) = zc_sm P (va_up (fun _ => 0) a0 1) := by
      refine zc_sm_congr (fun x _ => ?_)
      rw [hb]
      by_cases e : x = a0
      · subst e; rw [va_up_self, decide_eq_true rfl]; rfl
      · rw [va_up_ne _ _ e, decide_eq_false e]; rfl
    have e2 : zc_sm P (va_up (fun _ => 0) a0 1) + 0 = zc_sm P (fun _ => 0) + 1 := zc_sm_up (f := fun _ => 0) (i := a0) (v := 1) (n := P) ha
    rw [zc_sm_zero] at e2
    rw [e1]
    show _ = 1
    omega
  · exact (show 2 ^ a0 < 2 ^ 8 from Nat.pow_lt_pow_right (by omega) (by omega))
end PTH
/-! the best of several: the first that none is better than -/
def bst (bt : List Nat → List Nat → Bool) (b : Option (List Nat)) (q : List Nat) : Option (List Nat) := match b with
  | none => some q
  | some o => if bt q o then some q else some o
def bstL (bt : List Nat → List Nat → Bool) (rs : List (List Nat)) : Option (List Nat) := rs.foldl (bst bt) none
/-- with a count, and only the first 200 -/
def bsc (bt : List Nat → List Nat → Bool) (s : Nat × Option (List Nat)) (q : List Nat) : Nat × Option (List Nat) := (s.1 + 1, if s.1 + 1 ≤ 200 then bst bt s.2 q else s.2)
theorem bsc_all {bt : List Nat → List Nat → Bool} : ∀ (rs : List (List Nat)) (s : Nat × Option (List Nat)), rs.foldl (bsc bt) s = (s.1 + rs.length, (rs.take (200 - s.1)).foldl (bst bt) s.2) := by
  intro rs
  induction rs with
  | nil => intro s; simp
  | cons q rs ih =>
    intro s
    rw [List.foldl_cons, ih]
    refine Prod.ext ?_ ?_
    · show s.1 + 1 + rs.length = s.1 + (q :: rs).length
      rw [List.length_cons]
      omega
    · show (rs.take (200 - (s.1 + 1))).foldl (bst bt) (if s.1 + 1 ≤ 200 then bst bt s.2 q else s.2) = ((q :: rs).take (200 - s.1)).foldl (bst bt) s.2
      by_cases h : s.1 + 1 ≤ 200
      · rw [if_pos h, show 200 - s.1 = (200 - (s.1 + 1)) + 1 by omega, List.take_succ_cons, List.foldl_cons]
      · rw [if_neg h, show 200 - s.1 = 0 by omega, show 200 - (s.1 + 1) = 0 by omega]
        rfl
theorem bst_mem {bt : List Nat → List Nat → Bool} : ∀ (rs : List (List Nat)) (b : Option (List Nat)) (q : List Nat), rs.foldl (bst bt) b = some q → q ∈ rs ∨ b = some q := by
  intro rs
  induction rs with
  | nil => intro b q h; exact Or.inr h
  | cons x rs ih =>
    intro b q h
    rw [List.foldl_cons] at h
    rcases ih _ q h with h1 | h1
    · exact Or.inl (List.mem_cons_of_mem _ h1)
    · cases b with
      | none =>
        have : some x = some q := h1
        cases this
        exact Or.inl (List.mem_cons_self)
      | some o =>
        have h2 : (if bt x o then some x else some o) = some q := h1
        by_cases hb : bt x o = true
        · rw [if_pos hb] at h2
          cases h2
          exact Or.inl (List.mem_cons_self)
        · rw [if_neg hb] at h2
          exact Or.inr h2
