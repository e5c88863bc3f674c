/-! TEXTS: sums, by the class -/
/-- a law under way: where the tape stands, the moves so far -/
def LSt (T : Nat → Nat) (N l p : Nat) (mv : List Nat) (σ : sa_St) : Prop := CTp T N σ ∧ p ≤ N ∧ σ.1 1 2 = nI p ∧ mv.length ≤ p ∧ σ.1 (18 + 3 * l) 2 = nI mv.length ∧ ∀ i, i < mv.length → σ.1 (19 + 3 * l) i = nI (mv.getD i 0)
def LFr (l : Nat) (σ τ : sa_St) : Prop := τ.2 = σ.2 ∧ (∀ j, j ≠ 1 → j ≠ 18 + 3 * l → j ≠ 19 + 3 * l → τ.1 j = σ.1 j) ∧ (∀ k, k ≠ 2 → τ.1 1 k = σ.1 1 k) ∧ ∀ k, k ≠ 2 → τ.1 (18 + 3 * l) k = σ.1 (18 + 3 * l) k
theorem LFr.rfl' {l : Nat} {σ : sa_St} : LFr l σ σ := ⟨rfl, fun _ _ _ _ => rfl, fun _ _ => rfl, fun _ _ => rfl⟩
theorem LFr.trans {l : Nat} {σ τ υ : sa_St} (h : LFr l σ τ) (h2 : LFr l τ υ) : LFr l σ υ := ⟨h2.1.trans h.1, fun j a b c => (h2.2.1 j a b c).trans (h.2.1 j a b c), fun k a => (h2.2.2.1 k a).trans (h.2.2.1 k a), fun k a => (h2.2.2.2 k a).trans (h.2.2.2 k a)⟩
theorem LFr.at {l : Nat} {σ : sa_St} {v : Int32} : LFr l σ (sa_upI σ 1 2 v) := ⟨rfl, fun j a _ _ => by rw [upI_ne a], fun k a => by rw [upI_self, va_up_ne _ _ a], fun k a => by rw [upI_ne (by omega)]⟩
theorem LFr.sz {l : Nat} {σ : sa_St} {v : Int32} : LFr l σ (sa_upI σ (18 + 3 * l) 2 v) := ⟨rfl, fun j _ b _ => by rw [upI_ne b], fun k a => by rw [upI_ne (by omega)], fun k a => by rw [upI_self, va_up_ne _ _ a]⟩
theorem LFr.mv {l i : Nat} {σ : sa_St} {v : Int32} : LFr l σ (sa_upI σ (19 + 3 * l) i v) := ⟨rfl, fun j _ _ c => by rw [upI_ne c], fun k a => by rw [upI_ne (by omega)], fun k a => by rw [upI_ne (by omega)]⟩
/-- what reading a piece leaves -/
def CPo (T : Nat → Nat) (N l : Nat) (mv : List Nat) (σ : sa_St) (res : PRs) (r : Int32) (τ : sa_St) : Prop := LFr l σ τ ∧ match res.2 with
  | none => r = 0 ∧ τ.1 1 2 = nI res.1 ∧ ∃ s : Nat, s ≤ 241 ∧ τ.1 (18 + 3 * l) 2 = nI s
  | some m => r = 1 ∧ LSt T N l res.1 (mv ++ m.1) τ
theorem sk_law0 {ρ : Nat → Nat → Nat} (h : SK ρ) {l : Nat} (hl : l < 5) : ρ (18 + 3 * l) 0 = 19 + 3 * l + 1 := by
  match l, hl with
  | 0, _ => exact sk_18_0 h
  | 1, _ => exact sk_21_0 h
  | 2, _ => exact sk_24_0 h
  | 3, _ => exact sk_27_0 h
  | 4, _ => exact sk_30_0 h
  | n + 5, hl => omega
theorem sh_law : ∀ l, l < 5 → sa_sh (18 + 3 * l) = some (.inl 2) := by
  intro l hl
  match l, hl with
  | 0, _ => rfl
  | 1, _ => rfl
  | 2, _ => rfl
  | 3, _ => rfl
  | 4, _ => rfl
  | n + 5, hl => omega
theorem al_law : ∀ l, l < 5 → sa_al .int (19 + 3 * l) = 241 := by
  intro l hl
  match l, hl with
  | 0, _ => rfl
  | 1, _ => rfl
  | 2, _ => rfl
  | 3, _ => rfl
  | 4, _ => rfl
  | n + 5, hl => omega
theorem mv_enc {a o : Nat} (ha : a < 2 ^ 20) (ho : o < 16) : (nI a <<< ((4 : Int32) &&& 31)) ||| nI o = nI (16 * a + o) := by
  have h1 : nI a <<< ((4 : Int32) &&& 31) = nI (a * 2 ^ 4) := pk_shlN _ 4 (by decide) (by omega)
  rw [h1, nI_or (by omega) (by omega)]
  congr 1
  have h2 := Nat.two_pow_add_eq_or_of_lt (i := 4) (b := o) (by omega) a
  rw [show a * 2 ^ 4 = 2 ^ 4 * a by omega, ← h2]
section MOVES
variable {T : Nat → Nat} {N l p : Nat} {mv : List Nat} {σ : sa_St}
theorem c_addM {a o : Nat} (hl : l < 5) (hk : SK σ.2.1) (ha : a < 2 ^ 20) (ho : o < 16) {s : Nat} (hs : σ.1 (18 + 3 * l) 2 = nI s) (h240 : s ≤ 240) : f_X2_add (18 + 3 * l) (nI o) (nI a) σ = some ((), sa_upI (sa_upI σ (19 + 3 * l) s (nI (16 * a + o))) (18 + 3 * l) 2 (nI (s + 1))) := by
  refine run_to ?_
  unfold f_X2_add
  rw [wp_gd]
  refine ⟨sh_law l hl, ?_⟩
  rw [wp_bnd, wp_rdI, hs]
  refine ⟨sh_law l hl, ?_⟩
  rw [wp_bnd, wp_rdR (v := 19 + 3 * l) (sh_law l hl) (sk_law0 hk hl), wp_bnd]
  sorry
end MOVES
