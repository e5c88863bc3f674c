/-! TEXTS: what a law is worth: what was read, done by the moves -/
def RX (g w h m t u : Nat) (PV : Int32 → Prop) (r : PRs) : Prop := ∀ x, r.2 = some x → Exec g w h m t u x.1 (x.2 g w h m t) ∧ PV (x.2 g w h m t)
def p01 (v : Int32) : Prop := v = 0 ∨ v = 1
section PEX
variable {T : Nat → Nat} {N g w h m t u : Nat} {PV : Int32 → Prop}
theorem Exec.mono {u1 : Nat} {mv : List Nat} {v : Int32} (he : Exec g w h m t u1 mv v) (hu : u1 ≤ u) : Exec g w h m t u mv v := fun l n pc s F σ Q a b c d e f i k q => he l n pc s F σ Q a b c d e f i (by omega) q
theorem RX.mono {u1 : Nat} {r : PRs} (hr : RX g w h m t u1 PV r) (hu : u1 ≤ u) : RX g w h m t u PV r := fun x e => ⟨(hr x e).1.mono hu, (hr x e).2⟩
theorem st7 : StpM 7 mulC (fun _ _ => True ∧ True) := fun l σ j Q x3 x4 v w _ hz => w_D7 (hz _ rfl)
theorem st8 : StpM 8 divC (fun _ _ => True ∧ True) := fun l σ j Q x3 x4 v w _ hz => w_D8 (hz _ rfl)
theorem st5 : StpM 5 addC (fun _ _ => True ∧ True) := fun l σ j Q x3 x4 v w _ hz => w_D5 (hz _ rfl)
theorem st6 : StpM 6 subC (fun _ _ => True ∧ True) := fun l σ j Q x3 x4 v w _ hz => w_D6 (hz _ rfl)
theorem st12 : StpM 12 andC (fun v w => p01 v ∧ p01 w) := fun l σ j Q x3 x4 v w hp hz => w_D12 (hz _ (by
  obtain ⟨rfl | rfl, rfl | rfl⟩ := hp <;> decide))
theorem st13 : StpM 13 orC (fun v w => p01 v ∧ p01 w) := fun l σ j Q x3 x4 v w hp hz => w_D13 (hz _ (by
  obtain ⟨rfl | rfl, rfl | rfl⟩ := hp <;> decide))
theorem cmp01 (i : Nat) (v w : Int32) : p01 (cmpC i v w) := by
  unfold cmpC p01
  split
  · split <;> simp
  · split
    · split <;> simp
    · split <;> simp
theorem clp01 {v : Int32} (hv : p01 v) : clp v.toInt64 = v := by
  rcases hv with rfl | rfl <;> decide
theorem st9 : StpM 9 (cmpC 0) (fun _ _ => True ∧ True) := fun l σ j Q x3 x4 v w _ hz => w_D9 v w rfl rfl (hz _ (clp01 (cmp01 0 v w)))
theorem st10 : StpM 10 (cmpC 1) (fun _ _ => True ∧ True) := fun l σ j Q x3 x4 v w _ hz => w_D10 v w rfl rfl (hz _ (clp01 (cmp01 1 v w)))
theorem st11 : StpM 11 (cmpC 2) (fun _ _ => True ∧ True) := fun l σ j Q x3 x4 v w _ hz => w_D11 v w rfl rfl (hz _ (clp01 (cmp01 2 v w)))
theorem stCm {i : Nat} (hi : i < 3) : StpM (9 + i) (cmpC i) (fun _ _ => True ∧ True) := by
  rcases (show i = 0 ∨ i = 1 ∨ i = 2 by omega) with rfl | rfl | rfl
  · exact st9
  · exact st10
  · exact st11
theorem chn_ex {op : OPf} {A : Nat → PRs} {uA : Nat} (hop : ∀ c o, op c = some o → (5 ≤ o.1 ∧ o.1 < 16) ∧ StpM o.1 o.2 (fun v w => PV v ∧ PV w) ∧ ∀ v w, PV v → PV w → PV (o.2 v w)) (hA : ∀ p, RX g w h m t uA PV (A p)) (hu : uA + 1 ≤ u) (h3 : 3 ≤ u) : ∀ f r, RX g w h m t u PV r → RX g w h m t u PV (chn T N op A f r) := by
  intro f
  induction f with
  | zero => intro r hr; exact hr
  | succ f ih =>
    intro r hr
    obtain ⟨q, mm⟩ := r
    cases mm with
    | none => exact hr
    | some y =>
      obtain ⟨e1, v1⟩ := hr y rfl
      unfold chn
      dsimp only
      cases ho : op (sgn T N q) with
      | none => exact hr
      | some o =>
        obtain ⟨o1, o2, o3⟩ := hop _ o ho
        dsimp only
        cases hm2 : (A (bk T N (q + 1))).2 with
        | none =>
          dsimp only
          intro x e
          rw [hm2] at e
          cases e
        | some y2 =>
          obtain ⟨e2, v2⟩ := hA _ y2 hm2
          dsimp only
          refine ih _ (fun x e => ?_)
          cases e
          exact ⟨ex_bin o1 o2 ⟨v1, v2⟩ e1 e2 (Nat.le_refl _) hu h3, o3 _ _ v1 v2⟩
theorem op2_ex {c1 o1 c2 o2 : Nat} {g1 g2 : Int32 → Int32 → Int32} (h1 : (5 ≤ o1 ∧ o1 < 16) ∧ StpM o1 g1 (fun _ _ => True ∧ True)) (h2 : (5 ≤ o2 ∧ o2 < 16) ∧ StpM o2 g2 (fun _ _ => True ∧ True)) : ∀ c o, op2 c1 o1 g1 c2 o2 g2 c = some o → (5 ≤ o.1 ∧ o.1 < 16) ∧ StpM o.1 o.2 (fun v w => (fun _ => True) v ∧ (fun _ => True) w) ∧ ∀ v w, (fun _ : Int32 => True) v → (fun _ : Int32 => True) w → (fun _ : Int32 => True) (o.2 v w) := by
  intro c o hc
  unfold op2 at hc
  split at hc
  · cases hc
    exact ⟨h1.1, h1.2, fun _ _ _ _ => trivial⟩
  · split at hc
    · cases hc
      exact ⟨h2.1, h2.2, fun _ _ _ _ => trivial⟩
    · cases hc
end PEX
