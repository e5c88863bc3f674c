/-! TEXTS: what a law is worth: moves one after another -/
/-- the letters, as the class holds them -/
def EC (g w h m t : Nat) (σ : sa_St) : Prop := σ.1 17 0 = nI g ∧ σ.1 17 1 = nI w ∧ σ.1 17 2 = nI h ∧ σ.1 17 3 = nI m ∧ σ.1 17 4 = nI t
def WF (l : Nat) (σ τ : sa_St) : Prop := τ.2 = σ.2 ∧ ∀ j, j ≠ 20 + 3 * l → τ.1 j = σ.1 j
/-- these moves put this worth on the stack, and use u of it at most -/
def Exec (g w h m t u : Nat) (mv : List Nat) (v : Int32) : Prop := ∀ (l n pc s F : Nat) (σ : sa_St) (Q : Int32 → sa_St → Prop), l < 5 → SK σ.2.1 → σ.1 (18 + 3 * l) 2 = nI n → n ≤ 241 → pc + mv.length ≤ n → (∀ i, i < mv.length → σ.1 (19 + 3 * l) (pc + i) = nI (mv.getD i 0)) → EC g w h m t σ → s + u ≤ 32 → (∀ τ, WF l σ τ → (∀ i, i < s → τ.1 (20 + 3 * l) i = σ.1 (20 + 3 * l) i) → τ.1 (20 + 3 * l) s = v → wp (sa_wh2 (wB l) F (nI (s + 1)) (nI (pc + mv.length))) τ Q) → wp (sa_wh2 (wB l) (F + mv.length) (nI s) (nI pc)) σ Q
def StpM (o : Nat) (gg : Int32 → Int32 → Int32) (P : Int32 → Int32 → Prop) : Prop := ∀ (l : Nat) (σ : sa_St) (j : Int32 → Int32 → sa_M Int32) (Q : Int32 → sa_St → Prop) (x3 x4 : Int32) (v w : Int32), P v w → (∀ z, clp z = gg v w → wp (wT l j x3 (nI o) x4 z) σ Q) → wp (wD l j x3 x4 (nI o) (nI 0) v.toInt64 w.toInt64) σ Q
theorem WF.trans {l : Nat} {σ τ υ : sa_St} (h : WF l σ τ) (h2 : WF l τ υ) : WF l σ υ := ⟨h2.1.trans h.1, fun j a => (h2.2 j a).trans (h.2 j a)⟩
theorem WF.up {l k : Nat} {σ : sa_St} {v : Int32} : WF l σ (sa_upI σ (20 + 3 * l) k v) := ⟨rfl, fun j a => by rw [upI_ne a]⟩
theorem EC.fr {g w h m t l : Nat} {σ τ : sa_St} (he : EC g w h m t σ) (hf : WF l σ τ) : EC g w h m t τ := by
  unfold EC at he ⊢
  rw [hf.2 17 (by omega)]
  exact he
section EXEC
variable {g w h m t u : Nat}
theorem gd_l {A B : List Nat} {i : Nat} (hi : i < A.length) : (A ++ B).getD i 0 = A.getD i 0 := by
  rw [List.getD_eq_getElem?_getD, List.getD_eq_getElem?_getD, List.getElem?_append_left hi]
theorem gd_r {A B : List Nat} {i : Nat} : (A ++ B).getD (A.length + i) 0 = B.getD i 0 := by
  rw [List.getD_eq_getElem?_getD, List.getD_eq_getElem?_getD, List.getElem?_append_right (by omega), show A.length + i - A.length = i by omega]
theorem ex_bin {u1 u2 o : Nat} {mv1 mv2 : List Nat} {v1 v2 : Int32} {gg : Int32 → Int32 → Int32} {P : Int32 → Int32 → Prop} (ho : 5 ≤ o ∧ o < 16) (hst : StpM o gg P) (hP : P v1 v2) (h1 : Exec g w h m t u1 mv1 v1) (h2 : Exec g w h m t u2 mv2 v2) (hu1 : u1 ≤ u) (hu2 : u2 + 1 ≤ u) (hu : 3 ≤ u) : Exec g w h m t u (mv1 ++ mv2 ++ [o]) (gg v1 v2) := by
  intro l n pc s F σ Q hl hk hsz hn hpc hmv he hs hQ
  have hlen : (mv1 ++ mv2 ++ [o]).length = mv1.length + mv2.length + 1 := by
    rw [List.length_append, List.length_append, List.length_singleton]
  rw [hlen] at hpc hQ hmv ⊢
  rw [show F + (mv1.length + mv2.length + 1) = F + 1 + mv2.length + mv1.length by omega]
  refine h1 l n pc s (F + 1 + mv2.length) σ Q hl hk hsz hn (by omega) (fun i hi => ?_) he (by omega) (fun τ fr lo e1 => ?_)
  · rw [hmv i (by omega), gd_l (by rw [List.length_append]; omega), gd_l hi]
  · refine h2 l n (pc + mv1.length) (s + 1) (F + 1) τ Q hl (by rw [fr.1]; exact hk) (by rw [fr.2 _ (by omega)]; exact hsz) hn (by omega) (fun i hi => ?_) (he.fr fr) (by omega) (fun υ fr2 lo2 e2 => ?_)
    · have hx := hmv (mv1.length + i) (by omega)
      rw [gd_l (by rw [List.length_append]; omega), gd_r] at hx
      rw [fr.2 _ (by omega), Nat.add_assoc]
      exact hx
    · have fr3 := fr.trans fr2
      have hx := hmv (mv1.length + mv2.length) (by omega)
      have hx2 : (mv1 ++ mv2 ++ [o]).getD (mv1.length + mv2.length) 0 = o := by
        have := gd_r (A := mv1 ++ mv2) (B := [o]) (i := 0)
        rw [List.length_append, Nat.add_zero] at this
        exact this
      rw [hx2] at hx
      show wp (wB l (sa_wh2 (wB l) F) (nI (s + 1 + 1)) (nI (pc + mv1.length + mv2.length))) υ Q
      refine w_pre (n := n) (a := 0) (op := o) hl (by rw [fr3.1]; exact hk) (by rw [fr3.2 _ (by omega)]; exact hsz) hn (by omega) (by rw [fr3.2 _ (by omega), Nat.add_assoc, hx, Nat.mul_zero, Nat.zero_add]) (by omega) ho.2 (by omega) (by rw [if_neg (by omega), if_neg (by omega)]; omega) ?_
      rw [if_neg (show ¬ s + 1 + 1 ≤ 1 by omega), if_neg (show ¬ s + 1 + 1 = 0 by omega), show s + 1 + 1 - 2 = s by omega, show s + 1 + 1 - 1 = s + 1 by omega, lo2 s (by omega), e1, e2]
      refine hst l υ _ Q _ _ v1 v2 hP (fun z hz => ?_)
      refine w_tail (s2 := s + 1) hl (by rw [fr3.1]; exact hk) ho.2 (by omega) (by rw [if_neg (by omega), if_neg (by omega)]; rfl) (by omega) (fun _ => by omega) ?_
      rw [hz, show s + 1 - 1 = s by omega, show pc + mv1.length + mv2.length + 1 = pc + (mv1.length + mv2.length + 1) by omega]
      refine hQ _ (fr3.trans WF.up) (fun i hi => ?_) (by rw [upI_self, va_up_self])
      rw [upI_self, va_up_ne _ _ (by omega), lo2 i (by omega), lo i hi]
/-- one that asks for nothing -/
theorem ex_one {a o : Nat} {v : Int32} (ho : o < 2) (ha : a < 2 ^ 20) (hu : 1 ≤ u) (hD : ∀ (l : Nat) (σ : sa_St) (j : Int32 → Int32 → sa_M Int32) (Q : Int32 → sa_St → Prop) (x3 x4 : Int32) (y15 y16 : Int64), EC g w h m t σ → (∀ z, clp z = v → wp (wT l j x3 (nI o) x4 z) σ Q) → wp (wD l j x3 x4 (nI o) (nI a) y15 y16) σ Q) : Exec g w h m t u [16 * a + o] v := by
  intro l n pc s F σ Q hl hk hsz hn hpc hmv he hs hQ
  rw [List.length_singleton] at hpc hQ hmv ⊢
  have hx := hmv 0 (by omega)
  show wp (wB l (sa_wh2 (wB l) F) (nI s) (nI pc)) σ Q
  refine w_pre (n := n) (a := a) (op := o) hl hk hsz hn (by omega) hx ha (by omega) (by omega) (by rw [if_pos ho]; omega) ?_
  refine hD l σ _ Q _ _ _ _ he (fun z hz => ?_)
  refine w_tail (s2 := s + 1) hl hk (by omega) (by omega) (by rw [if_pos ho]) (by omega) (fun c => absurd ho c) ?_
  rw [hz, show s + 1 - 1 = s by omega]
  refine hQ _ WF.up (fun i hi => ?_) (by rw [upI_self, va_up_self])
  rw [upI_self, va_up_ne _ _ (by omega)]
/-- not -/
theorem ex_not {u1 : Nat} {mv1 : List Nat} {v1 : Int32} (h01 : v1 = 0 ∨ v1 = 1) (h1 : Exec g w h m t u1 mv1 v1) (hu1 : u1 ≤ u) (hu : 2 ≤ u) : Exec g w h m t u (mv1 ++ [2]) (notC v1) := by
  intro l n pc s F σ Q hl hk hsz hn hpc hmv he hs hQ
  have hlen : (mv1 ++ [2]).length = mv1.length + 1 := by
    rw [List.length_append, List.length_singleton]
  rw [hlen] at hpc hQ hmv ⊢
  rw [show F + (mv1.length + 1) = F + 1 + mv1.length by omega]
  refine h1 l n pc s (F + 1) σ Q hl hk hsz hn (by omega) (fun i hi => ?_) he (by omega) (fun τ fr lo e1 => ?_)
  · rw [hmv i (by omega), gd_l hi]
  · have hx := hmv mv1.length (by omega)
    have hx2 : (mv1 ++ [2]).getD mv1.length 0 = 2 := gd_r (A := mv1) (B := [2]) (i := 0)
    rw [hx2] at hx
    show wp (wB l (sa_wh2 (wB l) F) (nI (s + 1)) (nI (pc + mv1.length))) τ Q
    refine w_pre (n := n) (a := 0) (op := 2) hl (by rw [fr.1]; exact hk) (by rw [fr.2 _ (by omega)]; exact hsz) hn (by omega) (by rw [fr.2 _ (by omega)]; exact hx) (by omega) (by omega) (by omega) (by rw [if_neg (by omega), if_pos (by omega)]; omega) ?_
    refine w_D2 ?_
    have hz : clp (1 - (if s + 1 = 0 then 0 else (τ.1 (20 + 3 * l) (s + 1 - 1)).toInt64)) = notC v1 := by
      rw [if_neg (by omega), show s + 1 - 1 = s by omega, e1]
      rcases h01 with rfl | rfl
      · decide
      · decide
    refine w_tail (s2 := s + 1) hl (by rw [fr.1]; exact hk) (by omega) (by omega) (by rw [if_neg (by omega), if_pos rfl]) (by omega) (fun _ => by omega) ?_
    rw [hz, show s + 1 - 1 = s by omega, Nat.add_assoc pc]
    refine hQ _ (fr.trans WF.up) (fun i hi => ?_) (by rw [upI_self, va_up_self])
    rw [upI_self, va_up_ne _ _ (by omega), lo i hi]
end EXEC
