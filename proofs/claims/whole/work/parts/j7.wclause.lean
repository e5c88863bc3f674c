/-! TEXTS: what a law is worth: a clause -/
section WCL
variable {g w h m t : Nat}
/-- the last move of a sum that answers -/
theorem w_answer {l n pc F : Nat} {mv : List Nat} {v : Int32} {σ : sa_St} {Q : Int32 → sa_St → Prop} (hx : Exec g w h m t 32 mv v) (hl : l < 5) (hk : SK σ.2.1) (hsz : σ.1 (18 + 3 * l) 2 = nI n) (hn : n ≤ 241) (hpc : pc + mv.length + 1 ≤ n) (hmv : ∀ i, i < mv.length → σ.1 (19 + 3 * l) (pc + i) = nI (mv.getD i 0)) (h4 : σ.1 (19 + 3 * l) (pc + mv.length) = nI 4) (he : EC g w h m t σ) (hQ : ∀ τ, WF l σ τ → Q v τ) : wp (sa_wh2 (wB l) (F + 1 + mv.length) (nI 0) (nI pc)) σ Q := by
  refine hx l n pc 0 (F + 1) σ Q hl hk hsz hn (by omega) hmv he (by omega) (fun τ fr _ e1 => ?_)
  show wp (wB l (sa_wh2 (wB l) F) (nI (0 + 1)) (nI (pc + mv.length))) τ Q
  refine w_pre (n := n) (a := 0) (op := 4) hl (by rw [fr.1]; exact hk) (by rw [fr.2 _ (by omega)]; exact hsz) hn (by omega) (by rw [fr.2 _ (by omega)]; exact h4) (by omega) (by omega) (by omega) (by rw [if_neg (by omega), if_pos (by omega)]; omega) ?_
  refine w_D4 ?_
  rw [if_neg (show ¬ 0 + 1 = 0 by omega), show 0 + 1 - 1 = 0 by omega, e1, Int32.toInt32_toInt64]
  exact hQ τ fr
theorem w_clause {l n pc F : Nat} {c : CLs} {σ : sa_St} {Q : Int32 → sa_St → Prop} (hc : ∀ mc, c.1 = some mc → Exec g w h m t 32 mc.1 (mc.2 g w h m t)) (hs : Exec g w h m t 32 c.2.1 (c.2.2 g w h m t)) (hl : l < 5) (hk : SK σ.2.1) (hsz : σ.1 (18 + 3 * l) 2 = nI n) (hn : n ≤ 241) (hpc : pc + (clM pc c).length ≤ n) (hmv : ∀ i, i < (clM pc c).length → σ.1 (19 + 3 * l) (pc + i) = nI ((clM pc c).getD i 0)) (he : EC g w h m t σ) (hyes : ∀ v, clV g w h m t none c = some v → ∀ τ, WF l σ τ → Q v τ) (hno : clV g w h m t none c = none → ∀ F' τ, F ≤ F' → WF l σ τ → wp (sa_wh2 (wB l) F' (nI 0) (nI (pc + (clM pc c).length))) τ Q) : wp (sa_wh2 (wB l) (F + (clM pc c).length) (nI 0) (nI pc)) σ Q := by
  obtain ⟨oc, ms⟩ := c
  cases oc with
  | none =>
    have hM : clM pc (none, ms) = ms.1 ++ [4] := rfl
    have hlen : (ms.1 ++ [4]).length = ms.1.length + 1 := by rw [List.length_append, List.length_singleton]
    rw [hM, hlen] at hpc hmv ⊢
    rw [show F + (ms.1.length + 1) = F + 1 + ms.1.length by omega]
    refine w_answer hs hl hk hsz hn (by omega) (fun i hi => ?_) ?_ he (hyes _ rfl)
    · rw [hmv i (by omega), gd_l hi]
    · have := hmv ms.1.length (by omega)
      have e4 : (ms.1 ++ [4]).getD ms.1.length 0 = 4 := gd_r (A := ms.1) (B := [4]) (i := 0)
      rw [e4] at this
      exact this
  | some mc =>
    have hM : clM pc (some mc, ms) = mc.1 ++ [16 * (pc + mc.1.length + ms.1.length + 2) + 3] ++ ms.1 ++ [4] := rfl
    have hlen : (clM pc (some mc, ms)).length = mc.1.length + ms.1.length + 2 := by
      rw [hM, List.length_append, List.length_append, List.length_append, List.length_singleton, List.length_singleton]
      omega
    have hV : clV g w h m t none (some mc, ms) = if mc.2 g w h m t = 0 then none else some (ms.2 g w h m t) := rfl
    rw [hlen] at hpc hmv hno ⊢
    rw [hM] at hmv
    rw [show F + (mc.1.length + ms.1.length + 2) = F + 1 + ms.1.length + 1 + mc.1.length by omega]
    refine hc mc rfl l n pc 0 (F + 1 + ms.1.length + 1) σ Q hl hk hsz hn (by omega) (fun i hi => ?_) he (by omega) (fun τ fr _ e1 => ?_)
    · rw [hmv i (by omega), List.append_assoc, List.append_assoc, gd_l hi]
    · have hx := hmv mc.1.length (by omega)
      have hx2 : (mc.1 ++ [16 * (pc + mc.1.length + ms.1.length + 2) + 3] ++ ms.1 ++ [4]).getD mc.1.length 0 = 16 * (pc + mc.1.length + ms.1.length + 2) + 3 := by
        rw [List.append_assoc, List.append_assoc]
        exact gd_r (A := mc.1) (i := 0)
      rw [hx2] at hx
      show wp (wB l (sa_wh2 (wB l) (F + 1 + ms.1.length)) (nI (0 + 1)) (nI (pc + mc.1.length))) τ Q
      refine w_pre (n := n) (a := pc + mc.1.length + ms.1.length + 2) (op := 3) hl (by rw [fr.1]; exact hk) (by rw [fr.2 _ (by omega)]; exact hsz) hn (by omega) (by rw [fr.2 _ (by omega)]; exact hx) (by omega) (by omega) (by omega) (by rw [if_neg (by omega), if_pos (by omega)]; omega) ?_
      refine w_D3 (by omega) (by omega) (mc.2 g w h m t) (by rw [if_neg (show ¬ 0 + 1 = 0 by omega), show 0 + 1 - 1 = 0 by omega, e1]) ?_
      refine w_tail3 ?_
      by_cases h0 : mc.2 g w h m t = 0
      · rw [if_pos h0] at hV ⊢
        rw [show pc + mc.1.length + ms.1.length + 2 - 1 + 1 = pc + (mc.1.length + ms.1.length + 2) by omega]
        exact hno hV _ τ (by omega) fr
      · rw [if_neg h0] at hV ⊢
        refine w_answer (pc := pc + mc.1.length + 1) (F := F) hs hl (by rw [fr.1]; exact hk) (by rw [fr.2 _ (by omega)]; exact hsz) hn (by omega) (fun i hi => ?_) ?_ (he.fr fr) (fun υ fr2 => hyes _ hV υ (fr.trans fr2))
        · have hy := hmv (mc.1.length + 1 + i) (by omega)
          have hl1 : (mc.1 ++ [16 * (pc + mc.1.length + ms.1.length + 2) + 3]).length = mc.1.length + 1 := by rw [List.length_append, List.length_singleton]
          have hy2 := gd_r (A := mc.1 ++ [16 * (pc + mc.1.length + ms.1.length + 2) + 3]) (B := ms.1 ++ [4]) (i := i)
          rw [hl1, ← List.append_assoc] at hy2
          rw [hy2, gd_l hi] at hy
          rw [fr.2 _ (by omega), Nat.add_assoc, Nat.add_assoc, ← Nat.add_assoc mc.1.length]
          exact hy
        · have hy := hmv (mc.1.length + 1 + ms.1.length) (by omega)
          have hl1 : (mc.1 ++ [16 * (pc + mc.1.length + ms.1.length + 2) + 3] ++ ms.1).length = mc.1.length + 1 + ms.1.length := by rw [List.length_append, List.length_append, List.length_singleton]
          have hy2 : (mc.1 ++ [16 * (pc + mc.1.length + ms.1.length + 2) + 3] ++ ms.1 ++ [4]).getD (mc.1.length + 1 + ms.1.length) 0 = 4 := by
            rw [← hl1]
            exact gd_r (i := 0)
          rw [hy2] at hy
          rw [fr.2 _ (by omega), Nat.add_assoc, Nat.add_assoc, ← Nat.add_assoc mc.1.length]
          exact hy
end WCL
