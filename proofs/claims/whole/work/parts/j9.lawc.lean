/-! TEXTS: a law as the class holds it -/
section LAWC
variable {g w h m t : Nat}
theorem cl_on (cs : List CLs) (v : Int32) : cs.foldl (clV g w h m t) (some v) = some v := by
  induction cs with
  | nil => rfl
  | cons c cs ih => exact ih
theorem lwM_app (done rest : List CLs) : ∃ R, lwM (done ++ rest) = lwM done ++ R := by
  induction rest generalizing done with
  | nil => exact ⟨[], by rw [List.append_nil, List.append_nil]⟩
  | cons c rest ih =>
    obtain ⟨R, hR⟩ := ih (done ++ [c])
    refine ⟨clM (lwM done).length c ++ R, ?_⟩
    rw [show done ++ c :: rest = done ++ [c] ++ rest by rw [List.append_assoc]; rfl, hR, lwM_add, List.append_assoc]
theorem w_law {l : Nat} {cs : List CLs} (hl : l < 5) (hlen : (lwM cs).length ≤ 241) (hcx : ∀ c, c ∈ cs → CX g w h m t c) : ∀ (rest done : List CLs) (F : Nat) (σ : sa_St) (Q : Int32 → sa_St → Prop), cs = done ++ rest → SK σ.2.1 → σ.1 (18 + 3 * l) 2 = nI (lwM cs).length → (∀ i, i < (lwM cs).length → σ.1 (19 + 3 * l) i = nI ((lwM cs).getD i 0)) → EC g w h m t σ → (lwM cs).length - (lwM done).length < F → (∀ τ, WF l σ τ → Q ((rest.foldl (clV g w h m t) none).getD 0) τ) → wp (sa_wh2 (wB l) F (nI 0) (nI (lwM done).length)) σ Q := by
  intro rest
  induction rest with
  | nil =>
    intro done F σ Q hcs hk hsz hmv he hF hQ
    rw [List.append_nil] at hcs
    subst hcs
    obtain ⟨F, rfl⟩ : ∃ F', F = F' + 1 := ⟨F - 1, by omega⟩
    show wp (wB l (sa_wh2 (wB l) F) (nI 0) (nI (lwM cs).length)) σ Q
    unfold wB
    rw [wp_bnd, wp_rdI, hsz]
    refine ⟨sh_law l hl, ?_⟩
    rw [wp_if]
    refine ⟨fun _ => ?_, fun q => absurd (nI_le (Nat.le_refl _) (by omega)) q⟩
    rw [wp_ret]
    exact hQ σ ⟨rfl, fun _ _ => rfl⟩
  | cons c rest ih =>
    intro done F σ Q hcs hk hsz hmv he hF hQ
    have hcs2 : cs = (done ++ [c]) ++ rest := by rw [hcs, List.append_assoc]; rfl
    obtain ⟨R, hR⟩ := lwM_app (done ++ [c]) rest
    rw [← hcs2, lwM_add] at hR
    have hL : (lwM cs).length = (lwM done).length + (clM (lwM done).length c).length + R.length := by
      rw [hR, List.length_append, List.length_append]
    have hc := hcx c (by rw [hcs]; exact List.mem_append_right _ (List.mem_cons_self ..))
    have hd2 : (lwM (done ++ [c])).length = (lwM done).length + (clM (lwM done).length c).length := by rw [lwM_add, List.length_append]
    rw [show F = (F - (clM (lwM done).length c).length) + (clM (lwM done).length c).length by omega]
    refine w_clause hc.1 hc.2 hl hk hsz hlen (by omega) (fun i hi => ?_) he (fun v hv τ fr => ?_) (fun hv F' τ hF' fr => ?_)
    · rw [hmv _ (by omega), hR, List.append_assoc, gd_r, gd_l hi]
    · have := hQ τ fr
      rw [List.foldl_cons, hv, cl_on] at this
      exact this
    · rw [← hd2]
      refine ih (done ++ [c]) F' τ Q hcs2 (by rw [fr.1]; exact hk) (by rw [fr.2 _ (by omega)]; exact hsz) (fun i hi => by rw [fr.2 _ (by omega)]; exact hmv i hi) (he.fr fr) (by omega) (fun υ fr2 => ?_)
      have := hQ υ (fr.trans fr2)
      rw [List.foldl_cons, hv] at this
      exact this
end LAWC
theorem law_C {T : Nat → Nat} {N : Nat} {cs : List CLs} {mv : Nat → Int32} (hc : (lwP T N).2 = some cs) (hlen : (lwM cs).length ≤ 241) (hmv : ∀ i, i < (lwM cs).length → mv i = nI ((lwM cs).getD i 0)) : LawC mv (nI (lwM cs).length) (lwV cs) := by
  intro l σ hl hk e1 e2 g w h m t b1 b2 b3 b4 b5 v1 v2 v3 v4 v5
  have hcx := lw_cx (T := T) (N := N) ⟨b1, b2, b3, b4, b5⟩ (N + 1) (bk T N 0) [] cs (fun c hc => by cases hc) hc
  rw [w_worth, wp_gd]
  refine ⟨sh_law l hl, ?_⟩
  rw [wp_let, wp_let]
  refine w_law hl hlen hcx cs [] sa_F σ _ rfl hk e2 (fun i hi => by rw [e1]; exact hmv i hi) ⟨v1, v2, v3, v4, v5⟩ (by unfold sa_F; omega) (fun τ fr => ⟨rfl, by rw [fr.1], fun j hj => ⟨fr.2 j (fun e => hj (by rw [e]; exact List.mem_cons_self ..)), by rw [fr.1]⟩⟩)
