/-! TEXTS: sums, by the class -/
/-- a law under way: where the tape stands, the moves so far -/
def LSt (T : Nat → Nat) (N l p : Nat) (mv : List Nat) (σ : sa_St) : Prop := CTp T N σ ∧ p ≤ N ∧ σ.1 1 2 = nI p ∧ mv.length ≤ p ∧ σ.1 (18 + 3 * l) 2 = nI mv.length ∧ ∀ i, i < mv.length → σ.1 (19 + 3 * l) i = nI (mv.getD i 0)
def LFr (l : Nat) (σ τ : sa_St) : Prop := τ.2 = σ.2 ∧ (∀ j, j ≠ 1 → j ≠ 18 + 3 * l → j ≠ 19 + 3 * l → τ.1 j = σ.1 j) ∧ (∀ k, k ≠ 2 → τ.1 1 k = σ.1 1 k) ∧ ∀ k, k ≠ 2 → τ.1 (18 + 3 * l) k = σ.1 (18 + 3 * l) k
theorem LFr.rfl' {l : Nat} {σ : sa_St} : LFr l σ σ := ⟨rfl, fun _ _ _ _ => rfl, fun _ _ => rfl, fun _ _ => rfl⟩
theorem LFr.trans {l : Nat} {σ τ υ : sa_St} (h : LFr l σ τ) (h2 : LFr l τ υ) : LFr l σ υ := ⟨h2.1.trans h.1, fun j a b c => (h2.2.1 j a b c).trans (h.2.1 j a b c), fun k a => (h2.2.2.1 k a).trans (h.2.2.1 k a), fun k a => (h2.2.2.2 k a).trans (h.2.2.2 k a)⟩
theorem LFr.at {l : Nat} {σ : sa_St} {v : Int32} : LFr l σ (sa_upI σ 1 2 v) := ⟨rfl, fun j a _ _ => by rw [upI_ne a], fun k a => by rw [upI_self, va_up_ne _ _ a], fun k a => by rw [upI_ne (by omega)]⟩
theorem LFr.sz {l : Nat} {σ : sa_St} {v : Int32} : LFr l σ (sa_upI σ (18 + 3 * l) 2 v) := ⟨rfl, fun j _ b _ => by rw [upI_ne b], fun k a => by rw [upI_ne (by omega)], fun k a => by rw [upI_self, va_up_ne _ _ a]⟩
theorem LFr.mv {l i : Nat} {σ : sa_St} {v : Int32} : LFr l σ (sa_upI σ (19 + 3 * l) i v) := ⟨rfl, fun j _ _ c => by rw [upI_ne c], fun k a => by rw [upI_ne (by omega)], fun k a => by rw [upI_ne (by omega)]⟩
/-- what reading a piece leaves -/
def CPo (T : Nat → Nat) (N l : Nat) (mv : List Nat) (σ : sa_St) (res : PRs) (r : Int32) (τ : sa_St) : Prop := LFr l σ τ ∧ match res.2 with
  | none => r = 0 ∧ τ.1 1 2 = nI res.1 ∧ ∃ s : Nat, s ≤ 241 ∧ τ.1 (18 + 3 * l) 2 = nI s
  | some m => r = 1 ∧ LSt T N l res.1 (mv ++ m.1) τ
theorem sk_law0 {ρ : Nat → Nat → Nat} (h : SK ρ) {l : Nat} (hl : l < 5) : ρ (18 + 3 * l) 0 = 19 + 3 * l + 1 := by
  match l, hl with
  | 0, _ => exact sk_18_0 h
  | 1, _ => exact sk_21_0 h
  | 2, _ => exact sk_24_0 h
  | 3, _ => exact sk_27_0 h
  | 4, _ => exact sk_30_0 h
  | n + 5, hl => omega
theorem sh_law : ∀ l, l < 5 → sa_sh (18 + 3 * l) = some (.inl 2) := by
  intro l hl
  match l, hl with
  | 0, _ => rfl
  | 1, _ => rfl
  | 2, _ => rfl
  | 3, _ => rfl
  | 4, _ => rfl
  | n + 5, hl => omega
theorem al_law : ∀ l, l < 5 → sa_al .int (19 + 3 * l) = 241 := by
  intro l hl
  match l, hl with
  | 0, _ => rfl
  | 1, _ => rfl
  | 2, _ => rfl
  | 3, _ => rfl
  | 4, _ => rfl
  | n + 5, hl => omega
theorem mv_enc {a o : Nat} (ha : a < 2 ^ 20) (ho : o < 16) : (nI a <<< ((4 : Int32) &&& 31)) ||| nI o = nI (16 * a + o) := by
  have h1 : nI a <<< ((4 : Int32) &&& 31) = nI (a * 2 ^ 4) := pk_shlN _ 4 (by decide) (by omega)
  rw [h1, nI_or (by omega) (by omega)]
  congr 1
  have h2 := Nat.two_pow_add_eq_or_of_lt (i := 4) (b := o) (by omega) a
  rw [show a * 2 ^ 4 = 2 ^ 4 * a by omega, ← h2]
section MOVES
variable {T : Nat → Nat} {N l p : Nat} {mv : List Nat} {σ : sa_St}
theorem wp_lenI {id n : Nat} {Q : Int32 → sa_St → Prop} (h : sa_al .int id = n) (hn : 0 < n) : wp (sa_len .int id) σ Q ↔ Q (nI n) σ := wp_of_eq (by
  subst h
  unfold sa_len
  simp only [Nat.ne_of_gt hn, if_false, if_true])
theorem c_addM {a o : Nat} (hl : l < 5) (hk : SK σ.2.1) (ha : a < 2 ^ 20) (ho : o < 16) {s : Nat} (hs : σ.1 (18 + 3 * l) 2 = nI s) (h240 : s ≤ 240) : f_X2_add (18 + 3 * l) (nI o) (nI a) σ = some ((), sa_upI (sa_upI σ (19 + 3 * l) s (nI (16 * a + o))) (18 + 3 * l) 2 (nI (s + 1))) := by
  refine run_to ?_
  unfold f_X2_add
  rw [wp_gd]
  refine ⟨sh_law l hl, ?_⟩
  rw [wp_bnd, wp_rdI, hs]
  refine ⟨sh_law l hl, ?_⟩
  rw [wp_bnd, wp_rdR (v := 19 + 3 * l) (sh_law l hl) (sk_law0 hk hl), wp_bnd, wp_lenI (al_law l hl) (by omega), wp_jn0, wp_if, nI_leI (by omega) (by omega)]
  refine ⟨fun q => by omega, fun _ => ?_⟩
  rw [wp_bnd, wp_rdR (v := 19 + 3 * l) (sh_law l hl) (sk_law0 hk hl), wp_bnd, wp_rdI, hs]
  refine ⟨sh_law l hl, ?_⟩
  rw [mv_enc ha ho, wp_bnd, wp_stI (n := s) (len := 241) (al_law l hl) rfl (by omega) (by omega), wp_bnd, wp_rdI, upI_ne (by omega), hs]
  refine ⟨sh_law l hl, ?_⟩
  rw [wp_bnd, wp_wrI, nI_1]
  refine ⟨sh_law l hl, ?_⟩
  rw [wp_ret]
  exact ⟨rfl, rfl⟩
/-- also where it is full -/
theorem c_addF {a o : Nat} {s : Nat} {Q : Unit → sa_St → Prop} (hl : l < 5) (hk : SK σ.2.1) (ha : a < 2 ^ 20) (ho : o < 16) (hs : σ.1 (18 + 3 * l) 2 = nI s) (h241 : s ≤ 241) (hQ : ∀ τ, LFr l σ τ → τ.1 1 2 = σ.1 1 2 → (∃ s2, s2 ≤ 241 ∧ τ.1 (18 + 3 * l) 2 = nI s2) → Q () τ) : wp (f_X2_add (18 + 3 * l) (nI o) (nI a)) σ Q := by
  by_cases h : s ≤ 240
  · rw [wp_of_eq (c_addM hl hk ha ho hs h)]
    exact hQ _ (LFr.mv.trans LFr.sz) (by rw [upI_ne (by omega), upI_ne (by omega)]) ⟨s + 1, by omega, by rw [upI_self, va_up_self]⟩
  · have hs' : s = 241 := by omega
    unfold f_X2_add
    rw [wp_gd]
    refine ⟨sh_law l hl, ?_⟩
    rw [wp_bnd, wp_rdI, hs]
    refine ⟨sh_law l hl, ?_⟩
    rw [wp_bnd, wp_rdR (v := 19 + 3 * l) (sh_law l hl) (sk_law0 hk hl), wp_bnd, wp_lenI (al_law l hl) (by omega), wp_jn0, wp_if, nI_leI (by omega) (by omega)]
    refine ⟨fun _ => ?_, fun q => by omega⟩
    rw [wp_ret]
    exact hQ σ LFr.rfl' rfl ⟨s, h241, hs⟩
theorem LSt.add {x : Nat} (h : LSt T N l p mv σ) (hlen : mv.length + 1 ≤ p) : LSt T N l p (mv ++ [x]) (sa_upI (sa_upI σ (19 + 3 * l) mv.length (nI x)) (18 + 3 * l) 2 (nI (mv.length + 1))) := by
  obtain ⟨⟨a, b, c, d, e⟩, hp, h2, hm, hs, hv⟩ := h
  refine ⟨⟨a, b, c, ?_, fun i hi => ?_⟩, hp, ?_, ?_, ?_, fun i hi => ?_⟩
  · rw [upI_ne (by omega), upI_ne (by omega)]; exact d
  · rw [upI_ne (by omega), upI_ne (by omega)]; exact e i hi
  · rw [upI_ne (by omega), upI_ne (by omega)]; exact h2
  · rw [List.length_append, List.length_singleton]; exact hlen
  · rw [upI_self, va_up_self, List.length_append, List.length_singleton]
  · rw [List.length_append, List.length_singleton] at hi
    rw [upI_ne (by omega), upI_self]
    by_cases e1 : i = mv.length
    · subst e1
      rw [va_up_self, List.getD_eq_getElem?_getD, List.getElem?_append_right (Nat.le_refl _), Nat.sub_self]
      rfl
    · rw [va_up_ne _ _ e1, hv i (by omega), List.getD_eq_getElem?_getD, List.getD_eq_getElem?_getD, List.getElem?_append_left (by omega)]
theorem LSt.to {q : Nat} (h : LSt T N l p mv σ) (h1 : p ≤ q) (h2 : q ≤ N) : LSt T N l q mv (sa_upI σ 1 2 (nI q)) := by
  obtain ⟨a, hp, h3, hm, hs, hv⟩ := h
  exact ⟨a.at, h2, by rw [upI_self, va_up_self], by omega, by rw [upI_ne (by omega)]; exact hs, fun i hi => by rw [upI_ne (by omega)]; exact hv i hi⟩
theorem c_chain {A : sa_M Int32} {AP : Nat → PRs} {c1 o1 c2 o2 : Nat} {g1 g2 : Int32 → Int32 → Int32} {q0 : Nat} {m0 : List Nat × LWt} (hl : l < 5) (b1 : 0 < c1 ∧ c1 < 256 ∧ 0 < c2 ∧ c2 < 256 ∧ c1 ≠ c2 ∧ o1 < 16 ∧ o2 < 16) (hA : ∀ (q : Nat) (mv : List Nat) (σ : sa_St), LSt T N l q mv σ → wp A σ (CPo T N l mv σ (AP q))) (hadv : PAdv N AP) (h0 : LSt T N l q0 (mv ++ m0.1) σ) (hq0 : 0 < q0) :
    wp (sa_wh1 (fun j13 (x3 : Int32) =>
if 240 ≤ x3 then
sa_retZ 1
else
sa_bnd (f_X7_sign 1) fun v4 =>
sa_jn1 (fun (y5 : Int32) =>
sa_jn0 (sa_bnd (f_X7_pass 1) fun _ =>
sa_bnd A fun v6 =>
if ¬ v6 = 0 then
sa_jn1 (fun (y7 : Int32) =>
sa_bnd (f_X2_add (18 + 3 * l) y7 0) fun _ =>
sa_let ((x3 + 1) : Int32) fun x8 =>
j13 x8) fun j79 =>
if y5 = 0 then
j79 (nI o2)
else
j79 (nI o1)
else
sa_retZ 0) fun j52 =>
if ¬ y5 = 0 then
j52
else
sa_bnd (f_X7_sign 1) fun v9 =>
if v9 = nI c2 then
j52
else
sa_retZ 1) fun j34 =>
if ¬ v4 = nI c1 then
j34 0
else
j34 1) sa_F 0) σ (CPo T N l mv σ (chn T N (op2 c1 o1 g1 c2 o2 g2) AP (N + 1) (q0, some m0))) := by
  have h240 := h0.1.2.1
  have hqN := h0.2.1
  refine wp_wh1 (fun f x τ => ∃ (i q : Nat) (m : List Nat × LWt), x = nI i ∧ i + 1 ≤ q ∧ N - q < f ∧ LFr l σ τ ∧ LSt T N l q (mv ++ m.1) τ ∧ chn T N (op2 c1 o1 g1 c2 o2 g2) AP f (q, some m) = chn T N (op2 c1 o1 g1 c2 o2 g2) AP (N + 1) (q0, some m0)) ?_ sa_F (N + 1) 0 σ (by unfold sa_F; omega) ⟨0, q0, m0, rfl, by omega, by omega, LFr.rfl', h0, rfl⟩
  rintro f x τ ⟨i, q, m, rfl, hi, hf, fr, hs, hc⟩ j hj
  obtain ⟨f, rfl⟩ : ∃ f', f = f' + 1 := ⟨f - 1, by omega⟩
  rw [← hc]
  have hsq := hs
  obtain ⟨ct, hq, h2, hm, hz, hv⟩ := hs
  have hlt := sgn_lt (p := q) ct
  have hsg := c_sign ct hq h2
  have e240 : ¬ (240 : Int32) ≤ nI i := fun h => by
    have : 240 ≤ i := (nI_leI (a := 240) (b := i) (by omega) (by omega)).mp h
    omega
  have hch : chn T N (op2 c1 o1 g1 c2 o2 g2) AP (f + 1) (q, some m) = match op2 c1 o1 g1 c2 o2 g2 (sgn T N q) with
      | none => (q, some m)
      | some o => match (AP (bk T N (q + 1))).2 with
        | none => AP (bk T N (q + 1))
        | some m2 => chn T N (op2 c1 o1 g1 c2 o2 g2) AP f ((AP (bk T N (q + 1))).1, some (m.1 ++ m2.1 ++ [o.1], fun a b c d e => o.2 (m.2 a b c d e) (m2.2 a b c d e))) := rfl
  -- going on with one more
  have go : ∀ (o : Nat) (g : Int32 → Int32 → Int32) (y : Int32), sgn T N q ≠ 0 → o < 16 → op2 c1 o1 g1 c2 o2 g2 (sgn T N q) = some (o, g) → (if y = 0 then nI o2 else nI o1) = nI o → wp (sa_bnd (f_X7_pass 1) fun _ =>
sa_bnd A fun v6 =>
if ¬ v6 = 0 then
sa_jn1 (fun (y7 : Int32) =>
sa_bnd (f_X2_add (18 + 3 * l) y7 0) fun _ =>
sa_let ((nI i + 1) : Int32) fun x8 =>
j x8) fun j79 =>
if y = 0 then
j79 (nI o2)
else
j79 (nI o1)
else
sa_retZ 0) τ (CPo T N l mv σ (chn T N (op2 c1 o1 g1 c2 o2 g2) AP (f + 1) (q, some m))) := by
    intro o g y hne ho hop hy
    have hqN : q < N := by
      by_cases h : q < N
      · exact h
      · unfold sgn at hne
        rw [if_neg h] at hne
        exact absurd rfl hne
    have hge := bk_ge (T := T) (N := N) (p := q + 1)
    have hle := bk_le (T := T) (N := N) (p := q + 1) (by omega)
    have ls1 := hsq.to (show q ≤ bk T N (q + 1) by omega) hle
    obtain ⟨x1, x2, x3⟩ := hadv _ hle
    rw [hch, hop, wp_bnd, wp_of_eq (c_pass ct hqN h2), wp_bnd]
    refine wp_mono (hA _ _ _ ls1) (fun r τ2 hr => ?_)
    obtain ⟨fr2, hr⟩ := hr
    have fr3 : LFr l σ τ2 := (fr.trans LFr.at).trans fr2
    dsimp only
    cases hm2 : (AP (bk T N (q + 1))).2 with
    | none =>
      rw [hm2] at hr
      obtain ⟨rfl, h2', hs'⟩ := hr
      rw [wp_if]
      refine ⟨fun q => absurd rfl q, fun _ => ?_⟩
      rw [wp_retZ]
      refine ⟨Or.inl rfl, fr3, ?_⟩
      dsimp only
      rw [hm2]
      exact ⟨rfl, h2', hs'⟩
    | some m2 =>
      rw [hm2] at hr
      obtain ⟨rfl, ls2⟩ := hr
      have x3' := x3 m2 hm2
      have hlen : (mv ++ m.1 ++ m2.1).length + 1 ≤ (AP (bk T N (q + 1))).1 := by
        rw [List.length_append]
        omega
      have hk2 := ls2.1.1
      have hadd := c_addM (a := 0) (o := o) hl hk2 (by omega) ho ls2.2.2.2.2.1 (by omega)
      have ls3 := ls2.add (x := 16 * 0 + o) hlen
      rw [wp_if]
      refine ⟨fun _ => ?_, fun q => absurd (show ¬ (1 : Int32) = 0 by decide) q⟩
      have fin : wp (sa_bnd (f_X2_add (18 + 3 * l) (nI o) (nI 0)) fun _ => sa_let ((nI i + 1) : Int32) fun x8 => j x8) τ2 (CPo T N l mv σ (chn T N (op2 c1 o1 g1 c2 o2 g2) AP f ((AP (bk T N (q + 1))).1, some (m.1 ++ m2.1 ++ [o], fun a b c d e => g (m.2 a b c d e) (m2.2 a b c d e))))) := by
        have e9 : chn T N (op2 c1 o1 g1 c2 o2 g2) AP f ((AP (bk T N (q + 1))).1, some (m.1 ++ m2.1 ++ [o], fun a b c d e => g (m.2 a b c d e) (m2.2 a b c d e))) = chn T N (op2 c1 o1 g1 c2 o2 g2) AP (N + 1) (q0, some m0) := by
          rw [← hc, hch, hop]
          dsimp only
          rw [hm2]
        rw [e9, wp_bnd, wp_of_eq hadd, wp_let, nI_1]
        refine hj f _ _ (by omega) ⟨i + 1, (AP (bk T N (q + 1))).1, (m.1 ++ m2.1 ++ [o], fun a b c d e => g (m.2 a b c d e) (m2.2 a b c d e)), rfl, by omega, by omega, fr3.trans (LFr.mv.trans LFr.sz), ?_, e9⟩
        have ea : mv ++ (m.1 ++ m2.1 ++ [o]) = mv ++ m.1 ++ m2.1 ++ [16 * 0 + o] := by
          rw [show 16 * 0 + o = o by omega, List.append_assoc, List.append_assoc, List.append_assoc]
        dsimp only
        rw [ea]
        exact ls3
      rw [wp_jn1, wp_if]
      refine ⟨fun q => ?_, fun q => ?_⟩
      · rw [if_pos q] at hy
        rw [hy]
        exact fin
      · rw [if_neg q] at hy
        rw [hy]
        exact fin
  have stop : op2 c1 o1 g1 c2 o2 g2 (sgn T N q) = none → wp (sa_retZ 1) τ (CPo T N l mv σ (chn T N (op2 c1 o1 g1 c2 o2 g2) AP (f + 1) (q, some m))) := by
    intro hop
    rw [hch, hop, wp_retZ]
    exact ⟨Or.inr rfl, fr, rfl, hsq⟩
  rw [wp_if]
  refine ⟨fun q => absurd q e240, fun _ => ?_⟩
  rw [wp_bnd, wp_of_eq hsg, wp_jn1, wp_if, nI_eq (by omega) (by omega)]
  refine ⟨fun n1 => ?_, fun n1 => ?_⟩
  · rw [wp_jn0, wp_if]
    refine ⟨fun q => absurd rfl q, fun _ => ?_⟩
    rw [wp_bnd, wp_of_eq hsg, wp_if, nI_eq (by omega) (by omega)]
    refine ⟨fun n2 => ?_, fun n2 => ?_⟩
    · exact go o2 g2 0 (by omega) b1.2.2.2.2.2.2 (by unfold op2; rw [if_neg n1, if_pos n2]) (if_pos rfl)
    · exact stop (by unfold op2; rw [if_neg n1, if_neg n2])
  · have n1' := Decidable.not_not.mp n1
    rw [wp_jn0, wp_if]
    refine ⟨fun _ => ?_, fun q => absurd (show ¬ (1 : Int32) = 0 by decide) q⟩
    exact go o1 g1 1 (by omega) b1.2.2.2.2.2.1 (by unfold op2; rw [if_pos n1']) (if_neg (by decide))
end MOVES
