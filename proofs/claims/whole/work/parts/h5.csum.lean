/-! TEXTS: sums, by the class, in their depth -/
theorem chn_none {T : Nat → Nat} {N : Nat} {op : OPf} {A : Nat → PRs} {r : PRs} (h : r.2 = none) : ∀ f, chn T N op A f r = r := by
  intro f
  cases f with
  | zero => rfl
  | succ f =>
    unfold chn
    rw [h]
section CSUM
variable {T : Nat → Nat} {N l p d : Nat} {mv : List Nat} {σ : sa_St}
theorem CPo.fr {τ υ : sa_St} {res : PRs} {r : Int32} (h : CPo T N l mv τ res r υ) (hf : LFr l σ τ) : CPo T N l mv σ res r υ := ⟨hf.trans h.1, h.2⟩
theorem CPo.no {τ : sa_St} {q s : Nat} (hf : LFr l σ τ) (h2 : τ.1 1 2 = nI q) (hs : s ≤ 241) (h : τ.1 (18 + 3 * l) 2 = nI s) : CPo T N l mv σ (q, none) 0 τ := ⟨hf, rfl, h2, s, hs, h⟩
theorem LSt.no {q : Nat} (h : LSt T N l q mv σ) {mv2 : List Nat} : CPo T N l mv2 σ (q, none) 0 σ := by
  have := h.1.2.1
  have := h.2.1
  have := h.2.2.2.1
  exact CPo.no LFr.rfl' h.2.2.1 (by omega) h.2.2.2.2.1
theorem c_chainP {A : sa_M Int32} {AP : Nat → PRs} {c1 o1 c2 o2 : Nat} {g1 g2 : Int32 → Int32 → Int32} (hl : l < 5) (b1 : 0 < c1 ∧ c1 < 256 ∧ 0 < c2 ∧ c2 < 256 ∧ c1 ≠ c2 ∧ o1 < 16 ∧ o2 < 16) (hA : ∀ (q : Nat) (mv : List Nat) (σ : sa_St), LSt T N l q mv σ → wp A σ (CPo T N l mv σ (AP q))) (hadv : PAdv N AP) (h : LSt T N l p mv σ) :
    wp (sa_bnd A fun v1 =>
if ¬ v1 = 0 then
sa_let (0 : Int32) fun x2 =>
sa_wh1 (fun j13 (x3 : Int32) =>
if 240 ≤ x3 then
sa_retZ 1
else
sa_bnd (f_X7_sign 1) fun v4 =>
sa_jn1 (fun (y5 : Int32) =>
sa_jn0 (sa_bnd (f_X7_pass 1) fun _ =>
sa_bnd A fun v6 =>
if ¬ v6 = 0 then
sa_jn1 (fun (y7 : Int32) =>
sa_bnd (f_X2_add (18 + 3 * l) y7 0) fun _ =>
sa_let ((x3 + 1) : Int32) fun x8 =>
j13 x8) fun j79 =>
if y5 = 0 then
j79 (nI o2)
else
j79 (nI o1)
else
sa_retZ 0) fun j52 =>
if ¬ y5 = 0 then
j52
else
sa_bnd (f_X7_sign 1) fun v9 =>
if v9 = nI c2 then
j52
else
sa_retZ 1) fun j34 =>
if ¬ v4 = nI c1 then
j34 0
else
j34 1) sa_F x2
else
sa_retZ 0) σ (CPo T N l mv σ (chn T N (op2 c1 o1 g1 c2 o2 g2) AP (N + 1) (AP p))) := by
  obtain ⟨x1, x2, x3⟩ := hadv p h.2.1
  rw [wp_bnd]
  refine wp_mono (hA p mv σ h) (fun r τ hr => ?_)
  obtain ⟨fr, hr⟩ := hr
  generalize AP p = r0 at *
  obtain ⟨q, m⟩ := r0
  cases m with
  | none =>
    obtain ⟨rfl, h2, s, hs, hz⟩ := hr
    rw [chn_none rfl, wp_if]
    refine ⟨fun q => absurd rfl q, fun _ => ?_⟩
    rw [wp_retZ]
    exact ⟨Or.inl rfl, CPo.no fr h2 hs hz⟩
  | some m =>
    obtain ⟨rfl, ls⟩ := hr
    have := (x3 m rfl).1
    rw [wp_if]
    refine ⟨fun _ => ?_, fun q => absurd (show ¬ (1 : Int32) = 0 by decide) q⟩
    rw [wp_let]
    exact wp_mono (c_chain hl b1 hA hadv ls (by dsimp only at this; omega)) (fun r υ hr => hr.fr fr)
theorem c_atom {gS gT gA : Nat → Nat → Int32 → sa_M Int32} {S : Option (Nat → PRs)} (hl : l < 5) (hd : d ≤ 6) (hn : S = none → d = 6) (hS : ∀ SP, S = some SP → d < 6 ∧ ∀ (q : Nat) (mv : List Nat) (σ : sa_St), LSt T N l q mv σ → wp (gS (18 + 3 * l) 1 (nI (d + 1))) σ (CPo T N l mv σ (SP q))) (h : LSt T N l p mv σ) : wp (fb_X2_readAtom gS gT gA (18 + 3 * l) 1 (nI d)) σ (CPo T N l mv σ (atm T N S p)) := by
  have h0 := h
  obtain ⟨ct, hp, h2, hm, hz, hv⟩ := h
  have h240 := ct.2.1
  have hk := ct.1
  have hlt := sgn_lt (p := p) ct
  have hsg := c_sign ct hp h2
  have e91 : (nI (sgn T N p) = 91) ↔ sgn T N p = 91 := nI_eq (a := sgn T N p) (b := 91) (by omega) (by omega)
  have hge := bk_ge (T := T) (N := N) (p := p + 1)
  unfold fb_X2_readAtom atm
  rw [wp_gd]
  refine ⟨sh_law l hl, ?_⟩
  rw [wp_bnd, wp_of_eq hsg, wp_if, e91]
  refine ⟨fun hne => ?_, fun heq => ?_⟩
  · rw [if_neg hne, wp_bnd, wp_of_eq hsg, wp_bnd, wp_of_eq (e_ix (j := 0) (by omega) hlt)]
    cases hi : ixS 0 (sgn T N p) with
    | none =>
      rw [wp_if]
      refine ⟨fun _ => ?_, fun q => absurd (show mI < 0 by decide) q⟩
      obtain ⟨n1, n2, n3⟩ := num_adv (T := T) (lo := 0) (hi := 1000000) hp (show 4 ≤ 4 by omega)
      have hnum := c_number (a := 4) (lo := 0) (hi := 1000000) ct hp h2 (by omega) (by omega) (by omega)
      rw [wp_bnd, wp_of_eq (show f_X7_takeNumber 1 4 0 1000000 σ = _ from hnum)]
      have hnb : ∀ n, (numR T N p 4 0 1000000).2 = some n → n ≤ 1000000 := by
        intro n hn
        unfold numR at hn
        split at hn
        · cases hn
        · split at hn
          · cases hn
          · split at hn
            · cases hn
            · cases hn
              omega
      generalize numR T N p 4 0 1000000 = nr at *
      obtain ⟨q, on⟩ := nr
      have ls1 := h0.to n2 n1
      cases on with
      | none =>
        dsimp only
        rw [wp_bnd]
        refine c_addF (a := 0) (o := 0) hl ls1.1.1 (by omega) (by omega) ls1.2.2.2.2.1 (by omega) (fun τ fr e2 ⟨s, hs, hs2⟩ => ?_)
        rw [wp_jn1, wp_if]
        refine ⟨fun _ => ?_, fun q => absurd (show mI < 0 by decide) q⟩
        rw [wp_retZ]
        exact ⟨Or.inl rfl, CPo.no (LFr.at.trans fr) (by rw [e2, upI_self, va_up_self]) hs hs2⟩
      | some n =>
        have hn6 := hnb n rfl
        have hpq := n3 n rfl
        dsimp only at hpq n1 ⊢
        have emx : sa_max 0 (nI n) = nI n := by
          have := sa_maxN (a := 0) (b := n) (by omega) (by omega)
          rw [Nat.max_eq_right (by omega)] at this
          exact this
        have hadd := c_addM (a := n) (o := 0) hl ls1.1.1 (by omega) (by omega) ls1.2.2.2.2.1 (by omega)
        show wp (sa_bnd (f_X2_add (18 + 3 * l) 0 (sa_max 0 (nI n))) _) _ _
        rw [emx, wp_bnd, wp_of_eq (show f_X2_add (18 + 3 * l) 0 (nI n) _ = _ from hadd), wp_jn1, wp_if]
        refine ⟨fun q => absurd q (nI_pos (by omega)), fun _ => ?_⟩
        rw [wp_retZ]
        exact ⟨Or.inr rfl, LFr.at.trans (LFr.mv.trans LFr.sz), rfl, ls1.add (x := 16 * n + 0) (by dsimp only; omega)⟩
    | some i =>
      have hix := ix_in hi (by omega)
      have hin := sgn_in (c := sgn T N p) hix.1 rfl
      have hi5 : i < 5 := hix.2
      have hle := bk_le (T := T) (N := N) (p := p + 1) (by omega)
      have ls1 := h0.to (show p ≤ bk T N (p + 1) by omega) hle
      rw [wp_if]
      refine ⟨fun q => absurd q (nI_pos (by omega)), fun _ => ?_⟩
      have hadd := c_addM (a := i) (o := 1) hl ls1.1.1 (by omega) (by omega) ls1.2.2.2.2.1 (by omega)
      rw [wp_bnd, wp_of_eq (c_pass ct hin.1 h2), wp_bnd, wp_of_eq (show f_X2_add (18 + 3 * l) 1 (oI (some i)) _ = _ from hadd), wp_retZ]
      exact ⟨Or.inr rfl, LFr.at.trans (LFr.mv.trans LFr.sz), rfl, ls1.add (x := 16 * i + 1) (by omega)⟩
  · have h91 := Decidable.not_not.mp heq
    have hin := sgn_in (c := 91) (by omega) h91
    have e6 : (nI d < 6) ↔ d < 6 := nI_ltI (a := d) (b := 6) (by omega) (by omega)
    rw [if_pos h91, wp_if, e6]
    cases S with
    | none =>
      refine ⟨fun q => absurd (hn rfl) (by omega), fun _ => ?_⟩
      rw [wp_retZ]
      exact ⟨Or.inl rfl, h0.no⟩
    | some SP =>
      obtain ⟨d6, hSP⟩ := hS SP rfl
      refine ⟨fun _ => ?_, fun q => absurd d6 q⟩
      have hle := bk_le (T := T) (N := N) (p := p + 1) (by omega)
      have ls1 := h0.to (show p ≤ bk T N (p + 1) by omega) hle
      rw [wp_bnd, wp_of_eq (c_pass ct hin.1 h2), wp_bnd, nI_1]
      refine wp_mono (hSP _ _ _ ls1) (fun r τ hr => ?_)
      obtain ⟨fr, hr⟩ := hr
      dsimp only
      generalize SP (bk T N (p + 1)) = r0 at *
      obtain ⟨q, m⟩ := r0
      cases m with
      | none =>
        obtain ⟨rfl, h2', s, hs, hz'⟩ := hr
        rw [wp_jn1, wp_jn0, wp_if]
        refine ⟨fun _ => ?_, fun q => absurd rfl q⟩
        rw [wp_retZ]
        exact ⟨Or.inl rfl, CPo.no (LFr.at.trans fr) h2' hs hz'⟩
      | some m =>
        obtain ⟨rfl, ls2⟩ := hr
        dsimp only at ls2 ⊢
        have htk := c_take (c := 93) ls2.1 ls2.2.1 ls2.2.2.1 (by omega) (by omega)
        rw [wp_jn1, wp_jn0, wp_if]
        refine ⟨fun q => absurd q (by decide), fun _ => ?_⟩
        by_cases h93 : sgn T N q = 93
        · have hin2 := sgn_in (c := 93) (by omega) h93
          have hge2 := bk_ge (T := T) (N := N) (p := q + 1)
          have hle2 := bk_le (T := T) (N := N) (p := q + 1) (by omega)
          rw [if_pos h93] at htk ⊢
          rw [wp_bnd, wp_of_eq (show f_X7_take 1 93 τ = _ from htk), wp_if]
          refine ⟨fun q => absurd q (by decide), fun _ => ?_⟩
          rw [wp_retZ]
          exact ⟨Or.inr rfl, (LFr.at.trans fr).trans LFr.at, rfl, ls2.to (by omega) hle2⟩
        · rw [if_neg h93] at htk ⊢
          rw [wp_bnd, wp_of_eq (show f_X7_take 1 93 τ = _ from htk), wp_if]
          refine ⟨fun _ => ?_, fun q => absurd rfl q⟩
          rw [wp_retZ]
          exact ⟨Or.inl rfl, (ls2.no (mv2 := mv)).fr (LFr.at.trans fr)⟩
/-- sums in depth: k more are allowed -/
theorem c_sums (hl : l < 5) : ∀ k n d, d + k = 6 → 3 * k + 3 ≤ n → ∀ (p : Nat) (mv : List Nat) (σ : sa_St), LSt T N l p mv σ → wp (f_X2_readSum n (18 + 3 * l) 1 (nI d)) σ (CPo T N l mv σ (smD T N k p)) := by
  intro k
  induction k with
  | zero =>
    intro n d hd hn p mv σ h
    obtain ⟨n, rfl⟩ : ∃ n', n = n' + 3 := ⟨n - 3, by omega⟩
    have adv := smP_adv (T := T) (N := N) (S := none) (fun A h => by cases h)
    have ha : ∀ (q : Nat) (mv : List Nat) (σ : sa_St), LSt T N l q mv σ → wp ((gr_X2_readSum (n + 1)).2.2 (18 + 3 * l) 1 (nI d)) σ (CPo T N l mv σ (atm T N none q)) := fun q mv σ h => c_atom (gS := (gr_X2_readSum n).1) (gT := (gr_X2_readSum n).2.1) (gA := (gr_X2_readSum n).2.2) hl (by omega) (fun _ => by omega) (fun SP h => by cases h) h
    have ht : ∀ (q : Nat) (mv : List Nat) (σ : sa_St), LSt T N l q mv σ → wp ((gr_X2_readSum (n + 2)).2.1 (18 + 3 * l) 1 (nI d)) σ (CPo T N l mv σ (tmP T N none q)) := fun q mv σ h => by
      show wp (fb_X2_readTerm (gr_X2_readSum (n + 1)).1 (gr_X2_readSum (n + 1)).2.1 (gr_X2_readSum (n + 1)).2.2 (18 + 3 * l) 1 (nI d)) _ _
      unfold fb_X2_readTerm
      rw [wp_gd]
      exact ⟨sh_law l hl, c_chainP (c1 := 42) (o1 := 7) (c2 := 47) (o2 := 8) (g1 := mulC) (g2 := divC) hl (by omega) ha (atm_adv (fun A h => by cases h)) h⟩
    show wp (fb_X2_readSum (gr_X2_readSum (n + 2)).1 (gr_X2_readSum (n + 2)).2.1 (gr_X2_readSum (n + 2)).2.2 (18 + 3 * l) 1 (nI d)) _ _
    unfold fb_X2_readSum
    rw [wp_gd]
    exact ⟨sh_law l hl, c_chainP (c1 := 43) (o1 := 5) (c2 := 45) (o2 := 6) (g1 := addC) (g2 := subC) hl (by omega) ht adv.2 h⟩
  | succ k ih =>
    intro n d hd hn p mv σ h
    obtain ⟨n, rfl⟩ : ∃ n', n = n' + 3 := ⟨n - 3, by omega⟩
    have hS := ih n (d + 1) (by omega) (by omega)
    have adv0 := smD_adv (T := T) (N := N) k
    have adv := smP_adv (T := T) (N := N) (S := some (smD T N k)) (fun A h => by cases h; exact adv0)
    have ha : ∀ (q : Nat) (mv : List Nat) (σ : sa_St), LSt T N l q mv σ → wp ((gr_X2_readSum (n + 1)).2.2 (18 + 3 * l) 1 (nI d)) σ (CPo T N l mv σ (atm T N (some (smD T N k)) q)) := fun q mv σ h => c_atom (gS := (gr_X2_readSum n).1) (gT := (gr_X2_readSum n).2.1) (gA := (gr_X2_readSum n).2.2) hl (by omega) (fun h => by cases h) (fun SP h => by cases h; exact ⟨by omega, hS⟩) h
    have ht : ∀ (q : Nat) (mv : List Nat) (σ : sa_St), LSt T N l q mv σ → wp ((gr_X2_readSum (n + 2)).2.1 (18 + 3 * l) 1 (nI d)) σ (CPo T N l mv σ (tmP T N (some (smD T N k)) q)) := fun q mv σ h => by
      show wp (fb_X2_readTerm (gr_X2_readSum (n + 1)).1 (gr_X2_readSum (n + 1)).2.1 (gr_X2_readSum (n + 1)).2.2 (18 + 3 * l) 1 (nI d)) _ _
      unfold fb_X2_readTerm
      rw [wp_gd]
      exact ⟨sh_law l hl, c_chainP (c1 := 42) (o1 := 7) (c2 := 47) (o2 := 8) (g1 := mulC) (g2 := divC) hl (by omega) ha (atm_adv (fun A h => by cases h; exact adv0)) h⟩
    show wp (fb_X2_readSum (gr_X2_readSum (n + 2)).1 (gr_X2_readSum (n + 2)).2.1 (gr_X2_readSum (n + 2)).2.2 (18 + 3 * l) 1 (nI d)) _ _
    unfold fb_X2_readSum
    rw [wp_gd]
    exact ⟨sh_law l hl, c_chainP (c1 := 43) (o1 := 5) (c2 := 45) (o2 := 6) (g1 := addC) (g2 := subC) hl (by omega) ht adv.2 h⟩
end CSUM
