/-! PICKETS: the reference's rows, one by one -/
def ps (σ : sa_St) (r : Nat → Int32) (n : Nat) (x : Int32) : sa_St := sa_upI (sa_upI (va_up σ.1 185 r, σ.2) 159 63 (nI n)) 159 65 x
section PS
variable {σ : sa_St} {r : Nat → Int32} {n n2 : Nat} {x x2 : Int32}
theorem ps_185 : (ps σ r n x).1 185 = r := by
  unfold ps
  rw [upI_ne (by omega), upI_ne (by omega)]
  exact va_up_self σ.1 185 r
theorem ps_159 {k : Nat} (h : k ≠ 63) (h2 : k ≠ 65) : (ps σ r n x).1 159 k = σ.1 159 k := by
  unfold ps
  rw [upI_self, va_up_ne _ _ h2, upI_self, va_up_ne _ _ h]
  show va_up σ.1 185 r 159 k = _
  rw [va_up_ne _ _ (by omega)]
theorem ps_63 : (ps σ r n x).1 159 63 = nI n := by
  unfold ps
  rw [upI_self, va_up_ne _ _ (by omega), upI_self, va_up_self]
theorem ps_65 : (ps σ r n x).1 159 65 = x := by
  unfold ps
  rw [upI_self, va_up_self]
theorem ps_ne {j : Nat} (h : j ≠ 159) (h2 : j ≠ 185) : (ps σ r n x).1 j = σ.1 j := by
  unfold ps
  rw [upI_ne h, upI_ne h]
  show va_up σ.1 185 r j = _
  rw [va_up_ne _ _ h2]
theorem ps_2 : (ps σ r n x).2 = σ.2 := rfl
theorem ps_ext {τ : sa_St} (h2 : τ.2 = σ.2) (h185 : τ.1 185 = r) (h63 : τ.1 159 63 = nI n) (h65 : τ.1 159 65 = x) (h159 : ∀ k, k ≠ 63 → k ≠ 65 → τ.1 159 k = σ.1 159 k) (hne : ∀ j, j ≠ 159 → j ≠ 185 → τ.1 j = σ.1 j) : τ = ps σ r n x := by
  refine Prod.ext (funext fun j => ?_) h2
  by_cases e : j = 159
  · subst e
    funext k
    by_cases e1 : k = 63
    · subst e1; rw [h63, ps_63]
    by_cases e2 : k = 65
    · subst e2; rw [h65, ps_65]
    rw [h159 k e1 e2, ps_159 e1 e2]
  by_cases e2 : j = 185
  · subst e2; rw [h185, ps_185]
  rw [hne j e e2, ps_ne e e2]
theorem ps_up63 : sa_upI (ps σ r n x) 159 63 (nI n2) = ps σ r n2 x := by
  refine ps_ext rfl ?_ ?_ ?_ (fun k h h2 => ?_) (fun j h h2 => ?_)
  · rw [upI_ne (by omega), ps_185]
  · rw [upI_self, va_up_self]
  · rw [upI_self, va_up_ne _ _ (by omega), ps_65]
  · rw [upI_self, va_up_ne _ _ h, ps_159 h h2]
  · rw [upI_ne h, ps_ne h h2]
theorem ps_up65 : sa_upI (ps σ r n x) 159 65 x2 = ps σ r n x2 := by
  refine ps_ext rfl ?_ ?_ ?_ (fun k h h2 => ?_) (fun j h h2 => ?_)
  · rw [upI_ne (by omega), ps_185]
  · rw [upI_self, va_up_ne _ _ (by omega), ps_63]
  · rw [upI_self, va_up_self]
  · rw [upI_self, va_up_ne _ _ h2, ps_159 h h2]
  · rw [upI_ne h, ps_ne h h2]
theorem ps_up185 {i : Nat} {v : Int32} : sa_upI (ps σ r n x) 185 i v = ps σ (va_up r i v) n x := by
  refine ps_ext rfl ?_ ?_ ?_ (fun k h h2 => ?_) (fun j h h2 => ?_)
  · rw [upI_self, ps_185]
  · rw [upI_ne (by omega), ps_63]
  · rw [upI_ne (by omega), ps_65]
  · rw [upI_ne (by omega), ps_159 h h2]
  · rw [upI_ne h2, ps_ne h h2]
theorem ps_dn {τ : sa_St} (h : Dn [0] σ τ) : Dn [0] σ (ps τ r n x) := Dn.up (Dn.up (Dn.set h (fun _ => rfl)) rfl) rfl
end PS
/-- grains and how often one can stand -/
def GC (m b l : Nat) (g cap : Nat → Nat) : Prop := ∀ c, c < m → g c ≤ 99 ∧ ((g c = 0 ∧ cap c = 0) ∨ (b ≤ g c ∧ cap c = (g c - b) / l))
theorem GC.pos {m b l c : Nat} {g cap : Nat → Nat} (h : GC m b l g cap) (hl : 1 ≤ l) (hc : c < m) : 0 < cap c ↔ l ≤ g c ∧ b ≤ g c - l := by
  obtain ⟨h9, h⟩ := h c hc
  rcases h with ⟨h1, h2⟩ | ⟨h1, h2⟩
  · omega
  · rw [h2]
    constructor
    · intro q
      have := Nat.div_pos_iff.mp q
      omega
    · intro q
      exact Nat.div_pos (by omega) (by omega)
theorem GC.dec {m b l c : Nat} {g cap : Nat → Nat} (h : GC m b l g cap) (hl : 1 ≤ l) (hc : c < m) (h0 : 0 < cap c) : GC m b l (fun j => if j = c then g c - l else g j) (zc_dec cap c) := by
  have hp := (h.pos hl hc).mp h0
  intro j hj
  unfold zc_dec
  by_cases e : j = c
  · subst e
    simp only [if_pos]
    obtain ⟨h9, h⟩ := h j hj
    rcases h with ⟨h1, h2⟩ | ⟨h1, h2⟩
    · omega
    · refine ⟨by omega, Or.inr ⟨by omega, ?_⟩⟩
      have e := Nat.div_eq_sub_div (a := g j - b) (b := l) (by omega) (by omega)
      rw [h2, e, Nat.add_sub_cancel, show g j - l - b = g j - b - l by omega]
  · simp only [if_neg e]
    exact h j hj
theorem sc_bd {w : Int32} {B : Nat} : ∀ (l : List Nat) (s : Nat × Option Nat), (∀ x, s.2 = some x → x < B) → (∀ x, x ∈ l → x < B) → ∀ x, (sc w s l).2 = some x → x < B := by
  intro l
  induction l with
  | nil => intro s h _; exact h
  | cons d l ih =>
    intro s h hl
    refine ih (sc1 w s d) (fun x hx => ?_) (fun x hx => hl x (List.mem_cons_of_mem _ hx))
    obtain ⟨n, o⟩ := s
    cases o with
    | some y => exact h x hx
    | none =>
      have hx' : (if nI n = w then some d else none) = some x := hx
      by_cases e : nI n = w
      · rw [if_pos e] at hx'
        cases hx'
        exact hl _ (List.mem_cons_self)
      · rw [if_neg e] at hx'
        cases hx'
theorem sc_le {w : Int32} : ∀ (l : List Nat) (s : Nat × Option Nat), (sc w s l).1 ≤ s.1 + l.length := by
  intro l
  induction l with
  | nil => intro s; exact Nat.le_refl _
  | cons d l ih =>
    intro s
    have h := ih (sc1 w s d)
    have h1 : (sc1 w s d).1 ≤ s.1 + 1 := by
      obtain ⟨n, o⟩ := s
      cases o with
      | some y => exact Nat.le_succ _
      | none => exact Nat.le_refl _
    rw [List.length_cons]
    show (sc w (sc1 w s d) l).1 ≤ _
    omega
theorem zc_rows_bd {m : Nat} (hm : m ≤ 10) : ∀ (n : Nat) (cap : Nat → Nat) (d x : Nat), x ∈ zc_rows m n cap d → x < (d + 1) * 10 ^ n := by
  intro n
  induction n with
  | zero =>
    intro cap d x hx
    have : x = d := by simpa [zc_rows] using hx
    subst this
    simp
  | succ n ih =>
    intro cap d x hx
    have hx' : x ∈ (List.range m).flatMap (fun c => if 0 < cap c then zc_rows m n (zc_dec cap c) (10 * d + c) else []) := hx
    rw [List.mem_flatMap] at hx'
    obtain ⟨c, hc, hx2⟩ := hx'
    rw [List.mem_range] at hc
    by_cases h : 0 < cap c
    · simp only [if_pos h] at hx2
      have h1 := ih _ _ _ hx2
      have h2 : (10 * d + c + 1) * 10 ^ n ≤ (10 * (d + 1)) * 10 ^ n := Nat.mul_le_mul_right _ (by omega)
      rw [Nat.pow_succ]
      have h3 : (10 * (d + 1)) * 10 ^ n = (d + 1) * (10 ^ n * 10) := by
        rw [Nat.mul_comm 10 (d + 1), Nat.mul_assoc, Nat.mul_comm 10 (10 ^ n)]
      omega
    · simp only [if_neg h] at hx2
      cases hx2
theorem oI_mI {o : Option Nat} (h : ∀ x, o = some x → x < 2 ^ 31) : (oI o = mI) ↔ o = none := by
  cases o with
  | none => exact ⟨fun _ => rfl, fun _ => rfl⟩
  | some x =>
    constructor
    · intro e
      have : (nI x = mI) = False := eq_mI (h x rfl)
      exact absurd e (by show ¬ nI x = mI; rw [this]; exact not_false)
    · intro e; cases e
section GO
variable {σ : sa_St} {k wl : Nat → Int32} {m b l : Nat} {w : Int32}
theorem m_go (hk : SK σ.2.1) (h173 : σ.1 173 = toW k wl) (k22 : k 22 = nI m) (m8 : m ≤ 8) (hl : 1 ≤ l ∧ l ≤ 9) (hb : b ≤ 99) (h64 : σ.1 159 64 = w) : ∀ (n fu : Nat), n < fu → n ≤ 6 → ∀ (g cap : Nat → Nat) (r : Nat → Int32) (s : Nat × Option Nat) (d : Nat) (Q : Unit → sa_St → Prop), GC m b l g cap → (∀ c, c < m → r c = nI (g c)) → (∀ x, s.2 = some x → x < 2 ^ 31) → (d + 1) * 10 ^ n ≤ 10 ^ 6 → (∀ r2 : Nat → Int32, (∀ c, c < m → r2 c = nI (g c)) → Q () (ps σ r2 (sc w s (zc_rows m n cap d)).1 (oI (sc w s (zc_rows m n cap d)).2))) → wp (gr_X12_goPickets fu 159 (nI n) (nI l) (nI b) (nI d)) (ps σ r s.1 (oI s.2)) Q := by
  have e35 := sk_159_35 hk
  have e62 := sk_159_62 hk
  intro n
  induction n with
  | zero =>
    intro fu hfu hn g cap r s d Q hG hr hs hd hQ
    cases fu with
    | zero => omega
    | succ fu =>
      show wp (fb_X12_goPickets (gr_X12_goPickets fu) 159 (nI 0) (nI l) (nI b) (nI d)) _ Q
      unfold fb_X12_goPickets
      rw [wp_gd]
      refine ⟨rfl, ?_⟩
      rw [wp_bnd, wp_rdI, ps_65]
      refine ⟨rfl, ?_⟩
      obtain ⟨cn, fo⟩ := s
      cases fo with
      | some x =>
        have hx : ¬ oI (some x) = -1 := fun e => by have := (oI_mI (o := some x) hs).mp e; cases this
        rw [wp_if]
        refine ⟨fun q => absurd q hx, fun _ => ?_⟩
        rw [wp_ret]
        have hq := hQ r hr
        rw [sc_found] at hq
        exact hq
      | none =>
        rw [wp_if]
        refine ⟨fun _ => ?_, fun q => absurd rfl q⟩
        rw [wp_if]
        refine ⟨fun q => absurd (show nI 0 = 0 from rfl) q, fun _ => ?_⟩
        rw [wp_bnd, wp_rdI, ps_63]
        refine ⟨rfl, ?_⟩
        rw [wp_bnd, wp_rdI, ps_159 (by omega) (by omega), h64]
        refine ⟨rfl, ?_⟩
        have hq := hQ r hr
        have e : sc w (cn, none) (zc_rows m 0 cap d) = (cn + 1, if nI cn = w then some d else none) := rfl
        rw [e] at hq
        rw [wp_jn0, wp_if]
        refine ⟨fun q => ?_, fun q => ?_⟩
        · rw [wp_bnd, wp_rdI, ps_63]
          refine ⟨rfl, ?_⟩
          rw [wp_bnd, wp_wrI, nI_1, ps_up63]
          refine ⟨rfl, ?_⟩
          rw [wp_ret]
          rw [if_neg q] at hq
          exact hq
        · have q' : nI cn = w := Decidable.not_not.mp q
          rw [wp_bnd, wp_wrI, ps_up65]
          refine ⟨rfl, ?_⟩
          rw [wp_bnd, wp_rdI, ps_63]
          refine ⟨rfl, ?_⟩
          rw [wp_bnd, wp_wrI, nI_1, ps_up63]
          refine ⟨rfl, ?_⟩
          rw [wp_ret]
          rw [if_pos q'] at hq
          exact hq
  | succ n ih =>
    intro fu hfu hn g cap r s d Q hG hr hs hd hQ
    cases fu with
    | zero => omega
    | succ fu =>
      show wp (fb_X12_goPickets (gr_X12_goPickets fu) 159 (nI (n + 1)) (nI l) (nI b) (nI d)) _ Q
      unfold fb_X12_goPickets
      rw [wp_gd]
      refine ⟨rfl, ?_⟩
      rw [wp_bnd, wp_rdI, ps_65]
      refine ⟨rfl, ?_⟩
      obtain ⟨cn, fo⟩ := s
      cases fo with
      | some x =>
        have hx : ¬ oI (some x) = -1 := fun e => by have := (oI_mI (o := some x) hs).mp e; cases this
        rw [wp_if]
        refine ⟨fun q => absurd q hx, fun _ => ?_⟩
        rw [wp_ret]
        have hq := hQ r hr
        rw [sc_found] at hq
        exact hq
      | none =>
        rw [wp_if]
        refine ⟨fun _ => ?_, fun q => absurd rfl q⟩
        rw [wp_if]
        refine ⟨fun _ => ?_, fun q => absurd (nI_ne0 (by omega) (by omega)) q⟩
        have hbd := fun (c : Nat) (hc : c < m) => zc_rows_bd (m := m) (by omega) n (zc_dec cap c) (10 * d + c)
        have h10 : ∀ c, c < m → (10 * d + c + 1) * 10 ^ n ≤ 10 ^ 6 := by
          intro c hc
          have h2 : (10 * d + c + 1) * 10 ^ n ≤ (10 * (d + 1)) * 10 ^ n := Nat.mul_le_mul_right _ (by omega)
          have h3 : (10 * (d + 1)) * 10 ^ n = (d + 1) * 10 ^ (n + 1) := by
            rw [Nat.pow_succ, Nat.mul_comm 10 (d + 1), Nat.mul_assoc, Nat.mul_comm 10 (10 ^ n)]
          omega
        have hsp : ∀ c, sc w (cn, none) ((List.range (c + 1)).flatMap (fun c => if 0 < cap c then zc_rows m n (zc_dec cap c) (10 * d + c) else [])) = sc w (sc w (cn, none) ((List.range c).flatMap (fun c => if 0 < cap c then zc_rows m n (zc_dec cap c) (10 * d + c) else []))) (if 0 < cap c then zc_rows m n (zc_dec cap c) (10 * d + c) else []) := by
          intro c
          rw [List.range_succ, List.flatMap_append, sc_app]
          congr 1
          simp
        have hfb : ∀ c, c ≤ m → ∀ x, (sc w (cn, none) ((List.range c).flatMap (fun c => if 0 < cap c then zc_rows m n (zc_dec cap c) (10 * d + c) else []))).2 = some x → x < 2 ^ 31 := by
          intro c hc
          refine sc_bd _ _ hs (fun x hx => ?_)
          rw [List.mem_flatMap] at hx
          obtain ⟨c2, hc2, hx2⟩ := hx
          rw [List.mem_range] at hc2
          by_cases h : 0 < cap c2
          · simp only [if_pos h] at hx2
            have h1 := hbd c2 (by omega) x hx2
            have h2 := h10 c2 (by omega)
            omega
          · simp only [if_neg h] at hx2
            cases hx2
        rw [wp_let]
        refine wp_for1 m 0 (fun c τ => ∃ r2 : Nat → Int32, (∀ c, c < m → r2 c = nI (g c)) ∧ τ = ps σ r2 (sc w (cn, none) ((List.range c).flatMap (fun c => if 0 < cap c then zc_rows m n (zc_dec cap c) (10 * d + c) else []))).1 (oI (sc w (cn, none) ((List.range c).flatMap (fun c => if 0 < cap c then zc_rows m n (zc_dec cap c) (10 * d + c) else []))).2)) ?_ ?_ ⟨r, hr, rfl⟩ (by omega) (by unfold sa_F; omega)
        · rintro c τ hc ⟨r2, h2, rfl⟩ j hj
          have hfc := hfb c (by omega)
          have hs1 := hsp c
          generalize hS : sc w (cn, none) ((List.range c).flatMap (fun c => if 0 < cap c then zc_rows m n (zc_dec cap c) (10 * d + c) else [])) = S at hfc hs1 ⊢
          have g9 := (hG c hc).1
          rw [wp_bnd, wp_rdR (σ := ps σ r2 S.1 (oI S.2)) (v := 173) rfl e35, wp_bnd, wp_ldI (j := 75) (n := 75) (len := 260) al_173 rfl (by omega) (by omega), ps_ne (by omega) (by omega), h173, toW_75, k22, wp_if]
          refine ⟨fun q => absurd q (nI_ge hc (by omega)), fun _ => ?_⟩
          rw [wp_bnd, wp_rdR (σ := ps σ r2 S.1 (oI S.2)) (v := 185) rfl e62, wp_bnd, wp_ldI (n := c) (len := 8) al_185 rfl (by omega) (by omega), ps_185, h2 c hc, wp_jn0, wp_if]
          have stay : ¬ 0 < cap c → ∀ r3 : Nat → Int32, (∀ c, c < m → r3 c = nI (g c)) → wp (sa_let ((nI c + 1) : Int32) fun x8 => j x8) (ps σ r3 S.1 (oI S.2)) Q := by
            intro h0 r3 h3
            rw [wp_let, nI_1]
            refine hj _ ⟨r3, h3, ?_⟩
            rw [hs1, if_neg h0]
            rfl
          refine ⟨fun q => ?_, fun q => ?_⟩
          · rw [nI_leI (by omega) (by omega)] at q
            rw [wp_bnd, wp_rdR (σ := ps σ r2 S.1 (oI S.2)) (v := 185) rfl e62, wp_bnd, wp_ldI (n := c) (len := 8) al_185 rfl (by omega) (by omega), ps_185, h2 c hc, wp_bnd, wp_rdR (σ := ps σ r2 S.1 (oI S.2)) (v := 185) rfl e62, wp_bnd, pk_sub q, wp_stI (n := c) (len := 8) al_185 rfl (by omega) (by omega), ps_up185, wp_bnd, wp_rdR (σ := ps σ (va_up r2 c (nI (g c - l))) S.1 (oI S.2)) (v := 185) rfl e62, wp_bnd, wp_ldI (n := c) (len := 8) al_185 rfl (by omega) (by omega), ps_185, va_up_self, wp_jn0, wp_if]
            have back : ∀ r3 : Nat → Int32, (∀ j, j < m → j ≠ c → r3 j = nI (g j)) → ∀ j, j < m → va_up r3 c (nI (g c)) j = nI (g j) := by
              intro r3 h3 j hj
              by_cases e : j = c
              · subst e; exact va_up_self _ _ _
              · rw [va_up_ne _ _ e]; exact h3 j hj e
            refine ⟨fun q2 => ?_, fun q2 => ?_⟩
            · rw [nI_ltI (by omega) (by omega)] at q2
              have h0 : ¬ 0 < cap c := by
                rw [hG.pos hl.1 hc]
                omega
              rw [wp_bnd, wp_rdR (σ := ps σ (va_up r2 c (nI (g c - l))) S.1 (oI S.2)) (v := 185) rfl e62, wp_bnd, wp_stI (n := c) (len := 8) al_185 rfl (by omega) (by omega), ps_up185]
              exact stay h0 _ (back _ (fun j hj e => by rw [va_up_ne _ _ e]; exact h2 j hj))
            · rw [nI_ltI (by omega) (by omega)] at q2
              have h0 : 0 < cap c := by
                rw [hG.pos hl.1 hc]
                omega
              have e1 : nI (n + 1) - 1 = nI n := nI_pred n
              have e2 : (10 : Int32) * nI d + nI c = nI (10 * d + c) := by
                show nI 10 * nI d + nI c = _
                rw [pk_mul, nI_add]
              rw [e1, e2, wp_bnd]
              refine ih fu (by omega) (by omega) (fun j => if j = c then g c - l else g j) (zc_dec cap c) (va_up r2 c (nI (g c - l))) S (10 * d + c) _ (hG.dec hl.1 hc h0) (fun j hj => ?_) hfc (h10 c hc) (fun r3 h3 => ?_)
              · by_cases e : j = c
                · subst e; rw [va_up_self]; simp
                · rw [va_up_ne _ _ e, h2 j hj]; simp [e]
              · rw [if_pos h0] at hs1
                rw [← hs1]
                rw [wp_bnd, wp_rdR (σ := ps σ r3 _ _) (v := 185) rfl e62, wp_bnd, wp_stI (n := c) (len := 8) al_185 rfl (by omega) (by omega), ps_up185, wp_let, nI_1]
                refine hj _ ⟨_, back r3 (fun j hj e => ?_), rfl⟩
                have := h3 j hj
                simpa [e] using this
          · rw [nI_leI (by omega) (by omega)] at q
            have h0 : ¬ 0 < cap c := by
              rw [hG.pos hl.1 hc]
              omega
            exact stay h0 r2 h2
        · rintro τ ⟨r2, h2, rfl⟩ j
          rw [wp_bnd, wp_rdR (σ := ps σ r2 _ _) (v := 173) rfl e35, wp_bnd, wp_ldI (j := 75) (n := 75) (len := 260) al_173 rfl (by omega) (by omega), ps_ne (by omega) (by omega), h173, toW_75, k22, wp_if]
          refine ⟨fun _ => ?_, fun q => absurd (nI_le (Nat.le_refl m) (by omega)) q⟩
          rw [wp_ret]
          exact hQ r2 h2
end GO
