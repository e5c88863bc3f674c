/-! TEXTS: lands, by the reference: items -/
def chK (k : Nat) : Nat := ([112, 119, 99, 102] : List Nat).getD k 0
def arK (k : Nat) : Nat := ([165, 167, 168, 170] : List Nat).getD k 0
theorem m_usual : ∀ k, k < 4 → ∀ i, i < cntI k → ∀ σ : sa_St, f_X12_usual (nI (chK k)) (nI i) σ = some (nI (usI k i), σ) := by
  intro k hk
  match k, hk with
  | 0, _ =>
    intro i hi
    match i, hi with
    | 0, _ => intro σ; rfl
    | 1, _ => intro σ; rfl
    | 2, _ => intro σ; rfl
    | 3, _ => intro σ; rfl
    | n + 4, hi => exact absurd hi (by show ¬ n + 4 < 4; omega)
  | 1, _ =>
    intro i hi
    match i, hi with
    | 0, _ => intro σ; rfl
    | 1, _ => intro σ; rfl
    | 2, _ => intro σ; rfl
    | 3, _ => intro σ; rfl
    | n + 4, hi => exact absurd hi (by show ¬ n + 4 < 4; omega)
  | 2, _ =>
    intro i hi
    match i, hi with
    | 0, _ => intro σ; rfl
    | 1, _ => intro σ; rfl
    | 2, _ => intro σ; rfl
    | 3, _ => intro σ; rfl
    | 4, _ => intro σ; rfl
    | n + 5, hi => exact absurd hi (by show ¬ n + 5 < 5; omega)
  | 3, _ =>
    intro i hi
    match i, hi with
    | 0, _ => intro σ; rfl
    | 1, _ => intro σ; rfl
    | n + 2, hi => exact absurd hi (by show ¬ n + 2 < 2; omega)
  | n + 4, hk => omega
theorem m_lohi : ∀ k, k < 4 → ∀ i, i < cntI k → ∀ σ : sa_St, f_X12_leastOf (nI (chK k)) (nI i) σ = some (nI (loI k i), σ) ∧ f_X12_mostOf (nI (chK k)) (nI i) σ = some (nI (hiI k i), σ) := by
  intro k hk
  match k, hk with
  | 0, _ =>
    intro i hi
    match i, hi with
    | 0, _ => intro σ; exact ⟨rfl, rfl⟩
    | 1, _ => intro σ; exact ⟨rfl, rfl⟩
    | 2, _ => intro σ; exact ⟨rfl, rfl⟩
    | 3, _ => intro σ; exact ⟨rfl, rfl⟩
    | n + 4, hi => exact absurd hi (by show ¬ n + 4 < 4; omega)
  | 1, _ =>
    intro i hi
    match i, hi with
    | 0, _ => intro σ; exact ⟨rfl, rfl⟩
    | 1, _ => intro σ; exact ⟨rfl, rfl⟩
    | 2, _ => intro σ; exact ⟨rfl, rfl⟩
    | 3, _ => intro σ; exact ⟨rfl, rfl⟩
    | n + 4, hi => exact absurd hi (by show ¬ n + 4 < 4; omega)
  | 2, _ =>
    intro i hi
    match i, hi with
    | 0, _ => intro σ; exact ⟨rfl, rfl⟩
    | 1, _ => intro σ; exact ⟨rfl, rfl⟩
    | 2, _ => intro σ; exact ⟨rfl, rfl⟩
    | 3, _ => intro σ; exact ⟨rfl, rfl⟩
    | 4, _ => intro σ; exact ⟨rfl, rfl⟩
    | n + 5, hi => exact absurd hi (by show ¬ n + 5 < 5; omega)
  | 3, _ =>
    intro i hi
    match i, hi with
    | 0, _ => intro σ; exact ⟨rfl, rfl⟩
    | 1, _ => intro σ; exact ⟨rfl, rfl⟩
    | n + 2, hi => exact absurd hi (by show ¬ n + 2 < 2; omega)
  | n + 4, hk => omega
theorem m_hasb {m i : Nat} {σ : sa_St} (hm : m < 32) (hi : i < 5) : f_X12_has (nI m) (nI i) σ = some (nI (if bt m i then 1 else 0), σ) := by
  refine run_of ?_
  unfold f_X12_has
  rw [wp_jn1, wp_if, bt_I m hm i hi]
  cases e : bt m i with
  | true =>
    refine ⟨fun q => absurd rfl q, fun _ => ?_⟩
    rw [wp_retZ]
    exact ⟨Or.inr rfl, rfl, rfl⟩
  | false =>
    refine ⟨fun _ => ?_, fun q => absurd (by decide) q⟩
    rw [wp_retZ]
    exact ⟨Or.inl rfl, rfl, rfl⟩
/-- one array of the draft, and where the text stands -/
def JFr (A : Nat) (σ τ : sa_St) : Prop := τ.2 = σ.2 ∧ (∀ j, j ≠ 159 → j ≠ A → τ.1 j = σ.1 j) ∧ ∀ k, k < 10 ∨ 12 < k → τ.1 159 k = σ.1 159 k
theorem JFr.rfl' {A : Nat} {σ : sa_St} : JFr A σ σ := ⟨rfl, fun _ _ _ => rfl, fun _ _ => rfl⟩
theorem JFr.trans {A : Nat} {σ τ υ : sa_St} (h : JFr A σ τ) (h2 : JFr A τ υ) : JFr A σ υ := ⟨h2.1.trans h.1, fun j a b => (h2.2.1 j a b).trans (h.2.1 j a b), fun k a => (h2.2.2 k a).trans (h.2.2 k a)⟩
theorem RFr.j {A : Nat} {σ τ : sa_St} (h : RFr σ τ) : JFr A σ τ := ⟨h.1, fun j a _ => h.2.1 j a, h.2.2⟩
theorem JFr.a {A i : Nat} {σ : sa_St} {v : Int32} (hA : A ≠ 159) : JFr A σ (sa_upI σ A i v) := ⟨rfl, fun j _ a => by rw [upI_ne a], fun k _ => by rw [upI_ne (fun e => hA e.symm)]⟩
section MITEM
variable {T : Nat → Nat} {N R o d p : Nat} {σ : sa_St}
/-- what reading an item leaves -/
def IPs (T : Nat → Nat) (N R o d A ix : Nat) (σ : sa_St) (res : Nat × Option Nat) (τ : sa_St) : Prop := JFr A σ τ ∧ match res.2 with
  | none => τ.1 159 11 = nI res.1 ∧ τ.1 A = σ.1 A
  | some n => RSt T N R o d res.1 τ ∧ τ.1 A = va_up (σ.1 A) ix (nI n)
theorem m_item2 {A ix len q c lo hi : Nat} {σ0 : sa_St} (hA : A ≠ 159 ∧ A ≠ 160 ∧ A ≠ 161) (hal : sa_al .int A = len) (hix : ix < len) (hlen : len < 1000) (hlo : lo < 1000) (hhi : hi < 1000) (hfr : RFr σ0 σ) (hs : RSt T N R o d (bk T N (q + c)) σ) (h10 : σ.1 159 10 = nI (q + c)) (hqc : q + c ≤ N) (hc : c = 1 ∨ c = 2) (hdg : ∀ y, y < c → isD (sgn T N (q + y)) = true) (hend : c = 2 ∨ isD (sgn T N (q + c)) = false) : wp (sa_bnd (f_X12_isDigit 159) fun v8 =>
if v8 = 0 then
sa_bnd (f_X12_isIn ((nI (nmv T q c)).toInt64) ((nI lo).toInt64) ((nI hi).toInt64)) fun v9 =>
if ¬ v9 = 0 then
sa_bnd (sa_stI A (nI ix) (nI (nmv T q c))) fun _ =>
sa_ret ()
else
sa_bnd (sa_rdI 12 159 10) fun v10 =>
sa_bnd (sa_wrI 12 159 10 (v10 - 1)) fun _ =>
sa_bnd (f_X12_fails 159) fun v11 =>
sa_ret ()
else
sa_bnd (f_X12_fails 159) fun v12 =>
sa_ret ()) σ (fun _ τ => IPs T N R o d A ix σ0 (numR T N q 2 lo hi) τ) := by
  have h240 := hs.1.2.1
  have hn : ndg T N q 2 = c := ndg_of hdg (by rcases hend with h | h; exact Or.inl h; exact Or.inr h) (by omega)
  have hv : nmv T q c < 100 := by
    have h1 := nmv_le (T := T) (p := q) c (fun y hy => (isD_in (hdg y hy)).2.2.2)
    rcases hc with rfl | rfl
    · exact Nat.lt_of_lt_of_le h1 (by decide)
    · exact Nat.lt_of_lt_of_le h1 (by decide)
  have h11 := hs.2.2.1
  have eA : ∀ {υ : sa_St}, RFr σ0 υ → υ.1 A = σ0.1 A := fun {υ} h => h.2.1 A hA.1
  unfold numR
  rw [hn, if_neg (show ¬ c = 0 by omega), wp_bnd, wp_of_eq (m_dig hs.1 hqc h10), wp_if]
  cases e : isD (sgn T N (q + c)) with
  | true =>
    refine ⟨fun q => absurd q (by decide), fun _ => ?_⟩
    have hf := m_fails h11
    rw [h10] at hf
    have fr2 : RFr σ0 (sa_upI σ 159 11 (nI (q + c))) := hfr.trans (RFr.up (by omega))
    rw [if_pos rfl, wp_bnd, wp_of_eq hf, wp_ret]
    exact ⟨fr2.j, by dsimp only; rw [upI_self, va_up_self], eA fr2⟩
  | false =>
    refine ⟨fun _ => ?_, fun q => absurd rfl q⟩
    rw [if_neg (show ¬ false = true by decide), wp_bnd, w_isIn, i64le, i64le, nI_leI (by omega) (by omega), nI_leI (by omega) (by omega)]
    refine ⟨fun c1 => ?_, fun c1 => ?_⟩
    · rw [if_neg (show ¬ (nmv T q c < lo ∨ hi < nmv T q c) by omega), wp_if]
      refine ⟨fun _ => ?_, fun q => absurd (show ¬ nI 1 = 0 by decide) q⟩
      rw [wp_bnd, wp_stI (n := ix) (len := len) hal rfl hix (by omega), wp_ret]
      exact ⟨hfr.j.trans (JFr.a hA.1), hs.arr hA, by rw [upI_self, eA hfr]⟩
    · rw [if_pos (show nmv T q c < lo ∨ hi < nmv T q c by omega), wp_if]
      refine ⟨fun q => absurd rfl q, fun _ => ?_⟩
      have ep : nI (q + c) - 1 = nI (q + c - 1) := by
        obtain ⟨y, hy⟩ : ∃ y, q + c = y + 1 := ⟨q + c - 1, by omega⟩
        rw [hy]
        exact nI_pred y
      rw [wp_bnd, wp_rdI, h10]
      refine ⟨rfl, ?_⟩
      rw [wp_bnd, wp_wrI, ep]
      refine ⟨rfl, ?_⟩
      have hf := m_fails (σ := sa_upI σ 159 10 (nI (q + c - 1))) (by rw [upI_self, va_up_ne _ _ (by omega)]; exact h11)
      rw [show (sa_upI σ 159 10 (nI (q + c - 1))).1 159 10 = nI (q + c - 1) by rw [upI_self, va_up_self]] at hf
      have fr2 : RFr σ0 (sa_upI (sa_upI σ 159 10 (nI (q + c - 1))) 159 11 (nI (q + c - 1))) := (hfr.trans (RFr.up (by omega))).trans (RFr.up (by omega))
      rw [wp_bnd, wp_of_eq hf, wp_ret]
      exact ⟨fr2.j, by dsimp only; rw [upI_self, va_up_self], eA fr2⟩
theorem m_item {A ix len lo hi : Nat} (hA : A ≠ 159 ∧ A ≠ 160 ∧ A ≠ 161) (hal : sa_al .int A = len) (hix : ix < len) (hlen : len < 1000) (hlo : lo < 1000) (hhi : hi < 1000) (hs : RSt T N R o d p σ) (h10 : σ.1 159 10 = nI p) (hpN : p < N) : wp (f_X12_readItem 159 A (nI ix) (nI lo) (nI hi)) σ (fun _ τ => IPs T N R o d A ix σ (numR T N (bk T N (p + 1)) 2 lo hi) τ) := by
  have h240 := hs.1.2.1
  unfold f_X12_readItem
  rw [wp_gd]
  refine ⟨rfl, ?_⟩
  rw [wp_bnd, wp_rdI, h10]
  refine ⟨rfl, ?_⟩
  rw [wp_bnd, wp_wrI, nI_1]
  refine ⟨rfl, ?_⟩
  have hs1 := hs.at (q := p + 1) (by omega)
  have fr1 : RFr σ (sa_upI σ 159 10 (nI (p + 1))) := RFr.up (by omega)
  generalize sa_upI σ 159 10 (nI (p + 1)) = σ1 at *
  obtain ⟨hlk, hs2, x10⟩ := hs1.look
  have hqN := hs1.nb.1
  generalize bk T N (p + 1) = q at *
  have fr2 : RFr σ (sa_upI σ1 159 10 (nI q)) := fr1.trans (RFr.up (by omega))
  rw [wp_bnd, wp_of_eq hlk]
  generalize sa_upI σ1 159 10 (nI q) = σ2 at *
  rw [wp_bnd, wp_of_eq (m_dig hs2.1 hqN x10), wp_if]
  cases e : isD (sgn T N q) with
  | false =>
    refine ⟨fun q => absurd rfl q, fun _ => ?_⟩
    have hn : ndg T N q 2 = 0 := ndg_of (i := 0) (fun y hy => by omega) (Or.inr e) (by omega)
    have hr : numR T N q 2 lo hi = (q, none) := by unfold numR; rw [hn, if_pos rfl]
    have fr3 : RFr σ (sa_upI σ2 159 11 (nI q)) := fr2.trans (RFr.up (by omega))
    rw [wp_bnd, wp_of_eq (hs2.fail x10), wp_ret, hr]
    exact ⟨fr3.j, by dsimp only; rw [upI_self, va_up_self], fr3.2.1 A hA.1⟩
  | true =>
    obtain ⟨d1, d2, d3, d4⟩ := isD_in e
    refine ⟨fun _ => ?_, fun q => absurd (show ¬ nI 1 = 0 by decide) q⟩
    have hlv : lkv T N q = nI (T q) := by unfold lkv; rw [if_pos d1]
    have ev : lkv T N q - 48 = nI (nmv T q 1) := by
      rw [hlv]
      have e1 : nI (T q) - 48 = nI (T q - 48) := pk_sub (a := T q) (b := 48) (by omega)
      rw [e1]
      congr 1
      show T q - 48 = 10 * 0 + (T (q + 0) - 48)
      rw [Nat.add_zero]
      omega
    rw [wp_let, ev, wp_bnd, wp_rdI, x10]
    refine ⟨rfl, ?_⟩
    rw [wp_bnd, wp_wrI, nI_1]
    refine ⟨rfl, ?_⟩
    have hs3 := hs2.at (q := q + 1) (by omega)
    have fr3 : RFr σ (sa_upI σ2 159 10 (nI (q + 1))) := fr2.trans (RFr.up (by omega))
    have y10 : (sa_upI σ2 159 10 (nI (q + 1))).1 159 10 = nI (q + 1) := by rw [upI_self, va_up_self]
    generalize sa_upI σ2 159 10 (nI (q + 1)) = σ3 at *
    rw [wp_bnd, wp_of_eq (m_dig hs3.1 (by omega) y10), wp_jn1, wp_if]
    cases e2 : isD (sgn T N (q + 1)) with
    | false =>
      refine ⟨fun _ => ?_, fun q => absurd rfl q⟩
      refine m_item2 (c := 1) hA hal hix hlen hlo hhi fr3 hs3 y10 (by omega) (by omega) (fun y hy => ?_) (Or.inr e2)
      have : y = 0 := by omega
      subst this
      exact e
    | true =>
      obtain ⟨g1, g2, g3, g4⟩ := isD_in e2
      refine ⟨fun q => absurd q (by decide), fun _ => ?_⟩
      have hh : f_X12_here 159 σ3 = some (nI (T (q + 1)), σ3) := by
        refine run_of ?_
        unfold f_X12_here
        rw [wp_gd]
        refine ⟨rfl, ?_⟩
        rw [wp_bnd, wp_rdI, y10]
        refine ⟨rfl, ?_⟩
        rw [wp_bnd, wp_rdI, hs3.1.2.2.2.2.2.2.1]
        refine ⟨rfl, ?_⟩
        rw [wp_jn1, wp_if, nI_leI (by omega) (by omega)]
        refine ⟨fun c => by omega, fun _ => ?_⟩
        rw [wp_bnd, wp_rdR (v := R) rfl hs3.1.2.2.2.2.1, wp_bnd, wp_rdI, hs3.1.2.2.2.2.2.1]
        refine ⟨rfl, ?_⟩
        rw [wp_bnd, wp_rdI, y10]
        refine ⟨rfl, ?_⟩
        rw [wp_bnd, hs3.1.ld g1, wp_ret, by_and _ (by omega)]
        exact ⟨rfl, rfl⟩
      have ev2 : 10 * nI (nmv T q 1) + nI (T (q + 1)) - 48 = nI (nmv T q 2) := by
        have e2 : (10 : Int32) * nI (nmv T q 1) = nI (10 * nmv T q 1) := pk_mul 10 (nmv T q 1)
        have e3 : nI (10 * nmv T q 1 + T (q + 1)) - 48 = nI (10 * nmv T q 1 + T (q + 1) - 48) := pk_sub (a := 10 * nmv T q 1 + T (q + 1)) (b := 48) (by omega)
        rw [e2, nI_add, e3]
        show nI _ = nI (10 * nmv T q 1 + (T (q + 1) - 48))
        congr 1
        omega
      rw [wp_bnd, wp_of_eq hh, wp_let, ev2, wp_bnd, wp_rdI, y10]
      refine ⟨rfl, ?_⟩
      rw [wp_bnd, wp_wrI, nI_1]
      refine ⟨rfl, ?_⟩
      have hs4 := hs3.at (q := q + 2) (by omega)
      have fr4 : RFr σ (sa_upI σ3 159 10 (nI (q + 2))) := fr3.trans (RFr.up (by omega))
      refine m_item2 (c := 2) hA hal hix hlen hlo hhi fr4 hs4 (by rw [upI_self, va_up_self]) (by omega) (by omega) (fun y hy => ?_) (Or.inl rfl)
      by_cases h0 : y = 0
      · subst h0; exact e
      · have h1 : y = 1 := by omega
        subst h1; exact e2
theorem m_items {k A off len : Nat} (hk : k < 4) (hA : A ≠ 159 ∧ A ≠ 160 ∧ A ≠ 161) (hal : sa_al .int A = len) (hof : off + cntI k ≤ len) (hlen : len < 1000) (hs : RSt T N R o d p σ) : wp (f_X12_readItems 159 (nI (chK k)) A (nI off) (1000 + (6 + k))) σ (fun _ τ => JFr A σ τ ∧ (∀ j, j < off ∨ off + cntI k ≤ j → τ.1 A j = σ.1 A j) ∧ match (itP T N k p).2 with
    | none => τ.1 159 11 = nI (itP T N k p).1
    | some v => RSt T N R o d (itP T N k p).1 τ ∧ ∀ i, i < cntI k → τ.1 A (off + i) = v i) := by
  have h240 := hs.1.2.1
  obtain ⟨c5, c2, hsl⟩ := cnt5 k hk
  have hA1 : (159 : Nat) ≠ A := fun e => hA.1 e.symm
  unfold f_X12_readItems
  rw [wp_gd]
  refine ⟨rfl, ?_⟩
  rw [wp_let]
  refine wp_for1 (cntI k) 0 (fun i τ => JFr A σ τ ∧ RSt T N R o d p τ ∧ (∀ j, j < off ∨ off + cntI k ≤ j → τ.1 A j = σ.1 A j) ∧ ∀ y, y < i → τ.1 A (off + y) = nI (usI k y)) ?_ ?_ ⟨JFr.rfl', hs, fun _ _ => rfl, fun y hy => by omega⟩ (Nat.zero_le _) (by unfold sa_F; omega)
  · rintro i τ hi ⟨fr, hst, hout, hrow⟩ j hj
    rw [wp_bnd, wp_of_eq (e_kl (j := 6 + k) (by omega)), hsl, wp_if]
    refine ⟨fun q => absurd q (nI_ge hi (by omega)), fun _ => ?_⟩
    rw [wp_bnd, wp_of_eq (m_usual k hk i hi τ), wp_bnd, nI_add, wp_stI (n := off + i) (len := len) hal rfl (by omega) (by omega), wp_let, nI_1]
    refine hj _ ⟨fr.trans (JFr.a hA.1), hst.arr hA, fun y hy => ?_, fun y hy => ?_⟩
    · rw [upI_self, va_up_ne _ _ (by omega)]; exact hout y hy
    · rw [upI_self]
      by_cases e : y = i
      · subst e; rw [va_up_self]
      · rw [va_up_ne _ _ (by omega)]; exact hrow y (by omega)
  · rintro τ ⟨fr, hst, hout, hrow⟩ j
    rw [wp_bnd, wp_of_eq (e_kl (j := 6 + k) (by omega)), hsl, wp_if]
    refine ⟨fun _ => ?_, fun q => absurd (nI_le (Nat.le_refl _) (by omega)) q⟩
    obtain ⟨hlk, hs1, x10⟩ := hst.look
    have fr1 : JFr A σ (sa_upI τ 159 10 (nI p)) := fr.trans (RFr.up (by omega)).j
    have out1 : ∀ j, j < off ∨ off + cntI k ≤ j → (sa_upI τ 159 10 (nI p)).1 A j = σ.1 A j := fun j a => by rw [upI_ne hA.1]; exact hout j a
    have row1 : ∀ y, y < cntI k → (sa_upI τ 159 10 (nI p)).1 A (off + y) = nI (usI k y) := fun y a => by rw [upI_ne hA.1]; exact hrow y a
    rw [wp_let, wp_bnd, wp_of_eq hlk]
    generalize sa_upI τ 159 10 (nI p) = τ1 at *
    rw [wp_bnd, wp_of_eq (pl_ix hs1.1 (j := 6 + k) (by omega))]
    clear hrow hout fr hlk
    refine wp_wh2 (fun f x7 x8 υ => JFr A σ υ ∧ (∀ j, j < off ∨ off + cntI k ≤ j → υ.1 A j = σ.1 A j) ∧ ((∃ (q m : Nat) (v : Nat → Int32), x7 = nI m ∧ x8 = oI (ixS (6 + k) (sgn T N q)) ∧ m < 32 ∧ f + pc m = 6 ∧ RSt T N R o d q υ ∧ υ.1 159 10 = nI q ∧ (∀ i, i < cntI k → υ.1 A (off + i) = v i) ∧ itL T N k f q m v = itP T N k p) ∨ (f = 0 ∧ ∃ q i, q ≤ N ∧ i < 5 ∧ x8 = nI i ∧ υ.1 159 11 = nI q ∧ itP T N k p = (q, none)))) ?_ sa_F 6 0 _ τ1 (by unfold sa_F; omega) ⟨fr1, out1, Or.inl ⟨p, 0, fun i => nI (usI k i), rfl, rfl, by omega, rfl, hs1, x10, row1, rfl⟩⟩
    clear fr1 out1 row1 x10 hs1 hst j
    rintro f x7 x8 υ ⟨fr, hout, hP⟩ j hj
    rcases hP with ⟨q, m, v, rfl, rfl, hm, hf, hst, h10, hrow, hc⟩ | ⟨-, q, i, hq, hi, rfl, h11, hc⟩
    · have h5 := pc_le m hm
      obtain ⟨f, rfl⟩ : ∃ f', f = f' + 1 := ⟨f - 1, by omega⟩
      have hun := itL_st (T := T) (N := N) (p := q) (k := k) (f := f) (m := m) (v := v)
      rw [hc] at hun
      rw [wp_jn0, wp_if]
      cases hi : ixS (6 + k) (sgn T N q) with
      | none =>
        refine ⟨fun _ => ?_, fun q => absurd rfl q⟩
        rw [wp_ret, hun.1 hi]
        exact ⟨fr, hout, hst, hrow⟩
      | some i =>
        have hic : i < cntI k := by rw [← hsl]; exact (ix_in hi (by omega)).2
        have hin := sgn_in (c := sgn T N q) (ix_in hi (by omega)).1 rfl
        obtain ⟨hs1, hs2⟩ := hun.2 i hi
        have hne : ¬ nI i = -1 := fun e => by
          have e' : nI i = mI := e
          rw [eq_mI (by omega)] at e'
          exact e'
        refine ⟨fun q => absurd q hne, fun _ => ?_⟩
        rw [wp_bnd, wp_rdI, hst.2.2.1]
        refine ⟨rfl, ?_⟩
        rw [wp_if]
        refine ⟨fun q => absurd rfl q, fun _ => ?_⟩
        rw [wp_bnd, wp_of_eq (show f_X12_has (nI m) (oI (some i)) υ = _ from m_hasb hm (by omega)), wp_if]
        cases hbt : bt m i with
        | true =>
          refine ⟨fun q => absurd q (by decide), fun _ => ?_⟩
          rw [wp_bnd, wp_of_eq (hst.fail h10), wp_ret, hs1 hbt]
          exact ⟨fr.trans (RFr.up (by omega)).j, fun j a => by rw [upI_ne hA.1]; exact hout j a, by dsimp only; rw [upI_self, va_up_self]⟩
        | false =>
          obtain ⟨hs3, hs4⟩ := hs2 hbt
          obtain ⟨pa1, pa2⟩ := pc_add m hm i (by omega) hbt
          have h99 := hi99 k hk i (by omega)
          have hqN := hst.nb.1
          obtain ⟨n1, n2, n3⟩ := num_adv (T := T) (N := N) (p := bk T N (q + 1)) (lo := loI k i) (hi := hiI k i) (bk_le (by omega)) (show 2 ≤ 4 by omega)
          refine ⟨fun _ => ?_, fun q => absurd rfl q⟩
          rw [wp_let]
          show wp (sa_bnd (f_X12_leastOf (nI (chK k)) (nI i)) fun v12 => sa_bnd (f_X12_mostOf (nI (chK k)) (nI i)) fun v13 => sa_bnd (f_X12_readItem 159 A (nI off + nI i) v12 v13) fun _ => sa_bnd (sa_rdI 12 159 11) fun v14 => if ¬ v14 = (-1) then j (nI m ||| (1 <<< (nI i &&& 31))) (nI i) else sa_bnd (f_X12_look 159) fun v15 => sa_bnd (f_X12_placeOf (1000 + (6 + k)) v15) fun v16 => j (nI m ||| (1 <<< (nI i &&& 31))) v16) υ _
          rw [bt_O m hm i (by omega) hbt, wp_bnd, wp_of_eq (m_lohi k hk i hic υ).1, wp_bnd, wp_of_eq (m_lohi k hk i hic υ).2, nI_add, wp_bnd]
          refine wp_mono (m_item hA hal (show off + i < len by omega) hlen (by omega) (by omega) hst h10 hin.1) (fun _ τ2 hr => ?_)
          obtain ⟨fr2, hr⟩ := hr
          have fr3 := fr.trans fr2
          generalize numR T N (bk T N (q + 1)) 2 (loI k i) (hiI k i) = r0 at *
          obtain ⟨q1, mm⟩ := r0
          rw [wp_bnd, wp_rdI]
          refine ⟨rfl, ?_⟩
          rw [wp_if]
          cases mm with
          | none =>
            obtain ⟨h11, hrA⟩ := hr
            dsimp only at h11 n1
            have hne2 : ¬ τ2.1 159 11 = -1 := fun e => by
              rw [h11] at e
              have e' : nI q1 = mI := e
              rw [eq_mI (by omega)] at e'
              exact e'
            refine ⟨fun _ => ?_, fun q => absurd hne2 q⟩
            refine hj 0 _ _ _ (by omega) ⟨fr3, fun j a => by rw [hrA]; exact hout j a, Or.inr ⟨rfl, q1, i, n1, by omega, rfl, h11, hs3 rfl⟩⟩
          | some n =>
            obtain ⟨hst2, hrA⟩ := hr
            dsimp only at hst2 hrA
            refine ⟨fun q => absurd hst2.2.2.1 q, fun _ => ?_⟩
            obtain ⟨hlk, hs5, x10⟩ := hst2.look
            rw [wp_bnd, wp_of_eq hlk, wp_bnd, wp_of_eq (pl_ix hs5.1 (j := 6 + k) (by omega))]
            refine hj f _ _ _ (by omega) ⟨fr3.trans (RFr.up (by omega)).j, fun j a => ?_, Or.inl ⟨q1, m + 2 ^ i, va_up v i (nI n), rfl, rfl, pa1, by omega, hs5, x10, fun y hy => ?_, (hs4 n rfl).symm⟩⟩
            · rw [upI_ne hA.1, hrA, va_up_ne _ _ (by omega)]; exact hout j a
            · rw [upI_ne hA.1, hrA]
              by_cases e : y = i
              · subst e; rw [va_up_self, va_up_self]
              · rw [va_up_ne _ _ (by omega), va_up_ne _ _ e]; exact hrow y hy
    · have hne : ¬ nI i = -1 := fun e => by
        have e' : nI i = mI := e
        rw [eq_mI (by omega)] at e'
        exact e'
      have hne2 : ¬ υ.1 159 11 = -1 := fun e => by
        rw [h11] at e
        have e' : nI q = mI := e
        rw [eq_mI (by omega)] at e'
        exact e'
      rw [wp_jn0, wp_if]
      refine ⟨fun q => absurd q hne, fun _ => ?_⟩
      rw [wp_bnd, wp_rdI]
      refine ⟨rfl, ?_⟩
      rw [wp_if]
      refine ⟨fun _ => ?_, fun q => absurd hne2 q⟩
      rw [wp_ret, hc]
      exact ⟨fr, hout, h11⟩
end MITEM
