/-! MAPS, drawn by the class: all of it -/
section MAPS
variable {D W : Nat} {σ : sa_St}
theorem MFr.rfl' : MFr D σ σ := ⟨rfl, fun _ _ _ _ => rfl⟩
theorem MFr.set {j : Nat} {g : Nat → Int32} (hj : j = D + 3 ∨ j = D + 4 ∨ j = D + 5) : MFr D σ (va_up σ.1 j g, σ.2) := ⟨rfl, fun i a b c => va_up_ne _ _ (by omega)⟩
theorem MFr.up {j x : Nat} {v : Int32} (hj : j = D + 3 ∨ j = D + 4 ∨ j = D + 5) : MFr D σ (sa_upI σ j x v) := ⟨rfl, fun i a b c => by rw [upI_ne (by omega)]⟩
theorem c_drawMaps {z : Nat → Int32} (hD : D = 3 ∨ D = 9) (hk : SK σ.2.1) (hz : σ.1 (D + 2) = z) (hc : σ.1 (D + 1) 1 = nI W) (hw : WyOk W z) {Q : Unit → sa_St → Prop} (hQ : ∀ τ, MFr D σ τ → (∀ a b, a < 8 → b < 8 → LowR W z a b (τ.1 (D + 3) (8 * a + b))) → (∀ a b : Nat, a < 8 → b < 8 → τ.1 (D + 4) (8 * a + b) = nI (mpN (mp0 W (fun k => (z (60 + 5 * k + 2)).toNatClampNeg) (wayB z)) 8 a b)) → (∀ a b : Nat, a < 8 → b < 8 → τ.1 (D + 5) (8 * a + b) = nI (mpN (mp0 W (fun _ => 1) (wayB z)) 8 a b)) → Q () τ) : wp (f_X1_drawMaps D) σ Q := by
  obtain ⟨s2, s3, s4⟩ := sk_D2 hD hk
  obtain ⟨l3, l4, l5⟩ := al_D3 hD
  have hW := hw.1
  have ref : ∀ {τ : sa_St}, MFr D σ τ → SK τ.2.1 ∧ τ.2.1 D 2 = D + 3 + 1 ∧ τ.2.1 D 3 = D + 4 + 1 ∧ τ.2.1 D 4 = D + 5 + 1 ∧ τ.2.1 D 0 = D + 1 + 1 := fun {τ} h => by
    rw [h.1]
    exact ⟨hk, s2, s3, s4, sk_D0 hD hk⟩
  unfold f_X1_drawMaps
  rw [wp_gd]
  refine ⟨sh_D hD, ?_⟩
  rw [wp_bnd, wp_rdR (v := D + 3) (sh_D hD) s2, wp_bnd]
  refine wp_fillI l3 (by omega) (by omega) (fun g1 hg1 _ => ?_)
  have f1 : MFr D σ (va_up σ.1 (D + 3) g1, σ.2) := MFr.set (Or.inl rfl)
  have e13 : (va_up σ.1 (D + 3) g1, σ.2).1 (D + 3) = g1 := va_up_self _ _ _
  generalize (va_up σ.1 (D + 3) g1, σ.2) = σ1 at *
  rw [wp_bnd, wp_rdR (v := D + 4) (sh_D hD) (ref f1).2.2.1, wp_bnd]
  refine wp_fillI l4 (by omega) (by omega) (fun g2 hg2 _ => ?_)
  have f2 : MFr D σ (va_up σ1.1 (D + 4) g2, σ1.2) := f1.trans (MFr.set (Or.inr (Or.inl rfl)))
  have e23 : (va_up σ1.1 (D + 4) g2, σ1.2).1 (D + 3) = g1 := (va_up_ne _ _ (by omega)).trans e13
  have e24 : (va_up σ1.1 (D + 4) g2, σ1.2).1 (D + 4) = g2 := va_up_self _ _ _
  generalize (va_up σ1.1 (D + 4) g2, σ1.2) = σ2 at *
  rw [wp_bnd, wp_rdR (v := D + 5) (sh_D hD) (ref f2).2.2.2.1, wp_bnd]
  refine wp_fillI l5 (by omega) (by omega) (fun g3 hg3 _ => ?_)
  have f3 : MFr D σ (va_up σ2.1 (D + 5) g3, σ2.2) := f2.trans (MFr.set (Or.inr (Or.inr rfl)))
  have e33 : (va_up σ2.1 (D + 5) g3, σ2.2).1 (D + 3) = g1 := (va_up_ne _ _ (by omega)).trans e23
  have e34 : (va_up σ2.1 (D + 5) g3, σ2.2).1 (D + 4) = g2 := (va_up_ne _ _ (by omega)).trans e24
  have e35 : (va_up σ2.1 (D + 5) g3, σ2.2).1 (D + 5) = g3 := va_up_self _ _ _
  generalize (va_up σ2.1 (D + 5) g3, σ2.2) = σ3 at *
  rw [wp_let]
  refine wp_for1 8 0 (fun i τ => MFr D σ τ ∧ τ.1 (D + 3) = g1 ∧ ∀ a b, a < 8 → b < 8 → τ.1 (D + 4) (8 * a + b) = nI (if a = b ∧ a < i then 0 else 1000) ∧ τ.1 (D + 5) (8 * a + b) = nI (if a = b ∧ a < i then 0 else 1000)) ?_ ?_ ⟨f3, e33, fun a b ha hb => ?_⟩ (by omega) (by unfold sa_F; omega)
  · rintro i τ hi ⟨fr, t3, tt⟩ j hj
    rw [wp_if]
    refine ⟨fun q => absurd q (nI_ge (a := i) (b := 8) hi (by decide)), fun _ => ?_⟩
    rw [wp_bnd, wp_rdR (v := D + 4) (sh_D hD) (ref fr).2.2.1, wp_bnd, ix8, wp_stI (n := 8 * i + i) (len := 64) l4 rfl (by omega) (by omega), wp_bnd, wp_rdR (v := D + 5) (sh_D hD) (show (sa_upI τ (D + 4) (8 * i + i) 0).2.1 D 4 = D + 5 + 1 from (ref fr).2.2.2.1), wp_bnd, wp_stI (n := 8 * i + i) (len := 64) l5 rfl (by omega) (by omega), wp_let, nI_1]
    refine hj _ ⟨fr.trans (MFr.trans (MFr.up (Or.inr (Or.inl rfl))) (MFr.up (Or.inr (Or.inr rfl)))), by rw [upI_ne (by omega), upI_ne (by omega)]; exact t3, fun a b ha hb => ?_⟩
    obtain ⟨u1, u2⟩ := tt a b ha hb
    rw [upI_ne (by omega), upI_self, upI_self, upI_ne (by omega)]
    by_cases c : a = i ∧ b = i
    · obtain ⟨rfl, rfl⟩ := c
      rw [va_up_self, va_up_self, if_pos (by omega)]
      exact ⟨rfl, rfl⟩
    · rw [va_up_ne _ _ (by omega), va_up_ne _ _ (by omega), u1, u2]
      by_cases c2 : a = b ∧ a < i
      · rw [if_pos c2, if_pos (by omega)]
        exact ⟨rfl, rfl⟩
      · rw [if_neg c2, if_neg (by omega)]
        exact ⟨rfl, rfl⟩
  · rintro τ ⟨fr, t3, tt⟩ j
    rw [wp_if]
    refine ⟨fun _ => ?_, fun q => absurd (show (8 : Int32) ≤ nI 8 by decide) q⟩
    rw [wp_bnd, wp_rdR (v := D + 1) (sh_D hD) (ref fr).2.2.2.2, wp_bnd, wp_ldI (j := 1) (n := 1) (len := 4) (al_D1 hD) rfl (by omega) (by omega), fr.2 (D + 1) (by omega) (by omega) (by omega), hc, wp_let]
    have hI0 : MpI D W z W τ := by
      refine ⟨fun a b ha hb => Or.inl ⟨by rw [t3]; exact hg1 _ (by omega), fun k h1 h2 => by omega⟩, fun a b => if a = b ∧ a < 8 then 0 else 1000, fun a b => if a = b ∧ a < 8 then 0 else 1000, fun a b ha hb => ?_⟩
      obtain ⟨u1, u2⟩ := tt a b ha hb
      refine ⟨u1, u2, by dsimp only; split <;> omega, by dsimp only; split <;> omega, fun e => by dsimp only; rw [if_pos ⟨e, ha⟩]; exact ⟨rfl, rfl⟩, fun e => ?_⟩
      dsimp only
      rw [if_neg (by omega), dnW_min e _ _ (Nat.le_refl _), dnW_min e _ _ (Nat.le_refl _)]
      have m1 := mp0_le (c := fun k => (z (60 + 5 * k + 2)).toNatClampNeg) (e := wayB z) W a b
      have m2 := mp0_le (c := fun _ => 1) (e := wayB z) W a b
      exact ⟨by omega, by omega, by omega⟩
    refine wp_wh1 (fun m x υ => ∃ i, m = i ∧ i ≤ W ∧ x = nI i - 1 ∧ MFr D σ υ ∧ MpI D W z i υ) ?_ sa_F W _ τ (by unfold sa_F; omega) ⟨W, rfl, Nat.le_refl _, rfl, fr, hI0⟩
    clear hI0 tt t3 fr j
    rintro m x υ ⟨i, rfl, hi, rfl, fr, hI⟩ j hj
    cases m with
    | zero =>
      rw [wp_if]
      refine ⟨fun _ => ?_, fun q => absurd (show nI 0 - 1 < 0 by decide) q⟩
      obtain ⟨hlow, h, w, hhw⟩ := hI
      rw [wp_bnd, wp_rdR (v := D + 4) (sh_D hD) (ref fr).2.2.1, wp_bnd]
      refine c_shorten (m := mp0 W (fun k => (z (60 + 5 * k + 2)).toNatClampNeg) (wayB z)) l4 (fun a => mp0_diag a) (fun a b => mp0_le W a b) (fun a b ha hb => ?_) (fun τ1 g1 g2 g3 => ?_)
      · obtain ⟨r1, r2, r3, r4, r5, r6⟩ := hhw a b ha hb
        rw [r1]
        by_cases e : a = b
        · rw [(r5 e).1, e, mp0_diag]
        · rw [← (r6 e).2.1]
          rfl
      · have fr1 : MFr D σ τ1 := fr.trans ⟨g1, fun j a b c => g2 j b⟩
        rw [wp_bnd, wp_rdR (v := D + 5) (sh_D hD) (ref fr1).2.2.2.1, wp_bnd]
        refine c_shorten (m := mp0 W (fun _ => 1) (wayB z)) l5 (fun a => mp0_diag a) (fun a b => mp0_le W a b) (fun a b ha hb => ?_) (fun τ2 k1 k2 k3 => ?_)
        · obtain ⟨r1, r2, r3, r4, r5, r6⟩ := hhw a b ha hb
          rw [g2 (D + 5) (by omega), r2]
          by_cases e : a = b
          · rw [(r5 e).2, e, mp0_diag]
          · rw [← (r6 e).2.2]
            rfl
        · rw [wp_ret]
          refine hQ τ2 (fr1.trans ⟨k1, fun j a b c => k2 j c⟩) (fun a b ha hb => ?_) (fun a b ha hb => ?_) k3
          · rw [k2 (D + 3) (by omega), g2 (D + 3) (by omega)]
            rcases hlow a b ha hb with ⟨v1, v2⟩ | ⟨k2, v1, v2, v3, v4, v5⟩
            · exact Or.inl ⟨v1, fun k hk => v2 k (Nat.zero_le _) hk⟩
            · exact Or.inr ⟨k2, v2, v3, v4, fun j hj => v5 j (Nat.zero_le _) hj⟩
          · rw [k2 (D + 4) (by omega)]
            exact g3 a b ha hb
    | succ i =>
      rw [nI_pred, wp_if]
      refine ⟨fun q => absurd q (nI_pos (by omega)), fun _ => ?_⟩
      refine c_way1 hD (ref fr).1 ((fr.2 (D + 2) (by omega) (by omega) (by omega)).trans hz) hw (by omega) hI (fun τ1 f1 h1 => ?_)
      exact hj i _ _ (by omega) ⟨i, rfl, by omega, (Int32.sub_eq_add_neg (nI i) 1).symm, fr.trans f1, h1⟩
  · rw [e34, e35, hg2 _ (by omega), hg3 _ (by omega), if_neg (by omega)]
    exact ⟨rfl, rfl⟩
end MAPS
