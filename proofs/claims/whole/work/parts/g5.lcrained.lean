/-! STREAKS: in which hours it rained -/
section RND
variable {L P W F n : Nat} {f : Nat → LWt} {z : Nat → Int32} {hold : Int32} {sk : Nat → Nat → Int32} {k wl : Nat → Int32} {σ : sa_St} {wr md h0 c a0 to g nz : Nat} {q : List Nat} {pl fo : Nat → Nat}
theorem m_rainedL {a3 r : Int32} {Q : Int32 → sa_St → Prop} (hV : MV L P W F n f z hold sk k wl σ) (hgo : Go k c wr md h0) (hg : k (23 + 7 * c + 2) = nI g) (hg9 : g ≤ 99) (hpa : Pa P W z a0 to q) (hH : vHr W z q ≤ 12) (h55 : σ.1 159 55 = nI q.length) (h56 : σ.1 159 56 = nI (vHr W z q)) (h184 : ∀ j, j < q.length → σ.1 184 j = nI (q.getD j 0)) (hs : SY P nz pl fo σ) (ha : (a3 = -1 ∧ r = nI (fitL (fun S => okB W z (lsS f hold z wr md h0) q g nz pl fo S (q.length - 1)) (2 ^ vHr W z q)).length) ∨ ∃ i : Nat, i < 2 ^ 31 ∧ a3 = nI i ∧ r = oI (fitL (fun S => okB W z (lsS f hold z wr md h0) q g nz pl fo S (q.length - 1)) (2 ^ vHr W z q))[i]?) (hQ : ∀ τ, YF n f σ τ → Q r τ) :
    wp (sa_wh2 (fun j37 (x5 : Int32) (x6 : Int32) =>
sa_bnd (sa_rdI 12 159 56) fun v7 =>
if (1 <<< (v7 &&& 31)) ≤ x6 then
sa_jn1 (fun (y8 : Int32) =>
sa_ret (y8 : Int32)) fun j90 =>
if ¬ a3 = (-1) then
j90 (-1)
else
j90 x5
else
sa_bnd (f_X12_isSo 159 (nI c) x6) fun v9 =>
sa_jn1 (fun (x10 : Int32) =>
sa_let ((x6 + 1) : Int32) fun x11 =>
j37 x10 x11) fun j73 =>
if ¬ v9 = 0 then
if ¬ x5 = a3 then
sa_let ((x5 + 1) : Int32) fun x12 =>
j73 x12
else
sa_ret (x6 : Int32)
else
j73 x5) sa_F 0 0) σ Q := by
  have hp12 := pow_12 hH
  have hsh : ((1 : Int32) <<< (nI (vHr W z q) &&& 31)) = nI (2 ^ vHr W z q) := shl12 _ hH
  have hm : ∀ i : Nat, i < 2 ^ 31 → ¬ nI i = (-1 : Int32) := fun i hi e => by
    have e' : nI i = mI := e
    rw [eq_mI hi] at e'
    exact e'
  have hso : ∀ (S : Nat) (τ : sa_St), S < 2 ^ 31 → YF n f σ τ → ∀ Q : Int32 → sa_St → Prop, (∀ υ, YF n f σ υ → Q (nI (if okB W z (lsS f hold z wr md h0) q g nz pl fo S (q.length - 1) then 1 else 0)) υ) → wp (f_X12_isSo 159 (nI c) (nI S)) τ Q := fun S τ hS yf Q h => m_isSo (hV.yf yf) hgo hg hg9 hpa hH (by rw [yf.2.2.1 55 (pf_no (by omega))]; exact h55) (fun j hj => by rw [yf.2.1 184 (nm_M 184 (by omega)) (by omega)]; exact h184 j hj) (hs.yf yf) hS (fun υ yf2 => h υ (yf.trans yf2))
  generalize (fun S => okB W z (lsS f hold z wr md h0) q g nz pl fo S (q.length - 1)) = ok at ha
  sorry
end RND
