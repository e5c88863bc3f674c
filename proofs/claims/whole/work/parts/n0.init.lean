/-! WHAT STANDS BEHIND THE CONSTRUCTORS -/
def Z22 (σ : sa_St) : Prop := ∀ j k, σ.2.2 j k = 0
section INIT
variable {σ : sa_St}
theorem Z22.nw {N : Nat} (h : Z22 σ) : Z22 (sa_nw σ N) := fun j k => by
  show va_up σ.2.2 N (fun _ => 0) j k = 0
  by_cases e : j = N
  · rw [e, va_up_self]
  · rw [va_up_ne _ _ e]; exact h j k
theorem Z22.upR {a b v : Nat} (h : Z22 σ) : Z22 (sa_upR σ a b v) := h
theorem Z22.upI {a b : Nat} {v : Int32} (h : Z22 σ) : Z22 (sa_upI σ a b v) := h
theorem Z22.fl {a n : Nat} {v : Int32} (h : Z22 σ) : Z22 (sa_fl σ a v n) := h
theorem Z22.nw2 {N : Nat} (h : Z22 σ) : Z22 (sa_nw2 σ N) := by
  unfold sa_nw2
  have h1 : Z22 ((sa_nw σ N).1, va_up (sa_nw σ N).2.1 N (fun j => if j < 8 then N + 1 + j + 1 else 0), (sa_nw σ N).2.2) := h.nw (N := N)
  exact (((((((h1.nw).nw).nw).nw).nw).nw).nw).nw
theorem Z22.X0 {o N : Nat} (h : Z22 σ) : Z22 (t_X0 o N σ) := h.nw.upR
theorem Z22.X4 {o N : Nat} (h : Z22 σ) : Z22 (t_X4 o N σ) := h.nw.upR
theorem Z22.X7 (h : Z22 σ) : Z22 (t_X7 σ) := h.nw.upR
theorem Z22.X1 {o N : Nat} (h : Z22 σ) : Z22 (t_X1 o N σ) := by
  unfold t_X1
  repeat' first | exact h | apply Z22.upR | apply Z22.nw
theorem Z22.X2 {o N : Nat} (h : Z22 σ) : Z22 (t_X2 o N σ) := by
  unfold t_X2
  repeat' first | exact h | apply Z22.upR | apply Z22.nw
theorem Z22.X3 (h : Z22 σ) : Z22 (t_X3 σ) := by
  unfold t_X3 t_X3_0
  repeat' first | exact h | apply Z22.upR | apply Z22.nw | apply Z22.upI | apply Z22.X2
theorem Z22.X50 (h : Z22 σ) : Z22 (t_X5_0 σ) := by
  unfold t_X5_0
  repeat' first | exact h | apply Z22.upR | apply Z22.nw | apply Z22.X0
theorem Z22.X51 (h : Z22 σ) : Z22 (t_X5_1 σ) := by
  unfold t_X5_1
  repeat' first | exact h | apply Z22.upR | apply Z22.nw | apply Z22.X0 | apply Z22.X50 | apply Z22.X51 | apply Z22.X52 | apply Z22.X53 | apply Z22.X54 | apply Z22.X55 | apply Z22.X56 | apply Z22.X57
theorem Z22.X52 (h : Z22 σ) : Z22 (t_X5_2 σ) := by
  unfold t_X5_2
  repeat' first | exact h | apply Z22.upR | apply Z22.nw | apply Z22.X0 | apply Z22.X50 | apply Z22.X51 | apply Z22.X52 | apply Z22.X53 | apply Z22.X54 | apply Z22.X55 | apply Z22.X56 | apply Z22.X57
theorem Z22.X53 (h : Z22 σ) : Z22 (t_X5_3 σ) := by
  unfold t_X5_3
  repeat' first | exact h | apply Z22.upR | apply Z22.nw | apply Z22.X0 | apply Z22.X50 | apply Z22.X51 | apply Z22.X52 | apply Z22.X53 | apply Z22.X54 | apply Z22.X55 | apply Z22.X56 | apply Z22.X57
theorem Z22.X54 (h : Z22 σ) : Z22 (t_X5_4 σ) := by
  unfold t_X5_4
  repeat' first | exact h | apply Z22.upR | apply Z22.nw | apply Z22.X0 | apply Z22.X50 | apply Z22.X51 | apply Z22.X52 | apply Z22.X53 | apply Z22.X54 | apply Z22.X55 | apply Z22.X56 | apply Z22.X57
theorem Z22.X55 (h : Z22 σ) : Z22 (t_X5_5 σ) := by
  unfold t_X5_5
  repeat' first | exact h | apply Z22.upR | apply Z22.nw | apply Z22.X0 | apply Z22.X50 | apply Z22.X51 | apply Z22.X52 | apply Z22.X53 | apply Z22.X54 | apply Z22.X55 | apply Z22.X56 | apply Z22.X57
theorem Z22.X56 (h : Z22 σ) : Z22 (t_X5_6 σ) := by
  unfold t_X5_6
  repeat' first | exact h | apply Z22.upR | apply Z22.nw | apply Z22.X0 | apply Z22.X50 | apply Z22.X51 | apply Z22.X52 | apply Z22.X53 | apply Z22.X54 | apply Z22.X55 | apply Z22.X56 | apply Z22.X57
theorem Z22.X57 (h : Z22 σ) : Z22 (t_X5_7 σ) := by
  unfold t_X5_7
  repeat' first | exact h | apply Z22.upR | apply Z22.nw | apply Z22.X0 | apply Z22.X50 | apply Z22.X51 | apply Z22.X52 | apply Z22.X53 | apply Z22.X54 | apply Z22.X55 | apply Z22.X56 | apply Z22.X57
theorem Z22.X58 (h : Z22 σ) : Z22 (t_X5_8 σ) := by
  unfold t_X5_8
  repeat' first | exact h | apply Z22.upR | apply Z22.nw | apply Z22.X0 | apply Z22.X50 | apply Z22.X51 | apply Z22.X52 | apply Z22.X53 | apply Z22.X54 | apply Z22.X55 | apply Z22.X56 | apply Z22.X57
theorem Z22.X5 (h : Z22 σ) : Z22 (t_X5 σ) := by
  unfold t_X5
  repeat' first | exact h | apply Z22.upR | apply Z22.nw | apply Z22.X0 | apply Z22.X58
theorem Z22.X6 (h : Z22 σ) : Z22 (t_X6 σ) := h.nw.upR.fl
theorem Z22.X9 (h : Z22 σ) : Z22 (t_X9 σ) := by
  unfold t_X9
  exact h.nw.upR.nw.upR.nw.upR.nw2.upR.nw.upR.nw.upR.upR.upR
theorem Z22.X8 (h : Z22 σ) : Z22 (t_X8 σ) := by
  unfold t_X8
  repeat' first | exact h | apply Z22.upR | apply Z22.nw
theorem Z22.X10 (h : Z22 σ) : Z22 (t_X10 σ) := by
  unfold t_X10
  repeat' first | exact h | apply Z22.upR | apply Z22.nw
theorem Z22.X110 (h : Z22 σ) : Z22 (t_X11_0 σ) := by
  unfold t_X11_0
  repeat' first | exact h | apply Z22.upR | apply Z22.nw | apply Z22.X4 | apply Z22.X3 | apply Z22.X1 | apply Z22.X7
theorem Z22.X11 (h : Z22 σ) : Z22 (t_X11 σ) := by
  unfold t_X11
  exact h.X110.nw.X4.upR.nw.X4.upR.nw.X4.upR.nw.X0.upR.nw.X0.upR.nw.X5.upR.nw.X6.upR.nw.X9.upR.nw.X8.upR.nw.X10.upR
theorem Z22.X12 (h : Z22 σ) : Z22 (t_X12 σ) := by
  unfold t_X12
  repeat' first | exact h | apply Z22.upR | apply Z22.nw | apply Z22.upI
theorem Z22.init : Z22 sa_init := by
  have h0 : Z22 st_0 := fun _ _ => rfl
  exact (h0.nw.X11.nw.X12).nw
end INIT
theorem in_sk : SK sa_init.2.1 := by
  unfold SK
  decide +kernel
theorem in_li : sa_init.2.1 0 1 = 4 ∧ sa_init.2.1 0 2 = 10 := by decide +kernel
theorem in_c : ∀ q ∈ ([(1, 1), (159, 6), (4, 0), (4, 1), (4, 3), (159, 25), (159, 26), (159, 27), (15, 2), (159, 7), (0, 5), (159, 34), (48, 3), (48, 4), (159, 43), (48, 2), (159, 73), (134, 1), (159, 48), (151, 2), (159, 69)] : List (Nat × Nat)), sa_init.1 q.1 q.2 = 0 := by decide +kernel
theorem in_m : sa_init.1 15 3 = -1 ∧ sa_init.1 159 37 = -1 := by decide +kernel
theorem in_45 : ∀ j, j < 79 → sa_init.1 45 j = 0 := by decide +kernel
theorem in_173 : ∀ j, j < 80 → sa_init.1 173 j = 0 := by decide +kernel
theorem in_135 : ∀ j, j < 200 → sa_init.1 135 j = -1 := by decide +kernel
theorem src_lt {j : Nat} (hj : j < 79) : src j < 79 := by
  unfold src
  repeat' split
  all_goals omega
theorem inv_init : Inv 0 sa_init := by
  have c : ∀ a b, (a, b) ∈ ([(1, 1), (159, 6), (4, 0), (4, 1), (4, 3), (159, 25), (159, 26), (159, 27), (15, 2), (159, 7), (0, 5), (159, 34), (48, 3), (48, 4), (159, 43), (48, 2), (159, 73), (134, 1), (159, 48), (151, 2), (159, 69)] : List (Nat × Nat)) → sa_init.1 a b = nI 0 := fun a b h => in_c (a, b) h
  have zl : ∀ s, sa_init.2.2 175 s = 0 := fun s => Z22.init 175 s
  have k0 := in_sk
  have k1 := in_li
  have k2 := in_m
  have k3 := in_45
  have k4 := in_173
  have k5 := in_135
  generalize sa_init = σ at *
  refine ⟨k0, 3, 0, 0, 0, 0, fun _ _ _ _ _ _ => 0, Or.inl ⟨rfl, k1⟩, ⟨0, by omega, c 1 1 (by decide), c 159 6 (by decide), fun i hi => by omega⟩, ?_, fun h => by omega, ?_, ?_, ?_, ?_, ?_, ?_, ?_⟩
  · unfold I_L
    exact ⟨⟨by omega, by omega, by omega⟩, ⟨c 4 0 (by decide), c 4 1 (by decide), c 4 3 (by decide), c 159 25 (by decide), c 159 26 (by decide), c 159 27 (by decide)⟩, fun p hp => by omega, fun p hp => by omega, fun p hp => by omega⟩
  · unfold I_W
    refine ⟨by omega, c 15 2 (by decide), c 159 7 (by decide), Or.inl k2, fun l hl => by omega, fun s l g w h m t hs hl hg hw hh hm ht e => ?_⟩
    rw [zl s] at e
    exact absurd e.symm (lN_ne0 (by unfold memoKey; omega) (by unfold memoKey; omega))
  · unfold I_O
    exact ⟨0, by omega, c 0 5 (by decide), c 159 34 (by decide), fun o ho => by omega⟩
  · unfold I_C
    refine ⟨⟨0, by omega, k3 22 (by omega), ⟨0, by omega, k3 21 (by omega)⟩, fun i hi => by omega, fun i _ hi => k3 _ (by omega), fun p hp => ⟨⟨0, by omega, k3 p (by omega)⟩, fun _ => k3 p (by omega), 0, by omega, k3 (8 + p) (by omega)⟩, fun f hf => ⟨0, by omega, k3 (16 + f) (by omega)⟩⟩, σ.1 173, ?_, 0, by omega, k3 21 (by omega), k4 79 (by omega), fun i x hi => by omega⟩
    funext j
    by_cases hj : j < 79
    · rw [toW_src hj, k3 _ (src_lt hj)]
      exact k4 j (by omega)
    · rw [toW_hi (by omega)]
  · unfold I_P
    exact ⟨0, 0, by omega, by omega, c 48 3 (by decide), c 48 4 (by decide), c 159 43 (by decide), fun i hi => by omega⟩
  · unfold I_G
    exact Or.inl ⟨c 48 2 (by decide), c 159 73 (by decide)⟩
  · unfold I_S
    refine ⟨0, by omega, c 134 1 (by decide), c 159 48 (by decide), fun p h hp h1 h2 => ?_, fun i hi => by omega⟩
    exact (k5 _ (by omega)).trans rfl
  · unfold I_Z
    exact ⟨0, by omega, c 151 2 (by decide), c 159 69 (by decide), fun i hi => by omega⟩
/-- every call: class and reference alike -/
theorem all_alike (K : Nat) (h : K ≤ 512) : lc_all (Inv K) (Inv (K + 1)) := ⟨lc0 K, lc1 K, lc2 K, lc3 K, lc4 K, lc5 K, lc6 K, lc7 K, lc8 K, lc9 K h, lc10 K h, lc11 K h, lc12 K h, lc13 K h, lc14 K h, lc15 K h, lc16 K, lc17 K, lc18 K, lc19 K h, lc20 K h, lc21 K, lc22 K h, lc23 K h, lc24 K h, lc25 K h, lc26 K, lc27 K, lc28 K, lc29 K h, lc30 K, lc31 K, lc32 K, lc33 K, lc34 K, lc35 K, lc36 K, lc37 K⟩
