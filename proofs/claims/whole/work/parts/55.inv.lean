/-! WHAT STANDS BETWEEN CALLS. Of each part: what the class holds, what the reference holds, and how they belong together. -/
def TapeR (sz len : Int32) (sg tp : Nat → Int32) : Prop := ∃ n : Nat, n ≤ 240 ∧ sz = nI n ∧ len = nI n ∧ ∀ i : Nat, i < n → ∃ b : Nat, 0 < b ∧ b < 256 ∧ sg i = nI b ∧ tp i = vp_nar .byte (nI b)
/-- a land of P places, W ways, F foes -/
def LandR (P W F : Nat) (c z pl wy fo : Nat → Int32) (rP rW rF : Int32) : Prop :=
  (P ≤ 8 ∧ W ≤ 12 ∧ F ≤ 3) ∧ (c 0 = nI P ∧ c 1 = nI W ∧ c 3 = nI F ∧ rP = nI P ∧ rW = nI W ∧ rF = nI F) ∧
  (∀ p : Nat, p < P → (∃ h : Nat, h ≤ 9 ∧ z (5 * p) = nI h) ∧ (∃ r : Nat, r ≤ 1 ∧ z (5 * p + 1) = nI r) ∧ (∃ r : Nat, r ≤ 99 ∧ z (5 * p + 2) = nI r) ∧ (∃ s : Nat, s ≤ 9 ∧ z (5 * p + 3) = nI s) ∧ ∀ j : Nat, j < 4 → pl (4 * p + j) = z (5 * p + j)) ∧
  (∀ k : Nat, k < W → (∃ a b : Nat, a < P ∧ b < P ∧ a ≠ b ∧ z (60 + 5 * k) = nI a ∧ z (60 + 5 * k + 1) = nI b) ∧ (∃ t : Nat, 1 ≤ t ∧ t ≤ 9 ∧ z (60 + 5 * k + 2) = nI t) ∧ (∃ f : Nat, f ≤ 9 ∧ z (60 + 5 * k + 3) = nI f) ∧ ∀ j : Nat, j < 4 → wy (4 * k + j) = z (60 + 5 * k + j)) ∧
  (∀ f : Nat, f < F → (∃ p : Nat, p < P ∧ z (180 + 5 * f) = nI p) ∧ (∃ b : Nat, b ≤ 9 ∧ z (180 + 5 * f + 1) = nI b) ∧ ∀ j : Nat, j < 2 → fo (2 * f + j) = z (180 + 5 * f + j))
/-- whether the k-th way lies between a and b -/
def wayIs (z : Nat → Int32) (a b k : Nat) : Prop := (z (60 + 5 * k) = nI a ∧ z (60 + 5 * k + 1) = nI b) ∨ (z (60 + 5 * k) = nI b ∧ z (60 + 5 * k + 1) = nI a)
/-- the lowest way between two places -/
def LowR (W : Nat) (z : Nat → Int32) (a b : Nat) (v : Int32) : Prop := (v = -1 ∧ ∀ k : Nat, k < W → ¬ wayIs z a b k) ∨ ∃ k : Nat, k < W ∧ v = nI k ∧ wayIs z a b k ∧ ∀ j : Nat, j < k → ¬ wayIs z a b j
/-- maps: of the fewest hours, or ways, from place to place, as they are drawn: at first, and by each place -/
def mp0 (W : Nat) (c : Nat → Nat) (e : Nat → Nat → Nat → Bool) (a b : Nat) : Nat := if a = b then 0 else ((List.range W).filter (e a b)).foldl (fun v k => min v (c k)) 1000
def mpS (m : Nat → Nat → Nat) (by_ : Nat) (a b : Nat) : Nat := min (m a b) (m a by_ + m by_ b)
def mpN (m : Nat → Nat → Nat) : Nat → Nat → Nat → Nat
  | 0 => m
  | n + 1 => mpS (mpN m n) n
def wayB (z : Nat → Int32) (a b k : Nat) : Bool := decide ((z (60 + 5 * k) = nI a ∧ z (60 + 5 * k + 1) = nI b) ∨ (z (60 + 5 * k) = nI b ∧ z (60 + 5 * k + 1) = nI a))
def MapR (P W : Nat) (z low hr wa : Nat → Int32) : Prop :=
  (∀ a b : Nat, a < P → b < P → LowR W z a b (low (8 * a + b))) ∧
  (∀ a b : Nat, a < 8 → b < 8 → hr (8 * a + b) = nI (mpN (mp0 W (fun k => (z (60 + 5 * k + 2)).toNatClampNeg) (wayB z)) 8 a b)) ∧
  (∀ a b : Nat, a < 8 → b < 8 → wa (8 * a + b) = nI (mpN (mp0 W (fun _ => 1) (wayB z)) 8 a b))
/-- a camp's cells: H hours at most, B grains on a ground at most -/
def KV (P W H B : Nat) (k : Nat → Int32) : Prop := ∃ m : Nat, m ≤ 8 ∧ k 22 = nI m ∧ (∃ h : Nat, h ≤ H ∧ k 21 = nI h) ∧
  (∀ i : Nat, i < m → (∃ p : Nat, p < P ∧ k (23 + 7 * i + 0) = nI p) ∧ (∃ l v : Nat, l ≤ 9 ∧ v < 12 ∧ (0 < l → v < W) ∧ k (23 + 7 * i + 1) = nI l ∧ k (23 + 7 * i + 6) = nI v) ∧ (∃ g : Nat, g ≤ 99 ∧ k (23 + 7 * i + 2) = nI g) ∧ (∃ w : Nat, w ≤ 9 ∧ k (23 + 7 * i + 3) = nI w) ∧ (∃ d : Nat, d ≤ 3 ∧ k (23 + 7 * i + 4) = nI d) ∧ (∃ q : Nat, q < 16 ∧ k (23 + 7 * i + 5) = nI q)) ∧
  (∀ i : Nat, m ≤ i → i < 8 → k (23 + 7 * i + 6) = 0) ∧
  (∀ p : Nat, p < 8 → (∃ g : Nat, g ≤ B ∧ k p = nI g) ∧ (P ≤ p → k p = 0) ∧ ∃ q : Nat, q < 16 ∧ k (8 + p) = nI q) ∧ (∀ f : Nat, f < 3 → ∃ b : Nat, b ≤ 9 ∧ k (16 + f) = nI b)
/-- the same cells in the reference's order; wl: its log -/
def toW (k wl : Nat → Int32) (n : Nat) : Int32 := if n < 56 then k (23 + n) else if n < 72 then (if n % 2 = 0 then k ((n - 56) / 2) else k (8 + (n - 57) / 2)) else if n < 75 then k (16 + (n - 72)) else if n = 75 then k 22 else if n = 76 then k 21 else if n = 77 then k 19 else if n = 78 then k 20 else wl n
def LogR (k wl : Nat → Int32) : Prop := ∃ h : Nat, h < 2 ^ 31 ∧ k 21 = nI h ∧ wl 79 = nI (min h 60) ∧ ∀ i x : Nat, i < min h 60 → x < 3 → wl (80 + 3 * i + x) = k (79 + 3 * ((h - min h 60 + i) % 60) + x)
def CampR (P W H B : Nat) (k w : Nat → Int32) : Prop := KV P W H B k ∧ ∃ wl : Nat → Int32, w = toW k wl ∧ LogR k wl
def PastR (P W H B : Nat) (nx sz acts : Int32) (kept : Nat → Nat → Int32) (u : Nat → Int32) : Prop := ∃ n s : Nat, n < 41 ∧ s ≤ 40 ∧ nx = nI n ∧ sz = nI s ∧ acts = nI s ∧ ∀ i : Nat, i < s → CampR P W H B (kept ((n + 41 - s + i) % 41)) (fun j => u (260 * i + j))
def ImgR (P W H B : Nat) (a b : Int32) (k w : Nat → Int32) : Prop := (a = 0 ∧ b = 0) ∨ (a = 1 ∧ b = 1 ∧ CampR P W H B k w)
/-- what the sky is told of a place's hour, the last word counting -/
def skyAt (sp sh sr : Nat → Int32) (p h : Nat) : Nat → Int32
  | 0 => -1
  | n + 1 => if sp n = nI p ∧ sh n = nI h then (if sr n = 0 then 0 else 100) else skyAt sp sh sr p h n
def SkyR (sz skies : Int32) (ch sp sh sr : Nat → Int32) : Prop := ∃ n : Nat, n ≤ 16 ∧ sz = nI n ∧ skies = nI n ∧ (∀ p h : Nat, p < 8 → 1 ≤ h → h ≤ 24 → ch (25 * p + h) = skyAt sp sh sr p h n) ∧ ∀ i : Nat, i < n → ∃ h : Nat, h ≤ 24 ∧ sh i = nI h
def TraceR (P : Nat) (sz rs : Int32) (pl fo rp rg : Nat → Int32) : Prop := ∃ n : Nat, n ≤ 8 ∧ sz = nI n ∧ rs = nI n ∧ ∀ i : Nat, i < n → (∃ p : Nat, p < P ∧ pl i = nI p ∧ rp i = nI p) ∧ ∃ g : Nat, g ≤ 99 ∧ fo i = nI g ∧ rg i = nI g
/-- a step: its sort, its digits -/
def StepR (s : Nat → Int32) (a b c : Int32) : Prop := ∃ t : Nat, t ≤ 5 ∧ a = nI t ∧ (if t < 4 then ∃ d : Nat, d ≤ 9 ∧ b = nI d else b = -1) ∧ (if t < 2 then ∃ d : Nat, d ≤ 9 ∧ c = nI d else c = -1) ∧ s 0 = a ∧ s 1 = b ∧ s 2 = c
def OrdR (oc ro : Int32) (st : Nat → Nat → Int32) (sz : Nat → Int32) (od ol : Nat → Int32) : Prop := ∃ n : Nat, n ≤ 4 ∧ oc = nI n ∧ ro = nI n ∧ ∀ o : Nat, o < n → ∃ m : Nat, 1 ≤ m ∧ m ≤ 16 ∧ sz o = nI m ∧ ol o = nI m ∧ ∀ i : Nat, i < m → StepR (fun x => od (48 * o + 3 * i + x)) (st o (3 * i)) (st o (3 * i + 1)) (st o (3 * i + 2))
/-- what one of g grains wears by a law: of grains, wear, height, mould, hour -/
abbrev LWt : Type := Nat → Nat → Nat → Nat → Nat → Int32
/-- the references stand, but the text that is read; outside S all stands -/
def FrR (S : List Nat) (σ τ : sa_St) : Prop := ((∀ a b : Nat, ¬ (a = 159 ∧ b = 5) → τ.2.1 a b = σ.2.1 a b) ∧ ∀ j, j ≠ 175 → τ.2.2 j = σ.2.2 j) ∧ ∀ j, j ∉ S → τ.1 j = σ.1 j ∧ τ.2.2 j = σ.2.2 j
/-- the reference's places of the parser -/
def isPF (k : Nat) : Prop := (8 ≤ k ∧ k ≤ 14) ∨ k = 17
/-- a law as the class holds it -/
def LawC (mv : Nat → Int32) (sz : Int32) (f : LWt) : Prop := ∀ (l : Nat) (σ : sa_St), l < 5 → SK σ.2.1 → σ.1 (19 + 3 * l) = mv → σ.1 (18 + 3 * l) 2 = sz → ∀ g w h m t : Nat, g ≤ 99 → w ≤ 9 → h ≤ 9 → m ≤ 3 → t ≤ 100000 → σ.1 17 0 = nI g → σ.1 17 1 = nI w → σ.1 17 2 = nI h → σ.1 17 3 = nI m → σ.1 17 4 = nI t → wp (f_X2_worth (18 + 3 * l) 17) σ (fun r τ => r = f g w h m t ∧ Fr [20 + 3 * l] σ τ)
/-- a law as the reference holds it -/
def LawT (tx : Nat → Int32) (len : Int32) (f : LWt) : Prop := ∀ (l : Nat) (σ : sa_St), l < 4 → SK σ.2.1 → (∀ j : Nat, j < 240 → σ.1 161 (240 * l + j) = tx j) → ∀ g w h m t : Nat, g ≤ 99 → w ≤ 9 → h ≤ 9 → m ≤ 3 → t ≤ 100000 → σ.1 163 103 = nI g → σ.1 163 119 = nI w → σ.1 163 104 = nI h → σ.1 163 109 = nI m → σ.1 163 116 = nI t → wp (f_X12_goThrough 159 161 (nI (240 * l)) len) σ (fun _ τ => τ.1 159 14 = f g w h m t ∧ FrR [159] σ τ ∧ ∀ k, ¬ isPF k → τ.1 159 k = σ.1 159 k)
def memoKey (l g w h m t : Nat) : Nat := 4 * (4 * (10 * (10 * (1000000 * (g + 100000) + t) + w) + h) + m) + l + 1
def MemoR (n : Nat) (f : Nat → LWt) (mk : Nat → Int64) (mw : Nat → Int32) : Prop := ∀ s l g w h m t : Nat, s < 8191 → l < 4 → g ≤ 99 → w ≤ 9 → h ≤ 9 → m ≤ 3 → t ≤ 100000 → mk s = lN (memoKey l g w h m t) → l < n ∧ mw s = f l g w h m t
def LawsR (n : Nat) (f : Nat → LWt) (sz many hold law : Int32) (mv : Nat → Nat → Int32) (ms : Nat → Int32) (tx : Nat → Int32) (tl : Nat → Int32) (mk : Nat → Int64) (mw : Nat → Int32) : Prop :=
  n ≤ 4 ∧ sz = nI n ∧ many = nI n ∧ ((hold = -1 ∧ law = -1) ∨ ∃ l : Nat, l < n ∧ hold = nI l ∧ law = nI l) ∧ (∀ l : Nat, l < n → LawC (mv l) (ms l) (f l) ∧ LawT (fun j => tx (240 * l + j)) (tl l) (f l)) ∧ MemoR n f mk mw
/-- the two lands of the class: L, which is the land, and the other -/
def LandI (ρ : Nat → Nat → Nat) (L : Nat) : Prop := (L = 3 ∧ ρ 0 1 = 4 ∧ ρ 0 2 = 10) ∨ (L = 9 ∧ ρ 0 1 = 10 ∧ ρ 0 2 = 4)
def I_T (σ : sa_St) : Prop := TapeR (σ.1 1 1) (σ.1 159 6) (σ.1 2) (σ.1 160)
def I_L (L P W F : Nat) (σ : sa_St) : Prop := LandR P W F (σ.1 (L + 1)) (σ.1 (L + 2)) (σ.1 164) (σ.1 166) (σ.1 169) (σ.1 159 25) (σ.1 159 26) (σ.1 159 27)
def I_M (L P W : Nat) (σ : sa_St) : Prop := MapR P W (σ.1 (L + 2)) (σ.1 (L + 3)) (σ.1 (L + 4)) (σ.1 (L + 5))
def I_W (n : Nat) (f : Nat → LWt) (σ : sa_St) : Prop := LawsR n f (σ.1 15 2) (σ.1 159 7) (σ.1 15 3) (σ.1 159 37) (fun l => σ.1 (19 + 3 * l)) (fun l => σ.1 (18 + 3 * l) 2) (σ.1 161) (σ.1 162) (σ.2.2 175) (σ.1 176)
def I_O (σ : sa_St) : Prop := OrdR (σ.1 0 5) (σ.1 159 34) (fun o => σ.1 (35 + 2 * o)) (fun o => σ.1 (34 + 2 * o) 1) (σ.1 171) (σ.1 172)
def I_C (P W H B : Nat) (σ : sa_St) : Prop := CampR P W H B (σ.1 45) (σ.1 173)
def I_P (P W H B : Nat) (σ : sa_St) : Prop := PastR P W H B (σ.1 48 3) (σ.1 48 4) (σ.1 159 43) (fun i => σ.1 (53 + 2 * i)) (σ.1 177)
def I_G (P W H B : Nat) (σ : sa_St) : Prop := ImgR P W H B (σ.1 48 2) (σ.1 159 73) (σ.1 51) (σ.1 191)
def I_S (σ : sa_St) : Prop := SkyR (σ.1 134 1) (σ.1 159 48) (σ.1 135) (σ.1 178) (σ.1 179) (σ.1 180)
def I_Z (P : Nat) (σ : sa_St) : Prop := TraceR P (σ.1 151 2) (σ.1 159 69) (σ.1 152) (σ.1 153) (σ.1 186) (σ.1 187)
/-- after k calls -/
def Inv (k : Nat) (σ : sa_St) : Prop := SK σ.2.1 ∧ ∃ (L P W F n : Nat) (f : Nat → LWt), LandI σ.2.1 L ∧ I_T σ ∧ I_L L P W F σ ∧ (0 < P → I_M L P W σ) ∧ I_W n f σ ∧ I_O σ ∧ I_C P W (48 * k) (40000 * k) σ ∧ I_P P W (48 * k) (40000 * k) σ ∧ I_G P W (48 * k) (40000 * k) σ ∧ I_S σ ∧ I_Z P σ
/-- both answer alike, and what stands between calls stands again -/
theorem lc_of {α β : Type} {f : sa_M α} {g : sa_M α} {σ : sa_St} {I : sa_St → Prop} (h : wp f σ (fun r τ => wp g τ (fun r2 τ2 => r2 = r ∧ I τ2))) : ∃ (r : α) (σ1 σ2 : sa_St), f σ = some (r, σ1) ∧ g σ1 = some (r, σ2) ∧ I σ2 := by
  obtain ⟨r, τ, h1, r2, τ2, h2, rfl, h3⟩ := h
  exact ⟨r2, τ, τ2, h1, h2, h3⟩
theorem KV.mono {P W H B H2 B2 : Nat} {k : Nat → Int32} (h : KV P W H B k) (h1 : H ≤ H2) (h2 : B ≤ B2) : KV P W H2 B2 k := by
  obtain ⟨m, a1, a2, ⟨hh, b1, b2⟩, a4, a5, a6, a7⟩ := h
  refine ⟨m, a1, a2, ⟨hh, Nat.le_trans b1 h1, b2⟩, a4, a5, fun p hp => ?_, a7⟩
  obtain ⟨⟨g, c1, c2⟩, c3⟩ := a6 p hp
  exact ⟨⟨g, Nat.le_trans c1 h2, c2⟩, c3⟩
theorem CampR.mono {P W H B H2 B2 : Nat} {k w : Nat → Int32} (h : CampR P W H B k w) (h1 : H ≤ H2) (h2 : B ≤ B2) : CampR P W H2 B2 k w := ⟨h.1.mono h1 h2, h.2⟩
theorem PastR.mono {P W H B H2 B2 : Nat} {nx sz acts : Int32} {kept : Nat → Nat → Int32} {u : Nat → Int32} (h : PastR P W H B nx sz acts kept u) (h1 : H ≤ H2) (h2 : B ≤ B2) : PastR P W H2 B2 nx sz acts kept u := by
  obtain ⟨n, s, a1, a2, a3, a4, a5, a6⟩ := h
  exact ⟨n, s, a1, a2, a3, a4, a5, fun i hi => (a6 i hi).mono h1 h2⟩
theorem ImgR.mono {P W H B H2 B2 : Nat} {a b : Int32} {k w : Nat → Int32} (h : ImgR P W H B a b k w) (h1 : H ≤ H2) (h2 : B ≤ B2) : ImgR P W H2 B2 a b k w := by
  rcases h with h | ⟨a1, a2, a3⟩
  · exact Or.inl h
  · exact Or.inr ⟨a1, a2, a3.mono h1 h2⟩
theorem Inv.up (k : Nat) (σ : sa_St) (h : Inv k σ) : Inv (k + 1) σ := by
  obtain ⟨h0, L, P, W, F, n, f, h1, h2, h3, h4, h5, h6, h7, h8, h9, h10, h11⟩ := h
  exact ⟨h0, L, P, W, F, n, f, h1, h2, h3, h4, h5, h6, CampR.mono h7 (by omega) (by omega), PastR.mono h8 (by omega) (by omega), ImgR.mono h9 (by omega) (by omega), h10, h11⟩
