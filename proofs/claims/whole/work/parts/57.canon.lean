/-! NUMBERS BY nI: every written number, every sum and comparison as one of natural numbers -/
theorem L0 : (0 : Int32) = nI 0 := rfl
theorem L1 : (1 : Int32) = nI 1 := rfl
theorem L2 : (2 : Int32) = nI 2 := rfl
theorem L3 : (3 : Int32) = nI 3 := rfl
theorem L4 : (4 : Int32) = nI 4 := rfl
theorem L5 : (5 : Int32) = nI 5 := rfl
theorem L6 : (6 : Int32) = nI 6 := rfl
theorem L7 : (7 : Int32) = nI 7 := rfl
theorem L8 : (8 : Int32) = nI 8 := rfl
theorem L9 : (9 : Int32) = nI 9 := rfl
theorem L10 : (10 : Int32) = nI 10 := rfl
theorem L11 : (11 : Int32) = nI 11 := rfl
theorem L12 : (12 : Int32) = nI 12 := rfl
theorem L13 : (13 : Int32) = nI 13 := rfl
theorem L14 : (14 : Int32) = nI 14 := rfl
theorem L15 : (15 : Int32) = nI 15 := rfl
theorem L16 : (16 : Int32) = nI 16 := rfl
theorem L17 : (17 : Int32) = nI 17 := rfl
theorem L18 : (18 : Int32) = nI 18 := rfl
theorem L19 : (19 : Int32) = nI 19 := rfl
theorem L20 : (20 : Int32) = nI 20 := rfl
theorem L21 : (21 : Int32) = nI 21 := rfl
theorem L22 : (22 : Int32) = nI 22 := rfl
theorem L23 : (23 : Int32) = nI 23 := rfl
theorem L24 : (24 : Int32) = nI 24 := rfl
theorem L25 : (25 : Int32) = nI 25 := rfl
theorem L26 : (26 : Int32) = nI 26 := rfl
theorem L27 : (27 : Int32) = nI 27 := rfl
theorem L28 : (28 : Int32) = nI 28 := rfl
theorem L29 : (29 : Int32) = nI 29 := rfl
theorem L30 : (30 : Int32) = nI 30 := rfl
theorem L31 : (31 : Int32) = nI 31 := rfl
theorem L32 : (32 : Int32) = nI 32 := rfl
theorem L33 : (33 : Int32) = nI 33 := rfl
theorem L34 : (34 : Int32) = nI 34 := rfl
theorem L35 : (35 : Int32) = nI 35 := rfl
theorem L36 : (36 : Int32) = nI 36 := rfl
theorem L37 : (37 : Int32) = nI 37 := rfl
theorem L38 : (38 : Int32) = nI 38 := rfl
theorem L39 : (39 : Int32) = nI 39 := rfl
theorem L40 : (40 : Int32) = nI 40 := rfl
theorem L41 : (41 : Int32) = nI 41 := rfl
theorem L42 : (42 : Int32) = nI 42 := rfl
theorem L43 : (43 : Int32) = nI 43 := rfl
theorem L44 : (44 : Int32) = nI 44 := rfl
theorem L45 : (45 : Int32) = nI 45 := rfl
theorem L46 : (46 : Int32) = nI 46 := rfl
theorem L47 : (47 : Int32) = nI 47 := rfl
theorem L48 : (48 : Int32) = nI 48 := rfl
theorem L49 : (49 : Int32) = nI 49 := rfl
theorem L50 : (50 : Int32) = nI 50 := rfl
theorem L51 : (51 : Int32) = nI 51 := rfl
theorem L52 : (52 : Int32) = nI 52 := rfl
theorem L53 : (53 : Int32) = nI 53 := rfl
theorem L54 : (54 : Int32) = nI 54 := rfl
theorem L55 : (55 : Int32) = nI 55 := rfl
theorem L56 : (56 : Int32) = nI 56 := rfl
theorem L57 : (57 : Int32) = nI 57 := rfl
theorem L58 : (58 : Int32) = nI 58 := rfl
theorem L59 : (59 : Int32) = nI 59 := rfl
theorem L60 : (60 : Int32) = nI 60 := rfl
theorem L61 : (61 : Int32) = nI 61 := rfl
theorem L62 : (62 : Int32) = nI 62 := rfl
theorem L63 : (63 : Int32) = nI 63 := rfl
theorem L64 : (64 : Int32) = nI 64 := rfl
theorem L65 : (65 : Int32) = nI 65 := rfl
theorem L66 : (66 : Int32) = nI 66 := rfl
theorem L67 : (67 : Int32) = nI 67 := rfl
theorem L68 : (68 : Int32) = nI 68 := rfl
theorem L69 : (69 : Int32) = nI 69 := rfl
theorem L70 : (70 : Int32) = nI 70 := rfl
theorem L71 : (71 : Int32) = nI 71 := rfl
theorem L72 : (72 : Int32) = nI 72 := rfl
theorem L73 : (73 : Int32) = nI 73 := rfl
theorem L74 : (74 : Int32) = nI 74 := rfl
theorem L75 : (75 : Int32) = nI 75 := rfl
theorem L76 : (76 : Int32) = nI 76 := rfl
theorem L77 : (77 : Int32) = nI 77 := rfl
theorem L78 : (78 : Int32) = nI 78 := rfl
theorem L79 : (79 : Int32) = nI 79 := rfl
theorem L80 : (80 : Int32) = nI 80 := rfl
theorem L81 : (81 : Int32) = nI 81 := rfl
theorem L82 : (82 : Int32) = nI 82 := rfl
theorem L83 : (83 : Int32) = nI 83 := rfl
theorem L84 : (84 : Int32) = nI 84 := rfl
theorem L85 : (85 : Int32) = nI 85 := rfl
theorem L86 : (86 : Int32) = nI 86 := rfl
theorem L87 : (87 : Int32) = nI 87 := rfl
theorem L88 : (88 : Int32) = nI 88 := rfl
theorem L89 : (89 : Int32) = nI 89 := rfl
theorem L90 : (90 : Int32) = nI 90 := rfl
theorem L91 : (91 : Int32) = nI 91 := rfl
theorem L92 : (92 : Int32) = nI 92 := rfl
theorem L93 : (93 : Int32) = nI 93 := rfl
theorem L94 : (94 : Int32) = nI 94 := rfl
theorem L95 : (95 : Int32) = nI 95 := rfl
theorem L96 : (96 : Int32) = nI 96 := rfl
theorem L97 : (97 : Int32) = nI 97 := rfl
theorem L98 : (98 : Int32) = nI 98 := rfl
theorem L99 : (99 : Int32) = nI 99 := rfl
theorem L100 : (100 : Int32) = nI 100 := rfl
theorem L101 : (101 : Int32) = nI 101 := rfl
theorem L102 : (102 : Int32) = nI 102 := rfl
theorem L103 : (103 : Int32) = nI 103 := rfl
theorem L104 : (104 : Int32) = nI 104 := rfl
theorem L105 : (105 : Int32) = nI 105 := rfl
theorem L106 : (106 : Int32) = nI 106 := rfl
theorem L107 : (107 : Int32) = nI 107 := rfl
theorem L108 : (108 : Int32) = nI 108 := rfl
theorem L109 : (109 : Int32) = nI 109 := rfl
theorem L110 : (110 : Int32) = nI 110 := rfl
theorem L111 : (111 : Int32) = nI 111 := rfl
theorem L112 : (112 : Int32) = nI 112 := rfl
theorem L113 : (113 : Int32) = nI 113 := rfl
theorem L114 : (114 : Int32) = nI 114 := rfl
theorem L115 : (115 : Int32) = nI 115 := rfl
theorem L116 : (116 : Int32) = nI 116 := rfl
theorem L117 : (117 : Int32) = nI 117 := rfl
theorem L118 : (118 : Int32) = nI 118 := rfl
theorem L119 : (119 : Int32) = nI 119 := rfl
theorem L120 : (120 : Int32) = nI 120 := rfl
theorem L121 : (121 : Int32) = nI 121 := rfl
theorem L122 : (122 : Int32) = nI 122 := rfl
theorem L123 : (123 : Int32) = nI 123 := rfl
theorem L124 : (124 : Int32) = nI 124 := rfl
theorem L125 : (125 : Int32) = nI 125 := rfl
theorem L126 : (126 : Int32) = nI 126 := rfl
theorem L127 : (127 : Int32) = nI 127 := rfl
theorem L128 : (128 : Int32) = nI 128 := rfl
theorem L129 : (129 : Int32) = nI 129 := rfl
theorem L130 : (130 : Int32) = nI 130 := rfl
theorem L131 : (131 : Int32) = nI 131 := rfl
theorem L200 : (200 : Int32) = nI 200 := rfl
theorem L240 : (240 : Int32) = nI 240 := rfl
theorem L255 : (255 : Int32) = nI 255 := rfl
theorem L260 : (260 : Int32) = nI 260 := rfl
theorem L1000 : (1000 : Int32) = nI 1000 := rfl
theorem L4096 : (4096 : Int32) = nI 4096 := rfl
theorem L10140 : (10140 : Int32) = nI 10140 := rfl
theorem L1000000 : (1000000 : Int32) = nI 1000000 := rfl
theorem cm3 (i : Nat) : i * 3 = 3 * i := Nat.mul_comm _ _
theorem cm5 (i : Nat) : i * 5 = 5 * i := Nat.mul_comm _ _
theorem cm7 (i : Nat) : i * 7 = 7 * i := Nat.mul_comm _ _
theorem cm8 (i : Nat) : i * 8 = 8 * i := Nat.mul_comm _ _
theorem cm25 (i : Nat) : i * 25 = 25 * i := Nat.mul_comm _ _
def mI : Int32 := -1
theorem ng1 : -nI 1 = mI := rfl
theorem ngm : (-1 : Int32) = mI := rfl
theorem mI_t : mI.toInt = -1 := by decide
theorem mI_lt {n : Nat} (h : n < 2 ^ 31) : (mI < nI n) = True := eq_true (by rw [Int32.lt_iff_toInt_lt, mI_t, nI_toInt h]; omega)
theorem mI_le {n : Nat} (h : n < 2 ^ 31) : (mI ≤ nI n) = True := eq_true (by rw [Int32.le_iff_toInt_le, mI_t, nI_toInt h]; omega)
theorem lt_mI {n : Nat} (h : n < 2 ^ 31) : (nI n < mI) = False := eq_false (by rw [Int32.lt_iff_toInt_lt, mI_t, nI_toInt h]; omega)
theorem le_mI {n : Nat} (h : n < 2 ^ 31) : (nI n ≤ mI) = False := eq_false (by rw [Int32.le_iff_toInt_le, mI_t, nI_toInt h]; omega)
theorem eq_mI {n : Nat} (h : n < 2 ^ 31) : (nI n = mI) = False := eq_false (by rw [← Int32.toInt_inj, mI_t, nI_toInt h]; omega)
theorem mI_eq {n : Nat} (h : n < 2 ^ 31) : (mI = nI n) = False := eq_false (by rw [← Int32.toInt_inj, mI_t, nI_toInt h]; omega)
theorem mI_mI : (mI < mI) = False := eq_false (by decide)
theorem mI_mE : (mI ≤ mI) = True := eq_true (by decide)
theorem dT_le {a b : Nat} (h : a ≤ b) : (a ≤ b) = True := eq_true h
theorem dF_le {a b : Nat} (h : b < a) : (a ≤ b) = False := eq_false (by omega)
theorem dT_lt {a b : Nat} (h : a < b) : (a < b) = True := eq_true h
theorem dF_lt {a b : Nat} (h : b ≤ a) : (a < b) = False := eq_false (by omega)
theorem dT_eq {a b : Nat} (h : a = b) : (a = b) = True := eq_true h
theorem dF_eq {a b : Nat} (h : a ≠ b) : (a = b) = False := eq_false h
theorem upL_1 {σ : sa_St} {id k : Nat} {v : Int64} : (sa_upL σ id k v).1 = σ.1 := rfl
theorem upL_21 {σ : sa_St} {id k : Nat} {v : Int64} : (sa_upL σ id k v).2.1 = σ.2.1 := rfl
theorem upL_self {σ : sa_St} {id k : Nat} {v : Int64} : (sa_upL σ id k v).2.2 id = va_up (σ.2.2 id) k v := va_up_self _ _ _
theorem upL_ne {σ : sa_St} {id k j : Nat} {v : Int64} (h : j ≠ id) : (sa_upL σ id k v).2.2 j = σ.2.2 j := va_up_ne _ _ h
theorem upR_1 {σ : sa_St} {id k v : Nat} : (sa_upR σ id k v).1 = σ.1 := rfl
theorem upR_22 {σ : sa_St} {id k v : Nat} : (sa_upR σ id k v).2.2 = σ.2.2 := rfl
theorem upR_self {σ : sa_St} {id k v : Nat} : (sa_upR σ id k v).2.1 id = va_up (σ.2.1 id) k v := va_up_self _ _ _
theorem upR_ne {σ : sa_St} {id k j v : Nat} (h : j ≠ id) : (sa_upR σ id k v).2.1 j = σ.2.1 j := va_up_ne _ _ h
theorem sa_minN {a b : Nat} (ha : a < 2 ^ 31) (hb : b < 2 ^ 31) : sa_min (nI a) (nI b) = nI (min a b) := by
  show (if nI b < nI a then nI b else nI a) = _
  by_cases h : b < a
  · rw [if_pos ((nI_ltI hb ha).mpr h), Nat.min_eq_right (by omega)]
  · rw [if_neg (fun q => h ((nI_ltI hb ha).mp q)), Nat.min_eq_left (by omega)]
theorem sa_maxN {a b : Nat} (ha : a < 2 ^ 31) (hb : b < 2 ^ 31) : sa_max (nI a) (nI b) = nI (max a b) := by
  show (if nI a < nI b then nI b else nI a) = _
  by_cases h : a < b
  · rw [if_pos ((nI_ltI ha hb).mpr h), Nat.max_eq_right (by omega)]
  · rw [if_neg (fun q => h ((nI_ltI ha hb).mp q)), Nat.max_eq_left (by omega)]
/-- an argument: below 0, from n on, or one of the numbers below n -/
def aNeg (x : Int32) : Prop := (∀ a : Nat, a < 2 ^ 31 → (x < nI a) = True) ∧ (∀ a : Nat, a < 2 ^ 31 → (x ≤ nI a) = True) ∧ (∀ a : Nat, a < 2 ^ 31 → (nI a ≤ x) = False) ∧ (∀ a : Nat, a < 2 ^ 31 → (nI a < x) = False) ∧ (∀ a : Nat, a < 2 ^ 31 → (x = nI a) = False) ∧ (∀ a : Nat, a < 2 ^ 31 → (nI a = x) = False)
def aBig (x : Int32) (n : Nat) : Prop := (∀ a : Nat, a ≤ n → (x < nI a) = False) ∧ (∀ a : Nat, a < n → (x ≤ nI a) = False) ∧ (∀ a : Nat, a ≤ n → (nI a ≤ x) = True) ∧ (∀ a : Nat, a < n → (nI a < x) = True) ∧ (∀ a : Nat, a < n → (x = nI a) = False) ∧ (∀ a : Nat, a < n → (nI a = x) = False) ∧ (x = mI) = False ∧ (x < mI) = False ∧ (x ≤ mI) = False ∧ (mI ≤ x) = True
theorem nx (x : Int32) (n : Nat) (hn : n < 2 ^ 31 := by omega) : aNeg x ∨ aBig x n ∨ ∃ j : Nat, j < n ∧ x = nI j := by
  rcases pk_ix x hn with h | h | h
  · refine Or.inl ?_
    rw [Int32.lt_iff_toInt_lt, L0, nI_toInt (by omega)] at h
    refine ⟨fun a ha => eq_true ?_, fun a ha => eq_true ?_, fun a ha => eq_false ?_, fun a ha => eq_false ?_, fun a ha => eq_false ?_, fun a ha => eq_false ?_⟩
    · rw [Int32.lt_iff_toInt_lt, nI_toInt ha]; omega
    · rw [Int32.le_iff_toInt_le, nI_toInt ha]; omega
    · rw [Int32.le_iff_toInt_le, nI_toInt ha]; omega
    · rw [Int32.lt_iff_toInt_lt, nI_toInt ha]; omega
    · rw [← Int32.toInt_inj, nI_toInt ha]; omega
    · rw [← Int32.toInt_inj, nI_toInt ha]; omega
  · refine Or.inr (Or.inl ?_)
    rw [Int32.le_iff_toInt_le, nI_toInt hn] at h
    refine ⟨fun a ha => eq_false ?_, fun a ha => eq_false ?_, fun a ha => eq_true ?_, fun a ha => eq_true ?_, fun a ha => eq_false ?_, fun a ha => eq_false ?_, eq_false ?_, eq_false ?_, eq_false ?_, eq_true ?_⟩
    · rw [Int32.lt_iff_toInt_lt, nI_toInt (by omega)]; omega
    · rw [Int32.le_iff_toInt_le, nI_toInt (by omega)]; omega
    · rw [Int32.le_iff_toInt_le, nI_toInt (by omega)]; omega
    · rw [Int32.lt_iff_toInt_lt, nI_toInt (by omega)]; omega
    · rw [← Int32.toInt_inj, nI_toInt (by omega)]; omega
    · rw [← Int32.toInt_inj, nI_toInt (by omega)]; omega
    · rw [← Int32.toInt_inj, mI_t]; omega
    · rw [Int32.lt_iff_toInt_lt, mI_t]; omega
    · rw [Int32.le_iff_toInt_le, mI_t]; omega
    · rw [Int32.le_iff_toInt_le, mI_t]; omega
  · exact Or.inr (Or.inr h)
theorem w_isIn {a b c : Int64} {σ : sa_St} {Q : Int32 → sa_St → Prop} : wp (f_X12_isIn a b c) σ Q ↔ (b ≤ a ∧ a ≤ c → Q (nI 1) σ) ∧ (¬ (b ≤ a ∧ a ≤ c) → Q (nI 0) σ) := by
  have e1 : a < b ↔ ¬ b ≤ a := by rw [Int64.lt_iff_toInt_lt, Int64.le_iff_toInt_le]; omega
  have e2 : c < a ↔ ¬ a ≤ c := by rw [Int64.lt_iff_toInt_lt, Int64.le_iff_toInt_le]; omega
  have z0 : wp (sa_retZ 0) σ Q ↔ Q (nI 0) σ := by rw [wp_retZ]; exact ⟨fun h => h.2, fun h => ⟨Or.inl rfl, h⟩⟩
  have z1 : wp (sa_retZ 1) σ Q ↔ Q (nI 1) σ := by rw [wp_retZ]; exact ⟨fun h => h.2, fun h => ⟨Or.inr rfl, h⟩⟩
  unfold f_X12_isIn
  simp only [wp_jn1, wp_jn0, wp_if, lg_cmp_lt, lg_cmp_gt, e1, e2, z0, z1]
  by_cases h1 : b ≤ a <;> by_cases h2 : a ≤ c <;> simp [h1, h2]
theorem i64le (x y : Int32) : (x.toInt64 ≤ y.toInt64) = (x ≤ y) := by
  rw [Int64.le_iff_toInt_le, Int32.le_iff_toInt_le, Int32.toInt_toInt64, Int32.toInt_toInt64]
theorem i64lt (x : Int32) {n : Nat} (h : n < 2 ^ 30) : (x.toInt64 ≤ (nI n - nI 1).toInt64) = (x < nI n) := by
  rw [Int64.le_iff_toInt_le, Int32.lt_iff_toInt_lt, Int32.toInt_toInt64, Int32.toInt_toInt64, pk_sub_toInt h (by omega), nI_toInt (by omega)]
  simp only [eq_iff_iff]
  omega
theorem le_sub1 (x : Int32) {n : Nat} (h : n < 2 ^ 30) : (x ≤ nI n - nI 1) = (x < nI n) := by
  rw [Int32.le_iff_toInt_le, Int32.lt_iff_toInt_lt, pk_sub_toInt h (by omega), nI_toInt (by omega)]
  simp only [eq_iff_iff]
  omega
theorem l64_0 : (0 : Int64) = (nI 0).toInt64 := by decide
theorem l64_1 : (1 : Int64) = (nI 1).toInt64 := by decide
theorem l64_2 : (2 : Int64) = (nI 2).toInt64 := by decide
theorem l64_3 : (3 : Int64) = (nI 3).toInt64 := by decide
theorem l64_4 : (4 : Int64) = (nI 4).toInt64 := by decide
theorem l64_5 : (5 : Int64) = (nI 5).toInt64 := by decide
theorem l64_6 : (6 : Int64) = (nI 6).toInt64 := by decide
theorem l64_7 : (7 : Int64) = (nI 7).toInt64 := by decide
theorem l64_8 : (8 : Int64) = (nI 8).toInt64 := by decide
theorem l64_9 : (9 : Int64) = (nI 9).toInt64 := by decide
theorem l64_10 : (10 : Int64) = (nI 10).toInt64 := by decide
theorem l64_11 : (11 : Int64) = (nI 11).toInt64 := by decide
theorem l64_12 : (12 : Int64) = (nI 12).toInt64 := by decide
theorem l64_13 : (13 : Int64) = (nI 13).toInt64 := by decide
theorem l64_14 : (14 : Int64) = (nI 14).toInt64 := by decide
theorem l64_15 : (15 : Int64) = (nI 15).toInt64 := by decide
theorem l64_16 : (16 : Int64) = (nI 16).toInt64 := by decide
theorem l64_17 : (17 : Int64) = (nI 17).toInt64 := by decide
theorem l64_18 : (18 : Int64) = (nI 18).toInt64 := by decide
theorem l64_19 : (19 : Int64) = (nI 19).toInt64 := by decide
theorem l64_20 : (20 : Int64) = (nI 20).toInt64 := by decide
theorem l64_21 : (21 : Int64) = (nI 21).toInt64 := by decide
theorem l64_22 : (22 : Int64) = (nI 22).toInt64 := by decide
theorem l64_23 : (23 : Int64) = (nI 23).toInt64 := by decide
theorem l64_24 : (24 : Int64) = (nI 24).toInt64 := by decide
theorem l64_48 : (48 : Int64) = (nI 48).toInt64 := by decide
theorem l64_99 : (99 : Int64) = (nI 99).toInt64 := by decide
theorem nIm_l {n : Nat} : nI (n + 1) - nI 1 = nI n := dec_ofNat n
/-- what a land's object holds -/
def LD (ρ : Nat → Nat → Nat) (L : Nat) : Prop := (ρ 0 1 = L + 1 ∧ ρ L 0 = L + 1 + 1 ∧ ρ L 1 = L + 2 + 1 ∧ ρ L 2 = L + 3 + 1 ∧ ρ L 3 = L + 4 + 1 ∧ ρ L 4 = L + 5 + 1) ∧ sa_sh L = some (.inl 1) ∧ sa_al .int (L + 1) = 4 ∧ sa_al .int (L + 2) = 240 ∧ sa_al .int (L + 3) = 64 ∧ sa_al .int (L + 4) = 64 ∧ sa_al .int (L + 5) = 64
theorem LD.of {ρ : Nat → Nat → Nat} {L : Nat} (h : SK ρ) (hL : LandI ρ L) : LD ρ L := by
  rcases hL with ⟨rfl, a, b⟩ | ⟨rfl, a, b⟩
  · exact ⟨⟨a, sk_3_0 h, sk_3_1 h, sk_3_2 h, sk_3_3 h, sk_3_4 h⟩, rfl, rfl, rfl, rfl, rfl, rfl⟩
  · exact ⟨⟨a, sk_9_0 h, sk_9_1 h, sk_9_2 h, sk_9_3 h, sk_9_4 h⟩, rfl, rfl, rfl, rfl, rfl, rfl⟩
theorem ixd (a b c : Nat) : (nI a * nI 12 + nI b) * nI 5 + nI c = nI ((a * 12 + b) * 5 + c) := by rw [pk_mul, nI_add, pk_mul, nI_add]
theorem lco {α : Type} {f : sa_M α} {g : sa_M α} {σ : sa_St} {I : sa_St → Prop} (h : wp f σ (fun r τ => wp g τ (fun r2 τ2 => r2 = r ∧ I τ2))) : ∃ (r : α) (σ1 σ2 : sa_St), f σ = some (r, σ1) ∧ g σ1 = some (r, σ2) ∧ I σ2 := lc_of (β := Unit) h
