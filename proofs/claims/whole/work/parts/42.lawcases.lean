/-- feed: both answer alike -/
def lc_0 (Inv Inv' : sa_St → Prop) : Prop := ∀ (σ : sa_St) (s1 : Int32) (s2 : Int32) (s3 : Int32) (s4 : Int32) (s5 : Int32), Inv σ → ∃ (r : Int32) (σ1 σ2 : sa_St), f_X11_feed 0 (s1) (s2) (s3) (s4) (s5) σ = some (r, σ1) ∧ f_X12_feed 159 (s1) (s2) (s3) (s4) (s5) σ1 = some (r, σ2) ∧ Inv' σ2
/-- end: both answer alike -/
def lc_1 (Inv Inv' : sa_St → Prop) : Prop := ∀ (σ : sa_St) (s1 : Int32), Inv σ → ∃ (r : Int32) (σ1 σ2 : sa_St), f_X11_end 0 (s1) σ = some (r, σ1) ∧ f_X12_end 159 (s1) σ1 = some (r, σ2) ∧ Inv' σ2
/-- fault: both answer alike -/
def lc_2 (Inv Inv' : sa_St → Prop) : Prop := ∀ (σ : sa_St) (s1 : Int32), Inv σ → ∃ (r : Int32) (σ1 σ2 : sa_St), f_X11_fault 0 (s1) σ = some (r, σ1) ∧ f_X12_fault 159 (s1) σ1 = some (r, σ2) ∧ Inv' σ2
/-- text: both answer alike -/
def lc_3 (Inv Inv' : sa_St → Prop) : Prop := ∀ (σ : sa_St) (s1 : Int32), Inv σ → ∃ (r : Int32) (σ1 σ2 : sa_St), f_X11_text 0 (s1) σ = some (r, σ1) ∧ f_X12_text 159 (s1) σ1 = some (r, σ2) ∧ Inv' σ2
/-- spot: both answer alike -/
def lc_4 (Inv Inv' : sa_St → Prop) : Prop := ∀ (σ : sa_St) (s1 : Int32) (s2 : Int32), Inv σ → ∃ (r : Int32) (σ1 σ2 : sa_St), f_X11_spot 0 (s1) (s2) σ = some (r, σ1) ∧ f_X12_spot 159 (s1) (s2) σ1 = some (r, σ2) ∧ Inv' σ2
/-- way: both answer alike -/
def lc_5 (Inv Inv' : sa_St → Prop) : Prop := ∀ (σ : sa_St) (s1 : Int32) (s2 : Int32), Inv σ → ∃ (r : Int32) (σ1 σ2 : sa_St), f_X11_way 0 (s1) (s2) σ = some (r, σ1) ∧ f_X12_way 159 (s1) (s2) σ1 = some (r, σ2) ∧ Inv' σ2
/-- foe: both answer alike -/
def lc_7 (Inv Inv' : sa_St → Prop) : Prop := ∀ (σ : sa_St) (s1 : Int32) (s2 : Int32), Inv σ → ∃ (r : Int32) (σ1 σ2 : sa_St), f_X11_foe 0 (s1) (s2) σ = some (r, σ1) ∧ f_X12_foe 159 (s1) (s2) σ1 = some (r, σ2) ∧ Inv' σ2
/-- law: both answer alike -/
def lc_8 (Inv Inv' : sa_St → Prop) : Prop := ∀ (σ : sa_St) (s1 : Int32), Inv σ → ∃ (r : Int32) (σ1 σ2 : sa_St), f_X11_law 0 (s1) σ = some (r, σ1) ∧ f_X12_law 159 (s1) σ1 = some (r, σ2) ∧ Inv' σ2
/-- wear: both answer alike -/
def lc_9 (Inv Inv' : sa_St → Prop) : Prop := ∀ (σ : sa_St) (s1 : Int32), Inv σ → ∃ (r : Int32) (σ1 σ2 : sa_St), f_X11_wear 0 (s1) σ = some (r, σ1) ∧ f_X12_wear 159 (s1) σ1 = some (r, σ2) ∧ Inv' σ2
/-- march: both answer alike -/
def lc_10 (Inv Inv' : sa_St → Prop) : Prop := ∀ (σ : sa_St) (s1 : Int32) (s2 : Int32), Inv σ → ∃ (r : Int32) (σ1 σ2 : sa_St), f_X11_march 0 (s1) (s2) σ = some (r, σ1) ∧ f_X12_march 159 (s1) (s2) σ1 = some (r, σ2) ∧ Inv' σ2
/-- join: both answer alike -/
def lc_11 (Inv Inv' : sa_St → Prop) : Prop := ∀ (σ : sa_St) (s1 : Int32) (s2 : Int32), Inv σ → ∃ (r : Int32) (σ1 σ2 : sa_St), f_X11_join 0 (s1) (s2) σ = some (r, σ1) ∧ f_X12_join 159 (s1) (s2) σ1 = some (r, σ2) ∧ Inv' σ2
/-- dig: both answer alike -/
def lc_12 (Inv Inv' : sa_St → Prop) : Prop := ∀ (σ : sa_St) (s1 : Int32), Inv σ → ∃ (r : Int32) (σ1 σ2 : sa_St), f_X11_dig 0 (s1) σ = some (r, σ1) ∧ f_X12_dig 159 (s1) σ1 = some (r, σ2) ∧ Inv' σ2
/-- cast: both answer alike -/
def lc_13 (Inv Inv' : sa_St → Prop) : Prop := ∀ (σ : sa_St) (s1 : Int32) (s2 : Int32), Inv σ → ∃ (r : Int32) (σ1 σ2 : sa_St), f_X11_cast 0 (s1) (s2) σ = some (r, σ1) ∧ f_X12_cast 159 (s1) (s2) σ1 = some (r, σ2) ∧ Inv' σ2
/-- hour: both answer alike -/
def lc_14 (Inv Inv' : sa_St → Prop) : Prop := ∀ (σ : sa_St) (s1 : Int32), Inv σ → ∃ (r : Int32) (σ1 σ2 : sa_St), f_X11_hour 0 (s1) σ = some (r, σ1) ∧ f_X12_hour 159 (s1) σ1 = some (r, σ2) ∧ Inv' σ2
/-- war: both answer alike -/
def lc_15 (Inv Inv' : sa_St → Prop) : Prop := ∀ (σ : sa_St) (s1 : Int32) (s2 : Int32) (s3 : Int32), Inv σ → ∃ (r : Int32) (σ1 σ2 : sa_St), f_X11_war 0 (s1) ((((s2).toInt64) <<< ((32 : Int32).toInt64 &&& 63)) ||| (((s3).toInt64) &&& (4294967295))) σ = some (r, σ1) ∧ f_X12_war 159 (s1) ((((s2).toInt64) <<< ((32 : Int32).toInt64 &&& 63)) ||| (((s3).toInt64) &&& (4294967295))) σ1 = some (r, σ2) ∧ Inv' σ2
/-- undo: both answer alike -/
def lc_16 (Inv Inv' : sa_St → Prop) : Prop := ∀ (σ : sa_St) , Inv σ → ∃ (r : Int32) (σ1 σ2 : sa_St), f_X11_undo 0  σ = some (r, σ1) ∧ f_X12_undo 159  σ1 = some (r, σ2) ∧ Inv' σ2
/-- log: both answer alike -/
def lc_17 (Inv Inv' : sa_St → Prop) : Prop := ∀ (σ : sa_St) (s1 : Int32) (s2 : Int32), Inv σ → ∃ (r : Int32) (σ1 σ2 : sa_St), f_X11_log 0 (s1) (s2) σ = some (r, σ1) ∧ f_X12_log 159 (s1) (s2) σ1 = some (r, σ2) ∧ Inv' σ2
/-- step: both answer alike -/
def lc_18 (Inv Inv' : sa_St → Prop) : Prop := ∀ (σ : sa_St) (s1 : Int32) (s2 : Int32) (s3 : Int32), Inv σ → ∃ (r : Int32) (σ1 σ2 : sa_St), f_X11_step 0 (s1) (s2) (s3) σ = some (r, σ1) ∧ f_X12_step 159 (s1) (s2) (s3) σ1 = some (r, σ2) ∧ Inv' σ2
/-- run: both answer alike -/
def lc_19 (Inv Inv' : sa_St → Prop) : Prop := ∀ (σ : sa_St) (s1 : Int32) (s2 : Int32), Inv σ → ∃ (r : Int32) (σ1 σ2 : sa_St), f_X11_run 0 (s1) (s2) σ = some (r, σ1) ∧ f_X12_run 159 (s1) (s2) σ1 = some (r, σ2) ∧ Inv' σ2
/-- perform: both answer alike -/
def lc_20 (Inv Inv' : sa_St → Prop) : Prop := ∀ (σ : sa_St) (s1 : Int32), Inv σ → ∃ (r : Int32) (σ1 σ2 : sa_St), f_X11_perform 0 (s1) σ = some (r, σ1) ∧ f_X12_perform 159 (s1) σ1 = some (r, σ2) ∧ Inv' σ2
/-- sky: both answer alike -/
def lc_21 (Inv Inv' : sa_St → Prop) : Prop := ∀ (σ : sa_St) (s1 : Int32) (s2 : Int32) (s3 : Int32), Inv σ → ∃ (r : Int32) (σ1 σ2 : sa_St), f_X11_sky 0 (s1) (s2) (if s3 = 0 then 0 else 1) σ = some (r, σ1) ∧ f_X12_sky 159 (s1) (s2) (if s3 = 0 then 0 else 1) σ1 = some (r, σ2) ∧ Inv' σ2
/-- best: both answer alike -/
def lc_22 (Inv Inv' : sa_St → Prop) : Prop := ∀ (σ : sa_St) (s1 : Int32) (s2 : Int32) (s3 : Int32) (s4 : Int32), Inv σ → ∃ (r : Int32) (σ1 σ2 : sa_St), f_X11_best 0 (s1) (s2) (s3) (s4) σ = some (r, σ1) ∧ f_X12_best 159 (s1) (s2) (s3) (s4) σ1 = some (r, σ2) ∧ Inv' σ2
/-- journeys: both answer alike -/
def lc_23 (Inv Inv' : sa_St → Prop) : Prop := ∀ (σ : sa_St) (s1 : Int32) (s2 : Int32), Inv σ → ∃ (r : Int32) (σ1 σ2 : sa_St), f_X11_journeys 0 (s1) (s2) σ = some (r, σ1) ∧ f_X12_journeys 159 (s1) (s2) σ1 = some (r, σ2) ∧ Inv' σ2
/-- waits: both answer alike -/
def lc_24 (Inv Inv' : sa_St → Prop) : Prop := ∀ (σ : sa_St) (s1 : Int32) (s2 : Int32) (s3 : Int32), Inv σ → ∃ (r : Int32) (σ1 σ2 : sa_St), f_X11_waits 0 (s1) (s2) (s3) σ = some (r, σ1) ∧ f_X12_waits 159 (s1) (s2) (s3) σ1 = some (r, σ2) ∧ Inv' σ2
/-- ambush: both answer alike -/
def lc_25 (Inv Inv' : sa_St → Prop) : Prop := ∀ (σ : sa_St) (s1 : Int32) (s2 : Int32) (s3 : Int32), Inv σ → ∃ (r : Int32) (σ1 σ2 : sa_St), f_X11_ambush 0 (s1) (s2) (s3) σ = some (r, σ1) ∧ f_X12_ambush 159 (s1) (s2) (s3) σ1 = some (r, σ2) ∧ Inv' σ2
/-- pickets: both answer alike -/
def lc_26 (Inv Inv' : sa_St → Prop) : Prop := ∀ (σ : sa_St) (s1 : Int32) (s2 : Int32) (s3 : Int32) (s4 : Int32), Inv σ → ∃ (r : Int32) (σ1 σ2 : sa_St), f_X11_pickets 0 (s1) (s2) (s3) (s4) σ = some (r, σ1) ∧ f_X12_pickets 159 (s1) (s2) (s3) (s4) σ1 = some (r, σ2) ∧ Inv' σ2
/-- stock: both answer alike -/
def lc_27 (Inv Inv' : sa_St → Prop) : Prop := ∀ (σ : sa_St) (s1 : Int32) (s2 : Int32), Inv σ → ∃ (r : Int32) (σ1 σ2 : sa_St), f_X11_stock 0 (s1) (s2) σ = some (r, σ1) ∧ f_X12_stock 159 (s1) (s2) σ1 = some (r, σ2) ∧ Inv' σ2
/-- streak: both answer alike -/
def lc_28 (Inv Inv' : sa_St → Prop) : Prop := ∀ (σ : sa_St) (s1 : Int32) (s2 : Int32), Inv σ → ∃ (r : Int32) (σ1 σ2 : sa_St), f_X11_streak 0 (s1) (s2) σ = some (r, σ1) ∧ f_X12_streak 159 (s1) (s2) σ1 = some (r, σ2) ∧ Inv' σ2
/-- rained: both answer alike -/
def lc_29 (Inv Inv' : sa_St → Prop) : Prop := ∀ (σ : sa_St) (s1 : Int32) (s2 : Int32) (s3 : Int32), Inv σ → ∃ (r : Int32) (σ1 σ2 : sa_St), f_X11_rained 0 (s1) (s2) (s3) σ = some (r, σ1) ∧ f_X12_rained 159 (s1) (s2) (s3) σ1 = some (r, σ2) ∧ Inv' σ2
/-- knows: both answer alike -/
def lc_30 (Inv Inv' : sa_St → Prop) : Prop := ∀ (σ : sa_St) (s1 : Int32), Inv σ → ∃ (r : Int32) (σ1 σ2 : sa_St), f_X11_knows 0 (s1) σ = some (r, σ1) ∧ f_X12_knows 159 (s1) σ1 = some (r, σ2) ∧ Inv' σ2
/-- hears: both answer alike -/
def lc_31 (Inv Inv' : sa_St → Prop) : Prop := ∀ (σ : sa_St) (s1 : Int32), Inv σ → ∃ (r : Int32) (σ1 σ2 : sa_St), f_X11_hears 0 (s1) σ = some (r, σ1) ∧ f_X12_hears 159 (s1) σ1 = some (r, σ2) ∧ Inv' σ2
/-- weakest: both answer alike -/
def lc_32 (Inv Inv' : sa_St → Prop) : Prop := ∀ (σ : sa_St) , Inv σ → ∃ (r : Int32) (σ1 σ2 : sa_St), f_X11_weakest 0  σ = some (r, σ1) ∧ f_X12_weakest 159  σ1 = some (r, σ2) ∧ Inv' σ2
/-- reach: both answer alike -/
def lc_33 (Inv Inv' : sa_St → Prop) : Prop := ∀ (σ : sa_St) (s1 : Int32) (s2 : Int32), Inv σ → ∃ (r : Int32) (σ1 σ2 : sa_St), f_X11_reach 0 (s1) (s2) σ = some (r, σ1) ∧ f_X12_reach 159 (s1) (s2) σ1 = some (r, σ2) ∧ Inv' σ2
/-- dry: both answer alike -/
def lc_34 (Inv Inv' : sa_St → Prop) : Prop := ∀ (σ : sa_St) (s1 : Int32), Inv σ → ∃ (r : Int32) (σ1 σ2 : sa_St), f_X11_dry 0 (s1) σ = some (r, σ1) ∧ f_X12_dry 159 (s1) σ1 = some (r, σ2) ∧ Inv' σ2
/-- image: both answer alike -/
def lc_35 (Inv Inv' : sa_St → Prop) : Prop := ∀ (σ : sa_St) , Inv σ → ∃ (r : Int32) (σ1 σ2 : sa_St), f_X11_image 0  σ = some (r, σ1) ∧ f_X12_image 159  σ1 = some (r, σ2) ∧ Inv' σ2
/-- back: both answer alike -/
def lc_36 (Inv Inv' : sa_St → Prop) : Prop := ∀ (σ : sa_St) , Inv σ → ∃ (r : Int32) (σ1 σ2 : sa_St), f_X11_back 0  σ = some (r, σ1) ∧ f_X12_back 159  σ1 = some (r, σ2) ∧ Inv' σ2
/-- count: both answer alike -/
def lc_37 (Inv Inv' : sa_St → Prop) : Prop := ∀ (σ : sa_St) (s1 : Int32), Inv σ → ∃ (r : Int32) (σ1 σ2 : sa_St), f_X11_count 0 (s1) σ = some (r, σ1) ∧ f_X12_count 159 (s1) σ1 = some (r, σ2) ∧ Inv' σ2
set_option maxHeartbeats 1000000 in
theorem lcase_0 {Inv Inv' : sa_St → Prop} (F : lc_0 Inv Inv') {p : Program} {l : Launch} {e : Env} {s : State} {m : MethodId} {b : Nat} {below : List Frame} {meth : Method} {c : Code} {D : va_G} {ad : Nat → Nat} {cA : FieldType → ClassId} {K L i : Nat} {xs : Nat → Int32} (C : sa_C p s m #[Value.ref b] meth c code R_law "law" 7 ret D ad cA (fun q : Nat => s.heap.size ≤ q)) (hX : va_X b L xs s s.heap) (hbl : b < s.heap.size) (hi : i + 6 ≤ L ∧ L ≤ 3072) (hK : K ≤ 520) {σ : sa_St} (hI : Inv σ) (hn : ∀ σ2, Inv' σ2 → lw_S p l e s m b below meth c D ad cA (K) σ2 1597 [(4, .int (nI i)), (3, .ref (ad 192)), (2, .ref (ad 159)), (1, .ref (ad 0)), (0, .ref b)] []) : lw_S p l e s m b below meth c D ad cA (K) σ 208 [(4, .int (nI i)), (3, .ref (ad 192)), (2, .ref (ad 159)), (1, .ref (ad 0)), (0, .ref b)] [] := by
  obtain ⟨r, σ1, σ2, h1, h2, h3⟩ := F σ (xs (i + 1)) (xs (i + 2)) (xs (i + 3)) (xs (i + 4)) (xs (i + 5)) hI
  refine ls_aload_n C d_law_208 rfl 3 rfl ?_
  refine ls_aload_n C d_law_209 rfl 4 rfl ?_
  refine ls_iload C d_law_210 0 rfl ?_
  refine ls_iconst (v := 1) C d_law_212 (by decide) ?_
  refine ls_iadd C d_law_213 ?_
  refine ls_sld (w := xs (i + 1)) C hX hbl (lw_in hi (by decide)) (lw_at hi (by decide)) d_law_214 ?_
  refine ls_aload_n C d_law_215 rfl 4 rfl ?_
  refine ls_iload C d_law_216 0 rfl ?_
  refine ls_iconst (v := 2) C d_law_218 (by decide) ?_
  refine ls_iadd C d_law_219 ?_
  refine ls_sld (w := xs (i + 2)) C hX hbl (lw_in hi (by decide)) (lw_at hi (by decide)) d_law_220 ?_
  refine ls_aload_n C d_law_221 rfl 4 rfl ?_
  refine ls_iload C d_law_222 0 rfl ?_
  refine ls_iconst (v := 3) C d_law_224 (by decide) ?_
  refine ls_iadd C d_law_225 ?_
  refine ls_sld (w := xs (i + 3)) C hX hbl (lw_in hi (by decide)) (lw_at hi (by decide)) d_law_226 ?_
  refine ls_aload_n C d_law_227 rfl 4 rfl ?_
  refine ls_iload C d_law_228 0 rfl ?_
  refine ls_iconst (v := 4) C d_law_230 (by decide) ?_
  refine ls_iadd C d_law_231 ?_
  refine ls_sld (w := xs (i + 4)) C hX hbl (lw_in hi (by decide)) (lw_at hi (by decide)) d_law_232 ?_
  refine ls_aload_n C d_law_233 rfl 4 rfl ?_
  refine ls_iload C d_law_234 0 rfl ?_
  refine ls_iconst (v := 5) C d_law_236 (by decide) ?_
  refine ls_iadd C d_law_237 ?_
  refine ls_sld (w := xs (i + 5)) C hX hbl (lw_in hi (by decide)) (lw_at hi (by decide)) d_law_238 ?_
  refine ls_inv (ci := 11) C (k_X11_feed 0 (xs (i + 1)) (xs (i + 2)) (xs (i + 3)) (xs (i + 4)) (xs (i + 5))) q465 dt_X11_feed q114 rfl q463 q464 q462 rfl rfl rfl rfl (Nat.le_of_ble_eq_true rfl) (by decide) (by decide) hK d_law_239 h1 ?_
  refine ls_aload_n C d_law_242 rfl 2 rfl ?_
  refine ls_aload_n C d_law_243 rfl 4 rfl ?_
  refine ls_iload C d_law_244 0 rfl ?_
  refine ls_iconst (v := 1) C d_law_246 (by decide) ?_
  refine ls_iadd C d_law_247 ?_
  refine ls_sld (w := xs (i + 1)) C hX hbl (lw_in hi (by decide)) (lw_at hi (by decide)) d_law_248 ?_
  refine ls_aload_n C d_law_249 rfl 4 rfl ?_
  refine ls_iload C d_law_250 0 rfl ?_
  refine ls_iconst (v := 2) C d_law_252 (by decide) ?_
  refine ls_iadd C d_law_253 ?_
  refine ls_sld (w := xs (i + 2)) C hX hbl (lw_in hi (by decide)) (lw_at hi (by decide)) d_law_254 ?_
  refine ls_aload_n C d_law_255 rfl 4 rfl ?_
  refine ls_iload C d_law_256 0 rfl ?_
  refine ls_iconst (v := 3) C d_law_258 (by decide) ?_
  refine ls_iadd C d_law_259 ?_
  refine ls_sld (w := xs (i + 3)) C hX hbl (lw_in hi (by decide)) (lw_at hi (by decide)) d_law_260 ?_
  refine ls_aload_n C d_law_261 rfl 4 rfl ?_
  refine ls_iload C d_law_262 0 rfl ?_
  refine ls_iconst (v := 4) C d_law_264 (by decide) ?_
  refine ls_iadd C d_law_265 ?_
  refine ls_sld (w := xs (i + 4)) C hX hbl (lw_in hi (by decide)) (lw_at hi (by decide)) d_law_266 ?_
  refine ls_aload_n C d_law_267 rfl 4 rfl ?_
  refine ls_iload C d_law_268 0 rfl ?_
  refine ls_iconst (v := 5) C d_law_270 (by decide) ?_
  refine ls_iadd C d_law_271 ?_
  refine ls_sld (w := xs (i + 5)) C hX hbl (lw_in hi (by decide)) (lw_at hi (by decide)) d_law_272 ?_
  refine ls_inv (ci := 12) C (k_X12_feed 159 (xs (i + 1)) (xs (i + 2)) (xs (i + 3)) (xs (i + 4)) (xs (i + 5))) q1618 dt_X12_feed q128 rfl q1616 q1617 q1615 rfl rfl rfl rfl (Nat.le_of_ble_eq_true rfl) (by decide) (by decide) hK d_law_273 h2 ?_
  refine ls_icmp_eq (tgt := 1597) C d_law_276 (by decide) (fun _ => ?_) (fun h => absurd rfl h)
  exact hn _ h3
set_option maxHeartbeats 1000000 in
theorem lcase_1 {Inv Inv' : sa_St → Prop} (F : lc_1 Inv Inv') {p : Program} {l : Launch} {e : Env} {s : State} {m : MethodId} {b : Nat} {below : List Frame} {meth : Method} {c : Code} {D : va_G} {ad : Nat → Nat} {cA : FieldType → ClassId} {K L i : Nat} {xs : Nat → Int32} (C : sa_C p s m #[Value.ref b] meth c code R_law "law" 7 ret D ad cA (fun q : Nat => s.heap.size ≤ q)) (hX : va_X b L xs s s.heap) (hbl : b < s.heap.size) (hi : i + 6 ≤ L ∧ L ≤ 3072) (hK : K ≤ 520) {σ : sa_St} (hI : Inv σ) (hn : ∀ σ2, Inv' σ2 → lw_S p l e s m b below meth c D ad cA (K) σ2 1597 [(4, .int (nI i)), (3, .ref (ad 192)), (2, .ref (ad 159)), (1, .ref (ad 0)), (0, .ref b)] []) : lw_S p l e s m b below meth c D ad cA (K) σ 281 [(4, .int (nI i)), (3, .ref (ad 192)), (2, .ref (ad 159)), (1, .ref (ad 0)), (0, .ref b)] [] := by
  obtain ⟨r, σ1, σ2, h1, h2, h3⟩ := F σ (xs (i + 1)) hI
  refine ls_aload_n C d_law_281 rfl 3 rfl ?_
  refine ls_aload_n C d_law_282 rfl 4 rfl ?_
  refine ls_iload C d_law_283 0 rfl ?_
  refine ls_iconst (v := 1) C d_law_285 (by decide) ?_
  refine ls_iadd C d_law_286 ?_
  refine ls_sld (w := xs (i + 1)) C hX hbl (lw_in hi (by decide)) (lw_at hi (by decide)) d_law_287 ?_
  refine ls_inv (ci := 11) C (k_X11_end 0 (xs (i + 1))) q476 dt_X11_end q114 rfl q474 q475 q473 rfl rfl rfl rfl (Nat.le_of_ble_eq_true rfl) (by decide) (by decide) hK d_law_288 h1 ?_
  refine ls_aload_n C d_law_291 rfl 2 rfl ?_
  refine ls_aload_n C d_law_292 rfl 4 rfl ?_
  refine ls_iload C d_law_293 0 rfl ?_
  refine ls_iconst (v := 1) C d_law_295 (by decide) ?_
  refine ls_iadd C d_law_296 ?_
  refine ls_sld (w := xs (i + 1)) C hX hbl (lw_in hi (by decide)) (lw_at hi (by decide)) d_law_297 ?_
  refine ls_inv (ci := 12) C (k_X12_end 159 (xs (i + 1))) q1629 dt_X12_end q128 rfl q1627 q1628 q1626 rfl rfl rfl rfl (Nat.le_of_ble_eq_true rfl) (by decide) (by decide) hK d_law_298 h2 ?_
  refine ls_icmp_eq (tgt := 1597) C d_law_301 (by decide) (fun _ => ?_) (fun h => absurd rfl h)
  exact hn _ h3
set_option maxHeartbeats 1000000 in
theorem lcase_2 {Inv Inv' : sa_St → Prop} (F : lc_2 Inv Inv') {p : Program} {l : Launch} {e : Env} {s : State} {m : MethodId} {b : Nat} {below : List Frame} {meth : Method} {c : Code} {D : va_G} {ad : Nat → Nat} {cA : FieldType → ClassId} {K L i : Nat} {xs : Nat → Int32} (C : sa_C p s m #[Value.ref b] meth c code R_law "law" 7 ret D ad cA (fun q : Nat => s.heap.size ≤ q)) (hX : va_X b L xs s s.heap) (hbl : b < s.heap.size) (hi : i + 6 ≤ L ∧ L ≤ 3072) (hK : K ≤ 520) {σ : sa_St} (hI : Inv σ) (hn : ∀ σ2, Inv' σ2 → lw_S p l e s m b below meth c D ad cA (K) σ2 1597 [(4, .int (nI i)), (3, .ref (ad 192)), (2, .ref (ad 159)), (1, .ref (ad 0)), (0, .ref b)] []) : lw_S p l e s m b below meth c D ad cA (K) σ 306 [(4, .int (nI i)), (3, .ref (ad 192)), (2, .ref (ad 159)), (1, .ref (ad 0)), (0, .ref b)] [] := by
  obtain ⟨r, σ1, σ2, h1, h2, h3⟩ := F σ (xs (i + 1)) hI
  refine ls_aload_n C d_law_306 rfl 3 rfl ?_
  refine ls_aload_n C d_law_307 rfl 4 rfl ?_
  refine ls_iload C d_law_308 0 rfl ?_
  refine ls_iconst (v := 1) C d_law_310 (by decide) ?_
  refine ls_iadd C d_law_311 ?_
  refine ls_sld (w := xs (i + 1)) C hX hbl (lw_in hi (by decide)) (lw_at hi (by decide)) d_law_312 ?_
  refine ls_inv (ci := 11) C (k_X11_fault 0 (xs (i + 1))) q480 dt_X11_fault q114 rfl q478 q479 q477 rfl rfl rfl rfl (Nat.le_of_ble_eq_true rfl) (by decide) (by decide) hK d_law_313 h1 ?_
  refine ls_aload_n C d_law_316 rfl 2 rfl ?_
  refine ls_aload_n C d_law_317 rfl 4 rfl ?_
  refine ls_iload C d_law_318 0 rfl ?_
  refine ls_iconst (v := 1) C d_law_320 (by decide) ?_
  refine ls_iadd C d_law_321 ?_
  refine ls_sld (w := xs (i + 1)) C hX hbl (lw_in hi (by decide)) (lw_at hi (by decide)) d_law_322 ?_
  refine ls_inv (ci := 12) C (k_X12_fault 159 (xs (i + 1))) q1633 dt_X12_fault q128 rfl q1631 q1632 q1630 rfl rfl rfl rfl (Nat.le_of_ble_eq_true rfl) (by decide) (by decide) hK d_law_323 h2 ?_
  refine ls_icmp_eq (tgt := 1597) C d_law_326 (by decide) (fun _ => ?_) (fun h => absurd rfl h)
  exact hn _ h3
set_option maxHeartbeats 1000000 in
theorem lcase_3 {Inv Inv' : sa_St → Prop} (F : lc_3 Inv Inv') {p : Program} {l : Launch} {e : Env} {s : State} {m : MethodId} {b : Nat} {below : List Frame} {meth : Method} {c : Code} {D : va_G} {ad : Nat → Nat} {cA : FieldType → ClassId} {K L i : Nat} {xs : Nat → Int32} (C : sa_C p s m #[Value.ref b] meth c code R_law "law" 7 ret D ad cA (fun q : Nat => s.heap.size ≤ q)) (hX : va_X b L xs s s.heap) (hbl : b < s.heap.size) (hi : i + 6 ≤ L ∧ L ≤ 3072) (hK : K ≤ 520) {σ : sa_St} (hI : Inv σ) (hn : ∀ σ2, Inv' σ2 → lw_S p l e s m b below meth c D ad cA (K) σ2 1597 [(4, .int (nI i)), (3, .ref (ad 192)), (2, .ref (ad 159)), (1, .ref (ad 0)), (0, .ref b)] []) : lw_S p l e s m b below meth c D ad cA (K) σ 331 [(4, .int (nI i)), (3, .ref (ad 192)), (2, .ref (ad 159)), (1, .ref (ad 0)), (0, .ref b)] [] := by
  obtain ⟨r, σ1, σ2, h1, h2, h3⟩ := F σ (xs (i + 1)) hI
  refine ls_aload_n C d_law_331 rfl 3 rfl ?_
  refine ls_aload_n C d_law_332 rfl 4 rfl ?_
  refine ls_iload C d_law_333 0 rfl ?_
  refine ls_iconst (v := 1) C d_law_335 (by decide) ?_
  refine ls_iadd C d_law_336 ?_
  refine ls_sld (w := xs (i + 1)) C hX hbl (lw_in hi (by decide)) (lw_at hi (by decide)) d_law_337 ?_
  refine ls_inv (ci := 11) C (k_X11_text 0 (xs (i + 1))) q729 dt_X11_text q114 rfl q727 q728 q726 rfl rfl rfl rfl (Nat.le_of_ble_eq_true rfl) (by decide) (by decide) hK d_law_338 h1 ?_
  refine ls_aload_n C d_law_341 rfl 2 rfl ?_
  refine ls_aload_n C d_law_342 rfl 4 rfl ?_
  refine ls_iload C d_law_343 0 rfl ?_
  refine ls_iconst (v := 1) C d_law_345 (by decide) ?_
  refine ls_iadd C d_law_346 ?_
  refine ls_sld (w := xs (i + 1)) C hX hbl (lw_in hi (by decide)) (lw_at hi (by decide)) d_law_347 ?_
  refine ls_inv (ci := 12) C (k_X12_text 159 (xs (i + 1))) q1776 dt_X12_text q128 rfl q1774 q1775 q1773 rfl rfl rfl rfl (Nat.le_of_ble_eq_true rfl) (by decide) (by decide) hK d_law_348 h2 ?_
  refine ls_icmp_eq (tgt := 1597) C d_law_351 (by decide) (fun _ => ?_) (fun h => absurd rfl h)
  exact hn _ h3
set_option maxHeartbeats 1000000 in
theorem lcase_4 {Inv Inv' : sa_St → Prop} (F : lc_4 Inv Inv') {p : Program} {l : Launch} {e : Env} {s : State} {m : MethodId} {b : Nat} {below : List Frame} {meth : Method} {c : Code} {D : va_G} {ad : Nat → Nat} {cA : FieldType → ClassId} {K L i : Nat} {xs : Nat → Int32} (C : sa_C p s m #[Value.ref b] meth c code R_law "law" 7 ret D ad cA (fun q : Nat => s.heap.size ≤ q)) (hX : va_X b L xs s s.heap) (hbl : b < s.heap.size) (hi : i + 6 ≤ L ∧ L ≤ 3072) (hK : K ≤ 520) {σ : sa_St} (hI : Inv σ) (hn : ∀ σ2, Inv' σ2 → lw_S p l e s m b below meth c D ad cA (K) σ2 1597 [(4, .int (nI i)), (3, .ref (ad 192)), (2, .ref (ad 159)), (1, .ref (ad 0)), (0, .ref b)] []) : lw_S p l e s m b below meth c D ad cA (K) σ 356 [(4, .int (nI i)), (3, .ref (ad 192)), (2, .ref (ad 159)), (1, .ref (ad 0)), (0, .ref b)] [] := by
  obtain ⟨r, σ1, σ2, h1, h2, h3⟩ := F σ (xs (i + 1)) (xs (i + 2)) hI
  refine ls_aload_n C d_law_356 rfl 3 rfl ?_
  refine ls_aload_n C d_law_357 rfl 4 rfl ?_
  refine ls_iload C d_law_358 0 rfl ?_
  refine ls_iconst (v := 1) C d_law_360 (by decide) ?_
  refine ls_iadd C d_law_361 ?_
  refine ls_sld (w := xs (i + 1)) C hX hbl (lw_in hi (by decide)) (lw_at hi (by decide)) d_law_362 ?_
  refine ls_aload_n C d_law_363 rfl 4 rfl ?_
  refine ls_iload C d_law_364 0 rfl ?_
  refine ls_iconst (v := 2) C d_law_366 (by decide) ?_
  refine ls_iadd C d_law_367 ?_
  refine ls_sld (w := xs (i + 2)) C hX hbl (lw_in hi (by decide)) (lw_at hi (by decide)) d_law_368 ?_
  refine ls_inv (ci := 11) C (k_X11_spot 0 (xs (i + 1)) (xs (i + 2))) q771 dt_X11_spot q114 rfl q769 q770 q768 rfl rfl rfl rfl (Nat.le_of_ble_eq_true rfl) (by decide) (by decide) hK d_law_369 h1 ?_
  refine ls_aload_n C d_law_372 rfl 2 rfl ?_
  refine ls_aload_n C d_law_373 rfl 4 rfl ?_
  refine ls_iload C d_law_374 0 rfl ?_
  refine ls_iconst (v := 1) C d_law_376 (by decide) ?_
  refine ls_iadd C d_law_377 ?_
  refine ls_sld (w := xs (i + 1)) C hX hbl (lw_in hi (by decide)) (lw_at hi (by decide)) d_law_378 ?_
  refine ls_aload_n C d_law_379 rfl 4 rfl ?_
  refine ls_iload C d_law_380 0 rfl ?_
  refine ls_iconst (v := 2) C d_law_382 (by decide) ?_
  refine ls_iadd C d_law_383 ?_
  refine ls_sld (w := xs (i + 2)) C hX hbl (lw_in hi (by decide)) (lw_at hi (by decide)) d_law_384 ?_
  refine ls_inv (ci := 12) C (k_X12_spot 159 (xs (i + 1)) (xs (i + 2))) q1781 dt_X12_spot q128 rfl q1779 q1780 q1778 rfl rfl rfl rfl (Nat.le_of_ble_eq_true rfl) (by decide) (by decide) hK d_law_385 h2 ?_
  refine ls_icmp_eq (tgt := 1597) C d_law_388 (by decide) (fun _ => ?_) (fun h => absurd rfl h)
  exact hn _ h3
set_option maxHeartbeats 1000000 in
theorem lcase_5 {Inv Inv' : sa_St → Prop} (F : lc_5 Inv Inv') {p : Program} {l : Launch} {e : Env} {s : State} {m : MethodId} {b : Nat} {below : List Frame} {meth : Method} {c : Code} {D : va_G} {ad : Nat → Nat} {cA : FieldType → ClassId} {K L i : Nat} {xs : Nat → Int32} (C : sa_C p s m #[Value.ref b] meth c code R_law "law" 7 ret D ad cA (fun q : Nat => s.heap.size ≤ q)) (hX : va_X b L xs s s.heap) (hbl : b < s.heap.size) (hi : i + 6 ≤ L ∧ L ≤ 3072) (hK : K ≤ 520) {σ : sa_St} (hI : Inv σ) (hn : ∀ σ2, Inv' σ2 → lw_S p l e s m b below meth c D ad cA (K) σ2 1597 [(4, .int (nI i)), (3, .ref (ad 192)), (2, .ref (ad 159)), (1, .ref (ad 0)), (0, .ref b)] []) : lw_S p l e s m b below meth c D ad cA (K) σ 393 [(4, .int (nI i)), (3, .ref (ad 192)), (2, .ref (ad 159)), (1, .ref (ad 0)), (0, .ref b)] [] := by
  obtain ⟨r, σ1, σ2, h1, h2, h3⟩ := F σ (xs (i + 1)) (xs (i + 2)) hI
  refine ls_aload_n C d_law_393 rfl 3 rfl ?_
  refine ls_aload_n C d_law_394 rfl 4 rfl ?_
  refine ls_iload C d_law_395 0 rfl ?_
  refine ls_iconst (v := 1) C d_law_397 (by decide) ?_
  refine ls_iadd C d_law_398 ?_
  refine ls_sld (w := xs (i + 1)) C hX hbl (lw_in hi (by decide)) (lw_at hi (by decide)) d_law_399 ?_
  refine ls_aload_n C d_law_400 rfl 4 rfl ?_
  refine ls_iload C d_law_401 0 rfl ?_
  refine ls_iconst (v := 2) C d_law_403 (by decide) ?_
  refine ls_iadd C d_law_404 ?_
  refine ls_sld (w := xs (i + 2)) C hX hbl (lw_in hi (by decide)) (lw_at hi (by decide)) d_law_405 ?_
  refine ls_inv (ci := 11) C (k_X11_way 0 (xs (i + 1)) (xs (i + 2))) q777 dt_X11_way q114 rfl q775 q776 q774 rfl rfl rfl rfl (Nat.le_of_ble_eq_true rfl) (by decide) (by decide) hK d_law_406 h1 ?_
  refine ls_aload_n C d_law_409 rfl 2 rfl ?_
  refine ls_aload_n C d_law_410 rfl 4 rfl ?_
  refine ls_iload C d_law_411 0 rfl ?_
  refine ls_iconst (v := 1) C d_law_413 (by decide) ?_
  refine ls_iadd C d_law_414 ?_
  refine ls_sld (w := xs (i + 1)) C hX hbl (lw_in hi (by decide)) (lw_at hi (by decide)) d_law_415 ?_
  refine ls_aload_n C d_law_416 rfl 4 rfl ?_
  refine ls_iload C d_law_417 0 rfl ?_
  refine ls_iconst (v := 2) C d_law_419 (by decide) ?_
  refine ls_iadd C d_law_420 ?_
  refine ls_sld (w := xs (i + 2)) C hX hbl (lw_in hi (by decide)) (lw_at hi (by decide)) d_law_421 ?_
  refine ls_inv (ci := 12) C (k_X12_way 159 (xs (i + 1)) (xs (i + 2))) q1790 dt_X12_way q128 rfl q1788 q1789 q1787 rfl rfl rfl rfl (Nat.le_of_ble_eq_true rfl) (by decide) (by decide) hK d_law_422 h2 ?_
  refine ls_icmp_eq (tgt := 1597) C d_law_425 (by decide) (fun _ => ?_) (fun h => absurd rfl h)
  exact hn _ h3
set_option maxHeartbeats 1000000 in
theorem lcase_7 {Inv Inv' : sa_St → Prop} (F : lc_7 Inv Inv') {p : Program} {l : Launch} {e : Env} {s : State} {m : MethodId} {b : Nat} {below : List Frame} {meth : Method} {c : Code} {D : va_G} {ad : Nat → Nat} {cA : FieldType → ClassId} {K L i : Nat} {xs : Nat → Int32} (C : sa_C p s m #[Value.ref b] meth c code R_law "law" 7 ret D ad cA (fun q : Nat => s.heap.size ≤ q)) (hX : va_X b L xs s s.heap) (hbl : b < s.heap.size) (hi : i + 6 ≤ L ∧ L ≤ 3072) (hK : K ≤ 520) {σ : sa_St} (hI : Inv σ) (hn : ∀ σ2, Inv' σ2 → lw_S p l e s m b below meth c D ad cA (K) σ2 1597 [(4, .int (nI i)), (3, .ref (ad 192)), (2, .ref (ad 159)), (1, .ref (ad 0)), (0, .ref b)] []) : lw_S p l e s m b below meth c D ad cA (K) σ 498 [(4, .int (nI i)), (3, .ref (ad 192)), (2, .ref (ad 159)), (1, .ref (ad 0)), (0, .ref b)] [] := by
  obtain ⟨r, σ1, σ2, h1, h2, h3⟩ := F σ (xs (i + 1)) (xs (i + 2)) hI
  refine ls_aload_n C d_law_498 rfl 3 rfl ?_
  refine ls_aload_n C d_law_499 rfl 4 rfl ?_
  refine ls_iload C d_law_500 0 rfl ?_
  refine ls_iconst (v := 1) C d_law_502 (by decide) ?_
  refine ls_iadd C d_law_503 ?_
  refine ls_sld (w := xs (i + 1)) C hX hbl (lw_in hi (by decide)) (lw_at hi (by decide)) d_law_504 ?_
  refine ls_aload_n C d_law_505 rfl 4 rfl ?_
  refine ls_iload C d_law_506 0 rfl ?_
  refine ls_iconst (v := 2) C d_law_508 (by decide) ?_
  refine ls_iadd C d_law_509 ?_
  refine ls_sld (w := xs (i + 2)) C hX hbl (lw_in hi (by decide)) (lw_at hi (by decide)) d_law_510 ?_
  refine ls_inv (ci := 11) C (k_X11_foe 0 (xs (i + 1)) (xs (i + 2))) q781 dt_X11_foe q114 rfl q779 q780 q778 rfl rfl rfl rfl (Nat.le_of_ble_eq_true rfl) (by decide) (by decide) hK d_law_511 h1 ?_
  refine ls_aload_n C d_law_514 rfl 2 rfl ?_
  refine ls_aload_n C d_law_515 rfl 4 rfl ?_
  refine ls_iload C d_law_516 0 rfl ?_
  refine ls_iconst (v := 1) C d_law_518 (by decide) ?_
  refine ls_iadd C d_law_519 ?_
  refine ls_sld (w := xs (i + 1)) C hX hbl (lw_in hi (by decide)) (lw_at hi (by decide)) d_law_520 ?_
  refine ls_aload_n C d_law_521 rfl 4 rfl ?_
  refine ls_iload C d_law_522 0 rfl ?_
  refine ls_iconst (v := 2) C d_law_524 (by decide) ?_
  refine ls_iadd C d_law_525 ?_
  refine ls_sld (w := xs (i + 2)) C hX hbl (lw_in hi (by decide)) (lw_at hi (by decide)) d_law_526 ?_
  refine ls_inv (ci := 12) C (k_X12_foe 159 (xs (i + 1)) (xs (i + 2))) q1799 dt_X12_foe q128 rfl q1797 q1798 q1796 rfl rfl rfl rfl (Nat.le_of_ble_eq_true rfl) (by decide) (by decide) hK d_law_527 h2 ?_
  refine ls_icmp_eq (tgt := 1597) C d_law_530 (by decide) (fun _ => ?_) (fun h => absurd rfl h)
  exact hn _ h3
set_option maxHeartbeats 1000000 in
theorem lcase_8 {Inv Inv' : sa_St → Prop} (F : lc_8 Inv Inv') {p : Program} {l : Launch} {e : Env} {s : State} {m : MethodId} {b : Nat} {below : List Frame} {meth : Method} {c : Code} {D : va_G} {ad : Nat → Nat} {cA : FieldType → ClassId} {K L i : Nat} {xs : Nat → Int32} (C : sa_C p s m #[Value.ref b] meth c code R_law "law" 7 ret D ad cA (fun q : Nat => s.heap.size ≤ q)) (hX : va_X b L xs s s.heap) (hbl : b < s.heap.size) (hi : i + 6 ≤ L ∧ L ≤ 3072) (hK : K ≤ 520) {σ : sa_St} (hI : Inv σ) (hn : ∀ σ2, Inv' σ2 → lw_S p l e s m b below meth c D ad cA (K) σ2 1597 [(4, .int (nI i)), (3, .ref (ad 192)), (2, .ref (ad 159)), (1, .ref (ad 0)), (0, .ref b)] []) : lw_S p l e s m b below meth c D ad cA (K) σ 535 [(4, .int (nI i)), (3, .ref (ad 192)), (2, .ref (ad 159)), (1, .ref (ad 0)), (0, .ref b)] [] := by
  obtain ⟨r, σ1, σ2, h1, h2, h3⟩ := F σ (xs (i + 1)) hI
  refine ls_aload_n C d_law_535 rfl 3 rfl ?_
  refine ls_aload_n C d_law_536 rfl 4 rfl ?_
  refine ls_iload C d_law_537 0 rfl ?_
  refine ls_iconst (v := 1) C d_law_539 (by decide) ?_
  refine ls_iadd C d_law_540 ?_
  refine ls_sld (w := xs (i + 1)) C hX hbl (lw_in hi (by decide)) (lw_at hi (by decide)) d_law_541 ?_
  refine ls_inv (ci := 11) C (k_X11_law 0 (xs (i + 1))) q785 dt_X11_law q114 rfl q783 q784 q782 rfl rfl rfl rfl (Nat.le_of_ble_eq_true rfl) (by decide) (by decide) hK d_law_542 h1 ?_
  refine ls_aload_n C d_law_545 rfl 2 rfl ?_
  refine ls_aload_n C d_law_546 rfl 4 rfl ?_
  refine ls_iload C d_law_547 0 rfl ?_
  refine ls_iconst (v := 1) C d_law_549 (by decide) ?_
  refine ls_iadd C d_law_550 ?_
  refine ls_sld (w := xs (i + 1)) C hX hbl (lw_in hi (by decide)) (lw_at hi (by decide)) d_law_551 ?_
  refine ls_inv (ci := 12) C (k_X12_law 159 (xs (i + 1))) q1803 dt_X12_law q128 rfl q1801 q1802 q1800 rfl rfl rfl rfl (Nat.le_of_ble_eq_true rfl) (by decide) (by decide) hK d_law_552 h2 ?_
  refine ls_icmp_eq (tgt := 1597) C d_law_555 (by decide) (fun _ => ?_) (fun h => absurd rfl h)
  exact hn _ h3
set_option maxHeartbeats 1000000 in
theorem lcase_9 {Inv Inv' : sa_St → Prop} (F : lc_9 Inv Inv') {p : Program} {l : Launch} {e : Env} {s : State} {m : MethodId} {b : Nat} {below : List Frame} {meth : Method} {c : Code} {D : va_G} {ad : Nat → Nat} {cA : FieldType → ClassId} {K L i : Nat} {xs : Nat → Int32} (C : sa_C p s m #[Value.ref b] meth c code R_law "law" 7 ret D ad cA (fun q : Nat => s.heap.size ≤ q)) (hX : va_X b L xs s s.heap) (hbl : b < s.heap.size) (hi : i + 6 ≤ L ∧ L ≤ 3072) (hK : K ≤ 520) {σ : sa_St} (hI : Inv σ) (hn : ∀ σ2, Inv' σ2 → lw_S p l e s m b below meth c D ad cA (K) σ2 1597 [(4, .int (nI i)), (3, .ref (ad 192)), (2, .ref (ad 159)), (1, .ref (ad 0)), (0, .ref b)] []) : lw_S p l e s m b below meth c D ad cA (K) σ 560 [(4, .int (nI i)), (3, .ref (ad 192)), (2, .ref (ad 159)), (1, .ref (ad 0)), (0, .ref b)] [] := by
  obtain ⟨r, σ1, σ2, h1, h2, h3⟩ := F σ (xs (i + 1)) hI
  refine ls_aload_n C d_law_560 rfl 3 rfl ?_
  refine ls_aload_n C d_law_561 rfl 4 rfl ?_
  refine ls_iload C d_law_562 0 rfl ?_
  refine ls_iconst (v := 1) C d_law_564 (by decide) ?_
  refine ls_iadd C d_law_565 ?_
  refine ls_sld (w := xs (i + 1)) C hX hbl (lw_in hi (by decide)) (lw_at hi (by decide)) d_law_566 ?_
  refine ls_inv (ci := 11) C (k_X11_wear 0 (xs (i + 1))) q789 dt_X11_wear q114 rfl q787 q788 q786 rfl rfl rfl rfl (Nat.le_of_ble_eq_true rfl) (by decide) (by decide) hK d_law_567 h1 ?_
  refine ls_aload_n C d_law_570 rfl 2 rfl ?_
  refine ls_aload_n C d_law_571 rfl 4 rfl ?_
  refine ls_iload C d_law_572 0 rfl ?_
  refine ls_iconst (v := 1) C d_law_574 (by decide) ?_
  refine ls_iadd C d_law_575 ?_
  refine ls_sld (w := xs (i + 1)) C hX hbl (lw_in hi (by decide)) (lw_at hi (by decide)) d_law_576 ?_
  refine ls_inv (ci := 12) C (k_X12_wear 159 (xs (i + 1))) q1807 dt_X12_wear q128 rfl q1805 q1806 q1804 rfl rfl rfl rfl (Nat.le_of_ble_eq_true rfl) (by decide) (by decide) hK d_law_577 h2 ?_
  refine ls_icmp_eq (tgt := 1597) C d_law_580 (by decide) (fun _ => ?_) (fun h => absurd rfl h)
  exact hn _ h3
set_option maxHeartbeats 1000000 in
theorem lcase_10 {Inv Inv' : sa_St → Prop} (F : lc_10 Inv Inv') {p : Program} {l : Launch} {e : Env} {s : State} {m : MethodId} {b : Nat} {below : List Frame} {meth : Method} {c : Code} {D : va_G} {ad : Nat → Nat} {cA : FieldType → ClassId} {K L i : Nat} {xs : Nat → Int32} (C : sa_C p s m #[Value.ref b] meth c code R_law "law" 7 ret D ad cA (fun q : Nat => s.heap.size ≤ q)) (hX : va_X b L xs s s.heap) (hbl : b < s.heap.size) (hi : i + 6 ≤ L ∧ L ≤ 3072) (hK : K ≤ 520) {σ : sa_St} (hI : Inv σ) (hn : ∀ σ2, Inv' σ2 → lw_S p l e s m b below meth c D ad cA (K) σ2 1597 [(4, .int (nI i)), (3, .ref (ad 192)), (2, .ref (ad 159)), (1, .ref (ad 0)), (0, .ref b)] []) : lw_S p l e s m b below meth c D ad cA (K) σ 585 [(4, .int (nI i)), (3, .ref (ad 192)), (2, .ref (ad 159)), (1, .ref (ad 0)), (0, .ref b)] [] := by
  obtain ⟨r, σ1, σ2, h1, h2, h3⟩ := F σ (xs (i + 1)) (xs (i + 2)) hI
  refine ls_aload_n C d_law_585 rfl 3 rfl ?_
  refine ls_aload_n C d_law_586 rfl 4 rfl ?_
  refine ls_iload C d_law_587 0 rfl ?_
  refine ls_iconst (v := 1) C d_law_589 (by decide) ?_
  refine ls_iadd C d_law_590 ?_
  refine ls_sld (w := xs (i + 1)) C hX hbl (lw_in hi (by decide)) (lw_at hi (by decide)) d_law_591 ?_
  refine ls_aload_n C d_law_592 rfl 4 rfl ?_
  refine ls_iload C d_law_593 0 rfl ?_
  refine ls_iconst (v := 2) C d_law_595 (by decide) ?_
  refine ls_iadd C d_law_596 ?_
  refine ls_sld (w := xs (i + 2)) C hX hbl (lw_in hi (by decide)) (lw_at hi (by decide)) d_law_597 ?_
  refine ls_inv (ci := 11) C (k_X11_march 0 (xs (i + 1)) (xs (i + 2))) q821 dt_X11_march q114 rfl q819 q820 q818 rfl rfl rfl rfl (Nat.le_of_ble_eq_true rfl) (by decide) (by decide) hK d_law_598 h1 ?_
  refine ls_aload_n C d_law_601 rfl 2 rfl ?_
  refine ls_aload_n C d_law_602 rfl 4 rfl ?_
  refine ls_iload C d_law_603 0 rfl ?_
  refine ls_iconst (v := 1) C d_law_605 (by decide) ?_
  refine ls_iadd C d_law_606 ?_
  refine ls_sld (w := xs (i + 1)) C hX hbl (lw_in hi (by decide)) (lw_at hi (by decide)) d_law_607 ?_
  refine ls_aload_n C d_law_608 rfl 4 rfl ?_
  refine ls_iload C d_law_609 0 rfl ?_
  refine ls_iconst (v := 2) C d_law_611 (by decide) ?_
  refine ls_iadd C d_law_612 ?_
  refine ls_sld (w := xs (i + 2)) C hX hbl (lw_in hi (by decide)) (lw_at hi (by decide)) d_law_613 ?_
  refine ls_inv (ci := 12) C (k_X12_march 159 (xs (i + 1)) (xs (i + 2))) q1828 dt_X12_march q128 rfl q1826 q1827 q1825 rfl rfl rfl rfl (Nat.le_of_ble_eq_true rfl) (by decide) (by decide) hK d_law_614 h2 ?_
  refine ls_icmp_eq (tgt := 1597) C d_law_617 (by decide) (fun _ => ?_) (fun h => absurd rfl h)
  exact hn _ h3
set_option maxHeartbeats 1000000 in
theorem lcase_11 {Inv Inv' : sa_St → Prop} (F : lc_11 Inv Inv') {p : Program} {l : Launch} {e : Env} {s : State} {m : MethodId} {b : Nat} {below : List Frame} {meth : Method} {c : Code} {D : va_G} {ad : Nat → Nat} {cA : FieldType → ClassId} {K L i : Nat} {xs : Nat → Int32} (C : sa_C p s m #[Value.ref b] meth c code R_law "law" 7 ret D ad cA (fun q : Nat => s.heap.size ≤ q)) (hX : va_X b L xs s s.heap) (hbl : b < s.heap.size) (hi : i + 6 ≤ L ∧ L ≤ 3072) (hK : K ≤ 520) {σ : sa_St} (hI : Inv σ) (hn : ∀ σ2, Inv' σ2 → lw_S p l e s m b below meth c D ad cA (K) σ2 1597 [(4, .int (nI i)), (3, .ref (ad 192)), (2, .ref (ad 159)), (1, .ref (ad 0)), (0, .ref b)] []) : lw_S p l e s m b below meth c D ad cA (K) σ 622 [(4, .int (nI i)), (3, .ref (ad 192)), (2, .ref (ad 159)), (1, .ref (ad 0)), (0, .ref b)] [] := by
  obtain ⟨r, σ1, σ2, h1, h2, h3⟩ := F σ (xs (i + 1)) (xs (i + 2)) hI
  refine ls_aload_n C d_law_622 rfl 3 rfl ?_
  refine ls_aload_n C d_law_623 rfl 4 rfl ?_
  refine ls_iload C d_law_624 0 rfl ?_
  refine ls_iconst (v := 1) C d_law_626 (by decide) ?_
  refine ls_iadd C d_law_627 ?_
  refine ls_sld (w := xs (i + 1)) C hX hbl (lw_in hi (by decide)) (lw_at hi (by decide)) d_law_628 ?_
  refine ls_aload_n C d_law_629 rfl 4 rfl ?_
  refine ls_iload C d_law_630 0 rfl ?_
  refine ls_iconst (v := 2) C d_law_632 (by decide) ?_
  refine ls_iadd C d_law_633 ?_
  refine ls_sld (w := xs (i + 2)) C hX hbl (lw_in hi (by decide)) (lw_at hi (by decide)) d_law_634 ?_
  refine ls_inv (ci := 11) C (k_X11_join 0 (xs (i + 1)) (xs (i + 2))) q915 dt_X11_join q114 rfl q913 q914 q912 rfl rfl rfl rfl (Nat.le_of_ble_eq_true rfl) (by decide) (by decide) hK d_law_635 h1 ?_
  refine ls_aload_n C d_law_638 rfl 2 rfl ?_
  refine ls_aload_n C d_law_639 rfl 4 rfl ?_
  refine ls_iload C d_law_640 0 rfl ?_
  refine ls_iconst (v := 1) C d_law_642 (by decide) ?_
  refine ls_iadd C d_law_643 ?_
  refine ls_sld (w := xs (i + 1)) C hX hbl (lw_in hi (by decide)) (lw_at hi (by decide)) d_law_644 ?_
  refine ls_aload_n C d_law_645 rfl 4 rfl ?_
  refine ls_iload C d_law_646 0 rfl ?_
  refine ls_iconst (v := 2) C d_law_648 (by decide) ?_
  refine ls_iadd C d_law_649 ?_
  refine ls_sld (w := xs (i + 2)) C hX hbl (lw_in hi (by decide)) (lw_at hi (by decide)) d_law_650 ?_
  refine ls_inv (ci := 12) C (k_X12_join 159 (xs (i + 1)) (xs (i + 2))) q1851 dt_X12_join q128 rfl q1849 q1850 q1848 rfl rfl rfl rfl (Nat.le_of_ble_eq_true rfl) (by decide) (by decide) hK d_law_651 h2 ?_
  refine ls_icmp_eq (tgt := 1597) C d_law_654 (by decide) (fun _ => ?_) (fun h => absurd rfl h)
  exact hn _ h3
set_option maxHeartbeats 1000000 in
theorem lcase_12 {Inv Inv' : sa_St → Prop} (F : lc_12 Inv Inv') {p : Program} {l : Launch} {e : Env} {s : State} {m : MethodId} {b : Nat} {below : List Frame} {meth : Method} {c : Code} {D : va_G} {ad : Nat → Nat} {cA : FieldType → ClassId} {K L i : Nat} {xs : Nat → Int32} (C : sa_C p s m #[Value.ref b] meth c code R_law "law" 7 ret D ad cA (fun q : Nat => s.heap.size ≤ q)) (hX : va_X b L xs s s.heap) (hbl : b < s.heap.size) (hi : i + 6 ≤ L ∧ L ≤ 3072) (hK : K ≤ 520) {σ : sa_St} (hI : Inv σ) (hn : ∀ σ2, Inv' σ2 → lw_S p l e s m b below meth c D ad cA (K) σ2 1597 [(4, .int (nI i)), (3, .ref (ad 192)), (2, .ref (ad 159)), (1, .ref (ad 0)), (0, .ref b)] []) : lw_S p l e s m b below meth c D ad cA (K) σ 659 [(4, .int (nI i)), (3, .ref (ad 192)), (2, .ref (ad 159)), (1, .ref (ad 0)), (0, .ref b)] [] := by
  obtain ⟨r, σ1, σ2, h1, h2, h3⟩ := F σ (xs (i + 1)) hI
  refine ls_aload_n C d_law_659 rfl 3 rfl ?_
  refine ls_aload_n C d_law_660 rfl 4 rfl ?_
  refine ls_iload C d_law_661 0 rfl ?_
  refine ls_iconst (v := 1) C d_law_663 (by decide) ?_
  refine ls_iadd C d_law_664 ?_
  refine ls_sld (w := xs (i + 1)) C hX hbl (lw_in hi (by decide)) (lw_at hi (by decide)) d_law_665 ?_
  refine ls_inv (ci := 11) C (k_X11_dig 0 (xs (i + 1))) q919 dt_X11_dig q114 rfl q917 q918 q916 rfl rfl rfl rfl (Nat.le_of_ble_eq_true rfl) (by decide) (by decide) hK d_law_666 h1 ?_
  refine ls_aload_n C d_law_669 rfl 2 rfl ?_
  refine ls_aload_n C d_law_670 rfl 4 rfl ?_
  refine ls_iload C d_law_671 0 rfl ?_
  refine ls_iconst (v := 1) C d_law_673 (by decide) ?_
  refine ls_iadd C d_law_674 ?_
  refine ls_sld (w := xs (i + 1)) C hX hbl (lw_in hi (by decide)) (lw_at hi (by decide)) d_law_675 ?_
  refine ls_inv (ci := 12) C (k_X12_dig 159 (xs (i + 1))) q1863 dt_X12_dig q128 rfl q1861 q1862 q1860 rfl rfl rfl rfl (Nat.le_of_ble_eq_true rfl) (by decide) (by decide) hK d_law_676 h2 ?_
  refine ls_icmp_eq (tgt := 1597) C d_law_679 (by decide) (fun _ => ?_) (fun h => absurd rfl h)
  exact hn _ h3
set_option maxHeartbeats 1000000 in
theorem lcase_13 {Inv Inv' : sa_St → Prop} (F : lc_13 Inv Inv') {p : Program} {l : Launch} {e : Env} {s : State} {m : MethodId} {b : Nat} {below : List Frame} {meth : Method} {c : Code} {D : va_G} {ad : Nat → Nat} {cA : FieldType → ClassId} {K L i : Nat} {xs : Nat → Int32} (C : sa_C p s m #[Value.ref b] meth c code R_law "law" 7 ret D ad cA (fun q : Nat => s.heap.size ≤ q)) (hX : va_X b L xs s s.heap) (hbl : b < s.heap.size) (hi : i + 6 ≤ L ∧ L ≤ 3072) (hK : K ≤ 520) {σ : sa_St} (hI : Inv σ) (hn : ∀ σ2, Inv' σ2 → lw_S p l e s m b below meth c D ad cA (K) σ2 1597 [(4, .int (nI i)), (3, .ref (ad 192)), (2, .ref (ad 159)), (1, .ref (ad 0)), (0, .ref b)] []) : lw_S p l e s m b below meth c D ad cA (K) σ 684 [(4, .int (nI i)), (3, .ref (ad 192)), (2, .ref (ad 159)), (1, .ref (ad 0)), (0, .ref b)] [] := by
  obtain ⟨r, σ1, σ2, h1, h2, h3⟩ := F σ (xs (i + 1)) (xs (i + 2)) hI
  refine ls_aload_n C d_law_684 rfl 3 rfl ?_
  refine ls_aload_n C d_law_685 rfl 4 rfl ?_
  refine ls_iload C d_law_686 0 rfl ?_
  refine ls_iconst (v := 1) C d_law_688 (by decide) ?_
  refine ls_iadd C d_law_689 ?_
  refine ls_sld (w := xs (i + 1)) C hX hbl (lw_in hi (by decide)) (lw_at hi (by decide)) d_law_690 ?_
  refine ls_aload_n C d_law_691 rfl 4 rfl ?_
  refine ls_iload C d_law_692 0 rfl ?_
  refine ls_iconst (v := 2) C d_law_694 (by decide) ?_
  refine ls_iadd C d_law_695 ?_
  refine ls_sld (w := xs (i + 2)) C hX hbl (lw_in hi (by decide)) (lw_at hi (by decide)) d_law_696 ?_
  refine ls_inv (ci := 11) C (k_X11_cast 0 (xs (i + 1)) (xs (i + 2))) q923 dt_X11_cast q114 rfl q921 q922 q920 rfl rfl rfl rfl (Nat.le_of_ble_eq_true rfl) (by decide) (by decide) hK d_law_697 h1 ?_
  refine ls_aload_n C d_law_700 rfl 2 rfl ?_
  refine ls_aload_n C d_law_701 rfl 4 rfl ?_
  refine ls_iload C d_law_702 0 rfl ?_
  refine ls_iconst (v := 1) C d_law_704 (by decide) ?_
  refine ls_iadd C d_law_705 ?_
  refine ls_sld (w := xs (i + 1)) C hX hbl (lw_in hi (by decide)) (lw_at hi (by decide)) d_law_706 ?_
  refine ls_aload_n C d_law_707 rfl 4 rfl ?_
  refine ls_iload C d_law_708 0 rfl ?_
  refine ls_iconst (v := 2) C d_law_710 (by decide) ?_
  refine ls_iadd C d_law_711 ?_
  refine ls_sld (w := xs (i + 2)) C hX hbl (lw_in hi (by decide)) (lw_at hi (by decide)) d_law_712 ?_
  refine ls_inv (ci := 12) C (k_X12_cast 159 (xs (i + 1)) (xs (i + 2))) q1875 dt_X12_cast q128 rfl q1873 q1874 q1872 rfl rfl rfl rfl (Nat.le_of_ble_eq_true rfl) (by decide) (by decide) hK d_law_713 h2 ?_
  refine ls_icmp_eq (tgt := 1597) C d_law_716 (by decide) (fun _ => ?_) (fun h => absurd rfl h)
  exact hn _ h3
set_option maxHeartbeats 1000000 in
theorem lcase_14 {Inv Inv' : sa_St → Prop} (F : lc_14 Inv Inv') {p : Program} {l : Launch} {e : Env} {s : State} {m : MethodId} {b : Nat} {below : List Frame} {meth : Method} {c : Code} {D : va_G} {ad : Nat → Nat} {cA : FieldType → ClassId} {K L i : Nat} {xs : Nat → Int32} (C : sa_C p s m #[Value.ref b] meth c code R_law "law" 7 ret D ad cA (fun q : Nat => s.heap.size ≤ q)) (hX : va_X b L xs s s.heap) (hbl : b < s.heap.size) (hi : i + 6 ≤ L ∧ L ≤ 3072) (hK : K ≤ 520) {σ : sa_St} (hI : Inv σ) (hn : ∀ σ2, Inv' σ2 → lw_S p l e s m b below meth c D ad cA (K) σ2 1597 [(4, .int (nI i)), (3, .ref (ad 192)), (2, .ref (ad 159)), (1, .ref (ad 0)), (0, .ref b)] []) : lw_S p l e s m b below meth c D ad cA (K) σ 721 [(4, .int (nI i)), (3, .ref (ad 192)), (2, .ref (ad 159)), (1, .ref (ad 0)), (0, .ref b)] [] := by
  obtain ⟨r, σ1, σ2, h1, h2, h3⟩ := F σ (xs (i + 1)) hI
  refine ls_aload_n C d_law_721 rfl 3 rfl ?_
  refine ls_aload_n C d_law_722 rfl 4 rfl ?_
  refine ls_iload C d_law_723 0 rfl ?_
  refine ls_iconst (v := 1) C d_law_725 (by decide) ?_
  refine ls_iadd C d_law_726 ?_
  refine ls_sld (w := xs (i + 1)) C hX hbl (lw_in hi (by decide)) (lw_at hi (by decide)) d_law_727 ?_
  refine ls_inv (ci := 11) C (k_X11_hour 0 (xs (i + 1))) q927 dt_X11_hour q114 rfl q925 q926 q924 rfl rfl rfl rfl (Nat.le_of_ble_eq_true rfl) (by decide) (by decide) hK d_law_728 h1 ?_
  refine ls_aload_n C d_law_731 rfl 2 rfl ?_
  refine ls_aload_n C d_law_732 rfl 4 rfl ?_
  refine ls_iload C d_law_733 0 rfl ?_
  refine ls_iconst (v := 1) C d_law_735 (by decide) ?_
  refine ls_iadd C d_law_736 ?_
  refine ls_sld (w := xs (i + 1)) C hX hbl (lw_in hi (by decide)) (lw_at hi (by decide)) d_law_737 ?_
  refine ls_inv (ci := 12) C (k_X12_hour 159 (xs (i + 1))) q1887 dt_X12_hour q128 rfl q1885 q1886 q1884 rfl rfl rfl rfl (Nat.le_of_ble_eq_true rfl) (by decide) (by decide) hK d_law_738 h2 ?_
  refine ls_icmp_eq (tgt := 1597) C d_law_741 (by decide) (fun _ => ?_) (fun h => absurd rfl h)
  exact hn _ h3
set_option maxHeartbeats 1000000 in
theorem lcase_15 {Inv Inv' : sa_St → Prop} (F : lc_15 Inv Inv') {p : Program} {l : Launch} {e : Env} {s : State} {m : MethodId} {b : Nat} {below : List Frame} {meth : Method} {c : Code} {D : va_G} {ad : Nat → Nat} {cA : FieldType → ClassId} {K L i : Nat} {xs : Nat → Int32} (C : sa_C p s m #[Value.ref b] meth c code R_law "law" 7 ret D ad cA (fun q : Nat => s.heap.size ≤ q)) (hX : va_X b L xs s s.heap) (hbl : b < s.heap.size) (hi : i + 6 ≤ L ∧ L ≤ 3072) (hK : K ≤ 520) {σ : sa_St} (hI : Inv σ) (hn : ∀ σ2, Inv' σ2 → lw_S p l e s m b below meth c D ad cA (K) σ2 1597 [(4, .int (nI i)), (3, .ref (ad 192)), (2, .ref (ad 159)), (1, .ref (ad 0)), (0, .ref b)] []) : lw_S p l e s m b below meth c D ad cA (K) σ 746 [(4, .int (nI i)), (3, .ref (ad 192)), (2, .ref (ad 159)), (1, .ref (ad 0)), (0, .ref b)] [] := by
  obtain ⟨r, σ1, σ2, h1, h2, h3⟩ := F σ (xs (i + 1)) (xs (i + 2)) (xs (i + 3)) hI
  refine ls_aload_n C d_law_746 rfl 3 rfl ?_
  refine ls_aload_n C d_law_747 rfl 4 rfl ?_
  refine ls_iload C d_law_748 0 rfl ?_
  refine ls_iconst (v := 1) C d_law_750 (by decide) ?_
  refine ls_iadd C d_law_751 ?_
  refine ls_sld (w := xs (i + 1)) C hX hbl (lw_in hi (by decide)) (lw_at hi (by decide)) d_law_752 ?_
  refine ls_aload_n C d_law_753 rfl 4 rfl ?_
  refine ls_iload C d_law_754 0 rfl ?_
  refine ls_iconst (v := 2) C d_law_756 (by decide) ?_
  refine ls_iadd C d_law_757 ?_
  refine ls_sld (w := xs (i + 2)) C hX hbl (lw_in hi (by decide)) (lw_at hi (by decide)) d_law_758 ?_
  refine ls_i2l C d_law_759 ?_
  refine ls_bipush (v := 32) C d_law_760 (by decide) ?_
  refine ls_lshl C d_law_762 ?_
  refine ls_aload_n C d_law_763 rfl 4 rfl ?_
  refine ls_iload C d_law_764 0 rfl ?_
  refine ls_iconst (v := 3) C d_law_766 (by decide) ?_
  refine ls_iadd C d_law_767 ?_
  refine ls_sld (w := xs (i + 3)) C hX hbl (lw_in hi (by decide)) (lw_at hi (by decide)) d_law_768 ?_
  refine ls_i2l C d_law_769 ?_
  refine ls_ldc2 (v := 4294967295) C d_law_770 q2117 ?_
  refine ls_land C d_law_773 ?_
  refine ls_lor C d_law_774 ?_
  refine ls_inv (ci := 11) C (k_X11_war 0 (xs (i + 1)) ((((xs (i + 2)).toInt64) <<< ((32 : Int32).toInt64 &&& 63)) ||| (((xs (i + 3)).toInt64) &&& (4294967295)))) q936 dt_X11_war q114 rfl q934 q935 q933 rfl rfl rfl rfl (Nat.le_of_ble_eq_true rfl) (by decide) (by decide) hK d_law_775 h1 ?_
  refine ls_aload_n C d_law_778 rfl 2 rfl ?_
  refine ls_aload_n C d_law_779 rfl 4 rfl ?_
  refine ls_iload C d_law_780 0 rfl ?_
  refine ls_iconst (v := 1) C d_law_782 (by decide) ?_
  refine ls_iadd C d_law_783 ?_
  refine ls_sld (w := xs (i + 1)) C hX hbl (lw_in hi (by decide)) (lw_at hi (by decide)) d_law_784 ?_
  refine ls_aload_n C d_law_785 rfl 4 rfl ?_
  refine ls_iload C d_law_786 0 rfl ?_
  refine ls_iconst (v := 2) C d_law_788 (by decide) ?_
  refine ls_iadd C d_law_789 ?_
  refine ls_sld (w := xs (i + 2)) C hX hbl (lw_in hi (by decide)) (lw_at hi (by decide)) d_law_790 ?_
  refine ls_i2l C d_law_791 ?_
  refine ls_bipush (v := 32) C d_law_792 (by decide) ?_
  refine ls_lshl C d_law_794 ?_
  refine ls_aload_n C d_law_795 rfl 4 rfl ?_
  refine ls_iload C d_law_796 0 rfl ?_
  refine ls_iconst (v := 3) C d_law_798 (by decide) ?_
  refine ls_iadd C d_law_799 ?_
  refine ls_sld (w := xs (i + 3)) C hX hbl (lw_in hi (by decide)) (lw_at hi (by decide)) d_law_800 ?_
  refine ls_i2l C d_law_801 ?_
  refine ls_ldc2 (v := 4294967295) C d_law_802 q2117 ?_
  refine ls_land C d_law_805 ?_
  refine ls_lor C d_law_806 ?_
  refine ls_inv (ci := 12) C (k_X12_war 159 (xs (i + 1)) ((((xs (i + 2)).toInt64) <<< ((32 : Int32).toInt64 &&& 63)) ||| (((xs (i + 3)).toInt64) &&& (4294967295)))) q1911 dt_X12_war q128 rfl q1909 q1910 q1908 rfl rfl rfl rfl (Nat.le_of_ble_eq_true rfl) (by decide) (by decide) hK d_law_807 h2 ?_
  refine ls_icmp_eq (tgt := 1597) C d_law_810 (by decide) (fun _ => ?_) (fun h => absurd rfl h)
  exact hn _ h3
set_option maxHeartbeats 1000000 in
theorem lcase_16 {Inv Inv' : sa_St → Prop} (F : lc_16 Inv Inv') {p : Program} {l : Launch} {e : Env} {s : State} {m : MethodId} {b : Nat} {below : List Frame} {meth : Method} {c : Code} {D : va_G} {ad : Nat → Nat} {cA : FieldType → ClassId} {K L i : Nat} {xs : Nat → Int32} (C : sa_C p s m #[Value.ref b] meth c code R_law "law" 7 ret D ad cA (fun q : Nat => s.heap.size ≤ q)) (hX : va_X b L xs s s.heap) (hbl : b < s.heap.size) (hi : i + 6 ≤ L ∧ L ≤ 3072) (hK : K ≤ 520) {σ : sa_St} (hI : Inv σ) (hn : ∀ σ2, Inv' σ2 → lw_S p l e s m b below meth c D ad cA (K) σ2 1597 [(4, .int (nI i)), (3, .ref (ad 192)), (2, .ref (ad 159)), (1, .ref (ad 0)), (0, .ref b)] []) : lw_S p l e s m b below meth c D ad cA (K) σ 815 [(4, .int (nI i)), (3, .ref (ad 192)), (2, .ref (ad 159)), (1, .ref (ad 0)), (0, .ref b)] [] := by
  obtain ⟨r, σ1, σ2, h1, h2, h3⟩ := F σ  hI
  refine ls_aload_n C d_law_815 rfl 3 rfl ?_
  refine ls_inv (ci := 11) C (k_X11_undo 0 ) q943 dt_X11_undo q114 rfl q941 q942 q940 rfl rfl rfl rfl (Nat.le_of_ble_eq_true rfl) (by decide) (by decide) hK d_law_816 h1 ?_
  refine ls_aload_n C d_law_819 rfl 2 rfl ?_
  refine ls_inv (ci := 12) C (k_X12_undo 159 ) q1922 dt_X12_undo q128 rfl q1920 q1921 q1919 rfl rfl rfl rfl (Nat.le_of_ble_eq_true rfl) (by decide) (by decide) hK d_law_820 h2 ?_
  refine ls_icmp_eq (tgt := 1597) C d_law_823 (by decide) (fun _ => ?_) (fun h => absurd rfl h)
  exact hn _ h3
set_option maxHeartbeats 1000000 in
theorem lcase_17 {Inv Inv' : sa_St → Prop} (F : lc_17 Inv Inv') {p : Program} {l : Launch} {e : Env} {s : State} {m : MethodId} {b : Nat} {below : List Frame} {meth : Method} {c : Code} {D : va_G} {ad : Nat → Nat} {cA : FieldType → ClassId} {K L i : Nat} {xs : Nat → Int32} (C : sa_C p s m #[Value.ref b] meth c code R_law "law" 7 ret D ad cA (fun q : Nat => s.heap.size ≤ q)) (hX : va_X b L xs s s.heap) (hbl : b < s.heap.size) (hi : i + 6 ≤ L ∧ L ≤ 3072) (hK : K ≤ 520) {σ : sa_St} (hI : Inv σ) (hn : ∀ σ2, Inv' σ2 → lw_S p l e s m b below meth c D ad cA (K) σ2 1597 [(4, .int (nI i)), (3, .ref (ad 192)), (2, .ref (ad 159)), (1, .ref (ad 0)), (0, .ref b)] []) : lw_S p l e s m b below meth c D ad cA (K) σ 828 [(4, .int (nI i)), (3, .ref (ad 192)), (2, .ref (ad 159)), (1, .ref (ad 0)), (0, .ref b)] [] := by
  obtain ⟨r, σ1, σ2, h1, h2, h3⟩ := F σ (xs (i + 1)) (xs (i + 2)) hI
  refine ls_aload_n C d_law_828 rfl 3 rfl ?_
  refine ls_aload_n C d_law_829 rfl 4 rfl ?_
  refine ls_iload C d_law_830 0 rfl ?_
  refine ls_iconst (v := 1) C d_law_832 (by decide) ?_
  refine ls_iadd C d_law_833 ?_
  refine ls_sld (w := xs (i + 1)) C hX hbl (lw_in hi (by decide)) (lw_at hi (by decide)) d_law_834 ?_
  refine ls_aload_n C d_law_835 rfl 4 rfl ?_
  refine ls_iload C d_law_836 0 rfl ?_
  refine ls_iconst (v := 2) C d_law_838 (by decide) ?_
  refine ls_iadd C d_law_839 ?_
  refine ls_sld (w := xs (i + 2)) C hX hbl (lw_in hi (by decide)) (lw_at hi (by decide)) d_law_840 ?_
  refine ls_inv (ci := 11) C (k_X11_log 0 (xs (i + 1)) (xs (i + 2))) q951 dt_X11_log q114 rfl q949 q950 q948 rfl rfl rfl rfl (Nat.le_of_ble_eq_true rfl) (by decide) (by decide) hK d_law_841 h1 ?_
  refine ls_aload_n C d_law_844 rfl 2 rfl ?_
  refine ls_aload_n C d_law_845 rfl 4 rfl ?_
  refine ls_iload C d_law_846 0 rfl ?_
  refine ls_iconst (v := 1) C d_law_848 (by decide) ?_
  refine ls_iadd C d_law_849 ?_
  refine ls_sld (w := xs (i + 1)) C hX hbl (lw_in hi (by decide)) (lw_at hi (by decide)) d_law_850 ?_
  refine ls_aload_n C d_law_851 rfl 4 rfl ?_
  refine ls_iload C d_law_852 0 rfl ?_
  refine ls_iconst (v := 2) C d_law_854 (by decide) ?_
  refine ls_iadd C d_law_855 ?_
  refine ls_sld (w := xs (i + 2)) C hX hbl (lw_in hi (by decide)) (lw_at hi (by decide)) d_law_856 ?_
  refine ls_inv (ci := 12) C (k_X12_log 159 (xs (i + 1)) (xs (i + 2))) q1926 dt_X12_log q128 rfl q1924 q1925 q1923 rfl rfl rfl rfl (Nat.le_of_ble_eq_true rfl) (by decide) (by decide) hK d_law_857 h2 ?_
  refine ls_icmp_eq (tgt := 1597) C d_law_860 (by decide) (fun _ => ?_) (fun h => absurd rfl h)
  exact hn _ h3
set_option maxHeartbeats 1000000 in
theorem lcase_18 {Inv Inv' : sa_St → Prop} (F : lc_18 Inv Inv') {p : Program} {l : Launch} {e : Env} {s : State} {m : MethodId} {b : Nat} {below : List Frame} {meth : Method} {c : Code} {D : va_G} {ad : Nat → Nat} {cA : FieldType → ClassId} {K L i : Nat} {xs : Nat → Int32} (C : sa_C p s m #[Value.ref b] meth c code R_law "law" 7 ret D ad cA (fun q : Nat => s.heap.size ≤ q)) (hX : va_X b L xs s s.heap) (hbl : b < s.heap.size) (hi : i + 6 ≤ L ∧ L ≤ 3072) (hK : K ≤ 520) {σ : sa_St} (hI : Inv σ) (hn : ∀ σ2, Inv' σ2 → lw_S p l e s m b below meth c D ad cA (K) σ2 1597 [(4, .int (nI i)), (3, .ref (ad 192)), (2, .ref (ad 159)), (1, .ref (ad 0)), (0, .ref b)] []) : lw_S p l e s m b below meth c D ad cA (K) σ 865 [(4, .int (nI i)), (3, .ref (ad 192)), (2, .ref (ad 159)), (1, .ref (ad 0)), (0, .ref b)] [] := by
  obtain ⟨r, σ1, σ2, h1, h2, h3⟩ := F σ (xs (i + 1)) (xs (i + 2)) (xs (i + 3)) hI
  refine ls_aload_n C d_law_865 rfl 3 rfl ?_
  refine ls_aload_n C d_law_866 rfl 4 rfl ?_
  refine ls_iload C d_law_867 0 rfl ?_
  refine ls_iconst (v := 1) C d_law_869 (by decide) ?_
  refine ls_iadd C d_law_870 ?_
  refine ls_sld (w := xs (i + 1)) C hX hbl (lw_in hi (by decide)) (lw_at hi (by decide)) d_law_871 ?_
  refine ls_aload_n C d_law_872 rfl 4 rfl ?_
  refine ls_iload C d_law_873 0 rfl ?_
  refine ls_iconst (v := 2) C d_law_875 (by decide) ?_
  refine ls_iadd C d_law_876 ?_
  refine ls_sld (w := xs (i + 2)) C hX hbl (lw_in hi (by decide)) (lw_at hi (by decide)) d_law_877 ?_
  refine ls_aload_n C d_law_878 rfl 4 rfl ?_
  refine ls_iload C d_law_879 0 rfl ?_
  refine ls_iconst (v := 3) C d_law_881 (by decide) ?_
  refine ls_iadd C d_law_882 ?_
  refine ls_sld (w := xs (i + 3)) C hX hbl (lw_in hi (by decide)) (lw_at hi (by decide)) d_law_883 ?_
  refine ls_inv (ci := 11) C (k_X11_step 0 (xs (i + 1)) (xs (i + 2)) (xs (i + 3))) q963 dt_X11_step q114 rfl q961 q962 q960 rfl rfl rfl rfl (Nat.le_of_ble_eq_true rfl) (by decide) (by decide) hK d_law_884 h1 ?_
  refine ls_aload_n C d_law_887 rfl 2 rfl ?_
  refine ls_aload_n C d_law_888 rfl 4 rfl ?_
  refine ls_iload C d_law_889 0 rfl ?_
  refine ls_iconst (v := 1) C d_law_891 (by decide) ?_
  refine ls_iadd C d_law_892 ?_
  refine ls_sld (w := xs (i + 1)) C hX hbl (lw_in hi (by decide)) (lw_at hi (by decide)) d_law_893 ?_
  refine ls_aload_n C d_law_894 rfl 4 rfl ?_
  refine ls_iload C d_law_895 0 rfl ?_
  refine ls_iconst (v := 2) C d_law_897 (by decide) ?_
  refine ls_iadd C d_law_898 ?_
  refine ls_sld (w := xs (i + 2)) C hX hbl (lw_in hi (by decide)) (lw_at hi (by decide)) d_law_899 ?_
  refine ls_aload_n C d_law_900 rfl 4 rfl ?_
  refine ls_iload C d_law_901 0 rfl ?_
  refine ls_iconst (v := 3) C d_law_903 (by decide) ?_
  refine ls_iadd C d_law_904 ?_
  refine ls_sld (w := xs (i + 3)) C hX hbl (lw_in hi (by decide)) (lw_at hi (by decide)) d_law_905 ?_
  refine ls_inv (ci := 12) C (k_X12_step 159 (xs (i + 1)) (xs (i + 2)) (xs (i + 3))) q1930 dt_X12_step q128 rfl q1928 q1929 q1927 rfl rfl rfl rfl (Nat.le_of_ble_eq_true rfl) (by decide) (by decide) hK d_law_906 h2 ?_
  refine ls_icmp_eq (tgt := 1597) C d_law_909 (by decide) (fun _ => ?_) (fun h => absurd rfl h)
  exact hn _ h3
set_option maxHeartbeats 1000000 in
theorem lcase_19 {Inv Inv' : sa_St → Prop} (F : lc_19 Inv Inv') {p : Program} {l : Launch} {e : Env} {s : State} {m : MethodId} {b : Nat} {below : List Frame} {meth : Method} {c : Code} {D : va_G} {ad : Nat → Nat} {cA : FieldType → ClassId} {K L i : Nat} {xs : Nat → Int32} (C : sa_C p s m #[Value.ref b] meth c code R_law "law" 7 ret D ad cA (fun q : Nat => s.heap.size ≤ q)) (hX : va_X b L xs s s.heap) (hbl : b < s.heap.size) (hi : i + 6 ≤ L ∧ L ≤ 3072) (hK : K ≤ 520) {σ : sa_St} (hI : Inv σ) (hn : ∀ σ2, Inv' σ2 → lw_S p l e s m b below meth c D ad cA (K) σ2 1597 [(4, .int (nI i)), (3, .ref (ad 192)), (2, .ref (ad 159)), (1, .ref (ad 0)), (0, .ref b)] []) : lw_S p l e s m b below meth c D ad cA (K) σ 914 [(4, .int (nI i)), (3, .ref (ad 192)), (2, .ref (ad 159)), (1, .ref (ad 0)), (0, .ref b)] [] := by
  obtain ⟨r, σ1, σ2, h1, h2, h3⟩ := F σ (xs (i + 1)) (xs (i + 2)) hI
  refine ls_aload_n C d_law_914 rfl 3 rfl ?_
  refine ls_aload_n C d_law_915 rfl 4 rfl ?_
  refine ls_iload C d_law_916 0 rfl ?_
  refine ls_iconst (v := 1) C d_law_918 (by decide) ?_
  refine ls_iadd C d_law_919 ?_
  refine ls_sld (w := xs (i + 1)) C hX hbl (lw_in hi (by decide)) (lw_at hi (by decide)) d_law_920 ?_
  refine ls_aload_n C d_law_921 rfl 4 rfl ?_
  refine ls_iload C d_law_922 0 rfl ?_
  refine ls_iconst (v := 2) C d_law_924 (by decide) ?_
  refine ls_iadd C d_law_925 ?_
  refine ls_sld (w := xs (i + 2)) C hX hbl (lw_in hi (by decide)) (lw_at hi (by decide)) d_law_926 ?_
  refine ls_inv (ci := 11) C (k_X11_run 0 (xs (i + 1)) (xs (i + 2))) q975 dt_X11_run q114 rfl q973 q974 q972 rfl rfl rfl rfl (Nat.le_of_ble_eq_true rfl) (by decide) (by decide) hK d_law_927 h1 ?_
  refine ls_aload_n C d_law_930 rfl 2 rfl ?_
  refine ls_aload_n C d_law_931 rfl 4 rfl ?_
  refine ls_iload C d_law_932 0 rfl ?_
  refine ls_iconst (v := 1) C d_law_934 (by decide) ?_
  refine ls_iadd C d_law_935 ?_
  refine ls_sld (w := xs (i + 1)) C hX hbl (lw_in hi (by decide)) (lw_at hi (by decide)) d_law_936 ?_
  refine ls_aload_n C d_law_937 rfl 4 rfl ?_
  refine ls_iload C d_law_938 0 rfl ?_
  refine ls_iconst (v := 2) C d_law_940 (by decide) ?_
  refine ls_iadd C d_law_941 ?_
  refine ls_sld (w := xs (i + 2)) C hX hbl (lw_in hi (by decide)) (lw_at hi (by decide)) d_law_942 ?_
  refine ls_inv (ci := 12) C (k_X12_run 159 (xs (i + 1)) (xs (i + 2))) q1934 dt_X12_run q128 rfl q1932 q1933 q1931 rfl rfl rfl rfl (Nat.le_of_ble_eq_true rfl) (by decide) (by decide) hK d_law_943 h2 ?_
  refine ls_icmp_eq (tgt := 1597) C d_law_946 (by decide) (fun _ => ?_) (fun h => absurd rfl h)
  exact hn _ h3
set_option maxHeartbeats 1000000 in
theorem lcase_20 {Inv Inv' : sa_St → Prop} (F : lc_20 Inv Inv') {p : Program} {l : Launch} {e : Env} {s : State} {m : MethodId} {b : Nat} {below : List Frame} {meth : Method} {c : Code} {D : va_G} {ad : Nat → Nat} {cA : FieldType → ClassId} {K L i : Nat} {xs : Nat → Int32} (C : sa_C p s m #[Value.ref b] meth c code R_law "law" 7 ret D ad cA (fun q : Nat => s.heap.size ≤ q)) (hX : va_X b L xs s s.heap) (hbl : b < s.heap.size) (hi : i + 6 ≤ L ∧ L ≤ 3072) (hK : K ≤ 520) {σ : sa_St} (hI : Inv σ) (hn : ∀ σ2, Inv' σ2 → lw_S p l e s m b below meth c D ad cA (K) σ2 1597 [(4, .int (nI i)), (3, .ref (ad 192)), (2, .ref (ad 159)), (1, .ref (ad 0)), (0, .ref b)] []) : lw_S p l e s m b below meth c D ad cA (K) σ 951 [(4, .int (nI i)), (3, .ref (ad 192)), (2, .ref (ad 159)), (1, .ref (ad 0)), (0, .ref b)] [] := by
  obtain ⟨r, σ1, σ2, h1, h2, h3⟩ := F σ (xs (i + 1)) hI
  refine ls_aload_n C d_law_951 rfl 3 rfl ?_
  refine ls_aload_n C d_law_952 rfl 4 rfl ?_
  refine ls_iload C d_law_953 0 rfl ?_
  refine ls_iconst (v := 1) C d_law_955 (by decide) ?_
  refine ls_iadd C d_law_956 ?_
  refine ls_sld (w := xs (i + 1)) C hX hbl (lw_in hi (by decide)) (lw_at hi (by decide)) d_law_957 ?_
  refine ls_inv (ci := 11) C (k_X11_perform 0 (xs (i + 1))) q1002 dt_X11_perform q114 rfl q1000 q1001 q999 rfl rfl rfl rfl (Nat.le_of_ble_eq_true rfl) (by decide) (by decide) hK d_law_958 h1 ?_
  refine ls_aload_n C d_law_961 rfl 2 rfl ?_
  refine ls_aload_n C d_law_962 rfl 4 rfl ?_
  refine ls_iload C d_law_963 0 rfl ?_
  refine ls_iconst (v := 1) C d_law_965 (by decide) ?_
  refine ls_iadd C d_law_966 ?_
  refine ls_sld (w := xs (i + 1)) C hX hbl (lw_in hi (by decide)) (lw_at hi (by decide)) d_law_967 ?_
  refine ls_inv (ci := 12) C (k_X12_perform 159 (xs (i + 1))) q1953 dt_X12_perform q128 rfl q1951 q1952 q1950 rfl rfl rfl rfl (Nat.le_of_ble_eq_true rfl) (by decide) (by decide) hK d_law_968 h2 ?_
  refine ls_icmp_eq (tgt := 1597) C d_law_971 (by decide) (fun _ => ?_) (fun h => absurd rfl h)
  exact hn _ h3
set_option maxHeartbeats 1000000 in
theorem lcase_21 {Inv Inv' : sa_St → Prop} (F : lc_21 Inv Inv') {p : Program} {l : Launch} {e : Env} {s : State} {m : MethodId} {b : Nat} {below : List Frame} {meth : Method} {c : Code} {D : va_G} {ad : Nat → Nat} {cA : FieldType → ClassId} {K L i : Nat} {xs : Nat → Int32} (C : sa_C p s m #[Value.ref b] meth c code R_law "law" 7 ret D ad cA (fun q : Nat => s.heap.size ≤ q)) (hX : va_X b L xs s s.heap) (hbl : b < s.heap.size) (hi : i + 6 ≤ L ∧ L ≤ 3072) (hK : K ≤ 520) {σ : sa_St} (hI : Inv σ) (hn : ∀ σ2, Inv' σ2 → lw_S p l e s m b below meth c D ad cA (K) σ2 1597 [(4, .int (nI i)), (3, .ref (ad 192)), (2, .ref (ad 159)), (1, .ref (ad 0)), (0, .ref b)] []) : lw_S p l e s m b below meth c D ad cA (K) σ 976 [(4, .int (nI i)), (3, .ref (ad 192)), (2, .ref (ad 159)), (1, .ref (ad 0)), (0, .ref b)] [] := by
  obtain ⟨r, σ1, σ2, h1, h2, h3⟩ := F σ (xs (i + 1)) (xs (i + 2)) (xs (i + 3)) hI
  refine ls_aload_n C d_law_976 rfl 3 rfl ?_
  refine ls_aload_n C d_law_977 rfl 4 rfl ?_
  refine ls_iload C d_law_978 0 rfl ?_
  refine ls_iconst (v := 1) C d_law_980 (by decide) ?_
  refine ls_iadd C d_law_981 ?_
  refine ls_sld (w := xs (i + 1)) C hX hbl (lw_in hi (by decide)) (lw_at hi (by decide)) d_law_982 ?_
  refine ls_aload_n C d_law_983 rfl 4 rfl ?_
  refine ls_iload C d_law_984 0 rfl ?_
  refine ls_iconst (v := 2) C d_law_986 (by decide) ?_
  refine ls_iadd C d_law_987 ?_
  refine ls_sld (w := xs (i + 2)) C hX hbl (lw_in hi (by decide)) (lw_at hi (by decide)) d_law_988 ?_
  refine ls_aload_n C d_law_989 rfl 4 rfl ?_
  refine ls_iload C d_law_990 0 rfl ?_
  refine ls_iconst (v := 3) C d_law_992 (by decide) ?_
  refine ls_iadd C d_law_993 ?_
  refine ls_sld (w := xs (i + 3)) C hX hbl (lw_in hi (by decide)) (lw_at hi (by decide)) d_law_994 ?_
  refine ls_nz (tgt := 1002) (J := 1003) C d_law_995 (by decide) d_law_998 d_law_999 (by decide) d_law_1002 (by decide) ?_
  refine ls_inv (ci := 11) C (k_X11_sky 0 (xs (i + 1)) (xs (i + 2)) (if xs (i + 3) = 0 then 0 else 1)) q1006 dt_X11_sky q114 rfl q1004 q1005 q1003 rfl rfl rfl rfl (Nat.le_of_ble_eq_true rfl) (by decide) (by decide) hK d_law_1003 h1 ?_
  refine ls_aload_n C d_law_1006 rfl 2 rfl ?_
  refine ls_aload_n C d_law_1007 rfl 4 rfl ?_
  refine ls_iload C d_law_1008 0 rfl ?_
  refine ls_iconst (v := 1) C d_law_1010 (by decide) ?_
  refine ls_iadd C d_law_1011 ?_
  refine ls_sld (w := xs (i + 1)) C hX hbl (lw_in hi (by decide)) (lw_at hi (by decide)) d_law_1012 ?_
  refine ls_aload_n C d_law_1013 rfl 4 rfl ?_
  refine ls_iload C d_law_1014 0 rfl ?_
  refine ls_iconst (v := 2) C d_law_1016 (by decide) ?_
  refine ls_iadd C d_law_1017 ?_
  refine ls_sld (w := xs (i + 2)) C hX hbl (lw_in hi (by decide)) (lw_at hi (by decide)) d_law_1018 ?_
  refine ls_aload_n C d_law_1019 rfl 4 rfl ?_
  refine ls_iload C d_law_1020 0 rfl ?_
  refine ls_iconst (v := 3) C d_law_1022 (by decide) ?_
  refine ls_iadd C d_law_1023 ?_
  refine ls_sld (w := xs (i + 3)) C hX hbl (lw_in hi (by decide)) (lw_at hi (by decide)) d_law_1024 ?_
  refine ls_nz (tgt := 1032) (J := 1033) C d_law_1025 (by decide) d_law_1028 d_law_1029 (by decide) d_law_1032 (by decide) ?_
  refine ls_inv (ci := 12) C (k_X12_sky 159 (xs (i + 1)) (xs (i + 2)) (if xs (i + 3) = 0 then 0 else 1)) q1957 dt_X12_sky q128 rfl q1955 q1956 q1954 rfl rfl rfl rfl (Nat.le_of_ble_eq_true rfl) (by decide) (by decide) hK d_law_1033 h2 ?_
  refine ls_icmp_eq (tgt := 1597) C d_law_1036 (by decide) (fun _ => ?_) (fun h => absurd rfl h)
  exact hn _ h3
set_option maxHeartbeats 1000000 in
theorem lcase_22 {Inv Inv' : sa_St → Prop} (F : lc_22 Inv Inv') {p : Program} {l : Launch} {e : Env} {s : State} {m : MethodId} {b : Nat} {below : List Frame} {meth : Method} {c : Code} {D : va_G} {ad : Nat → Nat} {cA : FieldType → ClassId} {K L i : Nat} {xs : Nat → Int32} (C : sa_C p s m #[Value.ref b] meth c code R_law "law" 7 ret D ad cA (fun q : Nat => s.heap.size ≤ q)) (hX : va_X b L xs s s.heap) (hbl : b < s.heap.size) (hi : i + 6 ≤ L ∧ L ≤ 3072) (hK : K ≤ 520) {σ : sa_St} (hI : Inv σ) (hn : ∀ σ2, Inv' σ2 → lw_S p l e s m b below meth c D ad cA (K) σ2 1597 [(4, .int (nI i)), (3, .ref (ad 192)), (2, .ref (ad 159)), (1, .ref (ad 0)), (0, .ref b)] []) : lw_S p l e s m b below meth c D ad cA (K) σ 1041 [(4, .int (nI i)), (3, .ref (ad 192)), (2, .ref (ad 159)), (1, .ref (ad 0)), (0, .ref b)] [] := by
  obtain ⟨r, σ1, σ2, h1, h2, h3⟩ := F σ (xs (i + 1)) (xs (i + 2)) (xs (i + 3)) (xs (i + 4)) hI
  refine ls_aload_n C d_law_1041 rfl 3 rfl ?_
  refine ls_aload_n C d_law_1042 rfl 4 rfl ?_
  refine ls_iload C d_law_1043 0 rfl ?_
  refine ls_iconst (v := 1) C d_law_1045 (by decide) ?_
  refine ls_iadd C d_law_1046 ?_
  refine ls_sld (w := xs (i + 1)) C hX hbl (lw_in hi (by decide)) (lw_at hi (by decide)) d_law_1047 ?_
  refine ls_aload_n C d_law_1048 rfl 4 rfl ?_
  refine ls_iload C d_law_1049 0 rfl ?_
  refine ls_iconst (v := 2) C d_law_1051 (by decide) ?_
  refine ls_iadd C d_law_1052 ?_
  refine ls_sld (w := xs (i + 2)) C hX hbl (lw_in hi (by decide)) (lw_at hi (by decide)) d_law_1053 ?_
  refine ls_aload_n C d_law_1054 rfl 4 rfl ?_
  refine ls_iload C d_law_1055 0 rfl ?_
  refine ls_iconst (v := 3) C d_law_1057 (by decide) ?_
  refine ls_iadd C d_law_1058 ?_
  refine ls_sld (w := xs (i + 3)) C hX hbl (lw_in hi (by decide)) (lw_at hi (by decide)) d_law_1059 ?_
  refine ls_aload_n C d_law_1060 rfl 4 rfl ?_
  refine ls_iload C d_law_1061 0 rfl ?_
  refine ls_iconst (v := 4) C d_law_1063 (by decide) ?_
  refine ls_iadd C d_law_1064 ?_
  refine ls_sld (w := xs (i + 4)) C hX hbl (lw_in hi (by decide)) (lw_at hi (by decide)) d_law_1065 ?_
  refine ls_inv (ci := 11) C (k_X11_best 0 (xs (i + 1)) (xs (i + 2)) (xs (i + 3)) (xs (i + 4))) q1014 dt_X11_best q114 rfl q1012 q1013 q1011 rfl rfl rfl rfl (Nat.le_of_ble_eq_true rfl) (by decide) (by decide) hK d_law_1066 h1 ?_
  refine ls_aload_n C d_law_1069 rfl 2 rfl ?_
  refine ls_aload_n C d_law_1070 rfl 4 rfl ?_
  refine ls_iload C d_law_1071 0 rfl ?_
  refine ls_iconst (v := 1) C d_law_1073 (by decide) ?_
  refine ls_iadd C d_law_1074 ?_
  refine ls_sld (w := xs (i + 1)) C hX hbl (lw_in hi (by decide)) (lw_at hi (by decide)) d_law_1075 ?_
  refine ls_aload_n C d_law_1076 rfl 4 rfl ?_
  refine ls_iload C d_law_1077 0 rfl ?_
  refine ls_iconst (v := 2) C d_law_1079 (by decide) ?_
  refine ls_iadd C d_law_1080 ?_
  refine ls_sld (w := xs (i + 2)) C hX hbl (lw_in hi (by decide)) (lw_at hi (by decide)) d_law_1081 ?_
  refine ls_aload_n C d_law_1082 rfl 4 rfl ?_
  refine ls_iload C d_law_1083 0 rfl ?_
  refine ls_iconst (v := 3) C d_law_1085 (by decide) ?_
  refine ls_iadd C d_law_1086 ?_
  refine ls_sld (w := xs (i + 3)) C hX hbl (lw_in hi (by decide)) (lw_at hi (by decide)) d_law_1087 ?_
  refine ls_aload_n C d_law_1088 rfl 4 rfl ?_
  refine ls_iload C d_law_1089 0 rfl ?_
  refine ls_iconst (v := 4) C d_law_1091 (by decide) ?_
  refine ls_iadd C d_law_1092 ?_
  refine ls_sld (w := xs (i + 4)) C hX hbl (lw_in hi (by decide)) (lw_at hi (by decide)) d_law_1093 ?_
  refine ls_inv (ci := 12) C (k_X12_best 159 (xs (i + 1)) (xs (i + 2)) (xs (i + 3)) (xs (i + 4))) q2020 dt_X12_best q128 rfl q2018 q2019 q2017 rfl rfl rfl rfl (Nat.le_of_ble_eq_true rfl) (by decide) (by decide) hK d_law_1094 h2 ?_
  refine ls_icmp_eq (tgt := 1597) C d_law_1097 (by decide) (fun _ => ?_) (fun h => absurd rfl h)
  exact hn _ h3
set_option maxHeartbeats 1000000 in
theorem lcase_23 {Inv Inv' : sa_St → Prop} (F : lc_23 Inv Inv') {p : Program} {l : Launch} {e : Env} {s : State} {m : MethodId} {b : Nat} {below : List Frame} {meth : Method} {c : Code} {D : va_G} {ad : Nat → Nat} {cA : FieldType → ClassId} {K L i : Nat} {xs : Nat → Int32} (C : sa_C p s m #[Value.ref b] meth c code R_law "law" 7 ret D ad cA (fun q : Nat => s.heap.size ≤ q)) (hX : va_X b L xs s s.heap) (hbl : b < s.heap.size) (hi : i + 6 ≤ L ∧ L ≤ 3072) (hK : K ≤ 520) {σ : sa_St} (hI : Inv σ) (hn : ∀ σ2, Inv' σ2 → lw_S p l e s m b below meth c D ad cA (K) σ2 1597 [(4, .int (nI i)), (3, .ref (ad 192)), (2, .ref (ad 159)), (1, .ref (ad 0)), (0, .ref b)] []) : lw_S p l e s m b below meth c D ad cA (K) σ 1102 [(4, .int (nI i)), (3, .ref (ad 192)), (2, .ref (ad 159)), (1, .ref (ad 0)), (0, .ref b)] [] := by
  obtain ⟨r, σ1, σ2, h1, h2, h3⟩ := F σ (xs (i + 1)) (xs (i + 2)) hI
  refine ls_aload_n C d_law_1102 rfl 3 rfl ?_
  refine ls_aload_n C d_law_1103 rfl 4 rfl ?_
  refine ls_iload C d_law_1104 0 rfl ?_
  refine ls_iconst (v := 1) C d_law_1106 (by decide) ?_
  refine ls_iadd C d_law_1107 ?_
  refine ls_sld (w := xs (i + 1)) C hX hbl (lw_in hi (by decide)) (lw_at hi (by decide)) d_law_1108 ?_
  refine ls_aload_n C d_law_1109 rfl 4 rfl ?_
  refine ls_iload C d_law_1110 0 rfl ?_
  refine ls_iconst (v := 2) C d_law_1112 (by decide) ?_
  refine ls_iadd C d_law_1113 ?_
  refine ls_sld (w := xs (i + 2)) C hX hbl (lw_in hi (by decide)) (lw_at hi (by decide)) d_law_1114 ?_
  refine ls_inv (ci := 11) C (k_X11_journeys 0 (xs (i + 1)) (xs (i + 2))) q1120 dt_X11_journeys q114 rfl q1118 q1119 q1117 rfl rfl rfl rfl (Nat.le_of_ble_eq_true rfl) (by decide) (by decide) hK d_law_1115 h1 ?_
  refine ls_aload_n C d_law_1118 rfl 2 rfl ?_
  refine ls_aload_n C d_law_1119 rfl 4 rfl ?_
  refine ls_iload C d_law_1120 0 rfl ?_
  refine ls_iconst (v := 1) C d_law_1122 (by decide) ?_
  refine ls_iadd C d_law_1123 ?_
  refine ls_sld (w := xs (i + 1)) C hX hbl (lw_in hi (by decide)) (lw_at hi (by decide)) d_law_1124 ?_
  refine ls_aload_n C d_law_1125 rfl 4 rfl ?_
  refine ls_iload C d_law_1126 0 rfl ?_
  refine ls_iconst (v := 2) C d_law_1128 (by decide) ?_
  refine ls_iadd C d_law_1129 ?_
  refine ls_sld (w := xs (i + 2)) C hX hbl (lw_in hi (by decide)) (lw_at hi (by decide)) d_law_1130 ?_
  refine ls_inv (ci := 12) C (k_X12_journeys 159 (xs (i + 1)) (xs (i + 2))) q1962 dt_X12_journeys q128 rfl q1960 q1961 q1959 rfl rfl rfl rfl (Nat.le_of_ble_eq_true rfl) (by decide) (by decide) hK d_law_1131 h2 ?_
  refine ls_icmp_eq (tgt := 1597) C d_law_1134 (by decide) (fun _ => ?_) (fun h => absurd rfl h)
  exact hn _ h3
set_option maxHeartbeats 1000000 in
theorem lcase_24 {Inv Inv' : sa_St → Prop} (F : lc_24 Inv Inv') {p : Program} {l : Launch} {e : Env} {s : State} {m : MethodId} {b : Nat} {below : List Frame} {meth : Method} {c : Code} {D : va_G} {ad : Nat → Nat} {cA : FieldType → ClassId} {K L i : Nat} {xs : Nat → Int32} (C : sa_C p s m #[Value.ref b] meth c code R_law "law" 7 ret D ad cA (fun q : Nat => s.heap.size ≤ q)) (hX : va_X b L xs s s.heap) (hbl : b < s.heap.size) (hi : i + 6 ≤ L ∧ L ≤ 3072) (hK : K ≤ 520) {σ : sa_St} (hI : Inv σ) (hn : ∀ σ2, Inv' σ2 → lw_S p l e s m b below meth c D ad cA (K) σ2 1597 [(4, .int (nI i)), (3, .ref (ad 192)), (2, .ref (ad 159)), (1, .ref (ad 0)), (0, .ref b)] []) : lw_S p l e s m b below meth c D ad cA (K) σ 1139 [(4, .int (nI i)), (3, .ref (ad 192)), (2, .ref (ad 159)), (1, .ref (ad 0)), (0, .ref b)] [] := by
  obtain ⟨r, σ1, σ2, h1, h2, h3⟩ := F σ (xs (i + 1)) (xs (i + 2)) (xs (i + 3)) hI
  refine ls_aload_n C d_law_1139 rfl 3 rfl ?_
  refine ls_aload_n C d_law_1140 rfl 4 rfl ?_
  refine ls_iload C d_law_1141 0 rfl ?_
  refine ls_iconst (v := 1) C d_law_1143 (by decide) ?_
  refine ls_iadd C d_law_1144 ?_
  refine ls_sld (w := xs (i + 1)) C hX hbl (lw_in hi (by decide)) (lw_at hi (by decide)) d_law_1145 ?_
  refine ls_aload_n C d_law_1146 rfl 4 rfl ?_
  refine ls_iload C d_law_1147 0 rfl ?_
  refine ls_iconst (v := 2) C d_law_1149 (by decide) ?_
  refine ls_iadd C d_law_1150 ?_
  refine ls_sld (w := xs (i + 2)) C hX hbl (lw_in hi (by decide)) (lw_at hi (by decide)) d_law_1151 ?_
  refine ls_aload_n C d_law_1152 rfl 4 rfl ?_
  refine ls_iload C d_law_1153 0 rfl ?_
  refine ls_iconst (v := 3) C d_law_1155 (by decide) ?_
  refine ls_iadd C d_law_1156 ?_
  refine ls_sld (w := xs (i + 3)) C hX hbl (lw_in hi (by decide)) (lw_at hi (by decide)) d_law_1157 ?_
  refine ls_inv (ci := 11) C (k_X11_waits 0 (xs (i + 1)) (xs (i + 2)) (xs (i + 3))) q1124 dt_X11_waits q114 rfl q1122 q1123 q1121 rfl rfl rfl rfl (Nat.le_of_ble_eq_true rfl) (by decide) (by decide) hK d_law_1158 h1 ?_
  refine ls_aload_n C d_law_1161 rfl 2 rfl ?_
  refine ls_aload_n C d_law_1162 rfl 4 rfl ?_
  refine ls_iload C d_law_1163 0 rfl ?_
  refine ls_iconst (v := 1) C d_law_1165 (by decide) ?_
  refine ls_iadd C d_law_1166 ?_
  refine ls_sld (w := xs (i + 1)) C hX hbl (lw_in hi (by decide)) (lw_at hi (by decide)) d_law_1167 ?_
  refine ls_aload_n C d_law_1168 rfl 4 rfl ?_
  refine ls_iload C d_law_1169 0 rfl ?_
  refine ls_iconst (v := 2) C d_law_1171 (by decide) ?_
  refine ls_iadd C d_law_1172 ?_
  refine ls_sld (w := xs (i + 2)) C hX hbl (lw_in hi (by decide)) (lw_at hi (by decide)) d_law_1173 ?_
  refine ls_aload_n C d_law_1174 rfl 4 rfl ?_
  refine ls_iload C d_law_1175 0 rfl ?_
  refine ls_iconst (v := 3) C d_law_1177 (by decide) ?_
  refine ls_iadd C d_law_1178 ?_
  refine ls_sld (w := xs (i + 3)) C hX hbl (lw_in hi (by decide)) (lw_at hi (by decide)) d_law_1179 ?_
  refine ls_inv (ci := 12) C (k_X12_waits 159 (xs (i + 1)) (xs (i + 2)) (xs (i + 3))) q2024 dt_X12_waits q128 rfl q2022 q2023 q2021 rfl rfl rfl rfl (Nat.le_of_ble_eq_true rfl) (by decide) (by decide) hK d_law_1180 h2 ?_
  refine ls_icmp_eq (tgt := 1597) C d_law_1183 (by decide) (fun _ => ?_) (fun h => absurd rfl h)
  exact hn _ h3
set_option maxHeartbeats 1000000 in
theorem lcase_25 {Inv Inv' : sa_St → Prop} (F : lc_25 Inv Inv') {p : Program} {l : Launch} {e : Env} {s : State} {m : MethodId} {b : Nat} {below : List Frame} {meth : Method} {c : Code} {D : va_G} {ad : Nat → Nat} {cA : FieldType → ClassId} {K L i : Nat} {xs : Nat → Int32} (C : sa_C p s m #[Value.ref b] meth c code R_law "law" 7 ret D ad cA (fun q : Nat => s.heap.size ≤ q)) (hX : va_X b L xs s s.heap) (hbl : b < s.heap.size) (hi : i + 6 ≤ L ∧ L ≤ 3072) (hK : K ≤ 520) {σ : sa_St} (hI : Inv σ) (hn : ∀ σ2, Inv' σ2 → lw_S p l e s m b below meth c D ad cA (K) σ2 1597 [(4, .int (nI i)), (3, .ref (ad 192)), (2, .ref (ad 159)), (1, .ref (ad 0)), (0, .ref b)] []) : lw_S p l e s m b below meth c D ad cA (K) σ 1188 [(4, .int (nI i)), (3, .ref (ad 192)), (2, .ref (ad 159)), (1, .ref (ad 0)), (0, .ref b)] [] := by
  obtain ⟨r, σ1, σ2, h1, h2, h3⟩ := F σ (xs (i + 1)) (xs (i + 2)) (xs (i + 3)) hI
  refine ls_aload_n C d_law_1188 rfl 3 rfl ?_
  refine ls_aload_n C d_law_1189 rfl 4 rfl ?_
  refine ls_iload C d_law_1190 0 rfl ?_
  refine ls_iconst (v := 1) C d_law_1192 (by decide) ?_
  refine ls_iadd C d_law_1193 ?_
  refine ls_sld (w := xs (i + 1)) C hX hbl (lw_in hi (by decide)) (lw_at hi (by decide)) d_law_1194 ?_
  refine ls_aload_n C d_law_1195 rfl 4 rfl ?_
  refine ls_iload C d_law_1196 0 rfl ?_
  refine ls_iconst (v := 2) C d_law_1198 (by decide) ?_
  refine ls_iadd C d_law_1199 ?_
  refine ls_sld (w := xs (i + 2)) C hX hbl (lw_in hi (by decide)) (lw_at hi (by decide)) d_law_1200 ?_
  refine ls_aload_n C d_law_1201 rfl 4 rfl ?_
  refine ls_iload C d_law_1202 0 rfl ?_
  refine ls_iconst (v := 3) C d_law_1204 (by decide) ?_
  refine ls_iadd C d_law_1205 ?_
  refine ls_sld (w := xs (i + 3)) C hX hbl (lw_in hi (by decide)) (lw_at hi (by decide)) d_law_1206 ?_
  refine ls_inv (ci := 11) C (k_X11_ambush 0 (xs (i + 1)) (xs (i + 2)) (xs (i + 3))) q1133 dt_X11_ambush q114 rfl q1131 q1132 q1130 rfl rfl rfl rfl (Nat.le_of_ble_eq_true rfl) (by decide) (by decide) hK d_law_1207 h1 ?_
  refine ls_aload_n C d_law_1210 rfl 2 rfl ?_
  refine ls_aload_n C d_law_1211 rfl 4 rfl ?_
  refine ls_iload C d_law_1212 0 rfl ?_
  refine ls_iconst (v := 1) C d_law_1214 (by decide) ?_
  refine ls_iadd C d_law_1215 ?_
  refine ls_sld (w := xs (i + 1)) C hX hbl (lw_in hi (by decide)) (lw_at hi (by decide)) d_law_1216 ?_
  refine ls_aload_n C d_law_1217 rfl 4 rfl ?_
  refine ls_iload C d_law_1218 0 rfl ?_
  refine ls_iconst (v := 2) C d_law_1220 (by decide) ?_
  refine ls_iadd C d_law_1221 ?_
  refine ls_sld (w := xs (i + 2)) C hX hbl (lw_in hi (by decide)) (lw_at hi (by decide)) d_law_1222 ?_
  refine ls_aload_n C d_law_1223 rfl 4 rfl ?_
  refine ls_iload C d_law_1224 0 rfl ?_
  refine ls_iconst (v := 3) C d_law_1226 (by decide) ?_
  refine ls_iadd C d_law_1227 ?_
  refine ls_sld (w := xs (i + 3)) C hX hbl (lw_in hi (by decide)) (lw_at hi (by decide)) d_law_1228 ?_
  refine ls_inv (ci := 12) C (k_X12_ambush 159 (xs (i + 1)) (xs (i + 2)) (xs (i + 3))) q2028 dt_X12_ambush q128 rfl q2026 q2027 q2025 rfl rfl rfl rfl (Nat.le_of_ble_eq_true rfl) (by decide) (by decide) hK d_law_1229 h2 ?_
  refine ls_icmp_eq (tgt := 1597) C d_law_1232 (by decide) (fun _ => ?_) (fun h => absurd rfl h)
  exact hn _ h3
set_option maxHeartbeats 1000000 in
theorem lcase_26 {Inv Inv' : sa_St → Prop} (F : lc_26 Inv Inv') {p : Program} {l : Launch} {e : Env} {s : State} {m : MethodId} {b : Nat} {below : List Frame} {meth : Method} {c : Code} {D : va_G} {ad : Nat → Nat} {cA : FieldType → ClassId} {K L i : Nat} {xs : Nat → Int32} (C : sa_C p s m #[Value.ref b] meth c code R_law "law" 7 ret D ad cA (fun q : Nat => s.heap.size ≤ q)) (hX : va_X b L xs s s.heap) (hbl : b < s.heap.size) (hi : i + 6 ≤ L ∧ L ≤ 3072) (hK : K ≤ 520) {σ : sa_St} (hI : Inv σ) (hn : ∀ σ2, Inv' σ2 → lw_S p l e s m b below meth c D ad cA (K) σ2 1597 [(4, .int (nI i)), (3, .ref (ad 192)), (2, .ref (ad 159)), (1, .ref (ad 0)), (0, .ref b)] []) : lw_S p l e s m b below meth c D ad cA (K) σ 1237 [(4, .int (nI i)), (3, .ref (ad 192)), (2, .ref (ad 159)), (1, .ref (ad 0)), (0, .ref b)] [] := by
  obtain ⟨r, σ1, σ2, h1, h2, h3⟩ := F σ (xs (i + 1)) (xs (i + 2)) (xs (i + 3)) (xs (i + 4)) hI
  refine ls_aload_n C d_law_1237 rfl 3 rfl ?_
  refine ls_aload_n C d_law_1238 rfl 4 rfl ?_
  refine ls_iload C d_law_1239 0 rfl ?_
  refine ls_iconst (v := 1) C d_law_1241 (by decide) ?_
  refine ls_iadd C d_law_1242 ?_
  refine ls_sld (w := xs (i + 1)) C hX hbl (lw_in hi (by decide)) (lw_at hi (by decide)) d_law_1243 ?_
  refine ls_aload_n C d_law_1244 rfl 4 rfl ?_
  refine ls_iload C d_law_1245 0 rfl ?_
  refine ls_iconst (v := 2) C d_law_1247 (by decide) ?_
  refine ls_iadd C d_law_1248 ?_
  refine ls_sld (w := xs (i + 2)) C hX hbl (lw_in hi (by decide)) (lw_at hi (by decide)) d_law_1249 ?_
  refine ls_aload_n C d_law_1250 rfl 4 rfl ?_
  refine ls_iload C d_law_1251 0 rfl ?_
  refine ls_iconst (v := 3) C d_law_1253 (by decide) ?_
  refine ls_iadd C d_law_1254 ?_
  refine ls_sld (w := xs (i + 3)) C hX hbl (lw_in hi (by decide)) (lw_at hi (by decide)) d_law_1255 ?_
  refine ls_aload_n C d_law_1256 rfl 4 rfl ?_
  refine ls_iload C d_law_1257 0 rfl ?_
  refine ls_iconst (v := 4) C d_law_1259 (by decide) ?_
  refine ls_iadd C d_law_1260 ?_
  refine ls_sld (w := xs (i + 4)) C hX hbl (lw_in hi (by decide)) (lw_at hi (by decide)) d_law_1261 ?_
  refine ls_inv (ci := 11) C (k_X11_pickets 0 (xs (i + 1)) (xs (i + 2)) (xs (i + 3)) (xs (i + 4))) q1142 dt_X11_pickets q114 rfl q1140 q1141 q1139 rfl rfl rfl rfl (Nat.le_of_ble_eq_true rfl) (by decide) (by decide) hK d_law_1262 h1 ?_
  refine ls_aload_n C d_law_1265 rfl 2 rfl ?_
  refine ls_aload_n C d_law_1266 rfl 4 rfl ?_
  refine ls_iload C d_law_1267 0 rfl ?_
  refine ls_iconst (v := 1) C d_law_1269 (by decide) ?_
  refine ls_iadd C d_law_1270 ?_
  refine ls_sld (w := xs (i + 1)) C hX hbl (lw_in hi (by decide)) (lw_at hi (by decide)) d_law_1271 ?_
  refine ls_aload_n C d_law_1272 rfl 4 rfl ?_
  refine ls_iload C d_law_1273 0 rfl ?_
  refine ls_iconst (v := 2) C d_law_1275 (by decide) ?_
  refine ls_iadd C d_law_1276 ?_
  refine ls_sld (w := xs (i + 2)) C hX hbl (lw_in hi (by decide)) (lw_at hi (by decide)) d_law_1277 ?_
  refine ls_aload_n C d_law_1278 rfl 4 rfl ?_
  refine ls_iload C d_law_1279 0 rfl ?_
  refine ls_iconst (v := 3) C d_law_1281 (by decide) ?_
  refine ls_iadd C d_law_1282 ?_
  refine ls_sld (w := xs (i + 3)) C hX hbl (lw_in hi (by decide)) (lw_at hi (by decide)) d_law_1283 ?_
  refine ls_aload_n C d_law_1284 rfl 4 rfl ?_
  refine ls_iload C d_law_1285 0 rfl ?_
  refine ls_iconst (v := 4) C d_law_1287 (by decide) ?_
  refine ls_iadd C d_law_1288 ?_
  refine ls_sld (w := xs (i + 4)) C hX hbl (lw_in hi (by decide)) (lw_at hi (by decide)) d_law_1289 ?_
  refine ls_inv (ci := 12) C (k_X12_pickets 159 (xs (i + 1)) (xs (i + 2)) (xs (i + 3)) (xs (i + 4))) q2032 dt_X12_pickets q128 rfl q2030 q2031 q2029 rfl rfl rfl rfl (Nat.le_of_ble_eq_true rfl) (by decide) (by decide) hK d_law_1290 h2 ?_
  refine ls_icmp_eq (tgt := 1597) C d_law_1293 (by decide) (fun _ => ?_) (fun h => absurd rfl h)
  exact hn _ h3
set_option maxHeartbeats 1000000 in
theorem lcase_27 {Inv Inv' : sa_St → Prop} (F : lc_27 Inv Inv') {p : Program} {l : Launch} {e : Env} {s : State} {m : MethodId} {b : Nat} {below : List Frame} {meth : Method} {c : Code} {D : va_G} {ad : Nat → Nat} {cA : FieldType → ClassId} {K L i : Nat} {xs : Nat → Int32} (C : sa_C p s m #[Value.ref b] meth c code R_law "law" 7 ret D ad cA (fun q : Nat => s.heap.size ≤ q)) (hX : va_X b L xs s s.heap) (hbl : b < s.heap.size) (hi : i + 6 ≤ L ∧ L ≤ 3072) (hK : K ≤ 520) {σ : sa_St} (hI : Inv σ) (hn : ∀ σ2, Inv' σ2 → lw_S p l e s m b below meth c D ad cA (K) σ2 1597 [(4, .int (nI i)), (3, .ref (ad 192)), (2, .ref (ad 159)), (1, .ref (ad 0)), (0, .ref b)] []) : lw_S p l e s m b below meth c D ad cA (K) σ 1298 [(4, .int (nI i)), (3, .ref (ad 192)), (2, .ref (ad 159)), (1, .ref (ad 0)), (0, .ref b)] [] := by
  obtain ⟨r, σ1, σ2, h1, h2, h3⟩ := F σ (xs (i + 1)) (xs (i + 2)) hI
  refine ls_aload_n C d_law_1298 rfl 3 rfl ?_
  refine ls_aload_n C d_law_1299 rfl 4 rfl ?_
  refine ls_iload C d_law_1300 0 rfl ?_
  refine ls_iconst (v := 1) C d_law_1302 (by decide) ?_
  refine ls_iadd C d_law_1303 ?_
  refine ls_sld (w := xs (i + 1)) C hX hbl (lw_in hi (by decide)) (lw_at hi (by decide)) d_law_1304 ?_
  refine ls_aload_n C d_law_1305 rfl 4 rfl ?_
  refine ls_iload C d_law_1306 0 rfl ?_
  refine ls_iconst (v := 2) C d_law_1308 (by decide) ?_
  refine ls_iadd C d_law_1309 ?_
  refine ls_sld (w := xs (i + 2)) C hX hbl (lw_in hi (by decide)) (lw_at hi (by decide)) d_law_1310 ?_
  refine ls_inv (ci := 11) C (k_X11_stock 0 (xs (i + 1)) (xs (i + 2))) q1173 dt_X11_stock q114 rfl q1171 q1172 q1170 rfl rfl rfl rfl (Nat.le_of_ble_eq_true rfl) (by decide) (by decide) hK d_law_1311 h1 ?_
  refine ls_aload_n C d_law_1314 rfl 2 rfl ?_
  refine ls_aload_n C d_law_1315 rfl 4 rfl ?_
  refine ls_iload C d_law_1316 0 rfl ?_
  refine ls_iconst (v := 1) C d_law_1318 (by decide) ?_
  refine ls_iadd C d_law_1319 ?_
  refine ls_sld (w := xs (i + 1)) C hX hbl (lw_in hi (by decide)) (lw_at hi (by decide)) d_law_1320 ?_
  refine ls_aload_n C d_law_1321 rfl 4 rfl ?_
  refine ls_iload C d_law_1322 0 rfl ?_
  refine ls_iconst (v := 2) C d_law_1324 (by decide) ?_
  refine ls_iadd C d_law_1325 ?_
  refine ls_sld (w := xs (i + 2)) C hX hbl (lw_in hi (by decide)) (lw_at hi (by decide)) d_law_1326 ?_
  refine ls_inv (ci := 12) C (k_X12_stock 159 (xs (i + 1)) (xs (i + 2))) q2051 dt_X12_stock q128 rfl q2049 q2050 q2048 rfl rfl rfl rfl (Nat.le_of_ble_eq_true rfl) (by decide) (by decide) hK d_law_1327 h2 ?_
  refine ls_icmp_eq (tgt := 1597) C d_law_1330 (by decide) (fun _ => ?_) (fun h => absurd rfl h)
  exact hn _ h3
set_option maxHeartbeats 1000000 in
theorem lcase_28 {Inv Inv' : sa_St → Prop} (F : lc_28 Inv Inv') {p : Program} {l : Launch} {e : Env} {s : State} {m : MethodId} {b : Nat} {below : List Frame} {meth : Method} {c : Code} {D : va_G} {ad : Nat → Nat} {cA : FieldType → ClassId} {K L i : Nat} {xs : Nat → Int32} (C : sa_C p s m #[Value.ref b] meth c code R_law "law" 7 ret D ad cA (fun q : Nat => s.heap.size ≤ q)) (hX : va_X b L xs s s.heap) (hbl : b < s.heap.size) (hi : i + 6 ≤ L ∧ L ≤ 3072) (hK : K ≤ 520) {σ : sa_St} (hI : Inv σ) (hn : ∀ σ2, Inv' σ2 → lw_S p l e s m b below meth c D ad cA (K) σ2 1597 [(4, .int (nI i)), (3, .ref (ad 192)), (2, .ref (ad 159)), (1, .ref (ad 0)), (0, .ref b)] []) : lw_S p l e s m b below meth c D ad cA (K) σ 1335 [(4, .int (nI i)), (3, .ref (ad 192)), (2, .ref (ad 159)), (1, .ref (ad 0)), (0, .ref b)] [] := by
  obtain ⟨r, σ1, σ2, h1, h2, h3⟩ := F σ (xs (i + 1)) (xs (i + 2)) hI
  refine ls_aload_n C d_law_1335 rfl 3 rfl ?_
  refine ls_aload_n C d_law_1336 rfl 4 rfl ?_
  refine ls_iload C d_law_1337 0 rfl ?_
  refine ls_iconst (v := 1) C d_law_1339 (by decide) ?_
  refine ls_iadd C d_law_1340 ?_
  refine ls_sld (w := xs (i + 1)) C hX hbl (lw_in hi (by decide)) (lw_at hi (by decide)) d_law_1341 ?_
  refine ls_aload_n C d_law_1342 rfl 4 rfl ?_
  refine ls_iload C d_law_1343 0 rfl ?_
  refine ls_iconst (v := 2) C d_law_1345 (by decide) ?_
  refine ls_iadd C d_law_1346 ?_
  refine ls_sld (w := xs (i + 2)) C hX hbl (lw_in hi (by decide)) (lw_at hi (by decide)) d_law_1347 ?_
  refine ls_inv (ci := 11) C (k_X11_streak 0 (xs (i + 1)) (xs (i + 2))) q1177 dt_X11_streak q114 rfl q1175 q1176 q1174 rfl rfl rfl rfl (Nat.le_of_ble_eq_true rfl) (by decide) (by decide) hK d_law_1348 h1 ?_
  refine ls_aload_n C d_law_1351 rfl 2 rfl ?_
  refine ls_aload_n C d_law_1352 rfl 4 rfl ?_
  refine ls_iload C d_law_1353 0 rfl ?_
  refine ls_iconst (v := 1) C d_law_1355 (by decide) ?_
  refine ls_iadd C d_law_1356 ?_
  refine ls_sld (w := xs (i + 1)) C hX hbl (lw_in hi (by decide)) (lw_at hi (by decide)) d_law_1357 ?_
  refine ls_aload_n C d_law_1358 rfl 4 rfl ?_
  refine ls_iload C d_law_1359 0 rfl ?_
  refine ls_iconst (v := 2) C d_law_1361 (by decide) ?_
  refine ls_iadd C d_law_1362 ?_
  refine ls_sld (w := xs (i + 2)) C hX hbl (lw_in hi (by decide)) (lw_at hi (by decide)) d_law_1363 ?_
  refine ls_inv (ci := 12) C (k_X12_streak 159 (xs (i + 1)) (xs (i + 2))) q2055 dt_X12_streak q128 rfl q2053 q2054 q2052 rfl rfl rfl rfl (Nat.le_of_ble_eq_true rfl) (by decide) (by decide) hK d_law_1364 h2 ?_
  refine ls_icmp_eq (tgt := 1597) C d_law_1367 (by decide) (fun _ => ?_) (fun h => absurd rfl h)
  exact hn _ h3
set_option maxHeartbeats 1000000 in
theorem lcase_29 {Inv Inv' : sa_St → Prop} (F : lc_29 Inv Inv') {p : Program} {l : Launch} {e : Env} {s : State} {m : MethodId} {b : Nat} {below : List Frame} {meth : Method} {c : Code} {D : va_G} {ad : Nat → Nat} {cA : FieldType → ClassId} {K L i : Nat} {xs : Nat → Int32} (C : sa_C p s m #[Value.ref b] meth c code R_law "law" 7 ret D ad cA (fun q : Nat => s.heap.size ≤ q)) (hX : va_X b L xs s s.heap) (hbl : b < s.heap.size) (hi : i + 6 ≤ L ∧ L ≤ 3072) (hK : K ≤ 520) {σ : sa_St} (hI : Inv σ) (hn : ∀ σ2, Inv' σ2 → lw_S p l e s m b below meth c D ad cA (K) σ2 1597 [(4, .int (nI i)), (3, .ref (ad 192)), (2, .ref (ad 159)), (1, .ref (ad 0)), (0, .ref b)] []) : lw_S p l e s m b below meth c D ad cA (K) σ 1372 [(4, .int (nI i)), (3, .ref (ad 192)), (2, .ref (ad 159)), (1, .ref (ad 0)), (0, .ref b)] [] := by
  obtain ⟨r, σ1, σ2, h1, h2, h3⟩ := F σ (xs (i + 1)) (xs (i + 2)) (xs (i + 3)) hI
  refine ls_aload_n C d_law_1372 rfl 3 rfl ?_
  refine ls_aload_n C d_law_1373 rfl 4 rfl ?_
  refine ls_iload C d_law_1374 0 rfl ?_
  refine ls_iconst (v := 1) C d_law_1376 (by decide) ?_
  refine ls_iadd C d_law_1377 ?_
  refine ls_sld (w := xs (i + 1)) C hX hbl (lw_in hi (by decide)) (lw_at hi (by decide)) d_law_1378 ?_
  refine ls_aload_n C d_law_1379 rfl 4 rfl ?_
  refine ls_iload C d_law_1380 0 rfl ?_
  refine ls_iconst (v := 2) C d_law_1382 (by decide) ?_
  refine ls_iadd C d_law_1383 ?_
  refine ls_sld (w := xs (i + 2)) C hX hbl (lw_in hi (by decide)) (lw_at hi (by decide)) d_law_1384 ?_
  refine ls_aload_n C d_law_1385 rfl 4 rfl ?_
  refine ls_iload C d_law_1386 0 rfl ?_
  refine ls_iconst (v := 3) C d_law_1388 (by decide) ?_
  refine ls_iadd C d_law_1389 ?_
  refine ls_sld (w := xs (i + 3)) C hX hbl (lw_in hi (by decide)) (lw_at hi (by decide)) d_law_1390 ?_
  refine ls_inv (ci := 11) C (k_X11_rained 0 (xs (i + 1)) (xs (i + 2)) (xs (i + 3))) q1185 dt_X11_rained q114 rfl q1183 q1184 q1182 rfl rfl rfl rfl (Nat.le_of_ble_eq_true rfl) (by decide) (by decide) hK d_law_1391 h1 ?_
  refine ls_aload_n C d_law_1394 rfl 2 rfl ?_
  refine ls_aload_n C d_law_1395 rfl 4 rfl ?_
  refine ls_iload C d_law_1396 0 rfl ?_
  refine ls_iconst (v := 1) C d_law_1398 (by decide) ?_
  refine ls_iadd C d_law_1399 ?_
  refine ls_sld (w := xs (i + 1)) C hX hbl (lw_in hi (by decide)) (lw_at hi (by decide)) d_law_1400 ?_
  refine ls_aload_n C d_law_1401 rfl 4 rfl ?_
  refine ls_iload C d_law_1402 0 rfl ?_
  refine ls_iconst (v := 2) C d_law_1404 (by decide) ?_
  refine ls_iadd C d_law_1405 ?_
  refine ls_sld (w := xs (i + 2)) C hX hbl (lw_in hi (by decide)) (lw_at hi (by decide)) d_law_1406 ?_
  refine ls_aload_n C d_law_1407 rfl 4 rfl ?_
  refine ls_iload C d_law_1408 0 rfl ?_
  refine ls_iconst (v := 3) C d_law_1410 (by decide) ?_
  refine ls_iadd C d_law_1411 ?_
  refine ls_sld (w := xs (i + 3)) C hX hbl (lw_in hi (by decide)) (lw_at hi (by decide)) d_law_1412 ?_
  refine ls_inv (ci := 12) C (k_X12_rained 159 (xs (i + 1)) (xs (i + 2)) (xs (i + 3))) q2059 dt_X12_rained q128 rfl q2057 q2058 q2056 rfl rfl rfl rfl (Nat.le_of_ble_eq_true rfl) (by decide) (by decide) hK d_law_1413 h2 ?_
  refine ls_icmp_eq (tgt := 1597) C d_law_1416 (by decide) (fun _ => ?_) (fun h => absurd rfl h)
  exact hn _ h3
set_option maxHeartbeats 1000000 in
theorem lcase_30 {Inv Inv' : sa_St → Prop} (F : lc_30 Inv Inv') {p : Program} {l : Launch} {e : Env} {s : State} {m : MethodId} {b : Nat} {below : List Frame} {meth : Method} {c : Code} {D : va_G} {ad : Nat → Nat} {cA : FieldType → ClassId} {K L i : Nat} {xs : Nat → Int32} (C : sa_C p s m #[Value.ref b] meth c code R_law "law" 7 ret D ad cA (fun q : Nat => s.heap.size ≤ q)) (hX : va_X b L xs s s.heap) (hbl : b < s.heap.size) (hi : i + 6 ≤ L ∧ L ≤ 3072) (hK : K ≤ 520) {σ : sa_St} (hI : Inv σ) (hn : ∀ σ2, Inv' σ2 → lw_S p l e s m b below meth c D ad cA (K) σ2 1597 [(4, .int (nI i)), (3, .ref (ad 192)), (2, .ref (ad 159)), (1, .ref (ad 0)), (0, .ref b)] []) : lw_S p l e s m b below meth c D ad cA (K) σ 1421 [(4, .int (nI i)), (3, .ref (ad 192)), (2, .ref (ad 159)), (1, .ref (ad 0)), (0, .ref b)] [] := by
  obtain ⟨r, σ1, σ2, h1, h2, h3⟩ := F σ (xs (i + 1)) hI
  refine ls_aload_n C d_law_1421 rfl 3 rfl ?_
  refine ls_aload_n C d_law_1422 rfl 4 rfl ?_
  refine ls_iload C d_law_1423 0 rfl ?_
  refine ls_iconst (v := 1) C d_law_1425 (by decide) ?_
  refine ls_iadd C d_law_1426 ?_
  refine ls_sld (w := xs (i + 1)) C hX hbl (lw_in hi (by decide)) (lw_at hi (by decide)) d_law_1427 ?_
  refine ls_inv (ci := 11) C (k_X11_knows 0 (xs (i + 1))) q1225 dt_X11_knows q114 rfl q1223 q1224 q1222 rfl rfl rfl rfl (Nat.le_of_ble_eq_true rfl) (by decide) (by decide) hK d_law_1428 h1 ?_
  refine ls_aload_n C d_law_1431 rfl 2 rfl ?_
  refine ls_aload_n C d_law_1432 rfl 4 rfl ?_
  refine ls_iload C d_law_1433 0 rfl ?_
  refine ls_iconst (v := 1) C d_law_1435 (by decide) ?_
  refine ls_iadd C d_law_1436 ?_
  refine ls_sld (w := xs (i + 1)) C hX hbl (lw_in hi (by decide)) (lw_at hi (by decide)) d_law_1437 ?_
  refine ls_inv (ci := 12) C (k_X12_knows 159 (xs (i + 1))) q2067 dt_X12_knows q128 rfl q2065 q2066 q2064 rfl rfl rfl rfl (Nat.le_of_ble_eq_true rfl) (by decide) (by decide) hK d_law_1438 h2 ?_
  refine ls_icmp_eq (tgt := 1597) C d_law_1441 (by decide) (fun _ => ?_) (fun h => absurd rfl h)
  exact hn _ h3
set_option maxHeartbeats 1000000 in
theorem lcase_31 {Inv Inv' : sa_St → Prop} (F : lc_31 Inv Inv') {p : Program} {l : Launch} {e : Env} {s : State} {m : MethodId} {b : Nat} {below : List Frame} {meth : Method} {c : Code} {D : va_G} {ad : Nat → Nat} {cA : FieldType → ClassId} {K L i : Nat} {xs : Nat → Int32} (C : sa_C p s m #[Value.ref b] meth c code R_law "law" 7 ret D ad cA (fun q : Nat => s.heap.size ≤ q)) (hX : va_X b L xs s s.heap) (hbl : b < s.heap.size) (hi : i + 6 ≤ L ∧ L ≤ 3072) (hK : K ≤ 520) {σ : sa_St} (hI : Inv σ) (hn : ∀ σ2, Inv' σ2 → lw_S p l e s m b below meth c D ad cA (K) σ2 1597 [(4, .int (nI i)), (3, .ref (ad 192)), (2, .ref (ad 159)), (1, .ref (ad 0)), (0, .ref b)] []) : lw_S p l e s m b below meth c D ad cA (K) σ 1446 [(4, .int (nI i)), (3, .ref (ad 192)), (2, .ref (ad 159)), (1, .ref (ad 0)), (0, .ref b)] [] := by
  obtain ⟨r, σ1, σ2, h1, h2, h3⟩ := F σ (xs (i + 1)) hI
  refine ls_aload_n C d_law_1446 rfl 3 rfl ?_
  refine ls_aload_n C d_law_1447 rfl 4 rfl ?_
  refine ls_iload C d_law_1448 0 rfl ?_
  refine ls_iconst (v := 1) C d_law_1450 (by decide) ?_
  refine ls_iadd C d_law_1451 ?_
  refine ls_sld (w := xs (i + 1)) C hX hbl (lw_in hi (by decide)) (lw_at hi (by decide)) d_law_1452 ?_
  refine ls_inv (ci := 11) C (k_X11_hears 0 (xs (i + 1))) q1233 dt_X11_hears q114 rfl q1231 q1232 q1230 rfl rfl rfl rfl (Nat.le_of_ble_eq_true rfl) (by decide) (by decide) hK d_law_1453 h1 ?_
  refine ls_aload_n C d_law_1456 rfl 2 rfl ?_
  refine ls_aload_n C d_law_1457 rfl 4 rfl ?_
  refine ls_iload C d_law_1458 0 rfl ?_
  refine ls_iconst (v := 1) C d_law_1460 (by decide) ?_
  refine ls_iadd C d_law_1461 ?_
  refine ls_sld (w := xs (i + 1)) C hX hbl (lw_in hi (by decide)) (lw_at hi (by decide)) d_law_1462 ?_
  refine ls_inv (ci := 12) C (k_X12_hears 159 (xs (i + 1))) q2071 dt_X12_hears q128 rfl q2069 q2070 q2068 rfl rfl rfl rfl (Nat.le_of_ble_eq_true rfl) (by decide) (by decide) hK d_law_1463 h2 ?_
  refine ls_icmp_eq (tgt := 1597) C d_law_1466 (by decide) (fun _ => ?_) (fun h => absurd rfl h)
  exact hn _ h3
set_option maxHeartbeats 1000000 in
theorem lcase_32 {Inv Inv' : sa_St → Prop} (F : lc_32 Inv Inv') {p : Program} {l : Launch} {e : Env} {s : State} {m : MethodId} {b : Nat} {below : List Frame} {meth : Method} {c : Code} {D : va_G} {ad : Nat → Nat} {cA : FieldType → ClassId} {K L i : Nat} {xs : Nat → Int32} (C : sa_C p s m #[Value.ref b] meth c code R_law "law" 7 ret D ad cA (fun q : Nat => s.heap.size ≤ q)) (hX : va_X b L xs s s.heap) (hbl : b < s.heap.size) (hi : i + 6 ≤ L ∧ L ≤ 3072) (hK : K ≤ 520) {σ : sa_St} (hI : Inv σ) (hn : ∀ σ2, Inv' σ2 → lw_S p l e s m b below meth c D ad cA (K) σ2 1597 [(4, .int (nI i)), (3, .ref (ad 192)), (2, .ref (ad 159)), (1, .ref (ad 0)), (0, .ref b)] []) : lw_S p l e s m b below meth c D ad cA (K) σ 1471 [(4, .int (nI i)), (3, .ref (ad 192)), (2, .ref (ad 159)), (1, .ref (ad 0)), (0, .ref b)] [] := by
  obtain ⟨r, σ1, σ2, h1, h2, h3⟩ := F σ  hI
  refine ls_aload_n C d_law_1471 rfl 3 rfl ?_
  refine ls_inv (ci := 11) C (k_X11_weakest 0 ) q1257 dt_X11_weakest q114 rfl q1255 q1256 q1254 rfl rfl rfl rfl (Nat.le_of_ble_eq_true rfl) (by decide) (by decide) hK d_law_1472 h1 ?_
  refine ls_aload_n C d_law_1475 rfl 2 rfl ?_
  refine ls_inv (ci := 12) C (k_X12_weakest 159 ) q2088 dt_X12_weakest q128 rfl q2086 q2087 q2085 rfl rfl rfl rfl (Nat.le_of_ble_eq_true rfl) (by decide) (by decide) hK d_law_1476 h2 ?_
  refine ls_icmp_eq (tgt := 1597) C d_law_1479 (by decide) (fun _ => ?_) (fun h => absurd rfl h)
  exact hn _ h3
set_option maxHeartbeats 1000000 in
theorem lcase_33 {Inv Inv' : sa_St → Prop} (F : lc_33 Inv Inv') {p : Program} {l : Launch} {e : Env} {s : State} {m : MethodId} {b : Nat} {below : List Frame} {meth : Method} {c : Code} {D : va_G} {ad : Nat → Nat} {cA : FieldType → ClassId} {K L i : Nat} {xs : Nat → Int32} (C : sa_C p s m #[Value.ref b] meth c code R_law "law" 7 ret D ad cA (fun q : Nat => s.heap.size ≤ q)) (hX : va_X b L xs s s.heap) (hbl : b < s.heap.size) (hi : i + 6 ≤ L ∧ L ≤ 3072) (hK : K ≤ 520) {σ : sa_St} (hI : Inv σ) (hn : ∀ σ2, Inv' σ2 → lw_S p l e s m b below meth c D ad cA (K) σ2 1597 [(4, .int (nI i)), (3, .ref (ad 192)), (2, .ref (ad 159)), (1, .ref (ad 0)), (0, .ref b)] []) : lw_S p l e s m b below meth c D ad cA (K) σ 1484 [(4, .int (nI i)), (3, .ref (ad 192)), (2, .ref (ad 159)), (1, .ref (ad 0)), (0, .ref b)] [] := by
  obtain ⟨r, σ1, σ2, h1, h2, h3⟩ := F σ (xs (i + 1)) (xs (i + 2)) hI
  refine ls_aload_n C d_law_1484 rfl 3 rfl ?_
  refine ls_aload_n C d_law_1485 rfl 4 rfl ?_
  refine ls_iload C d_law_1486 0 rfl ?_
  refine ls_iconst (v := 1) C d_law_1488 (by decide) ?_
  refine ls_iadd C d_law_1489 ?_
  refine ls_sld (w := xs (i + 1)) C hX hbl (lw_in hi (by decide)) (lw_at hi (by decide)) d_law_1490 ?_
  refine ls_aload_n C d_law_1491 rfl 4 rfl ?_
  refine ls_iload C d_law_1492 0 rfl ?_
  refine ls_iconst (v := 2) C d_law_1494 (by decide) ?_
  refine ls_iadd C d_law_1495 ?_
  refine ls_sld (w := xs (i + 2)) C hX hbl (lw_in hi (by decide)) (lw_at hi (by decide)) d_law_1496 ?_
  refine ls_inv (ci := 11) C (k_X11_reach 0 (xs (i + 1)) (xs (i + 2))) q1265 dt_X11_reach q114 rfl q1263 q1264 q1262 rfl rfl rfl rfl (Nat.le_of_ble_eq_true rfl) (by decide) (by decide) hK d_law_1497 h1 ?_
  refine ls_aload_n C d_law_1500 rfl 2 rfl ?_
  refine ls_aload_n C d_law_1501 rfl 4 rfl ?_
  refine ls_iload C d_law_1502 0 rfl ?_
  refine ls_iconst (v := 1) C d_law_1504 (by decide) ?_
  refine ls_iadd C d_law_1505 ?_
  refine ls_sld (w := xs (i + 1)) C hX hbl (lw_in hi (by decide)) (lw_at hi (by decide)) d_law_1506 ?_
  refine ls_aload_n C d_law_1507 rfl 4 rfl ?_
  refine ls_iload C d_law_1508 0 rfl ?_
  refine ls_iconst (v := 2) C d_law_1510 (by decide) ?_
  refine ls_iadd C d_law_1511 ?_
  refine ls_sld (w := xs (i + 2)) C hX hbl (lw_in hi (by decide)) (lw_at hi (by decide)) d_law_1512 ?_
  refine ls_inv (ci := 12) C (k_X12_reach 159 (xs (i + 1)) (xs (i + 2))) q2092 dt_X12_reach q128 rfl q2090 q2091 q2089 rfl rfl rfl rfl (Nat.le_of_ble_eq_true rfl) (by decide) (by decide) hK d_law_1513 h2 ?_
  refine ls_icmp_eq (tgt := 1597) C d_law_1516 (by decide) (fun _ => ?_) (fun h => absurd rfl h)
  exact hn _ h3
set_option maxHeartbeats 1000000 in
theorem lcase_34 {Inv Inv' : sa_St → Prop} (F : lc_34 Inv Inv') {p : Program} {l : Launch} {e : Env} {s : State} {m : MethodId} {b : Nat} {below : List Frame} {meth : Method} {c : Code} {D : va_G} {ad : Nat → Nat} {cA : FieldType → ClassId} {K L i : Nat} {xs : Nat → Int32} (C : sa_C p s m #[Value.ref b] meth c code R_law "law" 7 ret D ad cA (fun q : Nat => s.heap.size ≤ q)) (hX : va_X b L xs s s.heap) (hbl : b < s.heap.size) (hi : i + 6 ≤ L ∧ L ≤ 3072) (hK : K ≤ 520) {σ : sa_St} (hI : Inv σ) (hn : ∀ σ2, Inv' σ2 → lw_S p l e s m b below meth c D ad cA (K) σ2 1597 [(4, .int (nI i)), (3, .ref (ad 192)), (2, .ref (ad 159)), (1, .ref (ad 0)), (0, .ref b)] []) : lw_S p l e s m b below meth c D ad cA (K) σ 1521 [(4, .int (nI i)), (3, .ref (ad 192)), (2, .ref (ad 159)), (1, .ref (ad 0)), (0, .ref b)] [] := by
  obtain ⟨r, σ1, σ2, h1, h2, h3⟩ := F σ (xs (i + 1)) hI
  refine ls_aload_n C d_law_1521 rfl 3 rfl ?_
  refine ls_aload_n C d_law_1522 rfl 4 rfl ?_
  refine ls_iload C d_law_1523 0 rfl ?_
  refine ls_iconst (v := 1) C d_law_1525 (by decide) ?_
  refine ls_iadd C d_law_1526 ?_
  refine ls_sld (w := xs (i + 1)) C hX hbl (lw_in hi (by decide)) (lw_at hi (by decide)) d_law_1527 ?_
  refine ls_inv (ci := 11) C (k_X11_dry 0 (xs (i + 1))) q1273 dt_X11_dry q114 rfl q1271 q1272 q1270 rfl rfl rfl rfl (Nat.le_of_ble_eq_true rfl) (by decide) (by decide) hK d_law_1528 h1 ?_
  refine ls_aload_n C d_law_1531 rfl 2 rfl ?_
  refine ls_aload_n C d_law_1532 rfl 4 rfl ?_
  refine ls_iload C d_law_1533 0 rfl ?_
  refine ls_iconst (v := 1) C d_law_1535 (by decide) ?_
  refine ls_iadd C d_law_1536 ?_
  refine ls_sld (w := xs (i + 1)) C hX hbl (lw_in hi (by decide)) (lw_at hi (by decide)) d_law_1537 ?_
  refine ls_inv (ci := 12) C (k_X12_dry 159 (xs (i + 1))) q2096 dt_X12_dry q128 rfl q2094 q2095 q2093 rfl rfl rfl rfl (Nat.le_of_ble_eq_true rfl) (by decide) (by decide) hK d_law_1538 h2 ?_
  refine ls_icmp_eq (tgt := 1597) C d_law_1541 (by decide) (fun _ => ?_) (fun h => absurd rfl h)
  exact hn _ h3
set_option maxHeartbeats 1000000 in
theorem lcase_35 {Inv Inv' : sa_St → Prop} (F : lc_35 Inv Inv') {p : Program} {l : Launch} {e : Env} {s : State} {m : MethodId} {b : Nat} {below : List Frame} {meth : Method} {c : Code} {D : va_G} {ad : Nat → Nat} {cA : FieldType → ClassId} {K L i : Nat} {xs : Nat → Int32} (C : sa_C p s m #[Value.ref b] meth c code R_law "law" 7 ret D ad cA (fun q : Nat => s.heap.size ≤ q)) (hX : va_X b L xs s s.heap) (hbl : b < s.heap.size) (hi : i + 6 ≤ L ∧ L ≤ 3072) (hK : K ≤ 520) {σ : sa_St} (hI : Inv σ) (hn : ∀ σ2, Inv' σ2 → lw_S p l e s m b below meth c D ad cA (K) σ2 1597 [(4, .int (nI i)), (3, .ref (ad 192)), (2, .ref (ad 159)), (1, .ref (ad 0)), (0, .ref b)] []) : lw_S p l e s m b below meth c D ad cA (K) σ 1546 [(4, .int (nI i)), (3, .ref (ad 192)), (2, .ref (ad 159)), (1, .ref (ad 0)), (0, .ref b)] [] := by
  obtain ⟨r, σ1, σ2, h1, h2, h3⟩ := F σ  hI
  refine ls_aload_n C d_law_1546 rfl 3 rfl ?_
  refine ls_inv (ci := 11) C (k_X11_image 0 ) q1282 dt_X11_image q114 rfl q1280 q1281 q1279 rfl rfl rfl rfl (Nat.le_of_ble_eq_true rfl) (by decide) (by decide) hK d_law_1547 h1 ?_
  refine ls_aload_n C d_law_1550 rfl 2 rfl ?_
  refine ls_inv (ci := 12) C (k_X12_image 159 ) q2100 dt_X12_image q128 rfl q2098 q2099 q2097 rfl rfl rfl rfl (Nat.le_of_ble_eq_true rfl) (by decide) (by decide) hK d_law_1551 h2 ?_
  refine ls_icmp_eq (tgt := 1597) C d_law_1554 (by decide) (fun _ => ?_) (fun h => absurd rfl h)
  exact hn _ h3
set_option maxHeartbeats 1000000 in
theorem lcase_36 {Inv Inv' : sa_St → Prop} (F : lc_36 Inv Inv') {p : Program} {l : Launch} {e : Env} {s : State} {m : MethodId} {b : Nat} {below : List Frame} {meth : Method} {c : Code} {D : va_G} {ad : Nat → Nat} {cA : FieldType → ClassId} {K L i : Nat} {xs : Nat → Int32} (C : sa_C p s m #[Value.ref b] meth c code R_law "law" 7 ret D ad cA (fun q : Nat => s.heap.size ≤ q)) (hX : va_X b L xs s s.heap) (hbl : b < s.heap.size) (hi : i + 6 ≤ L ∧ L ≤ 3072) (hK : K ≤ 520) {σ : sa_St} (hI : Inv σ) (hn : ∀ σ2, Inv' σ2 → lw_S p l e s m b below meth c D ad cA (K) σ2 1597 [(4, .int (nI i)), (3, .ref (ad 192)), (2, .ref (ad 159)), (1, .ref (ad 0)), (0, .ref b)] []) : lw_S p l e s m b below meth c D ad cA (K) σ 1559 [(4, .int (nI i)), (3, .ref (ad 192)), (2, .ref (ad 159)), (1, .ref (ad 0)), (0, .ref b)] [] := by
  obtain ⟨r, σ1, σ2, h1, h2, h3⟩ := F σ  hI
  refine ls_aload_n C d_law_1559 rfl 3 rfl ?_
  refine ls_inv (ci := 11) C (k_X11_back 0 ) q1290 dt_X11_back q114 rfl q1288 q1289 q1287 rfl rfl rfl rfl (Nat.le_of_ble_eq_true rfl) (by decide) (by decide) hK d_law_1560 h1 ?_
  refine ls_aload_n C d_law_1563 rfl 2 rfl ?_
  refine ls_inv (ci := 12) C (k_X12_back 159 ) q2104 dt_X12_back q128 rfl q2102 q2103 q2101 rfl rfl rfl rfl (Nat.le_of_ble_eq_true rfl) (by decide) (by decide) hK d_law_1564 h2 ?_
  refine ls_icmp_eq (tgt := 1597) C d_law_1567 (by decide) (fun _ => ?_) (fun h => absurd rfl h)
  exact hn _ h3
set_option maxHeartbeats 1000000 in
theorem lcase_37 {Inv Inv' : sa_St → Prop} (F : lc_37 Inv Inv') {p : Program} {l : Launch} {e : Env} {s : State} {m : MethodId} {b : Nat} {below : List Frame} {meth : Method} {c : Code} {D : va_G} {ad : Nat → Nat} {cA : FieldType → ClassId} {K L i : Nat} {xs : Nat → Int32} (C : sa_C p s m #[Value.ref b] meth c code R_law "law" 7 ret D ad cA (fun q : Nat => s.heap.size ≤ q)) (hX : va_X b L xs s s.heap) (hbl : b < s.heap.size) (hi : i + 6 ≤ L ∧ L ≤ 3072) (hK : K ≤ 520) {σ : sa_St} (hI : Inv σ) (hn : ∀ σ2, Inv' σ2 → lw_S p l e s m b below meth c D ad cA (K) σ2 1597 [(4, .int (nI i)), (3, .ref (ad 192)), (2, .ref (ad 159)), (1, .ref (ad 0)), (0, .ref b)] []) : lw_S p l e s m b below meth c D ad cA (K) σ 1572 [(4, .int (nI i)), (3, .ref (ad 192)), (2, .ref (ad 159)), (1, .ref (ad 0)), (0, .ref b)] [] := by
  obtain ⟨r, σ1, σ2, h1, h2, h3⟩ := F σ (xs (i + 1)) hI
  refine ls_aload_n C d_law_1572 rfl 3 rfl ?_
  refine ls_aload_n C d_law_1573 rfl 4 rfl ?_
  refine ls_iload C d_law_1574 0 rfl ?_
  refine ls_iconst (v := 1) C d_law_1576 (by decide) ?_
  refine ls_iadd C d_law_1577 ?_
  refine ls_sld (w := xs (i + 1)) C hX hbl (lw_in hi (by decide)) (lw_at hi (by decide)) d_law_1578 ?_
  refine ls_inv (ci := 11) C (k_X11_count 0 (xs (i + 1))) q1298 dt_X11_count q114 rfl q1296 q1297 q1295 rfl rfl rfl rfl (Nat.le_of_ble_eq_true rfl) (by decide) (by decide) hK d_law_1579 h1 ?_
  refine ls_aload_n C d_law_1582 rfl 2 rfl ?_
  refine ls_aload_n C d_law_1583 rfl 4 rfl ?_
  refine ls_iload C d_law_1584 0 rfl ?_
  refine ls_iconst (v := 1) C d_law_1586 (by decide) ?_
  refine ls_iadd C d_law_1587 ?_
  refine ls_sld (w := xs (i + 1)) C hX hbl (lw_in hi (by decide)) (lw_at hi (by decide)) d_law_1588 ?_
  refine ls_inv (ci := 12) C (k_X12_count 159 (xs (i + 1))) q2108 dt_X12_count q128 rfl q2106 q2107 q2105 rfl rfl rfl rfl (Nat.le_of_ble_eq_true rfl) (by decide) (by decide) hK d_law_1589 h2 ?_
  refine ls_icmp_eq (tgt := 1597) C d_law_1592 (by decide) (fun _ => ?_) (fun h => absurd rfl h)
  exact hn _ h3
