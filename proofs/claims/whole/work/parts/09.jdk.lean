theorem d_J7_fill_d0a16_0 : decode cJ7_fill_d0a16 0 = .ok (.iconst 0, 1) := by decide +kernel
theorem d_J7_fill_d0a16_1 : decode cJ7_fill_d0a16 1 = .ok (.istore_n 3, 1) := by decide +kernel
theorem d_J7_fill_d0a16_2 : decode cJ7_fill_d0a16 2 = .ok (.aload_n 0, 1) := by decide +kernel
theorem d_J7_fill_d0a16_3 : decode cJ7_fill_d0a16 3 = .ok (.arraylength, 1) := by decide +kernel
theorem d_J7_fill_d0a16_4 : decode cJ7_fill_d0a16 4 = .ok (.istore 4, 2) := by decide +kernel
theorem d_J7_fill_d0a16_6 : decode cJ7_fill_d0a16 6 = .ok (.iload_n 3, 1) := by decide +kernel
theorem d_J7_fill_d0a16_7 : decode cJ7_fill_d0a16 7 = .ok (.iload 4, 2) := by decide +kernel
theorem d_J7_fill_d0a16_9 : decode cJ7_fill_d0a16 9 = .ok (.if_icmp .ge 13, 3) := by decide +kernel
theorem d_J7_fill_d0a16_12 : decode cJ7_fill_d0a16 12 = .ok (.aload_n 0, 1) := by decide +kernel
theorem d_J7_fill_d0a16_13 : decode cJ7_fill_d0a16 13 = .ok (.iload_n 3, 1) := by decide +kernel
theorem d_J7_fill_d0a16_14 : decode cJ7_fill_d0a16 14 = .ok (.lload_n 1, 1) := by decide +kernel
theorem d_J7_fill_d0a16_15 : decode cJ7_fill_d0a16 15 = .ok (.lastore, 1) := by decide +kernel
theorem d_J7_fill_d0a16_16 : decode cJ7_fill_d0a16 16 = .ok (.iinc 3 1, 3) := by decide +kernel
theorem d_J7_fill_d0a16_19 : decode cJ7_fill_d0a16 19 = .ok (.goto (-13), 3) := by decide +kernel
theorem d_J7_fill_d0a16_22 : decode cJ7_fill_d0a16 22 = .ok (.return_, 1) := by decide +kernel
def f_J7_fill_d0a16 (a1 : Nat) (a2 : Int64) : sa_M Unit :=
sa_let (0 : Int32) fun x1 =>
sa_bnd (sa_len .long a1) fun v2 =>
sa_wh1 (fun j6 (x3 : Int32) =>
if v2 ≤ x3 then
sa_ret ()
else
sa_bnd (sa_stL a1 x3 a2) fun _ =>
sa_let ((x3 + 1) : Int32) fun x4 =>
j6 x4) sa_F x1
set_option maxHeartbeats 1000000 in
set_option maxRecDepth 10000 in
theorem b_J7_fill_d0a16 {p : Program} {l : Launch} {e : Env} {s : State} {m : MethodId} {args : Array Value} {below : List Frame} {meth : Method} {c : Code} {D : va_G} {ad : Nat → Nat} {cA : FieldType → ClassId} {A : Nat → Prop} (a1 : Nat) (a2 : Int64) (C : sa_C p s m args meth c cJ7_fill_d0a16 RJ7 "fill" 5 none D ad cA A) : sa_Sg p l e s m args below meth c 5 1 D ad cA A sa_eV 0 [(0, .ref (ad a1)), (1, .long a2)] [] (f_J7_fill_d0a16 a1 a2) := by
  unfold f_J7_fill_d0a16
  refine sa_iconst (v := 0) C d_J7_fill_d0a16_0 (by decide) ?_
  refine sa_topi (fun x1 => ?_)
  refine sa_istore_n (lv' := [(3, .int x1), (0, .ref (ad a1)), (1, .long a2)]) C d_J7_fill_d0a16_1 rfl (by decide) rfl ?_
  refine sa_aload_n C d_J7_fill_d0a16_2 rfl 1 rfl ?_
  refine sa_alenL C d_J7_fill_d0a16_3 (fun v2 => ?_)
  refine sa_istore (lv' := [(4, .int v2), (3, .int x1), (0, .ref (ad a1)), (1, .long a2)]) C d_J7_fill_d0a16_4 (by decide) rfl ?_
  refine sa_sub [2, 3, 1, 0] rfl (sa_loop1 (fun x3 => [(0, .ref (ad a1)), (1, .long a2), (3, .int x3), (4, .int v2)]) (fun x3 => []) (fun j6 hj6 x3 => ?_) _ _)
  refine sa_iload_n C d_J7_fill_d0a16_6 rfl 2 rfl ?_
  refine sa_iload C d_J7_fill_d0a16_7 3 rfl ?_
  refine sa_icmp_ge (tgt := 22) C d_J7_fill_d0a16_9 (by decide) ?_ ?_
  · exact sa_vret C d_J7_fill_d0a16_22
  refine sa_aload_n C d_J7_fill_d0a16_12 rfl 0 rfl ?_
  refine sa_iload_n C d_J7_fill_d0a16_13 rfl 2 rfl ?_
  refine sa_lload_n C d_J7_fill_d0a16_14 rfl 1 rfl ?_
  refine sa_last C d_J7_fill_d0a16_15 ?_
  refine sa_iinc C (fun zz => [(3, .int zz), (0, .ref (ad a1)), (1, .long a2), (4, .int v2)]) d_J7_fill_d0a16_16 2 rfl rfl (by decide) (fun _ => rfl) (fun x4 => ?_)
  refine sa_goto (tgt := 6) C d_J7_fill_d0a16_19 (by decide) ?_
  exact sa_sub [1, 2, 0, 3] rfl (hj6 _)
theorem k_J7_fill_d0a16 (a1 : Nat) (a2 : Int64) : sa_Met 1 yJ7_fill_d0a16 cJ7_fill_d0a16 5 none (fun ad => [.ref (ad a1), .long a2]) sa_eV (f_J7_fill_d0a16 a1 a2) := sa_mk (by decide) (fun ad => Nat.le_of_ble_eq_true rfl) (fun p l e s m args below meth c D ad cA A C => b_J7_fill_d0a16 a1 a2 C)
theorem d_J7_fill_53178_0 : decode cJ7_fill_53178 0 = .ok (.iconst 0, 1) := by decide +kernel
theorem d_J7_fill_53178_1 : decode cJ7_fill_53178 1 = .ok (.istore_n 2, 1) := by decide +kernel
theorem d_J7_fill_53178_2 : decode cJ7_fill_53178 2 = .ok (.aload_n 0, 1) := by decide +kernel
theorem d_J7_fill_53178_3 : decode cJ7_fill_53178 3 = .ok (.arraylength, 1) := by decide +kernel
theorem d_J7_fill_53178_4 : decode cJ7_fill_53178 4 = .ok (.istore_n 3, 1) := by decide +kernel
theorem d_J7_fill_53178_5 : decode cJ7_fill_53178 5 = .ok (.iload_n 2, 1) := by decide +kernel
theorem d_J7_fill_53178_6 : decode cJ7_fill_53178 6 = .ok (.iload_n 3, 1) := by decide +kernel
theorem d_J7_fill_53178_7 : decode cJ7_fill_53178 7 = .ok (.if_icmp .ge 13, 3) := by decide +kernel
theorem d_J7_fill_53178_10 : decode cJ7_fill_53178 10 = .ok (.aload_n 0, 1) := by decide +kernel
theorem d_J7_fill_53178_11 : decode cJ7_fill_53178 11 = .ok (.iload_n 2, 1) := by decide +kernel
theorem d_J7_fill_53178_12 : decode cJ7_fill_53178 12 = .ok (.iload_n 1, 1) := by decide +kernel
theorem d_J7_fill_53178_13 : decode cJ7_fill_53178 13 = .ok (.iastore, 1) := by decide +kernel
theorem d_J7_fill_53178_14 : decode cJ7_fill_53178 14 = .ok (.iinc 2 1, 3) := by decide +kernel
theorem d_J7_fill_53178_17 : decode cJ7_fill_53178 17 = .ok (.goto (-12), 3) := by decide +kernel
theorem d_J7_fill_53178_20 : decode cJ7_fill_53178 20 = .ok (.return_, 1) := by decide +kernel
def f_J7_fill_53178 (a1 : Nat) (a2 : Int32) : sa_M Unit :=
sa_let (0 : Int32) fun x1 =>
sa_bnd (sa_len .int a1) fun v2 =>
sa_wh1 (fun j5 (x3 : Int32) =>
if v2 ≤ x3 then
sa_ret ()
else
sa_bnd (sa_stI a1 x3 a2) fun _ =>
sa_let ((x3 + 1) : Int32) fun x4 =>
j5 x4) sa_F x1
set_option maxHeartbeats 1000000 in
set_option maxRecDepth 10000 in
theorem b_J7_fill_53178 {p : Program} {l : Launch} {e : Env} {s : State} {m : MethodId} {args : Array Value} {below : List Frame} {meth : Method} {c : Code} {D : va_G} {ad : Nat → Nat} {cA : FieldType → ClassId} {A : Nat → Prop} (a1 : Nat) (a2 : Int32) (C : sa_C p s m args meth c cJ7_fill_53178 RJ7 "fill" 4 none D ad cA A) : sa_Sg p l e s m args below meth c 4 1 D ad cA A sa_eV 0 [(0, .ref (ad a1)), (1, .int a2)] [] (f_J7_fill_53178 a1 a2) := by
  unfold f_J7_fill_53178
  refine sa_iconst (v := 0) C d_J7_fill_53178_0 (by decide) ?_
  refine sa_topi (fun x1 => ?_)
  refine sa_istore_n (lv' := [(2, .int x1), (0, .ref (ad a1)), (1, .int a2)]) C d_J7_fill_53178_1 rfl (by decide) rfl ?_
  refine sa_aload_n C d_J7_fill_53178_2 rfl 1 rfl ?_
  refine sa_alenI C d_J7_fill_53178_3 (fun v2 => ?_)
  refine sa_istore_n (lv' := [(3, .int v2), (2, .int x1), (0, .ref (ad a1)), (1, .int a2)]) C d_J7_fill_53178_4 rfl (by decide) rfl ?_
  refine sa_sub [2, 3, 1, 0] rfl (sa_loop1 (fun x3 => [(0, .ref (ad a1)), (1, .int a2), (2, .int x3), (3, .int v2)]) (fun x3 => []) (fun j5 hj5 x3 => ?_) _ _)
  refine sa_iload_n C d_J7_fill_53178_5 rfl 2 rfl ?_
  refine sa_iload_n C d_J7_fill_53178_6 rfl 3 rfl ?_
  refine sa_icmp_ge (tgt := 20) C d_J7_fill_53178_7 (by decide) ?_ ?_
  · exact sa_vret C d_J7_fill_53178_20
  refine sa_aload_n C d_J7_fill_53178_10 rfl 0 rfl ?_
  refine sa_iload_n C d_J7_fill_53178_11 rfl 2 rfl ?_
  refine sa_iload_n C d_J7_fill_53178_12 rfl 1 rfl ?_
  refine sa_iast C d_J7_fill_53178_13 ?_
  refine sa_iinc C (fun zz => [(2, .int zz), (0, .ref (ad a1)), (1, .int a2), (3, .int v2)]) d_J7_fill_53178_14 2 rfl rfl (by decide) (fun _ => rfl) (fun x4 => ?_)
  refine sa_goto (tgt := 5) C d_J7_fill_53178_17 (by decide) ?_
  exact sa_sub [1, 2, 0, 3] rfl (hj5 _)
theorem k_J7_fill_53178 (a1 : Nat) (a2 : Int32) : sa_Met 1 yJ7_fill_53178 cJ7_fill_53178 4 none (fun ad => [.ref (ad a1), .int a2]) sa_eV (f_J7_fill_53178 a1 a2) := sa_mk (by decide) (fun ad => Nat.le_of_ble_eq_true rfl) (fun p l e s m args below meth c D ad cA A C => b_J7_fill_53178 a1 a2 C)
theorem d_J0_coder_7d493_0 : decode cJ0_coder_7d493 0 = .ok (.getstatic 38, 3) := by decide +kernel
theorem d_J0_coder_7d493_3 : decode cJ0_coder_7d493 3 = .ok (.ifCond .eq 10, 3) := by decide +kernel
theorem d_J0_coder_7d493_6 : decode cJ0_coder_7d493 6 = .ok (.aload_n 0, 1) := by decide +kernel
theorem d_J0_coder_7d493_7 : decode cJ0_coder_7d493 7 = .ok (.getfield 15, 3) := by decide +kernel
theorem d_J0_coder_7d493_10 : decode cJ0_coder_7d493 10 = .ok (.goto 4, 3) := by decide +kernel
theorem d_J0_coder_7d493_13 : decode cJ0_coder_7d493 13 = .ok (.iconst 1, 1) := by decide +kernel
theorem d_J0_coder_7d493_14 : decode cJ0_coder_7d493 14 = .ok (.ireturn, 1) := by decide +kernel
def f_J0_coder_7d493 (this : Nat) : sa_M Int32 :=
sa_gdS this (
sa_jn1 (fun (y1 : Int32) =>
sa_retB y1) fun j14 =>
if (1 : Int32) = 0 then
j14 1
else
sa_bnd (sa_kcod this) fun v2 =>
j14 v2)
set_option maxHeartbeats 1000000 in
set_option maxRecDepth 10000 in
theorem b_J0_coder_7d493 {p : Program} {l : Launch} {e : Env} {s : State} {m : MethodId} {args : Array Value} {below : List Frame} {meth : Method} {c : Code} {D : va_G} {ad : Nat → Nat} {cA : FieldType → ClassId} {A : Nat → Prop} (this : Nat) (C : sa_C p s m args meth c cJ0_coder_7d493 RJ0 "coder" 1 (some .byte) D ad cA A) : sa_Sg p l e s m args below meth c 1 1 D ad cA A sa_eI 0 [(0, .ref (ad this))] [] (f_J0_coder_7d493 this) := by
  unfold f_J0_coder_7d493
  refine sa_gdSI ?_
  refine sa_getsC C q208 d_J0_coder_7d493_0 ?_
  refine sa_join1 14 (fun y1 => []) (fun y1 => [.int y1]) (fun y1 => ?_) (fun j14 hj14 => ?_)
  · exact sa_bret C d_J0_coder_7d493_14
  refine sa_if_eq (tgt := 13) C d_J0_coder_7d493_3 (by decide) ?_ ?_
  · refine sa_iconst (v := 1) C d_J0_coder_7d493_13 (by decide) ?_
    exact sa_sub [] rfl (hj14 _)
  refine sa_aload_n C d_J0_coder_7d493_6 rfl 0 rfl ?_
  refine sa_getKc C q2136 d_J0_coder_7d493_7 (fun v2 => ?_)
  refine sa_goto (tgt := 14) C d_J0_coder_7d493_10 (by decide) ?_
  exact sa_sub [] rfl (hj14 _)
theorem k_J0_coder_7d493 (this : Nat) : sa_Met 1 yJ0_coder_7d493 cJ0_coder_7d493 1 (some .byte) (fun ad => [.ref (ad this)]) sa_eI (f_J0_coder_7d493 this) := sa_mk (by decide) (fun ad => Nat.le_of_ble_eq_true rfl) (fun p l e s m args below meth c D ad cA A C => b_J0_coder_7d493 this C)
theorem gd_J0_coder_7d493 (this : Nat) (σ : sa_St) (r : Int32) (τ : sa_St) (h : f_J0_coder_7d493 this σ = some (r, τ)) : 1000 ≤ this ∧ this < 1010 := sa_gdS_ok h
theorem d_J0_length_8abf5_0 : decode cJ0_length_8abf5 0 = .ok (.aload_n 0, 1) := by decide +kernel
theorem d_J0_length_8abf5_1 : decode cJ0_length_8abf5 1 = .ok (.getfield 9, 3) := by decide +kernel
theorem d_J0_length_8abf5_4 : decode cJ0_length_8abf5 4 = .ok (.arraylength, 1) := by decide +kernel
theorem d_J0_length_8abf5_5 : decode cJ0_length_8abf5 5 = .ok (.aload_n 0, 1) := by decide +kernel
theorem d_J0_length_8abf5_6 : decode cJ0_length_8abf5 6 = .ok (.invokevirtual 335, 3) := by decide +kernel
theorem d_J0_length_8abf5_9 : decode cJ0_length_8abf5 9 = .ok (.ishr, 1) := by decide +kernel
theorem d_J0_length_8abf5_10 : decode cJ0_length_8abf5 10 = .ok (.ireturn, 1) := by decide +kernel
def f_J0_length_8abf5 (this : Nat) : sa_M Int32 :=
sa_gdS this (
sa_bnd (sa_kval this) fun v1 =>
sa_bnd (sa_klen v1) fun v2 =>
sa_bnd (f_J0_coder_7d493 this) fun v3 =>
sa_ret ((v2 >>> (v3 &&& 31)) : Int32))
set_option maxHeartbeats 1000000 in
set_option maxRecDepth 10000 in
theorem b_J0_length_8abf5 {p : Program} {l : Launch} {e : Env} {s : State} {m : MethodId} {args : Array Value} {below : List Frame} {meth : Method} {c : Code} {D : va_G} {ad : Nat → Nat} {cA : FieldType → ClassId} {A : Nat → Prop} (this : Nat) (C : sa_C p s m args meth c cJ0_length_8abf5 RJ0 "length" 1 (some .int) D ad cA A) : sa_Sg p l e s m args below meth c 1 2 D ad cA A sa_eI 0 [(0, .ref (ad this))] [] (f_J0_length_8abf5 this) := by
  unfold f_J0_length_8abf5
  refine sa_gdSI ?_
  refine sa_aload_n C d_J0_length_8abf5_0 rfl 0 rfl ?_
  refine sa_getKv C q2135 d_J0_length_8abf5_1 (fun v1 => ?_)
  refine sa_lenK C d_J0_length_8abf5_4 (fun v2 => ?_)
  refine sa_aload_n C d_J0_length_8abf5_5 rfl 0 rfl ?_
  refine sa_invK C (k_J0_coder_7d493 this) q207 ds_J0_coder_7d493 q118 rfl q205 q206 q204 (gd_J0_coder_7d493 this) rfl rfl rfl (Nat.le_of_ble_eq_true rfl) (by decide) (by decide) d_J0_length_8abf5_6 (fun v3 => ?_)
  refine sa_ishr C d_J0_length_8abf5_9 ?_
  exact sa_iret C d_J0_length_8abf5_10
theorem k_J0_length_8abf5 (this : Nat) : sa_Met 2 yJ0_length_8abf5 cJ0_length_8abf5 1 (some .int) (fun ad => [.ref (ad this)]) sa_eI (f_J0_length_8abf5 this) := sa_mk (by decide) (fun ad => Nat.le_of_ble_eq_true rfl) (fun p l e s m args below meth c D ad cA A C => b_J0_length_8abf5 this C)
theorem gd_J0_length_8abf5 (this : Nat) (σ : sa_St) (r : Int32) (τ : sa_St) (h : f_J0_length_8abf5 this σ = some (r, τ)) : 1000 ≤ this ∧ this < 1010 := sa_gdS_ok h
theorem d_J0_isLatin1_aae02_0 : decode cJ0_isLatin1_aae02 0 = .ok (.getstatic 38, 3) := by decide +kernel
theorem d_J0_isLatin1_aae02_3 : decode cJ0_isLatin1_aae02 3 = .ok (.ifCond .eq 14, 3) := by decide +kernel
theorem d_J0_isLatin1_aae02_6 : decode cJ0_isLatin1_aae02 6 = .ok (.aload_n 0, 1) := by decide +kernel
theorem d_J0_isLatin1_aae02_7 : decode cJ0_isLatin1_aae02 7 = .ok (.getfield 15, 3) := by decide +kernel
theorem d_J0_isLatin1_aae02_10 : decode cJ0_isLatin1_aae02 10 = .ok (.ifCond .ne 7, 3) := by decide +kernel
theorem d_J0_isLatin1_aae02_13 : decode cJ0_isLatin1_aae02 13 = .ok (.iconst 1, 1) := by decide +kernel
theorem d_J0_isLatin1_aae02_14 : decode cJ0_isLatin1_aae02 14 = .ok (.goto 4, 3) := by decide +kernel
theorem d_J0_isLatin1_aae02_17 : decode cJ0_isLatin1_aae02 17 = .ok (.iconst 0, 1) := by decide +kernel
theorem d_J0_isLatin1_aae02_18 : decode cJ0_isLatin1_aae02 18 = .ok (.ireturn, 1) := by decide +kernel
def f_J0_isLatin1_aae02 (this : Nat) : sa_M Int32 :=
sa_gdS this (
sa_jn1 (fun (y1 : Int32) =>
sa_retZ y1) fun j18 =>
sa_jn0 (j18 0) fun j17 =>
if (1 : Int32) = 0 then
j17
else
sa_bnd (sa_kcod this) fun v2 =>
if ¬ v2 = 0 then
j17
else
j18 1)
set_option maxHeartbeats 1000000 in
set_option maxRecDepth 10000 in
theorem b_J0_isLatin1_aae02 {p : Program} {l : Launch} {e : Env} {s : State} {m : MethodId} {args : Array Value} {below : List Frame} {meth : Method} {c : Code} {D : va_G} {ad : Nat → Nat} {cA : FieldType → ClassId} {A : Nat → Prop} (this : Nat) (C : sa_C p s m args meth c cJ0_isLatin1_aae02 RJ0 "isLatin1" 1 (some .boolean) D ad cA A) : sa_Sg p l e s m args below meth c 1 1 D ad cA A sa_eI 0 [(0, .ref (ad this))] [] (f_J0_isLatin1_aae02 this) := by
  unfold f_J0_isLatin1_aae02
  refine sa_gdSI ?_
  refine sa_getsC C q208 d_J0_isLatin1_aae02_0 ?_
  refine sa_join1 18 (fun y1 => []) (fun y1 => [.int y1]) (fun y1 => ?_) (fun j18 hj18 => ?_)
  · exact sa_zret C d_J0_isLatin1_aae02_18
  refine sa_join0 17 ([]) ([]) (?_) (fun j17 hj17 => ?_)
  · refine sa_iconst (v := 0) C d_J0_isLatin1_aae02_17 (by decide) ?_
    exact sa_sub [] rfl (hj18 _)
  refine sa_if_eq (tgt := 17) C d_J0_isLatin1_aae02_3 (by decide) ?_ ?_
  · exact sa_sub [] rfl (hj17)
  refine sa_aload_n C d_J0_isLatin1_aae02_6 rfl 0 rfl ?_
  refine sa_getKc C q2136 d_J0_isLatin1_aae02_7 (fun v2 => ?_)
  refine sa_if_ne (tgt := 17) C d_J0_isLatin1_aae02_10 (by decide) ?_ ?_
  · exact sa_sub [] rfl (hj17)
  refine sa_iconst (v := 1) C d_J0_isLatin1_aae02_13 (by decide) ?_
  refine sa_goto (tgt := 18) C d_J0_isLatin1_aae02_14 (by decide) ?_
  exact sa_sub [] rfl (hj18 _)
theorem k_J0_isLatin1_aae02 (this : Nat) : sa_Met 1 yJ0_isLatin1_aae02 cJ0_isLatin1_aae02 1 (some .boolean) (fun ad => [.ref (ad this)]) sa_eI (f_J0_isLatin1_aae02 this) := sa_mk (by decide) (fun ad => Nat.le_of_ble_eq_true rfl) (fun p l e s m args below meth c D ad cA A C => b_J0_isLatin1_aae02 this C)
theorem gd_J0_isLatin1_aae02 (this : Nat) (σ : sa_St) (r : Int32) (τ : sa_St) (h : f_J0_isLatin1_aae02 this σ = some (r, τ)) : 1000 ≤ this ∧ this < 1010 := sa_gdS_ok h
theorem d_J1_charAt_3b067_0 : decode cJ1_charAt_3b067 0 = .ok (.iload_n 1, 1) := by decide +kernel
theorem d_J1_charAt_3b067_1 : decode cJ1_charAt_3b067 1 = .ok (.aload_n 0, 1) := by decide +kernel
theorem d_J1_charAt_3b067_2 : decode cJ1_charAt_3b067 2 = .ok (.arraylength, 1) := by decide +kernel
theorem d_J1_charAt_3b067_3 : decode cJ1_charAt_3b067 3 = .ok (.invokestatic 9, 3) := by decide +kernel
theorem d_J1_charAt_3b067_6 : decode cJ1_charAt_3b067 6 = .ok (.aload_n 0, 1) := by decide +kernel
theorem d_J1_charAt_3b067_7 : decode cJ1_charAt_3b067 7 = .ok (.iload_n 1, 1) := by decide +kernel
theorem d_J1_charAt_3b067_8 : decode cJ1_charAt_3b067 8 = .ok (.baload, 1) := by decide +kernel
theorem d_J1_charAt_3b067_9 : decode cJ1_charAt_3b067 9 = .ok (.sipush 255, 3) := by decide +kernel
theorem d_J1_charAt_3b067_12 : decode cJ1_charAt_3b067 12 = .ok (.iand, 1) := by decide +kernel
theorem d_J1_charAt_3b067_13 : decode cJ1_charAt_3b067 13 = .ok (.i2c, 1) := by decide +kernel
theorem d_J1_charAt_3b067_14 : decode cJ1_charAt_3b067 14 = .ok (.ireturn, 1) := by decide +kernel
def f_J1_charAt_3b067 (a1 : Nat) (a2 : Int32) : sa_M Int32 :=
sa_bnd (sa_klen a1) fun v1 =>
sa_bnd (f_J0_checkIndex_df160 a2 v1) fun _ =>
sa_bnd (sa_kld a1 a2) fun v2 =>
sa_retC (((v2 &&& 255).toUInt32 % 65536).toInt32)
set_option maxHeartbeats 1000000 in
set_option maxRecDepth 10000 in
theorem b_J1_charAt_3b067 {p : Program} {l : Launch} {e : Env} {s : State} {m : MethodId} {args : Array Value} {below : List Frame} {meth : Method} {c : Code} {D : va_G} {ad : Nat → Nat} {cA : FieldType → ClassId} {A : Nat → Prop} (a1 : Nat) (a2 : Int32) (C : sa_C p s m args meth c cJ1_charAt_3b067 RJ1 "charAt" 2 (some .char) D ad cA A) : sa_Sg p l e s m args below meth c 2 3 D ad cA A sa_eI 0 [(0, .ref (ad a1)), (1, .int a2)] [] (f_J1_charAt_3b067 a1 a2) := by
  unfold f_J1_charAt_3b067
  refine sa_iload_n C d_J1_charAt_3b067_0 rfl 1 rfl ?_
  refine sa_aload_n C d_J1_charAt_3b067_1 rfl 0 rfl ?_
  refine sa_lenK C d_J1_charAt_3b067_2 (fun v1 => ?_)
  refine sa_invS C (k_J0_checkIndex_df160 a2 v1) q610 ds_J0_checkIndex_df160 q118 q609 q608 rfl rfl rfl (Nat.le_of_ble_eq_true rfl) (by decide) (by decide) d_J1_charAt_3b067_3 (fun _ => ?_)
  refine sa_aload_n C d_J1_charAt_3b067_6 rfl 0 rfl ?_
  refine sa_iload_n C d_J1_charAt_3b067_7 rfl 1 rfl ?_
  refine sa_baldK C d_J1_charAt_3b067_8 (fun v2 => ?_)
  refine sa_sipush (v := 255) C d_J1_charAt_3b067_9 (by decide) ?_
  refine sa_iand C d_J1_charAt_3b067_12 ?_
  refine sa_i2c C d_J1_charAt_3b067_13 ?_
  exact sa_cret C d_J1_charAt_3b067_14
theorem k_J1_charAt_3b067 (a1 : Nat) (a2 : Int32) : sa_Met 3 yJ1_charAt_3b067 cJ1_charAt_3b067 2 (some .char) (fun ad => [.ref (ad a1), .int a2]) sa_eI (f_J1_charAt_3b067 a1 a2) := sa_mk (by decide) (fun ad => Nat.le_of_ble_eq_true rfl) (fun p l e s m args below meth c D ad cA A C => b_J1_charAt_3b067 a1 a2 C)
theorem d_J0_charAt_5068e_0 : decode cJ0_charAt_5068e 0 = .ok (.aload_n 0, 1) := by decide +kernel
theorem d_J0_charAt_5068e_1 : decode cJ0_charAt_5068e 1 = .ok (.invokevirtual 492, 3) := by decide +kernel
theorem d_J0_charAt_5068e_4 : decode cJ0_charAt_5068e 4 = .ok (.ifCond .eq 12, 3) := by decide +kernel
theorem d_J0_charAt_5068e_7 : decode cJ0_charAt_5068e 7 = .ok (.aload_n 0, 1) := by decide +kernel
theorem d_J0_charAt_5068e_8 : decode cJ0_charAt_5068e 8 = .ok (.getfield 9, 3) := by decide +kernel
theorem d_J0_charAt_5068e_11 : decode cJ0_charAt_5068e 11 = .ok (.iload_n 1, 1) := by decide +kernel
theorem d_J0_charAt_5068e_12 : decode cJ0_charAt_5068e 12 = .ok (.invokestatic 495, 3) := by decide +kernel
theorem d_J0_charAt_5068e_15 : decode cJ0_charAt_5068e 15 = .ok (.ireturn, 1) := by decide +kernel
theorem d_J0_charAt_5068e_16 : decode cJ0_charAt_5068e 16 = .ok (.aload_n 0, 1) := by decide +kernel
theorem d_J0_charAt_5068e_17 : decode cJ0_charAt_5068e 17 = .ok (.getfield 9, 3) := by decide +kernel
theorem d_J0_charAt_5068e_20 : decode cJ0_charAt_5068e 20 = .ok (.iload_n 1, 1) := by decide +kernel
theorem d_J0_charAt_5068e_21 : decode cJ0_charAt_5068e 21 = .ok (.invokestatic 498, 3) := by decide +kernel
theorem d_J0_charAt_5068e_24 : decode cJ0_charAt_5068e 24 = .ok (.ireturn, 1) := by decide +kernel
def f_J0_charAt_5068e (this : Nat) (a1 : Int32) : sa_M Int32 :=
sa_gdS this (
sa_bnd (f_J0_isLatin1_aae02 this) fun v1 =>
if v1 = 0 then
sa_fail
else
sa_bnd (sa_kval this) fun v2 =>
sa_bnd (f_J1_charAt_3b067 v2 a1) fun v3 =>
sa_retC v3)
set_option maxHeartbeats 1000000 in
set_option maxRecDepth 10000 in
theorem b_J0_charAt_5068e {p : Program} {l : Launch} {e : Env} {s : State} {m : MethodId} {args : Array Value} {below : List Frame} {meth : Method} {c : Code} {D : va_G} {ad : Nat → Nat} {cA : FieldType → ClassId} {A : Nat → Prop} (this : Nat) (a1 : Int32) (C : sa_C p s m args meth c cJ0_charAt_5068e RJ0 "charAt" 2 (some .char) D ad cA A) : sa_Sg p l e s m args below meth c 2 4 D ad cA A sa_eI 0 [(0, .ref (ad this)), (1, .int a1)] [] (f_J0_charAt_5068e this a1) := by
  unfold f_J0_charAt_5068e
  refine sa_gdSI ?_
  refine sa_aload_n C d_J0_charAt_5068e_0 rfl 0 rfl ?_
  refine sa_invK C (k_J0_isLatin1_aae02 this) q518 ds_J0_isLatin1_aae02 q118 rfl q516 q517 q515 (gd_J0_isLatin1_aae02 this) rfl rfl rfl (Nat.le_of_ble_eq_true rfl) (by decide) (by decide) d_J0_charAt_5068e_1 (fun v1 => ?_)
  refine sa_if_eq (tgt := 16) C d_J0_charAt_5068e_4 (by decide) ?_ ?_
  · exact sa_failI
  refine sa_aload_n C d_J0_charAt_5068e_7 rfl 0 rfl ?_
  refine sa_getKv C q2135 d_J0_charAt_5068e_8 (fun v2 => ?_)
  refine sa_iload_n C d_J0_charAt_5068e_11 rfl 1 rfl ?_
  refine sa_invS C (k_J1_charAt_3b067 v2 a1) q607 ds_J1_charAt_3b067 q129 q606 q605 rfl rfl rfl (Nat.le_of_ble_eq_true rfl) (by decide) (by decide) d_J0_charAt_5068e_12 (fun v3 => ?_)
  exact sa_cret C d_J0_charAt_5068e_15
theorem k_J0_charAt_5068e (this : Nat) (a1 : Int32) : sa_Met 4 yJ0_charAt_5068e cJ0_charAt_5068e 2 (some .char) (fun ad => [.ref (ad this), .int a1]) sa_eI (f_J0_charAt_5068e this a1) := sa_mk (by decide) (fun ad => Nat.le_of_ble_eq_true rfl) (fun p l e s m args below meth c D ad cA A C => b_J0_charAt_5068e this a1 C)
theorem gd_J0_charAt_5068e (this : Nat) (a1 : Int32) (σ : sa_St) (r : Int32) (τ : sa_St) (h : f_J0_charAt_5068e this a1 σ = some (r, τ)) : 1000 ≤ this ∧ this < 1010 := sa_gdS_ok h
theorem d_J1_canEncode_9a6ad_0 : decode cJ1_canEncode_9a6ad 0 = .ok (.iload_n 0, 1) := by decide +kernel
theorem d_J1_canEncode_9a6ad_1 : decode cJ1_canEncode_9a6ad 1 = .ok (.ifCond .lt 14, 3) := by decide +kernel
theorem d_J1_canEncode_9a6ad_4 : decode cJ1_canEncode_9a6ad 4 = .ok (.iload_n 0, 1) := by decide +kernel
theorem d_J1_canEncode_9a6ad_5 : decode cJ1_canEncode_9a6ad 5 = .ok (.sipush 255, 3) := by decide +kernel
theorem d_J1_canEncode_9a6ad_8 : decode cJ1_canEncode_9a6ad 8 = .ok (.if_icmp .gt 7, 3) := by decide +kernel
theorem d_J1_canEncode_9a6ad_11 : decode cJ1_canEncode_9a6ad 11 = .ok (.iconst 1, 1) := by decide +kernel
theorem d_J1_canEncode_9a6ad_12 : decode cJ1_canEncode_9a6ad 12 = .ok (.goto 4, 3) := by decide +kernel
theorem d_J1_canEncode_9a6ad_15 : decode cJ1_canEncode_9a6ad 15 = .ok (.iconst 0, 1) := by decide +kernel
theorem d_J1_canEncode_9a6ad_16 : decode cJ1_canEncode_9a6ad 16 = .ok (.ireturn, 1) := by decide +kernel
def f_J1_canEncode_9a6ad (a1 : Int32) : sa_M Int32 :=
sa_jn1 (fun (y1 : Int32) =>
sa_retZ y1) fun j16 =>
sa_jn0 (j16 0) fun j15 =>
if a1 < 0 then
j15
else
if 255 < a1 then
j15
else
j16 1
set_option maxHeartbeats 1000000 in
set_option maxRecDepth 10000 in
theorem b_J1_canEncode_9a6ad {p : Program} {l : Launch} {e : Env} {s : State} {m : MethodId} {args : Array Value} {below : List Frame} {meth : Method} {c : Code} {D : va_G} {ad : Nat → Nat} {cA : FieldType → ClassId} {A : Nat → Prop} (a1 : Int32) (C : sa_C p s m args meth c cJ1_canEncode_9a6ad RJ1 "canEncode" 1 (some .boolean) D ad cA A) : sa_Sg p l e s m args below meth c 1 1 D ad cA A sa_eI 0 [(0, .int a1)] [] (f_J1_canEncode_9a6ad a1) := by
  unfold f_J1_canEncode_9a6ad
  refine sa_iload_n C d_J1_canEncode_9a6ad_0 rfl 0 rfl ?_
  refine sa_join1 16 (fun y1 => []) (fun y1 => [.int y1]) (fun y1 => ?_) (fun j16 hj16 => ?_)
  · exact sa_zret C d_J1_canEncode_9a6ad_16
  refine sa_join0 15 ([]) ([]) (?_) (fun j15 hj15 => ?_)
  · refine sa_iconst (v := 0) C d_J1_canEncode_9a6ad_15 (by decide) ?_
    exact sa_sub [] rfl (hj16 _)
  refine sa_if_lt (tgt := 15) C d_J1_canEncode_9a6ad_1 (by decide) ?_ ?_
  · exact sa_sub [] rfl (hj15)
  refine sa_iload_n C d_J1_canEncode_9a6ad_4 rfl 0 rfl ?_
  refine sa_sipush (v := 255) C d_J1_canEncode_9a6ad_5 (by decide) ?_
  refine sa_icmp_gt (tgt := 15) C d_J1_canEncode_9a6ad_8 (by decide) ?_ ?_
  · exact sa_sub [] rfl (hj15)
  refine sa_iconst (v := 1) C d_J1_canEncode_9a6ad_11 (by decide) ?_
  refine sa_goto (tgt := 16) C d_J1_canEncode_9a6ad_12 (by decide) ?_
  exact sa_sub [] rfl (hj16 _)
theorem k_J1_canEncode_9a6ad (a1 : Int32) : sa_Met 1 yJ1_canEncode_9a6ad cJ1_canEncode_9a6ad 1 (some .boolean) (fun ad => [.int a1]) sa_eI (f_J1_canEncode_9a6ad a1) := sa_mk (by decide) (fun ad => Nat.le_of_ble_eq_true rfl) (fun p l e s m args below meth c D ad cA A C => b_J1_canEncode_9a6ad a1 C)
theorem d_J1_indexOfChar_4cfef_0 : decode cJ1_indexOfChar_4cfef 0 = .ok (.iload_n 1, 1) := by decide +kernel
theorem d_J1_indexOfChar_4cfef_1 : decode cJ1_indexOfChar_4cfef 1 = .ok (.i2b, 1) := by decide +kernel
theorem d_J1_indexOfChar_4cfef_2 : decode cJ1_indexOfChar_4cfef 2 = .ok (.istore 4, 2) := by decide +kernel
theorem d_J1_indexOfChar_4cfef_4 : decode cJ1_indexOfChar_4cfef 4 = .ok (.iload_n 2, 1) := by decide +kernel
theorem d_J1_indexOfChar_4cfef_5 : decode cJ1_indexOfChar_4cfef 5 = .ok (.istore 5, 2) := by decide +kernel
theorem d_J1_indexOfChar_4cfef_7 : decode cJ1_indexOfChar_4cfef 7 = .ok (.iload 5, 2) := by decide +kernel
theorem d_J1_indexOfChar_4cfef_9 : decode cJ1_indexOfChar_4cfef 9 = .ok (.iload_n 3, 1) := by decide +kernel
theorem d_J1_indexOfChar_4cfef_10 : decode cJ1_indexOfChar_4cfef 10 = .ok (.if_icmp .ge 21, 3) := by decide +kernel
theorem d_J1_indexOfChar_4cfef_13 : decode cJ1_indexOfChar_4cfef 13 = .ok (.aload_n 0, 1) := by decide +kernel
theorem d_J1_indexOfChar_4cfef_14 : decode cJ1_indexOfChar_4cfef 14 = .ok (.iload 5, 2) := by decide +kernel
theorem d_J1_indexOfChar_4cfef_16 : decode cJ1_indexOfChar_4cfef 16 = .ok (.baload, 1) := by decide +kernel
theorem d_J1_indexOfChar_4cfef_17 : decode cJ1_indexOfChar_4cfef 17 = .ok (.iload 4, 2) := by decide +kernel
theorem d_J1_indexOfChar_4cfef_19 : decode cJ1_indexOfChar_4cfef 19 = .ok (.if_icmp .ne 6, 3) := by decide +kernel
theorem d_J1_indexOfChar_4cfef_22 : decode cJ1_indexOfChar_4cfef 22 = .ok (.iload 5, 2) := by decide +kernel
theorem d_J1_indexOfChar_4cfef_24 : decode cJ1_indexOfChar_4cfef 24 = .ok (.ireturn, 1) := by decide +kernel
theorem d_J1_indexOfChar_4cfef_25 : decode cJ1_indexOfChar_4cfef 25 = .ok (.iinc 5 1, 3) := by decide +kernel
theorem d_J1_indexOfChar_4cfef_28 : decode cJ1_indexOfChar_4cfef 28 = .ok (.goto (-21), 3) := by decide +kernel
theorem d_J1_indexOfChar_4cfef_31 : decode cJ1_indexOfChar_4cfef 31 = .ok (.iconst (-1), 1) := by decide +kernel
theorem d_J1_indexOfChar_4cfef_32 : decode cJ1_indexOfChar_4cfef 32 = .ok (.ireturn, 1) := by decide +kernel
def f_J1_indexOfChar_4cfef (a1 : Nat) (a2 : Int32) (a3 : Int32) (a4 : Int32) : sa_M Int32 :=
sa_let ((a2.toInt8.toInt32) : Int32) fun x1 =>
sa_wh1 (fun j7 (x2 : Int32) =>
if a4 ≤ x2 then
sa_ret ((-1) : Int32)
else
sa_bnd (sa_kld a1 x2) fun v3 =>
if ¬ v3 = x1 then
sa_let ((x2 + 1) : Int32) fun x4 =>
j7 x4
else
sa_ret (x2 : Int32)) sa_F a3
set_option maxHeartbeats 1000000 in
set_option maxRecDepth 10000 in
theorem b_J1_indexOfChar_4cfef {p : Program} {l : Launch} {e : Env} {s : State} {m : MethodId} {args : Array Value} {below : List Frame} {meth : Method} {c : Code} {D : va_G} {ad : Nat → Nat} {cA : FieldType → ClassId} {A : Nat → Prop} (a1 : Nat) (a2 : Int32) (a3 : Int32) (a4 : Int32) (C : sa_C p s m args meth c cJ1_indexOfChar_4cfef RJ1 "indexOfChar" 6 (some .int) D ad cA A) : sa_Sg p l e s m args below meth c 6 1 D ad cA A sa_eI 0 [(0, .ref (ad a1)), (1, .int a2), (2, .int a3), (3, .int a4)] [] (f_J1_indexOfChar_4cfef a1 a2 a3 a4) := by
  unfold f_J1_indexOfChar_4cfef
  refine sa_iload_n C d_J1_indexOfChar_4cfef_0 rfl 1 rfl ?_
  refine sa_i2b C d_J1_indexOfChar_4cfef_1 ?_
  refine sa_topi (fun x1 => ?_)
  refine sa_istore (lv' := [(4, .int x1), (0, .ref (ad a1)), (1, .int a2), (2, .int a3), (3, .int a4)]) C d_J1_indexOfChar_4cfef_2 (by decide) rfl ?_
  refine sa_iload_n C d_J1_indexOfChar_4cfef_4 rfl 3 rfl ?_
  refine sa_istore (lv' := [(5, .int a3), (4, .int x1), (0, .ref (ad a1)), (1, .int a2), (2, .int a3), (3, .int a4)]) C d_J1_indexOfChar_4cfef_5 (by decide) rfl ?_
  refine sa_sub [2, 5, 1, 0] rfl (sa_loop1 (fun x2 => [(0, .ref (ad a1)), (3, .int a4), (4, .int x1), (5, .int x2)]) (fun x2 => []) (fun j7 hj7 x2 => ?_) _ _)
  refine sa_iload C d_J1_indexOfChar_4cfef_7 3 rfl ?_
  refine sa_iload_n C d_J1_indexOfChar_4cfef_9 rfl 1 rfl ?_
  refine sa_icmp_ge (tgt := 31) C d_J1_indexOfChar_4cfef_10 (by decide) ?_ ?_
  · refine sa_iconst (v := (-1)) C d_J1_indexOfChar_4cfef_31 (by decide) ?_
    exact sa_iret C d_J1_indexOfChar_4cfef_32
  refine sa_aload_n C d_J1_indexOfChar_4cfef_13 rfl 0 rfl ?_
  refine sa_iload C d_J1_indexOfChar_4cfef_14 3 rfl ?_
  refine sa_baldK C d_J1_indexOfChar_4cfef_16 (fun v3 => ?_)
  refine sa_iload C d_J1_indexOfChar_4cfef_17 2 rfl ?_
  refine sa_icmp_ne (tgt := 25) C d_J1_indexOfChar_4cfef_19 (by decide) ?_ ?_
  · refine sa_iinc C (fun zz => [(5, .int zz), (0, .ref (ad a1)), (3, .int a4), (4, .int x1)]) d_J1_indexOfChar_4cfef_25 3 rfl rfl (by decide) (fun _ => rfl) (fun x4 => ?_)
    refine sa_goto (tgt := 7) C d_J1_indexOfChar_4cfef_28 (by decide) ?_
    exact sa_sub [1, 2, 3, 0] rfl (hj7 _)
  refine sa_iload C d_J1_indexOfChar_4cfef_22 3 rfl ?_
  exact sa_iret C d_J1_indexOfChar_4cfef_24
theorem k_J1_indexOfChar_4cfef (a1 : Nat) (a2 : Int32) (a3 : Int32) (a4 : Int32) : sa_Met 1 yJ1_indexOfChar_4cfef cJ1_indexOfChar_4cfef 6 (some .int) (fun ad => [.ref (ad a1), .int a2, .int a3, .int a4]) sa_eI (f_J1_indexOfChar_4cfef a1 a2 a3 a4) := sa_mk (by decide) (fun ad => Nat.le_of_ble_eq_true rfl) (fun p l e s m args below meth c D ad cA A C => b_J1_indexOfChar_4cfef a1 a2 a3 a4 C)
theorem d_J1_indexOf_4cfef_0 : decode cJ1_indexOf_4cfef 0 = .ok (.iload_n 1, 1) := by decide +kernel
theorem d_J1_indexOf_4cfef_1 : decode cJ1_indexOf_4cfef 1 = .ok (.invokestatic 88, 3) := by decide +kernel
theorem d_J1_indexOf_4cfef_4 : decode cJ1_indexOf_4cfef 4 = .ok (.ifCond .ne 5, 3) := by decide +kernel
theorem d_J1_indexOf_4cfef_7 : decode cJ1_indexOf_4cfef 7 = .ok (.iconst (-1), 1) := by decide +kernel
theorem d_J1_indexOf_4cfef_8 : decode cJ1_indexOf_4cfef 8 = .ok (.ireturn, 1) := by decide +kernel
theorem d_J1_indexOf_4cfef_9 : decode cJ1_indexOf_4cfef 9 = .ok (.iload_n 2, 1) := by decide +kernel
theorem d_J1_indexOf_4cfef_10 : decode cJ1_indexOf_4cfef 10 = .ok (.iconst 0, 1) := by decide +kernel
theorem d_J1_indexOf_4cfef_11 : decode cJ1_indexOf_4cfef 11 = .ok (.invokestatic 92, 3) := by decide +kernel
theorem d_J1_indexOf_4cfef_14 : decode cJ1_indexOf_4cfef 14 = .ok (.istore_n 2, 1) := by decide +kernel
theorem d_J1_indexOf_4cfef_15 : decode cJ1_indexOf_4cfef 15 = .ok (.iload_n 3, 1) := by decide +kernel
theorem d_J1_indexOf_4cfef_16 : decode cJ1_indexOf_4cfef 16 = .ok (.aload_n 0, 1) := by decide +kernel
theorem d_J1_indexOf_4cfef_17 : decode cJ1_indexOf_4cfef 17 = .ok (.arraylength, 1) := by decide +kernel
theorem d_J1_indexOf_4cfef_18 : decode cJ1_indexOf_4cfef 18 = .ok (.invokestatic 38, 3) := by decide +kernel
theorem d_J1_indexOf_4cfef_21 : decode cJ1_indexOf_4cfef 21 = .ok (.istore_n 3, 1) := by decide +kernel
theorem d_J1_indexOf_4cfef_22 : decode cJ1_indexOf_4cfef 22 = .ok (.iload_n 2, 1) := by decide +kernel
theorem d_J1_indexOf_4cfef_23 : decode cJ1_indexOf_4cfef 23 = .ok (.iload_n 3, 1) := by decide +kernel
theorem d_J1_indexOf_4cfef_24 : decode cJ1_indexOf_4cfef 24 = .ok (.if_icmp .lt 5, 3) := by decide +kernel
theorem d_J1_indexOf_4cfef_27 : decode cJ1_indexOf_4cfef 27 = .ok (.iconst (-1), 1) := by decide +kernel
theorem d_J1_indexOf_4cfef_28 : decode cJ1_indexOf_4cfef 28 = .ok (.ireturn, 1) := by decide +kernel
theorem d_J1_indexOf_4cfef_29 : decode cJ1_indexOf_4cfef 29 = .ok (.aload_n 0, 1) := by decide +kernel
theorem d_J1_indexOf_4cfef_30 : decode cJ1_indexOf_4cfef 30 = .ok (.iload_n 1, 1) := by decide +kernel
theorem d_J1_indexOf_4cfef_31 : decode cJ1_indexOf_4cfef 31 = .ok (.iload_n 2, 1) := by decide +kernel
theorem d_J1_indexOf_4cfef_32 : decode cJ1_indexOf_4cfef 32 = .ok (.iload_n 3, 1) := by decide +kernel
theorem d_J1_indexOf_4cfef_33 : decode cJ1_indexOf_4cfef 33 = .ok (.invokestatic 95, 3) := by decide +kernel
theorem d_J1_indexOf_4cfef_36 : decode cJ1_indexOf_4cfef 36 = .ok (.ireturn, 1) := by decide +kernel
def f_J1_indexOf_4cfef (a1 : Nat) (a2 : Int32) (a3 : Int32) (a4 : Int32) : sa_M Int32 :=
sa_bnd (f_J1_canEncode_9a6ad a2) fun v1 =>
if ¬ v1 = 0 then
sa_let ((sa_max a3 0) : Int32) fun x2 =>
sa_bnd (sa_klen a1) fun v3 =>
sa_let ((sa_min a4 v3) : Int32) fun x4 =>
if x2 < x4 then
sa_bnd (f_J1_indexOfChar_4cfef a1 a2 x2 x4) fun v5 =>
sa_ret (v5 : Int32)
else
sa_ret ((-1) : Int32)
else
sa_ret ((-1) : Int32)
set_option maxHeartbeats 1000000 in
set_option maxRecDepth 10000 in
theorem b_J1_indexOf_4cfef {p : Program} {l : Launch} {e : Env} {s : State} {m : MethodId} {args : Array Value} {below : List Frame} {meth : Method} {c : Code} {D : va_G} {ad : Nat → Nat} {cA : FieldType → ClassId} {A : Nat → Prop} (a1 : Nat) (a2 : Int32) (a3 : Int32) (a4 : Int32) (C : sa_C p s m args meth c cJ1_indexOf_4cfef RJ1 "indexOf" 4 (some .int) D ad cA A) : sa_Sg p l e s m args below meth c 4 2 D ad cA A sa_eI 0 [(0, .ref (ad a1)), (1, .int a2), (2, .int a3), (3, .int a4)] [] (f_J1_indexOf_4cfef a1 a2 a3 a4) := by
  unfold f_J1_indexOf_4cfef
  refine sa_iload_n C d_J1_indexOf_4cfef_0 rfl 1 rfl ?_
  refine sa_invS C (k_J1_canEncode_9a6ad a2) q525 ds_J1_canEncode_9a6ad q129 q524 q523 rfl rfl rfl (Nat.le_of_ble_eq_true rfl) (by decide) (by decide) d_J1_indexOf_4cfef_1 (fun v1 => ?_)
  refine sa_if_ne (tgt := 9) C d_J1_indexOf_4cfef_4 (by decide) ?_ ?_
  · refine sa_iload_n C d_J1_indexOf_4cfef_9 rfl 2 rfl ?_
    refine sa_iconst (v := 0) C d_J1_indexOf_4cfef_10 (by decide) ?_
    refine sa_mmax C q526 (Nat.le_of_ble_eq_true rfl) (by decide) q527 q130 q528 d_J1_indexOf_4cfef_11 ?_
    refine sa_topi (fun x2 => ?_)
    refine sa_istore_n (lv' := [(2, .int x2), (0, .ref (ad a1)), (1, .int a2), (3, .int a4)]) C d_J1_indexOf_4cfef_14 rfl (by decide) rfl ?_
    refine sa_iload_n C d_J1_indexOf_4cfef_15 rfl 3 rfl ?_
    refine sa_aload_n C d_J1_indexOf_4cfef_16 rfl 1 rfl ?_
    refine sa_lenK C d_J1_indexOf_4cfef_17 (fun v3 => ?_)
    refine sa_mmin C q529 (Nat.le_of_ble_eq_true rfl) (by decide) q530 q130 q531 d_J1_indexOf_4cfef_18 ?_
    refine sa_topi (fun x4 => ?_)
    refine sa_istore_n (lv' := [(3, .int x4), (2, .int x2), (0, .ref (ad a1)), (1, .int a2)]) C d_J1_indexOf_4cfef_21 rfl (by decide) rfl ?_
    refine sa_iload_n C d_J1_indexOf_4cfef_22 rfl 1 rfl ?_
    refine sa_iload_n C d_J1_indexOf_4cfef_23 rfl 0 rfl ?_
    refine sa_icmp_lt (tgt := 29) C d_J1_indexOf_4cfef_24 (by decide) ?_ ?_
    · refine sa_aload_n C d_J1_indexOf_4cfef_29 rfl 2 rfl ?_
      refine sa_iload_n C d_J1_indexOf_4cfef_30 rfl 3 rfl ?_
      refine sa_iload_n C d_J1_indexOf_4cfef_31 rfl 1 rfl ?_
      refine sa_iload_n C d_J1_indexOf_4cfef_32 rfl 0 rfl ?_
      refine sa_invS C (k_J1_indexOfChar_4cfef a1 a2 x2 x4) q534 ds_J1_indexOfChar_4cfef q129 q533 q532 rfl rfl rfl (Nat.le_of_ble_eq_true rfl) (by decide) (by decide) d_J1_indexOf_4cfef_33 (fun v5 => ?_)
      exact sa_iret C d_J1_indexOf_4cfef_36
    refine sa_iconst (v := (-1)) C d_J1_indexOf_4cfef_27 (by decide) ?_
    exact sa_iret C d_J1_indexOf_4cfef_28
  refine sa_iconst (v := (-1)) C d_J1_indexOf_4cfef_7 (by decide) ?_
  exact sa_iret C d_J1_indexOf_4cfef_8
theorem k_J1_indexOf_4cfef (a1 : Nat) (a2 : Int32) (a3 : Int32) (a4 : Int32) : sa_Met 2 yJ1_indexOf_4cfef cJ1_indexOf_4cfef 4 (some .int) (fun ad => [.ref (ad a1), .int a2, .int a3, .int a4]) sa_eI (f_J1_indexOf_4cfef a1 a2 a3 a4) := sa_mk (by decide) (fun ad => Nat.le_of_ble_eq_true rfl) (fun p l e s m args below meth c D ad cA A C => b_J1_indexOf_4cfef a1 a2 a3 a4 C)
theorem d_J0_indexOf_7cf53_0 : decode cJ0_indexOf_7cf53 0 = .ok (.aload_n 0, 1) := by decide +kernel
theorem d_J0_indexOf_7cf53_1 : decode cJ0_indexOf_7cf53 1 = .ok (.invokevirtual 492, 3) := by decide +kernel
theorem d_J0_indexOf_7cf53_4 : decode cJ0_indexOf_7cf53 4 = .ok (.ifCond .eq 19, 3) := by decide +kernel
theorem d_J0_indexOf_7cf53_7 : decode cJ0_indexOf_7cf53 7 = .ok (.aload_n 0, 1) := by decide +kernel
theorem d_J0_indexOf_7cf53_8 : decode cJ0_indexOf_7cf53 8 = .ok (.getfield 9, 3) := by decide +kernel
theorem d_J0_indexOf_7cf53_11 : decode cJ0_indexOf_7cf53 11 = .ok (.iload_n 1, 1) := by decide +kernel
theorem d_J0_indexOf_7cf53_12 : decode cJ0_indexOf_7cf53 12 = .ok (.iload_n 2, 1) := by decide +kernel
theorem d_J0_indexOf_7cf53_13 : decode cJ0_indexOf_7cf53 13 = .ok (.aload_n 0, 1) := by decide +kernel
theorem d_J0_indexOf_7cf53_14 : decode cJ0_indexOf_7cf53 14 = .ok (.invokevirtual 505, 3) := by decide +kernel
theorem d_J0_indexOf_7cf53_17 : decode cJ0_indexOf_7cf53 17 = .ok (.invokestatic 637, 3) := by decide +kernel
theorem d_J0_indexOf_7cf53_20 : decode cJ0_indexOf_7cf53 20 = .ok (.goto 16, 3) := by decide +kernel
theorem d_J0_indexOf_7cf53_23 : decode cJ0_indexOf_7cf53 23 = .ok (.aload_n 0, 1) := by decide +kernel
theorem d_J0_indexOf_7cf53_24 : decode cJ0_indexOf_7cf53 24 = .ok (.getfield 9, 3) := by decide +kernel
theorem d_J0_indexOf_7cf53_27 : decode cJ0_indexOf_7cf53 27 = .ok (.iload_n 1, 1) := by decide +kernel
theorem d_J0_indexOf_7cf53_28 : decode cJ0_indexOf_7cf53 28 = .ok (.iload_n 2, 1) := by decide +kernel
theorem d_J0_indexOf_7cf53_29 : decode cJ0_indexOf_7cf53 29 = .ok (.aload_n 0, 1) := by decide +kernel
theorem d_J0_indexOf_7cf53_30 : decode cJ0_indexOf_7cf53 30 = .ok (.invokevirtual 505, 3) := by decide +kernel
theorem d_J0_indexOf_7cf53_33 : decode cJ0_indexOf_7cf53 33 = .ok (.invokestatic 640, 3) := by decide +kernel
theorem d_J0_indexOf_7cf53_36 : decode cJ0_indexOf_7cf53 36 = .ok (.ireturn, 1) := by decide +kernel
def f_J0_indexOf_7cf53 (this : Nat) (a1 : Int32) (a2 : Int32) : sa_M Int32 :=
sa_gdS this (
sa_bnd (f_J0_isLatin1_aae02 this) fun v1 =>
sa_jn1 (fun (y2 : Int32) =>
sa_ret (y2 : Int32)) fun j36 =>
if v1 = 0 then
sa_fail
else
sa_bnd (sa_kval this) fun v3 =>
sa_bnd (f_J0_length_8abf5 this) fun v4 =>
sa_bnd (f_J1_indexOf_4cfef v3 a1 a2 v4) fun v5 =>
j36 v5)
set_option maxHeartbeats 1000000 in
set_option maxRecDepth 10000 in
theorem b_J0_indexOf_7cf53 {p : Program} {l : Launch} {e : Env} {s : State} {m : MethodId} {args : Array Value} {below : List Frame} {meth : Method} {c : Code} {D : va_G} {ad : Nat → Nat} {cA : FieldType → ClassId} {A : Nat → Prop} (this : Nat) (a1 : Int32) (a2 : Int32) (C : sa_C p s m args meth c cJ0_indexOf_7cf53 RJ0 "indexOf" 3 (some .int) D ad cA A) : sa_Sg p l e s m args below meth c 3 3 D ad cA A sa_eI 0 [(0, .ref (ad this)), (1, .int a1), (2, .int a2)] [] (f_J0_indexOf_7cf53 this a1 a2) := by
  unfold f_J0_indexOf_7cf53
  refine sa_gdSI ?_
  refine sa_aload_n C d_J0_indexOf_7cf53_0 rfl 0 rfl ?_
  refine sa_invK C (k_J0_isLatin1_aae02 this) q518 ds_J0_isLatin1_aae02 q118 rfl q516 q517 q515 (gd_J0_isLatin1_aae02 this) rfl rfl rfl (Nat.le_of_ble_eq_true rfl) (by decide) (by decide) d_J0_indexOf_7cf53_1 (fun v1 => ?_)
  refine sa_join1 36 (fun y2 => []) (fun y2 => [.int y2]) (fun y2 => ?_) (fun j36 hj36 => ?_)
  · exact sa_iret C d_J0_indexOf_7cf53_36
  refine sa_if_eq (tgt := 23) C d_J0_indexOf_7cf53_4 (by decide) ?_ ?_
  · exact sa_failI
  refine sa_aload_n C d_J0_indexOf_7cf53_7 rfl 0 rfl ?_
  refine sa_getKv C q2135 d_J0_indexOf_7cf53_8 (fun v3 => ?_)
  refine sa_iload_n C d_J0_indexOf_7cf53_11 rfl 1 rfl ?_
  refine sa_iload_n C d_J0_indexOf_7cf53_12 rfl 2 rfl ?_
  refine sa_aload_n C d_J0_indexOf_7cf53_13 rfl 0 rfl ?_
  refine sa_invK C (k_J0_length_8abf5 this) q203 ds_J0_length_8abf5 q118 rfl q201 q202 q519 (gd_J0_length_8abf5 this) rfl rfl rfl (Nat.le_of_ble_eq_true rfl) (by decide) (by decide) d_J0_indexOf_7cf53_14 (fun v4 => ?_)
  refine sa_invS C (k_J1_indexOf_4cfef v3 a1 a2 v4) q522 ds_J1_indexOf_4cfef q129 q521 q520 rfl rfl rfl (Nat.le_of_ble_eq_true rfl) (by decide) (by decide) d_J0_indexOf_7cf53_17 (fun v5 => ?_)
  refine sa_goto (tgt := 36) C d_J0_indexOf_7cf53_20 (by decide) ?_
  exact sa_sub [] rfl (hj36 _)
theorem k_J0_indexOf_7cf53 (this : Nat) (a1 : Int32) (a2 : Int32) : sa_Met 3 yJ0_indexOf_7cf53 cJ0_indexOf_7cf53 3 (some .int) (fun ad => [.ref (ad this), .int a1, .int a2]) sa_eI (f_J0_indexOf_7cf53 this a1 a2) := sa_mk (by decide) (fun ad => Nat.le_of_ble_eq_true rfl) (fun p l e s m args below meth c D ad cA A C => b_J0_indexOf_7cf53 this a1 a2 C)
theorem gd_J0_indexOf_7cf53 (this : Nat) (a1 : Int32) (a2 : Int32) (σ : sa_St) (r : Int32) (τ : sa_St) (h : f_J0_indexOf_7cf53 this a1 a2 σ = some (r, τ)) : 1000 ≤ this ∧ this < 1010 := sa_gdS_ok h
theorem d_J0_indexOf_0f7a4_0 : decode cJ0_indexOf_0f7a4 0 = .ok (.aload_n 0, 1) := by decide +kernel
theorem d_J0_indexOf_0f7a4_1 : decode cJ0_indexOf_0f7a4 1 = .ok (.iload_n 1, 1) := by decide +kernel
theorem d_J0_indexOf_0f7a4_2 : decode cJ0_indexOf_0f7a4 2 = .ok (.iconst 0, 1) := by decide +kernel
theorem d_J0_indexOf_0f7a4_3 : decode cJ0_indexOf_0f7a4 3 = .ok (.invokevirtual 633, 3) := by decide +kernel
theorem d_J0_indexOf_0f7a4_6 : decode cJ0_indexOf_0f7a4 6 = .ok (.ireturn, 1) := by decide +kernel
def f_J0_indexOf_0f7a4 (this : Nat) (a1 : Int32) : sa_M Int32 :=
sa_gdS this (
sa_bnd (f_J0_indexOf_7cf53 this a1 0) fun v1 =>
sa_ret (v1 : Int32))
set_option maxHeartbeats 1000000 in
set_option maxRecDepth 10000 in
theorem b_J0_indexOf_0f7a4 {p : Program} {l : Launch} {e : Env} {s : State} {m : MethodId} {args : Array Value} {below : List Frame} {meth : Method} {c : Code} {D : va_G} {ad : Nat → Nat} {cA : FieldType → ClassId} {A : Nat → Prop} (this : Nat) (a1 : Int32) (C : sa_C p s m args meth c cJ0_indexOf_0f7a4 RJ0 "indexOf" 2 (some .int) D ad cA A) : sa_Sg p l e s m args below meth c 2 4 D ad cA A sa_eI 0 [(0, .ref (ad this)), (1, .int a1)] [] (f_J0_indexOf_0f7a4 this a1) := by
  unfold f_J0_indexOf_0f7a4
  refine sa_gdSI ?_
  refine sa_aload_n C d_J0_indexOf_0f7a4_0 rfl 0 rfl ?_
  refine sa_iload_n C d_J0_indexOf_0f7a4_1 rfl 1 rfl ?_
  refine sa_iconst (v := 0) C d_J0_indexOf_0f7a4_2 (by decide) ?_
  refine sa_invK C (k_J0_indexOf_7cf53 this a1 0) q514 ds_J0_indexOf_7cf53 q118 rfl q512 q513 q511 (gd_J0_indexOf_7cf53 this a1 0) rfl rfl rfl (Nat.le_of_ble_eq_true rfl) (by decide) (by decide) d_J0_indexOf_0f7a4_3 (fun v1 => ?_)
  exact sa_iret C d_J0_indexOf_0f7a4_6
theorem k_J0_indexOf_0f7a4 (this : Nat) (a1 : Int32) : sa_Met 4 yJ0_indexOf_0f7a4 cJ0_indexOf_0f7a4 2 (some .int) (fun ad => [.ref (ad this), .int a1]) sa_eI (f_J0_indexOf_0f7a4 this a1) := sa_mk (by decide) (fun ad => Nat.le_of_ble_eq_true rfl) (fun p l e s m args below meth c D ad cA A C => b_J0_indexOf_0f7a4 this a1 C)
theorem gd_J0_indexOf_0f7a4 (this : Nat) (a1 : Int32) (σ : sa_St) (r : Int32) (τ : sa_St) (h : f_J0_indexOf_0f7a4 this a1 σ = some (r, τ)) : 1000 ≤ this ∧ this < 1010 := sa_gdS_ok h
