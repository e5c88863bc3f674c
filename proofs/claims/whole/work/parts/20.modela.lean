theorem d_X12_thrown_0 : decode cX12_thrown 0 = .ok (.aload_n 0, 1) := by decide +kernel
theorem d_X12_thrown_1 : decode cX12_thrown 1 = .ok (.getfield 127, 3) := by decide +kernel
theorem d_X12_thrown_4 : decode cX12_thrown 4 = .ok (.ireturn, 1) := by decide +kernel
def f_X12_thrown (this : Nat) : sa_M Int32 :=
sa_gd 12 this (
sa_bnd (sa_rdI 12 this 0) fun v1 =>
sa_ret (v1 : Int32))
set_option maxHeartbeats 1000000 in
set_option maxRecDepth 10000 in
theorem b_X12_thrown {p : Program} {l : Launch} {e : Env} {s : State} {m : MethodId} {args : Array Value} {below : List Frame} {meth : Method} {c : Code} {D : va_G} {ad : Nat → Nat} {cA : FieldType → ClassId} {A : Nat → Prop} (this : Nat) (C : sa_C p s m args meth c cX12_thrown RX12 "thrown" 1 (some .int) D ad cA A) : sa_Sg p l e s m args below meth c 1 1 D ad cA A sa_eI 0 [(0, .ref (ad this))] [] (f_X12_thrown this) := by
  unfold f_X12_thrown
  refine sa_gdI ?_
  refine sa_aload_n C d_X12_thrown_0 rfl 0 rfl ?_
  refine sa_getI C fd_X12_127 d_X12_thrown_1 (fun v1 => ?_)
  exact sa_iret C d_X12_thrown_4
theorem k_X12_thrown (this : Nat) : sa_Met 1 yX12_thrown cX12_thrown 1 (some .int) (fun ad => [.ref (ad this)]) sa_eI (f_X12_thrown this) := sa_mk (by decide) (fun ad => Nat.le_of_ble_eq_true rfl) (fun p l e s m args below meth c D ad cA A C => b_X12_thrown this C)
theorem gd_X12_thrown (this : Nat) (σ : sa_St) (r : Int32) (τ : sa_St) (h : f_X12_thrown this σ = some (r, τ)) : sa_sh this = some (.inl 12) := sa_gd_ok h
theorem d_X12_isIn_0 : decode cX12_isIn 0 = .ok (.lload_n 0, 1) := by decide +kernel
theorem d_X12_isIn_1 : decode cX12_isIn 1 = .ok (.lload_n 2, 1) := by decide +kernel
theorem d_X12_isIn_2 : decode cX12_isIn 2 = .ok (.lcmp, 1) := by decide +kernel
theorem d_X12_isIn_3 : decode cX12_isIn 3 = .ok (.ifCond .lt 14, 3) := by decide +kernel
theorem d_X12_isIn_6 : decode cX12_isIn 6 = .ok (.lload_n 0, 1) := by decide +kernel
theorem d_X12_isIn_7 : decode cX12_isIn 7 = .ok (.lload 4, 2) := by decide +kernel
theorem d_X12_isIn_9 : decode cX12_isIn 9 = .ok (.lcmp, 1) := by decide +kernel
theorem d_X12_isIn_10 : decode cX12_isIn 10 = .ok (.ifCond .gt 7, 3) := by decide +kernel
theorem d_X12_isIn_13 : decode cX12_isIn 13 = .ok (.iconst 1, 1) := by decide +kernel
theorem d_X12_isIn_14 : decode cX12_isIn 14 = .ok (.goto 4, 3) := by decide +kernel
theorem d_X12_isIn_17 : decode cX12_isIn 17 = .ok (.iconst 0, 1) := by decide +kernel
theorem d_X12_isIn_18 : decode cX12_isIn 18 = .ok (.ireturn, 1) := by decide +kernel
def f_X12_isIn (a1 : Int64) (a2 : Int64) (a3 : Int64) : sa_M Int32 :=
sa_jn1 (fun (y1 : Int32) =>
sa_retZ y1) fun j18 =>
sa_jn0 (j18 0) fun j17 =>
if (lg_cmp a1 a2) < 0 then
j17
else
if 0 < (lg_cmp a1 a3) then
j17
else
j18 1
set_option maxHeartbeats 1000000 in
set_option maxRecDepth 10000 in
theorem b_X12_isIn {p : Program} {l : Launch} {e : Env} {s : State} {m : MethodId} {args : Array Value} {below : List Frame} {meth : Method} {c : Code} {D : va_G} {ad : Nat → Nat} {cA : FieldType → ClassId} {A : Nat → Prop} (a1 : Int64) (a2 : Int64) (a3 : Int64) (C : sa_C p s m args meth c cX12_isIn RX12 "isIn" 6 (some .boolean) D ad cA A) : sa_Sg p l e s m args below meth c 6 1 D ad cA A sa_eI 0 [(0, .long a1), (2, .long a2), (4, .long a3)] [] (f_X12_isIn a1 a2 a3) := by
  unfold f_X12_isIn
  refine sa_lload_n C d_X12_isIn_0 rfl 0 rfl ?_
  refine sa_lload_n C d_X12_isIn_1 rfl 1 rfl ?_
  refine sa_lcmp C d_X12_isIn_2 ?_
  refine sa_join1 18 (fun y1 => []) (fun y1 => [.int y1]) (fun y1 => ?_) (fun j18 hj18 => ?_)
  · exact sa_zret C d_X12_isIn_18
  refine sa_join0 17 ([]) ([]) (?_) (fun j17 hj17 => ?_)
  · refine sa_iconst (v := 0) C d_X12_isIn_17 (by decide) ?_
    exact sa_sub [] rfl (hj18 _)
  refine sa_if_lt (tgt := 17) C d_X12_isIn_3 (by decide) ?_ ?_
  · exact sa_sub [] rfl (hj17)
  refine sa_lload_n C d_X12_isIn_6 rfl 0 rfl ?_
  refine sa_lload C d_X12_isIn_7 2 rfl ?_
  refine sa_lcmp C d_X12_isIn_9 ?_
  refine sa_if_gt (tgt := 17) C d_X12_isIn_10 (by decide) ?_ ?_
  · exact sa_sub [] rfl (hj17)
  refine sa_iconst (v := 1) C d_X12_isIn_13 (by decide) ?_
  refine sa_goto (tgt := 18) C d_X12_isIn_14 (by decide) ?_
  exact sa_sub [] rfl (hj18 _)
theorem k_X12_isIn (a1 : Int64) (a2 : Int64) (a3 : Int64) : sa_Met 1 yX12_isIn cX12_isIn 6 (some .boolean) (fun ad => [.long a1, .long a2, .long a3]) sa_eI (f_X12_isIn a1 a2 a3) := sa_mk (by decide) (fun ad => Nat.le_of_ble_eq_true rfl) (fun p l e s m args below meth c D ad cA A C => b_X12_isIn a1 a2 a3 C)
theorem d_X12_has_0 : decode cX12_has 0 = .ok (.iload_n 0, 1) := by decide +kernel
theorem d_X12_has_1 : decode cX12_has 1 = .ok (.iload_n 1, 1) := by decide +kernel
theorem d_X12_has_2 : decode cX12_has 2 = .ok (.ishr, 1) := by decide +kernel
theorem d_X12_has_3 : decode cX12_has 3 = .ok (.iconst 1, 1) := by decide +kernel
theorem d_X12_has_4 : decode cX12_has 4 = .ok (.iand, 1) := by decide +kernel
theorem d_X12_has_5 : decode cX12_has 5 = .ok (.iconst 1, 1) := by decide +kernel
theorem d_X12_has_6 : decode cX12_has 6 = .ok (.if_icmp .ne 7, 3) := by decide +kernel
theorem d_X12_has_9 : decode cX12_has 9 = .ok (.iconst 1, 1) := by decide +kernel
theorem d_X12_has_10 : decode cX12_has 10 = .ok (.goto 4, 3) := by decide +kernel
theorem d_X12_has_13 : decode cX12_has 13 = .ok (.iconst 0, 1) := by decide +kernel
theorem d_X12_has_14 : decode cX12_has 14 = .ok (.ireturn, 1) := by decide +kernel
def f_X12_has (a1 : Int32) (a2 : Int32) : sa_M Int32 :=
sa_jn1 (fun (y1 : Int32) =>
sa_retZ y1) fun j14 =>
if ¬ ((a1 >>> (a2 &&& 31)) &&& 1) = 1 then
j14 0
else
j14 1
set_option maxHeartbeats 1000000 in
set_option maxRecDepth 10000 in
theorem b_X12_has {p : Program} {l : Launch} {e : Env} {s : State} {m : MethodId} {args : Array Value} {below : List Frame} {meth : Method} {c : Code} {D : va_G} {ad : Nat → Nat} {cA : FieldType → ClassId} {A : Nat → Prop} (a1 : Int32) (a2 : Int32) (C : sa_C p s m args meth c cX12_has RX12 "has" 2 (some .boolean) D ad cA A) : sa_Sg p l e s m args below meth c 2 1 D ad cA A sa_eI 0 [(0, .int a1), (1, .int a2)] [] (f_X12_has a1 a2) := by
  unfold f_X12_has
  refine sa_iload_n C d_X12_has_0 rfl 0 rfl ?_
  refine sa_iload_n C d_X12_has_1 rfl 1 rfl ?_
  refine sa_ishr C d_X12_has_2 ?_
  refine sa_iconst (v := 1) C d_X12_has_3 (by decide) ?_
  refine sa_iand C d_X12_has_4 ?_
  refine sa_iconst (v := 1) C d_X12_has_5 (by decide) ?_
  refine sa_join1 14 (fun y1 => []) (fun y1 => [.int y1]) (fun y1 => ?_) (fun j14 hj14 => ?_)
  · exact sa_zret C d_X12_has_14
  refine sa_icmp_ne (tgt := 13) C d_X12_has_6 (by decide) ?_ ?_
  · refine sa_iconst (v := 0) C d_X12_has_13 (by decide) ?_
    exact sa_sub [] rfl (hj14 _)
  refine sa_iconst (v := 1) C d_X12_has_9 (by decide) ?_
  refine sa_goto (tgt := 14) C d_X12_has_10 (by decide) ?_
  exact sa_sub [] rfl (hj14 _)
theorem k_X12_has (a1 : Int32) (a2 : Int32) : sa_Met 1 yX12_has cX12_has 2 (some .boolean) (fun ad => [.int a1, .int a2]) sa_eI (f_X12_has a1 a2) := sa_mk (by decide) (fun ad => Nat.le_of_ble_eq_true rfl) (fun p l e s m args below meth c D ad cA A C => b_X12_has a1 a2 C)
theorem d_X12_isAmong_0 : decode cX12_isAmong 0 = .ok (.iconst 0, 1) := by decide +kernel
theorem d_X12_isAmong_1 : decode cX12_isAmong 1 = .ok (.istore_n 2, 1) := by decide +kernel
theorem d_X12_isAmong_2 : decode cX12_isAmong 2 = .ok (.iload_n 2, 1) := by decide +kernel
theorem d_X12_isAmong_3 : decode cX12_isAmong 3 = .ok (.aload_n 0, 1) := by decide +kernel
theorem d_X12_isAmong_4 : decode cX12_isAmong 4 = .ok (.invokevirtual 130, 3) := by decide +kernel
theorem d_X12_isAmong_7 : decode cX12_isAmong 7 = .ok (.if_icmp .ge 20, 3) := by decide +kernel
theorem d_X12_isAmong_10 : decode cX12_isAmong 10 = .ok (.aload_n 0, 1) := by decide +kernel
theorem d_X12_isAmong_11 : decode cX12_isAmong 11 = .ok (.iload_n 2, 1) := by decide +kernel
theorem d_X12_isAmong_12 : decode cX12_isAmong 12 = .ok (.invokevirtual 136, 3) := by decide +kernel
theorem d_X12_isAmong_15 : decode cX12_isAmong 15 = .ok (.iload_n 1, 1) := by decide +kernel
theorem d_X12_isAmong_16 : decode cX12_isAmong 16 = .ok (.if_icmp .ne 5, 3) := by decide +kernel
theorem d_X12_isAmong_19 : decode cX12_isAmong 19 = .ok (.iconst 1, 1) := by decide +kernel
theorem d_X12_isAmong_20 : decode cX12_isAmong 20 = .ok (.ireturn, 1) := by decide +kernel
theorem d_X12_isAmong_21 : decode cX12_isAmong 21 = .ok (.iinc 2 1, 3) := by decide +kernel
theorem d_X12_isAmong_24 : decode cX12_isAmong 24 = .ok (.goto (-22), 3) := by decide +kernel
theorem d_X12_isAmong_27 : decode cX12_isAmong 27 = .ok (.iconst 0, 1) := by decide +kernel
theorem d_X12_isAmong_28 : decode cX12_isAmong 28 = .ok (.ireturn, 1) := by decide +kernel
def f_X12_isAmong (a1 : Nat) (a2 : Int32) : sa_M Int32 :=
sa_let (0 : Int32) fun x1 =>
sa_wh1 (fun j2 (x2 : Int32) =>
sa_bnd (f_J0_length_8abf5 a1) fun v3 =>
if v3 ≤ x2 then
sa_retZ 0
else
sa_bnd (f_J0_charAt_5068e a1 x2) fun v4 =>
if ¬ v4 = a2 then
sa_let ((x2 + 1) : Int32) fun x5 =>
j2 x5
else
sa_retZ 1) sa_F x1
set_option maxHeartbeats 1000000 in
set_option maxRecDepth 10000 in
theorem b_X12_isAmong {p : Program} {l : Launch} {e : Env} {s : State} {m : MethodId} {args : Array Value} {below : List Frame} {meth : Method} {c : Code} {D : va_G} {ad : Nat → Nat} {cA : FieldType → ClassId} {A : Nat → Prop} (a1 : Nat) (a2 : Int32) (C : sa_C p s m args meth c cX12_isAmong RX12 "isAmong" 3 (some .boolean) D ad cA A) : sa_Sg p l e s m args below meth c 3 5 D ad cA A sa_eI 0 [(0, .ref (ad a1)), (1, .int a2)] [] (f_X12_isAmong a1 a2) := by
  unfold f_X12_isAmong
  refine sa_iconst (v := 0) C d_X12_isAmong_0 (by decide) ?_
  refine sa_topi (fun x1 => ?_)
  refine sa_istore_n (lv' := [(2, .int x1), (0, .ref (ad a1)), (1, .int a2)]) C d_X12_isAmong_1 rfl (by decide) rfl ?_
  refine sa_sub [1, 2, 0] rfl (sa_loop1 (fun x2 => [(0, .ref (ad a1)), (1, .int a2), (2, .int x2)]) (fun x2 => []) (fun j2 hj2 x2 => ?_) _ _)
  refine sa_iload_n C d_X12_isAmong_2 rfl 2 rfl ?_
  refine sa_aload_n C d_X12_isAmong_3 rfl 0 rfl ?_
  refine sa_invK C (k_J0_length_8abf5 a1) q203 ds_J0_length_8abf5 q118 rfl q201 q202 q1663 (gd_J0_length_8abf5 a1) rfl rfl rfl (Nat.le_of_ble_eq_true rfl) (by decide) (by decide) d_X12_isAmong_4 (fun v3 => ?_)
  refine sa_icmp_ge (tgt := 27) C d_X12_isAmong_7 (by decide) ?_ ?_
  · refine sa_iconst (v := 0) C d_X12_isAmong_27 (by decide) ?_
    exact sa_zret C d_X12_isAmong_28
  refine sa_aload_n C d_X12_isAmong_10 rfl 0 rfl ?_
  refine sa_iload_n C d_X12_isAmong_11 rfl 2 rfl ?_
  refine sa_invK C (k_J0_charAt_5068e a1 x2) q604 ds_J0_charAt_5068e q118 rfl q602 q603 q1670 (gd_J0_charAt_5068e a1 x2) rfl rfl rfl (Nat.le_of_ble_eq_true rfl) (by decide) (by decide) d_X12_isAmong_12 (fun v4 => ?_)
  refine sa_iload_n C d_X12_isAmong_15 rfl 1 rfl ?_
  refine sa_icmp_ne (tgt := 21) C d_X12_isAmong_16 (by decide) ?_ ?_
  · refine sa_iinc C (fun zz => [(2, .int zz), (0, .ref (ad a1)), (1, .int a2)]) d_X12_isAmong_21 2 rfl rfl (by decide) (fun _ => rfl) (fun x5 => ?_)
    refine sa_goto (tgt := 2) C d_X12_isAmong_24 (by decide) ?_
    exact sa_sub [1, 2, 0] rfl (hj2 _)
  refine sa_iconst (v := 1) C d_X12_isAmong_19 (by decide) ?_
  exact sa_zret C d_X12_isAmong_20
theorem k_X12_isAmong (a1 : Nat) (a2 : Int32) : sa_Met 5 yX12_isAmong cX12_isAmong 3 (some .boolean) (fun ad => [.ref (ad a1), .int a2]) sa_eI (f_X12_isAmong a1 a2) := sa_mk (by decide) (fun ad => Nat.le_of_ble_eq_true rfl) (fun p l e s m args below meth c D ad cA A C => b_X12_isAmong a1 a2 C)
theorem d_X12_bytesIn_0 : decode cX12_bytesIn 0 = .ok (.iconst 0, 1) := by decide +kernel
theorem d_X12_bytesIn_1 : decode cX12_bytesIn 1 = .ok (.istore_n 1, 1) := by decide +kernel
theorem d_X12_bytesIn_2 : decode cX12_bytesIn 2 = .ok (.bipush 24, 2) := by decide +kernel
theorem d_X12_bytesIn_4 : decode cX12_bytesIn 4 = .ok (.istore_n 2, 1) := by decide +kernel
theorem d_X12_bytesIn_5 : decode cX12_bytesIn 5 = .ok (.iload_n 2, 1) := by decide +kernel
theorem d_X12_bytesIn_6 : decode cX12_bytesIn 6 = .ok (.ifCond .lt 27, 3) := by decide +kernel
theorem d_X12_bytesIn_9 : decode cX12_bytesIn 9 = .ok (.iload_n 1, 1) := by decide +kernel
theorem d_X12_bytesIn_10 : decode cX12_bytesIn 10 = .ok (.iload_n 0, 1) := by decide +kernel
theorem d_X12_bytesIn_11 : decode cX12_bytesIn 11 = .ok (.iload_n 2, 1) := by decide +kernel
theorem d_X12_bytesIn_12 : decode cX12_bytesIn 12 = .ok (.ishr, 1) := by decide +kernel
theorem d_X12_bytesIn_13 : decode cX12_bytesIn 13 = .ok (.sipush 255, 3) := by decide +kernel
theorem d_X12_bytesIn_16 : decode cX12_bytesIn 16 = .ok (.iand, 1) := by decide +kernel
theorem d_X12_bytesIn_17 : decode cX12_bytesIn 17 = .ok (.ifCond .eq 7, 3) := by decide +kernel
theorem d_X12_bytesIn_20 : decode cX12_bytesIn 20 = .ok (.iconst 1, 1) := by decide +kernel
theorem d_X12_bytesIn_21 : decode cX12_bytesIn 21 = .ok (.goto 4, 3) := by decide +kernel
theorem d_X12_bytesIn_24 : decode cX12_bytesIn 24 = .ok (.iconst 0, 1) := by decide +kernel
theorem d_X12_bytesIn_25 : decode cX12_bytesIn 25 = .ok (.iadd, 1) := by decide +kernel
theorem d_X12_bytesIn_26 : decode cX12_bytesIn 26 = .ok (.istore_n 1, 1) := by decide +kernel
theorem d_X12_bytesIn_27 : decode cX12_bytesIn 27 = .ok (.iinc 2 (-8), 3) := by decide +kernel
theorem d_X12_bytesIn_30 : decode cX12_bytesIn 30 = .ok (.goto (-25), 3) := by decide +kernel
theorem d_X12_bytesIn_33 : decode cX12_bytesIn 33 = .ok (.iload_n 1, 1) := by decide +kernel
theorem d_X12_bytesIn_34 : decode cX12_bytesIn 34 = .ok (.ireturn, 1) := by decide +kernel
def f_X12_bytesIn (a1 : Int32) : sa_M Int32 :=
sa_let (0 : Int32) fun x1 =>
sa_let (24 : Int32) fun x2 =>
sa_wh2 (fun j5 (x3 : Int32) (x4 : Int32) =>
if x4 < 0 then
sa_ret (x3 : Int32)
else
sa_jn1 (fun (y5 : Int32) =>
sa_let ((x3 + y5) : Int32) fun x6 =>
sa_let ((x4 + (-8)) : Int32) fun x7 =>
j5 x6 x7) fun j25 =>
if ((a1 >>> (x4 &&& 31)) &&& 255) = 0 then
j25 0
else
j25 1) sa_F x1 x2
set_option maxHeartbeats 1000000 in
set_option maxRecDepth 10000 in
theorem b_X12_bytesIn {p : Program} {l : Launch} {e : Env} {s : State} {m : MethodId} {args : Array Value} {below : List Frame} {meth : Method} {c : Code} {D : va_G} {ad : Nat → Nat} {cA : FieldType → ClassId} {A : Nat → Prop} (a1 : Int32) (C : sa_C p s m args meth c cX12_bytesIn RX12 "bytesIn" 3 (some .int) D ad cA A) : sa_Sg p l e s m args below meth c 3 1 D ad cA A sa_eI 0 [(0, .int a1)] [] (f_X12_bytesIn a1) := by
  unfold f_X12_bytesIn
  refine sa_iconst (v := 0) C d_X12_bytesIn_0 (by decide) ?_
  refine sa_topi (fun x1 => ?_)
  refine sa_istore_n (lv' := [(1, .int x1), (0, .int a1)]) C d_X12_bytesIn_1 rfl (by decide) rfl ?_
  refine sa_bipush (v := 24) C d_X12_bytesIn_2 (by decide) ?_
  refine sa_topi (fun x2 => ?_)
  refine sa_istore_n (lv' := [(2, .int x2), (1, .int x1), (0, .int a1)]) C d_X12_bytesIn_4 rfl (by decide) rfl ?_
  refine sa_sub [2, 1, 0] rfl (sa_loop2 (fun x3 x4 => [(0, .int a1), (1, .int x3), (2, .int x4)]) (fun x3 x4 => []) (fun j5 hj5 x3 x4 => ?_) _ _ _)
  refine sa_iload_n C d_X12_bytesIn_5 rfl 2 rfl ?_
  refine sa_if_lt (tgt := 33) C d_X12_bytesIn_6 (by decide) ?_ ?_
  · refine sa_iload_n C d_X12_bytesIn_33 rfl 1 rfl ?_
    exact sa_iret C d_X12_bytesIn_34
  refine sa_iload_n C d_X12_bytesIn_9 rfl 1 rfl ?_
  refine sa_iload_n C d_X12_bytesIn_10 rfl 0 rfl ?_
  refine sa_iload_n C d_X12_bytesIn_11 rfl 2 rfl ?_
  refine sa_ishr C d_X12_bytesIn_12 ?_
  refine sa_sipush (v := 255) C d_X12_bytesIn_13 (by decide) ?_
  refine sa_iand C d_X12_bytesIn_16 ?_
  refine sa_join1 25 (fun y5 => [(0, .int a1), (2, .int x4)]) (fun y5 => [.int y5, .int x3]) (fun y5 => ?_) (fun j25 hj25 => ?_)
  · refine sa_iadd C d_X12_bytesIn_25 ?_
    refine sa_topi (fun x6 => ?_)
    refine sa_istore_n (lv' := [(1, .int x6), (0, .int a1), (2, .int x4)]) C d_X12_bytesIn_26 rfl (by decide) rfl ?_
    refine sa_iinc C (fun zz => [(2, .int zz), (1, .int x6), (0, .int a1)]) d_X12_bytesIn_27 2 rfl rfl (by decide) (fun _ => rfl) (fun x7 => ?_)
    refine sa_goto (tgt := 5) C d_X12_bytesIn_30 (by decide) ?_
    exact sa_sub [2, 1, 0] rfl (hj5 _ _)
  refine sa_if_eq (tgt := 24) C d_X12_bytesIn_17 (by decide) ?_ ?_
  · refine sa_iconst (v := 0) C d_X12_bytesIn_24 (by decide) ?_
    exact sa_sub [0, 2] rfl (hj25 _)
  refine sa_iconst (v := 1) C d_X12_bytesIn_20 (by decide) ?_
  refine sa_goto (tgt := 25) C d_X12_bytesIn_21 (by decide) ?_
  exact sa_sub [0, 2] rfl (hj25 _)
theorem k_X12_bytesIn (a1 : Int32) : sa_Met 1 yX12_bytesIn cX12_bytesIn 3 (some .int) (fun ad => [.int a1]) sa_eI (f_X12_bytesIn a1) := sa_mk (by decide) (fun ad => Nat.le_of_ble_eq_true rfl) (fun p l e s m args below meth c D ad cA A C => b_X12_bytesIn a1 C)
theorem d_X12_put_0 : decode cX12_put 0 = .ok (.bipush 24, 2) := by decide +kernel
theorem d_X12_put_2 : decode cX12_put 2 = .ok (.istore_n 2, 1) := by decide +kernel
theorem d_X12_put_3 : decode cX12_put 3 = .ok (.iload_n 2, 1) := by decide +kernel
theorem d_X12_put_4 : decode cX12_put 4 = .ok (.ifCond .lt 45, 3) := by decide +kernel
theorem d_X12_put_7 : decode cX12_put 7 = .ok (.iload_n 1, 1) := by decide +kernel
theorem d_X12_put_8 : decode cX12_put 8 = .ok (.iload_n 2, 1) := by decide +kernel
theorem d_X12_put_9 : decode cX12_put 9 = .ok (.ishr, 1) := by decide +kernel
theorem d_X12_put_10 : decode cX12_put 10 = .ok (.sipush 255, 3) := by decide +kernel
theorem d_X12_put_13 : decode cX12_put 13 = .ok (.iand, 1) := by decide +kernel
theorem d_X12_put_14 : decode cX12_put 14 = .ok (.ifCond .ne 6, 3) := by decide +kernel
theorem d_X12_put_17 : decode cX12_put 17 = .ok (.goto 26, 3) := by decide +kernel
theorem d_X12_put_20 : decode cX12_put 20 = .ok (.aload_n 0, 1) := by decide +kernel
theorem d_X12_put_21 : decode cX12_put 21 = .ok (.getfield 9, 3) := by decide +kernel
theorem d_X12_put_24 : decode cX12_put 24 = .ok (.aload_n 0, 1) := by decide +kernel
theorem d_X12_put_25 : decode cX12_put 25 = .ok (.getfield 140, 3) := by decide +kernel
theorem d_X12_put_28 : decode cX12_put 28 = .ok (.iload_n 1, 1) := by decide +kernel
theorem d_X12_put_29 : decode cX12_put 29 = .ok (.iload_n 2, 1) := by decide +kernel
theorem d_X12_put_30 : decode cX12_put 30 = .ok (.ishr, 1) := by decide +kernel
theorem d_X12_put_31 : decode cX12_put 31 = .ok (.i2b, 1) := by decide +kernel
theorem d_X12_put_32 : decode cX12_put 32 = .ok (.bastore, 1) := by decide +kernel
theorem d_X12_put_33 : decode cX12_put 33 = .ok (.aload_n 0, 1) := by decide +kernel
theorem d_X12_put_34 : decode cX12_put 34 = .ok (.dup, 1) := by decide +kernel
theorem d_X12_put_35 : decode cX12_put 35 = .ok (.getfield 140, 3) := by decide +kernel
theorem d_X12_put_38 : decode cX12_put 38 = .ok (.iconst 1, 1) := by decide +kernel
theorem d_X12_put_39 : decode cX12_put 39 = .ok (.iadd, 1) := by decide +kernel
theorem d_X12_put_40 : decode cX12_put 40 = .ok (.putfield 140, 3) := by decide +kernel
theorem d_X12_put_43 : decode cX12_put 43 = .ok (.iinc 2 (-8), 3) := by decide +kernel
theorem d_X12_put_46 : decode cX12_put 46 = .ok (.goto (-43), 3) := by decide +kernel
theorem d_X12_put_49 : decode cX12_put 49 = .ok (.return_, 1) := by decide +kernel
def f_X12_put (this : Nat) (a1 : Int32) : sa_M Unit :=
sa_gd 12 this (
sa_let (24 : Int32) fun x1 =>
sa_wh1 (fun j3 (x2 : Int32) =>
if x2 < 0 then
sa_ret ()
else
sa_jn0 (sa_let ((x2 + (-8)) : Int32) fun x3 =>
j3 x3) fun j43 =>
if ¬ ((a1 >>> (x2 &&& 31)) &&& 255) = 0 then
sa_bnd (sa_rdR 12 this 1) fun v4 =>
sa_bnd (sa_rdI 12 this 6) fun v5 =>
sa_bnd (sa_stB v4 v5 ((a1 >>> (x2 &&& 31)).toInt8.toInt32)) fun _ =>
sa_bnd (sa_rdI 12 this 6) fun v6 =>
sa_bnd (sa_wrI 12 this 6 (v6 + 1)) fun _ =>
j43
else
j43) sa_F x1)
set_option maxHeartbeats 1000000 in
set_option maxRecDepth 10000 in
theorem b_X12_put {p : Program} {l : Launch} {e : Env} {s : State} {m : MethodId} {args : Array Value} {below : List Frame} {meth : Method} {c : Code} {D : va_G} {ad : Nat → Nat} {cA : FieldType → ClassId} {A : Nat → Prop} (this : Nat) (a1 : Int32) (C : sa_C p s m args meth c cX12_put RX12 "put" 3 none D ad cA A) : sa_Sg p l e s m args below meth c 3 1 D ad cA A sa_eV 0 [(0, .ref (ad this)), (1, .int a1)] [] (f_X12_put this a1) := by
  unfold f_X12_put
  refine sa_gdI ?_
  refine sa_bipush (v := 24) C d_X12_put_0 (by decide) ?_
  refine sa_topi (fun x1 => ?_)
  refine sa_istore_n (lv' := [(2, .int x1), (0, .ref (ad this)), (1, .int a1)]) C d_X12_put_2 rfl (by decide) rfl ?_
  refine sa_sub [1, 2, 0] rfl (sa_loop1 (fun x2 => [(0, .ref (ad this)), (1, .int a1), (2, .int x2)]) (fun x2 => []) (fun j3 hj3 x2 => ?_) _ _)
  refine sa_iload_n C d_X12_put_3 rfl 2 rfl ?_
  refine sa_if_lt (tgt := 49) C d_X12_put_4 (by decide) ?_ ?_
  · exact sa_vret C d_X12_put_49
  refine sa_iload_n C d_X12_put_7 rfl 1 rfl ?_
  refine sa_iload_n C d_X12_put_8 rfl 2 rfl ?_
  refine sa_ishr C d_X12_put_9 ?_
  refine sa_sipush (v := 255) C d_X12_put_10 (by decide) ?_
  refine sa_iand C d_X12_put_13 ?_
  refine sa_join0 43 ([(0, .ref (ad this)), (1, .int a1), (2, .int x2)]) ([]) (?_) (fun j43 hj43 => ?_)
  · refine sa_iinc C (fun zz => [(2, .int zz), (0, .ref (ad this)), (1, .int a1)]) d_X12_put_43 2 rfl rfl (by decide) (fun _ => rfl) (fun x3 => ?_)
    refine sa_goto (tgt := 3) C d_X12_put_46 (by decide) ?_
    exact sa_sub [1, 2, 0] rfl (hj3 _)
  refine sa_if_ne (tgt := 20) C d_X12_put_14 (by decide) ?_ ?_
  · refine sa_aload_n C d_X12_put_20 rfl 0 rfl ?_
    refine sa_getR C fd_X12_9 rfl d_X12_put_21 (fun v4 => ?_)
    refine sa_aload_n C d_X12_put_24 rfl 0 rfl ?_
    refine sa_getI C fd_X12_140 d_X12_put_25 (fun v5 => ?_)
    refine sa_iload_n C d_X12_put_28 rfl 1 rfl ?_
    refine sa_iload_n C d_X12_put_29 rfl 2 rfl ?_
    refine sa_ishr C d_X12_put_30 ?_
    refine sa_i2b C d_X12_put_31 ?_
    refine sa_bast C d_X12_put_32 ?_
    refine sa_aload_n C d_X12_put_33 rfl 0 rfl ?_
    refine sa_dup C d_X12_put_34 rfl ?_
    refine sa_getI C fd_X12_140 d_X12_put_35 (fun v6 => ?_)
    refine sa_iconst (v := 1) C d_X12_put_38 (by decide) ?_
    refine sa_iadd C d_X12_put_39 ?_
    refine sa_putI C fd_X12_140 d_X12_put_40 ?_
    exact sa_sub [0, 1, 2] rfl (hj43)
  refine sa_goto (tgt := 43) C d_X12_put_17 (by decide) ?_
  exact sa_sub [0, 1, 2] rfl (hj43)
theorem k_X12_put (this : Nat) (a1 : Int32) : sa_Met 1 yX12_put cX12_put 3 none (fun ad => [.ref (ad this), .int a1]) sa_eV (f_X12_put this a1) := sa_mk (by decide) (fun ad => Nat.le_of_ble_eq_true rfl) (fun p l e s m args below meth c D ad cA A C => b_X12_put this a1 C)
theorem gd_X12_put (this : Nat) (a1 : Int32) (σ : sa_St) (r : Unit) (τ : sa_St) (h : f_X12_put this a1 σ = some (r, τ)) : sa_sh this = some (.inl 12) := sa_gd_ok h
theorem d_X12_feed_0 : decode cX12_feed 0 = .ok (.aload_n 0, 1) := by decide +kernel
theorem d_X12_feed_1 : decode cX12_feed 1 = .ok (.iconst 0, 1) := by decide +kernel
theorem d_X12_feed_2 : decode cX12_feed 2 = .ok (.putfield 127, 3) := by decide +kernel
theorem d_X12_feed_5 : decode cX12_feed 5 = .ok (.aload_n 0, 1) := by decide +kernel
theorem d_X12_feed_6 : decode cX12_feed 6 = .ok (.getfield 140, 3) := by decide +kernel
theorem d_X12_feed_9 : decode cX12_feed 9 = .ok (.iload_n 1, 1) := by decide +kernel
theorem d_X12_feed_10 : decode cX12_feed 10 = .ok (.invokestatic 142, 3) := by decide +kernel
theorem d_X12_feed_13 : decode cX12_feed 13 = .ok (.iadd, 1) := by decide +kernel
theorem d_X12_feed_14 : decode cX12_feed 14 = .ok (.iload_n 2, 1) := by decide +kernel
theorem d_X12_feed_15 : decode cX12_feed 15 = .ok (.invokestatic 142, 3) := by decide +kernel
theorem d_X12_feed_18 : decode cX12_feed 18 = .ok (.iadd, 1) := by decide +kernel
theorem d_X12_feed_19 : decode cX12_feed 19 = .ok (.iload_n 3, 1) := by decide +kernel
theorem d_X12_feed_20 : decode cX12_feed 20 = .ok (.invokestatic 142, 3) := by decide +kernel
theorem d_X12_feed_23 : decode cX12_feed 23 = .ok (.iadd, 1) := by decide +kernel
theorem d_X12_feed_24 : decode cX12_feed 24 = .ok (.iload 4, 2) := by decide +kernel
theorem d_X12_feed_26 : decode cX12_feed 26 = .ok (.invokestatic 142, 3) := by decide +kernel
theorem d_X12_feed_29 : decode cX12_feed 29 = .ok (.iadd, 1) := by decide +kernel
theorem d_X12_feed_30 : decode cX12_feed 30 = .ok (.iload 5, 2) := by decide +kernel
theorem d_X12_feed_32 : decode cX12_feed 32 = .ok (.invokestatic 142, 3) := by decide +kernel
theorem d_X12_feed_35 : decode cX12_feed 35 = .ok (.iadd, 1) := by decide +kernel
theorem d_X12_feed_36 : decode cX12_feed 36 = .ok (.sipush 240, 3) := by decide +kernel
theorem d_X12_feed_39 : decode cX12_feed 39 = .ok (.if_icmp .le 5, 3) := by decide +kernel
theorem d_X12_feed_42 : decode cX12_feed 42 = .ok (.iconst (-1), 1) := by decide +kernel
theorem d_X12_feed_43 : decode cX12_feed 43 = .ok (.ireturn, 1) := by decide +kernel
theorem d_X12_feed_44 : decode cX12_feed 44 = .ok (.aload_n 0, 1) := by decide +kernel
theorem d_X12_feed_45 : decode cX12_feed 45 = .ok (.iload_n 1, 1) := by decide +kernel
theorem d_X12_feed_46 : decode cX12_feed 46 = .ok (.invokevirtual 146, 3) := by decide +kernel
theorem d_X12_feed_49 : decode cX12_feed 49 = .ok (.aload_n 0, 1) := by decide +kernel
theorem d_X12_feed_50 : decode cX12_feed 50 = .ok (.iload_n 2, 1) := by decide +kernel
theorem d_X12_feed_51 : decode cX12_feed 51 = .ok (.invokevirtual 146, 3) := by decide +kernel
theorem d_X12_feed_54 : decode cX12_feed 54 = .ok (.aload_n 0, 1) := by decide +kernel
theorem d_X12_feed_55 : decode cX12_feed 55 = .ok (.iload_n 3, 1) := by decide +kernel
theorem d_X12_feed_56 : decode cX12_feed 56 = .ok (.invokevirtual 146, 3) := by decide +kernel
theorem d_X12_feed_59 : decode cX12_feed 59 = .ok (.aload_n 0, 1) := by decide +kernel
theorem d_X12_feed_60 : decode cX12_feed 60 = .ok (.iload 4, 2) := by decide +kernel
theorem d_X12_feed_62 : decode cX12_feed 62 = .ok (.invokevirtual 146, 3) := by decide +kernel
theorem d_X12_feed_65 : decode cX12_feed 65 = .ok (.aload_n 0, 1) := by decide +kernel
theorem d_X12_feed_66 : decode cX12_feed 66 = .ok (.iload 5, 2) := by decide +kernel
theorem d_X12_feed_68 : decode cX12_feed 68 = .ok (.invokevirtual 146, 3) := by decide +kernel
theorem d_X12_feed_71 : decode cX12_feed 71 = .ok (.aload_n 0, 1) := by decide +kernel
theorem d_X12_feed_72 : decode cX12_feed 72 = .ok (.getfield 140, 3) := by decide +kernel
theorem d_X12_feed_75 : decode cX12_feed 75 = .ok (.ireturn, 1) := by decide +kernel
def f_X12_feed (this : Nat) (a1 : Int32) (a2 : Int32) (a3 : Int32) (a4 : Int32) (a5 : Int32) : sa_M Int32 :=
sa_gd 12 this (
sa_bnd (sa_wrI 12 this 0 0) fun _ =>
sa_bnd (sa_rdI 12 this 6) fun v1 =>
sa_bnd (f_X12_bytesIn a1) fun v2 =>
sa_bnd (f_X12_bytesIn a2) fun v3 =>
sa_bnd (f_X12_bytesIn a3) fun v4 =>
sa_bnd (f_X12_bytesIn a4) fun v5 =>
sa_bnd (f_X12_bytesIn a5) fun v6 =>
if (((((v1 + v2) + v3) + v4) + v5) + v6) ≤ 240 then
sa_bnd (f_X12_put this a1) fun _ =>
sa_bnd (f_X12_put this a2) fun _ =>
sa_bnd (f_X12_put this a3) fun _ =>
sa_bnd (f_X12_put this a4) fun _ =>
sa_bnd (f_X12_put this a5) fun _ =>
sa_bnd (sa_rdI 12 this 6) fun v7 =>
sa_ret (v7 : Int32)
else
sa_ret ((-1) : Int32))
set_option maxHeartbeats 1000000 in
set_option maxRecDepth 10000 in
theorem b_X12_feed {p : Program} {l : Launch} {e : Env} {s : State} {m : MethodId} {args : Array Value} {below : List Frame} {meth : Method} {c : Code} {D : va_G} {ad : Nat → Nat} {cA : FieldType → ClassId} {A : Nat → Prop} (this : Nat) (a1 : Int32) (a2 : Int32) (a3 : Int32) (a4 : Int32) (a5 : Int32) (C : sa_C p s m args meth c cX12_feed RX12 "feed" 6 (some .int) D ad cA A) : sa_Sg p l e s m args below meth c 6 2 D ad cA A sa_eI 0 [(0, .ref (ad this)), (1, .int a1), (2, .int a2), (3, .int a3), (4, .int a4), (5, .int a5)] [] (f_X12_feed this a1 a2 a3 a4 a5) := by
  unfold f_X12_feed
  refine sa_gdI ?_
  refine sa_aload_n C d_X12_feed_0 rfl 0 rfl ?_
  refine sa_iconst (v := 0) C d_X12_feed_1 (by decide) ?_
  refine sa_putI C fd_X12_127 d_X12_feed_2 ?_
  refine sa_aload_n C d_X12_feed_5 rfl 0 rfl ?_
  refine sa_getI C fd_X12_140 d_X12_feed_6 (fun v1 => ?_)
  refine sa_iload_n C d_X12_feed_9 rfl 1 rfl ?_
  refine sa_invS C (k_X12_bytesIn a1) q1621 ds_X12_bytesIn q128 q1620 q1619 rfl rfl rfl (Nat.le_of_ble_eq_true rfl) (by decide) (by decide) d_X12_feed_10 (fun v2 => ?_)
  refine sa_iadd C d_X12_feed_13 ?_
  refine sa_iload_n C d_X12_feed_14 rfl 2 rfl ?_
  refine sa_invS C (k_X12_bytesIn a2) q1621 ds_X12_bytesIn q128 q1620 q1619 rfl rfl rfl (Nat.le_of_ble_eq_true rfl) (by decide) (by decide) d_X12_feed_15 (fun v3 => ?_)
  refine sa_iadd C d_X12_feed_18 ?_
  refine sa_iload_n C d_X12_feed_19 rfl 3 rfl ?_
  refine sa_invS C (k_X12_bytesIn a3) q1621 ds_X12_bytesIn q128 q1620 q1619 rfl rfl rfl (Nat.le_of_ble_eq_true rfl) (by decide) (by decide) d_X12_feed_20 (fun v4 => ?_)
  refine sa_iadd C d_X12_feed_23 ?_
  refine sa_iload C d_X12_feed_24 4 rfl ?_
  refine sa_invS C (k_X12_bytesIn a4) q1621 ds_X12_bytesIn q128 q1620 q1619 rfl rfl rfl (Nat.le_of_ble_eq_true rfl) (by decide) (by decide) d_X12_feed_26 (fun v5 => ?_)
  refine sa_iadd C d_X12_feed_29 ?_
  refine sa_iload C d_X12_feed_30 5 rfl ?_
  refine sa_invS C (k_X12_bytesIn a5) q1621 ds_X12_bytesIn q128 q1620 q1619 rfl rfl rfl (Nat.le_of_ble_eq_true rfl) (by decide) (by decide) d_X12_feed_32 (fun v6 => ?_)
  refine sa_iadd C d_X12_feed_35 ?_
  refine sa_sipush (v := 240) C d_X12_feed_36 (by decide) ?_
  refine sa_icmp_le (tgt := 44) C d_X12_feed_39 (by decide) ?_ ?_
  · refine sa_aload_n C d_X12_feed_44 rfl 0 rfl ?_
    refine sa_iload_n C d_X12_feed_45 rfl 1 rfl ?_
    refine sa_invV (ci := 12) C (k_X12_put this a1) q1625 ds_X12_put q128 rfl q1624 q45 q1622 (gd_X12_put this a1) rfl rfl rfl (Nat.le_of_ble_eq_true rfl) (by decide) (by decide) d_X12_feed_46 (fun _ => ?_)
    refine sa_aload_n C d_X12_feed_49 rfl 0 rfl ?_
    refine sa_iload_n C d_X12_feed_50 rfl 2 rfl ?_
    refine sa_invV (ci := 12) C (k_X12_put this a2) q1625 ds_X12_put q128 rfl q1624 q45 q1622 (gd_X12_put this a2) rfl rfl rfl (Nat.le_of_ble_eq_true rfl) (by decide) (by decide) d_X12_feed_51 (fun _ => ?_)
    refine sa_aload_n C d_X12_feed_54 rfl 0 rfl ?_
    refine sa_iload_n C d_X12_feed_55 rfl 3 rfl ?_
    refine sa_invV (ci := 12) C (k_X12_put this a3) q1625 ds_X12_put q128 rfl q1624 q45 q1622 (gd_X12_put this a3) rfl rfl rfl (Nat.le_of_ble_eq_true rfl) (by decide) (by decide) d_X12_feed_56 (fun _ => ?_)
    refine sa_aload_n C d_X12_feed_59 rfl 0 rfl ?_
    refine sa_iload C d_X12_feed_60 4 rfl ?_
    refine sa_invV (ci := 12) C (k_X12_put this a4) q1625 ds_X12_put q128 rfl q1624 q45 q1622 (gd_X12_put this a4) rfl rfl rfl (Nat.le_of_ble_eq_true rfl) (by decide) (by decide) d_X12_feed_62 (fun _ => ?_)
    refine sa_aload_n C d_X12_feed_65 rfl 0 rfl ?_
    refine sa_iload C d_X12_feed_66 5 rfl ?_
    refine sa_invV (ci := 12) C (k_X12_put this a5) q1625 ds_X12_put q128 rfl q1624 q45 q1622 (gd_X12_put this a5) rfl rfl rfl (Nat.le_of_ble_eq_true rfl) (by decide) (by decide) d_X12_feed_68 (fun _ => ?_)
    refine sa_aload_n C d_X12_feed_71 rfl 0 rfl ?_
    refine sa_getI C fd_X12_140 d_X12_feed_72 (fun v7 => ?_)
    exact sa_iret C d_X12_feed_75
  refine sa_iconst (v := (-1)) C d_X12_feed_42 (by decide) ?_
  exact sa_iret C d_X12_feed_43
theorem k_X12_feed (this : Nat) (a1 : Int32) (a2 : Int32) (a3 : Int32) (a4 : Int32) (a5 : Int32) : sa_Met 2 yX12_feed cX12_feed 6 (some .int) (fun ad => [.ref (ad this), .int a1, .int a2, .int a3, .int a4, .int a5]) sa_eI (f_X12_feed this a1 a2 a3 a4 a5) := sa_mk (by decide) (fun ad => Nat.le_of_ble_eq_true rfl) (fun p l e s m args below meth c D ad cA A C => b_X12_feed this a1 a2 a3 a4 a5 C)
theorem gd_X12_feed (this : Nat) (a1 : Int32) (a2 : Int32) (a3 : Int32) (a4 : Int32) (a5 : Int32) (σ : sa_St) (r : Int32) (τ : sa_St) (h : f_X12_feed this a1 a2 a3 a4 a5 σ = some (r, τ)) : sa_sh this = some (.inl 12) := sa_gd_ok h
theorem d_X12_end_0 : decode cX12_end 0 = .ok (.aload_n 0, 1) := by decide +kernel
theorem d_X12_end_1 : decode cX12_end 1 = .ok (.iconst 0, 1) := by decide +kernel
theorem d_X12_end_2 : decode cX12_end 2 = .ok (.putfield 127, 3) := by decide +kernel
theorem d_X12_end_5 : decode cX12_end 5 = .ok (.iload_n 1, 1) := by decide +kernel
theorem d_X12_end_6 : decode cX12_end 6 = .ok (.ifCond .lt 11, 3) := by decide +kernel
theorem d_X12_end_9 : decode cX12_end 9 = .ok (.iload_n 1, 1) := by decide +kernel
theorem d_X12_end_10 : decode cX12_end 10 = .ok (.aload_n 0, 1) := by decide +kernel
theorem d_X12_end_11 : decode cX12_end 11 = .ok (.getfield 140, 3) := by decide +kernel
theorem d_X12_end_14 : decode cX12_end 14 = .ok (.if_icmp .le 5, 3) := by decide +kernel
theorem d_X12_end_17 : decode cX12_end 17 = .ok (.iconst 0, 1) := by decide +kernel
theorem d_X12_end_18 : decode cX12_end 18 = .ok (.ireturn, 1) := by decide +kernel
theorem d_X12_end_19 : decode cX12_end 19 = .ok (.aload_n 0, 1) := by decide +kernel
theorem d_X12_end_20 : decode cX12_end 20 = .ok (.iload_n 1, 1) := by decide +kernel
theorem d_X12_end_21 : decode cX12_end 21 = .ok (.putfield 140, 3) := by decide +kernel
theorem d_X12_end_24 : decode cX12_end 24 = .ok (.iconst 1, 1) := by decide +kernel
theorem d_X12_end_25 : decode cX12_end 25 = .ok (.ireturn, 1) := by decide +kernel
def f_X12_end (this : Nat) (a1 : Int32) : sa_M Int32 :=
sa_gd 12 this (
sa_bnd (sa_wrI 12 this 0 0) fun _ =>
sa_jn0 (sa_retZ 0) fun j17 =>
if a1 < 0 then
j17
else
sa_bnd (sa_rdI 12 this 6) fun v1 =>
if a1 ≤ v1 then
sa_bnd (sa_wrI 12 this 6 a1) fun _ =>
sa_retZ 1
else
j17)
set_option maxHeartbeats 1000000 in
set_option maxRecDepth 10000 in
theorem b_X12_end {p : Program} {l : Launch} {e : Env} {s : State} {m : MethodId} {args : Array Value} {below : List Frame} {meth : Method} {c : Code} {D : va_G} {ad : Nat → Nat} {cA : FieldType → ClassId} {A : Nat → Prop} (this : Nat) (a1 : Int32) (C : sa_C p s m args meth c cX12_end RX12 "end" 2 (some .boolean) D ad cA A) : sa_Sg p l e s m args below meth c 2 1 D ad cA A sa_eI 0 [(0, .ref (ad this)), (1, .int a1)] [] (f_X12_end this a1) := by
  unfold f_X12_end
  refine sa_gdI ?_
  refine sa_aload_n C d_X12_end_0 rfl 0 rfl ?_
  refine sa_iconst (v := 0) C d_X12_end_1 (by decide) ?_
  refine sa_putI C fd_X12_127 d_X12_end_2 ?_
  refine sa_iload_n C d_X12_end_5 rfl 1 rfl ?_
  refine sa_join0 17 ([]) ([]) (?_) (fun j17 hj17 => ?_)
  · refine sa_iconst (v := 0) C d_X12_end_17 (by decide) ?_
    exact sa_zret C d_X12_end_18
  refine sa_if_lt (tgt := 17) C d_X12_end_6 (by decide) ?_ ?_
  · exact sa_sub [] rfl (hj17)
  refine sa_iload_n C d_X12_end_9 rfl 1 rfl ?_
  refine sa_aload_n C d_X12_end_10 rfl 0 rfl ?_
  refine sa_getI C fd_X12_140 d_X12_end_11 (fun v1 => ?_)
  refine sa_icmp_le (tgt := 19) C d_X12_end_14 (by decide) ?_ ?_
  · refine sa_aload_n C d_X12_end_19 rfl 0 rfl ?_
    refine sa_iload_n C d_X12_end_20 rfl 1 rfl ?_
    refine sa_putI C fd_X12_140 d_X12_end_21 ?_
    refine sa_iconst (v := 1) C d_X12_end_24 (by decide) ?_
    exact sa_zret C d_X12_end_25
  exact sa_sub [] rfl (hj17)
theorem k_X12_end (this : Nat) (a1 : Int32) : sa_Met 1 yX12_end cX12_end 2 (some .boolean) (fun ad => [.ref (ad this), .int a1]) sa_eI (f_X12_end this a1) := sa_mk (by decide) (fun ad => Nat.le_of_ble_eq_true rfl) (fun p l e s m args below meth c D ad cA A C => b_X12_end this a1 C)
theorem gd_X12_end (this : Nat) (a1 : Int32) (σ : sa_St) (r : Int32) (τ : sa_St) (h : f_X12_end this a1 σ = some (r, τ)) : sa_sh this = some (.inl 12) := sa_gd_ok h
theorem d_X12_look_0 : decode cX12_look 0 = .ok (.aload_n 0, 1) := by decide +kernel
theorem d_X12_look_1 : decode cX12_look 1 = .ok (.getfield 150, 3) := by decide +kernel
theorem d_X12_look_4 : decode cX12_look 4 = .ok (.aload_n 0, 1) := by decide +kernel
theorem d_X12_look_5 : decode cX12_look 5 = .ok (.getfield 153, 3) := by decide +kernel
theorem d_X12_look_8 : decode cX12_look 8 = .ok (.if_icmp .ge 35, 3) := by decide +kernel
theorem d_X12_look_11 : decode cX12_look 11 = .ok (.aload_n 0, 1) := by decide +kernel
theorem d_X12_look_12 : decode cX12_look 12 = .ok (.getfield 23, 3) := by decide +kernel
theorem d_X12_look_15 : decode cX12_look 15 = .ok (.aload_n 0, 1) := by decide +kernel
theorem d_X12_look_16 : decode cX12_look 16 = .ok (.getfield 156, 3) := by decide +kernel
theorem d_X12_look_19 : decode cX12_look 19 = .ok (.aload_n 0, 1) := by decide +kernel
theorem d_X12_look_20 : decode cX12_look 20 = .ok (.getfield 150, 3) := by decide +kernel
theorem d_X12_look_23 : decode cX12_look 23 = .ok (.iadd, 1) := by decide +kernel
theorem d_X12_look_24 : decode cX12_look 24 = .ok (.baload, 1) := by decide +kernel
theorem d_X12_look_25 : decode cX12_look 25 = .ok (.bipush 32, 2) := by decide +kernel
theorem d_X12_look_27 : decode cX12_look 27 = .ok (.if_icmp .ne 16, 3) := by decide +kernel
theorem d_X12_look_30 : decode cX12_look 30 = .ok (.aload_n 0, 1) := by decide +kernel
theorem d_X12_look_31 : decode cX12_look 31 = .ok (.dup, 1) := by decide +kernel
theorem d_X12_look_32 : decode cX12_look 32 = .ok (.getfield 150, 3) := by decide +kernel
theorem d_X12_look_35 : decode cX12_look 35 = .ok (.iconst 1, 1) := by decide +kernel
theorem d_X12_look_36 : decode cX12_look 36 = .ok (.iadd, 1) := by decide +kernel
theorem d_X12_look_37 : decode cX12_look 37 = .ok (.putfield 150, 3) := by decide +kernel
theorem d_X12_look_40 : decode cX12_look 40 = .ok (.goto (-40), 3) := by decide +kernel
theorem d_X12_look_43 : decode cX12_look 43 = .ok (.aload_n 0, 1) := by decide +kernel
theorem d_X12_look_44 : decode cX12_look 44 = .ok (.getfield 150, 3) := by decide +kernel
theorem d_X12_look_47 : decode cX12_look 47 = .ok (.aload_n 0, 1) := by decide +kernel
theorem d_X12_look_48 : decode cX12_look 48 = .ok (.getfield 153, 3) := by decide +kernel
theorem d_X12_look_51 : decode cX12_look 51 = .ok (.if_icmp .ge 24, 3) := by decide +kernel
theorem d_X12_look_54 : decode cX12_look 54 = .ok (.aload_n 0, 1) := by decide +kernel
theorem d_X12_look_55 : decode cX12_look 55 = .ok (.getfield 23, 3) := by decide +kernel
theorem d_X12_look_58 : decode cX12_look 58 = .ok (.aload_n 0, 1) := by decide +kernel
theorem d_X12_look_59 : decode cX12_look 59 = .ok (.getfield 156, 3) := by decide +kernel
theorem d_X12_look_62 : decode cX12_look 62 = .ok (.aload_n 0, 1) := by decide +kernel
theorem d_X12_look_63 : decode cX12_look 63 = .ok (.getfield 150, 3) := by decide +kernel
theorem d_X12_look_66 : decode cX12_look 66 = .ok (.iadd, 1) := by decide +kernel
theorem d_X12_look_67 : decode cX12_look 67 = .ok (.baload, 1) := by decide +kernel
theorem d_X12_look_68 : decode cX12_look 68 = .ok (.sipush 255, 3) := by decide +kernel
theorem d_X12_look_71 : decode cX12_look 71 = .ok (.iand, 1) := by decide +kernel
theorem d_X12_look_72 : decode cX12_look 72 = .ok (.goto 4, 3) := by decide +kernel
theorem d_X12_look_75 : decode cX12_look 75 = .ok (.iconst (-1), 1) := by decide +kernel
theorem d_X12_look_76 : decode cX12_look 76 = .ok (.ireturn, 1) := by decide +kernel
def f_X12_look (this : Nat) : sa_M Int32 :=
sa_gd 12 this (
sa_wh0 (fun j0  =>
sa_bnd (sa_rdI 12 this 10) fun v1 =>
sa_bnd (sa_rdI 12 this 9) fun v2 =>
sa_jn0 (sa_bnd (sa_rdI 12 this 10) fun v3 =>
sa_bnd (sa_rdI 12 this 9) fun v4 =>
sa_jn1 (fun (y5 : Int32) =>
sa_ret (y5 : Int32)) fun j76 =>
if v4 ≤ v3 then
j76 (-1)
else
sa_bnd (sa_rdR 12 this 5) fun v6 =>
sa_bnd (sa_rdI 12 this 8) fun v7 =>
sa_bnd (sa_rdI 12 this 10) fun v8 =>
sa_bnd (sa_ldI .byte v6 (v7 + v8)) fun v9 =>
j76 (v9 &&& 255)) fun j43 =>
if v2 ≤ v1 then
j43
else
sa_bnd (sa_rdR 12 this 5) fun v10 =>
sa_bnd (sa_rdI 12 this 8) fun v11 =>
sa_bnd (sa_rdI 12 this 10) fun v12 =>
sa_bnd (sa_ldI .byte v10 (v11 + v12)) fun v13 =>
if ¬ v13 = 32 then
j43
else
sa_bnd (sa_rdI 12 this 10) fun v14 =>
sa_bnd (sa_wrI 12 this 10 (v14 + 1)) fun _ =>
j0) sa_F )
set_option maxHeartbeats 1000000 in
set_option maxRecDepth 10000 in
theorem b_X12_look {p : Program} {l : Launch} {e : Env} {s : State} {m : MethodId} {args : Array Value} {below : List Frame} {meth : Method} {c : Code} {D : va_G} {ad : Nat → Nat} {cA : FieldType → ClassId} {A : Nat → Prop} (this : Nat) (C : sa_C p s m args meth c cX12_look RX12 "look" 1 (some .int) D ad cA A) : sa_Sg p l e s m args below meth c 1 1 D ad cA A sa_eI 0 [(0, .ref (ad this))] [] (f_X12_look this) := by
  unfold f_X12_look
  refine sa_gdI ?_
  refine sa_sub [0] rfl (sa_loop0 ([(0, .ref (ad this))]) ([]) (fun j0 hj0  => ?_) _)
  refine sa_aload_n C d_X12_look_0 rfl 0 rfl ?_
  refine sa_getI C fd_X12_150 d_X12_look_1 (fun v1 => ?_)
  refine sa_aload_n C d_X12_look_4 rfl 0 rfl ?_
  refine sa_getI C fd_X12_153 d_X12_look_5 (fun v2 => ?_)
  refine sa_join0 43 ([(0, .ref (ad this))]) ([]) (?_) (fun j43 hj43 => ?_)
  · refine sa_aload_n C d_X12_look_43 rfl 0 rfl ?_
    refine sa_getI C fd_X12_150 d_X12_look_44 (fun v3 => ?_)
    refine sa_aload_n C d_X12_look_47 rfl 0 rfl ?_
    refine sa_getI C fd_X12_153 d_X12_look_48 (fun v4 => ?_)
    refine sa_join1 76 (fun y5 => []) (fun y5 => [.int y5]) (fun y5 => ?_) (fun j76 hj76 => ?_)
    · exact sa_iret C d_X12_look_76
    refine sa_icmp_ge (tgt := 75) C d_X12_look_51 (by decide) ?_ ?_
    · refine sa_iconst (v := (-1)) C d_X12_look_75 (by decide) ?_
      exact sa_sub [] rfl (hj76 _)
    refine sa_aload_n C d_X12_look_54 rfl 0 rfl ?_
    refine sa_getR C fd_X12_23 rfl d_X12_look_55 (fun v6 => ?_)
    refine sa_aload_n C d_X12_look_58 rfl 0 rfl ?_
    refine sa_getI C fd_X12_156 d_X12_look_59 (fun v7 => ?_)
    refine sa_aload_n C d_X12_look_62 rfl 0 rfl ?_
    refine sa_getI C fd_X12_150 d_X12_look_63 (fun v8 => ?_)
    refine sa_iadd C d_X12_look_66 ?_
    refine sa_bald C d_X12_look_67 (fun v9 => ?_)
    refine sa_sipush (v := 255) C d_X12_look_68 (by decide) ?_
    refine sa_iand C d_X12_look_71 ?_
    refine sa_goto (tgt := 76) C d_X12_look_72 (by decide) ?_
    exact sa_sub [] rfl (hj76 _)
  refine sa_icmp_ge (tgt := 43) C d_X12_look_8 (by decide) ?_ ?_
  · exact sa_sub [0] rfl (hj43)
  refine sa_aload_n C d_X12_look_11 rfl 0 rfl ?_
  refine sa_getR C fd_X12_23 rfl d_X12_look_12 (fun v10 => ?_)
  refine sa_aload_n C d_X12_look_15 rfl 0 rfl ?_
  refine sa_getI C fd_X12_156 d_X12_look_16 (fun v11 => ?_)
  refine sa_aload_n C d_X12_look_19 rfl 0 rfl ?_
  refine sa_getI C fd_X12_150 d_X12_look_20 (fun v12 => ?_)
  refine sa_iadd C d_X12_look_23 ?_
  refine sa_bald C d_X12_look_24 (fun v13 => ?_)
  refine sa_bipush (v := 32) C d_X12_look_25 (by decide) ?_
  refine sa_icmp_ne (tgt := 43) C d_X12_look_27 (by decide) ?_ ?_
  · exact sa_sub [0] rfl (hj43)
  refine sa_aload_n C d_X12_look_30 rfl 0 rfl ?_
  refine sa_dup C d_X12_look_31 rfl ?_
  refine sa_getI C fd_X12_150 d_X12_look_32 (fun v14 => ?_)
  refine sa_iconst (v := 1) C d_X12_look_35 (by decide) ?_
  refine sa_iadd C d_X12_look_36 ?_
  refine sa_putI C fd_X12_150 d_X12_look_37 ?_
  refine sa_goto (tgt := 0) C d_X12_look_40 (by decide) ?_
  exact sa_sub [0] rfl (hj0)
theorem k_X12_look (this : Nat) : sa_Met 1 yX12_look cX12_look 1 (some .int) (fun ad => [.ref (ad this)]) sa_eI (f_X12_look this) := sa_mk (by decide) (fun ad => Nat.le_of_ble_eq_true rfl) (fun p l e s m args below meth c D ad cA A C => b_X12_look this C)
theorem gd_X12_look (this : Nat) (σ : sa_St) (r : Int32) (τ : sa_St) (h : f_X12_look this σ = some (r, τ)) : sa_sh this = some (.inl 12) := sa_gd_ok h
theorem d_X12_fails_0 : decode cX12_fails 0 = .ok (.aload_n 0, 1) := by decide +kernel
theorem d_X12_fails_1 : decode cX12_fails 1 = .ok (.getfield 159, 3) := by decide +kernel
theorem d_X12_fails_4 : decode cX12_fails 4 = .ok (.iconst (-1), 1) := by decide +kernel
theorem d_X12_fails_5 : decode cX12_fails 5 = .ok (.if_icmp .ne 11, 3) := by decide +kernel
theorem d_X12_fails_8 : decode cX12_fails 8 = .ok (.aload_n 0, 1) := by decide +kernel
theorem d_X12_fails_9 : decode cX12_fails 9 = .ok (.aload_n 0, 1) := by decide +kernel
theorem d_X12_fails_10 : decode cX12_fails 10 = .ok (.getfield 150, 3) := by decide +kernel
theorem d_X12_fails_13 : decode cX12_fails 13 = .ok (.putfield 159, 3) := by decide +kernel
theorem d_X12_fails_16 : decode cX12_fails 16 = .ok (.iconst 0, 1) := by decide +kernel
theorem d_X12_fails_17 : decode cX12_fails 17 = .ok (.ireturn, 1) := by decide +kernel
def f_X12_fails (this : Nat) : sa_M Int32 :=
sa_gd 12 this (
sa_bnd (sa_rdI 12 this 11) fun v1 =>
sa_jn0 (sa_retZ 0) fun j16 =>
if ¬ v1 = (-1) then
j16
else
sa_bnd (sa_rdI 12 this 10) fun v2 =>
sa_bnd (sa_wrI 12 this 11 v2) fun _ =>
j16)
set_option maxHeartbeats 1000000 in
set_option maxRecDepth 10000 in
theorem b_X12_fails {p : Program} {l : Launch} {e : Env} {s : State} {m : MethodId} {args : Array Value} {below : List Frame} {meth : Method} {c : Code} {D : va_G} {ad : Nat → Nat} {cA : FieldType → ClassId} {A : Nat → Prop} (this : Nat) (C : sa_C p s m args meth c cX12_fails RX12 "fails" 1 (some .boolean) D ad cA A) : sa_Sg p l e s m args below meth c 1 1 D ad cA A sa_eI 0 [(0, .ref (ad this))] [] (f_X12_fails this) := by
  unfold f_X12_fails
  refine sa_gdI ?_
  refine sa_aload_n C d_X12_fails_0 rfl 0 rfl ?_
  refine sa_getI C fd_X12_159 d_X12_fails_1 (fun v1 => ?_)
  refine sa_iconst (v := (-1)) C d_X12_fails_4 (by decide) ?_
  refine sa_join0 16 ([]) ([]) (?_) (fun j16 hj16 => ?_)
  · refine sa_iconst (v := 0) C d_X12_fails_16 (by decide) ?_
    exact sa_zret C d_X12_fails_17
  refine sa_icmp_ne (tgt := 16) C d_X12_fails_5 (by decide) ?_ ?_
  · exact sa_sub [] rfl (hj16)
  refine sa_aload_n C d_X12_fails_8 rfl 0 rfl ?_
  refine sa_aload_n C d_X12_fails_9 rfl 0 rfl ?_
  refine sa_getI C fd_X12_150 d_X12_fails_10 (fun v2 => ?_)
  refine sa_putI C fd_X12_159 d_X12_fails_13 ?_
  exact sa_sub [] rfl (hj16)
theorem k_X12_fails (this : Nat) : sa_Met 1 yX12_fails cX12_fails 1 (some .boolean) (fun ad => [.ref (ad this)]) sa_eI (f_X12_fails this) := sa_mk (by decide) (fun ad => Nat.le_of_ble_eq_true rfl) (fun p l e s m args below meth c D ad cA A C => b_X12_fails this C)
theorem gd_X12_fails (this : Nat) (σ : sa_St) (r : Int32) (τ : sa_St) (h : f_X12_fails this σ = some (r, τ)) : sa_sh this = some (.inl 12) := sa_gd_ok h
theorem d_X12_goesIn_0 : decode cX12_goesIn 0 = .ok (.aload_n 0, 1) := by decide +kernel
theorem d_X12_goesIn_1 : decode cX12_goesIn 1 = .ok (.getfield 162, 3) := by decide +kernel
theorem d_X12_goesIn_4 : decode cX12_goesIn 4 = .ok (.bipush 6, 2) := by decide +kernel
theorem d_X12_goesIn_6 : decode cX12_goesIn 6 = .ok (.if_icmp .ne 8, 3) := by decide +kernel
theorem d_X12_goesIn_9 : decode cX12_goesIn 9 = .ok (.aload_n 0, 1) := by decide +kernel
theorem d_X12_goesIn_10 : decode cX12_goesIn 10 = .ok (.invokevirtual 165, 3) := by decide +kernel
theorem d_X12_goesIn_13 : decode cX12_goesIn 13 = .ok (.ireturn, 1) := by decide +kernel
theorem d_X12_goesIn_14 : decode cX12_goesIn 14 = .ok (.aload_n 0, 1) := by decide +kernel
theorem d_X12_goesIn_15 : decode cX12_goesIn 15 = .ok (.dup, 1) := by decide +kernel
theorem d_X12_goesIn_16 : decode cX12_goesIn 16 = .ok (.getfield 162, 3) := by decide +kernel
theorem d_X12_goesIn_19 : decode cX12_goesIn 19 = .ok (.iconst 1, 1) := by decide +kernel
theorem d_X12_goesIn_20 : decode cX12_goesIn 20 = .ok (.iadd, 1) := by decide +kernel
theorem d_X12_goesIn_21 : decode cX12_goesIn 21 = .ok (.putfield 162, 3) := by decide +kernel
theorem d_X12_goesIn_24 : decode cX12_goesIn 24 = .ok (.aload_n 0, 1) := by decide +kernel
theorem d_X12_goesIn_25 : decode cX12_goesIn 25 = .ok (.dup, 1) := by decide +kernel
theorem d_X12_goesIn_26 : decode cX12_goesIn 26 = .ok (.getfield 150, 3) := by decide +kernel
theorem d_X12_goesIn_29 : decode cX12_goesIn 29 = .ok (.iconst 1, 1) := by decide +kernel
theorem d_X12_goesIn_30 : decode cX12_goesIn 30 = .ok (.iadd, 1) := by decide +kernel
theorem d_X12_goesIn_31 : decode cX12_goesIn 31 = .ok (.putfield 150, 3) := by decide +kernel
theorem d_X12_goesIn_34 : decode cX12_goesIn 34 = .ok (.iconst 1, 1) := by decide +kernel
theorem d_X12_goesIn_35 : decode cX12_goesIn 35 = .ok (.ireturn, 1) := by decide +kernel
def f_X12_goesIn (this : Nat) : sa_M Int32 :=
sa_gd 12 this (
sa_bnd (sa_rdI 12 this 12) fun v1 =>
if ¬ v1 = 6 then
sa_bnd (sa_rdI 12 this 12) fun v2 =>
sa_bnd (sa_wrI 12 this 12 (v2 + 1)) fun _ =>
sa_bnd (sa_rdI 12 this 10) fun v3 =>
sa_bnd (sa_wrI 12 this 10 (v3 + 1)) fun _ =>
sa_retZ 1
else
sa_bnd (f_X12_fails this) fun v4 =>
sa_retZ v4)
set_option maxHeartbeats 1000000 in
set_option maxRecDepth 10000 in
theorem b_X12_goesIn {p : Program} {l : Launch} {e : Env} {s : State} {m : MethodId} {args : Array Value} {below : List Frame} {meth : Method} {c : Code} {D : va_G} {ad : Nat → Nat} {cA : FieldType → ClassId} {A : Nat → Prop} (this : Nat) (C : sa_C p s m args meth c cX12_goesIn RX12 "goesIn" 1 (some .boolean) D ad cA A) : sa_Sg p l e s m args below meth c 1 2 D ad cA A sa_eI 0 [(0, .ref (ad this))] [] (f_X12_goesIn this) := by
  unfold f_X12_goesIn
  refine sa_gdI ?_
  refine sa_aload_n C d_X12_goesIn_0 rfl 0 rfl ?_
  refine sa_getI C fd_X12_162 d_X12_goesIn_1 (fun v1 => ?_)
  refine sa_bipush (v := 6) C d_X12_goesIn_4 (by decide) ?_
  refine sa_icmp_ne (tgt := 14) C d_X12_goesIn_6 (by decide) ?_ ?_
  · refine sa_aload_n C d_X12_goesIn_14 rfl 0 rfl ?_
    refine sa_dup C d_X12_goesIn_15 rfl ?_
    refine sa_getI C fd_X12_162 d_X12_goesIn_16 (fun v2 => ?_)
    refine sa_iconst (v := 1) C d_X12_goesIn_19 (by decide) ?_
    refine sa_iadd C d_X12_goesIn_20 ?_
    refine sa_putI C fd_X12_162 d_X12_goesIn_21 ?_
    refine sa_aload_n C d_X12_goesIn_24 rfl 0 rfl ?_
    refine sa_dup C d_X12_goesIn_25 rfl ?_
    refine sa_getI C fd_X12_150 d_X12_goesIn_26 (fun v3 => ?_)
    refine sa_iconst (v := 1) C d_X12_goesIn_29 (by decide) ?_
    refine sa_iadd C d_X12_goesIn_30 ?_
    refine sa_putI C fd_X12_150 d_X12_goesIn_31 ?_
    refine sa_iconst (v := 1) C d_X12_goesIn_34 (by decide) ?_
    exact sa_zret C d_X12_goesIn_35
  refine sa_aload_n C d_X12_goesIn_9 rfl 0 rfl ?_
  refine sa_invV (ci := 12) C (k_X12_fails this) q1657 ds_X12_fails q128 rfl q1656 q50 q1654 (gd_X12_fails this) rfl rfl rfl (Nat.le_of_ble_eq_true rfl) (by decide) (by decide) d_X12_goesIn_10 (fun v4 => ?_)
  exact sa_zret C d_X12_goesIn_13
theorem k_X12_goesIn (this : Nat) : sa_Met 2 yX12_goesIn cX12_goesIn 1 (some .boolean) (fun ad => [.ref (ad this)]) sa_eI (f_X12_goesIn this) := sa_mk (by decide) (fun ad => Nat.le_of_ble_eq_true rfl) (fun p l e s m args below meth c D ad cA A C => b_X12_goesIn this C)
theorem gd_X12_goesIn (this : Nat) (σ : sa_St) (r : Int32) (τ : sa_St) (h : f_X12_goesIn this σ = some (r, τ)) : sa_sh this = some (.inl 12) := sa_gd_ok h
theorem d_X12_takes_0 : decode cX12_takes 0 = .ok (.aload_n 0, 1) := by decide +kernel
theorem d_X12_takes_1 : decode cX12_takes 1 = .ok (.getfield 159, 3) := by decide +kernel
theorem d_X12_takes_4 : decode cX12_takes 4 = .ok (.iconst (-1), 1) := by decide +kernel
theorem d_X12_takes_5 : decode cX12_takes 5 = .ok (.if_icmp .ne 11, 3) := by decide +kernel
theorem d_X12_takes_8 : decode cX12_takes 8 = .ok (.aload_n 0, 1) := by decide +kernel
theorem d_X12_takes_9 : decode cX12_takes 9 = .ok (.invokevirtual 169, 3) := by decide +kernel
theorem d_X12_takes_12 : decode cX12_takes 12 = .ok (.iload_n 1, 1) := by decide +kernel
theorem d_X12_takes_13 : decode cX12_takes 13 = .ok (.if_icmp .eq 8, 3) := by decide +kernel
theorem d_X12_takes_16 : decode cX12_takes 16 = .ok (.aload_n 0, 1) := by decide +kernel
theorem d_X12_takes_17 : decode cX12_takes 17 = .ok (.invokevirtual 165, 3) := by decide +kernel
theorem d_X12_takes_20 : decode cX12_takes 20 = .ok (.ireturn, 1) := by decide +kernel
theorem d_X12_takes_21 : decode cX12_takes 21 = .ok (.aload_n 0, 1) := by decide +kernel
theorem d_X12_takes_22 : decode cX12_takes 22 = .ok (.dup, 1) := by decide +kernel
theorem d_X12_takes_23 : decode cX12_takes 23 = .ok (.getfield 150, 3) := by decide +kernel
theorem d_X12_takes_26 : decode cX12_takes 26 = .ok (.iconst 1, 1) := by decide +kernel
theorem d_X12_takes_27 : decode cX12_takes 27 = .ok (.iadd, 1) := by decide +kernel
theorem d_X12_takes_28 : decode cX12_takes 28 = .ok (.putfield 150, 3) := by decide +kernel
theorem d_X12_takes_31 : decode cX12_takes 31 = .ok (.iconst 1, 1) := by decide +kernel
theorem d_X12_takes_32 : decode cX12_takes 32 = .ok (.ireturn, 1) := by decide +kernel
def f_X12_takes (this : Nat) (a1 : Int32) : sa_M Int32 :=
sa_gd 12 this (
sa_bnd (sa_rdI 12 this 11) fun v1 =>
sa_jn0 (sa_bnd (f_X12_fails this) fun v2 =>
sa_retZ v2) fun j16 =>
if ¬ v1 = (-1) then
j16
else
sa_bnd (f_X12_look this) fun v3 =>
if v3 = a1 then
sa_bnd (sa_rdI 12 this 10) fun v4 =>
sa_bnd (sa_wrI 12 this 10 (v4 + 1)) fun _ =>
sa_retZ 1
else
j16)
set_option maxHeartbeats 1000000 in
set_option maxRecDepth 10000 in
theorem b_X12_takes {p : Program} {l : Launch} {e : Env} {s : State} {m : MethodId} {args : Array Value} {below : List Frame} {meth : Method} {c : Code} {D : va_G} {ad : Nat → Nat} {cA : FieldType → ClassId} {A : Nat → Prop} (this : Nat) (a1 : Int32) (C : sa_C p s m args meth c cX12_takes RX12 "takes" 2 (some .boolean) D ad cA A) : sa_Sg p l e s m args below meth c 2 2 D ad cA A sa_eI 0 [(0, .ref (ad this)), (1, .int a1)] [] (f_X12_takes this a1) := by
  unfold f_X12_takes
  refine sa_gdI ?_
  refine sa_aload_n C d_X12_takes_0 rfl 0 rfl ?_
  refine sa_getI C fd_X12_159 d_X12_takes_1 (fun v1 => ?_)
  refine sa_iconst (v := (-1)) C d_X12_takes_4 (by decide) ?_
  refine sa_join0 16 ([(0, .ref (ad this))]) ([]) (?_) (fun j16 hj16 => ?_)
  · refine sa_aload_n C d_X12_takes_16 rfl 0 rfl ?_
    refine sa_invV (ci := 12) C (k_X12_fails this) q1657 ds_X12_fails q128 rfl q1656 q50 q1654 (gd_X12_fails this) rfl rfl rfl (Nat.le_of_ble_eq_true rfl) (by decide) (by decide) d_X12_takes_17 (fun v2 => ?_)
    exact sa_zret C d_X12_takes_20
  refine sa_icmp_ne (tgt := 16) C d_X12_takes_5 (by decide) ?_ ?_
  · exact sa_sub [0] rfl (hj16)
  refine sa_aload_n C d_X12_takes_8 rfl 0 rfl ?_
  refine sa_invV (ci := 12) C (k_X12_look this) q1653 ds_X12_look q128 rfl q1652 q49 q1650 (gd_X12_look this) rfl rfl rfl (Nat.le_of_ble_eq_true rfl) (by decide) (by decide) d_X12_takes_9 (fun v3 => ?_)
  refine sa_iload_n C d_X12_takes_12 rfl 1 rfl ?_
  refine sa_icmp_eq (tgt := 21) C d_X12_takes_13 (by decide) ?_ ?_
  · refine sa_aload_n C d_X12_takes_21 rfl 0 rfl ?_
    refine sa_dup C d_X12_takes_22 rfl ?_
    refine sa_getI C fd_X12_150 d_X12_takes_23 (fun v4 => ?_)
    refine sa_iconst (v := 1) C d_X12_takes_26 (by decide) ?_
    refine sa_iadd C d_X12_takes_27 ?_
    refine sa_putI C fd_X12_150 d_X12_takes_28 ?_
    refine sa_iconst (v := 1) C d_X12_takes_31 (by decide) ?_
    exact sa_zret C d_X12_takes_32
  exact sa_sub [0] rfl (hj16)
theorem k_X12_takes (this : Nat) (a1 : Int32) : sa_Met 2 yX12_takes cX12_takes 2 (some .boolean) (fun ad => [.ref (ad this), .int a1]) sa_eI (f_X12_takes this a1) := sa_mk (by decide) (fun ad => Nat.le_of_ble_eq_true rfl) (fun p l e s m args below meth c D ad cA A C => b_X12_takes this a1 C)
theorem gd_X12_takes (this : Nat) (a1 : Int32) (σ : sa_St) (r : Int32) (τ : sa_St) (h : f_X12_takes this a1 σ = some (r, τ)) : sa_sh this = some (.inl 12) := sa_gd_ok h
theorem d_X12_isDigit_0 : decode cX12_isDigit 0 = .ok (.aload_n 0, 1) := by decide +kernel
theorem d_X12_isDigit_1 : decode cX12_isDigit 1 = .ok (.getfield 150, 3) := by decide +kernel
theorem d_X12_isDigit_4 : decode cX12_isDigit 4 = .ok (.aload_n 0, 1) := by decide +kernel
theorem d_X12_isDigit_5 : decode cX12_isDigit 5 = .ok (.getfield 153, 3) := by decide +kernel
theorem d_X12_isDigit_8 : decode cX12_isDigit 8 = .ok (.if_icmp .ge 45, 3) := by decide +kernel
theorem d_X12_isDigit_11 : decode cX12_isDigit 11 = .ok (.aload_n 0, 1) := by decide +kernel
theorem d_X12_isDigit_12 : decode cX12_isDigit 12 = .ok (.getfield 23, 3) := by decide +kernel
theorem d_X12_isDigit_15 : decode cX12_isDigit 15 = .ok (.aload_n 0, 1) := by decide +kernel
theorem d_X12_isDigit_16 : decode cX12_isDigit 16 = .ok (.getfield 156, 3) := by decide +kernel
theorem d_X12_isDigit_19 : decode cX12_isDigit 19 = .ok (.aload_n 0, 1) := by decide +kernel
theorem d_X12_isDigit_20 : decode cX12_isDigit 20 = .ok (.getfield 150, 3) := by decide +kernel
theorem d_X12_isDigit_23 : decode cX12_isDigit 23 = .ok (.iadd, 1) := by decide +kernel
theorem d_X12_isDigit_24 : decode cX12_isDigit 24 = .ok (.baload, 1) := by decide +kernel
theorem d_X12_isDigit_25 : decode cX12_isDigit 25 = .ok (.bipush 48, 2) := by decide +kernel
theorem d_X12_isDigit_27 : decode cX12_isDigit 27 = .ok (.if_icmp .lt 26, 3) := by decide +kernel
theorem d_X12_isDigit_30 : decode cX12_isDigit 30 = .ok (.aload_n 0, 1) := by decide +kernel
theorem d_X12_isDigit_31 : decode cX12_isDigit 31 = .ok (.getfield 23, 3) := by decide +kernel
theorem d_X12_isDigit_34 : decode cX12_isDigit 34 = .ok (.aload_n 0, 1) := by decide +kernel
theorem d_X12_isDigit_35 : decode cX12_isDigit 35 = .ok (.getfield 156, 3) := by decide +kernel
theorem d_X12_isDigit_38 : decode cX12_isDigit 38 = .ok (.aload_n 0, 1) := by decide +kernel
theorem d_X12_isDigit_39 : decode cX12_isDigit 39 = .ok (.getfield 150, 3) := by decide +kernel
theorem d_X12_isDigit_42 : decode cX12_isDigit 42 = .ok (.iadd, 1) := by decide +kernel
theorem d_X12_isDigit_43 : decode cX12_isDigit 43 = .ok (.baload, 1) := by decide +kernel
theorem d_X12_isDigit_44 : decode cX12_isDigit 44 = .ok (.bipush 57, 2) := by decide +kernel
theorem d_X12_isDigit_46 : decode cX12_isDigit 46 = .ok (.if_icmp .gt 7, 3) := by decide +kernel
theorem d_X12_isDigit_49 : decode cX12_isDigit 49 = .ok (.iconst 1, 1) := by decide +kernel
theorem d_X12_isDigit_50 : decode cX12_isDigit 50 = .ok (.goto 4, 3) := by decide +kernel
theorem d_X12_isDigit_53 : decode cX12_isDigit 53 = .ok (.iconst 0, 1) := by decide +kernel
theorem d_X12_isDigit_54 : decode cX12_isDigit 54 = .ok (.ireturn, 1) := by decide +kernel
def f_X12_isDigit (this : Nat) : sa_M Int32 :=
sa_gd 12 this (
sa_bnd (sa_rdI 12 this 10) fun v1 =>
sa_bnd (sa_rdI 12 this 9) fun v2 =>
sa_jn1 (fun (y3 : Int32) =>
sa_retZ y3) fun j54 =>
sa_jn0 (j54 0) fun j53 =>
if v2 ≤ v1 then
j53
else
sa_bnd (sa_rdR 12 this 5) fun v4 =>
sa_bnd (sa_rdI 12 this 8) fun v5 =>
sa_bnd (sa_rdI 12 this 10) fun v6 =>
sa_bnd (sa_ldI .byte v4 (v5 + v6)) fun v7 =>
if v7 < 48 then
j53
else
sa_bnd (sa_rdR 12 this 5) fun v8 =>
sa_bnd (sa_rdI 12 this 8) fun v9 =>
sa_bnd (sa_rdI 12 this 10) fun v10 =>
sa_bnd (sa_ldI .byte v8 (v9 + v10)) fun v11 =>
if 57 < v11 then
j53
else
j54 1)
set_option maxHeartbeats 1000000 in
set_option maxRecDepth 10000 in
theorem b_X12_isDigit {p : Program} {l : Launch} {e : Env} {s : State} {m : MethodId} {args : Array Value} {below : List Frame} {meth : Method} {c : Code} {D : va_G} {ad : Nat → Nat} {cA : FieldType → ClassId} {A : Nat → Prop} (this : Nat) (C : sa_C p s m args meth c cX12_isDigit RX12 "isDigit" 1 (some .boolean) D ad cA A) : sa_Sg p l e s m args below meth c 1 1 D ad cA A sa_eI 0 [(0, .ref (ad this))] [] (f_X12_isDigit this) := by
  unfold f_X12_isDigit
  refine sa_gdI ?_
  refine sa_aload_n C d_X12_isDigit_0 rfl 0 rfl ?_
  refine sa_getI C fd_X12_150 d_X12_isDigit_1 (fun v1 => ?_)
  refine sa_aload_n C d_X12_isDigit_4 rfl 0 rfl ?_
  refine sa_getI C fd_X12_153 d_X12_isDigit_5 (fun v2 => ?_)
  refine sa_join1 54 (fun y3 => []) (fun y3 => [.int y3]) (fun y3 => ?_) (fun j54 hj54 => ?_)
  · exact sa_zret C d_X12_isDigit_54
  refine sa_join0 53 ([]) ([]) (?_) (fun j53 hj53 => ?_)
  · refine sa_iconst (v := 0) C d_X12_isDigit_53 (by decide) ?_
    exact sa_sub [] rfl (hj54 _)
  refine sa_icmp_ge (tgt := 53) C d_X12_isDigit_8 (by decide) ?_ ?_
  · exact sa_sub [] rfl (hj53)
  refine sa_aload_n C d_X12_isDigit_11 rfl 0 rfl ?_
  refine sa_getR C fd_X12_23 rfl d_X12_isDigit_12 (fun v4 => ?_)
  refine sa_aload_n C d_X12_isDigit_15 rfl 0 rfl ?_
  refine sa_getI C fd_X12_156 d_X12_isDigit_16 (fun v5 => ?_)
  refine sa_aload_n C d_X12_isDigit_19 rfl 0 rfl ?_
  refine sa_getI C fd_X12_150 d_X12_isDigit_20 (fun v6 => ?_)
  refine sa_iadd C d_X12_isDigit_23 ?_
  refine sa_bald C d_X12_isDigit_24 (fun v7 => ?_)
  refine sa_bipush (v := 48) C d_X12_isDigit_25 (by decide) ?_
  refine sa_icmp_lt (tgt := 53) C d_X12_isDigit_27 (by decide) ?_ ?_
  · exact sa_sub [] rfl (hj53)
  refine sa_aload_n C d_X12_isDigit_30 rfl 0 rfl ?_
  refine sa_getR C fd_X12_23 rfl d_X12_isDigit_31 (fun v8 => ?_)
  refine sa_aload_n C d_X12_isDigit_34 rfl 0 rfl ?_
  refine sa_getI C fd_X12_156 d_X12_isDigit_35 (fun v9 => ?_)
  refine sa_aload_n C d_X12_isDigit_38 rfl 0 rfl ?_
  refine sa_getI C fd_X12_150 d_X12_isDigit_39 (fun v10 => ?_)
  refine sa_iadd C d_X12_isDigit_42 ?_
  refine sa_bald C d_X12_isDigit_43 (fun v11 => ?_)
  refine sa_bipush (v := 57) C d_X12_isDigit_44 (by decide) ?_
  refine sa_icmp_gt (tgt := 53) C d_X12_isDigit_46 (by decide) ?_ ?_
  · exact sa_sub [] rfl (hj53)
  refine sa_iconst (v := 1) C d_X12_isDigit_49 (by decide) ?_
  refine sa_goto (tgt := 54) C d_X12_isDigit_50 (by decide) ?_
  exact sa_sub [] rfl (hj54 _)
theorem k_X12_isDigit (this : Nat) : sa_Met 1 yX12_isDigit cX12_isDigit 1 (some .boolean) (fun ad => [.ref (ad this)]) sa_eI (f_X12_isDigit this) := sa_mk (by decide) (fun ad => Nat.le_of_ble_eq_true rfl) (fun p l e s m args below meth c D ad cA A C => b_X12_isDigit this C)
theorem gd_X12_isDigit (this : Nat) (σ : sa_St) (r : Int32) (τ : sa_St) (h : f_X12_isDigit this σ = some (r, τ)) : sa_sh this = some (.inl 12) := sa_gd_ok h
theorem d_X12_within_0 : decode cX12_within 0 = .ok (.ldc2_w 172, 3) := by decide +kernel
theorem d_X12_within_3 : decode cX12_within 3 = .ok (.ldc2_w 174, 3) := by decide +kernel
theorem d_X12_within_6 : decode cX12_within 6 = .ok (.lload_n 0, 1) := by decide +kernel
theorem d_X12_within_7 : decode cX12_within 7 = .ok (.invokestatic 176, 3) := by decide +kernel
theorem d_X12_within_10 : decode cX12_within 10 = .ok (.invokestatic 182, 3) := by decide +kernel
theorem d_X12_within_13 : decode cX12_within 13 = .ok (.l2i, 1) := by decide +kernel
theorem d_X12_within_14 : decode cX12_within 14 = .ok (.ireturn, 1) := by decide +kernel
def f_X12_within (a1 : Int64) : sa_M Int32 :=
sa_ret (((if (if a1 < 1000000 then a1 else 1000000) < (-1000000) then (-1000000) else (if a1 < 1000000 then a1 else 1000000)).toInt32) : Int32)
set_option maxHeartbeats 1000000 in
set_option maxRecDepth 10000 in
theorem b_X12_within {p : Program} {l : Launch} {e : Env} {s : State} {m : MethodId} {args : Array Value} {below : List Frame} {meth : Method} {c : Code} {D : va_G} {ad : Nat → Nat} {cA : FieldType → ClassId} {A : Nat → Prop} (a1 : Int64) (C : sa_C p s m args meth c cX12_within RX12 "within" 2 (some .int) D ad cA A) : sa_Sg p l e s m args below meth c 2 1 D ad cA A sa_eI 0 [(0, .long a1)] [] (f_X12_within a1) := by
  unfold f_X12_within
  refine sa_ldc2 (v := (-1000000)) C d_X12_within_0 q1745 ?_
  refine sa_ldc2 (v := 1000000) C d_X12_within_3 q1746 ?_
  refine sa_lload_n C d_X12_within_6 rfl 0 rfl ?_
  refine sa_mminL C q1747 (Nat.le_of_ble_eq_true rfl) (by decide) q1748 q130 q1749 d_X12_within_7 ?_
  refine sa_mmaxL C q1750 (Nat.le_of_ble_eq_true rfl) (by decide) q1751 q130 q1752 d_X12_within_10 ?_
  refine sa_l2i C d_X12_within_13 ?_
  exact sa_iret C d_X12_within_14
theorem k_X12_within (a1 : Int64) : sa_Met 1 yX12_within cX12_within 2 (some .int) (fun ad => [.long a1]) sa_eI (f_X12_within a1) := sa_mk (by decide) (fun ad => Nat.le_of_ble_eq_true rfl) (fun p l e s m args below meth c D ad cA A C => b_X12_within a1 C)
theorem d_X12_atom_0 : decode cX12_atom 0 = .ok (.aload_n 0, 1) := by decide +kernel
theorem d_X12_atom_1 : decode cX12_atom 1 = .ok (.invokevirtual 169, 3) := by decide +kernel
theorem d_X12_atom_4 : decode cX12_atom 4 = .ok (.istore_n 1, 1) := by decide +kernel
theorem d_X12_atom_5 : decode cX12_atom 5 = .ok (.ldc 32, 2) := by decide +kernel
theorem d_X12_atom_7 : decode cX12_atom 7 = .ok (.iload_n 1, 1) := by decide +kernel
theorem d_X12_atom_8 : decode cX12_atom 8 = .ok (.invokestatic 185, 3) := by decide +kernel
theorem d_X12_atom_11 : decode cX12_atom 11 = .ok (.ifCond .eq 20, 3) := by decide +kernel
theorem d_X12_atom_14 : decode cX12_atom 14 = .ok (.aload_n 0, 1) := by decide +kernel
theorem d_X12_atom_15 : decode cX12_atom 15 = .ok (.dup, 1) := by decide +kernel
theorem d_X12_atom_16 : decode cX12_atom 16 = .ok (.getfield 150, 3) := by decide +kernel
theorem d_X12_atom_19 : decode cX12_atom 19 = .ok (.iconst 1, 1) := by decide +kernel
theorem d_X12_atom_20 : decode cX12_atom 20 = .ok (.iadd, 1) := by decide +kernel
theorem d_X12_atom_21 : decode cX12_atom 21 = .ok (.putfield 150, 3) := by decide +kernel
theorem d_X12_atom_24 : decode cX12_atom 24 = .ok (.aload_n 0, 1) := by decide +kernel
theorem d_X12_atom_25 : decode cX12_atom 25 = .ok (.getfield 20, 3) := by decide +kernel
theorem d_X12_atom_28 : decode cX12_atom 28 = .ok (.iload_n 1, 1) := by decide +kernel
theorem d_X12_atom_29 : decode cX12_atom 29 = .ok (.iaload, 1) := by decide +kernel
theorem d_X12_atom_30 : decode cX12_atom 30 = .ok (.ireturn, 1) := by decide +kernel
theorem d_X12_atom_31 : decode cX12_atom 31 = .ok (.iload_n 1, 1) := by decide +kernel
theorem d_X12_atom_32 : decode cX12_atom 32 = .ok (.bipush 91, 2) := by decide +kernel
theorem d_X12_atom_34 : decode cX12_atom 34 = .ok (.if_icmp .ne 40, 3) := by decide +kernel
theorem d_X12_atom_37 : decode cX12_atom 37 = .ok (.aload_n 0, 1) := by decide +kernel
theorem d_X12_atom_38 : decode cX12_atom 38 = .ok (.invokevirtual 189, 3) := by decide +kernel
theorem d_X12_atom_41 : decode cX12_atom 41 = .ok (.ifCond .ne 5, 3) := by decide +kernel
theorem d_X12_atom_44 : decode cX12_atom 44 = .ok (.iconst 0, 1) := by decide +kernel
theorem d_X12_atom_45 : decode cX12_atom 45 = .ok (.ireturn, 1) := by decide +kernel
theorem d_X12_atom_46 : decode cX12_atom 46 = .ok (.aload_n 0, 1) := by decide +kernel
theorem d_X12_atom_47 : decode cX12_atom 47 = .ok (.invokevirtual 192, 3) := by decide +kernel
theorem d_X12_atom_50 : decode cX12_atom 50 = .ok (.istore_n 2, 1) := by decide +kernel
theorem d_X12_atom_51 : decode cX12_atom 51 = .ok (.aload_n 0, 1) := by decide +kernel
theorem d_X12_atom_52 : decode cX12_atom 52 = .ok (.bipush 93, 2) := by decide +kernel
theorem d_X12_atom_54 : decode cX12_atom 54 = .ok (.invokevirtual 195, 3) := by decide +kernel
theorem d_X12_atom_57 : decode cX12_atom 57 = .ok (.ifCond .ne 5, 3) := by decide +kernel
theorem d_X12_atom_60 : decode cX12_atom 60 = .ok (.iconst 0, 1) := by decide +kernel
theorem d_X12_atom_61 : decode cX12_atom 61 = .ok (.ireturn, 1) := by decide +kernel
theorem d_X12_atom_62 : decode cX12_atom 62 = .ok (.aload_n 0, 1) := by decide +kernel
theorem d_X12_atom_63 : decode cX12_atom 63 = .ok (.dup, 1) := by decide +kernel
theorem d_X12_atom_64 : decode cX12_atom 64 = .ok (.getfield 162, 3) := by decide +kernel
theorem d_X12_atom_67 : decode cX12_atom 67 = .ok (.iconst 1, 1) := by decide +kernel
theorem d_X12_atom_68 : decode cX12_atom 68 = .ok (.isub, 1) := by decide +kernel
theorem d_X12_atom_69 : decode cX12_atom 69 = .ok (.putfield 162, 3) := by decide +kernel
theorem d_X12_atom_72 : decode cX12_atom 72 = .ok (.iload_n 2, 1) := by decide +kernel
theorem d_X12_atom_73 : decode cX12_atom 73 = .ok (.ireturn, 1) := by decide +kernel
theorem d_X12_atom_74 : decode cX12_atom 74 = .ok (.aload_n 0, 1) := by decide +kernel
theorem d_X12_atom_75 : decode cX12_atom 75 = .ok (.invokevirtual 199, 3) := by decide +kernel
theorem d_X12_atom_78 : decode cX12_atom 78 = .ok (.ifCond .ne 8, 3) := by decide +kernel
theorem d_X12_atom_81 : decode cX12_atom 81 = .ok (.aload_n 0, 1) := by decide +kernel
theorem d_X12_atom_82 : decode cX12_atom 82 = .ok (.invokevirtual 165, 3) := by decide +kernel
theorem d_X12_atom_85 : decode cX12_atom 85 = .ok (.pop, 1) := by decide +kernel
theorem d_X12_atom_86 : decode cX12_atom 86 = .ok (.iconst 0, 1) := by decide +kernel
theorem d_X12_atom_87 : decode cX12_atom 87 = .ok (.istore_n 2, 1) := by decide +kernel
theorem d_X12_atom_88 : decode cX12_atom 88 = .ok (.iconst 0, 1) := by decide +kernel
theorem d_X12_atom_89 : decode cX12_atom 89 = .ok (.istore_n 3, 1) := by decide +kernel
theorem d_X12_atom_90 : decode cX12_atom 90 = .ok (.aload_n 0, 1) := by decide +kernel
theorem d_X12_atom_91 : decode cX12_atom 91 = .ok (.invokevirtual 199, 3) := by decide +kernel
theorem d_X12_atom_94 : decode cX12_atom 94 = .ok (.ifCond .eq 62, 3) := by decide +kernel
theorem d_X12_atom_97 : decode cX12_atom 97 = .ok (.aload_n 0, 1) := by decide +kernel
theorem d_X12_atom_98 : decode cX12_atom 98 = .ok (.getfield 159, 3) := by decide +kernel
theorem d_X12_atom_101 : decode cX12_atom 101 = .ok (.iconst (-1), 1) := by decide +kernel
theorem d_X12_atom_102 : decode cX12_atom 102 = .ok (.if_icmp .ne 54, 3) := by decide +kernel
theorem d_X12_atom_105 : decode cX12_atom 105 = .ok (.iload_n 3, 1) := by decide +kernel
theorem d_X12_atom_106 : decode cX12_atom 106 = .ok (.iconst 4, 1) := by decide +kernel
theorem d_X12_atom_107 : decode cX12_atom 107 = .ok (.if_icmp .ne 10, 3) := by decide +kernel
theorem d_X12_atom_110 : decode cX12_atom 110 = .ok (.aload_n 0, 1) := by decide +kernel
theorem d_X12_atom_111 : decode cX12_atom 111 = .ok (.invokevirtual 165, 3) := by decide +kernel
theorem d_X12_atom_114 : decode cX12_atom 114 = .ok (.pop, 1) := by decide +kernel
theorem d_X12_atom_115 : decode cX12_atom 115 = .ok (.iconst 0, 1) := by decide +kernel
theorem d_X12_atom_116 : decode cX12_atom 116 = .ok (.ireturn, 1) := by decide +kernel
theorem d_X12_atom_117 : decode cX12_atom 117 = .ok (.bipush 10, 2) := by decide +kernel
theorem d_X12_atom_119 : decode cX12_atom 119 = .ok (.iload_n 2, 1) := by decide +kernel
theorem d_X12_atom_120 : decode cX12_atom 120 = .ok (.imul, 1) := by decide +kernel
theorem d_X12_atom_121 : decode cX12_atom 121 = .ok (.aload_n 0, 1) := by decide +kernel
theorem d_X12_atom_122 : decode cX12_atom 122 = .ok (.getfield 23, 3) := by decide +kernel
theorem d_X12_atom_125 : decode cX12_atom 125 = .ok (.aload_n 0, 1) := by decide +kernel
theorem d_X12_atom_126 : decode cX12_atom 126 = .ok (.getfield 156, 3) := by decide +kernel
theorem d_X12_atom_129 : decode cX12_atom 129 = .ok (.aload_n 0, 1) := by decide +kernel
theorem d_X12_atom_130 : decode cX12_atom 130 = .ok (.getfield 150, 3) := by decide +kernel
theorem d_X12_atom_133 : decode cX12_atom 133 = .ok (.iadd, 1) := by decide +kernel
theorem d_X12_atom_134 : decode cX12_atom 134 = .ok (.baload, 1) := by decide +kernel
theorem d_X12_atom_135 : decode cX12_atom 135 = .ok (.iadd, 1) := by decide +kernel
theorem d_X12_atom_136 : decode cX12_atom 136 = .ok (.bipush 48, 2) := by decide +kernel
theorem d_X12_atom_138 : decode cX12_atom 138 = .ok (.isub, 1) := by decide +kernel
theorem d_X12_atom_139 : decode cX12_atom 139 = .ok (.istore_n 2, 1) := by decide +kernel
theorem d_X12_atom_140 : decode cX12_atom 140 = .ok (.aload_n 0, 1) := by decide +kernel
theorem d_X12_atom_141 : decode cX12_atom 141 = .ok (.dup, 1) := by decide +kernel
theorem d_X12_atom_142 : decode cX12_atom 142 = .ok (.getfield 150, 3) := by decide +kernel
theorem d_X12_atom_145 : decode cX12_atom 145 = .ok (.iconst 1, 1) := by decide +kernel
theorem d_X12_atom_146 : decode cX12_atom 146 = .ok (.iadd, 1) := by decide +kernel
theorem d_X12_atom_147 : decode cX12_atom 147 = .ok (.putfield 150, 3) := by decide +kernel
theorem d_X12_atom_150 : decode cX12_atom 150 = .ok (.iinc 3 1, 3) := by decide +kernel
theorem d_X12_atom_153 : decode cX12_atom 153 = .ok (.goto (-63), 3) := by decide +kernel
theorem d_X12_atom_156 : decode cX12_atom 156 = .ok (.iload_n 2, 1) := by decide +kernel
theorem d_X12_atom_157 : decode cX12_atom 157 = .ok (.ireturn, 1) := by decide +kernel
def fb_X12_atom (g_X12_atom : Nat → sa_M Int32) (g_X12_sum : Nat → sa_M Int32) (g_X12_term : Nat → sa_M Int32) (this : Nat) : sa_M Int32 :=
sa_gd 12 this (
sa_bnd (f_X12_look this) fun v1 =>
sa_bnd (f_X12_isAmong (1000 + 0) v1) fun v2 =>
if v2 = 0 then
if ¬ v1 = 91 then
sa_bnd (f_X12_isDigit this) fun v3 =>
sa_jn0 (sa_let (0 : Int32) fun x4 =>
sa_let (0 : Int32) fun x5 =>
sa_wh2 (fun j90 (x6 : Int32) (x7 : Int32) =>
sa_bnd (f_X12_isDigit this) fun v8 =>
sa_jn0 (sa_ret (x6 : Int32)) fun j156 =>
if v8 = 0 then
j156
else
sa_bnd (sa_rdI 12 this 11) fun v9 =>
if ¬ v9 = (-1) then
j156
else
if ¬ x7 = 4 then
sa_bnd (sa_rdR 12 this 5) fun v10 =>
sa_bnd (sa_rdI 12 this 8) fun v11 =>
sa_bnd (sa_rdI 12 this 10) fun v12 =>
sa_bnd (sa_ldI .byte v10 (v11 + v12)) fun v13 =>
sa_let ((((10 * x6) + v13) - 48) : Int32) fun x14 =>
sa_bnd (sa_rdI 12 this 10) fun v15 =>
sa_bnd (sa_wrI 12 this 10 (v15 + 1)) fun _ =>
sa_let ((x7 + 1) : Int32) fun x16 =>
j90 x14 x16
else
sa_bnd (f_X12_fails this) fun v17 =>
sa_ret (0 : Int32)) sa_F x4 x5) fun j86 =>
if ¬ v3 = 0 then
j86
else
sa_bnd (f_X12_fails this) fun v18 =>
j86
else
sa_bnd (f_X12_goesIn this) fun v19 =>
if ¬ v19 = 0 then
sa_bnd (g_X12_sum this) fun v20 =>
sa_bnd (f_X12_takes this 93) fun v21 =>
if ¬ v21 = 0 then
sa_bnd (sa_rdI 12 this 12) fun v22 =>
sa_bnd (sa_wrI 12 this 12 (v22 - 1)) fun _ =>
sa_ret (v20 : Int32)
else
sa_ret (0 : Int32)
else
sa_ret (0 : Int32)
else
sa_bnd (sa_rdI 12 this 10) fun v23 =>
sa_bnd (sa_wrI 12 this 10 (v23 + 1)) fun _ =>
sa_bnd (sa_rdR 12 this 4) fun v24 =>
sa_bnd (sa_ldI .int v24 v1) fun v25 =>
sa_ret (v25 : Int32))
set_option maxHeartbeats 1000000 in
set_option maxRecDepth 10000 in
theorem b_X12_atom {d : Nat} (hd0 : 5 ≤ d) (g_X12_atom : Nat → sa_M Int32) (g_X12_sum : Nat → sa_M Int32) (g_X12_term : Nat → sa_M Int32) (h_X12_atom : ∀ (this : Nat), sa_Met d yX12_atom cX12_atom 4 (some .int) (fun ad => [.ref (ad this)]) sa_eI (g_X12_atom this)) (e_X12_atom : ∀ (this : Nat) σ r τ, g_X12_atom this σ = some (r, τ) → sa_sh this = some (.inl 12)) (h_X12_sum : ∀ (this : Nat), sa_Met d yX12_sum cX12_sum 5 (some .int) (fun ad => [.ref (ad this)]) sa_eI (g_X12_sum this)) (e_X12_sum : ∀ (this : Nat) σ r τ, g_X12_sum this σ = some (r, τ) → sa_sh this = some (.inl 12)) (h_X12_term : ∀ (this : Nat), sa_Met d yX12_term cX12_term 5 (some .int) (fun ad => [.ref (ad this)]) sa_eI (g_X12_term this)) (e_X12_term : ∀ (this : Nat) σ r τ, g_X12_term this σ = some (r, τ) → sa_sh this = some (.inl 12)) {p : Program} {l : Launch} {e : Env} {s : State} {m : MethodId} {args : Array Value} {below : List Frame} {meth : Method} {c : Code} {D : va_G} {ad : Nat → Nat} {cA : FieldType → ClassId} {A : Nat → Prop} (this : Nat) (C : sa_C p s m args meth c cX12_atom RX12 "atom" 4 (some .int) D ad cA A) : sa_Sg p l e s m args below meth c 4 (d + 1) D ad cA A sa_eI 0 [(0, .ref (ad this))] [] (fb_X12_atom g_X12_atom g_X12_sum g_X12_term this) := by
  unfold fb_X12_atom
  refine sa_gdI ?_
  refine sa_aload_n C d_X12_atom_0 rfl 0 rfl ?_
  refine sa_invV (ci := 12) C (k_X12_look this) q1653 ds_X12_look q128 rfl q1652 q49 q1650 (gd_X12_look this) rfl rfl rfl (Nat.le_of_ble_eq_true rfl) (by omega) (by decide) d_X12_atom_1 (fun v1 => ?_)
  refine sa_istore_n (lv' := [(1, .int v1), (0, .ref (ad this))]) C d_X12_atom_4 rfl (by decide) rfl ?_
  refine sa_ldcS C 7 rfl d_X12_atom_5 ?_
  refine sa_iload_n C d_X12_atom_7 rfl 0 rfl ?_
  refine sa_invS C (k_X12_isAmong (1000 + 0) v1) q1709 ds_X12_isAmong q128 q1708 q1707 rfl rfl rfl (Nat.le_of_ble_eq_true rfl) (by omega) (by decide) d_X12_atom_8 (fun v2 => ?_)
  refine sa_if_eq (tgt := 31) C d_X12_atom_11 (by decide) ?_ ?_
  · refine sa_iload_n C d_X12_atom_31 rfl 0 rfl ?_
    refine sa_bipush (v := 91) C d_X12_atom_32 (by decide) ?_
    refine sa_icmp_ne (tgt := 74) C d_X12_atom_34 (by decide) ?_ ?_
    · refine sa_aload_n C d_X12_atom_74 rfl 1 rfl ?_
      refine sa_invV (ci := 12) C (k_X12_isDigit this) q1687 ds_X12_isDigit q128 rfl q1686 q53 q1684 (gd_X12_isDigit this) rfl rfl rfl (Nat.le_of_ble_eq_true rfl) (by omega) (by decide) d_X12_atom_75 (fun v3 => ?_)
      refine sa_join0 86 ([(0, .ref (ad this))]) ([]) (?_) (fun j86 hj86 => ?_)
      · refine sa_iconst (v := 0) C d_X12_atom_86 (by decide) ?_
        refine sa_topi (fun x4 => ?_)
        refine sa_istore_n (lv' := [(2, .int x4), (0, .ref (ad this))]) C d_X12_atom_87 rfl (by decide) rfl ?_
        refine sa_iconst (v := 0) C d_X12_atom_88 (by decide) ?_
        refine sa_topi (fun x5 => ?_)
        refine sa_istore_n (lv' := [(3, .int x5), (2, .int x4), (0, .ref (ad this))]) C d_X12_atom_89 rfl (by decide) rfl ?_
        refine sa_sub [2, 1, 0] rfl (sa_loop2 (fun x6 x7 => [(0, .ref (ad this)), (2, .int x6), (3, .int x7)]) (fun x6 x7 => []) (fun j90 hj90 x6 x7 => ?_) _ _ _)
        refine sa_aload_n C d_X12_atom_90 rfl 0 rfl ?_
        refine sa_invV (ci := 12) C (k_X12_isDigit this) q1687 ds_X12_isDigit q128 rfl q1686 q53 q1684 (gd_X12_isDigit this) rfl rfl rfl (Nat.le_of_ble_eq_true rfl) (by omega) (by decide) d_X12_atom_91 (fun v8 => ?_)
        refine sa_join0 156 ([(2, .int x6)]) ([]) (?_) (fun j156 hj156 => ?_)
        · refine sa_iload_n C d_X12_atom_156 rfl 0 rfl ?_
          exact sa_iret C d_X12_atom_157
        refine sa_if_eq (tgt := 156) C d_X12_atom_94 (by decide) ?_ ?_
        · exact sa_sub [1] rfl (hj156)
        refine sa_aload_n C d_X12_atom_97 rfl 0 rfl ?_
        refine sa_getI C fd_X12_159 d_X12_atom_98 (fun v9 => ?_)
        refine sa_iconst (v := (-1)) C d_X12_atom_101 (by decide) ?_
        refine sa_icmp_ne (tgt := 156) C d_X12_atom_102 (by decide) ?_ ?_
        · exact sa_sub [1] rfl (hj156)
        refine sa_iload_n C d_X12_atom_105 rfl 2 rfl ?_
        refine sa_iconst (v := 4) C d_X12_atom_106 (by decide) ?_
        refine sa_icmp_ne (tgt := 117) C d_X12_atom_107 (by decide) ?_ ?_
        · refine sa_bipush (v := 10) C d_X12_atom_117 (by decide) ?_
          refine sa_iload_n C d_X12_atom_119 rfl 1 rfl ?_
          refine sa_imul C d_X12_atom_120 ?_
          refine sa_aload_n C d_X12_atom_121 rfl 0 rfl ?_
          refine sa_getR C fd_X12_23 rfl d_X12_atom_122 (fun v10 => ?_)
          refine sa_aload_n C d_X12_atom_125 rfl 0 rfl ?_
          refine sa_getI C fd_X12_156 d_X12_atom_126 (fun v11 => ?_)
          refine sa_aload_n C d_X12_atom_129 rfl 0 rfl ?_
          refine sa_getI C fd_X12_150 d_X12_atom_130 (fun v12 => ?_)
          refine sa_iadd C d_X12_atom_133 ?_
          refine sa_bald C d_X12_atom_134 (fun v13 => ?_)
          refine sa_iadd C d_X12_atom_135 ?_
          refine sa_bipush (v := 48) C d_X12_atom_136 (by decide) ?_
          refine sa_isub C d_X12_atom_138 ?_
          refine sa_topi (fun x14 => ?_)
          refine sa_istore_n (lv' := [(2, .int x14), (0, .ref (ad this)), (3, .int x7)]) C d_X12_atom_139 rfl (by decide) rfl ?_
          refine sa_aload_n C d_X12_atom_140 rfl 1 rfl ?_
          refine sa_dup C d_X12_atom_141 rfl ?_
          refine sa_getI C fd_X12_150 d_X12_atom_142 (fun v15 => ?_)
          refine sa_iconst (v := 1) C d_X12_atom_145 (by decide) ?_
          refine sa_iadd C d_X12_atom_146 ?_
          refine sa_putI C fd_X12_150 d_X12_atom_147 ?_
          refine sa_iinc C (fun zz => [(3, .int zz), (2, .int x14), (0, .ref (ad this))]) d_X12_atom_150 2 rfl rfl (by decide) (fun _ => rfl) (fun x16 => ?_)
          refine sa_goto (tgt := 90) C d_X12_atom_153 (by decide) ?_
          exact sa_sub [2, 1, 0] rfl (hj90 _ _)
        refine sa_aload_n C d_X12_atom_110 rfl 0 rfl ?_
        refine sa_invV (ci := 12) C (k_X12_fails this) q1657 ds_X12_fails q128 rfl q1656 q50 q1654 (gd_X12_fails this) rfl rfl rfl (Nat.le_of_ble_eq_true rfl) (by omega) (by decide) d_X12_atom_111 (fun v17 => ?_)
        refine sa_pop C d_X12_atom_114 rfl ?_
        refine sa_iconst (v := 0) C d_X12_atom_115 (by decide) ?_
        exact sa_iret C d_X12_atom_116
      refine sa_if_ne (tgt := 86) C d_X12_atom_78 (by decide) ?_ ?_
      · exact sa_sub [1] rfl (hj86)
      refine sa_aload_n C d_X12_atom_81 rfl 1 rfl ?_
      refine sa_invV (ci := 12) C (k_X12_fails this) q1657 ds_X12_fails q128 rfl q1656 q50 q1654 (gd_X12_fails this) rfl rfl rfl (Nat.le_of_ble_eq_true rfl) (by omega) (by decide) d_X12_atom_82 (fun v18 => ?_)
      refine sa_pop C d_X12_atom_85 rfl ?_
      exact sa_sub [1] rfl (hj86)
    refine sa_aload_n C d_X12_atom_37 rfl 1 rfl ?_
    refine sa_invV (ci := 12) C (k_X12_goesIn this) q1741 ds_X12_goesIn q128 rfl q1740 q65 q1738 (gd_X12_goesIn this) rfl rfl rfl (Nat.le_of_ble_eq_true rfl) (by omega) (by decide) d_X12_atom_38 (fun v19 => ?_)
    refine sa_if_ne (tgt := 46) C d_X12_atom_41 (by decide) ?_ ?_
    · refine sa_aload_n C d_X12_atom_46 rfl 1 rfl ?_
      refine sa_invV (ci := 12) C (h_X12_sum this) q1729 ds_X12_sum q128 rfl q1728 q62 q1726 (e_X12_sum this) rfl rfl rfl (Nat.le_of_ble_eq_true rfl) (by omega) (by decide) d_X12_atom_47 (fun v20 => ?_)
      refine sa_istore_n (lv' := [(2, .int v20), (1, .int v1), (0, .ref (ad this))]) C d_X12_atom_50 rfl (by decide) rfl ?_
      refine sa_aload_n C d_X12_atom_51 rfl 2 rfl ?_
      refine sa_bipush (v := 93) C d_X12_atom_52 (by decide) ?_
      refine sa_invV (ci := 12) C (k_X12_takes this 93) q1713 ds_X12_takes q128 rfl q1712 q58 q1710 (gd_X12_takes this 93) rfl rfl rfl (Nat.le_of_ble_eq_true rfl) (by omega) (by decide) d_X12_atom_54 (fun v21 => ?_)
      refine sa_if_ne (tgt := 62) C d_X12_atom_57 (by decide) ?_ ?_
      · refine sa_aload_n C d_X12_atom_62 rfl 2 rfl ?_
        refine sa_dup C d_X12_atom_63 rfl ?_
        refine sa_getI C fd_X12_162 d_X12_atom_64 (fun v22 => ?_)
        refine sa_iconst (v := 1) C d_X12_atom_67 (by decide) ?_
        refine sa_isub C d_X12_atom_68 ?_
        refine sa_putI C fd_X12_162 d_X12_atom_69 ?_
        refine sa_iload_n C d_X12_atom_72 rfl 0 rfl ?_
        exact sa_iret C d_X12_atom_73
      refine sa_iconst (v := 0) C d_X12_atom_60 (by decide) ?_
      exact sa_iret C d_X12_atom_61
    refine sa_iconst (v := 0) C d_X12_atom_44 (by decide) ?_
    exact sa_iret C d_X12_atom_45
  refine sa_aload_n C d_X12_atom_14 rfl 1 rfl ?_
  refine sa_dup C d_X12_atom_15 rfl ?_
  refine sa_getI C fd_X12_150 d_X12_atom_16 (fun v23 => ?_)
  refine sa_iconst (v := 1) C d_X12_atom_19 (by decide) ?_
  refine sa_iadd C d_X12_atom_20 ?_
  refine sa_putI C fd_X12_150 d_X12_atom_21 ?_
  refine sa_aload_n C d_X12_atom_24 rfl 1 rfl ?_
  refine sa_getR C fd_X12_20 rfl d_X12_atom_25 (fun v24 => ?_)
  refine sa_iload_n C d_X12_atom_28 rfl 0 rfl ?_
  refine sa_iald C d_X12_atom_29 (fun v25 => ?_)
  exact sa_iret C d_X12_atom_30
theorem d_X12_sum_0 : decode cX12_sum 0 = .ok (.aload_n 0, 1) := by decide +kernel
theorem d_X12_sum_1 : decode cX12_sum 1 = .ok (.invokevirtual 209, 3) := by decide +kernel
theorem d_X12_sum_4 : decode cX12_sum 4 = .ok (.istore_n 1, 1) := by decide +kernel
theorem d_X12_sum_5 : decode cX12_sum 5 = .ok (.aload_n 0, 1) := by decide +kernel
theorem d_X12_sum_6 : decode cX12_sum 6 = .ok (.getfield 159, 3) := by decide +kernel
theorem d_X12_sum_9 : decode cX12_sum 9 = .ok (.iconst (-1), 1) := by decide +kernel
theorem d_X12_sum_10 : decode cX12_sum 10 = .ok (.if_icmp .ne 74, 3) := by decide +kernel
theorem d_X12_sum_13 : decode cX12_sum 13 = .ok (.aload_n 0, 1) := by decide +kernel
theorem d_X12_sum_14 : decode cX12_sum 14 = .ok (.invokevirtual 169, 3) := by decide +kernel
theorem d_X12_sum_17 : decode cX12_sum 17 = .ok (.bipush 43, 2) := by decide +kernel
theorem d_X12_sum_19 : decode cX12_sum 19 = .ok (.if_icmp .eq 12, 3) := by decide +kernel
theorem d_X12_sum_22 : decode cX12_sum 22 = .ok (.aload_n 0, 1) := by decide +kernel
theorem d_X12_sum_23 : decode cX12_sum 23 = .ok (.invokevirtual 169, 3) := by decide +kernel
theorem d_X12_sum_26 : decode cX12_sum 26 = .ok (.bipush 45, 2) := by decide +kernel
theorem d_X12_sum_28 : decode cX12_sum 28 = .ok (.if_icmp .ne 56, 3) := by decide +kernel
theorem d_X12_sum_31 : decode cX12_sum 31 = .ok (.aload_n 0, 1) := by decide +kernel
theorem d_X12_sum_32 : decode cX12_sum 32 = .ok (.invokevirtual 169, 3) := by decide +kernel
theorem d_X12_sum_35 : decode cX12_sum 35 = .ok (.bipush 43, 2) := by decide +kernel
theorem d_X12_sum_37 : decode cX12_sum 37 = .ok (.if_icmp .ne 7, 3) := by decide +kernel
theorem d_X12_sum_40 : decode cX12_sum 40 = .ok (.iconst 1, 1) := by decide +kernel
theorem d_X12_sum_41 : decode cX12_sum 41 = .ok (.goto 4, 3) := by decide +kernel
theorem d_X12_sum_44 : decode cX12_sum 44 = .ok (.iconst 0, 1) := by decide +kernel
theorem d_X12_sum_45 : decode cX12_sum 45 = .ok (.istore_n 2, 1) := by decide +kernel
theorem d_X12_sum_46 : decode cX12_sum 46 = .ok (.aload_n 0, 1) := by decide +kernel
theorem d_X12_sum_47 : decode cX12_sum 47 = .ok (.dup, 1) := by decide +kernel
theorem d_X12_sum_48 : decode cX12_sum 48 = .ok (.getfield 150, 3) := by decide +kernel
theorem d_X12_sum_51 : decode cX12_sum 51 = .ok (.iconst 1, 1) := by decide +kernel
theorem d_X12_sum_52 : decode cX12_sum 52 = .ok (.iadd, 1) := by decide +kernel
theorem d_X12_sum_53 : decode cX12_sum 53 = .ok (.putfield 150, 3) := by decide +kernel
theorem d_X12_sum_56 : decode cX12_sum 56 = .ok (.aload_n 0, 1) := by decide +kernel
theorem d_X12_sum_57 : decode cX12_sum 57 = .ok (.invokevirtual 209, 3) := by decide +kernel
theorem d_X12_sum_60 : decode cX12_sum 60 = .ok (.i2l, 1) := by decide +kernel
theorem d_X12_sum_61 : decode cX12_sum 61 = .ok (.lstore_n 3, 1) := by decide +kernel
theorem d_X12_sum_62 : decode cX12_sum 62 = .ok (.iload_n 2, 1) := by decide +kernel
theorem d_X12_sum_63 : decode cX12_sum 63 = .ok (.ifCond .eq 10, 3) := by decide +kernel
theorem d_X12_sum_66 : decode cX12_sum 66 = .ok (.iload_n 1, 1) := by decide +kernel
theorem d_X12_sum_67 : decode cX12_sum 67 = .ok (.i2l, 1) := by decide +kernel
theorem d_X12_sum_68 : decode cX12_sum 68 = .ok (.lload_n 3, 1) := by decide +kernel
theorem d_X12_sum_69 : decode cX12_sum 69 = .ok (.ladd, 1) := by decide +kernel
theorem d_X12_sum_70 : decode cX12_sum 70 = .ok (.goto 7, 3) := by decide +kernel
theorem d_X12_sum_73 : decode cX12_sum 73 = .ok (.iload_n 1, 1) := by decide +kernel
theorem d_X12_sum_74 : decode cX12_sum 74 = .ok (.i2l, 1) := by decide +kernel
theorem d_X12_sum_75 : decode cX12_sum 75 = .ok (.lload_n 3, 1) := by decide +kernel
theorem d_X12_sum_76 : decode cX12_sum 76 = .ok (.lsub, 1) := by decide +kernel
theorem d_X12_sum_77 : decode cX12_sum 77 = .ok (.invokestatic 205, 3) := by decide +kernel
theorem d_X12_sum_80 : decode cX12_sum 80 = .ok (.istore_n 1, 1) := by decide +kernel
theorem d_X12_sum_81 : decode cX12_sum 81 = .ok (.goto (-76), 3) := by decide +kernel
theorem d_X12_sum_84 : decode cX12_sum 84 = .ok (.iload_n 1, 1) := by decide +kernel
theorem d_X12_sum_85 : decode cX12_sum 85 = .ok (.ireturn, 1) := by decide +kernel
def fb_X12_sum (g_X12_atom : Nat → sa_M Int32) (g_X12_sum : Nat → sa_M Int32) (g_X12_term : Nat → sa_M Int32) (this : Nat) : sa_M Int32 :=
sa_gd 12 this (
sa_bnd (g_X12_term this) fun v1 =>
sa_wh1 (fun j5 (x2 : Int32) =>
sa_bnd (sa_rdI 12 this 11) fun v3 =>
sa_jn0 (sa_ret (x2 : Int32)) fun j84 =>
if ¬ v3 = (-1) then
j84
else
sa_bnd (f_X12_look this) fun v4 =>
sa_jn0 (sa_bnd (f_X12_look this) fun v5 =>
sa_jn1 (fun (y6 : Int32) =>
sa_bnd (sa_rdI 12 this 10) fun v7 =>
sa_bnd (sa_wrI 12 this 10 (v7 + 1)) fun _ =>
sa_bnd (g_X12_term this) fun v8 =>
sa_let ((v8.toInt64) : Int64) fun x9 =>
sa_jn1 (fun (y10 : Int64) =>
sa_bnd (f_X12_within y10) fun v11 =>
j5 v11) fun j77 =>
if y6 = 0 then
j77 ((x2.toInt64) - x9)
else
j77 ((x2.toInt64) + x9)) fun j45 =>
if ¬ v5 = 43 then
j45 0
else
j45 1) fun j31 =>
if v4 = 43 then
j31
else
sa_bnd (f_X12_look this) fun v12 =>
if ¬ v12 = 45 then
j84
else
j31) sa_F v1)
set_option maxHeartbeats 1000000 in
set_option maxRecDepth 10000 in
theorem b_X12_sum {d : Nat} (hd0 : 5 ≤ d) (g_X12_atom : Nat → sa_M Int32) (g_X12_sum : Nat → sa_M Int32) (g_X12_term : Nat → sa_M Int32) (h_X12_atom : ∀ (this : Nat), sa_Met d yX12_atom cX12_atom 4 (some .int) (fun ad => [.ref (ad this)]) sa_eI (g_X12_atom this)) (e_X12_atom : ∀ (this : Nat) σ r τ, g_X12_atom this σ = some (r, τ) → sa_sh this = some (.inl 12)) (h_X12_sum : ∀ (this : Nat), sa_Met d yX12_sum cX12_sum 5 (some .int) (fun ad => [.ref (ad this)]) sa_eI (g_X12_sum this)) (e_X12_sum : ∀ (this : Nat) σ r τ, g_X12_sum this σ = some (r, τ) → sa_sh this = some (.inl 12)) (h_X12_term : ∀ (this : Nat), sa_Met d yX12_term cX12_term 5 (some .int) (fun ad => [.ref (ad this)]) sa_eI (g_X12_term this)) (e_X12_term : ∀ (this : Nat) σ r τ, g_X12_term this σ = some (r, τ) → sa_sh this = some (.inl 12)) {p : Program} {l : Launch} {e : Env} {s : State} {m : MethodId} {args : Array Value} {below : List Frame} {meth : Method} {c : Code} {D : va_G} {ad : Nat → Nat} {cA : FieldType → ClassId} {A : Nat → Prop} (this : Nat) (C : sa_C p s m args meth c cX12_sum RX12 "sum" 5 (some .int) D ad cA A) : sa_Sg p l e s m args below meth c 5 (d + 1) D ad cA A sa_eI 0 [(0, .ref (ad this))] [] (fb_X12_sum g_X12_atom g_X12_sum g_X12_term this) := by
  unfold fb_X12_sum
  refine sa_gdI ?_
  refine sa_aload_n C d_X12_sum_0 rfl 0 rfl ?_
  refine sa_invV (ci := 12) C (h_X12_term this) q1733 ds_X12_term q128 rfl q1732 q63 q1730 (e_X12_term this) rfl rfl rfl (Nat.le_of_ble_eq_true rfl) (by omega) (by decide) d_X12_sum_1 (fun v1 => ?_)
  refine sa_istore_n (lv' := [(1, .int v1), (0, .ref (ad this))]) C d_X12_sum_4 rfl (by decide) rfl ?_
  refine sa_sub [1, 0] rfl (sa_loop1 (fun x2 => [(0, .ref (ad this)), (1, .int x2)]) (fun x2 => []) (fun j5 hj5 x2 => ?_) _ _)
  refine sa_aload_n C d_X12_sum_5 rfl 0 rfl ?_
  refine sa_getI C fd_X12_159 d_X12_sum_6 (fun v3 => ?_)
  refine sa_iconst (v := (-1)) C d_X12_sum_9 (by decide) ?_
  refine sa_join0 84 ([(1, .int x2)]) ([]) (?_) (fun j84 hj84 => ?_)
  · refine sa_iload_n C d_X12_sum_84 rfl 0 rfl ?_
    exact sa_iret C d_X12_sum_85
  refine sa_icmp_ne (tgt := 84) C d_X12_sum_10 (by decide) ?_ ?_
  · exact sa_sub [1] rfl (hj84)
  refine sa_aload_n C d_X12_sum_13 rfl 0 rfl ?_
  refine sa_invV (ci := 12) C (k_X12_look this) q1653 ds_X12_look q128 rfl q1652 q49 q1650 (gd_X12_look this) rfl rfl rfl (Nat.le_of_ble_eq_true rfl) (by omega) (by decide) d_X12_sum_14 (fun v4 => ?_)
  refine sa_bipush (v := 43) C d_X12_sum_17 (by decide) ?_
  refine sa_join0 31 ([(0, .ref (ad this)), (1, .int x2)]) ([]) (?_) (fun j31 hj31 => ?_)
  · refine sa_aload_n C d_X12_sum_31 rfl 0 rfl ?_
    refine sa_invV (ci := 12) C (k_X12_look this) q1653 ds_X12_look q128 rfl q1652 q49 q1650 (gd_X12_look this) rfl rfl rfl (Nat.le_of_ble_eq_true rfl) (by omega) (by decide) d_X12_sum_32 (fun v5 => ?_)
    refine sa_bipush (v := 43) C d_X12_sum_35 (by decide) ?_
    refine sa_join1 45 (fun y6 => [(0, .ref (ad this)), (1, .int x2)]) (fun y6 => [.int y6]) (fun y6 => ?_) (fun j45 hj45 => ?_)
    · refine sa_istore_n (lv' := [(2, .int y6), (0, .ref (ad this)), (1, .int x2)]) C d_X12_sum_45 rfl (by decide) rfl ?_
      refine sa_aload_n C d_X12_sum_46 rfl 1 rfl ?_
      refine sa_dup C d_X12_sum_47 rfl ?_
      refine sa_getI C fd_X12_150 d_X12_sum_48 (fun v7 => ?_)
      refine sa_iconst (v := 1) C d_X12_sum_51 (by decide) ?_
      refine sa_iadd C d_X12_sum_52 ?_
      refine sa_putI C fd_X12_150 d_X12_sum_53 ?_
      refine sa_aload_n C d_X12_sum_56 rfl 1 rfl ?_
      refine sa_invV (ci := 12) C (h_X12_term this) q1733 ds_X12_term q128 rfl q1732 q63 q1730 (e_X12_term this) rfl rfl rfl (Nat.le_of_ble_eq_true rfl) (by omega) (by decide) d_X12_sum_57 (fun v8 => ?_)
      refine sa_i2l C d_X12_sum_60 ?_
      refine sa_topl (fun x9 => ?_)
      refine sa_lstore_n (lv' := [(3, .long x9), (2, .int y6), (0, .ref (ad this)), (1, .int x2)]) C d_X12_sum_61 rfl (by decide) rfl ?_
      refine sa_iload_n C d_X12_sum_62 rfl 1 rfl ?_
      refine sa_join1 77 (fun y10 => [(0, .ref (ad this))]) (fun y10 => [.long y10]) (fun y10 => ?_) (fun j77 hj77 => ?_)
      · refine sa_invS C (k_X12_within y10) q1744 ds_X12_within q128 q1743 q1742 rfl rfl rfl (Nat.le_of_ble_eq_true rfl) (by omega) (by decide) d_X12_sum_77 (fun v11 => ?_)
        refine sa_istore_n (lv' := [(1, .int v11), (0, .ref (ad this))]) C d_X12_sum_80 rfl (by decide) rfl ?_
        refine sa_goto (tgt := 5) C d_X12_sum_81 (by decide) ?_
        exact sa_sub [1, 0] rfl (hj5 _)
      refine sa_if_eq (tgt := 73) C d_X12_sum_63 (by decide) ?_ ?_
      · refine sa_iload_n C d_X12_sum_73 rfl 3 rfl ?_
        refine sa_i2l C d_X12_sum_74 ?_
        refine sa_lload_n C d_X12_sum_75 rfl 0 rfl ?_
        refine sa_lsub C d_X12_sum_76 ?_
        exact sa_sub [2] rfl (hj77 _)
      refine sa_iload_n C d_X12_sum_66 rfl 3 rfl ?_
      refine sa_i2l C d_X12_sum_67 ?_
      refine sa_lload_n C d_X12_sum_68 rfl 0 rfl ?_
      refine sa_ladd C d_X12_sum_69 ?_
      refine sa_goto (tgt := 77) C d_X12_sum_70 (by decide) ?_
      exact sa_sub [2] rfl (hj77 _)
    refine sa_icmp_ne (tgt := 44) C d_X12_sum_37 (by decide) ?_ ?_
    · refine sa_iconst (v := 0) C d_X12_sum_44 (by decide) ?_
      exact sa_sub [0, 1] rfl (hj45 _)
    refine sa_iconst (v := 1) C d_X12_sum_40 (by decide) ?_
    refine sa_goto (tgt := 45) C d_X12_sum_41 (by decide) ?_
    exact sa_sub [0, 1] rfl (hj45 _)
  refine sa_icmp_eq (tgt := 31) C d_X12_sum_19 (by decide) ?_ ?_
  · exact sa_sub [0, 1] rfl (hj31)
  refine sa_aload_n C d_X12_sum_22 rfl 0 rfl ?_
  refine sa_invV (ci := 12) C (k_X12_look this) q1653 ds_X12_look q128 rfl q1652 q49 q1650 (gd_X12_look this) rfl rfl rfl (Nat.le_of_ble_eq_true rfl) (by omega) (by decide) d_X12_sum_23 (fun v12 => ?_)
  refine sa_bipush (v := 45) C d_X12_sum_26 (by decide) ?_
  refine sa_icmp_ne (tgt := 84) C d_X12_sum_28 (by decide) ?_ ?_
  · exact sa_sub [1] rfl (hj84)
  exact sa_sub [0, 1] rfl (hj31)
theorem d_X12_term_0 : decode cX12_term 0 = .ok (.aload_n 0, 1) := by decide +kernel
theorem d_X12_term_1 : decode cX12_term 1 = .ok (.invokevirtual 202, 3) := by decide +kernel
theorem d_X12_term_4 : decode cX12_term 4 = .ok (.istore_n 1, 1) := by decide +kernel
theorem d_X12_term_5 : decode cX12_term 5 = .ok (.aload_n 0, 1) := by decide +kernel
theorem d_X12_term_6 : decode cX12_term 6 = .ok (.getfield 159, 3) := by decide +kernel
theorem d_X12_term_9 : decode cX12_term 9 = .ok (.iconst (-1), 1) := by decide +kernel
theorem d_X12_term_10 : decode cX12_term 10 = .ok (.if_icmp .ne 84, 3) := by decide +kernel
theorem d_X12_term_13 : decode cX12_term 13 = .ok (.aload_n 0, 1) := by decide +kernel
theorem d_X12_term_14 : decode cX12_term 14 = .ok (.invokevirtual 169, 3) := by decide +kernel
theorem d_X12_term_17 : decode cX12_term 17 = .ok (.bipush 42, 2) := by decide +kernel
theorem d_X12_term_19 : decode cX12_term 19 = .ok (.if_icmp .eq 12, 3) := by decide +kernel
theorem d_X12_term_22 : decode cX12_term 22 = .ok (.aload_n 0, 1) := by decide +kernel
theorem d_X12_term_23 : decode cX12_term 23 = .ok (.invokevirtual 169, 3) := by decide +kernel
theorem d_X12_term_26 : decode cX12_term 26 = .ok (.bipush 47, 2) := by decide +kernel
theorem d_X12_term_28 : decode cX12_term 28 = .ok (.if_icmp .ne 66, 3) := by decide +kernel
theorem d_X12_term_31 : decode cX12_term 31 = .ok (.aload_n 0, 1) := by decide +kernel
theorem d_X12_term_32 : decode cX12_term 32 = .ok (.invokevirtual 169, 3) := by decide +kernel
theorem d_X12_term_35 : decode cX12_term 35 = .ok (.bipush 42, 2) := by decide +kernel
theorem d_X12_term_37 : decode cX12_term 37 = .ok (.if_icmp .ne 7, 3) := by decide +kernel
theorem d_X12_term_40 : decode cX12_term 40 = .ok (.iconst 1, 1) := by decide +kernel
theorem d_X12_term_41 : decode cX12_term 41 = .ok (.goto 4, 3) := by decide +kernel
theorem d_X12_term_44 : decode cX12_term 44 = .ok (.iconst 0, 1) := by decide +kernel
theorem d_X12_term_45 : decode cX12_term 45 = .ok (.istore_n 2, 1) := by decide +kernel
theorem d_X12_term_46 : decode cX12_term 46 = .ok (.aload_n 0, 1) := by decide +kernel
theorem d_X12_term_47 : decode cX12_term 47 = .ok (.dup, 1) := by decide +kernel
theorem d_X12_term_48 : decode cX12_term 48 = .ok (.getfield 150, 3) := by decide +kernel
theorem d_X12_term_51 : decode cX12_term 51 = .ok (.iconst 1, 1) := by decide +kernel
theorem d_X12_term_52 : decode cX12_term 52 = .ok (.iadd, 1) := by decide +kernel
theorem d_X12_term_53 : decode cX12_term 53 = .ok (.putfield 150, 3) := by decide +kernel
theorem d_X12_term_56 : decode cX12_term 56 = .ok (.aload_n 0, 1) := by decide +kernel
theorem d_X12_term_57 : decode cX12_term 57 = .ok (.invokevirtual 202, 3) := by decide +kernel
theorem d_X12_term_60 : decode cX12_term 60 = .ok (.i2l, 1) := by decide +kernel
theorem d_X12_term_61 : decode cX12_term 61 = .ok (.lstore_n 3, 1) := by decide +kernel
theorem d_X12_term_62 : decode cX12_term 62 = .ok (.iload_n 2, 1) := by decide +kernel
theorem d_X12_term_63 : decode cX12_term 63 = .ok (.ifCond .eq 10, 3) := by decide +kernel
theorem d_X12_term_66 : decode cX12_term 66 = .ok (.iload_n 1, 1) := by decide +kernel
theorem d_X12_term_67 : decode cX12_term 67 = .ok (.i2l, 1) := by decide +kernel
theorem d_X12_term_68 : decode cX12_term 68 = .ok (.lload_n 3, 1) := by decide +kernel
theorem d_X12_term_69 : decode cX12_term 69 = .ok (.lmul, 1) := by decide +kernel
theorem d_X12_term_70 : decode cX12_term 70 = .ok (.goto 17, 3) := by decide +kernel
theorem d_X12_term_73 : decode cX12_term 73 = .ok (.lload_n 3, 1) := by decide +kernel
theorem d_X12_term_74 : decode cX12_term 74 = .ok (.lconst 0, 1) := by decide +kernel
theorem d_X12_term_75 : decode cX12_term 75 = .ok (.lcmp, 1) := by decide +kernel
theorem d_X12_term_76 : decode cX12_term 76 = .ok (.ifCond .ne 7, 3) := by decide +kernel
theorem d_X12_term_79 : decode cX12_term 79 = .ok (.lconst 0, 1) := by decide +kernel
theorem d_X12_term_80 : decode cX12_term 80 = .ok (.goto 7, 3) := by decide +kernel
theorem d_X12_term_83 : decode cX12_term 83 = .ok (.iload_n 1, 1) := by decide +kernel
theorem d_X12_term_84 : decode cX12_term 84 = .ok (.i2l, 1) := by decide +kernel
theorem d_X12_term_85 : decode cX12_term 85 = .ok (.lload_n 3, 1) := by decide +kernel
theorem d_X12_term_86 : decode cX12_term 86 = .ok (.ldiv, 1) := by decide +kernel
theorem d_X12_term_87 : decode cX12_term 87 = .ok (.invokestatic 205, 3) := by decide +kernel
theorem d_X12_term_90 : decode cX12_term 90 = .ok (.istore_n 1, 1) := by decide +kernel
theorem d_X12_term_91 : decode cX12_term 91 = .ok (.goto (-86), 3) := by decide +kernel
theorem d_X12_term_94 : decode cX12_term 94 = .ok (.iload_n 1, 1) := by decide +kernel
theorem d_X12_term_95 : decode cX12_term 95 = .ok (.ireturn, 1) := by decide +kernel
def fb_X12_term (g_X12_atom : Nat → sa_M Int32) (g_X12_sum : Nat → sa_M Int32) (g_X12_term : Nat → sa_M Int32) (this : Nat) : sa_M Int32 :=
sa_gd 12 this (
sa_bnd (g_X12_atom this) fun v1 =>
sa_wh1 (fun j5 (x2 : Int32) =>
sa_bnd (sa_rdI 12 this 11) fun v3 =>
sa_jn0 (sa_ret (x2 : Int32)) fun j94 =>
if ¬ v3 = (-1) then
j94
else
sa_bnd (f_X12_look this) fun v4 =>
sa_jn0 (sa_bnd (f_X12_look this) fun v5 =>
sa_jn1 (fun (y6 : Int32) =>
sa_bnd (sa_rdI 12 this 10) fun v7 =>
sa_bnd (sa_wrI 12 this 10 (v7 + 1)) fun _ =>
sa_bnd (g_X12_atom this) fun v8 =>
sa_let ((v8.toInt64) : Int64) fun x9 =>
sa_jn1 (fun (y10 : Int64) =>
sa_bnd (f_X12_within y10) fun v11 =>
j5 v11) fun j87 =>
if y6 = 0 then
if ¬ (lg_cmp x9 0) = 0 then
sa_bnd (sa_dvL (x2.toInt64) x9) fun v12 =>
j87 v12
else
j87 0
else
j87 ((x2.toInt64) * x9)) fun j45 =>
if ¬ v5 = 42 then
j45 0
else
j45 1) fun j31 =>
if v4 = 42 then
j31
else
sa_bnd (f_X12_look this) fun v13 =>
if ¬ v13 = 47 then
j94
else
j31) sa_F v1)
set_option maxHeartbeats 1000000 in
set_option maxRecDepth 10000 in
theorem b_X12_term {d : Nat} (hd0 : 5 ≤ d) (g_X12_atom : Nat → sa_M Int32) (g_X12_sum : Nat → sa_M Int32) (g_X12_term : Nat → sa_M Int32) (h_X12_atom : ∀ (this : Nat), sa_Met d yX12_atom cX12_atom 4 (some .int) (fun ad => [.ref (ad this)]) sa_eI (g_X12_atom this)) (e_X12_atom : ∀ (this : Nat) σ r τ, g_X12_atom this σ = some (r, τ) → sa_sh this = some (.inl 12)) (h_X12_sum : ∀ (this : Nat), sa_Met d yX12_sum cX12_sum 5 (some .int) (fun ad => [.ref (ad this)]) sa_eI (g_X12_sum this)) (e_X12_sum : ∀ (this : Nat) σ r τ, g_X12_sum this σ = some (r, τ) → sa_sh this = some (.inl 12)) (h_X12_term : ∀ (this : Nat), sa_Met d yX12_term cX12_term 5 (some .int) (fun ad => [.ref (ad this)]) sa_eI (g_X12_term this)) (e_X12_term : ∀ (this : Nat) σ r τ, g_X12_term this σ = some (r, τ) → sa_sh this = some (.inl 12)) {p : Program} {l : Launch} {e : Env} {s : State} {m : MethodId} {args : Array Value} {below : List Frame} {meth : Method} {c : Code} {D : va_G} {ad : Nat → Nat} {cA : FieldType → ClassId} {A : Nat → Prop} (this : Nat) (C : sa_C p s m args meth c cX12_term RX12 "term" 5 (some .int) D ad cA A) : sa_Sg p l e s m args below meth c 5 (d + 1) D ad cA A sa_eI 0 [(0, .ref (ad this))] [] (fb_X12_term g_X12_atom g_X12_sum g_X12_term this) := by
  unfold fb_X12_term
  refine sa_gdI ?_
  refine sa_aload_n C d_X12_term_0 rfl 0 rfl ?_
  refine sa_invV (ci := 12) C (h_X12_atom this) q1737 ds_X12_atom q128 rfl q1736 q64 q1734 (e_X12_atom this) rfl rfl rfl (Nat.le_of_ble_eq_true rfl) (by omega) (by decide) d_X12_term_1 (fun v1 => ?_)
  refine sa_istore_n (lv' := [(1, .int v1), (0, .ref (ad this))]) C d_X12_term_4 rfl (by decide) rfl ?_
  refine sa_sub [1, 0] rfl (sa_loop1 (fun x2 => [(0, .ref (ad this)), (1, .int x2)]) (fun x2 => []) (fun j5 hj5 x2 => ?_) _ _)
  refine sa_aload_n C d_X12_term_5 rfl 0 rfl ?_
  refine sa_getI C fd_X12_159 d_X12_term_6 (fun v3 => ?_)
  refine sa_iconst (v := (-1)) C d_X12_term_9 (by decide) ?_
  refine sa_join0 94 ([(1, .int x2)]) ([]) (?_) (fun j94 hj94 => ?_)
  · refine sa_iload_n C d_X12_term_94 rfl 0 rfl ?_
    exact sa_iret C d_X12_term_95
  refine sa_icmp_ne (tgt := 94) C d_X12_term_10 (by decide) ?_ ?_
  · exact sa_sub [1] rfl (hj94)
  refine sa_aload_n C d_X12_term_13 rfl 0 rfl ?_
  refine sa_invV (ci := 12) C (k_X12_look this) q1653 ds_X12_look q128 rfl q1652 q49 q1650 (gd_X12_look this) rfl rfl rfl (Nat.le_of_ble_eq_true rfl) (by omega) (by decide) d_X12_term_14 (fun v4 => ?_)
  refine sa_bipush (v := 42) C d_X12_term_17 (by decide) ?_
  refine sa_join0 31 ([(0, .ref (ad this)), (1, .int x2)]) ([]) (?_) (fun j31 hj31 => ?_)
  · refine sa_aload_n C d_X12_term_31 rfl 0 rfl ?_
    refine sa_invV (ci := 12) C (k_X12_look this) q1653 ds_X12_look q128 rfl q1652 q49 q1650 (gd_X12_look this) rfl rfl rfl (Nat.le_of_ble_eq_true rfl) (by omega) (by decide) d_X12_term_32 (fun v5 => ?_)
    refine sa_bipush (v := 42) C d_X12_term_35 (by decide) ?_
    refine sa_join1 45 (fun y6 => [(0, .ref (ad this)), (1, .int x2)]) (fun y6 => [.int y6]) (fun y6 => ?_) (fun j45 hj45 => ?_)
    · refine sa_istore_n (lv' := [(2, .int y6), (0, .ref (ad this)), (1, .int x2)]) C d_X12_term_45 rfl (by decide) rfl ?_
      refine sa_aload_n C d_X12_term_46 rfl 1 rfl ?_
      refine sa_dup C d_X12_term_47 rfl ?_
      refine sa_getI C fd_X12_150 d_X12_term_48 (fun v7 => ?_)
      refine sa_iconst (v := 1) C d_X12_term_51 (by decide) ?_
      refine sa_iadd C d_X12_term_52 ?_
      refine sa_putI C fd_X12_150 d_X12_term_53 ?_
      refine sa_aload_n C d_X12_term_56 rfl 1 rfl ?_
      refine sa_invV (ci := 12) C (h_X12_atom this) q1737 ds_X12_atom q128 rfl q1736 q64 q1734 (e_X12_atom this) rfl rfl rfl (Nat.le_of_ble_eq_true rfl) (by omega) (by decide) d_X12_term_57 (fun v8 => ?_)
      refine sa_i2l C d_X12_term_60 ?_
      refine sa_topl (fun x9 => ?_)
      refine sa_lstore_n (lv' := [(3, .long x9), (2, .int y6), (0, .ref (ad this)), (1, .int x2)]) C d_X12_term_61 rfl (by decide) rfl ?_
      refine sa_iload_n C d_X12_term_62 rfl 1 rfl ?_
      refine sa_join1 87 (fun y10 => [(0, .ref (ad this))]) (fun y10 => [.long y10]) (fun y10 => ?_) (fun j87 hj87 => ?_)
      · refine sa_invS C (k_X12_within y10) q1744 ds_X12_within q128 q1743 q1742 rfl rfl rfl (Nat.le_of_ble_eq_true rfl) (by omega) (by decide) d_X12_term_87 (fun v11 => ?_)
        refine sa_istore_n (lv' := [(1, .int v11), (0, .ref (ad this))]) C d_X12_term_90 rfl (by decide) rfl ?_
        refine sa_goto (tgt := 5) C d_X12_term_91 (by decide) ?_
        exact sa_sub [1, 0] rfl (hj5 _)
      refine sa_if_eq (tgt := 73) C d_X12_term_63 (by decide) ?_ ?_
      · refine sa_lload_n C d_X12_term_73 rfl 0 rfl ?_
        refine sa_lconst (v := 0) C d_X12_term_74 (by decide) ?_
        refine sa_lcmp C d_X12_term_75 ?_
        refine sa_if_ne (tgt := 83) C d_X12_term_76 (by decide) ?_ ?_
        · refine sa_iload_n C d_X12_term_83 rfl 3 rfl ?_
          refine sa_i2l C d_X12_term_84 ?_
          refine sa_lload_n C d_X12_term_85 rfl 0 rfl ?_
          refine sa_ldiv C d_X12_term_86 (fun v12 => ?_)
          exact sa_sub [2] rfl (hj87 _)
        refine sa_lconst (v := 0) C d_X12_term_79 (by decide) ?_
        refine sa_goto (tgt := 87) C d_X12_term_80 (by decide) ?_
        exact sa_sub [2] rfl (hj87 _)
      refine sa_iload_n C d_X12_term_66 rfl 3 rfl ?_
      refine sa_i2l C d_X12_term_67 ?_
      refine sa_lload_n C d_X12_term_68 rfl 0 rfl ?_
      refine sa_lmul C d_X12_term_69 ?_
      refine sa_goto (tgt := 87) C d_X12_term_70 (by decide) ?_
      exact sa_sub [2] rfl (hj87 _)
    refine sa_icmp_ne (tgt := 44) C d_X12_term_37 (by decide) ?_ ?_
    · refine sa_iconst (v := 0) C d_X12_term_44 (by decide) ?_
      exact sa_sub [0, 1] rfl (hj45 _)
    refine sa_iconst (v := 1) C d_X12_term_40 (by decide) ?_
    refine sa_goto (tgt := 45) C d_X12_term_41 (by decide) ?_
    exact sa_sub [0, 1] rfl (hj45 _)
  refine sa_icmp_eq (tgt := 31) C d_X12_term_19 (by decide) ?_ ?_
  · exact sa_sub [0, 1] rfl (hj31)
  refine sa_aload_n C d_X12_term_22 rfl 0 rfl ?_
  refine sa_invV (ci := 12) C (k_X12_look this) q1653 ds_X12_look q128 rfl q1652 q49 q1650 (gd_X12_look this) rfl rfl rfl (Nat.le_of_ble_eq_true rfl) (by omega) (by decide) d_X12_term_23 (fun v13 => ?_)
  refine sa_bipush (v := 47) C d_X12_term_26 (by decide) ?_
  refine sa_icmp_ne (tgt := 94) C d_X12_term_28 (by decide) ?_ ?_
  · exact sa_sub [1] rfl (hj94)
  exact sa_sub [0, 1] rfl (hj31)
def gr_X12_atom : Nat → (Nat → sa_M Int32) × (Nat → sa_M Int32) × (Nat → sa_M Int32)
  | 0 => ((fun _ => sa_fail), (fun _ => sa_fail), (fun _ => sa_fail))
  | n + 1 => (fb_X12_atom (gr_X12_atom n).1 (gr_X12_atom n).2.1 (gr_X12_atom n).2.2, fb_X12_sum (gr_X12_atom n).1 (gr_X12_atom n).2.1 (gr_X12_atom n).2.2, fb_X12_term (gr_X12_atom n).1 (gr_X12_atom n).2.1 (gr_X12_atom n).2.2)
def f_X12_atom (n : Nat) (this : Nat) : sa_M Int32 := (gr_X12_atom n).1 this
def f_X12_sum (n : Nat) (this : Nat) : sa_M Int32 := (gr_X12_atom n).2.1 this
def f_X12_term (n : Nat) (this : Nat) : sa_M Int32 := (gr_X12_atom n).2.2 this
theorem kg_X12_atom : ∀ n : Nat, (∀ (this : Nat), sa_Met (5 + n) yX12_atom cX12_atom 4 (some .int) (fun ad => [.ref (ad this)]) sa_eI (f_X12_atom n this)) ∧ (∀ (this : Nat) σ r τ, f_X12_atom n this σ = some (r, τ) → sa_sh this = some (.inl 12)) ∧ (∀ (this : Nat), sa_Met (5 + n) yX12_sum cX12_sum 5 (some .int) (fun ad => [.ref (ad this)]) sa_eI (f_X12_sum n this)) ∧ (∀ (this : Nat) σ r τ, f_X12_sum n this σ = some (r, τ) → sa_sh this = some (.inl 12)) ∧ (∀ (this : Nat), sa_Met (5 + n) yX12_term cX12_term 5 (some .int) (fun ad => [.ref (ad this)]) sa_eI (f_X12_term n this)) ∧ (∀ (this : Nat) σ r τ, f_X12_term n this σ = some (r, τ) → sa_sh this = some (.inl 12)) := by
  intro n
  induction n with
  | zero => exact ⟨(fun _ => fun _ _ _ _ _ _ _ _ h => by cases h), (fun _ => fun _ _ _ h => by cases h), (fun _ => fun _ _ _ _ _ _ _ _ h => by cases h), (fun _ => fun _ _ _ h => by cases h), (fun _ => fun _ _ _ _ _ _ _ _ h => by cases h), (fun _ => fun _ _ _ h => by cases h)⟩
  | succ n ih =>
    obtain ⟨h_X12_atom, e_X12_atom, h_X12_sum, e_X12_sum, h_X12_term, e_X12_term⟩ := ih
    exact ⟨(fun this => sa_mk (by decide) (fun ad => Nat.le_of_ble_eq_true rfl) (fun p l e s m args below meth c D ad cA A C => b_X12_atom (d := 5 + n) (by omega) _ _ _ h_X12_atom e_X12_atom h_X12_sum e_X12_sum h_X12_term e_X12_term this C)), (fun this => fun σ r τ h => sa_gd_ok h), (fun this => sa_mk (by decide) (fun ad => Nat.le_of_ble_eq_true rfl) (fun p l e s m args below meth c D ad cA A C => b_X12_sum (d := 5 + n) (by omega) _ _ _ h_X12_atom e_X12_atom h_X12_sum e_X12_sum h_X12_term e_X12_term this C)), (fun this => fun σ r τ h => sa_gd_ok h), (fun this => sa_mk (by decide) (fun ad => Nat.le_of_ble_eq_true rfl) (fun p l e s m args below meth c D ad cA A C => b_X12_term (d := 5 + n) (by omega) _ _ _ h_X12_atom e_X12_atom h_X12_sum e_X12_sum h_X12_term e_X12_term this C)), (fun this => fun σ r τ h => sa_gd_ok h)⟩
theorem k_X12_atom (n : Nat) (this : Nat) : sa_Met (5 + n) yX12_atom cX12_atom 4 (some .int) (fun ad => [.ref (ad this)]) sa_eI (f_X12_atom n this) := (kg_X12_atom n).1 this
theorem gd_X12_atom (n : Nat) (this : Nat) (σ : sa_St) (r : Int32) (τ : sa_St) (h : f_X12_atom n this σ = some (r, τ)) : sa_sh this = some (.inl 12) := (kg_X12_atom n).2.1 this σ r τ h
theorem k_X12_sum (n : Nat) (this : Nat) : sa_Met (5 + n) yX12_sum cX12_sum 5 (some .int) (fun ad => [.ref (ad this)]) sa_eI (f_X12_sum n this) := (kg_X12_atom n).2.2.1 this
theorem gd_X12_sum (n : Nat) (this : Nat) (σ : sa_St) (r : Int32) (τ : sa_St) (h : f_X12_sum n this σ = some (r, τ)) : sa_sh this = some (.inl 12) := (kg_X12_atom n).2.2.2.1 this σ r τ h
theorem k_X12_term (n : Nat) (this : Nat) : sa_Met (5 + n) yX12_term cX12_term 5 (some .int) (fun ad => [.ref (ad this)]) sa_eI (f_X12_term n this) := (kg_X12_atom n).2.2.2.2.1 this
theorem gd_X12_term (n : Nat) (this : Nat) (σ : sa_St) (r : Int32) (τ : sa_St) (h : f_X12_term n this σ = some (r, τ)) : sa_sh this = some (.inl 12) := (kg_X12_atom n).2.2.2.2.2 this σ r τ h
theorem d_X12_isSign_0 : decode cX12_isSign 0 = .ok (.iload_n 0, 1) := by decide +kernel
theorem d_X12_isSign_1 : decode cX12_isSign 1 = .ok (.bipush 61, 2) := by decide +kernel
theorem d_X12_isSign_3 : decode cX12_isSign 3 = .ok (.if_icmp .eq 15, 3) := by decide +kernel
theorem d_X12_isSign_6 : decode cX12_isSign 6 = .ok (.iload_n 0, 1) := by decide +kernel
theorem d_X12_isSign_7 : decode cX12_isSign 7 = .ok (.bipush 60, 2) := by decide +kernel
theorem d_X12_isSign_9 : decode cX12_isSign 9 = .ok (.if_icmp .eq 9, 3) := by decide +kernel
theorem d_X12_isSign_12 : decode cX12_isSign 12 = .ok (.iload_n 0, 1) := by decide +kernel
theorem d_X12_isSign_13 : decode cX12_isSign 13 = .ok (.bipush 62, 2) := by decide +kernel
theorem d_X12_isSign_15 : decode cX12_isSign 15 = .ok (.if_icmp .ne 7, 3) := by decide +kernel
theorem d_X12_isSign_18 : decode cX12_isSign 18 = .ok (.iconst 1, 1) := by decide +kernel
theorem d_X12_isSign_19 : decode cX12_isSign 19 = .ok (.goto 4, 3) := by decide +kernel
theorem d_X12_isSign_22 : decode cX12_isSign 22 = .ok (.iconst 0, 1) := by decide +kernel
theorem d_X12_isSign_23 : decode cX12_isSign 23 = .ok (.ireturn, 1) := by decide +kernel
def f_X12_isSign (a1 : Int32) : sa_M Int32 :=
sa_jn1 (fun (y1 : Int32) =>
sa_retZ y1) fun j23 =>
sa_jn0 (j23 1) fun j18 =>
if a1 = 61 then
j18
else
if a1 = 60 then
j18
else
if ¬ a1 = 62 then
j23 0
else
j18
set_option maxHeartbeats 1000000 in
set_option maxRecDepth 10000 in
theorem b_X12_isSign {p : Program} {l : Launch} {e : Env} {s : State} {m : MethodId} {args : Array Value} {below : List Frame} {meth : Method} {c : Code} {D : va_G} {ad : Nat → Nat} {cA : FieldType → ClassId} {A : Nat → Prop} (a1 : Int32) (C : sa_C p s m args meth c cX12_isSign RX12 "isSign" 1 (some .boolean) D ad cA A) : sa_Sg p l e s m args below meth c 1 1 D ad cA A sa_eI 0 [(0, .int a1)] [] (f_X12_isSign a1) := by
  unfold f_X12_isSign
  refine sa_iload_n C d_X12_isSign_0 rfl 0 rfl ?_
  refine sa_bipush (v := 61) C d_X12_isSign_1 (by decide) ?_
  refine sa_join1 23 (fun y1 => []) (fun y1 => [.int y1]) (fun y1 => ?_) (fun j23 hj23 => ?_)
  · exact sa_zret C d_X12_isSign_23
  refine sa_join0 18 ([]) ([]) (?_) (fun j18 hj18 => ?_)
  · refine sa_iconst (v := 1) C d_X12_isSign_18 (by decide) ?_
    refine sa_goto (tgt := 23) C d_X12_isSign_19 (by decide) ?_
    exact sa_sub [] rfl (hj23 _)
  refine sa_icmp_eq (tgt := 18) C d_X12_isSign_3 (by decide) ?_ ?_
  · exact sa_sub [] rfl (hj18)
  refine sa_iload_n C d_X12_isSign_6 rfl 0 rfl ?_
  refine sa_bipush (v := 60) C d_X12_isSign_7 (by decide) ?_
  refine sa_icmp_eq (tgt := 18) C d_X12_isSign_9 (by decide) ?_ ?_
  · exact sa_sub [] rfl (hj18)
  refine sa_iload_n C d_X12_isSign_12 rfl 0 rfl ?_
  refine sa_bipush (v := 62) C d_X12_isSign_13 (by decide) ?_
  refine sa_icmp_ne (tgt := 22) C d_X12_isSign_15 (by decide) ?_ ?_
  · refine sa_iconst (v := 0) C d_X12_isSign_22 (by decide) ?_
    exact sa_sub [] rfl (hj23 _)
  exact sa_sub [] rfl (hj18)
theorem k_X12_isSign (a1 : Int32) : sa_Met 1 yX12_isSign cX12_isSign 1 (some .boolean) (fun ad => [.int a1]) sa_eI (f_X12_isSign a1) := sa_mk (by decide) (fun ad => Nat.le_of_ble_eq_true rfl) (fun p l e s m args below meth c D ad cA A C => b_X12_isSign a1 C)
theorem d_X12_compares_0 : decode cX12_compares 0 = .ok (.iload_n 1, 1) := by decide +kernel
theorem d_X12_compares_1 : decode cX12_compares 1 = .ok (.ifCond .eq 7, 3) := by decide +kernel
theorem d_X12_compares_4 : decode cX12_compares 4 = .ok (.iload_n 2, 1) := by decide +kernel
theorem d_X12_compares_5 : decode cX12_compares 5 = .ok (.goto 7, 3) := by decide +kernel
theorem d_X12_compares_8 : decode cX12_compares 8 = .ok (.aload_n 0, 1) := by decide +kernel
theorem d_X12_compares_9 : decode cX12_compares 9 = .ok (.invokevirtual 192, 3) := by decide +kernel
theorem d_X12_compares_12 : decode cX12_compares 12 = .ok (.istore_n 3, 1) := by decide +kernel
theorem d_X12_compares_13 : decode cX12_compares 13 = .ok (.aload_n 0, 1) := by decide +kernel
theorem d_X12_compares_14 : decode cX12_compares 14 = .ok (.getfield 159, 3) := by decide +kernel
theorem d_X12_compares_17 : decode cX12_compares 17 = .ok (.iconst (-1), 1) := by decide +kernel
theorem d_X12_compares_18 : decode cX12_compares 18 = .ok (.if_icmp .eq 5, 3) := by decide +kernel
theorem d_X12_compares_21 : decode cX12_compares 21 = .ok (.iconst 0, 1) := by decide +kernel
theorem d_X12_compares_22 : decode cX12_compares 22 = .ok (.ireturn, 1) := by decide +kernel
theorem d_X12_compares_23 : decode cX12_compares 23 = .ok (.aload_n 0, 1) := by decide +kernel
theorem d_X12_compares_24 : decode cX12_compares 24 = .ok (.invokevirtual 169, 3) := by decide +kernel
theorem d_X12_compares_27 : decode cX12_compares 27 = .ok (.istore 4, 2) := by decide +kernel
theorem d_X12_compares_29 : decode cX12_compares 29 = .ok (.iload 4, 2) := by decide +kernel
theorem d_X12_compares_31 : decode cX12_compares 31 = .ok (.invokestatic 212, 3) := by decide +kernel
theorem d_X12_compares_34 : decode cX12_compares 34 = .ok (.ifCond .ne 8, 3) := by decide +kernel
theorem d_X12_compares_37 : decode cX12_compares 37 = .ok (.aload_n 0, 1) := by decide +kernel
theorem d_X12_compares_38 : decode cX12_compares 38 = .ok (.invokevirtual 165, 3) := by decide +kernel
theorem d_X12_compares_41 : decode cX12_compares 41 = .ok (.ireturn, 1) := by decide +kernel
theorem d_X12_compares_42 : decode cX12_compares 42 = .ok (.aload_n 0, 1) := by decide +kernel
theorem d_X12_compares_43 : decode cX12_compares 43 = .ok (.dup, 1) := by decide +kernel
theorem d_X12_compares_44 : decode cX12_compares 44 = .ok (.getfield 150, 3) := by decide +kernel
theorem d_X12_compares_47 : decode cX12_compares 47 = .ok (.iconst 1, 1) := by decide +kernel
theorem d_X12_compares_48 : decode cX12_compares 48 = .ok (.iadd, 1) := by decide +kernel
theorem d_X12_compares_49 : decode cX12_compares 49 = .ok (.putfield 150, 3) := by decide +kernel
theorem d_X12_compares_52 : decode cX12_compares 52 = .ok (.aload_n 0, 1) := by decide +kernel
theorem d_X12_compares_53 : decode cX12_compares 53 = .ok (.invokevirtual 192, 3) := by decide +kernel
theorem d_X12_compares_56 : decode cX12_compares 56 = .ok (.istore 5, 2) := by decide +kernel
theorem d_X12_compares_58 : decode cX12_compares 58 = .ok (.iload 4, 2) := by decide +kernel
theorem d_X12_compares_60 : decode cX12_compares 60 = .ok (.bipush 61, 2) := by decide +kernel
theorem d_X12_compares_62 : decode cX12_compares 62 = .ok (.if_icmp .ne 17, 3) := by decide +kernel
theorem d_X12_compares_65 : decode cX12_compares 65 = .ok (.iload_n 3, 1) := by decide +kernel
theorem d_X12_compares_66 : decode cX12_compares 66 = .ok (.iload 5, 2) := by decide +kernel
theorem d_X12_compares_68 : decode cX12_compares 68 = .ok (.if_icmp .ne 7, 3) := by decide +kernel
theorem d_X12_compares_71 : decode cX12_compares 71 = .ok (.iconst 1, 1) := by decide +kernel
theorem d_X12_compares_72 : decode cX12_compares 72 = .ok (.goto 39, 3) := by decide +kernel
theorem d_X12_compares_75 : decode cX12_compares 75 = .ok (.iconst 0, 1) := by decide +kernel
theorem d_X12_compares_76 : decode cX12_compares 76 = .ok (.goto 35, 3) := by decide +kernel
theorem d_X12_compares_79 : decode cX12_compares 79 = .ok (.iload 4, 2) := by decide +kernel
theorem d_X12_compares_81 : decode cX12_compares 81 = .ok (.bipush 60, 2) := by decide +kernel
theorem d_X12_compares_83 : decode cX12_compares 83 = .ok (.if_icmp .ne 17, 3) := by decide +kernel
theorem d_X12_compares_86 : decode cX12_compares 86 = .ok (.iload_n 3, 1) := by decide +kernel
theorem d_X12_compares_87 : decode cX12_compares 87 = .ok (.iload 5, 2) := by decide +kernel
theorem d_X12_compares_89 : decode cX12_compares 89 = .ok (.if_icmp .ge 7, 3) := by decide +kernel
theorem d_X12_compares_92 : decode cX12_compares 92 = .ok (.iconst 1, 1) := by decide +kernel
theorem d_X12_compares_93 : decode cX12_compares 93 = .ok (.goto 18, 3) := by decide +kernel
theorem d_X12_compares_96 : decode cX12_compares 96 = .ok (.iconst 0, 1) := by decide +kernel
theorem d_X12_compares_97 : decode cX12_compares 97 = .ok (.goto 14, 3) := by decide +kernel
theorem d_X12_compares_100 : decode cX12_compares 100 = .ok (.iload_n 3, 1) := by decide +kernel
theorem d_X12_compares_101 : decode cX12_compares 101 = .ok (.iload 5, 2) := by decide +kernel
theorem d_X12_compares_103 : decode cX12_compares 103 = .ok (.if_icmp .le 7, 3) := by decide +kernel
theorem d_X12_compares_106 : decode cX12_compares 106 = .ok (.iconst 1, 1) := by decide +kernel
theorem d_X12_compares_107 : decode cX12_compares 107 = .ok (.goto 4, 3) := by decide +kernel
theorem d_X12_compares_110 : decode cX12_compares 110 = .ok (.iconst 0, 1) := by decide +kernel
theorem d_X12_compares_111 : decode cX12_compares 111 = .ok (.ireturn, 1) := by decide +kernel
def f_X12_compares (this : Nat) (a1 : Int32) (a2 : Int32) : sa_M Int32 :=
sa_gd 12 this (
sa_jn1 (fun (y1 : Int32) =>
sa_bnd (sa_rdI 12 this 11) fun v2 =>
if v2 = (-1) then
sa_bnd (f_X12_look this) fun v3 =>
sa_bnd (f_X12_isSign v3) fun v4 =>
if ¬ v4 = 0 then
sa_bnd (sa_rdI 12 this 10) fun v5 =>
sa_bnd (sa_wrI 12 this 10 (v5 + 1)) fun _ =>
sa_bnd (f_X12_sum 60 this) fun v6 =>
sa_jn1 (fun (y7 : Int32) =>
sa_retZ y7) fun j111 =>
if ¬ v3 = 61 then
if ¬ v3 = 60 then
if y1 ≤ v6 then
j111 0
else
j111 1
else
if v6 ≤ y1 then
j111 0
else
j111 1
else
if ¬ y1 = v6 then
j111 0
else
j111 1
else
sa_bnd (f_X12_fails this) fun v8 =>
sa_retZ v8
else
sa_retZ 0) fun j12 =>
if a1 = 0 then
sa_bnd (f_X12_sum 60 this) fun v9 =>
j12 v9
else
j12 a2)
set_option maxHeartbeats 1000000 in
set_option maxRecDepth 10000 in
theorem b_X12_compares {p : Program} {l : Launch} {e : Env} {s : State} {m : MethodId} {args : Array Value} {below : List Frame} {meth : Method} {c : Code} {D : va_G} {ad : Nat → Nat} {cA : FieldType → ClassId} {A : Nat → Prop} (this : Nat) (a1 : Int32) (a2 : Int32) (C : sa_C p s m args meth c cX12_compares RX12 "compares" 6 (some .boolean) D ad cA A) : sa_Sg p l e s m args below meth c 6 67 D ad cA A sa_eI 0 [(0, .ref (ad this)), (1, .int a1), (2, .int a2)] [] (f_X12_compares this a1 a2) := by
  unfold f_X12_compares
  refine sa_gdI ?_
  refine sa_iload_n C d_X12_compares_0 rfl 1 rfl ?_
  refine sa_join1 12 (fun y1 => [(0, .ref (ad this))]) (fun y1 => [.int y1]) (fun y1 => ?_) (fun j12 hj12 => ?_)
  · refine sa_istore_n (lv' := [(3, .int y1), (0, .ref (ad this))]) C d_X12_compares_12 rfl (by decide) rfl ?_
    refine sa_aload_n C d_X12_compares_13 rfl 1 rfl ?_
    refine sa_getI C fd_X12_159 d_X12_compares_14 (fun v2 => ?_)
    refine sa_iconst (v := (-1)) C d_X12_compares_17 (by decide) ?_
    refine sa_icmp_eq (tgt := 23) C d_X12_compares_18 (by decide) ?_ ?_
    · refine sa_aload_n C d_X12_compares_23 rfl 1 rfl ?_
      refine sa_invV (ci := 12) C (k_X12_look this) q1653 ds_X12_look q128 rfl q1652 q49 q1650 (gd_X12_look this) rfl rfl rfl (Nat.le_of_ble_eq_true rfl) (by decide) (by decide) d_X12_compares_24 (fun v3 => ?_)
      refine sa_istore (lv' := [(4, .int v3), (3, .int y1), (0, .ref (ad this))]) C d_X12_compares_27 (by decide) rfl ?_
      refine sa_iload C d_X12_compares_29 0 rfl ?_
      refine sa_invS C (k_X12_isSign v3) q1755 ds_X12_isSign q128 q1754 q1753 rfl rfl rfl (Nat.le_of_ble_eq_true rfl) (by decide) (by decide) d_X12_compares_31 (fun v4 => ?_)
      refine sa_if_ne (tgt := 42) C d_X12_compares_34 (by decide) ?_ ?_
      · refine sa_aload_n C d_X12_compares_42 rfl 2 rfl ?_
        refine sa_dup C d_X12_compares_43 rfl ?_
        refine sa_getI C fd_X12_150 d_X12_compares_44 (fun v5 => ?_)
        refine sa_iconst (v := 1) C d_X12_compares_47 (by decide) ?_
        refine sa_iadd C d_X12_compares_48 ?_
        refine sa_putI C fd_X12_150 d_X12_compares_49 ?_
        refine sa_aload_n C d_X12_compares_52 rfl 2 rfl ?_
        refine sa_invV (ci := 12) C (k_X12_sum 60 this) q1729 ds_X12_sum q128 rfl q1728 q62 q1726 (gd_X12_sum 60 this) rfl rfl rfl (Nat.le_of_ble_eq_true rfl) (by decide) (by decide) d_X12_compares_53 (fun v6 => ?_)
        refine sa_istore (lv' := [(5, .int v6), (4, .int v3), (3, .int y1), (0, .ref (ad this))]) C d_X12_compares_56 (by decide) rfl ?_
        refine sa_iload C d_X12_compares_58 1 rfl ?_
        refine sa_bipush (v := 61) C d_X12_compares_60 (by decide) ?_
        refine sa_join1 111 (fun y7 => []) (fun y7 => [.int y7]) (fun y7 => ?_) (fun j111 hj111 => ?_)
        · exact sa_zret C d_X12_compares_111
        refine sa_icmp_ne (tgt := 79) C d_X12_compares_62 (by decide) ?_ ?_
        · refine sa_iload C d_X12_compares_79 1 rfl ?_
          refine sa_bipush (v := 60) C d_X12_compares_81 (by decide) ?_
          refine sa_icmp_ne (tgt := 100) C d_X12_compares_83 (by decide) ?_ ?_
          · refine sa_iload_n C d_X12_compares_100 rfl 2 rfl ?_
            refine sa_iload C d_X12_compares_101 0 rfl ?_
            refine sa_icmp_le (tgt := 110) C d_X12_compares_103 (by decide) ?_ ?_
            · refine sa_iconst (v := 0) C d_X12_compares_110 (by decide) ?_
              exact sa_sub [] rfl (hj111 _)
            refine sa_iconst (v := 1) C d_X12_compares_106 (by decide) ?_
            refine sa_goto (tgt := 111) C d_X12_compares_107 (by decide) ?_
            exact sa_sub [] rfl (hj111 _)
          refine sa_iload_n C d_X12_compares_86 rfl 2 rfl ?_
          refine sa_iload C d_X12_compares_87 0 rfl ?_
          refine sa_icmp_ge (tgt := 96) C d_X12_compares_89 (by decide) ?_ ?_
          · refine sa_iconst (v := 0) C d_X12_compares_96 (by decide) ?_
            refine sa_goto (tgt := 111) C d_X12_compares_97 (by decide) ?_
            exact sa_sub [] rfl (hj111 _)
          refine sa_iconst (v := 1) C d_X12_compares_92 (by decide) ?_
          refine sa_goto (tgt := 111) C d_X12_compares_93 (by decide) ?_
          exact sa_sub [] rfl (hj111 _)
        refine sa_iload_n C d_X12_compares_65 rfl 2 rfl ?_
        refine sa_iload C d_X12_compares_66 0 rfl ?_
        refine sa_icmp_ne (tgt := 75) C d_X12_compares_68 (by decide) ?_ ?_
        · refine sa_iconst (v := 0) C d_X12_compares_75 (by decide) ?_
          refine sa_goto (tgt := 111) C d_X12_compares_76 (by decide) ?_
          exact sa_sub [] rfl (hj111 _)
        refine sa_iconst (v := 1) C d_X12_compares_71 (by decide) ?_
        refine sa_goto (tgt := 111) C d_X12_compares_72 (by decide) ?_
        exact sa_sub [] rfl (hj111 _)
      refine sa_aload_n C d_X12_compares_37 rfl 2 rfl ?_
      refine sa_invV (ci := 12) C (k_X12_fails this) q1657 ds_X12_fails q128 rfl q1656 q50 q1654 (gd_X12_fails this) rfl rfl rfl (Nat.le_of_ble_eq_true rfl) (by decide) (by decide) d_X12_compares_38 (fun v8 => ?_)
      exact sa_zret C d_X12_compares_41
    refine sa_iconst (v := 0) C d_X12_compares_21 (by decide) ?_
    exact sa_zret C d_X12_compares_22
  refine sa_if_eq (tgt := 8) C d_X12_compares_1 (by decide) ?_ ?_
  · refine sa_aload_n C d_X12_compares_8 rfl 0 rfl ?_
    refine sa_invV (ci := 12) C (k_X12_sum 60 this) q1729 ds_X12_sum q128 rfl q1728 q62 q1726 (gd_X12_sum 60 this) rfl rfl rfl (Nat.le_of_ble_eq_true rfl) (by decide) (by decide) d_X12_compares_9 (fun v9 => ?_)
    exact sa_sub [0] rfl (hj12 _)
  refine sa_iload_n C d_X12_compares_4 rfl 2 rfl ?_
  refine sa_goto (tgt := 12) C d_X12_compares_5 (by decide) ?_
  exact sa_sub [0] rfl (hj12 _)
theorem k_X12_compares (this : Nat) (a1 : Int32) (a2 : Int32) : sa_Met 67 yX12_compares cX12_compares 6 (some .boolean) (fun ad => [.ref (ad this), .int a1, .int a2]) sa_eI (f_X12_compares this a1 a2) := sa_mk (by decide) (fun ad => Nat.le_of_ble_eq_true rfl) (fun p l e s m args below meth c D ad cA A C => b_X12_compares this a1 a2 C)
theorem gd_X12_compares (this : Nat) (a1 : Int32) (a2 : Int32) (σ : sa_St) (r : Int32) (τ : sa_St) (h : f_X12_compares this a1 a2 σ = some (r, τ)) : sa_sh this = some (.inl 12) := sa_gd_ok h
theorem d_X12_unit_0 : decode cX12_unit 0 = .ok (.aload_n 0, 1) := by decide +kernel
theorem d_X12_unit_1 : decode cX12_unit 1 = .ok (.invokevirtual 169, 3) := by decide +kernel
theorem d_X12_unit_4 : decode cX12_unit 4 = .ok (.istore_n 1, 1) := by decide +kernel
theorem d_X12_unit_5 : decode cX12_unit 5 = .ok (.iload_n 1, 1) := by decide +kernel
theorem d_X12_unit_6 : decode cX12_unit 6 = .ok (.bipush 33, 2) := by decide +kernel
theorem d_X12_unit_8 : decode cX12_unit 8 = .ok (.if_icmp .ne 37, 3) := by decide +kernel
theorem d_X12_unit_11 : decode cX12_unit 11 = .ok (.aload_n 0, 1) := by decide +kernel
theorem d_X12_unit_12 : decode cX12_unit 12 = .ok (.invokevirtual 189, 3) := by decide +kernel
theorem d_X12_unit_15 : decode cX12_unit 15 = .ok (.ifCond .ne 5, 3) := by decide +kernel
theorem d_X12_unit_18 : decode cX12_unit 18 = .ok (.iconst 0, 1) := by decide +kernel
theorem d_X12_unit_19 : decode cX12_unit 19 = .ok (.ireturn, 1) := by decide +kernel
theorem d_X12_unit_20 : decode cX12_unit 20 = .ok (.aload_n 0, 1) := by decide +kernel
theorem d_X12_unit_21 : decode cX12_unit 21 = .ok (.invokevirtual 215, 3) := by decide +kernel
theorem d_X12_unit_24 : decode cX12_unit 24 = .ok (.istore_n 2, 1) := by decide +kernel
theorem d_X12_unit_25 : decode cX12_unit 25 = .ok (.aload_n 0, 1) := by decide +kernel
theorem d_X12_unit_26 : decode cX12_unit 26 = .ok (.dup, 1) := by decide +kernel
theorem d_X12_unit_27 : decode cX12_unit 27 = .ok (.getfield 162, 3) := by decide +kernel
theorem d_X12_unit_30 : decode cX12_unit 30 = .ok (.iconst 1, 1) := by decide +kernel
theorem d_X12_unit_31 : decode cX12_unit 31 = .ok (.isub, 1) := by decide +kernel
theorem d_X12_unit_32 : decode cX12_unit 32 = .ok (.putfield 162, 3) := by decide +kernel
theorem d_X12_unit_35 : decode cX12_unit 35 = .ok (.iload_n 2, 1) := by decide +kernel
theorem d_X12_unit_36 : decode cX12_unit 36 = .ok (.ifCond .ne 7, 3) := by decide +kernel
theorem d_X12_unit_39 : decode cX12_unit 39 = .ok (.iconst 1, 1) := by decide +kernel
theorem d_X12_unit_40 : decode cX12_unit 40 = .ok (.goto 4, 3) := by decide +kernel
theorem d_X12_unit_43 : decode cX12_unit 43 = .ok (.iconst 0, 1) := by decide +kernel
theorem d_X12_unit_44 : decode cX12_unit 44 = .ok (.ireturn, 1) := by decide +kernel
theorem d_X12_unit_45 : decode cX12_unit 45 = .ok (.iload_n 1, 1) := by decide +kernel
theorem d_X12_unit_46 : decode cX12_unit 46 = .ok (.bipush 40, 2) := by decide +kernel
theorem d_X12_unit_48 : decode cX12_unit 48 = .ok (.if_icmp .ne 42, 3) := by decide +kernel
theorem d_X12_unit_51 : decode cX12_unit 51 = .ok (.aload_n 0, 1) := by decide +kernel
theorem d_X12_unit_52 : decode cX12_unit 52 = .ok (.invokevirtual 189, 3) := by decide +kernel
theorem d_X12_unit_55 : decode cX12_unit 55 = .ok (.ifCond .ne 5, 3) := by decide +kernel
theorem d_X12_unit_58 : decode cX12_unit 58 = .ok (.iconst 0, 1) := by decide +kernel
theorem d_X12_unit_59 : decode cX12_unit 59 = .ok (.ireturn, 1) := by decide +kernel
theorem d_X12_unit_60 : decode cX12_unit 60 = .ok (.aload_n 0, 1) := by decide +kernel
theorem d_X12_unit_61 : decode cX12_unit 61 = .ok (.iconst 0, 1) := by decide +kernel
theorem d_X12_unit_62 : decode cX12_unit 62 = .ok (.iconst 0, 1) := by decide +kernel
theorem d_X12_unit_63 : decode cX12_unit 63 = .ok (.invokevirtual 218, 3) := by decide +kernel
theorem d_X12_unit_66 : decode cX12_unit 66 = .ok (.istore_n 2, 1) := by decide +kernel
theorem d_X12_unit_67 : decode cX12_unit 67 = .ok (.aload_n 0, 1) := by decide +kernel
theorem d_X12_unit_68 : decode cX12_unit 68 = .ok (.bipush 41, 2) := by decide +kernel
theorem d_X12_unit_70 : decode cX12_unit 70 = .ok (.invokevirtual 195, 3) := by decide +kernel
theorem d_X12_unit_73 : decode cX12_unit 73 = .ok (.ifCond .ne 5, 3) := by decide +kernel
theorem d_X12_unit_76 : decode cX12_unit 76 = .ok (.iconst 0, 1) := by decide +kernel
theorem d_X12_unit_77 : decode cX12_unit 77 = .ok (.ireturn, 1) := by decide +kernel
theorem d_X12_unit_78 : decode cX12_unit 78 = .ok (.aload_n 0, 1) := by decide +kernel
theorem d_X12_unit_79 : decode cX12_unit 79 = .ok (.dup, 1) := by decide +kernel
theorem d_X12_unit_80 : decode cX12_unit 80 = .ok (.getfield 162, 3) := by decide +kernel
theorem d_X12_unit_83 : decode cX12_unit 83 = .ok (.iconst 1, 1) := by decide +kernel
theorem d_X12_unit_84 : decode cX12_unit 84 = .ok (.isub, 1) := by decide +kernel
theorem d_X12_unit_85 : decode cX12_unit 85 = .ok (.putfield 162, 3) := by decide +kernel
theorem d_X12_unit_88 : decode cX12_unit 88 = .ok (.iload_n 2, 1) := by decide +kernel
theorem d_X12_unit_89 : decode cX12_unit 89 = .ok (.ireturn, 1) := by decide +kernel
theorem d_X12_unit_90 : decode cX12_unit 90 = .ok (.aload_n 0, 1) := by decide +kernel
theorem d_X12_unit_91 : decode cX12_unit 91 = .ok (.iconst 0, 1) := by decide +kernel
theorem d_X12_unit_92 : decode cX12_unit 92 = .ok (.iconst 0, 1) := by decide +kernel
theorem d_X12_unit_93 : decode cX12_unit 93 = .ok (.invokevirtual 222, 3) := by decide +kernel
theorem d_X12_unit_96 : decode cX12_unit 96 = .ok (.ireturn, 1) := by decide +kernel
def fb_X12_unit (g_X12_unit : Nat → sa_M Int32) (g_X12_condition : Nat → Int32 → Int32 → sa_M Int32) (g_X12_part : Nat → Int32 → Int32 → sa_M Int32) (this : Nat) : sa_M Int32 :=
sa_gd 12 this (
sa_bnd (f_X12_look this) fun v1 =>
if ¬ v1 = 33 then
if ¬ v1 = 40 then
sa_bnd (f_X12_compares this 0 0) fun v2 =>
sa_retZ v2
else
sa_bnd (f_X12_goesIn this) fun v3 =>
if ¬ v3 = 0 then
sa_bnd (g_X12_condition this 0 0) fun v4 =>
sa_bnd (f_X12_takes this 41) fun v5 =>
if ¬ v5 = 0 then
sa_bnd (sa_rdI 12 this 12) fun v6 =>
sa_bnd (sa_wrI 12 this 12 (v6 - 1)) fun _ =>
sa_retZ v4
else
sa_retZ 0
else
sa_retZ 0
else
sa_bnd (f_X12_goesIn this) fun v7 =>
if ¬ v7 = 0 then
sa_bnd (g_X12_unit this) fun v8 =>
sa_bnd (sa_rdI 12 this 12) fun v9 =>
sa_bnd (sa_wrI 12 this 12 (v9 - 1)) fun _ =>
sa_jn1 (fun (y10 : Int32) =>
sa_retZ y10) fun j44 =>
if ¬ v8 = 0 then
j44 0
else
j44 1
else
sa_retZ 0)
set_option maxHeartbeats 1000000 in
set_option maxRecDepth 10000 in
theorem b_X12_unit {d : Nat} (hd0 : 67 ≤ d) (g_X12_unit : Nat → sa_M Int32) (g_X12_condition : Nat → Int32 → Int32 → sa_M Int32) (g_X12_part : Nat → Int32 → Int32 → sa_M Int32) (h_X12_unit : ∀ (this : Nat), sa_Met d yX12_unit cX12_unit 3 (some .boolean) (fun ad => [.ref (ad this)]) sa_eI (g_X12_unit this)) (e_X12_unit : ∀ (this : Nat) σ r τ, g_X12_unit this σ = some (r, τ) → sa_sh this = some (.inl 12)) (h_X12_condition : ∀ (this : Nat) (a1 : Int32) (a2 : Int32), sa_Met d yX12_condition cX12_condition 5 (some .boolean) (fun ad => [.ref (ad this), .int a1, .int a2]) sa_eI (g_X12_condition this a1 a2)) (e_X12_condition : ∀ (this : Nat) (a1 : Int32) (a2 : Int32) σ r τ, g_X12_condition this a1 a2 σ = some (r, τ) → sa_sh this = some (.inl 12)) (h_X12_part : ∀ (this : Nat) (a1 : Int32) (a2 : Int32), sa_Met d yX12_part cX12_part 5 (some .boolean) (fun ad => [.ref (ad this), .int a1, .int a2]) sa_eI (g_X12_part this a1 a2)) (e_X12_part : ∀ (this : Nat) (a1 : Int32) (a2 : Int32) σ r τ, g_X12_part this a1 a2 σ = some (r, τ) → sa_sh this = some (.inl 12)) {p : Program} {l : Launch} {e : Env} {s : State} {m : MethodId} {args : Array Value} {below : List Frame} {meth : Method} {c : Code} {D : va_G} {ad : Nat → Nat} {cA : FieldType → ClassId} {A : Nat → Prop} (this : Nat) (C : sa_C p s m args meth c cX12_unit RX12 "unit" 3 (some .boolean) D ad cA A) : sa_Sg p l e s m args below meth c 3 (d + 1) D ad cA A sa_eI 0 [(0, .ref (ad this))] [] (fb_X12_unit g_X12_unit g_X12_condition g_X12_part this) := by
  unfold fb_X12_unit
  refine sa_gdI ?_
  refine sa_aload_n C d_X12_unit_0 rfl 0 rfl ?_
  refine sa_invV (ci := 12) C (k_X12_look this) q1653 ds_X12_look q128 rfl q1652 q49 q1650 (gd_X12_look this) rfl rfl rfl (Nat.le_of_ble_eq_true rfl) (by omega) (by decide) d_X12_unit_1 (fun v1 => ?_)
  refine sa_istore_n (lv' := [(1, .int v1), (0, .ref (ad this))]) C d_X12_unit_4 rfl (by decide) rfl ?_
  refine sa_iload_n C d_X12_unit_5 rfl 0 rfl ?_
  refine sa_bipush (v := 33) C d_X12_unit_6 (by decide) ?_
  refine sa_icmp_ne (tgt := 45) C d_X12_unit_8 (by decide) ?_ ?_
  · refine sa_iload_n C d_X12_unit_45 rfl 0 rfl ?_
    refine sa_bipush (v := 40) C d_X12_unit_46 (by decide) ?_
    refine sa_icmp_ne (tgt := 90) C d_X12_unit_48 (by decide) ?_ ?_
    · refine sa_aload_n C d_X12_unit_90 rfl 1 rfl ?_
      refine sa_iconst (v := 0) C d_X12_unit_91 (by decide) ?_
      refine sa_iconst (v := 0) C d_X12_unit_92 (by decide) ?_
      refine sa_invV (ci := 12) C (k_X12_compares this 0 0) q1725 ds_X12_compares q128 rfl q1724 q61 q1722 (gd_X12_compares this 0 0) rfl rfl rfl (Nat.le_of_ble_eq_true rfl) (by omega) (by decide) d_X12_unit_93 (fun v2 => ?_)
      exact sa_zret C d_X12_unit_96
    refine sa_aload_n C d_X12_unit_51 rfl 1 rfl ?_
    refine sa_invV (ci := 12) C (k_X12_goesIn this) q1741 ds_X12_goesIn q128 rfl q1740 q65 q1738 (gd_X12_goesIn this) rfl rfl rfl (Nat.le_of_ble_eq_true rfl) (by omega) (by decide) d_X12_unit_52 (fun v3 => ?_)
    refine sa_if_ne (tgt := 60) C d_X12_unit_55 (by decide) ?_ ?_
    · refine sa_aload_n C d_X12_unit_60 rfl 1 rfl ?_
      refine sa_iconst (v := 0) C d_X12_unit_61 (by decide) ?_
      refine sa_iconst (v := 0) C d_X12_unit_62 (by decide) ?_
      refine sa_invV (ci := 12) C (h_X12_condition this 0 0) q1717 ds_X12_condition q128 rfl q1716 q59 q1714 (e_X12_condition this 0 0) rfl rfl rfl (Nat.le_of_ble_eq_true rfl) (by omega) (by decide) d_X12_unit_63 (fun v4 => ?_)
      refine sa_istore_n (lv' := [(2, .int v4), (1, .int v1), (0, .ref (ad this))]) C d_X12_unit_66 rfl (by decide) rfl ?_
      refine sa_aload_n C d_X12_unit_67 rfl 2 rfl ?_
      refine sa_bipush (v := 41) C d_X12_unit_68 (by decide) ?_
      refine sa_invV (ci := 12) C (k_X12_takes this 41) q1713 ds_X12_takes q128 rfl q1712 q58 q1710 (gd_X12_takes this 41) rfl rfl rfl (Nat.le_of_ble_eq_true rfl) (by omega) (by decide) d_X12_unit_70 (fun v5 => ?_)
      refine sa_if_ne (tgt := 78) C d_X12_unit_73 (by decide) ?_ ?_
      · refine sa_aload_n C d_X12_unit_78 rfl 2 rfl ?_
        refine sa_dup C d_X12_unit_79 rfl ?_
        refine sa_getI C fd_X12_162 d_X12_unit_80 (fun v6 => ?_)
        refine sa_iconst (v := 1) C d_X12_unit_83 (by decide) ?_
        refine sa_isub C d_X12_unit_84 ?_
        refine sa_putI C fd_X12_162 d_X12_unit_85 ?_
        refine sa_iload_n C d_X12_unit_88 rfl 0 rfl ?_
        exact sa_zret C d_X12_unit_89
      refine sa_iconst (v := 0) C d_X12_unit_76 (by decide) ?_
      exact sa_zret C d_X12_unit_77
    refine sa_iconst (v := 0) C d_X12_unit_58 (by decide) ?_
    exact sa_zret C d_X12_unit_59
  refine sa_aload_n C d_X12_unit_11 rfl 1 rfl ?_
  refine sa_invV (ci := 12) C (k_X12_goesIn this) q1741 ds_X12_goesIn q128 rfl q1740 q65 q1738 (gd_X12_goesIn this) rfl rfl rfl (Nat.le_of_ble_eq_true rfl) (by omega) (by decide) d_X12_unit_12 (fun v7 => ?_)
  refine sa_if_ne (tgt := 20) C d_X12_unit_15 (by decide) ?_ ?_
  · refine sa_aload_n C d_X12_unit_20 rfl 1 rfl ?_
    refine sa_invV (ci := 12) C (h_X12_unit this) q1759 ds_X12_unit q128 rfl q1758 q66 q1756 (e_X12_unit this) rfl rfl rfl (Nat.le_of_ble_eq_true rfl) (by omega) (by decide) d_X12_unit_21 (fun v8 => ?_)
    refine sa_istore_n (lv' := [(2, .int v8), (1, .int v1), (0, .ref (ad this))]) C d_X12_unit_24 rfl (by decide) rfl ?_
    refine sa_aload_n C d_X12_unit_25 rfl 2 rfl ?_
    refine sa_dup C d_X12_unit_26 rfl ?_
    refine sa_getI C fd_X12_162 d_X12_unit_27 (fun v9 => ?_)
    refine sa_iconst (v := 1) C d_X12_unit_30 (by decide) ?_
    refine sa_isub C d_X12_unit_31 ?_
    refine sa_putI C fd_X12_162 d_X12_unit_32 ?_
    refine sa_iload_n C d_X12_unit_35 rfl 0 rfl ?_
    refine sa_join1 44 (fun y10 => []) (fun y10 => [.int y10]) (fun y10 => ?_) (fun j44 hj44 => ?_)
    · exact sa_zret C d_X12_unit_44
    refine sa_if_ne (tgt := 43) C d_X12_unit_36 (by decide) ?_ ?_
    · refine sa_iconst (v := 0) C d_X12_unit_43 (by decide) ?_
      exact sa_sub [] rfl (hj44 _)
    refine sa_iconst (v := 1) C d_X12_unit_39 (by decide) ?_
    refine sa_goto (tgt := 44) C d_X12_unit_40 (by decide) ?_
    exact sa_sub [] rfl (hj44 _)
  refine sa_iconst (v := 0) C d_X12_unit_18 (by decide) ?_
  exact sa_zret C d_X12_unit_19
theorem d_X12_condition_0 : decode cX12_condition 0 = .ok (.aload_n 0, 1) := by decide +kernel
theorem d_X12_condition_1 : decode cX12_condition 1 = .ok (.iload_n 1, 1) := by decide +kernel
theorem d_X12_condition_2 : decode cX12_condition 2 = .ok (.iload_n 2, 1) := by decide +kernel
theorem d_X12_condition_3 : decode cX12_condition 3 = .ok (.invokevirtual 225, 3) := by decide +kernel
theorem d_X12_condition_6 : decode cX12_condition 6 = .ok (.istore_n 3, 1) := by decide +kernel
theorem d_X12_condition_7 : decode cX12_condition 7 = .ok (.aload_n 0, 1) := by decide +kernel
theorem d_X12_condition_8 : decode cX12_condition 8 = .ok (.getfield 159, 3) := by decide +kernel
theorem d_X12_condition_11 : decode cX12_condition 11 = .ok (.iconst (-1), 1) := by decide +kernel
theorem d_X12_condition_12 : decode cX12_condition 12 = .ok (.if_icmp .ne 48, 3) := by decide +kernel
theorem d_X12_condition_15 : decode cX12_condition 15 = .ok (.aload_n 0, 1) := by decide +kernel
theorem d_X12_condition_16 : decode cX12_condition 16 = .ok (.invokevirtual 169, 3) := by decide +kernel
theorem d_X12_condition_19 : decode cX12_condition 19 = .ok (.bipush 124, 2) := by decide +kernel
theorem d_X12_condition_21 : decode cX12_condition 21 = .ok (.if_icmp .ne 39, 3) := by decide +kernel
theorem d_X12_condition_24 : decode cX12_condition 24 = .ok (.aload_n 0, 1) := by decide +kernel
theorem d_X12_condition_25 : decode cX12_condition 25 = .ok (.dup, 1) := by decide +kernel
theorem d_X12_condition_26 : decode cX12_condition 26 = .ok (.getfield 150, 3) := by decide +kernel
theorem d_X12_condition_29 : decode cX12_condition 29 = .ok (.iconst 1, 1) := by decide +kernel
theorem d_X12_condition_30 : decode cX12_condition 30 = .ok (.iadd, 1) := by decide +kernel
theorem d_X12_condition_31 : decode cX12_condition 31 = .ok (.putfield 150, 3) := by decide +kernel
theorem d_X12_condition_34 : decode cX12_condition 34 = .ok (.aload_n 0, 1) := by decide +kernel
theorem d_X12_condition_35 : decode cX12_condition 35 = .ok (.iconst 0, 1) := by decide +kernel
theorem d_X12_condition_36 : decode cX12_condition 36 = .ok (.iconst 0, 1) := by decide +kernel
theorem d_X12_condition_37 : decode cX12_condition 37 = .ok (.invokevirtual 225, 3) := by decide +kernel
theorem d_X12_condition_40 : decode cX12_condition 40 = .ok (.istore 4, 2) := by decide +kernel
theorem d_X12_condition_42 : decode cX12_condition 42 = .ok (.iload_n 3, 1) := by decide +kernel
theorem d_X12_condition_43 : decode cX12_condition 43 = .ok (.ifCond .ne 8, 3) := by decide +kernel
theorem d_X12_condition_46 : decode cX12_condition 46 = .ok (.iload 4, 2) := by decide +kernel
theorem d_X12_condition_48 : decode cX12_condition 48 = .ok (.ifCond .eq 7, 3) := by decide +kernel
theorem d_X12_condition_51 : decode cX12_condition 51 = .ok (.iconst 1, 1) := by decide +kernel
theorem d_X12_condition_52 : decode cX12_condition 52 = .ok (.goto 4, 3) := by decide +kernel
theorem d_X12_condition_55 : decode cX12_condition 55 = .ok (.iconst 0, 1) := by decide +kernel
theorem d_X12_condition_56 : decode cX12_condition 56 = .ok (.istore_n 3, 1) := by decide +kernel
theorem d_X12_condition_57 : decode cX12_condition 57 = .ok (.goto (-50), 3) := by decide +kernel
theorem d_X12_condition_60 : decode cX12_condition 60 = .ok (.iload_n 3, 1) := by decide +kernel
theorem d_X12_condition_61 : decode cX12_condition 61 = .ok (.ireturn, 1) := by decide +kernel
def fb_X12_condition (g_X12_unit : Nat → sa_M Int32) (g_X12_condition : Nat → Int32 → Int32 → sa_M Int32) (g_X12_part : Nat → Int32 → Int32 → sa_M Int32) (this : Nat) (a1 : Int32) (a2 : Int32) : sa_M Int32 :=
sa_gd 12 this (
sa_bnd (g_X12_part this a1 a2) fun v1 =>
sa_wh1 (fun j7 (x2 : Int32) =>
sa_bnd (sa_rdI 12 this 11) fun v3 =>
sa_jn0 (sa_retZ x2) fun j60 =>
if ¬ v3 = (-1) then
j60
else
sa_bnd (f_X12_look this) fun v4 =>
if ¬ v4 = 124 then
j60
else
sa_bnd (sa_rdI 12 this 10) fun v5 =>
sa_bnd (sa_wrI 12 this 10 (v5 + 1)) fun _ =>
sa_bnd (g_X12_part this 0 0) fun v6 =>
sa_jn1 (fun (y7 : Int32) =>
j7 y7) fun j56 =>
sa_jn0 (j56 1) fun j51 =>
if ¬ x2 = 0 then
j51
else
if v6 = 0 then
j56 0
else
j51) sa_F v1)
set_option maxHeartbeats 1000000 in
set_option maxRecDepth 10000 in
theorem b_X12_condition {d : Nat} (hd0 : 67 ≤ d) (g_X12_unit : Nat → sa_M Int32) (g_X12_condition : Nat → Int32 → Int32 → sa_M Int32) (g_X12_part : Nat → Int32 → Int32 → sa_M Int32) (h_X12_unit : ∀ (this : Nat), sa_Met d yX12_unit cX12_unit 3 (some .boolean) (fun ad => [.ref (ad this)]) sa_eI (g_X12_unit this)) (e_X12_unit : ∀ (this : Nat) σ r τ, g_X12_unit this σ = some (r, τ) → sa_sh this = some (.inl 12)) (h_X12_condition : ∀ (this : Nat) (a1 : Int32) (a2 : Int32), sa_Met d yX12_condition cX12_condition 5 (some .boolean) (fun ad => [.ref (ad this), .int a1, .int a2]) sa_eI (g_X12_condition this a1 a2)) (e_X12_condition : ∀ (this : Nat) (a1 : Int32) (a2 : Int32) σ r τ, g_X12_condition this a1 a2 σ = some (r, τ) → sa_sh this = some (.inl 12)) (h_X12_part : ∀ (this : Nat) (a1 : Int32) (a2 : Int32), sa_Met d yX12_part cX12_part 5 (some .boolean) (fun ad => [.ref (ad this), .int a1, .int a2]) sa_eI (g_X12_part this a1 a2)) (e_X12_part : ∀ (this : Nat) (a1 : Int32) (a2 : Int32) σ r τ, g_X12_part this a1 a2 σ = some (r, τ) → sa_sh this = some (.inl 12)) {p : Program} {l : Launch} {e : Env} {s : State} {m : MethodId} {args : Array Value} {below : List Frame} {meth : Method} {c : Code} {D : va_G} {ad : Nat → Nat} {cA : FieldType → ClassId} {A : Nat → Prop} (this : Nat) (a1 : Int32) (a2 : Int32) (C : sa_C p s m args meth c cX12_condition RX12 "condition" 5 (some .boolean) D ad cA A) : sa_Sg p l e s m args below meth c 5 (d + 1) D ad cA A sa_eI 0 [(0, .ref (ad this)), (1, .int a1), (2, .int a2)] [] (fb_X12_condition g_X12_unit g_X12_condition g_X12_part this a1 a2) := by
  unfold fb_X12_condition
  refine sa_gdI ?_
  refine sa_aload_n C d_X12_condition_0 rfl 0 rfl ?_
  refine sa_iload_n C d_X12_condition_1 rfl 1 rfl ?_
  refine sa_iload_n C d_X12_condition_2 rfl 2 rfl ?_
  refine sa_invV (ci := 12) C (h_X12_part this a1 a2) q1721 ds_X12_part q128 rfl q1720 q60 q1718 (e_X12_part this a1 a2) rfl rfl rfl (Nat.le_of_ble_eq_true rfl) (by omega) (by decide) d_X12_condition_3 (fun v1 => ?_)
  refine sa_istore_n (lv' := [(3, .int v1), (0, .ref (ad this)), (1, .int a1), (2, .int a2)]) C d_X12_condition_6 rfl (by decide) rfl ?_
  refine sa_sub [1, 0] rfl (sa_loop1 (fun x2 => [(0, .ref (ad this)), (3, .int x2)]) (fun x2 => []) (fun j7 hj7 x2 => ?_) _ _)
  refine sa_aload_n C d_X12_condition_7 rfl 0 rfl ?_
  refine sa_getI C fd_X12_159 d_X12_condition_8 (fun v3 => ?_)
  refine sa_iconst (v := (-1)) C d_X12_condition_11 (by decide) ?_
  refine sa_join0 60 ([(3, .int x2)]) ([]) (?_) (fun j60 hj60 => ?_)
  · refine sa_iload_n C d_X12_condition_60 rfl 0 rfl ?_
    exact sa_zret C d_X12_condition_61
  refine sa_icmp_ne (tgt := 60) C d_X12_condition_12 (by decide) ?_ ?_
  · exact sa_sub [1] rfl (hj60)
  refine sa_aload_n C d_X12_condition_15 rfl 0 rfl ?_
  refine sa_invV (ci := 12) C (k_X12_look this) q1653 ds_X12_look q128 rfl q1652 q49 q1650 (gd_X12_look this) rfl rfl rfl (Nat.le_of_ble_eq_true rfl) (by omega) (by decide) d_X12_condition_16 (fun v4 => ?_)
  refine sa_bipush (v := 124) C d_X12_condition_19 (by decide) ?_
  refine sa_icmp_ne (tgt := 60) C d_X12_condition_21 (by decide) ?_ ?_
  · exact sa_sub [1] rfl (hj60)
  refine sa_aload_n C d_X12_condition_24 rfl 0 rfl ?_
  refine sa_dup C d_X12_condition_25 rfl ?_
  refine sa_getI C fd_X12_150 d_X12_condition_26 (fun v5 => ?_)
  refine sa_iconst (v := 1) C d_X12_condition_29 (by decide) ?_
  refine sa_iadd C d_X12_condition_30 ?_
  refine sa_putI C fd_X12_150 d_X12_condition_31 ?_
  refine sa_aload_n C d_X12_condition_34 rfl 0 rfl ?_
  refine sa_iconst (v := 0) C d_X12_condition_35 (by decide) ?_
  refine sa_iconst (v := 0) C d_X12_condition_36 (by decide) ?_
  refine sa_invV (ci := 12) C (h_X12_part this 0 0) q1721 ds_X12_part q128 rfl q1720 q60 q1718 (e_X12_part this 0 0) rfl rfl rfl (Nat.le_of_ble_eq_true rfl) (by omega) (by decide) d_X12_condition_37 (fun v6 => ?_)
  refine sa_istore (lv' := [(4, .int v6), (0, .ref (ad this)), (3, .int x2)]) C d_X12_condition_40 (by decide) rfl ?_
  refine sa_iload_n C d_X12_condition_42 rfl 2 rfl ?_
  refine sa_join1 56 (fun y7 => [(0, .ref (ad this))]) (fun y7 => [.int y7]) (fun y7 => ?_) (fun j56 hj56 => ?_)
  · refine sa_istore_n (lv' := [(3, .int y7), (0, .ref (ad this))]) C d_X12_condition_56 rfl (by decide) rfl ?_
    refine sa_goto (tgt := 7) C d_X12_condition_57 (by decide) ?_
    exact sa_sub [1, 0] rfl (hj7 _)
  refine sa_join0 51 ([(0, .ref (ad this))]) ([]) (?_) (fun j51 hj51 => ?_)
  · refine sa_iconst (v := 1) C d_X12_condition_51 (by decide) ?_
    refine sa_goto (tgt := 56) C d_X12_condition_52 (by decide) ?_
    exact sa_sub [0] rfl (hj56 _)
  refine sa_if_ne (tgt := 51) C d_X12_condition_43 (by decide) ?_ ?_
  · exact sa_sub [1] rfl (hj51)
  refine sa_iload C d_X12_condition_46 0 rfl ?_
  refine sa_if_eq (tgt := 55) C d_X12_condition_48 (by decide) ?_ ?_
  · refine sa_iconst (v := 0) C d_X12_condition_55 (by decide) ?_
    exact sa_sub [1] rfl (hj56 _)
  exact sa_sub [1] rfl (hj51)
theorem d_X12_part_0 : decode cX12_part 0 = .ok (.iload_n 1, 1) := by decide +kernel
theorem d_X12_part_1 : decode cX12_part 1 = .ok (.ifCond .eq 12, 3) := by decide +kernel
theorem d_X12_part_4 : decode cX12_part 4 = .ok (.aload_n 0, 1) := by decide +kernel
theorem d_X12_part_5 : decode cX12_part 5 = .ok (.iconst 1, 1) := by decide +kernel
theorem d_X12_part_6 : decode cX12_part 6 = .ok (.iload_n 2, 1) := by decide +kernel
theorem d_X12_part_7 : decode cX12_part 7 = .ok (.invokevirtual 222, 3) := by decide +kernel
theorem d_X12_part_10 : decode cX12_part 10 = .ok (.goto 7, 3) := by decide +kernel
theorem d_X12_part_13 : decode cX12_part 13 = .ok (.aload_n 0, 1) := by decide +kernel
theorem d_X12_part_14 : decode cX12_part 14 = .ok (.invokevirtual 215, 3) := by decide +kernel
theorem d_X12_part_17 : decode cX12_part 17 = .ok (.istore_n 3, 1) := by decide +kernel
theorem d_X12_part_18 : decode cX12_part 18 = .ok (.aload_n 0, 1) := by decide +kernel
theorem d_X12_part_19 : decode cX12_part 19 = .ok (.getfield 159, 3) := by decide +kernel
theorem d_X12_part_22 : decode cX12_part 22 = .ok (.iconst (-1), 1) := by decide +kernel
theorem d_X12_part_23 : decode cX12_part 23 = .ok (.if_icmp .ne 46, 3) := by decide +kernel
theorem d_X12_part_26 : decode cX12_part 26 = .ok (.aload_n 0, 1) := by decide +kernel
theorem d_X12_part_27 : decode cX12_part 27 = .ok (.invokevirtual 169, 3) := by decide +kernel
theorem d_X12_part_30 : decode cX12_part 30 = .ok (.bipush 38, 2) := by decide +kernel
theorem d_X12_part_32 : decode cX12_part 32 = .ok (.if_icmp .ne 37, 3) := by decide +kernel
theorem d_X12_part_35 : decode cX12_part 35 = .ok (.aload_n 0, 1) := by decide +kernel
theorem d_X12_part_36 : decode cX12_part 36 = .ok (.dup, 1) := by decide +kernel
theorem d_X12_part_37 : decode cX12_part 37 = .ok (.getfield 150, 3) := by decide +kernel
theorem d_X12_part_40 : decode cX12_part 40 = .ok (.iconst 1, 1) := by decide +kernel
theorem d_X12_part_41 : decode cX12_part 41 = .ok (.iadd, 1) := by decide +kernel
theorem d_X12_part_42 : decode cX12_part 42 = .ok (.putfield 150, 3) := by decide +kernel
theorem d_X12_part_45 : decode cX12_part 45 = .ok (.aload_n 0, 1) := by decide +kernel
theorem d_X12_part_46 : decode cX12_part 46 = .ok (.invokevirtual 215, 3) := by decide +kernel
theorem d_X12_part_49 : decode cX12_part 49 = .ok (.istore 4, 2) := by decide +kernel
theorem d_X12_part_51 : decode cX12_part 51 = .ok (.iload_n 3, 1) := by decide +kernel
theorem d_X12_part_52 : decode cX12_part 52 = .ok (.ifCond .eq 12, 3) := by decide +kernel
theorem d_X12_part_55 : decode cX12_part 55 = .ok (.iload 4, 2) := by decide +kernel
theorem d_X12_part_57 : decode cX12_part 57 = .ok (.ifCond .eq 7, 3) := by decide +kernel
theorem d_X12_part_60 : decode cX12_part 60 = .ok (.iconst 1, 1) := by decide +kernel
theorem d_X12_part_61 : decode cX12_part 61 = .ok (.goto 4, 3) := by decide +kernel
theorem d_X12_part_64 : decode cX12_part 64 = .ok (.iconst 0, 1) := by decide +kernel
theorem d_X12_part_65 : decode cX12_part 65 = .ok (.istore_n 3, 1) := by decide +kernel
theorem d_X12_part_66 : decode cX12_part 66 = .ok (.goto (-48), 3) := by decide +kernel
theorem d_X12_part_69 : decode cX12_part 69 = .ok (.iload_n 3, 1) := by decide +kernel
theorem d_X12_part_70 : decode cX12_part 70 = .ok (.ireturn, 1) := by decide +kernel
def fb_X12_part (g_X12_unit : Nat → sa_M Int32) (g_X12_condition : Nat → Int32 → Int32 → sa_M Int32) (g_X12_part : Nat → Int32 → Int32 → sa_M Int32) (this : Nat) (a1 : Int32) (a2 : Int32) : sa_M Int32 :=
sa_gd 12 this (
sa_jn1 (fun (y1 : Int32) =>
sa_wh1 (fun j18 (x2 : Int32) =>
sa_bnd (sa_rdI 12 this 11) fun v3 =>
sa_jn0 (sa_retZ x2) fun j69 =>
if ¬ v3 = (-1) then
j69
else
sa_bnd (f_X12_look this) fun v4 =>
if ¬ v4 = 38 then
j69
else
sa_bnd (sa_rdI 12 this 10) fun v5 =>
sa_bnd (sa_wrI 12 this 10 (v5 + 1)) fun _ =>
sa_bnd (g_X12_unit this) fun v6 =>
sa_jn1 (fun (y7 : Int32) =>
j18 y7) fun j65 =>
sa_jn0 (j65 0) fun j64 =>
if x2 = 0 then
j64
else
if v6 = 0 then
j64
else
j65 1) sa_F y1) fun j17 =>
if a1 = 0 then
sa_bnd (g_X12_unit this) fun v8 =>
j17 v8
else
sa_bnd (f_X12_compares this 1 a2) fun v9 =>
j17 v9)
set_option maxHeartbeats 1000000 in
set_option maxRecDepth 10000 in
theorem b_X12_part {d : Nat} (hd0 : 67 ≤ d) (g_X12_unit : Nat → sa_M Int32) (g_X12_condition : Nat → Int32 → Int32 → sa_M Int32) (g_X12_part : Nat → Int32 → Int32 → sa_M Int32) (h_X12_unit : ∀ (this : Nat), sa_Met d yX12_unit cX12_unit 3 (some .boolean) (fun ad => [.ref (ad this)]) sa_eI (g_X12_unit this)) (e_X12_unit : ∀ (this : Nat) σ r τ, g_X12_unit this σ = some (r, τ) → sa_sh this = some (.inl 12)) (h_X12_condition : ∀ (this : Nat) (a1 : Int32) (a2 : Int32), sa_Met d yX12_condition cX12_condition 5 (some .boolean) (fun ad => [.ref (ad this), .int a1, .int a2]) sa_eI (g_X12_condition this a1 a2)) (e_X12_condition : ∀ (this : Nat) (a1 : Int32) (a2 : Int32) σ r τ, g_X12_condition this a1 a2 σ = some (r, τ) → sa_sh this = some (.inl 12)) (h_X12_part : ∀ (this : Nat) (a1 : Int32) (a2 : Int32), sa_Met d yX12_part cX12_part 5 (some .boolean) (fun ad => [.ref (ad this), .int a1, .int a2]) sa_eI (g_X12_part this a1 a2)) (e_X12_part : ∀ (this : Nat) (a1 : Int32) (a2 : Int32) σ r τ, g_X12_part this a1 a2 σ = some (r, τ) → sa_sh this = some (.inl 12)) {p : Program} {l : Launch} {e : Env} {s : State} {m : MethodId} {args : Array Value} {below : List Frame} {meth : Method} {c : Code} {D : va_G} {ad : Nat → Nat} {cA : FieldType → ClassId} {A : Nat → Prop} (this : Nat) (a1 : Int32) (a2 : Int32) (C : sa_C p s m args meth c cX12_part RX12 "part" 5 (some .boolean) D ad cA A) : sa_Sg p l e s m args below meth c 5 (d + 1) D ad cA A sa_eI 0 [(0, .ref (ad this)), (1, .int a1), (2, .int a2)] [] (fb_X12_part g_X12_unit g_X12_condition g_X12_part this a1 a2) := by
  unfold fb_X12_part
  refine sa_gdI ?_
  refine sa_iload_n C d_X12_part_0 rfl 1 rfl ?_
  refine sa_join1 17 (fun y1 => [(0, .ref (ad this))]) (fun y1 => [.int y1]) (fun y1 => ?_) (fun j17 hj17 => ?_)
  · refine sa_istore_n (lv' := [(3, .int y1), (0, .ref (ad this))]) C d_X12_part_17 rfl (by decide) rfl ?_
    refine sa_sub [1, 0] rfl (sa_loop1 (fun x2 => [(0, .ref (ad this)), (3, .int x2)]) (fun x2 => []) (fun j18 hj18 x2 => ?_) _ _)
    refine sa_aload_n C d_X12_part_18 rfl 0 rfl ?_
    refine sa_getI C fd_X12_159 d_X12_part_19 (fun v3 => ?_)
    refine sa_iconst (v := (-1)) C d_X12_part_22 (by decide) ?_
    refine sa_join0 69 ([(3, .int x2)]) ([]) (?_) (fun j69 hj69 => ?_)
    · refine sa_iload_n C d_X12_part_69 rfl 0 rfl ?_
      exact sa_zret C d_X12_part_70
    refine sa_icmp_ne (tgt := 69) C d_X12_part_23 (by decide) ?_ ?_
    · exact sa_sub [1] rfl (hj69)
    refine sa_aload_n C d_X12_part_26 rfl 0 rfl ?_
    refine sa_invV (ci := 12) C (k_X12_look this) q1653 ds_X12_look q128 rfl q1652 q49 q1650 (gd_X12_look this) rfl rfl rfl (Nat.le_of_ble_eq_true rfl) (by omega) (by decide) d_X12_part_27 (fun v4 => ?_)
    refine sa_bipush (v := 38) C d_X12_part_30 (by decide) ?_
    refine sa_icmp_ne (tgt := 69) C d_X12_part_32 (by decide) ?_ ?_
    · exact sa_sub [1] rfl (hj69)
    refine sa_aload_n C d_X12_part_35 rfl 0 rfl ?_
    refine sa_dup C d_X12_part_36 rfl ?_
    refine sa_getI C fd_X12_150 d_X12_part_37 (fun v5 => ?_)
    refine sa_iconst (v := 1) C d_X12_part_40 (by decide) ?_
    refine sa_iadd C d_X12_part_41 ?_
    refine sa_putI C fd_X12_150 d_X12_part_42 ?_
    refine sa_aload_n C d_X12_part_45 rfl 0 rfl ?_
    refine sa_invV (ci := 12) C (h_X12_unit this) q1759 ds_X12_unit q128 rfl q1758 q66 q1756 (e_X12_unit this) rfl rfl rfl (Nat.le_of_ble_eq_true rfl) (by omega) (by decide) d_X12_part_46 (fun v6 => ?_)
    refine sa_istore (lv' := [(4, .int v6), (0, .ref (ad this)), (3, .int x2)]) C d_X12_part_49 (by decide) rfl ?_
    refine sa_iload_n C d_X12_part_51 rfl 2 rfl ?_
    refine sa_join1 65 (fun y7 => [(0, .ref (ad this))]) (fun y7 => [.int y7]) (fun y7 => ?_) (fun j65 hj65 => ?_)
    · refine sa_istore_n (lv' := [(3, .int y7), (0, .ref (ad this))]) C d_X12_part_65 rfl (by decide) rfl ?_
      refine sa_goto (tgt := 18) C d_X12_part_66 (by decide) ?_
      exact sa_sub [1, 0] rfl (hj18 _)
    refine sa_join0 64 ([(0, .ref (ad this))]) ([]) (?_) (fun j64 hj64 => ?_)
    · refine sa_iconst (v := 0) C d_X12_part_64 (by decide) ?_
      exact sa_sub [0] rfl (hj65 _)
    refine sa_if_eq (tgt := 64) C d_X12_part_52 (by decide) ?_ ?_
    · exact sa_sub [1] rfl (hj64)
    refine sa_iload C d_X12_part_55 0 rfl ?_
    refine sa_if_eq (tgt := 64) C d_X12_part_57 (by decide) ?_ ?_
    · exact sa_sub [1] rfl (hj64)
    refine sa_iconst (v := 1) C d_X12_part_60 (by decide) ?_
    refine sa_goto (tgt := 65) C d_X12_part_61 (by decide) ?_
    exact sa_sub [1] rfl (hj65 _)
  refine sa_if_eq (tgt := 13) C d_X12_part_1 (by decide) ?_ ?_
  · refine sa_aload_n C d_X12_part_13 rfl 0 rfl ?_
    refine sa_invV (ci := 12) C (h_X12_unit this) q1759 ds_X12_unit q128 rfl q1758 q66 q1756 (e_X12_unit this) rfl rfl rfl (Nat.le_of_ble_eq_true rfl) (by omega) (by decide) d_X12_part_14 (fun v8 => ?_)
    exact sa_sub [0] rfl (hj17 _)
  refine sa_aload_n C d_X12_part_4 rfl 0 rfl ?_
  refine sa_iconst (v := 1) C d_X12_part_5 (by decide) ?_
  refine sa_iload_n C d_X12_part_6 rfl 2 rfl ?_
  refine sa_invV (ci := 12) C (k_X12_compares this 1 a2) q1725 ds_X12_compares q128 rfl q1724 q61 q1722 (gd_X12_compares this 1 a2) rfl rfl rfl (Nat.le_of_ble_eq_true rfl) (by omega) (by decide) d_X12_part_7 (fun v9 => ?_)
  refine sa_goto (tgt := 17) C d_X12_part_10 (by decide) ?_
  exact sa_sub [0] rfl (hj17 _)
def gr_X12_unit : Nat → (Nat → sa_M Int32) × (Nat → Int32 → Int32 → sa_M Int32) × (Nat → Int32 → Int32 → sa_M Int32)
  | 0 => ((fun _ => sa_fail), (fun _ _ _ => sa_fail), (fun _ _ _ => sa_fail))
  | n + 1 => (fb_X12_unit (gr_X12_unit n).1 (gr_X12_unit n).2.1 (gr_X12_unit n).2.2, fb_X12_condition (gr_X12_unit n).1 (gr_X12_unit n).2.1 (gr_X12_unit n).2.2, fb_X12_part (gr_X12_unit n).1 (gr_X12_unit n).2.1 (gr_X12_unit n).2.2)
def f_X12_unit (n : Nat) (this : Nat) : sa_M Int32 := (gr_X12_unit n).1 this
def f_X12_condition (n : Nat) (this : Nat) (a1 : Int32) (a2 : Int32) : sa_M Int32 := (gr_X12_unit n).2.1 this a1 a2
def f_X12_part (n : Nat) (this : Nat) (a1 : Int32) (a2 : Int32) : sa_M Int32 := (gr_X12_unit n).2.2 this a1 a2
theorem kg_X12_unit : ∀ n : Nat, (∀ (this : Nat), sa_Met (67 + n) yX12_unit cX12_unit 3 (some .boolean) (fun ad => [.ref (ad this)]) sa_eI (f_X12_unit n this)) ∧ (∀ (this : Nat) σ r τ, f_X12_unit n this σ = some (r, τ) → sa_sh this = some (.inl 12)) ∧ (∀ (this : Nat) (a1 : Int32) (a2 : Int32), sa_Met (67 + n) yX12_condition cX12_condition 5 (some .boolean) (fun ad => [.ref (ad this), .int a1, .int a2]) sa_eI (f_X12_condition n this a1 a2)) ∧ (∀ (this : Nat) (a1 : Int32) (a2 : Int32) σ r τ, f_X12_condition n this a1 a2 σ = some (r, τ) → sa_sh this = some (.inl 12)) ∧ (∀ (this : Nat) (a1 : Int32) (a2 : Int32), sa_Met (67 + n) yX12_part cX12_part 5 (some .boolean) (fun ad => [.ref (ad this), .int a1, .int a2]) sa_eI (f_X12_part n this a1 a2)) ∧ (∀ (this : Nat) (a1 : Int32) (a2 : Int32) σ r τ, f_X12_part n this a1 a2 σ = some (r, τ) → sa_sh this = some (.inl 12)) := by
  intro n
  induction n with
  | zero => exact ⟨(fun _ => fun _ _ _ _ _ _ _ _ h => by cases h), (fun _ => fun _ _ _ h => by cases h), (fun _ _ _ => fun _ _ _ _ _ _ _ _ h => by cases h), (fun _ _ _ => fun _ _ _ h => by cases h), (fun _ _ _ => fun _ _ _ _ _ _ _ _ h => by cases h), (fun _ _ _ => fun _ _ _ h => by cases h)⟩
  | succ n ih =>
    obtain ⟨h_X12_unit, e_X12_unit, h_X12_condition, e_X12_condition, h_X12_part, e_X12_part⟩ := ih
    exact ⟨(fun this => sa_mk (by decide) (fun ad => Nat.le_of_ble_eq_true rfl) (fun p l e s m args below meth c D ad cA A C => b_X12_unit (d := 67 + n) (by omega) _ _ _ h_X12_unit e_X12_unit h_X12_condition e_X12_condition h_X12_part e_X12_part this C)), (fun this => fun σ r τ h => sa_gd_ok h), (fun this a1 a2 => sa_mk (by decide) (fun ad => Nat.le_of_ble_eq_true rfl) (fun p l e s m args below meth c D ad cA A C => b_X12_condition (d := 67 + n) (by omega) _ _ _ h_X12_unit e_X12_unit h_X12_condition e_X12_condition h_X12_part e_X12_part this a1 a2 C)), (fun this a1 a2 => fun σ r τ h => sa_gd_ok h), (fun this a1 a2 => sa_mk (by decide) (fun ad => Nat.le_of_ble_eq_true rfl) (fun p l e s m args below meth c D ad cA A C => b_X12_part (d := 67 + n) (by omega) _ _ _ h_X12_unit e_X12_unit h_X12_condition e_X12_condition h_X12_part e_X12_part this a1 a2 C)), (fun this a1 a2 => fun σ r τ h => sa_gd_ok h)⟩
theorem k_X12_unit (n : Nat) (this : Nat) : sa_Met (67 + n) yX12_unit cX12_unit 3 (some .boolean) (fun ad => [.ref (ad this)]) sa_eI (f_X12_unit n this) := (kg_X12_unit n).1 this
theorem gd_X12_unit (n : Nat) (this : Nat) (σ : sa_St) (r : Int32) (τ : sa_St) (h : f_X12_unit n this σ = some (r, τ)) : sa_sh this = some (.inl 12) := (kg_X12_unit n).2.1 this σ r τ h
theorem k_X12_condition (n : Nat) (this : Nat) (a1 : Int32) (a2 : Int32) : sa_Met (67 + n) yX12_condition cX12_condition 5 (some .boolean) (fun ad => [.ref (ad this), .int a1, .int a2]) sa_eI (f_X12_condition n this a1 a2) := (kg_X12_unit n).2.2.1 this a1 a2
theorem gd_X12_condition (n : Nat) (this : Nat) (a1 : Int32) (a2 : Int32) (σ : sa_St) (r : Int32) (τ : sa_St) (h : f_X12_condition n this a1 a2 σ = some (r, τ)) : sa_sh this = some (.inl 12) := (kg_X12_unit n).2.2.2.1 this a1 a2 σ r τ h
theorem k_X12_part (n : Nat) (this : Nat) (a1 : Int32) (a2 : Int32) : sa_Met (67 + n) yX12_part cX12_part 5 (some .boolean) (fun ad => [.ref (ad this), .int a1, .int a2]) sa_eI (f_X12_part n this a1 a2) := (kg_X12_unit n).2.2.2.2.1 this a1 a2
theorem gd_X12_part (n : Nat) (this : Nat) (a1 : Int32) (a2 : Int32) (σ : sa_St) (r : Int32) (τ : sa_St) (h : f_X12_part n this a1 a2 σ = some (r, τ)) : sa_sh this = some (.inl 12) := (kg_X12_unit n).2.2.2.2.2 this a1 a2 σ r τ h
theorem d_X12_clause_0 : decode cX12_clause 0 = .ok (.aload_n 0, 1) := by decide +kernel
theorem d_X12_clause_1 : decode cX12_clause 1 = .ok (.invokevirtual 169, 3) := by decide +kernel
theorem d_X12_clause_4 : decode cX12_clause 4 = .ok (.istore_n 1, 1) := by decide +kernel
theorem d_X12_clause_5 : decode cX12_clause 5 = .ok (.ldc 26, 2) := by decide +kernel
theorem d_X12_clause_7 : decode cX12_clause 7 = .ok (.iload_n 1, 1) := by decide +kernel
theorem d_X12_clause_8 : decode cX12_clause 8 = .ok (.invokestatic 185, 3) := by decide +kernel
theorem d_X12_clause_11 : decode cX12_clause 11 = .ok (.ifCond .ne 9, 3) := by decide +kernel
theorem d_X12_clause_14 : decode cX12_clause 14 = .ok (.aload_n 0, 1) := by decide +kernel
theorem d_X12_clause_15 : decode cX12_clause 15 = .ok (.invokevirtual 165, 3) := by decide +kernel
theorem d_X12_clause_18 : decode cX12_clause 18 = .ok (.pop, 1) := by decide +kernel
theorem d_X12_clause_19 : decode cX12_clause 19 = .ok (.return_, 1) := by decide +kernel
theorem d_X12_clause_20 : decode cX12_clause 20 = .ok (.aload_n 0, 1) := by decide +kernel
theorem d_X12_clause_21 : decode cX12_clause 21 = .ok (.dup, 1) := by decide +kernel
theorem d_X12_clause_22 : decode cX12_clause 22 = .ok (.getfield 150, 3) := by decide +kernel
theorem d_X12_clause_25 : decode cX12_clause 25 = .ok (.iconst 1, 1) := by decide +kernel
theorem d_X12_clause_26 : decode cX12_clause 26 = .ok (.iadd, 1) := by decide +kernel
theorem d_X12_clause_27 : decode cX12_clause 27 = .ok (.putfield 150, 3) := by decide +kernel
theorem d_X12_clause_30 : decode cX12_clause 30 = .ok (.aload_n 0, 1) := by decide +kernel
theorem d_X12_clause_31 : decode cX12_clause 31 = .ok (.bipush 58, 2) := by decide +kernel
theorem d_X12_clause_33 : decode cX12_clause 33 = .ok (.invokevirtual 195, 3) := by decide +kernel
theorem d_X12_clause_36 : decode cX12_clause 36 = .ok (.ifCond .ne 4, 3) := by decide +kernel
theorem d_X12_clause_39 : decode cX12_clause 39 = .ok (.return_, 1) := by decide +kernel
theorem d_X12_clause_40 : decode cX12_clause 40 = .ok (.iconst 1, 1) := by decide +kernel
theorem d_X12_clause_41 : decode cX12_clause 41 = .ok (.istore_n 2, 1) := by decide +kernel
theorem d_X12_clause_42 : decode cX12_clause 42 = .ok (.iconst 0, 1) := by decide +kernel
theorem d_X12_clause_43 : decode cX12_clause 43 = .ok (.istore_n 3, 1) := by decide +kernel
theorem d_X12_clause_44 : decode cX12_clause 44 = .ok (.aload_n 0, 1) := by decide +kernel
theorem d_X12_clause_45 : decode cX12_clause 45 = .ok (.invokevirtual 169, 3) := by decide +kernel
theorem d_X12_clause_48 : decode cX12_clause 48 = .ok (.istore 4, 2) := by decide +kernel
theorem d_X12_clause_50 : decode cX12_clause 50 = .ok (.iload 4, 2) := by decide +kernel
theorem d_X12_clause_52 : decode cX12_clause 52 = .ok (.bipush 33, 2) := by decide +kernel
theorem d_X12_clause_54 : decode cX12_clause 54 = .ok (.if_icmp .eq 10, 3) := by decide +kernel
theorem d_X12_clause_57 : decode cX12_clause 57 = .ok (.iload 4, 2) := by decide +kernel
theorem d_X12_clause_59 : decode cX12_clause 59 = .ok (.bipush 40, 2) := by decide +kernel
theorem d_X12_clause_61 : decode cX12_clause 61 = .ok (.if_icmp .ne 28, 3) := by decide +kernel
theorem d_X12_clause_64 : decode cX12_clause 64 = .ok (.aload_n 0, 1) := by decide +kernel
theorem d_X12_clause_65 : decode cX12_clause 65 = .ok (.iconst 0, 1) := by decide +kernel
theorem d_X12_clause_66 : decode cX12_clause 66 = .ok (.iconst 0, 1) := by decide +kernel
theorem d_X12_clause_67 : decode cX12_clause 67 = .ok (.invokevirtual 218, 3) := by decide +kernel
theorem d_X12_clause_70 : decode cX12_clause 70 = .ok (.istore_n 2, 1) := by decide +kernel
theorem d_X12_clause_71 : decode cX12_clause 71 = .ok (.aload_n 0, 1) := by decide +kernel
theorem d_X12_clause_72 : decode cX12_clause 72 = .ok (.bipush 63, 2) := by decide +kernel
theorem d_X12_clause_74 : decode cX12_clause 74 = .ok (.invokevirtual 195, 3) := by decide +kernel
theorem d_X12_clause_77 : decode cX12_clause 77 = .ok (.ifCond .ne 4, 3) := by decide +kernel
theorem d_X12_clause_80 : decode cX12_clause 80 = .ok (.return_, 1) := by decide +kernel
theorem d_X12_clause_81 : decode cX12_clause 81 = .ok (.aload_n 0, 1) := by decide +kernel
theorem d_X12_clause_82 : decode cX12_clause 82 = .ok (.invokevirtual 192, 3) := by decide +kernel
theorem d_X12_clause_85 : decode cX12_clause 85 = .ok (.istore_n 3, 1) := by decide +kernel
theorem d_X12_clause_86 : decode cX12_clause 86 = .ok (.goto 48, 3) := by decide +kernel
theorem d_X12_clause_89 : decode cX12_clause 89 = .ok (.aload_n 0, 1) := by decide +kernel
theorem d_X12_clause_90 : decode cX12_clause 90 = .ok (.invokevirtual 192, 3) := by decide +kernel
theorem d_X12_clause_93 : decode cX12_clause 93 = .ok (.istore_n 3, 1) := by decide +kernel
theorem d_X12_clause_94 : decode cX12_clause 94 = .ok (.aload_n 0, 1) := by decide +kernel
theorem d_X12_clause_95 : decode cX12_clause 95 = .ok (.getfield 159, 3) := by decide +kernel
theorem d_X12_clause_98 : decode cX12_clause 98 = .ok (.iconst (-1), 1) := by decide +kernel
theorem d_X12_clause_99 : decode cX12_clause 99 = .ok (.if_icmp .ne 35, 3) := by decide +kernel
theorem d_X12_clause_102 : decode cX12_clause 102 = .ok (.aload_n 0, 1) := by decide +kernel
theorem d_X12_clause_103 : decode cX12_clause 103 = .ok (.invokevirtual 169, 3) := by decide +kernel
theorem d_X12_clause_106 : decode cX12_clause 106 = .ok (.invokestatic 212, 3) := by decide +kernel
theorem d_X12_clause_109 : decode cX12_clause 109 = .ok (.ifCond .eq 25, 3) := by decide +kernel
theorem d_X12_clause_112 : decode cX12_clause 112 = .ok (.aload_n 0, 1) := by decide +kernel
theorem d_X12_clause_113 : decode cX12_clause 113 = .ok (.iconst 1, 1) := by decide +kernel
theorem d_X12_clause_114 : decode cX12_clause 114 = .ok (.iload_n 3, 1) := by decide +kernel
theorem d_X12_clause_115 : decode cX12_clause 115 = .ok (.invokevirtual 218, 3) := by decide +kernel
theorem d_X12_clause_118 : decode cX12_clause 118 = .ok (.istore_n 2, 1) := by decide +kernel
theorem d_X12_clause_119 : decode cX12_clause 119 = .ok (.aload_n 0, 1) := by decide +kernel
theorem d_X12_clause_120 : decode cX12_clause 120 = .ok (.bipush 63, 2) := by decide +kernel
theorem d_X12_clause_122 : decode cX12_clause 122 = .ok (.invokevirtual 195, 3) := by decide +kernel
theorem d_X12_clause_125 : decode cX12_clause 125 = .ok (.ifCond .ne 4, 3) := by decide +kernel
theorem d_X12_clause_128 : decode cX12_clause 128 = .ok (.return_, 1) := by decide +kernel
theorem d_X12_clause_129 : decode cX12_clause 129 = .ok (.aload_n 0, 1) := by decide +kernel
theorem d_X12_clause_130 : decode cX12_clause 130 = .ok (.invokevirtual 192, 3) := by decide +kernel
theorem d_X12_clause_133 : decode cX12_clause 133 = .ok (.istore_n 3, 1) := by decide +kernel
theorem d_X12_clause_134 : decode cX12_clause 134 = .ok (.aload_n 0, 1) := by decide +kernel
theorem d_X12_clause_135 : decode cX12_clause 135 = .ok (.getfield 159, 3) := by decide +kernel
theorem d_X12_clause_138 : decode cX12_clause 138 = .ok (.iconst (-1), 1) := by decide +kernel
theorem d_X12_clause_139 : decode cX12_clause 139 = .ok (.if_icmp .ne 22, 3) := by decide +kernel
theorem d_X12_clause_142 : decode cX12_clause 142 = .ok (.aload_n 0, 1) := by decide +kernel
theorem d_X12_clause_143 : decode cX12_clause 143 = .ok (.getfield 228, 3) := by decide +kernel
theorem d_X12_clause_146 : decode cX12_clause 146 = .ok (.ifCond .ne 15, 3) := by decide +kernel
theorem d_X12_clause_149 : decode cX12_clause 149 = .ok (.iload_n 1, 1) := by decide +kernel
theorem d_X12_clause_150 : decode cX12_clause 150 = .ok (.aload_n 0, 1) := by decide +kernel
theorem d_X12_clause_151 : decode cX12_clause 151 = .ok (.getfield 232, 3) := by decide +kernel
theorem d_X12_clause_154 : decode cX12_clause 154 = .ok (.if_icmp .ne 7, 3) := by decide +kernel
theorem d_X12_clause_157 : decode cX12_clause 157 = .ok (.iload_n 2, 1) := by decide +kernel
theorem d_X12_clause_158 : decode cX12_clause 158 = .ok (.ifCond .ne 4, 3) := by decide +kernel
theorem d_X12_clause_161 : decode cX12_clause 161 = .ok (.return_, 1) := by decide +kernel
theorem d_X12_clause_162 : decode cX12_clause 162 = .ok (.aload_n 0, 1) := by decide +kernel
theorem d_X12_clause_163 : decode cX12_clause 163 = .ok (.iconst 1, 1) := by decide +kernel
theorem d_X12_clause_164 : decode cX12_clause 164 = .ok (.putfield 228, 3) := by decide +kernel
theorem d_X12_clause_167 : decode cX12_clause 167 = .ok (.aload_n 0, 1) := by decide +kernel
theorem d_X12_clause_168 : decode cX12_clause 168 = .ok (.iload_n 3, 1) := by decide +kernel
theorem d_X12_clause_169 : decode cX12_clause 169 = .ok (.putfield 235, 3) := by decide +kernel
theorem d_X12_clause_172 : decode cX12_clause 172 = .ok (.return_, 1) := by decide +kernel
def f_X12_clause (this : Nat) : sa_M Unit :=
sa_gd 12 this (
sa_bnd (f_X12_look this) fun v1 =>
sa_bnd (f_X12_isAmong (1000 + 5) v1) fun v2 =>
if ¬ v2 = 0 then
sa_bnd (sa_rdI 12 this 10) fun v3 =>
sa_bnd (sa_wrI 12 this 10 (v3 + 1)) fun _ =>
sa_bnd (f_X12_takes this 58) fun v4 =>
if ¬ v4 = 0 then
sa_let (1 : Int32) fun x5 =>
sa_let (0 : Int32) fun x6 =>
sa_bnd (f_X12_look this) fun v7 =>
sa_jn2 (fun (x8 : Int32) (x9 : Int32) =>
sa_bnd (sa_rdI 12 this 11) fun v10 =>
sa_jn0 (sa_ret ()) fun j161 =>
if ¬ v10 = (-1) then
j161
else
sa_bnd (sa_rdI 12 this 17) fun v11 =>
if ¬ v11 = 0 then
j161
else
sa_bnd (sa_rdI 12 this 13) fun v12 =>
if ¬ v1 = v12 then
j161
else
if ¬ x8 = 0 then
sa_bnd (sa_wrZ 12 this 17 1) fun _ =>
sa_bnd (sa_wrI 12 this 14 x9) fun _ =>
sa_ret ()
else
j161) fun j134 =>
sa_jn0 (sa_bnd (f_X12_condition 60 this 0 0) fun v13 =>
sa_bnd (f_X12_takes this 63) fun v14 =>
if ¬ v14 = 0 then
sa_bnd (f_X12_sum 60 this) fun v15 =>
j134 v13 v15
else
sa_ret ()) fun j64 =>
if v7 = 33 then
j64
else
if ¬ v7 = 40 then
sa_bnd (f_X12_sum 60 this) fun v16 =>
sa_bnd (sa_rdI 12 this 11) fun v17 =>
if ¬ v17 = (-1) then
j134 x5 v16
else
sa_bnd (f_X12_look this) fun v18 =>
sa_bnd (f_X12_isSign v18) fun v19 =>
if v19 = 0 then
j134 x5 v16
else
sa_bnd (f_X12_condition 60 this 1 v16) fun v20 =>
sa_bnd (f_X12_takes this 63) fun v21 =>
if ¬ v21 = 0 then
sa_bnd (f_X12_sum 60 this) fun v22 =>
j134 v20 v22
else
sa_ret ()
else
j64
else
sa_ret ()
else
sa_bnd (f_X12_fails this) fun v23 =>
sa_ret ())
set_option maxHeartbeats 1000000 in
set_option maxRecDepth 10000 in
theorem b_X12_clause {p : Program} {l : Launch} {e : Env} {s : State} {m : MethodId} {args : Array Value} {below : List Frame} {meth : Method} {c : Code} {D : va_G} {ad : Nat → Nat} {cA : FieldType → ClassId} {A : Nat → Prop} (this : Nat) (C : sa_C p s m args meth c cX12_clause RX12 "clause" 5 none D ad cA A) : sa_Sg p l e s m args below meth c 5 129 D ad cA A sa_eV 0 [(0, .ref (ad this))] [] (f_X12_clause this) := by
  unfold f_X12_clause
  refine sa_gdI ?_
  refine sa_aload_n C d_X12_clause_0 rfl 0 rfl ?_
  refine sa_invV (ci := 12) C (k_X12_look this) q1653 ds_X12_look q128 rfl q1652 q49 q1650 (gd_X12_look this) rfl rfl rfl (Nat.le_of_ble_eq_true rfl) (by decide) (by decide) d_X12_clause_1 (fun v1 => ?_)
  refine sa_istore_n (lv' := [(1, .int v1), (0, .ref (ad this))]) C d_X12_clause_4 rfl (by decide) rfl ?_
  refine sa_ldcS C 6 rfl d_X12_clause_5 ?_
  refine sa_iload_n C d_X12_clause_7 rfl 0 rfl ?_
  refine sa_invS C (k_X12_isAmong (1000 + 5) v1) q1709 ds_X12_isAmong q128 q1708 q1707 rfl rfl rfl (Nat.le_of_ble_eq_true rfl) (by decide) (by decide) d_X12_clause_8 (fun v2 => ?_)
  refine sa_if_ne (tgt := 20) C d_X12_clause_11 (by decide) ?_ ?_
  · refine sa_aload_n C d_X12_clause_20 rfl 1 rfl ?_
    refine sa_dup C d_X12_clause_21 rfl ?_
    refine sa_getI C fd_X12_150 d_X12_clause_22 (fun v3 => ?_)
    refine sa_iconst (v := 1) C d_X12_clause_25 (by decide) ?_
    refine sa_iadd C d_X12_clause_26 ?_
    refine sa_putI C fd_X12_150 d_X12_clause_27 ?_
    refine sa_aload_n C d_X12_clause_30 rfl 1 rfl ?_
    refine sa_bipush (v := 58) C d_X12_clause_31 (by decide) ?_
    refine sa_invV (ci := 12) C (k_X12_takes this 58) q1713 ds_X12_takes q128 rfl q1712 q58 q1710 (gd_X12_takes this 58) rfl rfl rfl (Nat.le_of_ble_eq_true rfl) (by decide) (by decide) d_X12_clause_33 (fun v4 => ?_)
    refine sa_if_ne (tgt := 40) C d_X12_clause_36 (by decide) ?_ ?_
    · refine sa_iconst (v := 1) C d_X12_clause_40 (by decide) ?_
      refine sa_topi (fun x5 => ?_)
      refine sa_istore_n (lv' := [(2, .int x5), (1, .int v1), (0, .ref (ad this))]) C d_X12_clause_41 rfl (by decide) rfl ?_
      refine sa_iconst (v := 0) C d_X12_clause_42 (by decide) ?_
      refine sa_topi (fun x6 => ?_)
      refine sa_istore_n (lv' := [(3, .int x6), (2, .int x5), (1, .int v1), (0, .ref (ad this))]) C d_X12_clause_43 rfl (by decide) rfl ?_
      refine sa_aload_n C d_X12_clause_44 rfl 3 rfl ?_
      refine sa_invV (ci := 12) C (k_X12_look this) q1653 ds_X12_look q128 rfl q1652 q49 q1650 (gd_X12_look this) rfl rfl rfl (Nat.le_of_ble_eq_true rfl) (by decide) (by decide) d_X12_clause_45 (fun v7 => ?_)
      refine sa_istore (lv' := [(4, .int v7), (3, .int x6), (2, .int x5), (1, .int v1), (0, .ref (ad this))]) C d_X12_clause_48 (by decide) rfl ?_
      refine sa_iload C d_X12_clause_50 0 rfl ?_
      refine sa_bipush (v := 33) C d_X12_clause_52 (by decide) ?_
      refine sa_join2 134 (fun x8 x9 => [(0, .ref (ad this)), (1, .int v1), (2, .int x8), (3, .int x9)]) (fun x8 x9 => []) (fun x8 x9 => ?_) (fun j134 hj134 => ?_)
      · refine sa_aload_n C d_X12_clause_134 rfl 0 rfl ?_
        refine sa_getI C fd_X12_159 d_X12_clause_135 (fun v10 => ?_)
        refine sa_iconst (v := (-1)) C d_X12_clause_138 (by decide) ?_
        refine sa_join0 161 ([]) ([]) (?_) (fun j161 hj161 => ?_)
        · exact sa_vret C d_X12_clause_161
        refine sa_icmp_ne (tgt := 161) C d_X12_clause_139 (by decide) ?_ ?_
        · exact sa_sub [] rfl (hj161)
        refine sa_aload_n C d_X12_clause_142 rfl 0 rfl ?_
        refine sa_getZ C fd_X12_228 d_X12_clause_143 (fun v11 => ?_)
        refine sa_if_ne (tgt := 161) C d_X12_clause_146 (by decide) ?_ ?_
        · exact sa_sub [] rfl (hj161)
        refine sa_iload_n C d_X12_clause_149 rfl 1 rfl ?_
        refine sa_aload_n C d_X12_clause_150 rfl 0 rfl ?_
        refine sa_getI C fd_X12_232 d_X12_clause_151 (fun v12 => ?_)
        refine sa_icmp_ne (tgt := 161) C d_X12_clause_154 (by decide) ?_ ?_
        · exact sa_sub [] rfl (hj161)
        refine sa_iload_n C d_X12_clause_157 rfl 2 rfl ?_
        refine sa_if_ne (tgt := 162) C d_X12_clause_158 (by decide) ?_ ?_
        · refine sa_aload_n C d_X12_clause_162 rfl 0 rfl ?_
          refine sa_iconst (v := 1) C d_X12_clause_163 (by decide) ?_
          refine sa_putZ C fd_X12_228 d_X12_clause_164 ?_
          refine sa_aload_n C d_X12_clause_167 rfl 0 rfl ?_
          refine sa_iload_n C d_X12_clause_168 rfl 3 rfl ?_
          refine sa_putI C fd_X12_235 d_X12_clause_169 ?_
          exact sa_vret C d_X12_clause_172
        exact sa_sub [] rfl (hj161)
      refine sa_join0 64 ([(0, .ref (ad this)), (1, .int v1)]) ([]) (?_) (fun j64 hj64 => ?_)
      · refine sa_aload_n C d_X12_clause_64 rfl 0 rfl ?_
        refine sa_iconst (v := 0) C d_X12_clause_65 (by decide) ?_
        refine sa_iconst (v := 0) C d_X12_clause_66 (by decide) ?_
        refine sa_invV (ci := 12) C (k_X12_condition 60 this 0 0) q1717 ds_X12_condition q128 rfl q1716 q59 q1714 (gd_X12_condition 60 this 0 0) rfl rfl rfl (Nat.le_of_ble_eq_true rfl) (by decide) (by decide) d_X12_clause_67 (fun v13 => ?_)
        refine sa_istore_n (lv' := [(2, .int v13), (0, .ref (ad this)), (1, .int v1)]) C d_X12_clause_70 rfl (by decide) rfl ?_
        refine sa_aload_n C d_X12_clause_71 rfl 1 rfl ?_
        refine sa_bipush (v := 63) C d_X12_clause_72 (by decide) ?_
        refine sa_invV (ci := 12) C (k_X12_takes this 63) q1713 ds_X12_takes q128 rfl q1712 q58 q1710 (gd_X12_takes this 63) rfl rfl rfl (Nat.le_of_ble_eq_true rfl) (by decide) (by decide) d_X12_clause_74 (fun v14 => ?_)
        refine sa_if_ne (tgt := 81) C d_X12_clause_77 (by decide) ?_ ?_
        · refine sa_aload_n C d_X12_clause_81 rfl 1 rfl ?_
          refine sa_invV (ci := 12) C (k_X12_sum 60 this) q1729 ds_X12_sum q128 rfl q1728 q62 q1726 (gd_X12_sum 60 this) rfl rfl rfl (Nat.le_of_ble_eq_true rfl) (by decide) (by decide) d_X12_clause_82 (fun v15 => ?_)
          refine sa_istore_n (lv' := [(3, .int v15), (2, .int v13), (0, .ref (ad this)), (1, .int v1)]) C d_X12_clause_85 rfl (by decide) rfl ?_
          refine sa_goto (tgt := 134) C d_X12_clause_86 (by decide) ?_
          exact sa_sub [2, 3, 1, 0] rfl (hj134 _ _)
        exact sa_vret C d_X12_clause_80
      refine sa_icmp_eq (tgt := 64) C d_X12_clause_54 (by decide) ?_ ?_
      · exact sa_sub [4, 3] rfl (hj64)
      refine sa_iload C d_X12_clause_57 0 rfl ?_
      refine sa_bipush (v := 40) C d_X12_clause_59 (by decide) ?_
      refine sa_icmp_ne (tgt := 89) C d_X12_clause_61 (by decide) ?_ ?_
      · refine sa_aload_n C d_X12_clause_89 rfl 4 rfl ?_
        refine sa_invV (ci := 12) C (k_X12_sum 60 this) q1729 ds_X12_sum q128 rfl q1728 q62 q1726 (gd_X12_sum 60 this) rfl rfl rfl (Nat.le_of_ble_eq_true rfl) (by decide) (by decide) d_X12_clause_90 (fun v16 => ?_)
        refine sa_istore_n (lv' := [(3, .int v16), (4, .int v7), (2, .int x5), (1, .int v1), (0, .ref (ad this))]) C d_X12_clause_93 rfl (by decide) rfl ?_
        refine sa_aload_n C d_X12_clause_94 rfl 4 rfl ?_
        refine sa_getI C fd_X12_159 d_X12_clause_95 (fun v17 => ?_)
        refine sa_iconst (v := (-1)) C d_X12_clause_98 (by decide) ?_
        refine sa_icmp_ne (tgt := 134) C d_X12_clause_99 (by decide) ?_ ?_
        · exact sa_sub [4, 3, 2, 0] rfl (hj134 _ _)
        refine sa_aload_n C d_X12_clause_102 rfl 4 rfl ?_
        refine sa_invV (ci := 12) C (k_X12_look this) q1653 ds_X12_look q128 rfl q1652 q49 q1650 (gd_X12_look this) rfl rfl rfl (Nat.le_of_ble_eq_true rfl) (by decide) (by decide) d_X12_clause_103 (fun v18 => ?_)
        refine sa_invS C (k_X12_isSign v18) q1755 ds_X12_isSign q128 q1754 q1753 rfl rfl rfl (Nat.le_of_ble_eq_true rfl) (by decide) (by decide) d_X12_clause_106 (fun v19 => ?_)
        refine sa_if_eq (tgt := 134) C d_X12_clause_109 (by decide) ?_ ?_
        · exact sa_sub [4, 3, 2, 0] rfl (hj134 _ _)
        refine sa_aload_n C d_X12_clause_112 rfl 4 rfl ?_
        refine sa_iconst (v := 1) C d_X12_clause_113 (by decide) ?_
        refine sa_iload_n C d_X12_clause_114 rfl 0 rfl ?_
        refine sa_invV (ci := 12) C (k_X12_condition 60 this 1 v16) q1717 ds_X12_condition q128 rfl q1716 q59 q1714 (gd_X12_condition 60 this 1 v16) rfl rfl rfl (Nat.le_of_ble_eq_true rfl) (by decide) (by decide) d_X12_clause_115 (fun v20 => ?_)
        refine sa_istore_n (lv' := [(2, .int v20), (3, .int v16), (4, .int v7), (1, .int v1), (0, .ref (ad this))]) C d_X12_clause_118 rfl (by decide) rfl ?_
        refine sa_aload_n C d_X12_clause_119 rfl 4 rfl ?_
        refine sa_bipush (v := 63) C d_X12_clause_120 (by decide) ?_
        refine sa_invV (ci := 12) C (k_X12_takes this 63) q1713 ds_X12_takes q128 rfl q1712 q58 q1710 (gd_X12_takes this 63) rfl rfl rfl (Nat.le_of_ble_eq_true rfl) (by decide) (by decide) d_X12_clause_122 (fun v21 => ?_)
        refine sa_if_ne (tgt := 129) C d_X12_clause_125 (by decide) ?_ ?_
        · refine sa_aload_n C d_X12_clause_129 rfl 4 rfl ?_
          refine sa_invV (ci := 12) C (k_X12_sum 60 this) q1729 ds_X12_sum q128 rfl q1728 q62 q1726 (gd_X12_sum 60 this) rfl rfl rfl (Nat.le_of_ble_eq_true rfl) (by decide) (by decide) d_X12_clause_130 (fun v22 => ?_)
          refine sa_istore_n (lv' := [(3, .int v22), (2, .int v20), (4, .int v7), (1, .int v1), (0, .ref (ad this))]) C d_X12_clause_133 rfl (by decide) rfl ?_
          exact sa_sub [4, 3, 1, 0] rfl (hj134 _ _)
        exact sa_vret C d_X12_clause_128
      exact sa_sub [4, 3] rfl (hj64)
    exact sa_vret C d_X12_clause_39
  refine sa_aload_n C d_X12_clause_14 rfl 1 rfl ?_
  refine sa_invV (ci := 12) C (k_X12_fails this) q1657 ds_X12_fails q128 rfl q1656 q50 q1654 (gd_X12_fails this) rfl rfl rfl (Nat.le_of_ble_eq_true rfl) (by decide) (by decide) d_X12_clause_15 (fun v23 => ?_)
  refine sa_pop C d_X12_clause_18 rfl ?_
  exact sa_vret C d_X12_clause_19
theorem k_X12_clause (this : Nat) : sa_Met 129 yX12_clause cX12_clause 5 none (fun ad => [.ref (ad this)]) sa_eV (f_X12_clause this) := sa_mk (by decide) (fun ad => Nat.le_of_ble_eq_true rfl) (fun p l e s m args below meth c D ad cA A C => b_X12_clause this C)
theorem gd_X12_clause (this : Nat) (σ : sa_St) (r : Unit) (τ : sa_St) (h : f_X12_clause this σ = some (r, τ)) : sa_sh this = some (.inl 12) := sa_gd_ok h
theorem d_X12_starts_0 : decode cX12_starts 0 = .ok (.aload_n 0, 1) := by decide +kernel
theorem d_X12_starts_1 : decode cX12_starts 1 = .ok (.aload_n 1, 1) := by decide +kernel
theorem d_X12_starts_2 : decode cX12_starts 2 = .ok (.putfield 23, 3) := by decide +kernel
theorem d_X12_starts_5 : decode cX12_starts 5 = .ok (.aload_n 0, 1) := by decide +kernel
theorem d_X12_starts_6 : decode cX12_starts 6 = .ok (.iload_n 2, 1) := by decide +kernel
theorem d_X12_starts_7 : decode cX12_starts 7 = .ok (.putfield 156, 3) := by decide +kernel
theorem d_X12_starts_10 : decode cX12_starts 10 = .ok (.aload_n 0, 1) := by decide +kernel
theorem d_X12_starts_11 : decode cX12_starts 11 = .ok (.iload_n 3, 1) := by decide +kernel
theorem d_X12_starts_12 : decode cX12_starts 12 = .ok (.putfield 153, 3) := by decide +kernel
theorem d_X12_starts_15 : decode cX12_starts 15 = .ok (.aload_n 0, 1) := by decide +kernel
theorem d_X12_starts_16 : decode cX12_starts 16 = .ok (.iconst 0, 1) := by decide +kernel
theorem d_X12_starts_17 : decode cX12_starts 17 = .ok (.putfield 150, 3) := by decide +kernel
theorem d_X12_starts_20 : decode cX12_starts 20 = .ok (.aload_n 0, 1) := by decide +kernel
theorem d_X12_starts_21 : decode cX12_starts 21 = .ok (.iconst (-1), 1) := by decide +kernel
theorem d_X12_starts_22 : decode cX12_starts 22 = .ok (.putfield 159, 3) := by decide +kernel
theorem d_X12_starts_25 : decode cX12_starts 25 = .ok (.return_, 1) := by decide +kernel
def f_X12_starts (this : Nat) (a1 : Nat) (a2 : Int32) (a3 : Int32) : sa_M Unit :=
sa_gd 12 this (
sa_bnd (sa_wrR 12 this 5 a1) fun _ =>
sa_bnd (sa_wrI 12 this 8 a2) fun _ =>
sa_bnd (sa_wrI 12 this 9 a3) fun _ =>
sa_bnd (sa_wrI 12 this 10 0) fun _ =>
sa_bnd (sa_wrI 12 this 11 (-1)) fun _ =>
sa_ret ())
set_option maxHeartbeats 1000000 in
set_option maxRecDepth 10000 in
theorem b_X12_starts {p : Program} {l : Launch} {e : Env} {s : State} {m : MethodId} {args : Array Value} {below : List Frame} {meth : Method} {c : Code} {D : va_G} {ad : Nat → Nat} {cA : FieldType → ClassId} {A : Nat → Prop} (this : Nat) (a1 : Nat) (a2 : Int32) (a3 : Int32) (C : sa_C p s m args meth c cX12_starts RX12 "starts" 4 none D ad cA A) : sa_Sg p l e s m args below meth c 4 1 D ad cA A sa_eV 0 [(0, .ref (ad this)), (1, .ref (ad a1)), (2, .int a2), (3, .int a3)] [] (f_X12_starts this a1 a2 a3) := by
  unfold f_X12_starts
  refine sa_gdI ?_
  refine sa_aload_n C d_X12_starts_0 rfl 0 rfl ?_
  refine sa_aload_n C d_X12_starts_1 rfl 1 rfl ?_
  refine sa_putR C fd_X12_23 rfl d_X12_starts_2 ?_
  refine sa_aload_n C d_X12_starts_5 rfl 0 rfl ?_
  refine sa_iload_n C d_X12_starts_6 rfl 2 rfl ?_
  refine sa_putI C fd_X12_156 d_X12_starts_7 ?_
  refine sa_aload_n C d_X12_starts_10 rfl 0 rfl ?_
  refine sa_iload_n C d_X12_starts_11 rfl 3 rfl ?_
  refine sa_putI C fd_X12_153 d_X12_starts_12 ?_
  refine sa_aload_n C d_X12_starts_15 rfl 0 rfl ?_
  refine sa_iconst (v := 0) C d_X12_starts_16 (by decide) ?_
  refine sa_putI C fd_X12_150 d_X12_starts_17 ?_
  refine sa_aload_n C d_X12_starts_20 rfl 0 rfl ?_
  refine sa_iconst (v := (-1)) C d_X12_starts_21 (by decide) ?_
  refine sa_putI C fd_X12_159 d_X12_starts_22 ?_
  exact sa_vret C d_X12_starts_25
theorem k_X12_starts (this : Nat) (a1 : Nat) (a2 : Int32) (a3 : Int32) : sa_Met 1 yX12_starts cX12_starts 4 none (fun ad => [.ref (ad this), .ref (ad a1), .int a2, .int a3]) sa_eV (f_X12_starts this a1 a2 a3) := sa_mk (by decide) (fun ad => Nat.le_of_ble_eq_true rfl) (fun p l e s m args below meth c D ad cA A C => b_X12_starts this a1 a2 a3 C)
theorem gd_X12_starts (this : Nat) (a1 : Nat) (a2 : Int32) (a3 : Int32) (σ : sa_St) (r : Unit) (τ : sa_St) (h : f_X12_starts this a1 a2 a3 σ = some (r, τ)) : sa_sh this = some (.inl 12) := sa_gd_ok h
theorem d_X12_goThrough_0 : decode cX12_goThrough 0 = .ok (.aload_n 0, 1) := by decide +kernel
theorem d_X12_goThrough_1 : decode cX12_goThrough 1 = .ok (.aload_n 1, 1) := by decide +kernel
theorem d_X12_goThrough_2 : decode cX12_goThrough 2 = .ok (.iload_n 2, 1) := by decide +kernel
theorem d_X12_goThrough_3 : decode cX12_goThrough 3 = .ok (.iload_n 3, 1) := by decide +kernel
theorem d_X12_goThrough_4 : decode cX12_goThrough 4 = .ok (.invokevirtual 238, 3) := by decide +kernel
theorem d_X12_goThrough_7 : decode cX12_goThrough 7 = .ok (.aload_n 0, 1) := by decide +kernel
theorem d_X12_goThrough_8 : decode cX12_goThrough 8 = .ok (.bipush 121, 2) := by decide +kernel
theorem d_X12_goThrough_10 : decode cX12_goThrough 10 = .ok (.putfield 232, 3) := by decide +kernel
theorem d_X12_goThrough_13 : decode cX12_goThrough 13 = .ok (.aload_n 0, 1) := by decide +kernel
theorem d_X12_goThrough_14 : decode cX12_goThrough 14 = .ok (.iconst 0, 1) := by decide +kernel
theorem d_X12_goThrough_15 : decode cX12_goThrough 15 = .ok (.putfield 162, 3) := by decide +kernel
theorem d_X12_goThrough_18 : decode cX12_goThrough 18 = .ok (.aload_n 0, 1) := by decide +kernel
theorem d_X12_goThrough_19 : decode cX12_goThrough 19 = .ok (.iconst 0, 1) := by decide +kernel
theorem d_X12_goThrough_20 : decode cX12_goThrough 20 = .ok (.putfield 228, 3) := by decide +kernel
theorem d_X12_goThrough_23 : decode cX12_goThrough 23 = .ok (.aload_n 0, 1) := by decide +kernel
theorem d_X12_goThrough_24 : decode cX12_goThrough 24 = .ok (.iconst 0, 1) := by decide +kernel
theorem d_X12_goThrough_25 : decode cX12_goThrough 25 = .ok (.putfield 235, 3) := by decide +kernel
theorem d_X12_goThrough_28 : decode cX12_goThrough 28 = .ok (.aload_n 0, 1) := by decide +kernel
theorem d_X12_goThrough_29 : decode cX12_goThrough 29 = .ok (.invokevirtual 242, 3) := by decide +kernel
theorem d_X12_goThrough_32 : decode cX12_goThrough 32 = .ok (.aload_n 0, 1) := by decide +kernel
theorem d_X12_goThrough_33 : decode cX12_goThrough 33 = .ok (.getfield 159, 3) := by decide +kernel
theorem d_X12_goThrough_36 : decode cX12_goThrough 36 = .ok (.iconst (-1), 1) := by decide +kernel
theorem d_X12_goThrough_37 : decode cX12_goThrough 37 = .ok (.if_icmp .ne 29, 3) := by decide +kernel
theorem d_X12_goThrough_40 : decode cX12_goThrough 40 = .ok (.aload_n 0, 1) := by decide +kernel
theorem d_X12_goThrough_41 : decode cX12_goThrough 41 = .ok (.invokevirtual 169, 3) := by decide +kernel
theorem d_X12_goThrough_44 : decode cX12_goThrough 44 = .ok (.bipush 59, 2) := by decide +kernel
theorem d_X12_goThrough_46 : decode cX12_goThrough 46 = .ok (.if_icmp .ne 20, 3) := by decide +kernel
theorem d_X12_goThrough_49 : decode cX12_goThrough 49 = .ok (.aload_n 0, 1) := by decide +kernel
theorem d_X12_goThrough_50 : decode cX12_goThrough 50 = .ok (.dup, 1) := by decide +kernel
theorem d_X12_goThrough_51 : decode cX12_goThrough 51 = .ok (.getfield 150, 3) := by decide +kernel
theorem d_X12_goThrough_54 : decode cX12_goThrough 54 = .ok (.iconst 1, 1) := by decide +kernel
theorem d_X12_goThrough_55 : decode cX12_goThrough 55 = .ok (.iadd, 1) := by decide +kernel
theorem d_X12_goThrough_56 : decode cX12_goThrough 56 = .ok (.putfield 150, 3) := by decide +kernel
theorem d_X12_goThrough_59 : decode cX12_goThrough 59 = .ok (.aload_n 0, 1) := by decide +kernel
theorem d_X12_goThrough_60 : decode cX12_goThrough 60 = .ok (.invokevirtual 242, 3) := by decide +kernel
theorem d_X12_goThrough_63 : decode cX12_goThrough 63 = .ok (.goto (-31), 3) := by decide +kernel
theorem d_X12_goThrough_66 : decode cX12_goThrough 66 = .ok (.aload_n 0, 1) := by decide +kernel
theorem d_X12_goThrough_67 : decode cX12_goThrough 67 = .ok (.getfield 159, 3) := by decide +kernel
theorem d_X12_goThrough_70 : decode cX12_goThrough 70 = .ok (.iconst (-1), 1) := by decide +kernel
theorem d_X12_goThrough_71 : decode cX12_goThrough 71 = .ok (.if_icmp .ne 16, 3) := by decide +kernel
theorem d_X12_goThrough_74 : decode cX12_goThrough 74 = .ok (.aload_n 0, 1) := by decide +kernel
theorem d_X12_goThrough_75 : decode cX12_goThrough 75 = .ok (.invokevirtual 169, 3) := by decide +kernel
theorem d_X12_goThrough_78 : decode cX12_goThrough 78 = .ok (.iconst (-1), 1) := by decide +kernel
theorem d_X12_goThrough_79 : decode cX12_goThrough 79 = .ok (.if_icmp .eq 8, 3) := by decide +kernel
theorem d_X12_goThrough_82 : decode cX12_goThrough 82 = .ok (.aload_n 0, 1) := by decide +kernel
theorem d_X12_goThrough_83 : decode cX12_goThrough 83 = .ok (.invokevirtual 165, 3) := by decide +kernel
theorem d_X12_goThrough_86 : decode cX12_goThrough 86 = .ok (.pop, 1) := by decide +kernel
theorem d_X12_goThrough_87 : decode cX12_goThrough 87 = .ok (.return_, 1) := by decide +kernel
def f_X12_goThrough (this : Nat) (a1 : Nat) (a2 : Int32) (a3 : Int32) : sa_M Unit :=
sa_gd 12 this (
sa_bnd (f_X12_starts this a1 a2 a3) fun _ =>
sa_bnd (sa_wrI 12 this 13 121) fun _ =>
sa_bnd (sa_wrI 12 this 12 0) fun _ =>
sa_bnd (sa_wrZ 12 this 17 0) fun _ =>
sa_bnd (sa_wrI 12 this 14 0) fun _ =>
sa_bnd (f_X12_clause this) fun _ =>
sa_wh0 (fun j32  =>
sa_bnd (sa_rdI 12 this 11) fun v1 =>
sa_jn0 (sa_bnd (sa_rdI 12 this 11) fun v2 =>
sa_jn0 (sa_ret ()) fun j87 =>
if ¬ v2 = (-1) then
j87
else
sa_bnd (f_X12_look this) fun v3 =>
if v3 = (-1) then
j87
else
sa_bnd (f_X12_fails this) fun v4 =>
j87) fun j66 =>
if ¬ v1 = (-1) then
j66
else
sa_bnd (f_X12_look this) fun v5 =>
if ¬ v5 = 59 then
j66
else
sa_bnd (sa_rdI 12 this 10) fun v6 =>
sa_bnd (sa_wrI 12 this 10 (v6 + 1)) fun _ =>
sa_bnd (f_X12_clause this) fun _ =>
j32) sa_F )
set_option maxHeartbeats 1000000 in
set_option maxRecDepth 10000 in
theorem b_X12_goThrough {p : Program} {l : Launch} {e : Env} {s : State} {m : MethodId} {args : Array Value} {below : List Frame} {meth : Method} {c : Code} {D : va_G} {ad : Nat → Nat} {cA : FieldType → ClassId} {A : Nat → Prop} (this : Nat) (a1 : Nat) (a2 : Int32) (a3 : Int32) (C : sa_C p s m args meth c cX12_goThrough RX12 "goThrough" 4 none D ad cA A) : sa_Sg p l e s m args below meth c 4 130 D ad cA A sa_eV 0 [(0, .ref (ad this)), (1, .ref (ad a1)), (2, .int a2), (3, .int a3)] [] (f_X12_goThrough this a1 a2 a3) := by
  unfold f_X12_goThrough
  refine sa_gdI ?_
  refine sa_aload_n C d_X12_goThrough_0 rfl 0 rfl ?_
  refine sa_aload_n C d_X12_goThrough_1 rfl 1 rfl ?_
  refine sa_iload_n C d_X12_goThrough_2 rfl 2 rfl ?_
  refine sa_iload_n C d_X12_goThrough_3 rfl 3 rfl ?_
  refine sa_invV (ci := 12) C (k_X12_starts this a1 a2 a3) q1645 ds_X12_starts q128 rfl q1644 q47 q1642 (gd_X12_starts this a1 a2 a3) rfl rfl rfl (Nat.le_of_ble_eq_true rfl) (by decide) (by decide) d_X12_goThrough_4 (fun _ => ?_)
  refine sa_aload_n C d_X12_goThrough_7 rfl 0 rfl ?_
  refine sa_bipush (v := 121) C d_X12_goThrough_8 (by decide) ?_
  refine sa_putI C fd_X12_232 d_X12_goThrough_10 ?_
  refine sa_aload_n C d_X12_goThrough_13 rfl 0 rfl ?_
  refine sa_iconst (v := 0) C d_X12_goThrough_14 (by decide) ?_
  refine sa_putI C fd_X12_162 d_X12_goThrough_15 ?_
  refine sa_aload_n C d_X12_goThrough_18 rfl 0 rfl ?_
  refine sa_iconst (v := 0) C d_X12_goThrough_19 (by decide) ?_
  refine sa_putZ C fd_X12_228 d_X12_goThrough_20 ?_
  refine sa_aload_n C d_X12_goThrough_23 rfl 0 rfl ?_
  refine sa_iconst (v := 0) C d_X12_goThrough_24 (by decide) ?_
  refine sa_putI C fd_X12_235 d_X12_goThrough_25 ?_
  refine sa_aload_n C d_X12_goThrough_28 rfl 0 rfl ?_
  refine sa_invV (ci := 12) C (k_X12_clause this) q1706 ds_X12_clause q128 rfl q1705 q57 q1703 (gd_X12_clause this) rfl rfl rfl (Nat.le_of_ble_eq_true rfl) (by decide) (by decide) d_X12_goThrough_29 (fun _ => ?_)
  refine sa_sub [0] rfl (sa_loop0 ([(0, .ref (ad this))]) ([]) (fun j32 hj32  => ?_) _)
  refine sa_aload_n C d_X12_goThrough_32 rfl 0 rfl ?_
  refine sa_getI C fd_X12_159 d_X12_goThrough_33 (fun v1 => ?_)
  refine sa_iconst (v := (-1)) C d_X12_goThrough_36 (by decide) ?_
  refine sa_join0 66 ([(0, .ref (ad this))]) ([]) (?_) (fun j66 hj66 => ?_)
  · refine sa_aload_n C d_X12_goThrough_66 rfl 0 rfl ?_
    refine sa_getI C fd_X12_159 d_X12_goThrough_67 (fun v2 => ?_)
    refine sa_iconst (v := (-1)) C d_X12_goThrough_70 (by decide) ?_
    refine sa_join0 87 ([]) ([]) (?_) (fun j87 hj87 => ?_)
    · exact sa_vret C d_X12_goThrough_87
    refine sa_icmp_ne (tgt := 87) C d_X12_goThrough_71 (by decide) ?_ ?_
    · exact sa_sub [] rfl (hj87)
    refine sa_aload_n C d_X12_goThrough_74 rfl 0 rfl ?_
    refine sa_invV (ci := 12) C (k_X12_look this) q1653 ds_X12_look q128 rfl q1652 q49 q1650 (gd_X12_look this) rfl rfl rfl (Nat.le_of_ble_eq_true rfl) (by decide) (by decide) d_X12_goThrough_75 (fun v3 => ?_)
    refine sa_iconst (v := (-1)) C d_X12_goThrough_78 (by decide) ?_
    refine sa_icmp_eq (tgt := 87) C d_X12_goThrough_79 (by decide) ?_ ?_
    · exact sa_sub [] rfl (hj87)
    refine sa_aload_n C d_X12_goThrough_82 rfl 0 rfl ?_
    refine sa_invV (ci := 12) C (k_X12_fails this) q1657 ds_X12_fails q128 rfl q1656 q50 q1654 (gd_X12_fails this) rfl rfl rfl (Nat.le_of_ble_eq_true rfl) (by decide) (by decide) d_X12_goThrough_83 (fun v4 => ?_)
    refine sa_pop C d_X12_goThrough_86 rfl ?_
    exact sa_sub [] rfl (hj87)
  refine sa_icmp_ne (tgt := 66) C d_X12_goThrough_37 (by decide) ?_ ?_
  · exact sa_sub [0] rfl (hj66)
  refine sa_aload_n C d_X12_goThrough_40 rfl 0 rfl ?_
  refine sa_invV (ci := 12) C (k_X12_look this) q1653 ds_X12_look q128 rfl q1652 q49 q1650 (gd_X12_look this) rfl rfl rfl (Nat.le_of_ble_eq_true rfl) (by decide) (by decide) d_X12_goThrough_41 (fun v5 => ?_)
  refine sa_bipush (v := 59) C d_X12_goThrough_44 (by decide) ?_
  refine sa_icmp_ne (tgt := 66) C d_X12_goThrough_46 (by decide) ?_ ?_
  · exact sa_sub [0] rfl (hj66)
  refine sa_aload_n C d_X12_goThrough_49 rfl 0 rfl ?_
  refine sa_dup C d_X12_goThrough_50 rfl ?_
  refine sa_getI C fd_X12_150 d_X12_goThrough_51 (fun v6 => ?_)
  refine sa_iconst (v := 1) C d_X12_goThrough_54 (by decide) ?_
  refine sa_iadd C d_X12_goThrough_55 ?_
  refine sa_putI C fd_X12_150 d_X12_goThrough_56 ?_
  refine sa_aload_n C d_X12_goThrough_59 rfl 0 rfl ?_
  refine sa_invV (ci := 12) C (k_X12_clause this) q1706 ds_X12_clause q128 rfl q1705 q57 q1703 (gd_X12_clause this) rfl rfl rfl (Nat.le_of_ble_eq_true rfl) (by decide) (by decide) d_X12_goThrough_60 (fun _ => ?_)
  refine sa_goto (tgt := 32) C d_X12_goThrough_63 (by decide) ?_
  exact sa_sub [0] rfl (hj32)
theorem k_X12_goThrough (this : Nat) (a1 : Nat) (a2 : Int32) (a3 : Int32) : sa_Met 130 yX12_goThrough cX12_goThrough 4 none (fun ad => [.ref (ad this), .ref (ad a1), .int a2, .int a3]) sa_eV (f_X12_goThrough this a1 a2 a3) := sa_mk (by decide) (fun ad => Nat.le_of_ble_eq_true rfl) (fun p l e s m args below meth c D ad cA A C => b_X12_goThrough this a1 a2 a3 C)
theorem gd_X12_goThrough (this : Nat) (a1 : Nat) (a2 : Int32) (a3 : Int32) (σ : sa_St) (r : Unit) (τ : sa_St) (h : f_X12_goThrough this a1 a2 a3 σ = some (r, τ)) : sa_sh this = some (.inl 12) := sa_gd_ok h
theorem d_X12_here_0 : decode cX12_here 0 = .ok (.aload_n 0, 1) := by decide +kernel
theorem d_X12_here_1 : decode cX12_here 1 = .ok (.getfield 150, 3) := by decide +kernel
theorem d_X12_here_4 : decode cX12_here 4 = .ok (.aload_n 0, 1) := by decide +kernel
theorem d_X12_here_5 : decode cX12_here 5 = .ok (.getfield 153, 3) := by decide +kernel
theorem d_X12_here_8 : decode cX12_here 8 = .ok (.if_icmp .ge 24, 3) := by decide +kernel
theorem d_X12_here_11 : decode cX12_here 11 = .ok (.aload_n 0, 1) := by decide +kernel
theorem d_X12_here_12 : decode cX12_here 12 = .ok (.getfield 23, 3) := by decide +kernel
theorem d_X12_here_15 : decode cX12_here 15 = .ok (.aload_n 0, 1) := by decide +kernel
theorem d_X12_here_16 : decode cX12_here 16 = .ok (.getfield 156, 3) := by decide +kernel
theorem d_X12_here_19 : decode cX12_here 19 = .ok (.aload_n 0, 1) := by decide +kernel
theorem d_X12_here_20 : decode cX12_here 20 = .ok (.getfield 150, 3) := by decide +kernel
theorem d_X12_here_23 : decode cX12_here 23 = .ok (.iadd, 1) := by decide +kernel
theorem d_X12_here_24 : decode cX12_here 24 = .ok (.baload, 1) := by decide +kernel
theorem d_X12_here_25 : decode cX12_here 25 = .ok (.sipush 255, 3) := by decide +kernel
theorem d_X12_here_28 : decode cX12_here 28 = .ok (.iand, 1) := by decide +kernel
theorem d_X12_here_29 : decode cX12_here 29 = .ok (.goto 4, 3) := by decide +kernel
theorem d_X12_here_32 : decode cX12_here 32 = .ok (.iconst (-1), 1) := by decide +kernel
theorem d_X12_here_33 : decode cX12_here 33 = .ok (.ireturn, 1) := by decide +kernel
def f_X12_here (this : Nat) : sa_M Int32 :=
sa_gd 12 this (
sa_bnd (sa_rdI 12 this 10) fun v1 =>
sa_bnd (sa_rdI 12 this 9) fun v2 =>
sa_jn1 (fun (y3 : Int32) =>
sa_ret (y3 : Int32)) fun j33 =>
if v2 ≤ v1 then
j33 (-1)
else
sa_bnd (sa_rdR 12 this 5) fun v4 =>
sa_bnd (sa_rdI 12 this 8) fun v5 =>
sa_bnd (sa_rdI 12 this 10) fun v6 =>
sa_bnd (sa_ldI .byte v4 (v5 + v6)) fun v7 =>
j33 (v7 &&& 255))
set_option maxHeartbeats 1000000 in
set_option maxRecDepth 10000 in
theorem b_X12_here {p : Program} {l : Launch} {e : Env} {s : State} {m : MethodId} {args : Array Value} {below : List Frame} {meth : Method} {c : Code} {D : va_G} {ad : Nat → Nat} {cA : FieldType → ClassId} {A : Nat → Prop} (this : Nat) (C : sa_C p s m args meth c cX12_here RX12 "here" 1 (some .int) D ad cA A) : sa_Sg p l e s m args below meth c 1 1 D ad cA A sa_eI 0 [(0, .ref (ad this))] [] (f_X12_here this) := by
  unfold f_X12_here
  refine sa_gdI ?_
  refine sa_aload_n C d_X12_here_0 rfl 0 rfl ?_
  refine sa_getI C fd_X12_150 d_X12_here_1 (fun v1 => ?_)
  refine sa_aload_n C d_X12_here_4 rfl 0 rfl ?_
  refine sa_getI C fd_X12_153 d_X12_here_5 (fun v2 => ?_)
  refine sa_join1 33 (fun y3 => []) (fun y3 => [.int y3]) (fun y3 => ?_) (fun j33 hj33 => ?_)
  · exact sa_iret C d_X12_here_33
  refine sa_icmp_ge (tgt := 32) C d_X12_here_8 (by decide) ?_ ?_
  · refine sa_iconst (v := (-1)) C d_X12_here_32 (by decide) ?_
    exact sa_sub [] rfl (hj33 _)
  refine sa_aload_n C d_X12_here_11 rfl 0 rfl ?_
  refine sa_getR C fd_X12_23 rfl d_X12_here_12 (fun v4 => ?_)
  refine sa_aload_n C d_X12_here_15 rfl 0 rfl ?_
  refine sa_getI C fd_X12_156 d_X12_here_16 (fun v5 => ?_)
  refine sa_aload_n C d_X12_here_19 rfl 0 rfl ?_
  refine sa_getI C fd_X12_150 d_X12_here_20 (fun v6 => ?_)
  refine sa_iadd C d_X12_here_23 ?_
  refine sa_bald C d_X12_here_24 (fun v7 => ?_)
  refine sa_sipush (v := 255) C d_X12_here_25 (by decide) ?_
  refine sa_iand C d_X12_here_28 ?_
  refine sa_goto (tgt := 33) C d_X12_here_29 (by decide) ?_
  exact sa_sub [] rfl (hj33 _)
theorem k_X12_here (this : Nat) : sa_Met 1 yX12_here cX12_here 1 (some .int) (fun ad => [.ref (ad this)]) sa_eI (f_X12_here this) := sa_mk (by decide) (fun ad => Nat.le_of_ble_eq_true rfl) (fun p l e s m args below meth c D ad cA A C => b_X12_here this C)
theorem gd_X12_here (this : Nat) (σ : sa_St) (r : Int32) (τ : sa_St) (h : f_X12_here this σ = some (r, τ)) : sa_sh this = some (.inl 12) := sa_gd_ok h
theorem d_X12_placeOf_0 : decode cX12_placeOf 0 = .ok (.iconst 0, 1) := by decide +kernel
theorem d_X12_placeOf_1 : decode cX12_placeOf 1 = .ok (.istore_n 2, 1) := by decide +kernel
theorem d_X12_placeOf_2 : decode cX12_placeOf 2 = .ok (.iload_n 2, 1) := by decide +kernel
theorem d_X12_placeOf_3 : decode cX12_placeOf 3 = .ok (.aload_n 0, 1) := by decide +kernel
theorem d_X12_placeOf_4 : decode cX12_placeOf 4 = .ok (.invokevirtual 130, 3) := by decide +kernel
theorem d_X12_placeOf_7 : decode cX12_placeOf 7 = .ok (.if_icmp .ge 20, 3) := by decide +kernel
theorem d_X12_placeOf_10 : decode cX12_placeOf 10 = .ok (.aload_n 0, 1) := by decide +kernel
theorem d_X12_placeOf_11 : decode cX12_placeOf 11 = .ok (.iload_n 2, 1) := by decide +kernel
theorem d_X12_placeOf_12 : decode cX12_placeOf 12 = .ok (.invokevirtual 136, 3) := by decide +kernel
theorem d_X12_placeOf_15 : decode cX12_placeOf 15 = .ok (.iload_n 1, 1) := by decide +kernel
theorem d_X12_placeOf_16 : decode cX12_placeOf 16 = .ok (.if_icmp .ne 5, 3) := by decide +kernel
theorem d_X12_placeOf_19 : decode cX12_placeOf 19 = .ok (.iload_n 2, 1) := by decide +kernel
theorem d_X12_placeOf_20 : decode cX12_placeOf 20 = .ok (.ireturn, 1) := by decide +kernel
theorem d_X12_placeOf_21 : decode cX12_placeOf 21 = .ok (.iinc 2 1, 3) := by decide +kernel
theorem d_X12_placeOf_24 : decode cX12_placeOf 24 = .ok (.goto (-22), 3) := by decide +kernel
theorem d_X12_placeOf_27 : decode cX12_placeOf 27 = .ok (.iconst (-1), 1) := by decide +kernel
theorem d_X12_placeOf_28 : decode cX12_placeOf 28 = .ok (.ireturn, 1) := by decide +kernel
def f_X12_placeOf (a1 : Nat) (a2 : Int32) : sa_M Int32 :=
sa_let (0 : Int32) fun x1 =>
sa_wh1 (fun j2 (x2 : Int32) =>
sa_bnd (f_J0_length_8abf5 a1) fun v3 =>
if v3 ≤ x2 then
sa_ret ((-1) : Int32)
else
sa_bnd (f_J0_charAt_5068e a1 x2) fun v4 =>
if ¬ v4 = a2 then
sa_let ((x2 + 1) : Int32) fun x5 =>
j2 x5
else
sa_ret (x2 : Int32)) sa_F x1
set_option maxHeartbeats 1000000 in
set_option maxRecDepth 10000 in
theorem b_X12_placeOf {p : Program} {l : Launch} {e : Env} {s : State} {m : MethodId} {args : Array Value} {below : List Frame} {meth : Method} {c : Code} {D : va_G} {ad : Nat → Nat} {cA : FieldType → ClassId} {A : Nat → Prop} (a1 : Nat) (a2 : Int32) (C : sa_C p s m args meth c cX12_placeOf RX12 "placeOf" 3 (some .int) D ad cA A) : sa_Sg p l e s m args below meth c 3 5 D ad cA A sa_eI 0 [(0, .ref (ad a1)), (1, .int a2)] [] (f_X12_placeOf a1 a2) := by
  unfold f_X12_placeOf
  refine sa_iconst (v := 0) C d_X12_placeOf_0 (by decide) ?_
  refine sa_topi (fun x1 => ?_)
  refine sa_istore_n (lv' := [(2, .int x1), (0, .ref (ad a1)), (1, .int a2)]) C d_X12_placeOf_1 rfl (by decide) rfl ?_
  refine sa_sub [1, 2, 0] rfl (sa_loop1 (fun x2 => [(0, .ref (ad a1)), (1, .int a2), (2, .int x2)]) (fun x2 => []) (fun j2 hj2 x2 => ?_) _ _)
  refine sa_iload_n C d_X12_placeOf_2 rfl 2 rfl ?_
  refine sa_aload_n C d_X12_placeOf_3 rfl 0 rfl ?_
  refine sa_invK C (k_J0_length_8abf5 a1) q203 ds_J0_length_8abf5 q118 rfl q201 q202 q1663 (gd_J0_length_8abf5 a1) rfl rfl rfl (Nat.le_of_ble_eq_true rfl) (by decide) (by decide) d_X12_placeOf_4 (fun v3 => ?_)
  refine sa_icmp_ge (tgt := 27) C d_X12_placeOf_7 (by decide) ?_ ?_
  · refine sa_iconst (v := (-1)) C d_X12_placeOf_27 (by decide) ?_
    exact sa_iret C d_X12_placeOf_28
  refine sa_aload_n C d_X12_placeOf_10 rfl 0 rfl ?_
  refine sa_iload_n C d_X12_placeOf_11 rfl 2 rfl ?_
  refine sa_invK C (k_J0_charAt_5068e a1 x2) q604 ds_J0_charAt_5068e q118 rfl q602 q603 q1670 (gd_J0_charAt_5068e a1 x2) rfl rfl rfl (Nat.le_of_ble_eq_true rfl) (by decide) (by decide) d_X12_placeOf_12 (fun v4 => ?_)
  refine sa_iload_n C d_X12_placeOf_15 rfl 1 rfl ?_
  refine sa_icmp_ne (tgt := 21) C d_X12_placeOf_16 (by decide) ?_ ?_
  · refine sa_iinc C (fun zz => [(2, .int zz), (0, .ref (ad a1)), (1, .int a2)]) d_X12_placeOf_21 2 rfl rfl (by decide) (fun _ => rfl) (fun x5 => ?_)
    refine sa_goto (tgt := 2) C d_X12_placeOf_24 (by decide) ?_
    exact sa_sub [1, 2, 0] rfl (hj2 _)
  refine sa_iload_n C d_X12_placeOf_19 rfl 2 rfl ?_
  exact sa_iret C d_X12_placeOf_20
theorem k_X12_placeOf (a1 : Nat) (a2 : Int32) : sa_Met 5 yX12_placeOf cX12_placeOf 3 (some .int) (fun ad => [.ref (ad a1), .int a2]) sa_eI (f_X12_placeOf a1 a2) := sa_mk (by decide) (fun ad => Nat.le_of_ble_eq_true rfl) (fun p l e s m args below meth c D ad cA A C => b_X12_placeOf a1 a2 C)
theorem d_X12_readItem_0 : decode cX12_readItem 0 = .ok (.aload_n 0, 1) := by decide +kernel
theorem d_X12_readItem_1 : decode cX12_readItem 1 = .ok (.dup, 1) := by decide +kernel
theorem d_X12_readItem_2 : decode cX12_readItem 2 = .ok (.getfield 150, 3) := by decide +kernel
theorem d_X12_readItem_5 : decode cX12_readItem 5 = .ok (.iconst 1, 1) := by decide +kernel
theorem d_X12_readItem_6 : decode cX12_readItem 6 = .ok (.iadd, 1) := by decide +kernel
theorem d_X12_readItem_7 : decode cX12_readItem 7 = .ok (.putfield 150, 3) := by decide +kernel
theorem d_X12_readItem_10 : decode cX12_readItem 10 = .ok (.aload_n 0, 1) := by decide +kernel
theorem d_X12_readItem_11 : decode cX12_readItem 11 = .ok (.invokevirtual 169, 3) := by decide +kernel
theorem d_X12_readItem_14 : decode cX12_readItem 14 = .ok (.istore 5, 2) := by decide +kernel
theorem d_X12_readItem_16 : decode cX12_readItem 16 = .ok (.aload_n 0, 1) := by decide +kernel
theorem d_X12_readItem_17 : decode cX12_readItem 17 = .ok (.invokevirtual 199, 3) := by decide +kernel
theorem d_X12_readItem_20 : decode cX12_readItem 20 = .ok (.ifCond .ne 9, 3) := by decide +kernel
theorem d_X12_readItem_23 : decode cX12_readItem 23 = .ok (.aload_n 0, 1) := by decide +kernel
theorem d_X12_readItem_24 : decode cX12_readItem 24 = .ok (.invokevirtual 165, 3) := by decide +kernel
theorem d_X12_readItem_27 : decode cX12_readItem 27 = .ok (.pop, 1) := by decide +kernel
theorem d_X12_readItem_28 : decode cX12_readItem 28 = .ok (.return_, 1) := by decide +kernel
theorem d_X12_readItem_29 : decode cX12_readItem 29 = .ok (.iload 5, 2) := by decide +kernel
theorem d_X12_readItem_31 : decode cX12_readItem 31 = .ok (.bipush 48, 2) := by decide +kernel
theorem d_X12_readItem_33 : decode cX12_readItem 33 = .ok (.isub, 1) := by decide +kernel
theorem d_X12_readItem_34 : decode cX12_readItem 34 = .ok (.istore 6, 2) := by decide +kernel
theorem d_X12_readItem_36 : decode cX12_readItem 36 = .ok (.aload_n 0, 1) := by decide +kernel
theorem d_X12_readItem_37 : decode cX12_readItem 37 = .ok (.dup, 1) := by decide +kernel
theorem d_X12_readItem_38 : decode cX12_readItem 38 = .ok (.getfield 150, 3) := by decide +kernel
theorem d_X12_readItem_41 : decode cX12_readItem 41 = .ok (.iconst 1, 1) := by decide +kernel
theorem d_X12_readItem_42 : decode cX12_readItem 42 = .ok (.iadd, 1) := by decide +kernel
theorem d_X12_readItem_43 : decode cX12_readItem 43 = .ok (.putfield 150, 3) := by decide +kernel
theorem d_X12_readItem_46 : decode cX12_readItem 46 = .ok (.aload_n 0, 1) := by decide +kernel
theorem d_X12_readItem_47 : decode cX12_readItem 47 = .ok (.invokevirtual 199, 3) := by decide +kernel
theorem d_X12_readItem_50 : decode cX12_readItem 50 = .ok (.ifCond .eq 28, 3) := by decide +kernel
theorem d_X12_readItem_53 : decode cX12_readItem 53 = .ok (.bipush 10, 2) := by decide +kernel
theorem d_X12_readItem_55 : decode cX12_readItem 55 = .ok (.iload 6, 2) := by decide +kernel
theorem d_X12_readItem_57 : decode cX12_readItem 57 = .ok (.imul, 1) := by decide +kernel
theorem d_X12_readItem_58 : decode cX12_readItem 58 = .ok (.aload_n 0, 1) := by decide +kernel
theorem d_X12_readItem_59 : decode cX12_readItem 59 = .ok (.invokevirtual 245, 3) := by decide +kernel
theorem d_X12_readItem_62 : decode cX12_readItem 62 = .ok (.iadd, 1) := by decide +kernel
theorem d_X12_readItem_63 : decode cX12_readItem 63 = .ok (.bipush 48, 2) := by decide +kernel
theorem d_X12_readItem_65 : decode cX12_readItem 65 = .ok (.isub, 1) := by decide +kernel
theorem d_X12_readItem_66 : decode cX12_readItem 66 = .ok (.istore 6, 2) := by decide +kernel
theorem d_X12_readItem_68 : decode cX12_readItem 68 = .ok (.aload_n 0, 1) := by decide +kernel
theorem d_X12_readItem_69 : decode cX12_readItem 69 = .ok (.dup, 1) := by decide +kernel
theorem d_X12_readItem_70 : decode cX12_readItem 70 = .ok (.getfield 150, 3) := by decide +kernel
theorem d_X12_readItem_73 : decode cX12_readItem 73 = .ok (.iconst 1, 1) := by decide +kernel
theorem d_X12_readItem_74 : decode cX12_readItem 74 = .ok (.iadd, 1) := by decide +kernel
theorem d_X12_readItem_75 : decode cX12_readItem 75 = .ok (.putfield 150, 3) := by decide +kernel
theorem d_X12_readItem_78 : decode cX12_readItem 78 = .ok (.aload_n 0, 1) := by decide +kernel
theorem d_X12_readItem_79 : decode cX12_readItem 79 = .ok (.invokevirtual 199, 3) := by decide +kernel
theorem d_X12_readItem_82 : decode cX12_readItem 82 = .ok (.ifCond .eq 9, 3) := by decide +kernel
theorem d_X12_readItem_85 : decode cX12_readItem 85 = .ok (.aload_n 0, 1) := by decide +kernel
theorem d_X12_readItem_86 : decode cX12_readItem 86 = .ok (.invokevirtual 165, 3) := by decide +kernel
theorem d_X12_readItem_89 : decode cX12_readItem 89 = .ok (.pop, 1) := by decide +kernel
theorem d_X12_readItem_90 : decode cX12_readItem 90 = .ok (.return_, 1) := by decide +kernel
theorem d_X12_readItem_91 : decode cX12_readItem 91 = .ok (.iload 6, 2) := by decide +kernel
theorem d_X12_readItem_93 : decode cX12_readItem 93 = .ok (.i2l, 1) := by decide +kernel
theorem d_X12_readItem_94 : decode cX12_readItem 94 = .ok (.iload_n 3, 1) := by decide +kernel
theorem d_X12_readItem_95 : decode cX12_readItem 95 = .ok (.i2l, 1) := by decide +kernel
theorem d_X12_readItem_96 : decode cX12_readItem 96 = .ok (.iload 4, 2) := by decide +kernel
theorem d_X12_readItem_98 : decode cX12_readItem 98 = .ok (.i2l, 1) := by decide +kernel
theorem d_X12_readItem_99 : decode cX12_readItem 99 = .ok (.invokestatic 248, 3) := by decide +kernel
theorem d_X12_readItem_102 : decode cX12_readItem 102 = .ok (.ifCond .ne 19, 3) := by decide +kernel
theorem d_X12_readItem_105 : decode cX12_readItem 105 = .ok (.aload_n 0, 1) := by decide +kernel
theorem d_X12_readItem_106 : decode cX12_readItem 106 = .ok (.dup, 1) := by decide +kernel
theorem d_X12_readItem_107 : decode cX12_readItem 107 = .ok (.getfield 150, 3) := by decide +kernel
theorem d_X12_readItem_110 : decode cX12_readItem 110 = .ok (.iconst 1, 1) := by decide +kernel
theorem d_X12_readItem_111 : decode cX12_readItem 111 = .ok (.isub, 1) := by decide +kernel
theorem d_X12_readItem_112 : decode cX12_readItem 112 = .ok (.putfield 150, 3) := by decide +kernel
theorem d_X12_readItem_115 : decode cX12_readItem 115 = .ok (.aload_n 0, 1) := by decide +kernel
theorem d_X12_readItem_116 : decode cX12_readItem 116 = .ok (.invokevirtual 165, 3) := by decide +kernel
theorem d_X12_readItem_119 : decode cX12_readItem 119 = .ok (.pop, 1) := by decide +kernel
theorem d_X12_readItem_120 : decode cX12_readItem 120 = .ok (.return_, 1) := by decide +kernel
theorem d_X12_readItem_121 : decode cX12_readItem 121 = .ok (.aload_n 1, 1) := by decide +kernel
theorem d_X12_readItem_122 : decode cX12_readItem 122 = .ok (.iload_n 2, 1) := by decide +kernel
theorem d_X12_readItem_123 : decode cX12_readItem 123 = .ok (.iload 6, 2) := by decide +kernel
theorem d_X12_readItem_125 : decode cX12_readItem 125 = .ok (.iastore, 1) := by decide +kernel
theorem d_X12_readItem_126 : decode cX12_readItem 126 = .ok (.return_, 1) := by decide +kernel
def f_X12_readItem (this : Nat) (a1 : Nat) (a2 : Int32) (a3 : Int32) (a4 : Int32) : sa_M Unit :=
sa_gd 12 this (
sa_bnd (sa_rdI 12 this 10) fun v1 =>
sa_bnd (sa_wrI 12 this 10 (v1 + 1)) fun _ =>
sa_bnd (f_X12_look this) fun v2 =>
sa_bnd (f_X12_isDigit this) fun v3 =>
if ¬ v3 = 0 then
sa_let ((v2 - 48) : Int32) fun x4 =>
sa_bnd (sa_rdI 12 this 10) fun v5 =>
sa_bnd (sa_wrI 12 this 10 (v5 + 1)) fun _ =>
sa_bnd (f_X12_isDigit this) fun v6 =>
sa_jn1 (fun (x7 : Int32) =>
sa_bnd (f_X12_isDigit this) fun v8 =>
if v8 = 0 then
sa_bnd (f_X12_isIn (x7.toInt64) (a3.toInt64) (a4.toInt64)) fun v9 =>
if ¬ v9 = 0 then
sa_bnd (sa_stI a1 a2 x7) fun _ =>
sa_ret ()
else
sa_bnd (sa_rdI 12 this 10) fun v10 =>
sa_bnd (sa_wrI 12 this 10 (v10 - 1)) fun _ =>
sa_bnd (f_X12_fails this) fun v11 =>
sa_ret ()
else
sa_bnd (f_X12_fails this) fun v12 =>
sa_ret ()) fun j78 =>
if v6 = 0 then
j78 x4
else
sa_bnd (f_X12_here this) fun v13 =>
sa_let ((((10 * x4) + v13) - 48) : Int32) fun x14 =>
sa_bnd (sa_rdI 12 this 10) fun v15 =>
sa_bnd (sa_wrI 12 this 10 (v15 + 1)) fun _ =>
j78 x14
else
sa_bnd (f_X12_fails this) fun v16 =>
sa_ret ())
set_option maxHeartbeats 1000000 in
set_option maxRecDepth 10000 in
theorem b_X12_readItem {p : Program} {l : Launch} {e : Env} {s : State} {m : MethodId} {args : Array Value} {below : List Frame} {meth : Method} {c : Code} {D : va_G} {ad : Nat → Nat} {cA : FieldType → ClassId} {A : Nat → Prop} (this : Nat) (a1 : Nat) (a2 : Int32) (a3 : Int32) (a4 : Int32) (C : sa_C p s m args meth c cX12_readItem RX12 "readItem" 7 none D ad cA A) : sa_Sg p l e s m args below meth c 7 2 D ad cA A sa_eV 0 [(0, .ref (ad this)), (1, .ref (ad a1)), (2, .int a2), (3, .int a3), (4, .int a4)] [] (f_X12_readItem this a1 a2 a3 a4) := by
  unfold f_X12_readItem
  refine sa_gdI ?_
  refine sa_aload_n C d_X12_readItem_0 rfl 0 rfl ?_
  refine sa_dup C d_X12_readItem_1 rfl ?_
  refine sa_getI C fd_X12_150 d_X12_readItem_2 (fun v1 => ?_)
  refine sa_iconst (v := 1) C d_X12_readItem_5 (by decide) ?_
  refine sa_iadd C d_X12_readItem_6 ?_
  refine sa_putI C fd_X12_150 d_X12_readItem_7 ?_
  refine sa_aload_n C d_X12_readItem_10 rfl 0 rfl ?_
  refine sa_invV (ci := 12) C (k_X12_look this) q1653 ds_X12_look q128 rfl q1652 q49 q1650 (gd_X12_look this) rfl rfl rfl (Nat.le_of_ble_eq_true rfl) (by decide) (by decide) d_X12_readItem_11 (fun v2 => ?_)
  refine sa_istore (lv' := [(5, .int v2), (0, .ref (ad this)), (1, .ref (ad a1)), (2, .int a2), (3, .int a3), (4, .int a4)]) C d_X12_readItem_14 (by decide) rfl ?_
  refine sa_aload_n C d_X12_readItem_16 rfl 1 rfl ?_
  refine sa_invV (ci := 12) C (k_X12_isDigit this) q1687 ds_X12_isDigit q128 rfl q1686 q53 q1684 (gd_X12_isDigit this) rfl rfl rfl (Nat.le_of_ble_eq_true rfl) (by decide) (by decide) d_X12_readItem_17 (fun v3 => ?_)
  refine sa_if_ne (tgt := 29) C d_X12_readItem_20 (by decide) ?_ ?_
  · refine sa_iload C d_X12_readItem_29 0 rfl ?_
    refine sa_bipush (v := 48) C d_X12_readItem_31 (by decide) ?_
    refine sa_isub C d_X12_readItem_33 ?_
    refine sa_topi (fun x4 => ?_)
    refine sa_istore (lv' := [(6, .int x4), (5, .int v2), (0, .ref (ad this)), (1, .ref (ad a1)), (2, .int a2), (3, .int a3), (4, .int a4)]) C d_X12_readItem_34 (by decide) rfl ?_
    refine sa_aload_n C d_X12_readItem_36 rfl 2 rfl ?_
    refine sa_dup C d_X12_readItem_37 rfl ?_
    refine sa_getI C fd_X12_150 d_X12_readItem_38 (fun v5 => ?_)
    refine sa_iconst (v := 1) C d_X12_readItem_41 (by decide) ?_
    refine sa_iadd C d_X12_readItem_42 ?_
    refine sa_putI C fd_X12_150 d_X12_readItem_43 ?_
    refine sa_aload_n C d_X12_readItem_46 rfl 2 rfl ?_
    refine sa_invV (ci := 12) C (k_X12_isDigit this) q1687 ds_X12_isDigit q128 rfl q1686 q53 q1684 (gd_X12_isDigit this) rfl rfl rfl (Nat.le_of_ble_eq_true rfl) (by decide) (by decide) d_X12_readItem_47 (fun v6 => ?_)
    refine sa_join1 78 (fun x7 => [(0, .ref (ad this)), (1, .ref (ad a1)), (2, .int a2), (3, .int a3), (4, .int a4), (6, .int x7)]) (fun x7 => []) (fun x7 => ?_) (fun j78 hj78 => ?_)
    · refine sa_aload_n C d_X12_readItem_78 rfl 0 rfl ?_
      refine sa_invV (ci := 12) C (k_X12_isDigit this) q1687 ds_X12_isDigit q128 rfl q1686 q53 q1684 (gd_X12_isDigit this) rfl rfl rfl (Nat.le_of_ble_eq_true rfl) (by decide) (by decide) d_X12_readItem_79 (fun v8 => ?_)
      refine sa_if_eq (tgt := 91) C d_X12_readItem_82 (by decide) ?_ ?_
      · refine sa_iload C d_X12_readItem_91 5 rfl ?_
        refine sa_i2l C d_X12_readItem_93 ?_
        refine sa_iload_n C d_X12_readItem_94 rfl 3 rfl ?_
        refine sa_i2l C d_X12_readItem_95 ?_
        refine sa_iload C d_X12_readItem_96 4 rfl ?_
        refine sa_i2l C d_X12_readItem_98 ?_
        refine sa_invS C (k_X12_isIn (x7.toInt64) (a3.toInt64) (a4.toInt64)) q1637 ds_X12_isIn q128 q1636 q1635 rfl rfl rfl (Nat.le_of_ble_eq_true rfl) (by decide) (by decide) d_X12_readItem_99 (fun v9 => ?_)
        refine sa_if_ne (tgt := 121) C d_X12_readItem_102 (by decide) ?_ ?_
        · refine sa_aload_n C d_X12_readItem_121 rfl 1 rfl ?_
          refine sa_iload_n C d_X12_readItem_122 rfl 2 rfl ?_
          refine sa_iload C d_X12_readItem_123 5 rfl ?_
          refine sa_iast C d_X12_readItem_125 ?_
          exact sa_vret C d_X12_readItem_126
        refine sa_aload_n C d_X12_readItem_105 rfl 0 rfl ?_
        refine sa_dup C d_X12_readItem_106 rfl ?_
        refine sa_getI C fd_X12_150 d_X12_readItem_107 (fun v10 => ?_)
        refine sa_iconst (v := 1) C d_X12_readItem_110 (by decide) ?_
        refine sa_isub C d_X12_readItem_111 ?_
        refine sa_putI C fd_X12_150 d_X12_readItem_112 ?_
        refine sa_aload_n C d_X12_readItem_115 rfl 0 rfl ?_
        refine sa_invV (ci := 12) C (k_X12_fails this) q1657 ds_X12_fails q128 rfl q1656 q50 q1654 (gd_X12_fails this) rfl rfl rfl (Nat.le_of_ble_eq_true rfl) (by decide) (by decide) d_X12_readItem_116 (fun v11 => ?_)
        refine sa_pop C d_X12_readItem_119 rfl ?_
        exact sa_vret C d_X12_readItem_120
      refine sa_aload_n C d_X12_readItem_85 rfl 0 rfl ?_
      refine sa_invV (ci := 12) C (k_X12_fails this) q1657 ds_X12_fails q128 rfl q1656 q50 q1654 (gd_X12_fails this) rfl rfl rfl (Nat.le_of_ble_eq_true rfl) (by decide) (by decide) d_X12_readItem_86 (fun v12 => ?_)
      refine sa_pop C d_X12_readItem_89 rfl ?_
      exact sa_vret C d_X12_readItem_90
    refine sa_if_eq (tgt := 78) C d_X12_readItem_50 (by decide) ?_ ?_
    · exact sa_sub [2, 3, 4, 5, 6, 0] rfl (hj78 _)
    refine sa_bipush (v := 10) C d_X12_readItem_53 (by decide) ?_
    refine sa_iload C d_X12_readItem_55 0 rfl ?_
    refine sa_imul C d_X12_readItem_57 ?_
    refine sa_aload_n C d_X12_readItem_58 rfl 2 rfl ?_
    refine sa_invV (ci := 12) C (k_X12_here this) q1691 ds_X12_here q128 rfl q1690 q54 q1688 (gd_X12_here this) rfl rfl rfl (Nat.le_of_ble_eq_true rfl) (by decide) (by decide) d_X12_readItem_59 (fun v13 => ?_)
    refine sa_iadd C d_X12_readItem_62 ?_
    refine sa_bipush (v := 48) C d_X12_readItem_63 (by decide) ?_
    refine sa_isub C d_X12_readItem_65 ?_
    refine sa_topi (fun x14 => ?_)
    refine sa_istore (lv' := [(6, .int x14), (5, .int v2), (0, .ref (ad this)), (1, .ref (ad a1)), (2, .int a2), (3, .int a3), (4, .int a4)]) C d_X12_readItem_66 (by decide) rfl ?_
    refine sa_aload_n C d_X12_readItem_68 rfl 2 rfl ?_
    refine sa_dup C d_X12_readItem_69 rfl ?_
    refine sa_getI C fd_X12_150 d_X12_readItem_70 (fun v15 => ?_)
    refine sa_iconst (v := 1) C d_X12_readItem_73 (by decide) ?_
    refine sa_iadd C d_X12_readItem_74 ?_
    refine sa_putI C fd_X12_150 d_X12_readItem_75 ?_
    exact sa_sub [2, 3, 4, 5, 6, 0] rfl (hj78 _)
  refine sa_aload_n C d_X12_readItem_23 rfl 1 rfl ?_
  refine sa_invV (ci := 12) C (k_X12_fails this) q1657 ds_X12_fails q128 rfl q1656 q50 q1654 (gd_X12_fails this) rfl rfl rfl (Nat.le_of_ble_eq_true rfl) (by decide) (by decide) d_X12_readItem_24 (fun v16 => ?_)
  refine sa_pop C d_X12_readItem_27 rfl ?_
  exact sa_vret C d_X12_readItem_28
theorem k_X12_readItem (this : Nat) (a1 : Nat) (a2 : Int32) (a3 : Int32) (a4 : Int32) : sa_Met 2 yX12_readItem cX12_readItem 7 none (fun ad => [.ref (ad this), .ref (ad a1), .int a2, .int a3, .int a4]) sa_eV (f_X12_readItem this a1 a2 a3 a4) := sa_mk (by decide) (fun ad => Nat.le_of_ble_eq_true rfl) (fun p l e s m args below meth c D ad cA A C => b_X12_readItem this a1 a2 a3 a4 C)
theorem gd_X12_readItem (this : Nat) (a1 : Nat) (a2 : Int32) (a3 : Int32) (a4 : Int32) (σ : sa_St) (r : Unit) (τ : sa_St) (h : f_X12_readItem this a1 a2 a3 a4 σ = some (r, τ)) : sa_sh this = some (.inl 12) := sa_gd_ok h
theorem d_X12_mostOf_0 : decode cX12_mostOf 0 = .ok (.iload_n 0, 1) := by decide +kernel
theorem d_X12_mostOf_1 : decode cX12_mostOf 1 = .ok (.bipush 112, 2) := by decide +kernel
theorem d_X12_mostOf_3 : decode cX12_mostOf 3 = .ok (.if_icmp .ne 25, 3) := by decide +kernel
theorem d_X12_mostOf_6 : decode cX12_mostOf 6 = .ok (.iload_n 1, 1) := by decide +kernel
theorem d_X12_mostOf_7 : decode cX12_mostOf 7 = .ok (.iconst 1, 1) := by decide +kernel
theorem d_X12_mostOf_8 : decode cX12_mostOf 8 = .ok (.if_icmp .ne 7, 3) := by decide +kernel
theorem d_X12_mostOf_11 : decode cX12_mostOf 11 = .ok (.iconst 1, 1) := by decide +kernel
theorem d_X12_mostOf_12 : decode cX12_mostOf 12 = .ok (.goto 15, 3) := by decide +kernel
theorem d_X12_mostOf_15 : decode cX12_mostOf 15 = .ok (.iload_n 1, 1) := by decide +kernel
theorem d_X12_mostOf_16 : decode cX12_mostOf 16 = .ok (.iconst 2, 1) := by decide +kernel
theorem d_X12_mostOf_17 : decode cX12_mostOf 17 = .ok (.if_icmp .ne 8, 3) := by decide +kernel
theorem d_X12_mostOf_20 : decode cX12_mostOf 20 = .ok (.bipush 99, 2) := by decide +kernel
theorem d_X12_mostOf_22 : decode cX12_mostOf 22 = .ok (.goto 5, 3) := by decide +kernel
theorem d_X12_mostOf_25 : decode cX12_mostOf 25 = .ok (.bipush 9, 2) := by decide +kernel
theorem d_X12_mostOf_27 : decode cX12_mostOf 27 = .ok (.ireturn, 1) := by decide +kernel
theorem d_X12_mostOf_28 : decode cX12_mostOf 28 = .ok (.iload_n 0, 1) := by decide +kernel
theorem d_X12_mostOf_29 : decode cX12_mostOf 29 = .ok (.bipush 119, 2) := by decide +kernel
theorem d_X12_mostOf_31 : decode cX12_mostOf 31 = .ok (.if_icmp .ne 16, 3) := by decide +kernel
theorem d_X12_mostOf_34 : decode cX12_mostOf 34 = .ok (.iload_n 1, 1) := by decide +kernel
theorem d_X12_mostOf_35 : decode cX12_mostOf 35 = .ok (.iconst 2, 1) := by decide +kernel
theorem d_X12_mostOf_36 : decode cX12_mostOf 36 = .ok (.if_icmp .ge 8, 3) := by decide +kernel
theorem d_X12_mostOf_39 : decode cX12_mostOf 39 = .ok (.bipush 7, 2) := by decide +kernel
theorem d_X12_mostOf_41 : decode cX12_mostOf 41 = .ok (.goto 5, 3) := by decide +kernel
theorem d_X12_mostOf_44 : decode cX12_mostOf 44 = .ok (.bipush 9, 2) := by decide +kernel
theorem d_X12_mostOf_46 : decode cX12_mostOf 46 = .ok (.ireturn, 1) := by decide +kernel
theorem d_X12_mostOf_47 : decode cX12_mostOf 47 = .ok (.iload_n 0, 1) := by decide +kernel
theorem d_X12_mostOf_48 : decode cX12_mostOf 48 = .ok (.bipush 102, 2) := by decide +kernel
theorem d_X12_mostOf_50 : decode cX12_mostOf 50 = .ok (.if_icmp .ne 15, 3) := by decide +kernel
theorem d_X12_mostOf_53 : decode cX12_mostOf 53 = .ok (.iload_n 1, 1) := by decide +kernel
theorem d_X12_mostOf_54 : decode cX12_mostOf 54 = .ok (.ifCond .ne 8, 3) := by decide +kernel
theorem d_X12_mostOf_57 : decode cX12_mostOf 57 = .ok (.bipush 7, 2) := by decide +kernel
theorem d_X12_mostOf_59 : decode cX12_mostOf 59 = .ok (.goto 5, 3) := by decide +kernel
theorem d_X12_mostOf_62 : decode cX12_mostOf 62 = .ok (.bipush 9, 2) := by decide +kernel
theorem d_X12_mostOf_64 : decode cX12_mostOf 64 = .ok (.ireturn, 1) := by decide +kernel
theorem d_X12_mostOf_65 : decode cX12_mostOf 65 = .ok (.iload_n 1, 1) := by decide +kernel
theorem d_X12_mostOf_66 : decode cX12_mostOf 66 = .ok (.ifCond .ne 8, 3) := by decide +kernel
theorem d_X12_mostOf_69 : decode cX12_mostOf 69 = .ok (.bipush 7, 2) := by decide +kernel
theorem d_X12_mostOf_71 : decode cX12_mostOf 71 = .ok (.goto 34, 3) := by decide +kernel
theorem d_X12_mostOf_74 : decode cX12_mostOf 74 = .ok (.iload_n 1, 1) := by decide +kernel
theorem d_X12_mostOf_75 : decode cX12_mostOf 75 = .ok (.iconst 1, 1) := by decide +kernel
theorem d_X12_mostOf_76 : decode cX12_mostOf 76 = .ok (.if_icmp .ne 8, 3) := by decide +kernel
theorem d_X12_mostOf_79 : decode cX12_mostOf 79 = .ok (.bipush 99, 2) := by decide +kernel
theorem d_X12_mostOf_81 : decode cX12_mostOf 81 = .ok (.goto 24, 3) := by decide +kernel
theorem d_X12_mostOf_84 : decode cX12_mostOf 84 = .ok (.iload_n 1, 1) := by decide +kernel
theorem d_X12_mostOf_85 : decode cX12_mostOf 85 = .ok (.iconst 2, 1) := by decide +kernel
theorem d_X12_mostOf_86 : decode cX12_mostOf 86 = .ok (.if_icmp .ne 8, 3) := by decide +kernel
theorem d_X12_mostOf_89 : decode cX12_mostOf 89 = .ok (.bipush 9, 2) := by decide +kernel
theorem d_X12_mostOf_91 : decode cX12_mostOf 91 = .ok (.goto 14, 3) := by decide +kernel
theorem d_X12_mostOf_94 : decode cX12_mostOf 94 = .ok (.iload_n 1, 1) := by decide +kernel
theorem d_X12_mostOf_95 : decode cX12_mostOf 95 = .ok (.iconst 3, 1) := by decide +kernel
theorem d_X12_mostOf_96 : decode cX12_mostOf 96 = .ok (.if_icmp .ne 7, 3) := by decide +kernel
theorem d_X12_mostOf_99 : decode cX12_mostOf 99 = .ok (.iconst 3, 1) := by decide +kernel
theorem d_X12_mostOf_100 : decode cX12_mostOf 100 = .ok (.goto 5, 3) := by decide +kernel
theorem d_X12_mostOf_103 : decode cX12_mostOf 103 = .ok (.bipush 15, 2) := by decide +kernel
theorem d_X12_mostOf_105 : decode cX12_mostOf 105 = .ok (.ireturn, 1) := by decide +kernel
def f_X12_mostOf (a1 : Int32) (a2 : Int32) : sa_M Int32 :=
if ¬ a1 = 112 then
if ¬ a1 = 119 then
if ¬ a1 = 102 then
sa_jn1 (fun (y1 : Int32) =>
sa_ret (y1 : Int32)) fun j105 =>
if ¬ a2 = 0 then
if ¬ a2 = 1 then
if ¬ a2 = 2 then
if ¬ a2 = 3 then
j105 15
else
j105 3
else
j105 9
else
j105 99
else
j105 7
else
sa_jn1 (fun (y2 : Int32) =>
sa_ret (y2 : Int32)) fun j64 =>
if ¬ a2 = 0 then
j64 9
else
j64 7
else
sa_jn1 (fun (y3 : Int32) =>
sa_ret (y3 : Int32)) fun j46 =>
if 2 ≤ a2 then
j46 9
else
j46 7
else
sa_jn1 (fun (y4 : Int32) =>
sa_ret (y4 : Int32)) fun j27 =>
if ¬ a2 = 1 then
if ¬ a2 = 2 then
j27 9
else
j27 99
else
j27 1
set_option maxHeartbeats 1000000 in
set_option maxRecDepth 10000 in
theorem b_X12_mostOf {p : Program} {l : Launch} {e : Env} {s : State} {m : MethodId} {args : Array Value} {below : List Frame} {meth : Method} {c : Code} {D : va_G} {ad : Nat → Nat} {cA : FieldType → ClassId} {A : Nat → Prop} (a1 : Int32) (a2 : Int32) (C : sa_C p s m args meth c cX12_mostOf RX12 "mostOf" 2 (some .int) D ad cA A) : sa_Sg p l e s m args below meth c 2 1 D ad cA A sa_eI 0 [(0, .int a1), (1, .int a2)] [] (f_X12_mostOf a1 a2) := by
  unfold f_X12_mostOf
  refine sa_iload_n C d_X12_mostOf_0 rfl 0 rfl ?_
  refine sa_bipush (v := 112) C d_X12_mostOf_1 (by decide) ?_
  refine sa_icmp_ne (tgt := 28) C d_X12_mostOf_3 (by decide) ?_ ?_
  · refine sa_iload_n C d_X12_mostOf_28 rfl 0 rfl ?_
    refine sa_bipush (v := 119) C d_X12_mostOf_29 (by decide) ?_
    refine sa_icmp_ne (tgt := 47) C d_X12_mostOf_31 (by decide) ?_ ?_
    · refine sa_iload_n C d_X12_mostOf_47 rfl 0 rfl ?_
      refine sa_bipush (v := 102) C d_X12_mostOf_48 (by decide) ?_
      refine sa_icmp_ne (tgt := 65) C d_X12_mostOf_50 (by decide) ?_ ?_
      · refine sa_iload_n C d_X12_mostOf_65 rfl 1 rfl ?_
        refine sa_join1 105 (fun y1 => []) (fun y1 => [.int y1]) (fun y1 => ?_) (fun j105 hj105 => ?_)
        · exact sa_iret C d_X12_mostOf_105
        refine sa_if_ne (tgt := 74) C d_X12_mostOf_66 (by decide) ?_ ?_
        · refine sa_iload_n C d_X12_mostOf_74 rfl 1 rfl ?_
          refine sa_iconst (v := 1) C d_X12_mostOf_75 (by decide) ?_
          refine sa_icmp_ne (tgt := 84) C d_X12_mostOf_76 (by decide) ?_ ?_
          · refine sa_iload_n C d_X12_mostOf_84 rfl 1 rfl ?_
            refine sa_iconst (v := 2) C d_X12_mostOf_85 (by decide) ?_
            refine sa_icmp_ne (tgt := 94) C d_X12_mostOf_86 (by decide) ?_ ?_
            · refine sa_iload_n C d_X12_mostOf_94 rfl 1 rfl ?_
              refine sa_iconst (v := 3) C d_X12_mostOf_95 (by decide) ?_
              refine sa_icmp_ne (tgt := 103) C d_X12_mostOf_96 (by decide) ?_ ?_
              · refine sa_bipush (v := 15) C d_X12_mostOf_103 (by decide) ?_
                exact sa_sub [] rfl (hj105 _)
              refine sa_iconst (v := 3) C d_X12_mostOf_99 (by decide) ?_
              refine sa_goto (tgt := 105) C d_X12_mostOf_100 (by decide) ?_
              exact sa_sub [] rfl (hj105 _)
            refine sa_bipush (v := 9) C d_X12_mostOf_89 (by decide) ?_
            refine sa_goto (tgt := 105) C d_X12_mostOf_91 (by decide) ?_
            exact sa_sub [] rfl (hj105 _)
          refine sa_bipush (v := 99) C d_X12_mostOf_79 (by decide) ?_
          refine sa_goto (tgt := 105) C d_X12_mostOf_81 (by decide) ?_
          exact sa_sub [] rfl (hj105 _)
        refine sa_bipush (v := 7) C d_X12_mostOf_69 (by decide) ?_
        refine sa_goto (tgt := 105) C d_X12_mostOf_71 (by decide) ?_
        exact sa_sub [] rfl (hj105 _)
      refine sa_iload_n C d_X12_mostOf_53 rfl 1 rfl ?_
      refine sa_join1 64 (fun y2 => []) (fun y2 => [.int y2]) (fun y2 => ?_) (fun j64 hj64 => ?_)
      · exact sa_iret C d_X12_mostOf_64
      refine sa_if_ne (tgt := 62) C d_X12_mostOf_54 (by decide) ?_ ?_
      · refine sa_bipush (v := 9) C d_X12_mostOf_62 (by decide) ?_
        exact sa_sub [] rfl (hj64 _)
      refine sa_bipush (v := 7) C d_X12_mostOf_57 (by decide) ?_
      refine sa_goto (tgt := 64) C d_X12_mostOf_59 (by decide) ?_
      exact sa_sub [] rfl (hj64 _)
    refine sa_iload_n C d_X12_mostOf_34 rfl 1 rfl ?_
    refine sa_iconst (v := 2) C d_X12_mostOf_35 (by decide) ?_
    refine sa_join1 46 (fun y3 => []) (fun y3 => [.int y3]) (fun y3 => ?_) (fun j46 hj46 => ?_)
    · exact sa_iret C d_X12_mostOf_46
    refine sa_icmp_ge (tgt := 44) C d_X12_mostOf_36 (by decide) ?_ ?_
    · refine sa_bipush (v := 9) C d_X12_mostOf_44 (by decide) ?_
      exact sa_sub [] rfl (hj46 _)
    refine sa_bipush (v := 7) C d_X12_mostOf_39 (by decide) ?_
    refine sa_goto (tgt := 46) C d_X12_mostOf_41 (by decide) ?_
    exact sa_sub [] rfl (hj46 _)
  refine sa_iload_n C d_X12_mostOf_6 rfl 1 rfl ?_
  refine sa_iconst (v := 1) C d_X12_mostOf_7 (by decide) ?_
  refine sa_join1 27 (fun y4 => []) (fun y4 => [.int y4]) (fun y4 => ?_) (fun j27 hj27 => ?_)
  · exact sa_iret C d_X12_mostOf_27
  refine sa_icmp_ne (tgt := 15) C d_X12_mostOf_8 (by decide) ?_ ?_
  · refine sa_iload_n C d_X12_mostOf_15 rfl 1 rfl ?_
    refine sa_iconst (v := 2) C d_X12_mostOf_16 (by decide) ?_
    refine sa_icmp_ne (tgt := 25) C d_X12_mostOf_17 (by decide) ?_ ?_
    · refine sa_bipush (v := 9) C d_X12_mostOf_25 (by decide) ?_
      exact sa_sub [] rfl (hj27 _)
    refine sa_bipush (v := 99) C d_X12_mostOf_20 (by decide) ?_
    refine sa_goto (tgt := 27) C d_X12_mostOf_22 (by decide) ?_
    exact sa_sub [] rfl (hj27 _)
  refine sa_iconst (v := 1) C d_X12_mostOf_11 (by decide) ?_
  refine sa_goto (tgt := 27) C d_X12_mostOf_12 (by decide) ?_
  exact sa_sub [] rfl (hj27 _)
theorem k_X12_mostOf (a1 : Int32) (a2 : Int32) : sa_Met 1 yX12_mostOf cX12_mostOf 2 (some .int) (fun ad => [.int a1, .int a2]) sa_eI (f_X12_mostOf a1 a2) := sa_mk (by decide) (fun ad => Nat.le_of_ble_eq_true rfl) (fun p l e s m args below meth c D ad cA A C => b_X12_mostOf a1 a2 C)
theorem d_X12_leastOf_0 : decode cX12_leastOf 0 = .ok (.iload_n 0, 1) := by decide +kernel
theorem d_X12_leastOf_1 : decode cX12_leastOf 1 = .ok (.bipush 119, 2) := by decide +kernel
theorem d_X12_leastOf_3 : decode cX12_leastOf 3 = .ok (.if_icmp .ne 8, 3) := by decide +kernel
theorem d_X12_leastOf_6 : decode cX12_leastOf 6 = .ok (.iload_n 1, 1) := by decide +kernel
theorem d_X12_leastOf_7 : decode cX12_leastOf 7 = .ok (.iconst 2, 1) := by decide +kernel
theorem d_X12_leastOf_8 : decode cX12_leastOf 8 = .ok (.if_icmp .eq 14, 3) := by decide +kernel
theorem d_X12_leastOf_11 : decode cX12_leastOf 11 = .ok (.iload_n 0, 1) := by decide +kernel
theorem d_X12_leastOf_12 : decode cX12_leastOf 12 = .ok (.bipush 99, 2) := by decide +kernel
theorem d_X12_leastOf_14 : decode cX12_leastOf 14 = .ok (.if_icmp .ne 12, 3) := by decide +kernel
theorem d_X12_leastOf_17 : decode cX12_leastOf 17 = .ok (.iload_n 1, 1) := by decide +kernel
theorem d_X12_leastOf_18 : decode cX12_leastOf 18 = .ok (.iconst 1, 1) := by decide +kernel
theorem d_X12_leastOf_19 : decode cX12_leastOf 19 = .ok (.if_icmp .ne 7, 3) := by decide +kernel
theorem d_X12_leastOf_22 : decode cX12_leastOf 22 = .ok (.iconst 1, 1) := by decide +kernel
theorem d_X12_leastOf_23 : decode cX12_leastOf 23 = .ok (.goto 4, 3) := by decide +kernel
theorem d_X12_leastOf_26 : decode cX12_leastOf 26 = .ok (.iconst 0, 1) := by decide +kernel
theorem d_X12_leastOf_27 : decode cX12_leastOf 27 = .ok (.ireturn, 1) := by decide +kernel
def f_X12_leastOf (a1 : Int32) (a2 : Int32) : sa_M Int32 :=
sa_jn1 (fun (y1 : Int32) =>
sa_ret (y1 : Int32)) fun j27 =>
sa_jn0 (j27 1) fun j22 =>
sa_jn0 (sa_jn0 (j27 0) fun j26 =>
if ¬ a1 = 99 then
j26
else
if ¬ a2 = 1 then
j26
else
j22) fun j11 =>
if ¬ a1 = 119 then
j11
else
if a2 = 2 then
j22
else
j11
set_option maxHeartbeats 1000000 in
set_option maxRecDepth 10000 in
theorem b_X12_leastOf {p : Program} {l : Launch} {e : Env} {s : State} {m : MethodId} {args : Array Value} {below : List Frame} {meth : Method} {c : Code} {D : va_G} {ad : Nat → Nat} {cA : FieldType → ClassId} {A : Nat → Prop} (a1 : Int32) (a2 : Int32) (C : sa_C p s m args meth c cX12_leastOf RX12 "leastOf" 2 (some .int) D ad cA A) : sa_Sg p l e s m args below meth c 2 1 D ad cA A sa_eI 0 [(0, .int a1), (1, .int a2)] [] (f_X12_leastOf a1 a2) := by
  unfold f_X12_leastOf
  refine sa_iload_n C d_X12_leastOf_0 rfl 0 rfl ?_
  refine sa_bipush (v := 119) C d_X12_leastOf_1 (by decide) ?_
  refine sa_join1 27 (fun y1 => []) (fun y1 => [.int y1]) (fun y1 => ?_) (fun j27 hj27 => ?_)
  · exact sa_iret C d_X12_leastOf_27
  refine sa_join0 22 ([]) ([]) (?_) (fun j22 hj22 => ?_)
  · refine sa_iconst (v := 1) C d_X12_leastOf_22 (by decide) ?_
    refine sa_goto (tgt := 27) C d_X12_leastOf_23 (by decide) ?_
    exact sa_sub [] rfl (hj27 _)
  refine sa_join0 11 ([(0, .int a1), (1, .int a2)]) ([]) (?_) (fun j11 hj11 => ?_)
  · refine sa_iload_n C d_X12_leastOf_11 rfl 0 rfl ?_
    refine sa_bipush (v := 99) C d_X12_leastOf_12 (by decide) ?_
    refine sa_join0 26 ([]) ([]) (?_) (fun j26 hj26 => ?_)
    · refine sa_iconst (v := 0) C d_X12_leastOf_26 (by decide) ?_
      exact sa_sub [] rfl (hj27 _)
    refine sa_icmp_ne (tgt := 26) C d_X12_leastOf_14 (by decide) ?_ ?_
    · exact sa_sub [] rfl (hj26)
    refine sa_iload_n C d_X12_leastOf_17 rfl 1 rfl ?_
    refine sa_iconst (v := 1) C d_X12_leastOf_18 (by decide) ?_
    refine sa_icmp_ne (tgt := 26) C d_X12_leastOf_19 (by decide) ?_ ?_
    · exact sa_sub [] rfl (hj26)
    exact sa_sub [] rfl (hj22)
  refine sa_icmp_ne (tgt := 11) C d_X12_leastOf_3 (by decide) ?_ ?_
  · exact sa_sub [0, 1] rfl (hj11)
  refine sa_iload_n C d_X12_leastOf_6 rfl 1 rfl ?_
  refine sa_iconst (v := 2) C d_X12_leastOf_7 (by decide) ?_
  refine sa_icmp_eq (tgt := 22) C d_X12_leastOf_8 (by decide) ?_ ?_
  · exact sa_sub [] rfl (hj22)
  exact sa_sub [0, 1] rfl (hj11)
theorem k_X12_leastOf (a1 : Int32) (a2 : Int32) : sa_Met 1 yX12_leastOf cX12_leastOf 2 (some .int) (fun ad => [.int a1, .int a2]) sa_eI (f_X12_leastOf a1 a2) := sa_mk (by decide) (fun ad => Nat.le_of_ble_eq_true rfl) (fun p l e s m args below meth c D ad cA A C => b_X12_leastOf a1 a2 C)
theorem d_X12_usual_0 : decode cX12_usual 0 = .ok (.iload_n 0, 1) := by decide +kernel
theorem d_X12_usual_1 : decode cX12_usual 1 = .ok (.bipush 112, 2) := by decide +kernel
theorem d_X12_usual_3 : decode cX12_usual 3 = .ok (.if_icmp .ne 15, 3) := by decide +kernel
theorem d_X12_usual_6 : decode cX12_usual 6 = .ok (.iload_n 1, 1) := by decide +kernel
theorem d_X12_usual_7 : decode cX12_usual 7 = .ok (.iconst 2, 1) := by decide +kernel
theorem d_X12_usual_8 : decode cX12_usual 8 = .ok (.if_icmp .ne 8, 3) := by decide +kernel
theorem d_X12_usual_11 : decode cX12_usual 11 = .ok (.bipush 20, 2) := by decide +kernel
theorem d_X12_usual_13 : decode cX12_usual 13 = .ok (.goto 4, 3) := by decide +kernel
theorem d_X12_usual_16 : decode cX12_usual 16 = .ok (.iconst 0, 1) := by decide +kernel
theorem d_X12_usual_17 : decode cX12_usual 17 = .ok (.ireturn, 1) := by decide +kernel
theorem d_X12_usual_18 : decode cX12_usual 18 = .ok (.iload_n 0, 1) := by decide +kernel
theorem d_X12_usual_19 : decode cX12_usual 19 = .ok (.bipush 119, 2) := by decide +kernel
theorem d_X12_usual_21 : decode cX12_usual 21 = .ok (.if_icmp .ne 19, 3) := by decide +kernel
theorem d_X12_usual_24 : decode cX12_usual 24 = .ok (.iload_n 1, 1) := by decide +kernel
theorem d_X12_usual_25 : decode cX12_usual 25 = .ok (.iconst 1, 1) := by decide +kernel
theorem d_X12_usual_26 : decode cX12_usual 26 = .ok (.if_icmp .eq 8, 3) := by decide +kernel
theorem d_X12_usual_29 : decode cX12_usual 29 = .ok (.iload_n 1, 1) := by decide +kernel
theorem d_X12_usual_30 : decode cX12_usual 30 = .ok (.iconst 2, 1) := by decide +kernel
theorem d_X12_usual_31 : decode cX12_usual 31 = .ok (.if_icmp .ne 7, 3) := by decide +kernel
theorem d_X12_usual_34 : decode cX12_usual 34 = .ok (.iconst 1, 1) := by decide +kernel
theorem d_X12_usual_35 : decode cX12_usual 35 = .ok (.goto 4, 3) := by decide +kernel
theorem d_X12_usual_38 : decode cX12_usual 38 = .ok (.iconst 0, 1) := by decide +kernel
theorem d_X12_usual_39 : decode cX12_usual 39 = .ok (.ireturn, 1) := by decide +kernel
theorem d_X12_usual_40 : decode cX12_usual 40 = .ok (.iload_n 0, 1) := by decide +kernel
theorem d_X12_usual_41 : decode cX12_usual 41 = .ok (.bipush 102, 2) := by decide +kernel
theorem d_X12_usual_43 : decode cX12_usual 43 = .ok (.if_icmp .ne 13, 3) := by decide +kernel
theorem d_X12_usual_46 : decode cX12_usual 46 = .ok (.iload_n 1, 1) := by decide +kernel
theorem d_X12_usual_47 : decode cX12_usual 47 = .ok (.ifCond .ne 7, 3) := by decide +kernel
theorem d_X12_usual_50 : decode cX12_usual 50 = .ok (.iconst 0, 1) := by decide +kernel
theorem d_X12_usual_51 : decode cX12_usual 51 = .ok (.goto 4, 3) := by decide +kernel
theorem d_X12_usual_54 : decode cX12_usual 54 = .ok (.iconst 2, 1) := by decide +kernel
theorem d_X12_usual_55 : decode cX12_usual 55 = .ok (.ireturn, 1) := by decide +kernel
theorem d_X12_usual_56 : decode cX12_usual 56 = .ok (.iload_n 1, 1) := by decide +kernel
theorem d_X12_usual_57 : decode cX12_usual 57 = .ok (.iconst 1, 1) := by decide +kernel
theorem d_X12_usual_58 : decode cX12_usual 58 = .ok (.if_icmp .ne 8, 3) := by decide +kernel
theorem d_X12_usual_61 : decode cX12_usual 61 = .ok (.bipush 50, 2) := by decide +kernel
theorem d_X12_usual_63 : decode cX12_usual 63 = .ok (.goto 13, 3) := by decide +kernel
theorem d_X12_usual_66 : decode cX12_usual 66 = .ok (.iload_n 1, 1) := by decide +kernel
theorem d_X12_usual_67 : decode cX12_usual 67 = .ok (.iconst 2, 1) := by decide +kernel
theorem d_X12_usual_68 : decode cX12_usual 68 = .ok (.if_icmp .ne 7, 3) := by decide +kernel
theorem d_X12_usual_71 : decode cX12_usual 71 = .ok (.iconst 5, 1) := by decide +kernel
theorem d_X12_usual_72 : decode cX12_usual 72 = .ok (.goto 4, 3) := by decide +kernel
theorem d_X12_usual_75 : decode cX12_usual 75 = .ok (.iconst 0, 1) := by decide +kernel
theorem d_X12_usual_76 : decode cX12_usual 76 = .ok (.ireturn, 1) := by decide +kernel
def f_X12_usual (a1 : Int32) (a2 : Int32) : sa_M Int32 :=
if ¬ a1 = 112 then
if ¬ a1 = 119 then
if ¬ a1 = 102 then
sa_jn1 (fun (y1 : Int32) =>
sa_ret (y1 : Int32)) fun j76 =>
if ¬ a2 = 1 then
if ¬ a2 = 2 then
j76 0
else
j76 5
else
j76 50
else
sa_jn1 (fun (y2 : Int32) =>
sa_ret (y2 : Int32)) fun j55 =>
if ¬ a2 = 0 then
j55 2
else
j55 0
else
sa_jn1 (fun (y3 : Int32) =>
sa_ret (y3 : Int32)) fun j39 =>
sa_jn0 (j39 1) fun j34 =>
if a2 = 1 then
j34
else
if ¬ a2 = 2 then
j39 0
else
j34
else
sa_jn1 (fun (y4 : Int32) =>
sa_ret (y4 : Int32)) fun j17 =>
if ¬ a2 = 2 then
j17 0
else
j17 20
set_option maxHeartbeats 1000000 in
set_option maxRecDepth 10000 in
theorem b_X12_usual {p : Program} {l : Launch} {e : Env} {s : State} {m : MethodId} {args : Array Value} {below : List Frame} {meth : Method} {c : Code} {D : va_G} {ad : Nat → Nat} {cA : FieldType → ClassId} {A : Nat → Prop} (a1 : Int32) (a2 : Int32) (C : sa_C p s m args meth c cX12_usual RX12 "usual" 2 (some .int) D ad cA A) : sa_Sg p l e s m args below meth c 2 1 D ad cA A sa_eI 0 [(0, .int a1), (1, .int a2)] [] (f_X12_usual a1 a2) := by
  unfold f_X12_usual
  refine sa_iload_n C d_X12_usual_0 rfl 0 rfl ?_
  refine sa_bipush (v := 112) C d_X12_usual_1 (by decide) ?_
  refine sa_icmp_ne (tgt := 18) C d_X12_usual_3 (by decide) ?_ ?_
  · refine sa_iload_n C d_X12_usual_18 rfl 0 rfl ?_
    refine sa_bipush (v := 119) C d_X12_usual_19 (by decide) ?_
    refine sa_icmp_ne (tgt := 40) C d_X12_usual_21 (by decide) ?_ ?_
    · refine sa_iload_n C d_X12_usual_40 rfl 0 rfl ?_
      refine sa_bipush (v := 102) C d_X12_usual_41 (by decide) ?_
      refine sa_icmp_ne (tgt := 56) C d_X12_usual_43 (by decide) ?_ ?_
      · refine sa_iload_n C d_X12_usual_56 rfl 1 rfl ?_
        refine sa_iconst (v := 1) C d_X12_usual_57 (by decide) ?_
        refine sa_join1 76 (fun y1 => []) (fun y1 => [.int y1]) (fun y1 => ?_) (fun j76 hj76 => ?_)
        · exact sa_iret C d_X12_usual_76
        refine sa_icmp_ne (tgt := 66) C d_X12_usual_58 (by decide) ?_ ?_
        · refine sa_iload_n C d_X12_usual_66 rfl 1 rfl ?_
          refine sa_iconst (v := 2) C d_X12_usual_67 (by decide) ?_
          refine sa_icmp_ne (tgt := 75) C d_X12_usual_68 (by decide) ?_ ?_
          · refine sa_iconst (v := 0) C d_X12_usual_75 (by decide) ?_
            exact sa_sub [] rfl (hj76 _)
          refine sa_iconst (v := 5) C d_X12_usual_71 (by decide) ?_
          refine sa_goto (tgt := 76) C d_X12_usual_72 (by decide) ?_
          exact sa_sub [] rfl (hj76 _)
        refine sa_bipush (v := 50) C d_X12_usual_61 (by decide) ?_
        refine sa_goto (tgt := 76) C d_X12_usual_63 (by decide) ?_
        exact sa_sub [] rfl (hj76 _)
      refine sa_iload_n C d_X12_usual_46 rfl 1 rfl ?_
      refine sa_join1 55 (fun y2 => []) (fun y2 => [.int y2]) (fun y2 => ?_) (fun j55 hj55 => ?_)
      · exact sa_iret C d_X12_usual_55
      refine sa_if_ne (tgt := 54) C d_X12_usual_47 (by decide) ?_ ?_
      · refine sa_iconst (v := 2) C d_X12_usual_54 (by decide) ?_
        exact sa_sub [] rfl (hj55 _)
      refine sa_iconst (v := 0) C d_X12_usual_50 (by decide) ?_
      refine sa_goto (tgt := 55) C d_X12_usual_51 (by decide) ?_
      exact sa_sub [] rfl (hj55 _)
    refine sa_iload_n C d_X12_usual_24 rfl 1 rfl ?_
    refine sa_iconst (v := 1) C d_X12_usual_25 (by decide) ?_
    refine sa_join1 39 (fun y3 => []) (fun y3 => [.int y3]) (fun y3 => ?_) (fun j39 hj39 => ?_)
    · exact sa_iret C d_X12_usual_39
    refine sa_join0 34 ([]) ([]) (?_) (fun j34 hj34 => ?_)
    · refine sa_iconst (v := 1) C d_X12_usual_34 (by decide) ?_
      refine sa_goto (tgt := 39) C d_X12_usual_35 (by decide) ?_
      exact sa_sub [] rfl (hj39 _)
    refine sa_icmp_eq (tgt := 34) C d_X12_usual_26 (by decide) ?_ ?_
    · exact sa_sub [] rfl (hj34)
    refine sa_iload_n C d_X12_usual_29 rfl 1 rfl ?_
    refine sa_iconst (v := 2) C d_X12_usual_30 (by decide) ?_
    refine sa_icmp_ne (tgt := 38) C d_X12_usual_31 (by decide) ?_ ?_
    · refine sa_iconst (v := 0) C d_X12_usual_38 (by decide) ?_
      exact sa_sub [] rfl (hj39 _)
    exact sa_sub [] rfl (hj34)
  refine sa_iload_n C d_X12_usual_6 rfl 1 rfl ?_
  refine sa_iconst (v := 2) C d_X12_usual_7 (by decide) ?_
  refine sa_join1 17 (fun y4 => []) (fun y4 => [.int y4]) (fun y4 => ?_) (fun j17 hj17 => ?_)
  · exact sa_iret C d_X12_usual_17
  refine sa_icmp_ne (tgt := 16) C d_X12_usual_8 (by decide) ?_ ?_
  · refine sa_iconst (v := 0) C d_X12_usual_16 (by decide) ?_
    exact sa_sub [] rfl (hj17 _)
  refine sa_bipush (v := 20) C d_X12_usual_11 (by decide) ?_
  refine sa_goto (tgt := 17) C d_X12_usual_13 (by decide) ?_
  exact sa_sub [] rfl (hj17 _)
theorem k_X12_usual (a1 : Int32) (a2 : Int32) : sa_Met 1 yX12_usual cX12_usual 2 (some .int) (fun ad => [.int a1, .int a2]) sa_eI (f_X12_usual a1 a2) := sa_mk (by decide) (fun ad => Nat.le_of_ble_eq_true rfl) (fun p l e s m args below meth c D ad cA A C => b_X12_usual a1 a2 C)
theorem d_X12_readItems_0 : decode cX12_readItems 0 = .ok (.iconst 0, 1) := by decide +kernel
theorem d_X12_readItems_1 : decode cX12_readItems 1 = .ok (.istore 5, 2) := by decide +kernel
theorem d_X12_readItems_3 : decode cX12_readItems 3 = .ok (.iload 5, 2) := by decide +kernel
theorem d_X12_readItems_5 : decode cX12_readItems 5 = .ok (.aload 4, 2) := by decide +kernel
theorem d_X12_readItems_7 : decode cX12_readItems 7 = .ok (.invokevirtual 130, 3) := by decide +kernel
theorem d_X12_readItems_10 : decode cX12_readItems 10 = .ok (.if_icmp .ge 21, 3) := by decide +kernel
theorem d_X12_readItems_13 : decode cX12_readItems 13 = .ok (.aload_n 2, 1) := by decide +kernel
theorem d_X12_readItems_14 : decode cX12_readItems 14 = .ok (.iload_n 3, 1) := by decide +kernel
theorem d_X12_readItems_15 : decode cX12_readItems 15 = .ok (.iload 5, 2) := by decide +kernel
theorem d_X12_readItems_17 : decode cX12_readItems 17 = .ok (.iadd, 1) := by decide +kernel
theorem d_X12_readItems_18 : decode cX12_readItems 18 = .ok (.iload_n 1, 1) := by decide +kernel
theorem d_X12_readItems_19 : decode cX12_readItems 19 = .ok (.iload 5, 2) := by decide +kernel
theorem d_X12_readItems_21 : decode cX12_readItems 21 = .ok (.invokestatic 252, 3) := by decide +kernel
theorem d_X12_readItems_24 : decode cX12_readItems 24 = .ok (.iastore, 1) := by decide +kernel
theorem d_X12_readItems_25 : decode cX12_readItems 25 = .ok (.iinc 5 1, 3) := by decide +kernel
theorem d_X12_readItems_28 : decode cX12_readItems 28 = .ok (.goto (-25), 3) := by decide +kernel
theorem d_X12_readItems_31 : decode cX12_readItems 31 = .ok (.iconst 0, 1) := by decide +kernel
theorem d_X12_readItems_32 : decode cX12_readItems 32 = .ok (.istore 5, 2) := by decide +kernel
theorem d_X12_readItems_34 : decode cX12_readItems 34 = .ok (.aload 4, 2) := by decide +kernel
theorem d_X12_readItems_36 : decode cX12_readItems 36 = .ok (.aload_n 0, 1) := by decide +kernel
theorem d_X12_readItems_37 : decode cX12_readItems 37 = .ok (.invokevirtual 169, 3) := by decide +kernel
theorem d_X12_readItems_40 : decode cX12_readItems 40 = .ok (.invokestatic 256, 3) := by decide +kernel
theorem d_X12_readItems_43 : decode cX12_readItems 43 = .ok (.istore 6, 2) := by decide +kernel
theorem d_X12_readItems_45 : decode cX12_readItems 45 = .ok (.iload 6, 2) := by decide +kernel
theorem d_X12_readItems_47 : decode cX12_readItems 47 = .ok (.iconst (-1), 1) := by decide +kernel
theorem d_X12_readItems_48 : decode cX12_readItems 48 = .ok (.if_icmp .eq 79, 3) := by decide +kernel
theorem d_X12_readItems_51 : decode cX12_readItems 51 = .ok (.aload_n 0, 1) := by decide +kernel
theorem d_X12_readItems_52 : decode cX12_readItems 52 = .ok (.getfield 159, 3) := by decide +kernel
theorem d_X12_readItems_55 : decode cX12_readItems 55 = .ok (.iconst (-1), 1) := by decide +kernel
theorem d_X12_readItems_56 : decode cX12_readItems 56 = .ok (.if_icmp .ne 71, 3) := by decide +kernel
theorem d_X12_readItems_59 : decode cX12_readItems 59 = .ok (.iload 5, 2) := by decide +kernel
theorem d_X12_readItems_61 : decode cX12_readItems 61 = .ok (.iload 6, 2) := by decide +kernel
theorem d_X12_readItems_63 : decode cX12_readItems 63 = .ok (.invokestatic 260, 3) := by decide +kernel
theorem d_X12_readItems_66 : decode cX12_readItems 66 = .ok (.ifCond .eq 9, 3) := by decide +kernel
theorem d_X12_readItems_69 : decode cX12_readItems 69 = .ok (.aload_n 0, 1) := by decide +kernel
theorem d_X12_readItems_70 : decode cX12_readItems 70 = .ok (.invokevirtual 165, 3) := by decide +kernel
theorem d_X12_readItems_73 : decode cX12_readItems 73 = .ok (.pop, 1) := by decide +kernel
theorem d_X12_readItems_74 : decode cX12_readItems 74 = .ok (.return_, 1) := by decide +kernel
theorem d_X12_readItems_75 : decode cX12_readItems 75 = .ok (.iload 5, 2) := by decide +kernel
theorem d_X12_readItems_77 : decode cX12_readItems 77 = .ok (.iconst 1, 1) := by decide +kernel
theorem d_X12_readItems_78 : decode cX12_readItems 78 = .ok (.iload 6, 2) := by decide +kernel
theorem d_X12_readItems_80 : decode cX12_readItems 80 = .ok (.ishl, 1) := by decide +kernel
theorem d_X12_readItems_81 : decode cX12_readItems 81 = .ok (.ior, 1) := by decide +kernel
theorem d_X12_readItems_82 : decode cX12_readItems 82 = .ok (.istore 5, 2) := by decide +kernel
theorem d_X12_readItems_84 : decode cX12_readItems 84 = .ok (.aload_n 0, 1) := by decide +kernel
theorem d_X12_readItems_85 : decode cX12_readItems 85 = .ok (.aload_n 2, 1) := by decide +kernel
theorem d_X12_readItems_86 : decode cX12_readItems 86 = .ok (.iload_n 3, 1) := by decide +kernel
theorem d_X12_readItems_87 : decode cX12_readItems 87 = .ok (.iload 6, 2) := by decide +kernel
theorem d_X12_readItems_89 : decode cX12_readItems 89 = .ok (.iadd, 1) := by decide +kernel
theorem d_X12_readItems_90 : decode cX12_readItems 90 = .ok (.iload_n 1, 1) := by decide +kernel
theorem d_X12_readItems_91 : decode cX12_readItems 91 = .ok (.iload 6, 2) := by decide +kernel
theorem d_X12_readItems_93 : decode cX12_readItems 93 = .ok (.invokestatic 264, 3) := by decide +kernel
theorem d_X12_readItems_96 : decode cX12_readItems 96 = .ok (.iload_n 1, 1) := by decide +kernel
theorem d_X12_readItems_97 : decode cX12_readItems 97 = .ok (.iload 6, 2) := by decide +kernel
theorem d_X12_readItems_99 : decode cX12_readItems 99 = .ok (.invokestatic 267, 3) := by decide +kernel
theorem d_X12_readItems_102 : decode cX12_readItems 102 = .ok (.invokevirtual 270, 3) := by decide +kernel
theorem d_X12_readItems_105 : decode cX12_readItems 105 = .ok (.aload_n 0, 1) := by decide +kernel
theorem d_X12_readItems_106 : decode cX12_readItems 106 = .ok (.getfield 159, 3) := by decide +kernel
theorem d_X12_readItems_109 : decode cX12_readItems 109 = .ok (.iconst (-1), 1) := by decide +kernel
theorem d_X12_readItems_110 : decode cX12_readItems 110 = .ok (.if_icmp .ne (-65), 3) := by decide +kernel
theorem d_X12_readItems_113 : decode cX12_readItems 113 = .ok (.aload 4, 2) := by decide +kernel
theorem d_X12_readItems_115 : decode cX12_readItems 115 = .ok (.aload_n 0, 1) := by decide +kernel
theorem d_X12_readItems_116 : decode cX12_readItems 116 = .ok (.invokevirtual 169, 3) := by decide +kernel
theorem d_X12_readItems_119 : decode cX12_readItems 119 = .ok (.invokestatic 256, 3) := by decide +kernel
theorem d_X12_readItems_122 : decode cX12_readItems 122 = .ok (.istore 6, 2) := by decide +kernel
theorem d_X12_readItems_124 : decode cX12_readItems 124 = .ok (.goto (-79), 3) := by decide +kernel
theorem d_X12_readItems_127 : decode cX12_readItems 127 = .ok (.return_, 1) := by decide +kernel
def f_X12_readItems (this : Nat) (a1 : Int32) (a2 : Nat) (a3 : Int32) (a4 : Nat) : sa_M Unit :=
sa_gd 12 this (
sa_let (0 : Int32) fun x1 =>
sa_wh1 (fun j3 (x2 : Int32) =>
sa_bnd (f_J0_length_8abf5 a4) fun v3 =>
if v3 ≤ x2 then
sa_let (0 : Int32) fun x4 =>
sa_bnd (f_X12_look this) fun v5 =>
sa_bnd (f_X12_placeOf a4 v5) fun v6 =>
sa_wh2 (fun j45 (x7 : Int32) (x8 : Int32) =>
sa_jn0 (sa_ret ()) fun j127 =>
if x8 = (-1) then
j127
else
sa_bnd (sa_rdI 12 this 11) fun v9 =>
if ¬ v9 = (-1) then
j127
else
sa_bnd (f_X12_has x7 x8) fun v10 =>
if v10 = 0 then
sa_let ((x7 ||| (1 <<< (x8 &&& 31))) : Int32) fun x11 =>
sa_bnd (f_X12_leastOf a1 x8) fun v12 =>
sa_bnd (f_X12_mostOf a1 x8) fun v13 =>
sa_bnd (f_X12_readItem this a2 (a3 + x8) v12 v13) fun _ =>
sa_bnd (sa_rdI 12 this 11) fun v14 =>
if ¬ v14 = (-1) then
j45 x11 x8
else
sa_bnd (f_X12_look this) fun v15 =>
sa_bnd (f_X12_placeOf a4 v15) fun v16 =>
j45 x11 v16
else
sa_bnd (f_X12_fails this) fun v17 =>
sa_ret ()) sa_F x4 v6
else
sa_bnd (f_X12_usual a1 x2) fun v18 =>
sa_bnd (sa_stI a2 (a3 + x2) v18) fun _ =>
sa_let ((x2 + 1) : Int32) fun x19 =>
j3 x19) sa_F x1)
set_option maxHeartbeats 1000000 in
set_option maxRecDepth 10000 in
theorem b_X12_readItems {p : Program} {l : Launch} {e : Env} {s : State} {m : MethodId} {args : Array Value} {below : List Frame} {meth : Method} {c : Code} {D : va_G} {ad : Nat → Nat} {cA : FieldType → ClassId} {A : Nat → Prop} (this : Nat) (a1 : Int32) (a2 : Nat) (a3 : Int32) (a4 : Nat) (C : sa_C p s m args meth c cX12_readItems RX12 "readItems" 7 none D ad cA A) : sa_Sg p l e s m args below meth c 7 6 D ad cA A sa_eV 0 [(0, .ref (ad this)), (1, .int a1), (2, .ref (ad a2)), (3, .int a3), (4, .ref (ad a4))] [] (f_X12_readItems this a1 a2 a3 a4) := by
  unfold f_X12_readItems
  refine sa_gdI ?_
  refine sa_iconst (v := 0) C d_X12_readItems_0 (by decide) ?_
  refine sa_topi (fun x1 => ?_)
  refine sa_istore (lv' := [(5, .int x1), (0, .ref (ad this)), (1, .int a1), (2, .ref (ad a2)), (3, .int a3), (4, .ref (ad a4))]) C d_X12_readItems_1 (by decide) rfl ?_
  refine sa_sub [1, 2, 3, 4, 5, 0] rfl (sa_loop1 (fun x2 => [(0, .ref (ad this)), (1, .int a1), (2, .ref (ad a2)), (3, .int a3), (4, .ref (ad a4)), (5, .int x2)]) (fun x2 => []) (fun j3 hj3 x2 => ?_) _ _)
  refine sa_iload C d_X12_readItems_3 5 rfl ?_
  refine sa_aload C d_X12_readItems_5 4 rfl ?_
  refine sa_invK C (k_J0_length_8abf5 a4) q203 ds_J0_length_8abf5 q118 rfl q201 q202 q1663 (gd_J0_length_8abf5 a4) rfl rfl rfl (Nat.le_of_ble_eq_true rfl) (by decide) (by decide) d_X12_readItems_7 (fun v3 => ?_)
  refine sa_icmp_ge (tgt := 31) C d_X12_readItems_10 (by decide) ?_ ?_
  · refine sa_iconst (v := 0) C d_X12_readItems_31 (by decide) ?_
    refine sa_topi (fun x4 => ?_)
    refine sa_istore (lv' := [(5, .int x4), (0, .ref (ad this)), (1, .int a1), (2, .ref (ad a2)), (3, .int a3), (4, .ref (ad a4))]) C d_X12_readItems_32 (by decide) rfl ?_
    refine sa_aload C d_X12_readItems_34 5 rfl ?_
    refine sa_aload_n C d_X12_readItems_36 rfl 1 rfl ?_
    refine sa_invV (ci := 12) C (k_X12_look this) q1653 ds_X12_look q128 rfl q1652 q49 q1650 (gd_X12_look this) rfl rfl rfl (Nat.le_of_ble_eq_true rfl) (by decide) (by decide) d_X12_readItems_37 (fun v5 => ?_)
    refine sa_invS C (k_X12_placeOf a4 v5) q1669 ds_X12_placeOf q128 q1668 q1667 rfl rfl rfl (Nat.le_of_ble_eq_true rfl) (by decide) (by decide) d_X12_readItems_40 (fun v6 => ?_)
    refine sa_istore (lv' := [(6, .int v6), (5, .int x4), (0, .ref (ad this)), (1, .int a1), (2, .ref (ad a2)), (3, .int a3), (4, .ref (ad a4))]) C d_X12_readItems_43 (by decide) rfl ?_
    refine sa_sub [2, 3, 4, 5, 6, 1, 0] rfl (sa_loop2 (fun x7 x8 => [(0, .ref (ad this)), (1, .int a1), (2, .ref (ad a2)), (3, .int a3), (4, .ref (ad a4)), (5, .int x7), (6, .int x8)]) (fun x7 x8 => []) (fun j45 hj45 x7 x8 => ?_) _ _ _)
    refine sa_iload C d_X12_readItems_45 6 rfl ?_
    refine sa_iconst (v := (-1)) C d_X12_readItems_47 (by decide) ?_
    refine sa_join0 127 ([]) ([]) (?_) (fun j127 hj127 => ?_)
    · exact sa_vret C d_X12_readItems_127
    refine sa_icmp_eq (tgt := 127) C d_X12_readItems_48 (by decide) ?_ ?_
    · exact sa_sub [] rfl (hj127)
    refine sa_aload_n C d_X12_readItems_51 rfl 0 rfl ?_
    refine sa_getI C fd_X12_159 d_X12_readItems_52 (fun v9 => ?_)
    refine sa_iconst (v := (-1)) C d_X12_readItems_55 (by decide) ?_
    refine sa_icmp_ne (tgt := 127) C d_X12_readItems_56 (by decide) ?_ ?_
    · exact sa_sub [] rfl (hj127)
    refine sa_iload C d_X12_readItems_59 5 rfl ?_
    refine sa_iload C d_X12_readItems_61 6 rfl ?_
    refine sa_invS C (k_X12_has x7 x8) q1673 ds_X12_has q128 q1672 q1671 rfl rfl rfl (Nat.le_of_ble_eq_true rfl) (by decide) (by decide) d_X12_readItems_63 (fun v10 => ?_)
    refine sa_if_eq (tgt := 75) C d_X12_readItems_66 (by decide) ?_ ?_
    · refine sa_iload C d_X12_readItems_75 5 rfl ?_
      refine sa_iconst (v := 1) C d_X12_readItems_77 (by decide) ?_
      refine sa_iload C d_X12_readItems_78 6 rfl ?_
      refine sa_ishl C d_X12_readItems_80 ?_
      refine sa_ior C d_X12_readItems_81 ?_
      refine sa_topi (fun x11 => ?_)
      refine sa_istore (lv' := [(5, .int x11), (0, .ref (ad this)), (1, .int a1), (2, .ref (ad a2)), (3, .int a3), (4, .ref (ad a4)), (6, .int x8)]) C d_X12_readItems_82 (by decide) rfl ?_
      refine sa_aload_n C d_X12_readItems_84 rfl 1 rfl ?_
      refine sa_aload_n C d_X12_readItems_85 rfl 3 rfl ?_
      refine sa_iload_n C d_X12_readItems_86 rfl 4 rfl ?_
      refine sa_iload C d_X12_readItems_87 6 rfl ?_
      refine sa_iadd C d_X12_readItems_89 ?_
      refine sa_iload_n C d_X12_readItems_90 rfl 2 rfl ?_
      refine sa_iload C d_X12_readItems_91 6 rfl ?_
      refine sa_invS C (k_X12_leastOf a1 x8) q1676 ds_X12_leastOf q128 q1675 q1674 rfl rfl rfl (Nat.le_of_ble_eq_true rfl) (by decide) (by decide) d_X12_readItems_93 (fun v12 => ?_)
      refine sa_iload_n C d_X12_readItems_96 rfl 2 rfl ?_
      refine sa_iload C d_X12_readItems_97 6 rfl ?_
      refine sa_invS C (k_X12_mostOf a1 x8) q1679 ds_X12_mostOf q128 q1678 q1677 rfl rfl rfl (Nat.le_of_ble_eq_true rfl) (by decide) (by decide) d_X12_readItems_99 (fun v13 => ?_)
      refine sa_invV (ci := 12) C (k_X12_readItem this a2 (a3 + x8) v12 v13) q1683 ds_X12_readItem q128 rfl q1682 q52 q1680 (gd_X12_readItem this a2 (a3 + x8) v12 v13) rfl rfl rfl (Nat.le_of_ble_eq_true rfl) (by decide) (by decide) d_X12_readItems_102 (fun _ => ?_)
      refine sa_aload_n C d_X12_readItems_105 rfl 1 rfl ?_
      refine sa_getI C fd_X12_159 d_X12_readItems_106 (fun v14 => ?_)
      refine sa_iconst (v := (-1)) C d_X12_readItems_109 (by decide) ?_
      refine sa_icmp_ne (tgt := 45) C d_X12_readItems_110 (by decide) ?_ ?_
      · exact sa_sub [1, 2, 3, 4, 5, 0, 6] rfl (hj45 _ _)
      refine sa_aload C d_X12_readItems_113 5 rfl ?_
      refine sa_aload_n C d_X12_readItems_115 rfl 1 rfl ?_
      refine sa_invV (ci := 12) C (k_X12_look this) q1653 ds_X12_look q128 rfl q1652 q49 q1650 (gd_X12_look this) rfl rfl rfl (Nat.le_of_ble_eq_true rfl) (by decide) (by decide) d_X12_readItems_116 (fun v15 => ?_)
      refine sa_invS C (k_X12_placeOf a4 v15) q1669 ds_X12_placeOf q128 q1668 q1667 rfl rfl rfl (Nat.le_of_ble_eq_true rfl) (by decide) (by decide) d_X12_readItems_119 (fun v16 => ?_)
      refine sa_istore (lv' := [(6, .int v16), (5, .int x11), (0, .ref (ad this)), (1, .int a1), (2, .ref (ad a2)), (3, .int a3), (4, .ref (ad a4))]) C d_X12_readItems_122 (by decide) rfl ?_
      refine sa_goto (tgt := 45) C d_X12_readItems_124 (by decide) ?_
      exact sa_sub [2, 3, 4, 5, 6, 1, 0] rfl (hj45 _ _)
    refine sa_aload_n C d_X12_readItems_69 rfl 0 rfl ?_
    refine sa_invV (ci := 12) C (k_X12_fails this) q1657 ds_X12_fails q128 rfl q1656 q50 q1654 (gd_X12_fails this) rfl rfl rfl (Nat.le_of_ble_eq_true rfl) (by decide) (by decide) d_X12_readItems_70 (fun v17 => ?_)
    refine sa_pop C d_X12_readItems_73 rfl ?_
    exact sa_vret C d_X12_readItems_74
  refine sa_aload_n C d_X12_readItems_13 rfl 2 rfl ?_
  refine sa_iload_n C d_X12_readItems_14 rfl 3 rfl ?_
  refine sa_iload C d_X12_readItems_15 5 rfl ?_
  refine sa_iadd C d_X12_readItems_17 ?_
  refine sa_iload_n C d_X12_readItems_18 rfl 1 rfl ?_
  refine sa_iload C d_X12_readItems_19 5 rfl ?_
  refine sa_invS C (k_X12_usual a1 x2) q1666 ds_X12_usual q128 q1665 q1664 rfl rfl rfl (Nat.le_of_ble_eq_true rfl) (by decide) (by decide) d_X12_readItems_21 (fun v18 => ?_)
  refine sa_iast C d_X12_readItems_24 ?_
  refine sa_iinc C (fun zz => [(5, .int zz), (0, .ref (ad this)), (1, .int a1), (2, .ref (ad a2)), (3, .int a3), (4, .ref (ad a4))]) d_X12_readItems_25 5 rfl rfl (by decide) (fun _ => rfl) (fun x19 => ?_)
  refine sa_goto (tgt := 3) C d_X12_readItems_28 (by decide) ?_
  exact sa_sub [1, 2, 3, 4, 5, 0] rfl (hj3 _)
theorem k_X12_readItems (this : Nat) (a1 : Int32) (a2 : Nat) (a3 : Int32) (a4 : Nat) : sa_Met 6 yX12_readItems cX12_readItems 7 none (fun ad => [.ref (ad this), .int a1, .ref (ad a2), .int a3, .ref (ad a4)]) sa_eV (f_X12_readItems this a1 a2 a3 a4) := sa_mk (by decide) (fun ad => Nat.le_of_ble_eq_true rfl) (fun p l e s m args below meth c D ad cA A C => b_X12_readItems this a1 a2 a3 a4 C)
theorem gd_X12_readItems (this : Nat) (a1 : Int32) (a2 : Nat) (a3 : Int32) (a4 : Nat) (σ : sa_St) (r : Unit) (τ : sa_St) (h : f_X12_readItems this a1 a2 a3 a4 σ = some (r, τ)) : sa_sh this = some (.inl 12) := sa_gd_ok h
