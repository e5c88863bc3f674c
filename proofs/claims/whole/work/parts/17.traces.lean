theorem d_X8_tell_0 : decode cX8_tell 0 = .ok (.iload_n 2, 1) := by decide +kernel
theorem d_X8_tell_1 : decode cX8_tell 1 = .ok (.ifCond .lt 18, 3) := by decide +kernel
theorem d_X8_tell_4 : decode cX8_tell 4 = .ok (.iload_n 2, 1) := by decide +kernel
theorem d_X8_tell_5 : decode cX8_tell 5 = .ok (.bipush 99, 2) := by decide +kernel
theorem d_X8_tell_7 : decode cX8_tell 7 = .ok (.if_icmp .gt 12, 3) := by decide +kernel
theorem d_X8_tell_10 : decode cX8_tell 10 = .ok (.aload_n 0, 1) := by decide +kernel
theorem d_X8_tell_11 : decode cX8_tell 11 = .ok (.getfield 24, 3) := by decide +kernel
theorem d_X8_tell_14 : decode cX8_tell 14 = .ok (.bipush 8, 2) := by decide +kernel
theorem d_X8_tell_16 : decode cX8_tell 16 = .ok (.if_icmp .lt 5, 3) := by decide +kernel
theorem d_X8_tell_19 : decode cX8_tell 19 = .ok (.iconst (-1), 1) := by decide +kernel
theorem d_X8_tell_20 : decode cX8_tell 20 = .ok (.ireturn, 1) := by decide +kernel
theorem d_X8_tell_21 : decode cX8_tell 21 = .ok (.aload_n 0, 1) := by decide +kernel
theorem d_X8_tell_22 : decode cX8_tell 22 = .ok (.getfield 11, 3) := by decide +kernel
theorem d_X8_tell_25 : decode cX8_tell 25 = .ok (.aload_n 0, 1) := by decide +kernel
theorem d_X8_tell_26 : decode cX8_tell 26 = .ok (.getfield 24, 3) := by decide +kernel
theorem d_X8_tell_29 : decode cX8_tell 29 = .ok (.iload_n 1, 1) := by decide +kernel
theorem d_X8_tell_30 : decode cX8_tell 30 = .ok (.iastore, 1) := by decide +kernel
theorem d_X8_tell_31 : decode cX8_tell 31 = .ok (.aload_n 0, 1) := by decide +kernel
theorem d_X8_tell_32 : decode cX8_tell 32 = .ok (.getfield 15, 3) := by decide +kernel
theorem d_X8_tell_35 : decode cX8_tell 35 = .ok (.aload_n 0, 1) := by decide +kernel
theorem d_X8_tell_36 : decode cX8_tell 36 = .ok (.getfield 24, 3) := by decide +kernel
theorem d_X8_tell_39 : decode cX8_tell 39 = .ok (.iload_n 2, 1) := by decide +kernel
theorem d_X8_tell_40 : decode cX8_tell 40 = .ok (.iastore, 1) := by decide +kernel
theorem d_X8_tell_41 : decode cX8_tell 41 = .ok (.aload_n 0, 1) := by decide +kernel
theorem d_X8_tell_42 : decode cX8_tell 42 = .ok (.dup, 1) := by decide +kernel
theorem d_X8_tell_43 : decode cX8_tell 43 = .ok (.getfield 24, 3) := by decide +kernel
theorem d_X8_tell_46 : decode cX8_tell 46 = .ok (.iconst 1, 1) := by decide +kernel
theorem d_X8_tell_47 : decode cX8_tell 47 = .ok (.iadd, 1) := by decide +kernel
theorem d_X8_tell_48 : decode cX8_tell 48 = .ok (.putfield 24, 3) := by decide +kernel
theorem d_X8_tell_51 : decode cX8_tell 51 = .ok (.aload_n 0, 1) := by decide +kernel
theorem d_X8_tell_52 : decode cX8_tell 52 = .ok (.getfield 24, 3) := by decide +kernel
theorem d_X8_tell_55 : decode cX8_tell 55 = .ok (.ireturn, 1) := by decide +kernel
def f_X8_tell (this : Nat) (a1 : Int32) (a2 : Int32) : sa_M Int32 :=
sa_gd 8 this (
sa_jn0 (sa_ret ((-1) : Int32)) fun j19 =>
if a2 < 0 then
j19
else
if 99 < a2 then
j19
else
sa_bnd (sa_rdI 8 this 2) fun v1 =>
if v1 < 8 then
sa_bnd (sa_rdR 8 this 0) fun v2 =>
sa_bnd (sa_rdI 8 this 2) fun v3 =>
sa_bnd (sa_stI v2 v3 a1) fun _ =>
sa_bnd (sa_rdR 8 this 1) fun v4 =>
sa_bnd (sa_rdI 8 this 2) fun v5 =>
sa_bnd (sa_stI v4 v5 a2) fun _ =>
sa_bnd (sa_rdI 8 this 2) fun v6 =>
sa_bnd (sa_wrI 8 this 2 (v6 + 1)) fun _ =>
sa_bnd (sa_rdI 8 this 2) fun v7 =>
sa_ret (v7 : Int32)
else
j19)
set_option maxHeartbeats 1000000 in
set_option maxRecDepth 10000 in
theorem b_X8_tell {p : Program} {l : Launch} {e : Env} {s : State} {m : MethodId} {args : Array Value} {below : List Frame} {meth : Method} {c : Code} {D : va_G} {ad : Nat → Nat} {cA : FieldType → ClassId} {A : Nat → Prop} (this : Nat) (a1 : Int32) (a2 : Int32) (C : sa_C p s m args meth c cX8_tell RX8 "tell" 3 (some .int) D ad cA A) : sa_Sg p l e s m args below meth c 3 1 D ad cA A sa_eI 0 [(0, .ref (ad this)), (1, .int a1), (2, .int a2)] [] (f_X8_tell this a1 a2) := by
  unfold f_X8_tell
  refine sa_gdI ?_
  refine sa_iload_n C d_X8_tell_0 rfl 2 rfl ?_
  refine sa_join0 19 ([]) ([]) (?_) (fun j19 hj19 => ?_)
  · refine sa_iconst (v := (-1)) C d_X8_tell_19 (by decide) ?_
    exact sa_iret C d_X8_tell_20
  refine sa_if_lt (tgt := 19) C d_X8_tell_1 (by decide) ?_ ?_
  · exact sa_sub [] rfl (hj19)
  refine sa_iload_n C d_X8_tell_4 rfl 2 rfl ?_
  refine sa_bipush (v := 99) C d_X8_tell_5 (by decide) ?_
  refine sa_icmp_gt (tgt := 19) C d_X8_tell_7 (by decide) ?_ ?_
  · exact sa_sub [] rfl (hj19)
  refine sa_aload_n C d_X8_tell_10 rfl 0 rfl ?_
  refine sa_getI C fd_X8_24 d_X8_tell_11 (fun v1 => ?_)
  refine sa_bipush (v := 8) C d_X8_tell_14 (by decide) ?_
  refine sa_icmp_lt (tgt := 21) C d_X8_tell_16 (by decide) ?_ ?_
  · refine sa_aload_n C d_X8_tell_21 rfl 0 rfl ?_
    refine sa_getR C fd_X8_11 rfl d_X8_tell_22 (fun v2 => ?_)
    refine sa_aload_n C d_X8_tell_25 rfl 0 rfl ?_
    refine sa_getI C fd_X8_24 d_X8_tell_26 (fun v3 => ?_)
    refine sa_iload_n C d_X8_tell_29 rfl 1 rfl ?_
    refine sa_iast C d_X8_tell_30 ?_
    refine sa_aload_n C d_X8_tell_31 rfl 0 rfl ?_
    refine sa_getR C fd_X8_15 rfl d_X8_tell_32 (fun v4 => ?_)
    refine sa_aload_n C d_X8_tell_35 rfl 0 rfl ?_
    refine sa_getI C fd_X8_24 d_X8_tell_36 (fun v5 => ?_)
    refine sa_iload_n C d_X8_tell_39 rfl 2 rfl ?_
    refine sa_iast C d_X8_tell_40 ?_
    refine sa_aload_n C d_X8_tell_41 rfl 0 rfl ?_
    refine sa_dup C d_X8_tell_42 rfl ?_
    refine sa_getI C fd_X8_24 d_X8_tell_43 (fun v6 => ?_)
    refine sa_iconst (v := 1) C d_X8_tell_46 (by decide) ?_
    refine sa_iadd C d_X8_tell_47 ?_
    refine sa_putI C fd_X8_24 d_X8_tell_48 ?_
    refine sa_aload_n C d_X8_tell_51 rfl 0 rfl ?_
    refine sa_getI C fd_X8_24 d_X8_tell_52 (fun v7 => ?_)
    exact sa_iret C d_X8_tell_55
  exact sa_sub [] rfl (hj19)
theorem k_X8_tell (this : Nat) (a1 : Int32) (a2 : Int32) : sa_Met 1 yX8_tell cX8_tell 3 (some .int) (fun ad => [.ref (ad this), .int a1, .int a2]) sa_eI (f_X8_tell this a1 a2) := sa_mk (by decide) (fun ad => Nat.le_of_ble_eq_true rfl) (fun p l e s m args below meth c D ad cA A C => b_X8_tell this a1 a2 C)
theorem gd_X8_tell (this : Nat) (a1 : Int32) (a2 : Int32) (σ : sa_St) (r : Int32) (τ : sa_St) (h : f_X8_tell this a1 a2 σ = some (r, τ)) : sa_sh this = some (.inl 8) := sa_gd_ok h
theorem d_X8_isClearBeside_0 : decode cX8_isClearBeside 0 = .ok (.iconst 0, 1) := by decide +kernel
theorem d_X8_isClearBeside_1 : decode cX8_isClearBeside 1 = .ok (.istore_n 3, 1) := by decide +kernel
theorem d_X8_isClearBeside_2 : decode cX8_isClearBeside 2 = .ok (.iconst 1, 1) := by decide +kernel
theorem d_X8_isClearBeside_3 : decode cX8_isClearBeside 3 = .ok (.istore 4, 2) := by decide +kernel
theorem d_X8_isClearBeside_5 : decode cX8_isClearBeside 5 = .ok (.iload 4, 2) := by decide +kernel
theorem d_X8_isClearBeside_7 : decode cX8_isClearBeside 7 = .ok (.aload_n 1, 1) := by decide +kernel
theorem d_X8_isClearBeside_8 : decode cX8_isClearBeside 8 = .ok (.iload_n 2, 1) := by decide +kernel
theorem d_X8_isClearBeside_9 : decode cX8_isClearBeside 9 = .ok (.invokevirtual 40, 3) := by decide +kernel
theorem d_X8_isClearBeside_12 : decode cX8_isClearBeside 12 = .ok (.if_icmp .ge 21, 3) := by decide +kernel
theorem d_X8_isClearBeside_15 : decode cX8_isClearBeside 15 = .ok (.iload_n 3, 1) := by decide +kernel
theorem d_X8_isClearBeside_16 : decode cX8_isClearBeside 16 = .ok (.iconst 1, 1) := by decide +kernel
theorem d_X8_isClearBeside_17 : decode cX8_isClearBeside 17 = .ok (.aload_n 1, 1) := by decide +kernel
theorem d_X8_isClearBeside_18 : decode cX8_isClearBeside 18 = .ok (.iload_n 2, 1) := by decide +kernel
theorem d_X8_isClearBeside_19 : decode cX8_isClearBeside 19 = .ok (.iload 4, 2) := by decide +kernel
theorem d_X8_isClearBeside_21 : decode cX8_isClearBeside 21 = .ok (.invokevirtual 44, 3) := by decide +kernel
theorem d_X8_isClearBeside_24 : decode cX8_isClearBeside 24 = .ok (.ishl, 1) := by decide +kernel
theorem d_X8_isClearBeside_25 : decode cX8_isClearBeside 25 = .ok (.ior, 1) := by decide +kernel
theorem d_X8_isClearBeside_26 : decode cX8_isClearBeside 26 = .ok (.istore_n 3, 1) := by decide +kernel
theorem d_X8_isClearBeside_27 : decode cX8_isClearBeside 27 = .ok (.iinc 4 1, 3) := by decide +kernel
theorem d_X8_isClearBeside_30 : decode cX8_isClearBeside 30 = .ok (.goto (-25), 3) := by decide +kernel
theorem d_X8_isClearBeside_33 : decode cX8_isClearBeside 33 = .ok (.iconst 0, 1) := by decide +kernel
theorem d_X8_isClearBeside_34 : decode cX8_isClearBeside 34 = .ok (.istore 4, 2) := by decide +kernel
theorem d_X8_isClearBeside_36 : decode cX8_isClearBeside 36 = .ok (.iload 4, 2) := by decide +kernel
theorem d_X8_isClearBeside_38 : decode cX8_isClearBeside 38 = .ok (.aload_n 0, 1) := by decide +kernel
theorem d_X8_isClearBeside_39 : decode cX8_isClearBeside 39 = .ok (.getfield 24, 3) := by decide +kernel
theorem d_X8_isClearBeside_42 : decode cX8_isClearBeside 42 = .ok (.if_icmp .ge 35, 3) := by decide +kernel
theorem d_X8_isClearBeside_45 : decode cX8_isClearBeside 45 = .ok (.iload_n 3, 1) := by decide +kernel
theorem d_X8_isClearBeside_46 : decode cX8_isClearBeside 46 = .ok (.aload_n 0, 1) := by decide +kernel
theorem d_X8_isClearBeside_47 : decode cX8_isClearBeside 47 = .ok (.getfield 11, 3) := by decide +kernel
theorem d_X8_isClearBeside_50 : decode cX8_isClearBeside 50 = .ok (.iload 4, 2) := by decide +kernel
theorem d_X8_isClearBeside_52 : decode cX8_isClearBeside 52 = .ok (.iaload, 1) := by decide +kernel
theorem d_X8_isClearBeside_53 : decode cX8_isClearBeside 53 = .ok (.ishr, 1) := by decide +kernel
theorem d_X8_isClearBeside_54 : decode cX8_isClearBeside 54 = .ok (.iconst 1, 1) := by decide +kernel
theorem d_X8_isClearBeside_55 : decode cX8_isClearBeside 55 = .ok (.iand, 1) := by decide +kernel
theorem d_X8_isClearBeside_56 : decode cX8_isClearBeside 56 = .ok (.ifCond .ne 15, 3) := by decide +kernel
theorem d_X8_isClearBeside_59 : decode cX8_isClearBeside 59 = .ok (.aload_n 0, 1) := by decide +kernel
theorem d_X8_isClearBeside_60 : decode cX8_isClearBeside 60 = .ok (.getfield 15, 3) := by decide +kernel
theorem d_X8_isClearBeside_63 : decode cX8_isClearBeside 63 = .ok (.iload 4, 2) := by decide +kernel
theorem d_X8_isClearBeside_65 : decode cX8_isClearBeside 65 = .ok (.iaload, 1) := by decide +kernel
theorem d_X8_isClearBeside_66 : decode cX8_isClearBeside 66 = .ok (.ifCond .eq 5, 3) := by decide +kernel
theorem d_X8_isClearBeside_69 : decode cX8_isClearBeside 69 = .ok (.iconst 0, 1) := by decide +kernel
theorem d_X8_isClearBeside_70 : decode cX8_isClearBeside 70 = .ok (.ireturn, 1) := by decide +kernel
theorem d_X8_isClearBeside_71 : decode cX8_isClearBeside 71 = .ok (.iinc 4 1, 3) := by decide +kernel
theorem d_X8_isClearBeside_74 : decode cX8_isClearBeside 74 = .ok (.goto (-38), 3) := by decide +kernel
theorem d_X8_isClearBeside_77 : decode cX8_isClearBeside 77 = .ok (.iconst 1, 1) := by decide +kernel
theorem d_X8_isClearBeside_78 : decode cX8_isClearBeside 78 = .ok (.ireturn, 1) := by decide +kernel
def f_X8_isClearBeside (this : Nat) (a1 : Nat) (a2 : Int32) : sa_M Int32 :=
sa_gd 8 this (
sa_let (0 : Int32) fun x1 =>
sa_let (1 : Int32) fun x2 =>
sa_wh2 (fun j5 (x3 : Int32) (x4 : Int32) =>
sa_bnd (f_X9_placesOf a1 a2) fun v5 =>
if v5 ≤ x4 then
sa_let (0 : Int32) fun x6 =>
sa_wh1 (fun j36 (x7 : Int32) =>
sa_bnd (sa_rdI 8 this 2) fun v8 =>
if v8 ≤ x7 then
sa_retZ 1
else
sa_bnd (sa_rdR 8 this 0) fun v9 =>
sa_bnd (sa_ldI .int v9 x7) fun v10 =>
sa_jn0 (sa_let ((x7 + 1) : Int32) fun x11 =>
j36 x11) fun j71 =>
if ¬ ((x3 >>> (v10 &&& 31)) &&& 1) = 0 then
j71
else
sa_bnd (sa_rdR 8 this 1) fun v12 =>
sa_bnd (sa_ldI .int v12 x7) fun v13 =>
if v13 = 0 then
j71
else
sa_retZ 0) sa_F x6
else
sa_bnd (f_X9_placeOf a1 a2 x4) fun v14 =>
sa_let ((x3 ||| (1 <<< (v14 &&& 31))) : Int32) fun x15 =>
sa_let ((x4 + 1) : Int32) fun x16 =>
j5 x15 x16) sa_F x1 x2)
set_option maxHeartbeats 1000000 in
set_option maxRecDepth 10000 in
theorem b_X8_isClearBeside {p : Program} {l : Launch} {e : Env} {s : State} {m : MethodId} {args : Array Value} {below : List Frame} {meth : Method} {c : Code} {D : va_G} {ad : Nat → Nat} {cA : FieldType → ClassId} {A : Nat → Prop} (this : Nat) (a1 : Nat) (a2 : Int32) (C : sa_C p s m args meth c cX8_isClearBeside RX8 "isClearBeside" 5 (some .boolean) D ad cA A) : sa_Sg p l e s m args below meth c 5 2 D ad cA A sa_eI 0 [(0, .ref (ad this)), (1, .ref (ad a1)), (2, .int a2)] [] (f_X8_isClearBeside this a1 a2) := by
  unfold f_X8_isClearBeside
  refine sa_gdI ?_
  refine sa_iconst (v := 0) C d_X8_isClearBeside_0 (by decide) ?_
  refine sa_topi (fun x1 => ?_)
  refine sa_istore_n (lv' := [(3, .int x1), (0, .ref (ad this)), (1, .ref (ad a1)), (2, .int a2)]) C d_X8_isClearBeside_1 rfl (by decide) rfl ?_
  refine sa_iconst (v := 1) C d_X8_isClearBeside_2 (by decide) ?_
  refine sa_topi (fun x2 => ?_)
  refine sa_istore (lv' := [(4, .int x2), (3, .int x1), (0, .ref (ad this)), (1, .ref (ad a1)), (2, .int a2)]) C d_X8_isClearBeside_3 (by decide) rfl ?_
  refine sa_sub [2, 3, 4, 1, 0] rfl (sa_loop2 (fun x3 x4 => [(0, .ref (ad this)), (1, .ref (ad a1)), (2, .int a2), (3, .int x3), (4, .int x4)]) (fun x3 x4 => []) (fun j5 hj5 x3 x4 => ?_) _ _ _)
  refine sa_iload C d_X8_isClearBeside_5 4 rfl ?_
  refine sa_aload_n C d_X8_isClearBeside_7 rfl 1 rfl ?_
  refine sa_iload_n C d_X8_isClearBeside_8 rfl 2 rfl ?_
  refine sa_invV (ci := 9) C (k_X9_placesOf a1 a2) q1197 ds_X9_placesOf q125 rfl q1195 q1196 q1194 (gd_X9_placesOf a1 a2) rfl rfl rfl (Nat.le_of_ble_eq_true rfl) (by decide) (by decide) d_X8_isClearBeside_9 (fun v5 => ?_)
  refine sa_icmp_ge (tgt := 33) C d_X8_isClearBeside_12 (by decide) ?_ ?_
  · refine sa_iconst (v := 0) C d_X8_isClearBeside_33 (by decide) ?_
    refine sa_topi (fun x6 => ?_)
    refine sa_istore (lv' := [(4, .int x6), (0, .ref (ad this)), (1, .ref (ad a1)), (2, .int a2), (3, .int x3)]) C d_X8_isClearBeside_34 (by decide) rfl ?_
    refine sa_sub [1, 4, 0] rfl (sa_loop1 (fun x7 => [(0, .ref (ad this)), (3, .int x3), (4, .int x7)]) (fun x7 => []) (fun j36 hj36 x7 => ?_) _ _)
    refine sa_iload C d_X8_isClearBeside_36 2 rfl ?_
    refine sa_aload_n C d_X8_isClearBeside_38 rfl 0 rfl ?_
    refine sa_getI C fd_X8_24 d_X8_isClearBeside_39 (fun v8 => ?_)
    refine sa_icmp_ge (tgt := 77) C d_X8_isClearBeside_42 (by decide) ?_ ?_
    · refine sa_iconst (v := 1) C d_X8_isClearBeside_77 (by decide) ?_
      exact sa_zret C d_X8_isClearBeside_78
    refine sa_iload_n C d_X8_isClearBeside_45 rfl 1 rfl ?_
    refine sa_aload_n C d_X8_isClearBeside_46 rfl 0 rfl ?_
    refine sa_getR C fd_X8_11 rfl d_X8_isClearBeside_47 (fun v9 => ?_)
    refine sa_iload C d_X8_isClearBeside_50 2 rfl ?_
    refine sa_iald C d_X8_isClearBeside_52 (fun v10 => ?_)
    refine sa_ishr C d_X8_isClearBeside_53 ?_
    refine sa_iconst (v := 1) C d_X8_isClearBeside_54 (by decide) ?_
    refine sa_iand C d_X8_isClearBeside_55 ?_
    refine sa_join0 71 ([(0, .ref (ad this)), (3, .int x3), (4, .int x7)]) ([]) (?_) (fun j71 hj71 => ?_)
    · refine sa_iinc C (fun zz => [(4, .int zz), (0, .ref (ad this)), (3, .int x3)]) d_X8_isClearBeside_71 2 rfl rfl (by decide) (fun _ => rfl) (fun x11 => ?_)
      refine sa_goto (tgt := 36) C d_X8_isClearBeside_74 (by decide) ?_
      exact sa_sub [1, 2, 0] rfl (hj36 _)
    refine sa_if_ne (tgt := 71) C d_X8_isClearBeside_56 (by decide) ?_ ?_
    · exact sa_sub [0, 1, 2] rfl (hj71)
    refine sa_aload_n C d_X8_isClearBeside_59 rfl 0 rfl ?_
    refine sa_getR C fd_X8_15 rfl d_X8_isClearBeside_60 (fun v12 => ?_)
    refine sa_iload C d_X8_isClearBeside_63 2 rfl ?_
    refine sa_iald C d_X8_isClearBeside_65 (fun v13 => ?_)
    refine sa_if_eq (tgt := 71) C d_X8_isClearBeside_66 (by decide) ?_ ?_
    · exact sa_sub [0, 1, 2] rfl (hj71)
    refine sa_iconst (v := 0) C d_X8_isClearBeside_69 (by decide) ?_
    exact sa_zret C d_X8_isClearBeside_70
  refine sa_iload_n C d_X8_isClearBeside_15 rfl 3 rfl ?_
  refine sa_iconst (v := 1) C d_X8_isClearBeside_16 (by decide) ?_
  refine sa_aload_n C d_X8_isClearBeside_17 rfl 1 rfl ?_
  refine sa_iload_n C d_X8_isClearBeside_18 rfl 2 rfl ?_
  refine sa_iload C d_X8_isClearBeside_19 4 rfl ?_
  refine sa_invV (ci := 9) C (k_X9_placeOf a1 a2 x4) q1059 ds_X9_placeOf q125 rfl q1057 q1058 q1198 (gd_X9_placeOf a1 a2 x4) rfl rfl rfl (Nat.le_of_ble_eq_true rfl) (by decide) (by decide) d_X8_isClearBeside_21 (fun v14 => ?_)
  refine sa_ishl C d_X8_isClearBeside_24 ?_
  refine sa_ior C d_X8_isClearBeside_25 ?_
  refine sa_topi (fun x15 => ?_)
  refine sa_istore_n (lv' := [(3, .int x15), (0, .ref (ad this)), (1, .ref (ad a1)), (2, .int a2), (4, .int x4)]) C d_X8_isClearBeside_26 rfl (by decide) rfl ?_
  refine sa_iinc C (fun zz => [(4, .int zz), (3, .int x15), (0, .ref (ad this)), (1, .ref (ad a1)), (2, .int a2)]) d_X8_isClearBeside_27 4 rfl rfl (by decide) (fun _ => rfl) (fun x16 => ?_)
  refine sa_goto (tgt := 5) C d_X8_isClearBeside_30 (by decide) ?_
  exact sa_sub [2, 3, 4, 1, 0] rfl (hj5 _ _)
theorem k_X8_isClearBeside (this : Nat) (a1 : Nat) (a2 : Int32) : sa_Met 2 yX8_isClearBeside cX8_isClearBeside 5 (some .boolean) (fun ad => [.ref (ad this), .ref (ad a1), .int a2]) sa_eI (f_X8_isClearBeside this a1 a2) := sa_mk (by decide) (fun ad => Nat.le_of_ble_eq_true rfl) (fun p l e s m args below meth c D ad cA A C => b_X8_isClearBeside this a1 a2 C)
theorem gd_X8_isClearBeside (this : Nat) (a1 : Nat) (a2 : Int32) (σ : sa_St) (r : Int32) (τ : sa_St) (h : f_X8_isClearBeside this a1 a2 σ = some (r, τ)) : sa_sh this = some (.inl 8) := sa_gd_ok h
theorem d_X8_addHour_0 : decode cX8_addHour 0 = .ok (.iconst 0, 1) := by decide +kernel
theorem d_X8_addHour_1 : decode cX8_addHour 1 = .ok (.istore 4, 2) := by decide +kernel
theorem d_X8_addHour_3 : decode cX8_addHour 3 = .ok (.iload 4, 2) := by decide +kernel
theorem d_X8_addHour_5 : decode cX8_addHour 5 = .ok (.aload_n 0, 1) := by decide +kernel
theorem d_X8_addHour_6 : decode cX8_addHour 6 = .ok (.getfield 28, 3) := by decide +kernel
theorem d_X8_addHour_9 : decode cX8_addHour 9 = .ok (.if_icmp .ge 82, 3) := by decide +kernel
theorem d_X8_addHour_12 : decode cX8_addHour 12 = .ok (.aload_n 0, 1) := by decide +kernel
theorem d_X8_addHour_13 : decode cX8_addHour 13 = .ok (.getfield 18, 3) := by decide +kernel
theorem d_X8_addHour_16 : decode cX8_addHour 16 = .ok (.iload 4, 2) := by decide +kernel
theorem d_X8_addHour_18 : decode cX8_addHour 18 = .ok (.iaload, 1) := by decide +kernel
theorem d_X8_addHour_19 : decode cX8_addHour 19 = .ok (.ifCond .le 19, 3) := by decide +kernel
theorem d_X8_addHour_22 : decode cX8_addHour 22 = .ok (.aload_n 1, 1) := by decide +kernel
theorem d_X8_addHour_23 : decode cX8_addHour 23 = .ok (.aload_n 0, 1) := by decide +kernel
theorem d_X8_addHour_24 : decode cX8_addHour 24 = .ok (.getfield 18, 3) := by decide +kernel
theorem d_X8_addHour_27 : decode cX8_addHour 27 = .ok (.iload 4, 2) := by decide +kernel
theorem d_X8_addHour_29 : decode cX8_addHour 29 = .ok (.iaload, 1) := by decide +kernel
theorem d_X8_addHour_30 : decode cX8_addHour 30 = .ok (.iload_n 2, 1) := by decide +kernel
theorem d_X8_addHour_31 : decode cX8_addHour 31 = .ok (.iload_n 3, 1) := by decide +kernel
theorem d_X8_addHour_32 : decode cX8_addHour 32 = .ok (.invokevirtual 69, 3) := by decide +kernel
theorem d_X8_addHour_35 : decode cX8_addHour 35 = .ok (.goto 4, 3) := by decide +kernel
theorem d_X8_addHour_38 : decode cX8_addHour 38 = .ok (.iconst 0, 1) := by decide +kernel
theorem d_X8_addHour_39 : decode cX8_addHour 39 = .ok (.istore 5, 2) := by decide +kernel
theorem d_X8_addHour_41 : decode cX8_addHour 41 = .ok (.aload_n 0, 1) := by decide +kernel
theorem d_X8_addHour_42 : decode cX8_addHour 42 = .ok (.getfield 18, 3) := by decide +kernel
theorem d_X8_addHour_45 : decode cX8_addHour 45 = .ok (.aload_n 0, 1) := by decide +kernel
theorem d_X8_addHour_46 : decode cX8_addHour 46 = .ok (.getfield 28, 3) := by decide +kernel
theorem d_X8_addHour_49 : decode cX8_addHour 49 = .ok (.iload 4, 2) := by decide +kernel
theorem d_X8_addHour_51 : decode cX8_addHour 51 = .ok (.iadd, 1) := by decide +kernel
theorem d_X8_addHour_52 : decode cX8_addHour 52 = .ok (.aload_n 0, 1) := by decide +kernel
theorem d_X8_addHour_53 : decode cX8_addHour 53 = .ok (.getfield 18, 3) := by decide +kernel
theorem d_X8_addHour_56 : decode cX8_addHour 56 = .ok (.iload 4, 2) := by decide +kernel
theorem d_X8_addHour_58 : decode cX8_addHour 58 = .ok (.iaload, 1) := by decide +kernel
theorem d_X8_addHour_59 : decode cX8_addHour 59 = .ok (.iload 5, 2) := by decide +kernel
theorem d_X8_addHour_61 : decode cX8_addHour 61 = .ok (.isub, 1) := by decide +kernel
theorem d_X8_addHour_62 : decode cX8_addHour 62 = .ok (.iastore, 1) := by decide +kernel
theorem d_X8_addHour_63 : decode cX8_addHour 63 = .ok (.aload_n 0, 1) := by decide +kernel
theorem d_X8_addHour_64 : decode cX8_addHour 64 = .ok (.getfield 21, 3) := by decide +kernel
theorem d_X8_addHour_67 : decode cX8_addHour 67 = .ok (.aload_n 0, 1) := by decide +kernel
theorem d_X8_addHour_68 : decode cX8_addHour 68 = .ok (.getfield 28, 3) := by decide +kernel
theorem d_X8_addHour_71 : decode cX8_addHour 71 = .ok (.iload 4, 2) := by decide +kernel
theorem d_X8_addHour_73 : decode cX8_addHour 73 = .ok (.iadd, 1) := by decide +kernel
theorem d_X8_addHour_74 : decode cX8_addHour 74 = .ok (.aload_n 0, 1) := by decide +kernel
theorem d_X8_addHour_75 : decode cX8_addHour 75 = .ok (.getfield 21, 3) := by decide +kernel
theorem d_X8_addHour_78 : decode cX8_addHour 78 = .ok (.iload 4, 2) := by decide +kernel
theorem d_X8_addHour_80 : decode cX8_addHour 80 = .ok (.iaload, 1) := by decide +kernel
theorem d_X8_addHour_81 : decode cX8_addHour 81 = .ok (.iload 5, 2) := by decide +kernel
theorem d_X8_addHour_83 : decode cX8_addHour 83 = .ok (.iadd, 1) := by decide +kernel
theorem d_X8_addHour_84 : decode cX8_addHour 84 = .ok (.iastore, 1) := by decide +kernel
theorem d_X8_addHour_85 : decode cX8_addHour 85 = .ok (.iinc 4 1, 3) := by decide +kernel
theorem d_X8_addHour_88 : decode cX8_addHour 88 = .ok (.goto (-85), 3) := by decide +kernel
theorem d_X8_addHour_91 : decode cX8_addHour 91 = .ok (.aload_n 0, 1) := by decide +kernel
theorem d_X8_addHour_92 : decode cX8_addHour 92 = .ok (.dup, 1) := by decide +kernel
theorem d_X8_addHour_93 : decode cX8_addHour 93 = .ok (.getfield 28, 3) := by decide +kernel
theorem d_X8_addHour_96 : decode cX8_addHour 96 = .ok (.iconst 2, 1) := by decide +kernel
theorem d_X8_addHour_97 : decode cX8_addHour 97 = .ok (.imul, 1) := by decide +kernel
theorem d_X8_addHour_98 : decode cX8_addHour 98 = .ok (.putfield 28, 3) := by decide +kernel
theorem d_X8_addHour_101 : decode cX8_addHour 101 = .ok (.return_, 1) := by decide +kernel
def f_X8_addHour (this : Nat) (a1 : Nat) (a2 : Int32) (a3 : Int32) : sa_M Unit :=
sa_gd 8 this (
sa_let (0 : Int32) fun x1 =>
sa_wh1 (fun j3 (x2 : Int32) =>
sa_bnd (sa_rdI 8 this 5) fun v3 =>
if v3 ≤ x2 then
sa_bnd (sa_rdI 8 this 5) fun v4 =>
sa_bnd (sa_wrI 8 this 5 (v4 * 2)) fun _ =>
sa_ret ()
else
sa_bnd (sa_rdR 8 this 3) fun v5 =>
sa_bnd (sa_ldI .int v5 x2) fun v6 =>
sa_jn1 (fun (y7 : Int32) =>
sa_bnd (sa_rdR 8 this 3) fun v8 =>
sa_bnd (sa_rdI 8 this 5) fun v9 =>
sa_bnd (sa_rdR 8 this 3) fun v10 =>
sa_bnd (sa_ldI .int v10 x2) fun v11 =>
sa_bnd (sa_stI v8 (v9 + x2) (v11 - y7)) fun _ =>
sa_bnd (sa_rdR 8 this 4) fun v12 =>
sa_bnd (sa_rdI 8 this 5) fun v13 =>
sa_bnd (sa_rdR 8 this 4) fun v14 =>
sa_bnd (sa_ldI .int v14 x2) fun v15 =>
sa_bnd (sa_stI v12 (v13 + x2) (v15 + y7)) fun _ =>
sa_let ((x2 + 1) : Int32) fun x16 =>
j3 x16) fun j39 =>
if v6 ≤ 0 then
j39 0
else
sa_bnd (sa_rdR 8 this 3) fun v17 =>
sa_bnd (sa_ldI .int v17 x2) fun v18 =>
sa_bnd (f_X9_lossAt a1 v18 a2 a3) fun v19 =>
j39 v19) sa_F x1)
set_option maxHeartbeats 1000000 in
set_option maxRecDepth 10000 in
theorem b_X8_addHour {p : Program} {l : Launch} {e : Env} {s : State} {m : MethodId} {args : Array Value} {below : List Frame} {meth : Method} {c : Code} {D : va_G} {ad : Nat → Nat} {cA : FieldType → ClassId} {A : Nat → Prop} (this : Nat) (a1 : Nat) (a2 : Int32) (a3 : Int32) (C : sa_C p s m args meth c cX8_addHour RX8 "addHour" 6 none D ad cA A) : sa_Sg p l e s m args below meth c 6 4 D ad cA A sa_eV 0 [(0, .ref (ad this)), (1, .ref (ad a1)), (2, .int a2), (3, .int a3)] [] (f_X8_addHour this a1 a2 a3) := by
  unfold f_X8_addHour
  refine sa_gdI ?_
  refine sa_iconst (v := 0) C d_X8_addHour_0 (by decide) ?_
  refine sa_topi (fun x1 => ?_)
  refine sa_istore (lv' := [(4, .int x1), (0, .ref (ad this)), (1, .ref (ad a1)), (2, .int a2), (3, .int a3)]) C d_X8_addHour_1 (by decide) rfl ?_
  refine sa_sub [1, 2, 3, 4, 0] rfl (sa_loop1 (fun x2 => [(0, .ref (ad this)), (1, .ref (ad a1)), (2, .int a2), (3, .int a3), (4, .int x2)]) (fun x2 => []) (fun j3 hj3 x2 => ?_) _ _)
  refine sa_iload C d_X8_addHour_3 4 rfl ?_
  refine sa_aload_n C d_X8_addHour_5 rfl 0 rfl ?_
  refine sa_getI C fd_X8_28 d_X8_addHour_6 (fun v3 => ?_)
  refine sa_icmp_ge (tgt := 91) C d_X8_addHour_9 (by decide) ?_ ?_
  · refine sa_aload_n C d_X8_addHour_91 rfl 0 rfl ?_
    refine sa_dup C d_X8_addHour_92 rfl ?_
    refine sa_getI C fd_X8_28 d_X8_addHour_93 (fun v4 => ?_)
    refine sa_iconst (v := 2) C d_X8_addHour_96 (by decide) ?_
    refine sa_imul C d_X8_addHour_97 ?_
    refine sa_putI C fd_X8_28 d_X8_addHour_98 ?_
    exact sa_vret C d_X8_addHour_101
  refine sa_aload_n C d_X8_addHour_12 rfl 0 rfl ?_
  refine sa_getR C fd_X8_18 rfl d_X8_addHour_13 (fun v5 => ?_)
  refine sa_iload C d_X8_addHour_16 4 rfl ?_
  refine sa_iald C d_X8_addHour_18 (fun v6 => ?_)
  refine sa_join1 39 (fun y7 => [(0, .ref (ad this)), (1, .ref (ad a1)), (2, .int a2), (3, .int a3), (4, .int x2)]) (fun y7 => [.int y7]) (fun y7 => ?_) (fun j39 hj39 => ?_)
  · refine sa_istore (lv' := [(5, .int y7), (0, .ref (ad this)), (1, .ref (ad a1)), (2, .int a2), (3, .int a3), (4, .int x2)]) C d_X8_addHour_39 (by decide) rfl ?_
    refine sa_aload_n C d_X8_addHour_41 rfl 1 rfl ?_
    refine sa_getR C fd_X8_18 rfl d_X8_addHour_42 (fun v8 => ?_)
    refine sa_aload_n C d_X8_addHour_45 rfl 1 rfl ?_
    refine sa_getI C fd_X8_28 d_X8_addHour_46 (fun v9 => ?_)
    refine sa_iload C d_X8_addHour_49 5 rfl ?_
    refine sa_iadd C d_X8_addHour_51 ?_
    refine sa_aload_n C d_X8_addHour_52 rfl 1 rfl ?_
    refine sa_getR C fd_X8_18 rfl d_X8_addHour_53 (fun v10 => ?_)
    refine sa_iload C d_X8_addHour_56 5 rfl ?_
    refine sa_iald C d_X8_addHour_58 (fun v11 => ?_)
    refine sa_iload C d_X8_addHour_59 0 rfl ?_
    refine sa_isub C d_X8_addHour_61 ?_
    refine sa_iast C d_X8_addHour_62 ?_
    refine sa_aload_n C d_X8_addHour_63 rfl 1 rfl ?_
    refine sa_getR C fd_X8_21 rfl d_X8_addHour_64 (fun v12 => ?_)
    refine sa_aload_n C d_X8_addHour_67 rfl 1 rfl ?_
    refine sa_getI C fd_X8_28 d_X8_addHour_68 (fun v13 => ?_)
    refine sa_iload C d_X8_addHour_71 5 rfl ?_
    refine sa_iadd C d_X8_addHour_73 ?_
    refine sa_aload_n C d_X8_addHour_74 rfl 1 rfl ?_
    refine sa_getR C fd_X8_21 rfl d_X8_addHour_75 (fun v14 => ?_)
    refine sa_iload C d_X8_addHour_78 5 rfl ?_
    refine sa_iald C d_X8_addHour_80 (fun v15 => ?_)
    refine sa_iload C d_X8_addHour_81 0 rfl ?_
    refine sa_iadd C d_X8_addHour_83 ?_
    refine sa_iast C d_X8_addHour_84 ?_
    refine sa_iinc C (fun zz => [(4, .int zz), (5, .int y7), (0, .ref (ad this)), (1, .ref (ad a1)), (2, .int a2), (3, .int a3)]) d_X8_addHour_85 5 rfl rfl (by decide) (fun _ => rfl) (fun x16 => ?_)
    refine sa_goto (tgt := 3) C d_X8_addHour_88 (by decide) ?_
    exact sa_sub [2, 3, 4, 5, 0] rfl (hj3 _)
  refine sa_if_le (tgt := 38) C d_X8_addHour_19 (by decide) ?_ ?_
  · refine sa_iconst (v := 0) C d_X8_addHour_38 (by decide) ?_
    exact sa_sub [0, 1, 2, 3, 4] rfl (hj39 _)
  refine sa_aload_n C d_X8_addHour_22 rfl 1 rfl ?_
  refine sa_aload_n C d_X8_addHour_23 rfl 0 rfl ?_
  refine sa_getR C fd_X8_18 rfl d_X8_addHour_24 (fun v17 => ?_)
  refine sa_iload C d_X8_addHour_27 4 rfl ?_
  refine sa_iald C d_X8_addHour_29 (fun v18 => ?_)
  refine sa_iload_n C d_X8_addHour_30 rfl 2 rfl ?_
  refine sa_iload_n C d_X8_addHour_31 rfl 3 rfl ?_
  refine sa_invV (ci := 9) C (k_X9_lossAt a1 v18 a2 a3) q1208 ds_X9_lossAt q125 rfl q1206 q1207 q1205 (gd_X9_lossAt a1 v18 a2 a3) rfl rfl rfl (Nat.le_of_ble_eq_true rfl) (by decide) (by decide) d_X8_addHour_32 (fun v19 => ?_)
  refine sa_goto (tgt := 39) C d_X8_addHour_35 (by decide) ?_
  exact sa_sub [0, 1, 2, 3, 4] rfl (hj39 _)
theorem k_X8_addHour (this : Nat) (a1 : Nat) (a2 : Int32) (a3 : Int32) : sa_Met 4 yX8_addHour cX8_addHour 6 none (fun ad => [.ref (ad this), .ref (ad a1), .int a2, .int a3]) sa_eV (f_X8_addHour this a1 a2 a3) := sa_mk (by decide) (fun ad => Nat.le_of_ble_eq_true rfl) (fun p l e s m args below meth c D ad cA A C => b_X8_addHour this a1 a2 a3 C)
theorem gd_X8_addHour (this : Nat) (a1 : Nat) (a2 : Int32) (a3 : Int32) (σ : sa_St) (r : Unit) (τ : sa_St) (h : f_X8_addHour this a1 a2 a3 σ = some (r, τ)) : sa_sh this = some (.inl 8) := sa_gd_ok h
theorem d_X8_compare_0 : decode cX8_compare 0 = .ok (.iconst 0, 1) := by decide +kernel
theorem d_X8_compare_1 : decode cX8_compare 1 = .ok (.istore_n 3, 1) := by decide +kernel
theorem d_X8_compare_2 : decode cX8_compare 2 = .ok (.iload_n 3, 1) := by decide +kernel
theorem d_X8_compare_3 : decode cX8_compare 3 = .ok (.aload_n 0, 1) := by decide +kernel
theorem d_X8_compare_4 : decode cX8_compare 4 = .ok (.getfield 28, 3) := by decide +kernel
theorem d_X8_compare_7 : decode cX8_compare 7 = .ok (.if_icmp .ge 116, 3) := by decide +kernel
theorem d_X8_compare_10 : decode cX8_compare 10 = .ok (.aload_n 0, 1) := by decide +kernel
theorem d_X8_compare_11 : decode cX8_compare 11 = .ok (.getfield 18, 3) := by decide +kernel
theorem d_X8_compare_14 : decode cX8_compare 14 = .ok (.iload_n 3, 1) := by decide +kernel
theorem d_X8_compare_15 : decode cX8_compare 15 = .ok (.iaload, 1) := by decide +kernel
theorem d_X8_compare_16 : decode cX8_compare 16 = .ok (.ifCond .lt 7, 3) := by decide +kernel
theorem d_X8_compare_19 : decode cX8_compare 19 = .ok (.iconst 1, 1) := by decide +kernel
theorem d_X8_compare_20 : decode cX8_compare 20 = .ok (.goto 4, 3) := by decide +kernel
theorem d_X8_compare_23 : decode cX8_compare 23 = .ok (.iconst 0, 1) := by decide +kernel
theorem d_X8_compare_24 : decode cX8_compare 24 = .ok (.istore 4, 2) := by decide +kernel
theorem d_X8_compare_26 : decode cX8_compare 26 = .ok (.iconst 0, 1) := by decide +kernel
theorem d_X8_compare_27 : decode cX8_compare 27 = .ok (.istore 5, 2) := by decide +kernel
theorem d_X8_compare_29 : decode cX8_compare 29 = .ok (.iload 5, 2) := by decide +kernel
theorem d_X8_compare_31 : decode cX8_compare 31 = .ok (.aload_n 0, 1) := by decide +kernel
theorem d_X8_compare_32 : decode cX8_compare 32 = .ok (.getfield 24, 3) := by decide +kernel
theorem d_X8_compare_35 : decode cX8_compare 35 = .ok (.if_icmp .ge 48, 3) := by decide +kernel
theorem d_X8_compare_38 : decode cX8_compare 38 = .ok (.iload 4, 2) := by decide +kernel
theorem d_X8_compare_40 : decode cX8_compare 40 = .ok (.ifCond .eq 43, 3) := by decide +kernel
theorem d_X8_compare_43 : decode cX8_compare 43 = .ok (.aload_n 0, 1) := by decide +kernel
theorem d_X8_compare_44 : decode cX8_compare 44 = .ok (.getfield 11, 3) := by decide +kernel
theorem d_X8_compare_47 : decode cX8_compare 47 = .ok (.iload 5, 2) := by decide +kernel
theorem d_X8_compare_49 : decode cX8_compare 49 = .ok (.iaload, 1) := by decide +kernel
theorem d_X8_compare_50 : decode cX8_compare 50 = .ok (.iload_n 1, 1) := by decide +kernel
theorem d_X8_compare_51 : decode cX8_compare 51 = .ok (.if_icmp .ne 19, 3) := by decide +kernel
theorem d_X8_compare_54 : decode cX8_compare 54 = .ok (.aload_n 0, 1) := by decide +kernel
theorem d_X8_compare_55 : decode cX8_compare 55 = .ok (.getfield 15, 3) := by decide +kernel
theorem d_X8_compare_58 : decode cX8_compare 58 = .ok (.iload 5, 2) := by decide +kernel
theorem d_X8_compare_60 : decode cX8_compare 60 = .ok (.iaload, 1) := by decide +kernel
theorem d_X8_compare_61 : decode cX8_compare 61 = .ok (.aload_n 0, 1) := by decide +kernel
theorem d_X8_compare_62 : decode cX8_compare 62 = .ok (.getfield 21, 3) := by decide +kernel
theorem d_X8_compare_65 : decode cX8_compare 65 = .ok (.iload_n 3, 1) := by decide +kernel
theorem d_X8_compare_66 : decode cX8_compare 66 = .ok (.iaload, 1) := by decide +kernel
theorem d_X8_compare_67 : decode cX8_compare 67 = .ok (.if_icmp .ne 7, 3) := by decide +kernel
theorem d_X8_compare_70 : decode cX8_compare 70 = .ok (.iconst 1, 1) := by decide +kernel
theorem d_X8_compare_71 : decode cX8_compare 71 = .ok (.goto 4, 3) := by decide +kernel
theorem d_X8_compare_74 : decode cX8_compare 74 = .ok (.iconst 0, 1) := by decide +kernel
theorem d_X8_compare_75 : decode cX8_compare 75 = .ok (.istore 4, 2) := by decide +kernel
theorem d_X8_compare_77 : decode cX8_compare 77 = .ok (.iinc 5 1, 3) := by decide +kernel
theorem d_X8_compare_80 : decode cX8_compare 80 = .ok (.goto (-51), 3) := by decide +kernel
theorem d_X8_compare_83 : decode cX8_compare 83 = .ok (.aload_n 0, 1) := by decide +kernel
theorem d_X8_compare_84 : decode cX8_compare 84 = .ok (.getfield 18, 3) := by decide +kernel
theorem d_X8_compare_87 : decode cX8_compare 87 = .ok (.iload_n 3, 1) := by decide +kernel
theorem d_X8_compare_88 : decode cX8_compare 88 = .ok (.iload 4, 2) := by decide +kernel
theorem d_X8_compare_90 : decode cX8_compare 90 = .ok (.ifCond .eq 18, 3) := by decide +kernel
theorem d_X8_compare_93 : decode cX8_compare 93 = .ok (.iconst 0, 1) := by decide +kernel
theorem d_X8_compare_94 : decode cX8_compare 94 = .ok (.aload_n 0, 1) := by decide +kernel
theorem d_X8_compare_95 : decode cX8_compare 95 = .ok (.getfield 18, 3) := by decide +kernel
theorem d_X8_compare_98 : decode cX8_compare 98 = .ok (.iload_n 3, 1) := by decide +kernel
theorem d_X8_compare_99 : decode cX8_compare 99 = .ok (.iaload, 1) := by decide +kernel
theorem d_X8_compare_100 : decode cX8_compare 100 = .ok (.iload_n 2, 1) := by decide +kernel
theorem d_X8_compare_101 : decode cX8_compare 101 = .ok (.isub, 1) := by decide +kernel
theorem d_X8_compare_102 : decode cX8_compare 102 = .ok (.invokestatic 72, 3) := by decide +kernel
theorem d_X8_compare_105 : decode cX8_compare 105 = .ok (.goto 4, 3) := by decide +kernel
theorem d_X8_compare_108 : decode cX8_compare 108 = .ok (.iconst (-1), 1) := by decide +kernel
theorem d_X8_compare_109 : decode cX8_compare 109 = .ok (.iastore, 1) := by decide +kernel
theorem d_X8_compare_110 : decode cX8_compare 110 = .ok (.aload_n 0, 1) := by decide +kernel
theorem d_X8_compare_111 : decode cX8_compare 111 = .ok (.getfield 21, 3) := by decide +kernel
theorem d_X8_compare_114 : decode cX8_compare 114 = .ok (.iload_n 3, 1) := by decide +kernel
theorem d_X8_compare_115 : decode cX8_compare 115 = .ok (.iconst 0, 1) := by decide +kernel
theorem d_X8_compare_116 : decode cX8_compare 116 = .ok (.iastore, 1) := by decide +kernel
theorem d_X8_compare_117 : decode cX8_compare 117 = .ok (.iinc 3 1, 3) := by decide +kernel
theorem d_X8_compare_120 : decode cX8_compare 120 = .ok (.goto (-118), 3) := by decide +kernel
theorem d_X8_compare_123 : decode cX8_compare 123 = .ok (.return_, 1) := by decide +kernel
def f_X8_compare (this : Nat) (a1 : Int32) (a2 : Int32) : sa_M Unit :=
sa_gd 8 this (
sa_let (0 : Int32) fun x1 =>
sa_wh1 (fun j2 (x2 : Int32) =>
sa_bnd (sa_rdI 8 this 5) fun v3 =>
if v3 ≤ x2 then
sa_ret ()
else
sa_bnd (sa_rdR 8 this 3) fun v4 =>
sa_bnd (sa_ldI .int v4 x2) fun v5 =>
sa_jn1 (fun (y6 : Int32) =>
sa_let (0 : Int32) fun x7 =>
sa_wh2 (fun j29 (x8 : Int32) (x9 : Int32) =>
sa_bnd (sa_rdI 8 this 2) fun v10 =>
sa_jn0 (sa_bnd (sa_rdR 8 this 3) fun v11 =>
sa_jn1 (fun (y12 : Int32) =>
sa_bnd (sa_stI v11 x2 y12) fun _ =>
sa_bnd (sa_rdR 8 this 4) fun v13 =>
sa_bnd (sa_stI v13 x2 0) fun _ =>
sa_let ((x2 + 1) : Int32) fun x14 =>
j2 x14) fun j109 =>
if x8 = 0 then
j109 (-1)
else
sa_bnd (sa_rdR 8 this 3) fun v15 =>
sa_bnd (sa_ldI .int v15 x2) fun v16 =>
j109 (sa_max 0 (v16 - a2))) fun j83 =>
if v10 ≤ x9 then
j83
else
if x8 = 0 then
j83
else
sa_bnd (sa_rdR 8 this 0) fun v17 =>
sa_bnd (sa_ldI .int v17 x9) fun v18 =>
sa_jn1 (fun (y19 : Int32) =>
sa_let ((x9 + 1) : Int32) fun x20 =>
j29 y19 x20) fun j75 =>
sa_jn0 (j75 1) fun j70 =>
if ¬ v18 = a1 then
j70
else
sa_bnd (sa_rdR 8 this 1) fun v21 =>
sa_bnd (sa_ldI .int v21 x9) fun v22 =>
sa_bnd (sa_rdR 8 this 4) fun v23 =>
sa_bnd (sa_ldI .int v23 x2) fun v24 =>
if ¬ v22 = v24 then
j75 0
else
j70) sa_F y6 x7) fun j24 =>
if v5 < 0 then
j24 0
else
j24 1) sa_F x1)
set_option maxHeartbeats 1000000 in
set_option maxRecDepth 10000 in
theorem b_X8_compare {p : Program} {l : Launch} {e : Env} {s : State} {m : MethodId} {args : Array Value} {below : List Frame} {meth : Method} {c : Code} {D : va_G} {ad : Nat → Nat} {cA : FieldType → ClassId} {A : Nat → Prop} (this : Nat) (a1 : Int32) (a2 : Int32) (C : sa_C p s m args meth c cX8_compare RX8 "compare" 6 none D ad cA A) : sa_Sg p l e s m args below meth c 6 1 D ad cA A sa_eV 0 [(0, .ref (ad this)), (1, .int a1), (2, .int a2)] [] (f_X8_compare this a1 a2) := by
  unfold f_X8_compare
  refine sa_gdI ?_
  refine sa_iconst (v := 0) C d_X8_compare_0 (by decide) ?_
  refine sa_topi (fun x1 => ?_)
  refine sa_istore_n (lv' := [(3, .int x1), (0, .ref (ad this)), (1, .int a1), (2, .int a2)]) C d_X8_compare_1 rfl (by decide) rfl ?_
  refine sa_sub [1, 2, 3, 0] rfl (sa_loop1 (fun x2 => [(0, .ref (ad this)), (1, .int a1), (2, .int a2), (3, .int x2)]) (fun x2 => []) (fun j2 hj2 x2 => ?_) _ _)
  refine sa_iload_n C d_X8_compare_2 rfl 3 rfl ?_
  refine sa_aload_n C d_X8_compare_3 rfl 0 rfl ?_
  refine sa_getI C fd_X8_28 d_X8_compare_4 (fun v3 => ?_)
  refine sa_icmp_ge (tgt := 123) C d_X8_compare_7 (by decide) ?_ ?_
  · exact sa_vret C d_X8_compare_123
  refine sa_aload_n C d_X8_compare_10 rfl 0 rfl ?_
  refine sa_getR C fd_X8_18 rfl d_X8_compare_11 (fun v4 => ?_)
  refine sa_iload_n C d_X8_compare_14 rfl 3 rfl ?_
  refine sa_iald C d_X8_compare_15 (fun v5 => ?_)
  refine sa_join1 24 (fun y6 => [(0, .ref (ad this)), (1, .int a1), (2, .int a2), (3, .int x2)]) (fun y6 => [.int y6]) (fun y6 => ?_) (fun j24 hj24 => ?_)
  · refine sa_istore (lv' := [(4, .int y6), (0, .ref (ad this)), (1, .int a1), (2, .int a2), (3, .int x2)]) C d_X8_compare_24 (by decide) rfl ?_
    refine sa_iconst (v := 0) C d_X8_compare_26 (by decide) ?_
    refine sa_topi (fun x7 => ?_)
    refine sa_istore (lv' := [(5, .int x7), (4, .int y6), (0, .ref (ad this)), (1, .int a1), (2, .int a2), (3, .int x2)]) C d_X8_compare_27 (by decide) rfl ?_
    refine sa_sub [2, 3, 4, 5, 1, 0] rfl (sa_loop2 (fun x8 x9 => [(0, .ref (ad this)), (1, .int a1), (2, .int a2), (3, .int x2), (4, .int x8), (5, .int x9)]) (fun x8 x9 => []) (fun j29 hj29 x8 x9 => ?_) _ _ _)
    refine sa_iload C d_X8_compare_29 5 rfl ?_
    refine sa_aload_n C d_X8_compare_31 rfl 0 rfl ?_
    refine sa_getI C fd_X8_24 d_X8_compare_32 (fun v10 => ?_)
    refine sa_join0 83 ([(0, .ref (ad this)), (1, .int a1), (2, .int a2), (3, .int x2), (4, .int x8)]) ([]) (?_) (fun j83 hj83 => ?_)
    · refine sa_aload_n C d_X8_compare_83 rfl 0 rfl ?_
      refine sa_getR C fd_X8_18 rfl d_X8_compare_84 (fun v11 => ?_)
      refine sa_iload_n C d_X8_compare_87 rfl 3 rfl ?_
      refine sa_iload C d_X8_compare_88 4 rfl ?_
      refine sa_join1 109 (fun y12 => [(0, .ref (ad this)), (1, .int a1), (2, .int a2), (3, .int x2)]) (fun y12 => [.int y12, .int x2, .ref (ad v11)]) (fun y12 => ?_) (fun j109 hj109 => ?_)
      · refine sa_iast C d_X8_compare_109 ?_
        refine sa_aload_n C d_X8_compare_110 rfl 0 rfl ?_
        refine sa_getR C fd_X8_21 rfl d_X8_compare_111 (fun v13 => ?_)
        refine sa_iload_n C d_X8_compare_114 rfl 3 rfl ?_
        refine sa_iconst (v := 0) C d_X8_compare_115 (by decide) ?_
        refine sa_iast C d_X8_compare_116 ?_
        refine sa_iinc C (fun zz => [(3, .int zz), (0, .ref (ad this)), (1, .int a1), (2, .int a2)]) d_X8_compare_117 3 rfl rfl (by decide) (fun _ => rfl) (fun x14 => ?_)
        refine sa_goto (tgt := 2) C d_X8_compare_120 (by decide) ?_
        exact sa_sub [1, 2, 3, 0] rfl (hj2 _)
      refine sa_if_eq (tgt := 108) C d_X8_compare_90 (by decide) ?_ ?_
      · refine sa_iconst (v := (-1)) C d_X8_compare_108 (by decide) ?_
        exact sa_sub [0, 1, 2, 3] rfl (hj109 _)
      refine sa_iconst (v := 0) C d_X8_compare_93 (by decide) ?_
      refine sa_aload_n C d_X8_compare_94 rfl 0 rfl ?_
      refine sa_getR C fd_X8_18 rfl d_X8_compare_95 (fun v15 => ?_)
      refine sa_iload_n C d_X8_compare_98 rfl 3 rfl ?_
      refine sa_iald C d_X8_compare_99 (fun v16 => ?_)
      refine sa_iload_n C d_X8_compare_100 rfl 2 rfl ?_
      refine sa_isub C d_X8_compare_101 ?_
      refine sa_mmax C q1213 (Nat.le_of_ble_eq_true rfl) (by decide) q527 q130 q528 d_X8_compare_102 ?_
      refine sa_goto (tgt := 109) C d_X8_compare_105 (by decide) ?_
      exact sa_sub [0, 1, 2, 3] rfl (hj109 _)
    refine sa_icmp_ge (tgt := 83) C d_X8_compare_35 (by decide) ?_ ?_
    · exact sa_sub [0, 1, 2, 3, 4] rfl (hj83)
    refine sa_iload C d_X8_compare_38 4 rfl ?_
    refine sa_if_eq (tgt := 83) C d_X8_compare_40 (by decide) ?_ ?_
    · exact sa_sub [0, 1, 2, 3, 4] rfl (hj83)
    refine sa_aload_n C d_X8_compare_43 rfl 0 rfl ?_
    refine sa_getR C fd_X8_11 rfl d_X8_compare_44 (fun v17 => ?_)
    refine sa_iload C d_X8_compare_47 5 rfl ?_
    refine sa_iald C d_X8_compare_49 (fun v18 => ?_)
    refine sa_iload_n C d_X8_compare_50 rfl 1 rfl ?_
    refine sa_join1 75 (fun y19 => [(0, .ref (ad this)), (1, .int a1), (2, .int a2), (3, .int x2), (5, .int x9)]) (fun y19 => [.int y19]) (fun y19 => ?_) (fun j75 hj75 => ?_)
    · refine sa_istore (lv' := [(4, .int y19), (0, .ref (ad this)), (1, .int a1), (2, .int a2), (3, .int x2), (5, .int x9)]) C d_X8_compare_75 (by decide) rfl ?_
      refine sa_iinc C (fun zz => [(5, .int zz), (4, .int y19), (0, .ref (ad this)), (1, .int a1), (2, .int a2), (3, .int x2)]) d_X8_compare_77 5 rfl rfl (by decide) (fun _ => rfl) (fun x20 => ?_)
      refine sa_goto (tgt := 29) C d_X8_compare_80 (by decide) ?_
      exact sa_sub [2, 3, 4, 5, 1, 0] rfl (hj29 _ _)
    refine sa_join0 70 ([(0, .ref (ad this)), (1, .int a1), (2, .int a2), (3, .int x2), (5, .int x9)]) ([]) (?_) (fun j70 hj70 => ?_)
    · refine sa_iconst (v := 1) C d_X8_compare_70 (by decide) ?_
      refine sa_goto (tgt := 75) C d_X8_compare_71 (by decide) ?_
      exact sa_sub [0, 1, 2, 3, 4] rfl (hj75 _)
    refine sa_icmp_ne (tgt := 70) C d_X8_compare_51 (by decide) ?_ ?_
    · exact sa_sub [0, 1, 2, 3, 5] rfl (hj70)
    refine sa_aload_n C d_X8_compare_54 rfl 0 rfl ?_
    refine sa_getR C fd_X8_15 rfl d_X8_compare_55 (fun v21 => ?_)
    refine sa_iload C d_X8_compare_58 5 rfl ?_
    refine sa_iald C d_X8_compare_60 (fun v22 => ?_)
    refine sa_aload_n C d_X8_compare_61 rfl 0 rfl ?_
    refine sa_getR C fd_X8_21 rfl d_X8_compare_62 (fun v23 => ?_)
    refine sa_iload_n C d_X8_compare_65 rfl 3 rfl ?_
    refine sa_iald C d_X8_compare_66 (fun v24 => ?_)
    refine sa_icmp_ne (tgt := 74) C d_X8_compare_67 (by decide) ?_ ?_
    · refine sa_iconst (v := 0) C d_X8_compare_74 (by decide) ?_
      exact sa_sub [0, 1, 2, 3, 5] rfl (hj75 _)
    exact sa_sub [0, 1, 2, 3, 5] rfl (hj70)
  refine sa_if_lt (tgt := 23) C d_X8_compare_16 (by decide) ?_ ?_
  · refine sa_iconst (v := 0) C d_X8_compare_23 (by decide) ?_
    exact sa_sub [0, 1, 2, 3] rfl (hj24 _)
  refine sa_iconst (v := 1) C d_X8_compare_19 (by decide) ?_
  refine sa_goto (tgt := 24) C d_X8_compare_20 (by decide) ?_
  exact sa_sub [0, 1, 2, 3] rfl (hj24 _)
theorem k_X8_compare (this : Nat) (a1 : Int32) (a2 : Int32) : sa_Met 1 yX8_compare cX8_compare 6 none (fun ad => [.ref (ad this), .int a1, .int a2]) sa_eV (f_X8_compare this a1 a2) := sa_mk (by decide) (fun ad => Nat.le_of_ble_eq_true rfl) (fun p l e s m args below meth c D ad cA A C => b_X8_compare this a1 a2 C)
theorem gd_X8_compare (this : Nat) (a1 : Int32) (a2 : Int32) (σ : sa_St) (r : Unit) (τ : sa_St) (h : f_X8_compare this a1 a2 σ = some (r, τ)) : sa_sh this = some (.inl 8) := sa_gd_ok h
theorem d_X8_weigh_0 : decode cX8_weigh 0 = .ok (.aload_n 0, 1) := by decide +kernel
theorem d_X8_weigh_1 : decode cX8_weigh 1 = .ok (.iconst 1, 1) := by decide +kernel
theorem d_X8_weigh_2 : decode cX8_weigh 2 = .ok (.putfield 28, 3) := by decide +kernel
theorem d_X8_weigh_5 : decode cX8_weigh 5 = .ok (.aload_n 0, 1) := by decide +kernel
theorem d_X8_weigh_6 : decode cX8_weigh 6 = .ok (.getfield 18, 3) := by decide +kernel
theorem d_X8_weigh_9 : decode cX8_weigh 9 = .ok (.iconst 0, 1) := by decide +kernel
theorem d_X8_weigh_10 : decode cX8_weigh 10 = .ok (.aload_n 0, 1) := by decide +kernel
theorem d_X8_weigh_11 : decode cX8_weigh 11 = .ok (.aload_n 1, 1) := by decide +kernel
theorem d_X8_weigh_12 : decode cX8_weigh 12 = .ok (.iload_n 2, 1) := by decide +kernel
theorem d_X8_weigh_13 : decode cX8_weigh 13 = .ok (.invokevirtual 31, 3) := by decide +kernel
theorem d_X8_weigh_16 : decode cX8_weigh 16 = .ok (.ifCond .eq 10, 3) := by decide +kernel
theorem d_X8_weigh_19 : decode cX8_weigh 19 = .ok (.aload_n 1, 1) := by decide +kernel
theorem d_X8_weigh_20 : decode cX8_weigh 20 = .ok (.getfield 35, 3) := by decide +kernel
theorem d_X8_weigh_23 : decode cX8_weigh 23 = .ok (.goto 4, 3) := by decide +kernel
theorem d_X8_weigh_26 : decode cX8_weigh 26 = .ok (.iconst (-1), 1) := by decide +kernel
theorem d_X8_weigh_27 : decode cX8_weigh 27 = .ok (.iastore, 1) := by decide +kernel
theorem d_X8_weigh_28 : decode cX8_weigh 28 = .ok (.aload_n 0, 1) := by decide +kernel
theorem d_X8_weigh_29 : decode cX8_weigh 29 = .ok (.getfield 21, 3) := by decide +kernel
theorem d_X8_weigh_32 : decode cX8_weigh 32 = .ok (.iconst 0, 1) := by decide +kernel
theorem d_X8_weigh_33 : decode cX8_weigh 33 = .ok (.iconst 0, 1) := by decide +kernel
theorem d_X8_weigh_34 : decode cX8_weigh 34 = .ok (.iastore, 1) := by decide +kernel
theorem d_X8_weigh_35 : decode cX8_weigh 35 = .ok (.iconst 0, 1) := by decide +kernel
theorem d_X8_weigh_36 : decode cX8_weigh 36 = .ok (.istore_n 3, 1) := by decide +kernel
theorem d_X8_weigh_37 : decode cX8_weigh 37 = .ok (.iconst 1, 1) := by decide +kernel
theorem d_X8_weigh_38 : decode cX8_weigh 38 = .ok (.istore 4, 2) := by decide +kernel
theorem d_X8_weigh_40 : decode cX8_weigh 40 = .ok (.iload 4, 2) := by decide +kernel
theorem d_X8_weigh_42 : decode cX8_weigh 42 = .ok (.aload_n 1, 1) := by decide +kernel
theorem d_X8_weigh_43 : decode cX8_weigh 43 = .ok (.iload_n 2, 1) := by decide +kernel
theorem d_X8_weigh_44 : decode cX8_weigh 44 = .ok (.invokevirtual 40, 3) := by decide +kernel
theorem d_X8_weigh_47 : decode cX8_weigh 47 = .ok (.if_icmp .ge 89, 3) := by decide +kernel
theorem d_X8_weigh_50 : decode cX8_weigh 50 = .ok (.aload_n 1, 1) := by decide +kernel
theorem d_X8_weigh_51 : decode cX8_weigh 51 = .ok (.iload_n 2, 1) := by decide +kernel
theorem d_X8_weigh_52 : decode cX8_weigh 52 = .ok (.iload 4, 2) := by decide +kernel
theorem d_X8_weigh_54 : decode cX8_weigh 54 = .ok (.invokevirtual 44, 3) := by decide +kernel
theorem d_X8_weigh_57 : decode cX8_weigh 57 = .ok (.istore 5, 2) := by decide +kernel
theorem d_X8_weigh_59 : decode cX8_weigh 59 = .ok (.aload_n 1, 1) := by decide +kernel
theorem d_X8_weigh_60 : decode cX8_weigh 60 = .ok (.iload_n 2, 1) := by decide +kernel
theorem d_X8_weigh_61 : decode cX8_weigh 61 = .ok (.iload 4, 2) := by decide +kernel
theorem d_X8_weigh_63 : decode cX8_weigh 63 = .ok (.invokevirtual 48, 3) := by decide +kernel
theorem d_X8_weigh_66 : decode cX8_weigh 66 = .ok (.istore 6, 2) := by decide +kernel
theorem d_X8_weigh_68 : decode cX8_weigh 68 = .ok (.iload_n 3, 1) := by decide +kernel
theorem d_X8_weigh_69 : decode cX8_weigh 69 = .ok (.aload_n 1, 1) := by decide +kernel
theorem d_X8_weigh_70 : decode cX8_weigh 70 = .ok (.getfield 51, 3) := by decide +kernel
theorem d_X8_weigh_73 : decode cX8_weigh 73 = .ok (.iconst 1, 1) := by decide +kernel
theorem d_X8_weigh_74 : decode cX8_weigh 74 = .ok (.iload 6, 2) := by decide +kernel
theorem d_X8_weigh_76 : decode cX8_weigh 76 = .ok (.iconst 2, 1) := by decide +kernel
theorem d_X8_weigh_77 : decode cX8_weigh 77 = .ok (.invokevirtual 57, 3) := by decide +kernel
theorem d_X8_weigh_80 : decode cX8_weigh 80 = .ok (.iadd, 1) := by decide +kernel
theorem d_X8_weigh_81 : decode cX8_weigh 81 = .ok (.istore 7, 2) := by decide +kernel
theorem d_X8_weigh_83 : decode cX8_weigh 83 = .ok (.iload_n 3, 1) := by decide +kernel
theorem d_X8_weigh_84 : decode cX8_weigh 84 = .ok (.iload 7, 2) := by decide +kernel
theorem d_X8_weigh_86 : decode cX8_weigh 86 = .ok (.if_icmp .ge 27, 3) := by decide +kernel
theorem d_X8_weigh_89 : decode cX8_weigh 89 = .ok (.aload_n 0, 1) := by decide +kernel
theorem d_X8_weigh_90 : decode cX8_weigh 90 = .ok (.getfield 28, 3) := by decide +kernel
theorem d_X8_weigh_93 : decode cX8_weigh 93 = .ok (.sipush 4096, 3) := by decide +kernel
theorem d_X8_weigh_96 : decode cX8_weigh 96 = .ok (.if_icmp .ge 17, 3) := by decide +kernel
theorem d_X8_weigh_99 : decode cX8_weigh 99 = .ok (.aload_n 0, 1) := by decide +kernel
theorem d_X8_weigh_100 : decode cX8_weigh 100 = .ok (.aload_n 1, 1) := by decide +kernel
theorem d_X8_weigh_101 : decode cX8_weigh 101 = .ok (.iload 5, 2) := by decide +kernel
theorem d_X8_weigh_103 : decode cX8_weigh 103 = .ok (.iload_n 3, 1) := by decide +kernel
theorem d_X8_weigh_104 : decode cX8_weigh 104 = .ok (.invokevirtual 61, 3) := by decide +kernel
theorem d_X8_weigh_107 : decode cX8_weigh 107 = .ok (.iinc 3 1, 3) := by decide +kernel
theorem d_X8_weigh_110 : decode cX8_weigh 110 = .ok (.goto (-27), 3) := by decide +kernel
theorem d_X8_weigh_113 : decode cX8_weigh 113 = .ok (.aload_n 0, 1) := by decide +kernel
theorem d_X8_weigh_114 : decode cX8_weigh 114 = .ok (.iload 5, 2) := by decide +kernel
theorem d_X8_weigh_116 : decode cX8_weigh 116 = .ok (.aload_n 1, 1) := by decide +kernel
theorem d_X8_weigh_117 : decode cX8_weigh 117 = .ok (.getfield 51, 3) := by decide +kernel
theorem d_X8_weigh_120 : decode cX8_weigh 120 = .ok (.iconst 1, 1) := by decide +kernel
theorem d_X8_weigh_121 : decode cX8_weigh 121 = .ok (.iload 6, 2) := by decide +kernel
theorem d_X8_weigh_123 : decode cX8_weigh 123 = .ok (.iconst 3, 1) := by decide +kernel
theorem d_X8_weigh_124 : decode cX8_weigh 124 = .ok (.invokevirtual 57, 3) := by decide +kernel
theorem d_X8_weigh_127 : decode cX8_weigh 127 = .ok (.invokevirtual 65, 3) := by decide +kernel
theorem d_X8_weigh_130 : decode cX8_weigh 130 = .ok (.iinc 4 1, 3) := by decide +kernel
theorem d_X8_weigh_133 : decode cX8_weigh 133 = .ok (.goto (-93), 3) := by decide +kernel
theorem d_X8_weigh_136 : decode cX8_weigh 136 = .ok (.return_, 1) := by decide +kernel
def f_X8_weigh (this : Nat) (a1 : Nat) (a2 : Int32) : sa_M Unit :=
sa_gd 8 this (
sa_bnd (sa_wrI 8 this 5 1) fun _ =>
sa_bnd (sa_rdR 8 this 3) fun v1 =>
sa_bnd (f_X8_isClearBeside this a1 a2) fun v2 =>
sa_jn1 (fun (y3 : Int32) =>
sa_bnd (sa_stI v1 0 y3) fun _ =>
sa_bnd (sa_rdR 8 this 4) fun v4 =>
sa_bnd (sa_stI v4 0 0) fun _ =>
sa_let (0 : Int32) fun x5 =>
sa_let (1 : Int32) fun x6 =>
sa_wh2 (fun j40 (x7 : Int32) (x8 : Int32) =>
sa_bnd (f_X9_placesOf a1 a2) fun v9 =>
if v9 ≤ x8 then
sa_ret ()
else
sa_bnd (f_X9_placeOf a1 a2 x8) fun v10 =>
sa_bnd (f_X9_wayTo a1 a2 x8) fun v11 =>
sa_bnd (sa_rdR 9 a1 2) fun v12 =>
sa_bnd (f_X1_cell v12 1 v11 2) fun v13 =>
sa_let ((x7 + v13) : Int32) fun x14 =>
sa_wh1 (fun j83 (x15 : Int32) =>
sa_jn0 (sa_bnd (sa_rdR 9 a1 2) fun v16 =>
sa_bnd (f_X1_cell v16 1 v11 3) fun v17 =>
sa_bnd (f_X8_compare this v10 v17) fun _ =>
sa_let ((x8 + 1) : Int32) fun x18 =>
j40 x15 x18) fun j113 =>
if x14 ≤ x15 then
j113
else
sa_bnd (sa_rdI 8 this 5) fun v19 =>
if 4096 ≤ v19 then
j113
else
sa_bnd (f_X8_addHour this a1 v10 x15) fun _ =>
sa_let ((x15 + 1) : Int32) fun x20 =>
j83 x20) sa_F x7) sa_F x5 x6) fun j27 =>
if v2 = 0 then
j27 (-1)
else
sa_bnd (sa_rdI 9 a1 5) fun v21 =>
j27 v21)
set_option maxHeartbeats 1000000 in
set_option maxRecDepth 10000 in
theorem b_X8_weigh {p : Program} {l : Launch} {e : Env} {s : State} {m : MethodId} {args : Array Value} {below : List Frame} {meth : Method} {c : Code} {D : va_G} {ad : Nat → Nat} {cA : FieldType → ClassId} {A : Nat → Prop} (this : Nat) (a1 : Nat) (a2 : Int32) (C : sa_C p s m args meth c cX8_weigh RX8 "weigh" 8 none D ad cA A) : sa_Sg p l e s m args below meth c 8 5 D ad cA A sa_eV 0 [(0, .ref (ad this)), (1, .ref (ad a1)), (2, .int a2)] [] (f_X8_weigh this a1 a2) := by
  unfold f_X8_weigh
  refine sa_gdI ?_
  refine sa_aload_n C d_X8_weigh_0 rfl 0 rfl ?_
  refine sa_iconst (v := 1) C d_X8_weigh_1 (by decide) ?_
  refine sa_putI C fd_X8_28 d_X8_weigh_2 ?_
  refine sa_aload_n C d_X8_weigh_5 rfl 0 rfl ?_
  refine sa_getR C fd_X8_18 rfl d_X8_weigh_6 (fun v1 => ?_)
  refine sa_iconst (v := 0) C d_X8_weigh_9 (by decide) ?_
  refine sa_aload_n C d_X8_weigh_10 rfl 0 rfl ?_
  refine sa_aload_n C d_X8_weigh_11 rfl 1 rfl ?_
  refine sa_iload_n C d_X8_weigh_12 rfl 2 rfl ?_
  refine sa_invV (ci := 8) C (k_X8_isClearBeside this a1 a2) q1193 ds_X8_isClearBeside q126 rfl q1192 q38 q1190 (gd_X8_isClearBeside this a1 a2) rfl rfl rfl (Nat.le_of_ble_eq_true rfl) (by decide) (by decide) d_X8_weigh_13 (fun v2 => ?_)
  refine sa_join1 27 (fun y3 => [(0, .ref (ad this)), (1, .ref (ad a1)), (2, .int a2)]) (fun y3 => [.int y3, .int 0, .ref (ad v1)]) (fun y3 => ?_) (fun j27 hj27 => ?_)
  · refine sa_iast C d_X8_weigh_27 ?_
    refine sa_aload_n C d_X8_weigh_28 rfl 0 rfl ?_
    refine sa_getR C fd_X8_21 rfl d_X8_weigh_29 (fun v4 => ?_)
    refine sa_iconst (v := 0) C d_X8_weigh_32 (by decide) ?_
    refine sa_iconst (v := 0) C d_X8_weigh_33 (by decide) ?_
    refine sa_iast C d_X8_weigh_34 ?_
    refine sa_iconst (v := 0) C d_X8_weigh_35 (by decide) ?_
    refine sa_topi (fun x5 => ?_)
    refine sa_istore_n (lv' := [(3, .int x5), (0, .ref (ad this)), (1, .ref (ad a1)), (2, .int a2)]) C d_X8_weigh_36 rfl (by decide) rfl ?_
    refine sa_iconst (v := 1) C d_X8_weigh_37 (by decide) ?_
    refine sa_topi (fun x6 => ?_)
    refine sa_istore (lv' := [(4, .int x6), (3, .int x5), (0, .ref (ad this)), (1, .ref (ad a1)), (2, .int a2)]) C d_X8_weigh_38 (by decide) rfl ?_
    refine sa_sub [2, 3, 4, 1, 0] rfl (sa_loop2 (fun x7 x8 => [(0, .ref (ad this)), (1, .ref (ad a1)), (2, .int a2), (3, .int x7), (4, .int x8)]) (fun x7 x8 => []) (fun j40 hj40 x7 x8 => ?_) _ _ _)
    refine sa_iload C d_X8_weigh_40 4 rfl ?_
    refine sa_aload_n C d_X8_weigh_42 rfl 1 rfl ?_
    refine sa_iload_n C d_X8_weigh_43 rfl 2 rfl ?_
    refine sa_invV (ci := 9) C (k_X9_placesOf a1 a2) q1197 ds_X9_placesOf q125 rfl q1195 q1196 q1194 (gd_X9_placesOf a1 a2) rfl rfl rfl (Nat.le_of_ble_eq_true rfl) (by decide) (by decide) d_X8_weigh_44 (fun v9 => ?_)
    refine sa_icmp_ge (tgt := 136) C d_X8_weigh_47 (by decide) ?_ ?_
    · exact sa_vret C d_X8_weigh_136
    refine sa_aload_n C d_X8_weigh_50 rfl 1 rfl ?_
    refine sa_iload_n C d_X8_weigh_51 rfl 2 rfl ?_
    refine sa_iload C d_X8_weigh_52 4 rfl ?_
    refine sa_invV (ci := 9) C (k_X9_placeOf a1 a2 x8) q1059 ds_X9_placeOf q125 rfl q1057 q1058 q1198 (gd_X9_placeOf a1 a2 x8) rfl rfl rfl (Nat.le_of_ble_eq_true rfl) (by decide) (by decide) d_X8_weigh_54 (fun v10 => ?_)
    refine sa_istore (lv' := [(5, .int v10), (0, .ref (ad this)), (1, .ref (ad a1)), (2, .int a2), (3, .int x7), (4, .int x8)]) C d_X8_weigh_57 (by decide) rfl ?_
    refine sa_aload_n C d_X8_weigh_59 rfl 2 rfl ?_
    refine sa_iload_n C d_X8_weigh_60 rfl 3 rfl ?_
    refine sa_iload C d_X8_weigh_61 5 rfl ?_
    refine sa_invV (ci := 9) C (k_X9_wayTo a1 a2 x8) q1055 ds_X9_wayTo q125 rfl q1053 q1054 q1199 (gd_X9_wayTo a1 a2 x8) rfl rfl rfl (Nat.le_of_ble_eq_true rfl) (by decide) (by decide) d_X8_weigh_63 (fun v11 => ?_)
    refine sa_istore (lv' := [(6, .int v11), (5, .int v10), (0, .ref (ad this)), (1, .ref (ad a1)), (2, .int a2), (3, .int x7), (4, .int x8)]) C d_X8_weigh_66 (by decide) rfl ?_
    refine sa_iload_n C d_X8_weigh_68 rfl 5 rfl ?_
    refine sa_aload_n C d_X8_weigh_69 rfl 3 rfl ?_
    refine sa_getR C fd_X8_51 rfl d_X8_weigh_70 (fun v12 => ?_)
    refine sa_iconst (v := 1) C d_X8_weigh_73 (by decide) ?_
    refine sa_iload C d_X8_weigh_74 0 rfl ?_
    refine sa_iconst (v := 2) C d_X8_weigh_76 (by decide) ?_
    refine sa_invV (ci := 1) C (k_X1_cell v12 1 v11 2) q644 ds_X1_cell q116 rfl q642 q643 q1200 (gd_X1_cell v12 1 v11 2) rfl rfl rfl (Nat.le_of_ble_eq_true rfl) (by decide) (by decide) d_X8_weigh_77 (fun v13 => ?_)
    refine sa_iadd C d_X8_weigh_80 ?_
    refine sa_topi (fun x14 => ?_)
    refine sa_istore (lv' := [(7, .int x14), (6, .int v11), (5, .int v10), (0, .ref (ad this)), (1, .ref (ad a1)), (2, .int a2), (3, .int x7), (4, .int x8)]) C d_X8_weigh_81 (by decide) rfl ?_
    refine sa_sub [3, 4, 5, 6, 7, 2, 1, 0] rfl (sa_loop1 (fun x15 => [(0, .ref (ad this)), (1, .ref (ad a1)), (2, .int a2), (3, .int x15), (4, .int x8), (5, .int v10), (6, .int v11), (7, .int x14)]) (fun x15 => []) (fun j83 hj83 x15 => ?_) _ _)
    refine sa_iload_n C d_X8_weigh_83 rfl 3 rfl ?_
    refine sa_iload C d_X8_weigh_84 7 rfl ?_
    refine sa_join0 113 ([(0, .ref (ad this)), (1, .ref (ad a1)), (2, .int a2), (3, .int x15), (4, .int x8), (5, .int v10), (6, .int v11)]) ([]) (?_) (fun j113 hj113 => ?_)
    · refine sa_aload_n C d_X8_weigh_113 rfl 0 rfl ?_
      refine sa_iload C d_X8_weigh_114 5 rfl ?_
      refine sa_aload_n C d_X8_weigh_116 rfl 1 rfl ?_
      refine sa_getR C fd_X8_51 rfl d_X8_weigh_117 (fun v16 => ?_)
      refine sa_iconst (v := 1) C d_X8_weigh_120 (by decide) ?_
      refine sa_iload C d_X8_weigh_121 6 rfl ?_
      refine sa_iconst (v := 3) C d_X8_weigh_123 (by decide) ?_
      refine sa_invV (ci := 1) C (k_X1_cell v16 1 v11 3) q644 ds_X1_cell q116 rfl q642 q643 q1200 (gd_X1_cell v16 1 v11 3) rfl rfl rfl (Nat.le_of_ble_eq_true rfl) (by decide) (by decide) d_X8_weigh_124 (fun v17 => ?_)
      refine sa_invV (ci := 8) C (k_X8_compare this v10 v17) q1212 ds_X8_compare q126 rfl q1211 q40 q1209 (gd_X8_compare this v10 v17) rfl rfl rfl (Nat.le_of_ble_eq_true rfl) (by decide) (by decide) d_X8_weigh_127 (fun _ => ?_)
      refine sa_iinc C (fun zz => [(4, .int zz), (0, .ref (ad this)), (1, .ref (ad a1)), (2, .int a2), (3, .int x15), (5, .int v10), (6, .int v11)]) d_X8_weigh_130 4 rfl rfl (by decide) (fun _ => rfl) (fun x18 => ?_)
      refine sa_goto (tgt := 40) C d_X8_weigh_133 (by decide) ?_
      exact sa_sub [1, 2, 3, 4, 0] rfl (hj40 _ _)
    refine sa_icmp_ge (tgt := 113) C d_X8_weigh_86 (by decide) ?_ ?_
    · exact sa_sub [0, 1, 2, 3, 4, 5, 6] rfl (hj113)
    refine sa_aload_n C d_X8_weigh_89 rfl 0 rfl ?_
    refine sa_getI C fd_X8_28 d_X8_weigh_90 (fun v19 => ?_)
    refine sa_sipush (v := 4096) C d_X8_weigh_93 (by decide) ?_
    refine sa_icmp_ge (tgt := 113) C d_X8_weigh_96 (by decide) ?_ ?_
    · exact sa_sub [0, 1, 2, 3, 4, 5, 6] rfl (hj113)
    refine sa_aload_n C d_X8_weigh_99 rfl 0 rfl ?_
    refine sa_aload_n C d_X8_weigh_100 rfl 1 rfl ?_
    refine sa_iload C d_X8_weigh_101 5 rfl ?_
    refine sa_iload_n C d_X8_weigh_103 rfl 3 rfl ?_
    refine sa_invV (ci := 8) C (k_X8_addHour this a1 v10 x15) q1204 ds_X8_addHour q126 rfl q1203 q39 q1201 (gd_X8_addHour this a1 v10 x15) rfl rfl rfl (Nat.le_of_ble_eq_true rfl) (by decide) (by decide) d_X8_weigh_104 (fun _ => ?_)
    refine sa_iinc C (fun zz => [(3, .int zz), (0, .ref (ad this)), (1, .ref (ad a1)), (2, .int a2), (4, .int x8), (5, .int v10), (6, .int v11), (7, .int x14)]) d_X8_weigh_107 3 rfl rfl (by decide) (fun _ => rfl) (fun x20 => ?_)
    refine sa_goto (tgt := 83) C d_X8_weigh_110 (by decide) ?_
    exact sa_sub [1, 2, 3, 0, 4, 5, 6, 7] rfl (hj83 _)
  refine sa_if_eq (tgt := 26) C d_X8_weigh_16 (by decide) ?_ ?_
  · refine sa_iconst (v := (-1)) C d_X8_weigh_26 (by decide) ?_
    exact sa_sub [0, 1, 2] rfl (hj27 _)
  refine sa_aload_n C d_X8_weigh_19 rfl 1 rfl ?_
  refine sa_getI C fd_X8_35 d_X8_weigh_20 (fun v21 => ?_)
  refine sa_goto (tgt := 27) C d_X8_weigh_23 (by decide) ?_
  exact sa_sub [0, 1, 2] rfl (hj27 _)
theorem k_X8_weigh (this : Nat) (a1 : Nat) (a2 : Int32) : sa_Met 5 yX8_weigh cX8_weigh 8 none (fun ad => [.ref (ad this), .ref (ad a1), .int a2]) sa_eV (f_X8_weigh this a1 a2) := sa_mk (by decide) (fun ad => Nat.le_of_ble_eq_true rfl) (fun p l e s m args below meth c D ad cA A C => b_X8_weigh this a1 a2 C)
theorem gd_X8_weigh (this : Nat) (a1 : Nat) (a2 : Int32) (σ : sa_St) (r : Unit) (τ : sa_St) (h : f_X8_weigh this a1 a2 σ = some (r, τ)) : sa_sh this = some (.inl 8) := sa_gd_ok h
theorem d_X8_setsThatFit_0 : decode cX8_setsThatFit 0 = .ok (.iconst 0, 1) := by decide +kernel
theorem d_X8_setsThatFit_1 : decode cX8_setsThatFit 1 = .ok (.istore_n 1, 1) := by decide +kernel
theorem d_X8_setsThatFit_2 : decode cX8_setsThatFit 2 = .ok (.iconst 0, 1) := by decide +kernel
theorem d_X8_setsThatFit_3 : decode cX8_setsThatFit 3 = .ok (.istore_n 2, 1) := by decide +kernel
theorem d_X8_setsThatFit_4 : decode cX8_setsThatFit 4 = .ok (.iload_n 2, 1) := by decide +kernel
theorem d_X8_setsThatFit_5 : decode cX8_setsThatFit 5 = .ok (.aload_n 0, 1) := by decide +kernel
theorem d_X8_setsThatFit_6 : decode cX8_setsThatFit 6 = .ok (.getfield 28, 3) := by decide +kernel
theorem d_X8_setsThatFit_9 : decode cX8_setsThatFit 9 = .ok (.if_icmp .ge 21, 3) := by decide +kernel
theorem d_X8_setsThatFit_12 : decode cX8_setsThatFit 12 = .ok (.aload_n 0, 1) := by decide +kernel
theorem d_X8_setsThatFit_13 : decode cX8_setsThatFit 13 = .ok (.getfield 18, 3) := by decide +kernel
theorem d_X8_setsThatFit_16 : decode cX8_setsThatFit 16 = .ok (.iload_n 2, 1) := by decide +kernel
theorem d_X8_setsThatFit_17 : decode cX8_setsThatFit 17 = .ok (.iaload, 1) := by decide +kernel
theorem d_X8_setsThatFit_18 : decode cX8_setsThatFit 18 = .ok (.ifCond .lt 6, 3) := by decide +kernel
theorem d_X8_setsThatFit_21 : decode cX8_setsThatFit 21 = .ok (.iinc 1 1, 3) := by decide +kernel
theorem d_X8_setsThatFit_24 : decode cX8_setsThatFit 24 = .ok (.iinc 2 1, 3) := by decide +kernel
theorem d_X8_setsThatFit_27 : decode cX8_setsThatFit 27 = .ok (.goto (-23), 3) := by decide +kernel
theorem d_X8_setsThatFit_30 : decode cX8_setsThatFit 30 = .ok (.iload_n 1, 1) := by decide +kernel
theorem d_X8_setsThatFit_31 : decode cX8_setsThatFit 31 = .ok (.ireturn, 1) := by decide +kernel
def f_X8_setsThatFit (this : Nat) : sa_M Int32 :=
sa_gd 8 this (
sa_let (0 : Int32) fun x1 =>
sa_let (0 : Int32) fun x2 =>
sa_wh2 (fun j4 (x3 : Int32) (x4 : Int32) =>
sa_bnd (sa_rdI 8 this 5) fun v5 =>
if v5 ≤ x4 then
sa_ret (x3 : Int32)
else
sa_bnd (sa_rdR 8 this 3) fun v6 =>
sa_bnd (sa_ldI .int v6 x4) fun v7 =>
sa_jn1 (fun (x8 : Int32) =>
sa_let ((x4 + 1) : Int32) fun x9 =>
j4 x8 x9) fun j24 =>
if v7 < 0 then
j24 x3
else
sa_let ((x3 + 1) : Int32) fun x10 =>
j24 x10) sa_F x1 x2)
set_option maxHeartbeats 1000000 in
set_option maxRecDepth 10000 in
theorem b_X8_setsThatFit {p : Program} {l : Launch} {e : Env} {s : State} {m : MethodId} {args : Array Value} {below : List Frame} {meth : Method} {c : Code} {D : va_G} {ad : Nat → Nat} {cA : FieldType → ClassId} {A : Nat → Prop} (this : Nat) (C : sa_C p s m args meth c cX8_setsThatFit RX8 "setsThatFit" 3 (some .int) D ad cA A) : sa_Sg p l e s m args below meth c 3 1 D ad cA A sa_eI 0 [(0, .ref (ad this))] [] (f_X8_setsThatFit this) := by
  unfold f_X8_setsThatFit
  refine sa_gdI ?_
  refine sa_iconst (v := 0) C d_X8_setsThatFit_0 (by decide) ?_
  refine sa_topi (fun x1 => ?_)
  refine sa_istore_n (lv' := [(1, .int x1), (0, .ref (ad this))]) C d_X8_setsThatFit_1 rfl (by decide) rfl ?_
  refine sa_iconst (v := 0) C d_X8_setsThatFit_2 (by decide) ?_
  refine sa_topi (fun x2 => ?_)
  refine sa_istore_n (lv' := [(2, .int x2), (1, .int x1), (0, .ref (ad this))]) C d_X8_setsThatFit_3 rfl (by decide) rfl ?_
  refine sa_sub [2, 1, 0] rfl (sa_loop2 (fun x3 x4 => [(0, .ref (ad this)), (1, .int x3), (2, .int x4)]) (fun x3 x4 => []) (fun j4 hj4 x3 x4 => ?_) _ _ _)
  refine sa_iload_n C d_X8_setsThatFit_4 rfl 2 rfl ?_
  refine sa_aload_n C d_X8_setsThatFit_5 rfl 0 rfl ?_
  refine sa_getI C fd_X8_28 d_X8_setsThatFit_6 (fun v5 => ?_)
  refine sa_icmp_ge (tgt := 30) C d_X8_setsThatFit_9 (by decide) ?_ ?_
  · refine sa_iload_n C d_X8_setsThatFit_30 rfl 1 rfl ?_
    exact sa_iret C d_X8_setsThatFit_31
  refine sa_aload_n C d_X8_setsThatFit_12 rfl 0 rfl ?_
  refine sa_getR C fd_X8_18 rfl d_X8_setsThatFit_13 (fun v6 => ?_)
  refine sa_iload_n C d_X8_setsThatFit_16 rfl 2 rfl ?_
  refine sa_iald C d_X8_setsThatFit_17 (fun v7 => ?_)
  refine sa_join1 24 (fun x8 => [(0, .ref (ad this)), (1, .int x8), (2, .int x4)]) (fun x8 => []) (fun x8 => ?_) (fun j24 hj24 => ?_)
  · refine sa_iinc C (fun zz => [(2, .int zz), (0, .ref (ad this)), (1, .int x8)]) d_X8_setsThatFit_24 2 rfl rfl (by decide) (fun _ => rfl) (fun x9 => ?_)
    refine sa_goto (tgt := 4) C d_X8_setsThatFit_27 (by decide) ?_
    exact sa_sub [1, 2, 0] rfl (hj4 _ _)
  refine sa_if_lt (tgt := 24) C d_X8_setsThatFit_18 (by decide) ?_ ?_
  · exact sa_sub [0, 1, 2] rfl (hj24 _)
  refine sa_iinc C (fun zz => [(1, .int zz), (0, .ref (ad this)), (2, .int x4)]) d_X8_setsThatFit_21 1 rfl rfl (by decide) (fun _ => rfl) (fun x10 => ?_)
  exact sa_sub [1, 0, 2] rfl (hj24 _)
theorem k_X8_setsThatFit (this : Nat) : sa_Met 1 yX8_setsThatFit cX8_setsThatFit 3 (some .int) (fun ad => [.ref (ad this)]) sa_eI (f_X8_setsThatFit this) := sa_mk (by decide) (fun ad => Nat.le_of_ble_eq_true rfl) (fun p l e s m args below meth c D ad cA A C => b_X8_setsThatFit this C)
theorem gd_X8_setsThatFit (this : Nat) (σ : sa_St) (r : Int32) (τ : sa_St) (h : f_X8_setsThatFit this σ = some (r, τ)) : sa_sh this = some (.inl 8) := sa_gd_ok h
theorem d_X8_setThatFits_0 : decode cX8_setThatFits 0 = .ok (.iload_n 1, 1) := by decide +kernel
theorem d_X8_setThatFits_1 : decode cX8_setThatFits 1 = .ok (.istore_n 2, 1) := by decide +kernel
theorem d_X8_setThatFits_2 : decode cX8_setThatFits 2 = .ok (.iconst 0, 1) := by decide +kernel
theorem d_X8_setThatFits_3 : decode cX8_setThatFits 3 = .ok (.istore_n 3, 1) := by decide +kernel
theorem d_X8_setThatFits_4 : decode cX8_setThatFits 4 = .ok (.iload_n 3, 1) := by decide +kernel
theorem d_X8_setThatFits_5 : decode cX8_setThatFits 5 = .ok (.aload_n 0, 1) := by decide +kernel
theorem d_X8_setThatFits_6 : decode cX8_setThatFits 6 = .ok (.getfield 28, 3) := by decide +kernel
theorem d_X8_setThatFits_9 : decode cX8_setThatFits 9 = .ok (.if_icmp .ge 27, 3) := by decide +kernel
theorem d_X8_setThatFits_12 : decode cX8_setThatFits 12 = .ok (.aload_n 0, 1) := by decide +kernel
theorem d_X8_setThatFits_13 : decode cX8_setThatFits 13 = .ok (.getfield 18, 3) := by decide +kernel
theorem d_X8_setThatFits_16 : decode cX8_setThatFits 16 = .ok (.iload_n 3, 1) := by decide +kernel
theorem d_X8_setThatFits_17 : decode cX8_setThatFits 17 = .ok (.iaload, 1) := by decide +kernel
theorem d_X8_setThatFits_18 : decode cX8_setThatFits 18 = .ok (.ifCond .lt 12, 3) := by decide +kernel
theorem d_X8_setThatFits_21 : decode cX8_setThatFits 21 = .ok (.iload_n 2, 1) := by decide +kernel
theorem d_X8_setThatFits_22 : decode cX8_setThatFits 22 = .ok (.ifCond .ne 5, 3) := by decide +kernel
theorem d_X8_setThatFits_25 : decode cX8_setThatFits 25 = .ok (.iload_n 3, 1) := by decide +kernel
theorem d_X8_setThatFits_26 : decode cX8_setThatFits 26 = .ok (.ireturn, 1) := by decide +kernel
theorem d_X8_setThatFits_27 : decode cX8_setThatFits 27 = .ok (.iinc 2 (-1), 3) := by decide +kernel
theorem d_X8_setThatFits_30 : decode cX8_setThatFits 30 = .ok (.iinc 3 1, 3) := by decide +kernel
theorem d_X8_setThatFits_33 : decode cX8_setThatFits 33 = .ok (.goto (-29), 3) := by decide +kernel
theorem d_X8_setThatFits_36 : decode cX8_setThatFits 36 = .ok (.iconst (-1), 1) := by decide +kernel
theorem d_X8_setThatFits_37 : decode cX8_setThatFits 37 = .ok (.ireturn, 1) := by decide +kernel
def f_X8_setThatFits (this : Nat) (a1 : Int32) : sa_M Int32 :=
sa_gd 8 this (
sa_let (0 : Int32) fun x1 =>
sa_wh2 (fun j4 (x2 : Int32) (x3 : Int32) =>
sa_bnd (sa_rdI 8 this 5) fun v4 =>
if v4 ≤ x3 then
sa_ret ((-1) : Int32)
else
sa_bnd (sa_rdR 8 this 3) fun v5 =>
sa_bnd (sa_ldI .int v5 x3) fun v6 =>
sa_jn1 (fun (x7 : Int32) =>
sa_let ((x3 + 1) : Int32) fun x8 =>
j4 x7 x8) fun j30 =>
if v6 < 0 then
j30 x2
else
if ¬ x2 = 0 then
sa_let ((x2 + (-1)) : Int32) fun x9 =>
j30 x9
else
sa_ret (x3 : Int32)) sa_F a1 x1)
set_option maxHeartbeats 1000000 in
set_option maxRecDepth 10000 in
theorem b_X8_setThatFits {p : Program} {l : Launch} {e : Env} {s : State} {m : MethodId} {args : Array Value} {below : List Frame} {meth : Method} {c : Code} {D : va_G} {ad : Nat → Nat} {cA : FieldType → ClassId} {A : Nat → Prop} (this : Nat) (a1 : Int32) (C : sa_C p s m args meth c cX8_setThatFits RX8 "setThatFits" 4 (some .int) D ad cA A) : sa_Sg p l e s m args below meth c 4 1 D ad cA A sa_eI 0 [(0, .ref (ad this)), (1, .int a1)] [] (f_X8_setThatFits this a1) := by
  unfold f_X8_setThatFits
  refine sa_gdI ?_
  refine sa_iload_n C d_X8_setThatFits_0 rfl 1 rfl ?_
  refine sa_istore_n (lv' := [(2, .int a1), (0, .ref (ad this)), (1, .int a1)]) C d_X8_setThatFits_1 rfl (by decide) rfl ?_
  refine sa_iconst (v := 0) C d_X8_setThatFits_2 (by decide) ?_
  refine sa_topi (fun x1 => ?_)
  refine sa_istore_n (lv' := [(3, .int x1), (2, .int a1), (0, .ref (ad this)), (1, .int a1)]) C d_X8_setThatFits_3 rfl (by decide) rfl ?_
  refine sa_sub [2, 1, 0] rfl (sa_loop2 (fun x2 x3 => [(0, .ref (ad this)), (2, .int x2), (3, .int x3)]) (fun x2 x3 => []) (fun j4 hj4 x2 x3 => ?_) _ _ _)
  refine sa_iload_n C d_X8_setThatFits_4 rfl 2 rfl ?_
  refine sa_aload_n C d_X8_setThatFits_5 rfl 0 rfl ?_
  refine sa_getI C fd_X8_28 d_X8_setThatFits_6 (fun v4 => ?_)
  refine sa_icmp_ge (tgt := 36) C d_X8_setThatFits_9 (by decide) ?_ ?_
  · refine sa_iconst (v := (-1)) C d_X8_setThatFits_36 (by decide) ?_
    exact sa_iret C d_X8_setThatFits_37
  refine sa_aload_n C d_X8_setThatFits_12 rfl 0 rfl ?_
  refine sa_getR C fd_X8_18 rfl d_X8_setThatFits_13 (fun v5 => ?_)
  refine sa_iload_n C d_X8_setThatFits_16 rfl 2 rfl ?_
  refine sa_iald C d_X8_setThatFits_17 (fun v6 => ?_)
  refine sa_join1 30 (fun x7 => [(0, .ref (ad this)), (2, .int x7), (3, .int x3)]) (fun x7 => []) (fun x7 => ?_) (fun j30 hj30 => ?_)
  · refine sa_iinc C (fun zz => [(3, .int zz), (0, .ref (ad this)), (2, .int x7)]) d_X8_setThatFits_30 2 rfl rfl (by decide) (fun _ => rfl) (fun x8 => ?_)
    refine sa_goto (tgt := 4) C d_X8_setThatFits_33 (by decide) ?_
    exact sa_sub [1, 2, 0] rfl (hj4 _ _)
  refine sa_if_lt (tgt := 30) C d_X8_setThatFits_18 (by decide) ?_ ?_
  · exact sa_sub [0, 1, 2] rfl (hj30 _)
  refine sa_iload_n C d_X8_setThatFits_21 rfl 1 rfl ?_
  refine sa_if_ne (tgt := 27) C d_X8_setThatFits_22 (by decide) ?_ ?_
  · refine sa_iinc C (fun zz => [(2, .int zz), (0, .ref (ad this)), (3, .int x3)]) d_X8_setThatFits_27 1 rfl rfl (by decide) (fun _ => rfl) (fun x9 => ?_)
    exact sa_sub [1, 0, 2] rfl (hj30 _)
  refine sa_iload_n C d_X8_setThatFits_25 rfl 2 rfl ?_
  exact sa_iret C d_X8_setThatFits_26
theorem k_X8_setThatFits (this : Nat) (a1 : Int32) : sa_Met 1 yX8_setThatFits cX8_setThatFits 4 (some .int) (fun ad => [.ref (ad this), .int a1]) sa_eI (f_X8_setThatFits this a1) := sa_mk (by decide) (fun ad => Nat.le_of_ble_eq_true rfl) (fun p l e s m args below meth c D ad cA A C => b_X8_setThatFits this a1 C)
theorem gd_X8_setThatFits (this : Nat) (a1 : Int32) (σ : sa_St) (r : Int32) (τ : sa_St) (h : f_X8_setThatFits this a1 σ = some (r, τ)) : sa_sh this = some (.inl 8) := sa_gd_ok h
theorem d_X10_set_0 : decode cX10_set 0 = .ok (.aload_n 0, 1) := by decide +kernel
theorem d_X10_set_1 : decode cX10_set 1 = .ok (.getfield 11, 3) := by decide +kernel
theorem d_X10_set_4 : decode cX10_set 4 = .ok (.iconst 0, 1) := by decide +kernel
theorem d_X10_set_5 : decode cX10_set 5 = .ok (.invokestatic 18, 3) := by decide +kernel
theorem d_X10_set_8 : decode cX10_set 8 = .ok (.iconst 1, 1) := by decide +kernel
theorem d_X10_set_9 : decode cX10_set 9 = .ok (.istore 4, 2) := by decide +kernel
theorem d_X10_set_11 : decode cX10_set 11 = .ok (.iconst 0, 1) := by decide +kernel
theorem d_X10_set_12 : decode cX10_set 12 = .ok (.istore 5, 2) := by decide +kernel
theorem d_X10_set_14 : decode cX10_set 14 = .ok (.iload 5, 2) := by decide +kernel
theorem d_X10_set_16 : decode cX10_set 16 = .ok (.bipush 8, 2) := by decide +kernel
theorem d_X10_set_18 : decode cX10_set 18 = .ok (.if_icmp .ge 67, 3) := by decide +kernel
theorem d_X10_set_21 : decode cX10_set 21 = .ok (.aload_n 1, 1) := by decide +kernel
theorem d_X10_set_22 : decode cX10_set 22 = .ok (.iload 5, 2) := by decide +kernel
theorem d_X10_set_24 : decode cX10_set 24 = .ok (.invokevirtual 24, 3) := by decide +kernel
theorem d_X10_set_27 : decode cX10_set 27 = .ok (.ifCond .eq 52, 3) := by decide +kernel
theorem d_X10_set_30 : decode cX10_set 30 = .ok (.iload 4, 2) := by decide +kernel
theorem d_X10_set_32 : decode cX10_set 32 = .ok (.ifCond .eq 18, 3) := by decide +kernel
theorem d_X10_set_35 : decode cX10_set 35 = .ok (.aload_n 1, 1) := by decide +kernel
theorem d_X10_set_36 : decode cX10_set 36 = .ok (.iload 5, 2) := by decide +kernel
theorem d_X10_set_38 : decode cX10_set 38 = .ok (.iconst 2, 1) := by decide +kernel
theorem d_X10_set_39 : decode cX10_set 39 = .ok (.invokevirtual 30, 3) := by decide +kernel
theorem d_X10_set_42 : decode cX10_set 42 = .ok (.iload_n 3, 1) := by decide +kernel
theorem d_X10_set_43 : decode cX10_set 43 = .ok (.if_icmp .lt 7, 3) := by decide +kernel
theorem d_X10_set_46 : decode cX10_set 46 = .ok (.iconst 1, 1) := by decide +kernel
theorem d_X10_set_47 : decode cX10_set 47 = .ok (.goto 4, 3) := by decide +kernel
theorem d_X10_set_50 : decode cX10_set 50 = .ok (.iconst 0, 1) := by decide +kernel
theorem d_X10_set_51 : decode cX10_set 51 = .ok (.istore 4, 2) := by decide +kernel
theorem d_X10_set_53 : decode cX10_set 53 = .ok (.aload_n 0, 1) := by decide +kernel
theorem d_X10_set_54 : decode cX10_set 54 = .ok (.getfield 11, 3) := by decide +kernel
theorem d_X10_set_57 : decode cX10_set 57 = .ok (.iload 5, 2) := by decide +kernel
theorem d_X10_set_59 : decode cX10_set 59 = .ok (.iconst 0, 1) := by decide +kernel
theorem d_X10_set_60 : decode cX10_set 60 = .ok (.aload_n 1, 1) := by decide +kernel
theorem d_X10_set_61 : decode cX10_set 61 = .ok (.iload 5, 2) := by decide +kernel
theorem d_X10_set_63 : decode cX10_set 63 = .ok (.iconst 2, 1) := by decide +kernel
theorem d_X10_set_64 : decode cX10_set 64 = .ok (.invokevirtual 30, 3) := by decide +kernel
theorem d_X10_set_67 : decode cX10_set 67 = .ok (.iload_n 3, 1) := by decide +kernel
theorem d_X10_set_68 : decode cX10_set 68 = .ok (.isub, 1) := by decide +kernel
theorem d_X10_set_69 : decode cX10_set 69 = .ok (.invokestatic 34, 3) := by decide +kernel
theorem d_X10_set_72 : decode cX10_set 72 = .ok (.iconst 1, 1) := by decide +kernel
theorem d_X10_set_73 : decode cX10_set 73 = .ok (.iload_n 2, 1) := by decide +kernel
theorem d_X10_set_74 : decode cX10_set 74 = .ok (.invokestatic 34, 3) := by decide +kernel
theorem d_X10_set_77 : decode cX10_set 77 = .ok (.idiv, 1) := by decide +kernel
theorem d_X10_set_78 : decode cX10_set 78 = .ok (.iastore, 1) := by decide +kernel
theorem d_X10_set_79 : decode cX10_set 79 = .ok (.iinc 5 1, 3) := by decide +kernel
theorem d_X10_set_82 : decode cX10_set 82 = .ok (.goto (-68), 3) := by decide +kernel
theorem d_X10_set_85 : decode cX10_set 85 = .ok (.iload 4, 2) := by decide +kernel
theorem d_X10_set_87 : decode cX10_set 87 = .ok (.ifCond .ne 11, 3) := by decide +kernel
theorem d_X10_set_90 : decode cX10_set 90 = .ok (.aload_n 0, 1) := by decide +kernel
theorem d_X10_set_91 : decode cX10_set 91 = .ok (.getfield 11, 3) := by decide +kernel
theorem d_X10_set_94 : decode cX10_set 94 = .ok (.iconst 0, 1) := by decide +kernel
theorem d_X10_set_95 : decode cX10_set 95 = .ok (.invokestatic 18, 3) := by decide +kernel
theorem d_X10_set_98 : decode cX10_set 98 = .ok (.return_, 1) := by decide +kernel
def f_X10_set (this : Nat) (a1 : Nat) (a2 : Int32) (a3 : Int32) : sa_M Unit :=
sa_gd 10 this (
sa_bnd (sa_rdR 10 this 0) fun v1 =>
sa_bnd (f_J7_fill_53178 v1 0) fun _ =>
sa_let (1 : Int32) fun x2 =>
sa_let (0 : Int32) fun x3 =>
sa_wh2 (fun j14 (x4 : Int32) (x5 : Int32) =>
if 8 ≤ x5 then
sa_jn0 (sa_ret ()) fun j98 =>
if ¬ x4 = 0 then
j98
else
sa_bnd (sa_rdR 10 this 0) fun v6 =>
sa_bnd (f_J7_fill_53178 v6 0) fun _ =>
j98
else
sa_bnd (f_X0_lives a1 x5) fun v7 =>
sa_jn1 (fun (x8 : Int32) =>
sa_let ((x5 + 1) : Int32) fun x9 =>
j14 x8 x9) fun j79 =>
if v7 = 0 then
j79 x4
else
sa_jn1 (fun (y10 : Int32) =>
sa_bnd (sa_rdR 10 this 0) fun v11 =>
sa_bnd (f_X0_of a1 x5 2) fun v12 =>
sa_bnd (sa_dv (sa_max 0 (v12 - a3)) (sa_max 1 a2)) fun v13 =>
sa_bnd (sa_stI v11 x5 v13) fun _ =>
j79 y10) fun j51 =>
sa_jn0 (j51 0) fun j50 =>
if x4 = 0 then
j50
else
sa_bnd (f_X0_of a1 x5 2) fun v14 =>
if v14 < a3 then
j50
else
j51 1) sa_F x2 x3)
set_option maxHeartbeats 1000000 in
set_option maxRecDepth 10000 in
theorem b_X10_set {p : Program} {l : Launch} {e : Env} {s : State} {m : MethodId} {args : Array Value} {below : List Frame} {meth : Method} {c : Code} {D : va_G} {ad : Nat → Nat} {cA : FieldType → ClassId} {A : Nat → Prop} (this : Nat) (a1 : Nat) (a2 : Int32) (a3 : Int32) (C : sa_C p s m args meth c cX10_set RX10 "set" 6 none D ad cA A) : sa_Sg p l e s m args below meth c 6 3 D ad cA A sa_eV 0 [(0, .ref (ad this)), (1, .ref (ad a1)), (2, .int a2), (3, .int a3)] [] (f_X10_set this a1 a2 a3) := by
  unfold f_X10_set
  refine sa_gdI ?_
  refine sa_aload_n C d_X10_set_0 rfl 0 rfl ?_
  refine sa_getR C fd_X10_11 rfl d_X10_set_1 (fun v1 => ?_)
  refine sa_iconst (v := 0) C d_X10_set_4 (by decide) ?_
  refine sa_invS C (k_J7_fill_53178 v1 0) q309 ds_J7_fill_53178 q124 q308 q1150 rfl rfl rfl (Nat.le_of_ble_eq_true rfl) (by decide) (by decide) d_X10_set_5 (fun _ => ?_)
  refine sa_iconst (v := 1) C d_X10_set_8 (by decide) ?_
  refine sa_topi (fun x2 => ?_)
  refine sa_istore (lv' := [(4, .int x2), (0, .ref (ad this)), (1, .ref (ad a1)), (2, .int a2), (3, .int a3)]) C d_X10_set_9 (by decide) rfl ?_
  refine sa_iconst (v := 0) C d_X10_set_11 (by decide) ?_
  refine sa_topi (fun x3 => ?_)
  refine sa_istore (lv' := [(5, .int x3), (4, .int x2), (0, .ref (ad this)), (1, .ref (ad a1)), (2, .int a2), (3, .int a3)]) C d_X10_set_12 (by decide) rfl ?_
  refine sa_sub [2, 3, 4, 5, 1, 0] rfl (sa_loop2 (fun x4 x5 => [(0, .ref (ad this)), (1, .ref (ad a1)), (2, .int a2), (3, .int a3), (4, .int x4), (5, .int x5)]) (fun x4 x5 => []) (fun j14 hj14 x4 x5 => ?_) _ _ _)
  refine sa_iload C d_X10_set_14 5 rfl ?_
  refine sa_bipush (v := 8) C d_X10_set_16 (by decide) ?_
  refine sa_icmp_ge (tgt := 85) C d_X10_set_18 (by decide) ?_ ?_
  · refine sa_iload C d_X10_set_85 4 rfl ?_
    refine sa_join0 98 ([]) ([]) (?_) (fun j98 hj98 => ?_)
    · exact sa_vret C d_X10_set_98
    refine sa_if_ne (tgt := 98) C d_X10_set_87 (by decide) ?_ ?_
    · exact sa_sub [] rfl (hj98)
    refine sa_aload_n C d_X10_set_90 rfl 0 rfl ?_
    refine sa_getR C fd_X10_11 rfl d_X10_set_91 (fun v6 => ?_)
    refine sa_iconst (v := 0) C d_X10_set_94 (by decide) ?_
    refine sa_invS C (k_J7_fill_53178 v6 0) q309 ds_J7_fill_53178 q124 q308 q1150 rfl rfl rfl (Nat.le_of_ble_eq_true rfl) (by decide) (by decide) d_X10_set_95 (fun _ => ?_)
    exact sa_sub [] rfl (hj98)
  refine sa_aload_n C d_X10_set_21 rfl 1 rfl ?_
  refine sa_iload C d_X10_set_22 5 rfl ?_
  refine sa_invV (ci := 0) C (k_X0_lives a1 x5) q793 ds_X0_lives q121 rfl q791 q792 q1151 (gd_X0_lives a1 x5) rfl rfl rfl (Nat.le_of_ble_eq_true rfl) (by decide) (by decide) d_X10_set_24 (fun v7 => ?_)
  refine sa_join1 79 (fun x8 => [(0, .ref (ad this)), (1, .ref (ad a1)), (2, .int a2), (3, .int a3), (4, .int x8), (5, .int x5)]) (fun x8 => []) (fun x8 => ?_) (fun j79 hj79 => ?_)
  · refine sa_iinc C (fun zz => [(5, .int zz), (0, .ref (ad this)), (1, .ref (ad a1)), (2, .int a2), (3, .int a3), (4, .int x8)]) d_X10_set_79 5 rfl rfl (by decide) (fun _ => rfl) (fun x9 => ?_)
    refine sa_goto (tgt := 14) C d_X10_set_82 (by decide) ?_
    exact sa_sub [1, 2, 3, 4, 5, 0] rfl (hj14 _ _)
  refine sa_if_eq (tgt := 79) C d_X10_set_27 (by decide) ?_ ?_
  · exact sa_sub [0, 1, 2, 3, 4, 5] rfl (hj79 _)
  refine sa_iload C d_X10_set_30 4 rfl ?_
  refine sa_join1 51 (fun y10 => [(0, .ref (ad this)), (1, .ref (ad a1)), (2, .int a2), (3, .int a3), (5, .int x5)]) (fun y10 => [.int y10]) (fun y10 => ?_) (fun j51 hj51 => ?_)
  · refine sa_istore (lv' := [(4, .int y10), (0, .ref (ad this)), (1, .ref (ad a1)), (2, .int a2), (3, .int a3), (5, .int x5)]) C d_X10_set_51 (by decide) rfl ?_
    refine sa_aload_n C d_X10_set_53 rfl 1 rfl ?_
    refine sa_getR C fd_X10_11 rfl d_X10_set_54 (fun v11 => ?_)
    refine sa_iload C d_X10_set_57 5 rfl ?_
    refine sa_iconst (v := 0) C d_X10_set_59 (by decide) ?_
    refine sa_aload_n C d_X10_set_60 rfl 2 rfl ?_
    refine sa_iload C d_X10_set_61 5 rfl ?_
    refine sa_iconst (v := 2) C d_X10_set_63 (by decide) ?_
    refine sa_invV (ci := 0) C (k_X0_of a1 x5 2) q801 ds_X0_of q121 rfl q799 q800 q1152 (gd_X0_of a1 x5 2) rfl rfl rfl (Nat.le_of_ble_eq_true rfl) (by decide) (by decide) d_X10_set_64 (fun v12 => ?_)
    refine sa_iload_n C d_X10_set_67 rfl 4 rfl ?_
    refine sa_isub C d_X10_set_68 ?_
    refine sa_mmax C q1153 (Nat.le_of_ble_eq_true rfl) (by decide) q527 q130 q528 d_X10_set_69 ?_
    refine sa_iconst (v := 1) C d_X10_set_72 (by decide) ?_
    refine sa_iload_n C d_X10_set_73 rfl 3 rfl ?_
    refine sa_mmax C q1153 (Nat.le_of_ble_eq_true rfl) (by decide) q527 q130 q528 d_X10_set_74 ?_
    refine sa_idiv C d_X10_set_77 (fun v13 => ?_)
    refine sa_iast C d_X10_set_78 ?_
    exact sa_sub [1, 2, 3, 4, 0, 5] rfl (hj79 _)
  refine sa_join0 50 ([(0, .ref (ad this)), (1, .ref (ad a1)), (2, .int a2), (3, .int a3), (5, .int x5)]) ([]) (?_) (fun j50 hj50 => ?_)
  · refine sa_iconst (v := 0) C d_X10_set_50 (by decide) ?_
    exact sa_sub [0, 1, 2, 3, 4] rfl (hj51 _)
  refine sa_if_eq (tgt := 50) C d_X10_set_32 (by decide) ?_ ?_
  · exact sa_sub [0, 1, 2, 3, 5] rfl (hj50)
  refine sa_aload_n C d_X10_set_35 rfl 1 rfl ?_
  refine sa_iload C d_X10_set_36 5 rfl ?_
  refine sa_iconst (v := 2) C d_X10_set_38 (by decide) ?_
  refine sa_invV (ci := 0) C (k_X0_of a1 x5 2) q801 ds_X0_of q121 rfl q799 q800 q1152 (gd_X0_of a1 x5 2) rfl rfl rfl (Nat.le_of_ble_eq_true rfl) (by decide) (by decide) d_X10_set_39 (fun v14 => ?_)
  refine sa_iload_n C d_X10_set_42 rfl 3 rfl ?_
  refine sa_icmp_lt (tgt := 50) C d_X10_set_43 (by decide) ?_ ?_
  · exact sa_sub [0, 1, 2, 3, 5] rfl (hj50)
  refine sa_iconst (v := 1) C d_X10_set_46 (by decide) ?_
  refine sa_goto (tgt := 51) C d_X10_set_47 (by decide) ?_
  exact sa_sub [0, 1, 2, 3, 5] rfl (hj51 _)
theorem k_X10_set (this : Nat) (a1 : Nat) (a2 : Int32) (a3 : Int32) : sa_Met 3 yX10_set cX10_set 6 none (fun ad => [.ref (ad this), .ref (ad a1), .int a2, .int a3]) sa_eV (f_X10_set this a1 a2 a3) := sa_mk (by decide) (fun ad => Nat.le_of_ble_eq_true rfl) (fun p l e s m args below meth c D ad cA A C => b_X10_set this a1 a2 a3 C)
theorem gd_X10_set (this : Nat) (a1 : Nat) (a2 : Int32) (a3 : Int32) (σ : sa_St) (r : Unit) (τ : sa_St) (h : f_X10_set this a1 a2 a3 σ = some (r, τ)) : sa_sh this = some (.inl 10) := sa_gd_ok h
theorem d_X10_rows_0 : decode cX10_rows 0 = .ok (.aload_n 0, 1) := by decide +kernel
theorem d_X10_rows_1 : decode cX10_rows 1 = .ok (.getfield 15, 3) := by decide +kernel
theorem d_X10_rows_4 : decode cX10_rows 4 = .ok (.iconst 0, 1) := by decide +kernel
theorem d_X10_rows_5 : decode cX10_rows 5 = .ok (.invokestatic 18, 3) := by decide +kernel
theorem d_X10_rows_8 : decode cX10_rows 8 = .ok (.aload_n 0, 1) := by decide +kernel
theorem d_X10_rows_9 : decode cX10_rows 9 = .ok (.getfield 15, 3) := by decide +kernel
theorem d_X10_rows_12 : decode cX10_rows 12 = .ok (.iconst 0, 1) := by decide +kernel
theorem d_X10_rows_13 : decode cX10_rows 13 = .ok (.iconst 1, 1) := by decide +kernel
theorem d_X10_rows_14 : decode cX10_rows 14 = .ok (.iastore, 1) := by decide +kernel
theorem d_X10_rows_15 : decode cX10_rows 15 = .ok (.iconst 0, 1) := by decide +kernel
theorem d_X10_rows_16 : decode cX10_rows 16 = .ok (.istore_n 2, 1) := by decide +kernel
theorem d_X10_rows_17 : decode cX10_rows 17 = .ok (.iload_n 2, 1) := by decide +kernel
theorem d_X10_rows_18 : decode cX10_rows 18 = .ok (.bipush 8, 2) := by decide +kernel
theorem d_X10_rows_20 : decode cX10_rows 20 = .ok (.if_icmp .ge 89, 3) := by decide +kernel
theorem d_X10_rows_23 : decode cX10_rows 23 = .ok (.iload_n 1, 1) := by decide +kernel
theorem d_X10_rows_24 : decode cX10_rows 24 = .ok (.bipush 6, 2) := by decide +kernel
theorem d_X10_rows_26 : decode cX10_rows 26 = .ok (.invokestatic 39, 3) := by decide +kernel
theorem d_X10_rows_29 : decode cX10_rows 29 = .ok (.istore_n 3, 1) := by decide +kernel
theorem d_X10_rows_30 : decode cX10_rows 30 = .ok (.iload_n 3, 1) := by decide +kernel
theorem d_X10_rows_31 : decode cX10_rows 31 = .ok (.ifCond .lt 72, 3) := by decide +kernel
theorem d_X10_rows_34 : decode cX10_rows 34 = .ok (.iconst 0, 1) := by decide +kernel
theorem d_X10_rows_35 : decode cX10_rows 35 = .ok (.istore 4, 2) := by decide +kernel
theorem d_X10_rows_37 : decode cX10_rows 37 = .ok (.iconst 0, 1) := by decide +kernel
theorem d_X10_rows_38 : decode cX10_rows 38 = .ok (.istore 5, 2) := by decide +kernel
theorem d_X10_rows_40 : decode cX10_rows 40 = .ok (.iload 5, 2) := by decide +kernel
theorem d_X10_rows_42 : decode cX10_rows 42 = .ok (.iload_n 3, 1) := by decide +kernel
theorem d_X10_rows_43 : decode cX10_rows 43 = .ok (.if_icmp .gt 46, 3) := by decide +kernel
theorem d_X10_rows_46 : decode cX10_rows 46 = .ok (.iload 5, 2) := by decide +kernel
theorem d_X10_rows_48 : decode cX10_rows 48 = .ok (.aload_n 0, 1) := by decide +kernel
theorem d_X10_rows_49 : decode cX10_rows 49 = .ok (.getfield 11, 3) := by decide +kernel
theorem d_X10_rows_52 : decode cX10_rows 52 = .ok (.iload_n 2, 1) := by decide +kernel
theorem d_X10_rows_53 : decode cX10_rows 53 = .ok (.iaload, 1) := by decide +kernel
theorem d_X10_rows_54 : decode cX10_rows 54 = .ok (.if_icmp .gt 35, 3) := by decide +kernel
theorem d_X10_rows_57 : decode cX10_rows 57 = .ok (.iload 4, 2) := by decide +kernel
theorem d_X10_rows_59 : decode cX10_rows 59 = .ok (.getstatic 42, 3) := by decide +kernel
theorem d_X10_rows_62 : decode cX10_rows 62 = .ok (.iload_n 3, 1) := by decide +kernel
theorem d_X10_rows_63 : decode cX10_rows 63 = .ok (.bipush 7, 2) := by decide +kernel
theorem d_X10_rows_65 : decode cX10_rows 65 = .ok (.imul, 1) := by decide +kernel
theorem d_X10_rows_66 : decode cX10_rows 66 = .ok (.iload 5, 2) := by decide +kernel
theorem d_X10_rows_68 : decode cX10_rows 68 = .ok (.iadd, 1) := by decide +kernel
theorem d_X10_rows_69 : decode cX10_rows 69 = .ok (.iaload, 1) := by decide +kernel
theorem d_X10_rows_70 : decode cX10_rows 70 = .ok (.aload_n 0, 1) := by decide +kernel
theorem d_X10_rows_71 : decode cX10_rows 71 = .ok (.getfield 15, 3) := by decide +kernel
theorem d_X10_rows_74 : decode cX10_rows 74 = .ok (.iload_n 3, 1) := by decide +kernel
theorem d_X10_rows_75 : decode cX10_rows 75 = .ok (.iload 5, 2) := by decide +kernel
theorem d_X10_rows_77 : decode cX10_rows 77 = .ok (.isub, 1) := by decide +kernel
theorem d_X10_rows_78 : decode cX10_rows 78 = .ok (.iaload, 1) := by decide +kernel
theorem d_X10_rows_79 : decode cX10_rows 79 = .ok (.imul, 1) := by decide +kernel
theorem d_X10_rows_80 : decode cX10_rows 80 = .ok (.iadd, 1) := by decide +kernel
theorem d_X10_rows_81 : decode cX10_rows 81 = .ok (.istore 4, 2) := by decide +kernel
theorem d_X10_rows_83 : decode cX10_rows 83 = .ok (.iinc 5 1, 3) := by decide +kernel
theorem d_X10_rows_86 : decode cX10_rows 86 = .ok (.goto (-46), 3) := by decide +kernel
theorem d_X10_rows_89 : decode cX10_rows 89 = .ok (.aload_n 0, 1) := by decide +kernel
theorem d_X10_rows_90 : decode cX10_rows 90 = .ok (.getfield 15, 3) := by decide +kernel
theorem d_X10_rows_93 : decode cX10_rows 93 = .ok (.iload_n 3, 1) := by decide +kernel
theorem d_X10_rows_94 : decode cX10_rows 94 = .ok (.iload 4, 2) := by decide +kernel
theorem d_X10_rows_96 : decode cX10_rows 96 = .ok (.iastore, 1) := by decide +kernel
theorem d_X10_rows_97 : decode cX10_rows 97 = .ok (.iinc 3 (-1), 3) := by decide +kernel
theorem d_X10_rows_100 : decode cX10_rows 100 = .ok (.goto (-70), 3) := by decide +kernel
theorem d_X10_rows_103 : decode cX10_rows 103 = .ok (.iinc 2 1, 3) := by decide +kernel
theorem d_X10_rows_106 : decode cX10_rows 106 = .ok (.goto (-89), 3) := by decide +kernel
theorem d_X10_rows_109 : decode cX10_rows 109 = .ok (.iload_n 1, 1) := by decide +kernel
theorem d_X10_rows_110 : decode cX10_rows 110 = .ok (.ifCond .lt 18, 3) := by decide +kernel
theorem d_X10_rows_113 : decode cX10_rows 113 = .ok (.iload_n 1, 1) := by decide +kernel
theorem d_X10_rows_114 : decode cX10_rows 114 = .ok (.bipush 6, 2) := by decide +kernel
theorem d_X10_rows_116 : decode cX10_rows 116 = .ok (.if_icmp .gt 12, 3) := by decide +kernel
theorem d_X10_rows_119 : decode cX10_rows 119 = .ok (.aload_n 0, 1) := by decide +kernel
theorem d_X10_rows_120 : decode cX10_rows 120 = .ok (.getfield 15, 3) := by decide +kernel
theorem d_X10_rows_123 : decode cX10_rows 123 = .ok (.iload_n 1, 1) := by decide +kernel
theorem d_X10_rows_124 : decode cX10_rows 124 = .ok (.iaload, 1) := by decide +kernel
theorem d_X10_rows_125 : decode cX10_rows 125 = .ok (.goto 4, 3) := by decide +kernel
theorem d_X10_rows_128 : decode cX10_rows 128 = .ok (.iconst 0, 1) := by decide +kernel
theorem d_X10_rows_129 : decode cX10_rows 129 = .ok (.ireturn, 1) := by decide +kernel
def f_X10_rows (this : Nat) (a1 : Int32) : sa_M Int32 :=
sa_gd 10 this (
sa_bnd (sa_rdR 10 this 1) fun v1 =>
sa_bnd (f_J7_fill_53178 v1 0) fun _ =>
sa_bnd (sa_rdR 10 this 1) fun v2 =>
sa_bnd (sa_stI v2 0 1) fun _ =>
sa_let (0 : Int32) fun x3 =>
sa_wh1 (fun j17 (x4 : Int32) =>
if 8 ≤ x4 then
sa_jn1 (fun (y5 : Int32) =>
sa_ret (y5 : Int32)) fun j129 =>
sa_jn0 (j129 0) fun j128 =>
if a1 < 0 then
j128
else
if 6 < a1 then
j128
else
sa_bnd (sa_rdR 10 this 1) fun v6 =>
sa_bnd (sa_ldI .int v6 a1) fun v7 =>
j129 v7
else
sa_let ((sa_min a1 6) : Int32) fun x8 =>
sa_wh1 (fun j30 (x9 : Int32) =>
if x9 < 0 then
sa_let ((x4 + 1) : Int32) fun x10 =>
j17 x10
else
sa_let (0 : Int32) fun x11 =>
sa_let (0 : Int32) fun x12 =>
sa_wh2 (fun j40 (x13 : Int32) (x14 : Int32) =>
sa_jn0 (sa_bnd (sa_rdR 10 this 1) fun v15 =>
sa_bnd (sa_stI v15 x9 x13) fun _ =>
sa_let ((x9 + (-1)) : Int32) fun x16 =>
j30 x16) fun j89 =>
if x9 < x14 then
j89
else
sa_bnd (sa_rdR 10 this 0) fun v17 =>
sa_bnd (sa_ldI .int v17 x4) fun v18 =>
if v18 < x14 then
j89
else
sa_bnd (sa_tb 6 ((x9 * 7) + x14)) fun v19 =>
sa_bnd (sa_rdR 10 this 1) fun v20 =>
sa_bnd (sa_ldI .int v20 (x9 - x14)) fun v21 =>
sa_let ((x13 + (v19 * v21)) : Int32) fun x22 =>
sa_let ((x14 + 1) : Int32) fun x23 =>
j40 x22 x23) sa_F x11 x12) sa_F x8) sa_F x3)
set_option maxHeartbeats 1000000 in
set_option maxRecDepth 10000 in
theorem b_X10_rows {p : Program} {l : Launch} {e : Env} {s : State} {m : MethodId} {args : Array Value} {below : List Frame} {meth : Method} {c : Code} {D : va_G} {ad : Nat → Nat} {cA : FieldType → ClassId} {A : Nat → Prop} (this : Nat) (a1 : Int32) (C : sa_C p s m args meth c cX10_rows RX10 "rows" 6 (some .int) D ad cA A) : sa_Sg p l e s m args below meth c 6 2 D ad cA A sa_eI 0 [(0, .ref (ad this)), (1, .int a1)] [] (f_X10_rows this a1) := by
  unfold f_X10_rows
  refine sa_gdI ?_
  refine sa_aload_n C d_X10_rows_0 rfl 0 rfl ?_
  refine sa_getR C fd_X10_15 rfl d_X10_rows_1 (fun v1 => ?_)
  refine sa_iconst (v := 0) C d_X10_rows_4 (by decide) ?_
  refine sa_invS C (k_J7_fill_53178 v1 0) q309 ds_J7_fill_53178 q124 q308 q1150 rfl rfl rfl (Nat.le_of_ble_eq_true rfl) (by decide) (by decide) d_X10_rows_5 (fun _ => ?_)
  refine sa_aload_n C d_X10_rows_8 rfl 0 rfl ?_
  refine sa_getR C fd_X10_15 rfl d_X10_rows_9 (fun v2 => ?_)
  refine sa_iconst (v := 0) C d_X10_rows_12 (by decide) ?_
  refine sa_iconst (v := 1) C d_X10_rows_13 (by decide) ?_
  refine sa_iast C d_X10_rows_14 ?_
  refine sa_iconst (v := 0) C d_X10_rows_15 (by decide) ?_
  refine sa_topi (fun x3 => ?_)
  refine sa_istore_n (lv' := [(2, .int x3), (0, .ref (ad this)), (1, .int a1)]) C d_X10_rows_16 rfl (by decide) rfl ?_
  refine sa_sub [1, 2, 0] rfl (sa_loop1 (fun x4 => [(0, .ref (ad this)), (1, .int a1), (2, .int x4)]) (fun x4 => []) (fun j17 hj17 x4 => ?_) _ _)
  refine sa_iload_n C d_X10_rows_17 rfl 2 rfl ?_
  refine sa_bipush (v := 8) C d_X10_rows_18 (by decide) ?_
  refine sa_icmp_ge (tgt := 109) C d_X10_rows_20 (by decide) ?_ ?_
  · refine sa_iload_n C d_X10_rows_109 rfl 1 rfl ?_
    refine sa_join1 129 (fun y5 => []) (fun y5 => [.int y5]) (fun y5 => ?_) (fun j129 hj129 => ?_)
    · exact sa_iret C d_X10_rows_129
    refine sa_join0 128 ([]) ([]) (?_) (fun j128 hj128 => ?_)
    · refine sa_iconst (v := 0) C d_X10_rows_128 (by decide) ?_
      exact sa_sub [] rfl (hj129 _)
    refine sa_if_lt (tgt := 128) C d_X10_rows_110 (by decide) ?_ ?_
    · exact sa_sub [] rfl (hj128)
    refine sa_iload_n C d_X10_rows_113 rfl 1 rfl ?_
    refine sa_bipush (v := 6) C d_X10_rows_114 (by decide) ?_
    refine sa_icmp_gt (tgt := 128) C d_X10_rows_116 (by decide) ?_ ?_
    · exact sa_sub [] rfl (hj128)
    refine sa_aload_n C d_X10_rows_119 rfl 0 rfl ?_
    refine sa_getR C fd_X10_15 rfl d_X10_rows_120 (fun v6 => ?_)
    refine sa_iload_n C d_X10_rows_123 rfl 1 rfl ?_
    refine sa_iald C d_X10_rows_124 (fun v7 => ?_)
    refine sa_goto (tgt := 129) C d_X10_rows_125 (by decide) ?_
    exact sa_sub [] rfl (hj129 _)
  refine sa_iload_n C d_X10_rows_23 rfl 1 rfl ?_
  refine sa_bipush (v := 6) C d_X10_rows_24 (by decide) ?_
  refine sa_mmin C q1158 (Nat.le_of_ble_eq_true rfl) (by decide) q530 q130 q531 d_X10_rows_26 ?_
  refine sa_topi (fun x8 => ?_)
  refine sa_istore_n (lv' := [(3, .int x8), (0, .ref (ad this)), (1, .int a1), (2, .int x4)]) C d_X10_rows_29 rfl (by decide) rfl ?_
  refine sa_sub [1, 2, 3, 0] rfl (sa_loop1 (fun x9 => [(0, .ref (ad this)), (1, .int a1), (2, .int x4), (3, .int x9)]) (fun x9 => []) (fun j30 hj30 x9 => ?_) _ _)
  refine sa_iload_n C d_X10_rows_30 rfl 3 rfl ?_
  refine sa_if_lt (tgt := 103) C d_X10_rows_31 (by decide) ?_ ?_
  · refine sa_iinc C (fun zz => [(2, .int zz), (0, .ref (ad this)), (1, .int a1), (3, .int x9)]) d_X10_rows_103 2 rfl rfl (by decide) (fun _ => rfl) (fun x10 => ?_)
    refine sa_goto (tgt := 17) C d_X10_rows_106 (by decide) ?_
    exact sa_sub [1, 2, 0] rfl (hj17 _)
  refine sa_iconst (v := 0) C d_X10_rows_34 (by decide) ?_
  refine sa_topi (fun x11 => ?_)
  refine sa_istore (lv' := [(4, .int x11), (0, .ref (ad this)), (1, .int a1), (2, .int x4), (3, .int x9)]) C d_X10_rows_35 (by decide) rfl ?_
  refine sa_iconst (v := 0) C d_X10_rows_37 (by decide) ?_
  refine sa_topi (fun x12 => ?_)
  refine sa_istore (lv' := [(5, .int x12), (4, .int x11), (0, .ref (ad this)), (1, .int a1), (2, .int x4), (3, .int x9)]) C d_X10_rows_38 (by decide) rfl ?_
  refine sa_sub [2, 3, 4, 5, 1, 0] rfl (sa_loop2 (fun x13 x14 => [(0, .ref (ad this)), (1, .int a1), (2, .int x4), (3, .int x9), (4, .int x13), (5, .int x14)]) (fun x13 x14 => []) (fun j40 hj40 x13 x14 => ?_) _ _ _)
  refine sa_iload C d_X10_rows_40 5 rfl ?_
  refine sa_iload_n C d_X10_rows_42 rfl 3 rfl ?_
  refine sa_join0 89 ([(0, .ref (ad this)), (1, .int a1), (2, .int x4), (3, .int x9), (4, .int x13)]) ([]) (?_) (fun j89 hj89 => ?_)
  · refine sa_aload_n C d_X10_rows_89 rfl 0 rfl ?_
    refine sa_getR C fd_X10_15 rfl d_X10_rows_90 (fun v15 => ?_)
    refine sa_iload_n C d_X10_rows_93 rfl 3 rfl ?_
    refine sa_iload C d_X10_rows_94 4 rfl ?_
    refine sa_iast C d_X10_rows_96 ?_
    refine sa_iinc C (fun zz => [(3, .int zz), (0, .ref (ad this)), (1, .int a1), (2, .int x4), (4, .int x13)]) d_X10_rows_97 3 rfl rfl (by decide) (fun _ => rfl) (fun x16 => ?_)
    refine sa_goto (tgt := 30) C d_X10_rows_100 (by decide) ?_
    exact sa_sub [1, 2, 3, 0] rfl (hj30 _)
  refine sa_icmp_gt (tgt := 89) C d_X10_rows_43 (by decide) ?_ ?_
  · exact sa_sub [0, 1, 2, 3, 4] rfl (hj89)
  refine sa_iload C d_X10_rows_46 5 rfl ?_
  refine sa_aload_n C d_X10_rows_48 rfl 0 rfl ?_
  refine sa_getR C fd_X10_11 rfl d_X10_rows_49 (fun v17 => ?_)
  refine sa_iload_n C d_X10_rows_52 rfl 2 rfl ?_
  refine sa_iald C d_X10_rows_53 (fun v18 => ?_)
  refine sa_icmp_gt (tgt := 89) C d_X10_rows_54 (by decide) ?_ ?_
  · exact sa_sub [0, 1, 2, 3, 4] rfl (hj89)
  refine sa_iload C d_X10_rows_57 4 rfl ?_
  refine sa_gets (j := 6) C rfl q1159 d_X10_rows_59 ?_
  refine sa_iload_n C d_X10_rows_62 rfl 3 rfl ?_
  refine sa_bipush (v := 7) C d_X10_rows_63 (by decide) ?_
  refine sa_imul C d_X10_rows_65 ?_
  refine sa_iload C d_X10_rows_66 5 rfl ?_
  refine sa_iadd C d_X10_rows_68 ?_
  refine sa_tld C rfl d_X10_rows_69 (fun v19 => ?_)
  refine sa_aload_n C d_X10_rows_70 rfl 0 rfl ?_
  refine sa_getR C fd_X10_15 rfl d_X10_rows_71 (fun v20 => ?_)
  refine sa_iload_n C d_X10_rows_74 rfl 3 rfl ?_
  refine sa_iload C d_X10_rows_75 5 rfl ?_
  refine sa_isub C d_X10_rows_77 ?_
  refine sa_iald C d_X10_rows_78 (fun v21 => ?_)
  refine sa_imul C d_X10_rows_79 ?_
  refine sa_iadd C d_X10_rows_80 ?_
  refine sa_topi (fun x22 => ?_)
  refine sa_istore (lv' := [(4, .int x22), (0, .ref (ad this)), (1, .int a1), (2, .int x4), (3, .int x9), (5, .int x14)]) C d_X10_rows_81 (by decide) rfl ?_
  refine sa_iinc C (fun zz => [(5, .int zz), (4, .int x22), (0, .ref (ad this)), (1, .int a1), (2, .int x4), (3, .int x9)]) d_X10_rows_83 5 rfl rfl (by decide) (fun _ => rfl) (fun x23 => ?_)
  refine sa_goto (tgt := 40) C d_X10_rows_86 (by decide) ?_
  exact sa_sub [2, 3, 4, 5, 1, 0] rfl (hj40 _ _)
theorem k_X10_rows (this : Nat) (a1 : Int32) : sa_Met 2 yX10_rows cX10_rows 6 (some .int) (fun ad => [.ref (ad this), .int a1]) sa_eI (f_X10_rows this a1) := sa_mk (by decide) (fun ad => Nat.le_of_ble_eq_true rfl) (fun p l e s m args below meth c D ad cA A C => b_X10_rows this a1 C)
theorem gd_X10_rows (this : Nat) (a1 : Int32) (σ : sa_St) (r : Int32) (τ : sa_St) (h : f_X10_rows this a1 σ = some (r, τ)) : sa_sh this = some (.inl 10) := sa_gd_ok h
theorem d_X10_rowsBehind_0 : decode cX10_rowsBehind 0 = .ok (.aload_n 0, 1) := by decide +kernel
theorem d_X10_rowsBehind_1 : decode cX10_rowsBehind 1 = .ok (.getfield 11, 3) := by decide +kernel
theorem d_X10_rowsBehind_4 : decode cX10_rowsBehind 4 = .ok (.iload_n 1, 1) := by decide +kernel
theorem d_X10_rowsBehind_5 : decode cX10_rowsBehind 5 = .ok (.iaload, 1) := by decide +kernel
theorem d_X10_rowsBehind_6 : decode cX10_rowsBehind 6 = .ok (.ifCond .ne 5, 3) := by decide +kernel
theorem d_X10_rowsBehind_9 : decode cX10_rowsBehind 9 = .ok (.iconst 0, 1) := by decide +kernel
theorem d_X10_rowsBehind_10 : decode cX10_rowsBehind 10 = .ok (.ireturn, 1) := by decide +kernel
theorem d_X10_rowsBehind_11 : decode cX10_rowsBehind 11 = .ok (.aload_n 0, 1) := by decide +kernel
theorem d_X10_rowsBehind_12 : decode cX10_rowsBehind 12 = .ok (.getfield 11, 3) := by decide +kernel
theorem d_X10_rowsBehind_15 : decode cX10_rowsBehind 15 = .ok (.iload_n 1, 1) := by decide +kernel
theorem d_X10_rowsBehind_16 : decode cX10_rowsBehind 16 = .ok (.dup2, 1) := by decide +kernel
theorem d_X10_rowsBehind_17 : decode cX10_rowsBehind 17 = .ok (.iaload, 1) := by decide +kernel
theorem d_X10_rowsBehind_18 : decode cX10_rowsBehind 18 = .ok (.iconst 1, 1) := by decide +kernel
theorem d_X10_rowsBehind_19 : decode cX10_rowsBehind 19 = .ok (.isub, 1) := by decide +kernel
theorem d_X10_rowsBehind_20 : decode cX10_rowsBehind 20 = .ok (.iastore, 1) := by decide +kernel
theorem d_X10_rowsBehind_21 : decode cX10_rowsBehind 21 = .ok (.aload_n 0, 1) := by decide +kernel
theorem d_X10_rowsBehind_22 : decode cX10_rowsBehind 22 = .ok (.iload_n 2, 1) := by decide +kernel
theorem d_X10_rowsBehind_23 : decode cX10_rowsBehind 23 = .ok (.invokevirtual 48, 3) := by decide +kernel
theorem d_X10_rowsBehind_26 : decode cX10_rowsBehind 26 = .ok (.istore_n 3, 1) := by decide +kernel
theorem d_X10_rowsBehind_27 : decode cX10_rowsBehind 27 = .ok (.aload_n 0, 1) := by decide +kernel
theorem d_X10_rowsBehind_28 : decode cX10_rowsBehind 28 = .ok (.getfield 11, 3) := by decide +kernel
theorem d_X10_rowsBehind_31 : decode cX10_rowsBehind 31 = .ok (.iload_n 1, 1) := by decide +kernel
theorem d_X10_rowsBehind_32 : decode cX10_rowsBehind 32 = .ok (.dup2, 1) := by decide +kernel
theorem d_X10_rowsBehind_33 : decode cX10_rowsBehind 33 = .ok (.iaload, 1) := by decide +kernel
theorem d_X10_rowsBehind_34 : decode cX10_rowsBehind 34 = .ok (.iconst 1, 1) := by decide +kernel
theorem d_X10_rowsBehind_35 : decode cX10_rowsBehind 35 = .ok (.iadd, 1) := by decide +kernel
theorem d_X10_rowsBehind_36 : decode cX10_rowsBehind 36 = .ok (.iastore, 1) := by decide +kernel
theorem d_X10_rowsBehind_37 : decode cX10_rowsBehind 37 = .ok (.iload_n 3, 1) := by decide +kernel
theorem d_X10_rowsBehind_38 : decode cX10_rowsBehind 38 = .ok (.ireturn, 1) := by decide +kernel
def f_X10_rowsBehind (this : Nat) (a1 : Int32) (a2 : Int32) : sa_M Int32 :=
sa_gd 10 this (
sa_bnd (sa_rdR 10 this 0) fun v1 =>
sa_bnd (sa_ldI .int v1 a1) fun v2 =>
if ¬ v2 = 0 then
sa_bnd (sa_rdR 10 this 0) fun v3 =>
sa_bnd (sa_ldI .int v3 a1) fun v4 =>
sa_bnd (sa_stI v3 a1 (v4 - 1)) fun _ =>
sa_bnd (f_X10_rows this a2) fun v5 =>
sa_bnd (sa_rdR 10 this 0) fun v6 =>
sa_bnd (sa_ldI .int v6 a1) fun v7 =>
sa_bnd (sa_stI v6 a1 (v7 + 1)) fun _ =>
sa_ret (v5 : Int32)
else
sa_ret (0 : Int32))
set_option maxHeartbeats 1000000 in
set_option maxRecDepth 10000 in
theorem b_X10_rowsBehind {p : Program} {l : Launch} {e : Env} {s : State} {m : MethodId} {args : Array Value} {below : List Frame} {meth : Method} {c : Code} {D : va_G} {ad : Nat → Nat} {cA : FieldType → ClassId} {A : Nat → Prop} (this : Nat) (a1 : Int32) (a2 : Int32) (C : sa_C p s m args meth c cX10_rowsBehind RX10 "rowsBehind" 4 (some .int) D ad cA A) : sa_Sg p l e s m args below meth c 4 3 D ad cA A sa_eI 0 [(0, .ref (ad this)), (1, .int a1), (2, .int a2)] [] (f_X10_rowsBehind this a1 a2) := by
  unfold f_X10_rowsBehind
  refine sa_gdI ?_
  refine sa_aload_n C d_X10_rowsBehind_0 rfl 0 rfl ?_
  refine sa_getR C fd_X10_11 rfl d_X10_rowsBehind_1 (fun v1 => ?_)
  refine sa_iload_n C d_X10_rowsBehind_4 rfl 1 rfl ?_
  refine sa_iald C d_X10_rowsBehind_5 (fun v2 => ?_)
  refine sa_if_ne (tgt := 11) C d_X10_rowsBehind_6 (by decide) ?_ ?_
  · refine sa_aload_n C d_X10_rowsBehind_11 rfl 0 rfl ?_
    refine sa_getR C fd_X10_11 rfl d_X10_rowsBehind_12 (fun v3 => ?_)
    refine sa_iload_n C d_X10_rowsBehind_15 rfl 1 rfl ?_
    refine sa_dup2_11 C d_X10_rowsBehind_16 rfl rfl ?_
    refine sa_iald C d_X10_rowsBehind_17 (fun v4 => ?_)
    refine sa_iconst (v := 1) C d_X10_rowsBehind_18 (by decide) ?_
    refine sa_isub C d_X10_rowsBehind_19 ?_
    refine sa_iast C d_X10_rowsBehind_20 ?_
    refine sa_aload_n C d_X10_rowsBehind_21 rfl 0 rfl ?_
    refine sa_iload_n C d_X10_rowsBehind_22 rfl 2 rfl ?_
    refine sa_invV (ci := 10) C (k_X10_rows this a2) q1157 ds_X10_rows q127 rfl q1155 q1156 q1169 (gd_X10_rows this a2) rfl rfl rfl (Nat.le_of_ble_eq_true rfl) (by decide) (by decide) d_X10_rowsBehind_23 (fun v5 => ?_)
    refine sa_istore_n (lv' := [(3, .int v5), (0, .ref (ad this)), (1, .int a1), (2, .int a2)]) C d_X10_rowsBehind_26 rfl (by decide) rfl ?_
    refine sa_aload_n C d_X10_rowsBehind_27 rfl 1 rfl ?_
    refine sa_getR C fd_X10_11 rfl d_X10_rowsBehind_28 (fun v6 => ?_)
    refine sa_iload_n C d_X10_rowsBehind_31 rfl 2 rfl ?_
    refine sa_dup2_11 C d_X10_rowsBehind_32 rfl rfl ?_
    refine sa_iald C d_X10_rowsBehind_33 (fun v7 => ?_)
    refine sa_iconst (v := 1) C d_X10_rowsBehind_34 (by decide) ?_
    refine sa_iadd C d_X10_rowsBehind_35 ?_
    refine sa_iast C d_X10_rowsBehind_36 ?_
    refine sa_iload_n C d_X10_rowsBehind_37 rfl 0 rfl ?_
    exact sa_iret C d_X10_rowsBehind_38
  refine sa_iconst (v := 0) C d_X10_rowsBehind_9 (by decide) ?_
  exact sa_iret C d_X10_rowsBehind_10
theorem k_X10_rowsBehind (this : Nat) (a1 : Int32) (a2 : Int32) : sa_Met 3 yX10_rowsBehind cX10_rowsBehind 4 (some .int) (fun ad => [.ref (ad this), .int a1, .int a2]) sa_eI (f_X10_rowsBehind this a1 a2) := sa_mk (by decide) (fun ad => Nat.le_of_ble_eq_true rfl) (fun p l e s m args below meth c D ad cA A C => b_X10_rowsBehind this a1 a2 C)
theorem gd_X10_rowsBehind (this : Nat) (a1 : Int32) (a2 : Int32) (σ : sa_St) (r : Int32) (τ : sa_St) (h : f_X10_rowsBehind this a1 a2 σ = some (r, τ)) : sa_sh this = some (.inl 10) := sa_gd_ok h
theorem d_X10_row_0 : decode cX10_row 0 = .ok (.iconst 0, 1) := by decide +kernel
theorem d_X10_row_1 : decode cX10_row 1 = .ok (.istore_n 3, 1) := by decide +kernel
theorem d_X10_row_2 : decode cX10_row 2 = .ok (.iload_n 2, 1) := by decide +kernel
theorem d_X10_row_3 : decode cX10_row 3 = .ok (.istore 4, 2) := by decide +kernel
theorem d_X10_row_5 : decode cX10_row 5 = .ok (.iload_n 1, 1) := by decide +kernel
theorem d_X10_row_6 : decode cX10_row 6 = .ok (.iconst 1, 1) := by decide +kernel
theorem d_X10_row_7 : decode cX10_row 7 = .ok (.isub, 1) := by decide +kernel
theorem d_X10_row_8 : decode cX10_row 8 = .ok (.istore 5, 2) := by decide +kernel
theorem d_X10_row_10 : decode cX10_row 10 = .ok (.iload 5, 2) := by decide +kernel
theorem d_X10_row_12 : decode cX10_row 12 = .ok (.ifCond .lt 78, 3) := by decide +kernel
theorem d_X10_row_15 : decode cX10_row 15 = .ok (.iconst 0, 1) := by decide +kernel
theorem d_X10_row_16 : decode cX10_row 16 = .ok (.istore 6, 2) := by decide +kernel
theorem d_X10_row_18 : decode cX10_row 18 = .ok (.aload_n 0, 1) := by decide +kernel
theorem d_X10_row_19 : decode cX10_row 19 = .ok (.iload 6, 2) := by decide +kernel
theorem d_X10_row_21 : decode cX10_row 21 = .ok (.iload 5, 2) := by decide +kernel
theorem d_X10_row_23 : decode cX10_row 23 = .ok (.invokevirtual 45, 3) := by decide +kernel
theorem d_X10_row_26 : decode cX10_row 26 = .ok (.istore 7, 2) := by decide +kernel
theorem d_X10_row_28 : decode cX10_row 28 = .ok (.iload 6, 2) := by decide +kernel
theorem d_X10_row_30 : decode cX10_row 30 = .ok (.bipush 7, 2) := by decide +kernel
theorem d_X10_row_32 : decode cX10_row 32 = .ok (.if_icmp .ge 33, 3) := by decide +kernel
theorem d_X10_row_35 : decode cX10_row 35 = .ok (.iload 4, 2) := by decide +kernel
theorem d_X10_row_37 : decode cX10_row 37 = .ok (.iload 7, 2) := by decide +kernel
theorem d_X10_row_39 : decode cX10_row 39 = .ok (.if_icmp .lt 26, 3) := by decide +kernel
theorem d_X10_row_42 : decode cX10_row 42 = .ok (.iload 4, 2) := by decide +kernel
theorem d_X10_row_44 : decode cX10_row 44 = .ok (.iload 7, 2) := by decide +kernel
theorem d_X10_row_46 : decode cX10_row 46 = .ok (.isub, 1) := by decide +kernel
theorem d_X10_row_47 : decode cX10_row 47 = .ok (.istore 4, 2) := by decide +kernel
theorem d_X10_row_49 : decode cX10_row 49 = .ok (.iinc 6 1, 3) := by decide +kernel
theorem d_X10_row_52 : decode cX10_row 52 = .ok (.aload_n 0, 1) := by decide +kernel
theorem d_X10_row_53 : decode cX10_row 53 = .ok (.iload 6, 2) := by decide +kernel
theorem d_X10_row_55 : decode cX10_row 55 = .ok (.iload 5, 2) := by decide +kernel
theorem d_X10_row_57 : decode cX10_row 57 = .ok (.invokevirtual 45, 3) := by decide +kernel
theorem d_X10_row_60 : decode cX10_row 60 = .ok (.istore 7, 2) := by decide +kernel
theorem d_X10_row_62 : decode cX10_row 62 = .ok (.goto (-34), 3) := by decide +kernel
theorem d_X10_row_65 : decode cX10_row 65 = .ok (.aload_n 0, 1) := by decide +kernel
theorem d_X10_row_66 : decode cX10_row 66 = .ok (.getfield 11, 3) := by decide +kernel
theorem d_X10_row_69 : decode cX10_row 69 = .ok (.iload 6, 2) := by decide +kernel
theorem d_X10_row_71 : decode cX10_row 71 = .ok (.dup2, 1) := by decide +kernel
theorem d_X10_row_72 : decode cX10_row 72 = .ok (.iaload, 1) := by decide +kernel
theorem d_X10_row_73 : decode cX10_row 73 = .ok (.iconst 1, 1) := by decide +kernel
theorem d_X10_row_74 : decode cX10_row 74 = .ok (.isub, 1) := by decide +kernel
theorem d_X10_row_75 : decode cX10_row 75 = .ok (.iastore, 1) := by decide +kernel
theorem d_X10_row_76 : decode cX10_row 76 = .ok (.iload_n 3, 1) := by decide +kernel
theorem d_X10_row_77 : decode cX10_row 77 = .ok (.bipush 10, 2) := by decide +kernel
theorem d_X10_row_79 : decode cX10_row 79 = .ok (.imul, 1) := by decide +kernel
theorem d_X10_row_80 : decode cX10_row 80 = .ok (.iload 6, 2) := by decide +kernel
theorem d_X10_row_82 : decode cX10_row 82 = .ok (.iadd, 1) := by decide +kernel
theorem d_X10_row_83 : decode cX10_row 83 = .ok (.istore_n 3, 1) := by decide +kernel
theorem d_X10_row_84 : decode cX10_row 84 = .ok (.iinc 5 (-1), 3) := by decide +kernel
theorem d_X10_row_87 : decode cX10_row 87 = .ok (.goto (-77), 3) := by decide +kernel
theorem d_X10_row_90 : decode cX10_row 90 = .ok (.iload_n 3, 1) := by decide +kernel
theorem d_X10_row_91 : decode cX10_row 91 = .ok (.ireturn, 1) := by decide +kernel
def f_X10_row (this : Nat) (a1 : Int32) (a2 : Int32) : sa_M Int32 :=
sa_gd 10 this (
sa_let (0 : Int32) fun x1 =>
sa_let ((a1 - 1) : Int32) fun x2 =>
sa_wh3 (fun j10 (x3 : Int32) (x4 : Int32) (x5 : Int32) =>
if x5 < 0 then
sa_ret (x3 : Int32)
else
sa_let (0 : Int32) fun x6 =>
sa_bnd (f_X10_rowsBehind this x6 x5) fun v7 =>
sa_wh3 (fun j28 (x8 : Int32) (x9 : Int32) (x10 : Int32) =>
sa_jn0 (sa_bnd (sa_rdR 10 this 0) fun v11 =>
sa_bnd (sa_ldI .int v11 x9) fun v12 =>
sa_bnd (sa_stI v11 x9 (v12 - 1)) fun _ =>
sa_let (((x3 * 10) + x9) : Int32) fun x13 =>
sa_let ((x5 + (-1)) : Int32) fun x14 =>
j10 x13 x8 x14) fun j65 =>
if 7 ≤ x9 then
j65
else
if x8 < x10 then
j65
else
sa_let ((x8 - x10) : Int32) fun x15 =>
sa_let ((x9 + 1) : Int32) fun x16 =>
sa_bnd (f_X10_rowsBehind this x16 x5) fun v17 =>
j28 x15 x16 v17) sa_F x4 x6 v7) sa_F x1 a2 x2)
set_option maxHeartbeats 1000000 in
set_option maxRecDepth 10000 in
theorem b_X10_row {p : Program} {l : Launch} {e : Env} {s : State} {m : MethodId} {args : Array Value} {below : List Frame} {meth : Method} {c : Code} {D : va_G} {ad : Nat → Nat} {cA : FieldType → ClassId} {A : Nat → Prop} (this : Nat) (a1 : Int32) (a2 : Int32) (C : sa_C p s m args meth c cX10_row RX10 "row" 8 (some .int) D ad cA A) : sa_Sg p l e s m args below meth c 8 4 D ad cA A sa_eI 0 [(0, .ref (ad this)), (1, .int a1), (2, .int a2)] [] (f_X10_row this a1 a2) := by
  unfold f_X10_row
  refine sa_gdI ?_
  refine sa_iconst (v := 0) C d_X10_row_0 (by decide) ?_
  refine sa_topi (fun x1 => ?_)
  refine sa_istore_n (lv' := [(3, .int x1), (0, .ref (ad this)), (1, .int a1), (2, .int a2)]) C d_X10_row_1 rfl (by decide) rfl ?_
  refine sa_iload_n C d_X10_row_2 rfl 3 rfl ?_
  refine sa_istore (lv' := [(4, .int a2), (3, .int x1), (0, .ref (ad this)), (1, .int a1), (2, .int a2)]) C d_X10_row_3 (by decide) rfl ?_
  refine sa_iload_n C d_X10_row_5 rfl 3 rfl ?_
  refine sa_iconst (v := 1) C d_X10_row_6 (by decide) ?_
  refine sa_isub C d_X10_row_7 ?_
  refine sa_topi (fun x2 => ?_)
  refine sa_istore (lv' := [(5, .int x2), (4, .int a2), (3, .int x1), (0, .ref (ad this)), (1, .int a1), (2, .int a2)]) C d_X10_row_8 (by decide) rfl ?_
  refine sa_sub [3, 2, 1, 0] rfl (sa_loop3 (fun x3 x4 x5 => [(0, .ref (ad this)), (3, .int x3), (4, .int x4), (5, .int x5)]) (fun x3 x4 x5 => []) (fun j10 hj10 x3 x4 x5 => ?_) _ _ _ _)
  refine sa_iload C d_X10_row_10 3 rfl ?_
  refine sa_if_lt (tgt := 90) C d_X10_row_12 (by decide) ?_ ?_
  · refine sa_iload_n C d_X10_row_90 rfl 1 rfl ?_
    exact sa_iret C d_X10_row_91
  refine sa_iconst (v := 0) C d_X10_row_15 (by decide) ?_
  refine sa_topi (fun x6 => ?_)
  refine sa_istore (lv' := [(6, .int x6), (0, .ref (ad this)), (3, .int x3), (4, .int x4), (5, .int x5)]) C d_X10_row_16 (by decide) rfl ?_
  refine sa_aload_n C d_X10_row_18 rfl 1 rfl ?_
  refine sa_iload C d_X10_row_19 0 rfl ?_
  refine sa_iload C d_X10_row_21 4 rfl ?_
  refine sa_invV (ci := 10) C (k_X10_rowsBehind this x6 x5) q1168 ds_X10_rowsBehind q127 rfl q1167 q37 q1165 (gd_X10_rowsBehind this x6 x5) rfl rfl rfl (Nat.le_of_ble_eq_true rfl) (by decide) (by decide) d_X10_row_23 (fun v7 => ?_)
  refine sa_istore (lv' := [(7, .int v7), (6, .int x6), (0, .ref (ad this)), (3, .int x3), (4, .int x4), (5, .int x5)]) C d_X10_row_26 (by decide) rfl ?_
  refine sa_sub [2, 3, 4, 5, 1, 0] rfl (sa_loop3 (fun x8 x9 x10 => [(0, .ref (ad this)), (3, .int x3), (4, .int x8), (5, .int x5), (6, .int x9), (7, .int x10)]) (fun x8 x9 x10 => []) (fun j28 hj28 x8 x9 x10 => ?_) _ _ _ _)
  refine sa_iload C d_X10_row_28 4 rfl ?_
  refine sa_bipush (v := 7) C d_X10_row_30 (by decide) ?_
  refine sa_join0 65 ([(0, .ref (ad this)), (3, .int x3), (4, .int x8), (5, .int x5), (6, .int x9)]) ([]) (?_) (fun j65 hj65 => ?_)
  · refine sa_aload_n C d_X10_row_65 rfl 0 rfl ?_
    refine sa_getR C fd_X10_11 rfl d_X10_row_66 (fun v11 => ?_)
    refine sa_iload C d_X10_row_69 4 rfl ?_
    refine sa_dup2_11 C d_X10_row_71 rfl rfl ?_
    refine sa_iald C d_X10_row_72 (fun v12 => ?_)
    refine sa_iconst (v := 1) C d_X10_row_73 (by decide) ?_
    refine sa_isub C d_X10_row_74 ?_
    refine sa_iast C d_X10_row_75 ?_
    refine sa_iload_n C d_X10_row_76 rfl 1 rfl ?_
    refine sa_bipush (v := 10) C d_X10_row_77 (by decide) ?_
    refine sa_imul C d_X10_row_79 ?_
    refine sa_iload C d_X10_row_80 4 rfl ?_
    refine sa_iadd C d_X10_row_82 ?_
    refine sa_topi (fun x13 => ?_)
    refine sa_istore_n (lv' := [(3, .int x13), (0, .ref (ad this)), (4, .int x8), (5, .int x5), (6, .int x9)]) C d_X10_row_83 rfl (by decide) rfl ?_
    refine sa_iinc C (fun zz => [(5, .int zz), (3, .int x13), (0, .ref (ad this)), (4, .int x8), (6, .int x9)]) d_X10_row_84 3 rfl rfl (by decide) (fun _ => rfl) (fun x14 => ?_)
    refine sa_goto (tgt := 10) C d_X10_row_87 (by decide) ?_
    exact sa_sub [2, 1, 3, 0] rfl (hj10 _ _ _)
  refine sa_icmp_ge (tgt := 65) C d_X10_row_32 (by decide) ?_ ?_
  · exact sa_sub [0, 1, 2, 3, 4] rfl (hj65)
  refine sa_iload C d_X10_row_35 2 rfl ?_
  refine sa_iload C d_X10_row_37 5 rfl ?_
  refine sa_icmp_lt (tgt := 65) C d_X10_row_39 (by decide) ?_ ?_
  · exact sa_sub [0, 1, 2, 3, 4] rfl (hj65)
  refine sa_iload C d_X10_row_42 2 rfl ?_
  refine sa_iload C d_X10_row_44 5 rfl ?_
  refine sa_isub C d_X10_row_46 ?_
  refine sa_topi (fun x15 => ?_)
  refine sa_istore (lv' := [(4, .int x15), (0, .ref (ad this)), (3, .int x3), (5, .int x5), (6, .int x9), (7, .int x10)]) C d_X10_row_47 (by decide) rfl ?_
  refine sa_iinc C (fun zz => [(6, .int zz), (4, .int x15), (0, .ref (ad this)), (3, .int x3), (5, .int x5), (7, .int x10)]) d_X10_row_49 4 rfl rfl (by decide) (fun _ => rfl) (fun x16 => ?_)
  refine sa_aload_n C d_X10_row_52 rfl 2 rfl ?_
  refine sa_iload C d_X10_row_53 0 rfl ?_
  refine sa_iload C d_X10_row_55 4 rfl ?_
  refine sa_invV (ci := 10) C (k_X10_rowsBehind this x16 x5) q1168 ds_X10_rowsBehind q127 rfl q1167 q37 q1165 (gd_X10_rowsBehind this x16 x5) rfl rfl rfl (Nat.le_of_ble_eq_true rfl) (by decide) (by decide) d_X10_row_57 (fun v17 => ?_)
  refine sa_istore (lv' := [(7, .int v17), (6, .int x16), (4, .int x15), (0, .ref (ad this)), (3, .int x3), (5, .int x5)]) C d_X10_row_60 (by decide) rfl ?_
  refine sa_goto (tgt := 28) C d_X10_row_62 (by decide) ?_
  exact sa_sub [3, 4, 2, 5, 1, 0] rfl (hj28 _ _ _)
theorem k_X10_row (this : Nat) (a1 : Int32) (a2 : Int32) : sa_Met 4 yX10_row cX10_row 8 (some .int) (fun ad => [.ref (ad this), .int a1, .int a2]) sa_eI (f_X10_row this a1 a2) := sa_mk (by decide) (fun ad => Nat.le_of_ble_eq_true rfl) (fun p l e s m args below meth c D ad cA A C => b_X10_row this a1 a2 C)
theorem gd_X10_row (this : Nat) (a1 : Int32) (a2 : Int32) (σ : sa_St) (r : Int32) (τ : sa_St) (h : f_X10_row this a1 a2 σ = some (r, τ)) : sa_sh this = some (.inl 10) := sa_gd_ok h
