theorem d_X12_pickets_0 : decode cX12_pickets 0 = .ok (.aload_n 0, 1) := by decide +kernel
theorem d_X12_pickets_1 : decode cX12_pickets 1 = .ok (.iconst 0, 1) := by decide +kernel
theorem d_X12_pickets_2 : decode cX12_pickets 2 = .ok (.putfield 127, 3) := by decide +kernel
theorem d_X12_pickets_5 : decode cX12_pickets 5 = .ok (.aload_n 0, 1) := by decide +kernel
theorem d_X12_pickets_6 : decode cX12_pickets 6 = .ok (.iload_n 1, 1) := by decide +kernel
theorem d_X12_pickets_7 : decode cX12_pickets 7 = .ok (.iload_n 2, 1) := by decide +kernel
theorem d_X12_pickets_8 : decode cX12_pickets 8 = .ok (.invokevirtual 561, 3) := by decide +kernel
theorem d_X12_pickets_11 : decode cX12_pickets 11 = .ok (.ifCond .eq 21, 3) := by decide +kernel
theorem d_X12_pickets_14 : decode cX12_pickets 14 = .ok (.iload_n 3, 1) := by decide +kernel
theorem d_X12_pickets_15 : decode cX12_pickets 15 = .ok (.i2l, 1) := by decide +kernel
theorem d_X12_pickets_16 : decode cX12_pickets 16 = .ok (.lconst 0, 1) := by decide +kernel
theorem d_X12_pickets_17 : decode cX12_pickets 17 = .ok (.ldc2_w 564, 3) := by decide +kernel
theorem d_X12_pickets_20 : decode cX12_pickets 20 = .ok (.invokestatic 248, 3) := by decide +kernel
theorem d_X12_pickets_23 : decode cX12_pickets 23 = .ok (.ifCond .eq 9, 3) := by decide +kernel
theorem d_X12_pickets_26 : decode cX12_pickets 26 = .ok (.iload 4, 2) := by decide +kernel
theorem d_X12_pickets_28 : decode cX12_pickets 28 = .ok (.iconst (-1), 1) := by decide +kernel
theorem d_X12_pickets_29 : decode cX12_pickets 29 = .ok (.if_icmp .ge 5, 3) := by decide +kernel
theorem d_X12_pickets_32 : decode cX12_pickets 32 = .ok (.iconst (-1), 1) := by decide +kernel
theorem d_X12_pickets_33 : decode cX12_pickets 33 = .ok (.ireturn, 1) := by decide +kernel
theorem d_X12_pickets_34 : decode cX12_pickets 34 = .ok (.aload_n 0, 1) := by decide +kernel
theorem d_X12_pickets_35 : decode cX12_pickets 35 = .ok (.iload_n 3, 1) := by decide +kernel
theorem d_X12_pickets_36 : decode cX12_pickets 36 = .ok (.iload 4, 2) := by decide +kernel
theorem d_X12_pickets_38 : decode cX12_pickets 38 = .ok (.invokevirtual 566, 3) := by decide +kernel
theorem d_X12_pickets_41 : decode cX12_pickets 41 = .ok (.ifCond .eq 11, 3) := by decide +kernel
theorem d_X12_pickets_44 : decode cX12_pickets 44 = .ok (.aload_n 0, 1) := by decide +kernel
theorem d_X12_pickets_45 : decode cX12_pickets 45 = .ok (.iload_n 1, 1) := by decide +kernel
theorem d_X12_pickets_46 : decode cX12_pickets 46 = .ok (.iload_n 2, 1) := by decide +kernel
theorem d_X12_pickets_47 : decode cX12_pickets 47 = .ok (.iload_n 3, 1) := by decide +kernel
theorem d_X12_pickets_48 : decode cX12_pickets 48 = .ok (.iconst 0, 1) := by decide +kernel
theorem d_X12_pickets_49 : decode cX12_pickets 49 = .ok (.invokevirtual 554, 3) := by decide +kernel
theorem d_X12_pickets_52 : decode cX12_pickets 52 = .ok (.iload 4, 2) := by decide +kernel
theorem d_X12_pickets_54 : decode cX12_pickets 54 = .ok (.iconst (-1), 1) := by decide +kernel
theorem d_X12_pickets_55 : decode cX12_pickets 55 = .ok (.if_icmp .ne 10, 3) := by decide +kernel
theorem d_X12_pickets_58 : decode cX12_pickets 58 = .ok (.aload_n 0, 1) := by decide +kernel
theorem d_X12_pickets_59 : decode cX12_pickets 59 = .ok (.getfield 548, 3) := by decide +kernel
theorem d_X12_pickets_62 : decode cX12_pickets 62 = .ok (.goto 7, 3) := by decide +kernel
theorem d_X12_pickets_65 : decode cX12_pickets 65 = .ok (.aload_n 0, 1) := by decide +kernel
theorem d_X12_pickets_66 : decode cX12_pickets 66 = .ok (.getfield 545, 3) := by decide +kernel
theorem d_X12_pickets_69 : decode cX12_pickets 69 = .ok (.ireturn, 1) := by decide +kernel
def f_X12_pickets (this : Nat) (a1 : Int32) (a2 : Int32) (a3 : Int32) (a4 : Int32) : sa_M Int32 :=
sa_gd 12 this (
sa_bnd (sa_wrI 12 this 0 0) fun _ =>
sa_bnd (f_X12_areNights this a1 a2) fun v1 =>
sa_jn0 (sa_ret ((-1) : Int32)) fun j32 =>
if v1 = 0 then
j32
else
sa_bnd (f_X12_isIn (a3.toInt64) 0 99) fun v2 =>
if v2 = 0 then
j32
else
if (-1) ≤ a4 then
sa_bnd (f_X12_layPickets this a3 a4) fun v3 =>
sa_jn0 (sa_jn1 (fun (y4 : Int32) =>
sa_ret (y4 : Int32)) fun j69 =>
if ¬ a4 = (-1) then
sa_bnd (sa_rdI 12 this 65) fun v5 =>
j69 v5
else
sa_bnd (sa_rdI 12 this 63) fun v6 =>
j69 v6) fun j52 =>
if v3 = 0 then
j52
else
sa_bnd (f_X12_goPickets 60 this a1 a2 a3 0) fun _ =>
j52
else
j32)
set_option maxHeartbeats 1000000 in
set_option maxRecDepth 10000 in
theorem b_X12_pickets {p : Program} {l : Launch} {e : Env} {s : State} {m : MethodId} {args : Array Value} {below : List Frame} {meth : Method} {c : Code} {D : va_G} {ad : Nat → Nat} {cA : FieldType → ClassId} {A : Nat → Prop} (this : Nat) (a1 : Int32) (a2 : Int32) (a3 : Int32) (a4 : Int32) (C : sa_C p s m args meth c cX12_pickets RX12 "pickets" 5 (some .int) D ad cA A) : sa_Sg p l e s m args below meth c 5 62 D ad cA A sa_eI 0 [(0, .ref (ad this)), (1, .int a1), (2, .int a2), (3, .int a3), (4, .int a4)] [] (f_X12_pickets this a1 a2 a3 a4) := by
  unfold f_X12_pickets
  refine sa_gdI ?_
  refine sa_aload_n C d_X12_pickets_0 rfl 0 rfl ?_
  refine sa_iconst (v := 0) C d_X12_pickets_1 (by decide) ?_
  refine sa_putI C fd_X12_127 d_X12_pickets_2 ?_
  refine sa_aload_n C d_X12_pickets_5 rfl 0 rfl ?_
  refine sa_iload_n C d_X12_pickets_6 rfl 1 rfl ?_
  refine sa_iload_n C d_X12_pickets_7 rfl 2 rfl ?_
  refine sa_invV (ci := 12) C (k_X12_areNights this a1 a2) q2036 ds_X12_areNights q128 rfl q2035 q104 q2033 (gd_X12_areNights this a1 a2) rfl rfl rfl (Nat.le_of_ble_eq_true rfl) (by decide) (by decide) d_X12_pickets_8 (fun v1 => ?_)
  refine sa_join0 32 ([]) ([]) (?_) (fun j32 hj32 => ?_)
  · refine sa_iconst (v := (-1)) C d_X12_pickets_32 (by decide) ?_
    exact sa_iret C d_X12_pickets_33
  refine sa_if_eq (tgt := 32) C d_X12_pickets_11 (by decide) ?_ ?_
  · exact sa_sub [] rfl (hj32)
  refine sa_iload_n C d_X12_pickets_14 rfl 3 rfl ?_
  refine sa_i2l C d_X12_pickets_15 ?_
  refine sa_lconst (v := 0) C d_X12_pickets_16 (by decide) ?_
  refine sa_ldc2 (v := 99) C d_X12_pickets_17 q2039 ?_
  refine sa_invS C (k_X12_isIn (a3.toInt64) 0 99) q1637 ds_X12_isIn q128 q1636 q1635 rfl rfl rfl (Nat.le_of_ble_eq_true rfl) (by decide) (by decide) d_X12_pickets_20 (fun v2 => ?_)
  refine sa_if_eq (tgt := 32) C d_X12_pickets_23 (by decide) ?_ ?_
  · exact sa_sub [] rfl (hj32)
  refine sa_iload C d_X12_pickets_26 4 rfl ?_
  refine sa_iconst (v := (-1)) C d_X12_pickets_28 (by decide) ?_
  refine sa_icmp_ge (tgt := 34) C d_X12_pickets_29 (by decide) ?_ ?_
  · refine sa_aload_n C d_X12_pickets_34 rfl 0 rfl ?_
    refine sa_iload_n C d_X12_pickets_35 rfl 3 rfl ?_
    refine sa_iload C d_X12_pickets_36 4 rfl ?_
    refine sa_invV (ci := 12) C (k_X12_layPickets this a3 a4) q2043 ds_X12_layPickets q128 rfl q2042 q105 q2040 (gd_X12_layPickets this a3 a4) rfl rfl rfl (Nat.le_of_ble_eq_true rfl) (by decide) (by decide) d_X12_pickets_38 (fun v3 => ?_)
    refine sa_join0 52 ([(0, .ref (ad this)), (4, .int a4)]) ([]) (?_) (fun j52 hj52 => ?_)
    · refine sa_iload C d_X12_pickets_52 1 rfl ?_
      refine sa_iconst (v := (-1)) C d_X12_pickets_54 (by decide) ?_
      refine sa_join1 69 (fun y4 => []) (fun y4 => [.int y4]) (fun y4 => ?_) (fun j69 hj69 => ?_)
      · exact sa_iret C d_X12_pickets_69
      refine sa_icmp_ne (tgt := 65) C d_X12_pickets_55 (by decide) ?_ ?_
      · refine sa_aload_n C d_X12_pickets_65 rfl 0 rfl ?_
        refine sa_getI C fd_X12_545 d_X12_pickets_66 (fun v5 => ?_)
        exact sa_sub [] rfl (hj69 _)
      refine sa_aload_n C d_X12_pickets_58 rfl 0 rfl ?_
      refine sa_getI C fd_X12_548 d_X12_pickets_59 (fun v6 => ?_)
      refine sa_goto (tgt := 69) C d_X12_pickets_62 (by decide) ?_
      exact sa_sub [] rfl (hj69 _)
    refine sa_if_eq (tgt := 52) C d_X12_pickets_41 (by decide) ?_ ?_
    · exact sa_sub [0, 4] rfl (hj52)
    refine sa_aload_n C d_X12_pickets_44 rfl 0 rfl ?_
    refine sa_iload_n C d_X12_pickets_45 rfl 1 rfl ?_
    refine sa_iload_n C d_X12_pickets_46 rfl 2 rfl ?_
    refine sa_iload_n C d_X12_pickets_47 rfl 3 rfl ?_
    refine sa_iconst (v := 0) C d_X12_pickets_48 (by decide) ?_
    refine sa_invV (ci := 12) C (k_X12_goPickets 60 this a1 a2 a3 0) q2047 ds_X12_goPickets q128 rfl q2046 q106 q2044 (gd_X12_goPickets 60 this a1 a2 a3 0) rfl rfl rfl (Nat.le_of_ble_eq_true rfl) (by decide) (by decide) d_X12_pickets_49 (fun _ => ?_)
    exact sa_sub [0, 4] rfl (hj52)
  exact sa_sub [] rfl (hj32)
theorem k_X12_pickets (this : Nat) (a1 : Int32) (a2 : Int32) (a3 : Int32) (a4 : Int32) : sa_Met 62 yX12_pickets cX12_pickets 5 (some .int) (fun ad => [.ref (ad this), .int a1, .int a2, .int a3, .int a4]) sa_eI (f_X12_pickets this a1 a2 a3 a4) := sa_mk (by decide) (fun ad => Nat.le_of_ble_eq_true rfl) (fun p l e s m args below meth c D ad cA A C => b_X12_pickets this a1 a2 a3 a4 C)
theorem gd_X12_pickets (this : Nat) (a1 : Int32) (a2 : Int32) (a3 : Int32) (a4 : Int32) (σ : sa_St) (r : Int32) (τ : sa_St) (h : f_X12_pickets this a1 a2 a3 a4 σ = some (r, τ)) : sa_sh this = some (.inl 12) := sa_gd_ok h
theorem d_X12_stock_0 : decode cX12_stock 0 = .ok (.aload_n 0, 1) := by decide +kernel
theorem d_X12_stock_1 : decode cX12_stock 1 = .ok (.iconst 0, 1) := by decide +kernel
theorem d_X12_stock_2 : decode cX12_stock 2 = .ok (.putfield 127, 3) := by decide +kernel
theorem d_X12_stock_5 : decode cX12_stock 5 = .ok (.aload_n 0, 1) := by decide +kernel
theorem d_X12_stock_6 : decode cX12_stock 6 = .ok (.iload_n 1, 1) := by decide +kernel
theorem d_X12_stock_7 : decode cX12_stock 7 = .ok (.iload_n 2, 1) := by decide +kernel
theorem d_X12_stock_8 : decode cX12_stock 8 = .ok (.invokevirtual 561, 3) := by decide +kernel
theorem d_X12_stock_11 : decode cX12_stock 11 = .ok (.ifCond .ne 5, 3) := by decide +kernel
theorem d_X12_stock_14 : decode cX12_stock 14 = .ok (.iconst (-1), 1) := by decide +kernel
theorem d_X12_stock_15 : decode cX12_stock 15 = .ok (.ireturn, 1) := by decide +kernel
theorem d_X12_stock_16 : decode cX12_stock 16 = .ok (.iconst 0, 1) := by decide +kernel
theorem d_X12_stock_17 : decode cX12_stock 17 = .ok (.istore_n 3, 1) := by decide +kernel
theorem d_X12_stock_18 : decode cX12_stock 18 = .ok (.iload_n 3, 1) := by decide +kernel
theorem d_X12_stock_19 : decode cX12_stock 19 = .ok (.bipush 99, 2) := by decide +kernel
theorem d_X12_stock_21 : decode cX12_stock 21 = .ok (.if_icmp .gt 36, 3) := by decide +kernel
theorem d_X12_stock_24 : decode cX12_stock 24 = .ok (.aload_n 0, 1) := by decide +kernel
theorem d_X12_stock_25 : decode cX12_stock 25 = .ok (.iload_n 3, 1) := by decide +kernel
theorem d_X12_stock_26 : decode cX12_stock 26 = .ok (.iconst 0, 1) := by decide +kernel
theorem d_X12_stock_27 : decode cX12_stock 27 = .ok (.invokevirtual 566, 3) := by decide +kernel
theorem d_X12_stock_30 : decode cX12_stock 30 = .ok (.ifCond .eq 11, 3) := by decide +kernel
theorem d_X12_stock_33 : decode cX12_stock 33 = .ok (.aload_n 0, 1) := by decide +kernel
theorem d_X12_stock_34 : decode cX12_stock 34 = .ok (.iload_n 1, 1) := by decide +kernel
theorem d_X12_stock_35 : decode cX12_stock 35 = .ok (.iload_n 2, 1) := by decide +kernel
theorem d_X12_stock_36 : decode cX12_stock 36 = .ok (.iload_n 3, 1) := by decide +kernel
theorem d_X12_stock_37 : decode cX12_stock 37 = .ok (.iconst 0, 1) := by decide +kernel
theorem d_X12_stock_38 : decode cX12_stock 38 = .ok (.invokevirtual 554, 3) := by decide +kernel
theorem d_X12_stock_41 : decode cX12_stock 41 = .ok (.aload_n 0, 1) := by decide +kernel
theorem d_X12_stock_42 : decode cX12_stock 42 = .ok (.getfield 545, 3) := by decide +kernel
theorem d_X12_stock_45 : decode cX12_stock 45 = .ok (.iconst (-1), 1) := by decide +kernel
theorem d_X12_stock_46 : decode cX12_stock 46 = .ok (.if_icmp .ne 5, 3) := by decide +kernel
theorem d_X12_stock_49 : decode cX12_stock 49 = .ok (.iload_n 3, 1) := by decide +kernel
theorem d_X12_stock_50 : decode cX12_stock 50 = .ok (.ireturn, 1) := by decide +kernel
theorem d_X12_stock_51 : decode cX12_stock 51 = .ok (.iinc 3 1, 3) := by decide +kernel
theorem d_X12_stock_54 : decode cX12_stock 54 = .ok (.goto (-36), 3) := by decide +kernel
theorem d_X12_stock_57 : decode cX12_stock 57 = .ok (.bipush 100, 2) := by decide +kernel
theorem d_X12_stock_59 : decode cX12_stock 59 = .ok (.ireturn, 1) := by decide +kernel
def f_X12_stock (this : Nat) (a1 : Int32) (a2 : Int32) : sa_M Int32 :=
sa_gd 12 this (
sa_bnd (sa_wrI 12 this 0 0) fun _ =>
sa_bnd (f_X12_areNights this a1 a2) fun v1 =>
if ¬ v1 = 0 then
sa_let (0 : Int32) fun x2 =>
sa_wh1 (fun j18 (x3 : Int32) =>
if 99 < x3 then
sa_ret (100 : Int32)
else
sa_bnd (f_X12_layPickets this x3 0) fun v4 =>
sa_jn0 (sa_bnd (sa_rdI 12 this 65) fun v5 =>
if ¬ v5 = (-1) then
sa_let ((x3 + 1) : Int32) fun x6 =>
j18 x6
else
sa_ret (x3 : Int32)) fun j41 =>
if v4 = 0 then
j41
else
sa_bnd (f_X12_goPickets 60 this a1 a2 x3 0) fun _ =>
j41) sa_F x2
else
sa_ret ((-1) : Int32))
set_option maxHeartbeats 1000000 in
set_option maxRecDepth 10000 in
theorem b_X12_stock {p : Program} {l : Launch} {e : Env} {s : State} {m : MethodId} {args : Array Value} {below : List Frame} {meth : Method} {c : Code} {D : va_G} {ad : Nat → Nat} {cA : FieldType → ClassId} {A : Nat → Prop} (this : Nat) (a1 : Int32) (a2 : Int32) (C : sa_C p s m args meth c cX12_stock RX12 "stock" 4 (some .int) D ad cA A) : sa_Sg p l e s m args below meth c 4 62 D ad cA A sa_eI 0 [(0, .ref (ad this)), (1, .int a1), (2, .int a2)] [] (f_X12_stock this a1 a2) := by
  unfold f_X12_stock
  refine sa_gdI ?_
  refine sa_aload_n C d_X12_stock_0 rfl 0 rfl ?_
  refine sa_iconst (v := 0) C d_X12_stock_1 (by decide) ?_
  refine sa_putI C fd_X12_127 d_X12_stock_2 ?_
  refine sa_aload_n C d_X12_stock_5 rfl 0 rfl ?_
  refine sa_iload_n C d_X12_stock_6 rfl 1 rfl ?_
  refine sa_iload_n C d_X12_stock_7 rfl 2 rfl ?_
  refine sa_invV (ci := 12) C (k_X12_areNights this a1 a2) q2036 ds_X12_areNights q128 rfl q2035 q104 q2033 (gd_X12_areNights this a1 a2) rfl rfl rfl (Nat.le_of_ble_eq_true rfl) (by decide) (by decide) d_X12_stock_8 (fun v1 => ?_)
  refine sa_if_ne (tgt := 16) C d_X12_stock_11 (by decide) ?_ ?_
  · refine sa_iconst (v := 0) C d_X12_stock_16 (by decide) ?_
    refine sa_topi (fun x2 => ?_)
    refine sa_istore_n (lv' := [(3, .int x2), (0, .ref (ad this)), (1, .int a1), (2, .int a2)]) C d_X12_stock_17 rfl (by decide) rfl ?_
    refine sa_sub [1, 2, 3, 0] rfl (sa_loop1 (fun x3 => [(0, .ref (ad this)), (1, .int a1), (2, .int a2), (3, .int x3)]) (fun x3 => []) (fun j18 hj18 x3 => ?_) _ _)
    refine sa_iload_n C d_X12_stock_18 rfl 3 rfl ?_
    refine sa_bipush (v := 99) C d_X12_stock_19 (by decide) ?_
    refine sa_icmp_gt (tgt := 57) C d_X12_stock_21 (by decide) ?_ ?_
    · refine sa_bipush (v := 100) C d_X12_stock_57 (by decide) ?_
      exact sa_iret C d_X12_stock_59
    refine sa_aload_n C d_X12_stock_24 rfl 0 rfl ?_
    refine sa_iload_n C d_X12_stock_25 rfl 3 rfl ?_
    refine sa_iconst (v := 0) C d_X12_stock_26 (by decide) ?_
    refine sa_invV (ci := 12) C (k_X12_layPickets this x3 0) q2043 ds_X12_layPickets q128 rfl q2042 q105 q2040 (gd_X12_layPickets this x3 0) rfl rfl rfl (Nat.le_of_ble_eq_true rfl) (by decide) (by decide) d_X12_stock_27 (fun v4 => ?_)
    refine sa_join0 41 ([(0, .ref (ad this)), (1, .int a1), (2, .int a2), (3, .int x3)]) ([]) (?_) (fun j41 hj41 => ?_)
    · refine sa_aload_n C d_X12_stock_41 rfl 0 rfl ?_
      refine sa_getI C fd_X12_545 d_X12_stock_42 (fun v5 => ?_)
      refine sa_iconst (v := (-1)) C d_X12_stock_45 (by decide) ?_
      refine sa_icmp_ne (tgt := 51) C d_X12_stock_46 (by decide) ?_ ?_
      · refine sa_iinc C (fun zz => [(3, .int zz), (0, .ref (ad this)), (1, .int a1), (2, .int a2)]) d_X12_stock_51 3 rfl rfl (by decide) (fun _ => rfl) (fun x6 => ?_)
        refine sa_goto (tgt := 18) C d_X12_stock_54 (by decide) ?_
        exact sa_sub [1, 2, 3, 0] rfl (hj18 _)
      refine sa_iload_n C d_X12_stock_49 rfl 3 rfl ?_
      exact sa_iret C d_X12_stock_50
    refine sa_if_eq (tgt := 41) C d_X12_stock_30 (by decide) ?_ ?_
    · exact sa_sub [0, 1, 2, 3] rfl (hj41)
    refine sa_aload_n C d_X12_stock_33 rfl 0 rfl ?_
    refine sa_iload_n C d_X12_stock_34 rfl 1 rfl ?_
    refine sa_iload_n C d_X12_stock_35 rfl 2 rfl ?_
    refine sa_iload_n C d_X12_stock_36 rfl 3 rfl ?_
    refine sa_iconst (v := 0) C d_X12_stock_37 (by decide) ?_
    refine sa_invV (ci := 12) C (k_X12_goPickets 60 this a1 a2 x3 0) q2047 ds_X12_goPickets q128 rfl q2046 q106 q2044 (gd_X12_goPickets 60 this a1 a2 x3 0) rfl rfl rfl (Nat.le_of_ble_eq_true rfl) (by decide) (by decide) d_X12_stock_38 (fun _ => ?_)
    exact sa_sub [0, 1, 2, 3] rfl (hj41)
  refine sa_iconst (v := (-1)) C d_X12_stock_14 (by decide) ?_
  exact sa_iret C d_X12_stock_15
theorem k_X12_stock (this : Nat) (a1 : Int32) (a2 : Int32) : sa_Met 62 yX12_stock cX12_stock 4 (some .int) (fun ad => [.ref (ad this), .int a1, .int a2]) sa_eI (f_X12_stock this a1 a2) := sa_mk (by decide) (fun ad => Nat.le_of_ble_eq_true rfl) (fun p l e s m args below meth c D ad cA A C => b_X12_stock this a1 a2 C)
theorem gd_X12_stock (this : Nat) (a1 : Int32) (a2 : Int32) (σ : sa_St) (r : Int32) (τ : sa_St) (h : f_X12_stock this a1 a2 σ = some (r, τ)) : sa_sh this = some (.inl 12) := sa_gd_ok h
theorem d_X12_streak_0 : decode cX12_streak 0 = .ok (.aload_n 0, 1) := by decide +kernel
theorem d_X12_streak_1 : decode cX12_streak 1 = .ok (.iconst 0, 1) := by decide +kernel
theorem d_X12_streak_2 : decode cX12_streak 2 = .ok (.putfield 127, 3) := by decide +kernel
theorem d_X12_streak_5 : decode cX12_streak 5 = .ok (.aload_n 0, 1) := by decide +kernel
theorem d_X12_streak_6 : decode cX12_streak 6 = .ok (.iload_n 1, 1) := by decide +kernel
theorem d_X12_streak_7 : decode cX12_streak 7 = .ok (.invokevirtual 372, 3) := by decide +kernel
theorem d_X12_streak_10 : decode cX12_streak 10 = .ok (.ifCond .eq 24, 3) := by decide +kernel
theorem d_X12_streak_13 : decode cX12_streak 13 = .ok (.iload_n 2, 1) := by decide +kernel
theorem d_X12_streak_14 : decode cX12_streak 14 = .ok (.i2l, 1) := by decide +kernel
theorem d_X12_streak_15 : decode cX12_streak 15 = .ok (.lconst 0, 1) := by decide +kernel
theorem d_X12_streak_16 : decode cX12_streak 16 = .ok (.ldc2_w 564, 3) := by decide +kernel
theorem d_X12_streak_19 : decode cX12_streak 19 = .ok (.invokestatic 248, 3) := by decide +kernel
theorem d_X12_streak_22 : decode cX12_streak 22 = .ok (.ifCond .eq 12, 3) := by decide +kernel
theorem d_X12_streak_25 : decode cX12_streak 25 = .ok (.aload_n 0, 1) := by decide +kernel
theorem d_X12_streak_26 : decode cX12_streak 26 = .ok (.getfield 343, 3) := by decide +kernel
theorem d_X12_streak_29 : decode cX12_streak 29 = .ok (.bipush 8, 2) := by decide +kernel
theorem d_X12_streak_31 : decode cX12_streak 31 = .ok (.if_icmp .ne 5, 3) := by decide +kernel
theorem d_X12_streak_34 : decode cX12_streak 34 = .ok (.iconst (-1), 1) := by decide +kernel
theorem d_X12_streak_35 : decode cX12_streak 35 = .ok (.ireturn, 1) := by decide +kernel
theorem d_X12_streak_36 : decode cX12_streak 36 = .ok (.aload_n 0, 1) := by decide +kernel
theorem d_X12_streak_37 : decode cX12_streak 37 = .ok (.getfield 109, 3) := by decide +kernel
theorem d_X12_streak_40 : decode cX12_streak 40 = .ok (.aload_n 0, 1) := by decide +kernel
theorem d_X12_streak_41 : decode cX12_streak 41 = .ok (.getfield 343, 3) := by decide +kernel
theorem d_X12_streak_44 : decode cX12_streak 44 = .ok (.iload_n 1, 1) := by decide +kernel
theorem d_X12_streak_45 : decode cX12_streak 45 = .ok (.iastore, 1) := by decide +kernel
theorem d_X12_streak_46 : decode cX12_streak 46 = .ok (.aload_n 0, 1) := by decide +kernel
theorem d_X12_streak_47 : decode cX12_streak 47 = .ok (.getfield 112, 3) := by decide +kernel
theorem d_X12_streak_50 : decode cX12_streak 50 = .ok (.aload_n 0, 1) := by decide +kernel
theorem d_X12_streak_51 : decode cX12_streak 51 = .ok (.getfield 343, 3) := by decide +kernel
theorem d_X12_streak_54 : decode cX12_streak 54 = .ok (.iload_n 2, 1) := by decide +kernel
theorem d_X12_streak_55 : decode cX12_streak 55 = .ok (.iastore, 1) := by decide +kernel
theorem d_X12_streak_56 : decode cX12_streak 56 = .ok (.aload_n 0, 1) := by decide +kernel
theorem d_X12_streak_57 : decode cX12_streak 57 = .ok (.dup, 1) := by decide +kernel
theorem d_X12_streak_58 : decode cX12_streak 58 = .ok (.getfield 343, 3) := by decide +kernel
theorem d_X12_streak_61 : decode cX12_streak 61 = .ok (.iconst 1, 1) := by decide +kernel
theorem d_X12_streak_62 : decode cX12_streak 62 = .ok (.iadd, 1) := by decide +kernel
theorem d_X12_streak_63 : decode cX12_streak 63 = .ok (.putfield 343, 3) := by decide +kernel
theorem d_X12_streak_66 : decode cX12_streak 66 = .ok (.aload_n 0, 1) := by decide +kernel
theorem d_X12_streak_67 : decode cX12_streak 67 = .ok (.getfield 343, 3) := by decide +kernel
theorem d_X12_streak_70 : decode cX12_streak 70 = .ok (.ireturn, 1) := by decide +kernel
def f_X12_streak (this : Nat) (a1 : Int32) (a2 : Int32) : sa_M Int32 :=
sa_gd 12 this (
sa_bnd (sa_wrI 12 this 0 0) fun _ =>
sa_bnd (f_X12_isPlace this a1) fun v1 =>
sa_jn0 (sa_ret ((-1) : Int32)) fun j34 =>
if v1 = 0 then
j34
else
sa_bnd (f_X12_isIn (a2.toInt64) 0 99) fun v2 =>
if v2 = 0 then
j34
else
sa_bnd (sa_rdI 12 this 69) fun v3 =>
if ¬ v3 = 8 then
sa_bnd (sa_rdR 12 this 66) fun v4 =>
sa_bnd (sa_rdI 12 this 69) fun v5 =>
sa_bnd (sa_stI v4 v5 a1) fun _ =>
sa_bnd (sa_rdR 12 this 67) fun v6 =>
sa_bnd (sa_rdI 12 this 69) fun v7 =>
sa_bnd (sa_stI v6 v7 a2) fun _ =>
sa_bnd (sa_rdI 12 this 69) fun v8 =>
sa_bnd (sa_wrI 12 this 69 (v8 + 1)) fun _ =>
sa_bnd (sa_rdI 12 this 69) fun v9 =>
sa_ret (v9 : Int32)
else
j34)
set_option maxHeartbeats 1000000 in
set_option maxRecDepth 10000 in
theorem b_X12_streak {p : Program} {l : Launch} {e : Env} {s : State} {m : MethodId} {args : Array Value} {below : List Frame} {meth : Method} {c : Code} {D : va_G} {ad : Nat → Nat} {cA : FieldType → ClassId} {A : Nat → Prop} (this : Nat) (a1 : Int32) (a2 : Int32) (C : sa_C p s m args meth c cX12_streak RX12 "streak" 3 (some .int) D ad cA A) : sa_Sg p l e s m args below meth c 3 2 D ad cA A sa_eI 0 [(0, .ref (ad this)), (1, .int a1), (2, .int a2)] [] (f_X12_streak this a1 a2) := by
  unfold f_X12_streak
  refine sa_gdI ?_
  refine sa_aload_n C d_X12_streak_0 rfl 0 rfl ?_
  refine sa_iconst (v := 0) C d_X12_streak_1 (by decide) ?_
  refine sa_putI C fd_X12_127 d_X12_streak_2 ?_
  refine sa_aload_n C d_X12_streak_5 rfl 0 rfl ?_
  refine sa_iload_n C d_X12_streak_6 rfl 1 rfl ?_
  refine sa_invV (ci := 12) C (k_X12_isPlace this a1) q1785 ds_X12_isPlace q128 rfl q1784 q70 q1782 (gd_X12_isPlace this a1) rfl rfl rfl (Nat.le_of_ble_eq_true rfl) (by decide) (by decide) d_X12_streak_7 (fun v1 => ?_)
  refine sa_join0 34 ([]) ([]) (?_) (fun j34 hj34 => ?_)
  · refine sa_iconst (v := (-1)) C d_X12_streak_34 (by decide) ?_
    exact sa_iret C d_X12_streak_35
  refine sa_if_eq (tgt := 34) C d_X12_streak_10 (by decide) ?_ ?_
  · exact sa_sub [] rfl (hj34)
  refine sa_iload_n C d_X12_streak_13 rfl 2 rfl ?_
  refine sa_i2l C d_X12_streak_14 ?_
  refine sa_lconst (v := 0) C d_X12_streak_15 (by decide) ?_
  refine sa_ldc2 (v := 99) C d_X12_streak_16 q2039 ?_
  refine sa_invS C (k_X12_isIn (a2.toInt64) 0 99) q1637 ds_X12_isIn q128 q1636 q1635 rfl rfl rfl (Nat.le_of_ble_eq_true rfl) (by decide) (by decide) d_X12_streak_19 (fun v2 => ?_)
  refine sa_if_eq (tgt := 34) C d_X12_streak_22 (by decide) ?_ ?_
  · exact sa_sub [] rfl (hj34)
  refine sa_aload_n C d_X12_streak_25 rfl 0 rfl ?_
  refine sa_getI C fd_X12_343 d_X12_streak_26 (fun v3 => ?_)
  refine sa_bipush (v := 8) C d_X12_streak_29 (by decide) ?_
  refine sa_icmp_ne (tgt := 36) C d_X12_streak_31 (by decide) ?_ ?_
  · refine sa_aload_n C d_X12_streak_36 rfl 0 rfl ?_
    refine sa_getR C fd_X12_109 rfl d_X12_streak_37 (fun v4 => ?_)
    refine sa_aload_n C d_X12_streak_40 rfl 0 rfl ?_
    refine sa_getI C fd_X12_343 d_X12_streak_41 (fun v5 => ?_)
    refine sa_iload_n C d_X12_streak_44 rfl 1 rfl ?_
    refine sa_iast C d_X12_streak_45 ?_
    refine sa_aload_n C d_X12_streak_46 rfl 0 rfl ?_
    refine sa_getR C fd_X12_112 rfl d_X12_streak_47 (fun v6 => ?_)
    refine sa_aload_n C d_X12_streak_50 rfl 0 rfl ?_
    refine sa_getI C fd_X12_343 d_X12_streak_51 (fun v7 => ?_)
    refine sa_iload_n C d_X12_streak_54 rfl 2 rfl ?_
    refine sa_iast C d_X12_streak_55 ?_
    refine sa_aload_n C d_X12_streak_56 rfl 0 rfl ?_
    refine sa_dup C d_X12_streak_57 rfl ?_
    refine sa_getI C fd_X12_343 d_X12_streak_58 (fun v8 => ?_)
    refine sa_iconst (v := 1) C d_X12_streak_61 (by decide) ?_
    refine sa_iadd C d_X12_streak_62 ?_
    refine sa_putI C fd_X12_343 d_X12_streak_63 ?_
    refine sa_aload_n C d_X12_streak_66 rfl 0 rfl ?_
    refine sa_getI C fd_X12_343 d_X12_streak_67 (fun v9 => ?_)
    exact sa_iret C d_X12_streak_70
  exact sa_sub [] rfl (hj34)
theorem k_X12_streak (this : Nat) (a1 : Int32) (a2 : Int32) : sa_Met 2 yX12_streak cX12_streak 3 (some .int) (fun ad => [.ref (ad this), .int a1, .int a2]) sa_eI (f_X12_streak this a1 a2) := sa_mk (by decide) (fun ad => Nat.le_of_ble_eq_true rfl) (fun p l e s m args below meth c D ad cA A C => b_X12_streak this a1 a2 C)
theorem gd_X12_streak (this : Nat) (a1 : Int32) (a2 : Int32) (σ : sa_St) (r : Int32) (τ : sa_St) (h : f_X12_streak this a1 a2 σ = some (r, τ)) : sa_sh this = some (.inl 12) := sa_gd_ok h
theorem d_X12_isSo_0 : decode cX12_isSo 0 = .ok (.iconst 0, 1) := by decide +kernel
theorem d_X12_isSo_1 : decode cX12_isSo 1 = .ok (.istore_n 3, 1) := by decide +kernel
theorem d_X12_isSo_2 : decode cX12_isSo 2 = .ok (.iload_n 3, 1) := by decide +kernel
theorem d_X12_isSo_3 : decode cX12_isSo 3 = .ok (.bipush 8, 2) := by decide +kernel
theorem d_X12_isSo_5 : decode cX12_isSo 5 = .ok (.if_icmp .ge 16, 3) := by decide +kernel
theorem d_X12_isSo_8 : decode cX12_isSo 8 = .ok (.aload_n 0, 1) := by decide +kernel
theorem d_X12_isSo_9 : decode cX12_isSo 9 = .ok (.getfield 115, 3) := by decide +kernel
theorem d_X12_isSo_12 : decode cX12_isSo 12 = .ok (.iload_n 3, 1) := by decide +kernel
theorem d_X12_isSo_13 : decode cX12_isSo 13 = .ok (.iconst 0, 1) := by decide +kernel
theorem d_X12_isSo_14 : decode cX12_isSo 14 = .ok (.iastore, 1) := by decide +kernel
theorem d_X12_isSo_15 : decode cX12_isSo 15 = .ok (.iinc 3 1, 3) := by decide +kernel
theorem d_X12_isSo_18 : decode cX12_isSo 18 = .ok (.goto (-16), 3) := by decide +kernel
theorem d_X12_isSo_21 : decode cX12_isSo 21 = .ok (.aload_n 0, 1) := by decide +kernel
theorem d_X12_isSo_22 : decode cX12_isSo 22 = .ok (.getfield 64, 3) := by decide +kernel
theorem d_X12_isSo_25 : decode cX12_isSo 25 = .ok (.bipush 7, 2) := by decide +kernel
theorem d_X12_isSo_27 : decode cX12_isSo 27 = .ok (.iload_n 1, 1) := by decide +kernel
theorem d_X12_isSo_28 : decode cX12_isSo 28 = .ok (.imul, 1) := by decide +kernel
theorem d_X12_isSo_29 : decode cX12_isSo 29 = .ok (.iconst 2, 1) := by decide +kernel
theorem d_X12_isSo_30 : decode cX12_isSo 30 = .ok (.iadd, 1) := by decide +kernel
theorem d_X12_isSo_31 : decode cX12_isSo 31 = .ok (.iaload, 1) := by decide +kernel
theorem d_X12_isSo_32 : decode cX12_isSo 32 = .ok (.istore_n 3, 1) := by decide +kernel
theorem d_X12_isSo_33 : decode cX12_isSo 33 = .ok (.iconst 0, 1) := by decide +kernel
theorem d_X12_isSo_34 : decode cX12_isSo 34 = .ok (.istore 4, 2) := by decide +kernel
theorem d_X12_isSo_36 : decode cX12_isSo 36 = .ok (.iconst 1, 1) := by decide +kernel
theorem d_X12_isSo_37 : decode cX12_isSo 37 = .ok (.istore 5, 2) := by decide +kernel
theorem d_X12_isSo_39 : decode cX12_isSo 39 = .ok (.iload 5, 2) := by decide +kernel
theorem d_X12_isSo_41 : decode cX12_isSo 41 = .ok (.aload_n 0, 1) := by decide +kernel
theorem d_X12_isSo_42 : decode cX12_isSo 42 = .ok (.getfield 493, 3) := by decide +kernel
theorem d_X12_isSo_45 : decode cX12_isSo 45 = .ok (.if_icmp .ge 163, 3) := by decide +kernel
theorem d_X12_isSo_48 : decode cX12_isSo 48 = .ok (.aload_n 0, 1) := by decide +kernel
theorem d_X12_isSo_49 : decode cX12_isSo 49 = .ok (.getfield 103, 3) := by decide +kernel
theorem d_X12_isSo_52 : decode cX12_isSo 52 = .ok (.iload 5, 2) := by decide +kernel
theorem d_X12_isSo_54 : decode cX12_isSo 54 = .ok (.iaload, 1) := by decide +kernel
theorem d_X12_isSo_55 : decode cX12_isSo 55 = .ok (.istore 6, 2) := by decide +kernel
theorem d_X12_isSo_57 : decode cX12_isSo 57 = .ok (.aload_n 0, 1) := by decide +kernel
theorem d_X12_isSo_58 : decode cX12_isSo 58 = .ok (.aload_n 0, 1) := by decide +kernel
theorem d_X12_isSo_59 : decode cX12_isSo 59 = .ok (.getfield 103, 3) := by decide +kernel
theorem d_X12_isSo_62 : decode cX12_isSo 62 = .ok (.iload 5, 2) := by decide +kernel
theorem d_X12_isSo_64 : decode cX12_isSo 64 = .ok (.iconst 1, 1) := by decide +kernel
theorem d_X12_isSo_65 : decode cX12_isSo 65 = .ok (.isub, 1) := by decide +kernel
theorem d_X12_isSo_66 : decode cX12_isSo 66 = .ok (.iaload, 1) := by decide +kernel
theorem d_X12_isSo_67 : decode cX12_isSo 67 = .ok (.iload 6, 2) := by decide +kernel
theorem d_X12_isSo_69 : decode cX12_isSo 69 = .ok (.invokevirtual 406, 3) := by decide +kernel
theorem d_X12_isSo_72 : decode cX12_isSo 72 = .ok (.istore 7, 2) := by decide +kernel
theorem d_X12_isSo_74 : decode cX12_isSo 74 = .ok (.iconst 0, 1) := by decide +kernel
theorem d_X12_isSo_75 : decode cX12_isSo 75 = .ok (.istore 8, 2) := by decide +kernel
theorem d_X12_isSo_77 : decode cX12_isSo 77 = .ok (.iload 8, 2) := by decide +kernel
theorem d_X12_isSo_79 : decode cX12_isSo 79 = .ok (.aload_n 0, 1) := by decide +kernel
theorem d_X12_isSo_80 : decode cX12_isSo 80 = .ok (.getfield 43, 3) := by decide +kernel
theorem d_X12_isSo_83 : decode cX12_isSo 83 = .ok (.iconst 4, 1) := by decide +kernel
theorem d_X12_isSo_84 : decode cX12_isSo 84 = .ok (.iload 7, 2) := by decide +kernel
theorem d_X12_isSo_86 : decode cX12_isSo 86 = .ok (.imul, 1) := by decide +kernel
theorem d_X12_isSo_87 : decode cX12_isSo 87 = .ok (.iconst 2, 1) := by decide +kernel
theorem d_X12_isSo_88 : decode cX12_isSo 88 = .ok (.iadd, 1) := by decide +kernel
theorem d_X12_isSo_89 : decode cX12_isSo 89 = .ok (.iaload, 1) := by decide +kernel
theorem d_X12_isSo_90 : decode cX12_isSo 90 = .ok (.if_icmp .ge 94, 3) := by decide +kernel
theorem d_X12_isSo_93 : decode cX12_isSo 93 = .ok (.iload_n 2, 1) := by decide +kernel
theorem d_X12_isSo_94 : decode cX12_isSo 94 = .ok (.iload 4, 2) := by decide +kernel
theorem d_X12_isSo_96 : decode cX12_isSo 96 = .ok (.invokestatic 260, 3) := by decide +kernel
theorem d_X12_isSo_99 : decode cX12_isSo 99 = .ok (.ifCond .eq 56, 3) := by decide +kernel
theorem d_X12_isSo_102 : decode cX12_isSo 102 = .ok (.iload_n 3, 1) := by decide +kernel
theorem d_X12_isSo_103 : decode cX12_isSo 103 = .ok (.aload_n 0, 1) := by decide +kernel
theorem d_X12_isSo_104 : decode cX12_isSo 104 = .ok (.iload_n 3, 1) := by decide +kernel
theorem d_X12_isSo_105 : decode cX12_isSo 105 = .ok (.aload_n 0, 1) := by decide +kernel
theorem d_X12_isSo_106 : decode cX12_isSo 106 = .ok (.getfield 64, 3) := by decide +kernel
theorem d_X12_isSo_109 : decode cX12_isSo 109 = .ok (.bipush 7, 2) := by decide +kernel
theorem d_X12_isSo_111 : decode cX12_isSo 111 = .ok (.iload_n 1, 1) := by decide +kernel
theorem d_X12_isSo_112 : decode cX12_isSo 112 = .ok (.imul, 1) := by decide +kernel
theorem d_X12_isSo_113 : decode cX12_isSo 113 = .ok (.iconst 3, 1) := by decide +kernel
theorem d_X12_isSo_114 : decode cX12_isSo 114 = .ok (.iadd, 1) := by decide +kernel
theorem d_X12_isSo_115 : decode cX12_isSo 115 = .ok (.iaload, 1) := by decide +kernel
theorem d_X12_isSo_116 : decode cX12_isSo 116 = .ok (.aload_n 0, 1) := by decide +kernel
theorem d_X12_isSo_117 : decode cX12_isSo 117 = .ok (.getfield 37, 3) := by decide +kernel
theorem d_X12_isSo_120 : decode cX12_isSo 120 = .ok (.iconst 4, 1) := by decide +kernel
theorem d_X12_isSo_121 : decode cX12_isSo 121 = .ok (.iload 6, 2) := by decide +kernel
theorem d_X12_isSo_123 : decode cX12_isSo 123 = .ok (.imul, 1) := by decide +kernel
theorem d_X12_isSo_124 : decode cX12_isSo 124 = .ok (.iaload, 1) := by decide +kernel
theorem d_X12_isSo_125 : decode cX12_isSo 125 = .ok (.aload_n 0, 1) := by decide +kernel
theorem d_X12_isSo_126 : decode cX12_isSo 126 = .ok (.getfield 64, 3) := by decide +kernel
theorem d_X12_isSo_129 : decode cX12_isSo 129 = .ok (.bipush 7, 2) := by decide +kernel
theorem d_X12_isSo_131 : decode cX12_isSo 131 = .ok (.iload_n 1, 1) := by decide +kernel
theorem d_X12_isSo_132 : decode cX12_isSo 132 = .ok (.imul, 1) := by decide +kernel
theorem d_X12_isSo_133 : decode cX12_isSo 133 = .ok (.iconst 4, 1) := by decide +kernel
theorem d_X12_isSo_134 : decode cX12_isSo 134 = .ok (.iadd, 1) := by decide +kernel
theorem d_X12_isSo_135 : decode cX12_isSo 135 = .ok (.iaload, 1) := by decide +kernel
theorem d_X12_isSo_136 : decode cX12_isSo 136 = .ok (.aload_n 0, 1) := by decide +kernel
theorem d_X12_isSo_137 : decode cX12_isSo 137 = .ok (.getfield 64, 3) := by decide +kernel
theorem d_X12_isSo_140 : decode cX12_isSo 140 = .ok (.bipush 76, 2) := by decide +kernel
theorem d_X12_isSo_142 : decode cX12_isSo 142 = .ok (.iaload, 1) := by decide +kernel
theorem d_X12_isSo_143 : decode cX12_isSo 143 = .ok (.iload 4, 2) := by decide +kernel
theorem d_X12_isSo_145 : decode cX12_isSo 145 = .ok (.iadd, 1) := by decide +kernel
theorem d_X12_isSo_146 : decode cX12_isSo 146 = .ok (.invokevirtual 368, 3) := by decide +kernel
theorem d_X12_isSo_149 : decode cX12_isSo 149 = .ok (.invokestatic 356, 3) := by decide +kernel
theorem d_X12_isSo_152 : decode cX12_isSo 152 = .ok (.goto 4, 3) := by decide +kernel
theorem d_X12_isSo_155 : decode cX12_isSo 155 = .ok (.iconst 0, 1) := by decide +kernel
theorem d_X12_isSo_156 : decode cX12_isSo 156 = .ok (.istore 9, 2) := by decide +kernel
theorem d_X12_isSo_158 : decode cX12_isSo 158 = .ok (.aload_n 0, 1) := by decide +kernel
theorem d_X12_isSo_159 : decode cX12_isSo 159 = .ok (.getfield 115, 3) := by decide +kernel
theorem d_X12_isSo_162 : decode cX12_isSo 162 = .ok (.iload 6, 2) := by decide +kernel
theorem d_X12_isSo_164 : decode cX12_isSo 164 = .ok (.dup2, 1) := by decide +kernel
theorem d_X12_isSo_165 : decode cX12_isSo 165 = .ok (.iaload, 1) := by decide +kernel
theorem d_X12_isSo_166 : decode cX12_isSo 166 = .ok (.iload 9, 2) := by decide +kernel
theorem d_X12_isSo_168 : decode cX12_isSo 168 = .ok (.iadd, 1) := by decide +kernel
theorem d_X12_isSo_169 : decode cX12_isSo 169 = .ok (.iastore, 1) := by decide +kernel
theorem d_X12_isSo_170 : decode cX12_isSo 170 = .ok (.iload_n 3, 1) := by decide +kernel
theorem d_X12_isSo_171 : decode cX12_isSo 171 = .ok (.iload 9, 2) := by decide +kernel
theorem d_X12_isSo_173 : decode cX12_isSo 173 = .ok (.isub, 1) := by decide +kernel
theorem d_X12_isSo_174 : decode cX12_isSo 174 = .ok (.istore_n 3, 1) := by decide +kernel
theorem d_X12_isSo_175 : decode cX12_isSo 175 = .ok (.iinc 4 1, 3) := by decide +kernel
theorem d_X12_isSo_178 : decode cX12_isSo 178 = .ok (.iinc 8 1, 3) := by decide +kernel
theorem d_X12_isSo_181 : decode cX12_isSo 181 = .ok (.goto (-104), 3) := by decide +kernel
theorem d_X12_isSo_184 : decode cX12_isSo 184 = .ok (.iconst 0, 1) := by decide +kernel
theorem d_X12_isSo_185 : decode cX12_isSo 185 = .ok (.iload_n 3, 1) := by decide +kernel
theorem d_X12_isSo_186 : decode cX12_isSo 186 = .ok (.aload_n 0, 1) := by decide +kernel
theorem d_X12_isSo_187 : decode cX12_isSo 187 = .ok (.getfield 43, 3) := by decide +kernel
theorem d_X12_isSo_190 : decode cX12_isSo 190 = .ok (.iconst 4, 1) := by decide +kernel
theorem d_X12_isSo_191 : decode cX12_isSo 191 = .ok (.iload 7, 2) := by decide +kernel
theorem d_X12_isSo_193 : decode cX12_isSo 193 = .ok (.imul, 1) := by decide +kernel
theorem d_X12_isSo_194 : decode cX12_isSo 194 = .ok (.iconst 3, 1) := by decide +kernel
theorem d_X12_isSo_195 : decode cX12_isSo 195 = .ok (.iadd, 1) := by decide +kernel
theorem d_X12_isSo_196 : decode cX12_isSo 196 = .ok (.iaload, 1) := by decide +kernel
theorem d_X12_isSo_197 : decode cX12_isSo 197 = .ok (.isub, 1) := by decide +kernel
theorem d_X12_isSo_198 : decode cX12_isSo 198 = .ok (.invokestatic 358, 3) := by decide +kernel
theorem d_X12_isSo_201 : decode cX12_isSo 201 = .ok (.istore_n 3, 1) := by decide +kernel
theorem d_X12_isSo_202 : decode cX12_isSo 202 = .ok (.iinc 5 1, 3) := by decide +kernel
theorem d_X12_isSo_205 : decode cX12_isSo 205 = .ok (.goto (-166), 3) := by decide +kernel
theorem d_X12_isSo_208 : decode cX12_isSo 208 = .ok (.iconst 0, 1) := by decide +kernel
theorem d_X12_isSo_209 : decode cX12_isSo 209 = .ok (.istore 5, 2) := by decide +kernel
theorem d_X12_isSo_211 : decode cX12_isSo 211 = .ok (.iload 5, 2) := by decide +kernel
theorem d_X12_isSo_213 : decode cX12_isSo 213 = .ok (.aload_n 0, 1) := by decide +kernel
theorem d_X12_isSo_214 : decode cX12_isSo 214 = .ok (.getfield 343, 3) := by decide +kernel
theorem d_X12_isSo_217 : decode cX12_isSo 217 = .ok (.if_icmp .ge 33, 3) := by decide +kernel
theorem d_X12_isSo_220 : decode cX12_isSo 220 = .ok (.aload_n 0, 1) := by decide +kernel
theorem d_X12_isSo_221 : decode cX12_isSo 221 = .ok (.getfield 115, 3) := by decide +kernel
theorem d_X12_isSo_224 : decode cX12_isSo 224 = .ok (.aload_n 0, 1) := by decide +kernel
theorem d_X12_isSo_225 : decode cX12_isSo 225 = .ok (.getfield 109, 3) := by decide +kernel
theorem d_X12_isSo_228 : decode cX12_isSo 228 = .ok (.iload 5, 2) := by decide +kernel
theorem d_X12_isSo_230 : decode cX12_isSo 230 = .ok (.iaload, 1) := by decide +kernel
theorem d_X12_isSo_231 : decode cX12_isSo 231 = .ok (.iaload, 1) := by decide +kernel
theorem d_X12_isSo_232 : decode cX12_isSo 232 = .ok (.aload_n 0, 1) := by decide +kernel
theorem d_X12_isSo_233 : decode cX12_isSo 233 = .ok (.getfield 112, 3) := by decide +kernel
theorem d_X12_isSo_236 : decode cX12_isSo 236 = .ok (.iload 5, 2) := by decide +kernel
theorem d_X12_isSo_238 : decode cX12_isSo 238 = .ok (.iaload, 1) := by decide +kernel
theorem d_X12_isSo_239 : decode cX12_isSo 239 = .ok (.if_icmp .eq 5, 3) := by decide +kernel
theorem d_X12_isSo_242 : decode cX12_isSo 242 = .ok (.iconst 0, 1) := by decide +kernel
theorem d_X12_isSo_243 : decode cX12_isSo 243 = .ok (.ireturn, 1) := by decide +kernel
theorem d_X12_isSo_244 : decode cX12_isSo 244 = .ok (.iinc 5 1, 3) := by decide +kernel
theorem d_X12_isSo_247 : decode cX12_isSo 247 = .ok (.goto (-36), 3) := by decide +kernel
theorem d_X12_isSo_250 : decode cX12_isSo 250 = .ok (.iconst 1, 1) := by decide +kernel
theorem d_X12_isSo_251 : decode cX12_isSo 251 = .ok (.ireturn, 1) := by decide +kernel
def f_X12_isSo (this : Nat) (a1 : Int32) (a2 : Int32) : sa_M Int32 :=
sa_gd 12 this (
sa_let (0 : Int32) fun x1 =>
sa_wh1 (fun j2 (x2 : Int32) =>
if 8 ≤ x2 then
sa_bnd (sa_rdR 12 this 35) fun v3 =>
sa_bnd (sa_ldI .int v3 ((7 * a1) + 2)) fun v4 =>
sa_let (0 : Int32) fun x5 =>
sa_let (1 : Int32) fun x6 =>
sa_wh3 (fun j39 (x7 : Int32) (x8 : Int32) (x9 : Int32) =>
sa_bnd (sa_rdI 12 this 55) fun v10 =>
if v10 ≤ x9 then
sa_let (0 : Int32) fun x11 =>
sa_wh1 (fun j211 (x12 : Int32) =>
sa_bnd (sa_rdI 12 this 69) fun v13 =>
if v13 ≤ x12 then
sa_retZ 1
else
sa_bnd (sa_rdR 12 this 68) fun v14 =>
sa_bnd (sa_rdR 12 this 66) fun v15 =>
sa_bnd (sa_ldI .int v15 x12) fun v16 =>
sa_bnd (sa_ldI .int v14 v16) fun v17 =>
sa_bnd (sa_rdR 12 this 67) fun v18 =>
sa_bnd (sa_ldI .int v18 x12) fun v19 =>
if v17 = v19 then
sa_let ((x12 + 1) : Int32) fun x20 =>
j211 x20
else
sa_retZ 0) sa_F x11
else
sa_bnd (sa_rdR 12 this 52) fun v21 =>
sa_bnd (sa_ldI .int v21 x9) fun v22 =>
sa_bnd (sa_rdR 12 this 52) fun v23 =>
sa_bnd (sa_ldI .int v23 (x9 - 1)) fun v24 =>
sa_bnd (f_X12_wayOf this v24 v22) fun v25 =>
sa_let (0 : Int32) fun x26 =>
sa_wh3 (fun j77 (x27 : Int32) (x28 : Int32) (x29 : Int32) =>
sa_bnd (sa_rdR 12 this 20) fun v30 =>
sa_bnd (sa_ldI .int v30 ((4 * v25) + 2)) fun v31 =>
if v31 ≤ x29 then
sa_bnd (sa_rdR 12 this 20) fun v32 =>
sa_bnd (sa_ldI .int v32 ((4 * v25) + 3)) fun v33 =>
sa_let ((sa_max 0 (x27 - v33)) : Int32) fun x34 =>
sa_let ((x9 + 1) : Int32) fun x35 =>
j39 x34 x28 x35
else
sa_bnd (f_X12_has a2 x28) fun v36 =>
sa_jn1 (fun (y37 : Int32) =>
sa_bnd (sa_rdR 12 this 68) fun v38 =>
sa_bnd (sa_ldI .int v38 v22) fun v39 =>
sa_bnd (sa_stI v38 v22 (v39 + y37)) fun _ =>
sa_let ((x27 - y37) : Int32) fun x40 =>
sa_let ((x28 + 1) : Int32) fun x41 =>
sa_let ((x29 + 1) : Int32) fun x42 =>
j77 x40 x41 x42) fun j156 =>
if v36 = 0 then
j156 0
else
sa_bnd (sa_rdR 12 this 35) fun v43 =>
sa_bnd (sa_ldI .int v43 ((7 * a1) + 3)) fun v44 =>
sa_bnd (sa_rdR 12 this 18) fun v45 =>
sa_bnd (sa_ldI .int v45 (4 * v22)) fun v46 =>
sa_bnd (sa_rdR 12 this 35) fun v47 =>
sa_bnd (sa_ldI .int v47 ((7 * a1) + 4)) fun v48 =>
sa_bnd (sa_rdR 12 this 35) fun v49 =>
sa_bnd (sa_ldI .int v49 76) fun v50 =>
sa_bnd (f_X12_wearBy this x27 v44 v46 v48 (v50 + x28)) fun v51 =>
j156 (sa_min x27 v51)) sa_F x7 x8 x26) sa_F v4 x5 x6
else
sa_bnd (sa_rdR 12 this 68) fun v52 =>
sa_bnd (sa_stI v52 x2 0) fun _ =>
sa_let ((x2 + 1) : Int32) fun x53 =>
j2 x53) sa_F x1)
set_option maxHeartbeats 1000000 in
set_option maxRecDepth 10000 in
theorem b_X12_isSo {p : Program} {l : Launch} {e : Env} {s : State} {m : MethodId} {args : Array Value} {below : List Frame} {meth : Method} {c : Code} {D : va_G} {ad : Nat → Nat} {cA : FieldType → ClassId} {A : Nat → Prop} (this : Nat) (a1 : Int32) (a2 : Int32) (C : sa_C p s m args meth c cX12_isSo RX12 "isSo" 10 (some .boolean) D ad cA A) : sa_Sg p l e s m args below meth c 10 132 D ad cA A sa_eI 0 [(0, .ref (ad this)), (1, .int a1), (2, .int a2)] [] (f_X12_isSo this a1 a2) := by
  unfold f_X12_isSo
  refine sa_gdI ?_
  refine sa_iconst (v := 0) C d_X12_isSo_0 (by decide) ?_
  refine sa_topi (fun x1 => ?_)
  refine sa_istore_n (lv' := [(3, .int x1), (0, .ref (ad this)), (1, .int a1), (2, .int a2)]) C d_X12_isSo_1 rfl (by decide) rfl ?_
  refine sa_sub [1, 2, 3, 0] rfl (sa_loop1 (fun x2 => [(0, .ref (ad this)), (1, .int a1), (2, .int a2), (3, .int x2)]) (fun x2 => []) (fun j2 hj2 x2 => ?_) _ _)
  refine sa_iload_n C d_X12_isSo_2 rfl 3 rfl ?_
  refine sa_bipush (v := 8) C d_X12_isSo_3 (by decide) ?_
  refine sa_icmp_ge (tgt := 21) C d_X12_isSo_5 (by decide) ?_ ?_
  · refine sa_aload_n C d_X12_isSo_21 rfl 0 rfl ?_
    refine sa_getR C fd_X12_64 rfl d_X12_isSo_22 (fun v3 => ?_)
    refine sa_bipush (v := 7) C d_X12_isSo_25 (by decide) ?_
    refine sa_iload_n C d_X12_isSo_27 rfl 1 rfl ?_
    refine sa_imul C d_X12_isSo_28 ?_
    refine sa_iconst (v := 2) C d_X12_isSo_29 (by decide) ?_
    refine sa_iadd C d_X12_isSo_30 ?_
    refine sa_iald C d_X12_isSo_31 (fun v4 => ?_)
    refine sa_istore_n (lv' := [(3, .int v4), (0, .ref (ad this)), (1, .int a1), (2, .int a2)]) C d_X12_isSo_32 rfl (by decide) rfl ?_
    refine sa_iconst (v := 0) C d_X12_isSo_33 (by decide) ?_
    refine sa_topi (fun x5 => ?_)
    refine sa_istore (lv' := [(4, .int x5), (3, .int v4), (0, .ref (ad this)), (1, .int a1), (2, .int a2)]) C d_X12_isSo_34 (by decide) rfl ?_
    refine sa_iconst (v := 1) C d_X12_isSo_36 (by decide) ?_
    refine sa_topi (fun x6 => ?_)
    refine sa_istore (lv' := [(5, .int x6), (4, .int x5), (3, .int v4), (0, .ref (ad this)), (1, .int a1), (2, .int a2)]) C d_X12_isSo_37 (by decide) rfl ?_
    refine sa_sub [3, 4, 5, 2, 1, 0] rfl (sa_loop3 (fun x7 x8 x9 => [(0, .ref (ad this)), (1, .int a1), (2, .int a2), (3, .int x7), (4, .int x8), (5, .int x9)]) (fun x7 x8 x9 => []) (fun j39 hj39 x7 x8 x9 => ?_) _ _ _ _)
    refine sa_iload C d_X12_isSo_39 5 rfl ?_
    refine sa_aload_n C d_X12_isSo_41 rfl 0 rfl ?_
    refine sa_getI C fd_X12_493 d_X12_isSo_42 (fun v10 => ?_)
    refine sa_icmp_ge (tgt := 208) C d_X12_isSo_45 (by decide) ?_ ?_
    · refine sa_iconst (v := 0) C d_X12_isSo_208 (by decide) ?_
      refine sa_topi (fun x11 => ?_)
      refine sa_istore (lv' := [(5, .int x11), (0, .ref (ad this)), (1, .int a1), (2, .int a2), (3, .int x7), (4, .int x8)]) C d_X12_isSo_209 (by decide) rfl ?_
      refine sa_sub [1, 0] rfl (sa_loop1 (fun x12 => [(0, .ref (ad this)), (5, .int x12)]) (fun x12 => []) (fun j211 hj211 x12 => ?_) _ _)
      refine sa_iload C d_X12_isSo_211 1 rfl ?_
      refine sa_aload_n C d_X12_isSo_213 rfl 0 rfl ?_
      refine sa_getI C fd_X12_343 d_X12_isSo_214 (fun v13 => ?_)
      refine sa_icmp_ge (tgt := 250) C d_X12_isSo_217 (by decide) ?_ ?_
      · refine sa_iconst (v := 1) C d_X12_isSo_250 (by decide) ?_
        exact sa_zret C d_X12_isSo_251
      refine sa_aload_n C d_X12_isSo_220 rfl 0 rfl ?_
      refine sa_getR C fd_X12_115 rfl d_X12_isSo_221 (fun v14 => ?_)
      refine sa_aload_n C d_X12_isSo_224 rfl 0 rfl ?_
      refine sa_getR C fd_X12_109 rfl d_X12_isSo_225 (fun v15 => ?_)
      refine sa_iload C d_X12_isSo_228 1 rfl ?_
      refine sa_iald C d_X12_isSo_230 (fun v16 => ?_)
      refine sa_iald C d_X12_isSo_231 (fun v17 => ?_)
      refine sa_aload_n C d_X12_isSo_232 rfl 0 rfl ?_
      refine sa_getR C fd_X12_112 rfl d_X12_isSo_233 (fun v18 => ?_)
      refine sa_iload C d_X12_isSo_236 1 rfl ?_
      refine sa_iald C d_X12_isSo_238 (fun v19 => ?_)
      refine sa_icmp_eq (tgt := 244) C d_X12_isSo_239 (by decide) ?_ ?_
      · refine sa_iinc C (fun zz => [(5, .int zz), (0, .ref (ad this))]) d_X12_isSo_244 1 rfl rfl (by decide) (fun _ => rfl) (fun x20 => ?_)
        refine sa_goto (tgt := 211) C d_X12_isSo_247 (by decide) ?_
        exact sa_sub [1, 0] rfl (hj211 _)
      refine sa_iconst (v := 0) C d_X12_isSo_242 (by decide) ?_
      exact sa_zret C d_X12_isSo_243
    refine sa_aload_n C d_X12_isSo_48 rfl 0 rfl ?_
    refine sa_getR C fd_X12_103 rfl d_X12_isSo_49 (fun v21 => ?_)
    refine sa_iload C d_X12_isSo_52 5 rfl ?_
    refine sa_iald C d_X12_isSo_54 (fun v22 => ?_)
    refine sa_istore (lv' := [(6, .int v22), (0, .ref (ad this)), (1, .int a1), (2, .int a2), (3, .int x7), (4, .int x8), (5, .int x9)]) C d_X12_isSo_55 (by decide) rfl ?_
    refine sa_aload_n C d_X12_isSo_57 rfl 1 rfl ?_
    refine sa_aload_n C d_X12_isSo_58 rfl 1 rfl ?_
    refine sa_getR C fd_X12_103 rfl d_X12_isSo_59 (fun v23 => ?_)
    refine sa_iload C d_X12_isSo_62 6 rfl ?_
    refine sa_iconst (v := 1) C d_X12_isSo_64 (by decide) ?_
    refine sa_isub C d_X12_isSo_65 ?_
    refine sa_iald C d_X12_isSo_66 (fun v24 => ?_)
    refine sa_iload C d_X12_isSo_67 0 rfl ?_
    refine sa_invV (ci := 12) C (k_X12_wayOf this v24 v22) q1839 ds_X12_wayOf q128 rfl q1838 q74 q1836 (gd_X12_wayOf this v24 v22) rfl rfl rfl (Nat.le_of_ble_eq_true rfl) (by decide) (by decide) d_X12_isSo_69 (fun v25 => ?_)
    refine sa_istore (lv' := [(7, .int v25), (6, .int v22), (0, .ref (ad this)), (1, .int a1), (2, .int a2), (3, .int x7), (4, .int x8), (5, .int x9)]) C d_X12_isSo_72 (by decide) rfl ?_
    refine sa_iconst (v := 0) C d_X12_isSo_74 (by decide) ?_
    refine sa_topi (fun x26 => ?_)
    refine sa_istore (lv' := [(8, .int x26), (7, .int v25), (6, .int v22), (0, .ref (ad this)), (1, .int a1), (2, .int a2), (3, .int x7), (4, .int x8), (5, .int x9)]) C d_X12_isSo_75 (by decide) rfl ?_
    refine sa_sub [3, 4, 5, 6, 7, 8, 2, 1, 0] rfl (sa_loop3 (fun x27 x28 x29 => [(0, .ref (ad this)), (1, .int a1), (2, .int a2), (3, .int x27), (4, .int x28), (5, .int x9), (6, .int v22), (7, .int v25), (8, .int x29)]) (fun x27 x28 x29 => []) (fun j77 hj77 x27 x28 x29 => ?_) _ _ _ _)
    refine sa_iload C d_X12_isSo_77 8 rfl ?_
    refine sa_aload_n C d_X12_isSo_79 rfl 0 rfl ?_
    refine sa_getR C fd_X12_43 rfl d_X12_isSo_80 (fun v30 => ?_)
    refine sa_iconst (v := 4) C d_X12_isSo_83 (by decide) ?_
    refine sa_iload C d_X12_isSo_84 7 rfl ?_
    refine sa_imul C d_X12_isSo_86 ?_
    refine sa_iconst (v := 2) C d_X12_isSo_87 (by decide) ?_
    refine sa_iadd C d_X12_isSo_88 ?_
    refine sa_iald C d_X12_isSo_89 (fun v31 => ?_)
    refine sa_icmp_ge (tgt := 184) C d_X12_isSo_90 (by decide) ?_ ?_
    · refine sa_iconst (v := 0) C d_X12_isSo_184 (by decide) ?_
      refine sa_iload_n C d_X12_isSo_185 rfl 3 rfl ?_
      refine sa_aload_n C d_X12_isSo_186 rfl 0 rfl ?_
      refine sa_getR C fd_X12_43 rfl d_X12_isSo_187 (fun v32 => ?_)
      refine sa_iconst (v := 4) C d_X12_isSo_190 (by decide) ?_
      refine sa_iload C d_X12_isSo_191 7 rfl ?_
      refine sa_imul C d_X12_isSo_193 ?_
      refine sa_iconst (v := 3) C d_X12_isSo_194 (by decide) ?_
      refine sa_iadd C d_X12_isSo_195 ?_
      refine sa_iald C d_X12_isSo_196 (fun v33 => ?_)
      refine sa_isub C d_X12_isSo_197 ?_
      refine sa_mmax C q1820 (Nat.le_of_ble_eq_true rfl) (by decide) q527 q130 q528 d_X12_isSo_198 ?_
      refine sa_topi (fun x34 => ?_)
      refine sa_istore_n (lv' := [(3, .int x34), (0, .ref (ad this)), (1, .int a1), (2, .int a2), (4, .int x28), (5, .int x9), (6, .int v22), (7, .int v25), (8, .int x29)]) C d_X12_isSo_201 rfl (by decide) rfl ?_
      refine sa_iinc C (fun zz => [(5, .int zz), (3, .int x34), (0, .ref (ad this)), (1, .int a1), (2, .int a2), (4, .int x28), (6, .int v22), (7, .int v25), (8, .int x29)]) d_X12_isSo_202 5 rfl rfl (by decide) (fun _ => rfl) (fun x35 => ?_)
      refine sa_goto (tgt := 39) C d_X12_isSo_205 (by decide) ?_
      exact sa_sub [2, 3, 4, 1, 5, 0] rfl (hj39 _ _ _)
    refine sa_iload_n C d_X12_isSo_93 rfl 2 rfl ?_
    refine sa_iload C d_X12_isSo_94 4 rfl ?_
    refine sa_invS C (k_X12_has a2 x28) q1673 ds_X12_has q128 q1672 q1671 rfl rfl rfl (Nat.le_of_ble_eq_true rfl) (by decide) (by decide) d_X12_isSo_96 (fun v36 => ?_)
    refine sa_join1 156 (fun y37 => [(0, .ref (ad this)), (1, .int a1), (2, .int a2), (3, .int x27), (4, .int x28), (5, .int x9), (6, .int v22), (7, .int v25), (8, .int x29)]) (fun y37 => [.int y37]) (fun y37 => ?_) (fun j156 hj156 => ?_)
    · refine sa_istore (lv' := [(9, .int y37), (0, .ref (ad this)), (1, .int a1), (2, .int a2), (3, .int x27), (4, .int x28), (5, .int x9), (6, .int v22), (7, .int v25), (8, .int x29)]) C d_X12_isSo_156 (by decide) rfl ?_
      refine sa_aload_n C d_X12_isSo_158 rfl 1 rfl ?_
      refine sa_getR C fd_X12_115 rfl d_X12_isSo_159 (fun v38 => ?_)
      refine sa_iload C d_X12_isSo_162 7 rfl ?_
      refine sa_dup2_11 C d_X12_isSo_164 rfl rfl ?_
      refine sa_iald C d_X12_isSo_165 (fun v39 => ?_)
      refine sa_iload C d_X12_isSo_166 0 rfl ?_
      refine sa_iadd C d_X12_isSo_168 ?_
      refine sa_iast C d_X12_isSo_169 ?_
      refine sa_iload_n C d_X12_isSo_170 rfl 4 rfl ?_
      refine sa_iload C d_X12_isSo_171 0 rfl ?_
      refine sa_isub C d_X12_isSo_173 ?_
      refine sa_topi (fun x40 => ?_)
      refine sa_istore_n (lv' := [(3, .int x40), (9, .int y37), (0, .ref (ad this)), (1, .int a1), (2, .int a2), (4, .int x28), (5, .int x9), (6, .int v22), (7, .int v25), (8, .int x29)]) C d_X12_isSo_174 rfl (by decide) rfl ?_
      refine sa_iinc C (fun zz => [(4, .int zz), (3, .int x40), (9, .int y37), (0, .ref (ad this)), (1, .int a1), (2, .int a2), (5, .int x9), (6, .int v22), (7, .int v25), (8, .int x29)]) d_X12_isSo_175 5 rfl rfl (by decide) (fun _ => rfl) (fun x41 => ?_)
      refine sa_iinc C (fun zz => [(8, .int zz), (4, .int x41), (3, .int x40), (9, .int y37), (0, .ref (ad this)), (1, .int a1), (2, .int a2), (5, .int x9), (6, .int v22), (7, .int v25)]) d_X12_isSo_178 9 rfl rfl (by decide) (fun _ => rfl) (fun x42 => ?_)
      refine sa_goto (tgt := 77) C d_X12_isSo_181 (by decide) ?_
      exact sa_sub [4, 5, 6, 2, 1, 7, 8, 9, 0] rfl (hj77 _ _ _)
    refine sa_if_eq (tgt := 155) C d_X12_isSo_99 (by decide) ?_ ?_
    · refine sa_iconst (v := 0) C d_X12_isSo_155 (by decide) ?_
      exact sa_sub [0, 1, 2, 3, 4, 5, 6, 7, 8] rfl (hj156 _)
    refine sa_iload_n C d_X12_isSo_102 rfl 3 rfl ?_
    refine sa_aload_n C d_X12_isSo_103 rfl 0 rfl ?_
    refine sa_iload_n C d_X12_isSo_104 rfl 3 rfl ?_
    refine sa_aload_n C d_X12_isSo_105 rfl 0 rfl ?_
    refine sa_getR C fd_X12_64 rfl d_X12_isSo_106 (fun v43 => ?_)
    refine sa_bipush (v := 7) C d_X12_isSo_109 (by decide) ?_
    refine sa_iload_n C d_X12_isSo_111 rfl 1 rfl ?_
    refine sa_imul C d_X12_isSo_112 ?_
    refine sa_iconst (v := 3) C d_X12_isSo_113 (by decide) ?_
    refine sa_iadd C d_X12_isSo_114 ?_
    refine sa_iald C d_X12_isSo_115 (fun v44 => ?_)
    refine sa_aload_n C d_X12_isSo_116 rfl 0 rfl ?_
    refine sa_getR C fd_X12_37 rfl d_X12_isSo_117 (fun v45 => ?_)
    refine sa_iconst (v := 4) C d_X12_isSo_120 (by decide) ?_
    refine sa_iload C d_X12_isSo_121 6 rfl ?_
    refine sa_imul C d_X12_isSo_123 ?_
    refine sa_iald C d_X12_isSo_124 (fun v46 => ?_)
    refine sa_aload_n C d_X12_isSo_125 rfl 0 rfl ?_
    refine sa_getR C fd_X12_64 rfl d_X12_isSo_126 (fun v47 => ?_)
    refine sa_bipush (v := 7) C d_X12_isSo_129 (by decide) ?_
    refine sa_iload_n C d_X12_isSo_131 rfl 1 rfl ?_
    refine sa_imul C d_X12_isSo_132 ?_
    refine sa_iconst (v := 4) C d_X12_isSo_133 (by decide) ?_
    refine sa_iadd C d_X12_isSo_134 ?_
    refine sa_iald C d_X12_isSo_135 (fun v48 => ?_)
    refine sa_aload_n C d_X12_isSo_136 rfl 0 rfl ?_
    refine sa_getR C fd_X12_64 rfl d_X12_isSo_137 (fun v49 => ?_)
    refine sa_bipush (v := 76) C d_X12_isSo_140 (by decide) ?_
    refine sa_iald C d_X12_isSo_142 (fun v50 => ?_)
    refine sa_iload C d_X12_isSo_143 4 rfl ?_
    refine sa_iadd C d_X12_isSo_145 ?_
    refine sa_invV (ci := 12) C (k_X12_wearBy this x27 v44 v46 v48 (v50 + x28)) q1818 ds_X12_wearBy q128 rfl q1817 q72 q1815 (gd_X12_wearBy this x27 v44 v46 v48 (v50 + x28)) rfl rfl rfl (Nat.le_of_ble_eq_true rfl) (by decide) (by decide) d_X12_isSo_146 (fun v51 => ?_)
    refine sa_mmin C q1819 (Nat.le_of_ble_eq_true rfl) (by decide) q530 q130 q531 d_X12_isSo_149 ?_
    refine sa_goto (tgt := 156) C d_X12_isSo_152 (by decide) ?_
    exact sa_sub [0, 1, 2, 3, 4, 5, 6, 7, 8] rfl (hj156 _)
  refine sa_aload_n C d_X12_isSo_8 rfl 0 rfl ?_
  refine sa_getR C fd_X12_115 rfl d_X12_isSo_9 (fun v52 => ?_)
  refine sa_iload_n C d_X12_isSo_12 rfl 3 rfl ?_
  refine sa_iconst (v := 0) C d_X12_isSo_13 (by decide) ?_
  refine sa_iast C d_X12_isSo_14 ?_
  refine sa_iinc C (fun zz => [(3, .int zz), (0, .ref (ad this)), (1, .int a1), (2, .int a2)]) d_X12_isSo_15 3 rfl rfl (by decide) (fun _ => rfl) (fun x53 => ?_)
  refine sa_goto (tgt := 2) C d_X12_isSo_18 (by decide) ?_
  exact sa_sub [1, 2, 3, 0] rfl (hj2 _)
theorem k_X12_isSo (this : Nat) (a1 : Int32) (a2 : Int32) : sa_Met 132 yX12_isSo cX12_isSo 10 (some .boolean) (fun ad => [.ref (ad this), .int a1, .int a2]) sa_eI (f_X12_isSo this a1 a2) := sa_mk (by decide) (fun ad => Nat.le_of_ble_eq_true rfl) (fun p l e s m args below meth c D ad cA A C => b_X12_isSo this a1 a2 C)
theorem gd_X12_isSo (this : Nat) (a1 : Int32) (a2 : Int32) (σ : sa_St) (r : Int32) (τ : sa_St) (h : f_X12_isSo this a1 a2 σ = some (r, τ)) : sa_sh this = some (.inl 12) := sa_gd_ok h
theorem d_X12_rained_0 : decode cX12_rained 0 = .ok (.aload_n 0, 1) := by decide +kernel
theorem d_X12_rained_1 : decode cX12_rained 1 = .ok (.iconst 0, 1) := by decide +kernel
theorem d_X12_rained_2 : decode cX12_rained 2 = .ok (.putfield 127, 3) := by decide +kernel
theorem d_X12_rained_5 : decode cX12_rained 5 = .ok (.iload_n 3, 1) := by decide +kernel
theorem d_X12_rained_6 : decode cX12_rained 6 = .ok (.iconst (-1), 1) := by decide +kernel
theorem d_X12_rained_7 : decode cX12_rained 7 = .ok (.if_icmp .lt 22, 3) := by decide +kernel
theorem d_X12_rained_10 : decode cX12_rained 10 = .ok (.aload_n 0, 1) := by decide +kernel
theorem d_X12_rained_11 : decode cX12_rained 11 = .ok (.iload_n 1, 1) := by decide +kernel
theorem d_X12_rained_12 : decode cX12_rained 12 = .ok (.iload_n 2, 1) := by decide +kernel
theorem d_X12_rained_13 : decode cX12_rained 13 = .ok (.iconst 2, 1) := by decide +kernel
theorem d_X12_rained_14 : decode cX12_rained 14 = .ok (.invokevirtual 537, 3) := by decide +kernel
theorem d_X12_rained_17 : decode cX12_rained 17 = .ok (.ifCond .eq 12, 3) := by decide +kernel
theorem d_X12_rained_20 : decode cX12_rained 20 = .ok (.aload_n 0, 1) := by decide +kernel
theorem d_X12_rained_21 : decode cX12_rained 21 = .ok (.getfield 499, 3) := by decide +kernel
theorem d_X12_rained_24 : decode cX12_rained 24 = .ok (.bipush 12, 2) := by decide +kernel
theorem d_X12_rained_26 : decode cX12_rained 26 = .ok (.if_icmp .le 5, 3) := by decide +kernel
theorem d_X12_rained_29 : decode cX12_rained 29 = .ok (.iconst (-1), 1) := by decide +kernel
theorem d_X12_rained_30 : decode cX12_rained 30 = .ok (.ireturn, 1) := by decide +kernel
theorem d_X12_rained_31 : decode cX12_rained 31 = .ok (.iconst 0, 1) := by decide +kernel
theorem d_X12_rained_32 : decode cX12_rained 32 = .ok (.istore 4, 2) := by decide +kernel
theorem d_X12_rained_34 : decode cX12_rained 34 = .ok (.iconst 0, 1) := by decide +kernel
theorem d_X12_rained_35 : decode cX12_rained 35 = .ok (.istore 5, 2) := by decide +kernel
theorem d_X12_rained_37 : decode cX12_rained 37 = .ok (.iload 5, 2) := by decide +kernel
theorem d_X12_rained_39 : decode cX12_rained 39 = .ok (.iconst 1, 1) := by decide +kernel
theorem d_X12_rained_40 : decode cX12_rained 40 = .ok (.aload_n 0, 1) := by decide +kernel
theorem d_X12_rained_41 : decode cX12_rained 41 = .ok (.getfield 499, 3) := by decide +kernel
theorem d_X12_rained_44 : decode cX12_rained 44 = .ok (.ishl, 1) := by decide +kernel
theorem d_X12_rained_45 : decode cX12_rained 45 = .ok (.if_icmp .ge 34, 3) := by decide +kernel
theorem d_X12_rained_48 : decode cX12_rained 48 = .ok (.aload_n 0, 1) := by decide +kernel
theorem d_X12_rained_49 : decode cX12_rained 49 = .ok (.iload_n 1, 1) := by decide +kernel
theorem d_X12_rained_50 : decode cX12_rained 50 = .ok (.iload 5, 2) := by decide +kernel
theorem d_X12_rained_52 : decode cX12_rained 52 = .ok (.invokevirtual 569, 3) := by decide +kernel
theorem d_X12_rained_55 : decode cX12_rained 55 = .ok (.ifCond .ne 6, 3) := by decide +kernel
theorem d_X12_rained_58 : decode cX12_rained 58 = .ok (.goto 15, 3) := by decide +kernel
theorem d_X12_rained_61 : decode cX12_rained 61 = .ok (.iload 4, 2) := by decide +kernel
theorem d_X12_rained_63 : decode cX12_rained 63 = .ok (.iload_n 3, 1) := by decide +kernel
theorem d_X12_rained_64 : decode cX12_rained 64 = .ok (.if_icmp .ne 6, 3) := by decide +kernel
theorem d_X12_rained_67 : decode cX12_rained 67 = .ok (.iload 5, 2) := by decide +kernel
theorem d_X12_rained_69 : decode cX12_rained 69 = .ok (.ireturn, 1) := by decide +kernel
theorem d_X12_rained_70 : decode cX12_rained 70 = .ok (.iinc 4 1, 3) := by decide +kernel
theorem d_X12_rained_73 : decode cX12_rained 73 = .ok (.iinc 5 1, 3) := by decide +kernel
theorem d_X12_rained_76 : decode cX12_rained 76 = .ok (.goto (-39), 3) := by decide +kernel
theorem d_X12_rained_79 : decode cX12_rained 79 = .ok (.iload_n 3, 1) := by decide +kernel
theorem d_X12_rained_80 : decode cX12_rained 80 = .ok (.iconst (-1), 1) := by decide +kernel
theorem d_X12_rained_81 : decode cX12_rained 81 = .ok (.if_icmp .ne 8, 3) := by decide +kernel
theorem d_X12_rained_84 : decode cX12_rained 84 = .ok (.iload 4, 2) := by decide +kernel
theorem d_X12_rained_86 : decode cX12_rained 86 = .ok (.goto 4, 3) := by decide +kernel
theorem d_X12_rained_89 : decode cX12_rained 89 = .ok (.iconst (-1), 1) := by decide +kernel
theorem d_X12_rained_90 : decode cX12_rained 90 = .ok (.ireturn, 1) := by decide +kernel
def f_X12_rained (this : Nat) (a1 : Int32) (a2 : Int32) (a3 : Int32) : sa_M Int32 :=
sa_gd 12 this (
sa_bnd (sa_wrI 12 this 0 0) fun _ =>
sa_jn0 (sa_ret ((-1) : Int32)) fun j29 =>
if a3 < (-1) then
j29
else
sa_bnd (f_X12_layBest this a1 a2 2) fun v1 =>
if v1 = 0 then
j29
else
sa_bnd (sa_rdI 12 this 56) fun v2 =>
if v2 ≤ 12 then
sa_let (0 : Int32) fun x3 =>
sa_let (0 : Int32) fun x4 =>
sa_wh2 (fun j37 (x5 : Int32) (x6 : Int32) =>
sa_bnd (sa_rdI 12 this 56) fun v7 =>
if (1 <<< (v7 &&& 31)) ≤ x6 then
sa_jn1 (fun (y8 : Int32) =>
sa_ret (y8 : Int32)) fun j90 =>
if ¬ a3 = (-1) then
j90 (-1)
else
j90 x5
else
sa_bnd (f_X12_isSo this a1 x6) fun v9 =>
sa_jn1 (fun (x10 : Int32) =>
sa_let ((x6 + 1) : Int32) fun x11 =>
j37 x10 x11) fun j73 =>
if ¬ v9 = 0 then
if ¬ x5 = a3 then
sa_let ((x5 + 1) : Int32) fun x12 =>
j73 x12
else
sa_ret (x6 : Int32)
else
j73 x5) sa_F x3 x4
else
j29)
set_option maxHeartbeats 1000000 in
set_option maxRecDepth 10000 in
theorem b_X12_rained {p : Program} {l : Launch} {e : Env} {s : State} {m : MethodId} {args : Array Value} {below : List Frame} {meth : Method} {c : Code} {D : va_G} {ad : Nat → Nat} {cA : FieldType → ClassId} {A : Nat → Prop} (this : Nat) (a1 : Int32) (a2 : Int32) (a3 : Int32) (C : sa_C p s m args meth c cX12_rained RX12 "rained" 6 (some .int) D ad cA A) : sa_Sg p l e s m args below meth c 6 199 D ad cA A sa_eI 0 [(0, .ref (ad this)), (1, .int a1), (2, .int a2), (3, .int a3)] [] (f_X12_rained this a1 a2 a3) := by
  unfold f_X12_rained
  refine sa_gdI ?_
  refine sa_aload_n C d_X12_rained_0 rfl 0 rfl ?_
  refine sa_iconst (v := 0) C d_X12_rained_1 (by decide) ?_
  refine sa_putI C fd_X12_127 d_X12_rained_2 ?_
  refine sa_iload_n C d_X12_rained_5 rfl 3 rfl ?_
  refine sa_iconst (v := (-1)) C d_X12_rained_6 (by decide) ?_
  refine sa_join0 29 ([]) ([]) (?_) (fun j29 hj29 => ?_)
  · refine sa_iconst (v := (-1)) C d_X12_rained_29 (by decide) ?_
    exact sa_iret C d_X12_rained_30
  refine sa_icmp_lt (tgt := 29) C d_X12_rained_7 (by decide) ?_ ?_
  · exact sa_sub [] rfl (hj29)
  refine sa_aload_n C d_X12_rained_10 rfl 0 rfl ?_
  refine sa_iload_n C d_X12_rained_11 rfl 1 rfl ?_
  refine sa_iload_n C d_X12_rained_12 rfl 2 rfl ?_
  refine sa_iconst (v := 2) C d_X12_rained_13 (by decide) ?_
  refine sa_invV (ci := 12) C (k_X12_layBest this a1 a2 2) q1966 ds_X12_layBest q128 rfl q1965 q91 q1963 (gd_X12_layBest this a1 a2 2) rfl rfl rfl (Nat.le_of_ble_eq_true rfl) (by decide) (by decide) d_X12_rained_14 (fun v1 => ?_)
  refine sa_if_eq (tgt := 29) C d_X12_rained_17 (by decide) ?_ ?_
  · exact sa_sub [] rfl (hj29)
  refine sa_aload_n C d_X12_rained_20 rfl 0 rfl ?_
  refine sa_getI C fd_X12_499 d_X12_rained_21 (fun v2 => ?_)
  refine sa_bipush (v := 12) C d_X12_rained_24 (by decide) ?_
  refine sa_icmp_le (tgt := 31) C d_X12_rained_26 (by decide) ?_ ?_
  · refine sa_iconst (v := 0) C d_X12_rained_31 (by decide) ?_
    refine sa_topi (fun x3 => ?_)
    refine sa_istore (lv' := [(4, .int x3), (0, .ref (ad this)), (1, .int a1), (2, .int a2), (3, .int a3)]) C d_X12_rained_32 (by decide) rfl ?_
    refine sa_iconst (v := 0) C d_X12_rained_34 (by decide) ?_
    refine sa_topi (fun x4 => ?_)
    refine sa_istore (lv' := [(5, .int x4), (4, .int x3), (0, .ref (ad this)), (1, .int a1), (2, .int a2), (3, .int a3)]) C d_X12_rained_35 (by decide) rfl ?_
    refine sa_sub [2, 3, 5, 1, 0] rfl (sa_loop2 (fun x5 x6 => [(0, .ref (ad this)), (1, .int a1), (3, .int a3), (4, .int x5), (5, .int x6)]) (fun x5 x6 => []) (fun j37 hj37 x5 x6 => ?_) _ _ _)
    refine sa_iload C d_X12_rained_37 4 rfl ?_
    refine sa_iconst (v := 1) C d_X12_rained_39 (by decide) ?_
    refine sa_aload_n C d_X12_rained_40 rfl 0 rfl ?_
    refine sa_getI C fd_X12_499 d_X12_rained_41 (fun v7 => ?_)
    refine sa_ishl C d_X12_rained_44 ?_
    refine sa_icmp_ge (tgt := 79) C d_X12_rained_45 (by decide) ?_ ?_
    · refine sa_iload_n C d_X12_rained_79 rfl 2 rfl ?_
      refine sa_iconst (v := (-1)) C d_X12_rained_80 (by decide) ?_
      refine sa_join1 90 (fun y8 => []) (fun y8 => [.int y8]) (fun y8 => ?_) (fun j90 hj90 => ?_)
      · exact sa_iret C d_X12_rained_90
      refine sa_icmp_ne (tgt := 89) C d_X12_rained_81 (by decide) ?_ ?_
      · refine sa_iconst (v := (-1)) C d_X12_rained_89 (by decide) ?_
        exact sa_sub [] rfl (hj90 _)
      refine sa_iload C d_X12_rained_84 3 rfl ?_
      refine sa_goto (tgt := 90) C d_X12_rained_86 (by decide) ?_
      exact sa_sub [] rfl (hj90 _)
    refine sa_aload_n C d_X12_rained_48 rfl 0 rfl ?_
    refine sa_iload_n C d_X12_rained_49 rfl 1 rfl ?_
    refine sa_iload C d_X12_rained_50 4 rfl ?_
    refine sa_invV (ci := 12) C (k_X12_isSo this a1 x6) q2063 ds_X12_isSo q128 rfl q2062 q107 q2060 (gd_X12_isSo this a1 x6) rfl rfl rfl (Nat.le_of_ble_eq_true rfl) (by decide) (by decide) d_X12_rained_52 (fun v9 => ?_)
    refine sa_join1 73 (fun x10 => [(0, .ref (ad this)), (1, .int a1), (3, .int a3), (4, .int x10), (5, .int x6)]) (fun x10 => []) (fun x10 => ?_) (fun j73 hj73 => ?_)
    · refine sa_iinc C (fun zz => [(5, .int zz), (0, .ref (ad this)), (1, .int a1), (3, .int a3), (4, .int x10)]) d_X12_rained_73 4 rfl rfl (by decide) (fun _ => rfl) (fun x11 => ?_)
      refine sa_goto (tgt := 37) C d_X12_rained_76 (by decide) ?_
      exact sa_sub [1, 2, 3, 4, 0] rfl (hj37 _ _)
    refine sa_if_ne (tgt := 61) C d_X12_rained_55 (by decide) ?_ ?_
    · refine sa_iload C d_X12_rained_61 3 rfl ?_
      refine sa_iload_n C d_X12_rained_63 rfl 2 rfl ?_
      refine sa_icmp_ne (tgt := 70) C d_X12_rained_64 (by decide) ?_ ?_
      · refine sa_iinc C (fun zz => [(4, .int zz), (0, .ref (ad this)), (1, .int a1), (3, .int a3), (5, .int x6)]) d_X12_rained_70 3 rfl rfl (by decide) (fun _ => rfl) (fun x12 => ?_)
        exact sa_sub [1, 2, 3, 0, 4] rfl (hj73 _)
      refine sa_iload C d_X12_rained_67 4 rfl ?_
      exact sa_iret C d_X12_rained_69
    refine sa_goto (tgt := 73) C d_X12_rained_58 (by decide) ?_
    exact sa_sub [0, 1, 2, 3, 4] rfl (hj73 _)
  exact sa_sub [] rfl (hj29)
theorem k_X12_rained (this : Nat) (a1 : Int32) (a2 : Int32) (a3 : Int32) : sa_Met 199 yX12_rained cX12_rained 6 (some .int) (fun ad => [.ref (ad this), .int a1, .int a2, .int a3]) sa_eI (f_X12_rained this a1 a2 a3) := sa_mk (by decide) (fun ad => Nat.le_of_ble_eq_true rfl) (fun p l e s m args below meth c D ad cA A C => b_X12_rained this a1 a2 a3 C)
theorem gd_X12_rained (this : Nat) (a1 : Int32) (a2 : Int32) (a3 : Int32) (σ : sa_St) (r : Int32) (τ : sa_St) (h : f_X12_rained this a1 a2 a3 σ = some (r, τ)) : sa_sh this = some (.inl 12) := sa_gd_ok h
theorem d_X12_knows_0 : decode cX12_knows 0 = .ok (.aload_n 0, 1) := by decide +kernel
theorem d_X12_knows_1 : decode cX12_knows 1 = .ok (.iconst 0, 1) := by decide +kernel
theorem d_X12_knows_2 : decode cX12_knows 2 = .ok (.putfield 127, 3) := by decide +kernel
theorem d_X12_knows_5 : decode cX12_knows 5 = .ok (.aload_n 0, 1) := by decide +kernel
theorem d_X12_knows_6 : decode cX12_knows 6 = .ok (.getfield 331, 3) := by decide +kernel
theorem d_X12_knows_9 : decode cX12_knows 9 = .ok (.ifCond .eq 15, 3) := by decide +kernel
theorem d_X12_knows_12 : decode cX12_knows 12 = .ok (.iload_n 1, 1) := by decide +kernel
theorem d_X12_knows_13 : decode cX12_knows 13 = .ok (.i2l, 1) := by decide +kernel
theorem d_X12_knows_14 : decode cX12_knows 14 = .ok (.lconst 0, 1) := by decide +kernel
theorem d_X12_knows_15 : decode cX12_knows 15 = .ok (.ldc2_w 377, 3) := by decide +kernel
theorem d_X12_knows_18 : decode cX12_knows 18 = .ok (.invokestatic 248, 3) := by decide +kernel
theorem d_X12_knows_21 : decode cX12_knows 21 = .ok (.ifCond .ne 5, 3) := by decide +kernel
theorem d_X12_knows_24 : decode cX12_knows 24 = .ok (.iconst (-1), 1) := by decide +kernel
theorem d_X12_knows_25 : decode cX12_knows 25 = .ok (.ireturn, 1) := by decide +kernel
theorem d_X12_knows_26 : decode cX12_knows 26 = .ok (.iconst 0, 1) := by decide +kernel
theorem d_X12_knows_27 : decode cX12_knows 27 = .ok (.istore_n 2, 1) := by decide +kernel
theorem d_X12_knows_28 : decode cX12_knows 28 = .ok (.iconst 0, 1) := by decide +kernel
theorem d_X12_knows_29 : decode cX12_knows 29 = .ok (.istore_n 3, 1) := by decide +kernel
theorem d_X12_knows_30 : decode cX12_knows 30 = .ok (.iload_n 3, 1) := by decide +kernel
theorem d_X12_knows_31 : decode cX12_knows 31 = .ok (.aload_n 0, 1) := by decide +kernel
theorem d_X12_knows_32 : decode cX12_knows 32 = .ok (.getfield 64, 3) := by decide +kernel
theorem d_X12_knows_35 : decode cX12_knows 35 = .ok (.bipush 75, 2) := by decide +kernel
theorem d_X12_knows_37 : decode cX12_knows 37 = .ok (.iaload, 1) := by decide +kernel
theorem d_X12_knows_38 : decode cX12_knows 38 = .ok (.if_icmp .ge 48, 3) := by decide +kernel
theorem d_X12_knows_41 : decode cX12_knows 41 = .ok (.iload_n 2, 1) := by decide +kernel
theorem d_X12_knows_42 : decode cX12_knows 42 = .ok (.aload_n 0, 1) := by decide +kernel
theorem d_X12_knows_43 : decode cX12_knows 43 = .ok (.getfield 64, 3) := by decide +kernel
theorem d_X12_knows_46 : decode cX12_knows 46 = .ok (.iload_n 3, 1) := by decide +kernel
theorem d_X12_knows_47 : decode cX12_knows 47 = .ok (.invokestatic 352, 3) := by decide +kernel
theorem d_X12_knows_50 : decode cX12_knows 50 = .ok (.ifCond .eq 27, 3) := by decide +kernel
theorem d_X12_knows_53 : decode cX12_knows 53 = .ok (.aload_n 0, 1) := by decide +kernel
theorem d_X12_knows_54 : decode cX12_knows 54 = .ok (.getfield 64, 3) := by decide +kernel
theorem d_X12_knows_57 : decode cX12_knows 57 = .ok (.bipush 7, 2) := by decide +kernel
theorem d_X12_knows_59 : decode cX12_knows 59 = .ok (.iload_n 3, 1) := by decide +kernel
theorem d_X12_knows_60 : decode cX12_knows 60 = .ok (.imul, 1) := by decide +kernel
theorem d_X12_knows_61 : decode cX12_knows 61 = .ok (.iconst 5, 1) := by decide +kernel
theorem d_X12_knows_62 : decode cX12_knows 62 = .ok (.iadd, 1) := by decide +kernel
theorem d_X12_knows_63 : decode cX12_knows 63 = .ok (.iaload, 1) := by decide +kernel
theorem d_X12_knows_64 : decode cX12_knows 64 = .ok (.iload_n 1, 1) := by decide +kernel
theorem d_X12_knows_65 : decode cX12_knows 65 = .ok (.invokestatic 260, 3) := by decide +kernel
theorem d_X12_knows_68 : decode cX12_knows 68 = .ok (.ifCond .eq 9, 3) := by decide +kernel
theorem d_X12_knows_71 : decode cX12_knows 71 = .ok (.iconst 1, 1) := by decide +kernel
theorem d_X12_knows_72 : decode cX12_knows 72 = .ok (.iload_n 3, 1) := by decide +kernel
theorem d_X12_knows_73 : decode cX12_knows 73 = .ok (.ishl, 1) := by decide +kernel
theorem d_X12_knows_74 : decode cX12_knows 74 = .ok (.goto 4, 3) := by decide +kernel
theorem d_X12_knows_77 : decode cX12_knows 77 = .ok (.iconst 0, 1) := by decide +kernel
theorem d_X12_knows_78 : decode cX12_knows 78 = .ok (.ior, 1) := by decide +kernel
theorem d_X12_knows_79 : decode cX12_knows 79 = .ok (.istore_n 2, 1) := by decide +kernel
theorem d_X12_knows_80 : decode cX12_knows 80 = .ok (.iinc 3 1, 3) := by decide +kernel
theorem d_X12_knows_83 : decode cX12_knows 83 = .ok (.goto (-53), 3) := by decide +kernel
theorem d_X12_knows_86 : decode cX12_knows 86 = .ok (.iload_n 2, 1) := by decide +kernel
theorem d_X12_knows_87 : decode cX12_knows 87 = .ok (.ireturn, 1) := by decide +kernel
def f_X12_knows (this : Nat) (a1 : Int32) : sa_M Int32 :=
sa_gd 12 this (
sa_bnd (sa_wrI 12 this 0 0) fun _ =>
sa_bnd (sa_rdI 12 this 25) fun v1 =>
sa_jn0 (sa_ret ((-1) : Int32)) fun j24 =>
if v1 = 0 then
j24
else
sa_bnd (f_X12_isIn (a1.toInt64) 0 3) fun v2 =>
if ¬ v2 = 0 then
sa_let (0 : Int32) fun x3 =>
sa_let (0 : Int32) fun x4 =>
sa_wh2 (fun j30 (x5 : Int32) (x6 : Int32) =>
sa_bnd (sa_rdR 12 this 35) fun v7 =>
sa_bnd (sa_ldI .int v7 75) fun v8 =>
if v8 ≤ x6 then
sa_ret (x5 : Int32)
else
sa_bnd (sa_rdR 12 this 35) fun v9 =>
sa_bnd (f_X12_lives v9 x6) fun v10 =>
sa_jn1 (fun (y11 : Int32) =>
sa_let ((x5 ||| y11) : Int32) fun x12 =>
sa_let ((x6 + 1) : Int32) fun x13 =>
j30 x12 x13) fun j78 =>
sa_jn0 (j78 0) fun j77 =>
if v10 = 0 then
j77
else
sa_bnd (sa_rdR 12 this 35) fun v14 =>
sa_bnd (sa_ldI .int v14 ((7 * x6) + 5)) fun v15 =>
sa_bnd (f_X12_has v15 a1) fun v16 =>
if v16 = 0 then
j77
else
j78 (1 <<< (x6 &&& 31))) sa_F x3 x4
else
j24)
set_option maxHeartbeats 1000000 in
set_option maxRecDepth 10000 in
theorem b_X12_knows {p : Program} {l : Launch} {e : Env} {s : State} {m : MethodId} {args : Array Value} {below : List Frame} {meth : Method} {c : Code} {D : va_G} {ad : Nat → Nat} {cA : FieldType → ClassId} {A : Nat → Prop} (this : Nat) (a1 : Int32) (C : sa_C p s m args meth c cX12_knows RX12 "knows" 4 (some .int) D ad cA A) : sa_Sg p l e s m args below meth c 4 2 D ad cA A sa_eI 0 [(0, .ref (ad this)), (1, .int a1)] [] (f_X12_knows this a1) := by
  unfold f_X12_knows
  refine sa_gdI ?_
  refine sa_aload_n C d_X12_knows_0 rfl 0 rfl ?_
  refine sa_iconst (v := 0) C d_X12_knows_1 (by decide) ?_
  refine sa_putI C fd_X12_127 d_X12_knows_2 ?_
  refine sa_aload_n C d_X12_knows_5 rfl 0 rfl ?_
  refine sa_getI C fd_X12_331 d_X12_knows_6 (fun v1 => ?_)
  refine sa_join0 24 ([]) ([]) (?_) (fun j24 hj24 => ?_)
  · refine sa_iconst (v := (-1)) C d_X12_knows_24 (by decide) ?_
    exact sa_iret C d_X12_knows_25
  refine sa_if_eq (tgt := 24) C d_X12_knows_9 (by decide) ?_ ?_
  · exact sa_sub [] rfl (hj24)
  refine sa_iload_n C d_X12_knows_12 rfl 1 rfl ?_
  refine sa_i2l C d_X12_knows_13 ?_
  refine sa_lconst (v := 0) C d_X12_knows_14 (by decide) ?_
  refine sa_ldc2 (v := 3) C d_X12_knows_15 q1791 ?_
  refine sa_invS C (k_X12_isIn (a1.toInt64) 0 3) q1637 ds_X12_isIn q128 q1636 q1635 rfl rfl rfl (Nat.le_of_ble_eq_true rfl) (by decide) (by decide) d_X12_knows_18 (fun v2 => ?_)
  refine sa_if_ne (tgt := 26) C d_X12_knows_21 (by decide) ?_ ?_
  · refine sa_iconst (v := 0) C d_X12_knows_26 (by decide) ?_
    refine sa_topi (fun x3 => ?_)
    refine sa_istore_n (lv' := [(2, .int x3), (0, .ref (ad this)), (1, .int a1)]) C d_X12_knows_27 rfl (by decide) rfl ?_
    refine sa_iconst (v := 0) C d_X12_knows_28 (by decide) ?_
    refine sa_topi (fun x4 => ?_)
    refine sa_istore_n (lv' := [(3, .int x4), (2, .int x3), (0, .ref (ad this)), (1, .int a1)]) C d_X12_knows_29 rfl (by decide) rfl ?_
    refine sa_sub [2, 3, 1, 0] rfl (sa_loop2 (fun x5 x6 => [(0, .ref (ad this)), (1, .int a1), (2, .int x5), (3, .int x6)]) (fun x5 x6 => []) (fun j30 hj30 x5 x6 => ?_) _ _ _)
    refine sa_iload_n C d_X12_knows_30 rfl 3 rfl ?_
    refine sa_aload_n C d_X12_knows_31 rfl 0 rfl ?_
    refine sa_getR C fd_X12_64 rfl d_X12_knows_32 (fun v7 => ?_)
    refine sa_bipush (v := 75) C d_X12_knows_35 (by decide) ?_
    refine sa_iald C d_X12_knows_37 (fun v8 => ?_)
    refine sa_icmp_ge (tgt := 86) C d_X12_knows_38 (by decide) ?_ ?_
    · refine sa_iload_n C d_X12_knows_86 rfl 2 rfl ?_
      exact sa_iret C d_X12_knows_87
    refine sa_iload_n C d_X12_knows_41 rfl 2 rfl ?_
    refine sa_aload_n C d_X12_knows_42 rfl 0 rfl ?_
    refine sa_getR C fd_X12_64 rfl d_X12_knows_43 (fun v9 => ?_)
    refine sa_iload_n C d_X12_knows_46 rfl 3 rfl ?_
    refine sa_invS C (k_X12_lives v9 x6) q1810 ds_X12_lives q128 q1809 q1808 rfl rfl rfl (Nat.le_of_ble_eq_true rfl) (by decide) (by decide) d_X12_knows_47 (fun v10 => ?_)
    refine sa_join1 78 (fun y11 => [(0, .ref (ad this)), (1, .int a1), (3, .int x6)]) (fun y11 => [.int y11, .int x5]) (fun y11 => ?_) (fun j78 hj78 => ?_)
    · refine sa_ior C d_X12_knows_78 ?_
      refine sa_topi (fun x12 => ?_)
      refine sa_istore_n (lv' := [(2, .int x12), (0, .ref (ad this)), (1, .int a1), (3, .int x6)]) C d_X12_knows_79 rfl (by decide) rfl ?_
      refine sa_iinc C (fun zz => [(3, .int zz), (2, .int x12), (0, .ref (ad this)), (1, .int a1)]) d_X12_knows_80 3 rfl rfl (by decide) (fun _ => rfl) (fun x13 => ?_)
      refine sa_goto (tgt := 30) C d_X12_knows_83 (by decide) ?_
      exact sa_sub [2, 3, 1, 0] rfl (hj30 _ _)
    refine sa_join0 77 ([(0, .ref (ad this)), (1, .int a1), (3, .int x6)]) ([.int x5]) (?_) (fun j77 hj77 => ?_)
    · refine sa_iconst (v := 0) C d_X12_knows_77 (by decide) ?_
      exact sa_sub [0, 1, 2] rfl (hj78 _)
    refine sa_if_eq (tgt := 77) C d_X12_knows_50 (by decide) ?_ ?_
    · exact sa_sub [0, 1, 3] rfl (hj77)
    refine sa_aload_n C d_X12_knows_53 rfl 0 rfl ?_
    refine sa_getR C fd_X12_64 rfl d_X12_knows_54 (fun v14 => ?_)
    refine sa_bipush (v := 7) C d_X12_knows_57 (by decide) ?_
    refine sa_iload_n C d_X12_knows_59 rfl 3 rfl ?_
    refine sa_imul C d_X12_knows_60 ?_
    refine sa_iconst (v := 5) C d_X12_knows_61 (by decide) ?_
    refine sa_iadd C d_X12_knows_62 ?_
    refine sa_iald C d_X12_knows_63 (fun v15 => ?_)
    refine sa_iload_n C d_X12_knows_64 rfl 1 rfl ?_
    refine sa_invS C (k_X12_has v15 a1) q1673 ds_X12_has q128 q1672 q1671 rfl rfl rfl (Nat.le_of_ble_eq_true rfl) (by decide) (by decide) d_X12_knows_65 (fun v16 => ?_)
    refine sa_if_eq (tgt := 77) C d_X12_knows_68 (by decide) ?_ ?_
    · exact sa_sub [0, 1, 3] rfl (hj77)
    refine sa_iconst (v := 1) C d_X12_knows_71 (by decide) ?_
    refine sa_iload_n C d_X12_knows_72 rfl 3 rfl ?_
    refine sa_ishl C d_X12_knows_73 ?_
    refine sa_goto (tgt := 78) C d_X12_knows_74 (by decide) ?_
    exact sa_sub [0, 1, 3] rfl (hj78 _)
  exact sa_sub [] rfl (hj24)
theorem k_X12_knows (this : Nat) (a1 : Int32) : sa_Met 2 yX12_knows cX12_knows 4 (some .int) (fun ad => [.ref (ad this), .int a1]) sa_eI (f_X12_knows this a1) := sa_mk (by decide) (fun ad => Nat.le_of_ble_eq_true rfl) (fun p l e s m args below meth c D ad cA A C => b_X12_knows this a1 C)
theorem gd_X12_knows (this : Nat) (a1 : Int32) (σ : sa_St) (r : Int32) (τ : sa_St) (h : f_X12_knows this a1 σ = some (r, τ)) : sa_sh this = some (.inl 12) := sa_gd_ok h
theorem d_X12_shortens_0 : decode cX12_shortens 0 = .ok (.bipush 8, 2) := by decide +kernel
theorem d_X12_shortens_2 : decode cX12_shortens 2 = .ok (.iload_n 1, 1) := by decide +kernel
theorem d_X12_shortens_3 : decode cX12_shortens 3 = .ok (.imul, 1) := by decide +kernel
theorem d_X12_shortens_4 : decode cX12_shortens 4 = .ok (.iload_n 2, 1) := by decide +kernel
theorem d_X12_shortens_5 : decode cX12_shortens 5 = .ok (.iadd, 1) := by decide +kernel
theorem d_X12_shortens_6 : decode cX12_shortens 6 = .ok (.istore 4, 2) := by decide +kernel
theorem d_X12_shortens_8 : decode cX12_shortens 8 = .ok (.aload_n 0, 1) := by decide +kernel
theorem d_X12_shortens_9 : decode cX12_shortens 9 = .ok (.getfield 118, 3) := by decide +kernel
theorem d_X12_shortens_12 : decode cX12_shortens 12 = .ok (.iload 4, 2) := by decide +kernel
theorem d_X12_shortens_14 : decode cX12_shortens 14 = .ok (.iaload, 1) := by decide +kernel
theorem d_X12_shortens_15 : decode cX12_shortens 15 = .ok (.iconst (-1), 1) := by decide +kernel
theorem d_X12_shortens_16 : decode cX12_shortens 16 = .ok (.if_icmp .eq 14, 3) := by decide +kernel
theorem d_X12_shortens_19 : decode cX12_shortens 19 = .ok (.iload_n 3, 1) := by decide +kernel
theorem d_X12_shortens_20 : decode cX12_shortens 20 = .ok (.aload_n 0, 1) := by decide +kernel
theorem d_X12_shortens_21 : decode cX12_shortens 21 = .ok (.getfield 118, 3) := by decide +kernel
theorem d_X12_shortens_24 : decode cX12_shortens 24 = .ok (.iload 4, 2) := by decide +kernel
theorem d_X12_shortens_26 : decode cX12_shortens 26 = .ok (.iaload, 1) := by decide +kernel
theorem d_X12_shortens_27 : decode cX12_shortens 27 = .ok (.if_icmp .ge 11, 3) := by decide +kernel
theorem d_X12_shortens_30 : decode cX12_shortens 30 = .ok (.aload_n 0, 1) := by decide +kernel
theorem d_X12_shortens_31 : decode cX12_shortens 31 = .ok (.getfield 118, 3) := by decide +kernel
theorem d_X12_shortens_34 : decode cX12_shortens 34 = .ok (.iload 4, 2) := by decide +kernel
theorem d_X12_shortens_36 : decode cX12_shortens 36 = .ok (.iload_n 3, 1) := by decide +kernel
theorem d_X12_shortens_37 : decode cX12_shortens 37 = .ok (.iastore, 1) := by decide +kernel
theorem d_X12_shortens_38 : decode cX12_shortens 38 = .ok (.return_, 1) := by decide +kernel
def f_X12_shortens (this : Nat) (a1 : Int32) (a2 : Int32) (a3 : Int32) : sa_M Unit :=
sa_gd 12 this (
sa_let (((8 * a1) + a2) : Int32) fun x1 =>
sa_bnd (sa_rdR 12 this 70) fun v2 =>
sa_bnd (sa_ldI .int v2 x1) fun v3 =>
sa_jn0 (sa_ret ()) fun j38 =>
sa_jn0 (sa_bnd (sa_rdR 12 this 70) fun v4 =>
sa_bnd (sa_stI v4 x1 a3) fun _ =>
j38) fun j30 =>
if v3 = (-1) then
j30
else
sa_bnd (sa_rdR 12 this 70) fun v5 =>
sa_bnd (sa_ldI .int v5 x1) fun v6 =>
if v6 ≤ a3 then
j38
else
j30)
set_option maxHeartbeats 1000000 in
set_option maxRecDepth 10000 in
theorem b_X12_shortens {p : Program} {l : Launch} {e : Env} {s : State} {m : MethodId} {args : Array Value} {below : List Frame} {meth : Method} {c : Code} {D : va_G} {ad : Nat → Nat} {cA : FieldType → ClassId} {A : Nat → Prop} (this : Nat) (a1 : Int32) (a2 : Int32) (a3 : Int32) (C : sa_C p s m args meth c cX12_shortens RX12 "shortens" 5 none D ad cA A) : sa_Sg p l e s m args below meth c 5 1 D ad cA A sa_eV 0 [(0, .ref (ad this)), (1, .int a1), (2, .int a2), (3, .int a3)] [] (f_X12_shortens this a1 a2 a3) := by
  unfold f_X12_shortens
  refine sa_gdI ?_
  refine sa_bipush (v := 8) C d_X12_shortens_0 (by decide) ?_
  refine sa_iload_n C d_X12_shortens_2 rfl 1 rfl ?_
  refine sa_imul C d_X12_shortens_3 ?_
  refine sa_iload_n C d_X12_shortens_4 rfl 2 rfl ?_
  refine sa_iadd C d_X12_shortens_5 ?_
  refine sa_topi (fun x1 => ?_)
  refine sa_istore (lv' := [(4, .int x1), (0, .ref (ad this)), (1, .int a1), (2, .int a2), (3, .int a3)]) C d_X12_shortens_6 (by decide) rfl ?_
  refine sa_aload_n C d_X12_shortens_8 rfl 1 rfl ?_
  refine sa_getR C fd_X12_118 rfl d_X12_shortens_9 (fun v2 => ?_)
  refine sa_iload C d_X12_shortens_12 0 rfl ?_
  refine sa_iald C d_X12_shortens_14 (fun v3 => ?_)
  refine sa_iconst (v := (-1)) C d_X12_shortens_15 (by decide) ?_
  refine sa_join0 38 ([]) ([]) (?_) (fun j38 hj38 => ?_)
  · exact sa_vret C d_X12_shortens_38
  refine sa_join0 30 ([(0, .ref (ad this)), (3, .int a3), (4, .int x1)]) ([]) (?_) (fun j30 hj30 => ?_)
  · refine sa_aload_n C d_X12_shortens_30 rfl 0 rfl ?_
    refine sa_getR C fd_X12_118 rfl d_X12_shortens_31 (fun v4 => ?_)
    refine sa_iload C d_X12_shortens_34 2 rfl ?_
    refine sa_iload_n C d_X12_shortens_36 rfl 1 rfl ?_
    refine sa_iast C d_X12_shortens_37 ?_
    exact sa_sub [] rfl (hj38)
  refine sa_icmp_eq (tgt := 30) C d_X12_shortens_16 (by decide) ?_ ?_
  · exact sa_sub [1, 4, 0] rfl (hj30)
  refine sa_iload_n C d_X12_shortens_19 rfl 4 rfl ?_
  refine sa_aload_n C d_X12_shortens_20 rfl 1 rfl ?_
  refine sa_getR C fd_X12_118 rfl d_X12_shortens_21 (fun v5 => ?_)
  refine sa_iload C d_X12_shortens_24 0 rfl ?_
  refine sa_iald C d_X12_shortens_26 (fun v6 => ?_)
  refine sa_icmp_ge (tgt := 38) C d_X12_shortens_27 (by decide) ?_ ?_
  · exact sa_sub [] rfl (hj38)
  exact sa_sub [1, 4, 0] rfl (hj30)
theorem k_X12_shortens (this : Nat) (a1 : Int32) (a2 : Int32) (a3 : Int32) : sa_Met 1 yX12_shortens cX12_shortens 5 none (fun ad => [.ref (ad this), .int a1, .int a2, .int a3]) sa_eV (f_X12_shortens this a1 a2 a3) := sa_mk (by decide) (fun ad => Nat.le_of_ble_eq_true rfl) (fun p l e s m args below meth c D ad cA A C => b_X12_shortens this a1 a2 a3 C)
theorem gd_X12_shortens (this : Nat) (a1 : Int32) (a2 : Int32) (a3 : Int32) (σ : sa_St) (r : Unit) (τ : sa_St) (h : f_X12_shortens this a1 a2 a3 σ = some (r, τ)) : sa_sh this = some (.inl 12) := sa_gd_ok h
theorem d_X12_layApart_0 : decode cX12_layApart 0 = .ok (.iconst 0, 1) := by decide +kernel
theorem d_X12_layApart_1 : decode cX12_layApart 1 = .ok (.istore_n 2, 1) := by decide +kernel
theorem d_X12_layApart_2 : decode cX12_layApart 2 = .ok (.iload_n 2, 1) := by decide +kernel
theorem d_X12_layApart_3 : decode cX12_layApart 3 = .ok (.bipush 64, 2) := by decide +kernel
theorem d_X12_layApart_5 : decode cX12_layApart 5 = .ok (.if_icmp .ge 31, 3) := by decide +kernel
theorem d_X12_layApart_8 : decode cX12_layApart 8 = .ok (.aload_n 0, 1) := by decide +kernel
theorem d_X12_layApart_9 : decode cX12_layApart 9 = .ok (.getfield 118, 3) := by decide +kernel
theorem d_X12_layApart_12 : decode cX12_layApart 12 = .ok (.iload_n 2, 1) := by decide +kernel
theorem d_X12_layApart_13 : decode cX12_layApart 13 = .ok (.iload_n 2, 1) := by decide +kernel
theorem d_X12_layApart_14 : decode cX12_layApart 14 = .ok (.bipush 8, 2) := by decide +kernel
theorem d_X12_layApart_16 : decode cX12_layApart 16 = .ok (.idiv, 1) := by decide +kernel
theorem d_X12_layApart_17 : decode cX12_layApart 17 = .ok (.iload_n 2, 1) := by decide +kernel
theorem d_X12_layApart_18 : decode cX12_layApart 18 = .ok (.bipush 8, 2) := by decide +kernel
theorem d_X12_layApart_20 : decode cX12_layApart 20 = .ok (.irem, 1) := by decide +kernel
theorem d_X12_layApart_21 : decode cX12_layApart 21 = .ok (.if_icmp .ne 7, 3) := by decide +kernel
theorem d_X12_layApart_24 : decode cX12_layApart 24 = .ok (.iconst 0, 1) := by decide +kernel
theorem d_X12_layApart_25 : decode cX12_layApart 25 = .ok (.goto 4, 3) := by decide +kernel
theorem d_X12_layApart_28 : decode cX12_layApart 28 = .ok (.iconst (-1), 1) := by decide +kernel
theorem d_X12_layApart_29 : decode cX12_layApart 29 = .ok (.iastore, 1) := by decide +kernel
theorem d_X12_layApart_30 : decode cX12_layApart 30 = .ok (.iinc 2 1, 3) := by decide +kernel
theorem d_X12_layApart_33 : decode cX12_layApart 33 = .ok (.goto (-31), 3) := by decide +kernel
theorem d_X12_layApart_36 : decode cX12_layApart 36 = .ok (.iconst 0, 1) := by decide +kernel
theorem d_X12_layApart_37 : decode cX12_layApart 37 = .ok (.istore_n 2, 1) := by decide +kernel
theorem d_X12_layApart_38 : decode cX12_layApart 38 = .ok (.iload_n 2, 1) := by decide +kernel
theorem d_X12_layApart_39 : decode cX12_layApart 39 = .ok (.aload_n 0, 1) := by decide +kernel
theorem d_X12_layApart_40 : decode cX12_layApart 40 = .ok (.getfield 334, 3) := by decide +kernel
theorem d_X12_layApart_43 : decode cX12_layApart 43 = .ok (.if_icmp .ge 74, 3) := by decide +kernel
theorem d_X12_layApart_46 : decode cX12_layApart 46 = .ok (.iload_n 1, 1) := by decide +kernel
theorem d_X12_layApart_47 : decode cX12_layApart 47 = .ok (.ifCond .eq 16, 3) := by decide +kernel
theorem d_X12_layApart_50 : decode cX12_layApart 50 = .ok (.aload_n 0, 1) := by decide +kernel
theorem d_X12_layApart_51 : decode cX12_layApart 51 = .ok (.getfield 43, 3) := by decide +kernel
theorem d_X12_layApart_54 : decode cX12_layApart 54 = .ok (.iconst 4, 1) := by decide +kernel
theorem d_X12_layApart_55 : decode cX12_layApart 55 = .ok (.iload_n 2, 1) := by decide +kernel
theorem d_X12_layApart_56 : decode cX12_layApart 56 = .ok (.imul, 1) := by decide +kernel
theorem d_X12_layApart_57 : decode cX12_layApart 57 = .ok (.iconst 2, 1) := by decide +kernel
theorem d_X12_layApart_58 : decode cX12_layApart 58 = .ok (.iadd, 1) := by decide +kernel
theorem d_X12_layApart_59 : decode cX12_layApart 59 = .ok (.iaload, 1) := by decide +kernel
theorem d_X12_layApart_60 : decode cX12_layApart 60 = .ok (.goto 4, 3) := by decide +kernel
theorem d_X12_layApart_63 : decode cX12_layApart 63 = .ok (.iconst 1, 1) := by decide +kernel
theorem d_X12_layApart_64 : decode cX12_layApart 64 = .ok (.istore_n 3, 1) := by decide +kernel
theorem d_X12_layApart_65 : decode cX12_layApart 65 = .ok (.aload_n 0, 1) := by decide +kernel
theorem d_X12_layApart_66 : decode cX12_layApart 66 = .ok (.aload_n 0, 1) := by decide +kernel
theorem d_X12_layApart_67 : decode cX12_layApart 67 = .ok (.getfield 43, 3) := by decide +kernel
theorem d_X12_layApart_70 : decode cX12_layApart 70 = .ok (.iconst 4, 1) := by decide +kernel
theorem d_X12_layApart_71 : decode cX12_layApart 71 = .ok (.iload_n 2, 1) := by decide +kernel
theorem d_X12_layApart_72 : decode cX12_layApart 72 = .ok (.imul, 1) := by decide +kernel
theorem d_X12_layApart_73 : decode cX12_layApart 73 = .ok (.iaload, 1) := by decide +kernel
theorem d_X12_layApart_74 : decode cX12_layApart 74 = .ok (.aload_n 0, 1) := by decide +kernel
theorem d_X12_layApart_75 : decode cX12_layApart 75 = .ok (.getfield 43, 3) := by decide +kernel
theorem d_X12_layApart_78 : decode cX12_layApart 78 = .ok (.iconst 4, 1) := by decide +kernel
theorem d_X12_layApart_79 : decode cX12_layApart 79 = .ok (.iload_n 2, 1) := by decide +kernel
theorem d_X12_layApart_80 : decode cX12_layApart 80 = .ok (.imul, 1) := by decide +kernel
theorem d_X12_layApart_81 : decode cX12_layApart 81 = .ok (.iconst 1, 1) := by decide +kernel
theorem d_X12_layApart_82 : decode cX12_layApart 82 = .ok (.iadd, 1) := by decide +kernel
theorem d_X12_layApart_83 : decode cX12_layApart 83 = .ok (.iaload, 1) := by decide +kernel
theorem d_X12_layApart_84 : decode cX12_layApart 84 = .ok (.iload_n 3, 1) := by decide +kernel
theorem d_X12_layApart_85 : decode cX12_layApart 85 = .ok (.invokevirtual 572, 3) := by decide +kernel
theorem d_X12_layApart_88 : decode cX12_layApart 88 = .ok (.aload_n 0, 1) := by decide +kernel
theorem d_X12_layApart_89 : decode cX12_layApart 89 = .ok (.aload_n 0, 1) := by decide +kernel
theorem d_X12_layApart_90 : decode cX12_layApart 90 = .ok (.getfield 43, 3) := by decide +kernel
theorem d_X12_layApart_93 : decode cX12_layApart 93 = .ok (.iconst 4, 1) := by decide +kernel
theorem d_X12_layApart_94 : decode cX12_layApart 94 = .ok (.iload_n 2, 1) := by decide +kernel
theorem d_X12_layApart_95 : decode cX12_layApart 95 = .ok (.imul, 1) := by decide +kernel
theorem d_X12_layApart_96 : decode cX12_layApart 96 = .ok (.iconst 1, 1) := by decide +kernel
theorem d_X12_layApart_97 : decode cX12_layApart 97 = .ok (.iadd, 1) := by decide +kernel
theorem d_X12_layApart_98 : decode cX12_layApart 98 = .ok (.iaload, 1) := by decide +kernel
theorem d_X12_layApart_99 : decode cX12_layApart 99 = .ok (.aload_n 0, 1) := by decide +kernel
theorem d_X12_layApart_100 : decode cX12_layApart 100 = .ok (.getfield 43, 3) := by decide +kernel
theorem d_X12_layApart_103 : decode cX12_layApart 103 = .ok (.iconst 4, 1) := by decide +kernel
theorem d_X12_layApart_104 : decode cX12_layApart 104 = .ok (.iload_n 2, 1) := by decide +kernel
theorem d_X12_layApart_105 : decode cX12_layApart 105 = .ok (.imul, 1) := by decide +kernel
theorem d_X12_layApart_106 : decode cX12_layApart 106 = .ok (.iaload, 1) := by decide +kernel
theorem d_X12_layApart_107 : decode cX12_layApart 107 = .ok (.iload_n 3, 1) := by decide +kernel
theorem d_X12_layApart_108 : decode cX12_layApart 108 = .ok (.invokevirtual 572, 3) := by decide +kernel
theorem d_X12_layApart_111 : decode cX12_layApart 111 = .ok (.iinc 2 1, 3) := by decide +kernel
theorem d_X12_layApart_114 : decode cX12_layApart 114 = .ok (.goto (-76), 3) := by decide +kernel
theorem d_X12_layApart_117 : decode cX12_layApart 117 = .ok (.iconst 0, 1) := by decide +kernel
theorem d_X12_layApart_118 : decode cX12_layApart 118 = .ok (.istore_n 2, 1) := by decide +kernel
theorem d_X12_layApart_119 : decode cX12_layApart 119 = .ok (.iload_n 2, 1) := by decide +kernel
theorem d_X12_layApart_120 : decode cX12_layApart 120 = .ok (.aload_n 0, 1) := by decide +kernel
theorem d_X12_layApart_121 : decode cX12_layApart 121 = .ok (.getfield 331, 3) := by decide +kernel
theorem d_X12_layApart_124 : decode cX12_layApart 124 = .ok (.if_icmp .ge 105, 3) := by decide +kernel
theorem d_X12_layApart_127 : decode cX12_layApart 127 = .ok (.iconst 0, 1) := by decide +kernel
theorem d_X12_layApart_128 : decode cX12_layApart 128 = .ok (.istore_n 3, 1) := by decide +kernel
theorem d_X12_layApart_129 : decode cX12_layApart 129 = .ok (.iload_n 3, 1) := by decide +kernel
theorem d_X12_layApart_130 : decode cX12_layApart 130 = .ok (.aload_n 0, 1) := by decide +kernel
theorem d_X12_layApart_131 : decode cX12_layApart 131 = .ok (.getfield 331, 3) := by decide +kernel
theorem d_X12_layApart_134 : decode cX12_layApart 134 = .ok (.if_icmp .ge 89, 3) := by decide +kernel
theorem d_X12_layApart_137 : decode cX12_layApart 137 = .ok (.iconst 0, 1) := by decide +kernel
theorem d_X12_layApart_138 : decode cX12_layApart 138 = .ok (.istore 4, 2) := by decide +kernel
theorem d_X12_layApart_140 : decode cX12_layApart 140 = .ok (.iload 4, 2) := by decide +kernel
theorem d_X12_layApart_142 : decode cX12_layApart 142 = .ok (.aload_n 0, 1) := by decide +kernel
theorem d_X12_layApart_143 : decode cX12_layApart 143 = .ok (.getfield 331, 3) := by decide +kernel
theorem d_X12_layApart_146 : decode cX12_layApart 146 = .ok (.if_icmp .ge 71, 3) := by decide +kernel
theorem d_X12_layApart_149 : decode cX12_layApart 149 = .ok (.aload_n 0, 1) := by decide +kernel
theorem d_X12_layApart_150 : decode cX12_layApart 150 = .ok (.getfield 118, 3) := by decide +kernel
theorem d_X12_layApart_153 : decode cX12_layApart 153 = .ok (.bipush 8, 2) := by decide +kernel
theorem d_X12_layApart_155 : decode cX12_layApart 155 = .ok (.iload_n 3, 1) := by decide +kernel
theorem d_X12_layApart_156 : decode cX12_layApart 156 = .ok (.imul, 1) := by decide +kernel
theorem d_X12_layApart_157 : decode cX12_layApart 157 = .ok (.iload_n 2, 1) := by decide +kernel
theorem d_X12_layApart_158 : decode cX12_layApart 158 = .ok (.iadd, 1) := by decide +kernel
theorem d_X12_layApart_159 : decode cX12_layApart 159 = .ok (.iaload, 1) := by decide +kernel
theorem d_X12_layApart_160 : decode cX12_layApart 160 = .ok (.iconst (-1), 1) := by decide +kernel
theorem d_X12_layApart_161 : decode cX12_layApart 161 = .ok (.if_icmp .eq 50, 3) := by decide +kernel
theorem d_X12_layApart_164 : decode cX12_layApart 164 = .ok (.aload_n 0, 1) := by decide +kernel
theorem d_X12_layApart_165 : decode cX12_layApart 165 = .ok (.getfield 118, 3) := by decide +kernel
theorem d_X12_layApart_168 : decode cX12_layApart 168 = .ok (.bipush 8, 2) := by decide +kernel
theorem d_X12_layApart_170 : decode cX12_layApart 170 = .ok (.iload_n 2, 1) := by decide +kernel
theorem d_X12_layApart_171 : decode cX12_layApart 171 = .ok (.imul, 1) := by decide +kernel
theorem d_X12_layApart_172 : decode cX12_layApart 172 = .ok (.iload 4, 2) := by decide +kernel
theorem d_X12_layApart_174 : decode cX12_layApart 174 = .ok (.iadd, 1) := by decide +kernel
theorem d_X12_layApart_175 : decode cX12_layApart 175 = .ok (.iaload, 1) := by decide +kernel
theorem d_X12_layApart_176 : decode cX12_layApart 176 = .ok (.iconst (-1), 1) := by decide +kernel
theorem d_X12_layApart_177 : decode cX12_layApart 177 = .ok (.if_icmp .eq 34, 3) := by decide +kernel
theorem d_X12_layApart_180 : decode cX12_layApart 180 = .ok (.aload_n 0, 1) := by decide +kernel
theorem d_X12_layApart_181 : decode cX12_layApart 181 = .ok (.iload_n 3, 1) := by decide +kernel
theorem d_X12_layApart_182 : decode cX12_layApart 182 = .ok (.iload 4, 2) := by decide +kernel
theorem d_X12_layApart_184 : decode cX12_layApart 184 = .ok (.aload_n 0, 1) := by decide +kernel
theorem d_X12_layApart_185 : decode cX12_layApart 185 = .ok (.getfield 118, 3) := by decide +kernel
theorem d_X12_layApart_188 : decode cX12_layApart 188 = .ok (.bipush 8, 2) := by decide +kernel
theorem d_X12_layApart_190 : decode cX12_layApart 190 = .ok (.iload_n 3, 1) := by decide +kernel
theorem d_X12_layApart_191 : decode cX12_layApart 191 = .ok (.imul, 1) := by decide +kernel
theorem d_X12_layApart_192 : decode cX12_layApart 192 = .ok (.iload_n 2, 1) := by decide +kernel
theorem d_X12_layApart_193 : decode cX12_layApart 193 = .ok (.iadd, 1) := by decide +kernel
theorem d_X12_layApart_194 : decode cX12_layApart 194 = .ok (.iaload, 1) := by decide +kernel
theorem d_X12_layApart_195 : decode cX12_layApart 195 = .ok (.aload_n 0, 1) := by decide +kernel
theorem d_X12_layApart_196 : decode cX12_layApart 196 = .ok (.getfield 118, 3) := by decide +kernel
theorem d_X12_layApart_199 : decode cX12_layApart 199 = .ok (.bipush 8, 2) := by decide +kernel
theorem d_X12_layApart_201 : decode cX12_layApart 201 = .ok (.iload_n 2, 1) := by decide +kernel
theorem d_X12_layApart_202 : decode cX12_layApart 202 = .ok (.imul, 1) := by decide +kernel
theorem d_X12_layApart_203 : decode cX12_layApart 203 = .ok (.iload 4, 2) := by decide +kernel
theorem d_X12_layApart_205 : decode cX12_layApart 205 = .ok (.iadd, 1) := by decide +kernel
theorem d_X12_layApart_206 : decode cX12_layApart 206 = .ok (.iaload, 1) := by decide +kernel
theorem d_X12_layApart_207 : decode cX12_layApart 207 = .ok (.iadd, 1) := by decide +kernel
theorem d_X12_layApart_208 : decode cX12_layApart 208 = .ok (.invokevirtual 572, 3) := by decide +kernel
theorem d_X12_layApart_211 : decode cX12_layApart 211 = .ok (.iinc 4 1, 3) := by decide +kernel
theorem d_X12_layApart_214 : decode cX12_layApart 214 = .ok (.goto (-74), 3) := by decide +kernel
theorem d_X12_layApart_217 : decode cX12_layApart 217 = .ok (.iinc 3 1, 3) := by decide +kernel
theorem d_X12_layApart_220 : decode cX12_layApart 220 = .ok (.goto (-91), 3) := by decide +kernel
theorem d_X12_layApart_223 : decode cX12_layApart 223 = .ok (.iinc 2 1, 3) := by decide +kernel
theorem d_X12_layApart_226 : decode cX12_layApart 226 = .ok (.goto (-107), 3) := by decide +kernel
theorem d_X12_layApart_229 : decode cX12_layApart 229 = .ok (.return_, 1) := by decide +kernel
def f_X12_layApart (this : Nat) (a1 : Int32) : sa_M Unit :=
sa_gd 12 this (
sa_let (0 : Int32) fun x1 =>
sa_wh1 (fun j2 (x2 : Int32) =>
if 64 ≤ x2 then
sa_let (0 : Int32) fun x3 =>
sa_wh1 (fun j38 (x4 : Int32) =>
sa_bnd (sa_rdI 12 this 26) fun v5 =>
if v5 ≤ x4 then
sa_let (0 : Int32) fun x6 =>
sa_wh1 (fun j119 (x7 : Int32) =>
sa_bnd (sa_rdI 12 this 25) fun v8 =>
if v8 ≤ x7 then
sa_ret ()
else
sa_let (0 : Int32) fun x9 =>
sa_wh1 (fun j129 (x10 : Int32) =>
sa_bnd (sa_rdI 12 this 25) fun v11 =>
if v11 ≤ x10 then
sa_let ((x7 + 1) : Int32) fun x12 =>
j119 x12
else
sa_let (0 : Int32) fun x13 =>
sa_wh1 (fun j140 (x14 : Int32) =>
sa_bnd (sa_rdI 12 this 25) fun v15 =>
if v15 ≤ x14 then
sa_let ((x10 + 1) : Int32) fun x16 =>
j129 x16
else
sa_bnd (sa_rdR 12 this 70) fun v17 =>
sa_bnd (sa_ldI .int v17 ((8 * x10) + x7)) fun v18 =>
sa_jn0 (sa_let ((x14 + 1) : Int32) fun x19 =>
j140 x19) fun j211 =>
if v18 = (-1) then
j211
else
sa_bnd (sa_rdR 12 this 70) fun v20 =>
sa_bnd (sa_ldI .int v20 ((8 * x7) + x14)) fun v21 =>
if v21 = (-1) then
j211
else
sa_bnd (sa_rdR 12 this 70) fun v22 =>
sa_bnd (sa_ldI .int v22 ((8 * x10) + x7)) fun v23 =>
sa_bnd (sa_rdR 12 this 70) fun v24 =>
sa_bnd (sa_ldI .int v24 ((8 * x7) + x14)) fun v25 =>
sa_bnd (f_X12_shortens this x10 x14 (v23 + v25)) fun _ =>
j211) sa_F x13) sa_F x9) sa_F x6
else
sa_jn1 (fun (y26 : Int32) =>
sa_bnd (sa_rdR 12 this 20) fun v27 =>
sa_bnd (sa_ldI .int v27 (4 * x4)) fun v28 =>
sa_bnd (sa_rdR 12 this 20) fun v29 =>
sa_bnd (sa_ldI .int v29 ((4 * x4) + 1)) fun v30 =>
sa_bnd (f_X12_shortens this v28 v30 y26) fun _ =>
sa_bnd (sa_rdR 12 this 20) fun v31 =>
sa_bnd (sa_ldI .int v31 ((4 * x4) + 1)) fun v32 =>
sa_bnd (sa_rdR 12 this 20) fun v33 =>
sa_bnd (sa_ldI .int v33 (4 * x4)) fun v34 =>
sa_bnd (f_X12_shortens this v32 v34 y26) fun _ =>
sa_let ((x4 + 1) : Int32) fun x35 =>
j38 x35) fun j64 =>
if a1 = 0 then
j64 1
else
sa_bnd (sa_rdR 12 this 20) fun v36 =>
sa_bnd (sa_ldI .int v36 ((4 * x4) + 2)) fun v37 =>
j64 v37) sa_F x3
else
sa_bnd (sa_rdR 12 this 70) fun v38 =>
sa_bnd (sa_dv x2 8) fun v39 =>
sa_bnd (sa_md x2 8) fun v40 =>
sa_jn1 (fun (y41 : Int32) =>
sa_bnd (sa_stI v38 x2 y41) fun _ =>
sa_let ((x2 + 1) : Int32) fun x42 =>
j2 x42) fun j29 =>
if ¬ v39 = v40 then
j29 (-1)
else
j29 0) sa_F x1)
set_option maxHeartbeats 1000000 in
set_option maxRecDepth 10000 in
theorem b_X12_layApart {p : Program} {l : Launch} {e : Env} {s : State} {m : MethodId} {args : Array Value} {below : List Frame} {meth : Method} {c : Code} {D : va_G} {ad : Nat → Nat} {cA : FieldType → ClassId} {A : Nat → Prop} (this : Nat) (a1 : Int32) (C : sa_C p s m args meth c cX12_layApart RX12 "layApart" 5 none D ad cA A) : sa_Sg p l e s m args below meth c 5 2 D ad cA A sa_eV 0 [(0, .ref (ad this)), (1, .int a1)] [] (f_X12_layApart this a1) := by
  unfold f_X12_layApart
  refine sa_gdI ?_
  refine sa_iconst (v := 0) C d_X12_layApart_0 (by decide) ?_
  refine sa_topi (fun x1 => ?_)
  refine sa_istore_n (lv' := [(2, .int x1), (0, .ref (ad this)), (1, .int a1)]) C d_X12_layApart_1 rfl (by decide) rfl ?_
  refine sa_sub [1, 2, 0] rfl (sa_loop1 (fun x2 => [(0, .ref (ad this)), (1, .int a1), (2, .int x2)]) (fun x2 => []) (fun j2 hj2 x2 => ?_) _ _)
  refine sa_iload_n C d_X12_layApart_2 rfl 2 rfl ?_
  refine sa_bipush (v := 64) C d_X12_layApart_3 (by decide) ?_
  refine sa_icmp_ge (tgt := 36) C d_X12_layApart_5 (by decide) ?_ ?_
  · refine sa_iconst (v := 0) C d_X12_layApart_36 (by decide) ?_
    refine sa_topi (fun x3 => ?_)
    refine sa_istore_n (lv' := [(2, .int x3), (0, .ref (ad this)), (1, .int a1)]) C d_X12_layApart_37 rfl (by decide) rfl ?_
    refine sa_sub [1, 2, 0] rfl (sa_loop1 (fun x4 => [(0, .ref (ad this)), (1, .int a1), (2, .int x4)]) (fun x4 => []) (fun j38 hj38 x4 => ?_) _ _)
    refine sa_iload_n C d_X12_layApart_38 rfl 2 rfl ?_
    refine sa_aload_n C d_X12_layApart_39 rfl 0 rfl ?_
    refine sa_getI C fd_X12_334 d_X12_layApart_40 (fun v5 => ?_)
    refine sa_icmp_ge (tgt := 117) C d_X12_layApart_43 (by decide) ?_ ?_
    · refine sa_iconst (v := 0) C d_X12_layApart_117 (by decide) ?_
      refine sa_topi (fun x6 => ?_)
      refine sa_istore_n (lv' := [(2, .int x6), (0, .ref (ad this)), (1, .int a1)]) C d_X12_layApart_118 rfl (by decide) rfl ?_
      refine sa_sub [1, 0] rfl (sa_loop1 (fun x7 => [(0, .ref (ad this)), (2, .int x7)]) (fun x7 => []) (fun j119 hj119 x7 => ?_) _ _)
      refine sa_iload_n C d_X12_layApart_119 rfl 1 rfl ?_
      refine sa_aload_n C d_X12_layApart_120 rfl 0 rfl ?_
      refine sa_getI C fd_X12_331 d_X12_layApart_121 (fun v8 => ?_)
      refine sa_icmp_ge (tgt := 229) C d_X12_layApart_124 (by decide) ?_ ?_
      · exact sa_vret C d_X12_layApart_229
      refine sa_iconst (v := 0) C d_X12_layApart_127 (by decide) ?_
      refine sa_topi (fun x9 => ?_)
      refine sa_istore_n (lv' := [(3, .int x9), (0, .ref (ad this)), (2, .int x7)]) C d_X12_layApart_128 rfl (by decide) rfl ?_
      refine sa_sub [1, 2, 0] rfl (sa_loop1 (fun x10 => [(0, .ref (ad this)), (2, .int x7), (3, .int x10)]) (fun x10 => []) (fun j129 hj129 x10 => ?_) _ _)
      refine sa_iload_n C d_X12_layApart_129 rfl 2 rfl ?_
      refine sa_aload_n C d_X12_layApart_130 rfl 0 rfl ?_
      refine sa_getI C fd_X12_331 d_X12_layApart_131 (fun v11 => ?_)
      refine sa_icmp_ge (tgt := 223) C d_X12_layApart_134 (by decide) ?_ ?_
      · refine sa_iinc C (fun zz => [(2, .int zz), (0, .ref (ad this)), (3, .int x10)]) d_X12_layApart_223 1 rfl rfl (by decide) (fun _ => rfl) (fun x12 => ?_)
        refine sa_goto (tgt := 119) C d_X12_layApart_226 (by decide) ?_
        exact sa_sub [1, 0] rfl (hj119 _)
      refine sa_iconst (v := 0) C d_X12_layApart_137 (by decide) ?_
      refine sa_topi (fun x13 => ?_)
      refine sa_istore (lv' := [(4, .int x13), (0, .ref (ad this)), (2, .int x7), (3, .int x10)]) C d_X12_layApart_138 (by decide) rfl ?_
      refine sa_sub [1, 2, 3, 0] rfl (sa_loop1 (fun x14 => [(0, .ref (ad this)), (2, .int x7), (3, .int x10), (4, .int x14)]) (fun x14 => []) (fun j140 hj140 x14 => ?_) _ _)
      refine sa_iload C d_X12_layApart_140 3 rfl ?_
      refine sa_aload_n C d_X12_layApart_142 rfl 0 rfl ?_
      refine sa_getI C fd_X12_331 d_X12_layApart_143 (fun v15 => ?_)
      refine sa_icmp_ge (tgt := 217) C d_X12_layApart_146 (by decide) ?_ ?_
      · refine sa_iinc C (fun zz => [(3, .int zz), (0, .ref (ad this)), (2, .int x7), (4, .int x14)]) d_X12_layApart_217 2 rfl rfl (by decide) (fun _ => rfl) (fun x16 => ?_)
        refine sa_goto (tgt := 129) C d_X12_layApart_220 (by decide) ?_
        exact sa_sub [1, 2, 0] rfl (hj129 _)
      refine sa_aload_n C d_X12_layApart_149 rfl 0 rfl ?_
      refine sa_getR C fd_X12_118 rfl d_X12_layApart_150 (fun v17 => ?_)
      refine sa_bipush (v := 8) C d_X12_layApart_153 (by decide) ?_
      refine sa_iload_n C d_X12_layApart_155 rfl 2 rfl ?_
      refine sa_imul C d_X12_layApart_156 ?_
      refine sa_iload_n C d_X12_layApart_157 rfl 1 rfl ?_
      refine sa_iadd C d_X12_layApart_158 ?_
      refine sa_iald C d_X12_layApart_159 (fun v18 => ?_)
      refine sa_iconst (v := (-1)) C d_X12_layApart_160 (by decide) ?_
      refine sa_join0 211 ([(0, .ref (ad this)), (2, .int x7), (3, .int x10), (4, .int x14)]) ([]) (?_) (fun j211 hj211 => ?_)
      · refine sa_iinc C (fun zz => [(4, .int zz), (0, .ref (ad this)), (2, .int x7), (3, .int x10)]) d_X12_layApart_211 3 rfl rfl (by decide) (fun _ => rfl) (fun x19 => ?_)
        refine sa_goto (tgt := 140) C d_X12_layApart_214 (by decide) ?_
        exact sa_sub [1, 2, 3, 0] rfl (hj140 _)
      refine sa_icmp_eq (tgt := 211) C d_X12_layApart_161 (by decide) ?_ ?_
      · exact sa_sub [0, 1, 2, 3] rfl (hj211)
      refine sa_aload_n C d_X12_layApart_164 rfl 0 rfl ?_
      refine sa_getR C fd_X12_118 rfl d_X12_layApart_165 (fun v20 => ?_)
      refine sa_bipush (v := 8) C d_X12_layApart_168 (by decide) ?_
      refine sa_iload_n C d_X12_layApart_170 rfl 1 rfl ?_
      refine sa_imul C d_X12_layApart_171 ?_
      refine sa_iload C d_X12_layApart_172 3 rfl ?_
      refine sa_iadd C d_X12_layApart_174 ?_
      refine sa_iald C d_X12_layApart_175 (fun v21 => ?_)
      refine sa_iconst (v := (-1)) C d_X12_layApart_176 (by decide) ?_
      refine sa_icmp_eq (tgt := 211) C d_X12_layApart_177 (by decide) ?_ ?_
      · exact sa_sub [0, 1, 2, 3] rfl (hj211)
      refine sa_aload_n C d_X12_layApart_180 rfl 0 rfl ?_
      refine sa_iload_n C d_X12_layApart_181 rfl 2 rfl ?_
      refine sa_iload C d_X12_layApart_182 3 rfl ?_
      refine sa_aload_n C d_X12_layApart_184 rfl 0 rfl ?_
      refine sa_getR C fd_X12_118 rfl d_X12_layApart_185 (fun v22 => ?_)
      refine sa_bipush (v := 8) C d_X12_layApart_188 (by decide) ?_
      refine sa_iload_n C d_X12_layApart_190 rfl 2 rfl ?_
      refine sa_imul C d_X12_layApart_191 ?_
      refine sa_iload_n C d_X12_layApart_192 rfl 1 rfl ?_
      refine sa_iadd C d_X12_layApart_193 ?_
      refine sa_iald C d_X12_layApart_194 (fun v23 => ?_)
      refine sa_aload_n C d_X12_layApart_195 rfl 0 rfl ?_
      refine sa_getR C fd_X12_118 rfl d_X12_layApart_196 (fun v24 => ?_)
      refine sa_bipush (v := 8) C d_X12_layApart_199 (by decide) ?_
      refine sa_iload_n C d_X12_layApart_201 rfl 1 rfl ?_
      refine sa_imul C d_X12_layApart_202 ?_
      refine sa_iload C d_X12_layApart_203 3 rfl ?_
      refine sa_iadd C d_X12_layApart_205 ?_
      refine sa_iald C d_X12_layApart_206 (fun v25 => ?_)
      refine sa_iadd C d_X12_layApart_207 ?_
      refine sa_invV (ci := 12) C (k_X12_shortens this x10 x14 (v23 + v25)) q2080 ds_X12_shortens q128 rfl q2079 q109 q2077 (gd_X12_shortens this x10 x14 (v23 + v25)) rfl rfl rfl (Nat.le_of_ble_eq_true rfl) (by decide) (by decide) d_X12_layApart_208 (fun _ => ?_)
      exact sa_sub [0, 1, 2, 3] rfl (hj211)
    refine sa_iload_n C d_X12_layApart_46 rfl 1 rfl ?_
    refine sa_join1 64 (fun y26 => [(0, .ref (ad this)), (1, .int a1), (2, .int x4)]) (fun y26 => [.int y26]) (fun y26 => ?_) (fun j64 hj64 => ?_)
    · refine sa_istore_n (lv' := [(3, .int y26), (0, .ref (ad this)), (1, .int a1), (2, .int x4)]) C d_X12_layApart_64 rfl (by decide) rfl ?_
      refine sa_aload_n C d_X12_layApart_65 rfl 1 rfl ?_
      refine sa_aload_n C d_X12_layApart_66 rfl 1 rfl ?_
      refine sa_getR C fd_X12_43 rfl d_X12_layApart_67 (fun v27 => ?_)
      refine sa_iconst (v := 4) C d_X12_layApart_70 (by decide) ?_
      refine sa_iload_n C d_X12_layApart_71 rfl 3 rfl ?_
      refine sa_imul C d_X12_layApart_72 ?_
      refine sa_iald C d_X12_layApart_73 (fun v28 => ?_)
      refine sa_aload_n C d_X12_layApart_74 rfl 1 rfl ?_
      refine sa_getR C fd_X12_43 rfl d_X12_layApart_75 (fun v29 => ?_)
      refine sa_iconst (v := 4) C d_X12_layApart_78 (by decide) ?_
      refine sa_iload_n C d_X12_layApart_79 rfl 3 rfl ?_
      refine sa_imul C d_X12_layApart_80 ?_
      refine sa_iconst (v := 1) C d_X12_layApart_81 (by decide) ?_
      refine sa_iadd C d_X12_layApart_82 ?_
      refine sa_iald C d_X12_layApart_83 (fun v30 => ?_)
      refine sa_iload_n C d_X12_layApart_84 rfl 0 rfl ?_
      refine sa_invV (ci := 12) C (k_X12_shortens this v28 v30 y26) q2080 ds_X12_shortens q128 rfl q2079 q109 q2077 (gd_X12_shortens this v28 v30 y26) rfl rfl rfl (Nat.le_of_ble_eq_true rfl) (by decide) (by decide) d_X12_layApart_85 (fun _ => ?_)
      refine sa_aload_n C d_X12_layApart_88 rfl 1 rfl ?_
      refine sa_aload_n C d_X12_layApart_89 rfl 1 rfl ?_
      refine sa_getR C fd_X12_43 rfl d_X12_layApart_90 (fun v31 => ?_)
      refine sa_iconst (v := 4) C d_X12_layApart_93 (by decide) ?_
      refine sa_iload_n C d_X12_layApart_94 rfl 3 rfl ?_
      refine sa_imul C d_X12_layApart_95 ?_
      refine sa_iconst (v := 1) C d_X12_layApart_96 (by decide) ?_
      refine sa_iadd C d_X12_layApart_97 ?_
      refine sa_iald C d_X12_layApart_98 (fun v32 => ?_)
      refine sa_aload_n C d_X12_layApart_99 rfl 1 rfl ?_
      refine sa_getR C fd_X12_43 rfl d_X12_layApart_100 (fun v33 => ?_)
      refine sa_iconst (v := 4) C d_X12_layApart_103 (by decide) ?_
      refine sa_iload_n C d_X12_layApart_104 rfl 3 rfl ?_
      refine sa_imul C d_X12_layApart_105 ?_
      refine sa_iald C d_X12_layApart_106 (fun v34 => ?_)
      refine sa_iload_n C d_X12_layApart_107 rfl 0 rfl ?_
      refine sa_invV (ci := 12) C (k_X12_shortens this v32 v34 y26) q2080 ds_X12_shortens q128 rfl q2079 q109 q2077 (gd_X12_shortens this v32 v34 y26) rfl rfl rfl (Nat.le_of_ble_eq_true rfl) (by decide) (by decide) d_X12_layApart_108 (fun _ => ?_)
      refine sa_iinc C (fun zz => [(2, .int zz), (3, .int y26), (0, .ref (ad this)), (1, .int a1)]) d_X12_layApart_111 3 rfl rfl (by decide) (fun _ => rfl) (fun x35 => ?_)
      refine sa_goto (tgt := 38) C d_X12_layApart_114 (by decide) ?_
      exact sa_sub [2, 3, 0] rfl (hj38 _)
    refine sa_if_eq (tgt := 63) C d_X12_layApart_47 (by decide) ?_ ?_
    · refine sa_iconst (v := 1) C d_X12_layApart_63 (by decide) ?_
      exact sa_sub [0, 1, 2] rfl (hj64 _)
    refine sa_aload_n C d_X12_layApart_50 rfl 0 rfl ?_
    refine sa_getR C fd_X12_43 rfl d_X12_layApart_51 (fun v36 => ?_)
    refine sa_iconst (v := 4) C d_X12_layApart_54 (by decide) ?_
    refine sa_iload_n C d_X12_layApart_55 rfl 2 rfl ?_
    refine sa_imul C d_X12_layApart_56 ?_
    refine sa_iconst (v := 2) C d_X12_layApart_57 (by decide) ?_
    refine sa_iadd C d_X12_layApart_58 ?_
    refine sa_iald C d_X12_layApart_59 (fun v37 => ?_)
    refine sa_goto (tgt := 64) C d_X12_layApart_60 (by decide) ?_
    exact sa_sub [0, 1, 2] rfl (hj64 _)
  refine sa_aload_n C d_X12_layApart_8 rfl 0 rfl ?_
  refine sa_getR C fd_X12_118 rfl d_X12_layApart_9 (fun v38 => ?_)
  refine sa_iload_n C d_X12_layApart_12 rfl 2 rfl ?_
  refine sa_iload_n C d_X12_layApart_13 rfl 2 rfl ?_
  refine sa_bipush (v := 8) C d_X12_layApart_14 (by decide) ?_
  refine sa_idiv C d_X12_layApart_16 (fun v39 => ?_)
  refine sa_iload_n C d_X12_layApart_17 rfl 2 rfl ?_
  refine sa_bipush (v := 8) C d_X12_layApart_18 (by decide) ?_
  refine sa_irem C d_X12_layApart_20 (fun v40 => ?_)
  refine sa_join1 29 (fun y41 => [(0, .ref (ad this)), (1, .int a1), (2, .int x2)]) (fun y41 => [.int y41, .int x2, .ref (ad v38)]) (fun y41 => ?_) (fun j29 hj29 => ?_)
  · refine sa_iast C d_X12_layApart_29 ?_
    refine sa_iinc C (fun zz => [(2, .int zz), (0, .ref (ad this)), (1, .int a1)]) d_X12_layApart_30 2 rfl rfl (by decide) (fun _ => rfl) (fun x42 => ?_)
    refine sa_goto (tgt := 2) C d_X12_layApart_33 (by decide) ?_
    exact sa_sub [1, 2, 0] rfl (hj2 _)
  refine sa_icmp_ne (tgt := 28) C d_X12_layApart_21 (by decide) ?_ ?_
  · refine sa_iconst (v := (-1)) C d_X12_layApart_28 (by decide) ?_
    exact sa_sub [0, 1, 2] rfl (hj29 _)
  refine sa_iconst (v := 0) C d_X12_layApart_24 (by decide) ?_
  refine sa_goto (tgt := 29) C d_X12_layApart_25 (by decide) ?_
  exact sa_sub [0, 1, 2] rfl (hj29 _)
theorem k_X12_layApart (this : Nat) (a1 : Int32) : sa_Met 2 yX12_layApart cX12_layApart 5 none (fun ad => [.ref (ad this), .int a1]) sa_eV (f_X12_layApart this a1) := sa_mk (by decide) (fun ad => Nat.le_of_ble_eq_true rfl) (fun p l e s m args below meth c D ad cA A C => b_X12_layApart this a1 C)
theorem gd_X12_layApart (this : Nat) (a1 : Int32) (σ : sa_St) (r : Unit) (τ : sa_St) (h : f_X12_layApart this a1 σ = some (r, τ)) : sa_sh this = some (.inl 12) := sa_gd_ok h
theorem d_X12_isNear_0 : decode cX12_isNear 0 = .ok (.aload_n 0, 1) := by decide +kernel
theorem d_X12_isNear_1 : decode cX12_isNear 1 = .ok (.getfield 64, 3) := by decide +kernel
theorem d_X12_isNear_4 : decode cX12_isNear 4 = .ok (.iload_n 1, 1) := by decide +kernel
theorem d_X12_isNear_5 : decode cX12_isNear 5 = .ok (.invokestatic 352, 3) := by decide +kernel
theorem d_X12_isNear_8 : decode cX12_isNear 8 = .ok (.ifCond .eq 14, 3) := by decide +kernel
theorem d_X12_isNear_11 : decode cX12_isNear 11 = .ok (.aload_n 0, 1) := by decide +kernel
theorem d_X12_isNear_12 : decode cX12_isNear 12 = .ok (.getfield 64, 3) := by decide +kernel
theorem d_X12_isNear_15 : decode cX12_isNear 15 = .ok (.iload_n 2, 1) := by decide +kernel
theorem d_X12_isNear_16 : decode cX12_isNear 16 = .ok (.invokestatic 352, 3) := by decide +kernel
theorem d_X12_isNear_19 : decode cX12_isNear 19 = .ok (.ifCond .ne 5, 3) := by decide +kernel
theorem d_X12_isNear_22 : decode cX12_isNear 22 = .ok (.iconst 0, 1) := by decide +kernel
theorem d_X12_isNear_23 : decode cX12_isNear 23 = .ok (.ireturn, 1) := by decide +kernel
theorem d_X12_isNear_24 : decode cX12_isNear 24 = .ok (.aload_n 0, 1) := by decide +kernel
theorem d_X12_isNear_25 : decode cX12_isNear 25 = .ok (.getfield 118, 3) := by decide +kernel
theorem d_X12_isNear_28 : decode cX12_isNear 28 = .ok (.bipush 8, 2) := by decide +kernel
theorem d_X12_isNear_30 : decode cX12_isNear 30 = .ok (.aload_n 0, 1) := by decide +kernel
theorem d_X12_isNear_31 : decode cX12_isNear 31 = .ok (.getfield 64, 3) := by decide +kernel
theorem d_X12_isNear_34 : decode cX12_isNear 34 = .ok (.bipush 7, 2) := by decide +kernel
theorem d_X12_isNear_36 : decode cX12_isNear 36 = .ok (.iload_n 1, 1) := by decide +kernel
theorem d_X12_isNear_37 : decode cX12_isNear 37 = .ok (.imul, 1) := by decide +kernel
theorem d_X12_isNear_38 : decode cX12_isNear 38 = .ok (.iaload, 1) := by decide +kernel
theorem d_X12_isNear_39 : decode cX12_isNear 39 = .ok (.imul, 1) := by decide +kernel
theorem d_X12_isNear_40 : decode cX12_isNear 40 = .ok (.aload_n 0, 1) := by decide +kernel
theorem d_X12_isNear_41 : decode cX12_isNear 41 = .ok (.getfield 64, 3) := by decide +kernel
theorem d_X12_isNear_44 : decode cX12_isNear 44 = .ok (.bipush 7, 2) := by decide +kernel
theorem d_X12_isNear_46 : decode cX12_isNear 46 = .ok (.iload_n 2, 1) := by decide +kernel
theorem d_X12_isNear_47 : decode cX12_isNear 47 = .ok (.imul, 1) := by decide +kernel
theorem d_X12_isNear_48 : decode cX12_isNear 48 = .ok (.iaload, 1) := by decide +kernel
theorem d_X12_isNear_49 : decode cX12_isNear 49 = .ok (.iadd, 1) := by decide +kernel
theorem d_X12_isNear_50 : decode cX12_isNear 50 = .ok (.iaload, 1) := by decide +kernel
theorem d_X12_isNear_51 : decode cX12_isNear 51 = .ok (.istore 4, 2) := by decide +kernel
theorem d_X12_isNear_53 : decode cX12_isNear 53 = .ok (.iload 4, 2) := by decide +kernel
theorem d_X12_isNear_55 : decode cX12_isNear 55 = .ok (.iconst (-1), 1) := by decide +kernel
theorem d_X12_isNear_56 : decode cX12_isNear 56 = .ok (.if_icmp .eq 13, 3) := by decide +kernel
theorem d_X12_isNear_59 : decode cX12_isNear 59 = .ok (.iload 4, 2) := by decide +kernel
theorem d_X12_isNear_61 : decode cX12_isNear 61 = .ok (.iload_n 3, 1) := by decide +kernel
theorem d_X12_isNear_62 : decode cX12_isNear 62 = .ok (.if_icmp .gt 7, 3) := by decide +kernel
theorem d_X12_isNear_65 : decode cX12_isNear 65 = .ok (.iconst 1, 1) := by decide +kernel
theorem d_X12_isNear_66 : decode cX12_isNear 66 = .ok (.goto 4, 3) := by decide +kernel
theorem d_X12_isNear_69 : decode cX12_isNear 69 = .ok (.iconst 0, 1) := by decide +kernel
theorem d_X12_isNear_70 : decode cX12_isNear 70 = .ok (.ireturn, 1) := by decide +kernel
def f_X12_isNear (this : Nat) (a1 : Int32) (a2 : Int32) (a3 : Int32) : sa_M Int32 :=
sa_gd 12 this (
sa_bnd (sa_rdR 12 this 35) fun v1 =>
sa_bnd (f_X12_lives v1 a1) fun v2 =>
sa_jn0 (sa_retZ 0) fun j22 =>
if v2 = 0 then
j22
else
sa_bnd (sa_rdR 12 this 35) fun v3 =>
sa_bnd (f_X12_lives v3 a2) fun v4 =>
if ¬ v4 = 0 then
sa_bnd (sa_rdR 12 this 70) fun v5 =>
sa_bnd (sa_rdR 12 this 35) fun v6 =>
sa_bnd (sa_ldI .int v6 (7 * a1)) fun v7 =>
sa_bnd (sa_rdR 12 this 35) fun v8 =>
sa_bnd (sa_ldI .int v8 (7 * a2)) fun v9 =>
sa_bnd (sa_ldI .int v5 ((8 * v7) + v9)) fun v10 =>
sa_jn1 (fun (y11 : Int32) =>
sa_retZ y11) fun j70 =>
sa_jn0 (j70 0) fun j69 =>
if v10 = (-1) then
j69
else
if a3 < v10 then
j69
else
j70 1
else
j22)
set_option maxHeartbeats 1000000 in
set_option maxRecDepth 10000 in
theorem b_X12_isNear {p : Program} {l : Launch} {e : Env} {s : State} {m : MethodId} {args : Array Value} {below : List Frame} {meth : Method} {c : Code} {D : va_G} {ad : Nat → Nat} {cA : FieldType → ClassId} {A : Nat → Prop} (this : Nat) (a1 : Int32) (a2 : Int32) (a3 : Int32) (C : sa_C p s m args meth c cX12_isNear RX12 "isNear" 5 (some .boolean) D ad cA A) : sa_Sg p l e s m args below meth c 5 2 D ad cA A sa_eI 0 [(0, .ref (ad this)), (1, .int a1), (2, .int a2), (3, .int a3)] [] (f_X12_isNear this a1 a2 a3) := by
  unfold f_X12_isNear
  refine sa_gdI ?_
  refine sa_aload_n C d_X12_isNear_0 rfl 0 rfl ?_
  refine sa_getR C fd_X12_64 rfl d_X12_isNear_1 (fun v1 => ?_)
  refine sa_iload_n C d_X12_isNear_4 rfl 1 rfl ?_
  refine sa_invS C (k_X12_lives v1 a1) q1810 ds_X12_lives q128 q1809 q1808 rfl rfl rfl (Nat.le_of_ble_eq_true rfl) (by decide) (by decide) d_X12_isNear_5 (fun v2 => ?_)
  refine sa_join0 22 ([]) ([]) (?_) (fun j22 hj22 => ?_)
  · refine sa_iconst (v := 0) C d_X12_isNear_22 (by decide) ?_
    exact sa_zret C d_X12_isNear_23
  refine sa_if_eq (tgt := 22) C d_X12_isNear_8 (by decide) ?_ ?_
  · exact sa_sub [] rfl (hj22)
  refine sa_aload_n C d_X12_isNear_11 rfl 0 rfl ?_
  refine sa_getR C fd_X12_64 rfl d_X12_isNear_12 (fun v3 => ?_)
  refine sa_iload_n C d_X12_isNear_15 rfl 2 rfl ?_
  refine sa_invS C (k_X12_lives v3 a2) q1810 ds_X12_lives q128 q1809 q1808 rfl rfl rfl (Nat.le_of_ble_eq_true rfl) (by decide) (by decide) d_X12_isNear_16 (fun v4 => ?_)
  refine sa_if_ne (tgt := 24) C d_X12_isNear_19 (by decide) ?_ ?_
  · refine sa_aload_n C d_X12_isNear_24 rfl 0 rfl ?_
    refine sa_getR C fd_X12_118 rfl d_X12_isNear_25 (fun v5 => ?_)
    refine sa_bipush (v := 8) C d_X12_isNear_28 (by decide) ?_
    refine sa_aload_n C d_X12_isNear_30 rfl 0 rfl ?_
    refine sa_getR C fd_X12_64 rfl d_X12_isNear_31 (fun v6 => ?_)
    refine sa_bipush (v := 7) C d_X12_isNear_34 (by decide) ?_
    refine sa_iload_n C d_X12_isNear_36 rfl 1 rfl ?_
    refine sa_imul C d_X12_isNear_37 ?_
    refine sa_iald C d_X12_isNear_38 (fun v7 => ?_)
    refine sa_imul C d_X12_isNear_39 ?_
    refine sa_aload_n C d_X12_isNear_40 rfl 0 rfl ?_
    refine sa_getR C fd_X12_64 rfl d_X12_isNear_41 (fun v8 => ?_)
    refine sa_bipush (v := 7) C d_X12_isNear_44 (by decide) ?_
    refine sa_iload_n C d_X12_isNear_46 rfl 2 rfl ?_
    refine sa_imul C d_X12_isNear_47 ?_
    refine sa_iald C d_X12_isNear_48 (fun v9 => ?_)
    refine sa_iadd C d_X12_isNear_49 ?_
    refine sa_iald C d_X12_isNear_50 (fun v10 => ?_)
    refine sa_istore (lv' := [(4, .int v10), (0, .ref (ad this)), (1, .int a1), (2, .int a2), (3, .int a3)]) C d_X12_isNear_51 (by decide) rfl ?_
    refine sa_iload C d_X12_isNear_53 0 rfl ?_
    refine sa_iconst (v := (-1)) C d_X12_isNear_55 (by decide) ?_
    refine sa_join1 70 (fun y11 => []) (fun y11 => [.int y11]) (fun y11 => ?_) (fun j70 hj70 => ?_)
    · exact sa_zret C d_X12_isNear_70
    refine sa_join0 69 ([]) ([]) (?_) (fun j69 hj69 => ?_)
    · refine sa_iconst (v := 0) C d_X12_isNear_69 (by decide) ?_
      exact sa_sub [] rfl (hj70 _)
    refine sa_icmp_eq (tgt := 69) C d_X12_isNear_56 (by decide) ?_ ?_
    · exact sa_sub [] rfl (hj69)
    refine sa_iload C d_X12_isNear_59 0 rfl ?_
    refine sa_iload_n C d_X12_isNear_61 rfl 4 rfl ?_
    refine sa_icmp_gt (tgt := 69) C d_X12_isNear_62 (by decide) ?_ ?_
    · exact sa_sub [] rfl (hj69)
    refine sa_iconst (v := 1) C d_X12_isNear_65 (by decide) ?_
    refine sa_goto (tgt := 70) C d_X12_isNear_66 (by decide) ?_
    exact sa_sub [] rfl (hj70 _)
  exact sa_sub [] rfl (hj22)
theorem k_X12_isNear (this : Nat) (a1 : Int32) (a2 : Int32) (a3 : Int32) : sa_Met 2 yX12_isNear cX12_isNear 5 (some .boolean) (fun ad => [.ref (ad this), .int a1, .int a2, .int a3]) sa_eI (f_X12_isNear this a1 a2 a3) := sa_mk (by decide) (fun ad => Nat.le_of_ble_eq_true rfl) (fun p l e s m args below meth c D ad cA A C => b_X12_isNear this a1 a2 a3 C)
theorem gd_X12_isNear (this : Nat) (a1 : Int32) (a2 : Int32) (a3 : Int32) (σ : sa_St) (r : Int32) (τ : sa_St) (h : f_X12_isNear this a1 a2 a3 σ = some (r, τ)) : sa_sh this = some (.inl 12) := sa_gd_ok h
theorem d_X12_hears_0 : decode cX12_hears 0 = .ok (.aload_n 0, 1) := by decide +kernel
theorem d_X12_hears_1 : decode cX12_hears 1 = .ok (.iconst 0, 1) := by decide +kernel
theorem d_X12_hears_2 : decode cX12_hears 2 = .ok (.putfield 127, 3) := by decide +kernel
theorem d_X12_hears_5 : decode cX12_hears 5 = .ok (.aload_n 0, 1) := by decide +kernel
theorem d_X12_hears_6 : decode cX12_hears 6 = .ok (.getfield 331, 3) := by decide +kernel
theorem d_X12_hears_9 : decode cX12_hears 9 = .ok (.ifCond .eq 15, 3) := by decide +kernel
theorem d_X12_hears_12 : decode cX12_hears 12 = .ok (.iload_n 1, 1) := by decide +kernel
theorem d_X12_hears_13 : decode cX12_hears 13 = .ok (.i2l, 1) := by decide +kernel
theorem d_X12_hears_14 : decode cX12_hears 14 = .ok (.lconst 0, 1) := by decide +kernel
theorem d_X12_hears_15 : decode cX12_hears 15 = .ok (.ldc2_w 576, 3) := by decide +kernel
theorem d_X12_hears_18 : decode cX12_hears 18 = .ok (.invokestatic 248, 3) := by decide +kernel
theorem d_X12_hears_21 : decode cX12_hears 21 = .ok (.ifCond .ne 5, 3) := by decide +kernel
theorem d_X12_hears_24 : decode cX12_hears 24 = .ok (.iconst (-1), 1) := by decide +kernel
theorem d_X12_hears_25 : decode cX12_hears 25 = .ok (.ireturn, 1) := by decide +kernel
theorem d_X12_hears_26 : decode cX12_hears 26 = .ok (.aload_n 0, 1) := by decide +kernel
theorem d_X12_hears_27 : decode cX12_hears 27 = .ok (.iconst 0, 1) := by decide +kernel
theorem d_X12_hears_28 : decode cX12_hears 28 = .ok (.invokevirtual 578, 3) := by decide +kernel
theorem d_X12_hears_31 : decode cX12_hears 31 = .ok (.iconst 0, 1) := by decide +kernel
theorem d_X12_hears_32 : decode cX12_hears 32 = .ok (.istore_n 2, 1) := by decide +kernel
theorem d_X12_hears_33 : decode cX12_hears 33 = .ok (.iconst 0, 1) := by decide +kernel
theorem d_X12_hears_34 : decode cX12_hears 34 = .ok (.istore_n 3, 1) := by decide +kernel
theorem d_X12_hears_35 : decode cX12_hears 35 = .ok (.iload_n 3, 1) := by decide +kernel
theorem d_X12_hears_36 : decode cX12_hears 36 = .ok (.aload_n 0, 1) := by decide +kernel
theorem d_X12_hears_37 : decode cX12_hears 37 = .ok (.getfield 64, 3) := by decide +kernel
theorem d_X12_hears_40 : decode cX12_hears 40 = .ok (.bipush 75, 2) := by decide +kernel
theorem d_X12_hears_42 : decode cX12_hears 42 = .ok (.iaload, 1) := by decide +kernel
theorem d_X12_hears_43 : decode cX12_hears 43 = .ok (.if_icmp .ge 50, 3) := by decide +kernel
theorem d_X12_hears_46 : decode cX12_hears 46 = .ok (.aload_n 0, 1) := by decide +kernel
theorem d_X12_hears_47 : decode cX12_hears 47 = .ok (.getfield 121, 3) := by decide +kernel
theorem d_X12_hears_50 : decode cX12_hears 50 = .ok (.iload_n 3, 1) := by decide +kernel
theorem d_X12_hears_51 : decode cX12_hears 51 = .ok (.aload_n 0, 1) := by decide +kernel
theorem d_X12_hears_52 : decode cX12_hears 52 = .ok (.getfield 64, 3) := by decide +kernel
theorem d_X12_hears_55 : decode cX12_hears 55 = .ok (.iload_n 3, 1) := by decide +kernel
theorem d_X12_hears_56 : decode cX12_hears 56 = .ok (.invokestatic 352, 3) := by decide +kernel
theorem d_X12_hears_59 : decode cX12_hears 59 = .ok (.ifCond .eq 17, 3) := by decide +kernel
theorem d_X12_hears_62 : decode cX12_hears 62 = .ok (.aload_n 0, 1) := by decide +kernel
theorem d_X12_hears_63 : decode cX12_hears 63 = .ok (.getfield 64, 3) := by decide +kernel
theorem d_X12_hears_66 : decode cX12_hears 66 = .ok (.bipush 7, 2) := by decide +kernel
theorem d_X12_hears_68 : decode cX12_hears 68 = .ok (.iload_n 3, 1) := by decide +kernel
theorem d_X12_hears_69 : decode cX12_hears 69 = .ok (.imul, 1) := by decide +kernel
theorem d_X12_hears_70 : decode cX12_hears 70 = .ok (.iconst 5, 1) := by decide +kernel
theorem d_X12_hears_71 : decode cX12_hears 71 = .ok (.iadd, 1) := by decide +kernel
theorem d_X12_hears_72 : decode cX12_hears 72 = .ok (.iaload, 1) := by decide +kernel
theorem d_X12_hears_73 : decode cX12_hears 73 = .ok (.goto 4, 3) := by decide +kernel
theorem d_X12_hears_76 : decode cX12_hears 76 = .ok (.iconst 0, 1) := by decide +kernel
theorem d_X12_hears_77 : decode cX12_hears 77 = .ok (.iastore, 1) := by decide +kernel
theorem d_X12_hears_78 : decode cX12_hears 78 = .ok (.iload_n 2, 1) := by decide +kernel
theorem d_X12_hears_79 : decode cX12_hears 79 = .ok (.aload_n 0, 1) := by decide +kernel
theorem d_X12_hears_80 : decode cX12_hears 80 = .ok (.getfield 121, 3) := by decide +kernel
theorem d_X12_hears_83 : decode cX12_hears 83 = .ok (.iload_n 3, 1) := by decide +kernel
theorem d_X12_hears_84 : decode cX12_hears 84 = .ok (.iaload, 1) := by decide +kernel
theorem d_X12_hears_85 : decode cX12_hears 85 = .ok (.ior, 1) := by decide +kernel
theorem d_X12_hears_86 : decode cX12_hears 86 = .ok (.istore_n 2, 1) := by decide +kernel
theorem d_X12_hears_87 : decode cX12_hears 87 = .ok (.iinc 3 1, 3) := by decide +kernel
theorem d_X12_hears_90 : decode cX12_hears 90 = .ok (.goto (-55), 3) := by decide +kernel
theorem d_X12_hears_93 : decode cX12_hears 93 = .ok (.iconst 0, 1) := by decide +kernel
theorem d_X12_hears_94 : decode cX12_hears 94 = .ok (.istore_n 3, 1) := by decide +kernel
theorem d_X12_hears_95 : decode cX12_hears 95 = .ok (.iload_n 3, 1) := by decide +kernel
theorem d_X12_hears_96 : decode cX12_hears 96 = .ok (.bipush 8, 2) := by decide +kernel
theorem d_X12_hears_98 : decode cX12_hears 98 = .ok (.if_icmp .ge 84, 3) := by decide +kernel
theorem d_X12_hears_101 : decode cX12_hears 101 = .ok (.iconst 0, 1) := by decide +kernel
theorem d_X12_hears_102 : decode cX12_hears 102 = .ok (.istore 4, 2) := by decide +kernel
theorem d_X12_hears_104 : decode cX12_hears 104 = .ok (.iload 4, 2) := by decide +kernel
theorem d_X12_hears_106 : decode cX12_hears 106 = .ok (.aload_n 0, 1) := by decide +kernel
theorem d_X12_hears_107 : decode cX12_hears 107 = .ok (.getfield 64, 3) := by decide +kernel
theorem d_X12_hears_110 : decode cX12_hears 110 = .ok (.bipush 75, 2) := by decide +kernel
theorem d_X12_hears_112 : decode cX12_hears 112 = .ok (.iaload, 1) := by decide +kernel
theorem d_X12_hears_113 : decode cX12_hears 113 = .ok (.if_icmp .ge 63, 3) := by decide +kernel
theorem d_X12_hears_116 : decode cX12_hears 116 = .ok (.iconst 0, 1) := by decide +kernel
theorem d_X12_hears_117 : decode cX12_hears 117 = .ok (.istore 5, 2) := by decide +kernel
theorem d_X12_hears_119 : decode cX12_hears 119 = .ok (.iload 5, 2) := by decide +kernel
theorem d_X12_hears_121 : decode cX12_hears 121 = .ok (.aload_n 0, 1) := by decide +kernel
theorem d_X12_hears_122 : decode cX12_hears 122 = .ok (.getfield 64, 3) := by decide +kernel
theorem d_X12_hears_125 : decode cX12_hears 125 = .ok (.bipush 75, 2) := by decide +kernel
theorem d_X12_hears_127 : decode cX12_hears 127 = .ok (.iaload, 1) := by decide +kernel
theorem d_X12_hears_128 : decode cX12_hears 128 = .ok (.if_icmp .ge 42, 3) := by decide +kernel
theorem d_X12_hears_131 : decode cX12_hears 131 = .ok (.aload_n 0, 1) := by decide +kernel
theorem d_X12_hears_132 : decode cX12_hears 132 = .ok (.getfield 121, 3) := by decide +kernel
theorem d_X12_hears_135 : decode cX12_hears 135 = .ok (.iload 4, 2) := by decide +kernel
theorem d_X12_hears_137 : decode cX12_hears 137 = .ok (.dup2, 1) := by decide +kernel
theorem d_X12_hears_138 : decode cX12_hears 138 = .ok (.iaload, 1) := by decide +kernel
theorem d_X12_hears_139 : decode cX12_hears 139 = .ok (.aload_n 0, 1) := by decide +kernel
theorem d_X12_hears_140 : decode cX12_hears 140 = .ok (.iload 4, 2) := by decide +kernel
theorem d_X12_hears_142 : decode cX12_hears 142 = .ok (.iload 5, 2) := by decide +kernel
theorem d_X12_hears_144 : decode cX12_hears 144 = .ok (.iload_n 1, 1) := by decide +kernel
theorem d_X12_hears_145 : decode cX12_hears 145 = .ok (.invokevirtual 582, 3) := by decide +kernel
theorem d_X12_hears_148 : decode cX12_hears 148 = .ok (.ifCond .eq 13, 3) := by decide +kernel
theorem d_X12_hears_151 : decode cX12_hears 151 = .ok (.aload_n 0, 1) := by decide +kernel
theorem d_X12_hears_152 : decode cX12_hears 152 = .ok (.getfield 121, 3) := by decide +kernel
theorem d_X12_hears_155 : decode cX12_hears 155 = .ok (.iload 5, 2) := by decide +kernel
theorem d_X12_hears_157 : decode cX12_hears 157 = .ok (.iaload, 1) := by decide +kernel
theorem d_X12_hears_158 : decode cX12_hears 158 = .ok (.goto 4, 3) := by decide +kernel
theorem d_X12_hears_161 : decode cX12_hears 161 = .ok (.iconst 0, 1) := by decide +kernel
theorem d_X12_hears_162 : decode cX12_hears 162 = .ok (.ior, 1) := by decide +kernel
theorem d_X12_hears_163 : decode cX12_hears 163 = .ok (.iastore, 1) := by decide +kernel
theorem d_X12_hears_164 : decode cX12_hears 164 = .ok (.iinc 5 1, 3) := by decide +kernel
theorem d_X12_hears_167 : decode cX12_hears 167 = .ok (.goto (-48), 3) := by decide +kernel
theorem d_X12_hears_170 : decode cX12_hears 170 = .ok (.iinc 4 1, 3) := by decide +kernel
theorem d_X12_hears_173 : decode cX12_hears 173 = .ok (.goto (-69), 3) := by decide +kernel
theorem d_X12_hears_176 : decode cX12_hears 176 = .ok (.iinc 3 1, 3) := by decide +kernel
theorem d_X12_hears_179 : decode cX12_hears 179 = .ok (.goto (-84), 3) := by decide +kernel
theorem d_X12_hears_182 : decode cX12_hears 182 = .ok (.iconst 0, 1) := by decide +kernel
theorem d_X12_hears_183 : decode cX12_hears 183 = .ok (.istore_n 3, 1) := by decide +kernel
theorem d_X12_hears_184 : decode cX12_hears 184 = .ok (.iconst 0, 1) := by decide +kernel
theorem d_X12_hears_185 : decode cX12_hears 185 = .ok (.istore 4, 2) := by decide +kernel
theorem d_X12_hears_187 : decode cX12_hears 187 = .ok (.iload 4, 2) := by decide +kernel
theorem d_X12_hears_189 : decode cX12_hears 189 = .ok (.aload_n 0, 1) := by decide +kernel
theorem d_X12_hears_190 : decode cX12_hears 190 = .ok (.getfield 64, 3) := by decide +kernel
theorem d_X12_hears_193 : decode cX12_hears 193 = .ok (.bipush 75, 2) := by decide +kernel
theorem d_X12_hears_195 : decode cX12_hears 195 = .ok (.iaload, 1) := by decide +kernel
theorem d_X12_hears_196 : decode cX12_hears 196 = .ok (.if_icmp .ge 40, 3) := by decide +kernel
theorem d_X12_hears_199 : decode cX12_hears 199 = .ok (.iload_n 3, 1) := by decide +kernel
theorem d_X12_hears_200 : decode cX12_hears 200 = .ok (.aload_n 0, 1) := by decide +kernel
theorem d_X12_hears_201 : decode cX12_hears 201 = .ok (.getfield 64, 3) := by decide +kernel
theorem d_X12_hears_204 : decode cX12_hears 204 = .ok (.iload 4, 2) := by decide +kernel
theorem d_X12_hears_206 : decode cX12_hears 206 = .ok (.invokestatic 352, 3) := by decide +kernel
theorem d_X12_hears_209 : decode cX12_hears 209 = .ok (.ifCond .eq 18, 3) := by decide +kernel
theorem d_X12_hears_212 : decode cX12_hears 212 = .ok (.aload_n 0, 1) := by decide +kernel
theorem d_X12_hears_213 : decode cX12_hears 213 = .ok (.getfield 121, 3) := by decide +kernel
theorem d_X12_hears_216 : decode cX12_hears 216 = .ok (.iload 4, 2) := by decide +kernel
theorem d_X12_hears_218 : decode cX12_hears 218 = .ok (.iaload, 1) := by decide +kernel
theorem d_X12_hears_219 : decode cX12_hears 219 = .ok (.iload_n 2, 1) := by decide +kernel
theorem d_X12_hears_220 : decode cX12_hears 220 = .ok (.if_icmp .ne 7, 3) := by decide +kernel
theorem d_X12_hears_223 : decode cX12_hears 223 = .ok (.iconst 1, 1) := by decide +kernel
theorem d_X12_hears_224 : decode cX12_hears 224 = .ok (.goto 4, 3) := by decide +kernel
theorem d_X12_hears_227 : decode cX12_hears 227 = .ok (.iconst 0, 1) := by decide +kernel
theorem d_X12_hears_228 : decode cX12_hears 228 = .ok (.iadd, 1) := by decide +kernel
theorem d_X12_hears_229 : decode cX12_hears 229 = .ok (.istore_n 3, 1) := by decide +kernel
theorem d_X12_hears_230 : decode cX12_hears 230 = .ok (.iinc 4 1, 3) := by decide +kernel
theorem d_X12_hears_233 : decode cX12_hears 233 = .ok (.goto (-46), 3) := by decide +kernel
theorem d_X12_hears_236 : decode cX12_hears 236 = .ok (.iload_n 3, 1) := by decide +kernel
theorem d_X12_hears_237 : decode cX12_hears 237 = .ok (.ireturn, 1) := by decide +kernel
def f_X12_hears (this : Nat) (a1 : Int32) : sa_M Int32 :=
sa_gd 12 this (
sa_bnd (sa_wrI 12 this 0 0) fun _ =>
sa_bnd (sa_rdI 12 this 25) fun v1 =>
sa_jn0 (sa_ret ((-1) : Int32)) fun j24 =>
if v1 = 0 then
j24
else
sa_bnd (f_X12_isIn (a1.toInt64) 0 7) fun v2 =>
if ¬ v2 = 0 then
sa_bnd (f_X12_layApart this 0) fun _ =>
sa_let (0 : Int32) fun x3 =>
sa_let (0 : Int32) fun x4 =>
sa_wh2 (fun j35 (x5 : Int32) (x6 : Int32) =>
sa_bnd (sa_rdR 12 this 35) fun v7 =>
sa_bnd (sa_ldI .int v7 75) fun v8 =>
if v8 ≤ x6 then
sa_let (0 : Int32) fun x9 =>
sa_wh1 (fun j95 (x10 : Int32) =>
if 8 ≤ x10 then
sa_let (0 : Int32) fun x11 =>
sa_let (0 : Int32) fun x12 =>
sa_wh2 (fun j187 (x13 : Int32) (x14 : Int32) =>
sa_bnd (sa_rdR 12 this 35) fun v15 =>
sa_bnd (sa_ldI .int v15 75) fun v16 =>
if v16 ≤ x14 then
sa_ret (x13 : Int32)
else
sa_bnd (sa_rdR 12 this 35) fun v17 =>
sa_bnd (f_X12_lives v17 x14) fun v18 =>
sa_jn1 (fun (y19 : Int32) =>
sa_let ((x13 + y19) : Int32) fun x20 =>
sa_let ((x14 + 1) : Int32) fun x21 =>
j187 x20 x21) fun j228 =>
sa_jn0 (j228 0) fun j227 =>
if v18 = 0 then
j227
else
sa_bnd (sa_rdR 12 this 71) fun v22 =>
sa_bnd (sa_ldI .int v22 x14) fun v23 =>
if ¬ v23 = x5 then
j227
else
j228 1) sa_F x11 x12
else
sa_let (0 : Int32) fun x24 =>
sa_wh1 (fun j104 (x25 : Int32) =>
sa_bnd (sa_rdR 12 this 35) fun v26 =>
sa_bnd (sa_ldI .int v26 75) fun v27 =>
if v27 ≤ x25 then
sa_let ((x10 + 1) : Int32) fun x28 =>
j95 x28
else
sa_let (0 : Int32) fun x29 =>
sa_wh1 (fun j119 (x30 : Int32) =>
sa_bnd (sa_rdR 12 this 35) fun v31 =>
sa_bnd (sa_ldI .int v31 75) fun v32 =>
if v32 ≤ x30 then
sa_let ((x25 + 1) : Int32) fun x33 =>
j104 x33
else
sa_bnd (sa_rdR 12 this 71) fun v34 =>
sa_bnd (sa_ldI .int v34 x25) fun v35 =>
sa_bnd (f_X12_isNear this x25 x30 a1) fun v36 =>
sa_jn1 (fun (y37 : Int32) =>
sa_bnd (sa_stI v34 x25 (v35 ||| y37)) fun _ =>
sa_let ((x30 + 1) : Int32) fun x38 =>
j119 x38) fun j162 =>
if v36 = 0 then
j162 0
else
sa_bnd (sa_rdR 12 this 71) fun v39 =>
sa_bnd (sa_ldI .int v39 x30) fun v40 =>
j162 v40) sa_F x29) sa_F x24) sa_F x9
else
sa_bnd (sa_rdR 12 this 71) fun v41 =>
sa_bnd (sa_rdR 12 this 35) fun v42 =>
sa_bnd (f_X12_lives v42 x6) fun v43 =>
sa_jn1 (fun (y44 : Int32) =>
sa_bnd (sa_stI v41 x6 y44) fun _ =>
sa_bnd (sa_rdR 12 this 71) fun v45 =>
sa_bnd (sa_ldI .int v45 x6) fun v46 =>
sa_let ((x5 ||| v46) : Int32) fun x47 =>
sa_let ((x6 + 1) : Int32) fun x48 =>
j35 x47 x48) fun j77 =>
if v43 = 0 then
j77 0
else
sa_bnd (sa_rdR 12 this 35) fun v49 =>
sa_bnd (sa_ldI .int v49 ((7 * x6) + 5)) fun v50 =>
j77 v50) sa_F x3 x4
else
j24)
set_option maxHeartbeats 1000000 in
set_option maxRecDepth 10000 in
theorem b_X12_hears {p : Program} {l : Launch} {e : Env} {s : State} {m : MethodId} {args : Array Value} {below : List Frame} {meth : Method} {c : Code} {D : va_G} {ad : Nat → Nat} {cA : FieldType → ClassId} {A : Nat → Prop} (this : Nat) (a1 : Int32) (C : sa_C p s m args meth c cX12_hears RX12 "hears" 6 (some .int) D ad cA A) : sa_Sg p l e s m args below meth c 6 3 D ad cA A sa_eI 0 [(0, .ref (ad this)), (1, .int a1)] [] (f_X12_hears this a1) := by
  unfold f_X12_hears
  refine sa_gdI ?_
  refine sa_aload_n C d_X12_hears_0 rfl 0 rfl ?_
  refine sa_iconst (v := 0) C d_X12_hears_1 (by decide) ?_
  refine sa_putI C fd_X12_127 d_X12_hears_2 ?_
  refine sa_aload_n C d_X12_hears_5 rfl 0 rfl ?_
  refine sa_getI C fd_X12_331 d_X12_hears_6 (fun v1 => ?_)
  refine sa_join0 24 ([]) ([]) (?_) (fun j24 hj24 => ?_)
  · refine sa_iconst (v := (-1)) C d_X12_hears_24 (by decide) ?_
    exact sa_iret C d_X12_hears_25
  refine sa_if_eq (tgt := 24) C d_X12_hears_9 (by decide) ?_ ?_
  · exact sa_sub [] rfl (hj24)
  refine sa_iload_n C d_X12_hears_12 rfl 1 rfl ?_
  refine sa_i2l C d_X12_hears_13 ?_
  refine sa_lconst (v := 0) C d_X12_hears_14 (by decide) ?_
  refine sa_ldc2 (v := 7) C d_X12_hears_15 q2072 ?_
  refine sa_invS C (k_X12_isIn (a1.toInt64) 0 7) q1637 ds_X12_isIn q128 q1636 q1635 rfl rfl rfl (Nat.le_of_ble_eq_true rfl) (by decide) (by decide) d_X12_hears_18 (fun v2 => ?_)
  refine sa_if_ne (tgt := 26) C d_X12_hears_21 (by decide) ?_ ?_
  · refine sa_aload_n C d_X12_hears_26 rfl 0 rfl ?_
    refine sa_iconst (v := 0) C d_X12_hears_27 (by decide) ?_
    refine sa_invV (ci := 12) C (k_X12_layApart this 0) q2076 ds_X12_layApart q128 rfl q2075 q108 q2073 (gd_X12_layApart this 0) rfl rfl rfl (Nat.le_of_ble_eq_true rfl) (by decide) (by decide) d_X12_hears_28 (fun _ => ?_)
    refine sa_iconst (v := 0) C d_X12_hears_31 (by decide) ?_
    refine sa_topi (fun x3 => ?_)
    refine sa_istore_n (lv' := [(2, .int x3), (0, .ref (ad this)), (1, .int a1)]) C d_X12_hears_32 rfl (by decide) rfl ?_
    refine sa_iconst (v := 0) C d_X12_hears_33 (by decide) ?_
    refine sa_topi (fun x4 => ?_)
    refine sa_istore_n (lv' := [(3, .int x4), (2, .int x3), (0, .ref (ad this)), (1, .int a1)]) C d_X12_hears_34 rfl (by decide) rfl ?_
    refine sa_sub [2, 3, 1, 0] rfl (sa_loop2 (fun x5 x6 => [(0, .ref (ad this)), (1, .int a1), (2, .int x5), (3, .int x6)]) (fun x5 x6 => []) (fun j35 hj35 x5 x6 => ?_) _ _ _)
    refine sa_iload_n C d_X12_hears_35 rfl 3 rfl ?_
    refine sa_aload_n C d_X12_hears_36 rfl 0 rfl ?_
    refine sa_getR C fd_X12_64 rfl d_X12_hears_37 (fun v7 => ?_)
    refine sa_bipush (v := 75) C d_X12_hears_40 (by decide) ?_
    refine sa_iald C d_X12_hears_42 (fun v8 => ?_)
    refine sa_icmp_ge (tgt := 93) C d_X12_hears_43 (by decide) ?_ ?_
    · refine sa_iconst (v := 0) C d_X12_hears_93 (by decide) ?_
      refine sa_topi (fun x9 => ?_)
      refine sa_istore_n (lv' := [(3, .int x9), (0, .ref (ad this)), (1, .int a1), (2, .int x5)]) C d_X12_hears_94 rfl (by decide) rfl ?_
      refine sa_sub [1, 2, 3, 0] rfl (sa_loop1 (fun x10 => [(0, .ref (ad this)), (1, .int a1), (2, .int x5), (3, .int x10)]) (fun x10 => []) (fun j95 hj95 x10 => ?_) _ _)
      refine sa_iload_n C d_X12_hears_95 rfl 3 rfl ?_
      refine sa_bipush (v := 8) C d_X12_hears_96 (by decide) ?_
      refine sa_icmp_ge (tgt := 182) C d_X12_hears_98 (by decide) ?_ ?_
      · refine sa_iconst (v := 0) C d_X12_hears_182 (by decide) ?_
        refine sa_topi (fun x11 => ?_)
        refine sa_istore_n (lv' := [(3, .int x11), (0, .ref (ad this)), (1, .int a1), (2, .int x5)]) C d_X12_hears_183 rfl (by decide) rfl ?_
        refine sa_iconst (v := 0) C d_X12_hears_184 (by decide) ?_
        refine sa_topi (fun x12 => ?_)
        refine sa_istore (lv' := [(4, .int x12), (3, .int x11), (0, .ref (ad this)), (1, .int a1), (2, .int x5)]) C d_X12_hears_185 (by decide) rfl ?_
        refine sa_sub [2, 4, 1, 0] rfl (sa_loop2 (fun x13 x14 => [(0, .ref (ad this)), (2, .int x5), (3, .int x13), (4, .int x14)]) (fun x13 x14 => []) (fun j187 hj187 x13 x14 => ?_) _ _ _)
        refine sa_iload C d_X12_hears_187 3 rfl ?_
        refine sa_aload_n C d_X12_hears_189 rfl 0 rfl ?_
        refine sa_getR C fd_X12_64 rfl d_X12_hears_190 (fun v15 => ?_)
        refine sa_bipush (v := 75) C d_X12_hears_193 (by decide) ?_
        refine sa_iald C d_X12_hears_195 (fun v16 => ?_)
        refine sa_icmp_ge (tgt := 236) C d_X12_hears_196 (by decide) ?_ ?_
        · refine sa_iload_n C d_X12_hears_236 rfl 2 rfl ?_
          exact sa_iret C d_X12_hears_237
        refine sa_iload_n C d_X12_hears_199 rfl 2 rfl ?_
        refine sa_aload_n C d_X12_hears_200 rfl 0 rfl ?_
        refine sa_getR C fd_X12_64 rfl d_X12_hears_201 (fun v17 => ?_)
        refine sa_iload C d_X12_hears_204 3 rfl ?_
        refine sa_invS C (k_X12_lives v17 x14) q1810 ds_X12_lives q128 q1809 q1808 rfl rfl rfl (Nat.le_of_ble_eq_true rfl) (by decide) (by decide) d_X12_hears_206 (fun v18 => ?_)
        refine sa_join1 228 (fun y19 => [(0, .ref (ad this)), (2, .int x5), (4, .int x14)]) (fun y19 => [.int y19, .int x13]) (fun y19 => ?_) (fun j228 hj228 => ?_)
        · refine sa_iadd C d_X12_hears_228 ?_
          refine sa_topi (fun x20 => ?_)
          refine sa_istore_n (lv' := [(3, .int x20), (0, .ref (ad this)), (2, .int x5), (4, .int x14)]) C d_X12_hears_229 rfl (by decide) rfl ?_
          refine sa_iinc C (fun zz => [(4, .int zz), (3, .int x20), (0, .ref (ad this)), (2, .int x5)]) d_X12_hears_230 3 rfl rfl (by decide) (fun _ => rfl) (fun x21 => ?_)
          refine sa_goto (tgt := 187) C d_X12_hears_233 (by decide) ?_
          exact sa_sub [2, 3, 1, 0] rfl (hj187 _ _)
        refine sa_join0 227 ([(0, .ref (ad this)), (2, .int x5), (4, .int x14)]) ([.int x13]) (?_) (fun j227 hj227 => ?_)
        · refine sa_iconst (v := 0) C d_X12_hears_227 (by decide) ?_
          exact sa_sub [0, 1, 2] rfl (hj228 _)
        refine sa_if_eq (tgt := 227) C d_X12_hears_209 (by decide) ?_ ?_
        · exact sa_sub [0, 1, 3] rfl (hj227)
        refine sa_aload_n C d_X12_hears_212 rfl 0 rfl ?_
        refine sa_getR C fd_X12_121 rfl d_X12_hears_213 (fun v22 => ?_)
        refine sa_iload C d_X12_hears_216 3 rfl ?_
        refine sa_iald C d_X12_hears_218 (fun v23 => ?_)
        refine sa_iload_n C d_X12_hears_219 rfl 1 rfl ?_
        refine sa_icmp_ne (tgt := 227) C d_X12_hears_220 (by decide) ?_ ?_
        · exact sa_sub [0, 1, 3] rfl (hj227)
        refine sa_iconst (v := 1) C d_X12_hears_223 (by decide) ?_
        refine sa_goto (tgt := 228) C d_X12_hears_224 (by decide) ?_
        exact sa_sub [0, 1, 3] rfl (hj228 _)
      refine sa_iconst (v := 0) C d_X12_hears_101 (by decide) ?_
      refine sa_topi (fun x24 => ?_)
      refine sa_istore (lv' := [(4, .int x24), (0, .ref (ad this)), (1, .int a1), (2, .int x5), (3, .int x10)]) C d_X12_hears_102 (by decide) rfl ?_
      refine sa_sub [1, 2, 3, 4, 0] rfl (sa_loop1 (fun x25 => [(0, .ref (ad this)), (1, .int a1), (2, .int x5), (3, .int x10), (4, .int x25)]) (fun x25 => []) (fun j104 hj104 x25 => ?_) _ _)
      refine sa_iload C d_X12_hears_104 4 rfl ?_
      refine sa_aload_n C d_X12_hears_106 rfl 0 rfl ?_
      refine sa_getR C fd_X12_64 rfl d_X12_hears_107 (fun v26 => ?_)
      refine sa_bipush (v := 75) C d_X12_hears_110 (by decide) ?_
      refine sa_iald C d_X12_hears_112 (fun v27 => ?_)
      refine sa_icmp_ge (tgt := 176) C d_X12_hears_113 (by decide) ?_ ?_
      · refine sa_iinc C (fun zz => [(3, .int zz), (0, .ref (ad this)), (1, .int a1), (2, .int x5), (4, .int x25)]) d_X12_hears_176 3 rfl rfl (by decide) (fun _ => rfl) (fun x28 => ?_)
        refine sa_goto (tgt := 95) C d_X12_hears_179 (by decide) ?_
        exact sa_sub [1, 2, 3, 0] rfl (hj95 _)
      refine sa_iconst (v := 0) C d_X12_hears_116 (by decide) ?_
      refine sa_topi (fun x29 => ?_)
      refine sa_istore (lv' := [(5, .int x29), (0, .ref (ad this)), (1, .int a1), (2, .int x5), (3, .int x10), (4, .int x25)]) C d_X12_hears_117 (by decide) rfl ?_
      refine sa_sub [1, 2, 3, 4, 5, 0] rfl (sa_loop1 (fun x30 => [(0, .ref (ad this)), (1, .int a1), (2, .int x5), (3, .int x10), (4, .int x25), (5, .int x30)]) (fun x30 => []) (fun j119 hj119 x30 => ?_) _ _)
      refine sa_iload C d_X12_hears_119 5 rfl ?_
      refine sa_aload_n C d_X12_hears_121 rfl 0 rfl ?_
      refine sa_getR C fd_X12_64 rfl d_X12_hears_122 (fun v31 => ?_)
      refine sa_bipush (v := 75) C d_X12_hears_125 (by decide) ?_
      refine sa_iald C d_X12_hears_127 (fun v32 => ?_)
      refine sa_icmp_ge (tgt := 170) C d_X12_hears_128 (by decide) ?_ ?_
      · refine sa_iinc C (fun zz => [(4, .int zz), (0, .ref (ad this)), (1, .int a1), (2, .int x5), (3, .int x10), (5, .int x30)]) d_X12_hears_170 4 rfl rfl (by decide) (fun _ => rfl) (fun x33 => ?_)
        refine sa_goto (tgt := 104) C d_X12_hears_173 (by decide) ?_
        exact sa_sub [1, 2, 3, 4, 0] rfl (hj104 _)
      refine sa_aload_n C d_X12_hears_131 rfl 0 rfl ?_
      refine sa_getR C fd_X12_121 rfl d_X12_hears_132 (fun v34 => ?_)
      refine sa_iload C d_X12_hears_135 4 rfl ?_
      refine sa_dup2_11 C d_X12_hears_137 rfl rfl ?_
      refine sa_iald C d_X12_hears_138 (fun v35 => ?_)
      refine sa_aload_n C d_X12_hears_139 rfl 0 rfl ?_
      refine sa_iload C d_X12_hears_140 4 rfl ?_
      refine sa_iload C d_X12_hears_142 5 rfl ?_
      refine sa_iload_n C d_X12_hears_144 rfl 1 rfl ?_
      refine sa_invV (ci := 12) C (k_X12_isNear this x25 x30 a1) q2084 ds_X12_isNear q128 rfl q2083 q110 q2081 (gd_X12_isNear this x25 x30 a1) rfl rfl rfl (Nat.le_of_ble_eq_true rfl) (by decide) (by decide) d_X12_hears_145 (fun v36 => ?_)
      refine sa_join1 162 (fun y37 => [(0, .ref (ad this)), (1, .int a1), (2, .int x5), (3, .int x10), (4, .int x25), (5, .int x30)]) (fun y37 => [.int y37, .int v35, .int x25, .ref (ad v34)]) (fun y37 => ?_) (fun j162 hj162 => ?_)
      · refine sa_ior C d_X12_hears_162 ?_
        refine sa_iast C d_X12_hears_163 ?_
        refine sa_iinc C (fun zz => [(5, .int zz), (0, .ref (ad this)), (1, .int a1), (2, .int x5), (3, .int x10), (4, .int x25)]) d_X12_hears_164 5 rfl rfl (by decide) (fun _ => rfl) (fun x38 => ?_)
        refine sa_goto (tgt := 119) C d_X12_hears_167 (by decide) ?_
        exact sa_sub [1, 2, 3, 4, 5, 0] rfl (hj119 _)
      refine sa_if_eq (tgt := 161) C d_X12_hears_148 (by decide) ?_ ?_
      · refine sa_iconst (v := 0) C d_X12_hears_161 (by decide) ?_
        exact sa_sub [0, 1, 2, 3, 4, 5] rfl (hj162 _)
      refine sa_aload_n C d_X12_hears_151 rfl 0 rfl ?_
      refine sa_getR C fd_X12_121 rfl d_X12_hears_152 (fun v39 => ?_)
      refine sa_iload C d_X12_hears_155 5 rfl ?_
      refine sa_iald C d_X12_hears_157 (fun v40 => ?_)
      refine sa_goto (tgt := 162) C d_X12_hears_158 (by decide) ?_
      exact sa_sub [0, 1, 2, 3, 4, 5] rfl (hj162 _)
    refine sa_aload_n C d_X12_hears_46 rfl 0 rfl ?_
    refine sa_getR C fd_X12_121 rfl d_X12_hears_47 (fun v41 => ?_)
    refine sa_iload_n C d_X12_hears_50 rfl 3 rfl ?_
    refine sa_aload_n C d_X12_hears_51 rfl 0 rfl ?_
    refine sa_getR C fd_X12_64 rfl d_X12_hears_52 (fun v42 => ?_)
    refine sa_iload_n C d_X12_hears_55 rfl 3 rfl ?_
    refine sa_invS C (k_X12_lives v42 x6) q1810 ds_X12_lives q128 q1809 q1808 rfl rfl rfl (Nat.le_of_ble_eq_true rfl) (by decide) (by decide) d_X12_hears_56 (fun v43 => ?_)
    refine sa_join1 77 (fun y44 => [(0, .ref (ad this)), (1, .int a1), (2, .int x5), (3, .int x6)]) (fun y44 => [.int y44, .int x6, .ref (ad v41)]) (fun y44 => ?_) (fun j77 hj77 => ?_)
    · refine sa_iast C d_X12_hears_77 ?_
      refine sa_iload_n C d_X12_hears_78 rfl 2 rfl ?_
      refine sa_aload_n C d_X12_hears_79 rfl 0 rfl ?_
      refine sa_getR C fd_X12_121 rfl d_X12_hears_80 (fun v45 => ?_)
      refine sa_iload_n C d_X12_hears_83 rfl 3 rfl ?_
      refine sa_iald C d_X12_hears_84 (fun v46 => ?_)
      refine sa_ior C d_X12_hears_85 ?_
      refine sa_topi (fun x47 => ?_)
      refine sa_istore_n (lv' := [(2, .int x47), (0, .ref (ad this)), (1, .int a1), (3, .int x6)]) C d_X12_hears_86 rfl (by decide) rfl ?_
      refine sa_iinc C (fun zz => [(3, .int zz), (2, .int x47), (0, .ref (ad this)), (1, .int a1)]) d_X12_hears_87 3 rfl rfl (by decide) (fun _ => rfl) (fun x48 => ?_)
      refine sa_goto (tgt := 35) C d_X12_hears_90 (by decide) ?_
      exact sa_sub [2, 3, 1, 0] rfl (hj35 _ _)
    refine sa_if_eq (tgt := 76) C d_X12_hears_59 (by decide) ?_ ?_
    · refine sa_iconst (v := 0) C d_X12_hears_76 (by decide) ?_
      exact sa_sub [0, 1, 2, 3] rfl (hj77 _)
    refine sa_aload_n C d_X12_hears_62 rfl 0 rfl ?_
    refine sa_getR C fd_X12_64 rfl d_X12_hears_63 (fun v49 => ?_)
    refine sa_bipush (v := 7) C d_X12_hears_66 (by decide) ?_
    refine sa_iload_n C d_X12_hears_68 rfl 3 rfl ?_
    refine sa_imul C d_X12_hears_69 ?_
    refine sa_iconst (v := 5) C d_X12_hears_70 (by decide) ?_
    refine sa_iadd C d_X12_hears_71 ?_
    refine sa_iald C d_X12_hears_72 (fun v50 => ?_)
    refine sa_goto (tgt := 77) C d_X12_hears_73 (by decide) ?_
    exact sa_sub [0, 1, 2, 3] rfl (hj77 _)
  exact sa_sub [] rfl (hj24)
theorem k_X12_hears (this : Nat) (a1 : Int32) : sa_Met 3 yX12_hears cX12_hears 6 (some .int) (fun ad => [.ref (ad this), .int a1]) sa_eI (f_X12_hears this a1) := sa_mk (by decide) (fun ad => Nat.le_of_ble_eq_true rfl) (fun p l e s m args below meth c D ad cA A C => b_X12_hears this a1 C)
theorem gd_X12_hears (this : Nat) (a1 : Int32) (σ : sa_St) (r : Int32) (τ : sa_St) (h : f_X12_hears this a1 σ = some (r, τ)) : sa_sh this = some (.inl 12) := sa_gd_ok h
theorem d_X12_weakest_0 : decode cX12_weakest 0 = .ok (.aload_n 0, 1) := by decide +kernel
theorem d_X12_weakest_1 : decode cX12_weakest 1 = .ok (.iconst 0, 1) := by decide +kernel
theorem d_X12_weakest_2 : decode cX12_weakest 2 = .ok (.putfield 127, 3) := by decide +kernel
theorem d_X12_weakest_5 : decode cX12_weakest 5 = .ok (.iconst (-1), 1) := by decide +kernel
theorem d_X12_weakest_6 : decode cX12_weakest 6 = .ok (.istore_n 1, 1) := by decide +kernel
theorem d_X12_weakest_7 : decode cX12_weakest 7 = .ok (.iconst 0, 1) := by decide +kernel
theorem d_X12_weakest_8 : decode cX12_weakest 8 = .ok (.istore_n 2, 1) := by decide +kernel
theorem d_X12_weakest_9 : decode cX12_weakest 9 = .ok (.iload_n 2, 1) := by decide +kernel
theorem d_X12_weakest_10 : decode cX12_weakest 10 = .ok (.aload_n 0, 1) := by decide +kernel
theorem d_X12_weakest_11 : decode cX12_weakest 11 = .ok (.getfield 64, 3) := by decide +kernel
theorem d_X12_weakest_14 : decode cX12_weakest 14 = .ok (.bipush 75, 2) := by decide +kernel
theorem d_X12_weakest_16 : decode cX12_weakest 16 = .ok (.iaload, 1) := by decide +kernel
theorem d_X12_weakest_17 : decode cX12_weakest 17 = .ok (.if_icmp .ge 52, 3) := by decide +kernel
theorem d_X12_weakest_20 : decode cX12_weakest 20 = .ok (.aload_n 0, 1) := by decide +kernel
theorem d_X12_weakest_21 : decode cX12_weakest 21 = .ok (.getfield 64, 3) := by decide +kernel
theorem d_X12_weakest_24 : decode cX12_weakest 24 = .ok (.iload_n 2, 1) := by decide +kernel
theorem d_X12_weakest_25 : decode cX12_weakest 25 = .ok (.invokestatic 352, 3) := by decide +kernel
theorem d_X12_weakest_28 : decode cX12_weakest 28 = .ok (.ifCond .eq 35, 3) := by decide +kernel
theorem d_X12_weakest_31 : decode cX12_weakest 31 = .ok (.iload_n 1, 1) := by decide +kernel
theorem d_X12_weakest_32 : decode cX12_weakest 32 = .ok (.iconst (-1), 1) := by decide +kernel
theorem d_X12_weakest_33 : decode cX12_weakest 33 = .ok (.if_icmp .eq 28, 3) := by decide +kernel
theorem d_X12_weakest_36 : decode cX12_weakest 36 = .ok (.aload_n 0, 1) := by decide +kernel
theorem d_X12_weakest_37 : decode cX12_weakest 37 = .ok (.getfield 64, 3) := by decide +kernel
theorem d_X12_weakest_40 : decode cX12_weakest 40 = .ok (.bipush 7, 2) := by decide +kernel
theorem d_X12_weakest_42 : decode cX12_weakest 42 = .ok (.iload_n 2, 1) := by decide +kernel
theorem d_X12_weakest_43 : decode cX12_weakest 43 = .ok (.imul, 1) := by decide +kernel
theorem d_X12_weakest_44 : decode cX12_weakest 44 = .ok (.iconst 2, 1) := by decide +kernel
theorem d_X12_weakest_45 : decode cX12_weakest 45 = .ok (.iadd, 1) := by decide +kernel
theorem d_X12_weakest_46 : decode cX12_weakest 46 = .ok (.iaload, 1) := by decide +kernel
theorem d_X12_weakest_47 : decode cX12_weakest 47 = .ok (.aload_n 0, 1) := by decide +kernel
theorem d_X12_weakest_48 : decode cX12_weakest 48 = .ok (.getfield 64, 3) := by decide +kernel
theorem d_X12_weakest_51 : decode cX12_weakest 51 = .ok (.bipush 7, 2) := by decide +kernel
theorem d_X12_weakest_53 : decode cX12_weakest 53 = .ok (.iload_n 1, 1) := by decide +kernel
theorem d_X12_weakest_54 : decode cX12_weakest 54 = .ok (.imul, 1) := by decide +kernel
theorem d_X12_weakest_55 : decode cX12_weakest 55 = .ok (.iconst 2, 1) := by decide +kernel
theorem d_X12_weakest_56 : decode cX12_weakest 56 = .ok (.iadd, 1) := by decide +kernel
theorem d_X12_weakest_57 : decode cX12_weakest 57 = .ok (.iaload, 1) := by decide +kernel
theorem d_X12_weakest_58 : decode cX12_weakest 58 = .ok (.if_icmp .ge 5, 3) := by decide +kernel
theorem d_X12_weakest_61 : decode cX12_weakest 61 = .ok (.iload_n 2, 1) := by decide +kernel
theorem d_X12_weakest_62 : decode cX12_weakest 62 = .ok (.istore_n 1, 1) := by decide +kernel
theorem d_X12_weakest_63 : decode cX12_weakest 63 = .ok (.iinc 2 1, 3) := by decide +kernel
theorem d_X12_weakest_66 : decode cX12_weakest 66 = .ok (.goto (-57), 3) := by decide +kernel
theorem d_X12_weakest_69 : decode cX12_weakest 69 = .ok (.iload_n 1, 1) := by decide +kernel
theorem d_X12_weakest_70 : decode cX12_weakest 70 = .ok (.ireturn, 1) := by decide +kernel
def f_X12_weakest (this : Nat) : sa_M Int32 :=
sa_gd 12 this (
sa_bnd (sa_wrI 12 this 0 0) fun _ =>
sa_let ((-1) : Int32) fun x1 =>
sa_let (0 : Int32) fun x2 =>
sa_wh2 (fun j9 (x3 : Int32) (x4 : Int32) =>
sa_bnd (sa_rdR 12 this 35) fun v5 =>
sa_bnd (sa_ldI .int v5 75) fun v6 =>
if v6 ≤ x4 then
sa_ret (x3 : Int32)
else
sa_bnd (sa_rdR 12 this 35) fun v7 =>
sa_bnd (f_X12_lives v7 x4) fun v8 =>
sa_jn1 (fun (x9 : Int32) =>
sa_let ((x4 + 1) : Int32) fun x10 =>
j9 x9 x10) fun j63 =>
if v8 = 0 then
j63 x3
else
sa_jn0 (j63 x4) fun j61 =>
if x3 = (-1) then
j61
else
sa_bnd (sa_rdR 12 this 35) fun v11 =>
sa_bnd (sa_ldI .int v11 ((7 * x4) + 2)) fun v12 =>
sa_bnd (sa_rdR 12 this 35) fun v13 =>
sa_bnd (sa_ldI .int v13 ((7 * x3) + 2)) fun v14 =>
if v14 ≤ v12 then
j63 x3
else
j61) sa_F x1 x2)
set_option maxHeartbeats 1000000 in
set_option maxRecDepth 10000 in
theorem b_X12_weakest {p : Program} {l : Launch} {e : Env} {s : State} {m : MethodId} {args : Array Value} {below : List Frame} {meth : Method} {c : Code} {D : va_G} {ad : Nat → Nat} {cA : FieldType → ClassId} {A : Nat → Prop} (this : Nat) (C : sa_C p s m args meth c cX12_weakest RX12 "weakest" 3 (some .int) D ad cA A) : sa_Sg p l e s m args below meth c 3 2 D ad cA A sa_eI 0 [(0, .ref (ad this))] [] (f_X12_weakest this) := by
  unfold f_X12_weakest
  refine sa_gdI ?_
  refine sa_aload_n C d_X12_weakest_0 rfl 0 rfl ?_
  refine sa_iconst (v := 0) C d_X12_weakest_1 (by decide) ?_
  refine sa_putI C fd_X12_127 d_X12_weakest_2 ?_
  refine sa_iconst (v := (-1)) C d_X12_weakest_5 (by decide) ?_
  refine sa_topi (fun x1 => ?_)
  refine sa_istore_n (lv' := [(1, .int x1), (0, .ref (ad this))]) C d_X12_weakest_6 rfl (by decide) rfl ?_
  refine sa_iconst (v := 0) C d_X12_weakest_7 (by decide) ?_
  refine sa_topi (fun x2 => ?_)
  refine sa_istore_n (lv' := [(2, .int x2), (1, .int x1), (0, .ref (ad this))]) C d_X12_weakest_8 rfl (by decide) rfl ?_
  refine sa_sub [2, 1, 0] rfl (sa_loop2 (fun x3 x4 => [(0, .ref (ad this)), (1, .int x3), (2, .int x4)]) (fun x3 x4 => []) (fun j9 hj9 x3 x4 => ?_) _ _ _)
  refine sa_iload_n C d_X12_weakest_9 rfl 2 rfl ?_
  refine sa_aload_n C d_X12_weakest_10 rfl 0 rfl ?_
  refine sa_getR C fd_X12_64 rfl d_X12_weakest_11 (fun v5 => ?_)
  refine sa_bipush (v := 75) C d_X12_weakest_14 (by decide) ?_
  refine sa_iald C d_X12_weakest_16 (fun v6 => ?_)
  refine sa_icmp_ge (tgt := 69) C d_X12_weakest_17 (by decide) ?_ ?_
  · refine sa_iload_n C d_X12_weakest_69 rfl 1 rfl ?_
    exact sa_iret C d_X12_weakest_70
  refine sa_aload_n C d_X12_weakest_20 rfl 0 rfl ?_
  refine sa_getR C fd_X12_64 rfl d_X12_weakest_21 (fun v7 => ?_)
  refine sa_iload_n C d_X12_weakest_24 rfl 2 rfl ?_
  refine sa_invS C (k_X12_lives v7 x4) q1810 ds_X12_lives q128 q1809 q1808 rfl rfl rfl (Nat.le_of_ble_eq_true rfl) (by decide) (by decide) d_X12_weakest_25 (fun v8 => ?_)
  refine sa_join1 63 (fun x9 => [(0, .ref (ad this)), (1, .int x9), (2, .int x4)]) (fun x9 => []) (fun x9 => ?_) (fun j63 hj63 => ?_)
  · refine sa_iinc C (fun zz => [(2, .int zz), (0, .ref (ad this)), (1, .int x9)]) d_X12_weakest_63 2 rfl rfl (by decide) (fun _ => rfl) (fun x10 => ?_)
    refine sa_goto (tgt := 9) C d_X12_weakest_66 (by decide) ?_
    exact sa_sub [1, 2, 0] rfl (hj9 _ _)
  refine sa_if_eq (tgt := 63) C d_X12_weakest_28 (by decide) ?_ ?_
  · exact sa_sub [0, 1, 2] rfl (hj63 _)
  refine sa_iload_n C d_X12_weakest_31 rfl 1 rfl ?_
  refine sa_iconst (v := (-1)) C d_X12_weakest_32 (by decide) ?_
  refine sa_join0 61 ([(0, .ref (ad this)), (2, .int x4)]) ([]) (?_) (fun j61 hj61 => ?_)
  · refine sa_iload_n C d_X12_weakest_61 rfl 1 rfl ?_
    refine sa_istore_n (lv' := [(1, .int x4), (0, .ref (ad this)), (2, .int x4)]) C d_X12_weakest_62 rfl (by decide) rfl ?_
    exact sa_sub [1, 0, 2] rfl (hj63 _)
  refine sa_icmp_eq (tgt := 61) C d_X12_weakest_33 (by decide) ?_ ?_
  · exact sa_sub [0, 2] rfl (hj61)
  refine sa_aload_n C d_X12_weakest_36 rfl 0 rfl ?_
  refine sa_getR C fd_X12_64 rfl d_X12_weakest_37 (fun v11 => ?_)
  refine sa_bipush (v := 7) C d_X12_weakest_40 (by decide) ?_
  refine sa_iload_n C d_X12_weakest_42 rfl 2 rfl ?_
  refine sa_imul C d_X12_weakest_43 ?_
  refine sa_iconst (v := 2) C d_X12_weakest_44 (by decide) ?_
  refine sa_iadd C d_X12_weakest_45 ?_
  refine sa_iald C d_X12_weakest_46 (fun v12 => ?_)
  refine sa_aload_n C d_X12_weakest_47 rfl 0 rfl ?_
  refine sa_getR C fd_X12_64 rfl d_X12_weakest_48 (fun v13 => ?_)
  refine sa_bipush (v := 7) C d_X12_weakest_51 (by decide) ?_
  refine sa_iload_n C d_X12_weakest_53 rfl 1 rfl ?_
  refine sa_imul C d_X12_weakest_54 ?_
  refine sa_iconst (v := 2) C d_X12_weakest_55 (by decide) ?_
  refine sa_iadd C d_X12_weakest_56 ?_
  refine sa_iald C d_X12_weakest_57 (fun v14 => ?_)
  refine sa_icmp_ge (tgt := 63) C d_X12_weakest_58 (by decide) ?_ ?_
  · exact sa_sub [0, 1, 2] rfl (hj63 _)
  exact sa_sub [0, 2] rfl (hj61)
theorem k_X12_weakest (this : Nat) : sa_Met 2 yX12_weakest cX12_weakest 3 (some .int) (fun ad => [.ref (ad this)]) sa_eI (f_X12_weakest this) := sa_mk (by decide) (fun ad => Nat.le_of_ble_eq_true rfl) (fun p l e s m args below meth c D ad cA A C => b_X12_weakest this C)
theorem gd_X12_weakest (this : Nat) (σ : sa_St) (r : Int32) (τ : sa_St) (h : f_X12_weakest this σ = some (r, τ)) : sa_sh this = some (.inl 12) := sa_gd_ok h
theorem d_X12_reach_0 : decode cX12_reach 0 = .ok (.aload_n 0, 1) := by decide +kernel
theorem d_X12_reach_1 : decode cX12_reach 1 = .ok (.iconst 0, 1) := by decide +kernel
theorem d_X12_reach_2 : decode cX12_reach 2 = .ok (.putfield 127, 3) := by decide +kernel
theorem d_X12_reach_5 : decode cX12_reach 5 = .ok (.aload_n 0, 1) := by decide +kernel
theorem d_X12_reach_6 : decode cX12_reach 6 = .ok (.iload_n 1, 1) := by decide +kernel
theorem d_X12_reach_7 : decode cX12_reach 7 = .ok (.invokevirtual 372, 3) := by decide +kernel
theorem d_X12_reach_10 : decode cX12_reach 10 = .ok (.ifCond .eq 11, 3) := by decide +kernel
theorem d_X12_reach_13 : decode cX12_reach 13 = .ok (.aload_n 0, 1) := by decide +kernel
theorem d_X12_reach_14 : decode cX12_reach 14 = .ok (.iload_n 2, 1) := by decide +kernel
theorem d_X12_reach_15 : decode cX12_reach 15 = .ok (.invokevirtual 372, 3) := by decide +kernel
theorem d_X12_reach_18 : decode cX12_reach 18 = .ok (.ifCond .ne 5, 3) := by decide +kernel
theorem d_X12_reach_21 : decode cX12_reach 21 = .ok (.iconst (-1), 1) := by decide +kernel
theorem d_X12_reach_22 : decode cX12_reach 22 = .ok (.ireturn, 1) := by decide +kernel
theorem d_X12_reach_23 : decode cX12_reach 23 = .ok (.aload_n 0, 1) := by decide +kernel
theorem d_X12_reach_24 : decode cX12_reach 24 = .ok (.iconst 1, 1) := by decide +kernel
theorem d_X12_reach_25 : decode cX12_reach 25 = .ok (.invokevirtual 578, 3) := by decide +kernel
theorem d_X12_reach_28 : decode cX12_reach 28 = .ok (.aload_n 0, 1) := by decide +kernel
theorem d_X12_reach_29 : decode cX12_reach 29 = .ok (.getfield 118, 3) := by decide +kernel
theorem d_X12_reach_32 : decode cX12_reach 32 = .ok (.bipush 8, 2) := by decide +kernel
theorem d_X12_reach_34 : decode cX12_reach 34 = .ok (.iload_n 1, 1) := by decide +kernel
theorem d_X12_reach_35 : decode cX12_reach 35 = .ok (.imul, 1) := by decide +kernel
theorem d_X12_reach_36 : decode cX12_reach 36 = .ok (.iload_n 2, 1) := by decide +kernel
theorem d_X12_reach_37 : decode cX12_reach 37 = .ok (.iadd, 1) := by decide +kernel
theorem d_X12_reach_38 : decode cX12_reach 38 = .ok (.iaload, 1) := by decide +kernel
theorem d_X12_reach_39 : decode cX12_reach 39 = .ok (.ireturn, 1) := by decide +kernel
def f_X12_reach (this : Nat) (a1 : Int32) (a2 : Int32) : sa_M Int32 :=
sa_gd 12 this (
sa_bnd (sa_wrI 12 this 0 0) fun _ =>
sa_bnd (f_X12_isPlace this a1) fun v1 =>
sa_jn0 (sa_ret ((-1) : Int32)) fun j21 =>
if v1 = 0 then
j21
else
sa_bnd (f_X12_isPlace this a2) fun v2 =>
if ¬ v2 = 0 then
sa_bnd (f_X12_layApart this 1) fun _ =>
sa_bnd (sa_rdR 12 this 70) fun v3 =>
sa_bnd (sa_ldI .int v3 ((8 * a1) + a2)) fun v4 =>
sa_ret (v4 : Int32)
else
j21)
set_option maxHeartbeats 1000000 in
set_option maxRecDepth 10000 in
theorem b_X12_reach {p : Program} {l : Launch} {e : Env} {s : State} {m : MethodId} {args : Array Value} {below : List Frame} {meth : Method} {c : Code} {D : va_G} {ad : Nat → Nat} {cA : FieldType → ClassId} {A : Nat → Prop} (this : Nat) (a1 : Int32) (a2 : Int32) (C : sa_C p s m args meth c cX12_reach RX12 "reach" 3 (some .int) D ad cA A) : sa_Sg p l e s m args below meth c 3 3 D ad cA A sa_eI 0 [(0, .ref (ad this)), (1, .int a1), (2, .int a2)] [] (f_X12_reach this a1 a2) := by
  unfold f_X12_reach
  refine sa_gdI ?_
  refine sa_aload_n C d_X12_reach_0 rfl 0 rfl ?_
  refine sa_iconst (v := 0) C d_X12_reach_1 (by decide) ?_
  refine sa_putI C fd_X12_127 d_X12_reach_2 ?_
  refine sa_aload_n C d_X12_reach_5 rfl 0 rfl ?_
  refine sa_iload_n C d_X12_reach_6 rfl 1 rfl ?_
  refine sa_invV (ci := 12) C (k_X12_isPlace this a1) q1785 ds_X12_isPlace q128 rfl q1784 q70 q1782 (gd_X12_isPlace this a1) rfl rfl rfl (Nat.le_of_ble_eq_true rfl) (by decide) (by decide) d_X12_reach_7 (fun v1 => ?_)
  refine sa_join0 21 ([]) ([]) (?_) (fun j21 hj21 => ?_)
  · refine sa_iconst (v := (-1)) C d_X12_reach_21 (by decide) ?_
    exact sa_iret C d_X12_reach_22
  refine sa_if_eq (tgt := 21) C d_X12_reach_10 (by decide) ?_ ?_
  · exact sa_sub [] rfl (hj21)
  refine sa_aload_n C d_X12_reach_13 rfl 0 rfl ?_
  refine sa_iload_n C d_X12_reach_14 rfl 2 rfl ?_
  refine sa_invV (ci := 12) C (k_X12_isPlace this a2) q1785 ds_X12_isPlace q128 rfl q1784 q70 q1782 (gd_X12_isPlace this a2) rfl rfl rfl (Nat.le_of_ble_eq_true rfl) (by decide) (by decide) d_X12_reach_15 (fun v2 => ?_)
  refine sa_if_ne (tgt := 23) C d_X12_reach_18 (by decide) ?_ ?_
  · refine sa_aload_n C d_X12_reach_23 rfl 0 rfl ?_
    refine sa_iconst (v := 1) C d_X12_reach_24 (by decide) ?_
    refine sa_invV (ci := 12) C (k_X12_layApart this 1) q2076 ds_X12_layApart q128 rfl q2075 q108 q2073 (gd_X12_layApart this 1) rfl rfl rfl (Nat.le_of_ble_eq_true rfl) (by decide) (by decide) d_X12_reach_25 (fun _ => ?_)
    refine sa_aload_n C d_X12_reach_28 rfl 0 rfl ?_
    refine sa_getR C fd_X12_118 rfl d_X12_reach_29 (fun v3 => ?_)
    refine sa_bipush (v := 8) C d_X12_reach_32 (by decide) ?_
    refine sa_iload_n C d_X12_reach_34 rfl 1 rfl ?_
    refine sa_imul C d_X12_reach_35 ?_
    refine sa_iload_n C d_X12_reach_36 rfl 2 rfl ?_
    refine sa_iadd C d_X12_reach_37 ?_
    refine sa_iald C d_X12_reach_38 (fun v4 => ?_)
    exact sa_iret C d_X12_reach_39
  exact sa_sub [] rfl (hj21)
theorem k_X12_reach (this : Nat) (a1 : Int32) (a2 : Int32) : sa_Met 3 yX12_reach cX12_reach 3 (some .int) (fun ad => [.ref (ad this), .int a1, .int a2]) sa_eI (f_X12_reach this a1 a2) := sa_mk (by decide) (fun ad => Nat.le_of_ble_eq_true rfl) (fun p l e s m args below meth c D ad cA A C => b_X12_reach this a1 a2 C)
theorem gd_X12_reach (this : Nat) (a1 : Int32) (a2 : Int32) (σ : sa_St) (r : Int32) (τ : sa_St) (h : f_X12_reach this a1 a2 σ = some (r, τ)) : sa_sh this = some (.inl 12) := sa_gd_ok h
theorem d_X12_dry_0 : decode cX12_dry 0 = .ok (.aload_n 0, 1) := by decide +kernel
theorem d_X12_dry_1 : decode cX12_dry 1 = .ok (.iconst 0, 1) := by decide +kernel
theorem d_X12_dry_2 : decode cX12_dry 2 = .ok (.putfield 127, 3) := by decide +kernel
theorem d_X12_dry_5 : decode cX12_dry 5 = .ok (.aload_n 0, 1) := by decide +kernel
theorem d_X12_dry_6 : decode cX12_dry 6 = .ok (.iload_n 1, 1) := by decide +kernel
theorem d_X12_dry_7 : decode cX12_dry 7 = .ok (.invokevirtual 372, 3) := by decide +kernel
theorem d_X12_dry_10 : decode cX12_dry 10 = .ok (.ifCond .ne 5, 3) := by decide +kernel
theorem d_X12_dry_13 : decode cX12_dry 13 = .ok (.iconst (-1), 1) := by decide +kernel
theorem d_X12_dry_14 : decode cX12_dry 14 = .ok (.ireturn, 1) := by decide +kernel
theorem d_X12_dry_15 : decode cX12_dry 15 = .ok (.aload_n 0, 1) := by decide +kernel
theorem d_X12_dry_16 : decode cX12_dry 16 = .ok (.iconst 1, 1) := by decide +kernel
theorem d_X12_dry_17 : decode cX12_dry 17 = .ok (.invokevirtual 578, 3) := by decide +kernel
theorem d_X12_dry_20 : decode cX12_dry 20 = .ok (.iconst (-1), 1) := by decide +kernel
theorem d_X12_dry_21 : decode cX12_dry 21 = .ok (.istore_n 2, 1) := by decide +kernel
theorem d_X12_dry_22 : decode cX12_dry 22 = .ok (.iconst 0, 1) := by decide +kernel
theorem d_X12_dry_23 : decode cX12_dry 23 = .ok (.istore_n 3, 1) := by decide +kernel
theorem d_X12_dry_24 : decode cX12_dry 24 = .ok (.iload_n 3, 1) := by decide +kernel
theorem d_X12_dry_25 : decode cX12_dry 25 = .ok (.aload_n 0, 1) := by decide +kernel
theorem d_X12_dry_26 : decode cX12_dry 26 = .ok (.getfield 331, 3) := by decide +kernel
theorem d_X12_dry_29 : decode cX12_dry 29 = .ok (.if_icmp .ge 54, 3) := by decide +kernel
theorem d_X12_dry_32 : decode cX12_dry 32 = .ok (.aload_n 0, 1) := by decide +kernel
theorem d_X12_dry_33 : decode cX12_dry 33 = .ok (.iload_n 3, 1) := by decide +kernel
theorem d_X12_dry_34 : decode cX12_dry 34 = .ok (.invokevirtual 389, 3) := by decide +kernel
theorem d_X12_dry_37 : decode cX12_dry 37 = .ok (.ifCond .eq 17, 3) := by decide +kernel
theorem d_X12_dry_40 : decode cX12_dry 40 = .ok (.aload_n 0, 1) := by decide +kernel
theorem d_X12_dry_41 : decode cX12_dry 41 = .ok (.getfield 118, 3) := by decide +kernel
theorem d_X12_dry_44 : decode cX12_dry 44 = .ok (.bipush 8, 2) := by decide +kernel
theorem d_X12_dry_46 : decode cX12_dry 46 = .ok (.iload_n 1, 1) := by decide +kernel
theorem d_X12_dry_47 : decode cX12_dry 47 = .ok (.imul, 1) := by decide +kernel
theorem d_X12_dry_48 : decode cX12_dry 48 = .ok (.iload_n 3, 1) := by decide +kernel
theorem d_X12_dry_49 : decode cX12_dry 49 = .ok (.iadd, 1) := by decide +kernel
theorem d_X12_dry_50 : decode cX12_dry 50 = .ok (.iaload, 1) := by decide +kernel
theorem d_X12_dry_51 : decode cX12_dry 51 = .ok (.goto 4, 3) := by decide +kernel
theorem d_X12_dry_54 : decode cX12_dry 54 = .ok (.iconst (-1), 1) := by decide +kernel
theorem d_X12_dry_55 : decode cX12_dry 55 = .ok (.istore 4, 2) := by decide +kernel
theorem d_X12_dry_57 : decode cX12_dry 57 = .ok (.iload 4, 2) := by decide +kernel
theorem d_X12_dry_59 : decode cX12_dry 59 = .ok (.iconst (-1), 1) := by decide +kernel
theorem d_X12_dry_60 : decode cX12_dry 60 = .ok (.if_icmp .eq 17, 3) := by decide +kernel
theorem d_X12_dry_63 : decode cX12_dry 63 = .ok (.iload_n 2, 1) := by decide +kernel
theorem d_X12_dry_64 : decode cX12_dry 64 = .ok (.iconst (-1), 1) := by decide +kernel
theorem d_X12_dry_65 : decode cX12_dry 65 = .ok (.if_icmp .eq 9, 3) := by decide +kernel
theorem d_X12_dry_68 : decode cX12_dry 68 = .ok (.iload 4, 2) := by decide +kernel
theorem d_X12_dry_70 : decode cX12_dry 70 = .ok (.iload_n 2, 1) := by decide +kernel
theorem d_X12_dry_71 : decode cX12_dry 71 = .ok (.if_icmp .ge 6, 3) := by decide +kernel
theorem d_X12_dry_74 : decode cX12_dry 74 = .ok (.iload 4, 2) := by decide +kernel
theorem d_X12_dry_76 : decode cX12_dry 76 = .ok (.istore_n 2, 1) := by decide +kernel
theorem d_X12_dry_77 : decode cX12_dry 77 = .ok (.iinc 3 1, 3) := by decide +kernel
theorem d_X12_dry_80 : decode cX12_dry 80 = .ok (.goto (-56), 3) := by decide +kernel
theorem d_X12_dry_83 : decode cX12_dry 83 = .ok (.iload_n 2, 1) := by decide +kernel
theorem d_X12_dry_84 : decode cX12_dry 84 = .ok (.ireturn, 1) := by decide +kernel
def f_X12_dry (this : Nat) (a1 : Int32) : sa_M Int32 :=
sa_gd 12 this (
sa_bnd (sa_wrI 12 this 0 0) fun _ =>
sa_bnd (f_X12_isPlace this a1) fun v1 =>
if ¬ v1 = 0 then
sa_bnd (f_X12_layApart this 1) fun _ =>
sa_let ((-1) : Int32) fun x2 =>
sa_let (0 : Int32) fun x3 =>
sa_wh2 (fun j24 (x4 : Int32) (x5 : Int32) =>
sa_bnd (sa_rdI 12 this 25) fun v6 =>
if v6 ≤ x5 then
sa_ret (x4 : Int32)
else
sa_bnd (f_X12_isRoofed this x5) fun v7 =>
sa_jn1 (fun (y8 : Int32) =>
sa_jn1 (fun (x9 : Int32) =>
sa_let ((x5 + 1) : Int32) fun x10 =>
j24 x9 x10) fun j77 =>
if y8 = (-1) then
j77 x4
else
sa_jn0 (j77 y8) fun j74 =>
if x4 = (-1) then
j74
else
if x4 ≤ y8 then
j77 x4
else
j74) fun j55 =>
if v7 = 0 then
j55 (-1)
else
sa_bnd (sa_rdR 12 this 70) fun v11 =>
sa_bnd (sa_ldI .int v11 ((8 * a1) + x5)) fun v12 =>
j55 v12) sa_F x2 x3
else
sa_ret ((-1) : Int32))
set_option maxHeartbeats 1000000 in
set_option maxRecDepth 10000 in
theorem b_X12_dry {p : Program} {l : Launch} {e : Env} {s : State} {m : MethodId} {args : Array Value} {below : List Frame} {meth : Method} {c : Code} {D : va_G} {ad : Nat → Nat} {cA : FieldType → ClassId} {A : Nat → Prop} (this : Nat) (a1 : Int32) (C : sa_C p s m args meth c cX12_dry RX12 "dry" 5 (some .int) D ad cA A) : sa_Sg p l e s m args below meth c 5 3 D ad cA A sa_eI 0 [(0, .ref (ad this)), (1, .int a1)] [] (f_X12_dry this a1) := by
  unfold f_X12_dry
  refine sa_gdI ?_
  refine sa_aload_n C d_X12_dry_0 rfl 0 rfl ?_
  refine sa_iconst (v := 0) C d_X12_dry_1 (by decide) ?_
  refine sa_putI C fd_X12_127 d_X12_dry_2 ?_
  refine sa_aload_n C d_X12_dry_5 rfl 0 rfl ?_
  refine sa_iload_n C d_X12_dry_6 rfl 1 rfl ?_
  refine sa_invV (ci := 12) C (k_X12_isPlace this a1) q1785 ds_X12_isPlace q128 rfl q1784 q70 q1782 (gd_X12_isPlace this a1) rfl rfl rfl (Nat.le_of_ble_eq_true rfl) (by decide) (by decide) d_X12_dry_7 (fun v1 => ?_)
  refine sa_if_ne (tgt := 15) C d_X12_dry_10 (by decide) ?_ ?_
  · refine sa_aload_n C d_X12_dry_15 rfl 0 rfl ?_
    refine sa_iconst (v := 1) C d_X12_dry_16 (by decide) ?_
    refine sa_invV (ci := 12) C (k_X12_layApart this 1) q2076 ds_X12_layApart q128 rfl q2075 q108 q2073 (gd_X12_layApart this 1) rfl rfl rfl (Nat.le_of_ble_eq_true rfl) (by decide) (by decide) d_X12_dry_17 (fun _ => ?_)
    refine sa_iconst (v := (-1)) C d_X12_dry_20 (by decide) ?_
    refine sa_topi (fun x2 => ?_)
    refine sa_istore_n (lv' := [(2, .int x2), (0, .ref (ad this)), (1, .int a1)]) C d_X12_dry_21 rfl (by decide) rfl ?_
    refine sa_iconst (v := 0) C d_X12_dry_22 (by decide) ?_
    refine sa_topi (fun x3 => ?_)
    refine sa_istore_n (lv' := [(3, .int x3), (2, .int x2), (0, .ref (ad this)), (1, .int a1)]) C d_X12_dry_23 rfl (by decide) rfl ?_
    refine sa_sub [2, 3, 1, 0] rfl (sa_loop2 (fun x4 x5 => [(0, .ref (ad this)), (1, .int a1), (2, .int x4), (3, .int x5)]) (fun x4 x5 => []) (fun j24 hj24 x4 x5 => ?_) _ _ _)
    refine sa_iload_n C d_X12_dry_24 rfl 3 rfl ?_
    refine sa_aload_n C d_X12_dry_25 rfl 0 rfl ?_
    refine sa_getI C fd_X12_331 d_X12_dry_26 (fun v6 => ?_)
    refine sa_icmp_ge (tgt := 83) C d_X12_dry_29 (by decide) ?_ ?_
    · refine sa_iload_n C d_X12_dry_83 rfl 2 rfl ?_
      exact sa_iret C d_X12_dry_84
    refine sa_aload_n C d_X12_dry_32 rfl 0 rfl ?_
    refine sa_iload_n C d_X12_dry_33 rfl 3 rfl ?_
    refine sa_invV (ci := 12) C (k_X12_isRoofed this x5) q1895 ds_X12_isRoofed q128 rfl q1894 q84 q1892 (gd_X12_isRoofed this x5) rfl rfl rfl (Nat.le_of_ble_eq_true rfl) (by decide) (by decide) d_X12_dry_34 (fun v7 => ?_)
    refine sa_join1 55 (fun y8 => [(0, .ref (ad this)), (1, .int a1), (2, .int x4), (3, .int x5)]) (fun y8 => [.int y8]) (fun y8 => ?_) (fun j55 hj55 => ?_)
    · refine sa_istore (lv' := [(4, .int y8), (0, .ref (ad this)), (1, .int a1), (2, .int x4), (3, .int x5)]) C d_X12_dry_55 (by decide) rfl ?_
      refine sa_iload C d_X12_dry_57 0 rfl ?_
      refine sa_iconst (v := (-1)) C d_X12_dry_59 (by decide) ?_
      refine sa_join1 77 (fun x9 => [(0, .ref (ad this)), (1, .int a1), (2, .int x9), (3, .int x5)]) (fun x9 => []) (fun x9 => ?_) (fun j77 hj77 => ?_)
      · refine sa_iinc C (fun zz => [(3, .int zz), (0, .ref (ad this)), (1, .int a1), (2, .int x9)]) d_X12_dry_77 3 rfl rfl (by decide) (fun _ => rfl) (fun x10 => ?_)
        refine sa_goto (tgt := 24) C d_X12_dry_80 (by decide) ?_
        exact sa_sub [1, 2, 3, 0] rfl (hj24 _ _)
      refine sa_icmp_eq (tgt := 77) C d_X12_dry_60 (by decide) ?_ ?_
      · exact sa_sub [1, 2, 3, 4] rfl (hj77 _)
      refine sa_iload_n C d_X12_dry_63 rfl 3 rfl ?_
      refine sa_iconst (v := (-1)) C d_X12_dry_64 (by decide) ?_
      refine sa_join0 74 ([(0, .ref (ad this)), (1, .int a1), (3, .int x5), (4, .int y8)]) ([]) (?_) (fun j74 hj74 => ?_)
      · refine sa_iload C d_X12_dry_74 3 rfl ?_
        refine sa_istore_n (lv' := [(2, .int y8), (0, .ref (ad this)), (1, .int a1), (3, .int x5), (4, .int y8)]) C d_X12_dry_76 rfl (by decide) rfl ?_
        exact sa_sub [1, 2, 0, 3] rfl (hj77 _)
      refine sa_icmp_eq (tgt := 74) C d_X12_dry_65 (by decide) ?_ ?_
      · exact sa_sub [1, 2, 4, 0] rfl (hj74)
      refine sa_iload C d_X12_dry_68 0 rfl ?_
      refine sa_iload_n C d_X12_dry_70 rfl 3 rfl ?_
      refine sa_icmp_ge (tgt := 77) C d_X12_dry_71 (by decide) ?_ ?_
      · exact sa_sub [1, 2, 3, 4] rfl (hj77 _)
      exact sa_sub [1, 2, 4, 0] rfl (hj74)
    refine sa_if_eq (tgt := 54) C d_X12_dry_37 (by decide) ?_ ?_
    · refine sa_iconst (v := (-1)) C d_X12_dry_54 (by decide) ?_
      exact sa_sub [0, 1, 2, 3] rfl (hj55 _)
    refine sa_aload_n C d_X12_dry_40 rfl 0 rfl ?_
    refine sa_getR C fd_X12_118 rfl d_X12_dry_41 (fun v11 => ?_)
    refine sa_bipush (v := 8) C d_X12_dry_44 (by decide) ?_
    refine sa_iload_n C d_X12_dry_46 rfl 1 rfl ?_
    refine sa_imul C d_X12_dry_47 ?_
    refine sa_iload_n C d_X12_dry_48 rfl 3 rfl ?_
    refine sa_iadd C d_X12_dry_49 ?_
    refine sa_iald C d_X12_dry_50 (fun v12 => ?_)
    refine sa_goto (tgt := 55) C d_X12_dry_51 (by decide) ?_
    exact sa_sub [0, 1, 2, 3] rfl (hj55 _)
  refine sa_iconst (v := (-1)) C d_X12_dry_13 (by decide) ?_
  exact sa_iret C d_X12_dry_14
theorem k_X12_dry (this : Nat) (a1 : Int32) : sa_Met 3 yX12_dry cX12_dry 5 (some .int) (fun ad => [.ref (ad this), .int a1]) sa_eI (f_X12_dry this a1) := sa_mk (by decide) (fun ad => Nat.le_of_ble_eq_true rfl) (fun p l e s m args below meth c D ad cA A C => b_X12_dry this a1 C)
theorem gd_X12_dry (this : Nat) (a1 : Int32) (σ : sa_St) (r : Int32) (τ : sa_St) (h : f_X12_dry this a1 σ = some (r, τ)) : sa_sh this = some (.inl 12) := sa_gd_ok h
theorem d_X12_image_0 : decode cX12_image 0 = .ok (.aload_n 0, 1) := by decide +kernel
theorem d_X12_image_1 : decode cX12_image 1 = .ok (.iconst 0, 1) := by decide +kernel
theorem d_X12_image_2 : decode cX12_image 2 = .ok (.putfield 127, 3) := by decide +kernel
theorem d_X12_image_5 : decode cX12_image 5 = .ok (.aload_n 0, 1) := by decide +kernel
theorem d_X12_image_6 : decode cX12_image 6 = .ok (.getfield 331, 3) := by decide +kernel
theorem d_X12_image_9 : decode cX12_image 9 = .ok (.ifCond .ne 5, 3) := by decide +kernel
theorem d_X12_image_12 : decode cX12_image 12 = .ok (.iconst (-1), 1) := by decide +kernel
theorem d_X12_image_13 : decode cX12_image 13 = .ok (.ireturn, 1) := by decide +kernel
theorem d_X12_image_14 : decode cX12_image 14 = .ok (.aload_n 0, 1) := by decide +kernel
theorem d_X12_image_15 : decode cX12_image 15 = .ok (.getfield 64, 3) := by decide +kernel
theorem d_X12_image_18 : decode cX12_image 18 = .ok (.aload_n 0, 1) := by decide +kernel
theorem d_X12_image_19 : decode cX12_image 19 = .ok (.getfield 124, 3) := by decide +kernel
theorem d_X12_image_22 : decode cX12_image 22 = .ok (.invokestatic 455, 3) := by decide +kernel
theorem d_X12_image_25 : decode cX12_image 25 = .ok (.aload_n 0, 1) := by decide +kernel
theorem d_X12_image_26 : decode cX12_image 26 = .ok (.iconst 1, 1) := by decide +kernel
theorem d_X12_image_27 : decode cX12_image 27 = .ok (.putfield 349, 3) := by decide +kernel
theorem d_X12_image_30 : decode cX12_image 30 = .ok (.aload_n 0, 1) := by decide +kernel
theorem d_X12_image_31 : decode cX12_image 31 = .ok (.getfield 64, 3) := by decide +kernel
theorem d_X12_image_34 : decode cX12_image 34 = .ok (.bipush 76, 2) := by decide +kernel
theorem d_X12_image_36 : decode cX12_image 36 = .ok (.iaload, 1) := by decide +kernel
theorem d_X12_image_37 : decode cX12_image 37 = .ok (.ireturn, 1) := by decide +kernel
def f_X12_image (this : Nat) : sa_M Int32 :=
sa_gd 12 this (
sa_bnd (sa_wrI 12 this 0 0) fun _ =>
sa_bnd (sa_rdI 12 this 25) fun v1 =>
if ¬ v1 = 0 then
sa_bnd (sa_rdR 12 this 35) fun v2 =>
sa_bnd (sa_rdR 12 this 72) fun v3 =>
sa_bnd (f_X12_copy v2 v3) fun _ =>
sa_bnd (sa_wrZ 12 this 73 1) fun _ =>
sa_bnd (sa_rdR 12 this 35) fun v4 =>
sa_bnd (sa_ldI .int v4 76) fun v5 =>
sa_ret (v5 : Int32)
else
sa_ret ((-1) : Int32))
set_option maxHeartbeats 1000000 in
set_option maxRecDepth 10000 in
theorem b_X12_image {p : Program} {l : Launch} {e : Env} {s : State} {m : MethodId} {args : Array Value} {below : List Frame} {meth : Method} {c : Code} {D : va_G} {ad : Nat → Nat} {cA : FieldType → ClassId} {A : Nat → Prop} (this : Nat) (C : sa_C p s m args meth c cX12_image RX12 "image" 1 (some .int) D ad cA A) : sa_Sg p l e s m args below meth c 1 2 D ad cA A sa_eI 0 [(0, .ref (ad this))] [] (f_X12_image this) := by
  unfold f_X12_image
  refine sa_gdI ?_
  refine sa_aload_n C d_X12_image_0 rfl 0 rfl ?_
  refine sa_iconst (v := 0) C d_X12_image_1 (by decide) ?_
  refine sa_putI C fd_X12_127 d_X12_image_2 ?_
  refine sa_aload_n C d_X12_image_5 rfl 0 rfl ?_
  refine sa_getI C fd_X12_331 d_X12_image_6 (fun v1 => ?_)
  refine sa_if_ne (tgt := 14) C d_X12_image_9 (by decide) ?_ ?_
  · refine sa_aload_n C d_X12_image_14 rfl 0 rfl ?_
    refine sa_getR C fd_X12_64 rfl d_X12_image_15 (fun v2 => ?_)
    refine sa_aload_n C d_X12_image_18 rfl 0 rfl ?_
    refine sa_getR C fd_X12_124 rfl d_X12_image_19 (fun v3 => ?_)
    refine sa_invS C (k_X12_copy v2 v3) q1938 ds_X12_copy q128 q1937 q1936 rfl rfl rfl (Nat.le_of_ble_eq_true rfl) (by decide) (by decide) d_X12_image_22 (fun _ => ?_)
    refine sa_aload_n C d_X12_image_25 rfl 0 rfl ?_
    refine sa_iconst (v := 1) C d_X12_image_26 (by decide) ?_
    refine sa_putZ C fd_X12_349 d_X12_image_27 ?_
    refine sa_aload_n C d_X12_image_30 rfl 0 rfl ?_
    refine sa_getR C fd_X12_64 rfl d_X12_image_31 (fun v4 => ?_)
    refine sa_bipush (v := 76) C d_X12_image_34 (by decide) ?_
    refine sa_iald C d_X12_image_36 (fun v5 => ?_)
    exact sa_iret C d_X12_image_37
  refine sa_iconst (v := (-1)) C d_X12_image_12 (by decide) ?_
  exact sa_iret C d_X12_image_13
theorem k_X12_image (this : Nat) : sa_Met 2 yX12_image cX12_image 1 (some .int) (fun ad => [.ref (ad this)]) sa_eI (f_X12_image this) := sa_mk (by decide) (fun ad => Nat.le_of_ble_eq_true rfl) (fun p l e s m args below meth c D ad cA A C => b_X12_image this C)
theorem gd_X12_image (this : Nat) (σ : sa_St) (r : Int32) (τ : sa_St) (h : f_X12_image this σ = some (r, τ)) : sa_sh this = some (.inl 12) := sa_gd_ok h
theorem d_X12_back_0 : decode cX12_back 0 = .ok (.aload_n 0, 1) := by decide +kernel
theorem d_X12_back_1 : decode cX12_back 1 = .ok (.iconst 0, 1) := by decide +kernel
theorem d_X12_back_2 : decode cX12_back 2 = .ok (.putfield 127, 3) := by decide +kernel
theorem d_X12_back_5 : decode cX12_back 5 = .ok (.aload_n 0, 1) := by decide +kernel
theorem d_X12_back_6 : decode cX12_back 6 = .ok (.getfield 349, 3) := by decide +kernel
theorem d_X12_back_9 : decode cX12_back 9 = .ok (.ifCond .ne 5, 3) := by decide +kernel
theorem d_X12_back_12 : decode cX12_back 12 = .ok (.iconst (-1), 1) := by decide +kernel
theorem d_X12_back_13 : decode cX12_back 13 = .ok (.ireturn, 1) := by decide +kernel
theorem d_X12_back_14 : decode cX12_back 14 = .ok (.aload_n 0, 1) := by decide +kernel
theorem d_X12_back_15 : decode cX12_back 15 = .ok (.getfield 124, 3) := by decide +kernel
theorem d_X12_back_18 : decode cX12_back 18 = .ok (.aload_n 0, 1) := by decide +kernel
theorem d_X12_back_19 : decode cX12_back 19 = .ok (.getfield 64, 3) := by decide +kernel
theorem d_X12_back_22 : decode cX12_back 22 = .ok (.invokestatic 455, 3) := by decide +kernel
theorem d_X12_back_25 : decode cX12_back 25 = .ok (.aload_n 0, 1) := by decide +kernel
theorem d_X12_back_26 : decode cX12_back 26 = .ok (.iconst 0, 1) := by decide +kernel
theorem d_X12_back_27 : decode cX12_back 27 = .ok (.putfield 346, 3) := by decide +kernel
theorem d_X12_back_30 : decode cX12_back 30 = .ok (.aload_n 0, 1) := by decide +kernel
theorem d_X12_back_31 : decode cX12_back 31 = .ok (.getfield 64, 3) := by decide +kernel
theorem d_X12_back_34 : decode cX12_back 34 = .ok (.bipush 76, 2) := by decide +kernel
theorem d_X12_back_36 : decode cX12_back 36 = .ok (.iaload, 1) := by decide +kernel
theorem d_X12_back_37 : decode cX12_back 37 = .ok (.ireturn, 1) := by decide +kernel
def f_X12_back (this : Nat) : sa_M Int32 :=
sa_gd 12 this (
sa_bnd (sa_wrI 12 this 0 0) fun _ =>
sa_bnd (sa_rdI 12 this 73) fun v1 =>
if ¬ v1 = 0 then
sa_bnd (sa_rdR 12 this 72) fun v2 =>
sa_bnd (sa_rdR 12 this 35) fun v3 =>
sa_bnd (f_X12_copy v2 v3) fun _ =>
sa_bnd (sa_wrI 12 this 43 0) fun _ =>
sa_bnd (sa_rdR 12 this 35) fun v4 =>
sa_bnd (sa_ldI .int v4 76) fun v5 =>
sa_ret (v5 : Int32)
else
sa_ret ((-1) : Int32))
set_option maxHeartbeats 1000000 in
set_option maxRecDepth 10000 in
theorem b_X12_back {p : Program} {l : Launch} {e : Env} {s : State} {m : MethodId} {args : Array Value} {below : List Frame} {meth : Method} {c : Code} {D : va_G} {ad : Nat → Nat} {cA : FieldType → ClassId} {A : Nat → Prop} (this : Nat) (C : sa_C p s m args meth c cX12_back RX12 "back" 1 (some .int) D ad cA A) : sa_Sg p l e s m args below meth c 1 2 D ad cA A sa_eI 0 [(0, .ref (ad this))] [] (f_X12_back this) := by
  unfold f_X12_back
  refine sa_gdI ?_
  refine sa_aload_n C d_X12_back_0 rfl 0 rfl ?_
  refine sa_iconst (v := 0) C d_X12_back_1 (by decide) ?_
  refine sa_putI C fd_X12_127 d_X12_back_2 ?_
  refine sa_aload_n C d_X12_back_5 rfl 0 rfl ?_
  refine sa_getZ C fd_X12_349 d_X12_back_6 (fun v1 => ?_)
  refine sa_if_ne (tgt := 14) C d_X12_back_9 (by decide) ?_ ?_
  · refine sa_aload_n C d_X12_back_14 rfl 0 rfl ?_
    refine sa_getR C fd_X12_124 rfl d_X12_back_15 (fun v2 => ?_)
    refine sa_aload_n C d_X12_back_18 rfl 0 rfl ?_
    refine sa_getR C fd_X12_64 rfl d_X12_back_19 (fun v3 => ?_)
    refine sa_invS C (k_X12_copy v2 v3) q1938 ds_X12_copy q128 q1937 q1936 rfl rfl rfl (Nat.le_of_ble_eq_true rfl) (by decide) (by decide) d_X12_back_22 (fun _ => ?_)
    refine sa_aload_n C d_X12_back_25 rfl 0 rfl ?_
    refine sa_iconst (v := 0) C d_X12_back_26 (by decide) ?_
    refine sa_putI C fd_X12_346 d_X12_back_27 ?_
    refine sa_aload_n C d_X12_back_30 rfl 0 rfl ?_
    refine sa_getR C fd_X12_64 rfl d_X12_back_31 (fun v4 => ?_)
    refine sa_bipush (v := 76) C d_X12_back_34 (by decide) ?_
    refine sa_iald C d_X12_back_36 (fun v5 => ?_)
    exact sa_iret C d_X12_back_37
  refine sa_iconst (v := (-1)) C d_X12_back_12 (by decide) ?_
  exact sa_iret C d_X12_back_13
theorem k_X12_back (this : Nat) : sa_Met 2 yX12_back cX12_back 1 (some .int) (fun ad => [.ref (ad this)]) sa_eI (f_X12_back this) := sa_mk (by decide) (fun ad => Nat.le_of_ble_eq_true rfl) (fun p l e s m args below meth c D ad cA A C => b_X12_back this C)
theorem gd_X12_back (this : Nat) (σ : sa_St) (r : Int32) (τ : sa_St) (h : f_X12_back this σ = some (r, τ)) : sa_sh this = some (.inl 12) := sa_gd_ok h
theorem d_X12_allGrains_0 : decode cX12_allGrains 0 = .ok (.aload_n 0, 1) := by decide +kernel
theorem d_X12_allGrains_1 : decode cX12_allGrains 1 = .ok (.getfield 64, 3) := by decide +kernel
theorem d_X12_allGrains_4 : decode cX12_allGrains 4 = .ok (.invokestatic 465, 3) := by decide +kernel
theorem d_X12_allGrains_7 : decode cX12_allGrains 7 = .ok (.aload_n 0, 1) := by decide +kernel
theorem d_X12_allGrains_8 : decode cX12_allGrains 8 = .ok (.getfield 64, 3) := by decide +kernel
theorem d_X12_allGrains_11 : decode cX12_allGrains 11 = .ok (.bipush 77, 2) := by decide +kernel
theorem d_X12_allGrains_13 : decode cX12_allGrains 13 = .ok (.iaload, 1) := by decide +kernel
theorem d_X12_allGrains_14 : decode cX12_allGrains 14 = .ok (.iadd, 1) := by decide +kernel
theorem d_X12_allGrains_15 : decode cX12_allGrains 15 = .ok (.istore_n 1, 1) := by decide +kernel
theorem d_X12_allGrains_16 : decode cX12_allGrains 16 = .ok (.iconst 0, 1) := by decide +kernel
theorem d_X12_allGrains_17 : decode cX12_allGrains 17 = .ok (.istore_n 2, 1) := by decide +kernel
theorem d_X12_allGrains_18 : decode cX12_allGrains 18 = .ok (.iload_n 2, 1) := by decide +kernel
theorem d_X12_allGrains_19 : decode cX12_allGrains 19 = .ok (.aload_n 0, 1) := by decide +kernel
theorem d_X12_allGrains_20 : decode cX12_allGrains 20 = .ok (.getfield 331, 3) := by decide +kernel
theorem d_X12_allGrains_23 : decode cX12_allGrains 23 = .ok (.if_icmp .ge 23, 3) := by decide +kernel
theorem d_X12_allGrains_26 : decode cX12_allGrains 26 = .ok (.iload_n 1, 1) := by decide +kernel
theorem d_X12_allGrains_27 : decode cX12_allGrains 27 = .ok (.aload_n 0, 1) := by decide +kernel
theorem d_X12_allGrains_28 : decode cX12_allGrains 28 = .ok (.getfield 64, 3) := by decide +kernel
theorem d_X12_allGrains_31 : decode cX12_allGrains 31 = .ok (.bipush 56, 2) := by decide +kernel
theorem d_X12_allGrains_33 : decode cX12_allGrains 33 = .ok (.iconst 2, 1) := by decide +kernel
theorem d_X12_allGrains_34 : decode cX12_allGrains 34 = .ok (.iload_n 2, 1) := by decide +kernel
theorem d_X12_allGrains_35 : decode cX12_allGrains 35 = .ok (.imul, 1) := by decide +kernel
theorem d_X12_allGrains_36 : decode cX12_allGrains 36 = .ok (.iadd, 1) := by decide +kernel
theorem d_X12_allGrains_37 : decode cX12_allGrains 37 = .ok (.iaload, 1) := by decide +kernel
theorem d_X12_allGrains_38 : decode cX12_allGrains 38 = .ok (.iadd, 1) := by decide +kernel
theorem d_X12_allGrains_39 : decode cX12_allGrains 39 = .ok (.istore_n 1, 1) := by decide +kernel
theorem d_X12_allGrains_40 : decode cX12_allGrains 40 = .ok (.iinc 2 1, 3) := by decide +kernel
theorem d_X12_allGrains_43 : decode cX12_allGrains 43 = .ok (.goto (-25), 3) := by decide +kernel
theorem d_X12_allGrains_46 : decode cX12_allGrains 46 = .ok (.iload_n 1, 1) := by decide +kernel
theorem d_X12_allGrains_47 : decode cX12_allGrains 47 = .ok (.ireturn, 1) := by decide +kernel
def f_X12_allGrains (this : Nat) : sa_M Int32 :=
sa_gd 12 this (
sa_bnd (sa_rdR 12 this 35) fun v1 =>
sa_bnd (f_X12_grainsOf v1) fun v2 =>
sa_bnd (sa_rdR 12 this 35) fun v3 =>
sa_bnd (sa_ldI .int v3 77) fun v4 =>
sa_let ((v2 + v4) : Int32) fun x5 =>
sa_let (0 : Int32) fun x6 =>
sa_wh2 (fun j18 (x7 : Int32) (x8 : Int32) =>
sa_bnd (sa_rdI 12 this 25) fun v9 =>
if v9 ≤ x8 then
sa_ret (x7 : Int32)
else
sa_bnd (sa_rdR 12 this 35) fun v10 =>
sa_bnd (sa_ldI .int v10 (56 + (2 * x8))) fun v11 =>
sa_let ((x7 + v11) : Int32) fun x12 =>
sa_let ((x8 + 1) : Int32) fun x13 =>
j18 x12 x13) sa_F x5 x6)
set_option maxHeartbeats 1000000 in
set_option maxRecDepth 10000 in
theorem b_X12_allGrains {p : Program} {l : Launch} {e : Env} {s : State} {m : MethodId} {args : Array Value} {below : List Frame} {meth : Method} {c : Code} {D : va_G} {ad : Nat → Nat} {cA : FieldType → ClassId} {A : Nat → Prop} (this : Nat) (C : sa_C p s m args meth c cX12_allGrains RX12 "allGrains" 3 (some .int) D ad cA A) : sa_Sg p l e s m args below meth c 3 2 D ad cA A sa_eI 0 [(0, .ref (ad this))] [] (f_X12_allGrains this) := by
  unfold f_X12_allGrains
  refine sa_gdI ?_
  refine sa_aload_n C d_X12_allGrains_0 rfl 0 rfl ?_
  refine sa_getR C fd_X12_64 rfl d_X12_allGrains_1 (fun v1 => ?_)
  refine sa_invS C (k_X12_grainsOf v1) q1949 ds_X12_grainsOf q128 q1948 q1947 rfl rfl rfl (Nat.le_of_ble_eq_true rfl) (by decide) (by decide) d_X12_allGrains_4 (fun v2 => ?_)
  refine sa_aload_n C d_X12_allGrains_7 rfl 0 rfl ?_
  refine sa_getR C fd_X12_64 rfl d_X12_allGrains_8 (fun v3 => ?_)
  refine sa_bipush (v := 77) C d_X12_allGrains_11 (by decide) ?_
  refine sa_iald C d_X12_allGrains_13 (fun v4 => ?_)
  refine sa_iadd C d_X12_allGrains_14 ?_
  refine sa_topi (fun x5 => ?_)
  refine sa_istore_n (lv' := [(1, .int x5), (0, .ref (ad this))]) C d_X12_allGrains_15 rfl (by decide) rfl ?_
  refine sa_iconst (v := 0) C d_X12_allGrains_16 (by decide) ?_
  refine sa_topi (fun x6 => ?_)
  refine sa_istore_n (lv' := [(2, .int x6), (1, .int x5), (0, .ref (ad this))]) C d_X12_allGrains_17 rfl (by decide) rfl ?_
  refine sa_sub [2, 1, 0] rfl (sa_loop2 (fun x7 x8 => [(0, .ref (ad this)), (1, .int x7), (2, .int x8)]) (fun x7 x8 => []) (fun j18 hj18 x7 x8 => ?_) _ _ _)
  refine sa_iload_n C d_X12_allGrains_18 rfl 2 rfl ?_
  refine sa_aload_n C d_X12_allGrains_19 rfl 0 rfl ?_
  refine sa_getI C fd_X12_331 d_X12_allGrains_20 (fun v9 => ?_)
  refine sa_icmp_ge (tgt := 46) C d_X12_allGrains_23 (by decide) ?_ ?_
  · refine sa_iload_n C d_X12_allGrains_46 rfl 1 rfl ?_
    exact sa_iret C d_X12_allGrains_47
  refine sa_iload_n C d_X12_allGrains_26 rfl 1 rfl ?_
  refine sa_aload_n C d_X12_allGrains_27 rfl 0 rfl ?_
  refine sa_getR C fd_X12_64 rfl d_X12_allGrains_28 (fun v10 => ?_)
  refine sa_bipush (v := 56) C d_X12_allGrains_31 (by decide) ?_
  refine sa_iconst (v := 2) C d_X12_allGrains_33 (by decide) ?_
  refine sa_iload_n C d_X12_allGrains_34 rfl 2 rfl ?_
  refine sa_imul C d_X12_allGrains_35 ?_
  refine sa_iadd C d_X12_allGrains_36 ?_
  refine sa_iald C d_X12_allGrains_37 (fun v11 => ?_)
  refine sa_iadd C d_X12_allGrains_38 ?_
  refine sa_topi (fun x12 => ?_)
  refine sa_istore_n (lv' := [(1, .int x12), (0, .ref (ad this)), (2, .int x8)]) C d_X12_allGrains_39 rfl (by decide) rfl ?_
  refine sa_iinc C (fun zz => [(2, .int zz), (1, .int x12), (0, .ref (ad this))]) d_X12_allGrains_40 2 rfl rfl (by decide) (fun _ => rfl) (fun x13 => ?_)
  refine sa_goto (tgt := 18) C d_X12_allGrains_43 (by decide) ?_
  exact sa_sub [2, 1, 0] rfl (hj18 _ _)
theorem k_X12_allGrains (this : Nat) : sa_Met 2 yX12_allGrains cX12_allGrains 3 (some .int) (fun ad => [.ref (ad this)]) sa_eI (f_X12_allGrains this) := sa_mk (by decide) (fun ad => Nat.le_of_ble_eq_true rfl) (fun p l e s m args below meth c D ad cA A C => b_X12_allGrains this C)
theorem gd_X12_allGrains (this : Nat) (σ : sa_St) (r : Int32) (τ : sa_St) (h : f_X12_allGrains this σ = some (r, τ)) : sa_sh this = some (.inl 12) := sa_gd_ok h
theorem d_X12_living_0 : decode cX12_living 0 = .ok (.iconst 0, 1) := by decide +kernel
theorem d_X12_living_1 : decode cX12_living 1 = .ok (.istore_n 1, 1) := by decide +kernel
theorem d_X12_living_2 : decode cX12_living 2 = .ok (.iconst 0, 1) := by decide +kernel
theorem d_X12_living_3 : decode cX12_living 3 = .ok (.istore_n 2, 1) := by decide +kernel
theorem d_X12_living_4 : decode cX12_living 4 = .ok (.iload_n 2, 1) := by decide +kernel
theorem d_X12_living_5 : decode cX12_living 5 = .ok (.aload_n 0, 1) := by decide +kernel
theorem d_X12_living_6 : decode cX12_living 6 = .ok (.getfield 64, 3) := by decide +kernel
theorem d_X12_living_9 : decode cX12_living 9 = .ok (.bipush 75, 2) := by decide +kernel
theorem d_X12_living_11 : decode cX12_living 11 = .ok (.iaload, 1) := by decide +kernel
theorem d_X12_living_12 : decode cX12_living 12 = .ok (.if_icmp .ge 28, 3) := by decide +kernel
theorem d_X12_living_15 : decode cX12_living 15 = .ok (.iload_n 1, 1) := by decide +kernel
theorem d_X12_living_16 : decode cX12_living 16 = .ok (.aload_n 0, 1) := by decide +kernel
theorem d_X12_living_17 : decode cX12_living 17 = .ok (.getfield 64, 3) := by decide +kernel
theorem d_X12_living_20 : decode cX12_living 20 = .ok (.iload_n 2, 1) := by decide +kernel
theorem d_X12_living_21 : decode cX12_living 21 = .ok (.invokestatic 352, 3) := by decide +kernel
theorem d_X12_living_24 : decode cX12_living 24 = .ok (.ifCond .eq 7, 3) := by decide +kernel
theorem d_X12_living_27 : decode cX12_living 27 = .ok (.iconst 1, 1) := by decide +kernel
theorem d_X12_living_28 : decode cX12_living 28 = .ok (.goto 4, 3) := by decide +kernel
theorem d_X12_living_31 : decode cX12_living 31 = .ok (.iconst 0, 1) := by decide +kernel
theorem d_X12_living_32 : decode cX12_living 32 = .ok (.iadd, 1) := by decide +kernel
theorem d_X12_living_33 : decode cX12_living 33 = .ok (.istore_n 1, 1) := by decide +kernel
theorem d_X12_living_34 : decode cX12_living 34 = .ok (.iinc 2 1, 3) := by decide +kernel
theorem d_X12_living_37 : decode cX12_living 37 = .ok (.goto (-33), 3) := by decide +kernel
theorem d_X12_living_40 : decode cX12_living 40 = .ok (.iload_n 1, 1) := by decide +kernel
theorem d_X12_living_41 : decode cX12_living 41 = .ok (.ireturn, 1) := by decide +kernel
def f_X12_living (this : Nat) : sa_M Int32 :=
sa_gd 12 this (
sa_let (0 : Int32) fun x1 =>
sa_let (0 : Int32) fun x2 =>
sa_wh2 (fun j4 (x3 : Int32) (x4 : Int32) =>
sa_bnd (sa_rdR 12 this 35) fun v5 =>
sa_bnd (sa_ldI .int v5 75) fun v6 =>
if v6 ≤ x4 then
sa_ret (x3 : Int32)
else
sa_bnd (sa_rdR 12 this 35) fun v7 =>
sa_bnd (f_X12_lives v7 x4) fun v8 =>
sa_jn1 (fun (y9 : Int32) =>
sa_let ((x3 + y9) : Int32) fun x10 =>
sa_let ((x4 + 1) : Int32) fun x11 =>
j4 x10 x11) fun j32 =>
if v8 = 0 then
j32 0
else
j32 1) sa_F x1 x2)
set_option maxHeartbeats 1000000 in
set_option maxRecDepth 10000 in
theorem b_X12_living {p : Program} {l : Launch} {e : Env} {s : State} {m : MethodId} {args : Array Value} {below : List Frame} {meth : Method} {c : Code} {D : va_G} {ad : Nat → Nat} {cA : FieldType → ClassId} {A : Nat → Prop} (this : Nat) (C : sa_C p s m args meth c cX12_living RX12 "living" 3 (some .int) D ad cA A) : sa_Sg p l e s m args below meth c 3 2 D ad cA A sa_eI 0 [(0, .ref (ad this))] [] (f_X12_living this) := by
  unfold f_X12_living
  refine sa_gdI ?_
  refine sa_iconst (v := 0) C d_X12_living_0 (by decide) ?_
  refine sa_topi (fun x1 => ?_)
  refine sa_istore_n (lv' := [(1, .int x1), (0, .ref (ad this))]) C d_X12_living_1 rfl (by decide) rfl ?_
  refine sa_iconst (v := 0) C d_X12_living_2 (by decide) ?_
  refine sa_topi (fun x2 => ?_)
  refine sa_istore_n (lv' := [(2, .int x2), (1, .int x1), (0, .ref (ad this))]) C d_X12_living_3 rfl (by decide) rfl ?_
  refine sa_sub [2, 1, 0] rfl (sa_loop2 (fun x3 x4 => [(0, .ref (ad this)), (1, .int x3), (2, .int x4)]) (fun x3 x4 => []) (fun j4 hj4 x3 x4 => ?_) _ _ _)
  refine sa_iload_n C d_X12_living_4 rfl 2 rfl ?_
  refine sa_aload_n C d_X12_living_5 rfl 0 rfl ?_
  refine sa_getR C fd_X12_64 rfl d_X12_living_6 (fun v5 => ?_)
  refine sa_bipush (v := 75) C d_X12_living_9 (by decide) ?_
  refine sa_iald C d_X12_living_11 (fun v6 => ?_)
  refine sa_icmp_ge (tgt := 40) C d_X12_living_12 (by decide) ?_ ?_
  · refine sa_iload_n C d_X12_living_40 rfl 1 rfl ?_
    exact sa_iret C d_X12_living_41
  refine sa_iload_n C d_X12_living_15 rfl 1 rfl ?_
  refine sa_aload_n C d_X12_living_16 rfl 0 rfl ?_
  refine sa_getR C fd_X12_64 rfl d_X12_living_17 (fun v7 => ?_)
  refine sa_iload_n C d_X12_living_20 rfl 2 rfl ?_
  refine sa_invS C (k_X12_lives v7 x4) q1810 ds_X12_lives q128 q1809 q1808 rfl rfl rfl (Nat.le_of_ble_eq_true rfl) (by decide) (by decide) d_X12_living_21 (fun v8 => ?_)
  refine sa_join1 32 (fun y9 => [(0, .ref (ad this)), (2, .int x4)]) (fun y9 => [.int y9, .int x3]) (fun y9 => ?_) (fun j32 hj32 => ?_)
  · refine sa_iadd C d_X12_living_32 ?_
    refine sa_topi (fun x10 => ?_)
    refine sa_istore_n (lv' := [(1, .int x10), (0, .ref (ad this)), (2, .int x4)]) C d_X12_living_33 rfl (by decide) rfl ?_
    refine sa_iinc C (fun zz => [(2, .int zz), (1, .int x10), (0, .ref (ad this))]) d_X12_living_34 2 rfl rfl (by decide) (fun _ => rfl) (fun x11 => ?_)
    refine sa_goto (tgt := 4) C d_X12_living_37 (by decide) ?_
    exact sa_sub [2, 1, 0] rfl (hj4 _ _)
  refine sa_if_eq (tgt := 31) C d_X12_living_24 (by decide) ?_ ?_
  · refine sa_iconst (v := 0) C d_X12_living_31 (by decide) ?_
    exact sa_sub [0, 2] rfl (hj32 _)
  refine sa_iconst (v := 1) C d_X12_living_27 (by decide) ?_
  refine sa_goto (tgt := 32) C d_X12_living_28 (by decide) ?_
  exact sa_sub [0, 2] rfl (hj32 _)
theorem k_X12_living (this : Nat) : sa_Met 2 yX12_living cX12_living 3 (some .int) (fun ad => [.ref (ad this)]) sa_eI (f_X12_living this) := sa_mk (by decide) (fun ad => Nat.le_of_ble_eq_true rfl) (fun p l e s m args below meth c D ad cA A C => b_X12_living this C)
theorem gd_X12_living (this : Nat) (σ : sa_St) (r : Int32) (τ : sa_St) (h : f_X12_living this σ = some (r, τ)) : sa_sh this = some (.inl 12) := sa_gd_ok h
theorem d_X12_count_0 : decode cX12_count 0 = .ok (.aload_n 0, 1) := by decide +kernel
theorem d_X12_count_1 : decode cX12_count 1 = .ok (.iconst 0, 1) := by decide +kernel
theorem d_X12_count_2 : decode cX12_count 2 = .ok (.putfield 127, 3) := by decide +kernel
theorem d_X12_count_5 : decode cX12_count 5 = .ok (.iload_n 1, 1) := by decide +kernel
theorem d_X12_count_6 : decode cX12_count 6 = .ok (.tableswitch 182 0 16 #[82, 87, 92, 100, 105, 110, 115, 120, 125, 133, 138, 146, 154, 159, 164, 169, 174], 82) := by decide +kernel
theorem d_X12_count_88 : decode cX12_count 88 = .ok (.aload_n 0, 1) := by decide +kernel
theorem d_X12_count_89 : decode cX12_count 89 = .ok (.getfield 331, 3) := by decide +kernel
theorem d_X12_count_92 : decode cX12_count 92 = .ok (.ireturn, 1) := by decide +kernel
theorem d_X12_count_93 : decode cX12_count 93 = .ok (.aload_n 0, 1) := by decide +kernel
theorem d_X12_count_94 : decode cX12_count 94 = .ok (.getfield 334, 3) := by decide +kernel
theorem d_X12_count_97 : decode cX12_count 97 = .ok (.ireturn, 1) := by decide +kernel
theorem d_X12_count_98 : decode cX12_count 98 = .ok (.aload_n 0, 1) := by decide +kernel
theorem d_X12_count_99 : decode cX12_count 99 = .ok (.getfield 64, 3) := by decide +kernel
theorem d_X12_count_102 : decode cX12_count 102 = .ok (.bipush 75, 2) := by decide +kernel
theorem d_X12_count_104 : decode cX12_count 104 = .ok (.iaload, 1) := by decide +kernel
theorem d_X12_count_105 : decode cX12_count 105 = .ok (.ireturn, 1) := by decide +kernel
theorem d_X12_count_106 : decode cX12_count 106 = .ok (.aload_n 0, 1) := by decide +kernel
theorem d_X12_count_107 : decode cX12_count 107 = .ok (.getfield 337, 3) := by decide +kernel
theorem d_X12_count_110 : decode cX12_count 110 = .ok (.ireturn, 1) := by decide +kernel
theorem d_X12_count_111 : decode cX12_count 111 = .ok (.aload_n 0, 1) := by decide +kernel
theorem d_X12_count_112 : decode cX12_count 112 = .ok (.getfield 323, 3) := by decide +kernel
theorem d_X12_count_115 : decode cX12_count 115 = .ok (.ireturn, 1) := by decide +kernel
theorem d_X12_count_116 : decode cX12_count 116 = .ok (.aload_n 0, 1) := by decide +kernel
theorem d_X12_count_117 : decode cX12_count 117 = .ok (.getfield 326, 3) := by decide +kernel
theorem d_X12_count_120 : decode cX12_count 120 = .ok (.ireturn, 1) := by decide +kernel
theorem d_X12_count_121 : decode cX12_count 121 = .ok (.aload_n 0, 1) := by decide +kernel
theorem d_X12_count_122 : decode cX12_count 122 = .ok (.getfield 140, 3) := by decide +kernel
theorem d_X12_count_125 : decode cX12_count 125 = .ok (.ireturn, 1) := by decide +kernel
theorem d_X12_count_126 : decode cX12_count 126 = .ok (.aload_n 0, 1) := by decide +kernel
theorem d_X12_count_127 : decode cX12_count 127 = .ok (.getfield 70, 3) := by decide +kernel
theorem d_X12_count_130 : decode cX12_count 130 = .ok (.ireturn, 1) := by decide +kernel
theorem d_X12_count_131 : decode cX12_count 131 = .ok (.aload_n 0, 1) := by decide +kernel
theorem d_X12_count_132 : decode cX12_count 132 = .ok (.getfield 64, 3) := by decide +kernel
theorem d_X12_count_135 : decode cX12_count 135 = .ok (.bipush 76, 2) := by decide +kernel
theorem d_X12_count_137 : decode cX12_count 137 = .ok (.iaload, 1) := by decide +kernel
theorem d_X12_count_138 : decode cX12_count 138 = .ok (.ireturn, 1) := by decide +kernel
theorem d_X12_count_139 : decode cX12_count 139 = .ok (.aload_n 0, 1) := by decide +kernel
theorem d_X12_count_140 : decode cX12_count 140 = .ok (.invokevirtual 585, 3) := by decide +kernel
theorem d_X12_count_143 : decode cX12_count 143 = .ok (.ireturn, 1) := by decide +kernel
theorem d_X12_count_144 : decode cX12_count 144 = .ok (.aload_n 0, 1) := by decide +kernel
theorem d_X12_count_145 : decode cX12_count 145 = .ok (.getfield 64, 3) := by decide +kernel
theorem d_X12_count_148 : decode cX12_count 148 = .ok (.bipush 77, 2) := by decide +kernel
theorem d_X12_count_150 : decode cX12_count 150 = .ok (.iaload, 1) := by decide +kernel
theorem d_X12_count_151 : decode cX12_count 151 = .ok (.ireturn, 1) := by decide +kernel
theorem d_X12_count_152 : decode cX12_count 152 = .ok (.aload_n 0, 1) := by decide +kernel
theorem d_X12_count_153 : decode cX12_count 153 = .ok (.getfield 64, 3) := by decide +kernel
theorem d_X12_count_156 : decode cX12_count 156 = .ok (.bipush 78, 2) := by decide +kernel
theorem d_X12_count_158 : decode cX12_count 158 = .ok (.iaload, 1) := by decide +kernel
theorem d_X12_count_159 : decode cX12_count 159 = .ok (.ireturn, 1) := by decide +kernel
theorem d_X12_count_160 : decode cX12_count 160 = .ok (.aload_n 0, 1) := by decide +kernel
theorem d_X12_count_161 : decode cX12_count 161 = .ok (.invokevirtual 588, 3) := by decide +kernel
theorem d_X12_count_164 : decode cX12_count 164 = .ok (.ireturn, 1) := by decide +kernel
theorem d_X12_count_165 : decode cX12_count 165 = .ok (.aload_n 0, 1) := by decide +kernel
theorem d_X12_count_166 : decode cX12_count 166 = .ok (.getfield 340, 3) := by decide +kernel
theorem d_X12_count_169 : decode cX12_count 169 = .ok (.ireturn, 1) := by decide +kernel
theorem d_X12_count_170 : decode cX12_count 170 = .ok (.aload_n 0, 1) := by decide +kernel
theorem d_X12_count_171 : decode cX12_count 171 = .ok (.getfield 343, 3) := by decide +kernel
theorem d_X12_count_174 : decode cX12_count 174 = .ok (.ireturn, 1) := by decide +kernel
theorem d_X12_count_175 : decode cX12_count 175 = .ok (.aload_n 0, 1) := by decide +kernel
theorem d_X12_count_176 : decode cX12_count 176 = .ok (.getfield 346, 3) := by decide +kernel
theorem d_X12_count_179 : decode cX12_count 179 = .ok (.ireturn, 1) := by decide +kernel
theorem d_X12_count_180 : decode cX12_count 180 = .ok (.aload_n 0, 1) := by decide +kernel
theorem d_X12_count_181 : decode cX12_count 181 = .ok (.getfield 64, 3) := by decide +kernel
theorem d_X12_count_184 : decode cX12_count 184 = .ok (.bipush 79, 2) := by decide +kernel
theorem d_X12_count_186 : decode cX12_count 186 = .ok (.iaload, 1) := by decide +kernel
theorem d_X12_count_187 : decode cX12_count 187 = .ok (.ireturn, 1) := by decide +kernel
theorem d_X12_count_188 : decode cX12_count 188 = .ok (.ldc_w 454, 3) := by decide +kernel
theorem d_X12_count_191 : decode cX12_count 191 = .ok (.ireturn, 1) := by decide +kernel
def f_X12_count (this : Nat) (a1 : Int32) : sa_M Int32 :=
sa_gd 12 this (
sa_bnd (sa_wrI 12 this 0 0) fun _ =>
if a1 = 0 then
sa_bnd (sa_rdI 12 this 25) fun v1 =>
sa_ret (v1 : Int32)
else
if a1 = 1 then
sa_bnd (sa_rdI 12 this 26) fun v2 =>
sa_ret (v2 : Int32)
else
if a1 = 2 then
sa_bnd (sa_rdR 12 this 35) fun v3 =>
sa_bnd (sa_ldI .int v3 75) fun v4 =>
sa_ret (v4 : Int32)
else
if a1 = 3 then
sa_bnd (sa_rdI 12 this 27) fun v5 =>
sa_ret (v5 : Int32)
else
if a1 = 4 then
sa_bnd (sa_rdI 12 this 7) fun v6 =>
sa_ret (v6 : Int32)
else
if a1 = 5 then
sa_bnd (sa_rdI 12 this 34) fun v7 =>
sa_ret (v7 : Int32)
else
if a1 = 6 then
sa_bnd (sa_rdI 12 this 6) fun v8 =>
sa_ret (v8 : Int32)
else
if a1 = 7 then
sa_bnd (sa_rdI 12 this 37) fun v9 =>
sa_ret (v9 : Int32)
else
if a1 = 8 then
sa_bnd (sa_rdR 12 this 35) fun v10 =>
sa_bnd (sa_ldI .int v10 76) fun v11 =>
sa_ret (v11 : Int32)
else
if a1 = 9 then
sa_bnd (f_X12_living this) fun v12 =>
sa_ret (v12 : Int32)
else
if a1 = 10 then
sa_bnd (sa_rdR 12 this 35) fun v13 =>
sa_bnd (sa_ldI .int v13 77) fun v14 =>
sa_ret (v14 : Int32)
else
if a1 = 11 then
sa_bnd (sa_rdR 12 this 35) fun v15 =>
sa_bnd (sa_ldI .int v15 78) fun v16 =>
sa_ret (v16 : Int32)
else
if a1 = 12 then
sa_bnd (f_X12_allGrains this) fun v17 =>
sa_ret (v17 : Int32)
else
if a1 = 13 then
sa_bnd (sa_rdI 12 this 48) fun v18 =>
sa_ret (v18 : Int32)
else
if a1 = 14 then
sa_bnd (sa_rdI 12 this 69) fun v19 =>
sa_ret (v19 : Int32)
else
if a1 = 15 then
sa_bnd (sa_rdI 12 this 43) fun v20 =>
sa_ret (v20 : Int32)
else
if a1 = 16 then
sa_bnd (sa_rdR 12 this 35) fun v21 =>
sa_bnd (sa_ldI .int v21 79) fun v22 =>
sa_ret (v22 : Int32)
else
sa_ret ((-1000000) : Int32))
set_option maxHeartbeats 1000000 in
set_option maxRecDepth 10000 in
theorem b_X12_count {p : Program} {l : Launch} {e : Env} {s : State} {m : MethodId} {args : Array Value} {below : List Frame} {meth : Method} {c : Code} {D : va_G} {ad : Nat → Nat} {cA : FieldType → ClassId} {A : Nat → Prop} (this : Nat) (a1 : Int32) (C : sa_C p s m args meth c cX12_count RX12 "count" 2 (some .int) D ad cA A) : sa_Sg p l e s m args below meth c 2 3 D ad cA A sa_eI 0 [(0, .ref (ad this)), (1, .int a1)] [] (f_X12_count this a1) := by
  unfold f_X12_count
  refine sa_gdI ?_
  refine sa_aload_n C d_X12_count_0 rfl 0 rfl ?_
  refine sa_iconst (v := 0) C d_X12_count_1 (by decide) ?_
  refine sa_putI C fd_X12_127 d_X12_count_2 ?_
  refine sa_iload_n C d_X12_count_5 rfl 1 rfl ?_
  refine sa_byc (fun c0 => ?_) (fun c0 => ?_)
  · refine sa_tabIn (tgt := 88) C d_X12_count_6 (by rw [c0]; decide) (by rw [c0]; decide) (by rw [c0]; rfl) (by decide) ?_
    refine sa_aload_n C d_X12_count_88 rfl 0 rfl ?_
    refine sa_getI C fd_X12_331 d_X12_count_89 (fun v1 => ?_)
    exact sa_iret C d_X12_count_92
  refine sa_byc (fun c1 => ?_) (fun c1 => ?_)
  · refine sa_tabIn (tgt := 93) C d_X12_count_6 (by rw [c1]; decide) (by rw [c1]; decide) (by rw [c1]; rfl) (by decide) ?_
    refine sa_aload_n C d_X12_count_93 rfl 0 rfl ?_
    refine sa_getI C fd_X12_334 d_X12_count_94 (fun v2 => ?_)
    exact sa_iret C d_X12_count_97
  refine sa_byc (fun c2 => ?_) (fun c2 => ?_)
  · refine sa_tabIn (tgt := 98) C d_X12_count_6 (by rw [c2]; decide) (by rw [c2]; decide) (by rw [c2]; rfl) (by decide) ?_
    refine sa_aload_n C d_X12_count_98 rfl 0 rfl ?_
    refine sa_getR C fd_X12_64 rfl d_X12_count_99 (fun v3 => ?_)
    refine sa_bipush (v := 75) C d_X12_count_102 (by decide) ?_
    refine sa_iald C d_X12_count_104 (fun v4 => ?_)
    exact sa_iret C d_X12_count_105
  refine sa_byc (fun c3 => ?_) (fun c3 => ?_)
  · refine sa_tabIn (tgt := 106) C d_X12_count_6 (by rw [c3]; decide) (by rw [c3]; decide) (by rw [c3]; rfl) (by decide) ?_
    refine sa_aload_n C d_X12_count_106 rfl 0 rfl ?_
    refine sa_getI C fd_X12_337 d_X12_count_107 (fun v5 => ?_)
    exact sa_iret C d_X12_count_110
  refine sa_byc (fun c4 => ?_) (fun c4 => ?_)
  · refine sa_tabIn (tgt := 111) C d_X12_count_6 (by rw [c4]; decide) (by rw [c4]; decide) (by rw [c4]; rfl) (by decide) ?_
    refine sa_aload_n C d_X12_count_111 rfl 0 rfl ?_
    refine sa_getI C fd_X12_323 d_X12_count_112 (fun v6 => ?_)
    exact sa_iret C d_X12_count_115
  refine sa_byc (fun c5 => ?_) (fun c5 => ?_)
  · refine sa_tabIn (tgt := 116) C d_X12_count_6 (by rw [c5]; decide) (by rw [c5]; decide) (by rw [c5]; rfl) (by decide) ?_
    refine sa_aload_n C d_X12_count_116 rfl 0 rfl ?_
    refine sa_getI C fd_X12_326 d_X12_count_117 (fun v7 => ?_)
    exact sa_iret C d_X12_count_120
  refine sa_byc (fun c6 => ?_) (fun c6 => ?_)
  · refine sa_tabIn (tgt := 121) C d_X12_count_6 (by rw [c6]; decide) (by rw [c6]; decide) (by rw [c6]; rfl) (by decide) ?_
    refine sa_aload_n C d_X12_count_121 rfl 0 rfl ?_
    refine sa_getI C fd_X12_140 d_X12_count_122 (fun v8 => ?_)
    exact sa_iret C d_X12_count_125
  refine sa_byc (fun c7 => ?_) (fun c7 => ?_)
  · refine sa_tabIn (tgt := 126) C d_X12_count_6 (by rw [c7]; decide) (by rw [c7]; decide) (by rw [c7]; rfl) (by decide) ?_
    refine sa_aload_n C d_X12_count_126 rfl 0 rfl ?_
    refine sa_getI C fd_X12_70 d_X12_count_127 (fun v9 => ?_)
    exact sa_iret C d_X12_count_130
  refine sa_byc (fun c8 => ?_) (fun c8 => ?_)
  · refine sa_tabIn (tgt := 131) C d_X12_count_6 (by rw [c8]; decide) (by rw [c8]; decide) (by rw [c8]; rfl) (by decide) ?_
    refine sa_aload_n C d_X12_count_131 rfl 0 rfl ?_
    refine sa_getR C fd_X12_64 rfl d_X12_count_132 (fun v10 => ?_)
    refine sa_bipush (v := 76) C d_X12_count_135 (by decide) ?_
    refine sa_iald C d_X12_count_137 (fun v11 => ?_)
    exact sa_iret C d_X12_count_138
  refine sa_byc (fun c9 => ?_) (fun c9 => ?_)
  · refine sa_tabIn (tgt := 139) C d_X12_count_6 (by rw [c9]; decide) (by rw [c9]; decide) (by rw [c9]; rfl) (by decide) ?_
    refine sa_aload_n C d_X12_count_139 rfl 0 rfl ?_
    refine sa_invV (ci := 12) C (k_X12_living this) q2112 ds_X12_living q128 rfl q2111 q111 q2109 (gd_X12_living this) rfl rfl rfl (Nat.le_of_ble_eq_true rfl) (by decide) (by decide) d_X12_count_140 (fun v12 => ?_)
    exact sa_iret C d_X12_count_143
  refine sa_byc (fun c10 => ?_) (fun c10 => ?_)
  · refine sa_tabIn (tgt := 144) C d_X12_count_6 (by rw [c10]; decide) (by rw [c10]; decide) (by rw [c10]; rfl) (by decide) ?_
    refine sa_aload_n C d_X12_count_144 rfl 0 rfl ?_
    refine sa_getR C fd_X12_64 rfl d_X12_count_145 (fun v13 => ?_)
    refine sa_bipush (v := 77) C d_X12_count_148 (by decide) ?_
    refine sa_iald C d_X12_count_150 (fun v14 => ?_)
    exact sa_iret C d_X12_count_151
  refine sa_byc (fun c11 => ?_) (fun c11 => ?_)
  · refine sa_tabIn (tgt := 152) C d_X12_count_6 (by rw [c11]; decide) (by rw [c11]; decide) (by rw [c11]; rfl) (by decide) ?_
    refine sa_aload_n C d_X12_count_152 rfl 0 rfl ?_
    refine sa_getR C fd_X12_64 rfl d_X12_count_153 (fun v15 => ?_)
    refine sa_bipush (v := 78) C d_X12_count_156 (by decide) ?_
    refine sa_iald C d_X12_count_158 (fun v16 => ?_)
    exact sa_iret C d_X12_count_159
  refine sa_byc (fun c12 => ?_) (fun c12 => ?_)
  · refine sa_tabIn (tgt := 160) C d_X12_count_6 (by rw [c12]; decide) (by rw [c12]; decide) (by rw [c12]; rfl) (by decide) ?_
    refine sa_aload_n C d_X12_count_160 rfl 0 rfl ?_
    refine sa_invV (ci := 12) C (k_X12_allGrains this) q2116 ds_X12_allGrains q128 rfl q2115 q112 q2113 (gd_X12_allGrains this) rfl rfl rfl (Nat.le_of_ble_eq_true rfl) (by decide) (by decide) d_X12_count_161 (fun v17 => ?_)
    exact sa_iret C d_X12_count_164
  refine sa_byc (fun c13 => ?_) (fun c13 => ?_)
  · refine sa_tabIn (tgt := 165) C d_X12_count_6 (by rw [c13]; decide) (by rw [c13]; decide) (by rw [c13]; rfl) (by decide) ?_
    refine sa_aload_n C d_X12_count_165 rfl 0 rfl ?_
    refine sa_getI C fd_X12_340 d_X12_count_166 (fun v18 => ?_)
    exact sa_iret C d_X12_count_169
  refine sa_byc (fun c14 => ?_) (fun c14 => ?_)
  · refine sa_tabIn (tgt := 170) C d_X12_count_6 (by rw [c14]; decide) (by rw [c14]; decide) (by rw [c14]; rfl) (by decide) ?_
    refine sa_aload_n C d_X12_count_170 rfl 0 rfl ?_
    refine sa_getI C fd_X12_343 d_X12_count_171 (fun v19 => ?_)
    exact sa_iret C d_X12_count_174
  refine sa_byc (fun c15 => ?_) (fun c15 => ?_)
  · refine sa_tabIn (tgt := 175) C d_X12_count_6 (by rw [c15]; decide) (by rw [c15]; decide) (by rw [c15]; rfl) (by decide) ?_
    refine sa_aload_n C d_X12_count_175 rfl 0 rfl ?_
    refine sa_getI C fd_X12_346 d_X12_count_176 (fun v20 => ?_)
    exact sa_iret C d_X12_count_179
  refine sa_byc (fun c16 => ?_) (fun c16 => ?_)
  · refine sa_tabIn (tgt := 180) C d_X12_count_6 (by rw [c16]; decide) (by rw [c16]; decide) (by rw [c16]; rfl) (by decide) ?_
    refine sa_aload_n C d_X12_count_180 rfl 0 rfl ?_
    refine sa_getR C fd_X12_64 rfl d_X12_count_181 (fun v21 => ?_)
    refine sa_bipush (v := 79) C d_X12_count_184 (by decide) ?_
    refine sa_iald C d_X12_count_186 (fun v22 => ?_)
    exact sa_iret C d_X12_count_187
  refine sa_tabOut (tgt := 188) C d_X12_count_6 (sa_out17 c0 c1 c2 c3 c4 c5 c6 c7 c8 c9 c10 c11 c12 c13 c14 c15 c16) (by decide) ?_
  refine sa_ldcw (v := (-1000000)) C d_X12_count_188 q1935 ?_
  exact sa_iret C d_X12_count_191
theorem k_X12_count (this : Nat) (a1 : Int32) : sa_Met 3 yX12_count cX12_count 2 (some .int) (fun ad => [.ref (ad this), .int a1]) sa_eI (f_X12_count this a1) := sa_mk (by decide) (fun ad => Nat.le_of_ble_eq_true rfl) (fun p l e s m args below meth c D ad cA A C => b_X12_count this a1 C)
theorem gd_X12_count (this : Nat) (a1 : Int32) (σ : sa_St) (r : Int32) (τ : sa_St) (h : f_X12_count this a1 σ = some (r, τ)) : sa_sh this = some (.inl 12) := sa_gd_ok h
