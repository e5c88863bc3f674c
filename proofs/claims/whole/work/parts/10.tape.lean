theorem d_X7_skipBlanks_0 : decode cX7_skipBlanks 0 = .ok (.aload_n 0, 1) := by decide +kernel
theorem d_X7_skipBlanks_1 : decode cX7_skipBlanks 1 = .ok (.getfield 19, 3) := by decide +kernel
theorem d_X7_skipBlanks_4 : decode cX7_skipBlanks 4 = .ok (.aload_n 0, 1) := by decide +kernel
theorem d_X7_skipBlanks_5 : decode cX7_skipBlanks 5 = .ok (.getfield 15, 3) := by decide +kernel
theorem d_X7_skipBlanks_8 : decode cX7_skipBlanks 8 = .ok (.if_icmp .ge 30, 3) := by decide +kernel
theorem d_X7_skipBlanks_11 : decode cX7_skipBlanks 11 = .ok (.aload_n 0, 1) := by decide +kernel
theorem d_X7_skipBlanks_12 : decode cX7_skipBlanks 12 = .ok (.getfield 11, 3) := by decide +kernel
theorem d_X7_skipBlanks_15 : decode cX7_skipBlanks 15 = .ok (.aload_n 0, 1) := by decide +kernel
theorem d_X7_skipBlanks_16 : decode cX7_skipBlanks 16 = .ok (.getfield 19, 3) := by decide +kernel
theorem d_X7_skipBlanks_19 : decode cX7_skipBlanks 19 = .ok (.iaload, 1) := by decide +kernel
theorem d_X7_skipBlanks_20 : decode cX7_skipBlanks 20 = .ok (.bipush 32, 2) := by decide +kernel
theorem d_X7_skipBlanks_22 : decode cX7_skipBlanks 22 = .ok (.if_icmp .ne 16, 3) := by decide +kernel
theorem d_X7_skipBlanks_25 : decode cX7_skipBlanks 25 = .ok (.aload_n 0, 1) := by decide +kernel
theorem d_X7_skipBlanks_26 : decode cX7_skipBlanks 26 = .ok (.dup, 1) := by decide +kernel
theorem d_X7_skipBlanks_27 : decode cX7_skipBlanks 27 = .ok (.getfield 19, 3) := by decide +kernel
theorem d_X7_skipBlanks_30 : decode cX7_skipBlanks 30 = .ok (.iconst 1, 1) := by decide +kernel
theorem d_X7_skipBlanks_31 : decode cX7_skipBlanks 31 = .ok (.iadd, 1) := by decide +kernel
theorem d_X7_skipBlanks_32 : decode cX7_skipBlanks 32 = .ok (.putfield 19, 3) := by decide +kernel
theorem d_X7_skipBlanks_35 : decode cX7_skipBlanks 35 = .ok (.goto (-35), 3) := by decide +kernel
theorem d_X7_skipBlanks_38 : decode cX7_skipBlanks 38 = .ok (.return_, 1) := by decide +kernel
def f_X7_skipBlanks (this : Nat) : sa_M Unit :=
sa_gd 7 this (
sa_wh0 (fun j0  =>
sa_bnd (sa_rdI 7 this 2) fun v1 =>
sa_bnd (sa_rdI 7 this 1) fun v2 =>
sa_jn0 (sa_ret ()) fun j38 =>
if v2 ≤ v1 then
j38
else
sa_bnd (sa_rdR 7 this 0) fun v3 =>
sa_bnd (sa_rdI 7 this 2) fun v4 =>
sa_bnd (sa_ldI .int v3 v4) fun v5 =>
if ¬ v5 = 32 then
j38
else
sa_bnd (sa_rdI 7 this 2) fun v6 =>
sa_bnd (sa_wrI 7 this 2 (v6 + 1)) fun _ =>
j0) sa_F )
set_option maxHeartbeats 1000000 in
set_option maxRecDepth 10000 in
theorem b_X7_skipBlanks {p : Program} {l : Launch} {e : Env} {s : State} {m : MethodId} {args : Array Value} {below : List Frame} {meth : Method} {c : Code} {D : va_G} {ad : Nat → Nat} {cA : FieldType → ClassId} {A : Nat → Prop} (this : Nat) (C : sa_C p s m args meth c cX7_skipBlanks RX7 "skipBlanks" 1 none D ad cA A) : sa_Sg p l e s m args below meth c 1 1 D ad cA A sa_eV 0 [(0, .ref (ad this))] [] (f_X7_skipBlanks this) := by
  unfold f_X7_skipBlanks
  refine sa_gdI ?_
  refine sa_sub [0] rfl (sa_loop0 ([(0, .ref (ad this))]) ([]) (fun j0 hj0  => ?_) _)
  refine sa_aload_n C d_X7_skipBlanks_0 rfl 0 rfl ?_
  refine sa_getI C fd_X7_19 d_X7_skipBlanks_1 (fun v1 => ?_)
  refine sa_aload_n C d_X7_skipBlanks_4 rfl 0 rfl ?_
  refine sa_getI C fd_X7_15 d_X7_skipBlanks_5 (fun v2 => ?_)
  refine sa_join0 38 ([]) ([]) (?_) (fun j38 hj38 => ?_)
  · exact sa_vret C d_X7_skipBlanks_38
  refine sa_icmp_ge (tgt := 38) C d_X7_skipBlanks_8 (by decide) ?_ ?_
  · exact sa_sub [] rfl (hj38)
  refine sa_aload_n C d_X7_skipBlanks_11 rfl 0 rfl ?_
  refine sa_getR C fd_X7_11 rfl d_X7_skipBlanks_12 (fun v3 => ?_)
  refine sa_aload_n C d_X7_skipBlanks_15 rfl 0 rfl ?_
  refine sa_getI C fd_X7_19 d_X7_skipBlanks_16 (fun v4 => ?_)
  refine sa_iald C d_X7_skipBlanks_19 (fun v5 => ?_)
  refine sa_bipush (v := 32) C d_X7_skipBlanks_20 (by decide) ?_
  refine sa_icmp_ne (tgt := 38) C d_X7_skipBlanks_22 (by decide) ?_ ?_
  · exact sa_sub [] rfl (hj38)
  refine sa_aload_n C d_X7_skipBlanks_25 rfl 0 rfl ?_
  refine sa_dup C d_X7_skipBlanks_26 rfl ?_
  refine sa_getI C fd_X7_19 d_X7_skipBlanks_27 (fun v6 => ?_)
  refine sa_iconst (v := 1) C d_X7_skipBlanks_30 (by decide) ?_
  refine sa_iadd C d_X7_skipBlanks_31 ?_
  refine sa_putI C fd_X7_19 d_X7_skipBlanks_32 ?_
  refine sa_goto (tgt := 0) C d_X7_skipBlanks_35 (by decide) ?_
  exact sa_sub [0] rfl (hj0)
theorem k_X7_skipBlanks (this : Nat) : sa_Met 1 yX7_skipBlanks cX7_skipBlanks 1 none (fun ad => [.ref (ad this)]) sa_eV (f_X7_skipBlanks this) := sa_mk (by decide) (fun ad => Nat.le_of_ble_eq_true rfl) (fun p l e s m args below meth c D ad cA A C => b_X7_skipBlanks this C)
theorem gd_X7_skipBlanks (this : Nat) (σ : sa_St) (r : Unit) (τ : sa_St) (h : f_X7_skipBlanks this σ = some (r, τ)) : sa_sh this = some (.inl 7) := sa_gd_ok h
theorem d_X7_rewind_0 : decode cX7_rewind 0 = .ok (.aload_n 0, 1) := by decide +kernel
theorem d_X7_rewind_1 : decode cX7_rewind 1 = .ok (.iconst 0, 1) := by decide +kernel
theorem d_X7_rewind_2 : decode cX7_rewind 2 = .ok (.putfield 19, 3) := by decide +kernel
theorem d_X7_rewind_5 : decode cX7_rewind 5 = .ok (.aload_n 0, 1) := by decide +kernel
theorem d_X7_rewind_6 : decode cX7_rewind 6 = .ok (.invokevirtual 22, 3) := by decide +kernel
theorem d_X7_rewind_9 : decode cX7_rewind 9 = .ok (.return_, 1) := by decide +kernel
def f_X7_rewind (this : Nat) : sa_M Unit :=
sa_gd 7 this (
sa_bnd (sa_wrI 7 this 2 0) fun _ =>
sa_bnd (f_X7_skipBlanks this) fun _ =>
sa_ret ())
set_option maxHeartbeats 1000000 in
set_option maxRecDepth 10000 in
theorem b_X7_rewind {p : Program} {l : Launch} {e : Env} {s : State} {m : MethodId} {args : Array Value} {below : List Frame} {meth : Method} {c : Code} {D : va_G} {ad : Nat → Nat} {cA : FieldType → ClassId} {A : Nat → Prop} (this : Nat) (C : sa_C p s m args meth c cX7_rewind RX7 "rewind" 1 none D ad cA A) : sa_Sg p l e s m args below meth c 1 2 D ad cA A sa_eV 0 [(0, .ref (ad this))] [] (f_X7_rewind this) := by
  unfold f_X7_rewind
  refine sa_gdI ?_
  refine sa_aload_n C d_X7_rewind_0 rfl 0 rfl ?_
  refine sa_iconst (v := 0) C d_X7_rewind_1 (by decide) ?_
  refine sa_putI C fd_X7_19 d_X7_rewind_2 ?_
  refine sa_aload_n C d_X7_rewind_5 rfl 0 rfl ?_
  refine sa_invV (ci := 7) C (k_X7_skipBlanks this) q497 ds_X7_skipBlanks q115 rfl q496 q1 q494 (gd_X7_skipBlanks this) rfl rfl rfl (Nat.le_of_ble_eq_true rfl) (by decide) (by decide) d_X7_rewind_6 (fun _ => ?_)
  exact sa_vret C d_X7_rewind_9
theorem k_X7_rewind (this : Nat) : sa_Met 2 yX7_rewind cX7_rewind 1 none (fun ad => [.ref (ad this)]) sa_eV (f_X7_rewind this) := sa_mk (by decide) (fun ad => Nat.le_of_ble_eq_true rfl) (fun p l e s m args below meth c D ad cA A C => b_X7_rewind this C)
theorem gd_X7_rewind (this : Nat) (σ : sa_St) (r : Unit) (τ : sa_St) (h : f_X7_rewind this σ = some (r, τ)) : sa_sh this = some (.inl 7) := sa_gd_ok h
theorem d_X7_sign_0 : decode cX7_sign 0 = .ok (.aload_n 0, 1) := by decide +kernel
theorem d_X7_sign_1 : decode cX7_sign 1 = .ok (.getfield 19, 3) := by decide +kernel
theorem d_X7_sign_4 : decode cX7_sign 4 = .ok (.ifCond .lt 27, 3) := by decide +kernel
theorem d_X7_sign_7 : decode cX7_sign 7 = .ok (.aload_n 0, 1) := by decide +kernel
theorem d_X7_sign_8 : decode cX7_sign 8 = .ok (.getfield 19, 3) := by decide +kernel
theorem d_X7_sign_11 : decode cX7_sign 11 = .ok (.aload_n 0, 1) := by decide +kernel
theorem d_X7_sign_12 : decode cX7_sign 12 = .ok (.getfield 15, 3) := by decide +kernel
theorem d_X7_sign_15 : decode cX7_sign 15 = .ok (.if_icmp .ge 16, 3) := by decide +kernel
theorem d_X7_sign_18 : decode cX7_sign 18 = .ok (.aload_n 0, 1) := by decide +kernel
theorem d_X7_sign_19 : decode cX7_sign 19 = .ok (.getfield 11, 3) := by decide +kernel
theorem d_X7_sign_22 : decode cX7_sign 22 = .ok (.aload_n 0, 1) := by decide +kernel
theorem d_X7_sign_23 : decode cX7_sign 23 = .ok (.getfield 19, 3) := by decide +kernel
theorem d_X7_sign_26 : decode cX7_sign 26 = .ok (.iaload, 1) := by decide +kernel
theorem d_X7_sign_27 : decode cX7_sign 27 = .ok (.i2c, 1) := by decide +kernel
theorem d_X7_sign_28 : decode cX7_sign 28 = .ok (.goto 4, 3) := by decide +kernel
theorem d_X7_sign_31 : decode cX7_sign 31 = .ok (.iconst 0, 1) := by decide +kernel
theorem d_X7_sign_32 : decode cX7_sign 32 = .ok (.ireturn, 1) := by decide +kernel
def f_X7_sign (this : Nat) : sa_M Int32 :=
sa_gd 7 this (
sa_bnd (sa_rdI 7 this 2) fun v1 =>
sa_jn1 (fun (y2 : Int32) =>
sa_retC y2) fun j32 =>
sa_jn0 (j32 0) fun j31 =>
if v1 < 0 then
j31
else
sa_bnd (sa_rdI 7 this 2) fun v3 =>
sa_bnd (sa_rdI 7 this 1) fun v4 =>
if v4 ≤ v3 then
j31
else
sa_bnd (sa_rdR 7 this 0) fun v5 =>
sa_bnd (sa_rdI 7 this 2) fun v6 =>
sa_bnd (sa_ldI .int v5 v6) fun v7 =>
j32 ((v7.toUInt32 % 65536).toInt32))
set_option maxHeartbeats 1000000 in
set_option maxRecDepth 10000 in
theorem b_X7_sign {p : Program} {l : Launch} {e : Env} {s : State} {m : MethodId} {args : Array Value} {below : List Frame} {meth : Method} {c : Code} {D : va_G} {ad : Nat → Nat} {cA : FieldType → ClassId} {A : Nat → Prop} (this : Nat) (C : sa_C p s m args meth c cX7_sign RX7 "sign" 1 (some .char) D ad cA A) : sa_Sg p l e s m args below meth c 1 1 D ad cA A sa_eI 0 [(0, .ref (ad this))] [] (f_X7_sign this) := by
  unfold f_X7_sign
  refine sa_gdI ?_
  refine sa_aload_n C d_X7_sign_0 rfl 0 rfl ?_
  refine sa_getI C fd_X7_19 d_X7_sign_1 (fun v1 => ?_)
  refine sa_join1 32 (fun y2 => []) (fun y2 => [.int y2]) (fun y2 => ?_) (fun j32 hj32 => ?_)
  · exact sa_cret C d_X7_sign_32
  refine sa_join0 31 ([]) ([]) (?_) (fun j31 hj31 => ?_)
  · refine sa_iconst (v := 0) C d_X7_sign_31 (by decide) ?_
    exact sa_sub [] rfl (hj32 _)
  refine sa_if_lt (tgt := 31) C d_X7_sign_4 (by decide) ?_ ?_
  · exact sa_sub [] rfl (hj31)
  refine sa_aload_n C d_X7_sign_7 rfl 0 rfl ?_
  refine sa_getI C fd_X7_19 d_X7_sign_8 (fun v3 => ?_)
  refine sa_aload_n C d_X7_sign_11 rfl 0 rfl ?_
  refine sa_getI C fd_X7_15 d_X7_sign_12 (fun v4 => ?_)
  refine sa_icmp_ge (tgt := 31) C d_X7_sign_15 (by decide) ?_ ?_
  · exact sa_sub [] rfl (hj31)
  refine sa_aload_n C d_X7_sign_18 rfl 0 rfl ?_
  refine sa_getR C fd_X7_11 rfl d_X7_sign_19 (fun v5 => ?_)
  refine sa_aload_n C d_X7_sign_22 rfl 0 rfl ?_
  refine sa_getI C fd_X7_19 d_X7_sign_23 (fun v6 => ?_)
  refine sa_iald C d_X7_sign_26 (fun v7 => ?_)
  refine sa_i2c C d_X7_sign_27 ?_
  refine sa_goto (tgt := 32) C d_X7_sign_28 (by decide) ?_
  exact sa_sub [] rfl (hj32 _)
theorem k_X7_sign (this : Nat) : sa_Met 1 yX7_sign cX7_sign 1 (some .char) (fun ad => [.ref (ad this)]) sa_eI (f_X7_sign this) := sa_mk (by decide) (fun ad => Nat.le_of_ble_eq_true rfl) (fun p l e s m args below meth c D ad cA A C => b_X7_sign this C)
theorem gd_X7_sign (this : Nat) (σ : sa_St) (r : Int32) (τ : sa_St) (h : f_X7_sign this σ = some (r, τ)) : sa_sh this = some (.inl 7) := sa_gd_ok h
theorem d_X7_pass_0 : decode cX7_pass 0 = .ok (.aload_n 0, 1) := by decide +kernel
theorem d_X7_pass_1 : decode cX7_pass 1 = .ok (.dup, 1) := by decide +kernel
theorem d_X7_pass_2 : decode cX7_pass 2 = .ok (.getfield 19, 3) := by decide +kernel
theorem d_X7_pass_5 : decode cX7_pass 5 = .ok (.iconst 1, 1) := by decide +kernel
theorem d_X7_pass_6 : decode cX7_pass 6 = .ok (.iadd, 1) := by decide +kernel
theorem d_X7_pass_7 : decode cX7_pass 7 = .ok (.putfield 19, 3) := by decide +kernel
theorem d_X7_pass_10 : decode cX7_pass 10 = .ok (.aload_n 0, 1) := by decide +kernel
theorem d_X7_pass_11 : decode cX7_pass 11 = .ok (.invokevirtual 22, 3) := by decide +kernel
theorem d_X7_pass_14 : decode cX7_pass 14 = .ok (.return_, 1) := by decide +kernel
def f_X7_pass (this : Nat) : sa_M Unit :=
sa_gd 7 this (
sa_bnd (sa_rdI 7 this 2) fun v1 =>
sa_bnd (sa_wrI 7 this 2 (v1 + 1)) fun _ =>
sa_bnd (f_X7_skipBlanks this) fun _ =>
sa_ret ())
set_option maxHeartbeats 1000000 in
set_option maxRecDepth 10000 in
theorem b_X7_pass {p : Program} {l : Launch} {e : Env} {s : State} {m : MethodId} {args : Array Value} {below : List Frame} {meth : Method} {c : Code} {D : va_G} {ad : Nat → Nat} {cA : FieldType → ClassId} {A : Nat → Prop} (this : Nat) (C : sa_C p s m args meth c cX7_pass RX7 "pass" 1 none D ad cA A) : sa_Sg p l e s m args below meth c 1 2 D ad cA A sa_eV 0 [(0, .ref (ad this))] [] (f_X7_pass this) := by
  unfold f_X7_pass
  refine sa_gdI ?_
  refine sa_aload_n C d_X7_pass_0 rfl 0 rfl ?_
  refine sa_dup C d_X7_pass_1 rfl ?_
  refine sa_getI C fd_X7_19 d_X7_pass_2 (fun v1 => ?_)
  refine sa_iconst (v := 1) C d_X7_pass_5 (by decide) ?_
  refine sa_iadd C d_X7_pass_6 ?_
  refine sa_putI C fd_X7_19 d_X7_pass_7 ?_
  refine sa_aload_n C d_X7_pass_10 rfl 0 rfl ?_
  refine sa_invV (ci := 7) C (k_X7_skipBlanks this) q497 ds_X7_skipBlanks q115 rfl q496 q1 q494 (gd_X7_skipBlanks this) rfl rfl rfl (Nat.le_of_ble_eq_true rfl) (by decide) (by decide) d_X7_pass_11 (fun _ => ?_)
  exact sa_vret C d_X7_pass_14
theorem k_X7_pass (this : Nat) : sa_Met 2 yX7_pass cX7_pass 1 none (fun ad => [.ref (ad this)]) sa_eV (f_X7_pass this) := sa_mk (by decide) (fun ad => Nat.le_of_ble_eq_true rfl) (fun p l e s m args below meth c D ad cA A C => b_X7_pass this C)
theorem gd_X7_pass (this : Nat) (σ : sa_St) (r : Unit) (τ : sa_St) (h : f_X7_pass this σ = some (r, τ)) : sa_sh this = some (.inl 7) := sa_gd_ok h
theorem d_X7_isDigit_0 : decode cX7_isDigit 0 = .ok (.iload_n 0, 1) := by decide +kernel
theorem d_X7_isDigit_1 : decode cX7_isDigit 1 = .ok (.bipush 48, 2) := by decide +kernel
theorem d_X7_isDigit_3 : decode cX7_isDigit 3 = .ok (.if_icmp .lt 13, 3) := by decide +kernel
theorem d_X7_isDigit_6 : decode cX7_isDigit 6 = .ok (.iload_n 0, 1) := by decide +kernel
theorem d_X7_isDigit_7 : decode cX7_isDigit 7 = .ok (.bipush 57, 2) := by decide +kernel
theorem d_X7_isDigit_9 : decode cX7_isDigit 9 = .ok (.if_icmp .gt 7, 3) := by decide +kernel
theorem d_X7_isDigit_12 : decode cX7_isDigit 12 = .ok (.iconst 1, 1) := by decide +kernel
theorem d_X7_isDigit_13 : decode cX7_isDigit 13 = .ok (.goto 4, 3) := by decide +kernel
theorem d_X7_isDigit_16 : decode cX7_isDigit 16 = .ok (.iconst 0, 1) := by decide +kernel
theorem d_X7_isDigit_17 : decode cX7_isDigit 17 = .ok (.ireturn, 1) := by decide +kernel
def f_X7_isDigit (a1 : Int32) : sa_M Int32 :=
sa_jn1 (fun (y1 : Int32) =>
sa_retZ y1) fun j17 =>
sa_jn0 (j17 0) fun j16 =>
if a1 < 48 then
j16
else
if 57 < a1 then
j16
else
j17 1
set_option maxHeartbeats 1000000 in
set_option maxRecDepth 10000 in
theorem b_X7_isDigit {p : Program} {l : Launch} {e : Env} {s : State} {m : MethodId} {args : Array Value} {below : List Frame} {meth : Method} {c : Code} {D : va_G} {ad : Nat → Nat} {cA : FieldType → ClassId} {A : Nat → Prop} (a1 : Int32) (C : sa_C p s m args meth c cX7_isDigit RX7 "isDigit" 1 (some .boolean) D ad cA A) : sa_Sg p l e s m args below meth c 1 1 D ad cA A sa_eI 0 [(0, .int a1)] [] (f_X7_isDigit a1) := by
  unfold f_X7_isDigit
  refine sa_iload_n C d_X7_isDigit_0 rfl 0 rfl ?_
  refine sa_bipush (v := 48) C d_X7_isDigit_1 (by decide) ?_
  refine sa_join1 17 (fun y1 => []) (fun y1 => [.int y1]) (fun y1 => ?_) (fun j17 hj17 => ?_)
  · exact sa_zret C d_X7_isDigit_17
  refine sa_join0 16 ([]) ([]) (?_) (fun j16 hj16 => ?_)
  · refine sa_iconst (v := 0) C d_X7_isDigit_16 (by decide) ?_
    exact sa_sub [] rfl (hj17 _)
  refine sa_icmp_lt (tgt := 16) C d_X7_isDigit_3 (by decide) ?_ ?_
  · exact sa_sub [] rfl (hj16)
  refine sa_iload_n C d_X7_isDigit_6 rfl 0 rfl ?_
  refine sa_bipush (v := 57) C d_X7_isDigit_7 (by decide) ?_
  refine sa_icmp_gt (tgt := 16) C d_X7_isDigit_9 (by decide) ?_ ?_
  · exact sa_sub [] rfl (hj16)
  refine sa_iconst (v := 1) C d_X7_isDigit_12 (by decide) ?_
  refine sa_goto (tgt := 17) C d_X7_isDigit_13 (by decide) ?_
  exact sa_sub [] rfl (hj17 _)
theorem k_X7_isDigit (a1 : Int32) : sa_Met 1 yX7_isDigit cX7_isDigit 1 (some .boolean) (fun ad => [.int a1]) sa_eI (f_X7_isDigit a1) := sa_mk (by decide) (fun ad => Nat.le_of_ble_eq_true rfl) (fun p l e s m args below meth c D ad cA A C => b_X7_isDigit a1 C)
theorem d_X7_takeNumber_0 : decode cX7_takeNumber 0 = .ok (.iconst 0, 1) := by decide +kernel
theorem d_X7_takeNumber_1 : decode cX7_takeNumber 1 = .ok (.istore 4, 2) := by decide +kernel
theorem d_X7_takeNumber_3 : decode cX7_takeNumber 3 = .ok (.iconst 0, 1) := by decide +kernel
theorem d_X7_takeNumber_4 : decode cX7_takeNumber 4 = .ok (.istore 5, 2) := by decide +kernel
theorem d_X7_takeNumber_6 : decode cX7_takeNumber 6 = .ok (.iload 5, 2) := by decide +kernel
theorem d_X7_takeNumber_8 : decode cX7_takeNumber 8 = .ok (.iload_n 1, 1) := by decide +kernel
theorem d_X7_takeNumber_9 : decode cX7_takeNumber 9 = .ok (.if_icmp .ge 44, 3) := by decide +kernel
theorem d_X7_takeNumber_12 : decode cX7_takeNumber 12 = .ok (.aload_n 0, 1) := by decide +kernel
theorem d_X7_takeNumber_13 : decode cX7_takeNumber 13 = .ok (.invokevirtual 25, 3) := by decide +kernel
theorem d_X7_takeNumber_16 : decode cX7_takeNumber 16 = .ok (.invokestatic 29, 3) := by decide +kernel
theorem d_X7_takeNumber_19 : decode cX7_takeNumber 19 = .ok (.ifCond .eq 34, 3) := by decide +kernel
theorem d_X7_takeNumber_22 : decode cX7_takeNumber 22 = .ok (.iload 4, 2) := by decide +kernel
theorem d_X7_takeNumber_24 : decode cX7_takeNumber 24 = .ok (.bipush 10, 2) := by decide +kernel
theorem d_X7_takeNumber_26 : decode cX7_takeNumber 26 = .ok (.imul, 1) := by decide +kernel
theorem d_X7_takeNumber_27 : decode cX7_takeNumber 27 = .ok (.aload_n 0, 1) := by decide +kernel
theorem d_X7_takeNumber_28 : decode cX7_takeNumber 28 = .ok (.invokevirtual 25, 3) := by decide +kernel
theorem d_X7_takeNumber_31 : decode cX7_takeNumber 31 = .ok (.bipush 48, 2) := by decide +kernel
theorem d_X7_takeNumber_33 : decode cX7_takeNumber 33 = .ok (.isub, 1) := by decide +kernel
theorem d_X7_takeNumber_34 : decode cX7_takeNumber 34 = .ok (.iadd, 1) := by decide +kernel
theorem d_X7_takeNumber_35 : decode cX7_takeNumber 35 = .ok (.istore 4, 2) := by decide +kernel
theorem d_X7_takeNumber_37 : decode cX7_takeNumber 37 = .ok (.aload_n 0, 1) := by decide +kernel
theorem d_X7_takeNumber_38 : decode cX7_takeNumber 38 = .ok (.dup, 1) := by decide +kernel
theorem d_X7_takeNumber_39 : decode cX7_takeNumber 39 = .ok (.getfield 19, 3) := by decide +kernel
theorem d_X7_takeNumber_42 : decode cX7_takeNumber 42 = .ok (.iconst 1, 1) := by decide +kernel
theorem d_X7_takeNumber_43 : decode cX7_takeNumber 43 = .ok (.iadd, 1) := by decide +kernel
theorem d_X7_takeNumber_44 : decode cX7_takeNumber 44 = .ok (.putfield 19, 3) := by decide +kernel
theorem d_X7_takeNumber_47 : decode cX7_takeNumber 47 = .ok (.iinc 5 1, 3) := by decide +kernel
theorem d_X7_takeNumber_50 : decode cX7_takeNumber 50 = .ok (.goto (-44), 3) := by decide +kernel
theorem d_X7_takeNumber_53 : decode cX7_takeNumber 53 = .ok (.iload 5, 2) := by decide +kernel
theorem d_X7_takeNumber_55 : decode cX7_takeNumber 55 = .ok (.ifCond .eq 13, 3) := by decide +kernel
theorem d_X7_takeNumber_58 : decode cX7_takeNumber 58 = .ok (.aload_n 0, 1) := by decide +kernel
theorem d_X7_takeNumber_59 : decode cX7_takeNumber 59 = .ok (.invokevirtual 25, 3) := by decide +kernel
theorem d_X7_takeNumber_62 : decode cX7_takeNumber 62 = .ok (.invokestatic 29, 3) := by decide +kernel
theorem d_X7_takeNumber_65 : decode cX7_takeNumber 65 = .ok (.ifCond .eq 5, 3) := by decide +kernel
theorem d_X7_takeNumber_68 : decode cX7_takeNumber 68 = .ok (.iconst (-1), 1) := by decide +kernel
theorem d_X7_takeNumber_69 : decode cX7_takeNumber 69 = .ok (.ireturn, 1) := by decide +kernel
theorem d_X7_takeNumber_70 : decode cX7_takeNumber 70 = .ok (.iload 4, 2) := by decide +kernel
theorem d_X7_takeNumber_72 : decode cX7_takeNumber 72 = .ok (.iload_n 2, 1) := by decide +kernel
theorem d_X7_takeNumber_73 : decode cX7_takeNumber 73 = .ok (.if_icmp .lt 9, 3) := by decide +kernel
theorem d_X7_takeNumber_76 : decode cX7_takeNumber 76 = .ok (.iload 4, 2) := by decide +kernel
theorem d_X7_takeNumber_78 : decode cX7_takeNumber 78 = .ok (.iload_n 3, 1) := by decide +kernel
theorem d_X7_takeNumber_79 : decode cX7_takeNumber 79 = .ok (.if_icmp .le 15, 3) := by decide +kernel
theorem d_X7_takeNumber_82 : decode cX7_takeNumber 82 = .ok (.aload_n 0, 1) := by decide +kernel
theorem d_X7_takeNumber_83 : decode cX7_takeNumber 83 = .ok (.dup, 1) := by decide +kernel
theorem d_X7_takeNumber_84 : decode cX7_takeNumber 84 = .ok (.getfield 19, 3) := by decide +kernel
theorem d_X7_takeNumber_87 : decode cX7_takeNumber 87 = .ok (.iconst 1, 1) := by decide +kernel
theorem d_X7_takeNumber_88 : decode cX7_takeNumber 88 = .ok (.isub, 1) := by decide +kernel
theorem d_X7_takeNumber_89 : decode cX7_takeNumber 89 = .ok (.putfield 19, 3) := by decide +kernel
theorem d_X7_takeNumber_92 : decode cX7_takeNumber 92 = .ok (.iconst (-1), 1) := by decide +kernel
theorem d_X7_takeNumber_93 : decode cX7_takeNumber 93 = .ok (.ireturn, 1) := by decide +kernel
theorem d_X7_takeNumber_94 : decode cX7_takeNumber 94 = .ok (.aload_n 0, 1) := by decide +kernel
theorem d_X7_takeNumber_95 : decode cX7_takeNumber 95 = .ok (.invokevirtual 22, 3) := by decide +kernel
theorem d_X7_takeNumber_98 : decode cX7_takeNumber 98 = .ok (.iload 4, 2) := by decide +kernel
theorem d_X7_takeNumber_100 : decode cX7_takeNumber 100 = .ok (.ireturn, 1) := by decide +kernel
def f_X7_takeNumber (this : Nat) (a1 : Int32) (a2 : Int32) (a3 : Int32) : sa_M Int32 :=
sa_gd 7 this (
sa_let (0 : Int32) fun x1 =>
sa_let (0 : Int32) fun x2 =>
sa_wh2 (fun j6 (x3 : Int32) (x4 : Int32) =>
sa_jn0 (sa_jn0 (sa_ret ((-1) : Int32)) fun j68 =>
if x4 = 0 then
j68
else
sa_bnd (f_X7_sign this) fun v5 =>
sa_bnd (f_X7_isDigit v5) fun v6 =>
if v6 = 0 then
sa_jn0 (sa_bnd (sa_rdI 7 this 2) fun v7 =>
sa_bnd (sa_wrI 7 this 2 (v7 - 1)) fun _ =>
sa_ret ((-1) : Int32)) fun j82 =>
if x3 < a2 then
j82
else
if x3 ≤ a3 then
sa_bnd (f_X7_skipBlanks this) fun _ =>
sa_ret (x3 : Int32)
else
j82
else
j68) fun j53 =>
if a1 ≤ x4 then
j53
else
sa_bnd (f_X7_sign this) fun v8 =>
sa_bnd (f_X7_isDigit v8) fun v9 =>
if v9 = 0 then
j53
else
sa_bnd (f_X7_sign this) fun v10 =>
sa_let (((x3 * 10) + (v10 - 48)) : Int32) fun x11 =>
sa_bnd (sa_rdI 7 this 2) fun v12 =>
sa_bnd (sa_wrI 7 this 2 (v12 + 1)) fun _ =>
sa_let ((x4 + 1) : Int32) fun x13 =>
j6 x11 x13) sa_F x1 x2)
set_option maxHeartbeats 1000000 in
set_option maxRecDepth 10000 in
theorem b_X7_takeNumber {p : Program} {l : Launch} {e : Env} {s : State} {m : MethodId} {args : Array Value} {below : List Frame} {meth : Method} {c : Code} {D : va_G} {ad : Nat → Nat} {cA : FieldType → ClassId} {A : Nat → Prop} (this : Nat) (a1 : Int32) (a2 : Int32) (a3 : Int32) (C : sa_C p s m args meth c cX7_takeNumber RX7 "takeNumber" 6 (some .int) D ad cA A) : sa_Sg p l e s m args below meth c 6 2 D ad cA A sa_eI 0 [(0, .ref (ad this)), (1, .int a1), (2, .int a2), (3, .int a3)] [] (f_X7_takeNumber this a1 a2 a3) := by
  unfold f_X7_takeNumber
  refine sa_gdI ?_
  refine sa_iconst (v := 0) C d_X7_takeNumber_0 (by decide) ?_
  refine sa_topi (fun x1 => ?_)
  refine sa_istore (lv' := [(4, .int x1), (0, .ref (ad this)), (1, .int a1), (2, .int a2), (3, .int a3)]) C d_X7_takeNumber_1 (by decide) rfl ?_
  refine sa_iconst (v := 0) C d_X7_takeNumber_3 (by decide) ?_
  refine sa_topi (fun x2 => ?_)
  refine sa_istore (lv' := [(5, .int x2), (4, .int x1), (0, .ref (ad this)), (1, .int a1), (2, .int a2), (3, .int a3)]) C d_X7_takeNumber_4 (by decide) rfl ?_
  refine sa_sub [2, 3, 4, 5, 1, 0] rfl (sa_loop2 (fun x3 x4 => [(0, .ref (ad this)), (1, .int a1), (2, .int a2), (3, .int a3), (4, .int x3), (5, .int x4)]) (fun x3 x4 => []) (fun j6 hj6 x3 x4 => ?_) _ _ _)
  refine sa_iload C d_X7_takeNumber_6 5 rfl ?_
  refine sa_iload_n C d_X7_takeNumber_8 rfl 1 rfl ?_
  refine sa_join0 53 ([(0, .ref (ad this)), (2, .int a2), (3, .int a3), (4, .int x3), (5, .int x4)]) ([]) (?_) (fun j53 hj53 => ?_)
  · refine sa_iload C d_X7_takeNumber_53 4 rfl ?_
    refine sa_join0 68 ([]) ([]) (?_) (fun j68 hj68 => ?_)
    · refine sa_iconst (v := (-1)) C d_X7_takeNumber_68 (by decide) ?_
      exact sa_iret C d_X7_takeNumber_69
    refine sa_if_eq (tgt := 68) C d_X7_takeNumber_55 (by decide) ?_ ?_
    · exact sa_sub [] rfl (hj68)
    refine sa_aload_n C d_X7_takeNumber_58 rfl 0 rfl ?_
    refine sa_invV (ci := 7) C (k_X7_sign this) q506 ds_X7_sign q115 rfl q504 q505 q629 (gd_X7_sign this) rfl rfl rfl (Nat.le_of_ble_eq_true rfl) (by decide) (by decide) d_X7_takeNumber_59 (fun v5 => ?_)
    refine sa_invS C (k_X7_isDigit v5) q632 ds_X7_isDigit q115 q631 q630 rfl rfl rfl (Nat.le_of_ble_eq_true rfl) (by decide) (by decide) d_X7_takeNumber_62 (fun v6 => ?_)
    refine sa_if_eq (tgt := 70) C d_X7_takeNumber_65 (by decide) ?_ ?_
    · refine sa_iload C d_X7_takeNumber_70 3 rfl ?_
      refine sa_iload_n C d_X7_takeNumber_72 rfl 1 rfl ?_
      refine sa_join0 82 ([(0, .ref (ad this))]) ([]) (?_) (fun j82 hj82 => ?_)
      · refine sa_aload_n C d_X7_takeNumber_82 rfl 0 rfl ?_
        refine sa_dup C d_X7_takeNumber_83 rfl ?_
        refine sa_getI C fd_X7_19 d_X7_takeNumber_84 (fun v7 => ?_)
        refine sa_iconst (v := 1) C d_X7_takeNumber_87 (by decide) ?_
        refine sa_isub C d_X7_takeNumber_88 ?_
        refine sa_putI C fd_X7_19 d_X7_takeNumber_89 ?_
        refine sa_iconst (v := (-1)) C d_X7_takeNumber_92 (by decide) ?_
        exact sa_iret C d_X7_takeNumber_93
      refine sa_icmp_lt (tgt := 82) C d_X7_takeNumber_73 (by decide) ?_ ?_
      · exact sa_sub [0] rfl (hj82)
      refine sa_iload C d_X7_takeNumber_76 3 rfl ?_
      refine sa_iload_n C d_X7_takeNumber_78 rfl 2 rfl ?_
      refine sa_icmp_le (tgt := 94) C d_X7_takeNumber_79 (by decide) ?_ ?_
      · refine sa_aload_n C d_X7_takeNumber_94 rfl 0 rfl ?_
        refine sa_invV (ci := 7) C (k_X7_skipBlanks this) q497 ds_X7_skipBlanks q115 rfl q496 q1 q494 (gd_X7_skipBlanks this) rfl rfl rfl (Nat.le_of_ble_eq_true rfl) (by decide) (by decide) d_X7_takeNumber_95 (fun _ => ?_)
        refine sa_iload C d_X7_takeNumber_98 3 rfl ?_
        exact sa_iret C d_X7_takeNumber_100
      exact sa_sub [0] rfl (hj82)
    exact sa_sub [] rfl (hj68)
  refine sa_icmp_ge (tgt := 53) C d_X7_takeNumber_9 (by decide) ?_ ?_
  · exact sa_sub [0, 2, 3, 4, 5] rfl (hj53)
  refine sa_aload_n C d_X7_takeNumber_12 rfl 0 rfl ?_
  refine sa_invV (ci := 7) C (k_X7_sign this) q506 ds_X7_sign q115 rfl q504 q505 q629 (gd_X7_sign this) rfl rfl rfl (Nat.le_of_ble_eq_true rfl) (by decide) (by decide) d_X7_takeNumber_13 (fun v8 => ?_)
  refine sa_invS C (k_X7_isDigit v8) q632 ds_X7_isDigit q115 q631 q630 rfl rfl rfl (Nat.le_of_ble_eq_true rfl) (by decide) (by decide) d_X7_takeNumber_16 (fun v9 => ?_)
  refine sa_if_eq (tgt := 53) C d_X7_takeNumber_19 (by decide) ?_ ?_
  · exact sa_sub [0, 2, 3, 4, 5] rfl (hj53)
  refine sa_iload C d_X7_takeNumber_22 4 rfl ?_
  refine sa_bipush (v := 10) C d_X7_takeNumber_24 (by decide) ?_
  refine sa_imul C d_X7_takeNumber_26 ?_
  refine sa_aload_n C d_X7_takeNumber_27 rfl 0 rfl ?_
  refine sa_invV (ci := 7) C (k_X7_sign this) q506 ds_X7_sign q115 rfl q504 q505 q629 (gd_X7_sign this) rfl rfl rfl (Nat.le_of_ble_eq_true rfl) (by decide) (by decide) d_X7_takeNumber_28 (fun v10 => ?_)
  refine sa_bipush (v := 48) C d_X7_takeNumber_31 (by decide) ?_
  refine sa_isub C d_X7_takeNumber_33 ?_
  refine sa_iadd C d_X7_takeNumber_34 ?_
  refine sa_topi (fun x11 => ?_)
  refine sa_istore (lv' := [(4, .int x11), (0, .ref (ad this)), (1, .int a1), (2, .int a2), (3, .int a3), (5, .int x4)]) C d_X7_takeNumber_35 (by decide) rfl ?_
  refine sa_aload_n C d_X7_takeNumber_37 rfl 1 rfl ?_
  refine sa_dup C d_X7_takeNumber_38 rfl ?_
  refine sa_getI C fd_X7_19 d_X7_takeNumber_39 (fun v12 => ?_)
  refine sa_iconst (v := 1) C d_X7_takeNumber_42 (by decide) ?_
  refine sa_iadd C d_X7_takeNumber_43 ?_
  refine sa_putI C fd_X7_19 d_X7_takeNumber_44 ?_
  refine sa_iinc C (fun zz => [(5, .int zz), (4, .int x11), (0, .ref (ad this)), (1, .int a1), (2, .int a2), (3, .int a3)]) d_X7_takeNumber_47 5 rfl rfl (by decide) (fun _ => rfl) (fun x13 => ?_)
  refine sa_goto (tgt := 6) C d_X7_takeNumber_50 (by decide) ?_
  exact sa_sub [2, 3, 4, 5, 1, 0] rfl (hj6 _ _)
theorem k_X7_takeNumber (this : Nat) (a1 : Int32) (a2 : Int32) (a3 : Int32) : sa_Met 2 yX7_takeNumber cX7_takeNumber 6 (some .int) (fun ad => [.ref (ad this), .int a1, .int a2, .int a3]) sa_eI (f_X7_takeNumber this a1 a2 a3) := sa_mk (by decide) (fun ad => Nat.le_of_ble_eq_true rfl) (fun p l e s m args below meth c D ad cA A C => b_X7_takeNumber this a1 a2 a3 C)
theorem gd_X7_takeNumber (this : Nat) (a1 : Int32) (a2 : Int32) (a3 : Int32) (σ : sa_St) (r : Int32) (τ : sa_St) (h : f_X7_takeNumber this a1 a2 a3 σ = some (r, τ)) : sa_sh this = some (.inl 7) := sa_gd_ok h
theorem d_X7_isEnded_0 : decode cX7_isEnded 0 = .ok (.aload_n 0, 1) := by decide +kernel
theorem d_X7_isEnded_1 : decode cX7_isEnded 1 = .ok (.getfield 19, 3) := by decide +kernel
theorem d_X7_isEnded_4 : decode cX7_isEnded 4 = .ok (.aload_n 0, 1) := by decide +kernel
theorem d_X7_isEnded_5 : decode cX7_isEnded 5 = .ok (.getfield 15, 3) := by decide +kernel
theorem d_X7_isEnded_8 : decode cX7_isEnded 8 = .ok (.if_icmp .lt 7, 3) := by decide +kernel
theorem d_X7_isEnded_11 : decode cX7_isEnded 11 = .ok (.iconst 1, 1) := by decide +kernel
theorem d_X7_isEnded_12 : decode cX7_isEnded 12 = .ok (.goto 4, 3) := by decide +kernel
theorem d_X7_isEnded_15 : decode cX7_isEnded 15 = .ok (.iconst 0, 1) := by decide +kernel
theorem d_X7_isEnded_16 : decode cX7_isEnded 16 = .ok (.ireturn, 1) := by decide +kernel
def f_X7_isEnded (this : Nat) : sa_M Int32 :=
sa_gd 7 this (
sa_bnd (sa_rdI 7 this 2) fun v1 =>
sa_bnd (sa_rdI 7 this 1) fun v2 =>
sa_jn1 (fun (y3 : Int32) =>
sa_retZ y3) fun j16 =>
if v1 < v2 then
j16 0
else
j16 1)
set_option maxHeartbeats 1000000 in
set_option maxRecDepth 10000 in
theorem b_X7_isEnded {p : Program} {l : Launch} {e : Env} {s : State} {m : MethodId} {args : Array Value} {below : List Frame} {meth : Method} {c : Code} {D : va_G} {ad : Nat → Nat} {cA : FieldType → ClassId} {A : Nat → Prop} (this : Nat) (C : sa_C p s m args meth c cX7_isEnded RX7 "isEnded" 1 (some .boolean) D ad cA A) : sa_Sg p l e s m args below meth c 1 1 D ad cA A sa_eI 0 [(0, .ref (ad this))] [] (f_X7_isEnded this) := by
  unfold f_X7_isEnded
  refine sa_gdI ?_
  refine sa_aload_n C d_X7_isEnded_0 rfl 0 rfl ?_
  refine sa_getI C fd_X7_19 d_X7_isEnded_1 (fun v1 => ?_)
  refine sa_aload_n C d_X7_isEnded_4 rfl 0 rfl ?_
  refine sa_getI C fd_X7_15 d_X7_isEnded_5 (fun v2 => ?_)
  refine sa_join1 16 (fun y3 => []) (fun y3 => [.int y3]) (fun y3 => ?_) (fun j16 hj16 => ?_)
  · exact sa_zret C d_X7_isEnded_16
  refine sa_icmp_lt (tgt := 15) C d_X7_isEnded_8 (by decide) ?_ ?_
  · refine sa_iconst (v := 0) C d_X7_isEnded_15 (by decide) ?_
    exact sa_sub [] rfl (hj16 _)
  refine sa_iconst (v := 1) C d_X7_isEnded_11 (by decide) ?_
  refine sa_goto (tgt := 16) C d_X7_isEnded_12 (by decide) ?_
  exact sa_sub [] rfl (hj16 _)
theorem k_X7_isEnded (this : Nat) : sa_Met 1 yX7_isEnded cX7_isEnded 1 (some .boolean) (fun ad => [.ref (ad this)]) sa_eI (f_X7_isEnded this) := sa_mk (by decide) (fun ad => Nat.le_of_ble_eq_true rfl) (fun p l e s m args below meth c D ad cA A C => b_X7_isEnded this C)
theorem gd_X7_isEnded (this : Nat) (σ : sa_St) (r : Int32) (τ : sa_St) (h : f_X7_isEnded this σ = some (r, τ)) : sa_sh this = some (.inl 7) := sa_gd_ok h
theorem d_X7_take_0 : decode cX7_take 0 = .ok (.aload_n 0, 1) := by decide +kernel
theorem d_X7_take_1 : decode cX7_take 1 = .ok (.invokevirtual 25, 3) := by decide +kernel
theorem d_X7_take_4 : decode cX7_take 4 = .ok (.iload_n 1, 1) := by decide +kernel
theorem d_X7_take_5 : decode cX7_take 5 = .ok (.if_icmp .eq 5, 3) := by decide +kernel
theorem d_X7_take_8 : decode cX7_take 8 = .ok (.iconst 0, 1) := by decide +kernel
theorem d_X7_take_9 : decode cX7_take 9 = .ok (.ireturn, 1) := by decide +kernel
theorem d_X7_take_10 : decode cX7_take 10 = .ok (.aload_n 0, 1) := by decide +kernel
theorem d_X7_take_11 : decode cX7_take 11 = .ok (.dup, 1) := by decide +kernel
theorem d_X7_take_12 : decode cX7_take 12 = .ok (.getfield 19, 3) := by decide +kernel
theorem d_X7_take_15 : decode cX7_take 15 = .ok (.iconst 1, 1) := by decide +kernel
theorem d_X7_take_16 : decode cX7_take 16 = .ok (.iadd, 1) := by decide +kernel
theorem d_X7_take_17 : decode cX7_take 17 = .ok (.putfield 19, 3) := by decide +kernel
theorem d_X7_take_20 : decode cX7_take 20 = .ok (.aload_n 0, 1) := by decide +kernel
theorem d_X7_take_21 : decode cX7_take 21 = .ok (.invokevirtual 22, 3) := by decide +kernel
theorem d_X7_take_24 : decode cX7_take 24 = .ok (.iconst 1, 1) := by decide +kernel
theorem d_X7_take_25 : decode cX7_take 25 = .ok (.ireturn, 1) := by decide +kernel
def f_X7_take (this : Nat) (a1 : Int32) : sa_M Int32 :=
sa_gd 7 this (
sa_bnd (f_X7_sign this) fun v1 =>
if v1 = a1 then
sa_bnd (sa_rdI 7 this 2) fun v2 =>
sa_bnd (sa_wrI 7 this 2 (v2 + 1)) fun _ =>
sa_bnd (f_X7_skipBlanks this) fun _ =>
sa_retZ 1
else
sa_retZ 0)
set_option maxHeartbeats 1000000 in
set_option maxRecDepth 10000 in
theorem b_X7_take {p : Program} {l : Launch} {e : Env} {s : State} {m : MethodId} {args : Array Value} {below : List Frame} {meth : Method} {c : Code} {D : va_G} {ad : Nat → Nat} {cA : FieldType → ClassId} {A : Nat → Prop} (this : Nat) (a1 : Int32) (C : sa_C p s m args meth c cX7_take RX7 "take" 2 (some .boolean) D ad cA A) : sa_Sg p l e s m args below meth c 2 2 D ad cA A sa_eI 0 [(0, .ref (ad this)), (1, .int a1)] [] (f_X7_take this a1) := by
  unfold f_X7_take
  refine sa_gdI ?_
  refine sa_aload_n C d_X7_take_0 rfl 0 rfl ?_
  refine sa_invV (ci := 7) C (k_X7_sign this) q506 ds_X7_sign q115 rfl q504 q505 q629 (gd_X7_sign this) rfl rfl rfl (Nat.le_of_ble_eq_true rfl) (by decide) (by decide) d_X7_take_1 (fun v1 => ?_)
  refine sa_iload_n C d_X7_take_4 rfl 1 rfl ?_
  refine sa_icmp_eq (tgt := 10) C d_X7_take_5 (by decide) ?_ ?_
  · refine sa_aload_n C d_X7_take_10 rfl 0 rfl ?_
    refine sa_dup C d_X7_take_11 rfl ?_
    refine sa_getI C fd_X7_19 d_X7_take_12 (fun v2 => ?_)
    refine sa_iconst (v := 1) C d_X7_take_15 (by decide) ?_
    refine sa_iadd C d_X7_take_16 ?_
    refine sa_putI C fd_X7_19 d_X7_take_17 ?_
    refine sa_aload_n C d_X7_take_20 rfl 0 rfl ?_
    refine sa_invV (ci := 7) C (k_X7_skipBlanks this) q497 ds_X7_skipBlanks q115 rfl q496 q1 q494 (gd_X7_skipBlanks this) rfl rfl rfl (Nat.le_of_ble_eq_true rfl) (by decide) (by decide) d_X7_take_21 (fun _ => ?_)
    refine sa_iconst (v := 1) C d_X7_take_24 (by decide) ?_
    exact sa_zret C d_X7_take_25
  refine sa_iconst (v := 0) C d_X7_take_8 (by decide) ?_
  exact sa_zret C d_X7_take_9
theorem k_X7_take (this : Nat) (a1 : Int32) : sa_Met 2 yX7_take cX7_take 2 (some .boolean) (fun ad => [.ref (ad this), .int a1]) sa_eI (f_X7_take this a1) := sa_mk (by decide) (fun ad => Nat.le_of_ble_eq_true rfl) (fun p l e s m args below meth c D ad cA A C => b_X7_take this a1 C)
theorem gd_X7_take (this : Nat) (a1 : Int32) (σ : sa_St) (r : Int32) (τ : sa_St) (h : f_X7_take this a1 σ = some (r, τ)) : sa_sh this = some (.inl 7) := sa_gd_ok h
theorem d_X7_takeDigit_0 : decode cX7_takeDigit 0 = .ok (.aload_n 0, 1) := by decide +kernel
theorem d_X7_takeDigit_1 : decode cX7_takeDigit 1 = .ok (.invokevirtual 25, 3) := by decide +kernel
theorem d_X7_takeDigit_4 : decode cX7_takeDigit 4 = .ok (.istore_n 1, 1) := by decide +kernel
theorem d_X7_takeDigit_5 : decode cX7_takeDigit 5 = .ok (.iload_n 1, 1) := by decide +kernel
theorem d_X7_takeDigit_6 : decode cX7_takeDigit 6 = .ok (.invokestatic 29, 3) := by decide +kernel
theorem d_X7_takeDigit_9 : decode cX7_takeDigit 9 = .ok (.ifCond .ne 5, 3) := by decide +kernel
theorem d_X7_takeDigit_12 : decode cX7_takeDigit 12 = .ok (.iconst (-1), 1) := by decide +kernel
theorem d_X7_takeDigit_13 : decode cX7_takeDigit 13 = .ok (.ireturn, 1) := by decide +kernel
theorem d_X7_takeDigit_14 : decode cX7_takeDigit 14 = .ok (.aload_n 0, 1) := by decide +kernel
theorem d_X7_takeDigit_15 : decode cX7_takeDigit 15 = .ok (.invokevirtual 33, 3) := by decide +kernel
theorem d_X7_takeDigit_18 : decode cX7_takeDigit 18 = .ok (.iload_n 1, 1) := by decide +kernel
theorem d_X7_takeDigit_19 : decode cX7_takeDigit 19 = .ok (.bipush 48, 2) := by decide +kernel
theorem d_X7_takeDigit_21 : decode cX7_takeDigit 21 = .ok (.isub, 1) := by decide +kernel
theorem d_X7_takeDigit_22 : decode cX7_takeDigit 22 = .ok (.ireturn, 1) := by decide +kernel
def f_X7_takeDigit (this : Nat) : sa_M Int32 :=
sa_gd 7 this (
sa_bnd (f_X7_sign this) fun v1 =>
sa_bnd (f_X7_isDigit v1) fun v2 =>
if ¬ v2 = 0 then
sa_bnd (f_X7_pass this) fun _ =>
sa_ret ((v1 - 48) : Int32)
else
sa_ret ((-1) : Int32))
set_option maxHeartbeats 1000000 in
set_option maxRecDepth 10000 in
theorem b_X7_takeDigit {p : Program} {l : Launch} {e : Env} {s : State} {m : MethodId} {args : Array Value} {below : List Frame} {meth : Method} {c : Code} {D : va_G} {ad : Nat → Nat} {cA : FieldType → ClassId} {A : Nat → Prop} (this : Nat) (C : sa_C p s m args meth c cX7_takeDigit RX7 "takeDigit" 2 (some .int) D ad cA A) : sa_Sg p l e s m args below meth c 2 3 D ad cA A sa_eI 0 [(0, .ref (ad this))] [] (f_X7_takeDigit this) := by
  unfold f_X7_takeDigit
  refine sa_gdI ?_
  refine sa_aload_n C d_X7_takeDigit_0 rfl 0 rfl ?_
  refine sa_invV (ci := 7) C (k_X7_sign this) q506 ds_X7_sign q115 rfl q504 q505 q629 (gd_X7_sign this) rfl rfl rfl (Nat.le_of_ble_eq_true rfl) (by decide) (by decide) d_X7_takeDigit_1 (fun v1 => ?_)
  refine sa_istore_n (lv' := [(1, .int v1), (0, .ref (ad this))]) C d_X7_takeDigit_4 rfl (by decide) rfl ?_
  refine sa_iload_n C d_X7_takeDigit_5 rfl 0 rfl ?_
  refine sa_invS C (k_X7_isDigit v1) q632 ds_X7_isDigit q115 q631 q630 rfl rfl rfl (Nat.le_of_ble_eq_true rfl) (by decide) (by decide) d_X7_takeDigit_6 (fun v2 => ?_)
  refine sa_if_ne (tgt := 14) C d_X7_takeDigit_9 (by decide) ?_ ?_
  · refine sa_aload_n C d_X7_takeDigit_14 rfl 1 rfl ?_
    refine sa_invV (ci := 7) C (k_X7_pass this) q589 ds_X7_pass q115 rfl q587 q588 q723 (gd_X7_pass this) rfl rfl rfl (Nat.le_of_ble_eq_true rfl) (by decide) (by decide) d_X7_takeDigit_15 (fun _ => ?_)
    refine sa_iload_n C d_X7_takeDigit_18 rfl 0 rfl ?_
    refine sa_bipush (v := 48) C d_X7_takeDigit_19 (by decide) ?_
    refine sa_isub C d_X7_takeDigit_21 ?_
    exact sa_iret C d_X7_takeDigit_22
  refine sa_iconst (v := (-1)) C d_X7_takeDigit_12 (by decide) ?_
  exact sa_iret C d_X7_takeDigit_13
theorem k_X7_takeDigit (this : Nat) : sa_Met 3 yX7_takeDigit cX7_takeDigit 2 (some .int) (fun ad => [.ref (ad this)]) sa_eI (f_X7_takeDigit this) := sa_mk (by decide) (fun ad => Nat.le_of_ble_eq_true rfl) (fun p l e s m args below meth c D ad cA A C => b_X7_takeDigit this C)
theorem gd_X7_takeDigit (this : Nat) (σ : sa_St) (r : Int32) (τ : sa_St) (h : f_X7_takeDigit this σ = some (r, τ)) : sa_sh this = some (.inl 7) := sa_gd_ok h
theorem d_X7_signsOf_0 : decode cX7_signsOf 0 = .ok (.iconst 0, 1) := by decide +kernel
theorem d_X7_signsOf_1 : decode cX7_signsOf 1 = .ok (.istore_n 1, 1) := by decide +kernel
theorem d_X7_signsOf_2 : decode cX7_signsOf 2 = .ok (.bipush 24, 2) := by decide +kernel
theorem d_X7_signsOf_4 : decode cX7_signsOf 4 = .ok (.istore_n 2, 1) := by decide +kernel
theorem d_X7_signsOf_5 : decode cX7_signsOf 5 = .ok (.iload_n 2, 1) := by decide +kernel
theorem d_X7_signsOf_6 : decode cX7_signsOf 6 = .ok (.ifCond .lt 22, 3) := by decide +kernel
theorem d_X7_signsOf_9 : decode cX7_signsOf 9 = .ok (.iload_n 0, 1) := by decide +kernel
theorem d_X7_signsOf_10 : decode cX7_signsOf 10 = .ok (.iload_n 2, 1) := by decide +kernel
theorem d_X7_signsOf_11 : decode cX7_signsOf 11 = .ok (.iushr, 1) := by decide +kernel
theorem d_X7_signsOf_12 : decode cX7_signsOf 12 = .ok (.sipush 255, 3) := by decide +kernel
theorem d_X7_signsOf_15 : decode cX7_signsOf 15 = .ok (.iand, 1) := by decide +kernel
theorem d_X7_signsOf_16 : decode cX7_signsOf 16 = .ok (.ifCond .eq 6, 3) := by decide +kernel
theorem d_X7_signsOf_19 : decode cX7_signsOf 19 = .ok (.iinc 1 1, 3) := by decide +kernel
theorem d_X7_signsOf_22 : decode cX7_signsOf 22 = .ok (.iinc 2 (-8), 3) := by decide +kernel
theorem d_X7_signsOf_25 : decode cX7_signsOf 25 = .ok (.goto (-20), 3) := by decide +kernel
theorem d_X7_signsOf_28 : decode cX7_signsOf 28 = .ok (.iload_n 1, 1) := by decide +kernel
theorem d_X7_signsOf_29 : decode cX7_signsOf 29 = .ok (.ireturn, 1) := by decide +kernel
def f_X7_signsOf (a1 : Int32) : sa_M Int32 :=
sa_let (0 : Int32) fun x1 =>
sa_let (24 : Int32) fun x2 =>
sa_wh2 (fun j5 (x3 : Int32) (x4 : Int32) =>
if x4 < 0 then
sa_ret (x3 : Int32)
else
sa_jn1 (fun (x5 : Int32) =>
sa_let ((x4 + (-8)) : Int32) fun x6 =>
j5 x5 x6) fun j22 =>
if (((a1.toUInt32 >>> (x4.toUInt32 &&& Int32.toUInt32 31)).toInt32) &&& 255) = 0 then
j22 x3
else
sa_let ((x3 + 1) : Int32) fun x7 =>
j22 x7) sa_F x1 x2
set_option maxHeartbeats 1000000 in
set_option maxRecDepth 10000 in
theorem b_X7_signsOf {p : Program} {l : Launch} {e : Env} {s : State} {m : MethodId} {args : Array Value} {below : List Frame} {meth : Method} {c : Code} {D : va_G} {ad : Nat → Nat} {cA : FieldType → ClassId} {A : Nat → Prop} (a1 : Int32) (C : sa_C p s m args meth c cX7_signsOf RX7 "signsOf" 3 (some .int) D ad cA A) : sa_Sg p l e s m args below meth c 3 1 D ad cA A sa_eI 0 [(0, .int a1)] [] (f_X7_signsOf a1) := by
  unfold f_X7_signsOf
  refine sa_iconst (v := 0) C d_X7_signsOf_0 (by decide) ?_
  refine sa_topi (fun x1 => ?_)
  refine sa_istore_n (lv' := [(1, .int x1), (0, .int a1)]) C d_X7_signsOf_1 rfl (by decide) rfl ?_
  refine sa_bipush (v := 24) C d_X7_signsOf_2 (by decide) ?_
  refine sa_topi (fun x2 => ?_)
  refine sa_istore_n (lv' := [(2, .int x2), (1, .int x1), (0, .int a1)]) C d_X7_signsOf_4 rfl (by decide) rfl ?_
  refine sa_sub [2, 1, 0] rfl (sa_loop2 (fun x3 x4 => [(0, .int a1), (1, .int x3), (2, .int x4)]) (fun x3 x4 => []) (fun j5 hj5 x3 x4 => ?_) _ _ _)
  refine sa_iload_n C d_X7_signsOf_5 rfl 2 rfl ?_
  refine sa_if_lt (tgt := 28) C d_X7_signsOf_6 (by decide) ?_ ?_
  · refine sa_iload_n C d_X7_signsOf_28 rfl 1 rfl ?_
    exact sa_iret C d_X7_signsOf_29
  refine sa_iload_n C d_X7_signsOf_9 rfl 0 rfl ?_
  refine sa_iload_n C d_X7_signsOf_10 rfl 2 rfl ?_
  refine sa_iushr C d_X7_signsOf_11 ?_
  refine sa_sipush (v := 255) C d_X7_signsOf_12 (by decide) ?_
  refine sa_iand C d_X7_signsOf_15 ?_
  refine sa_join1 22 (fun x5 => [(0, .int a1), (1, .int x5), (2, .int x4)]) (fun x5 => []) (fun x5 => ?_) (fun j22 hj22 => ?_)
  · refine sa_iinc C (fun zz => [(2, .int zz), (0, .int a1), (1, .int x5)]) d_X7_signsOf_22 2 rfl rfl (by decide) (fun _ => rfl) (fun x6 => ?_)
    refine sa_goto (tgt := 5) C d_X7_signsOf_25 (by decide) ?_
    exact sa_sub [1, 2, 0] rfl (hj5 _ _)
  refine sa_if_eq (tgt := 22) C d_X7_signsOf_16 (by decide) ?_ ?_
  · exact sa_sub [0, 1, 2] rfl (hj22 _)
  refine sa_iinc C (fun zz => [(1, .int zz), (0, .int a1), (2, .int x4)]) d_X7_signsOf_19 1 rfl rfl (by decide) (fun _ => rfl) (fun x7 => ?_)
  exact sa_sub [1, 0, 2] rfl (hj22 _)
theorem k_X7_signsOf (a1 : Int32) : sa_Met 1 yX7_signsOf cX7_signsOf 3 (some .int) (fun ad => [.int a1]) sa_eI (f_X7_signsOf a1) := sa_mk (by decide) (fun ad => Nat.le_of_ble_eq_true rfl) (fun p l e s m args below meth c D ad cA A C => b_X7_signsOf a1 C)
theorem d_X7_add_0 : decode cX7_add 0 = .ok (.bipush 24, 2) := by decide +kernel
theorem d_X7_add_2 : decode cX7_add 2 = .ok (.istore_n 2, 1) := by decide +kernel
theorem d_X7_add_3 : decode cX7_add 3 = .ok (.iload_n 2, 1) := by decide +kernel
theorem d_X7_add_4 : decode cX7_add 4 = .ok (.ifCond .lt 51, 3) := by decide +kernel
theorem d_X7_add_7 : decode cX7_add 7 = .ok (.iload_n 1, 1) := by decide +kernel
theorem d_X7_add_8 : decode cX7_add 8 = .ok (.iload_n 2, 1) := by decide +kernel
theorem d_X7_add_9 : decode cX7_add 9 = .ok (.iushr, 1) := by decide +kernel
theorem d_X7_add_10 : decode cX7_add 10 = .ok (.sipush 255, 3) := by decide +kernel
theorem d_X7_add_13 : decode cX7_add 13 = .ok (.iand, 1) := by decide +kernel
theorem d_X7_add_14 : decode cX7_add 14 = .ok (.istore_n 3, 1) := by decide +kernel
theorem d_X7_add_15 : decode cX7_add 15 = .ok (.iload_n 3, 1) := by decide +kernel
theorem d_X7_add_16 : decode cX7_add 16 = .ok (.ifCond .eq 33, 3) := by decide +kernel
theorem d_X7_add_19 : decode cX7_add 19 = .ok (.aload_n 0, 1) := by decide +kernel
theorem d_X7_add_20 : decode cX7_add 20 = .ok (.getfield 15, 3) := by decide +kernel
theorem d_X7_add_23 : decode cX7_add 23 = .ok (.sipush 240, 3) := by decide +kernel
theorem d_X7_add_26 : decode cX7_add 26 = .ok (.if_icmp .ge 23, 3) := by decide +kernel
theorem d_X7_add_29 : decode cX7_add 29 = .ok (.aload_n 0, 1) := by decide +kernel
theorem d_X7_add_30 : decode cX7_add 30 = .ok (.getfield 11, 3) := by decide +kernel
theorem d_X7_add_33 : decode cX7_add 33 = .ok (.aload_n 0, 1) := by decide +kernel
theorem d_X7_add_34 : decode cX7_add 34 = .ok (.getfield 15, 3) := by decide +kernel
theorem d_X7_add_37 : decode cX7_add 37 = .ok (.iload_n 3, 1) := by decide +kernel
theorem d_X7_add_38 : decode cX7_add 38 = .ok (.iastore, 1) := by decide +kernel
theorem d_X7_add_39 : decode cX7_add 39 = .ok (.aload_n 0, 1) := by decide +kernel
theorem d_X7_add_40 : decode cX7_add 40 = .ok (.dup, 1) := by decide +kernel
theorem d_X7_add_41 : decode cX7_add 41 = .ok (.getfield 15, 3) := by decide +kernel
theorem d_X7_add_44 : decode cX7_add 44 = .ok (.iconst 1, 1) := by decide +kernel
theorem d_X7_add_45 : decode cX7_add 45 = .ok (.iadd, 1) := by decide +kernel
theorem d_X7_add_46 : decode cX7_add 46 = .ok (.putfield 15, 3) := by decide +kernel
theorem d_X7_add_49 : decode cX7_add 49 = .ok (.iinc 2 (-8), 3) := by decide +kernel
theorem d_X7_add_52 : decode cX7_add 52 = .ok (.goto (-49), 3) := by decide +kernel
theorem d_X7_add_55 : decode cX7_add 55 = .ok (.return_, 1) := by decide +kernel
def f_X7_add (this : Nat) (a1 : Int32) : sa_M Unit :=
sa_gd 7 this (
sa_let (24 : Int32) fun x1 =>
sa_wh1 (fun j3 (x2 : Int32) =>
if x2 < 0 then
sa_ret ()
else
sa_let ((((a1.toUInt32 >>> (x2.toUInt32 &&& Int32.toUInt32 31)).toInt32) &&& 255) : Int32) fun x3 =>
sa_jn0 (sa_let ((x2 + (-8)) : Int32) fun x4 =>
j3 x4) fun j49 =>
if x3 = 0 then
j49
else
sa_bnd (sa_rdI 7 this 1) fun v5 =>
if 240 ≤ v5 then
j49
else
sa_bnd (sa_rdR 7 this 0) fun v6 =>
sa_bnd (sa_rdI 7 this 1) fun v7 =>
sa_bnd (sa_stI v6 v7 x3) fun _ =>
sa_bnd (sa_rdI 7 this 1) fun v8 =>
sa_bnd (sa_wrI 7 this 1 (v8 + 1)) fun _ =>
j49) sa_F x1)
set_option maxHeartbeats 1000000 in
set_option maxRecDepth 10000 in
theorem b_X7_add {p : Program} {l : Launch} {e : Env} {s : State} {m : MethodId} {args : Array Value} {below : List Frame} {meth : Method} {c : Code} {D : va_G} {ad : Nat → Nat} {cA : FieldType → ClassId} {A : Nat → Prop} (this : Nat) (a1 : Int32) (C : sa_C p s m args meth c cX7_add RX7 "add" 4 none D ad cA A) : sa_Sg p l e s m args below meth c 4 1 D ad cA A sa_eV 0 [(0, .ref (ad this)), (1, .int a1)] [] (f_X7_add this a1) := by
  unfold f_X7_add
  refine sa_gdI ?_
  refine sa_bipush (v := 24) C d_X7_add_0 (by decide) ?_
  refine sa_topi (fun x1 => ?_)
  refine sa_istore_n (lv' := [(2, .int x1), (0, .ref (ad this)), (1, .int a1)]) C d_X7_add_2 rfl (by decide) rfl ?_
  refine sa_sub [1, 2, 0] rfl (sa_loop1 (fun x2 => [(0, .ref (ad this)), (1, .int a1), (2, .int x2)]) (fun x2 => []) (fun j3 hj3 x2 => ?_) _ _)
  refine sa_iload_n C d_X7_add_3 rfl 2 rfl ?_
  refine sa_if_lt (tgt := 55) C d_X7_add_4 (by decide) ?_ ?_
  · exact sa_vret C d_X7_add_55
  refine sa_iload_n C d_X7_add_7 rfl 1 rfl ?_
  refine sa_iload_n C d_X7_add_8 rfl 2 rfl ?_
  refine sa_iushr C d_X7_add_9 ?_
  refine sa_sipush (v := 255) C d_X7_add_10 (by decide) ?_
  refine sa_iand C d_X7_add_13 ?_
  refine sa_topi (fun x3 => ?_)
  refine sa_istore_n (lv' := [(3, .int x3), (0, .ref (ad this)), (1, .int a1), (2, .int x2)]) C d_X7_add_14 rfl (by decide) rfl ?_
  refine sa_iload_n C d_X7_add_15 rfl 0 rfl ?_
  refine sa_join0 49 ([(0, .ref (ad this)), (1, .int a1), (2, .int x2)]) ([]) (?_) (fun j49 hj49 => ?_)
  · refine sa_iinc C (fun zz => [(2, .int zz), (0, .ref (ad this)), (1, .int a1)]) d_X7_add_49 2 rfl rfl (by decide) (fun _ => rfl) (fun x4 => ?_)
    refine sa_goto (tgt := 3) C d_X7_add_52 (by decide) ?_
    exact sa_sub [1, 2, 0] rfl (hj3 _)
  refine sa_if_eq (tgt := 49) C d_X7_add_16 (by decide) ?_ ?_
  · exact sa_sub [1, 2, 3] rfl (hj49)
  refine sa_aload_n C d_X7_add_19 rfl 1 rfl ?_
  refine sa_getI C fd_X7_15 d_X7_add_20 (fun v5 => ?_)
  refine sa_sipush (v := 240) C d_X7_add_23 (by decide) ?_
  refine sa_icmp_ge (tgt := 49) C d_X7_add_26 (by decide) ?_ ?_
  · exact sa_sub [1, 2, 3] rfl (hj49)
  refine sa_aload_n C d_X7_add_29 rfl 1 rfl ?_
  refine sa_getR C fd_X7_11 rfl d_X7_add_30 (fun v6 => ?_)
  refine sa_aload_n C d_X7_add_33 rfl 1 rfl ?_
  refine sa_getI C fd_X7_15 d_X7_add_34 (fun v7 => ?_)
  refine sa_iload_n C d_X7_add_37 rfl 0 rfl ?_
  refine sa_iast C d_X7_add_38 ?_
  refine sa_aload_n C d_X7_add_39 rfl 1 rfl ?_
  refine sa_dup C d_X7_add_40 rfl ?_
  refine sa_getI C fd_X7_15 d_X7_add_41 (fun v8 => ?_)
  refine sa_iconst (v := 1) C d_X7_add_44 (by decide) ?_
  refine sa_iadd C d_X7_add_45 ?_
  refine sa_putI C fd_X7_15 d_X7_add_46 ?_
  exact sa_sub [1, 2, 3] rfl (hj49)
theorem k_X7_add (this : Nat) (a1 : Int32) : sa_Met 1 yX7_add cX7_add 4 none (fun ad => [.ref (ad this), .int a1]) sa_eV (f_X7_add this a1) := sa_mk (by decide) (fun ad => Nat.le_of_ble_eq_true rfl) (fun p l e s m args below meth c D ad cA A C => b_X7_add this a1 C)
theorem gd_X7_add (this : Nat) (a1 : Int32) (σ : sa_St) (r : Unit) (τ : sa_St) (h : f_X7_add this a1 σ = some (r, τ)) : sa_sh this = some (.inl 7) := sa_gd_ok h
