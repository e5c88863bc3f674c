theorem d_X5_forget_0 : decode cX5_forget 0 = .ok (.aload_n 0, 1) := by decide +kernel
theorem d_X5_forget_1 : decode cX5_forget 1 = .ok (.iconst 0, 1) := by decide +kernel
theorem d_X5_forget_2 : decode cX5_forget 2 = .ok (.putfield 22, 3) := by decide +kernel
theorem d_X5_forget_5 : decode cX5_forget 5 = .ok (.aload_n 0, 1) := by decide +kernel
theorem d_X5_forget_6 : decode cX5_forget 6 = .ok (.iconst 0, 1) := by decide +kernel
theorem d_X5_forget_7 : decode cX5_forget 7 = .ok (.putfield 26, 3) := by decide +kernel
theorem d_X5_forget_10 : decode cX5_forget 10 = .ok (.return_, 1) := by decide +kernel
def f_X5_forget (this : Nat) : sa_M Unit :=
sa_gd 5 this (
sa_bnd (sa_wrI 5 this 4 0) fun _ =>
sa_bnd (sa_wrZ 5 this 2 0) fun _ =>
sa_ret ())
set_option maxHeartbeats 1000000 in
set_option maxRecDepth 10000 in
theorem b_X5_forget {p : Program} {l : Launch} {e : Env} {s : State} {m : MethodId} {args : Array Value} {below : List Frame} {meth : Method} {c : Code} {D : va_G} {ad : Nat → Nat} {cA : FieldType → ClassId} {A : Nat → Prop} (this : Nat) (C : sa_C p s m args meth c cX5_forget RX5 "forget" 1 none D ad cA A) : sa_Sg p l e s m args below meth c 1 1 D ad cA A sa_eV 0 [(0, .ref (ad this))] [] (f_X5_forget this) := by
  unfold f_X5_forget
  refine sa_gdI ?_
  refine sa_aload_n C d_X5_forget_0 rfl 0 rfl ?_
  refine sa_iconst (v := 0) C d_X5_forget_1 (by decide) ?_
  refine sa_putI C fd_X5_22 d_X5_forget_2 ?_
  refine sa_aload_n C d_X5_forget_5 rfl 0 rfl ?_
  refine sa_iconst (v := 0) C d_X5_forget_6 (by decide) ?_
  refine sa_putZ C fd_X5_26 d_X5_forget_7 ?_
  exact sa_vret C d_X5_forget_10
theorem k_X5_forget (this : Nat) : sa_Met 1 yX5_forget cX5_forget 1 none (fun ad => [.ref (ad this)]) sa_eV (f_X5_forget this) := sa_mk (by decide) (fun ad => Nat.le_of_ble_eq_true rfl) (fun p l e s m args below meth c D ad cA A C => b_X5_forget this C)
theorem gd_X5_forget (this : Nat) (σ : sa_St) (r : Unit) (τ : sa_St) (h : f_X5_forget this σ = some (r, τ)) : sa_sh this = some (.inl 5) := sa_gd_ok h
theorem d_X5_note_0 : decode cX5_note 0 = .ok (.aload_n 0, 1) := by decide +kernel
theorem d_X5_note_1 : decode cX5_note 1 = .ok (.getfield 13, 3) := by decide +kernel
theorem d_X5_note_4 : decode cX5_note 4 = .ok (.aload_n 0, 1) := by decide +kernel
theorem d_X5_note_5 : decode cX5_note 5 = .ok (.getfield 30, 3) := by decide +kernel
theorem d_X5_note_8 : decode cX5_note 8 = .ok (.aaload, 1) := by decide +kernel
theorem d_X5_note_9 : decode cX5_note 9 = .ok (.aload_n 1, 1) := by decide +kernel
theorem d_X5_note_10 : decode cX5_note 10 = .ok (.invokevirtual 33, 3) := by decide +kernel
theorem d_X5_note_13 : decode cX5_note 13 = .ok (.return_, 1) := by decide +kernel
def f_X5_note (this : Nat) (a1 : Nat) : sa_M Unit :=
sa_gd 5 this (
sa_bnd (sa_rdR 5 this 0) fun v1 =>
sa_bnd (sa_rdI 5 this 3) fun v2 =>
sa_bnd (sa_ldR (.object "SaltArmy$Camp") v1 v2) fun v3 =>
sa_bnd (f_X0_copyFrom v3 a1) fun _ =>
sa_ret ())
set_option maxHeartbeats 1000000 in
set_option maxRecDepth 10000 in
theorem b_X5_note {p : Program} {l : Launch} {e : Env} {s : State} {m : MethodId} {args : Array Value} {below : List Frame} {meth : Method} {c : Code} {D : va_G} {ad : Nat → Nat} {cA : FieldType → ClassId} {A : Nat → Prop} (this : Nat) (a1 : Nat) (C : sa_C p s m args meth c cX5_note RX5 "note" 2 none D ad cA A) : sa_Sg p l e s m args below meth c 2 2 D ad cA A sa_eV 0 [(0, .ref (ad this)), (1, .ref (ad a1))] [] (f_X5_note this a1) := by
  unfold f_X5_note
  refine sa_gdI ?_
  refine sa_aload_n C d_X5_note_0 rfl 0 rfl ?_
  refine sa_getR C fd_X5_13 rfl d_X5_note_1 (fun v1 => ?_)
  refine sa_aload_n C d_X5_note_4 rfl 0 rfl ?_
  refine sa_getI C fd_X5_30 d_X5_note_5 (fun v2 => ?_)
  refine sa_aaldCamp C d_X5_note_8 (fun v3 => ?_)
  refine sa_aload_n C d_X5_note_9 rfl 1 rfl ?_
  refine sa_invV (ci := 0) C (k_X0_copyFrom v3 a1) q837 ds_X0_copyFrom q121 rfl q835 q836 q834 (gd_X0_copyFrom v3 a1) rfl rfl rfl (Nat.le_of_ble_eq_true rfl) (by decide) (by decide) d_X5_note_10 (fun _ => ?_)
  exact sa_vret C d_X5_note_13
theorem k_X5_note (this : Nat) (a1 : Nat) : sa_Met 2 yX5_note cX5_note 2 none (fun ad => [.ref (ad this), .ref (ad a1)]) sa_eV (f_X5_note this a1) := sa_mk (by decide) (fun ad => Nat.le_of_ble_eq_true rfl) (fun p l e s m args below meth c D ad cA A C => b_X5_note this a1 C)
theorem gd_X5_note (this : Nat) (a1 : Nat) (σ : sa_St) (r : Unit) (τ : sa_St) (h : f_X5_note this a1 σ = some (r, τ)) : sa_sh this = some (.inl 5) := sa_gd_ok h
theorem d_X5_confirm_0 : decode cX5_confirm 0 = .ok (.aload_n 0, 1) := by decide +kernel
theorem d_X5_confirm_1 : decode cX5_confirm 1 = .ok (.aload_n 0, 1) := by decide +kernel
theorem d_X5_confirm_2 : decode cX5_confirm 2 = .ok (.getfield 30, 3) := by decide +kernel
theorem d_X5_confirm_5 : decode cX5_confirm 5 = .ok (.iconst 1, 1) := by decide +kernel
theorem d_X5_confirm_6 : decode cX5_confirm 6 = .ok (.iadd, 1) := by decide +kernel
theorem d_X5_confirm_7 : decode cX5_confirm 7 = .ok (.bipush 41, 2) := by decide +kernel
theorem d_X5_confirm_9 : decode cX5_confirm 9 = .ok (.irem, 1) := by decide +kernel
theorem d_X5_confirm_10 : decode cX5_confirm 10 = .ok (.putfield 30, 3) := by decide +kernel
theorem d_X5_confirm_13 : decode cX5_confirm 13 = .ok (.aload_n 0, 1) := by decide +kernel
theorem d_X5_confirm_14 : decode cX5_confirm 14 = .ok (.bipush 40, 2) := by decide +kernel
theorem d_X5_confirm_16 : decode cX5_confirm 16 = .ok (.aload_n 0, 1) := by decide +kernel
theorem d_X5_confirm_17 : decode cX5_confirm 17 = .ok (.getfield 22, 3) := by decide +kernel
theorem d_X5_confirm_20 : decode cX5_confirm 20 = .ok (.iconst 1, 1) := by decide +kernel
theorem d_X5_confirm_21 : decode cX5_confirm 21 = .ok (.iadd, 1) := by decide +kernel
theorem d_X5_confirm_22 : decode cX5_confirm 22 = .ok (.invokestatic 37, 3) := by decide +kernel
theorem d_X5_confirm_25 : decode cX5_confirm 25 = .ok (.putfield 22, 3) := by decide +kernel
theorem d_X5_confirm_28 : decode cX5_confirm 28 = .ok (.return_, 1) := by decide +kernel
def f_X5_confirm (this : Nat) : sa_M Unit :=
sa_gd 5 this (
sa_bnd (sa_rdI 5 this 3) fun v1 =>
sa_bnd (sa_md (v1 + 1) 41) fun v2 =>
sa_bnd (sa_wrI 5 this 3 v2) fun _ =>
sa_bnd (sa_rdI 5 this 4) fun v3 =>
sa_bnd (sa_wrI 5 this 4 (sa_min 40 (v3 + 1))) fun _ =>
sa_ret ())
set_option maxHeartbeats 1000000 in
set_option maxRecDepth 10000 in
theorem b_X5_confirm {p : Program} {l : Launch} {e : Env} {s : State} {m : MethodId} {args : Array Value} {below : List Frame} {meth : Method} {c : Code} {D : va_G} {ad : Nat → Nat} {cA : FieldType → ClassId} {A : Nat → Prop} (this : Nat) (C : sa_C p s m args meth c cX5_confirm RX5 "confirm" 1 none D ad cA A) : sa_Sg p l e s m args below meth c 1 1 D ad cA A sa_eV 0 [(0, .ref (ad this))] [] (f_X5_confirm this) := by
  unfold f_X5_confirm
  refine sa_gdI ?_
  refine sa_aload_n C d_X5_confirm_0 rfl 0 rfl ?_
  refine sa_aload_n C d_X5_confirm_1 rfl 0 rfl ?_
  refine sa_getI C fd_X5_30 d_X5_confirm_2 (fun v1 => ?_)
  refine sa_iconst (v := 1) C d_X5_confirm_5 (by decide) ?_
  refine sa_iadd C d_X5_confirm_6 ?_
  refine sa_bipush (v := 41) C d_X5_confirm_7 (by decide) ?_
  refine sa_irem C d_X5_confirm_9 (fun v2 => ?_)
  refine sa_putI C fd_X5_30 d_X5_confirm_10 ?_
  refine sa_aload_n C d_X5_confirm_13 rfl 0 rfl ?_
  refine sa_bipush (v := 40) C d_X5_confirm_14 (by decide) ?_
  refine sa_aload_n C d_X5_confirm_16 rfl 0 rfl ?_
  refine sa_getI C fd_X5_22 d_X5_confirm_17 (fun v3 => ?_)
  refine sa_iconst (v := 1) C d_X5_confirm_20 (by decide) ?_
  refine sa_iadd C d_X5_confirm_21 ?_
  refine sa_mmin C q911 (Nat.le_of_ble_eq_true rfl) (by decide) q530 q130 q531 d_X5_confirm_22 ?_
  refine sa_putI C fd_X5_22 d_X5_confirm_25 ?_
  exact sa_vret C d_X5_confirm_28
theorem k_X5_confirm (this : Nat) : sa_Met 1 yX5_confirm cX5_confirm 1 none (fun ad => [.ref (ad this)]) sa_eV (f_X5_confirm this) := sa_mk (by decide) (fun ad => Nat.le_of_ble_eq_true rfl) (fun p l e s m args below meth c D ad cA A C => b_X5_confirm this C)
theorem gd_X5_confirm (this : Nat) (σ : sa_St) (r : Unit) (τ : sa_St) (h : f_X5_confirm this σ = some (r, τ)) : sa_sh this = some (.inl 5) := sa_gd_ok h
theorem d_X5_takeBack_0 : decode cX5_takeBack 0 = .ok (.aload_n 0, 1) := by decide +kernel
theorem d_X5_takeBack_1 : decode cX5_takeBack 1 = .ok (.getfield 22, 3) := by decide +kernel
theorem d_X5_takeBack_4 : decode cX5_takeBack 4 = .ok (.ifCond .ne 5, 3) := by decide +kernel
theorem d_X5_takeBack_7 : decode cX5_takeBack 7 = .ok (.iconst (-1), 1) := by decide +kernel
theorem d_X5_takeBack_8 : decode cX5_takeBack 8 = .ok (.ireturn, 1) := by decide +kernel
theorem d_X5_takeBack_9 : decode cX5_takeBack 9 = .ok (.aload_n 0, 1) := by decide +kernel
theorem d_X5_takeBack_10 : decode cX5_takeBack 10 = .ok (.aload_n 0, 1) := by decide +kernel
theorem d_X5_takeBack_11 : decode cX5_takeBack 11 = .ok (.getfield 30, 3) := by decide +kernel
theorem d_X5_takeBack_14 : decode cX5_takeBack 14 = .ok (.bipush 41, 2) := by decide +kernel
theorem d_X5_takeBack_16 : decode cX5_takeBack 16 = .ok (.iadd, 1) := by decide +kernel
theorem d_X5_takeBack_17 : decode cX5_takeBack 17 = .ok (.iconst 1, 1) := by decide +kernel
theorem d_X5_takeBack_18 : decode cX5_takeBack 18 = .ok (.isub, 1) := by decide +kernel
theorem d_X5_takeBack_19 : decode cX5_takeBack 19 = .ok (.bipush 41, 2) := by decide +kernel
theorem d_X5_takeBack_21 : decode cX5_takeBack 21 = .ok (.irem, 1) := by decide +kernel
theorem d_X5_takeBack_22 : decode cX5_takeBack 22 = .ok (.putfield 30, 3) := by decide +kernel
theorem d_X5_takeBack_25 : decode cX5_takeBack 25 = .ok (.aload_n 0, 1) := by decide +kernel
theorem d_X5_takeBack_26 : decode cX5_takeBack 26 = .ok (.dup, 1) := by decide +kernel
theorem d_X5_takeBack_27 : decode cX5_takeBack 27 = .ok (.getfield 22, 3) := by decide +kernel
theorem d_X5_takeBack_30 : decode cX5_takeBack 30 = .ok (.iconst 1, 1) := by decide +kernel
theorem d_X5_takeBack_31 : decode cX5_takeBack 31 = .ok (.isub, 1) := by decide +kernel
theorem d_X5_takeBack_32 : decode cX5_takeBack 32 = .ok (.putfield 22, 3) := by decide +kernel
theorem d_X5_takeBack_35 : decode cX5_takeBack 35 = .ok (.aload_n 1, 1) := by decide +kernel
theorem d_X5_takeBack_36 : decode cX5_takeBack 36 = .ok (.aload_n 0, 1) := by decide +kernel
theorem d_X5_takeBack_37 : decode cX5_takeBack 37 = .ok (.getfield 13, 3) := by decide +kernel
theorem d_X5_takeBack_40 : decode cX5_takeBack 40 = .ok (.aload_n 0, 1) := by decide +kernel
theorem d_X5_takeBack_41 : decode cX5_takeBack 41 = .ok (.getfield 30, 3) := by decide +kernel
theorem d_X5_takeBack_44 : decode cX5_takeBack 44 = .ok (.aaload, 1) := by decide +kernel
theorem d_X5_takeBack_45 : decode cX5_takeBack 45 = .ok (.invokevirtual 33, 3) := by decide +kernel
theorem d_X5_takeBack_48 : decode cX5_takeBack 48 = .ok (.aload_n 0, 1) := by decide +kernel
theorem d_X5_takeBack_49 : decode cX5_takeBack 49 = .ok (.getfield 22, 3) := by decide +kernel
theorem d_X5_takeBack_52 : decode cX5_takeBack 52 = .ok (.ireturn, 1) := by decide +kernel
def f_X5_takeBack (this : Nat) (a1 : Nat) : sa_M Int32 :=
sa_gd 5 this (
sa_bnd (sa_rdI 5 this 4) fun v1 =>
if ¬ v1 = 0 then
sa_bnd (sa_rdI 5 this 3) fun v2 =>
sa_bnd (sa_md ((v2 + 41) - 1) 41) fun v3 =>
sa_bnd (sa_wrI 5 this 3 v3) fun _ =>
sa_bnd (sa_rdI 5 this 4) fun v4 =>
sa_bnd (sa_wrI 5 this 4 (v4 - 1)) fun _ =>
sa_bnd (sa_rdR 5 this 0) fun v5 =>
sa_bnd (sa_rdI 5 this 3) fun v6 =>
sa_bnd (sa_ldR (.object "SaltArmy$Camp") v5 v6) fun v7 =>
sa_bnd (f_X0_copyFrom a1 v7) fun _ =>
sa_bnd (sa_rdI 5 this 4) fun v8 =>
sa_ret (v8 : Int32)
else
sa_ret ((-1) : Int32))
set_option maxHeartbeats 1000000 in
set_option maxRecDepth 10000 in
theorem b_X5_takeBack {p : Program} {l : Launch} {e : Env} {s : State} {m : MethodId} {args : Array Value} {below : List Frame} {meth : Method} {c : Code} {D : va_G} {ad : Nat → Nat} {cA : FieldType → ClassId} {A : Nat → Prop} (this : Nat) (a1 : Nat) (C : sa_C p s m args meth c cX5_takeBack RX5 "takeBack" 2 (some .int) D ad cA A) : sa_Sg p l e s m args below meth c 2 2 D ad cA A sa_eI 0 [(0, .ref (ad this)), (1, .ref (ad a1))] [] (f_X5_takeBack this a1) := by
  unfold f_X5_takeBack
  refine sa_gdI ?_
  refine sa_aload_n C d_X5_takeBack_0 rfl 0 rfl ?_
  refine sa_getI C fd_X5_22 d_X5_takeBack_1 (fun v1 => ?_)
  refine sa_if_ne (tgt := 9) C d_X5_takeBack_4 (by decide) ?_ ?_
  · refine sa_aload_n C d_X5_takeBack_9 rfl 0 rfl ?_
    refine sa_aload_n C d_X5_takeBack_10 rfl 0 rfl ?_
    refine sa_getI C fd_X5_30 d_X5_takeBack_11 (fun v2 => ?_)
    refine sa_bipush (v := 41) C d_X5_takeBack_14 (by decide) ?_
    refine sa_iadd C d_X5_takeBack_16 ?_
    refine sa_iconst (v := 1) C d_X5_takeBack_17 (by decide) ?_
    refine sa_isub C d_X5_takeBack_18 ?_
    refine sa_bipush (v := 41) C d_X5_takeBack_19 (by decide) ?_
    refine sa_irem C d_X5_takeBack_21 (fun v3 => ?_)
    refine sa_putI C fd_X5_30 d_X5_takeBack_22 ?_
    refine sa_aload_n C d_X5_takeBack_25 rfl 0 rfl ?_
    refine sa_dup C d_X5_takeBack_26 rfl ?_
    refine sa_getI C fd_X5_22 d_X5_takeBack_27 (fun v4 => ?_)
    refine sa_iconst (v := 1) C d_X5_takeBack_30 (by decide) ?_
    refine sa_isub C d_X5_takeBack_31 ?_
    refine sa_putI C fd_X5_22 d_X5_takeBack_32 ?_
    refine sa_aload_n C d_X5_takeBack_35 rfl 1 rfl ?_
    refine sa_aload_n C d_X5_takeBack_36 rfl 0 rfl ?_
    refine sa_getR C fd_X5_13 rfl d_X5_takeBack_37 (fun v5 => ?_)
    refine sa_aload_n C d_X5_takeBack_40 rfl 0 rfl ?_
    refine sa_getI C fd_X5_30 d_X5_takeBack_41 (fun v6 => ?_)
    refine sa_aaldCamp C d_X5_takeBack_44 (fun v7 => ?_)
    refine sa_invV (ci := 0) C (k_X0_copyFrom a1 v7) q837 ds_X0_copyFrom q121 rfl q835 q836 q834 (gd_X0_copyFrom a1 v7) rfl rfl rfl (Nat.le_of_ble_eq_true rfl) (by decide) (by decide) d_X5_takeBack_45 (fun _ => ?_)
    refine sa_aload_n C d_X5_takeBack_48 rfl 0 rfl ?_
    refine sa_getI C fd_X5_22 d_X5_takeBack_49 (fun v8 => ?_)
    exact sa_iret C d_X5_takeBack_52
  refine sa_iconst (v := (-1)) C d_X5_takeBack_7 (by decide) ?_
  exact sa_iret C d_X5_takeBack_8
theorem k_X5_takeBack (this : Nat) (a1 : Nat) : sa_Met 2 yX5_takeBack cX5_takeBack 2 (some .int) (fun ad => [.ref (ad this), .ref (ad a1)]) sa_eI (f_X5_takeBack this a1) := sa_mk (by decide) (fun ad => Nat.le_of_ble_eq_true rfl) (fun p l e s m args below meth c D ad cA A C => b_X5_takeBack this a1 C)
theorem gd_X5_takeBack (this : Nat) (a1 : Nat) (σ : sa_St) (r : Int32) (τ : sa_St) (h : f_X5_takeBack this a1 σ = some (r, τ)) : sa_sh this = some (.inl 5) := sa_gd_ok h
theorem d_X5_keepImage_0 : decode cX5_keepImage 0 = .ok (.aload_n 0, 1) := by decide +kernel
theorem d_X5_keepImage_1 : decode cX5_keepImage 1 = .ok (.getfield 18, 3) := by decide +kernel
theorem d_X5_keepImage_4 : decode cX5_keepImage 4 = .ok (.aload_n 1, 1) := by decide +kernel
theorem d_X5_keepImage_5 : decode cX5_keepImage 5 = .ok (.invokevirtual 33, 3) := by decide +kernel
theorem d_X5_keepImage_8 : decode cX5_keepImage 8 = .ok (.aload_n 0, 1) := by decide +kernel
theorem d_X5_keepImage_9 : decode cX5_keepImage 9 = .ok (.iconst 1, 1) := by decide +kernel
theorem d_X5_keepImage_10 : decode cX5_keepImage 10 = .ok (.putfield 26, 3) := by decide +kernel
theorem d_X5_keepImage_13 : decode cX5_keepImage 13 = .ok (.return_, 1) := by decide +kernel
def f_X5_keepImage (this : Nat) (a1 : Nat) : sa_M Unit :=
sa_gd 5 this (
sa_bnd (sa_rdR 5 this 1) fun v1 =>
sa_bnd (f_X0_copyFrom v1 a1) fun _ =>
sa_bnd (sa_wrZ 5 this 2 1) fun _ =>
sa_ret ())
set_option maxHeartbeats 1000000 in
set_option maxRecDepth 10000 in
theorem b_X5_keepImage {p : Program} {l : Launch} {e : Env} {s : State} {m : MethodId} {args : Array Value} {below : List Frame} {meth : Method} {c : Code} {D : va_G} {ad : Nat → Nat} {cA : FieldType → ClassId} {A : Nat → Prop} (this : Nat) (a1 : Nat) (C : sa_C p s m args meth c cX5_keepImage RX5 "keepImage" 2 none D ad cA A) : sa_Sg p l e s m args below meth c 2 2 D ad cA A sa_eV 0 [(0, .ref (ad this)), (1, .ref (ad a1))] [] (f_X5_keepImage this a1) := by
  unfold f_X5_keepImage
  refine sa_gdI ?_
  refine sa_aload_n C d_X5_keepImage_0 rfl 0 rfl ?_
  refine sa_getR C fd_X5_18 rfl d_X5_keepImage_1 (fun v1 => ?_)
  refine sa_aload_n C d_X5_keepImage_4 rfl 1 rfl ?_
  refine sa_invV (ci := 0) C (k_X0_copyFrom v1 a1) q837 ds_X0_copyFrom q121 rfl q835 q836 q834 (gd_X0_copyFrom v1 a1) rfl rfl rfl (Nat.le_of_ble_eq_true rfl) (by decide) (by decide) d_X5_keepImage_5 (fun _ => ?_)
  refine sa_aload_n C d_X5_keepImage_8 rfl 0 rfl ?_
  refine sa_iconst (v := 1) C d_X5_keepImage_9 (by decide) ?_
  refine sa_putZ C fd_X5_26 d_X5_keepImage_10 ?_
  exact sa_vret C d_X5_keepImage_13
theorem k_X5_keepImage (this : Nat) (a1 : Nat) : sa_Met 2 yX5_keepImage cX5_keepImage 2 none (fun ad => [.ref (ad this), .ref (ad a1)]) sa_eV (f_X5_keepImage this a1) := sa_mk (by decide) (fun ad => Nat.le_of_ble_eq_true rfl) (fun p l e s m args below meth c D ad cA A C => b_X5_keepImage this a1 C)
theorem gd_X5_keepImage (this : Nat) (a1 : Nat) (σ : sa_St) (r : Unit) (τ : sa_St) (h : f_X5_keepImage this a1 σ = some (r, τ)) : sa_sh this = some (.inl 5) := sa_gd_ok h
theorem d_X5_goBack_0 : decode cX5_goBack 0 = .ok (.aload_n 0, 1) := by decide +kernel
theorem d_X5_goBack_1 : decode cX5_goBack 1 = .ok (.getfield 26, 3) := by decide +kernel
theorem d_X5_goBack_4 : decode cX5_goBack 4 = .ok (.ifCond .eq 16, 3) := by decide +kernel
theorem d_X5_goBack_7 : decode cX5_goBack 7 = .ok (.aload_n 1, 1) := by decide +kernel
theorem d_X5_goBack_8 : decode cX5_goBack 8 = .ok (.aload_n 0, 1) := by decide +kernel
theorem d_X5_goBack_9 : decode cX5_goBack 9 = .ok (.getfield 18, 3) := by decide +kernel
theorem d_X5_goBack_12 : decode cX5_goBack 12 = .ok (.invokevirtual 33, 3) := by decide +kernel
theorem d_X5_goBack_15 : decode cX5_goBack 15 = .ok (.aload_n 0, 1) := by decide +kernel
theorem d_X5_goBack_16 : decode cX5_goBack 16 = .ok (.iconst 0, 1) := by decide +kernel
theorem d_X5_goBack_17 : decode cX5_goBack 17 = .ok (.putfield 22, 3) := by decide +kernel
theorem d_X5_goBack_20 : decode cX5_goBack 20 = .ok (.aload_n 0, 1) := by decide +kernel
theorem d_X5_goBack_21 : decode cX5_goBack 21 = .ok (.getfield 26, 3) := by decide +kernel
theorem d_X5_goBack_24 : decode cX5_goBack 24 = .ok (.ireturn, 1) := by decide +kernel
def f_X5_goBack (this : Nat) (a1 : Nat) : sa_M Int32 :=
sa_gd 5 this (
sa_bnd (sa_rdI 5 this 2) fun v1 =>
sa_jn0 (sa_bnd (sa_rdI 5 this 2) fun v2 =>
sa_retZ v2) fun j20 =>
if v1 = 0 then
j20
else
sa_bnd (sa_rdR 5 this 1) fun v3 =>
sa_bnd (f_X0_copyFrom a1 v3) fun _ =>
sa_bnd (sa_wrI 5 this 4 0) fun _ =>
j20)
set_option maxHeartbeats 1000000 in
set_option maxRecDepth 10000 in
theorem b_X5_goBack {p : Program} {l : Launch} {e : Env} {s : State} {m : MethodId} {args : Array Value} {below : List Frame} {meth : Method} {c : Code} {D : va_G} {ad : Nat → Nat} {cA : FieldType → ClassId} {A : Nat → Prop} (this : Nat) (a1 : Nat) (C : sa_C p s m args meth c cX5_goBack RX5 "goBack" 2 (some .boolean) D ad cA A) : sa_Sg p l e s m args below meth c 2 2 D ad cA A sa_eI 0 [(0, .ref (ad this)), (1, .ref (ad a1))] [] (f_X5_goBack this a1) := by
  unfold f_X5_goBack
  refine sa_gdI ?_
  refine sa_aload_n C d_X5_goBack_0 rfl 0 rfl ?_
  refine sa_getZ C fd_X5_26 d_X5_goBack_1 (fun v1 => ?_)
  refine sa_join0 20 ([(0, .ref (ad this))]) ([]) (?_) (fun j20 hj20 => ?_)
  · refine sa_aload_n C d_X5_goBack_20 rfl 0 rfl ?_
    refine sa_getZ C fd_X5_26 d_X5_goBack_21 (fun v2 => ?_)
    exact sa_zret C d_X5_goBack_24
  refine sa_if_eq (tgt := 20) C d_X5_goBack_4 (by decide) ?_ ?_
  · exact sa_sub [0] rfl (hj20)
  refine sa_aload_n C d_X5_goBack_7 rfl 1 rfl ?_
  refine sa_aload_n C d_X5_goBack_8 rfl 0 rfl ?_
  refine sa_getR C fd_X5_18 rfl d_X5_goBack_9 (fun v3 => ?_)
  refine sa_invV (ci := 0) C (k_X0_copyFrom a1 v3) q837 ds_X0_copyFrom q121 rfl q835 q836 q834 (gd_X0_copyFrom a1 v3) rfl rfl rfl (Nat.le_of_ble_eq_true rfl) (by decide) (by decide) d_X5_goBack_12 (fun _ => ?_)
  refine sa_aload_n C d_X5_goBack_15 rfl 0 rfl ?_
  refine sa_iconst (v := 0) C d_X5_goBack_16 (by decide) ?_
  refine sa_putI C fd_X5_22 d_X5_goBack_17 ?_
  exact sa_sub [0] rfl (hj20)
theorem k_X5_goBack (this : Nat) (a1 : Nat) : sa_Met 2 yX5_goBack cX5_goBack 2 (some .boolean) (fun ad => [.ref (ad this), .ref (ad a1)]) sa_eI (f_X5_goBack this a1) := sa_mk (by decide) (fun ad => Nat.le_of_ble_eq_true rfl) (fun p l e s m args below meth c D ad cA A C => b_X5_goBack this a1 C)
theorem gd_X5_goBack (this : Nat) (a1 : Nat) (σ : sa_St) (r : Int32) (τ : sa_St) (h : f_X5_goBack this a1 σ = some (r, τ)) : sa_sh this = some (.inl 5) := sa_gd_ok h
theorem d_X6_clear_0 : decode cX6_clear 0 = .ok (.aload_n 0, 1) := by decide +kernel
theorem d_X6_clear_1 : decode cX6_clear 1 = .ok (.getfield 11, 3) := by decide +kernel
theorem d_X6_clear_4 : decode cX6_clear 4 = .ok (.iconst (-1), 1) := by decide +kernel
theorem d_X6_clear_5 : decode cX6_clear 5 = .ok (.invokestatic 15, 3) := by decide +kernel
theorem d_X6_clear_8 : decode cX6_clear 8 = .ok (.aload_n 0, 1) := by decide +kernel
theorem d_X6_clear_9 : decode cX6_clear 9 = .ok (.iconst 0, 1) := by decide +kernel
theorem d_X6_clear_10 : decode cX6_clear 10 = .ok (.putfield 21, 3) := by decide +kernel
theorem d_X6_clear_13 : decode cX6_clear 13 = .ok (.return_, 1) := by decide +kernel
def f_X6_clear (this : Nat) : sa_M Unit :=
sa_gd 6 this (
sa_bnd (sa_rdR 6 this 0) fun v1 =>
sa_bnd (f_J7_fill_53178 v1 (-1)) fun _ =>
sa_bnd (sa_wrI 6 this 1 0) fun _ =>
sa_ret ())
set_option maxHeartbeats 1000000 in
set_option maxRecDepth 10000 in
theorem b_X6_clear {p : Program} {l : Launch} {e : Env} {s : State} {m : MethodId} {args : Array Value} {below : List Frame} {meth : Method} {c : Code} {D : va_G} {ad : Nat → Nat} {cA : FieldType → ClassId} {A : Nat → Prop} (this : Nat) (C : sa_C p s m args meth c cX6_clear RX6 "clear" 1 none D ad cA A) : sa_Sg p l e s m args below meth c 1 2 D ad cA A sa_eV 0 [(0, .ref (ad this))] [] (f_X6_clear this) := by
  unfold f_X6_clear
  refine sa_gdI ?_
  refine sa_aload_n C d_X6_clear_0 rfl 0 rfl ?_
  refine sa_getR C fd_X6_11 rfl d_X6_clear_1 (fun v1 => ?_)
  refine sa_iconst (v := (-1)) C d_X6_clear_4 (by decide) ?_
  refine sa_invS C (k_J7_fill_53178 v1 (-1)) q309 ds_J7_fill_53178 q124 q308 q307 rfl rfl rfl (Nat.le_of_ble_eq_true rfl) (by decide) (by decide) d_X6_clear_5 (fun _ => ?_)
  refine sa_aload_n C d_X6_clear_8 rfl 0 rfl ?_
  refine sa_iconst (v := 0) C d_X6_clear_9 (by decide) ?_
  refine sa_putI C fd_X6_21 d_X6_clear_10 ?_
  exact sa_vret C d_X6_clear_13
theorem k_X6_clear (this : Nat) : sa_Met 2 yX6_clear cX6_clear 1 none (fun ad => [.ref (ad this)]) sa_eV (f_X6_clear this) := sa_mk (by decide) (fun ad => Nat.le_of_ble_eq_true rfl) (fun p l e s m args below meth c D ad cA A C => b_X6_clear this C)
theorem gd_X6_clear (this : Nat) (σ : sa_St) (r : Unit) (τ : sa_St) (h : f_X6_clear this σ = some (r, τ)) : sa_sh this = some (.inl 6) := sa_gd_ok h
theorem d_X6_tell_0 : decode cX6_tell 0 = .ok (.iload_n 2, 1) := by decide +kernel
theorem d_X6_tell_1 : decode cX6_tell 1 = .ok (.iconst 1, 1) := by decide +kernel
theorem d_X6_tell_2 : decode cX6_tell 2 = .ok (.if_icmp .lt 18, 3) := by decide +kernel
theorem d_X6_tell_5 : decode cX6_tell 5 = .ok (.iload_n 2, 1) := by decide +kernel
theorem d_X6_tell_6 : decode cX6_tell 6 = .ok (.bipush 24, 2) := by decide +kernel
theorem d_X6_tell_8 : decode cX6_tell 8 = .ok (.if_icmp .gt 12, 3) := by decide +kernel
theorem d_X6_tell_11 : decode cX6_tell 11 = .ok (.aload_n 0, 1) := by decide +kernel
theorem d_X6_tell_12 : decode cX6_tell 12 = .ok (.getfield 21, 3) := by decide +kernel
theorem d_X6_tell_15 : decode cX6_tell 15 = .ok (.bipush 16, 2) := by decide +kernel
theorem d_X6_tell_17 : decode cX6_tell 17 = .ok (.if_icmp .lt 5, 3) := by decide +kernel
theorem d_X6_tell_20 : decode cX6_tell 20 = .ok (.iconst (-1), 1) := by decide +kernel
theorem d_X6_tell_21 : decode cX6_tell 21 = .ok (.ireturn, 1) := by decide +kernel
theorem d_X6_tell_22 : decode cX6_tell 22 = .ok (.aload_n 0, 1) := by decide +kernel
theorem d_X6_tell_23 : decode cX6_tell 23 = .ok (.getfield 11, 3) := by decide +kernel
theorem d_X6_tell_26 : decode cX6_tell 26 = .ok (.iload_n 1, 1) := by decide +kernel
theorem d_X6_tell_27 : decode cX6_tell 27 = .ok (.bipush 25, 2) := by decide +kernel
theorem d_X6_tell_29 : decode cX6_tell 29 = .ok (.imul, 1) := by decide +kernel
theorem d_X6_tell_30 : decode cX6_tell 30 = .ok (.iload_n 2, 1) := by decide +kernel
theorem d_X6_tell_31 : decode cX6_tell 31 = .ok (.iadd, 1) := by decide +kernel
theorem d_X6_tell_32 : decode cX6_tell 32 = .ok (.iload_n 3, 1) := by decide +kernel
theorem d_X6_tell_33 : decode cX6_tell 33 = .ok (.ifCond .eq 8, 3) := by decide +kernel
theorem d_X6_tell_36 : decode cX6_tell 36 = .ok (.bipush 100, 2) := by decide +kernel
theorem d_X6_tell_38 : decode cX6_tell 38 = .ok (.goto 4, 3) := by decide +kernel
theorem d_X6_tell_41 : decode cX6_tell 41 = .ok (.iconst 0, 1) := by decide +kernel
theorem d_X6_tell_42 : decode cX6_tell 42 = .ok (.iastore, 1) := by decide +kernel
theorem d_X6_tell_43 : decode cX6_tell 43 = .ok (.aload_n 0, 1) := by decide +kernel
theorem d_X6_tell_44 : decode cX6_tell 44 = .ok (.dup, 1) := by decide +kernel
theorem d_X6_tell_45 : decode cX6_tell 45 = .ok (.getfield 21, 3) := by decide +kernel
theorem d_X6_tell_48 : decode cX6_tell 48 = .ok (.iconst 1, 1) := by decide +kernel
theorem d_X6_tell_49 : decode cX6_tell 49 = .ok (.iadd, 1) := by decide +kernel
theorem d_X6_tell_50 : decode cX6_tell 50 = .ok (.putfield 21, 3) := by decide +kernel
theorem d_X6_tell_53 : decode cX6_tell 53 = .ok (.aload_n 0, 1) := by decide +kernel
theorem d_X6_tell_54 : decode cX6_tell 54 = .ok (.getfield 21, 3) := by decide +kernel
theorem d_X6_tell_57 : decode cX6_tell 57 = .ok (.ireturn, 1) := by decide +kernel
def f_X6_tell (this : Nat) (a1 : Int32) (a2 : Int32) (a3 : Int32) : sa_M Int32 :=
sa_gd 6 this (
sa_jn0 (sa_ret ((-1) : Int32)) fun j20 =>
if a2 < 1 then
j20
else
if 24 < a2 then
j20
else
sa_bnd (sa_rdI 6 this 1) fun v1 =>
if v1 < 16 then
sa_bnd (sa_rdR 6 this 0) fun v2 =>
sa_jn1 (fun (y3 : Int32) =>
sa_bnd (sa_stI v2 ((a1 * 25) + a2) y3) fun _ =>
sa_bnd (sa_rdI 6 this 1) fun v4 =>
sa_bnd (sa_wrI 6 this 1 (v4 + 1)) fun _ =>
sa_bnd (sa_rdI 6 this 1) fun v5 =>
sa_ret (v5 : Int32)) fun j42 =>
if a3 = 0 then
j42 0
else
j42 100
else
j20)
set_option maxHeartbeats 1000000 in
set_option maxRecDepth 10000 in
theorem b_X6_tell {p : Program} {l : Launch} {e : Env} {s : State} {m : MethodId} {args : Array Value} {below : List Frame} {meth : Method} {c : Code} {D : va_G} {ad : Nat → Nat} {cA : FieldType → ClassId} {A : Nat → Prop} (this : Nat) (a1 : Int32) (a2 : Int32) (a3 : Int32) (C : sa_C p s m args meth c cX6_tell RX6 "tell" 4 (some .int) D ad cA A) : sa_Sg p l e s m args below meth c 4 1 D ad cA A sa_eI 0 [(0, .ref (ad this)), (1, .int a1), (2, .int a2), (3, .int a3)] [] (f_X6_tell this a1 a2 a3) := by
  unfold f_X6_tell
  refine sa_gdI ?_
  refine sa_iload_n C d_X6_tell_0 rfl 2 rfl ?_
  refine sa_iconst (v := 1) C d_X6_tell_1 (by decide) ?_
  refine sa_join0 20 ([]) ([]) (?_) (fun j20 hj20 => ?_)
  · refine sa_iconst (v := (-1)) C d_X6_tell_20 (by decide) ?_
    exact sa_iret C d_X6_tell_21
  refine sa_icmp_lt (tgt := 20) C d_X6_tell_2 (by decide) ?_ ?_
  · exact sa_sub [] rfl (hj20)
  refine sa_iload_n C d_X6_tell_5 rfl 2 rfl ?_
  refine sa_bipush (v := 24) C d_X6_tell_6 (by decide) ?_
  refine sa_icmp_gt (tgt := 20) C d_X6_tell_8 (by decide) ?_ ?_
  · exact sa_sub [] rfl (hj20)
  refine sa_aload_n C d_X6_tell_11 rfl 0 rfl ?_
  refine sa_getI C fd_X6_21 d_X6_tell_12 (fun v1 => ?_)
  refine sa_bipush (v := 16) C d_X6_tell_15 (by decide) ?_
  refine sa_icmp_lt (tgt := 22) C d_X6_tell_17 (by decide) ?_ ?_
  · refine sa_aload_n C d_X6_tell_22 rfl 0 rfl ?_
    refine sa_getR C fd_X6_11 rfl d_X6_tell_23 (fun v2 => ?_)
    refine sa_iload_n C d_X6_tell_26 rfl 1 rfl ?_
    refine sa_bipush (v := 25) C d_X6_tell_27 (by decide) ?_
    refine sa_imul C d_X6_tell_29 ?_
    refine sa_iload_n C d_X6_tell_30 rfl 2 rfl ?_
    refine sa_iadd C d_X6_tell_31 ?_
    refine sa_iload_n C d_X6_tell_32 rfl 3 rfl ?_
    refine sa_join1 42 (fun y3 => [(0, .ref (ad this))]) (fun y3 => [.int y3, .int ((a1 * 25) + a2), .ref (ad v2)]) (fun y3 => ?_) (fun j42 hj42 => ?_)
    · refine sa_iast C d_X6_tell_42 ?_
      refine sa_aload_n C d_X6_tell_43 rfl 0 rfl ?_
      refine sa_dup C d_X6_tell_44 rfl ?_
      refine sa_getI C fd_X6_21 d_X6_tell_45 (fun v4 => ?_)
      refine sa_iconst (v := 1) C d_X6_tell_48 (by decide) ?_
      refine sa_iadd C d_X6_tell_49 ?_
      refine sa_putI C fd_X6_21 d_X6_tell_50 ?_
      refine sa_aload_n C d_X6_tell_53 rfl 0 rfl ?_
      refine sa_getI C fd_X6_21 d_X6_tell_54 (fun v5 => ?_)
      exact sa_iret C d_X6_tell_57
    refine sa_if_eq (tgt := 41) C d_X6_tell_33 (by decide) ?_ ?_
    · refine sa_iconst (v := 0) C d_X6_tell_41 (by decide) ?_
      exact sa_sub [0] rfl (hj42 _)
    refine sa_bipush (v := 100) C d_X6_tell_36 (by decide) ?_
    refine sa_goto (tgt := 42) C d_X6_tell_38 (by decide) ?_
    exact sa_sub [0] rfl (hj42 _)
  exact sa_sub [] rfl (hj20)
theorem k_X6_tell (this : Nat) (a1 : Int32) (a2 : Int32) (a3 : Int32) : sa_Met 1 yX6_tell cX6_tell 4 (some .int) (fun ad => [.ref (ad this), .int a1, .int a2, .int a3]) sa_eI (f_X6_tell this a1 a2 a3) := sa_mk (by decide) (fun ad => Nat.le_of_ble_eq_true rfl) (fun p l e s m args below meth c D ad cA A C => b_X6_tell this a1 a2 a3 C)
theorem gd_X6_tell (this : Nat) (a1 : Int32) (a2 : Int32) (a3 : Int32) (σ : sa_St) (r : Int32) (τ : sa_St) (h : f_X6_tell this a1 a2 a3 σ = some (r, τ)) : sa_sh this = some (.inl 6) := sa_gd_ok h
theorem d_X6_chance_0 : decode cX6_chance 0 = .ok (.iload_n 3, 1) := by decide +kernel
theorem d_X6_chance_1 : decode cX6_chance 1 = .ok (.bipush 24, 2) := by decide +kernel
theorem d_X6_chance_3 : decode cX6_chance 3 = .ok (.if_icmp .gt 17, 3) := by decide +kernel
theorem d_X6_chance_6 : decode cX6_chance 6 = .ok (.aload_n 0, 1) := by decide +kernel
theorem d_X6_chance_7 : decode cX6_chance 7 = .ok (.getfield 11, 3) := by decide +kernel
theorem d_X6_chance_10 : decode cX6_chance 10 = .ok (.iload_n 2, 1) := by decide +kernel
theorem d_X6_chance_11 : decode cX6_chance 11 = .ok (.bipush 25, 2) := by decide +kernel
theorem d_X6_chance_13 : decode cX6_chance 13 = .ok (.imul, 1) := by decide +kernel
theorem d_X6_chance_14 : decode cX6_chance 14 = .ok (.iload_n 3, 1) := by decide +kernel
theorem d_X6_chance_15 : decode cX6_chance 15 = .ok (.iadd, 1) := by decide +kernel
theorem d_X6_chance_16 : decode cX6_chance 16 = .ok (.iaload, 1) := by decide +kernel
theorem d_X6_chance_17 : decode cX6_chance 17 = .ok (.goto 4, 3) := by decide +kernel
theorem d_X6_chance_20 : decode cX6_chance 20 = .ok (.iconst (-1), 1) := by decide +kernel
theorem d_X6_chance_21 : decode cX6_chance 21 = .ok (.istore 4, 2) := by decide +kernel
theorem d_X6_chance_23 : decode cX6_chance 23 = .ok (.iload 4, 2) := by decide +kernel
theorem d_X6_chance_25 : decode cX6_chance 25 = .ok (.ifCond .ge 13, 3) := by decide +kernel
theorem d_X6_chance_28 : decode cX6_chance 28 = .ok (.aload_n 1, 1) := by decide +kernel
theorem d_X6_chance_29 : decode cX6_chance 29 = .ok (.iconst 0, 1) := by decide +kernel
theorem d_X6_chance_30 : decode cX6_chance 30 = .ok (.iload_n 2, 1) := by decide +kernel
theorem d_X6_chance_31 : decode cX6_chance 31 = .ok (.iconst 2, 1) := by decide +kernel
theorem d_X6_chance_32 : decode cX6_chance 32 = .ok (.invokevirtual 27, 3) := by decide +kernel
theorem d_X6_chance_35 : decode cX6_chance 35 = .ok (.goto 5, 3) := by decide +kernel
theorem d_X6_chance_38 : decode cX6_chance 38 = .ok (.iload 4, 2) := by decide +kernel
theorem d_X6_chance_40 : decode cX6_chance 40 = .ok (.ireturn, 1) := by decide +kernel
def f_X6_chance (this : Nat) (a1 : Nat) (a2 : Int32) (a3 : Int32) : sa_M Int32 :=
sa_gd 6 this (
sa_jn1 (fun (y1 : Int32) =>
sa_jn1 (fun (y2 : Int32) =>
sa_ret (y2 : Int32)) fun j40 =>
if 0 ≤ y1 then
j40 y1
else
sa_bnd (f_X1_cell a1 0 a2 2) fun v3 =>
j40 v3) fun j21 =>
if 24 < a3 then
j21 (-1)
else
sa_bnd (sa_rdR 6 this 0) fun v4 =>
sa_bnd (sa_ldI .int v4 ((a2 * 25) + a3)) fun v5 =>
j21 v5)
set_option maxHeartbeats 1000000 in
set_option maxRecDepth 10000 in
theorem b_X6_chance {p : Program} {l : Launch} {e : Env} {s : State} {m : MethodId} {args : Array Value} {below : List Frame} {meth : Method} {c : Code} {D : va_G} {ad : Nat → Nat} {cA : FieldType → ClassId} {A : Nat → Prop} (this : Nat) (a1 : Nat) (a2 : Int32) (a3 : Int32) (C : sa_C p s m args meth c cX6_chance RX6 "chance" 5 (some .int) D ad cA A) : sa_Sg p l e s m args below meth c 5 2 D ad cA A sa_eI 0 [(0, .ref (ad this)), (1, .ref (ad a1)), (2, .int a2), (3, .int a3)] [] (f_X6_chance this a1 a2 a3) := by
  unfold f_X6_chance
  refine sa_gdI ?_
  refine sa_iload_n C d_X6_chance_0 rfl 3 rfl ?_
  refine sa_bipush (v := 24) C d_X6_chance_1 (by decide) ?_
  refine sa_join1 21 (fun y1 => [(1, .ref (ad a1)), (2, .int a2)]) (fun y1 => [.int y1]) (fun y1 => ?_) (fun j21 hj21 => ?_)
  · refine sa_istore (lv' := [(4, .int y1), (1, .ref (ad a1)), (2, .int a2)]) C d_X6_chance_21 (by decide) rfl ?_
    refine sa_iload C d_X6_chance_23 0 rfl ?_
    refine sa_join1 40 (fun y2 => []) (fun y2 => [.int y2]) (fun y2 => ?_) (fun j40 hj40 => ?_)
    · exact sa_iret C d_X6_chance_40
    refine sa_if_ge (tgt := 38) C d_X6_chance_25 (by decide) ?_ ?_
    · refine sa_iload C d_X6_chance_38 0 rfl ?_
      exact sa_sub [] rfl (hj40 _)
    refine sa_aload_n C d_X6_chance_28 rfl 1 rfl ?_
    refine sa_iconst (v := 0) C d_X6_chance_29 (by decide) ?_
    refine sa_iload_n C d_X6_chance_30 rfl 2 rfl ?_
    refine sa_iconst (v := 2) C d_X6_chance_31 (by decide) ?_
    refine sa_invV (ci := 1) C (k_X1_cell a1 0 a2 2) q644 ds_X1_cell q116 rfl q642 q643 q1086 (gd_X1_cell a1 0 a2 2) rfl rfl rfl (Nat.le_of_ble_eq_true rfl) (by decide) (by decide) d_X6_chance_32 (fun v3 => ?_)
    refine sa_goto (tgt := 40) C d_X6_chance_35 (by decide) ?_
    exact sa_sub [] rfl (hj40 _)
  refine sa_icmp_gt (tgt := 20) C d_X6_chance_3 (by decide) ?_ ?_
  · refine sa_iconst (v := (-1)) C d_X6_chance_20 (by decide) ?_
    exact sa_sub [1, 2] rfl (hj21 _)
  refine sa_aload_n C d_X6_chance_6 rfl 0 rfl ?_
  refine sa_getR C fd_X6_11 rfl d_X6_chance_7 (fun v4 => ?_)
  refine sa_iload_n C d_X6_chance_10 rfl 2 rfl ?_
  refine sa_bipush (v := 25) C d_X6_chance_11 (by decide) ?_
  refine sa_imul C d_X6_chance_13 ?_
  refine sa_iload_n C d_X6_chance_14 rfl 3 rfl ?_
  refine sa_iadd C d_X6_chance_15 ?_
  refine sa_iald C d_X6_chance_16 (fun v5 => ?_)
  refine sa_goto (tgt := 21) C d_X6_chance_17 (by decide) ?_
  exact sa_sub [1, 2] rfl (hj21 _)
theorem k_X6_chance (this : Nat) (a1 : Nat) (a2 : Int32) (a3 : Int32) : sa_Met 2 yX6_chance cX6_chance 5 (some .int) (fun ad => [.ref (ad this), .ref (ad a1), .int a2, .int a3]) sa_eI (f_X6_chance this a1 a2 a3) := sa_mk (by decide) (fun ad => Nat.le_of_ble_eq_true rfl) (fun p l e s m args below meth c D ad cA A C => b_X6_chance this a1 a2 a3 C)
theorem gd_X6_chance (this : Nat) (a1 : Nat) (a2 : Int32) (a3 : Int32) (σ : sa_St) (r : Int32) (τ : sa_St) (h : f_X6_chance this a1 a2 a3 σ = some (r, τ)) : sa_sh this = some (.inl 6) := sa_gd_ok h
