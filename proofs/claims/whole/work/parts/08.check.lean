theorem d_J3_checkIndex_8e157_0 : decode cJ3_checkIndex_8e157 0 = .ok (.iload_n 0, 1) := by decide +kernel
theorem d_J3_checkIndex_8e157_1 : decode cJ3_checkIndex_8e157 1 = .ok (.ifCond .lt 8, 3) := by decide +kernel
theorem d_J3_checkIndex_8e157_4 : decode cJ3_checkIndex_8e157 4 = .ok (.iload_n 0, 1) := by decide +kernel
theorem d_J3_checkIndex_8e157_5 : decode cJ3_checkIndex_8e157 5 = .ok (.iload_n 1, 1) := by decide +kernel
theorem d_J3_checkIndex_8e157_6 : decode cJ3_checkIndex_8e157 6 = .ok (.if_icmp .lt 10, 3) := by decide +kernel
theorem d_J3_checkIndex_8e157_9 : decode cJ3_checkIndex_8e157 9 = .ok (.aload_n 2, 1) := by decide +kernel
theorem d_J3_checkIndex_8e157_10 : decode cJ3_checkIndex_8e157 10 = .ok (.iload_n 0, 1) := by decide +kernel
theorem d_J3_checkIndex_8e157_11 : decode cJ3_checkIndex_8e157 11 = .ok (.iload_n 1, 1) := by decide +kernel
theorem d_J3_checkIndex_8e157_12 : decode cJ3_checkIndex_8e157 12 = .ok (.invokestatic 95, 3) := by decide +kernel
theorem d_J3_checkIndex_8e157_15 : decode cJ3_checkIndex_8e157 15 = .ok (.athrow, 1) := by decide +kernel
theorem d_J3_checkIndex_8e157_16 : decode cJ3_checkIndex_8e157 16 = .ok (.iload_n 0, 1) := by decide +kernel
theorem d_J3_checkIndex_8e157_17 : decode cJ3_checkIndex_8e157 17 = .ok (.ireturn, 1) := by decide +kernel
theorem d_J0_checkIndex_df160_0 : decode cJ0_checkIndex_df160 0 = .ok (.iload_n 0, 1) := by decide +kernel
theorem d_J0_checkIndex_df160_1 : decode cJ0_checkIndex_df160 1 = .ok (.iload_n 1, 1) := by decide +kernel
theorem d_J0_checkIndex_df160_2 : decode cJ0_checkIndex_df160 2 = .ok (.getstatic 1053, 3) := by decide +kernel
theorem d_J0_checkIndex_df160_5 : decode cJ0_checkIndex_df160 5 = .ok (.invokestatic 1059, 3) := by decide +kernel
theorem d_J0_checkIndex_df160_8 : decode cJ0_checkIndex_df160 8 = .ok (.pop, 1) := by decide +kernel
theorem d_J0_checkIndex_df160_9 : decode cJ0_checkIndex_df160 9 = .ok (.return_, 1) := by decide +kernel
def f_J3_checkIndex_8e157 (a1 a2 : Int32) : sa_M Int32 :=
if a1 < 0 then
sa_fail
else
if a1 < a2 then
sa_ret a1
else
sa_fail
theorem b_J3_checkIndex_8e157 {p : Program} {l : Launch} {e : Env} {s : State} {m : MethodId} {args : Array Value} {below : List Frame} {meth : Method} {c : Code} {D : va_G} {ad : Nat → Nat} {cA : FieldType → ClassId} {A : Nat → Prop} (a1 a2 : Int32) (o : Option Nat) (C : sa_C p s m args meth c cJ3_checkIndex_8e157 RJ3 "checkIndex" 3 (some .int) D ad cA A) : sa_Sg p l e s m args below meth c 3 1 D ad cA A sa_eI 0 [(0, .int a1), (1, .int a2), (2, va_rf o)] [] (f_J3_checkIndex_8e157 a1 a2) := by
  unfold f_J3_checkIndex_8e157
  refine sa_iload_n C d_J3_checkIndex_8e157_0 rfl 0 rfl ?_
  refine sa_if_lt (tgt := 9) C d_J3_checkIndex_8e157_1 (by decide) ?_ ?_
  · exact sa_failI
  refine sa_iload_n C d_J3_checkIndex_8e157_4 rfl 0 rfl ?_
  refine sa_iload_n C d_J3_checkIndex_8e157_5 rfl 1 rfl ?_
  refine sa_icmp_lt (tgt := 16) C d_J3_checkIndex_8e157_6 (by decide) ?_ ?_
  · refine sa_iload_n C d_J3_checkIndex_8e157_16 rfl 0 rfl ?_
    exact sa_iret C d_J3_checkIndex_8e157_17
  exact sa_failI
theorem k_J3_checkIndex_8e157 (a1 a2 : Int32) (o : Option Nat) : sa_Met 1 yJ3_checkIndex_8e157 cJ3_checkIndex_8e157 3 (some .int) (fun ad => [.int a1, .int a2, va_rf o]) sa_eI (f_J3_checkIndex_8e157 a1 a2) := sa_mk (by decide) (fun ad => by cases o <;> exact Nat.le_of_ble_eq_true rfl) (fun p l e s m args below meth c D ad cA A C => b_J3_checkIndex_8e157 a1 a2 o C)
def f_J0_checkIndex_df160 (a1 a2 : Int32) : sa_M Unit :=
sa_bnd (f_J3_checkIndex_8e157 a1 a2) fun _ =>
sa_ret ()
theorem b_J0_checkIndex_df160 {p : Program} {l : Launch} {e : Env} {s : State} {m : MethodId} {args : Array Value} {below : List Frame} {meth : Method} {c : Code} {D : va_G} {ad : Nat → Nat} {cA : FieldType → ClassId} {A : Nat → Prop} (a1 a2 : Int32) (C : sa_C p s m args meth c cJ0_checkIndex_df160 RJ0 "checkIndex" 2 none D ad cA A) : sa_Sg p l e s m args below meth c 2 2 D ad cA A sa_eV 0 [(0, .int a1), (1, .int a2)] [] (f_J0_checkIndex_df160 a1 a2) := by
  unfold f_J0_checkIndex_df160
  refine sa_iload_n C d_J0_checkIndex_df160_0 rfl 0 rfl ?_
  refine sa_iload_n C d_J0_checkIndex_df160_1 rfl 1 rfl ?_
  refine sa_getsF C q553 d_J0_checkIndex_df160_2 (fun o => ?_)
  refine sa_invS C (k_J3_checkIndex_8e157 a1 a2 o) q613 ds_J3_checkIndex_8e157 q132 q612 q611 rfl rfl rfl (Nat.le_of_ble_eq_true rfl) (by decide) (by decide) d_J0_checkIndex_df160_5 (fun _ => ?_)
  refine sa_pop C d_J0_checkIndex_df160_8 rfl ?_
  exact sa_vret C d_J0_checkIndex_df160_9
theorem k_J0_checkIndex_df160 (a1 a2 : Int32) : sa_Met 2 yJ0_checkIndex_df160 cJ0_checkIndex_df160 2 none (fun ad => [.int a1, .int a2]) sa_eV (f_J0_checkIndex_df160 a1 a2) := sa_mk (by decide) (fun ad => Nat.le_of_ble_eq_true rfl) (fun p l e s m args below meth c D ad cA A C => b_J0_checkIndex_df160 a1 a2 C)
