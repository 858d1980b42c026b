theorem dX1_number_0 : decode cX1_number 0 = .ok (.aload_n 0, 1) := by decide +kernel
theorem dX1_number_1 : decode cX1_number 1 = .ok (.getfield 16, 3) := by decide +kernel
theorem dX1_number_4 : decode cX1_number 4 = .ok (.ireturn, 1) := by decide +kernel
theorem hd_yX1_number : (yX1_number).cls ≠ "java/lang/invoke/MethodHandle" ∧ (yX1_number).cls ≠ "java/lang/invoke/VarHandle" ∧ (parseMethodDescriptor (yX1_number).desc).map (fun d => d.parameters.length) = some 0 := ⟨by decide, by decide, by decide +kernel⟩
def f_X1_number  (σ : ZS) : Option Int32 :=
  some (σ.1 0)
set_option maxHeartbeats 4000000 in
set_option maxRecDepth 100000 in
theorem c_X1_number (l : Launch) (D : va_G) (A : Nat → Prop) (a : Nat → Nat) (x : ClassId × ClassId × ClassId) (σ : ZS)  (r : Int32) (h : f_X1_number  σ = some r) : zM l yX1_number w_yX1_number ({ frames := 0, cells := 0, slots := 0, locals := 0 } : Room) D A (tyz x) [.ref (a 1)] (wC a x σ) (some (.int r)) (wC a x σ) := by
  refine z_start [.ref (a 1)] (lv := [(0, .ref (a 1))]) (by decide) (Nat.le_of_ble_eq_true rfl) rfl ?_
  intro p e s m args below meth c C hr hlk
  unfold f_X1_number at h
  refine z_aload_n C 0 rfl dX1_number_0 ?_
  refine z_get C iRX1 1 gC_1 rfl 0 (by decide) fl_RX1_16 rfl dX1_number_1 ?_
  cases h
  exact z_iret C hr hlk dX1_number_4
theorem dX1_ties_0 : decode cX1_ties 0 = .ok (.aload_n 0, 1) := by decide +kernel
theorem dX1_ties_1 : decode cX1_ties 1 = .ok (.getfield 20, 3) := by decide +kernel
theorem dX1_ties_4 : decode cX1_ties 4 = .ok (.ireturn, 1) := by decide +kernel
theorem hd_yX1_ties : (yX1_ties).cls ≠ "java/lang/invoke/MethodHandle" ∧ (yX1_ties).cls ≠ "java/lang/invoke/VarHandle" ∧ (parseMethodDescriptor (yX1_ties).desc).map (fun d => d.parameters.length) = some 0 := ⟨by decide, by decide, by decide +kernel⟩
def f_X1_ties  (σ : ZS) : Option Int32 :=
  some (σ.1 1)
set_option maxHeartbeats 4000000 in
set_option maxRecDepth 100000 in
theorem c_X1_ties (l : Launch) (D : va_G) (A : Nat → Prop) (a : Nat → Nat) (x : ClassId × ClassId × ClassId) (σ : ZS)  (r : Int32) (h : f_X1_ties  σ = some r) : zM l yX1_ties w_yX1_ties ({ frames := 0, cells := 0, slots := 0, locals := 0 } : Room) D A (tyz x) [.ref (a 1)] (wC a x σ) (some (.int r)) (wC a x σ) := by
  refine z_start [.ref (a 1)] (lv := [(0, .ref (a 1))]) (by decide) (Nat.le_of_ble_eq_true rfl) rfl ?_
  intro p e s m args below meth c C hr hlk
  unfold f_X1_ties at h
  refine z_aload_n C 0 rfl dX1_ties_0 ?_
  refine z_get C iRX1 1 gC_1 rfl 1 (by decide) fl_RX1_20 rfl dX1_ties_1 ?_
  cases h
  exact z_iret C hr hlk dX1_ties_4
theorem dX1_leaking_0 : decode cX1_leaking 0 = .ok (.aload_n 0, 1) := by decide +kernel
theorem dX1_leaking_1 : decode cX1_leaking 1 = .ok (.getfield 23, 3) := by decide +kernel
theorem dX1_leaking_4 : decode cX1_leaking 4 = .ok (.ireturn, 1) := by decide +kernel
theorem hd_yX1_leaking : (yX1_leaking).cls ≠ "java/lang/invoke/MethodHandle" ∧ (yX1_leaking).cls ≠ "java/lang/invoke/VarHandle" ∧ (parseMethodDescriptor (yX1_leaking).desc).map (fun d => d.parameters.length) = some 0 := ⟨by decide, by decide, by decide +kernel⟩
def f_X1_leaking  (σ : ZS) : Option Int32 :=
  some (σ.1 2)
set_option maxHeartbeats 4000000 in
set_option maxRecDepth 100000 in
theorem c_X1_leaking (l : Launch) (D : va_G) (A : Nat → Prop) (a : Nat → Nat) (x : ClassId × ClassId × ClassId) (σ : ZS)  (r : Int32) (h : f_X1_leaking  σ = some r) : zM l yX1_leaking w_yX1_leaking ({ frames := 0, cells := 0, slots := 0, locals := 0 } : Room) D A (tyz x) [.ref (a 1)] (wC a x σ) (some (.int r)) (wC a x σ) := by
  refine z_start [.ref (a 1)] (lv := [(0, .ref (a 1))]) (by decide) (Nat.le_of_ble_eq_true rfl) rfl ?_
  intro p e s m args below meth c C hr hlk
  unfold f_X1_leaking at h
  refine z_aload_n C 0 rfl dX1_leaking_0 ?_
  refine z_get C iRX1 1 gC_1 rfl 2 (by decide) fl_RX1_23 rfl dX1_leaking_1 ?_
  cases h
  exact z_iret C hr hlk dX1_leaking_4
theorem dX1_refusing_0 : decode cX1_refusing 0 = .ok (.aload_n 0, 1) := by decide +kernel
theorem dX1_refusing_1 : decode cX1_refusing 1 = .ok (.getfield 26, 3) := by decide +kernel
theorem dX1_refusing_4 : decode cX1_refusing 4 = .ok (.ireturn, 1) := by decide +kernel
theorem hd_yX1_refusing : (yX1_refusing).cls ≠ "java/lang/invoke/MethodHandle" ∧ (yX1_refusing).cls ≠ "java/lang/invoke/VarHandle" ∧ (parseMethodDescriptor (yX1_refusing).desc).map (fun d => d.parameters.length) = some 0 := ⟨by decide, by decide, by decide +kernel⟩
def f_X1_refusing  (σ : ZS) : Option Int32 :=
  some (σ.1 3)
set_option maxHeartbeats 4000000 in
set_option maxRecDepth 100000 in
theorem c_X1_refusing (l : Launch) (D : va_G) (A : Nat → Prop) (a : Nat → Nat) (x : ClassId × ClassId × ClassId) (σ : ZS)  (r : Int32) (h : f_X1_refusing  σ = some r) : zM l yX1_refusing w_yX1_refusing ({ frames := 0, cells := 0, slots := 0, locals := 0 } : Room) D A (tyz x) [.ref (a 1)] (wC a x σ) (some (.int r)) (wC a x σ) := by
  refine z_start [.ref (a 1)] (lv := [(0, .ref (a 1))]) (by decide) (Nat.le_of_ble_eq_true rfl) rfl ?_
  intro p e s m args below meth c C hr hlk
  unfold f_X1_refusing at h
  refine z_aload_n C 0 rfl dX1_refusing_0 ?_
  refine z_get C iRX1 1 gC_1 rfl 3 (by decide) fl_RX1_26 rfl dX1_refusing_1 ?_
  cases h
  exact z_iret C hr hlk dX1_refusing_4
theorem dX1_has_0 : decode cX1_has 0 = .ok (.iload_n 1, 1) := by decide +kernel
theorem dX1_has_1 : decode cX1_has 1 = .ok (.ifCond .lt 15, 3) := by decide +kernel
theorem dX1_has_4 : decode cX1_has 4 = .ok (.iload_n 1, 1) := by decide +kernel
theorem dX1_has_5 : decode cX1_has 5 = .ok (.aload_n 0, 1) := by decide +kernel
theorem dX1_has_6 : decode cX1_has 6 = .ok (.getfield 16, 3) := by decide +kernel
theorem dX1_has_9 : decode cX1_has 9 = .ok (.if_icmp .ge 7, 3) := by decide +kernel
theorem dX1_has_12 : decode cX1_has 12 = .ok (.iconst 1, 1) := by decide +kernel
theorem dX1_has_13 : decode cX1_has 13 = .ok (.goto 4, 3) := by decide +kernel
theorem dX1_has_16 : decode cX1_has 16 = .ok (.iconst 0, 1) := by decide +kernel
theorem dX1_has_17 : decode cX1_has 17 = .ok (.ireturn, 1) := by decide +kernel
theorem hd_yX1_has : (yX1_has).cls ≠ "java/lang/invoke/MethodHandle" ∧ (yX1_has).cls ≠ "java/lang/invoke/VarHandle" ∧ (parseMethodDescriptor (yX1_has).desc).map (fun d => d.parameters.length) = some 1 := ⟨by decide, by decide, by decide +kernel⟩
def f_X1_has (p0 : Int32) (σ : ZS) : Option Int32 :=
  (if p0 < 0 then some 0 else (if (σ.1 0) ≤ p0 then some 0 else some 1))
set_option maxHeartbeats 4000000 in
set_option maxRecDepth 100000 in
theorem c_X1_has (l : Launch) (D : va_G) (A : Nat → Prop) (a : Nat → Nat) (x : ClassId × ClassId × ClassId) (σ : ZS) (p0 : Int32) (r : Int32) (h : f_X1_has p0 σ = some r) : zM l yX1_has w_yX1_has ({ frames := 0, cells := 0, slots := 0, locals := 0 } : Room) D A (tyz x) [.ref (a 1), .int p0] (wC a x σ) (some (.int r)) (wC a x σ) := by
  refine z_start [.ref (a 1), .int p0] (lv := [(0, .ref (a 1)), (1, .int p0)]) (by decide) (Nat.le_of_ble_eq_true rfl) rfl ?_
  intro p e s m args below meth c C hr hlk
  unfold f_X1_has at h
  refine z_iload_n C 1 rfl dX1_has_0 ?_
  refine z_if_lt C 16 (by decide) dX1_has_1 h (fun h => ?_) (fun h => ?_)
  · refine z_iconst C (v := 0) dX1_has_16 (by decide) ?_
    cases h
    exact z_zret C hr hlk rfl dX1_has_17
  · refine z_iload_n C 1 rfl dX1_has_4 ?_
    refine z_aload_n C 0 rfl dX1_has_5 ?_
    refine z_get C iRX1 1 gC_1 rfl 0 (by decide) fl_RX1_16 rfl dX1_has_6 ?_
    refine z_icmp_ge C 16 (by decide) dX1_has_9 h (fun h => ?_) (fun h => ?_)
    · refine z_iconst C (v := 0) dX1_has_16 (by decide) ?_
      cases h
      exact z_zret C hr hlk rfl dX1_has_17
    · refine z_iconst C (v := 1) dX1_has_12 (by decide) ?_
      refine z_goto C 17 (by decide) dX1_has_13 ?_
      cases h
      exact z_zret C hr hlk rfl dX1_has_17
theorem dX1_build_0 : decode cX1_build 0 = .ok (.aload_n 0, 1) := by decide +kernel
theorem dX1_build_1 : decode cX1_build 1 = .ok (.getfield 16, 3) := by decide +kernel
theorem dX1_build_4 : decode cX1_build 4 = .ok (.bipush 10, 2) := by decide +kernel
theorem dX1_build_6 : decode cX1_build 6 = .ok (.if_icmp .lt 6, 3) := by decide +kernel
theorem dX1_build_9 : decode cX1_build 9 = .ok (.bipush (-6), 2) := by decide +kernel
theorem dX1_build_11 : decode cX1_build 11 = .ok (.ireturn, 1) := by decide +kernel
theorem dX1_build_12 : decode cX1_build 12 = .ok (.aload_n 0, 1) := by decide +kernel
theorem dX1_build_13 : decode cX1_build 13 = .ok (.dup, 1) := by decide +kernel
theorem dX1_build_14 : decode cX1_build 14 = .ok (.getfield 16, 3) := by decide +kernel
theorem dX1_build_17 : decode cX1_build 17 = .ok (.iconst 1, 1) := by decide +kernel
theorem dX1_build_18 : decode cX1_build 18 = .ok (.iadd, 1) := by decide +kernel
theorem dX1_build_19 : decode cX1_build 19 = .ok (.putfield 16, 3) := by decide +kernel
theorem dX1_build_22 : decode cX1_build 22 = .ok (.aload_n 0, 1) := by decide +kernel
theorem dX1_build_23 : decode cX1_build 23 = .ok (.getfield 16, 3) := by decide +kernel
theorem dX1_build_26 : decode cX1_build 26 = .ok (.iconst 1, 1) := by decide +kernel
theorem dX1_build_27 : decode cX1_build 27 = .ok (.isub, 1) := by decide +kernel
theorem dX1_build_28 : decode cX1_build 28 = .ok (.ireturn, 1) := by decide +kernel
theorem hd_yX1_build : (yX1_build).cls ≠ "java/lang/invoke/MethodHandle" ∧ (yX1_build).cls ≠ "java/lang/invoke/VarHandle" ∧ (parseMethodDescriptor (yX1_build).desc).map (fun d => d.parameters.length) = some 0 := ⟨by decide, by decide, by decide +kernel⟩
def f_X1_build  (σ : ZS) : Option (Int32 × ZS) :=
  (if (σ.1 0) < 10 then some (((setI σ 0 ((σ.1 0) + 1)).1 0) - 1, setI σ 0 ((σ.1 0) + 1)) else some ((-6), σ))
set_option maxHeartbeats 4000000 in
set_option maxRecDepth 100000 in
theorem c_X1_build (l : Launch) (D : va_G) (A : Nat → Prop) (a : Nat → Nat) (x : ClassId × ClassId × ClassId) (σ : ZS)  (r : (Int32 × ZS)) (h : f_X1_build  σ = some r) : zM l yX1_build w_yX1_build ({ frames := 0, cells := 0, slots := 0, locals := 0 } : Room) D A (tyz x) [.ref (a 1)] (wC a x σ) (some (.int r.1)) (wC a x r.2) := by
  refine z_start [.ref (a 1)] (lv := [(0, .ref (a 1))]) (by decide) (Nat.le_of_ble_eq_true rfl) rfl ?_
  intro p e s m args below meth c C hr hlk
  unfold f_X1_build at h
  refine z_aload_n C 0 rfl dX1_build_0 ?_
  refine z_get C iRX1 1 gC_1 rfl 0 (by decide) fl_RX1_16 rfl dX1_build_1 ?_
  refine z_bipush C (v := 10) dX1_build_4 (by decide) ?_
  refine z_icmp_lt C 12 (by decide) dX1_build_6 h (fun h => ?_) (fun h => ?_)
  · refine z_aload_n C 0 rfl dX1_build_12 ?_
    refine z_dup C rfl dX1_build_13 ?_
    refine z_get C iRX1 1 gC_1 rfl 0 (by decide) fl_RX1_16 rfl dX1_build_14 ?_
    refine z_iconst C (v := 1) dX1_build_17 (by decide) ?_
    refine z_iadd C dX1_build_18 ?_
    refine z_put C iRX1 tyX1 tyX1_ok nmX1 1 gC_1 rfl 0 (by decide) fl_RX1_16 rfl (ty := .int) (by decide +kernel) ⟨rfl, rfl⟩ (Nat.le_of_ble_eq_true rfl) pC_1_0 dX1_build_19 ?_
    refine z_aload_n C 0 rfl dX1_build_22 ?_
    refine z_get C iRX1 1 gC_1 rfl 0 (by decide) fl_RX1_16 rfl dX1_build_23 ?_
    refine z_iconst C (v := 1) dX1_build_26 (by decide) ?_
    refine z_isub C dX1_build_27 ?_
    cases h
    exact z_iret C hr hlk dX1_build_28
  · refine z_bipush C (v := (-6)) dX1_build_9 (by decide) ?_
    cases h
    exact z_iret C hr hlk dX1_build_11
theorem dX1_kind_0 : decode cX1_kind 0 = .ok (.iload_n 1, 1) := by decide +kernel
theorem dX1_kind_1 : decode cX1_kind 1 = .ok (.ifCond .lt 27, 3) := by decide +kernel
theorem dX1_kind_4 : decode cX1_kind 4 = .ok (.iload_n 1, 1) := by decide +kernel
theorem dX1_kind_5 : decode cX1_kind 5 = .ok (.aload_n 0, 1) := by decide +kernel
theorem dX1_kind_6 : decode cX1_kind 6 = .ok (.getfield 16, 3) := by decide +kernel
theorem dX1_kind_9 : decode cX1_kind 9 = .ok (.if_icmp .ge 19, 3) := by decide +kernel
theorem dX1_kind_12 : decode cX1_kind 12 = .ok (.iload_n 2, 1) := by decide +kernel
theorem dX1_kind_13 : decode cX1_kind 13 = .ok (.ifCond .lt 15, 3) := by decide +kernel
theorem dX1_kind_16 : decode cX1_kind 16 = .ok (.iload_n 2, 1) := by decide +kernel
theorem dX1_kind_17 : decode cX1_kind 17 = .ok (.aload_n 0, 1) := by decide +kernel
theorem dX1_kind_18 : decode cX1_kind 18 = .ok (.getfield 16, 3) := by decide +kernel
theorem dX1_kind_21 : decode cX1_kind 21 = .ok (.if_icmp .ge 7, 3) := by decide +kernel
theorem dX1_kind_24 : decode cX1_kind 24 = .ok (.iconst 1, 1) := by decide +kernel
theorem dX1_kind_25 : decode cX1_kind 25 = .ok (.goto 4, 3) := by decide +kernel
theorem dX1_kind_28 : decode cX1_kind 28 = .ok (.iconst 0, 1) := by decide +kernel
theorem dX1_kind_29 : decode cX1_kind 29 = .ok (.istore_n 3, 1) := by decide +kernel
theorem dX1_kind_30 : decode cX1_kind 30 = .ok (.iload_n 3, 1) := by decide +kernel
theorem dX1_kind_31 : decode cX1_kind 31 = .ok (.ifCond .eq 14, 3) := by decide +kernel
theorem dX1_kind_34 : decode cX1_kind 34 = .ok (.aload_n 0, 1) := by decide +kernel
theorem dX1_kind_35 : decode cX1_kind 35 = .ok (.getfield 11, 3) := by decide +kernel
theorem dX1_kind_38 : decode cX1_kind 38 = .ok (.iload_n 1, 1) := by decide +kernel
theorem dX1_kind_39 : decode cX1_kind 39 = .ok (.aaload, 1) := by decide +kernel
theorem dX1_kind_40 : decode cX1_kind 40 = .ok (.iload_n 2, 1) := by decide +kernel
theorem dX1_kind_41 : decode cX1_kind 41 = .ok (.iaload, 1) := by decide +kernel
theorem dX1_kind_42 : decode cX1_kind 42 = .ok (.goto 4, 3) := by decide +kernel
theorem dX1_kind_45 : decode cX1_kind 45 = .ok (.iconst 0, 1) := by decide +kernel
theorem dX1_kind_46 : decode cX1_kind 46 = .ok (.ireturn, 1) := by decide +kernel
theorem hd_yX1_kind : (yX1_kind).cls ≠ "java/lang/invoke/MethodHandle" ∧ (yX1_kind).cls ≠ "java/lang/invoke/VarHandle" ∧ (parseMethodDescriptor (yX1_kind).desc).map (fun d => d.parameters.length) = some 2 := ⟨by decide, by decide, by decide +kernel⟩
def f_X1_kind_J29 (l1 : Int32) (l2 : Int32) (s0 : Int32) (σ : ZS) : Option Int32 :=
  (if s0 = 0 then some 0 else ck (inb l1 10) (ld (σ.2.1 (23 + Int32.toNatClampNeg l1)) 10 l2 (fun y1 => some y1)))
def f_X1_kind_J28 (l1 : Int32) (l2 : Int32) (σ : ZS) : Option Int32 :=
  f_X1_kind_J29 l1 l2 0 σ
def f_X1_kind (p0 : Int32) (p1 : Int32) (σ : ZS) : Option Int32 :=
  (if p0 < 0 then f_X1_kind_J28 p0 p1 σ else (if (σ.1 0) ≤ p0 then f_X1_kind_J28 p0 p1 σ else (if p1 < 0 then f_X1_kind_J28 p0 p1 σ else (if (σ.1 0) ≤ p1 then f_X1_kind_J28 p0 p1 σ else f_X1_kind_J29 p0 p1 1 σ))))
set_option maxHeartbeats 4000000 in
set_option maxRecDepth 100000 in
theorem c_X1_kind (l : Launch) (D : va_G) (A : Nat → Prop) (a : Nat → Nat) (x : ClassId × ClassId × ClassId) (σ : ZS) (p0 : Int32) (p1 : Int32) (r : Int32) (h : f_X1_kind p0 p1 σ = some r) : zM l yX1_kind w_yX1_kind ({ frames := 0, cells := 0, slots := 0, locals := 0 } : Room) D A (tyz x) [.ref (a 1), .int p0, .int p1] (wC a x σ) (some (.int r)) (wC a x σ) := by
  refine z_start [.ref (a 1), .int p0, .int p1] (lv := [(0, .ref (a 1)), (1, .int p0), (2, .int p1)]) (by decide) (Nat.le_of_ble_eq_true rfl) rfl ?_
  intro p e s m args below meth c C hr hlk
  have J29 : ∀ (s0_29 : Int32), f_X1_kind_J29 p0 p1 s0_29 σ = some r → zV p l e ({ frames := 0, cells := 0, slots := 0, locals := 0 } : Room) s m args below meth c 0 0 (MQ below (zQ D A (some (.int r)) (wC a x σ)) args s 0 0 A) D A 4 (wC a x σ) 29 [(0, .ref (a 1)), (1, .int p0), (2, .int p1)] [.int s0_29] := by
    intro s0_29 h
    unfold f_X1_kind_J29 at h
    refine z_istore_n C [(3, .int s0_29), (0, .ref (a 1)), (1, .int p0), (2, .int p1)] rfl (by decide) rfl dX1_kind_29 ?_
    refine z_iload_n C 0 rfl dX1_kind_30 ?_
    refine z_if_eq C 45 (by decide) dX1_kind_31 h (fun h => ?_) (fun h => ?_)
    · refine z_iconst C (v := 0) dX1_kind_45 (by decide) ?_
      cases h
      exact z_iret C hr hlk dX1_kind_46
    · refine z_aload_n C 1 rfl dX1_kind_34 ?_
      refine z_get C iRX1 1 gC_1 rfl 4 (by decide) fl_RX1_11 rfl dX1_kind_35 ?_
      refine z_iload_n C 2 rfl dX1_kind_38 ?_
      refine z_aald (f := fun j => a (23 + j)) C 7 2 gC_7 rfl dX1_kind_39 h (fun h hrow => ?_)
      refine z_iload_n C 3 rfl dX1_kind_40 ?_
      refine z_iald C (23 + Int32.toNatClampNeg p0) 0 (gC_row hrow) rfl dX1_kind_41 h (fun y1 h => ?_)
      refine z_goto C 46 (by decide) dX1_kind_42 ?_
      cases h
      exact z_iret C hr hlk dX1_kind_46
  have J28 : ∀ (_ : Unit), f_X1_kind_J28 p0 p1 σ = some r → zV p l e ({ frames := 0, cells := 0, slots := 0, locals := 0 } : Room) s m args below meth c 0 0 (MQ below (zQ D A (some (.int r)) (wC a x σ)) args s 0 0 A) D A 4 (wC a x σ) 28 [(0, .ref (a 1)), (1, .int p0), (2, .int p1)] [] := by
    intro _ h
    unfold f_X1_kind_J28 at h
    refine z_iconst C (v := 0) dX1_kind_28 (by decide) ?_
    exact J29 _ h
  unfold f_X1_kind at h
  refine z_iload_n C 1 rfl dX1_kind_0 ?_
  refine z_if_lt C 28 (by decide) dX1_kind_1 h (fun h => ?_) (fun h => ?_)
  · exact J28 () h
  · refine z_iload_n C 1 rfl dX1_kind_4 ?_
    refine z_aload_n C 0 rfl dX1_kind_5 ?_
    refine z_get C iRX1 1 gC_1 rfl 0 (by decide) fl_RX1_16 rfl dX1_kind_6 ?_
    refine z_icmp_ge C 28 (by decide) dX1_kind_9 h (fun h => ?_) (fun h => ?_)
    · exact J28 () h
    · refine z_iload_n C 2 rfl dX1_kind_12 ?_
      refine z_if_lt C 28 (by decide) dX1_kind_13 h (fun h => ?_) (fun h => ?_)
      · exact J28 () h
      · refine z_iload_n C 2 rfl dX1_kind_16 ?_
        refine z_aload_n C 0 rfl dX1_kind_17 ?_
        refine z_get C iRX1 1 gC_1 rfl 0 (by decide) fl_RX1_16 rfl dX1_kind_18 ?_
        refine z_icmp_ge C 28 (by decide) dX1_kind_21 h (fun h => ?_) (fun h => ?_)
        · exact J28 () h
        · refine z_iconst C (v := 1) dX1_kind_24 (by decide) ?_
          refine z_goto C 29 (by decide) dX1_kind_25 ?_
          exact J29 _ h
theorem dX1_put_0 : decode cX1_put 0 = .ok (.aload_n 0, 1) := by decide +kernel
theorem dX1_put_1 : decode cX1_put 1 = .ok (.iload_n 1, 1) := by decide +kernel
theorem dX1_put_2 : decode cX1_put 2 = .ok (.invokevirtual 29, 3) := by decide +kernel
theorem dX1_put_5 : decode cX1_put 5 = .ok (.ifCond .eq 20, 3) := by decide +kernel
theorem dX1_put_8 : decode cX1_put 8 = .ok (.aload_n 0, 1) := by decide +kernel
theorem dX1_put_9 : decode cX1_put 9 = .ok (.iload_n 2, 1) := by decide +kernel
theorem dX1_put_10 : decode cX1_put 10 = .ok (.invokevirtual 29, 3) := by decide +kernel
theorem dX1_put_13 : decode cX1_put 13 = .ok (.ifCond .eq 12, 3) := by decide +kernel
theorem dX1_put_16 : decode cX1_put 16 = .ok (.aload_n 0, 1) := by decide +kernel
theorem dX1_put_17 : decode cX1_put 17 = .ok (.getfield 11, 3) := by decide +kernel
theorem dX1_put_20 : decode cX1_put 20 = .ok (.iload_n 1, 1) := by decide +kernel
theorem dX1_put_21 : decode cX1_put 21 = .ok (.aaload, 1) := by decide +kernel
theorem dX1_put_22 : decode cX1_put 22 = .ok (.iload_n 2, 1) := by decide +kernel
theorem dX1_put_23 : decode cX1_put 23 = .ok (.iload_n 3, 1) := by decide +kernel
theorem dX1_put_24 : decode cX1_put 24 = .ok (.iastore, 1) := by decide +kernel
theorem dX1_put_25 : decode cX1_put 25 = .ok (.return_, 1) := by decide +kernel
theorem hd_yX1_put : (yX1_put).cls ≠ "java/lang/invoke/MethodHandle" ∧ (yX1_put).cls ≠ "java/lang/invoke/VarHandle" ∧ (parseMethodDescriptor (yX1_put).desc).map (fun d => d.parameters.length) = some 3 := ⟨by decide, by decide, by decide +kernel⟩
def f_X1_put (p0 : Int32) (p1 : Int32) (p2 : Int32) (σ : ZS) : Option ZS :=
  Option.bind (f_X1_has p0 σ) (fun q1 => (if q1 = 0 then some σ else Option.bind (f_X1_has p1 σ) (fun q2 => (if q2 = 0 then some σ else ck (inb p0 10) (ck (inb p1 10) (some (setA σ (23 + Int32.toNatClampNeg p0) (Int32.toNatClampNeg p1) p2)))))))
set_option maxHeartbeats 4000000 in
set_option maxRecDepth 100000 in
theorem c_X1_put (l : Launch) (D : va_G) (A : Nat → Prop) (a : Nat → Nat) (x : ClassId × ClassId × ClassId) (σ : ZS) (p0 : Int32) (p1 : Int32) (p2 : Int32) (r : ZS) (h : f_X1_put p0 p1 p2 σ = some r) : zM l yX1_put w_yX1_put ({ frames := 1, cells := 0, slots := 0, locals := 21 } : Room) D A (tyz x) [.ref (a 1), .int p0, .int p1, .int p2] (wC a x σ) none (wC a x r) := by
  refine z_start [.ref (a 1), .int p0, .int p1, .int p2] (lv := [(0, .ref (a 1)), (1, .int p0), (2, .int p1), (3, .int p2)]) (by decide) (Nat.le_of_ble_eq_true rfl) rfl ?_
  intro p e s m args below meth c C hr hlk
  unfold f_X1_put at h
  refine z_aload_n C 0 rfl dX1_put_0 ?_
  refine z_iload_n C 1 rfl dX1_put_1 ?_
  obtain ⟨q1, hq1, h⟩ := bd_spec h
  refine z_callV1 C [.int p0] [] (v := (.int q1)) rfl (c_X1_has l D A a x σ p0 q1 hq1) cd_yX1_has in_RX1 ml_RX1_29 im_yX1_has sl_yX1_has gC_1 rfl hd_yX1_has ⟨⟨Nat.le_of_ble_eq_true rfl, Nat.le_of_ble_eq_true rfl⟩, rfl, rfl⟩ rfl (Nat.le_of_ble_eq_true rfl) ⟨Nat.zero_le _, Nat.zero_le _⟩ dX1_put_2 ?_
  refine z_if_eq C 25 (by decide) dX1_put_5 h (fun h => ?_) (fun h => ?_)
  · cases h
    exact z_vret C hr hlk dX1_put_25
  · refine z_aload_n C 0 rfl dX1_put_8 ?_
    refine z_iload_n C 2 rfl dX1_put_9 ?_
    obtain ⟨q2, hq2, h⟩ := bd_spec h
    refine z_callV1 C [.int p1] [] (v := (.int q2)) rfl (c_X1_has l D A a x σ p1 q2 hq2) cd_yX1_has in_RX1 ml_RX1_29 im_yX1_has sl_yX1_has gC_1 rfl hd_yX1_has ⟨⟨Nat.le_of_ble_eq_true rfl, Nat.le_of_ble_eq_true rfl⟩, rfl, rfl⟩ rfl (Nat.le_of_ble_eq_true rfl) ⟨Nat.zero_le _, Nat.zero_le _⟩ dX1_put_10 ?_
    refine z_if_eq C 25 (by decide) dX1_put_13 h (fun h => ?_) (fun h => ?_)
    · cases h
      exact z_vret C hr hlk dX1_put_25
    · refine z_aload_n C 0 rfl dX1_put_16 ?_
      refine z_get C iRX1 1 gC_1 rfl 4 (by decide) fl_RX1_11 rfl dX1_put_17 ?_
      refine z_iload_n C 1 rfl dX1_put_20 ?_
      refine z_aald (f := fun j => a (23 + j)) C 7 2 gC_7 rfl dX1_put_21 h (fun h hrow => ?_)
      refine z_iload_n C 2 rfl dX1_put_22 ?_
      refine z_iload_n C 3 rfl dX1_put_23 ?_
      refine z_iast C (23 + Int32.toNatClampNeg p0) 0 (gC_row hrow) rfl (uC_row hrow) dX1_put_24 h (fun h => ?_)
      cases h
      exact z_vret C hr hlk dX1_put_25
theorem dX1_bind_0 : decode cX1_bind 0 = .ok (.aload_n 0, 1) := by decide +kernel
theorem dX1_bind_1 : decode cX1_bind 1 = .ok (.iload_n 1, 1) := by decide +kernel
theorem dX1_bind_2 : decode cX1_bind 2 = .ok (.iload_n 2, 1) := by decide +kernel
theorem dX1_bind_3 : decode cX1_bind 3 = .ok (.iload_n 3, 1) := by decide +kernel
theorem dX1_bind_4 : decode cX1_bind 4 = .ok (.invokevirtual 33, 3) := by decide +kernel
theorem dX1_bind_7 : decode cX1_bind 7 = .ok (.aload_n 0, 1) := by decide +kernel
theorem dX1_bind_8 : decode cX1_bind 8 = .ok (.iload_n 2, 1) := by decide +kernel
theorem dX1_bind_9 : decode cX1_bind 9 = .ok (.iload_n 1, 1) := by decide +kernel
theorem dX1_bind_10 : decode cX1_bind 10 = .ok (.iload 4, 2) := by decide +kernel
theorem dX1_bind_12 : decode cX1_bind 12 = .ok (.invokevirtual 33, 3) := by decide +kernel
theorem dX1_bind_15 : decode cX1_bind 15 = .ok (.aload_n 0, 1) := by decide +kernel
theorem dX1_bind_16 : decode cX1_bind 16 = .ok (.dup, 1) := by decide +kernel
theorem dX1_bind_17 : decode cX1_bind 17 = .ok (.getfield 20, 3) := by decide +kernel
theorem dX1_bind_20 : decode cX1_bind 20 = .ok (.iconst 1, 1) := by decide +kernel
theorem dX1_bind_21 : decode cX1_bind 21 = .ok (.iadd, 1) := by decide +kernel
theorem dX1_bind_22 : decode cX1_bind 22 = .ok (.putfield 20, 3) := by decide +kernel
theorem dX1_bind_25 : decode cX1_bind 25 = .ok (.return_, 1) := by decide +kernel
theorem hd_yX1_bind : (yX1_bind).cls ≠ "java/lang/invoke/MethodHandle" ∧ (yX1_bind).cls ≠ "java/lang/invoke/VarHandle" ∧ (parseMethodDescriptor (yX1_bind).desc).map (fun d => d.parameters.length) = some 4 := ⟨by decide, by decide, by decide +kernel⟩
def f_X1_bind (p0 : Int32) (p1 : Int32) (p2 : Int32) (p3 : Int32) (σ : ZS) : Option ZS :=
  Option.bind (f_X1_put p0 p1 p2 σ) (fun q1 => Option.bind (f_X1_put p1 p0 p3 q1) (fun q2 => some (setI q2 1 ((q2.1 1) + 1))))
set_option maxHeartbeats 4000000 in
set_option maxRecDepth 100000 in
theorem c_X1_bind (l : Launch) (D : va_G) (A : Nat → Prop) (a : Nat → Nat) (x : ClassId × ClassId × ClassId) (σ : ZS) (p0 : Int32) (p1 : Int32) (p2 : Int32) (p3 : Int32) (r : ZS) (h : f_X1_bind p0 p1 p2 p3 σ = some r) : zM l yX1_bind w_yX1_bind ({ frames := 2, cells := 0, slots := 0, locals := 44 } : Room) D A (tyz x) [.ref (a 1), .int p0, .int p1, .int p2, .int p3] (wC a x σ) none (wC a x r) := by
  refine z_start [.ref (a 1), .int p0, .int p1, .int p2, .int p3] (lv := [(0, .ref (a 1)), (1, .int p0), (2, .int p1), (3, .int p2), (4, .int p3)]) (by decide) (Nat.le_of_ble_eq_true rfl) rfl ?_
  intro p e s m args below meth c C hr hlk
  unfold f_X1_bind at h
  refine z_aload_n C 0 rfl dX1_bind_0 ?_
  refine z_iload_n C 1 rfl dX1_bind_1 ?_
  refine z_iload_n C 2 rfl dX1_bind_2 ?_
  refine z_iload_n C 3 rfl dX1_bind_3 ?_
  obtain ⟨q1, hq1, h⟩ := bd_spec h
  refine z_callV0 C [.int p0, .int p1, .int p2] [] rfl (c_X1_put l D A a x σ p0 p1 p2 q1 hq1) cd_yX1_put in_RX1 ml_RX1_33 im_yX1_put sl_yX1_put gC_1 rfl hd_yX1_put ⟨⟨Nat.le_of_ble_eq_true rfl, Nat.le_of_ble_eq_true rfl⟩, rfl, rfl⟩ rfl (Nat.le_of_ble_eq_true rfl) ⟨Nat.zero_le _, Nat.zero_le _⟩ dX1_bind_4 ?_
  refine z_aload_n C 0 rfl dX1_bind_7 ?_
  refine z_iload_n C 2 rfl dX1_bind_8 ?_
  refine z_iload_n C 1 rfl dX1_bind_9 ?_
  refine z_iload C 4 rfl dX1_bind_10 ?_
  obtain ⟨q2, hq2, h⟩ := bd_spec h
  refine z_callV0 C [.int p1, .int p0, .int p3] [] rfl (c_X1_put l D A a x q1 p1 p0 p3 q2 hq2) cd_yX1_put in_RX1 ml_RX1_33 im_yX1_put sl_yX1_put gC_1 rfl hd_yX1_put ⟨⟨Nat.le_of_ble_eq_true rfl, Nat.le_of_ble_eq_true rfl⟩, rfl, rfl⟩ rfl (Nat.le_of_ble_eq_true rfl) ⟨Nat.zero_le _, Nat.zero_le _⟩ dX1_bind_12 ?_
  refine z_aload_n C 0 rfl dX1_bind_15 ?_
  refine z_dup C rfl dX1_bind_16 ?_
  refine z_get C iRX1 1 gC_1 rfl 1 (by decide) fl_RX1_20 rfl dX1_bind_17 ?_
  refine z_iconst C (v := 1) dX1_bind_20 (by decide) ?_
  refine z_iadd C dX1_bind_21 ?_
  refine z_put C iRX1 tyX1 tyX1_ok nmX1 1 gC_1 rfl 1 (by decide) fl_RX1_20 rfl (ty := .int) (by decide +kernel) ⟨rfl, rfl⟩ (Nat.le_of_ble_eq_true rfl) pC_1_1 dX1_bind_22 ?_
  cases h
  exact z_vret C hr hlk dX1_bind_25
theorem dX1_part_0 : decode cX1_part 0 = .ok (.aload_n 0, 1) := by decide +kernel
theorem dX1_part_1 : decode cX1_part 1 = .ok (.iload_n 1, 1) := by decide +kernel
theorem dX1_part_2 : decode cX1_part 2 = .ok (.iload_n 2, 1) := by decide +kernel
theorem dX1_part_3 : decode cX1_part 3 = .ok (.iconst 0, 1) := by decide +kernel
theorem dX1_part_4 : decode cX1_part 4 = .ok (.invokevirtual 33, 3) := by decide +kernel
theorem dX1_part_7 : decode cX1_part 7 = .ok (.aload_n 0, 1) := by decide +kernel
theorem dX1_part_8 : decode cX1_part 8 = .ok (.iload_n 2, 1) := by decide +kernel
theorem dX1_part_9 : decode cX1_part 9 = .ok (.iload_n 1, 1) := by decide +kernel
theorem dX1_part_10 : decode cX1_part 10 = .ok (.iconst 0, 1) := by decide +kernel
theorem dX1_part_11 : decode cX1_part 11 = .ok (.invokevirtual 33, 3) := by decide +kernel
theorem dX1_part_14 : decode cX1_part 14 = .ok (.aload_n 0, 1) := by decide +kernel
theorem dX1_part_15 : decode cX1_part 15 = .ok (.dup, 1) := by decide +kernel
theorem dX1_part_16 : decode cX1_part 16 = .ok (.getfield 20, 3) := by decide +kernel
theorem dX1_part_19 : decode cX1_part 19 = .ok (.iconst 1, 1) := by decide +kernel
theorem dX1_part_20 : decode cX1_part 20 = .ok (.isub, 1) := by decide +kernel
theorem dX1_part_21 : decode cX1_part 21 = .ok (.putfield 20, 3) := by decide +kernel
theorem dX1_part_24 : decode cX1_part 24 = .ok (.return_, 1) := by decide +kernel
theorem hd_yX1_part : (yX1_part).cls ≠ "java/lang/invoke/MethodHandle" ∧ (yX1_part).cls ≠ "java/lang/invoke/VarHandle" ∧ (parseMethodDescriptor (yX1_part).desc).map (fun d => d.parameters.length) = some 2 := ⟨by decide, by decide, by decide +kernel⟩
def f_X1_part (p0 : Int32) (p1 : Int32) (σ : ZS) : Option ZS :=
  Option.bind (f_X1_put p0 p1 0 σ) (fun q1 => Option.bind (f_X1_put p1 p0 0 q1) (fun q2 => some (setI q2 1 ((q2.1 1) - 1))))
set_option maxHeartbeats 4000000 in
set_option maxRecDepth 100000 in
theorem c_X1_part (l : Launch) (D : va_G) (A : Nat → Prop) (a : Nat → Nat) (x : ClassId × ClassId × ClassId) (σ : ZS) (p0 : Int32) (p1 : Int32) (r : ZS) (h : f_X1_part p0 p1 σ = some r) : zM l yX1_part w_yX1_part ({ frames := 2, cells := 0, slots := 0, locals := 44 } : Room) D A (tyz x) [.ref (a 1), .int p0, .int p1] (wC a x σ) none (wC a x r) := by
  refine z_start [.ref (a 1), .int p0, .int p1] (lv := [(0, .ref (a 1)), (1, .int p0), (2, .int p1)]) (by decide) (Nat.le_of_ble_eq_true rfl) rfl ?_
  intro p e s m args below meth c C hr hlk
  unfold f_X1_part at h
  refine z_aload_n C 0 rfl dX1_part_0 ?_
  refine z_iload_n C 1 rfl dX1_part_1 ?_
  refine z_iload_n C 2 rfl dX1_part_2 ?_
  refine z_iconst C (v := 0) dX1_part_3 (by decide) ?_
  obtain ⟨q1, hq1, h⟩ := bd_spec h
  refine z_callV0 C [.int p0, .int p1, .int 0] [] rfl (c_X1_put l D A a x σ p0 p1 0 q1 hq1) cd_yX1_put in_RX1 ml_RX1_33 im_yX1_put sl_yX1_put gC_1 rfl hd_yX1_put ⟨⟨Nat.le_of_ble_eq_true rfl, Nat.le_of_ble_eq_true rfl⟩, rfl, rfl⟩ rfl (Nat.le_of_ble_eq_true rfl) ⟨Nat.zero_le _, Nat.zero_le _⟩ dX1_part_4 ?_
  refine z_aload_n C 0 rfl dX1_part_7 ?_
  refine z_iload_n C 2 rfl dX1_part_8 ?_
  refine z_iload_n C 1 rfl dX1_part_9 ?_
  refine z_iconst C (v := 0) dX1_part_10 (by decide) ?_
  obtain ⟨q2, hq2, h⟩ := bd_spec h
  refine z_callV0 C [.int p1, .int p0, .int 0] [] rfl (c_X1_put l D A a x q1 p1 p0 0 q2 hq2) cd_yX1_put in_RX1 ml_RX1_33 im_yX1_put sl_yX1_put gC_1 rfl hd_yX1_put ⟨⟨Nat.le_of_ble_eq_true rfl, Nat.le_of_ble_eq_true rfl⟩, rfl, rfl⟩ rfl (Nat.le_of_ble_eq_true rfl) ⟨Nat.zero_le _, Nat.zero_le _⟩ dX1_part_11 ?_
  refine z_aload_n C 0 rfl dX1_part_14 ?_
  refine z_dup C rfl dX1_part_15 ?_
  refine z_get C iRX1 1 gC_1 rfl 1 (by decide) fl_RX1_20 rfl dX1_part_16 ?_
  refine z_iconst C (v := 1) dX1_part_19 (by decide) ?_
  refine z_isub C dX1_part_20 ?_
  refine z_put C iRX1 tyX1 tyX1_ok nmX1 1 gC_1 rfl 1 (by decide) fl_RX1_20 rfl (ty := .int) (by decide +kernel) ⟨rfl, rfl⟩ (Nat.le_of_ble_eq_true rfl) pC_1_1 dX1_part_21 ?_
  cases h
  exact z_vret C hr hlk dX1_part_24
theorem dX1_providersOf_0 : decode cX1_providersOf 0 = .ok (.iconst 0, 1) := by decide +kernel
theorem dX1_providersOf_1 : decode cX1_providersOf 1 = .ok (.istore_n 2, 1) := by decide +kernel
theorem dX1_providersOf_2 : decode cX1_providersOf 2 = .ok (.iconst 0, 1) := by decide +kernel
theorem dX1_providersOf_3 : decode cX1_providersOf 3 = .ok (.istore_n 3, 1) := by decide +kernel
theorem dX1_providersOf_4 : decode cX1_providersOf 4 = .ok (.iload_n 3, 1) := by decide +kernel
theorem dX1_providersOf_5 : decode cX1_providersOf 5 = .ok (.aload_n 0, 1) := by decide +kernel
theorem dX1_providersOf_6 : decode cX1_providersOf 6 = .ok (.getfield 16, 3) := by decide +kernel
theorem dX1_providersOf_9 : decode cX1_providersOf 9 = .ok (.if_icmp .ge 54, 3) := by decide +kernel
theorem dX1_providersOf_12 : decode cX1_providersOf 12 = .ok (.iconst 0, 1) := by decide +kernel
theorem dX1_providersOf_13 : decode cX1_providersOf 13 = .ok (.istore 4, 2) := by decide +kernel
theorem dX1_providersOf_15 : decode cX1_providersOf 15 = .ok (.iload 4, 2) := by decide +kernel
theorem dX1_providersOf_17 : decode cX1_providersOf 17 = .ok (.aload_n 0, 1) := by decide +kernel
theorem dX1_providersOf_18 : decode cX1_providersOf 18 = .ok (.getfield 16, 3) := by decide +kernel
theorem dX1_providersOf_21 : decode cX1_providersOf 21 = .ok (.if_icmp .ge 36, 3) := by decide +kernel
theorem dX1_providersOf_24 : decode cX1_providersOf 24 = .ok (.iload_n 1, 1) := by decide +kernel
theorem dX1_providersOf_25 : decode cX1_providersOf 25 = .ok (.iload_n 3, 1) := by decide +kernel
theorem dX1_providersOf_26 : decode cX1_providersOf 26 = .ok (.invokestatic 44, 3) := by decide +kernel
theorem dX1_providersOf_29 : decode cX1_providersOf 29 = .ok (.ifCond .eq 28, 3) := by decide +kernel
theorem dX1_providersOf_32 : decode cX1_providersOf 32 = .ok (.aload_n 0, 1) := by decide +kernel
theorem dX1_providersOf_33 : decode cX1_providersOf 33 = .ok (.iload_n 3, 1) := by decide +kernel
theorem dX1_providersOf_34 : decode cX1_providersOf 34 = .ok (.iload 4, 2) := by decide +kernel
theorem dX1_providersOf_36 : decode cX1_providersOf 36 = .ok (.invokevirtual 48, 3) := by decide +kernel
theorem dX1_providersOf_39 : decode cX1_providersOf 39 = .ok (.iconst 3, 1) := by decide +kernel
theorem dX1_providersOf_40 : decode cX1_providersOf 40 = .ok (.if_icmp .ne 11, 3) := by decide +kernel
theorem dX1_providersOf_43 : decode cX1_providersOf 43 = .ok (.iload_n 2, 1) := by decide +kernel
theorem dX1_providersOf_44 : decode cX1_providersOf 44 = .ok (.iload 4, 2) := by decide +kernel
theorem dX1_providersOf_46 : decode cX1_providersOf 46 = .ok (.invokestatic 37, 3) := by decide +kernel
theorem dX1_providersOf_49 : decode cX1_providersOf 49 = .ok (.ior, 1) := by decide +kernel
theorem dX1_providersOf_50 : decode cX1_providersOf 50 = .ok (.istore_n 2, 1) := by decide +kernel
theorem dX1_providersOf_51 : decode cX1_providersOf 51 = .ok (.iinc 4 1, 3) := by decide +kernel
theorem dX1_providersOf_54 : decode cX1_providersOf 54 = .ok (.goto (-39), 3) := by decide +kernel
theorem dX1_providersOf_57 : decode cX1_providersOf 57 = .ok (.iinc 3 1, 3) := by decide +kernel
theorem dX1_providersOf_60 : decode cX1_providersOf 60 = .ok (.goto (-56), 3) := by decide +kernel
theorem dX1_providersOf_63 : decode cX1_providersOf 63 = .ok (.iload_n 2, 1) := by decide +kernel
theorem dX1_providersOf_64 : decode cX1_providersOf 64 = .ok (.ireturn, 1) := by decide +kernel
theorem hd_yX1_providersOf : (yX1_providersOf).cls ≠ "java/lang/invoke/MethodHandle" ∧ (yX1_providersOf).cls ≠ "java/lang/invoke/VarHandle" ∧ (parseMethodDescriptor (yX1_providersOf).desc).map (fun d => d.parameters.length) = some 1 := ⟨by decide, by decide, by decide +kernel⟩
def f_X1_providersOf_B15 (l1 : Int32) (l3 : Int32) (σ : ZS) (t2 : (Int32 × Int32)) : Option ((Int32 × Int32) ⊕ ((Int32 × Int32) ⊕ Int32)) :=
  (if (σ.1 0) ≤ t2.2 then wi (some (.inl (t2.1, l3 + 1))) else Option.bind (f_X6_hasBit l1 l3) (fun q1 => (if q1 = 0 then wi (some (.inl (t2.1, l3 + 1))) else Option.bind (f_X1_kind l3 t2.2 σ) (fun q2 => (if q2 = 3 then Option.bind (f_X6_bit t2.2) (fun q3 => some (.inl (t2.1 ||| q3, t2.2 + 1))) else some (.inl (t2.1, t2.2 + 1)))))))
def f_X1_providersOf_B4 (l1 : Int32) (σ : ZS) (t1 : (Int32 × Int32)) : Option ((Int32 × Int32) ⊕ Int32) :=
  (if (σ.1 0) ≤ t1.2 then wi (some t1.1) else lp zF (f_X1_providersOf_B15 l1 t1.2 σ) (t1.1, 0))
def f_X1_providersOf (p0 : Int32) (σ : ZS) : Option Int32 :=
  lp zF (f_X1_providersOf_B4 p0 σ) (0, 0)
set_option maxHeartbeats 4000000 in
set_option maxRecDepth 100000 in
theorem c_X1_providersOf (l : Launch) (D : va_G) (A : Nat → Prop) (a : Nat → Nat) (x : ClassId × ClassId × ClassId) (σ : ZS) (p0 : Int32) (r : Int32) (h : f_X1_providersOf p0 σ = some r) : zM l yX1_providersOf w_yX1_providersOf ({ frames := 1, cells := 0, slots := 0, locals := 23 } : Room) D A (tyz x) [.ref (a 1), .int p0] (wC a x σ) (some (.int r)) (wC a x σ) := by
  refine z_start [.ref (a 1), .int p0] (lv := [(0, .ref (a 1)), (1, .int p0)]) (by decide) (Nat.le_of_ble_eq_true rfl) rfl ?_
  intro p e s m args below meth c C hr hlk
  unfold f_X1_providersOf at h
  refine z_iconst C (v := 0) dX1_providersOf_0 (by decide) ?_
  refine z_istore_n C [(2, .int 0), (0, .ref (a 1)), (1, .int p0)] rfl (by decide) rfl dX1_providersOf_1 ?_
  refine z_iconst C (v := 0) dX1_providersOf_2 (by decide) ?_
  refine z_istore_n C [(3, .int 0), (2, .int 0), (0, .ref (a 1)), (1, .int p0)] rfl (by decide) rfl dX1_providersOf_3 ?_
  refine z_sub C [2, 3, 1, 0] (lv' := [(0, .ref (a 1)), (1, .int p0), (2, .int 0), (3, .int 0)]) rfl ?_
  have L4 : ∀ (n : Nat) (t1 : (Int32 × Int32)), lp n (f_X1_providersOf_B4 p0 σ) t1 = some r → zV p l e ({ frames := 1, cells := 0, slots := 0, locals := 23 } : Room) s m args below meth c 0 0 (MQ below (zQ D A (some (.int r)) (wC a x σ)) args s 0 0 A) D A 5 (wC a x σ) 4 [(0, .ref (a 1)), (1, .int p0), (2, .int t1.1), (3, .int t1.2)] [] := by
    intro n1
    induction n1 with
    | zero => exact fun _ h => (lp_zero h).elim
    | succ n1 ih1 =>
      intro t1 h
      obtain ⟨u1, h, hk1⟩ := lp_succ h
      unfold f_X1_providersOf_B4 at h
      refine z_iload_n C 3 rfl dX1_providersOf_4 ?_
      refine z_aload_n C 0 rfl dX1_providersOf_5 ?_
      refine z_get C iRX1 1 gC_1 rfl 0 (by decide) fl_RX1_16 rfl dX1_providersOf_6 ?_
      refine z_icmp_ge C 63 (by decide) dX1_providersOf_9 h (fun h => ?_) (fun h => ?_)
      · refine z_iload_n C 2 rfl dX1_providersOf_63 ?_
        have h := unwi h hk1
        cases h
        exact z_iret C hr hlk dX1_providersOf_64
      · refine z_iconst C (v := 0) dX1_providersOf_12 (by decide) ?_
        refine z_istore C [(4, .int 0), (0, .ref (a 1)), (1, .int p0), (2, .int t1.1), (3, .int t1.2)] (by decide) rfl dX1_providersOf_13 ?_
        refine z_sub C [1, 2, 3, 4, 0] (lv' := [(0, .ref (a 1)), (1, .int p0), (2, .int t1.1), (3, .int t1.2), (4, .int 0)]) rfl ?_
        have L15 : ∀ (n : Nat) (t2 : (Int32 × Int32)), lp n (f_X1_providersOf_B15 p0 t1.2 σ) t2 = some u1 → zV p l e ({ frames := 1, cells := 0, slots := 0, locals := 23 } : Room) s m args below meth c 0 0 (MQ below (zQ D A (some (.int r)) (wC a x σ)) args s 0 0 A) D A 5 (wC a x σ) 15 [(0, .ref (a 1)), (1, .int p0), (2, .int t2.1), (3, .int t1.2), (4, .int t2.2)] [] := by
          intro n2
          induction n2 with
          | zero => exact fun _ h => (lp_zero h).elim
          | succ n2 ih2 =>
            intro t2 h
            obtain ⟨u2, h, hk2⟩ := lp_succ h
            unfold f_X1_providersOf_B15 at h
            refine z_iload C 4 rfl dX1_providersOf_15 ?_
            refine z_aload_n C 0 rfl dX1_providersOf_17 ?_
            refine z_get C iRX1 1 gC_1 rfl 0 (by decide) fl_RX1_16 rfl dX1_providersOf_18 ?_
            refine z_icmp_ge C 57 (by decide) dX1_providersOf_21 h (fun h => ?_) (fun h => ?_)
            · refine z_iinc C (v := t1.2 + 1) [(3, .int (t1.2 + 1)), (0, .ref (a 1)), (1, .int p0), (2, .int t2.1), (4, .int t2.2)] 3 rfl rfl (by decide) rfl dX1_providersOf_57 ?_
              refine z_goto C 4 (by decide) dX1_providersOf_60 ?_
              refine z_sub C [1, 2, 3, 0] (lv' := [(0, .ref (a 1)), (1, .int p0), (2, .int t2.1), (3, .int (t1.2 + 1))]) rfl ?_
              have h := unwi h hk2
              exact ih1 _ (uninl h hk1)
            · refine z_iload_n C 1 rfl dX1_providersOf_24 ?_
              refine z_iload_n C 3 rfl dX1_providersOf_25 ?_
              obtain ⟨q1, hq1, h⟩ := bd_spec h
              refine z_callSN1 C [.int p0, .int t1.2] [] (v := .int q1) 4 rfl (c_X6_hasBit l D A (tyz x) (wC a x σ) p0 t1.2 q1 hq1) cd_yX6_hasBit in_RX6 rfl sm_yX6_hasBit hd_yX6_hasBit ⟨⟨Nat.le_of_ble_eq_true rfl, Nat.le_of_ble_eq_true rfl⟩, rfl, rfl⟩ rfl (Nat.le_of_ble_eq_true rfl) ⟨Nat.zero_le _, Nat.zero_le _⟩ dX1_providersOf_26 ?_
              refine z_if_eq C 57 (by decide) dX1_providersOf_29 h (fun h => ?_) (fun h => ?_)
              · refine z_iinc C (v := t1.2 + 1) [(3, .int (t1.2 + 1)), (0, .ref (a 1)), (1, .int p0), (2, .int t2.1), (4, .int t2.2)] 3 rfl rfl (by decide) rfl dX1_providersOf_57 ?_
                refine z_goto C 4 (by decide) dX1_providersOf_60 ?_
                refine z_sub C [1, 2, 3, 0] (lv' := [(0, .ref (a 1)), (1, .int p0), (2, .int t2.1), (3, .int (t1.2 + 1))]) rfl ?_
                have h := unwi h hk2
                exact ih1 _ (uninl h hk1)
              · refine z_aload_n C 0 rfl dX1_providersOf_32 ?_
                refine z_iload_n C 3 rfl dX1_providersOf_33 ?_
                refine z_iload C 4 rfl dX1_providersOf_34 ?_
                obtain ⟨q2, hq2, h⟩ := bd_spec h
                refine z_callV1 C [.int t1.2, .int t2.2] [] (v := (.int q2)) rfl (c_X1_kind l D A a x σ t1.2 t2.2 q2 hq2) cd_yX1_kind in_RX1 ml_RX1_48 im_yX1_kind sl_yX1_kind gC_1 rfl hd_yX1_kind ⟨⟨Nat.le_of_ble_eq_true rfl, Nat.le_of_ble_eq_true rfl⟩, rfl, rfl⟩ rfl (Nat.le_of_ble_eq_true rfl) ⟨Nat.zero_le _, Nat.zero_le _⟩ dX1_providersOf_36 ?_
                refine z_iconst C (v := 3) dX1_providersOf_39 (by decide) ?_
                refine z_icmp_ne C 51 (by decide) dX1_providersOf_40 h (fun h => ?_) (fun h => ?_)
                · refine z_iinc C (v := t2.2 + 1) [(4, .int (t2.2 + 1)), (0, .ref (a 1)), (1, .int p0), (2, .int t2.1), (3, .int t1.2)] 4 rfl rfl (by decide) rfl dX1_providersOf_51 ?_
                  refine z_goto C 15 (by decide) dX1_providersOf_54 ?_
                  refine z_sub C [1, 2, 3, 4, 0] (lv' := [(0, .ref (a 1)), (1, .int p0), (2, .int t2.1), (3, .int t1.2), (4, .int (t2.2 + 1))]) rfl ?_
                  exact ih2 _ (uninl h hk2)
                · refine z_iload_n C 2 rfl dX1_providersOf_43 ?_
                  refine z_iload C 4 rfl dX1_providersOf_44 ?_
                  obtain ⟨q3, hq3, h⟩ := bd_spec h
                  refine z_callSN1 C [.int t2.2] [.int t2.1] (v := .int q3) 3 rfl (c_X6_bit l D A (tyz x) (wC a x σ) t2.2 q3 hq3) cd_yX6_bit in_RX6 rfl sm_yX6_bit hd_yX6_bit ⟨⟨Nat.le_of_ble_eq_true rfl, Nat.le_of_ble_eq_true rfl⟩, rfl, rfl⟩ rfl (Nat.le_of_ble_eq_true rfl) ⟨Nat.zero_le _, Nat.zero_le _⟩ dX1_providersOf_46 ?_
                  refine z_ior C dX1_providersOf_49 ?_
                  refine z_istore_n C [(2, .int (t2.1 ||| q3)), (0, .ref (a 1)), (1, .int p0), (3, .int t1.2), (4, .int t2.2)] rfl (by decide) rfl dX1_providersOf_50 ?_
                  refine z_iinc C (v := t2.2 + 1) [(4, .int (t2.2 + 1)), (2, .int (t2.1 ||| q3)), (0, .ref (a 1)), (1, .int p0), (3, .int t1.2)] 4 rfl rfl (by decide) rfl dX1_providersOf_51 ?_
                  refine z_goto C 15 (by decide) dX1_providersOf_54 ?_
                  refine z_sub C [2, 3, 1, 4, 0] (lv' := [(0, .ref (a 1)), (1, .int p0), (2, .int (t2.1 ||| q3)), (3, .int t1.2), (4, .int (t2.2 + 1))]) rfl ?_
                  exact ih2 _ (uninl h hk2)
        exact L15 _ _ h
  exact L4 _ _ h
theorem dX1_isAbove_0 : decode cX1_isAbove 0 = .ok (.iload_n 2, 1) := by decide +kernel
theorem dX1_isAbove_1 : decode cX1_isAbove 1 = .ok (.invokestatic 37, 3) := by decide +kernel
theorem dX1_isAbove_4 : decode cX1_isAbove 4 = .ok (.istore_n 3, 1) := by decide +kernel
theorem dX1_isAbove_5 : decode cX1_isAbove 5 = .ok (.iconst 0, 1) := by decide +kernel
theorem dX1_isAbove_6 : decode cX1_isAbove 6 = .ok (.istore 4, 2) := by decide +kernel
theorem dX1_isAbove_8 : decode cX1_isAbove 8 = .ok (.iload 4, 2) := by decide +kernel
theorem dX1_isAbove_10 : decode cX1_isAbove 10 = .ok (.aload_n 0, 1) := by decide +kernel
theorem dX1_isAbove_11 : decode cX1_isAbove 11 = .ok (.getfield 16, 3) := by decide +kernel
theorem dX1_isAbove_14 : decode cX1_isAbove 14 = .ok (.if_icmp .ge 17, 3) := by decide +kernel
theorem dX1_isAbove_17 : decode cX1_isAbove 17 = .ok (.iload_n 3, 1) := by decide +kernel
theorem dX1_isAbove_18 : decode cX1_isAbove 18 = .ok (.aload_n 0, 1) := by decide +kernel
theorem dX1_isAbove_19 : decode cX1_isAbove 19 = .ok (.iload_n 3, 1) := by decide +kernel
theorem dX1_isAbove_20 : decode cX1_isAbove 20 = .ok (.invokevirtual 41, 3) := by decide +kernel
theorem dX1_isAbove_23 : decode cX1_isAbove 23 = .ok (.ior, 1) := by decide +kernel
theorem dX1_isAbove_24 : decode cX1_isAbove 24 = .ok (.istore_n 3, 1) := by decide +kernel
theorem dX1_isAbove_25 : decode cX1_isAbove 25 = .ok (.iinc 4 1, 3) := by decide +kernel
theorem dX1_isAbove_28 : decode cX1_isAbove 28 = .ok (.goto (-20), 3) := by decide +kernel
theorem dX1_isAbove_31 : decode cX1_isAbove 31 = .ok (.iload_n 3, 1) := by decide +kernel
theorem dX1_isAbove_32 : decode cX1_isAbove 32 = .ok (.iload_n 1, 1) := by decide +kernel
theorem dX1_isAbove_33 : decode cX1_isAbove 33 = .ok (.invokestatic 44, 3) := by decide +kernel
theorem dX1_isAbove_36 : decode cX1_isAbove 36 = .ok (.ireturn, 1) := by decide +kernel
theorem hd_yX1_isAbove : (yX1_isAbove).cls ≠ "java/lang/invoke/MethodHandle" ∧ (yX1_isAbove).cls ≠ "java/lang/invoke/VarHandle" ∧ (parseMethodDescriptor (yX1_isAbove).desc).map (fun d => d.parameters.length) = some 2 := ⟨by decide, by decide, by decide +kernel⟩
def f_X1_isAbove_B8 (l1 : Int32) (σ : ZS) (t1 : (Int32 × Int32)) : Option ((Int32 × Int32) ⊕ Int32) :=
  (if (σ.1 0) ≤ t1.2 then Option.bind (f_X6_hasBit t1.1 l1) (fun q3 => ck (isB q3) (wi (some q3))) else Option.bind (f_X1_providersOf t1.1 σ) (fun q2 => some (.inl (t1.1 ||| q2, t1.2 + 1))))
def f_X1_isAbove (p0 : Int32) (p1 : Int32) (σ : ZS) : Option Int32 :=
  Option.bind (f_X6_bit p1) (fun q1 => lp zF (f_X1_isAbove_B8 p0 σ) (q1, 0))
set_option maxHeartbeats 4000000 in
set_option maxRecDepth 100000 in
theorem c_X1_isAbove (l : Launch) (D : va_G) (A : Nat → Prop) (a : Nat → Nat) (x : ClassId × ClassId × ClassId) (σ : ZS) (p0 : Int32) (p1 : Int32) (r : Int32) (h : f_X1_isAbove p0 p1 σ = some r) : zM l yX1_isAbove w_yX1_isAbove ({ frames := 2, cells := 0, slots := 0, locals := 47 } : Room) D A (tyz x) [.ref (a 1), .int p0, .int p1] (wC a x σ) (some (.int r)) (wC a x σ) := by
  refine z_start [.ref (a 1), .int p0, .int p1] (lv := [(0, .ref (a 1)), (1, .int p0), (2, .int p1)]) (by decide) (Nat.le_of_ble_eq_true rfl) rfl ?_
  intro p e s m args below meth c C hr hlk
  unfold f_X1_isAbove at h
  refine z_iload_n C 2 rfl dX1_isAbove_0 ?_
  obtain ⟨q1, hq1, h⟩ := bd_spec h
  refine z_callSN1 C [.int p1] [] (v := .int q1) 3 rfl (c_X6_bit l D A (tyz x) (wC a x σ) p1 q1 hq1) cd_yX6_bit in_RX6 rfl sm_yX6_bit hd_yX6_bit ⟨⟨Nat.le_of_ble_eq_true rfl, Nat.le_of_ble_eq_true rfl⟩, rfl, rfl⟩ rfl (Nat.le_of_ble_eq_true rfl) ⟨Nat.zero_le _, Nat.zero_le _⟩ dX1_isAbove_1 ?_
  refine z_istore_n C [(3, .int q1), (0, .ref (a 1)), (1, .int p0), (2, .int p1)] rfl (by decide) rfl dX1_isAbove_4 ?_
  refine z_iconst C (v := 0) dX1_isAbove_5 (by decide) ?_
  refine z_istore C [(4, .int 0), (3, .int q1), (0, .ref (a 1)), (1, .int p0), (2, .int p1)] (by decide) rfl dX1_isAbove_6 ?_
  refine z_sub C [2, 3, 1, 0] (lv' := [(0, .ref (a 1)), (1, .int p0), (3, .int q1), (4, .int 0)]) rfl ?_
  have L8 : ∀ (n : Nat) (t1 : (Int32 × Int32)), lp n (f_X1_isAbove_B8 p0 σ) t1 = some r → zV p l e ({ frames := 2, cells := 0, slots := 0, locals := 47 } : Room) s m args below meth c 0 0 (MQ below (zQ D A (some (.int r)) (wC a x σ)) args s 0 0 A) D A 5 (wC a x σ) 8 [(0, .ref (a 1)), (1, .int p0), (3, .int t1.1), (4, .int t1.2)] [] := by
    intro n1
    induction n1 with
    | zero => exact fun _ h => (lp_zero h).elim
    | succ n1 ih1 =>
      intro t1 h
      obtain ⟨u1, h, hk1⟩ := lp_succ h
      unfold f_X1_isAbove_B8 at h
      refine z_iload C 3 rfl dX1_isAbove_8 ?_
      refine z_aload_n C 0 rfl dX1_isAbove_10 ?_
      refine z_get C iRX1 1 gC_1 rfl 0 (by decide) fl_RX1_16 rfl dX1_isAbove_11 ?_
      refine z_icmp_ge C 31 (by decide) dX1_isAbove_14 h (fun h => ?_) (fun h => ?_)
      · refine z_iload_n C 2 rfl dX1_isAbove_31 ?_
        refine z_iload_n C 1 rfl dX1_isAbove_32 ?_
        obtain ⟨q2, hq2, h⟩ := bd_spec h
        refine z_callSN1 C [.int t1.1, .int p0] [] (v := .int q2) 4 rfl (c_X6_hasBit l D A (tyz x) (wC a x σ) t1.1 p0 q2 hq2) cd_yX6_hasBit in_RX6 rfl sm_yX6_hasBit hd_yX6_hasBit ⟨⟨Nat.le_of_ble_eq_true rfl, Nat.le_of_ble_eq_true rfl⟩, rfl, rfl⟩ rfl (Nat.le_of_ble_eq_true rfl) ⟨Nat.zero_le _, Nat.zero_le _⟩ dX1_isAbove_33 ?_
        obtain ⟨hb, h⟩ := ck_spec h
        have h := unwi h hk1
        cases h
        exact z_zret C hr hlk hb dX1_isAbove_36
      · refine z_iload_n C 2 rfl dX1_isAbove_17 ?_
        refine z_aload_n C 0 rfl dX1_isAbove_18 ?_
        refine z_iload_n C 2 rfl dX1_isAbove_19 ?_
        obtain ⟨q3, hq3, h⟩ := bd_spec h
        refine z_callV1 C [.int t1.1] [.int t1.1] (v := (.int q3)) rfl (c_X1_providersOf l D A a x σ t1.1 q3 hq3) cd_yX1_providersOf in_RX1 ml_RX1_41 im_yX1_providersOf sl_yX1_providersOf gC_1 rfl hd_yX1_providersOf ⟨⟨Nat.le_of_ble_eq_true rfl, Nat.le_of_ble_eq_true rfl⟩, rfl, rfl⟩ rfl (Nat.le_of_ble_eq_true rfl) ⟨Nat.zero_le _, Nat.zero_le _⟩ dX1_isAbove_20 ?_
        refine z_ior C dX1_isAbove_23 ?_
        refine z_istore_n C [(3, .int (t1.1 ||| q3)), (0, .ref (a 1)), (1, .int p0), (4, .int t1.2)] rfl (by decide) rfl dX1_isAbove_24 ?_
        refine z_iinc C (v := t1.2 + 1) [(4, .int (t1.2 + 1)), (3, .int (t1.1 ||| q3)), (0, .ref (a 1)), (1, .int p0)] 3 rfl rfl (by decide) rfl dX1_isAbove_25 ?_
        refine z_goto C 8 (by decide) dX1_isAbove_28 ?_
        refine z_sub C [2, 3, 1, 0] (lv' := [(0, .ref (a 1)), (1, .int p0), (3, .int (t1.1 ||| q3)), (4, .int (t1.2 + 1))]) rfl ?_
        exact ih1 _ (uninl h hk1)
  exact L8 _ _ h
theorem dX1_turnLeak_0 : decode cX1_turnLeak 0 = .ok (.aload_n 0, 1) := by decide +kernel
theorem dX1_turnLeak_1 : decode cX1_turnLeak 1 = .ok (.getfield 23, 3) := by decide +kernel
theorem dX1_turnLeak_4 : decode cX1_turnLeak 4 = .ok (.iload_n 1, 1) := by decide +kernel
theorem dX1_turnLeak_5 : decode cX1_turnLeak 5 = .ok (.invokestatic 44, 3) := by decide +kernel
theorem dX1_turnLeak_8 : decode cX1_turnLeak 8 = .ok (.ifCond .eq 7, 3) := by decide +kernel
theorem dX1_turnLeak_11 : decode cX1_turnLeak 11 = .ok (.iconst 1, 1) := by decide +kernel
theorem dX1_turnLeak_12 : decode cX1_turnLeak 12 = .ok (.goto 4, 3) := by decide +kernel
theorem dX1_turnLeak_15 : decode cX1_turnLeak 15 = .ok (.iconst 0, 1) := by decide +kernel
theorem dX1_turnLeak_16 : decode cX1_turnLeak 16 = .ok (.istore_n 3, 1) := by decide +kernel
theorem dX1_turnLeak_17 : decode cX1_turnLeak 17 = .ok (.aload_n 0, 1) := by decide +kernel
theorem dX1_turnLeak_18 : decode cX1_turnLeak 18 = .ok (.iload_n 2, 1) := by decide +kernel
theorem dX1_turnLeak_19 : decode cX1_turnLeak 19 = .ok (.ifCond .eq 15, 3) := by decide +kernel
theorem dX1_turnLeak_22 : decode cX1_turnLeak 22 = .ok (.aload_n 0, 1) := by decide +kernel
theorem dX1_turnLeak_23 : decode cX1_turnLeak 23 = .ok (.getfield 23, 3) := by decide +kernel
theorem dX1_turnLeak_26 : decode cX1_turnLeak 26 = .ok (.iload_n 1, 1) := by decide +kernel
theorem dX1_turnLeak_27 : decode cX1_turnLeak 27 = .ok (.invokestatic 37, 3) := by decide +kernel
theorem dX1_turnLeak_30 : decode cX1_turnLeak 30 = .ok (.ior, 1) := by decide +kernel
theorem dX1_turnLeak_31 : decode cX1_turnLeak 31 = .ok (.goto 14, 3) := by decide +kernel
theorem dX1_turnLeak_34 : decode cX1_turnLeak 34 = .ok (.aload_n 0, 1) := by decide +kernel
theorem dX1_turnLeak_35 : decode cX1_turnLeak 35 = .ok (.getfield 23, 3) := by decide +kernel
theorem dX1_turnLeak_38 : decode cX1_turnLeak 38 = .ok (.iload_n 1, 1) := by decide +kernel
theorem dX1_turnLeak_39 : decode cX1_turnLeak 39 = .ok (.invokestatic 37, 3) := by decide +kernel
theorem dX1_turnLeak_42 : decode cX1_turnLeak 42 = .ok (.iconst (-1), 1) := by decide +kernel
theorem dX1_turnLeak_43 : decode cX1_turnLeak 43 = .ok (.ixor, 1) := by decide +kernel
theorem dX1_turnLeak_44 : decode cX1_turnLeak 44 = .ok (.iand, 1) := by decide +kernel
theorem dX1_turnLeak_45 : decode cX1_turnLeak 45 = .ok (.putfield 23, 3) := by decide +kernel
theorem dX1_turnLeak_48 : decode cX1_turnLeak 48 = .ok (.iload_n 3, 1) := by decide +kernel
theorem dX1_turnLeak_49 : decode cX1_turnLeak 49 = .ok (.ireturn, 1) := by decide +kernel
theorem hd_yX1_turnLeak : (yX1_turnLeak).cls ≠ "java/lang/invoke/MethodHandle" ∧ (yX1_turnLeak).cls ≠ "java/lang/invoke/VarHandle" ∧ (parseMethodDescriptor (yX1_turnLeak).desc).map (fun d => d.parameters.length) = some 2 := ⟨by decide, by decide, by decide +kernel⟩
def f_X1_turnLeak_J16 (l1 : Int32) (l2 : Int32) (s0 : Int32) (σ : ZS) : Option (Int32 × ZS) :=
  (if l2 = 0 then Option.bind (f_X6_bit l1) (fun q3 => some (s0, setI σ 2 ((σ.1 2) &&& (q3 ^^^ (-1))))) else Option.bind (f_X6_bit l1) (fun q2 => some (s0, setI σ 2 ((σ.1 2) ||| q2))))
def f_X1_turnLeak (p0 : Int32) (p1 : Int32) (σ : ZS) : Option (Int32 × ZS) :=
  Option.bind (f_X6_hasBit (σ.1 2) p0) (fun q1 => (if q1 = 0 then f_X1_turnLeak_J16 p0 p1 0 σ else f_X1_turnLeak_J16 p0 p1 1 σ))
set_option maxHeartbeats 4000000 in
set_option maxRecDepth 100000 in
theorem c_X1_turnLeak (l : Launch) (D : va_G) (A : Nat → Prop) (a : Nat → Nat) (x : ClassId × ClassId × ClassId) (σ : ZS) (p0 : Int32) (p1 : Int32) (r : (Int32 × ZS)) (h : f_X1_turnLeak p0 p1 σ = some r) : zM l yX1_turnLeak w_yX1_turnLeak ({ frames := 1, cells := 0, slots := 0, locals := 21 } : Room) D A (tyz x) [.ref (a 1), .int p0, .int p1] (wC a x σ) (some (.int r.1)) (wC a x r.2) := by
  refine z_start [.ref (a 1), .int p0, .int p1] (lv := [(0, .ref (a 1)), (1, .int p0), (2, .int p1)]) (by decide) (Nat.le_of_ble_eq_true rfl) rfl ?_
  intro p e s m args below meth c C hr hlk
  have J16 : ∀ (s0_16 : Int32) (σ_16 : ZS), f_X1_turnLeak_J16 p0 p1 s0_16 σ_16 = some r → zV p l e ({ frames := 1, cells := 0, slots := 0, locals := 21 } : Room) s m args below meth c 0 0 (MQ below (zQ D A (some (.int r.1)) (wC a x r.2)) args s 0 0 A) D A 4 (wC a x σ_16) 16 [(0, .ref (a 1)), (1, .int p0), (2, .int p1)] [.int s0_16] := by
    intro s0_16 σ_16 h
    unfold f_X1_turnLeak_J16 at h
    refine z_istore_n C [(3, .int s0_16), (0, .ref (a 1)), (1, .int p0), (2, .int p1)] rfl (by decide) rfl dX1_turnLeak_16 ?_
    refine z_aload_n C 1 rfl dX1_turnLeak_17 ?_
    refine z_iload_n C 3 rfl dX1_turnLeak_18 ?_
    refine z_if_eq C 34 (by decide) dX1_turnLeak_19 h (fun h => ?_) (fun h => ?_)
    · refine z_aload_n C 1 rfl dX1_turnLeak_34 ?_
      refine z_get C iRX1 1 gC_1 rfl 2 (by decide) fl_RX1_23 rfl dX1_turnLeak_35 ?_
      refine z_iload_n C 2 rfl dX1_turnLeak_38 ?_
      obtain ⟨q1, hq1, h⟩ := bd_spec h
      refine z_callSN1 C [.int p0] [.int (σ_16.1 2), .ref (a 1)] (v := .int q1) 3 rfl (c_X6_bit l D A (tyz x) (wC a x σ_16) p0 q1 hq1) cd_yX6_bit in_RX6 rfl sm_yX6_bit hd_yX6_bit ⟨⟨Nat.le_of_ble_eq_true rfl, Nat.le_of_ble_eq_true rfl⟩, rfl, rfl⟩ rfl (Nat.le_of_ble_eq_true rfl) ⟨Nat.zero_le _, Nat.zero_le _⟩ dX1_turnLeak_39 ?_
      refine z_iconst C (v := (-1)) dX1_turnLeak_42 (by decide) ?_
      refine z_ixor C dX1_turnLeak_43 ?_
      refine z_iand C dX1_turnLeak_44 ?_
      refine z_put C iRX1 tyX1 tyX1_ok nmX1 1 gC_1 rfl 2 (by decide) fl_RX1_23 rfl (ty := .int) (by decide +kernel) ⟨rfl, rfl⟩ (Nat.le_of_ble_eq_true rfl) pC_1_2 dX1_turnLeak_45 ?_
      refine z_iload_n C 0 rfl dX1_turnLeak_48 ?_
      cases h
      exact z_iret C hr hlk dX1_turnLeak_49
    · refine z_aload_n C 1 rfl dX1_turnLeak_22 ?_
      refine z_get C iRX1 1 gC_1 rfl 2 (by decide) fl_RX1_23 rfl dX1_turnLeak_23 ?_
      refine z_iload_n C 2 rfl dX1_turnLeak_26 ?_
      obtain ⟨q2, hq2, h⟩ := bd_spec h
      refine z_callSN1 C [.int p0] [.int (σ_16.1 2), .ref (a 1)] (v := .int q2) 3 rfl (c_X6_bit l D A (tyz x) (wC a x σ_16) p0 q2 hq2) cd_yX6_bit in_RX6 rfl sm_yX6_bit hd_yX6_bit ⟨⟨Nat.le_of_ble_eq_true rfl, Nat.le_of_ble_eq_true rfl⟩, rfl, rfl⟩ rfl (Nat.le_of_ble_eq_true rfl) ⟨Nat.zero_le _, Nat.zero_le _⟩ dX1_turnLeak_27 ?_
      refine z_ior C dX1_turnLeak_30 ?_
      refine z_goto C 45 (by decide) dX1_turnLeak_31 ?_
      refine z_put C iRX1 tyX1 tyX1_ok nmX1 1 gC_1 rfl 2 (by decide) fl_RX1_23 rfl (ty := .int) (by decide +kernel) ⟨rfl, rfl⟩ (Nat.le_of_ble_eq_true rfl) pC_1_2 dX1_turnLeak_45 ?_
      refine z_iload_n C 0 rfl dX1_turnLeak_48 ?_
      cases h
      exact z_iret C hr hlk dX1_turnLeak_49
  unfold f_X1_turnLeak at h
  refine z_aload_n C 0 rfl dX1_turnLeak_0 ?_
  refine z_get C iRX1 1 gC_1 rfl 2 (by decide) fl_RX1_23 rfl dX1_turnLeak_1 ?_
  refine z_iload_n C 1 rfl dX1_turnLeak_4 ?_
  obtain ⟨q3, hq3, h⟩ := bd_spec h
  refine z_callSN1 C [.int (σ.1 2), .int p0] [] (v := .int q3) 4 rfl (c_X6_hasBit l D A (tyz x) (wC a x σ) (σ.1 2) p0 q3 hq3) cd_yX6_hasBit in_RX6 rfl sm_yX6_hasBit hd_yX6_hasBit ⟨⟨Nat.le_of_ble_eq_true rfl, Nat.le_of_ble_eq_true rfl⟩, rfl, rfl⟩ rfl (Nat.le_of_ble_eq_true rfl) ⟨Nat.zero_le _, Nat.zero_le _⟩ dX1_turnLeak_5 ?_
  refine z_if_eq C 15 (by decide) dX1_turnLeak_8 h (fun h => ?_) (fun h => ?_)
  · refine z_iconst C (v := 0) dX1_turnLeak_15 (by decide) ?_
    exact J16 _ _ h
  · refine z_iconst C (v := 1) dX1_turnLeak_11 (by decide) ?_
    refine z_goto C 16 (by decide) dX1_turnLeak_12 ?_
    exact J16 _ _ h
theorem dX1_turnRefusal_0 : decode cX1_turnRefusal 0 = .ok (.aload_n 0, 1) := by decide +kernel
theorem dX1_turnRefusal_1 : decode cX1_turnRefusal 1 = .ok (.getfield 26, 3) := by decide +kernel
theorem dX1_turnRefusal_4 : decode cX1_turnRefusal 4 = .ok (.iload_n 1, 1) := by decide +kernel
theorem dX1_turnRefusal_5 : decode cX1_turnRefusal 5 = .ok (.invokestatic 44, 3) := by decide +kernel
theorem dX1_turnRefusal_8 : decode cX1_turnRefusal 8 = .ok (.ifCond .eq 7, 3) := by decide +kernel
theorem dX1_turnRefusal_11 : decode cX1_turnRefusal 11 = .ok (.iconst 1, 1) := by decide +kernel
theorem dX1_turnRefusal_12 : decode cX1_turnRefusal 12 = .ok (.goto 4, 3) := by decide +kernel
theorem dX1_turnRefusal_15 : decode cX1_turnRefusal 15 = .ok (.iconst 0, 1) := by decide +kernel
theorem dX1_turnRefusal_16 : decode cX1_turnRefusal 16 = .ok (.istore_n 3, 1) := by decide +kernel
theorem dX1_turnRefusal_17 : decode cX1_turnRefusal 17 = .ok (.aload_n 0, 1) := by decide +kernel
theorem dX1_turnRefusal_18 : decode cX1_turnRefusal 18 = .ok (.iload_n 2, 1) := by decide +kernel
theorem dX1_turnRefusal_19 : decode cX1_turnRefusal 19 = .ok (.ifCond .eq 15, 3) := by decide +kernel
theorem dX1_turnRefusal_22 : decode cX1_turnRefusal 22 = .ok (.aload_n 0, 1) := by decide +kernel
theorem dX1_turnRefusal_23 : decode cX1_turnRefusal 23 = .ok (.getfield 26, 3) := by decide +kernel
theorem dX1_turnRefusal_26 : decode cX1_turnRefusal 26 = .ok (.iload_n 1, 1) := by decide +kernel
theorem dX1_turnRefusal_27 : decode cX1_turnRefusal 27 = .ok (.invokestatic 37, 3) := by decide +kernel
theorem dX1_turnRefusal_30 : decode cX1_turnRefusal 30 = .ok (.ior, 1) := by decide +kernel
theorem dX1_turnRefusal_31 : decode cX1_turnRefusal 31 = .ok (.goto 14, 3) := by decide +kernel
theorem dX1_turnRefusal_34 : decode cX1_turnRefusal 34 = .ok (.aload_n 0, 1) := by decide +kernel
theorem dX1_turnRefusal_35 : decode cX1_turnRefusal 35 = .ok (.getfield 26, 3) := by decide +kernel
theorem dX1_turnRefusal_38 : decode cX1_turnRefusal 38 = .ok (.iload_n 1, 1) := by decide +kernel
theorem dX1_turnRefusal_39 : decode cX1_turnRefusal 39 = .ok (.invokestatic 37, 3) := by decide +kernel
theorem dX1_turnRefusal_42 : decode cX1_turnRefusal 42 = .ok (.iconst (-1), 1) := by decide +kernel
theorem dX1_turnRefusal_43 : decode cX1_turnRefusal 43 = .ok (.ixor, 1) := by decide +kernel
theorem dX1_turnRefusal_44 : decode cX1_turnRefusal 44 = .ok (.iand, 1) := by decide +kernel
theorem dX1_turnRefusal_45 : decode cX1_turnRefusal 45 = .ok (.putfield 26, 3) := by decide +kernel
theorem dX1_turnRefusal_48 : decode cX1_turnRefusal 48 = .ok (.iload_n 3, 1) := by decide +kernel
theorem dX1_turnRefusal_49 : decode cX1_turnRefusal 49 = .ok (.ireturn, 1) := by decide +kernel
theorem hd_yX1_turnRefusal : (yX1_turnRefusal).cls ≠ "java/lang/invoke/MethodHandle" ∧ (yX1_turnRefusal).cls ≠ "java/lang/invoke/VarHandle" ∧ (parseMethodDescriptor (yX1_turnRefusal).desc).map (fun d => d.parameters.length) = some 2 := ⟨by decide, by decide, by decide +kernel⟩
def f_X1_turnRefusal_J16 (l1 : Int32) (l2 : Int32) (s0 : Int32) (σ : ZS) : Option (Int32 × ZS) :=
  (if l2 = 0 then Option.bind (f_X6_bit l1) (fun q3 => some (s0, setI σ 3 ((σ.1 3) &&& (q3 ^^^ (-1))))) else Option.bind (f_X6_bit l1) (fun q2 => some (s0, setI σ 3 ((σ.1 3) ||| q2))))
def f_X1_turnRefusal (p0 : Int32) (p1 : Int32) (σ : ZS) : Option (Int32 × ZS) :=
  Option.bind (f_X6_hasBit (σ.1 3) p0) (fun q1 => (if q1 = 0 then f_X1_turnRefusal_J16 p0 p1 0 σ else f_X1_turnRefusal_J16 p0 p1 1 σ))
set_option maxHeartbeats 4000000 in
set_option maxRecDepth 100000 in
theorem c_X1_turnRefusal (l : Launch) (D : va_G) (A : Nat → Prop) (a : Nat → Nat) (x : ClassId × ClassId × ClassId) (σ : ZS) (p0 : Int32) (p1 : Int32) (r : (Int32 × ZS)) (h : f_X1_turnRefusal p0 p1 σ = some r) : zM l yX1_turnRefusal w_yX1_turnRefusal ({ frames := 1, cells := 0, slots := 0, locals := 21 } : Room) D A (tyz x) [.ref (a 1), .int p0, .int p1] (wC a x σ) (some (.int r.1)) (wC a x r.2) := by
  refine z_start [.ref (a 1), .int p0, .int p1] (lv := [(0, .ref (a 1)), (1, .int p0), (2, .int p1)]) (by decide) (Nat.le_of_ble_eq_true rfl) rfl ?_
  intro p e s m args below meth c C hr hlk
  have J16 : ∀ (s0_16 : Int32) (σ_16 : ZS), f_X1_turnRefusal_J16 p0 p1 s0_16 σ_16 = some r → zV p l e ({ frames := 1, cells := 0, slots := 0, locals := 21 } : Room) s m args below meth c 0 0 (MQ below (zQ D A (some (.int r.1)) (wC a x r.2)) args s 0 0 A) D A 4 (wC a x σ_16) 16 [(0, .ref (a 1)), (1, .int p0), (2, .int p1)] [.int s0_16] := by
    intro s0_16 σ_16 h
    unfold f_X1_turnRefusal_J16 at h
    refine z_istore_n C [(3, .int s0_16), (0, .ref (a 1)), (1, .int p0), (2, .int p1)] rfl (by decide) rfl dX1_turnRefusal_16 ?_
    refine z_aload_n C 1 rfl dX1_turnRefusal_17 ?_
    refine z_iload_n C 3 rfl dX1_turnRefusal_18 ?_
    refine z_if_eq C 34 (by decide) dX1_turnRefusal_19 h (fun h => ?_) (fun h => ?_)
    · refine z_aload_n C 1 rfl dX1_turnRefusal_34 ?_
      refine z_get C iRX1 1 gC_1 rfl 3 (by decide) fl_RX1_26 rfl dX1_turnRefusal_35 ?_
      refine z_iload_n C 2 rfl dX1_turnRefusal_38 ?_
      obtain ⟨q1, hq1, h⟩ := bd_spec h
      refine z_callSN1 C [.int p0] [.int (σ_16.1 3), .ref (a 1)] (v := .int q1) 3 rfl (c_X6_bit l D A (tyz x) (wC a x σ_16) p0 q1 hq1) cd_yX6_bit in_RX6 rfl sm_yX6_bit hd_yX6_bit ⟨⟨Nat.le_of_ble_eq_true rfl, Nat.le_of_ble_eq_true rfl⟩, rfl, rfl⟩ rfl (Nat.le_of_ble_eq_true rfl) ⟨Nat.zero_le _, Nat.zero_le _⟩ dX1_turnRefusal_39 ?_
      refine z_iconst C (v := (-1)) dX1_turnRefusal_42 (by decide) ?_
      refine z_ixor C dX1_turnRefusal_43 ?_
      refine z_iand C dX1_turnRefusal_44 ?_
      refine z_put C iRX1 tyX1 tyX1_ok nmX1 1 gC_1 rfl 3 (by decide) fl_RX1_26 rfl (ty := .int) (by decide +kernel) ⟨rfl, rfl⟩ (Nat.le_of_ble_eq_true rfl) pC_1_3 dX1_turnRefusal_45 ?_
      refine z_iload_n C 0 rfl dX1_turnRefusal_48 ?_
      cases h
      exact z_iret C hr hlk dX1_turnRefusal_49
    · refine z_aload_n C 1 rfl dX1_turnRefusal_22 ?_
      refine z_get C iRX1 1 gC_1 rfl 3 (by decide) fl_RX1_26 rfl dX1_turnRefusal_23 ?_
      refine z_iload_n C 2 rfl dX1_turnRefusal_26 ?_
      obtain ⟨q2, hq2, h⟩ := bd_spec h
      refine z_callSN1 C [.int p0] [.int (σ_16.1 3), .ref (a 1)] (v := .int q2) 3 rfl (c_X6_bit l D A (tyz x) (wC a x σ_16) p0 q2 hq2) cd_yX6_bit in_RX6 rfl sm_yX6_bit hd_yX6_bit ⟨⟨Nat.le_of_ble_eq_true rfl, Nat.le_of_ble_eq_true rfl⟩, rfl, rfl⟩ rfl (Nat.le_of_ble_eq_true rfl) ⟨Nat.zero_le _, Nat.zero_le _⟩ dX1_turnRefusal_27 ?_
      refine z_ior C dX1_turnRefusal_30 ?_
      refine z_goto C 45 (by decide) dX1_turnRefusal_31 ?_
      refine z_put C iRX1 tyX1 tyX1_ok nmX1 1 gC_1 rfl 3 (by decide) fl_RX1_26 rfl (ty := .int) (by decide +kernel) ⟨rfl, rfl⟩ (Nat.le_of_ble_eq_true rfl) pC_1_3 dX1_turnRefusal_45 ?_
      refine z_iload_n C 0 rfl dX1_turnRefusal_48 ?_
      cases h
      exact z_iret C hr hlk dX1_turnRefusal_49
  unfold f_X1_turnRefusal at h
  refine z_aload_n C 0 rfl dX1_turnRefusal_0 ?_
  refine z_get C iRX1 1 gC_1 rfl 3 (by decide) fl_RX1_26 rfl dX1_turnRefusal_1 ?_
  refine z_iload_n C 1 rfl dX1_turnRefusal_4 ?_
  obtain ⟨q3, hq3, h⟩ := bd_spec h
  refine z_callSN1 C [.int (σ.1 3), .int p0] [] (v := .int q3) 4 rfl (c_X6_hasBit l D A (tyz x) (wC a x σ) (σ.1 3) p0 q3 hq3) cd_yX6_hasBit in_RX6 rfl sm_yX6_hasBit hd_yX6_hasBit ⟨⟨Nat.le_of_ble_eq_true rfl, Nat.le_of_ble_eq_true rfl⟩, rfl, rfl⟩ rfl (Nat.le_of_ble_eq_true rfl) ⟨Nat.zero_le _, Nat.zero_le _⟩ dX1_turnRefusal_5 ?_
  refine z_if_eq C 15 (by decide) dX1_turnRefusal_8 h (fun h => ?_) (fun h => ?_)
  · refine z_iconst C (v := 0) dX1_turnRefusal_15 (by decide) ?_
    exact J16 _ _ h
  · refine z_iconst C (v := 1) dX1_turnRefusal_11 (by decide) ?_
    refine z_goto C 16 (by decide) dX1_turnRefusal_12 ?_
    exact J16 _ _ h
