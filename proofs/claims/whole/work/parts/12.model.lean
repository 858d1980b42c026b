theorem dX7_in_0 : decode cX7_in 0 = .ok (.iload_n 0, 1) := by decide +kernel
theorem dX7_in_1 : decode cX7_in 1 = .ok (.iload_n 1, 1) := by decide +kernel
theorem dX7_in_2 : decode cX7_in 2 = .ok (.if_icmp .lt 12, 3) := by decide +kernel
theorem dX7_in_5 : decode cX7_in 5 = .ok (.iload_n 0, 1) := by decide +kernel
theorem dX7_in_6 : decode cX7_in 6 = .ok (.iload_n 2, 1) := by decide +kernel
theorem dX7_in_7 : decode cX7_in 7 = .ok (.if_icmp .gt 7, 3) := by decide +kernel
theorem dX7_in_10 : decode cX7_in 10 = .ok (.iconst 1, 1) := by decide +kernel
theorem dX7_in_11 : decode cX7_in 11 = .ok (.goto 4, 3) := by decide +kernel
theorem dX7_in_14 : decode cX7_in 14 = .ok (.iconst 0, 1) := by decide +kernel
theorem dX7_in_15 : decode cX7_in 15 = .ok (.ireturn, 1) := by decide +kernel
theorem hd_yX7_in : (yX7_in).cls ≠ "java/lang/invoke/MethodHandle" ∧ (yX7_in).cls ≠ "java/lang/invoke/VarHandle" ∧ (parseMethodDescriptor (yX7_in).desc).map (fun d => d.parameters.length) = some 3 := ⟨by decide, by decide, by decide +kernel⟩
def f_X7_in (p0 : Int32) (p1 : Int32) (p2 : Int32) : Option Int32 :=
  (if p0 < p1 then some 0 else (if p2 < p0 then some 0 else some 1))
set_option maxHeartbeats 4000000 in
set_option maxRecDepth 100000 in
theorem c_X7_in (l : Launch) (D : va_G) (A : Nat → Prop) (tys : List (ClassId × FieldType)) (ws : va_W) (p0 : Int32) (p1 : Int32) (p2 : Int32) (r : Int32) (h : f_X7_in p0 p1 p2 = some r) : zM l yX7_in w_yX7_in ({ frames := 0, cells := 0, slots := 0, locals := 0 } : Room) D A tys [.int p0, .int p1, .int p2] ws (some (.int r)) ws := by
  refine z_start [.int p0, .int p1, .int p2] (lv := [(0, .int p0), (1, .int p1), (2, .int p2)]) (by decide) (Nat.le_of_ble_eq_true rfl) rfl ?_
  intro p e s m args below meth c C hr hlk
  unfold f_X7_in at h
  refine z_iload_n C 0 rfl dX7_in_0 ?_
  refine z_iload_n C 1 rfl dX7_in_1 ?_
  refine z_icmp_lt C 14 (by decide) dX7_in_2 h (fun h => ?_) (fun h => ?_)
  · refine z_iconst C (v := 0) dX7_in_14 (by decide) ?_
    cases h
    exact z_zret C hr hlk rfl dX7_in_15
  · refine z_iload_n C 0 rfl dX7_in_5 ?_
    refine z_iload_n C 2 rfl dX7_in_6 ?_
    refine z_icmp_gt C 14 (by decide) dX7_in_7 h (fun h => ?_) (fun h => ?_)
    · refine z_iconst C (v := 0) dX7_in_14 (by decide) ?_
      cases h
      exact z_zret C hr hlk rfl dX7_in_15
    · refine z_iconst C (v := 1) dX7_in_10 (by decide) ?_
      refine z_goto C 15 (by decide) dX7_in_11 ?_
      cases h
      exact z_zret C hr hlk rfl dX7_in_15
theorem dX7_isHouse_0 : decode cX7_isHouse 0 = .ok (.iload_n 1, 1) := by decide +kernel
theorem dX7_isHouse_1 : decode cX7_isHouse 1 = .ok (.iconst 0, 1) := by decide +kernel
theorem dX7_isHouse_2 : decode cX7_isHouse 2 = .ok (.aload_n 0, 1) := by decide +kernel
theorem dX7_isHouse_3 : decode cX7_isHouse 3 = .ok (.getfield 49, 3) := by decide +kernel
theorem dX7_isHouse_6 : decode cX7_isHouse 6 = .ok (.iconst 1, 1) := by decide +kernel
theorem dX7_isHouse_7 : decode cX7_isHouse 7 = .ok (.isub, 1) := by decide +kernel
theorem dX7_isHouse_8 : decode cX7_isHouse 8 = .ok (.invokestatic 53, 3) := by decide +kernel
theorem dX7_isHouse_11 : decode cX7_isHouse 11 = .ok (.ireturn, 1) := by decide +kernel
theorem hd_yX7_isHouse : (yX7_isHouse).cls ≠ "java/lang/invoke/MethodHandle" ∧ (yX7_isHouse).cls ≠ "java/lang/invoke/VarHandle" ∧ (parseMethodDescriptor (yX7_isHouse).desc).map (fun d => d.parameters.length) = some 1 := ⟨by decide, by decide, by decide +kernel⟩
def f_X7_isHouse (p0 : Int32) (σ : ZS) : Option Int32 :=
  Option.bind (f_X7_in p0 0 ((σ.1 0) - 1)) (fun q1 => ck (isB q1) (some q1))
set_option maxHeartbeats 4000000 in
set_option maxRecDepth 100000 in
theorem c_X7_isHouse (l : Launch) (D : va_G) (A : Nat → Prop) (a : Nat → Nat) (x : ClassId × ClassId × ClassId) (σ : ZS) (p0 : Int32) (r : Int32) (h : f_X7_isHouse p0 σ = some r) : zM l yX7_isHouse w_yX7_isHouse ({ frames := 1, cells := 0, slots := 0, locals := 22 } : Room) D A (tyz x) [.ref (a 0), .int p0] (wM a x σ) (some (.int r)) (wM a x σ) := by
  refine z_start [.ref (a 0), .int p0] (lv := [(0, .ref (a 0)), (1, .int p0)]) (by decide) (Nat.le_of_ble_eq_true rfl) rfl ?_
  intro p e s m args below meth c C hr hlk
  unfold f_X7_isHouse at h
  refine z_iload_n C 1 rfl dX7_isHouse_0 ?_
  refine z_iconst C (v := 0) dX7_isHouse_1 (by decide) ?_
  refine z_aload_n C 0 rfl dX7_isHouse_2 ?_
  refine z_get C iRX7 0 gM_0 rfl 0 (by decide) fl_RX7_49 rfl dX7_isHouse_3 ?_
  refine z_iconst C (v := 1) dX7_isHouse_6 (by decide) ?_
  refine z_isub C dX7_isHouse_7 ?_
  obtain ⟨q1, hq1, h⟩ := bd_spec h
  refine z_callS1 C [.int p0, .int 0, .int ((σ.1 0) - 1)] [] (v := .int q1) rfl (c_X7_in l D A (tyz x) (wM a x σ) p0 0 ((σ.1 0) - 1) q1 hq1) cd_yX7_in in_RX7 ml_RX7_53 sm_yX7_in hd_yX7_in ⟨⟨Nat.le_of_ble_eq_true rfl, Nat.le_of_ble_eq_true rfl⟩, rfl, rfl⟩ rfl (Nat.le_of_ble_eq_true rfl) ⟨Nat.zero_le _, Nat.zero_le _⟩ dX7_isHouse_8 ?_
  obtain ⟨hb, h⟩ := ck_spec h
  cases h
  exact z_zret C hr hlk hb dX7_isHouse_11
theorem dX7_isBlock_0 : decode cX7_isBlock 0 = .ok (.iload_n 0, 1) := by decide +kernel
theorem dX7_isBlock_1 : decode cX7_isBlock 1 = .ok (.iconst 0, 1) := by decide +kernel
theorem dX7_isBlock_2 : decode cX7_isBlock 2 = .ok (.bipush 6, 2) := by decide +kernel
theorem dX7_isBlock_4 : decode cX7_isBlock 4 = .ok (.invokestatic 53, 3) := by decide +kernel
theorem dX7_isBlock_7 : decode cX7_isBlock 7 = .ok (.ifCond .eq 28, 3) := by decide +kernel
theorem dX7_isBlock_10 : decode cX7_isBlock 10 = .ok (.iload_n 1, 1) := by decide +kernel
theorem dX7_isBlock_11 : decode cX7_isBlock 11 = .ok (.iconst 0, 1) := by decide +kernel
theorem dX7_isBlock_12 : decode cX7_isBlock 12 = .ok (.bipush 63, 2) := by decide +kernel
theorem dX7_isBlock_14 : decode cX7_isBlock 14 = .ok (.invokestatic 53, 3) := by decide +kernel
theorem dX7_isBlock_17 : decode cX7_isBlock 17 = .ok (.ifCond .eq 18, 3) := by decide +kernel
theorem dX7_isBlock_20 : decode cX7_isBlock 20 = .ok (.iload_n 1, 1) := by decide +kernel
theorem dX7_isBlock_21 : decode cX7_isBlock 21 = .ok (.iconst 1, 1) := by decide +kernel
theorem dX7_isBlock_22 : decode cX7_isBlock 22 = .ok (.bipush 6, 2) := by decide +kernel
theorem dX7_isBlock_24 : decode cX7_isBlock 24 = .ok (.iload_n 0, 1) := by decide +kernel
theorem dX7_isBlock_25 : decode cX7_isBlock 25 = .ok (.isub, 1) := by decide +kernel
theorem dX7_isBlock_26 : decode cX7_isBlock 26 = .ok (.ishl, 1) := by decide +kernel
theorem dX7_isBlock_27 : decode cX7_isBlock 27 = .ok (.irem, 1) := by decide +kernel
theorem dX7_isBlock_28 : decode cX7_isBlock 28 = .ok (.ifCond .ne 7, 3) := by decide +kernel
theorem dX7_isBlock_31 : decode cX7_isBlock 31 = .ok (.iconst 1, 1) := by decide +kernel
theorem dX7_isBlock_32 : decode cX7_isBlock 32 = .ok (.goto 4, 3) := by decide +kernel
theorem dX7_isBlock_35 : decode cX7_isBlock 35 = .ok (.iconst 0, 1) := by decide +kernel
theorem dX7_isBlock_36 : decode cX7_isBlock 36 = .ok (.ireturn, 1) := by decide +kernel
theorem hd_yX7_isBlock : (yX7_isBlock).cls ≠ "java/lang/invoke/MethodHandle" ∧ (yX7_isBlock).cls ≠ "java/lang/invoke/VarHandle" ∧ (parseMethodDescriptor (yX7_isBlock).desc).map (fun d => d.parameters.length) = some 2 := ⟨by decide, by decide, by decide +kernel⟩
def f_X7_isBlock (p0 : Int32) (p1 : Int32) : Option Int32 :=
  Option.bind (f_X7_in p0 0 6) (fun q1 => (if q1 = 0 then some 0 else Option.bind (f_X7_in p1 0 63) (fun q2 => (if q2 = 0 then some 0 else ck (decide (¬ ((1 : Int32) <<< (((6 : Int32) - p0) &&& 31)) = 0)) ((if (p1 - p1 / ((1 : Int32) <<< (((6 : Int32) - p0) &&& 31)) * ((1 : Int32) <<< (((6 : Int32) - p0) &&& 31))) = 0 then some 1 else some 0))))))
set_option maxHeartbeats 4000000 in
set_option maxRecDepth 100000 in
theorem c_X7_isBlock (l : Launch) (D : va_G) (A : Nat → Prop) (tys : List (ClassId × FieldType)) (ws : va_W) (p0 : Int32) (p1 : Int32) (r : Int32) (h : f_X7_isBlock p0 p1 = some r) : zM l yX7_isBlock w_yX7_isBlock ({ frames := 1, cells := 0, slots := 0, locals := 22 } : Room) D A tys [.int p0, .int p1] ws (some (.int r)) ws := by
  refine z_start [.int p0, .int p1] (lv := [(0, .int p0), (1, .int p1)]) (by decide) (Nat.le_of_ble_eq_true rfl) rfl ?_
  intro p e s m args below meth c C hr hlk
  unfold f_X7_isBlock at h
  refine z_iload_n C 0 rfl dX7_isBlock_0 ?_
  refine z_iconst C (v := 0) dX7_isBlock_1 (by decide) ?_
  refine z_bipush C (v := 6) dX7_isBlock_2 (by decide) ?_
  obtain ⟨q1, hq1, h⟩ := bd_spec h
  refine z_callS1 C [.int p0, .int 0, .int 6] [] (v := .int q1) rfl (c_X7_in l D A tys ws p0 0 6 q1 hq1) cd_yX7_in in_RX7 ml_RX7_53 sm_yX7_in hd_yX7_in ⟨⟨Nat.le_of_ble_eq_true rfl, Nat.le_of_ble_eq_true rfl⟩, rfl, rfl⟩ rfl (Nat.le_of_ble_eq_true rfl) ⟨Nat.zero_le _, Nat.zero_le _⟩ dX7_isBlock_4 ?_
  refine z_if_eq C 35 (by decide) dX7_isBlock_7 h (fun h => ?_) (fun h => ?_)
  · refine z_iconst C (v := 0) dX7_isBlock_35 (by decide) ?_
    cases h
    exact z_zret C hr hlk rfl dX7_isBlock_36
  · refine z_iload_n C 1 rfl dX7_isBlock_10 ?_
    refine z_iconst C (v := 0) dX7_isBlock_11 (by decide) ?_
    refine z_bipush C (v := 63) dX7_isBlock_12 (by decide) ?_
    obtain ⟨q2, hq2, h⟩ := bd_spec h
    refine z_callS1 C [.int p1, .int 0, .int 63] [] (v := .int q2) rfl (c_X7_in l D A tys ws p1 0 63 q2 hq2) cd_yX7_in in_RX7 ml_RX7_53 sm_yX7_in hd_yX7_in ⟨⟨Nat.le_of_ble_eq_true rfl, Nat.le_of_ble_eq_true rfl⟩, rfl, rfl⟩ rfl (Nat.le_of_ble_eq_true rfl) ⟨Nat.zero_le _, Nat.zero_le _⟩ dX7_isBlock_14 ?_
    refine z_if_eq C 35 (by decide) dX7_isBlock_17 h (fun h => ?_) (fun h => ?_)
    · refine z_iconst C (v := 0) dX7_isBlock_35 (by decide) ?_
      cases h
      exact z_zret C hr hlk rfl dX7_isBlock_36
    · refine z_iload_n C 1 rfl dX7_isBlock_20 ?_
      refine z_iconst C (v := 1) dX7_isBlock_21 (by decide) ?_
      refine z_bipush C (v := 6) dX7_isBlock_22 (by decide) ?_
      refine z_iload_n C 0 rfl dX7_isBlock_24 ?_
      refine z_isub C dX7_isBlock_25 ?_
      refine z_ishl C dX7_isBlock_26 ?_
      refine z_irem C dX7_isBlock_27 h (fun h => ?_)
      refine z_if_ne C 35 (by decide) dX7_isBlock_28 h (fun h => ?_) (fun h => ?_)
      · refine z_iconst C (v := 0) dX7_isBlock_35 (by decide) ?_
        cases h
        exact z_zret C hr hlk rfl dX7_isBlock_36
      · refine z_iconst C (v := 1) dX7_isBlock_31 (by decide) ?_
        refine z_goto C 36 (by decide) dX7_isBlock_32 ?_
        cases h
        exact z_zret C hr hlk rfl dX7_isBlock_36
theorem dX7_isOf_0 : decode cX7_isOf 0 = .ok (.iload_n 0, 1) := by decide +kernel
theorem dX7_isOf_1 : decode cX7_isOf 1 = .ok (.iload_n 1, 1) := by decide +kernel
theorem dX7_isOf_2 : decode cX7_isOf 2 = .ok (.ishr, 1) := by decide +kernel
theorem dX7_isOf_3 : decode cX7_isOf 3 = .ok (.iconst 1, 1) := by decide +kernel
theorem dX7_isOf_4 : decode cX7_isOf 4 = .ok (.iand, 1) := by decide +kernel
theorem dX7_isOf_5 : decode cX7_isOf 5 = .ok (.iconst 1, 1) := by decide +kernel
theorem dX7_isOf_6 : decode cX7_isOf 6 = .ok (.if_icmp .ne 7, 3) := by decide +kernel
theorem dX7_isOf_9 : decode cX7_isOf 9 = .ok (.iconst 1, 1) := by decide +kernel
theorem dX7_isOf_10 : decode cX7_isOf 10 = .ok (.goto 4, 3) := by decide +kernel
theorem dX7_isOf_13 : decode cX7_isOf 13 = .ok (.iconst 0, 1) := by decide +kernel
theorem dX7_isOf_14 : decode cX7_isOf 14 = .ok (.ireturn, 1) := by decide +kernel
theorem hd_yX7_isOf : (yX7_isOf).cls ≠ "java/lang/invoke/MethodHandle" ∧ (yX7_isOf).cls ≠ "java/lang/invoke/VarHandle" ∧ (parseMethodDescriptor (yX7_isOf).desc).map (fun d => d.parameters.length) = some 2 := ⟨by decide, by decide, by decide +kernel⟩
def f_X7_isOf (p0 : Int32) (p1 : Int32) : Option Int32 :=
  (if ((p0 >>> (p1 &&& 31)) &&& 1) = 1 then some 1 else some 0)
set_option maxHeartbeats 4000000 in
set_option maxRecDepth 100000 in
theorem c_X7_isOf (l : Launch) (D : va_G) (A : Nat → Prop) (tys : List (ClassId × FieldType)) (ws : va_W) (p0 : Int32) (p1 : Int32) (r : Int32) (h : f_X7_isOf p0 p1 = some r) : zM l yX7_isOf w_yX7_isOf ({ frames := 0, cells := 0, slots := 0, locals := 0 } : Room) D A tys [.int p0, .int p1] ws (some (.int r)) ws := by
  refine z_start [.int p0, .int p1] (lv := [(0, .int p0), (1, .int p1)]) (by decide) (Nat.le_of_ble_eq_true rfl) rfl ?_
  intro p e s m args below meth c C hr hlk
  unfold f_X7_isOf at h
  refine z_iload_n C 0 rfl dX7_isOf_0 ?_
  refine z_iload_n C 1 rfl dX7_isOf_1 ?_
  refine z_ishr C dX7_isOf_2 ?_
  refine z_iconst C (v := 1) dX7_isOf_3 (by decide) ?_
  refine z_iand C dX7_isOf_4 ?_
  refine z_iconst C (v := 1) dX7_isOf_5 (by decide) ?_
  refine z_icmp_ne C 13 (by decide) dX7_isOf_6 h (fun h => ?_) (fun h => ?_)
  · refine z_iconst C (v := 0) dX7_isOf_13 (by decide) ?_
    cases h
    exact z_zret C hr hlk rfl dX7_isOf_14
  · refine z_iconst C (v := 1) dX7_isOf_9 (by decide) ?_
    refine z_goto C 14 (by decide) dX7_isOf_10 ?_
    cases h
    exact z_zret C hr hlk rfl dX7_isOf_14
theorem dX7_house_0 : decode cX7_house 0 = .ok (.aload_n 0, 1) := by decide +kernel
theorem dX7_house_1 : decode cX7_house 1 = .ok (.getfield 49, 3) := by decide +kernel
theorem dX7_house_4 : decode cX7_house 4 = .ok (.bipush 10, 2) := by decide +kernel
theorem dX7_house_6 : decode cX7_house 6 = .ok (.if_icmp .ne 6, 3) := by decide +kernel
theorem dX7_house_9 : decode cX7_house 9 = .ok (.bipush (-6), 2) := by decide +kernel
theorem dX7_house_11 : decode cX7_house 11 = .ok (.ireturn, 1) := by decide +kernel
theorem dX7_house_12 : decode cX7_house 12 = .ok (.iconst 0, 1) := by decide +kernel
theorem dX7_house_13 : decode cX7_house 13 = .ok (.istore_n 1, 1) := by decide +kernel
theorem dX7_house_14 : decode cX7_house 14 = .ok (.iload_n 1, 1) := by decide +kernel
theorem dX7_house_15 : decode cX7_house 15 = .ok (.bipush 10, 2) := by decide +kernel
theorem dX7_house_17 : decode cX7_house 17 = .ok (.if_icmp .ge 39, 3) := by decide +kernel
theorem dX7_house_20 : decode cX7_house 20 = .ok (.aload_n 0, 1) := by decide +kernel
theorem dX7_house_21 : decode cX7_house 21 = .ok (.getfield 7, 3) := by decide +kernel
theorem dX7_house_24 : decode cX7_house 24 = .ok (.bipush 10, 2) := by decide +kernel
theorem dX7_house_26 : decode cX7_house 26 = .ok (.aload_n 0, 1) := by decide +kernel
theorem dX7_house_27 : decode cX7_house 27 = .ok (.getfield 49, 3) := by decide +kernel
theorem dX7_house_30 : decode cX7_house 30 = .ok (.imul, 1) := by decide +kernel
theorem dX7_house_31 : decode cX7_house 31 = .ok (.iload_n 1, 1) := by decide +kernel
theorem dX7_house_32 : decode cX7_house 32 = .ok (.iadd, 1) := by decide +kernel
theorem dX7_house_33 : decode cX7_house 33 = .ok (.iconst 0, 1) := by decide +kernel
theorem dX7_house_34 : decode cX7_house 34 = .ok (.iastore, 1) := by decide +kernel
theorem dX7_house_35 : decode cX7_house 35 = .ok (.aload_n 0, 1) := by decide +kernel
theorem dX7_house_36 : decode cX7_house 36 = .ok (.getfield 7, 3) := by decide +kernel
theorem dX7_house_39 : decode cX7_house 39 = .ok (.bipush 10, 2) := by decide +kernel
theorem dX7_house_41 : decode cX7_house 41 = .ok (.iload_n 1, 1) := by decide +kernel
theorem dX7_house_42 : decode cX7_house 42 = .ok (.imul, 1) := by decide +kernel
theorem dX7_house_43 : decode cX7_house 43 = .ok (.aload_n 0, 1) := by decide +kernel
theorem dX7_house_44 : decode cX7_house 44 = .ok (.getfield 49, 3) := by decide +kernel
theorem dX7_house_47 : decode cX7_house 47 = .ok (.iadd, 1) := by decide +kernel
theorem dX7_house_48 : decode cX7_house 48 = .ok (.iconst 0, 1) := by decide +kernel
theorem dX7_house_49 : decode cX7_house 49 = .ok (.iastore, 1) := by decide +kernel
theorem dX7_house_50 : decode cX7_house 50 = .ok (.iinc 1 1, 3) := by decide +kernel
theorem dX7_house_53 : decode cX7_house 53 = .ok (.goto (-39), 3) := by decide +kernel
theorem dX7_house_56 : decode cX7_house 56 = .ok (.aload_n 0, 1) := by decide +kernel
theorem dX7_house_57 : decode cX7_house 57 = .ok (.dup, 1) := by decide +kernel
theorem dX7_house_58 : decode cX7_house 58 = .ok (.getfield 49, 3) := by decide +kernel
theorem dX7_house_61 : decode cX7_house 61 = .ok (.iconst 1, 1) := by decide +kernel
theorem dX7_house_62 : decode cX7_house 62 = .ok (.iadd, 1) := by decide +kernel
theorem dX7_house_63 : decode cX7_house 63 = .ok (.putfield 49, 3) := by decide +kernel
theorem dX7_house_66 : decode cX7_house 66 = .ok (.aload_n 0, 1) := by decide +kernel
theorem dX7_house_67 : decode cX7_house 67 = .ok (.getfield 49, 3) := by decide +kernel
theorem dX7_house_70 : decode cX7_house 70 = .ok (.iconst 1, 1) := by decide +kernel
theorem dX7_house_71 : decode cX7_house 71 = .ok (.isub, 1) := by decide +kernel
theorem dX7_house_72 : decode cX7_house 72 = .ok (.ireturn, 1) := by decide +kernel
theorem hd_yX7_house : (yX7_house).cls ≠ "java/lang/invoke/MethodHandle" ∧ (yX7_house).cls ≠ "java/lang/invoke/VarHandle" ∧ (parseMethodDescriptor (yX7_house).desc).map (fun d => d.parameters.length) = some 0 := ⟨by decide, by decide, by decide +kernel⟩
def f_X7_house_J56 (σ : ZS) : Option (Int32 × ZS) :=
  some (((setI σ 0 ((σ.1 0) + 1)).1 0) - 1, setI σ 0 ((σ.1 0) + 1))
def f_X7_house_B14  (t1 : (Int32 × ZS)) : Option ((Int32 × ZS) ⊕ (Int32 × ZS)) :=
  (if 10 ≤ t1.1 then wi (f_X7_house_J56 t1.2) else ck (inb (((10 : Int32) * (t1.2.1 0)) + t1.1) 100) (ck (inb (((10 : Int32) * t1.1) + ((setA t1.2 1 (Int32.toNatClampNeg (((10 : Int32) * (t1.2.1 0)) + t1.1)) 0).1 0)) 100) (some (.inl (t1.1 + 1, setA (setA t1.2 1 (Int32.toNatClampNeg (((10 : Int32) * (t1.2.1 0)) + t1.1)) 0) 1 (Int32.toNatClampNeg (((10 : Int32) * t1.1) + ((setA t1.2 1 (Int32.toNatClampNeg (((10 : Int32) * (t1.2.1 0)) + t1.1)) 0).1 0))) 0)))))
def f_X7_house  (σ : ZS) : Option (Int32 × ZS) :=
  (if (σ.1 0) = 10 then some ((-6), σ) else lp zF (f_X7_house_B14) (0, σ))
set_option maxHeartbeats 4000000 in
set_option maxRecDepth 100000 in
theorem c_X7_house (l : Launch) (D : va_G) (A : Nat → Prop) (a : Nat → Nat) (x : ClassId × ClassId × ClassId) (σ : ZS)  (r : (Int32 × ZS)) (h : f_X7_house  σ = some r) : zM l yX7_house w_yX7_house ({ frames := 0, cells := 0, slots := 0, locals := 0 } : Room) D A (tyz x) [.ref (a 0)] (wM a x σ) (some (.int r.1)) (wM a x r.2) := by
  refine z_start [.ref (a 0)] (lv := [(0, .ref (a 0))]) (by decide) (Nat.le_of_ble_eq_true rfl) rfl ?_
  intro p e s m args below meth c C hr hlk
  have J56 : ∀ (σ_56 : ZS), f_X7_house_J56 σ_56 = some r → zV p l e ({ frames := 0, cells := 0, slots := 0, locals := 0 } : Room) s m args below meth c 0 0 (MQ below (zQ D A (some (.int r.1)) (wM a x r.2)) args s 0 0 A) D A 2 (wM a x σ_56) 56 [(0, .ref (a 0))] [] := by
    intro σ_56 h
    unfold f_X7_house_J56 at h
    refine z_aload_n C 0 rfl dX7_house_56 ?_
    refine z_dup C rfl dX7_house_57 ?_
    refine z_get C iRX7 0 gM_0 rfl 0 (by decide) fl_RX7_49 rfl dX7_house_58 ?_
    refine z_iconst C (v := 1) dX7_house_61 (by decide) ?_
    refine z_iadd C dX7_house_62 ?_
    refine z_put C iRX7 tyX7 tyX7_ok nmX7 0 gM_0 rfl 0 (by decide) fl_RX7_49 rfl (ty := .int) (by decide +kernel) ⟨rfl, rfl⟩ (Nat.le_of_ble_eq_true rfl) pM_0_0 dX7_house_63 ?_
    refine z_aload_n C 0 rfl dX7_house_66 ?_
    refine z_get C iRX7 0 gM_0 rfl 0 (by decide) fl_RX7_49 rfl dX7_house_67 ?_
    refine z_iconst C (v := 1) dX7_house_70 (by decide) ?_
    refine z_isub C dX7_house_71 ?_
    cases h
    exact z_iret C hr hlk dX7_house_72
  unfold f_X7_house at h
  refine z_aload_n C 0 rfl dX7_house_0 ?_
  refine z_get C iRX7 0 gM_0 rfl 0 (by decide) fl_RX7_49 rfl dX7_house_1 ?_
  refine z_bipush C (v := 10) dX7_house_4 (by decide) ?_
  refine z_icmp_ne C 12 (by decide) dX7_house_6 h (fun h => ?_) (fun h => ?_)
  · refine z_iconst C (v := 0) dX7_house_12 (by decide) ?_
    refine z_istore_n C [(1, .int 0), (0, .ref (a 0))] rfl (by decide) rfl dX7_house_13 ?_
    refine z_sub C [1, 0] (lv' := [(0, .ref (a 0)), (1, .int 0)]) rfl ?_
    have L14 : ∀ (n : Nat) (t1 : (Int32 × ZS)), lp n (f_X7_house_B14) t1 = some r → zV p l e ({ frames := 0, cells := 0, slots := 0, locals := 0 } : Room) s m args below meth c 0 0 (MQ below (zQ D A (some (.int r.1)) (wM a x r.2)) args s 0 0 A) D A 2 (wM a x t1.2) 14 [(0, .ref (a 0)), (1, .int t1.1)] [] := by
      intro n1
      induction n1 with
      | zero => exact fun _ h => (lp_zero h).elim
      | succ n1 ih1 =>
        intro t1 h
        obtain ⟨u1, h, hk1⟩ := lp_succ h
        unfold f_X7_house_B14 at h
        refine z_iload_n C 1 rfl dX7_house_14 ?_
        refine z_bipush C (v := 10) dX7_house_15 (by decide) ?_
        refine z_icmp_ge C 56 (by decide) dX7_house_17 h (fun h => ?_) (fun h => ?_)
        · refine z_sub C [0] (lv' := [(0, .ref (a 0))]) rfl ?_
          have h := unwi h hk1
          exact J56 _ h
        · refine z_aload_n C 0 rfl dX7_house_20 ?_
          refine z_get C iRX7 0 gM_0 rfl 1 (by decide) fl_RX7_7 rfl dX7_house_21 ?_
          refine z_bipush C (v := 10) dX7_house_24 (by decide) ?_
          refine z_aload_n C 0 rfl dX7_house_26 ?_
          refine z_get C iRX7 0 gM_0 rfl 0 (by decide) fl_RX7_49 rfl dX7_house_27 ?_
          refine z_imul C dX7_house_30 ?_
          refine z_iload_n C 1 rfl dX7_house_31 ?_
          refine z_iadd C dX7_house_32 ?_
          refine z_iconst C (v := 0) dX7_house_33 (by decide) ?_
          refine z_iast C 1 0 gM_1 rfl uM_1 dX7_house_34 h (fun h => ?_)
          refine z_aload_n C 0 rfl dX7_house_35 ?_
          refine z_get C iRX7 0 gM_0 rfl 1 (by decide) fl_RX7_7 rfl dX7_house_36 ?_
          refine z_bipush C (v := 10) dX7_house_39 (by decide) ?_
          refine z_iload_n C 1 rfl dX7_house_41 ?_
          refine z_imul C dX7_house_42 ?_
          refine z_aload_n C 0 rfl dX7_house_43 ?_
          refine z_get C iRX7 0 gM_0 rfl 0 (by decide) fl_RX7_49 rfl dX7_house_44 ?_
          refine z_iadd C dX7_house_47 ?_
          refine z_iconst C (v := 0) dX7_house_48 (by decide) ?_
          refine z_iast C 1 0 gM_1 rfl uM_1 dX7_house_49 h (fun h => ?_)
          refine z_iinc C (v := t1.1 + 1) [(1, .int (t1.1 + 1)), (0, .ref (a 0))] 1 rfl rfl (by decide) rfl dX7_house_50 ?_
          refine z_goto C 14 (by decide) dX7_house_53 ?_
          refine z_sub C [1, 0] (lv' := [(0, .ref (a 0)), (1, .int (t1.1 + 1))]) rfl ?_
          exact ih1 _ (uninl h hk1)
    exact L14 _ _ h
  · refine z_bipush C (v := (-6)) dX7_house_9 (by decide) ?_
    cases h
    exact z_iret C hr hlk dX7_house_11
theorem dX7_above_0 : decode cX7_above 0 = .ok (.iconst 0, 1) := by decide +kernel
theorem dX7_above_1 : decode cX7_above 1 = .ok (.istore_n 2, 1) := by decide +kernel
theorem dX7_above_2 : decode cX7_above 2 = .ok (.iconst 0, 1) := by decide +kernel
theorem dX7_above_3 : decode cX7_above 3 = .ok (.istore_n 3, 1) := by decide +kernel
theorem dX7_above_4 : decode cX7_above 4 = .ok (.iload_n 3, 1) := by decide +kernel
theorem dX7_above_5 : decode cX7_above 5 = .ok (.bipush 10, 2) := by decide +kernel
theorem dX7_above_7 : decode cX7_above 7 = .ok (.if_icmp .ge 84, 3) := by decide +kernel
theorem dX7_above_10 : decode cX7_above 10 = .ok (.iconst 0, 1) := by decide +kernel
theorem dX7_above_11 : decode cX7_above 11 = .ok (.istore 4, 2) := by decide +kernel
theorem dX7_above_13 : decode cX7_above 13 = .ok (.iload 4, 2) := by decide +kernel
theorem dX7_above_15 : decode cX7_above 15 = .ok (.aload_n 0, 1) := by decide +kernel
theorem dX7_above_16 : decode cX7_above 16 = .ok (.getfield 49, 3) := by decide +kernel
theorem dX7_above_19 : decode cX7_above 19 = .ok (.if_icmp .ge 66, 3) := by decide +kernel
theorem dX7_above_22 : decode cX7_above 22 = .ok (.iconst 0, 1) := by decide +kernel
theorem dX7_above_23 : decode cX7_above 23 = .ok (.istore 5, 2) := by decide +kernel
theorem dX7_above_25 : decode cX7_above 25 = .ok (.iload 5, 2) := by decide +kernel
theorem dX7_above_27 : decode cX7_above 27 = .ok (.aload_n 0, 1) := by decide +kernel
theorem dX7_above_28 : decode cX7_above 28 = .ok (.getfield 49, 3) := by decide +kernel
theorem dX7_above_31 : decode cX7_above 31 = .ok (.if_icmp .ge 48, 3) := by decide +kernel
theorem dX7_above_34 : decode cX7_above 34 = .ok (.aload_n 0, 1) := by decide +kernel
theorem dX7_above_35 : decode cX7_above 35 = .ok (.getfield 7, 3) := by decide +kernel
theorem dX7_above_38 : decode cX7_above 38 = .ok (.bipush 10, 2) := by decide +kernel
theorem dX7_above_40 : decode cX7_above 40 = .ok (.iload 4, 2) := by decide +kernel
theorem dX7_above_42 : decode cX7_above 42 = .ok (.imul, 1) := by decide +kernel
theorem dX7_above_43 : decode cX7_above 43 = .ok (.iload 5, 2) := by decide +kernel
theorem dX7_above_45 : decode cX7_above 45 = .ok (.iadd, 1) := by decide +kernel
theorem dX7_above_46 : decode cX7_above 46 = .ok (.iaload, 1) := by decide +kernel
theorem dX7_above_47 : decode cX7_above 47 = .ok (.iconst 3, 1) := by decide +kernel
theorem dX7_above_48 : decode cX7_above 48 = .ok (.if_icmp .ne 25, 3) := by decide +kernel
theorem dX7_above_51 : decode cX7_above 51 = .ok (.iload 4, 2) := by decide +kernel
theorem dX7_above_53 : decode cX7_above 53 = .ok (.iload_n 1, 1) := by decide +kernel
theorem dX7_above_54 : decode cX7_above 54 = .ok (.if_icmp .eq 12, 3) := by decide +kernel
theorem dX7_above_57 : decode cX7_above 57 = .ok (.iload_n 2, 1) := by decide +kernel
theorem dX7_above_58 : decode cX7_above 58 = .ok (.iload 4, 2) := by decide +kernel
theorem dX7_above_60 : decode cX7_above 60 = .ok (.invokestatic 57, 3) := by decide +kernel
theorem dX7_above_63 : decode cX7_above 63 = .ok (.ifCond .eq 10, 3) := by decide +kernel
theorem dX7_above_66 : decode cX7_above 66 = .ok (.iload_n 2, 1) := by decide +kernel
theorem dX7_above_67 : decode cX7_above 67 = .ok (.iconst 1, 1) := by decide +kernel
theorem dX7_above_68 : decode cX7_above 68 = .ok (.iload 5, 2) := by decide +kernel
theorem dX7_above_70 : decode cX7_above 70 = .ok (.ishl, 1) := by decide +kernel
theorem dX7_above_71 : decode cX7_above 71 = .ok (.ior, 1) := by decide +kernel
theorem dX7_above_72 : decode cX7_above 72 = .ok (.istore_n 2, 1) := by decide +kernel
theorem dX7_above_73 : decode cX7_above 73 = .ok (.iinc 5 1, 3) := by decide +kernel
theorem dX7_above_76 : decode cX7_above 76 = .ok (.goto (-51), 3) := by decide +kernel
theorem dX7_above_79 : decode cX7_above 79 = .ok (.iinc 4 1, 3) := by decide +kernel
theorem dX7_above_82 : decode cX7_above 82 = .ok (.goto (-69), 3) := by decide +kernel
theorem dX7_above_85 : decode cX7_above 85 = .ok (.iinc 3 1, 3) := by decide +kernel
theorem dX7_above_88 : decode cX7_above 88 = .ok (.goto (-84), 3) := by decide +kernel
theorem dX7_above_91 : decode cX7_above 91 = .ok (.iload_n 2, 1) := by decide +kernel
theorem dX7_above_92 : decode cX7_above 92 = .ok (.ireturn, 1) := by decide +kernel
theorem hd_yX7_above : (yX7_above).cls ≠ "java/lang/invoke/MethodHandle" ∧ (yX7_above).cls ≠ "java/lang/invoke/VarHandle" ∧ (parseMethodDescriptor (yX7_above).desc).map (fun d => d.parameters.length) = some 1 := ⟨by decide, by decide, by decide +kernel⟩
def f_X7_above_J66 (l1 : Int32) (l2 : Int32) (l3 : Int32) (l4 : Int32) (l5 : Int32) (σ : ZS) : Option ((Int32 × Int32) ⊕ ((Int32 × Int32) ⊕ ((Int32 × Int32) ⊕ Int32))) :=
  some (.inl (l2 ||| ((1 : Int32) <<< (l5 &&& 31)), l5 + 1))
def f_X7_above_B25 (l1 : Int32) (l3 : Int32) (l4 : Int32) (σ : ZS) (t3 : (Int32 × Int32)) : Option ((Int32 × Int32) ⊕ ((Int32 × Int32) ⊕ ((Int32 × Int32) ⊕ Int32))) :=
  (if (σ.1 0) ≤ t3.2 then wi (some (.inl (t3.1, l4 + 1))) else ld (σ.2.1 1) 100 (((10 : Int32) * l4) + t3.2) (fun y1 => (if y1 = 3 then (if l4 = l1 then f_X7_above_J66 l1 t3.1 l3 l4 t3.2 σ else Option.bind (f_X7_isOf t3.1 l4) (fun q2 => (if q2 = 0 then some (.inl (t3.1, t3.2 + 1)) else f_X7_above_J66 l1 t3.1 l3 l4 t3.2 σ))) else some (.inl (t3.1, t3.2 + 1)))))
def f_X7_above_B13 (l1 : Int32) (l3 : Int32) (σ : ZS) (t2 : (Int32 × Int32)) : Option ((Int32 × Int32) ⊕ ((Int32 × Int32) ⊕ Int32)) :=
  (if (σ.1 0) ≤ t2.2 then wi (some (.inl (t2.1, l3 + 1))) else lp zF (f_X7_above_B25 l1 l3 t2.2 σ) (t2.1, 0))
def f_X7_above_B4 (l1 : Int32) (σ : ZS) (t1 : (Int32 × Int32)) : Option ((Int32 × Int32) ⊕ Int32) :=
  (if 10 ≤ t1.2 then wi (some t1.1) else lp zF (f_X7_above_B13 l1 t1.2 σ) (t1.1, 0))
def f_X7_above (p0 : Int32) (σ : ZS) : Option Int32 :=
  lp zF (f_X7_above_B4 p0 σ) (0, 0)
set_option maxHeartbeats 4000000 in
set_option maxRecDepth 100000 in
theorem c_X7_above (l : Launch) (D : va_G) (A : Nat → Prop) (a : Nat → Nat) (x : ClassId × ClassId × ClassId) (σ : ZS) (p0 : Int32) (r : Int32) (h : f_X7_above p0 σ = some r) : zM l yX7_above w_yX7_above ({ frames := 1, cells := 0, slots := 0, locals := 21 } : Room) D A (tyz x) [.ref (a 0), .int p0] (wM a x σ) (some (.int r)) (wM a x σ) := by
  refine z_start [.ref (a 0), .int p0] (lv := [(0, .ref (a 0)), (1, .int p0)]) (by decide) (Nat.le_of_ble_eq_true rfl) rfl ?_
  intro p e s m args below meth c C hr hlk
  unfold f_X7_above at h
  refine z_iconst C (v := 0) dX7_above_0 (by decide) ?_
  refine z_istore_n C [(2, .int 0), (0, .ref (a 0)), (1, .int p0)] rfl (by decide) rfl dX7_above_1 ?_
  refine z_iconst C (v := 0) dX7_above_2 (by decide) ?_
  refine z_istore_n C [(3, .int 0), (2, .int 0), (0, .ref (a 0)), (1, .int p0)] rfl (by decide) rfl dX7_above_3 ?_
  refine z_sub C [2, 3, 1, 0] (lv' := [(0, .ref (a 0)), (1, .int p0), (2, .int 0), (3, .int 0)]) rfl ?_
  have L4 : ∀ (n : Nat) (t1 : (Int32 × Int32)), lp n (f_X7_above_B4 p0 σ) t1 = some r → zV p l e ({ frames := 1, cells := 0, slots := 0, locals := 21 } : Room) s m args below meth c 0 0 (MQ below (zQ D A (some (.int r)) (wM a x σ)) args s 0 0 A) D A 6 (wM a x σ) 4 [(0, .ref (a 0)), (1, .int p0), (2, .int t1.1), (3, .int t1.2)] [] := by
    intro n1
    induction n1 with
    | zero => exact fun _ h => (lp_zero h).elim
    | succ n1 ih1 =>
      intro t1 h
      obtain ⟨u1, h, hk1⟩ := lp_succ h
      unfold f_X7_above_B4 at h
      refine z_iload_n C 3 rfl dX7_above_4 ?_
      refine z_bipush C (v := 10) dX7_above_5 (by decide) ?_
      refine z_icmp_ge C 91 (by decide) dX7_above_7 h (fun h => ?_) (fun h => ?_)
      · refine z_iload_n C 2 rfl dX7_above_91 ?_
        have h := unwi h hk1
        cases h
        exact z_iret C hr hlk dX7_above_92
      · refine z_iconst C (v := 0) dX7_above_10 (by decide) ?_
        refine z_istore C [(4, .int 0), (0, .ref (a 0)), (1, .int p0), (2, .int t1.1), (3, .int t1.2)] (by decide) rfl dX7_above_11 ?_
        refine z_sub C [1, 2, 3, 4, 0] (lv' := [(0, .ref (a 0)), (1, .int p0), (2, .int t1.1), (3, .int t1.2), (4, .int 0)]) rfl ?_
        have L13 : ∀ (n : Nat) (t2 : (Int32 × Int32)), lp n (f_X7_above_B13 p0 t1.2 σ) t2 = some u1 → zV p l e ({ frames := 1, cells := 0, slots := 0, locals := 21 } : Room) s m args below meth c 0 0 (MQ below (zQ D A (some (.int r)) (wM a x σ)) args s 0 0 A) D A 6 (wM a x σ) 13 [(0, .ref (a 0)), (1, .int p0), (2, .int t2.1), (3, .int t1.2), (4, .int t2.2)] [] := by
          intro n2
          induction n2 with
          | zero => exact fun _ h => (lp_zero h).elim
          | succ n2 ih2 =>
            intro t2 h
            obtain ⟨u2, h, hk2⟩ := lp_succ h
            unfold f_X7_above_B13 at h
            refine z_iload C 4 rfl dX7_above_13 ?_
            refine z_aload_n C 0 rfl dX7_above_15 ?_
            refine z_get C iRX7 0 gM_0 rfl 0 (by decide) fl_RX7_49 rfl dX7_above_16 ?_
            refine z_icmp_ge C 85 (by decide) dX7_above_19 h (fun h => ?_) (fun h => ?_)
            · refine z_iinc C (v := t1.2 + 1) [(3, .int (t1.2 + 1)), (0, .ref (a 0)), (1, .int p0), (2, .int t2.1), (4, .int t2.2)] 3 rfl rfl (by decide) rfl dX7_above_85 ?_
              refine z_goto C 4 (by decide) dX7_above_88 ?_
              refine z_sub C [1, 2, 3, 0] (lv' := [(0, .ref (a 0)), (1, .int p0), (2, .int t2.1), (3, .int (t1.2 + 1))]) rfl ?_
              have h := unwi h hk2
              exact ih1 _ (uninl h hk1)
            · refine z_iconst C (v := 0) dX7_above_22 (by decide) ?_
              refine z_istore C [(5, .int 0), (0, .ref (a 0)), (1, .int p0), (2, .int t2.1), (3, .int t1.2), (4, .int t2.2)] (by decide) rfl dX7_above_23 ?_
              refine z_sub C [1, 2, 3, 4, 5, 0] (lv' := [(0, .ref (a 0)), (1, .int p0), (2, .int t2.1), (3, .int t1.2), (4, .int t2.2), (5, .int 0)]) rfl ?_
              have L25 : ∀ (n : Nat) (t3 : (Int32 × Int32)), lp n (f_X7_above_B25 p0 t1.2 t2.2 σ) t3 = some u2 → zV p l e ({ frames := 1, cells := 0, slots := 0, locals := 21 } : Room) s m args below meth c 0 0 (MQ below (zQ D A (some (.int r)) (wM a x σ)) args s 0 0 A) D A 6 (wM a x σ) 25 [(0, .ref (a 0)), (1, .int p0), (2, .int t3.1), (3, .int t1.2), (4, .int t2.2), (5, .int t3.2)] [] := by
                intro n3
                induction n3 with
                | zero => exact fun _ h => (lp_zero h).elim
                | succ n3 ih3 =>
                  intro t3 h
                  obtain ⟨u3, h, hk3⟩ := lp_succ h
                  have J66 : ∀ (l2_66 : Int32) (l5_66 : Int32), f_X7_above_J66 p0 l2_66 t1.2 t2.2 l5_66 σ = some u3 → zV p l e ({ frames := 1, cells := 0, slots := 0, locals := 21 } : Room) s m args below meth c 0 0 (MQ below (zQ D A (some (.int r)) (wM a x σ)) args s 0 0 A) D A 6 (wM a x σ) 66 [(0, .ref (a 0)), (1, .int p0), (2, .int l2_66), (3, .int t1.2), (4, .int t2.2), (5, .int l5_66)] [] := by
                    intro l2_66 l5_66 h
                    unfold f_X7_above_J66 at h
                    refine z_iload_n C 2 rfl dX7_above_66 ?_
                    refine z_iconst C (v := 1) dX7_above_67 (by decide) ?_
                    refine z_iload C 5 rfl dX7_above_68 ?_
                    refine z_ishl C dX7_above_70 ?_
                    refine z_ior C dX7_above_71 ?_
                    refine z_istore_n C [(2, .int (l2_66 ||| ((1 : Int32) <<< (l5_66 &&& 31)))), (0, .ref (a 0)), (1, .int p0), (3, .int t1.2), (4, .int t2.2), (5, .int l5_66)] rfl (by decide) rfl dX7_above_72 ?_
                    refine z_iinc C (v := l5_66 + 1) [(5, .int (l5_66 + 1)), (2, .int (l2_66 ||| ((1 : Int32) <<< (l5_66 &&& 31)))), (0, .ref (a 0)), (1, .int p0), (3, .int t1.2), (4, .int t2.2)] 5 rfl rfl (by decide) rfl dX7_above_73 ?_
                    refine z_goto C 25 (by decide) dX7_above_76 ?_
                    refine z_sub C [2, 3, 1, 4, 5, 0] (lv' := [(0, .ref (a 0)), (1, .int p0), (2, .int (l2_66 ||| ((1 : Int32) <<< (l5_66 &&& 31)))), (3, .int t1.2), (4, .int t2.2), (5, .int (l5_66 + 1))]) rfl ?_
                    exact ih3 _ (uninl h hk3)
                  unfold f_X7_above_B25 at h
                  refine z_iload C 5 rfl dX7_above_25 ?_
                  refine z_aload_n C 0 rfl dX7_above_27 ?_
                  refine z_get C iRX7 0 gM_0 rfl 0 (by decide) fl_RX7_49 rfl dX7_above_28 ?_
                  refine z_icmp_ge C 79 (by decide) dX7_above_31 h (fun h => ?_) (fun h => ?_)
                  · refine z_iinc C (v := t2.2 + 1) [(4, .int (t2.2 + 1)), (0, .ref (a 0)), (1, .int p0), (2, .int t3.1), (3, .int t1.2), (5, .int t3.2)] 4 rfl rfl (by decide) rfl dX7_above_79 ?_
                    refine z_goto C 13 (by decide) dX7_above_82 ?_
                    refine z_sub C [1, 2, 3, 4, 0] (lv' := [(0, .ref (a 0)), (1, .int p0), (2, .int t3.1), (3, .int t1.2), (4, .int (t2.2 + 1))]) rfl ?_
                    have h := unwi h hk3
                    exact ih2 _ (uninl h hk2)
                  · refine z_aload_n C 0 rfl dX7_above_34 ?_
                    refine z_get C iRX7 0 gM_0 rfl 1 (by decide) fl_RX7_7 rfl dX7_above_35 ?_
                    refine z_bipush C (v := 10) dX7_above_38 (by decide) ?_
                    refine z_iload C 4 rfl dX7_above_40 ?_
                    refine z_imul C dX7_above_42 ?_
                    refine z_iload C 5 rfl dX7_above_43 ?_
                    refine z_iadd C dX7_above_45 ?_
                    refine z_iald C 1 0 gM_1 rfl dX7_above_46 h (fun y1 h => ?_)
                    refine z_iconst C (v := 3) dX7_above_47 (by decide) ?_
                    refine z_icmp_ne C 73 (by decide) dX7_above_48 h (fun h => ?_) (fun h => ?_)
                    · refine z_iinc C (v := t3.2 + 1) [(5, .int (t3.2 + 1)), (0, .ref (a 0)), (1, .int p0), (2, .int t3.1), (3, .int t1.2), (4, .int t2.2)] 5 rfl rfl (by decide) rfl dX7_above_73 ?_
                      refine z_goto C 25 (by decide) dX7_above_76 ?_
                      refine z_sub C [1, 2, 3, 4, 5, 0] (lv' := [(0, .ref (a 0)), (1, .int p0), (2, .int t3.1), (3, .int t1.2), (4, .int t2.2), (5, .int (t3.2 + 1))]) rfl ?_
                      exact ih3 _ (uninl h hk3)
                    · refine z_iload C 4 rfl dX7_above_51 ?_
                      refine z_iload_n C 1 rfl dX7_above_53 ?_
                      refine z_icmp_eq C 66 (by decide) dX7_above_54 h (fun h => ?_) (fun h => ?_)
                      · exact J66 _ _ h
                      · refine z_iload_n C 2 rfl dX7_above_57 ?_
                        refine z_iload C 4 rfl dX7_above_58 ?_
                        obtain ⟨q2, hq2, h⟩ := bd_spec h
                        refine z_callS1 C [.int t3.1, .int t2.2] [] (v := .int q2) rfl (c_X7_isOf l D A (tyz x) (wM a x σ) t3.1 t2.2 q2 hq2) cd_yX7_isOf in_RX7 ml_RX7_57 sm_yX7_isOf hd_yX7_isOf ⟨⟨Nat.le_of_ble_eq_true rfl, Nat.le_of_ble_eq_true rfl⟩, rfl, rfl⟩ rfl (Nat.le_of_ble_eq_true rfl) ⟨Nat.zero_le _, Nat.zero_le _⟩ dX7_above_60 ?_
                        refine z_if_eq C 73 (by decide) dX7_above_63 h (fun h => ?_) (fun h => ?_)
                        · refine z_iinc C (v := t3.2 + 1) [(5, .int (t3.2 + 1)), (0, .ref (a 0)), (1, .int p0), (2, .int t3.1), (3, .int t1.2), (4, .int t2.2)] 5 rfl rfl (by decide) rfl dX7_above_73 ?_
                          refine z_goto C 25 (by decide) dX7_above_76 ?_
                          refine z_sub C [1, 2, 3, 4, 5, 0] (lv' := [(0, .ref (a 0)), (1, .int p0), (2, .int t3.1), (3, .int t1.2), (4, .int t2.2), (5, .int (t3.2 + 1))]) rfl ?_
                          exact ih3 _ (uninl h hk3)
                        · exact J66 _ _ h
              exact L25 _ _ h
        exact L13 _ _ h
  exact L4 _ _ h
theorem dX7_tie_0 : decode cX7_tie 0 = .ok (.aload_n 0, 1) := by decide +kernel
theorem dX7_tie_1 : decode cX7_tie 1 = .ok (.iload_n 1, 1) := by decide +kernel
theorem dX7_tie_2 : decode cX7_tie 2 = .ok (.invokevirtual 61, 3) := by decide +kernel
theorem dX7_tie_5 : decode cX7_tie 5 = .ok (.ifCond .eq 11, 3) := by decide +kernel
theorem dX7_tie_8 : decode cX7_tie 8 = .ok (.aload_n 0, 1) := by decide +kernel
theorem dX7_tie_9 : decode cX7_tie 9 = .ok (.iload_n 2, 1) := by decide +kernel
theorem dX7_tie_10 : decode cX7_tie 10 = .ok (.invokevirtual 61, 3) := by decide +kernel
theorem dX7_tie_13 : decode cX7_tie 13 = .ok (.ifCond .ne 6, 3) := by decide +kernel
theorem dX7_tie_16 : decode cX7_tie 16 = .ok (.bipush (-2), 2) := by decide +kernel
theorem dX7_tie_18 : decode cX7_tie 18 = .ok (.ireturn, 1) := by decide +kernel
theorem dX7_tie_19 : decode cX7_tie 19 = .ok (.iload_n 1, 1) := by decide +kernel
theorem dX7_tie_20 : decode cX7_tie 20 = .ok (.iload_n 2, 1) := by decide +kernel
theorem dX7_tie_21 : decode cX7_tie 21 = .ok (.if_icmp .eq 17, 3) := by decide +kernel
theorem dX7_tie_24 : decode cX7_tie 24 = .ok (.aload_n 0, 1) := by decide +kernel
theorem dX7_tie_25 : decode cX7_tie 25 = .ok (.getfield 7, 3) := by decide +kernel
theorem dX7_tie_28 : decode cX7_tie 28 = .ok (.bipush 10, 2) := by decide +kernel
theorem dX7_tie_30 : decode cX7_tie 30 = .ok (.iload_n 1, 1) := by decide +kernel
theorem dX7_tie_31 : decode cX7_tie 31 = .ok (.imul, 1) := by decide +kernel
theorem dX7_tie_32 : decode cX7_tie 32 = .ok (.iload_n 2, 1) := by decide +kernel
theorem dX7_tie_33 : decode cX7_tie 33 = .ok (.iadd, 1) := by decide +kernel
theorem dX7_tie_34 : decode cX7_tie 34 = .ok (.iaload, 1) := by decide +kernel
theorem dX7_tie_35 : decode cX7_tie 35 = .ok (.ifCond .eq 6, 3) := by decide +kernel
theorem dX7_tie_38 : decode cX7_tie 38 = .ok (.bipush (-3), 2) := by decide +kernel
theorem dX7_tie_40 : decode cX7_tie 40 = .ok (.ireturn, 1) := by decide +kernel
theorem dX7_tie_41 : decode cX7_tie 41 = .ok (.iload_n 3, 1) := by decide +kernel
theorem dX7_tie_42 : decode cX7_tie 42 = .ok (.ifCond .ne 18, 3) := by decide +kernel
theorem dX7_tie_45 : decode cX7_tie 45 = .ok (.aload_n 0, 1) := by decide +kernel
theorem dX7_tie_46 : decode cX7_tie 46 = .ok (.iload_n 1, 1) := by decide +kernel
theorem dX7_tie_47 : decode cX7_tie 47 = .ok (.invokevirtual 65, 3) := by decide +kernel
theorem dX7_tie_50 : decode cX7_tie 50 = .ok (.iload_n 2, 1) := by decide +kernel
theorem dX7_tie_51 : decode cX7_tie 51 = .ok (.invokestatic 57, 3) := by decide +kernel
theorem dX7_tie_54 : decode cX7_tie 54 = .ok (.ifCond .eq 6, 3) := by decide +kernel
theorem dX7_tie_57 : decode cX7_tie 57 = .ok (.bipush (-4), 2) := by decide +kernel
theorem dX7_tie_59 : decode cX7_tie 59 = .ok (.ireturn, 1) := by decide +kernel
theorem dX7_tie_60 : decode cX7_tie 60 = .ok (.aload_n 0, 1) := by decide +kernel
theorem dX7_tie_61 : decode cX7_tie 61 = .ok (.getfield 7, 3) := by decide +kernel
theorem dX7_tie_64 : decode cX7_tie 64 = .ok (.bipush 10, 2) := by decide +kernel
theorem dX7_tie_66 : decode cX7_tie 66 = .ok (.iload_n 1, 1) := by decide +kernel
theorem dX7_tie_67 : decode cX7_tie 67 = .ok (.imul, 1) := by decide +kernel
theorem dX7_tie_68 : decode cX7_tie 68 = .ok (.iload_n 2, 1) := by decide +kernel
theorem dX7_tie_69 : decode cX7_tie 69 = .ok (.iadd, 1) := by decide +kernel
theorem dX7_tie_70 : decode cX7_tie 70 = .ok (.iload_n 3, 1) := by decide +kernel
theorem dX7_tie_71 : decode cX7_tie 71 = .ok (.ifCond .eq 7, 3) := by decide +kernel
theorem dX7_tie_74 : decode cX7_tie 74 = .ok (.iconst 2, 1) := by decide +kernel
theorem dX7_tie_75 : decode cX7_tie 75 = .ok (.goto 4, 3) := by decide +kernel
theorem dX7_tie_78 : decode cX7_tie 78 = .ok (.iconst 1, 1) := by decide +kernel
theorem dX7_tie_79 : decode cX7_tie 79 = .ok (.iastore, 1) := by decide +kernel
theorem dX7_tie_80 : decode cX7_tie 80 = .ok (.aload_n 0, 1) := by decide +kernel
theorem dX7_tie_81 : decode cX7_tie 81 = .ok (.getfield 7, 3) := by decide +kernel
theorem dX7_tie_84 : decode cX7_tie 84 = .ok (.bipush 10, 2) := by decide +kernel
theorem dX7_tie_86 : decode cX7_tie 86 = .ok (.iload_n 2, 1) := by decide +kernel
theorem dX7_tie_87 : decode cX7_tie 87 = .ok (.imul, 1) := by decide +kernel
theorem dX7_tie_88 : decode cX7_tie 88 = .ok (.iload_n 1, 1) := by decide +kernel
theorem dX7_tie_89 : decode cX7_tie 89 = .ok (.iadd, 1) := by decide +kernel
theorem dX7_tie_90 : decode cX7_tie 90 = .ok (.iload_n 3, 1) := by decide +kernel
theorem dX7_tie_91 : decode cX7_tie 91 = .ok (.ifCond .eq 7, 3) := by decide +kernel
theorem dX7_tie_94 : decode cX7_tie 94 = .ok (.iconst 2, 1) := by decide +kernel
theorem dX7_tie_95 : decode cX7_tie 95 = .ok (.goto 4, 3) := by decide +kernel
theorem dX7_tie_98 : decode cX7_tie 98 = .ok (.iconst 3, 1) := by decide +kernel
theorem dX7_tie_99 : decode cX7_tie 99 = .ok (.iastore, 1) := by decide +kernel
theorem dX7_tie_100 : decode cX7_tie 100 = .ok (.iconst 1, 1) := by decide +kernel
theorem dX7_tie_101 : decode cX7_tie 101 = .ok (.ireturn, 1) := by decide +kernel
theorem hd_yX7_tie : (yX7_tie).cls ≠ "java/lang/invoke/MethodHandle" ∧ (yX7_tie).cls ≠ "java/lang/invoke/VarHandle" ∧ (parseMethodDescriptor (yX7_tie).desc).map (fun d => d.parameters.length) = some 3 := ⟨by decide, by decide, by decide +kernel⟩
def f_X7_tie_J79 (l1 : Int32) (l2 : Int32) (l3 : Int32) (s0 : Int32) (s1 : Int32) (σ : ZS) : Option (Int32 × ZS) :=
  ck (inb s1 100) ((if l3 = 0 then ck (inb (((10 : Int32) * l2) + l1) 100) (some (1, setA (setA σ 1 (Int32.toNatClampNeg s1) s0) 1 (Int32.toNatClampNeg (((10 : Int32) * l2) + l1)) 3)) else ck (inb (((10 : Int32) * l2) + l1) 100) (some (1, setA (setA σ 1 (Int32.toNatClampNeg s1) s0) 1 (Int32.toNatClampNeg (((10 : Int32) * l2) + l1)) 2))))
def f_X7_tie_J60 (l1 : Int32) (l2 : Int32) (l3 : Int32) (σ : ZS) : Option (Int32 × ZS) :=
  (if l3 = 0 then f_X7_tie_J79 l1 l2 l3 1 (((10 : Int32) * l1) + l2) σ else f_X7_tie_J79 l1 l2 l3 2 (((10 : Int32) * l1) + l2) σ)
def f_X7_tie (p0 : Int32) (p1 : Int32) (p2 : Int32) (σ : ZS) : Option (Int32 × ZS) :=
  Option.bind (f_X7_isHouse p0 σ) (fun q1 => (if q1 = 0 then some ((-2), σ) else Option.bind (f_X7_isHouse p1 σ) (fun q2 => (if q2 = 0 then some ((-2), σ) else (if p0 = p1 then some ((-3), σ) else ld (σ.2.1 1) 100 (((10 : Int32) * p0) + p1) (fun y3 => (if y3 = 0 then (if p2 = 0 then Option.bind (f_X7_above p0 σ) (fun q4 => Option.bind (f_X7_isOf q4 p1) (fun q5 => (if q5 = 0 then f_X7_tie_J60 p0 p1 p2 σ else some ((-4), σ)))) else f_X7_tie_J60 p0 p1 p2 σ) else some ((-3), σ))))))))
set_option maxHeartbeats 4000000 in
set_option maxRecDepth 100000 in
theorem c_X7_tie (l : Launch) (D : va_G) (A : Nat → Prop) (a : Nat → Nat) (x : ClassId × ClassId × ClassId) (σ : ZS) (p0 : Int32) (p1 : Int32) (p2 : Int32) (r : (Int32 × ZS)) (h : f_X7_tie p0 p1 p2 σ = some r) : zM l yX7_tie w_yX7_tie ({ frames := 2, cells := 0, slots := 0, locals := 46 } : Room) D A (tyz x) [.ref (a 0), .int p0, .int p1, .int p2] (wM a x σ) (some (.int r.1)) (wM a x r.2) := by
  refine z_start [.ref (a 0), .int p0, .int p1, .int p2] (lv := [(0, .ref (a 0)), (1, .int p0), (2, .int p1), (3, .int p2)]) (by decide) (Nat.le_of_ble_eq_true rfl) rfl ?_
  intro p e s m args below meth c C hr hlk
  have J79 : ∀ (s0_79 : Int32) (s1_79 : Int32) (σ_79 : ZS), f_X7_tie_J79 p0 p1 p2 s0_79 s1_79 σ_79 = some r → zV p l e ({ frames := 2, cells := 0, slots := 0, locals := 46 } : Room) s m args below meth c 0 0 (MQ below (zQ D A (some (.int r.1)) (wM a x r.2)) args s 0 0 A) D A 4 (wM a x σ_79) 79 [(0, .ref (a 0)), (1, .int p0), (2, .int p1), (3, .int p2)] [.int s0_79, .int s1_79, .ref (a 1)] := by
    intro s0_79 s1_79 σ_79 h
    unfold f_X7_tie_J79 at h
    refine z_iast C 1 0 gM_1 rfl uM_1 dX7_tie_79 h (fun h => ?_)
    refine z_aload_n C 0 rfl dX7_tie_80 ?_
    refine z_get C iRX7 0 gM_0 rfl 1 (by decide) fl_RX7_7 rfl dX7_tie_81 ?_
    refine z_bipush C (v := 10) dX7_tie_84 (by decide) ?_
    refine z_iload_n C 2 rfl dX7_tie_86 ?_
    refine z_imul C dX7_tie_87 ?_
    refine z_iload_n C 1 rfl dX7_tie_88 ?_
    refine z_iadd C dX7_tie_89 ?_
    refine z_iload_n C 3 rfl dX7_tie_90 ?_
    refine z_if_eq C 98 (by decide) dX7_tie_91 h (fun h => ?_) (fun h => ?_)
    · refine z_iconst C (v := 3) dX7_tie_98 (by decide) ?_
      refine z_iast C 1 0 gM_1 rfl uM_1 dX7_tie_99 h (fun h => ?_)
      refine z_iconst C (v := 1) dX7_tie_100 (by decide) ?_
      cases h
      exact z_iret C hr hlk dX7_tie_101
    · refine z_iconst C (v := 2) dX7_tie_94 (by decide) ?_
      refine z_goto C 99 (by decide) dX7_tie_95 ?_
      refine z_iast C 1 0 gM_1 rfl uM_1 dX7_tie_99 h (fun h => ?_)
      refine z_iconst C (v := 1) dX7_tie_100 (by decide) ?_
      cases h
      exact z_iret C hr hlk dX7_tie_101
  have J60 : ∀ (σ_60 : ZS), f_X7_tie_J60 p0 p1 p2 σ_60 = some r → zV p l e ({ frames := 2, cells := 0, slots := 0, locals := 46 } : Room) s m args below meth c 0 0 (MQ below (zQ D A (some (.int r.1)) (wM a x r.2)) args s 0 0 A) D A 4 (wM a x σ_60) 60 [(0, .ref (a 0)), (1, .int p0), (2, .int p1), (3, .int p2)] [] := by
    intro σ_60 h
    unfold f_X7_tie_J60 at h
    refine z_aload_n C 0 rfl dX7_tie_60 ?_
    refine z_get C iRX7 0 gM_0 rfl 1 (by decide) fl_RX7_7 rfl dX7_tie_61 ?_
    refine z_bipush C (v := 10) dX7_tie_64 (by decide) ?_
    refine z_iload_n C 1 rfl dX7_tie_66 ?_
    refine z_imul C dX7_tie_67 ?_
    refine z_iload_n C 2 rfl dX7_tie_68 ?_
    refine z_iadd C dX7_tie_69 ?_
    refine z_iload_n C 3 rfl dX7_tie_70 ?_
    refine z_if_eq C 78 (by decide) dX7_tie_71 h (fun h => ?_) (fun h => ?_)
    · refine z_iconst C (v := 1) dX7_tie_78 (by decide) ?_
      exact J79 _ _ _ h
    · refine z_iconst C (v := 2) dX7_tie_74 (by decide) ?_
      refine z_goto C 79 (by decide) dX7_tie_75 ?_
      exact J79 _ _ _ h
  unfold f_X7_tie at h
  refine z_aload_n C 0 rfl dX7_tie_0 ?_
  refine z_iload_n C 1 rfl dX7_tie_1 ?_
  obtain ⟨q1, hq1, h⟩ := bd_spec h
  refine z_callV1 C [.int p0] [] (v := (.int q1)) rfl (c_X7_isHouse l D A a x σ p0 q1 hq1) cd_yX7_isHouse in_RX7 ml_RX7_61 im_yX7_isHouse sl_yX7_isHouse gM_0 rfl hd_yX7_isHouse ⟨⟨Nat.le_of_ble_eq_true rfl, Nat.le_of_ble_eq_true rfl⟩, rfl, rfl⟩ rfl (Nat.le_of_ble_eq_true rfl) ⟨Nat.zero_le _, Nat.zero_le _⟩ dX7_tie_2 ?_
  refine z_if_eq C 16 (by decide) dX7_tie_5 h (fun h => ?_) (fun h => ?_)
  · refine z_bipush C (v := (-2)) dX7_tie_16 (by decide) ?_
    cases h
    exact z_iret C hr hlk dX7_tie_18
  · refine z_aload_n C 0 rfl dX7_tie_8 ?_
    refine z_iload_n C 2 rfl dX7_tie_9 ?_
    obtain ⟨q2, hq2, h⟩ := bd_spec h
    refine z_callV1 C [.int p1] [] (v := (.int q2)) rfl (c_X7_isHouse l D A a x σ p1 q2 hq2) cd_yX7_isHouse in_RX7 ml_RX7_61 im_yX7_isHouse sl_yX7_isHouse gM_0 rfl hd_yX7_isHouse ⟨⟨Nat.le_of_ble_eq_true rfl, Nat.le_of_ble_eq_true rfl⟩, rfl, rfl⟩ rfl (Nat.le_of_ble_eq_true rfl) ⟨Nat.zero_le _, Nat.zero_le _⟩ dX7_tie_10 ?_
    refine z_if_ne C 19 (by decide) dX7_tie_13 h (fun h => ?_) (fun h => ?_)
    · refine z_iload_n C 1 rfl dX7_tie_19 ?_
      refine z_iload_n C 2 rfl dX7_tie_20 ?_
      refine z_icmp_eq C 38 (by decide) dX7_tie_21 h (fun h => ?_) (fun h => ?_)
      · refine z_bipush C (v := (-3)) dX7_tie_38 (by decide) ?_
        cases h
        exact z_iret C hr hlk dX7_tie_40
      · refine z_aload_n C 0 rfl dX7_tie_24 ?_
        refine z_get C iRX7 0 gM_0 rfl 1 (by decide) fl_RX7_7 rfl dX7_tie_25 ?_
        refine z_bipush C (v := 10) dX7_tie_28 (by decide) ?_
        refine z_iload_n C 1 rfl dX7_tie_30 ?_
        refine z_imul C dX7_tie_31 ?_
        refine z_iload_n C 2 rfl dX7_tie_32 ?_
        refine z_iadd C dX7_tie_33 ?_
        refine z_iald C 1 0 gM_1 rfl dX7_tie_34 h (fun y3 h => ?_)
        refine z_if_eq C 41 (by decide) dX7_tie_35 h (fun h => ?_) (fun h => ?_)
        · refine z_iload_n C 3 rfl dX7_tie_41 ?_
          refine z_if_ne C 60 (by decide) dX7_tie_42 h (fun h => ?_) (fun h => ?_)
          · exact J60 _ h
          · refine z_aload_n C 0 rfl dX7_tie_45 ?_
            refine z_iload_n C 1 rfl dX7_tie_46 ?_
            obtain ⟨q4, hq4, h⟩ := bd_spec h
            refine z_callV1 C [.int p0] [] (v := (.int q4)) rfl (c_X7_above l D A a x σ p0 q4 hq4) cd_yX7_above in_RX7 ml_RX7_65 im_yX7_above sl_yX7_above gM_0 rfl hd_yX7_above ⟨⟨Nat.le_of_ble_eq_true rfl, Nat.le_of_ble_eq_true rfl⟩, rfl, rfl⟩ rfl (Nat.le_of_ble_eq_true rfl) ⟨Nat.zero_le _, Nat.zero_le _⟩ dX7_tie_47 ?_
            refine z_iload_n C 2 rfl dX7_tie_50 ?_
            obtain ⟨q5, hq5, h⟩ := bd_spec h
            refine z_callS1 C [.int q4, .int p1] [] (v := .int q5) rfl (c_X7_isOf l D A (tyz x) (wM a x σ) q4 p1 q5 hq5) cd_yX7_isOf in_RX7 ml_RX7_57 sm_yX7_isOf hd_yX7_isOf ⟨⟨Nat.le_of_ble_eq_true rfl, Nat.le_of_ble_eq_true rfl⟩, rfl, rfl⟩ rfl (Nat.le_of_ble_eq_true rfl) ⟨Nat.zero_le _, Nat.zero_le _⟩ dX7_tie_51 ?_
            refine z_if_eq C 60 (by decide) dX7_tie_54 h (fun h => ?_) (fun h => ?_)
            · exact J60 _ h
            · refine z_bipush C (v := (-4)) dX7_tie_57 (by decide) ?_
              cases h
              exact z_iret C hr hlk dX7_tie_59
        · refine z_bipush C (v := (-3)) dX7_tie_38 (by decide) ?_
          cases h
          exact z_iret C hr hlk dX7_tie_40
    · refine z_bipush C (v := (-2)) dX7_tie_16 (by decide) ?_
      cases h
      exact z_iret C hr hlk dX7_tie_18
theorem dX7_untie_0 : decode cX7_untie 0 = .ok (.aload_n 0, 1) := by decide +kernel
theorem dX7_untie_1 : decode cX7_untie 1 = .ok (.iload_n 1, 1) := by decide +kernel
theorem dX7_untie_2 : decode cX7_untie 2 = .ok (.invokevirtual 61, 3) := by decide +kernel
theorem dX7_untie_5 : decode cX7_untie 5 = .ok (.ifCond .eq 11, 3) := by decide +kernel
theorem dX7_untie_8 : decode cX7_untie 8 = .ok (.aload_n 0, 1) := by decide +kernel
theorem dX7_untie_9 : decode cX7_untie 9 = .ok (.iload_n 2, 1) := by decide +kernel
theorem dX7_untie_10 : decode cX7_untie 10 = .ok (.invokevirtual 61, 3) := by decide +kernel
theorem dX7_untie_13 : decode cX7_untie 13 = .ok (.ifCond .ne 6, 3) := by decide +kernel
theorem dX7_untie_16 : decode cX7_untie 16 = .ok (.bipush (-2), 2) := by decide +kernel
theorem dX7_untie_18 : decode cX7_untie 18 = .ok (.ireturn, 1) := by decide +kernel
theorem dX7_untie_19 : decode cX7_untie 19 = .ok (.aload_n 0, 1) := by decide +kernel
theorem dX7_untie_20 : decode cX7_untie 20 = .ok (.getfield 7, 3) := by decide +kernel
theorem dX7_untie_23 : decode cX7_untie 23 = .ok (.bipush 10, 2) := by decide +kernel
theorem dX7_untie_25 : decode cX7_untie 25 = .ok (.iload_n 1, 1) := by decide +kernel
theorem dX7_untie_26 : decode cX7_untie 26 = .ok (.imul, 1) := by decide +kernel
theorem dX7_untie_27 : decode cX7_untie 27 = .ok (.iload_n 2, 1) := by decide +kernel
theorem dX7_untie_28 : decode cX7_untie 28 = .ok (.iadd, 1) := by decide +kernel
theorem dX7_untie_29 : decode cX7_untie 29 = .ok (.iaload, 1) := by decide +kernel
theorem dX7_untie_30 : decode cX7_untie 30 = .ok (.ifCond .ne 6, 3) := by decide +kernel
theorem dX7_untie_33 : decode cX7_untie 33 = .ok (.bipush (-5), 2) := by decide +kernel
theorem dX7_untie_35 : decode cX7_untie 35 = .ok (.ireturn, 1) := by decide +kernel
theorem dX7_untie_36 : decode cX7_untie 36 = .ok (.aload_n 0, 1) := by decide +kernel
theorem dX7_untie_37 : decode cX7_untie 37 = .ok (.getfield 7, 3) := by decide +kernel
theorem dX7_untie_40 : decode cX7_untie 40 = .ok (.bipush 10, 2) := by decide +kernel
theorem dX7_untie_42 : decode cX7_untie 42 = .ok (.iload_n 1, 1) := by decide +kernel
theorem dX7_untie_43 : decode cX7_untie 43 = .ok (.imul, 1) := by decide +kernel
theorem dX7_untie_44 : decode cX7_untie 44 = .ok (.iload_n 2, 1) := by decide +kernel
theorem dX7_untie_45 : decode cX7_untie 45 = .ok (.iadd, 1) := by decide +kernel
theorem dX7_untie_46 : decode cX7_untie 46 = .ok (.iconst 0, 1) := by decide +kernel
theorem dX7_untie_47 : decode cX7_untie 47 = .ok (.iastore, 1) := by decide +kernel
theorem dX7_untie_48 : decode cX7_untie 48 = .ok (.aload_n 0, 1) := by decide +kernel
theorem dX7_untie_49 : decode cX7_untie 49 = .ok (.getfield 7, 3) := by decide +kernel
theorem dX7_untie_52 : decode cX7_untie 52 = .ok (.bipush 10, 2) := by decide +kernel
theorem dX7_untie_54 : decode cX7_untie 54 = .ok (.iload_n 2, 1) := by decide +kernel
theorem dX7_untie_55 : decode cX7_untie 55 = .ok (.imul, 1) := by decide +kernel
theorem dX7_untie_56 : decode cX7_untie 56 = .ok (.iload_n 1, 1) := by decide +kernel
theorem dX7_untie_57 : decode cX7_untie 57 = .ok (.iadd, 1) := by decide +kernel
theorem dX7_untie_58 : decode cX7_untie 58 = .ok (.iconst 0, 1) := by decide +kernel
theorem dX7_untie_59 : decode cX7_untie 59 = .ok (.iastore, 1) := by decide +kernel
theorem dX7_untie_60 : decode cX7_untie 60 = .ok (.iconst 1, 1) := by decide +kernel
theorem dX7_untie_61 : decode cX7_untie 61 = .ok (.ireturn, 1) := by decide +kernel
theorem hd_yX7_untie : (yX7_untie).cls ≠ "java/lang/invoke/MethodHandle" ∧ (yX7_untie).cls ≠ "java/lang/invoke/VarHandle" ∧ (parseMethodDescriptor (yX7_untie).desc).map (fun d => d.parameters.length) = some 2 := ⟨by decide, by decide, by decide +kernel⟩
def f_X7_untie (p0 : Int32) (p1 : Int32) (σ : ZS) : Option (Int32 × ZS) :=
  Option.bind (f_X7_isHouse p0 σ) (fun q1 => (if q1 = 0 then some ((-2), σ) else Option.bind (f_X7_isHouse p1 σ) (fun q2 => (if q2 = 0 then some ((-2), σ) else ld (σ.2.1 1) 100 (((10 : Int32) * p0) + p1) (fun y3 => (if y3 = 0 then some ((-5), σ) else ck (inb (((10 : Int32) * p0) + p1) 100) (ck (inb (((10 : Int32) * p1) + p0) 100) (some (1, setA (setA σ 1 (Int32.toNatClampNeg (((10 : Int32) * p0) + p1)) 0) 1 (Int32.toNatClampNeg (((10 : Int32) * p1) + p0)) 0)))))))))
set_option maxHeartbeats 4000000 in
set_option maxRecDepth 100000 in
theorem c_X7_untie (l : Launch) (D : va_G) (A : Nat → Prop) (a : Nat → Nat) (x : ClassId × ClassId × ClassId) (σ : ZS) (p0 : Int32) (p1 : Int32) (r : (Int32 × ZS)) (h : f_X7_untie p0 p1 σ = some r) : zM l yX7_untie w_yX7_untie ({ frames := 2, cells := 0, slots := 0, locals := 43 } : Room) D A (tyz x) [.ref (a 0), .int p0, .int p1] (wM a x σ) (some (.int r.1)) (wM a x r.2) := by
  refine z_start [.ref (a 0), .int p0, .int p1] (lv := [(0, .ref (a 0)), (1, .int p0), (2, .int p1)]) (by decide) (Nat.le_of_ble_eq_true rfl) rfl ?_
  intro p e s m args below meth c C hr hlk
  unfold f_X7_untie at h
  refine z_aload_n C 0 rfl dX7_untie_0 ?_
  refine z_iload_n C 1 rfl dX7_untie_1 ?_
  obtain ⟨q1, hq1, h⟩ := bd_spec h
  refine z_callV1 C [.int p0] [] (v := (.int q1)) rfl (c_X7_isHouse l D A a x σ p0 q1 hq1) cd_yX7_isHouse in_RX7 ml_RX7_61 im_yX7_isHouse sl_yX7_isHouse gM_0 rfl hd_yX7_isHouse ⟨⟨Nat.le_of_ble_eq_true rfl, Nat.le_of_ble_eq_true rfl⟩, rfl, rfl⟩ rfl (Nat.le_of_ble_eq_true rfl) ⟨Nat.zero_le _, Nat.zero_le _⟩ dX7_untie_2 ?_
  refine z_if_eq C 16 (by decide) dX7_untie_5 h (fun h => ?_) (fun h => ?_)
  · refine z_bipush C (v := (-2)) dX7_untie_16 (by decide) ?_
    cases h
    exact z_iret C hr hlk dX7_untie_18
  · refine z_aload_n C 0 rfl dX7_untie_8 ?_
    refine z_iload_n C 2 rfl dX7_untie_9 ?_
    obtain ⟨q2, hq2, h⟩ := bd_spec h
    refine z_callV1 C [.int p1] [] (v := (.int q2)) rfl (c_X7_isHouse l D A a x σ p1 q2 hq2) cd_yX7_isHouse in_RX7 ml_RX7_61 im_yX7_isHouse sl_yX7_isHouse gM_0 rfl hd_yX7_isHouse ⟨⟨Nat.le_of_ble_eq_true rfl, Nat.le_of_ble_eq_true rfl⟩, rfl, rfl⟩ rfl (Nat.le_of_ble_eq_true rfl) ⟨Nat.zero_le _, Nat.zero_le _⟩ dX7_untie_10 ?_
    refine z_if_ne C 19 (by decide) dX7_untie_13 h (fun h => ?_) (fun h => ?_)
    · refine z_aload_n C 0 rfl dX7_untie_19 ?_
      refine z_get C iRX7 0 gM_0 rfl 1 (by decide) fl_RX7_7 rfl dX7_untie_20 ?_
      refine z_bipush C (v := 10) dX7_untie_23 (by decide) ?_
      refine z_iload_n C 1 rfl dX7_untie_25 ?_
      refine z_imul C dX7_untie_26 ?_
      refine z_iload_n C 2 rfl dX7_untie_27 ?_
      refine z_iadd C dX7_untie_28 ?_
      refine z_iald C 1 0 gM_1 rfl dX7_untie_29 h (fun y3 h => ?_)
      refine z_if_ne C 36 (by decide) dX7_untie_30 h (fun h => ?_) (fun h => ?_)
      · refine z_aload_n C 0 rfl dX7_untie_36 ?_
        refine z_get C iRX7 0 gM_0 rfl 1 (by decide) fl_RX7_7 rfl dX7_untie_37 ?_
        refine z_bipush C (v := 10) dX7_untie_40 (by decide) ?_
        refine z_iload_n C 1 rfl dX7_untie_42 ?_
        refine z_imul C dX7_untie_43 ?_
        refine z_iload_n C 2 rfl dX7_untie_44 ?_
        refine z_iadd C dX7_untie_45 ?_
        refine z_iconst C (v := 0) dX7_untie_46 (by decide) ?_
        refine z_iast C 1 0 gM_1 rfl uM_1 dX7_untie_47 h (fun h => ?_)
        refine z_aload_n C 0 rfl dX7_untie_48 ?_
        refine z_get C iRX7 0 gM_0 rfl 1 (by decide) fl_RX7_7 rfl dX7_untie_49 ?_
        refine z_bipush C (v := 10) dX7_untie_52 (by decide) ?_
        refine z_iload_n C 2 rfl dX7_untie_54 ?_
        refine z_imul C dX7_untie_55 ?_
        refine z_iload_n C 1 rfl dX7_untie_56 ?_
        refine z_iadd C dX7_untie_57 ?_
        refine z_iconst C (v := 0) dX7_untie_58 (by decide) ?_
        refine z_iast C 1 0 gM_1 rfl uM_1 dX7_untie_59 h (fun h => ?_)
        refine z_iconst C (v := 1) dX7_untie_60 (by decide) ?_
        cases h
        exact z_iret C hr hlk dX7_untie_61
      · refine z_bipush C (v := (-5)) dX7_untie_33 (by decide) ?_
        cases h
        exact z_iret C hr hlk dX7_untie_35
    · refine z_bipush C (v := (-2)) dX7_untie_16 (by decide) ?_
      cases h
      exact z_iret C hr hlk dX7_untie_18
theorem dX7_rightOf_0 : decode cX7_rightOf 0 = .ok (.iconst 0, 1) := by decide +kernel
theorem dX7_rightOf_1 : decode cX7_rightOf 1 = .ok (.istore_n 3, 1) := by decide +kernel
theorem dX7_rightOf_2 : decode cX7_rightOf 2 = .ok (.iload_n 3, 1) := by decide +kernel
theorem dX7_rightOf_3 : decode cX7_rightOf 3 = .ok (.aload_n 0, 1) := by decide +kernel
theorem dX7_rightOf_4 : decode cX7_rightOf 4 = .ok (.getfield 69, 3) := by decide +kernel
theorem dX7_rightOf_7 : decode cX7_rightOf 7 = .ok (.if_icmp .ge 31, 3) := by decide +kernel
theorem dX7_rightOf_10 : decode cX7_rightOf 10 = .ok (.aload_n 0, 1) := by decide +kernel
theorem dX7_rightOf_11 : decode cX7_rightOf 11 = .ok (.getfield 13, 3) := by decide +kernel
theorem dX7_rightOf_14 : decode cX7_rightOf 14 = .ok (.iload_n 3, 1) := by decide +kernel
theorem dX7_rightOf_15 : decode cX7_rightOf 15 = .ok (.iaload, 1) := by decide +kernel
theorem dX7_rightOf_16 : decode cX7_rightOf 16 = .ok (.iload_n 1, 1) := by decide +kernel
theorem dX7_rightOf_17 : decode cX7_rightOf 17 = .ok (.if_icmp .ne 15, 3) := by decide +kernel
theorem dX7_rightOf_20 : decode cX7_rightOf 20 = .ok (.aload_n 0, 1) := by decide +kernel
theorem dX7_rightOf_21 : decode cX7_rightOf 21 = .ok (.getfield 16, 3) := by decide +kernel
theorem dX7_rightOf_24 : decode cX7_rightOf 24 = .ok (.iload_n 3, 1) := by decide +kernel
theorem dX7_rightOf_25 : decode cX7_rightOf 25 = .ok (.iaload, 1) := by decide +kernel
theorem dX7_rightOf_26 : decode cX7_rightOf 26 = .ok (.iload_n 2, 1) := by decide +kernel
theorem dX7_rightOf_27 : decode cX7_rightOf 27 = .ok (.if_icmp .ne 5, 3) := by decide +kernel
theorem dX7_rightOf_30 : decode cX7_rightOf 30 = .ok (.iload_n 3, 1) := by decide +kernel
theorem dX7_rightOf_31 : decode cX7_rightOf 31 = .ok (.ireturn, 1) := by decide +kernel
theorem dX7_rightOf_32 : decode cX7_rightOf 32 = .ok (.iinc 3 1, 3) := by decide +kernel
theorem dX7_rightOf_35 : decode cX7_rightOf 35 = .ok (.goto (-33), 3) := by decide +kernel
theorem dX7_rightOf_38 : decode cX7_rightOf 38 = .ok (.iconst (-1), 1) := by decide +kernel
theorem dX7_rightOf_39 : decode cX7_rightOf 39 = .ok (.ireturn, 1) := by decide +kernel
theorem hd_yX7_rightOf : (yX7_rightOf).cls ≠ "java/lang/invoke/MethodHandle" ∧ (yX7_rightOf).cls ≠ "java/lang/invoke/VarHandle" ∧ (parseMethodDescriptor (yX7_rightOf).desc).map (fun d => d.parameters.length) = some 2 := ⟨by decide, by decide, by decide +kernel⟩
def f_X7_rightOf_B2 (l1 : Int32) (l2 : Int32) (σ : ZS) (t1 : Int32) : Option (Int32 ⊕ Int32) :=
  (if (σ.1 1) ≤ t1 then wi (some (-1)) else ld (σ.2.1 2) 12 t1 (fun y1 => (if y1 = l1 then ld (σ.2.1 3) 12 t1 (fun y2 => (if y2 = l2 then wi (some t1) else some (.inl (t1 + 1)))) else some (.inl (t1 + 1)))))
def f_X7_rightOf (p0 : Int32) (p1 : Int32) (σ : ZS) : Option Int32 :=
  lp zF (f_X7_rightOf_B2 p0 p1 σ) 0
set_option maxHeartbeats 4000000 in
set_option maxRecDepth 100000 in
theorem c_X7_rightOf (l : Launch) (D : va_G) (A : Nat → Prop) (a : Nat → Nat) (x : ClassId × ClassId × ClassId) (σ : ZS) (p0 : Int32) (p1 : Int32) (r : Int32) (h : f_X7_rightOf p0 p1 σ = some r) : zM l yX7_rightOf w_yX7_rightOf ({ frames := 0, cells := 0, slots := 0, locals := 0 } : Room) D A (tyz x) [.ref (a 0), .int p0, .int p1] (wM a x σ) (some (.int r)) (wM a x σ) := by
  refine z_start [.ref (a 0), .int p0, .int p1] (lv := [(0, .ref (a 0)), (1, .int p0), (2, .int p1)]) (by decide) (Nat.le_of_ble_eq_true rfl) rfl ?_
  intro p e s m args below meth c C hr hlk
  unfold f_X7_rightOf at h
  refine z_iconst C (v := 0) dX7_rightOf_0 (by decide) ?_
  refine z_istore_n C [(3, .int 0), (0, .ref (a 0)), (1, .int p0), (2, .int p1)] rfl (by decide) rfl dX7_rightOf_1 ?_
  refine z_sub C [1, 2, 3, 0] (lv' := [(0, .ref (a 0)), (1, .int p0), (2, .int p1), (3, .int 0)]) rfl ?_
  have L2 : ∀ (n : Nat) (t1 : Int32), lp n (f_X7_rightOf_B2 p0 p1 σ) t1 = some r → zV p l e ({ frames := 0, cells := 0, slots := 0, locals := 0 } : Room) s m args below meth c 0 0 (MQ below (zQ D A (some (.int r)) (wM a x σ)) args s 0 0 A) D A 4 (wM a x σ) 2 [(0, .ref (a 0)), (1, .int p0), (2, .int p1), (3, .int t1)] [] := by
    intro n1
    induction n1 with
    | zero => exact fun _ h => (lp_zero h).elim
    | succ n1 ih1 =>
      intro t1 h
      obtain ⟨u1, h, hk1⟩ := lp_succ h
      unfold f_X7_rightOf_B2 at h
      refine z_iload_n C 3 rfl dX7_rightOf_2 ?_
      refine z_aload_n C 0 rfl dX7_rightOf_3 ?_
      refine z_get C iRX7 0 gM_0 rfl 2 (by decide) fl_RX7_69 rfl dX7_rightOf_4 ?_
      refine z_icmp_ge C 38 (by decide) dX7_rightOf_7 h (fun h => ?_) (fun h => ?_)
      · refine z_iconst C (v := (-1)) dX7_rightOf_38 (by decide) ?_
        have h := unwi h hk1
        cases h
        exact z_iret C hr hlk dX7_rightOf_39
      · refine z_aload_n C 0 rfl dX7_rightOf_10 ?_
        refine z_get C iRX7 0 gM_0 rfl 3 (by decide) fl_RX7_13 rfl dX7_rightOf_11 ?_
        refine z_iload_n C 3 rfl dX7_rightOf_14 ?_
        refine z_iald C 2 0 gM_2 rfl dX7_rightOf_15 h (fun y1 h => ?_)
        refine z_iload_n C 1 rfl dX7_rightOf_16 ?_
        refine z_icmp_ne C 32 (by decide) dX7_rightOf_17 h (fun h => ?_) (fun h => ?_)
        · refine z_iinc C (v := t1 + 1) [(3, .int (t1 + 1)), (0, .ref (a 0)), (1, .int p0), (2, .int p1)] 3 rfl rfl (by decide) rfl dX7_rightOf_32 ?_
          refine z_goto C 2 (by decide) dX7_rightOf_35 ?_
          refine z_sub C [1, 2, 3, 0] (lv' := [(0, .ref (a 0)), (1, .int p0), (2, .int p1), (3, .int (t1 + 1))]) rfl ?_
          exact ih1 _ (uninl h hk1)
        · refine z_aload_n C 0 rfl dX7_rightOf_20 ?_
          refine z_get C iRX7 0 gM_0 rfl 4 (by decide) fl_RX7_16 rfl dX7_rightOf_21 ?_
          refine z_iload_n C 3 rfl dX7_rightOf_24 ?_
          refine z_iald C 3 0 gM_3 rfl dX7_rightOf_25 h (fun y2 h => ?_)
          refine z_iload_n C 2 rfl dX7_rightOf_26 ?_
          refine z_icmp_ne C 32 (by decide) dX7_rightOf_27 h (fun h => ?_) (fun h => ?_)
          · refine z_iinc C (v := t1 + 1) [(3, .int (t1 + 1)), (0, .ref (a 0)), (1, .int p0), (2, .int p1)] 3 rfl rfl (by decide) rfl dX7_rightOf_32 ?_
            refine z_goto C 2 (by decide) dX7_rightOf_35 ?_
            refine z_sub C [1, 2, 3, 0] (lv' := [(0, .ref (a 0)), (1, .int p0), (2, .int p1), (3, .int (t1 + 1))]) rfl ?_
            exact ih1 _ (uninl h hk1)
          · refine z_iload_n C 3 rfl dX7_rightOf_30 ?_
            have h := unwi h hk1
            cases h
            exact z_iret C hr hlk dX7_rightOf_31
  exact L2 _ _ h
theorem dX7_right_0 : decode cX7_right 0 = .ok (.iload_n 1, 1) := by decide +kernel
theorem dX7_right_1 : decode cX7_right 1 = .ok (.iload_n 2, 1) := by decide +kernel
theorem dX7_right_2 : decode cX7_right 2 = .ok (.invokestatic 72, 3) := by decide +kernel
theorem dX7_right_5 : decode cX7_right 5 = .ok (.ifCond .eq 11, 3) := by decide +kernel
theorem dX7_right_8 : decode cX7_right 8 = .ok (.aload_n 0, 1) := by decide +kernel
theorem dX7_right_9 : decode cX7_right 9 = .ok (.iload_n 3, 1) := by decide +kernel
theorem dX7_right_10 : decode cX7_right 10 = .ok (.invokevirtual 61, 3) := by decide +kernel
theorem dX7_right_13 : decode cX7_right 13 = .ok (.ifCond .ne 6, 3) := by decide +kernel
theorem dX7_right_16 : decode cX7_right 16 = .ok (.bipush (-2), 2) := by decide +kernel
theorem dX7_right_18 : decode cX7_right 18 = .ok (.ireturn, 1) := by decide +kernel
theorem dX7_right_19 : decode cX7_right 19 = .ok (.aload_n 0, 1) := by decide +kernel
theorem dX7_right_20 : decode cX7_right 20 = .ok (.iload_n 1, 1) := by decide +kernel
theorem dX7_right_21 : decode cX7_right 21 = .ok (.iload_n 2, 1) := by decide +kernel
theorem dX7_right_22 : decode cX7_right 22 = .ok (.invokevirtual 75, 3) := by decide +kernel
theorem dX7_right_25 : decode cX7_right 25 = .ok (.istore 4, 2) := by decide +kernel
theorem dX7_right_27 : decode cX7_right 27 = .ok (.iload 4, 2) := by decide +kernel
theorem dX7_right_29 : decode cX7_right 29 = .ok (.iconst (-1), 1) := by decide +kernel
theorem dX7_right_30 : decode cX7_right 30 = .ok (.if_icmp .eq 17, 3) := by decide +kernel
theorem dX7_right_33 : decode cX7_right 33 = .ok (.aload_n 0, 1) := by decide +kernel
theorem dX7_right_34 : decode cX7_right 34 = .ok (.getfield 19, 3) := by decide +kernel
theorem dX7_right_37 : decode cX7_right 37 = .ok (.iload 4, 2) := by decide +kernel
theorem dX7_right_39 : decode cX7_right 39 = .ok (.iaload, 1) := by decide +kernel
theorem dX7_right_40 : decode cX7_right 40 = .ok (.iload_n 3, 1) := by decide +kernel
theorem dX7_right_41 : decode cX7_right 41 = .ok (.if_icmp .ne 6, 3) := by decide +kernel
theorem dX7_right_44 : decode cX7_right 44 = .ok (.bipush (-3), 2) := by decide +kernel
theorem dX7_right_46 : decode cX7_right 46 = .ok (.ireturn, 1) := by decide +kernel
theorem dX7_right_47 : decode cX7_right 47 = .ok (.iload 4, 2) := by decide +kernel
theorem dX7_right_49 : decode cX7_right 49 = .ok (.iconst (-1), 1) := by decide +kernel
theorem dX7_right_50 : decode cX7_right 50 = .ok (.if_icmp .ne 15, 3) := by decide +kernel
theorem dX7_right_53 : decode cX7_right 53 = .ok (.aload_n 0, 1) := by decide +kernel
theorem dX7_right_54 : decode cX7_right 54 = .ok (.getfield 69, 3) := by decide +kernel
theorem dX7_right_57 : decode cX7_right 57 = .ok (.bipush 12, 2) := by decide +kernel
theorem dX7_right_59 : decode cX7_right 59 = .ok (.if_icmp .ne 6, 3) := by decide +kernel
theorem dX7_right_62 : decode cX7_right 62 = .ok (.bipush (-6), 2) := by decide +kernel
theorem dX7_right_64 : decode cX7_right 64 = .ok (.ireturn, 1) := by decide +kernel
theorem dX7_right_65 : decode cX7_right 65 = .ok (.iload 4, 2) := by decide +kernel
theorem dX7_right_67 : decode cX7_right 67 = .ok (.iconst (-1), 1) := by decide +kernel
theorem dX7_right_68 : decode cX7_right 68 = .ok (.if_icmp .ne 7, 3) := by decide +kernel
theorem dX7_right_71 : decode cX7_right 71 = .ok (.iconst (-1), 1) := by decide +kernel
theorem dX7_right_72 : decode cX7_right 72 = .ok (.goto 10, 3) := by decide +kernel
theorem dX7_right_75 : decode cX7_right 75 = .ok (.aload_n 0, 1) := by decide +kernel
theorem dX7_right_76 : decode cX7_right 76 = .ok (.getfield 19, 3) := by decide +kernel
theorem dX7_right_79 : decode cX7_right 79 = .ok (.iload 4, 2) := by decide +kernel
theorem dX7_right_81 : decode cX7_right 81 = .ok (.iaload, 1) := by decide +kernel
theorem dX7_right_82 : decode cX7_right 82 = .ok (.istore 5, 2) := by decide +kernel
theorem dX7_right_84 : decode cX7_right 84 = .ok (.iload 4, 2) := by decide +kernel
theorem dX7_right_86 : decode cX7_right 86 = .ok (.iconst (-1), 1) := by decide +kernel
theorem dX7_right_87 : decode cX7_right 87 = .ok (.if_icmp .ne 10, 3) := by decide +kernel
theorem dX7_right_90 : decode cX7_right 90 = .ok (.aload_n 0, 1) := by decide +kernel
theorem dX7_right_91 : decode cX7_right 91 = .ok (.getfield 69, 3) := by decide +kernel
theorem dX7_right_94 : decode cX7_right 94 = .ok (.goto 5, 3) := by decide +kernel
theorem dX7_right_97 : decode cX7_right 97 = .ok (.iload 4, 2) := by decide +kernel
theorem dX7_right_99 : decode cX7_right 99 = .ok (.istore 4, 2) := by decide +kernel
theorem dX7_right_101 : decode cX7_right 101 = .ok (.aload_n 0, 1) := by decide +kernel
theorem dX7_right_102 : decode cX7_right 102 = .ok (.dup, 1) := by decide +kernel
theorem dX7_right_103 : decode cX7_right 103 = .ok (.getfield 69, 3) := by decide +kernel
theorem dX7_right_106 : decode cX7_right 106 = .ok (.iload 4, 2) := by decide +kernel
theorem dX7_right_108 : decode cX7_right 108 = .ok (.aload_n 0, 1) := by decide +kernel
theorem dX7_right_109 : decode cX7_right 109 = .ok (.getfield 69, 3) := by decide +kernel
theorem dX7_right_112 : decode cX7_right 112 = .ok (.if_icmp .ne 7, 3) := by decide +kernel
theorem dX7_right_115 : decode cX7_right 115 = .ok (.iconst 1, 1) := by decide +kernel
theorem dX7_right_116 : decode cX7_right 116 = .ok (.goto 4, 3) := by decide +kernel
theorem dX7_right_119 : decode cX7_right 119 = .ok (.iconst 0, 1) := by decide +kernel
theorem dX7_right_120 : decode cX7_right 120 = .ok (.iadd, 1) := by decide +kernel
theorem dX7_right_121 : decode cX7_right 121 = .ok (.putfield 69, 3) := by decide +kernel
theorem dX7_right_124 : decode cX7_right 124 = .ok (.aload_n 0, 1) := by decide +kernel
theorem dX7_right_125 : decode cX7_right 125 = .ok (.getfield 13, 3) := by decide +kernel
theorem dX7_right_128 : decode cX7_right 128 = .ok (.iload 4, 2) := by decide +kernel
theorem dX7_right_130 : decode cX7_right 130 = .ok (.iload_n 1, 1) := by decide +kernel
theorem dX7_right_131 : decode cX7_right 131 = .ok (.iastore, 1) := by decide +kernel
theorem dX7_right_132 : decode cX7_right 132 = .ok (.aload_n 0, 1) := by decide +kernel
theorem dX7_right_133 : decode cX7_right 133 = .ok (.getfield 16, 3) := by decide +kernel
theorem dX7_right_136 : decode cX7_right 136 = .ok (.iload 4, 2) := by decide +kernel
theorem dX7_right_138 : decode cX7_right 138 = .ok (.iload_n 2, 1) := by decide +kernel
theorem dX7_right_139 : decode cX7_right 139 = .ok (.iastore, 1) := by decide +kernel
theorem dX7_right_140 : decode cX7_right 140 = .ok (.aload_n 0, 1) := by decide +kernel
theorem dX7_right_141 : decode cX7_right 141 = .ok (.getfield 19, 3) := by decide +kernel
theorem dX7_right_144 : decode cX7_right 144 = .ok (.iload 4, 2) := by decide +kernel
theorem dX7_right_146 : decode cX7_right 146 = .ok (.iload_n 3, 1) := by decide +kernel
theorem dX7_right_147 : decode cX7_right 147 = .ok (.iastore, 1) := by decide +kernel
theorem dX7_right_148 : decode cX7_right 148 = .ok (.iload 5, 2) := by decide +kernel
theorem dX7_right_150 : decode cX7_right 150 = .ok (.ireturn, 1) := by decide +kernel
theorem hd_yX7_right : (yX7_right).cls ≠ "java/lang/invoke/MethodHandle" ∧ (yX7_right).cls ≠ "java/lang/invoke/VarHandle" ∧ (parseMethodDescriptor (yX7_right).desc).map (fun d => d.parameters.length) = some 3 := ⟨by decide, by decide, by decide +kernel⟩
def f_X7_right_J120 (l1 : Int32) (l2 : Int32) (l3 : Int32) (l4 : Int32) (l5 : Int32) (s0 : Int32) (s1 : Int32) (σ : ZS) : Option (Int32 × ZS) :=
  ck (inb l4 12) (ck (inb l4 12) (ck (inb l4 12) (some (l5, setA (setA (setA (setI σ 1 (s1 + s0)) 2 (Int32.toNatClampNeg l4) l1) 3 (Int32.toNatClampNeg l4) l2) 4 (Int32.toNatClampNeg l4) l3))))
def f_X7_right_J99 (l1 : Int32) (l2 : Int32) (l3 : Int32) (l5 : Int32) (s0 : Int32) (σ : ZS) : Option (Int32 × ZS) :=
  (if s0 = (σ.1 1) then f_X7_right_J120 l1 l2 l3 s0 l5 1 (σ.1 1) σ else f_X7_right_J120 l1 l2 l3 s0 l5 0 (σ.1 1) σ)
def f_X7_right_J82 (l1 : Int32) (l2 : Int32) (l3 : Int32) (l4 : Int32) (s0 : Int32) (σ : ZS) : Option (Int32 × ZS) :=
  (if l4 = (-1) then f_X7_right_J99 l1 l2 l3 s0 (σ.1 1) σ else f_X7_right_J99 l1 l2 l3 s0 l4 σ)
def f_X7_right_J65 (l1 : Int32) (l2 : Int32) (l3 : Int32) (l4 : Int32) (σ : ZS) : Option (Int32 × ZS) :=
  (if l4 = (-1) then f_X7_right_J82 l1 l2 l3 l4 (-1) σ else ld (σ.2.1 4) 12 l4 (fun y5 => f_X7_right_J82 l1 l2 l3 l4 y5 σ))
def f_X7_right_J47 (l1 : Int32) (l2 : Int32) (l3 : Int32) (l4 : Int32) (σ : ZS) : Option (Int32 × ZS) :=
  (if l4 = (-1) then (if (σ.1 1) = 12 then some ((-6), σ) else f_X7_right_J65 l1 l2 l3 l4 σ) else f_X7_right_J65 l1 l2 l3 l4 σ)
def f_X7_right (p0 : Int32) (p1 : Int32) (p2 : Int32) (σ : ZS) : Option (Int32 × ZS) :=
  Option.bind (f_X7_isBlock p0 p1) (fun q1 => (if q1 = 0 then some ((-2), σ) else Option.bind (f_X7_isHouse p2 σ) (fun q2 => (if q2 = 0 then some ((-2), σ) else Option.bind (f_X7_rightOf p0 p1 σ) (fun q3 => (if q3 = (-1) then f_X7_right_J47 p0 p1 p2 q3 σ else ld (σ.2.1 4) 12 q3 (fun y4 => (if y4 = p2 then some ((-3), σ) else f_X7_right_J47 p0 p1 p2 q3 σ))))))))
set_option maxHeartbeats 4000000 in
set_option maxRecDepth 100000 in
theorem c_X7_right (l : Launch) (D : va_G) (A : Nat → Prop) (a : Nat → Nat) (x : ClassId × ClassId × ClassId) (σ : ZS) (p0 : Int32) (p1 : Int32) (p2 : Int32) (r : (Int32 × ZS)) (h : f_X7_right p0 p1 p2 σ = some r) : zM l yX7_right w_yX7_right ({ frames := 2, cells := 0, slots := 0, locals := 43 } : Room) D A (tyz x) [.ref (a 0), .int p0, .int p1, .int p2] (wM a x σ) (some (.int r.1)) (wM a x r.2) := by
  refine z_start [.ref (a 0), .int p0, .int p1, .int p2] (lv := [(0, .ref (a 0)), (1, .int p0), (2, .int p1), (3, .int p2)]) (by decide) (Nat.le_of_ble_eq_true rfl) rfl ?_
  intro p e s m args below meth c C hr hlk
  have J120 : ∀ (l4_120 : Int32) (l5_120 : Int32) (s0_120 : Int32) (s1_120 : Int32) (σ_120 : ZS), f_X7_right_J120 p0 p1 p2 l4_120 l5_120 s0_120 s1_120 σ_120 = some r → zV p l e ({ frames := 2, cells := 0, slots := 0, locals := 43 } : Room) s m args below meth c 0 0 (MQ below (zQ D A (some (.int r.1)) (wM a x r.2)) args s 0 0 A) D A 6 (wM a x σ_120) 120 [(0, .ref (a 0)), (1, .int p0), (2, .int p1), (3, .int p2), (4, .int l4_120), (5, .int l5_120)] [.int s0_120, .int s1_120, .ref (a 0)] := by
    intro l4_120 l5_120 s0_120 s1_120 σ_120 h
    unfold f_X7_right_J120 at h
    refine z_iadd C dX7_right_120 ?_
    refine z_put C iRX7 tyX7 tyX7_ok nmX7 0 gM_0 rfl 2 (by decide) fl_RX7_69 rfl (ty := .int) (by decide +kernel) ⟨rfl, rfl⟩ (Nat.le_of_ble_eq_true rfl) pM_0_2 dX7_right_121 ?_
    refine z_aload_n C 0 rfl dX7_right_124 ?_
    refine z_get C iRX7 0 gM_0 rfl 3 (by decide) fl_RX7_13 rfl dX7_right_125 ?_
    refine z_iload C 4 rfl dX7_right_128 ?_
    refine z_iload_n C 1 rfl dX7_right_130 ?_
    refine z_iast C 2 0 gM_2 rfl uM_2 dX7_right_131 h (fun h => ?_)
    refine z_aload_n C 0 rfl dX7_right_132 ?_
    refine z_get C iRX7 0 gM_0 rfl 4 (by decide) fl_RX7_16 rfl dX7_right_133 ?_
    refine z_iload C 4 rfl dX7_right_136 ?_
    refine z_iload_n C 2 rfl dX7_right_138 ?_
    refine z_iast C 3 0 gM_3 rfl uM_3 dX7_right_139 h (fun h => ?_)
    refine z_aload_n C 0 rfl dX7_right_140 ?_
    refine z_get C iRX7 0 gM_0 rfl 5 (by decide) fl_RX7_19 rfl dX7_right_141 ?_
    refine z_iload C 4 rfl dX7_right_144 ?_
    refine z_iload_n C 3 rfl dX7_right_146 ?_
    refine z_iast C 4 0 gM_4 rfl uM_4 dX7_right_147 h (fun h => ?_)
    refine z_iload C 5 rfl dX7_right_148 ?_
    cases h
    exact z_iret C hr hlk dX7_right_150
  have J99 : ∀ (l5_99 : Int32) (s0_99 : Int32) (σ_99 : ZS), f_X7_right_J99 p0 p1 p2 l5_99 s0_99 σ_99 = some r → zV p l e ({ frames := 2, cells := 0, slots := 0, locals := 43 } : Room) s m args below meth c 0 0 (MQ below (zQ D A (some (.int r.1)) (wM a x r.2)) args s 0 0 A) D A 6 (wM a x σ_99) 99 [(0, .ref (a 0)), (1, .int p0), (2, .int p1), (3, .int p2), (5, .int l5_99)] [.int s0_99] := by
    intro l5_99 s0_99 σ_99 h
    unfold f_X7_right_J99 at h
    refine z_istore C [(4, .int s0_99), (0, .ref (a 0)), (1, .int p0), (2, .int p1), (3, .int p2), (5, .int l5_99)] (by decide) rfl dX7_right_99 ?_
    refine z_aload_n C 1 rfl dX7_right_101 ?_
    refine z_dup C rfl dX7_right_102 ?_
    refine z_get C iRX7 0 gM_0 rfl 2 (by decide) fl_RX7_69 rfl dX7_right_103 ?_
    refine z_iload C 0 rfl dX7_right_106 ?_
    refine z_aload_n C 1 rfl dX7_right_108 ?_
    refine z_get C iRX7 0 gM_0 rfl 2 (by decide) fl_RX7_69 rfl dX7_right_109 ?_
    refine z_icmp_ne C 119 (by decide) dX7_right_112 h (fun h => ?_) (fun h => ?_)
    · refine z_iconst C (v := 0) dX7_right_119 (by decide) ?_
      refine z_sub C [1, 2, 3, 4, 0, 5] (lv' := [(0, .ref (a 0)), (1, .int p0), (2, .int p1), (3, .int p2), (4, .int s0_99), (5, .int l5_99)]) rfl ?_
      exact J120 _ _ _ _ _ h
    · refine z_iconst C (v := 1) dX7_right_115 (by decide) ?_
      refine z_goto C 120 (by decide) dX7_right_116 ?_
      refine z_sub C [1, 2, 3, 4, 0, 5] (lv' := [(0, .ref (a 0)), (1, .int p0), (2, .int p1), (3, .int p2), (4, .int s0_99), (5, .int l5_99)]) rfl ?_
      exact J120 _ _ _ _ _ h
  have J82 : ∀ (l4_82 : Int32) (s0_82 : Int32) (σ_82 : ZS), f_X7_right_J82 p0 p1 p2 l4_82 s0_82 σ_82 = some r → zV p l e ({ frames := 2, cells := 0, slots := 0, locals := 43 } : Room) s m args below meth c 0 0 (MQ below (zQ D A (some (.int r.1)) (wM a x r.2)) args s 0 0 A) D A 6 (wM a x σ_82) 82 [(0, .ref (a 0)), (1, .int p0), (2, .int p1), (3, .int p2), (4, .int l4_82)] [.int s0_82] := by
    intro l4_82 s0_82 σ_82 h
    unfold f_X7_right_J82 at h
    refine z_istore C [(5, .int s0_82), (0, .ref (a 0)), (1, .int p0), (2, .int p1), (3, .int p2), (4, .int l4_82)] (by decide) rfl dX7_right_82 ?_
    refine z_iload C 5 rfl dX7_right_84 ?_
    refine z_iconst C (v := (-1)) dX7_right_86 (by decide) ?_
    refine z_icmp_ne C 97 (by decide) dX7_right_87 h (fun h => ?_) (fun h => ?_)
    · refine z_iload C 5 rfl dX7_right_97 ?_
      refine z_sub C [1, 2, 3, 4, 0] (lv' := [(0, .ref (a 0)), (1, .int p0), (2, .int p1), (3, .int p2), (5, .int s0_82)]) rfl ?_
      exact J99 _ _ _ h
    · refine z_aload_n C 1 rfl dX7_right_90 ?_
      refine z_get C iRX7 0 gM_0 rfl 2 (by decide) fl_RX7_69 rfl dX7_right_91 ?_
      refine z_goto C 99 (by decide) dX7_right_94 ?_
      refine z_sub C [1, 2, 3, 4, 0] (lv' := [(0, .ref (a 0)), (1, .int p0), (2, .int p1), (3, .int p2), (5, .int s0_82)]) rfl ?_
      exact J99 _ _ _ h
  have J65 : ∀ (l4_65 : Int32) (σ_65 : ZS), f_X7_right_J65 p0 p1 p2 l4_65 σ_65 = some r → zV p l e ({ frames := 2, cells := 0, slots := 0, locals := 43 } : Room) s m args below meth c 0 0 (MQ below (zQ D A (some (.int r.1)) (wM a x r.2)) args s 0 0 A) D A 6 (wM a x σ_65) 65 [(0, .ref (a 0)), (1, .int p0), (2, .int p1), (3, .int p2), (4, .int l4_65)] [] := by
    intro l4_65 σ_65 h
    unfold f_X7_right_J65 at h
    refine z_iload C 4 rfl dX7_right_65 ?_
    refine z_iconst C (v := (-1)) dX7_right_67 (by decide) ?_
    refine z_icmp_ne C 75 (by decide) dX7_right_68 h (fun h => ?_) (fun h => ?_)
    · refine z_aload_n C 0 rfl dX7_right_75 ?_
      refine z_get C iRX7 0 gM_0 rfl 5 (by decide) fl_RX7_19 rfl dX7_right_76 ?_
      refine z_iload C 4 rfl dX7_right_79 ?_
      refine z_iald C 4 0 gM_4 rfl dX7_right_81 h (fun y1 h => ?_)
      exact J82 _ _ _ h
    · refine z_iconst C (v := (-1)) dX7_right_71 (by decide) ?_
      refine z_goto C 82 (by decide) dX7_right_72 ?_
      exact J82 _ _ _ h
  have J47 : ∀ (l4_47 : Int32) (σ_47 : ZS), f_X7_right_J47 p0 p1 p2 l4_47 σ_47 = some r → zV p l e ({ frames := 2, cells := 0, slots := 0, locals := 43 } : Room) s m args below meth c 0 0 (MQ below (zQ D A (some (.int r.1)) (wM a x r.2)) args s 0 0 A) D A 6 (wM a x σ_47) 47 [(0, .ref (a 0)), (1, .int p0), (2, .int p1), (3, .int p2), (4, .int l4_47)] [] := by
    intro l4_47 σ_47 h
    unfold f_X7_right_J47 at h
    refine z_iload C 4 rfl dX7_right_47 ?_
    refine z_iconst C (v := (-1)) dX7_right_49 (by decide) ?_
    refine z_icmp_ne C 65 (by decide) dX7_right_50 h (fun h => ?_) (fun h => ?_)
    · exact J65 _ _ h
    · refine z_aload_n C 0 rfl dX7_right_53 ?_
      refine z_get C iRX7 0 gM_0 rfl 2 (by decide) fl_RX7_69 rfl dX7_right_54 ?_
      refine z_bipush C (v := 12) dX7_right_57 (by decide) ?_
      refine z_icmp_ne C 65 (by decide) dX7_right_59 h (fun h => ?_) (fun h => ?_)
      · exact J65 _ _ h
      · refine z_bipush C (v := (-6)) dX7_right_62 (by decide) ?_
        cases h
        exact z_iret C hr hlk dX7_right_64
  unfold f_X7_right at h
  refine z_iload_n C 1 rfl dX7_right_0 ?_
  refine z_iload_n C 2 rfl dX7_right_1 ?_
  obtain ⟨q2, hq2, h⟩ := bd_spec h
  refine z_callS1 C [.int p0, .int p1] [] (v := .int q2) rfl (c_X7_isBlock l D A (tyz x) (wM a x σ) p0 p1 q2 hq2) cd_yX7_isBlock in_RX7 ml_RX7_72 sm_yX7_isBlock hd_yX7_isBlock ⟨⟨Nat.le_of_ble_eq_true rfl, Nat.le_of_ble_eq_true rfl⟩, rfl, rfl⟩ rfl (Nat.le_of_ble_eq_true rfl) ⟨Nat.zero_le _, Nat.zero_le _⟩ dX7_right_2 ?_
  refine z_if_eq C 16 (by decide) dX7_right_5 h (fun h => ?_) (fun h => ?_)
  · refine z_bipush C (v := (-2)) dX7_right_16 (by decide) ?_
    cases h
    exact z_iret C hr hlk dX7_right_18
  · refine z_aload_n C 0 rfl dX7_right_8 ?_
    refine z_iload_n C 3 rfl dX7_right_9 ?_
    obtain ⟨q3, hq3, h⟩ := bd_spec h
    refine z_callV1 C [.int p2] [] (v := (.int q3)) rfl (c_X7_isHouse l D A a x σ p2 q3 hq3) cd_yX7_isHouse in_RX7 ml_RX7_61 im_yX7_isHouse sl_yX7_isHouse gM_0 rfl hd_yX7_isHouse ⟨⟨Nat.le_of_ble_eq_true rfl, Nat.le_of_ble_eq_true rfl⟩, rfl, rfl⟩ rfl (Nat.le_of_ble_eq_true rfl) ⟨Nat.zero_le _, Nat.zero_le _⟩ dX7_right_10 ?_
    refine z_if_ne C 19 (by decide) dX7_right_13 h (fun h => ?_) (fun h => ?_)
    · refine z_aload_n C 0 rfl dX7_right_19 ?_
      refine z_iload_n C 1 rfl dX7_right_20 ?_
      refine z_iload_n C 2 rfl dX7_right_21 ?_
      obtain ⟨q4, hq4, h⟩ := bd_spec h
      refine z_callV1 C [.int p0, .int p1] [] (v := (.int q4)) rfl (c_X7_rightOf l D A a x σ p0 p1 q4 hq4) cd_yX7_rightOf in_RX7 ml_RX7_75 im_yX7_rightOf sl_yX7_rightOf gM_0 rfl hd_yX7_rightOf ⟨⟨Nat.le_of_ble_eq_true rfl, Nat.le_of_ble_eq_true rfl⟩, rfl, rfl⟩ rfl (Nat.le_of_ble_eq_true rfl) ⟨Nat.zero_le _, Nat.zero_le _⟩ dX7_right_22 ?_
      refine z_istore C [(4, .int q4), (0, .ref (a 0)), (1, .int p0), (2, .int p1), (3, .int p2)] (by decide) rfl dX7_right_25 ?_
      refine z_iload C 0 rfl dX7_right_27 ?_
      refine z_iconst C (v := (-1)) dX7_right_29 (by decide) ?_
      refine z_icmp_eq C 47 (by decide) dX7_right_30 h (fun h => ?_) (fun h => ?_)
      · refine z_sub C [1, 2, 3, 4, 0] (lv' := [(0, .ref (a 0)), (1, .int p0), (2, .int p1), (3, .int p2), (4, .int q4)]) rfl ?_
        exact J47 _ _ h
      · refine z_aload_n C 1 rfl dX7_right_33 ?_
        refine z_get C iRX7 0 gM_0 rfl 5 (by decide) fl_RX7_19 rfl dX7_right_34 ?_
        refine z_iload C 0 rfl dX7_right_37 ?_
        refine z_iald C 4 0 gM_4 rfl dX7_right_39 h (fun y5 h => ?_)
        refine z_iload_n C 4 rfl dX7_right_40 ?_
        refine z_icmp_ne C 47 (by decide) dX7_right_41 h (fun h => ?_) (fun h => ?_)
        · refine z_sub C [1, 2, 3, 4, 0] (lv' := [(0, .ref (a 0)), (1, .int p0), (2, .int p1), (3, .int p2), (4, .int q4)]) rfl ?_
          exact J47 _ _ h
        · refine z_bipush C (v := (-3)) dX7_right_44 (by decide) ?_
          cases h
          exact z_iret C hr hlk dX7_right_46
    · refine z_bipush C (v := (-2)) dX7_right_16 (by decide) ?_
      cases h
      exact z_iret C hr hlk dX7_right_18
theorem dX7_free_0 : decode cX7_free 0 = .ok (.iload_n 1, 1) := by decide +kernel
theorem dX7_free_1 : decode cX7_free 1 = .ok (.iload_n 2, 1) := by decide +kernel
theorem dX7_free_2 : decode cX7_free 2 = .ok (.invokestatic 72, 3) := by decide +kernel
theorem dX7_free_5 : decode cX7_free 5 = .ok (.ifCond .ne 6, 3) := by decide +kernel
theorem dX7_free_8 : decode cX7_free 8 = .ok (.bipush (-2), 2) := by decide +kernel
theorem dX7_free_10 : decode cX7_free 10 = .ok (.ireturn, 1) := by decide +kernel
theorem dX7_free_11 : decode cX7_free 11 = .ok (.aload_n 0, 1) := by decide +kernel
theorem dX7_free_12 : decode cX7_free 12 = .ok (.iload_n 1, 1) := by decide +kernel
theorem dX7_free_13 : decode cX7_free 13 = .ok (.iload_n 2, 1) := by decide +kernel
theorem dX7_free_14 : decode cX7_free 14 = .ok (.invokevirtual 75, 3) := by decide +kernel
theorem dX7_free_17 : decode cX7_free 17 = .ok (.istore_n 3, 1) := by decide +kernel
theorem dX7_free_18 : decode cX7_free 18 = .ok (.iload_n 3, 1) := by decide +kernel
theorem dX7_free_19 : decode cX7_free 19 = .ok (.iconst (-1), 1) := by decide +kernel
theorem dX7_free_20 : decode cX7_free 20 = .ok (.if_icmp .ne 6, 3) := by decide +kernel
theorem dX7_free_23 : decode cX7_free 23 = .ok (.bipush (-5), 2) := by decide +kernel
theorem dX7_free_25 : decode cX7_free 25 = .ok (.ireturn, 1) := by decide +kernel
theorem dX7_free_26 : decode cX7_free 26 = .ok (.aload_n 0, 1) := by decide +kernel
theorem dX7_free_27 : decode cX7_free 27 = .ok (.getfield 19, 3) := by decide +kernel
theorem dX7_free_30 : decode cX7_free 30 = .ok (.iload_n 3, 1) := by decide +kernel
theorem dX7_free_31 : decode cX7_free 31 = .ok (.iaload, 1) := by decide +kernel
theorem dX7_free_32 : decode cX7_free 32 = .ok (.istore 4, 2) := by decide +kernel
theorem dX7_free_34 : decode cX7_free 34 = .ok (.aload_n 0, 1) := by decide +kernel
theorem dX7_free_35 : decode cX7_free 35 = .ok (.dup, 1) := by decide +kernel
theorem dX7_free_36 : decode cX7_free 36 = .ok (.getfield 69, 3) := by decide +kernel
theorem dX7_free_39 : decode cX7_free 39 = .ok (.iconst 1, 1) := by decide +kernel
theorem dX7_free_40 : decode cX7_free 40 = .ok (.isub, 1) := by decide +kernel
theorem dX7_free_41 : decode cX7_free 41 = .ok (.putfield 69, 3) := by decide +kernel
theorem dX7_free_44 : decode cX7_free 44 = .ok (.aload_n 0, 1) := by decide +kernel
theorem dX7_free_45 : decode cX7_free 45 = .ok (.getfield 13, 3) := by decide +kernel
theorem dX7_free_48 : decode cX7_free 48 = .ok (.iload_n 3, 1) := by decide +kernel
theorem dX7_free_49 : decode cX7_free 49 = .ok (.aload_n 0, 1) := by decide +kernel
theorem dX7_free_50 : decode cX7_free 50 = .ok (.getfield 13, 3) := by decide +kernel
theorem dX7_free_53 : decode cX7_free 53 = .ok (.aload_n 0, 1) := by decide +kernel
theorem dX7_free_54 : decode cX7_free 54 = .ok (.getfield 69, 3) := by decide +kernel
theorem dX7_free_57 : decode cX7_free 57 = .ok (.iaload, 1) := by decide +kernel
theorem dX7_free_58 : decode cX7_free 58 = .ok (.iastore, 1) := by decide +kernel
theorem dX7_free_59 : decode cX7_free 59 = .ok (.aload_n 0, 1) := by decide +kernel
theorem dX7_free_60 : decode cX7_free 60 = .ok (.getfield 16, 3) := by decide +kernel
theorem dX7_free_63 : decode cX7_free 63 = .ok (.iload_n 3, 1) := by decide +kernel
theorem dX7_free_64 : decode cX7_free 64 = .ok (.aload_n 0, 1) := by decide +kernel
theorem dX7_free_65 : decode cX7_free 65 = .ok (.getfield 16, 3) := by decide +kernel
theorem dX7_free_68 : decode cX7_free 68 = .ok (.aload_n 0, 1) := by decide +kernel
theorem dX7_free_69 : decode cX7_free 69 = .ok (.getfield 69, 3) := by decide +kernel
theorem dX7_free_72 : decode cX7_free 72 = .ok (.iaload, 1) := by decide +kernel
theorem dX7_free_73 : decode cX7_free 73 = .ok (.iastore, 1) := by decide +kernel
theorem dX7_free_74 : decode cX7_free 74 = .ok (.aload_n 0, 1) := by decide +kernel
theorem dX7_free_75 : decode cX7_free 75 = .ok (.getfield 19, 3) := by decide +kernel
theorem dX7_free_78 : decode cX7_free 78 = .ok (.iload_n 3, 1) := by decide +kernel
theorem dX7_free_79 : decode cX7_free 79 = .ok (.aload_n 0, 1) := by decide +kernel
theorem dX7_free_80 : decode cX7_free 80 = .ok (.getfield 19, 3) := by decide +kernel
theorem dX7_free_83 : decode cX7_free 83 = .ok (.aload_n 0, 1) := by decide +kernel
theorem dX7_free_84 : decode cX7_free 84 = .ok (.getfield 69, 3) := by decide +kernel
theorem dX7_free_87 : decode cX7_free 87 = .ok (.iaload, 1) := by decide +kernel
theorem dX7_free_88 : decode cX7_free 88 = .ok (.iastore, 1) := by decide +kernel
theorem dX7_free_89 : decode cX7_free 89 = .ok (.iload 4, 2) := by decide +kernel
theorem dX7_free_91 : decode cX7_free 91 = .ok (.ireturn, 1) := by decide +kernel
theorem hd_yX7_free : (yX7_free).cls ≠ "java/lang/invoke/MethodHandle" ∧ (yX7_free).cls ≠ "java/lang/invoke/VarHandle" ∧ (parseMethodDescriptor (yX7_free).desc).map (fun d => d.parameters.length) = some 2 := ⟨by decide, by decide, by decide +kernel⟩
def f_X7_free (p0 : Int32) (p1 : Int32) (σ : ZS) : Option (Int32 × ZS) :=
  Option.bind (f_X7_isBlock p0 p1) (fun q1 => (if q1 = 0 then some ((-2), σ) else Option.bind (f_X7_rightOf p0 p1 σ) (fun q2 => (if q2 = (-1) then some ((-5), σ) else ld (σ.2.1 4) 12 q2 (fun y3 => ld ((setI σ 1 ((σ.1 1) - 1)).2.1 2) 12 ((setI σ 1 ((σ.1 1) - 1)).1 1) (fun y4 => ck (inb q2 12) (ld ((setA (setI σ 1 ((σ.1 1) - 1)) 2 (Int32.toNatClampNeg q2) y4).2.1 3) 12 ((setA (setI σ 1 ((σ.1 1) - 1)) 2 (Int32.toNatClampNeg q2) y4).1 1) (fun y5 => ck (inb q2 12) (ld ((setA (setA (setI σ 1 ((σ.1 1) - 1)) 2 (Int32.toNatClampNeg q2) y4) 3 (Int32.toNatClampNeg q2) y5).2.1 4) 12 ((setA (setA (setI σ 1 ((σ.1 1) - 1)) 2 (Int32.toNatClampNeg q2) y4) 3 (Int32.toNatClampNeg q2) y5).1 1) (fun y6 => ck (inb q2 12) (some (y3, setA (setA (setA (setI σ 1 ((σ.1 1) - 1)) 2 (Int32.toNatClampNeg q2) y4) 3 (Int32.toNatClampNeg q2) y5) 4 (Int32.toNatClampNeg q2) y6))))))))))))
set_option maxHeartbeats 4000000 in
set_option maxRecDepth 100000 in
theorem c_X7_free (l : Launch) (D : va_G) (A : Nat → Prop) (a : Nat → Nat) (x : ClassId × ClassId × ClassId) (σ : ZS) (p0 : Int32) (p1 : Int32) (r : (Int32 × ZS)) (h : f_X7_free p0 p1 σ = some r) : zM l yX7_free w_yX7_free ({ frames := 2, cells := 0, slots := 0, locals := 43 } : Room) D A (tyz x) [.ref (a 0), .int p0, .int p1] (wM a x σ) (some (.int r.1)) (wM a x r.2) := by
  refine z_start [.ref (a 0), .int p0, .int p1] (lv := [(0, .ref (a 0)), (1, .int p0), (2, .int p1)]) (by decide) (Nat.le_of_ble_eq_true rfl) rfl ?_
  intro p e s m args below meth c C hr hlk
  unfold f_X7_free at h
  refine z_iload_n C 1 rfl dX7_free_0 ?_
  refine z_iload_n C 2 rfl dX7_free_1 ?_
  obtain ⟨q1, hq1, h⟩ := bd_spec h
  refine z_callS1 C [.int p0, .int p1] [] (v := .int q1) rfl (c_X7_isBlock l D A (tyz x) (wM a x σ) p0 p1 q1 hq1) cd_yX7_isBlock in_RX7 ml_RX7_72 sm_yX7_isBlock hd_yX7_isBlock ⟨⟨Nat.le_of_ble_eq_true rfl, Nat.le_of_ble_eq_true rfl⟩, rfl, rfl⟩ rfl (Nat.le_of_ble_eq_true rfl) ⟨Nat.zero_le _, Nat.zero_le _⟩ dX7_free_2 ?_
  refine z_if_ne C 11 (by decide) dX7_free_5 h (fun h => ?_) (fun h => ?_)
  · refine z_aload_n C 0 rfl dX7_free_11 ?_
    refine z_iload_n C 1 rfl dX7_free_12 ?_
    refine z_iload_n C 2 rfl dX7_free_13 ?_
    obtain ⟨q2, hq2, h⟩ := bd_spec h
    refine z_callV1 C [.int p0, .int p1] [] (v := (.int q2)) rfl (c_X7_rightOf l D A a x σ p0 p1 q2 hq2) cd_yX7_rightOf in_RX7 ml_RX7_75 im_yX7_rightOf sl_yX7_rightOf gM_0 rfl hd_yX7_rightOf ⟨⟨Nat.le_of_ble_eq_true rfl, Nat.le_of_ble_eq_true rfl⟩, rfl, rfl⟩ rfl (Nat.le_of_ble_eq_true rfl) ⟨Nat.zero_le _, Nat.zero_le _⟩ dX7_free_14 ?_
    refine z_istore_n C [(3, .int q2), (0, .ref (a 0)), (1, .int p0), (2, .int p1)] rfl (by decide) rfl dX7_free_17 ?_
    refine z_iload_n C 0 rfl dX7_free_18 ?_
    refine z_iconst C (v := (-1)) dX7_free_19 (by decide) ?_
    refine z_icmp_ne C 26 (by decide) dX7_free_20 h (fun h => ?_) (fun h => ?_)
    · refine z_aload_n C 1 rfl dX7_free_26 ?_
      refine z_get C iRX7 0 gM_0 rfl 5 (by decide) fl_RX7_19 rfl dX7_free_27 ?_
      refine z_iload_n C 0 rfl dX7_free_30 ?_
      refine z_iald C 4 0 gM_4 rfl dX7_free_31 h (fun y3 h => ?_)
      refine z_istore C [(4, .int y3), (3, .int q2), (0, .ref (a 0)), (1, .int p0), (2, .int p1)] (by decide) rfl dX7_free_32 ?_
      refine z_aload_n C 2 rfl dX7_free_34 ?_
      refine z_dup C rfl dX7_free_35 ?_
      refine z_get C iRX7 0 gM_0 rfl 2 (by decide) fl_RX7_69 rfl dX7_free_36 ?_
      refine z_iconst C (v := 1) dX7_free_39 (by decide) ?_
      refine z_isub C dX7_free_40 ?_
      refine z_put C iRX7 tyX7 tyX7_ok nmX7 0 gM_0 rfl 2 (by decide) fl_RX7_69 rfl (ty := .int) (by decide +kernel) ⟨rfl, rfl⟩ (Nat.le_of_ble_eq_true rfl) pM_0_2 dX7_free_41 ?_
      refine z_aload_n C 2 rfl dX7_free_44 ?_
      refine z_get C iRX7 0 gM_0 rfl 3 (by decide) fl_RX7_13 rfl dX7_free_45 ?_
      refine z_iload_n C 1 rfl dX7_free_48 ?_
      refine z_aload_n C 2 rfl dX7_free_49 ?_
      refine z_get C iRX7 0 gM_0 rfl 3 (by decide) fl_RX7_13 rfl dX7_free_50 ?_
      refine z_aload_n C 2 rfl dX7_free_53 ?_
      refine z_get C iRX7 0 gM_0 rfl 2 (by decide) fl_RX7_69 rfl dX7_free_54 ?_
      refine z_iald C 2 0 gM_2 rfl dX7_free_57 h (fun y4 h => ?_)
      refine z_iast C 2 0 gM_2 rfl uM_2 dX7_free_58 h (fun h => ?_)
      refine z_aload_n C 2 rfl dX7_free_59 ?_
      refine z_get C iRX7 0 gM_0 rfl 4 (by decide) fl_RX7_16 rfl dX7_free_60 ?_
      refine z_iload_n C 1 rfl dX7_free_63 ?_
      refine z_aload_n C 2 rfl dX7_free_64 ?_
      refine z_get C iRX7 0 gM_0 rfl 4 (by decide) fl_RX7_16 rfl dX7_free_65 ?_
      refine z_aload_n C 2 rfl dX7_free_68 ?_
      refine z_get C iRX7 0 gM_0 rfl 2 (by decide) fl_RX7_69 rfl dX7_free_69 ?_
      refine z_iald C 3 0 gM_3 rfl dX7_free_72 h (fun y5 h => ?_)
      refine z_iast C 3 0 gM_3 rfl uM_3 dX7_free_73 h (fun h => ?_)
      refine z_aload_n C 2 rfl dX7_free_74 ?_
      refine z_get C iRX7 0 gM_0 rfl 5 (by decide) fl_RX7_19 rfl dX7_free_75 ?_
      refine z_iload_n C 1 rfl dX7_free_78 ?_
      refine z_aload_n C 2 rfl dX7_free_79 ?_
      refine z_get C iRX7 0 gM_0 rfl 5 (by decide) fl_RX7_19 rfl dX7_free_80 ?_
      refine z_aload_n C 2 rfl dX7_free_83 ?_
      refine z_get C iRX7 0 gM_0 rfl 2 (by decide) fl_RX7_69 rfl dX7_free_84 ?_
      refine z_iald C 4 0 gM_4 rfl dX7_free_87 h (fun y6 h => ?_)
      refine z_iast C 4 0 gM_4 rfl uM_4 dX7_free_88 h (fun h => ?_)
      refine z_iload C 0 rfl dX7_free_89 ?_
      cases h
      exact z_iret C hr hlk dX7_free_91
    · refine z_bipush C (v := (-5)) dX7_free_23 (by decide) ?_
      cases h
      exact z_iret C hr hlk dX7_free_25
  · refine z_bipush C (v := (-2)) dX7_free_8 (by decide) ?_
    cases h
    exact z_iret C hr hlk dX7_free_10
theorem dX7_rightfulFor_0 : decode cX7_rightfulFor 0 = .ok (.iload_n 1, 1) := by decide +kernel
theorem dX7_rightfulFor_1 : decode cX7_rightfulFor 1 = .ok (.istore_n 3, 1) := by decide +kernel
theorem dX7_rightfulFor_2 : decode cX7_rightfulFor 2 = .ok (.iload_n 3, 1) := by decide +kernel
theorem dX7_rightfulFor_3 : decode cX7_rightfulFor 3 = .ok (.ifCond .lt 45, 3) := by decide +kernel
theorem dX7_rightfulFor_6 : decode cX7_rightfulFor 6 = .ok (.iconst 1, 1) := by decide +kernel
theorem dX7_rightfulFor_7 : decode cX7_rightfulFor 7 = .ok (.bipush 6, 2) := by decide +kernel
theorem dX7_rightfulFor_9 : decode cX7_rightfulFor 9 = .ok (.iload_n 3, 1) := by decide +kernel
theorem dX7_rightfulFor_10 : decode cX7_rightfulFor 10 = .ok (.isub, 1) := by decide +kernel
theorem dX7_rightfulFor_11 : decode cX7_rightfulFor 11 = .ok (.ishl, 1) := by decide +kernel
theorem dX7_rightfulFor_12 : decode cX7_rightfulFor 12 = .ok (.istore 4, 2) := by decide +kernel
theorem dX7_rightfulFor_14 : decode cX7_rightfulFor 14 = .ok (.aload_n 0, 1) := by decide +kernel
theorem dX7_rightfulFor_15 : decode cX7_rightfulFor 15 = .ok (.iload_n 3, 1) := by decide +kernel
theorem dX7_rightfulFor_16 : decode cX7_rightfulFor 16 = .ok (.iload_n 2, 1) := by decide +kernel
theorem dX7_rightfulFor_17 : decode cX7_rightfulFor 17 = .ok (.iload 4, 2) := by decide +kernel
theorem dX7_rightfulFor_19 : decode cX7_rightfulFor 19 = .ok (.idiv, 1) := by decide +kernel
theorem dX7_rightfulFor_20 : decode cX7_rightfulFor 20 = .ok (.iload 4, 2) := by decide +kernel
theorem dX7_rightfulFor_22 : decode cX7_rightfulFor 22 = .ok (.imul, 1) := by decide +kernel
theorem dX7_rightfulFor_23 : decode cX7_rightfulFor 23 = .ok (.invokevirtual 75, 3) := by decide +kernel
theorem dX7_rightfulFor_26 : decode cX7_rightfulFor 26 = .ok (.istore 5, 2) := by decide +kernel
theorem dX7_rightfulFor_28 : decode cX7_rightfulFor 28 = .ok (.iload 5, 2) := by decide +kernel
theorem dX7_rightfulFor_30 : decode cX7_rightfulFor 30 = .ok (.iconst (-1), 1) := by decide +kernel
theorem dX7_rightfulFor_31 : decode cX7_rightfulFor 31 = .ok (.if_icmp .eq 11, 3) := by decide +kernel
theorem dX7_rightfulFor_34 : decode cX7_rightfulFor 34 = .ok (.aload_n 0, 1) := by decide +kernel
theorem dX7_rightfulFor_35 : decode cX7_rightfulFor 35 = .ok (.getfield 19, 3) := by decide +kernel
theorem dX7_rightfulFor_38 : decode cX7_rightfulFor 38 = .ok (.iload 5, 2) := by decide +kernel
theorem dX7_rightfulFor_40 : decode cX7_rightfulFor 40 = .ok (.iaload, 1) := by decide +kernel
theorem dX7_rightfulFor_41 : decode cX7_rightfulFor 41 = .ok (.ireturn, 1) := by decide +kernel
theorem dX7_rightfulFor_42 : decode cX7_rightfulFor 42 = .ok (.iinc 3 (-1), 3) := by decide +kernel
theorem dX7_rightfulFor_45 : decode cX7_rightfulFor 45 = .ok (.goto (-43), 3) := by decide +kernel
theorem dX7_rightfulFor_48 : decode cX7_rightfulFor 48 = .ok (.iconst (-1), 1) := by decide +kernel
theorem dX7_rightfulFor_49 : decode cX7_rightfulFor 49 = .ok (.ireturn, 1) := by decide +kernel
theorem hd_yX7_rightfulFor : (yX7_rightfulFor).cls ≠ "java/lang/invoke/MethodHandle" ∧ (yX7_rightfulFor).cls ≠ "java/lang/invoke/VarHandle" ∧ (parseMethodDescriptor (yX7_rightfulFor).desc).map (fun d => d.parameters.length) = some 2 := ⟨by decide, by decide, by decide +kernel⟩
def f_X7_rightfulFor_B2 (l2 : Int32) (σ : ZS) (t1 : Int32) : Option (Int32 ⊕ Int32) :=
  (if t1 < 0 then wi (some (-1)) else ck (decide (¬ ((1 : Int32) <<< (((6 : Int32) - t1) &&& 31)) = 0)) (Option.bind (f_X7_rightOf t1 ((l2 / ((1 : Int32) <<< (((6 : Int32) - t1) &&& 31))) * ((1 : Int32) <<< (((6 : Int32) - t1) &&& 31))) σ) (fun q1 => (if q1 = (-1) then some (.inl (t1 + (-1))) else ld (σ.2.1 4) 12 q1 (fun y2 => wi (some y2))))))
def f_X7_rightfulFor (p0 : Int32) (p1 : Int32) (σ : ZS) : Option Int32 :=
  lp zF (f_X7_rightfulFor_B2 p1 σ) p0
set_option maxHeartbeats 4000000 in
set_option maxRecDepth 100000 in
theorem c_X7_rightfulFor (l : Launch) (D : va_G) (A : Nat → Prop) (a : Nat → Nat) (x : ClassId × ClassId × ClassId) (σ : ZS) (p0 : Int32) (p1 : Int32) (r : Int32) (h : f_X7_rightfulFor p0 p1 σ = some r) : zM l yX7_rightfulFor w_yX7_rightfulFor ({ frames := 1, cells := 0, slots := 0, locals := 23 } : Room) D A (tyz x) [.ref (a 0), .int p0, .int p1] (wM a x σ) (some (.int r)) (wM a x σ) := by
  refine z_start [.ref (a 0), .int p0, .int p1] (lv := [(0, .ref (a 0)), (1, .int p0), (2, .int p1)]) (by decide) (Nat.le_of_ble_eq_true rfl) rfl ?_
  intro p e s m args below meth c C hr hlk
  unfold f_X7_rightfulFor at h
  refine z_iload_n C 1 rfl dX7_rightfulFor_0 ?_
  refine z_istore_n C [(3, .int p0), (0, .ref (a 0)), (1, .int p0), (2, .int p1)] rfl (by decide) rfl dX7_rightfulFor_1 ?_
  refine z_sub C [1, 3, 0] (lv' := [(0, .ref (a 0)), (2, .int p1), (3, .int p0)]) rfl ?_
  have L2 : ∀ (n : Nat) (t1 : Int32), lp n (f_X7_rightfulFor_B2 p1 σ) t1 = some r → zV p l e ({ frames := 1, cells := 0, slots := 0, locals := 23 } : Room) s m args below meth c 0 0 (MQ below (zQ D A (some (.int r)) (wM a x σ)) args s 0 0 A) D A 6 (wM a x σ) 2 [(0, .ref (a 0)), (2, .int p1), (3, .int t1)] [] := by
    intro n1
    induction n1 with
    | zero => exact fun _ h => (lp_zero h).elim
    | succ n1 ih1 =>
      intro t1 h
      obtain ⟨u1, h, hk1⟩ := lp_succ h
      unfold f_X7_rightfulFor_B2 at h
      refine z_iload_n C 2 rfl dX7_rightfulFor_2 ?_
      refine z_if_lt C 48 (by decide) dX7_rightfulFor_3 h (fun h => ?_) (fun h => ?_)
      · refine z_iconst C (v := (-1)) dX7_rightfulFor_48 (by decide) ?_
        have h := unwi h hk1
        cases h
        exact z_iret C hr hlk dX7_rightfulFor_49
      · refine z_iconst C (v := 1) dX7_rightfulFor_6 (by decide) ?_
        refine z_bipush C (v := 6) dX7_rightfulFor_7 (by decide) ?_
        refine z_iload_n C 2 rfl dX7_rightfulFor_9 ?_
        refine z_isub C dX7_rightfulFor_10 ?_
        refine z_ishl C dX7_rightfulFor_11 ?_
        refine z_istore C [(4, .int ((1 : Int32) <<< (((6 : Int32) - t1) &&& 31))), (0, .ref (a 0)), (2, .int p1), (3, .int t1)] (by decide) rfl dX7_rightfulFor_12 ?_
        refine z_aload_n C 1 rfl dX7_rightfulFor_14 ?_
        refine z_iload_n C 3 rfl dX7_rightfulFor_15 ?_
        refine z_iload_n C 2 rfl dX7_rightfulFor_16 ?_
        refine z_iload C 0 rfl dX7_rightfulFor_17 ?_
        refine z_idiv C dX7_rightfulFor_19 h (fun h => ?_)
        refine z_iload C 0 rfl dX7_rightfulFor_20 ?_
        refine z_imul C dX7_rightfulFor_22 ?_
        obtain ⟨q1, hq1, h⟩ := bd_spec h
        refine z_callV1 C [.int t1, .int ((p1 / ((1 : Int32) <<< (((6 : Int32) - t1) &&& 31))) * ((1 : Int32) <<< (((6 : Int32) - t1) &&& 31)))] [] (v := (.int q1)) rfl (c_X7_rightOf l D A a x σ t1 ((p1 / ((1 : Int32) <<< (((6 : Int32) - t1) &&& 31))) * ((1 : Int32) <<< (((6 : Int32) - t1) &&& 31))) q1 hq1) cd_yX7_rightOf in_RX7 ml_RX7_75 im_yX7_rightOf sl_yX7_rightOf gM_0 rfl hd_yX7_rightOf ⟨⟨Nat.le_of_ble_eq_true rfl, Nat.le_of_ble_eq_true rfl⟩, rfl, rfl⟩ rfl (Nat.le_of_ble_eq_true rfl) ⟨Nat.zero_le _, Nat.zero_le _⟩ dX7_rightfulFor_23 ?_
        refine z_istore C [(5, .int q1), (4, .int ((1 : Int32) <<< (((6 : Int32) - t1) &&& 31))), (0, .ref (a 0)), (2, .int p1), (3, .int t1)] (by decide) rfl dX7_rightfulFor_26 ?_
        refine z_iload C 0 rfl dX7_rightfulFor_28 ?_
        refine z_iconst C (v := (-1)) dX7_rightfulFor_30 (by decide) ?_
        refine z_icmp_eq C 42 (by decide) dX7_rightfulFor_31 h (fun h => ?_) (fun h => ?_)
        · refine z_iinc C (v := t1 + (-1)) [(3, .int (t1 + (-1))), (5, .int q1), (4, .int ((1 : Int32) <<< (((6 : Int32) - t1) &&& 31))), (0, .ref (a 0)), (2, .int p1)] 4 rfl (congrArg (HAdd.hAdd t1) (by decide)) (by decide) rfl dX7_rightfulFor_42 ?_
          refine z_goto C 2 (by decide) dX7_rightfulFor_45 ?_
          refine z_sub C [3, 4, 0] (lv' := [(0, .ref (a 0)), (2, .int p1), (3, .int (t1 + (-1)))]) rfl ?_
          exact ih1 _ (uninl h hk1)
        · refine z_aload_n C 2 rfl dX7_rightfulFor_34 ?_
          refine z_get C iRX7 0 gM_0 rfl 5 (by decide) fl_RX7_19 rfl dX7_rightfulFor_35 ?_
          refine z_iload C 0 rfl dX7_rightfulFor_38 ?_
          refine z_iald C 4 0 gM_4 rfl dX7_rightfulFor_40 h (fun y2 h => ?_)
          have h := unwi h hk1
          cases h
          exact z_iret C hr hlk dX7_rightfulFor_41
  exact L2 _ _ h
theorem dX7_rightful_0 : decode cX7_rightful 0 = .ok (.iload_n 1, 1) := by decide +kernel
theorem dX7_rightful_1 : decode cX7_rightful 1 = .ok (.iload_n 2, 1) := by decide +kernel
theorem dX7_rightful_2 : decode cX7_rightful 2 = .ok (.invokestatic 72, 3) := by decide +kernel
theorem dX7_rightful_5 : decode cX7_rightful 5 = .ok (.ifCond .eq 12, 3) := by decide +kernel
theorem dX7_rightful_8 : decode cX7_rightful 8 = .ok (.aload_n 0, 1) := by decide +kernel
theorem dX7_rightful_9 : decode cX7_rightful 9 = .ok (.iload_n 1, 1) := by decide +kernel
theorem dX7_rightful_10 : decode cX7_rightful 10 = .ok (.iload_n 2, 1) := by decide +kernel
theorem dX7_rightful_11 : decode cX7_rightful 11 = .ok (.invokevirtual 79, 3) := by decide +kernel
theorem dX7_rightful_14 : decode cX7_rightful 14 = .ok (.goto 5, 3) := by decide +kernel
theorem dX7_rightful_17 : decode cX7_rightful 17 = .ok (.bipush (-2), 2) := by decide +kernel
theorem dX7_rightful_19 : decode cX7_rightful 19 = .ok (.ireturn, 1) := by decide +kernel
theorem hd_yX7_rightful : (yX7_rightful).cls ≠ "java/lang/invoke/MethodHandle" ∧ (yX7_rightful).cls ≠ "java/lang/invoke/VarHandle" ∧ (parseMethodDescriptor (yX7_rightful).desc).map (fun d => d.parameters.length) = some 2 := ⟨by decide, by decide, by decide +kernel⟩
def f_X7_rightful (p0 : Int32) (p1 : Int32) (σ : ZS) : Option Int32 :=
  Option.bind (f_X7_isBlock p0 p1) (fun q1 => (if q1 = 0 then some (-2) else Option.bind (f_X7_rightfulFor p0 p1 σ) (fun q2 => some q2)))
set_option maxHeartbeats 4000000 in
set_option maxRecDepth 100000 in
theorem c_X7_rightful (l : Launch) (D : va_G) (A : Nat → Prop) (a : Nat → Nat) (x : ClassId × ClassId × ClassId) (σ : ZS) (p0 : Int32) (p1 : Int32) (r : Int32) (h : f_X7_rightful p0 p1 σ = some r) : zM l yX7_rightful w_yX7_rightful ({ frames := 2, cells := 0, slots := 0, locals := 48 } : Room) D A (tyz x) [.ref (a 0), .int p0, .int p1] (wM a x σ) (some (.int r)) (wM a x σ) := by
  refine z_start [.ref (a 0), .int p0, .int p1] (lv := [(0, .ref (a 0)), (1, .int p0), (2, .int p1)]) (by decide) (Nat.le_of_ble_eq_true rfl) rfl ?_
  intro p e s m args below meth c C hr hlk
  unfold f_X7_rightful at h
  refine z_iload_n C 1 rfl dX7_rightful_0 ?_
  refine z_iload_n C 2 rfl dX7_rightful_1 ?_
  obtain ⟨q1, hq1, h⟩ := bd_spec h
  refine z_callS1 C [.int p0, .int p1] [] (v := .int q1) rfl (c_X7_isBlock l D A (tyz x) (wM a x σ) p0 p1 q1 hq1) cd_yX7_isBlock in_RX7 ml_RX7_72 sm_yX7_isBlock hd_yX7_isBlock ⟨⟨Nat.le_of_ble_eq_true rfl, Nat.le_of_ble_eq_true rfl⟩, rfl, rfl⟩ rfl (Nat.le_of_ble_eq_true rfl) ⟨Nat.zero_le _, Nat.zero_le _⟩ dX7_rightful_2 ?_
  refine z_if_eq C 17 (by decide) dX7_rightful_5 h (fun h => ?_) (fun h => ?_)
  · refine z_bipush C (v := (-2)) dX7_rightful_17 (by decide) ?_
    cases h
    exact z_iret C hr hlk dX7_rightful_19
  · refine z_aload_n C 0 rfl dX7_rightful_8 ?_
    refine z_iload_n C 1 rfl dX7_rightful_9 ?_
    refine z_iload_n C 2 rfl dX7_rightful_10 ?_
    obtain ⟨q2, hq2, h⟩ := bd_spec h
    refine z_callV1 C [.int p0, .int p1] [] (v := (.int q2)) rfl (c_X7_rightfulFor l D A a x σ p0 p1 q2 hq2) cd_yX7_rightfulFor in_RX7 ml_RX7_79 im_yX7_rightfulFor sl_yX7_rightfulFor gM_0 rfl hd_yX7_rightfulFor ⟨⟨Nat.le_of_ble_eq_true rfl, Nat.le_of_ble_eq_true rfl⟩, rfl, rfl⟩ rfl (Nat.le_of_ble_eq_true rfl) ⟨Nat.zero_le _, Nat.zero_le _⟩ dX7_rightful_11 ?_
    refine z_goto C 19 (by decide) dX7_rightful_14 ?_
    cases h
    exact z_iret C hr hlk dX7_rightful_19
theorem dX7_says_0 : decode cX7_says 0 = .ok (.iconst 0, 1) := by decide +kernel
theorem dX7_says_1 : decode cX7_says 1 = .ok (.istore 4, 2) := by decide +kernel
theorem dX7_says_3 : decode cX7_says 3 = .ok (.iconst 0, 1) := by decide +kernel
theorem dX7_says_4 : decode cX7_says 4 = .ok (.istore 5, 2) := by decide +kernel
theorem dX7_says_6 : decode cX7_says 6 = .ok (.iload 5, 2) := by decide +kernel
theorem dX7_says_8 : decode cX7_says 8 = .ok (.aload_n 0, 1) := by decide +kernel
theorem dX7_says_9 : decode cX7_says 9 = .ok (.getfield 82, 3) := by decide +kernel
theorem dX7_says_12 : decode cX7_says 12 = .ok (.if_icmp .ge 54, 3) := by decide +kernel
theorem dX7_says_15 : decode cX7_says 15 = .ok (.iload 4, 2) := by decide +kernel
theorem dX7_says_17 : decode cX7_says 17 = .ok (.ifCond .ne 36, 3) := by decide +kernel
theorem dX7_says_20 : decode cX7_says 20 = .ok (.aload_n 0, 1) := by decide +kernel
theorem dX7_says_21 : decode cX7_says 21 = .ok (.getfield 22, 3) := by decide +kernel
theorem dX7_says_24 : decode cX7_says 24 = .ok (.iload 5, 2) := by decide +kernel
theorem dX7_says_26 : decode cX7_says 26 = .ok (.iaload, 1) := by decide +kernel
theorem dX7_says_27 : decode cX7_says 27 = .ok (.iload_n 1, 1) := by decide +kernel
theorem dX7_says_28 : decode cX7_says 28 = .ok (.if_icmp .ne 29, 3) := by decide +kernel
theorem dX7_says_31 : decode cX7_says 31 = .ok (.aload_n 0, 1) := by decide +kernel
theorem dX7_says_32 : decode cX7_says 32 = .ok (.getfield 25, 3) := by decide +kernel
theorem dX7_says_35 : decode cX7_says 35 = .ok (.iload 5, 2) := by decide +kernel
theorem dX7_says_37 : decode cX7_says 37 = .ok (.iaload, 1) := by decide +kernel
theorem dX7_says_38 : decode cX7_says 38 = .ok (.iload_n 2, 1) := by decide +kernel
theorem dX7_says_39 : decode cX7_says 39 = .ok (.if_icmp .ne 18, 3) := by decide +kernel
theorem dX7_says_42 : decode cX7_says 42 = .ok (.aload_n 0, 1) := by decide +kernel
theorem dX7_says_43 : decode cX7_says 43 = .ok (.getfield 28, 3) := by decide +kernel
theorem dX7_says_46 : decode cX7_says 46 = .ok (.iload 5, 2) := by decide +kernel
theorem dX7_says_48 : decode cX7_says 48 = .ok (.iaload, 1) := by decide +kernel
theorem dX7_says_49 : decode cX7_says 49 = .ok (.iload_n 3, 1) := by decide +kernel
theorem dX7_says_50 : decode cX7_says 50 = .ok (.if_icmp .ne 7, 3) := by decide +kernel
theorem dX7_says_53 : decode cX7_says 53 = .ok (.iconst 1, 1) := by decide +kernel
theorem dX7_says_54 : decode cX7_says 54 = .ok (.goto 4, 3) := by decide +kernel
theorem dX7_says_57 : decode cX7_says 57 = .ok (.iconst 0, 1) := by decide +kernel
theorem dX7_says_58 : decode cX7_says 58 = .ok (.istore 4, 2) := by decide +kernel
theorem dX7_says_60 : decode cX7_says 60 = .ok (.iinc 5 1, 3) := by decide +kernel
theorem dX7_says_63 : decode cX7_says 63 = .ok (.goto (-57), 3) := by decide +kernel
theorem dX7_says_66 : decode cX7_says 66 = .ok (.iload 4, 2) := by decide +kernel
theorem dX7_says_68 : decode cX7_says 68 = .ok (.ireturn, 1) := by decide +kernel
theorem hd_yX7_says : (yX7_says).cls ≠ "java/lang/invoke/MethodHandle" ∧ (yX7_says).cls ≠ "java/lang/invoke/VarHandle" ∧ (parseMethodDescriptor (yX7_says).desc).map (fun d => d.parameters.length) = some 3 := ⟨by decide, by decide, by decide +kernel⟩
def f_X7_says_J53 (l1 : Int32) (l2 : Int32) (l3 : Int32) (l5 : Int32) (σ : ZS) : Option ((Int32 × Int32) ⊕ Int32) :=
  some (.inl (1, l5 + 1))
def f_X7_says_B6 (l1 : Int32) (l2 : Int32) (l3 : Int32) (σ : ZS) (t1 : (Int32 × Int32)) : Option ((Int32 × Int32) ⊕ Int32) :=
  (if (σ.1 2) ≤ t1.2 then ck (isB t1.1) (wi (some t1.1)) else (if t1.1 = 0 then ld (σ.2.1 5) 18 t1.2 (fun y1 => (if y1 = l1 then ld (σ.2.1 6) 18 t1.2 (fun y2 => (if y2 = l2 then ld (σ.2.1 7) 18 t1.2 (fun y3 => (if y3 = l3 then f_X7_says_J53 l1 l2 l3 t1.2 σ else some (.inl (0, t1.2 + 1)))) else some (.inl (0, t1.2 + 1)))) else some (.inl (0, t1.2 + 1)))) else f_X7_says_J53 l1 l2 l3 t1.2 σ))
def f_X7_says (p0 : Int32) (p1 : Int32) (p2 : Int32) (σ : ZS) : Option Int32 :=
  lp zF (f_X7_says_B6 p0 p1 p2 σ) (0, 0)
set_option maxHeartbeats 4000000 in
set_option maxRecDepth 100000 in
theorem c_X7_says (l : Launch) (D : va_G) (A : Nat → Prop) (a : Nat → Nat) (x : ClassId × ClassId × ClassId) (σ : ZS) (p0 : Int32) (p1 : Int32) (p2 : Int32) (r : Int32) (h : f_X7_says p0 p1 p2 σ = some r) : zM l yX7_says w_yX7_says ({ frames := 0, cells := 0, slots := 0, locals := 0 } : Room) D A (tyz x) [.ref (a 0), .int p0, .int p1, .int p2] (wM a x σ) (some (.int r)) (wM a x σ) := by
  refine z_start [.ref (a 0), .int p0, .int p1, .int p2] (lv := [(0, .ref (a 0)), (1, .int p0), (2, .int p1), (3, .int p2)]) (by decide) (Nat.le_of_ble_eq_true rfl) rfl ?_
  intro p e s m args below meth c C hr hlk
  unfold f_X7_says at h
  refine z_iconst C (v := 0) dX7_says_0 (by decide) ?_
  refine z_istore C [(4, .int 0), (0, .ref (a 0)), (1, .int p0), (2, .int p1), (3, .int p2)] (by decide) rfl dX7_says_1 ?_
  refine z_iconst C (v := 0) dX7_says_3 (by decide) ?_
  refine z_istore C [(5, .int 0), (4, .int 0), (0, .ref (a 0)), (1, .int p0), (2, .int p1), (3, .int p2)] (by decide) rfl dX7_says_4 ?_
  refine z_sub C [2, 3, 4, 5, 1, 0] (lv' := [(0, .ref (a 0)), (1, .int p0), (2, .int p1), (3, .int p2), (4, .int 0), (5, .int 0)]) rfl ?_
  have L6 : ∀ (n : Nat) (t1 : (Int32 × Int32)), lp n (f_X7_says_B6 p0 p1 p2 σ) t1 = some r → zV p l e ({ frames := 0, cells := 0, slots := 0, locals := 0 } : Room) s m args below meth c 0 0 (MQ below (zQ D A (some (.int r)) (wM a x σ)) args s 0 0 A) D A 6 (wM a x σ) 6 [(0, .ref (a 0)), (1, .int p0), (2, .int p1), (3, .int p2), (4, .int t1.1), (5, .int t1.2)] [] := by
    intro n1
    induction n1 with
    | zero => exact fun _ h => (lp_zero h).elim
    | succ n1 ih1 =>
      intro t1 h
      obtain ⟨u1, h, hk1⟩ := lp_succ h
      have J53 : ∀ (l5_53 : Int32), f_X7_says_J53 p0 p1 p2 l5_53 σ = some u1 → zV p l e ({ frames := 0, cells := 0, slots := 0, locals := 0 } : Room) s m args below meth c 0 0 (MQ below (zQ D A (some (.int r)) (wM a x σ)) args s 0 0 A) D A 6 (wM a x σ) 53 [(0, .ref (a 0)), (1, .int p0), (2, .int p1), (3, .int p2), (5, .int l5_53)] [] := by
        intro l5_53 h
        unfold f_X7_says_J53 at h
        refine z_iconst C (v := 1) dX7_says_53 (by decide) ?_
        refine z_goto C 58 (by decide) dX7_says_54 ?_
        refine z_istore C [(4, .int 1), (0, .ref (a 0)), (1, .int p0), (2, .int p1), (3, .int p2), (5, .int l5_53)] (by decide) rfl dX7_says_58 ?_
        refine z_iinc C (v := l5_53 + 1) [(5, .int (l5_53 + 1)), (4, .int 1), (0, .ref (a 0)), (1, .int p0), (2, .int p1), (3, .int p2)] 5 rfl rfl (by decide) rfl dX7_says_60 ?_
        refine z_goto C 6 (by decide) dX7_says_63 ?_
        refine z_sub C [2, 3, 4, 5, 1, 0] (lv' := [(0, .ref (a 0)), (1, .int p0), (2, .int p1), (3, .int p2), (4, .int 1), (5, .int (l5_53 + 1))]) rfl ?_
        exact ih1 _ (uninl h hk1)
      unfold f_X7_says_B6 at h
      refine z_iload C 5 rfl dX7_says_6 ?_
      refine z_aload_n C 0 rfl dX7_says_8 ?_
      refine z_get C iRX7 0 gM_0 rfl 6 (by decide) fl_RX7_82 rfl dX7_says_9 ?_
      refine z_icmp_ge C 66 (by decide) dX7_says_12 h (fun h => ?_) (fun h => ?_)
      · refine z_iload C 4 rfl dX7_says_66 ?_
        obtain ⟨hb, h⟩ := ck_spec h
        have h := unwi h hk1
        cases h
        exact z_zret C hr hlk hb dX7_says_68
      · refine z_iload C 4 rfl dX7_says_15 ?_
        refine z_if_ne C 53 (by decide) dX7_says_17 h (fun h => ?_) (fun h => ?_)
        · refine z_sub C [0, 1, 2, 3, 5] (lv' := [(0, .ref (a 0)), (1, .int p0), (2, .int p1), (3, .int p2), (5, .int t1.2)]) rfl ?_
          exact J53 _ h
        · refine z_aload_n C 0 rfl dX7_says_20 ?_
          refine z_get C iRX7 0 gM_0 rfl 7 (by decide) fl_RX7_22 rfl dX7_says_21 ?_
          refine z_iload C 5 rfl dX7_says_24 ?_
          refine z_iald C 5 0 gM_5 rfl dX7_says_26 h (fun y1 h => ?_)
          refine z_iload_n C 1 rfl dX7_says_27 ?_
          refine z_icmp_ne C 57 (by decide) dX7_says_28 h (fun h => ?_) (fun h => ?_)
          · refine z_iconst C (v := 0) dX7_says_57 (by decide) ?_
            refine z_istore C [(4, .int 0), (0, .ref (a 0)), (1, .int p0), (2, .int p1), (3, .int p2), (5, .int t1.2)] (by decide) rfl dX7_says_58 ?_
            refine z_iinc C (v := t1.2 + 1) [(5, .int (t1.2 + 1)), (4, .int 0), (0, .ref (a 0)), (1, .int p0), (2, .int p1), (3, .int p2)] 5 rfl rfl (by decide) rfl dX7_says_60 ?_
            refine z_goto C 6 (by decide) dX7_says_63 ?_
            refine z_sub C [2, 3, 4, 5, 1, 0] (lv' := [(0, .ref (a 0)), (1, .int p0), (2, .int p1), (3, .int p2), (4, .int 0), (5, .int (t1.2 + 1))]) rfl ?_
            exact ih1 _ (uninl h hk1)
          · refine z_aload_n C 0 rfl dX7_says_31 ?_
            refine z_get C iRX7 0 gM_0 rfl 8 (by decide) fl_RX7_25 rfl dX7_says_32 ?_
            refine z_iload C 5 rfl dX7_says_35 ?_
            refine z_iald C 6 0 gM_6 rfl dX7_says_37 h (fun y2 h => ?_)
            refine z_iload_n C 2 rfl dX7_says_38 ?_
            refine z_icmp_ne C 57 (by decide) dX7_says_39 h (fun h => ?_) (fun h => ?_)
            · refine z_iconst C (v := 0) dX7_says_57 (by decide) ?_
              refine z_istore C [(4, .int 0), (0, .ref (a 0)), (1, .int p0), (2, .int p1), (3, .int p2), (5, .int t1.2)] (by decide) rfl dX7_says_58 ?_
              refine z_iinc C (v := t1.2 + 1) [(5, .int (t1.2 + 1)), (4, .int 0), (0, .ref (a 0)), (1, .int p0), (2, .int p1), (3, .int p2)] 5 rfl rfl (by decide) rfl dX7_says_60 ?_
              refine z_goto C 6 (by decide) dX7_says_63 ?_
              refine z_sub C [2, 3, 4, 5, 1, 0] (lv' := [(0, .ref (a 0)), (1, .int p0), (2, .int p1), (3, .int p2), (4, .int 0), (5, .int (t1.2 + 1))]) rfl ?_
              exact ih1 _ (uninl h hk1)
            · refine z_aload_n C 0 rfl dX7_says_42 ?_
              refine z_get C iRX7 0 gM_0 rfl 9 (by decide) fl_RX7_28 rfl dX7_says_43 ?_
              refine z_iload C 5 rfl dX7_says_46 ?_
              refine z_iald C 7 0 gM_7 rfl dX7_says_48 h (fun y3 h => ?_)
              refine z_iload_n C 3 rfl dX7_says_49 ?_
              refine z_icmp_ne C 57 (by decide) dX7_says_50 h (fun h => ?_) (fun h => ?_)
              · refine z_iconst C (v := 0) dX7_says_57 (by decide) ?_
                refine z_istore C [(4, .int 0), (0, .ref (a 0)), (1, .int p0), (2, .int p1), (3, .int p2), (5, .int t1.2)] (by decide) rfl dX7_says_58 ?_
                refine z_iinc C (v := t1.2 + 1) [(5, .int (t1.2 + 1)), (4, .int 0), (0, .ref (a 0)), (1, .int p0), (2, .int p1), (3, .int p2)] 5 rfl rfl (by decide) rfl dX7_says_60 ?_
                refine z_goto C 6 (by decide) dX7_says_63 ?_
                refine z_sub C [2, 3, 4, 5, 1, 0] (lv' := [(0, .ref (a 0)), (1, .int p0), (2, .int p1), (3, .int p2), (4, .int 0), (5, .int (t1.2 + 1))]) rfl ?_
                exact ih1 _ (uninl h hk1)
              · refine z_sub C [0, 1, 2, 3, 5] (lv' := [(0, .ref (a 0)), (1, .int p0), (2, .int p1), (3, .int p2), (5, .int t1.2)]) rfl ?_
                exact J53 _ h
  exact L6 _ _ h
theorem dX7_isSaid_0 : decode cX7_isSaid 0 = .ok (.iconst 0, 1) := by decide +kernel
theorem dX7_isSaid_1 : decode cX7_isSaid 1 = .ok (.istore_n 3, 1) := by decide +kernel
theorem dX7_isSaid_2 : decode cX7_isSaid 2 = .ok (.iconst 0, 1) := by decide +kernel
theorem dX7_isSaid_3 : decode cX7_isSaid 3 = .ok (.istore 4, 2) := by decide +kernel
theorem dX7_isSaid_5 : decode cX7_isSaid 5 = .ok (.iload 4, 2) := by decide +kernel
theorem dX7_isSaid_7 : decode cX7_isSaid 7 = .ok (.aload_n 0, 1) := by decide +kernel
theorem dX7_isSaid_8 : decode cX7_isSaid 8 = .ok (.getfield 82, 3) := by decide +kernel
theorem dX7_isSaid_11 : decode cX7_isSaid 11 = .ok (.if_icmp .ge 41, 3) := by decide +kernel
theorem dX7_isSaid_14 : decode cX7_isSaid 14 = .ok (.iload_n 3, 1) := by decide +kernel
theorem dX7_isSaid_15 : decode cX7_isSaid 15 = .ok (.ifCond .ne 25, 3) := by decide +kernel
theorem dX7_isSaid_18 : decode cX7_isSaid 18 = .ok (.aload_n 0, 1) := by decide +kernel
theorem dX7_isSaid_19 : decode cX7_isSaid 19 = .ok (.getfield 22, 3) := by decide +kernel
theorem dX7_isSaid_22 : decode cX7_isSaid 22 = .ok (.iload 4, 2) := by decide +kernel
theorem dX7_isSaid_24 : decode cX7_isSaid 24 = .ok (.iaload, 1) := by decide +kernel
theorem dX7_isSaid_25 : decode cX7_isSaid 25 = .ok (.iload_n 1, 1) := by decide +kernel
theorem dX7_isSaid_26 : decode cX7_isSaid 26 = .ok (.if_icmp .ne 18, 3) := by decide +kernel
theorem dX7_isSaid_29 : decode cX7_isSaid 29 = .ok (.aload_n 0, 1) := by decide +kernel
theorem dX7_isSaid_30 : decode cX7_isSaid 30 = .ok (.getfield 25, 3) := by decide +kernel
theorem dX7_isSaid_33 : decode cX7_isSaid 33 = .ok (.iload 4, 2) := by decide +kernel
theorem dX7_isSaid_35 : decode cX7_isSaid 35 = .ok (.iaload, 1) := by decide +kernel
theorem dX7_isSaid_36 : decode cX7_isSaid 36 = .ok (.iload_n 2, 1) := by decide +kernel
theorem dX7_isSaid_37 : decode cX7_isSaid 37 = .ok (.if_icmp .ne 7, 3) := by decide +kernel
theorem dX7_isSaid_40 : decode cX7_isSaid 40 = .ok (.iconst 1, 1) := by decide +kernel
theorem dX7_isSaid_41 : decode cX7_isSaid 41 = .ok (.goto 4, 3) := by decide +kernel
theorem dX7_isSaid_44 : decode cX7_isSaid 44 = .ok (.iconst 0, 1) := by decide +kernel
theorem dX7_isSaid_45 : decode cX7_isSaid 45 = .ok (.istore_n 3, 1) := by decide +kernel
theorem dX7_isSaid_46 : decode cX7_isSaid 46 = .ok (.iinc 4 1, 3) := by decide +kernel
theorem dX7_isSaid_49 : decode cX7_isSaid 49 = .ok (.goto (-44), 3) := by decide +kernel
theorem dX7_isSaid_52 : decode cX7_isSaid 52 = .ok (.iload_n 3, 1) := by decide +kernel
theorem dX7_isSaid_53 : decode cX7_isSaid 53 = .ok (.ireturn, 1) := by decide +kernel
theorem hd_yX7_isSaid : (yX7_isSaid).cls ≠ "java/lang/invoke/MethodHandle" ∧ (yX7_isSaid).cls ≠ "java/lang/invoke/VarHandle" ∧ (parseMethodDescriptor (yX7_isSaid).desc).map (fun d => d.parameters.length) = some 2 := ⟨by decide, by decide, by decide +kernel⟩
def f_X7_isSaid_J40 (l1 : Int32) (l2 : Int32) (l4 : Int32) (σ : ZS) : Option ((Int32 × Int32) ⊕ Int32) :=
  some (.inl (1, l4 + 1))
def f_X7_isSaid_B5 (l1 : Int32) (l2 : Int32) (σ : ZS) (t1 : (Int32 × Int32)) : Option ((Int32 × Int32) ⊕ Int32) :=
  (if (σ.1 2) ≤ t1.2 then ck (isB t1.1) (wi (some t1.1)) else (if t1.1 = 0 then ld (σ.2.1 5) 18 t1.2 (fun y1 => (if y1 = l1 then ld (σ.2.1 6) 18 t1.2 (fun y2 => (if y2 = l2 then f_X7_isSaid_J40 l1 l2 t1.2 σ else some (.inl (0, t1.2 + 1)))) else some (.inl (0, t1.2 + 1)))) else f_X7_isSaid_J40 l1 l2 t1.2 σ))
def f_X7_isSaid (p0 : Int32) (p1 : Int32) (σ : ZS) : Option Int32 :=
  lp zF (f_X7_isSaid_B5 p0 p1 σ) (0, 0)
set_option maxHeartbeats 4000000 in
set_option maxRecDepth 100000 in
theorem c_X7_isSaid (l : Launch) (D : va_G) (A : Nat → Prop) (a : Nat → Nat) (x : ClassId × ClassId × ClassId) (σ : ZS) (p0 : Int32) (p1 : Int32) (r : Int32) (h : f_X7_isSaid p0 p1 σ = some r) : zM l yX7_isSaid w_yX7_isSaid ({ frames := 0, cells := 0, slots := 0, locals := 0 } : Room) D A (tyz x) [.ref (a 0), .int p0, .int p1] (wM a x σ) (some (.int r)) (wM a x σ) := by
  refine z_start [.ref (a 0), .int p0, .int p1] (lv := [(0, .ref (a 0)), (1, .int p0), (2, .int p1)]) (by decide) (Nat.le_of_ble_eq_true rfl) rfl ?_
  intro p e s m args below meth c C hr hlk
  unfold f_X7_isSaid at h
  refine z_iconst C (v := 0) dX7_isSaid_0 (by decide) ?_
  refine z_istore_n C [(3, .int 0), (0, .ref (a 0)), (1, .int p0), (2, .int p1)] rfl (by decide) rfl dX7_isSaid_1 ?_
  refine z_iconst C (v := 0) dX7_isSaid_2 (by decide) ?_
  refine z_istore C [(4, .int 0), (3, .int 0), (0, .ref (a 0)), (1, .int p0), (2, .int p1)] (by decide) rfl dX7_isSaid_3 ?_
  refine z_sub C [2, 3, 4, 1, 0] (lv' := [(0, .ref (a 0)), (1, .int p0), (2, .int p1), (3, .int 0), (4, .int 0)]) rfl ?_
  have L5 : ∀ (n : Nat) (t1 : (Int32 × Int32)), lp n (f_X7_isSaid_B5 p0 p1 σ) t1 = some r → zV p l e ({ frames := 0, cells := 0, slots := 0, locals := 0 } : Room) s m args below meth c 0 0 (MQ below (zQ D A (some (.int r)) (wM a x σ)) args s 0 0 A) D A 5 (wM a x σ) 5 [(0, .ref (a 0)), (1, .int p0), (2, .int p1), (3, .int t1.1), (4, .int t1.2)] [] := by
    intro n1
    induction n1 with
    | zero => exact fun _ h => (lp_zero h).elim
    | succ n1 ih1 =>
      intro t1 h
      obtain ⟨u1, h, hk1⟩ := lp_succ h
      have J40 : ∀ (l4_40 : Int32), f_X7_isSaid_J40 p0 p1 l4_40 σ = some u1 → zV p l e ({ frames := 0, cells := 0, slots := 0, locals := 0 } : Room) s m args below meth c 0 0 (MQ below (zQ D A (some (.int r)) (wM a x σ)) args s 0 0 A) D A 5 (wM a x σ) 40 [(0, .ref (a 0)), (1, .int p0), (2, .int p1), (4, .int l4_40)] [] := by
        intro l4_40 h
        unfold f_X7_isSaid_J40 at h
        refine z_iconst C (v := 1) dX7_isSaid_40 (by decide) ?_
        refine z_goto C 45 (by decide) dX7_isSaid_41 ?_
        refine z_istore_n C [(3, .int 1), (0, .ref (a 0)), (1, .int p0), (2, .int p1), (4, .int l4_40)] rfl (by decide) rfl dX7_isSaid_45 ?_
        refine z_iinc C (v := l4_40 + 1) [(4, .int (l4_40 + 1)), (3, .int 1), (0, .ref (a 0)), (1, .int p0), (2, .int p1)] 4 rfl rfl (by decide) rfl dX7_isSaid_46 ?_
        refine z_goto C 5 (by decide) dX7_isSaid_49 ?_
        refine z_sub C [2, 3, 4, 1, 0] (lv' := [(0, .ref (a 0)), (1, .int p0), (2, .int p1), (3, .int 1), (4, .int (l4_40 + 1))]) rfl ?_
        exact ih1 _ (uninl h hk1)
      unfold f_X7_isSaid_B5 at h
      refine z_iload C 4 rfl dX7_isSaid_5 ?_
      refine z_aload_n C 0 rfl dX7_isSaid_7 ?_
      refine z_get C iRX7 0 gM_0 rfl 6 (by decide) fl_RX7_82 rfl dX7_isSaid_8 ?_
      refine z_icmp_ge C 52 (by decide) dX7_isSaid_11 h (fun h => ?_) (fun h => ?_)
      · refine z_iload_n C 3 rfl dX7_isSaid_52 ?_
        obtain ⟨hb, h⟩ := ck_spec h
        have h := unwi h hk1
        cases h
        exact z_zret C hr hlk hb dX7_isSaid_53
      · refine z_iload_n C 3 rfl dX7_isSaid_14 ?_
        refine z_if_ne C 40 (by decide) dX7_isSaid_15 h (fun h => ?_) (fun h => ?_)
        · refine z_sub C [0, 1, 2, 4] (lv' := [(0, .ref (a 0)), (1, .int p0), (2, .int p1), (4, .int t1.2)]) rfl ?_
          exact J40 _ h
        · refine z_aload_n C 0 rfl dX7_isSaid_18 ?_
          refine z_get C iRX7 0 gM_0 rfl 7 (by decide) fl_RX7_22 rfl dX7_isSaid_19 ?_
          refine z_iload C 4 rfl dX7_isSaid_22 ?_
          refine z_iald C 5 0 gM_5 rfl dX7_isSaid_24 h (fun y1 h => ?_)
          refine z_iload_n C 1 rfl dX7_isSaid_25 ?_
          refine z_icmp_ne C 44 (by decide) dX7_isSaid_26 h (fun h => ?_) (fun h => ?_)
          · refine z_iconst C (v := 0) dX7_isSaid_44 (by decide) ?_
            refine z_istore_n C [(3, .int 0), (0, .ref (a 0)), (1, .int p0), (2, .int p1), (4, .int t1.2)] rfl (by decide) rfl dX7_isSaid_45 ?_
            refine z_iinc C (v := t1.2 + 1) [(4, .int (t1.2 + 1)), (3, .int 0), (0, .ref (a 0)), (1, .int p0), (2, .int p1)] 4 rfl rfl (by decide) rfl dX7_isSaid_46 ?_
            refine z_goto C 5 (by decide) dX7_isSaid_49 ?_
            refine z_sub C [2, 3, 4, 1, 0] (lv' := [(0, .ref (a 0)), (1, .int p0), (2, .int p1), (3, .int 0), (4, .int (t1.2 + 1))]) rfl ?_
            exact ih1 _ (uninl h hk1)
          · refine z_aload_n C 0 rfl dX7_isSaid_29 ?_
            refine z_get C iRX7 0 gM_0 rfl 8 (by decide) fl_RX7_25 rfl dX7_isSaid_30 ?_
            refine z_iload C 4 rfl dX7_isSaid_33 ?_
            refine z_iald C 6 0 gM_6 rfl dX7_isSaid_35 h (fun y2 h => ?_)
            refine z_iload_n C 2 rfl dX7_isSaid_36 ?_
            refine z_icmp_ne C 44 (by decide) dX7_isSaid_37 h (fun h => ?_) (fun h => ?_)
            · refine z_iconst C (v := 0) dX7_isSaid_44 (by decide) ?_
              refine z_istore_n C [(3, .int 0), (0, .ref (a 0)), (1, .int p0), (2, .int p1), (4, .int t1.2)] rfl (by decide) rfl dX7_isSaid_45 ?_
              refine z_iinc C (v := t1.2 + 1) [(4, .int (t1.2 + 1)), (3, .int 0), (0, .ref (a 0)), (1, .int p0), (2, .int p1)] 4 rfl rfl (by decide) rfl dX7_isSaid_46 ?_
              refine z_goto C 5 (by decide) dX7_isSaid_49 ?_
              refine z_sub C [2, 3, 4, 1, 0] (lv' := [(0, .ref (a 0)), (1, .int p0), (2, .int p1), (3, .int 0), (4, .int (t1.2 + 1))]) rfl ?_
              exact ih1 _ (uninl h hk1)
            · refine z_sub C [0, 1, 2, 4] (lv' := [(0, .ref (a 0)), (1, .int p0), (2, .int p1), (4, .int t1.2)]) rfl ?_
              exact J40 _ h
  exact L5 _ _ h
theorem dX7_addSaying_0 : decode cX7_addSaying 0 = .ok (.aload_n 0, 1) := by decide +kernel
theorem dX7_addSaying_1 : decode cX7_addSaying 1 = .ok (.getfield 22, 3) := by decide +kernel
theorem dX7_addSaying_4 : decode cX7_addSaying 4 = .ok (.aload_n 0, 1) := by decide +kernel
theorem dX7_addSaying_5 : decode cX7_addSaying 5 = .ok (.getfield 82, 3) := by decide +kernel
theorem dX7_addSaying_8 : decode cX7_addSaying 8 = .ok (.iload_n 1, 1) := by decide +kernel
theorem dX7_addSaying_9 : decode cX7_addSaying 9 = .ok (.iastore, 1) := by decide +kernel
theorem dX7_addSaying_10 : decode cX7_addSaying 10 = .ok (.aload_n 0, 1) := by decide +kernel
theorem dX7_addSaying_11 : decode cX7_addSaying 11 = .ok (.getfield 25, 3) := by decide +kernel
theorem dX7_addSaying_14 : decode cX7_addSaying 14 = .ok (.aload_n 0, 1) := by decide +kernel
theorem dX7_addSaying_15 : decode cX7_addSaying 15 = .ok (.getfield 82, 3) := by decide +kernel
theorem dX7_addSaying_18 : decode cX7_addSaying 18 = .ok (.iload_n 2, 1) := by decide +kernel
theorem dX7_addSaying_19 : decode cX7_addSaying 19 = .ok (.iastore, 1) := by decide +kernel
theorem dX7_addSaying_20 : decode cX7_addSaying 20 = .ok (.aload_n 0, 1) := by decide +kernel
theorem dX7_addSaying_21 : decode cX7_addSaying 21 = .ok (.getfield 28, 3) := by decide +kernel
theorem dX7_addSaying_24 : decode cX7_addSaying 24 = .ok (.aload_n 0, 1) := by decide +kernel
theorem dX7_addSaying_25 : decode cX7_addSaying 25 = .ok (.getfield 82, 3) := by decide +kernel
theorem dX7_addSaying_28 : decode cX7_addSaying 28 = .ok (.iload_n 3, 1) := by decide +kernel
theorem dX7_addSaying_29 : decode cX7_addSaying 29 = .ok (.iastore, 1) := by decide +kernel
theorem dX7_addSaying_30 : decode cX7_addSaying 30 = .ok (.aload_n 0, 1) := by decide +kernel
theorem dX7_addSaying_31 : decode cX7_addSaying 31 = .ok (.dup, 1) := by decide +kernel
theorem dX7_addSaying_32 : decode cX7_addSaying 32 = .ok (.getfield 82, 3) := by decide +kernel
theorem dX7_addSaying_35 : decode cX7_addSaying 35 = .ok (.iconst 1, 1) := by decide +kernel
theorem dX7_addSaying_36 : decode cX7_addSaying 36 = .ok (.iadd, 1) := by decide +kernel
theorem dX7_addSaying_37 : decode cX7_addSaying 37 = .ok (.putfield 82, 3) := by decide +kernel
theorem dX7_addSaying_40 : decode cX7_addSaying 40 = .ok (.return_, 1) := by decide +kernel
theorem hd_yX7_addSaying : (yX7_addSaying).cls ≠ "java/lang/invoke/MethodHandle" ∧ (yX7_addSaying).cls ≠ "java/lang/invoke/VarHandle" ∧ (parseMethodDescriptor (yX7_addSaying).desc).map (fun d => d.parameters.length) = some 3 := ⟨by decide, by decide, by decide +kernel⟩
def f_X7_addSaying (p0 : Int32) (p1 : Int32) (p2 : Int32) (σ : ZS) : Option ZS :=
  ck (inb (σ.1 2) 18) (ck (inb ((setA σ 5 (Int32.toNatClampNeg (σ.1 2)) p0).1 2) 18) (ck (inb ((setA (setA σ 5 (Int32.toNatClampNeg (σ.1 2)) p0) 6 (Int32.toNatClampNeg ((setA σ 5 (Int32.toNatClampNeg (σ.1 2)) p0).1 2)) p1).1 2) 18) (some (setI (setA (setA (setA σ 5 (Int32.toNatClampNeg (σ.1 2)) p0) 6 (Int32.toNatClampNeg ((setA σ 5 (Int32.toNatClampNeg (σ.1 2)) p0).1 2)) p1) 7 (Int32.toNatClampNeg ((setA (setA σ 5 (Int32.toNatClampNeg (σ.1 2)) p0) 6 (Int32.toNatClampNeg ((setA σ 5 (Int32.toNatClampNeg (σ.1 2)) p0).1 2)) p1).1 2)) p2) 2 (((setA (setA (setA σ 5 (Int32.toNatClampNeg (σ.1 2)) p0) 6 (Int32.toNatClampNeg ((setA σ 5 (Int32.toNatClampNeg (σ.1 2)) p0).1 2)) p1) 7 (Int32.toNatClampNeg ((setA (setA σ 5 (Int32.toNatClampNeg (σ.1 2)) p0) 6 (Int32.toNatClampNeg ((setA σ 5 (Int32.toNatClampNeg (σ.1 2)) p0).1 2)) p1).1 2)) p2).1 2) + 1)))))
set_option maxHeartbeats 4000000 in
set_option maxRecDepth 100000 in
theorem c_X7_addSaying (l : Launch) (D : va_G) (A : Nat → Prop) (a : Nat → Nat) (x : ClassId × ClassId × ClassId) (σ : ZS) (p0 : Int32) (p1 : Int32) (p2 : Int32) (r : ZS) (h : f_X7_addSaying p0 p1 p2 σ = some r) : zM l yX7_addSaying w_yX7_addSaying ({ frames := 0, cells := 0, slots := 0, locals := 0 } : Room) D A (tyz x) [.ref (a 0), .int p0, .int p1, .int p2] (wM a x σ) none (wM a x r) := by
  refine z_start [.ref (a 0), .int p0, .int p1, .int p2] (lv := [(0, .ref (a 0)), (1, .int p0), (2, .int p1), (3, .int p2)]) (by decide) (Nat.le_of_ble_eq_true rfl) rfl ?_
  intro p e s m args below meth c C hr hlk
  unfold f_X7_addSaying at h
  refine z_aload_n C 0 rfl dX7_addSaying_0 ?_
  refine z_get C iRX7 0 gM_0 rfl 7 (by decide) fl_RX7_22 rfl dX7_addSaying_1 ?_
  refine z_aload_n C 0 rfl dX7_addSaying_4 ?_
  refine z_get C iRX7 0 gM_0 rfl 6 (by decide) fl_RX7_82 rfl dX7_addSaying_5 ?_
  refine z_iload_n C 1 rfl dX7_addSaying_8 ?_
  refine z_iast C 5 0 gM_5 rfl uM_5 dX7_addSaying_9 h (fun h => ?_)
  refine z_aload_n C 0 rfl dX7_addSaying_10 ?_
  refine z_get C iRX7 0 gM_0 rfl 8 (by decide) fl_RX7_25 rfl dX7_addSaying_11 ?_
  refine z_aload_n C 0 rfl dX7_addSaying_14 ?_
  refine z_get C iRX7 0 gM_0 rfl 6 (by decide) fl_RX7_82 rfl dX7_addSaying_15 ?_
  refine z_iload_n C 2 rfl dX7_addSaying_18 ?_
  refine z_iast C 6 0 gM_6 rfl uM_6 dX7_addSaying_19 h (fun h => ?_)
  refine z_aload_n C 0 rfl dX7_addSaying_20 ?_
  refine z_get C iRX7 0 gM_0 rfl 9 (by decide) fl_RX7_28 rfl dX7_addSaying_21 ?_
  refine z_aload_n C 0 rfl dX7_addSaying_24 ?_
  refine z_get C iRX7 0 gM_0 rfl 6 (by decide) fl_RX7_82 rfl dX7_addSaying_25 ?_
  refine z_iload_n C 3 rfl dX7_addSaying_28 ?_
  refine z_iast C 7 0 gM_7 rfl uM_7 dX7_addSaying_29 h (fun h => ?_)
  refine z_aload_n C 0 rfl dX7_addSaying_30 ?_
  refine z_dup C rfl dX7_addSaying_31 ?_
  refine z_get C iRX7 0 gM_0 rfl 6 (by decide) fl_RX7_82 rfl dX7_addSaying_32 ?_
  refine z_iconst C (v := 1) dX7_addSaying_35 (by decide) ?_
  refine z_iadd C dX7_addSaying_36 ?_
  refine z_put C iRX7 tyX7 tyX7_ok nmX7 0 gM_0 rfl 6 (by decide) fl_RX7_82 rfl (ty := .int) (by decide +kernel) ⟨rfl, rfl⟩ (Nat.le_of_ble_eq_true rfl) pM_0_6 dX7_addSaying_37 ?_
  cases h
  exact z_vret C hr hlk dX7_addSaying_40
theorem dX7_say_0 : decode cX7_say 0 = .ok (.iload_n 1, 1) := by decide +kernel
theorem dX7_say_1 : decode cX7_say 1 = .ok (.iload_n 2, 1) := by decide +kernel
theorem dX7_say_2 : decode cX7_say 2 = .ok (.invokestatic 72, 3) := by decide +kernel
theorem dX7_say_5 : decode cX7_say 5 = .ok (.ifCond .eq 11, 3) := by decide +kernel
theorem dX7_say_8 : decode cX7_say 8 = .ok (.aload_n 0, 1) := by decide +kernel
theorem dX7_say_9 : decode cX7_say 9 = .ok (.iload_n 3, 1) := by decide +kernel
theorem dX7_say_10 : decode cX7_say 10 = .ok (.invokevirtual 61, 3) := by decide +kernel
theorem dX7_say_13 : decode cX7_say 13 = .ok (.ifCond .ne 6, 3) := by decide +kernel
theorem dX7_say_16 : decode cX7_say 16 = .ok (.bipush (-2), 2) := by decide +kernel
theorem dX7_say_18 : decode cX7_say 18 = .ok (.ireturn, 1) := by decide +kernel
theorem dX7_say_19 : decode cX7_say 19 = .ok (.aload_n 0, 1) := by decide +kernel
theorem dX7_say_20 : decode cX7_say 20 = .ok (.iload_n 1, 1) := by decide +kernel
theorem dX7_say_21 : decode cX7_say 21 = .ok (.iload_n 2, 1) := by decide +kernel
theorem dX7_say_22 : decode cX7_say 22 = .ok (.iload_n 3, 1) := by decide +kernel
theorem dX7_say_23 : decode cX7_say 23 = .ok (.invokevirtual 85, 3) := by decide +kernel
theorem dX7_say_26 : decode cX7_say 26 = .ok (.ifCond .eq 6, 3) := by decide +kernel
theorem dX7_say_29 : decode cX7_say 29 = .ok (.bipush (-3), 2) := by decide +kernel
theorem dX7_say_31 : decode cX7_say 31 = .ok (.ireturn, 1) := by decide +kernel
theorem dX7_say_32 : decode cX7_say 32 = .ok (.aload_n 0, 1) := by decide +kernel
theorem dX7_say_33 : decode cX7_say 33 = .ok (.getfield 82, 3) := by decide +kernel
theorem dX7_say_36 : decode cX7_say 36 = .ok (.bipush 16, 2) := by decide +kernel
theorem dX7_say_38 : decode cX7_say 38 = .ok (.if_icmp .ne 6, 3) := by decide +kernel
theorem dX7_say_41 : decode cX7_say 41 = .ok (.bipush (-6), 2) := by decide +kernel
theorem dX7_say_43 : decode cX7_say 43 = .ok (.ireturn, 1) := by decide +kernel
theorem dX7_say_44 : decode cX7_say 44 = .ok (.aload_n 0, 1) := by decide +kernel
theorem dX7_say_45 : decode cX7_say 45 = .ok (.iload_n 1, 1) := by decide +kernel
theorem dX7_say_46 : decode cX7_say 46 = .ok (.iload_n 2, 1) := by decide +kernel
theorem dX7_say_47 : decode cX7_say 47 = .ok (.iload_n 3, 1) := by decide +kernel
theorem dX7_say_48 : decode cX7_say 48 = .ok (.invokevirtual 88, 3) := by decide +kernel
theorem dX7_say_51 : decode cX7_say 51 = .ok (.aload_n 0, 1) := by decide +kernel
theorem dX7_say_52 : decode cX7_say 52 = .ok (.getfield 82, 3) := by decide +kernel
theorem dX7_say_55 : decode cX7_say 55 = .ok (.iconst 1, 1) := by decide +kernel
theorem dX7_say_56 : decode cX7_say 56 = .ok (.isub, 1) := by decide +kernel
theorem dX7_say_57 : decode cX7_say 57 = .ok (.ireturn, 1) := by decide +kernel
theorem hd_yX7_say : (yX7_say).cls ≠ "java/lang/invoke/MethodHandle" ∧ (yX7_say).cls ≠ "java/lang/invoke/VarHandle" ∧ (parseMethodDescriptor (yX7_say).desc).map (fun d => d.parameters.length) = some 3 := ⟨by decide, by decide, by decide +kernel⟩
def f_X7_say (p0 : Int32) (p1 : Int32) (p2 : Int32) (σ : ZS) : Option (Int32 × ZS) :=
  Option.bind (f_X7_isBlock p0 p1) (fun q1 => (if q1 = 0 then some ((-2), σ) else Option.bind (f_X7_isHouse p2 σ) (fun q2 => (if q2 = 0 then some ((-2), σ) else Option.bind (f_X7_says p0 p1 p2 σ) (fun q3 => (if q3 = 0 then (if (σ.1 2) = 16 then some ((-6), σ) else Option.bind (f_X7_addSaying p0 p1 p2 σ) (fun q4 => some ((q4.1 2) - 1, q4))) else some ((-3), σ)))))))
set_option maxHeartbeats 4000000 in
set_option maxRecDepth 100000 in
theorem c_X7_say (l : Launch) (D : va_G) (A : Nat → Prop) (a : Nat → Nat) (x : ClassId × ClassId × ClassId) (σ : ZS) (p0 : Int32) (p1 : Int32) (p2 : Int32) (r : (Int32 × ZS)) (h : f_X7_say p0 p1 p2 σ = some r) : zM l yX7_say w_yX7_say ({ frames := 2, cells := 0, slots := 0, locals := 43 } : Room) D A (tyz x) [.ref (a 0), .int p0, .int p1, .int p2] (wM a x σ) (some (.int r.1)) (wM a x r.2) := by
  refine z_start [.ref (a 0), .int p0, .int p1, .int p2] (lv := [(0, .ref (a 0)), (1, .int p0), (2, .int p1), (3, .int p2)]) (by decide) (Nat.le_of_ble_eq_true rfl) rfl ?_
  intro p e s m args below meth c C hr hlk
  unfold f_X7_say at h
  refine z_iload_n C 1 rfl dX7_say_0 ?_
  refine z_iload_n C 2 rfl dX7_say_1 ?_
  obtain ⟨q1, hq1, h⟩ := bd_spec h
  refine z_callS1 C [.int p0, .int p1] [] (v := .int q1) rfl (c_X7_isBlock l D A (tyz x) (wM a x σ) p0 p1 q1 hq1) cd_yX7_isBlock in_RX7 ml_RX7_72 sm_yX7_isBlock hd_yX7_isBlock ⟨⟨Nat.le_of_ble_eq_true rfl, Nat.le_of_ble_eq_true rfl⟩, rfl, rfl⟩ rfl (Nat.le_of_ble_eq_true rfl) ⟨Nat.zero_le _, Nat.zero_le _⟩ dX7_say_2 ?_
  refine z_if_eq C 16 (by decide) dX7_say_5 h (fun h => ?_) (fun h => ?_)
  · refine z_bipush C (v := (-2)) dX7_say_16 (by decide) ?_
    cases h
    exact z_iret C hr hlk dX7_say_18
  · refine z_aload_n C 0 rfl dX7_say_8 ?_
    refine z_iload_n C 3 rfl dX7_say_9 ?_
    obtain ⟨q2, hq2, h⟩ := bd_spec h
    refine z_callV1 C [.int p2] [] (v := (.int q2)) rfl (c_X7_isHouse l D A a x σ p2 q2 hq2) cd_yX7_isHouse in_RX7 ml_RX7_61 im_yX7_isHouse sl_yX7_isHouse gM_0 rfl hd_yX7_isHouse ⟨⟨Nat.le_of_ble_eq_true rfl, Nat.le_of_ble_eq_true rfl⟩, rfl, rfl⟩ rfl (Nat.le_of_ble_eq_true rfl) ⟨Nat.zero_le _, Nat.zero_le _⟩ dX7_say_10 ?_
    refine z_if_ne C 19 (by decide) dX7_say_13 h (fun h => ?_) (fun h => ?_)
    · refine z_aload_n C 0 rfl dX7_say_19 ?_
      refine z_iload_n C 1 rfl dX7_say_20 ?_
      refine z_iload_n C 2 rfl dX7_say_21 ?_
      refine z_iload_n C 3 rfl dX7_say_22 ?_
      obtain ⟨q3, hq3, h⟩ := bd_spec h
      refine z_callV1 C [.int p0, .int p1, .int p2] [] (v := (.int q3)) rfl (c_X7_says l D A a x σ p0 p1 p2 q3 hq3) cd_yX7_says in_RX7 ml_RX7_85 im_yX7_says sl_yX7_says gM_0 rfl hd_yX7_says ⟨⟨Nat.le_of_ble_eq_true rfl, Nat.le_of_ble_eq_true rfl⟩, rfl, rfl⟩ rfl (Nat.le_of_ble_eq_true rfl) ⟨Nat.zero_le _, Nat.zero_le _⟩ dX7_say_23 ?_
      refine z_if_eq C 32 (by decide) dX7_say_26 h (fun h => ?_) (fun h => ?_)
      · refine z_aload_n C 0 rfl dX7_say_32 ?_
        refine z_get C iRX7 0 gM_0 rfl 6 (by decide) fl_RX7_82 rfl dX7_say_33 ?_
        refine z_bipush C (v := 16) dX7_say_36 (by decide) ?_
        refine z_icmp_ne C 44 (by decide) dX7_say_38 h (fun h => ?_) (fun h => ?_)
        · refine z_aload_n C 0 rfl dX7_say_44 ?_
          refine z_iload_n C 1 rfl dX7_say_45 ?_
          refine z_iload_n C 2 rfl dX7_say_46 ?_
          refine z_iload_n C 3 rfl dX7_say_47 ?_
          obtain ⟨q4, hq4, h⟩ := bd_spec h
          refine z_callV0 C [.int p0, .int p1, .int p2] [] rfl (c_X7_addSaying l D A a x σ p0 p1 p2 q4 hq4) cd_yX7_addSaying in_RX7 ml_RX7_88 im_yX7_addSaying sl_yX7_addSaying gM_0 rfl hd_yX7_addSaying ⟨⟨Nat.le_of_ble_eq_true rfl, Nat.le_of_ble_eq_true rfl⟩, rfl, rfl⟩ rfl (Nat.le_of_ble_eq_true rfl) ⟨Nat.zero_le _, Nat.zero_le _⟩ dX7_say_48 ?_
          refine z_aload_n C 0 rfl dX7_say_51 ?_
          refine z_get C iRX7 0 gM_0 rfl 6 (by decide) fl_RX7_82 rfl dX7_say_52 ?_
          refine z_iconst C (v := 1) dX7_say_55 (by decide) ?_
          refine z_isub C dX7_say_56 ?_
          cases h
          exact z_iret C hr hlk dX7_say_57
        · refine z_bipush C (v := (-6)) dX7_say_41 (by decide) ?_
          cases h
          exact z_iret C hr hlk dX7_say_43
      · refine z_bipush C (v := (-3)) dX7_say_29 (by decide) ?_
        cases h
        exact z_iret C hr hlk dX7_say_31
    · refine z_bipush C (v := (-2)) dX7_say_16 (by decide) ?_
      cases h
      exact z_iret C hr hlk dX7_say_18
theorem dX7_unsay_0 : decode cX7_unsay 0 = .ok (.iload_n 1, 1) := by decide +kernel
theorem dX7_unsay_1 : decode cX7_unsay 1 = .ok (.iconst 0, 1) := by decide +kernel
theorem dX7_unsay_2 : decode cX7_unsay 2 = .ok (.aload_n 0, 1) := by decide +kernel
theorem dX7_unsay_3 : decode cX7_unsay 3 = .ok (.getfield 82, 3) := by decide +kernel
theorem dX7_unsay_6 : decode cX7_unsay 6 = .ok (.iconst 1, 1) := by decide +kernel
theorem dX7_unsay_7 : decode cX7_unsay 7 = .ok (.isub, 1) := by decide +kernel
theorem dX7_unsay_8 : decode cX7_unsay 8 = .ok (.invokestatic 53, 3) := by decide +kernel
theorem dX7_unsay_11 : decode cX7_unsay 11 = .ok (.ifCond .ne 6, 3) := by decide +kernel
theorem dX7_unsay_14 : decode cX7_unsay 14 = .ok (.bipush (-2), 2) := by decide +kernel
theorem dX7_unsay_16 : decode cX7_unsay 16 = .ok (.ireturn, 1) := by decide +kernel
theorem dX7_unsay_17 : decode cX7_unsay 17 = .ok (.aload_n 0, 1) := by decide +kernel
theorem dX7_unsay_18 : decode cX7_unsay 18 = .ok (.dup, 1) := by decide +kernel
theorem dX7_unsay_19 : decode cX7_unsay 19 = .ok (.getfield 82, 3) := by decide +kernel
theorem dX7_unsay_22 : decode cX7_unsay 22 = .ok (.iconst 1, 1) := by decide +kernel
theorem dX7_unsay_23 : decode cX7_unsay 23 = .ok (.isub, 1) := by decide +kernel
theorem dX7_unsay_24 : decode cX7_unsay 24 = .ok (.putfield 82, 3) := by decide +kernel
theorem dX7_unsay_27 : decode cX7_unsay 27 = .ok (.iload_n 1, 1) := by decide +kernel
theorem dX7_unsay_28 : decode cX7_unsay 28 = .ok (.istore_n 2, 1) := by decide +kernel
theorem dX7_unsay_29 : decode cX7_unsay 29 = .ok (.iload_n 2, 1) := by decide +kernel
theorem dX7_unsay_30 : decode cX7_unsay 30 = .ok (.aload_n 0, 1) := by decide +kernel
theorem dX7_unsay_31 : decode cX7_unsay 31 = .ok (.getfield 82, 3) := by decide +kernel
theorem dX7_unsay_34 : decode cX7_unsay 34 = .ok (.if_icmp .ge 51, 3) := by decide +kernel
theorem dX7_unsay_37 : decode cX7_unsay 37 = .ok (.aload_n 0, 1) := by decide +kernel
theorem dX7_unsay_38 : decode cX7_unsay 38 = .ok (.getfield 22, 3) := by decide +kernel
theorem dX7_unsay_41 : decode cX7_unsay 41 = .ok (.iload_n 2, 1) := by decide +kernel
theorem dX7_unsay_42 : decode cX7_unsay 42 = .ok (.aload_n 0, 1) := by decide +kernel
theorem dX7_unsay_43 : decode cX7_unsay 43 = .ok (.getfield 22, 3) := by decide +kernel
theorem dX7_unsay_46 : decode cX7_unsay 46 = .ok (.iload_n 2, 1) := by decide +kernel
theorem dX7_unsay_47 : decode cX7_unsay 47 = .ok (.iconst 1, 1) := by decide +kernel
theorem dX7_unsay_48 : decode cX7_unsay 48 = .ok (.iadd, 1) := by decide +kernel
theorem dX7_unsay_49 : decode cX7_unsay 49 = .ok (.iaload, 1) := by decide +kernel
theorem dX7_unsay_50 : decode cX7_unsay 50 = .ok (.iastore, 1) := by decide +kernel
theorem dX7_unsay_51 : decode cX7_unsay 51 = .ok (.aload_n 0, 1) := by decide +kernel
theorem dX7_unsay_52 : decode cX7_unsay 52 = .ok (.getfield 25, 3) := by decide +kernel
theorem dX7_unsay_55 : decode cX7_unsay 55 = .ok (.iload_n 2, 1) := by decide +kernel
theorem dX7_unsay_56 : decode cX7_unsay 56 = .ok (.aload_n 0, 1) := by decide +kernel
theorem dX7_unsay_57 : decode cX7_unsay 57 = .ok (.getfield 25, 3) := by decide +kernel
theorem dX7_unsay_60 : decode cX7_unsay 60 = .ok (.iload_n 2, 1) := by decide +kernel
theorem dX7_unsay_61 : decode cX7_unsay 61 = .ok (.iconst 1, 1) := by decide +kernel
theorem dX7_unsay_62 : decode cX7_unsay 62 = .ok (.iadd, 1) := by decide +kernel
theorem dX7_unsay_63 : decode cX7_unsay 63 = .ok (.iaload, 1) := by decide +kernel
theorem dX7_unsay_64 : decode cX7_unsay 64 = .ok (.iastore, 1) := by decide +kernel
theorem dX7_unsay_65 : decode cX7_unsay 65 = .ok (.aload_n 0, 1) := by decide +kernel
theorem dX7_unsay_66 : decode cX7_unsay 66 = .ok (.getfield 28, 3) := by decide +kernel
theorem dX7_unsay_69 : decode cX7_unsay 69 = .ok (.iload_n 2, 1) := by decide +kernel
theorem dX7_unsay_70 : decode cX7_unsay 70 = .ok (.aload_n 0, 1) := by decide +kernel
theorem dX7_unsay_71 : decode cX7_unsay 71 = .ok (.getfield 28, 3) := by decide +kernel
theorem dX7_unsay_74 : decode cX7_unsay 74 = .ok (.iload_n 2, 1) := by decide +kernel
theorem dX7_unsay_75 : decode cX7_unsay 75 = .ok (.iconst 1, 1) := by decide +kernel
theorem dX7_unsay_76 : decode cX7_unsay 76 = .ok (.iadd, 1) := by decide +kernel
theorem dX7_unsay_77 : decode cX7_unsay 77 = .ok (.iaload, 1) := by decide +kernel
theorem dX7_unsay_78 : decode cX7_unsay 78 = .ok (.iastore, 1) := by decide +kernel
theorem dX7_unsay_79 : decode cX7_unsay 79 = .ok (.iinc 2 1, 3) := by decide +kernel
theorem dX7_unsay_82 : decode cX7_unsay 82 = .ok (.goto (-53), 3) := by decide +kernel
theorem dX7_unsay_85 : decode cX7_unsay 85 = .ok (.iconst 1, 1) := by decide +kernel
theorem dX7_unsay_86 : decode cX7_unsay 86 = .ok (.ireturn, 1) := by decide +kernel
theorem hd_yX7_unsay : (yX7_unsay).cls ≠ "java/lang/invoke/MethodHandle" ∧ (yX7_unsay).cls ≠ "java/lang/invoke/VarHandle" ∧ (parseMethodDescriptor (yX7_unsay).desc).map (fun d => d.parameters.length) = some 1 := ⟨by decide, by decide, by decide +kernel⟩
def f_X7_unsay_B29  (t1 : (Int32 × ZS)) : Option ((Int32 × ZS) ⊕ (Int32 × ZS)) :=
  (if (t1.2.1 2) ≤ t1.1 then wi (some (1, t1.2)) else ld (t1.2.2.1 5) 18 (t1.1 + 1) (fun y2 => ck (inb t1.1 18) (ld ((setA t1.2 5 (Int32.toNatClampNeg t1.1) y2).2.1 6) 18 (t1.1 + 1) (fun y3 => ck (inb t1.1 18) (ld ((setA (setA t1.2 5 (Int32.toNatClampNeg t1.1) y2) 6 (Int32.toNatClampNeg t1.1) y3).2.1 7) 18 (t1.1 + 1) (fun y4 => ck (inb t1.1 18) (some (.inl (t1.1 + 1, setA (setA (setA t1.2 5 (Int32.toNatClampNeg t1.1) y2) 6 (Int32.toNatClampNeg t1.1) y3) 7 (Int32.toNatClampNeg t1.1) y4)))))))))
def f_X7_unsay (p0 : Int32) (σ : ZS) : Option (Int32 × ZS) :=
  Option.bind (f_X7_in p0 0 ((σ.1 2) - 1)) (fun q1 => (if q1 = 0 then some ((-2), σ) else lp zF (f_X7_unsay_B29) (p0, setI σ 2 ((σ.1 2) - 1))))
set_option maxHeartbeats 4000000 in
set_option maxRecDepth 100000 in
theorem c_X7_unsay (l : Launch) (D : va_G) (A : Nat → Prop) (a : Nat → Nat) (x : ClassId × ClassId × ClassId) (σ : ZS) (p0 : Int32) (r : (Int32 × ZS)) (h : f_X7_unsay p0 σ = some r) : zM l yX7_unsay w_yX7_unsay ({ frames := 1, cells := 0, slots := 0, locals := 22 } : Room) D A (tyz x) [.ref (a 0), .int p0] (wM a x σ) (some (.int r.1)) (wM a x r.2) := by
  refine z_start [.ref (a 0), .int p0] (lv := [(0, .ref (a 0)), (1, .int p0)]) (by decide) (Nat.le_of_ble_eq_true rfl) rfl ?_
  intro p e s m args below meth c C hr hlk
  unfold f_X7_unsay at h
  refine z_iload_n C 1 rfl dX7_unsay_0 ?_
  refine z_iconst C (v := 0) dX7_unsay_1 (by decide) ?_
  refine z_aload_n C 0 rfl dX7_unsay_2 ?_
  refine z_get C iRX7 0 gM_0 rfl 6 (by decide) fl_RX7_82 rfl dX7_unsay_3 ?_
  refine z_iconst C (v := 1) dX7_unsay_6 (by decide) ?_
  refine z_isub C dX7_unsay_7 ?_
  obtain ⟨q1, hq1, h⟩ := bd_spec h
  refine z_callS1 C [.int p0, .int 0, .int ((σ.1 2) - 1)] [] (v := .int q1) rfl (c_X7_in l D A (tyz x) (wM a x σ) p0 0 ((σ.1 2) - 1) q1 hq1) cd_yX7_in in_RX7 ml_RX7_53 sm_yX7_in hd_yX7_in ⟨⟨Nat.le_of_ble_eq_true rfl, Nat.le_of_ble_eq_true rfl⟩, rfl, rfl⟩ rfl (Nat.le_of_ble_eq_true rfl) ⟨Nat.zero_le _, Nat.zero_le _⟩ dX7_unsay_8 ?_
  refine z_if_ne C 17 (by decide) dX7_unsay_11 h (fun h => ?_) (fun h => ?_)
  · refine z_aload_n C 0 rfl dX7_unsay_17 ?_
    refine z_dup C rfl dX7_unsay_18 ?_
    refine z_get C iRX7 0 gM_0 rfl 6 (by decide) fl_RX7_82 rfl dX7_unsay_19 ?_
    refine z_iconst C (v := 1) dX7_unsay_22 (by decide) ?_
    refine z_isub C dX7_unsay_23 ?_
    refine z_put C iRX7 tyX7 tyX7_ok nmX7 0 gM_0 rfl 6 (by decide) fl_RX7_82 rfl (ty := .int) (by decide +kernel) ⟨rfl, rfl⟩ (Nat.le_of_ble_eq_true rfl) pM_0_6 dX7_unsay_24 ?_
    refine z_iload_n C 1 rfl dX7_unsay_27 ?_
    refine z_istore_n C [(2, .int p0), (0, .ref (a 0)), (1, .int p0)] rfl (by decide) rfl dX7_unsay_28 ?_
    refine z_sub C [1, 0] (lv' := [(0, .ref (a 0)), (2, .int p0)]) rfl ?_
    have L29 : ∀ (n : Nat) (t1 : (Int32 × ZS)), lp n (f_X7_unsay_B29) t1 = some r → zV p l e ({ frames := 1, cells := 0, slots := 0, locals := 22 } : Room) s m args below meth c 0 0 (MQ below (zQ D A (some (.int r.1)) (wM a x r.2)) args s 0 0 A) D A 3 (wM a x t1.2) 29 [(0, .ref (a 0)), (2, .int t1.1)] [] := by
      intro n1
      induction n1 with
      | zero => exact fun _ h => (lp_zero h).elim
      | succ n1 ih1 =>
        intro t1 h
        obtain ⟨u1, h, hk1⟩ := lp_succ h
        unfold f_X7_unsay_B29 at h
        refine z_iload_n C 1 rfl dX7_unsay_29 ?_
        refine z_aload_n C 0 rfl dX7_unsay_30 ?_
        refine z_get C iRX7 0 gM_0 rfl 6 (by decide) fl_RX7_82 rfl dX7_unsay_31 ?_
        refine z_icmp_ge C 85 (by decide) dX7_unsay_34 h (fun h => ?_) (fun h => ?_)
        · refine z_iconst C (v := 1) dX7_unsay_85 (by decide) ?_
          have h := unwi h hk1
          cases h
          exact z_iret C hr hlk dX7_unsay_86
        · refine z_aload_n C 0 rfl dX7_unsay_37 ?_
          refine z_get C iRX7 0 gM_0 rfl 7 (by decide) fl_RX7_22 rfl dX7_unsay_38 ?_
          refine z_iload_n C 1 rfl dX7_unsay_41 ?_
          refine z_aload_n C 0 rfl dX7_unsay_42 ?_
          refine z_get C iRX7 0 gM_0 rfl 7 (by decide) fl_RX7_22 rfl dX7_unsay_43 ?_
          refine z_iload_n C 1 rfl dX7_unsay_46 ?_
          refine z_iconst C (v := 1) dX7_unsay_47 (by decide) ?_
          refine z_iadd C dX7_unsay_48 ?_
          refine z_iald C 5 0 gM_5 rfl dX7_unsay_49 h (fun y2 h => ?_)
          refine z_iast C 5 0 gM_5 rfl uM_5 dX7_unsay_50 h (fun h => ?_)
          refine z_aload_n C 0 rfl dX7_unsay_51 ?_
          refine z_get C iRX7 0 gM_0 rfl 8 (by decide) fl_RX7_25 rfl dX7_unsay_52 ?_
          refine z_iload_n C 1 rfl dX7_unsay_55 ?_
          refine z_aload_n C 0 rfl dX7_unsay_56 ?_
          refine z_get C iRX7 0 gM_0 rfl 8 (by decide) fl_RX7_25 rfl dX7_unsay_57 ?_
          refine z_iload_n C 1 rfl dX7_unsay_60 ?_
          refine z_iconst C (v := 1) dX7_unsay_61 (by decide) ?_
          refine z_iadd C dX7_unsay_62 ?_
          refine z_iald C 6 0 gM_6 rfl dX7_unsay_63 h (fun y3 h => ?_)
          refine z_iast C 6 0 gM_6 rfl uM_6 dX7_unsay_64 h (fun h => ?_)
          refine z_aload_n C 0 rfl dX7_unsay_65 ?_
          refine z_get C iRX7 0 gM_0 rfl 9 (by decide) fl_RX7_28 rfl dX7_unsay_66 ?_
          refine z_iload_n C 1 rfl dX7_unsay_69 ?_
          refine z_aload_n C 0 rfl dX7_unsay_70 ?_
          refine z_get C iRX7 0 gM_0 rfl 9 (by decide) fl_RX7_28 rfl dX7_unsay_71 ?_
          refine z_iload_n C 1 rfl dX7_unsay_74 ?_
          refine z_iconst C (v := 1) dX7_unsay_75 (by decide) ?_
          refine z_iadd C dX7_unsay_76 ?_
          refine z_iald C 7 0 gM_7 rfl dX7_unsay_77 h (fun y4 h => ?_)
          refine z_iast C 7 0 gM_7 rfl uM_7 dX7_unsay_78 h (fun h => ?_)
          refine z_iinc C (v := t1.1 + 1) [(2, .int (t1.1 + 1)), (0, .ref (a 0))] 1 rfl rfl (by decide) rfl dX7_unsay_79 ?_
          refine z_goto C 29 (by decide) dX7_unsay_82 ?_
          refine z_sub C [1, 0] (lv' := [(0, .ref (a 0)), (2, .int (t1.1 + 1))]) rfl ?_
          exact ih1 _ (uninl h hk1)
    exact L29 _ _ h
  · refine z_bipush C (v := (-2)) dX7_unsay_14 (by decide) ?_
    cases h
    exact z_iret C hr hlk dX7_unsay_16
theorem dX7_set_0 : decode cX7_set 0 = .ok (.iload_n 1, 1) := by decide +kernel
theorem dX7_set_1 : decode cX7_set 1 = .ok (.iconst 0, 1) := by decide +kernel
theorem dX7_set_2 : decode cX7_set 2 = .ok (.iconst 1, 1) := by decide +kernel
theorem dX7_set_3 : decode cX7_set 3 = .ok (.invokestatic 53, 3) := by decide +kernel
theorem dX7_set_6 : decode cX7_set 6 = .ok (.ifCond .eq 11, 3) := by decide +kernel
theorem dX7_set_9 : decode cX7_set 9 = .ok (.aload_n 0, 1) := by decide +kernel
theorem dX7_set_10 : decode cX7_set 10 = .ok (.iload_n 2, 1) := by decide +kernel
theorem dX7_set_11 : decode cX7_set 11 = .ok (.invokevirtual 61, 3) := by decide +kernel
theorem dX7_set_14 : decode cX7_set 14 = .ok (.ifCond .ne 6, 3) := by decide +kernel
theorem dX7_set_17 : decode cX7_set 17 = .ok (.bipush (-2), 2) := by decide +kernel
theorem dX7_set_19 : decode cX7_set 19 = .ok (.ireturn, 1) := by decide +kernel
theorem dX7_set_20 : decode cX7_set 20 = .ok (.iload_n 1, 1) := by decide +kernel
theorem dX7_set_21 : decode cX7_set 21 = .ok (.ifCond .ne 10, 3) := by decide +kernel
theorem dX7_set_24 : decode cX7_set 24 = .ok (.aload_n 0, 1) := by decide +kernel
theorem dX7_set_25 : decode cX7_set 25 = .ok (.getfield 92, 3) := by decide +kernel
theorem dX7_set_28 : decode cX7_set 28 = .ok (.goto 7, 3) := by decide +kernel
theorem dX7_set_31 : decode cX7_set 31 = .ok (.aload_n 0, 1) := by decide +kernel
theorem dX7_set_32 : decode cX7_set 32 = .ok (.getfield 95, 3) := by decide +kernel
theorem dX7_set_35 : decode cX7_set 35 = .ok (.iload_n 2, 1) := by decide +kernel
theorem dX7_set_36 : decode cX7_set 36 = .ok (.ishr, 1) := by decide +kernel
theorem dX7_set_37 : decode cX7_set 37 = .ok (.iconst 1, 1) := by decide +kernel
theorem dX7_set_38 : decode cX7_set 38 = .ok (.iand, 1) := by decide +kernel
theorem dX7_set_39 : decode cX7_set 39 = .ok (.istore 4, 2) := by decide +kernel
theorem dX7_set_41 : decode cX7_set 41 = .ok (.iload_n 3, 1) := by decide +kernel
theorem dX7_set_42 : decode cX7_set 42 = .ok (.ifCond .eq 9, 3) := by decide +kernel
theorem dX7_set_45 : decode cX7_set 45 = .ok (.iconst 1, 1) := by decide +kernel
theorem dX7_set_46 : decode cX7_set 46 = .ok (.iload_n 2, 1) := by decide +kernel
theorem dX7_set_47 : decode cX7_set 47 = .ok (.ishl, 1) := by decide +kernel
theorem dX7_set_48 : decode cX7_set 48 = .ok (.goto 4, 3) := by decide +kernel
theorem dX7_set_51 : decode cX7_set 51 = .ok (.iconst 0, 1) := by decide +kernel
theorem dX7_set_52 : decode cX7_set 52 = .ok (.istore 5, 2) := by decide +kernel
theorem dX7_set_54 : decode cX7_set 54 = .ok (.iload_n 1, 1) := by decide +kernel
theorem dX7_set_55 : decode cX7_set 55 = .ok (.ifCond .ne 23, 3) := by decide +kernel
theorem dX7_set_58 : decode cX7_set 58 = .ok (.aload_n 0, 1) := by decide +kernel
theorem dX7_set_59 : decode cX7_set 59 = .ok (.aload_n 0, 1) := by decide +kernel
theorem dX7_set_60 : decode cX7_set 60 = .ok (.getfield 92, 3) := by decide +kernel
theorem dX7_set_63 : decode cX7_set 63 = .ok (.iconst 1, 1) := by decide +kernel
theorem dX7_set_64 : decode cX7_set 64 = .ok (.iload_n 2, 1) := by decide +kernel
theorem dX7_set_65 : decode cX7_set 65 = .ok (.ishl, 1) := by decide +kernel
theorem dX7_set_66 : decode cX7_set 66 = .ok (.iconst (-1), 1) := by decide +kernel
theorem dX7_set_67 : decode cX7_set 67 = .ok (.ixor, 1) := by decide +kernel
theorem dX7_set_68 : decode cX7_set 68 = .ok (.iand, 1) := by decide +kernel
theorem dX7_set_69 : decode cX7_set 69 = .ok (.iload 5, 2) := by decide +kernel
theorem dX7_set_71 : decode cX7_set 71 = .ok (.ior, 1) := by decide +kernel
theorem dX7_set_72 : decode cX7_set 72 = .ok (.putfield 92, 3) := by decide +kernel
theorem dX7_set_75 : decode cX7_set 75 = .ok (.goto 20, 3) := by decide +kernel
theorem dX7_set_78 : decode cX7_set 78 = .ok (.aload_n 0, 1) := by decide +kernel
theorem dX7_set_79 : decode cX7_set 79 = .ok (.aload_n 0, 1) := by decide +kernel
theorem dX7_set_80 : decode cX7_set 80 = .ok (.getfield 95, 3) := by decide +kernel
theorem dX7_set_83 : decode cX7_set 83 = .ok (.iconst 1, 1) := by decide +kernel
theorem dX7_set_84 : decode cX7_set 84 = .ok (.iload_n 2, 1) := by decide +kernel
theorem dX7_set_85 : decode cX7_set 85 = .ok (.ishl, 1) := by decide +kernel
theorem dX7_set_86 : decode cX7_set 86 = .ok (.iconst (-1), 1) := by decide +kernel
theorem dX7_set_87 : decode cX7_set 87 = .ok (.ixor, 1) := by decide +kernel
theorem dX7_set_88 : decode cX7_set 88 = .ok (.iand, 1) := by decide +kernel
theorem dX7_set_89 : decode cX7_set 89 = .ok (.iload 5, 2) := by decide +kernel
theorem dX7_set_91 : decode cX7_set 91 = .ok (.ior, 1) := by decide +kernel
theorem dX7_set_92 : decode cX7_set 92 = .ok (.putfield 95, 3) := by decide +kernel
theorem dX7_set_95 : decode cX7_set 95 = .ok (.iload 4, 2) := by decide +kernel
theorem dX7_set_97 : decode cX7_set 97 = .ok (.ireturn, 1) := by decide +kernel
theorem hd_yX7_set : (yX7_set).cls ≠ "java/lang/invoke/MethodHandle" ∧ (yX7_set).cls ≠ "java/lang/invoke/VarHandle" ∧ (parseMethodDescriptor (yX7_set).desc).map (fun d => d.parameters.length) = some 3 := ⟨by decide, by decide, by decide +kernel⟩
def f_X7_set_J52 (l1 : Int32) (l2 : Int32) (l4 : Int32) (s0 : Int32) (σ : ZS) : Option (Int32 × ZS) :=
  (if l1 = 0 then some (l4, setI σ 3 (((σ.1 3) &&& (((1 : Int32) <<< (l2 &&& 31)) ^^^ (-1))) ||| s0)) else some (l4, setI σ 4 (((σ.1 4) &&& (((1 : Int32) <<< (l2 &&& 31)) ^^^ (-1))) ||| s0)))
def f_X7_set_J35 (l1 : Int32) (l2 : Int32) (l3 : Int32) (s0 : Int32) (σ : ZS) : Option (Int32 × ZS) :=
  (if l3 = 0 then f_X7_set_J52 l1 l2 ((s0 >>> (l2 &&& 31)) &&& 1) 0 σ else f_X7_set_J52 l1 l2 ((s0 >>> (l2 &&& 31)) &&& 1) ((1 : Int32) <<< (l2 &&& 31)) σ)
def f_X7_set (p0 : Int32) (p1 : Int32) (p2 : Int32) (σ : ZS) : Option (Int32 × ZS) :=
  Option.bind (f_X7_in p0 0 1) (fun q1 => (if q1 = 0 then some ((-2), σ) else Option.bind (f_X7_isHouse p1 σ) (fun q2 => (if q2 = 0 then some ((-2), σ) else (if p0 = 0 then f_X7_set_J35 p0 p1 p2 (σ.1 3) σ else f_X7_set_J35 p0 p1 p2 (σ.1 4) σ)))))
set_option maxHeartbeats 4000000 in
set_option maxRecDepth 100000 in
theorem c_X7_set (l : Launch) (D : va_G) (A : Nat → Prop) (a : Nat → Nat) (x : ClassId × ClassId × ClassId) (σ : ZS) (p0 : Int32) (p1 : Int32) (p2 : Int32) (r : (Int32 × ZS)) (h : f_X7_set p0 p1 p2 σ = some r) : zM l yX7_set w_yX7_set ({ frames := 2, cells := 0, slots := 0, locals := 43 } : Room) D A (tyz x) [.ref (a 0), .int p0, .int p1, .int p2] (wM a x σ) (some (.int r.1)) (wM a x r.2) := by
  refine z_start [.ref (a 0), .int p0, .int p1, .int p2] (lv := [(0, .ref (a 0)), (1, .int p0), (2, .int p1), (3, .int p2)]) (by decide) (Nat.le_of_ble_eq_true rfl) rfl ?_
  intro p e s m args below meth c C hr hlk
  have J52 : ∀ (l4_52 : Int32) (s0_52 : Int32) (σ_52 : ZS), f_X7_set_J52 p0 p1 l4_52 s0_52 σ_52 = some r → zV p l e ({ frames := 2, cells := 0, slots := 0, locals := 43 } : Room) s m args below meth c 0 0 (MQ below (zQ D A (some (.int r.1)) (wM a x r.2)) args s 0 0 A) D A 6 (wM a x σ_52) 52 [(0, .ref (a 0)), (1, .int p0), (2, .int p1), (4, .int l4_52)] [.int s0_52] := by
    intro l4_52 s0_52 σ_52 h
    unfold f_X7_set_J52 at h
    refine z_istore C [(5, .int s0_52), (0, .ref (a 0)), (1, .int p0), (2, .int p1), (4, .int l4_52)] (by decide) rfl dX7_set_52 ?_
    refine z_iload_n C 2 rfl dX7_set_54 ?_
    refine z_if_ne C 78 (by decide) dX7_set_55 h (fun h => ?_) (fun h => ?_)
    · refine z_aload_n C 1 rfl dX7_set_78 ?_
      refine z_aload_n C 1 rfl dX7_set_79 ?_
      refine z_get C iRX7 0 gM_0 rfl 11 (by decide) fl_RX7_95 rfl dX7_set_80 ?_
      refine z_iconst C (v := 1) dX7_set_83 (by decide) ?_
      refine z_iload_n C 3 rfl dX7_set_84 ?_
      refine z_ishl C dX7_set_85 ?_
      refine z_iconst C (v := (-1)) dX7_set_86 (by decide) ?_
      refine z_ixor C dX7_set_87 ?_
      refine z_iand C dX7_set_88 ?_
      refine z_iload C 0 rfl dX7_set_89 ?_
      refine z_ior C dX7_set_91 ?_
      refine z_put C iRX7 tyX7 tyX7_ok nmX7 0 gM_0 rfl 11 (by decide) fl_RX7_95 rfl (ty := .int) (by decide +kernel) ⟨rfl, rfl⟩ (Nat.le_of_ble_eq_true rfl) pM_0_11 dX7_set_92 ?_
      refine z_iload C 4 rfl dX7_set_95 ?_
      cases h
      exact z_iret C hr hlk dX7_set_97
    · refine z_aload_n C 1 rfl dX7_set_58 ?_
      refine z_aload_n C 1 rfl dX7_set_59 ?_
      refine z_get C iRX7 0 gM_0 rfl 10 (by decide) fl_RX7_92 rfl dX7_set_60 ?_
      refine z_iconst C (v := 1) dX7_set_63 (by decide) ?_
      refine z_iload_n C 3 rfl dX7_set_64 ?_
      refine z_ishl C dX7_set_65 ?_
      refine z_iconst C (v := (-1)) dX7_set_66 (by decide) ?_
      refine z_ixor C dX7_set_67 ?_
      refine z_iand C dX7_set_68 ?_
      refine z_iload C 0 rfl dX7_set_69 ?_
      refine z_ior C dX7_set_71 ?_
      refine z_put C iRX7 tyX7 tyX7_ok nmX7 0 gM_0 rfl 10 (by decide) fl_RX7_92 rfl (ty := .int) (by decide +kernel) ⟨rfl, rfl⟩ (Nat.le_of_ble_eq_true rfl) pM_0_10 dX7_set_72 ?_
      refine z_goto C 95 (by decide) dX7_set_75 ?_
      refine z_iload C 4 rfl dX7_set_95 ?_
      cases h
      exact z_iret C hr hlk dX7_set_97
  have J35 : ∀ (s0_35 : Int32) (σ_35 : ZS), f_X7_set_J35 p0 p1 p2 s0_35 σ_35 = some r → zV p l e ({ frames := 2, cells := 0, slots := 0, locals := 43 } : Room) s m args below meth c 0 0 (MQ below (zQ D A (some (.int r.1)) (wM a x r.2)) args s 0 0 A) D A 6 (wM a x σ_35) 35 [(0, .ref (a 0)), (1, .int p0), (2, .int p1), (3, .int p2)] [.int s0_35] := by
    intro s0_35 σ_35 h
    unfold f_X7_set_J35 at h
    refine z_iload_n C 2 rfl dX7_set_35 ?_
    refine z_ishr C dX7_set_36 ?_
    refine z_iconst C (v := 1) dX7_set_37 (by decide) ?_
    refine z_iand C dX7_set_38 ?_
    refine z_istore C [(4, .int ((s0_35 >>> (p1 &&& 31)) &&& 1)), (0, .ref (a 0)), (1, .int p0), (2, .int p1), (3, .int p2)] (by decide) rfl dX7_set_39 ?_
    refine z_iload_n C 4 rfl dX7_set_41 ?_
    refine z_if_eq C 51 (by decide) dX7_set_42 h (fun h => ?_) (fun h => ?_)
    · refine z_iconst C (v := 0) dX7_set_51 (by decide) ?_
      refine z_sub C [1, 2, 3, 0] (lv' := [(0, .ref (a 0)), (1, .int p0), (2, .int p1), (4, .int ((s0_35 >>> (p1 &&& 31)) &&& 1))]) rfl ?_
      exact J52 _ _ _ h
    · refine z_iconst C (v := 1) dX7_set_45 (by decide) ?_
      refine z_iload_n C 3 rfl dX7_set_46 ?_
      refine z_ishl C dX7_set_47 ?_
      refine z_goto C 52 (by decide) dX7_set_48 ?_
      refine z_sub C [1, 2, 3, 0] (lv' := [(0, .ref (a 0)), (1, .int p0), (2, .int p1), (4, .int ((s0_35 >>> (p1 &&& 31)) &&& 1))]) rfl ?_
      exact J52 _ _ _ h
  unfold f_X7_set at h
  refine z_iload_n C 1 rfl dX7_set_0 ?_
  refine z_iconst C (v := 0) dX7_set_1 (by decide) ?_
  refine z_iconst C (v := 1) dX7_set_2 (by decide) ?_
  obtain ⟨q1, hq1, h⟩ := bd_spec h
  refine z_callS1 C [.int p0, .int 0, .int 1] [] (v := .int q1) rfl (c_X7_in l D A (tyz x) (wM a x σ) p0 0 1 q1 hq1) cd_yX7_in in_RX7 ml_RX7_53 sm_yX7_in hd_yX7_in ⟨⟨Nat.le_of_ble_eq_true rfl, Nat.le_of_ble_eq_true rfl⟩, rfl, rfl⟩ rfl (Nat.le_of_ble_eq_true rfl) ⟨Nat.zero_le _, Nat.zero_le _⟩ dX7_set_3 ?_
  refine z_if_eq C 17 (by decide) dX7_set_6 h (fun h => ?_) (fun h => ?_)
  · refine z_bipush C (v := (-2)) dX7_set_17 (by decide) ?_
    cases h
    exact z_iret C hr hlk dX7_set_19
  · refine z_aload_n C 0 rfl dX7_set_9 ?_
    refine z_iload_n C 2 rfl dX7_set_10 ?_
    obtain ⟨q2, hq2, h⟩ := bd_spec h
    refine z_callV1 C [.int p1] [] (v := (.int q2)) rfl (c_X7_isHouse l D A a x σ p1 q2 hq2) cd_yX7_isHouse in_RX7 ml_RX7_61 im_yX7_isHouse sl_yX7_isHouse gM_0 rfl hd_yX7_isHouse ⟨⟨Nat.le_of_ble_eq_true rfl, Nat.le_of_ble_eq_true rfl⟩, rfl, rfl⟩ rfl (Nat.le_of_ble_eq_true rfl) ⟨Nat.zero_le _, Nat.zero_le _⟩ dX7_set_11 ?_
    refine z_if_ne C 20 (by decide) dX7_set_14 h (fun h => ?_) (fun h => ?_)
    · refine z_iload_n C 1 rfl dX7_set_20 ?_
      refine z_if_ne C 31 (by decide) dX7_set_21 h (fun h => ?_) (fun h => ?_)
      · refine z_aload_n C 0 rfl dX7_set_31 ?_
        refine z_get C iRX7 0 gM_0 rfl 11 (by decide) fl_RX7_95 rfl dX7_set_32 ?_
        exact J35 _ _ h
      · refine z_aload_n C 0 rfl dX7_set_24 ?_
        refine z_get C iRX7 0 gM_0 rfl 10 (by decide) fl_RX7_92 rfl dX7_set_25 ?_
        refine z_goto C 35 (by decide) dX7_set_28 ?_
        exact J35 _ _ h
    · refine z_bipush C (v := (-2)) dX7_set_17 (by decide) ?_
      cases h
      exact z_iret C hr hlk dX7_set_19
