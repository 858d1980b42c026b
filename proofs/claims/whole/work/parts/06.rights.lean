theorem dX2_number_0 : decode cX2_number 0 = .ok (.aload_n 0, 1) := by decide +kernel
theorem dX2_number_1 : decode cX2_number 1 = .ok (.getfield 15, 3) := by decide +kernel
theorem dX2_number_4 : decode cX2_number 4 = .ok (.ireturn, 1) := by decide +kernel
theorem hd_yX2_number : (yX2_number).cls ≠ "java/lang/invoke/MethodHandle" ∧ (yX2_number).cls ≠ "java/lang/invoke/VarHandle" ∧ (parseMethodDescriptor (yX2_number).desc).map (fun d => d.parameters.length) = some 0 := ⟨by decide, by decide, by decide +kernel⟩
def f_X2_number  (σ : ZS) : Option Int32 :=
  some (σ.1 4)
set_option maxHeartbeats 4000000 in
set_option maxRecDepth 100000 in
theorem c_X2_number (l : Launch) (D : va_G) (A : Nat → Prop) (a : Nat → Nat) (x : ClassId × ClassId × ClassId) (σ : ZS)  (r : Int32) (h : f_X2_number  σ = some r) : zM l yX2_number w_yX2_number ({ frames := 0, cells := 0, slots := 0, locals := 0 } : Room) D A (tyz x) [.ref (a 2)] (wC a x σ) (some (.int r)) (wC a x σ) := by
  refine z_start [.ref (a 2)] (lv := [(0, .ref (a 2))]) (by decide) (Nat.le_of_ble_eq_true rfl) rfl ?_
  intro p e s m args below meth c C hr hlk
  unfold f_X2_number at h
  refine z_aload_n C 0 rfl dX2_number_0 ?_
  refine z_get C iRX2 2 gC_2 rfl 0 (by decide) fl_RX2_15 rfl dX2_number_1 ?_
  cases h
  exact z_iret C hr hlk dX2_number_4
theorem dX2_holder_0 : decode cX2_holder 0 = .ok (.iload_n 1, 1) := by decide +kernel
theorem dX2_holder_1 : decode cX2_holder 1 = .ok (.invokestatic 19, 3) := by decide +kernel
theorem dX2_holder_4 : decode cX2_holder 4 = .ok (.ifCond .eq 12, 3) := by decide +kernel
theorem dX2_holder_7 : decode cX2_holder 7 = .ok (.aload_n 0, 1) := by decide +kernel
theorem dX2_holder_8 : decode cX2_holder 8 = .ok (.getfield 9, 3) := by decide +kernel
theorem dX2_holder_11 : decode cX2_holder 11 = .ok (.iload_n 1, 1) := by decide +kernel
theorem dX2_holder_12 : decode cX2_holder 12 = .ok (.iaload, 1) := by decide +kernel
theorem dX2_holder_13 : decode cX2_holder 13 = .ok (.goto 4, 3) := by decide +kernel
theorem dX2_holder_16 : decode cX2_holder 16 = .ok (.iconst (-1), 1) := by decide +kernel
theorem dX2_holder_17 : decode cX2_holder 17 = .ok (.ireturn, 1) := by decide +kernel
theorem hd_yX2_holder : (yX2_holder).cls ≠ "java/lang/invoke/MethodHandle" ∧ (yX2_holder).cls ≠ "java/lang/invoke/VarHandle" ∧ (parseMethodDescriptor (yX2_holder).desc).map (fun d => d.parameters.length) = some 1 := ⟨by decide, by decide, by decide +kernel⟩
def f_X2_holder (p0 : Int32) (σ : ZS) : Option Int32 :=
  Option.bind (f_X6_isBlock p0) (fun q1 => (if q1 = 0 then some (-1) else ld (σ.2.1 8) 128 p0 (fun y2 => some y2)))
set_option maxHeartbeats 4000000 in
set_option maxRecDepth 100000 in
theorem c_X2_holder (l : Launch) (D : va_G) (A : Nat → Prop) (a : Nat → Nat) (x : ClassId × ClassId × ClassId) (σ : ZS) (p0 : Int32) (r : Int32) (h : f_X2_holder p0 σ = some r) : zM l yX2_holder w_yX2_holder ({ frames := 1, cells := 0, slots := 0, locals := 20 } : Room) D A (tyz x) [.ref (a 2), .int p0] (wC a x σ) (some (.int r)) (wC a x σ) := by
  refine z_start [.ref (a 2), .int p0] (lv := [(0, .ref (a 2)), (1, .int p0)]) (by decide) (Nat.le_of_ble_eq_true rfl) rfl ?_
  intro p e s m args below meth c C hr hlk
  unfold f_X2_holder at h
  refine z_iload_n C 1 rfl dX2_holder_0 ?_
  obtain ⟨q1, hq1, h⟩ := bd_spec h
  refine z_callSN1 C [.int p0] [] (v := .int q1) 5 rfl (c_X6_isBlock l D A (tyz x) (wC a x σ) p0 q1 hq1) cd_yX6_isBlock in_RX6 rfl sm_yX6_isBlock hd_yX6_isBlock ⟨⟨Nat.le_of_ble_eq_true rfl, Nat.le_of_ble_eq_true rfl⟩, rfl, rfl⟩ rfl (Nat.le_of_ble_eq_true rfl) ⟨Nat.zero_le _, Nat.zero_le _⟩ dX2_holder_1 ?_
  refine z_if_eq C 16 (by decide) dX2_holder_4 h (fun h => ?_) (fun h => ?_)
  · refine z_iconst C (v := (-1)) dX2_holder_16 (by decide) ?_
    cases h
    exact z_iret C hr hlk dX2_holder_17
  · refine z_aload_n C 0 rfl dX2_holder_7 ?_
    refine z_get C iRX2 2 gC_2 rfl 1 (by decide) fl_RX2_9 rfl dX2_holder_8 ?_
    refine z_iload_n C 1 rfl dX2_holder_11 ?_
    refine z_iald C 8 0 gC_8 rfl dX2_holder_12 h (fun y2 h => ?_)
    refine z_goto C 17 (by decide) dX2_holder_13 ?_
    cases h
    exact z_iret C hr hlk dX2_holder_17
theorem dX2_give_0 : decode cX2_give 0 = .ok (.iload_n 1, 1) := by decide +kernel
theorem dX2_give_1 : decode cX2_give 1 = .ok (.invokestatic 19, 3) := by decide +kernel
theorem dX2_give_4 : decode cX2_give 4 = .ok (.ifCond .ne 4, 3) := by decide +kernel
theorem dX2_give_7 : decode cX2_give 7 = .ok (.return_, 1) := by decide +kernel
theorem dX2_give_8 : decode cX2_give 8 = .ok (.aload_n 0, 1) := by decide +kernel
theorem dX2_give_9 : decode cX2_give 9 = .ok (.dup, 1) := by decide +kernel
theorem dX2_give_10 : decode cX2_give 10 = .ok (.getfield 15, 3) := by decide +kernel
theorem dX2_give_13 : decode cX2_give 13 = .ok (.iload_n 2, 1) := by decide +kernel
theorem dX2_give_14 : decode cX2_give 14 = .ok (.iconst (-1), 1) := by decide +kernel
theorem dX2_give_15 : decode cX2_give 15 = .ok (.if_icmp .ne 7, 3) := by decide +kernel
theorem dX2_give_18 : decode cX2_give 18 = .ok (.iconst 0, 1) := by decide +kernel
theorem dX2_give_19 : decode cX2_give 19 = .ok (.goto 4, 3) := by decide +kernel
theorem dX2_give_22 : decode cX2_give 22 = .ok (.iconst 1, 1) := by decide +kernel
theorem dX2_give_23 : decode cX2_give 23 = .ok (.aload_n 0, 1) := by decide +kernel
theorem dX2_give_24 : decode cX2_give 24 = .ok (.getfield 9, 3) := by decide +kernel
theorem dX2_give_27 : decode cX2_give 27 = .ok (.iload_n 1, 1) := by decide +kernel
theorem dX2_give_28 : decode cX2_give 28 = .ok (.iaload, 1) := by decide +kernel
theorem dX2_give_29 : decode cX2_give 29 = .ok (.iconst (-1), 1) := by decide +kernel
theorem dX2_give_30 : decode cX2_give 30 = .ok (.if_icmp .ne 7, 3) := by decide +kernel
theorem dX2_give_33 : decode cX2_give 33 = .ok (.iconst 0, 1) := by decide +kernel
theorem dX2_give_34 : decode cX2_give 34 = .ok (.goto 4, 3) := by decide +kernel
theorem dX2_give_37 : decode cX2_give 37 = .ok (.iconst 1, 1) := by decide +kernel
theorem dX2_give_38 : decode cX2_give 38 = .ok (.isub, 1) := by decide +kernel
theorem dX2_give_39 : decode cX2_give 39 = .ok (.iadd, 1) := by decide +kernel
theorem dX2_give_40 : decode cX2_give 40 = .ok (.putfield 15, 3) := by decide +kernel
theorem dX2_give_43 : decode cX2_give 43 = .ok (.aload_n 0, 1) := by decide +kernel
theorem dX2_give_44 : decode cX2_give 44 = .ok (.getfield 9, 3) := by decide +kernel
theorem dX2_give_47 : decode cX2_give 47 = .ok (.iload_n 1, 1) := by decide +kernel
theorem dX2_give_48 : decode cX2_give 48 = .ok (.iload_n 2, 1) := by decide +kernel
theorem dX2_give_49 : decode cX2_give 49 = .ok (.iastore, 1) := by decide +kernel
theorem dX2_give_50 : decode cX2_give 50 = .ok (.return_, 1) := by decide +kernel
theorem hd_yX2_give : (yX2_give).cls ≠ "java/lang/invoke/MethodHandle" ∧ (yX2_give).cls ≠ "java/lang/invoke/VarHandle" ∧ (parseMethodDescriptor (yX2_give).desc).map (fun d => d.parameters.length) = some 2 := ⟨by decide, by decide, by decide +kernel⟩
def f_X2_give_J38 (l1 : Int32) (l2 : Int32) (s0 : Int32) (s1 : Int32) (s2 : Int32) (σ : ZS) : Option ZS :=
  ck (inb l1 128) (some (setA (setI σ 4 (s2 + (s1 - s0))) 8 (Int32.toNatClampNeg l1) l2))
def f_X2_give_J23 (l1 : Int32) (l2 : Int32) (s0 : Int32) (s1 : Int32) (σ : ZS) : Option ZS :=
  ld (σ.2.1 8) 128 l1 (fun y2 => (if y2 = (-1) then f_X2_give_J38 l1 l2 0 s0 s1 σ else f_X2_give_J38 l1 l2 1 s0 s1 σ))
def f_X2_give (p0 : Int32) (p1 : Int32) (σ : ZS) : Option ZS :=
  Option.bind (f_X6_isBlock p0) (fun q1 => (if q1 = 0 then some σ else (if p1 = (-1) then f_X2_give_J23 p0 p1 0 (σ.1 4) σ else f_X2_give_J23 p0 p1 1 (σ.1 4) σ)))
set_option maxHeartbeats 4000000 in
set_option maxRecDepth 100000 in
theorem c_X2_give (l : Launch) (D : va_G) (A : Nat → Prop) (a : Nat → Nat) (x : ClassId × ClassId × ClassId) (σ : ZS) (p0 : Int32) (p1 : Int32) (r : ZS) (h : f_X2_give p0 p1 σ = some r) : zM l yX2_give w_yX2_give ({ frames := 1, cells := 0, slots := 0, locals := 20 } : Room) D A (tyz x) [.ref (a 2), .int p0, .int p1] (wC a x σ) none (wC a x r) := by
  refine z_start [.ref (a 2), .int p0, .int p1] (lv := [(0, .ref (a 2)), (1, .int p0), (2, .int p1)]) (by decide) (Nat.le_of_ble_eq_true rfl) rfl ?_
  intro p e s m args below meth c C hr hlk
  have J38 : ∀ (s0_38 : Int32) (s1_38 : Int32) (s2_38 : Int32) (σ_38 : ZS), f_X2_give_J38 p0 p1 s0_38 s1_38 s2_38 σ_38 = some r → zV p l e ({ frames := 1, cells := 0, slots := 0, locals := 20 } : Room) s m args below meth c 0 0 (MQ below (zQ D A none (wC a x r)) args s 0 0 A) D A 3 (wC a x σ_38) 38 [(0, .ref (a 2)), (1, .int p0), (2, .int p1)] [.int s0_38, .int s1_38, .int s2_38, .ref (a 2)] := by
    intro s0_38 s1_38 s2_38 σ_38 h
    unfold f_X2_give_J38 at h
    refine z_isub C dX2_give_38 ?_
    refine z_iadd C dX2_give_39 ?_
    refine z_put C iRX2 tyX2 tyX2_ok nmX2 2 gC_2 rfl 0 (by decide) fl_RX2_15 rfl (ty := .int) (by decide +kernel) ⟨rfl, rfl⟩ (Nat.le_of_ble_eq_true rfl) pC_2_0 dX2_give_40 ?_
    refine z_aload_n C 0 rfl dX2_give_43 ?_
    refine z_get C iRX2 2 gC_2 rfl 1 (by decide) fl_RX2_9 rfl dX2_give_44 ?_
    refine z_iload_n C 1 rfl dX2_give_47 ?_
    refine z_iload_n C 2 rfl dX2_give_48 ?_
    refine z_iast C 8 0 gC_8 rfl uC_8 dX2_give_49 h (fun h => ?_)
    cases h
    exact z_vret C hr hlk dX2_give_50
  have J23 : ∀ (s0_23 : Int32) (s1_23 : Int32) (σ_23 : ZS), f_X2_give_J23 p0 p1 s0_23 s1_23 σ_23 = some r → zV p l e ({ frames := 1, cells := 0, slots := 0, locals := 20 } : Room) s m args below meth c 0 0 (MQ below (zQ D A none (wC a x r)) args s 0 0 A) D A 3 (wC a x σ_23) 23 [(0, .ref (a 2)), (1, .int p0), (2, .int p1)] [.int s0_23, .int s1_23, .ref (a 2)] := by
    intro s0_23 s1_23 σ_23 h
    unfold f_X2_give_J23 at h
    refine z_aload_n C 0 rfl dX2_give_23 ?_
    refine z_get C iRX2 2 gC_2 rfl 1 (by decide) fl_RX2_9 rfl dX2_give_24 ?_
    refine z_iload_n C 1 rfl dX2_give_27 ?_
    refine z_iald C 8 0 gC_8 rfl dX2_give_28 h (fun y1 h => ?_)
    refine z_iconst C (v := (-1)) dX2_give_29 (by decide) ?_
    refine z_icmp_ne C 37 (by decide) dX2_give_30 h (fun h => ?_) (fun h => ?_)
    · refine z_iconst C (v := 1) dX2_give_37 (by decide) ?_
      exact J38 _ _ _ _ h
    · refine z_iconst C (v := 0) dX2_give_33 (by decide) ?_
      refine z_goto C 38 (by decide) dX2_give_34 ?_
      exact J38 _ _ _ _ h
  unfold f_X2_give at h
  refine z_iload_n C 1 rfl dX2_give_0 ?_
  obtain ⟨q2, hq2, h⟩ := bd_spec h
  refine z_callSN1 C [.int p0] [] (v := .int q2) 5 rfl (c_X6_isBlock l D A (tyz x) (wC a x σ) p0 q2 hq2) cd_yX6_isBlock in_RX6 rfl sm_yX6_isBlock hd_yX6_isBlock ⟨⟨Nat.le_of_ble_eq_true rfl, Nat.le_of_ble_eq_true rfl⟩, rfl, rfl⟩ rfl (Nat.le_of_ble_eq_true rfl) ⟨Nat.zero_le _, Nat.zero_le _⟩ dX2_give_1 ?_
  refine z_if_ne C 8 (by decide) dX2_give_4 h (fun h => ?_) (fun h => ?_)
  · refine z_aload_n C 0 rfl dX2_give_8 ?_
    refine z_dup C rfl dX2_give_9 ?_
    refine z_get C iRX2 2 gC_2 rfl 0 (by decide) fl_RX2_15 rfl dX2_give_10 ?_
    refine z_iload_n C 2 rfl dX2_give_13 ?_
    refine z_iconst C (v := (-1)) dX2_give_14 (by decide) ?_
    refine z_icmp_ne C 22 (by decide) dX2_give_15 h (fun h => ?_) (fun h => ?_)
    · refine z_iconst C (v := 1) dX2_give_22 (by decide) ?_
      exact J23 _ _ _ h
    · refine z_iconst C (v := 0) dX2_give_18 (by decide) ?_
      refine z_goto C 23 (by decide) dX2_give_19 ?_
      exact J23 _ _ _ h
  · cases h
    exact z_vret C hr hlk dX2_give_7
theorem dX2_owner_0 : decode cX2_owner 0 = .ok (.iload_n 1, 1) := by decide +kernel
theorem dX2_owner_1 : decode cX2_owner 1 = .ok (.istore_n 2, 1) := by decide +kernel
theorem dX2_owner_2 : decode cX2_owner 2 = .ok (.iload_n 2, 1) := by decide +kernel
theorem dX2_owner_3 : decode cX2_owner 3 = .ok (.iconst 1, 1) := by decide +kernel
theorem dX2_owner_4 : decode cX2_owner 4 = .ok (.if_icmp .lt 23, 3) := by decide +kernel
theorem dX2_owner_7 : decode cX2_owner 7 = .ok (.aload_n 0, 1) := by decide +kernel
theorem dX2_owner_8 : decode cX2_owner 8 = .ok (.iload_n 2, 1) := by decide +kernel
theorem dX2_owner_9 : decode cX2_owner 9 = .ok (.invokevirtual 23, 3) := by decide +kernel
theorem dX2_owner_12 : decode cX2_owner 12 = .ok (.istore_n 3, 1) := by decide +kernel
theorem dX2_owner_13 : decode cX2_owner 13 = .ok (.iload_n 3, 1) := by decide +kernel
theorem dX2_owner_14 : decode cX2_owner 14 = .ok (.iconst (-1), 1) := by decide +kernel
theorem dX2_owner_15 : decode cX2_owner 15 = .ok (.if_icmp .eq 5, 3) := by decide +kernel
theorem dX2_owner_18 : decode cX2_owner 18 = .ok (.iload_n 3, 1) := by decide +kernel
theorem dX2_owner_19 : decode cX2_owner 19 = .ok (.ireturn, 1) := by decide +kernel
theorem dX2_owner_20 : decode cX2_owner 20 = .ok (.iload_n 2, 1) := by decide +kernel
theorem dX2_owner_21 : decode cX2_owner 21 = .ok (.iconst 1, 1) := by decide +kernel
theorem dX2_owner_22 : decode cX2_owner 22 = .ok (.ishr, 1) := by decide +kernel
theorem dX2_owner_23 : decode cX2_owner 23 = .ok (.istore_n 2, 1) := by decide +kernel
theorem dX2_owner_24 : decode cX2_owner 24 = .ok (.goto (-22), 3) := by decide +kernel
theorem dX2_owner_27 : decode cX2_owner 27 = .ok (.iconst (-1), 1) := by decide +kernel
theorem dX2_owner_28 : decode cX2_owner 28 = .ok (.ireturn, 1) := by decide +kernel
theorem hd_yX2_owner : (yX2_owner).cls ≠ "java/lang/invoke/MethodHandle" ∧ (yX2_owner).cls ≠ "java/lang/invoke/VarHandle" ∧ (parseMethodDescriptor (yX2_owner).desc).map (fun d => d.parameters.length) = some 1 := ⟨by decide, by decide, by decide +kernel⟩
def f_X2_owner_B2 (σ : ZS) (t1 : Int32) : Option (Int32 ⊕ Int32) :=
  (if t1 < 1 then wi (some (-1)) else Option.bind (f_X2_holder t1 σ) (fun q1 => (if q1 = (-1) then some (.inl (t1 >>> (1 &&& 31))) else wi (some q1))))
def f_X2_owner (p0 : Int32) (σ : ZS) : Option Int32 :=
  lp zF (f_X2_owner_B2 σ) p0
set_option maxHeartbeats 4000000 in
set_option maxRecDepth 100000 in
theorem c_X2_owner (l : Launch) (D : va_G) (A : Nat → Prop) (a : Nat → Nat) (x : ClassId × ClassId × ClassId) (σ : ZS) (p0 : Int32) (r : Int32) (h : f_X2_owner p0 σ = some r) : zM l yX2_owner w_yX2_owner ({ frames := 2, cells := 0, slots := 0, locals := 41 } : Room) D A (tyz x) [.ref (a 2), .int p0] (wC a x σ) (some (.int r)) (wC a x σ) := by
  refine z_start [.ref (a 2), .int p0] (lv := [(0, .ref (a 2)), (1, .int p0)]) (by decide) (Nat.le_of_ble_eq_true rfl) rfl ?_
  intro p e s m args below meth c C hr hlk
  unfold f_X2_owner at h
  refine z_iload_n C 1 rfl dX2_owner_0 ?_
  refine z_istore_n C [(2, .int p0), (0, .ref (a 2)), (1, .int p0)] rfl (by decide) rfl dX2_owner_1 ?_
  refine z_sub C [1, 0] (lv' := [(0, .ref (a 2)), (2, .int p0)]) rfl ?_
  have L2 : ∀ (n : Nat) (t1 : Int32), lp n (f_X2_owner_B2 σ) t1 = some r → zV p l e ({ frames := 2, cells := 0, slots := 0, locals := 41 } : Room) s m args below meth c 0 0 (MQ below (zQ D A (some (.int r)) (wC a x σ)) args s 0 0 A) D A 4 (wC a x σ) 2 [(0, .ref (a 2)), (2, .int t1)] [] := by
    intro n1
    induction n1 with
    | zero => exact fun _ h => (lp_zero h).elim
    | succ n1 ih1 =>
      intro t1 h
      obtain ⟨u1, h, hk1⟩ := lp_succ h
      unfold f_X2_owner_B2 at h
      refine z_iload_n C 1 rfl dX2_owner_2 ?_
      refine z_iconst C (v := 1) dX2_owner_3 (by decide) ?_
      refine z_icmp_lt C 27 (by decide) dX2_owner_4 h (fun h => ?_) (fun h => ?_)
      · refine z_iconst C (v := (-1)) dX2_owner_27 (by decide) ?_
        have h := unwi h hk1
        cases h
        exact z_iret C hr hlk dX2_owner_28
      · refine z_aload_n C 0 rfl dX2_owner_7 ?_
        refine z_iload_n C 1 rfl dX2_owner_8 ?_
        obtain ⟨q1, hq1, h⟩ := bd_spec h
        refine z_callV1 C [.int t1] [] (v := (.int q1)) rfl (c_X2_holder l D A a x σ t1 q1 hq1) cd_yX2_holder in_RX2 ml_RX2_23 im_yX2_holder sl_yX2_holder gC_2 rfl hd_yX2_holder ⟨⟨Nat.le_of_ble_eq_true rfl, Nat.le_of_ble_eq_true rfl⟩, rfl, rfl⟩ rfl (Nat.le_of_ble_eq_true rfl) ⟨Nat.zero_le _, Nat.zero_le _⟩ dX2_owner_9 ?_
        refine z_istore_n C [(3, .int q1), (0, .ref (a 2)), (2, .int t1)] rfl (by decide) rfl dX2_owner_12 ?_
        refine z_iload_n C 0 rfl dX2_owner_13 ?_
        refine z_iconst C (v := (-1)) dX2_owner_14 (by decide) ?_
        refine z_icmp_eq C 20 (by decide) dX2_owner_15 h (fun h => ?_) (fun h => ?_)
        · refine z_iload_n C 2 rfl dX2_owner_20 ?_
          refine z_iconst C (v := 1) dX2_owner_21 (by decide) ?_
          refine z_ishr C dX2_owner_22 ?_
          refine z_istore_n C [(2, .int (t1 >>> (1 &&& 31))), (3, .int q1), (0, .ref (a 2))] rfl (by decide) rfl dX2_owner_23 ?_
          refine z_goto C 2 (by decide) dX2_owner_24 ?_
          refine z_sub C [2, 0] (lv' := [(0, .ref (a 2)), (2, .int (t1 >>> (1 &&& 31)))]) rfl ?_
          exact ih1 _ (uninl h hk1)
        · refine z_iload_n C 0 rfl dX2_owner_18 ?_
          have h := unwi h hk1
          cases h
          exact z_iret C hr hlk dX2_owner_19
  exact L2 _ _ h
theorem dX3_number_0 : decode cX3_number 0 = .ok (.aload_n 0, 1) := by decide +kernel
theorem dX3_number_1 : decode cX3_number 1 = .ok (.getfield 21, 3) := by decide +kernel
theorem dX3_number_4 : decode cX3_number 4 = .ok (.ireturn, 1) := by decide +kernel
theorem hd_yX3_number : (yX3_number).cls ≠ "java/lang/invoke/MethodHandle" ∧ (yX3_number).cls ≠ "java/lang/invoke/VarHandle" ∧ (parseMethodDescriptor (yX3_number).desc).map (fun d => d.parameters.length) = some 0 := ⟨by decide, by decide, by decide +kernel⟩
def f_X3_number  (σ : ZS) : Option Int32 :=
  some (σ.1 5)
set_option maxHeartbeats 4000000 in
set_option maxRecDepth 100000 in
theorem c_X3_number (l : Launch) (D : va_G) (A : Nat → Prop) (a : Nat → Nat) (x : ClassId × ClassId × ClassId) (σ : ZS)  (r : Int32) (h : f_X3_number  σ = some r) : zM l yX3_number w_yX3_number ({ frames := 0, cells := 0, slots := 0, locals := 0 } : Room) D A (tyz x) [.ref (a 3)] (wC a x σ) (some (.int r)) (wC a x σ) := by
  refine z_start [.ref (a 3)] (lv := [(0, .ref (a 3))]) (by decide) (Nat.le_of_ble_eq_true rfl) rfl ?_
  intro p e s m args below meth c C hr hlk
  unfold f_X3_number at h
  refine z_aload_n C 0 rfl dX3_number_0 ?_
  refine z_get C iRX3 3 gC_3 rfl 0 (by decide) fl_RX3_21 rfl dX3_number_1 ?_
  cases h
  exact z_iret C hr hlk dX3_number_4
theorem dX3_has_0 : decode cX3_has 0 = .ok (.iload_n 1, 1) := by decide +kernel
theorem dX3_has_1 : decode cX3_has 1 = .ok (.ifCond .lt 21, 3) := by decide +kernel
theorem dX3_has_4 : decode cX3_has 4 = .ok (.iload_n 1, 1) := by decide +kernel
theorem dX3_has_5 : decode cX3_has 5 = .ok (.aload_n 0, 1) := by decide +kernel
theorem dX3_has_6 : decode cX3_has 6 = .ok (.getfield 21, 3) := by decide +kernel
theorem dX3_has_9 : decode cX3_has 9 = .ok (.if_icmp .ge 13, 3) := by decide +kernel
theorem dX3_has_12 : decode cX3_has 12 = .ok (.iload_n 1, 1) := by decide +kernel
theorem dX3_has_13 : decode cX3_has 13 = .ok (.bipush 16, 2) := by decide +kernel
theorem dX3_has_15 : decode cX3_has 15 = .ok (.if_icmp .ge 7, 3) := by decide +kernel
theorem dX3_has_18 : decode cX3_has 18 = .ok (.iconst 1, 1) := by decide +kernel
theorem dX3_has_19 : decode cX3_has 19 = .ok (.goto 4, 3) := by decide +kernel
theorem dX3_has_22 : decode cX3_has 22 = .ok (.iconst 0, 1) := by decide +kernel
theorem dX3_has_23 : decode cX3_has 23 = .ok (.ireturn, 1) := by decide +kernel
theorem hd_yX3_has : (yX3_has).cls ≠ "java/lang/invoke/MethodHandle" ∧ (yX3_has).cls ≠ "java/lang/invoke/VarHandle" ∧ (parseMethodDescriptor (yX3_has).desc).map (fun d => d.parameters.length) = some 1 := ⟨by decide, by decide, by decide +kernel⟩
def f_X3_has (p0 : Int32) (σ : ZS) : Option Int32 :=
  (if p0 < 0 then some 0 else (if (σ.1 5) ≤ p0 then some 0 else (if 16 ≤ p0 then some 0 else some 1)))
set_option maxHeartbeats 4000000 in
set_option maxRecDepth 100000 in
theorem c_X3_has (l : Launch) (D : va_G) (A : Nat → Prop) (a : Nat → Nat) (x : ClassId × ClassId × ClassId) (σ : ZS) (p0 : Int32) (r : Int32) (h : f_X3_has p0 σ = some r) : zM l yX3_has w_yX3_has ({ frames := 0, cells := 0, slots := 0, locals := 0 } : Room) D A (tyz x) [.ref (a 3), .int p0] (wC a x σ) (some (.int r)) (wC a x σ) := by
  refine z_start [.ref (a 3), .int p0] (lv := [(0, .ref (a 3)), (1, .int p0)]) (by decide) (Nat.le_of_ble_eq_true rfl) rfl ?_
  intro p e s m args below meth c C hr hlk
  unfold f_X3_has at h
  refine z_iload_n C 1 rfl dX3_has_0 ?_
  refine z_if_lt C 22 (by decide) dX3_has_1 h (fun h => ?_) (fun h => ?_)
  · refine z_iconst C (v := 0) dX3_has_22 (by decide) ?_
    cases h
    exact z_zret C hr hlk rfl dX3_has_23
  · refine z_iload_n C 1 rfl dX3_has_4 ?_
    refine z_aload_n C 0 rfl dX3_has_5 ?_
    refine z_get C iRX3 3 gC_3 rfl 0 (by decide) fl_RX3_21 rfl dX3_has_6 ?_
    refine z_icmp_ge C 22 (by decide) dX3_has_9 h (fun h => ?_) (fun h => ?_)
    · refine z_iconst C (v := 0) dX3_has_22 (by decide) ?_
      cases h
      exact z_zret C hr hlk rfl dX3_has_23
    · refine z_iload_n C 1 rfl dX3_has_12 ?_
      refine z_bipush C (v := 16) dX3_has_13 (by decide) ?_
      refine z_icmp_ge C 22 (by decide) dX3_has_15 h (fun h => ?_) (fun h => ?_)
      · refine z_iconst C (v := 0) dX3_has_22 (by decide) ?_
        cases h
        exact z_zret C hr hlk rfl dX3_has_23
      · refine z_iconst C (v := 1) dX3_has_18 (by decide) ?_
        refine z_goto C 23 (by decide) dX3_has_19 ?_
        cases h
        exact z_zret C hr hlk rfl dX3_has_23
theorem dX3_block_0 : decode cX3_block 0 = .ok (.aload_n 0, 1) := by decide +kernel
theorem dX3_block_1 : decode cX3_block 1 = .ok (.iload_n 1, 1) := by decide +kernel
theorem dX3_block_2 : decode cX3_block 2 = .ok (.invokevirtual 25, 3) := by decide +kernel
theorem dX3_block_5 : decode cX3_block 5 = .ok (.ifCond .eq 12, 3) := by decide +kernel
theorem dX3_block_8 : decode cX3_block 8 = .ok (.aload_n 0, 1) := by decide +kernel
theorem dX3_block_9 : decode cX3_block 9 = .ok (.getfield 9, 3) := by decide +kernel
theorem dX3_block_12 : decode cX3_block 12 = .ok (.iload_n 1, 1) := by decide +kernel
theorem dX3_block_13 : decode cX3_block 13 = .ok (.iaload, 1) := by decide +kernel
theorem dX3_block_14 : decode cX3_block 14 = .ok (.goto 4, 3) := by decide +kernel
theorem dX3_block_17 : decode cX3_block 17 = .ok (.iconst (-1), 1) := by decide +kernel
theorem dX3_block_18 : decode cX3_block 18 = .ok (.ireturn, 1) := by decide +kernel
theorem hd_yX3_block : (yX3_block).cls ≠ "java/lang/invoke/MethodHandle" ∧ (yX3_block).cls ≠ "java/lang/invoke/VarHandle" ∧ (parseMethodDescriptor (yX3_block).desc).map (fun d => d.parameters.length) = some 1 := ⟨by decide, by decide, by decide +kernel⟩
def f_X3_block (p0 : Int32) (σ : ZS) : Option Int32 :=
  Option.bind (f_X3_has p0 σ) (fun q1 => (if q1 = 0 then some (-1) else ld (σ.2.1 9) 16 p0 (fun y2 => some y2)))
set_option maxHeartbeats 4000000 in
set_option maxRecDepth 100000 in
theorem c_X3_block (l : Launch) (D : va_G) (A : Nat → Prop) (a : Nat → Nat) (x : ClassId × ClassId × ClassId) (σ : ZS) (p0 : Int32) (r : Int32) (h : f_X3_block p0 σ = some r) : zM l yX3_block w_yX3_block ({ frames := 1, cells := 0, slots := 0, locals := 21 } : Room) D A (tyz x) [.ref (a 3), .int p0] (wC a x σ) (some (.int r)) (wC a x σ) := by
  refine z_start [.ref (a 3), .int p0] (lv := [(0, .ref (a 3)), (1, .int p0)]) (by decide) (Nat.le_of_ble_eq_true rfl) rfl ?_
  intro p e s m args below meth c C hr hlk
  unfold f_X3_block at h
  refine z_aload_n C 0 rfl dX3_block_0 ?_
  refine z_iload_n C 1 rfl dX3_block_1 ?_
  obtain ⟨q1, hq1, h⟩ := bd_spec h
  refine z_callV1 C [.int p0] [] (v := (.int q1)) rfl (c_X3_has l D A a x σ p0 q1 hq1) cd_yX3_has in_RX3 ml_RX3_25 im_yX3_has sl_yX3_has gC_3 rfl hd_yX3_has ⟨⟨Nat.le_of_ble_eq_true rfl, Nat.le_of_ble_eq_true rfl⟩, rfl, rfl⟩ rfl (Nat.le_of_ble_eq_true rfl) ⟨Nat.zero_le _, Nat.zero_le _⟩ dX3_block_2 ?_
  refine z_if_eq C 17 (by decide) dX3_block_5 h (fun h => ?_) (fun h => ?_)
  · refine z_iconst C (v := (-1)) dX3_block_17 (by decide) ?_
    cases h
    exact z_iret C hr hlk dX3_block_18
  · refine z_aload_n C 0 rfl dX3_block_8 ?_
    refine z_get C iRX3 3 gC_3 rfl 1 (by decide) fl_RX3_9 rfl dX3_block_9 ?_
    refine z_iload_n C 1 rfl dX3_block_12 ?_
    refine z_iald C 9 0 gC_9 rfl dX3_block_13 h (fun y2 h => ?_)
    refine z_goto C 18 (by decide) dX3_block_14 ?_
    cases h
    exact z_iret C hr hlk dX3_block_18
theorem dX3_sayer_0 : decode cX3_sayer 0 = .ok (.aload_n 0, 1) := by decide +kernel
theorem dX3_sayer_1 : decode cX3_sayer 1 = .ok (.iload_n 1, 1) := by decide +kernel
theorem dX3_sayer_2 : decode cX3_sayer 2 = .ok (.invokevirtual 25, 3) := by decide +kernel
theorem dX3_sayer_5 : decode cX3_sayer 5 = .ok (.ifCond .eq 12, 3) := by decide +kernel
theorem dX3_sayer_8 : decode cX3_sayer 8 = .ok (.aload_n 0, 1) := by decide +kernel
theorem dX3_sayer_9 : decode cX3_sayer 9 = .ok (.getfield 15, 3) := by decide +kernel
theorem dX3_sayer_12 : decode cX3_sayer 12 = .ok (.iload_n 1, 1) := by decide +kernel
theorem dX3_sayer_13 : decode cX3_sayer 13 = .ok (.iaload, 1) := by decide +kernel
theorem dX3_sayer_14 : decode cX3_sayer 14 = .ok (.goto 4, 3) := by decide +kernel
theorem dX3_sayer_17 : decode cX3_sayer 17 = .ok (.iconst (-1), 1) := by decide +kernel
theorem dX3_sayer_18 : decode cX3_sayer 18 = .ok (.ireturn, 1) := by decide +kernel
theorem hd_yX3_sayer : (yX3_sayer).cls ≠ "java/lang/invoke/MethodHandle" ∧ (yX3_sayer).cls ≠ "java/lang/invoke/VarHandle" ∧ (parseMethodDescriptor (yX3_sayer).desc).map (fun d => d.parameters.length) = some 1 := ⟨by decide, by decide, by decide +kernel⟩
def f_X3_sayer (p0 : Int32) (σ : ZS) : Option Int32 :=
  Option.bind (f_X3_has p0 σ) (fun q1 => (if q1 = 0 then some (-1) else ld (σ.2.1 10) 16 p0 (fun y2 => some y2)))
set_option maxHeartbeats 4000000 in
set_option maxRecDepth 100000 in
theorem c_X3_sayer (l : Launch) (D : va_G) (A : Nat → Prop) (a : Nat → Nat) (x : ClassId × ClassId × ClassId) (σ : ZS) (p0 : Int32) (r : Int32) (h : f_X3_sayer p0 σ = some r) : zM l yX3_sayer w_yX3_sayer ({ frames := 1, cells := 0, slots := 0, locals := 21 } : Room) D A (tyz x) [.ref (a 3), .int p0] (wC a x σ) (some (.int r)) (wC a x σ) := by
  refine z_start [.ref (a 3), .int p0] (lv := [(0, .ref (a 3)), (1, .int p0)]) (by decide) (Nat.le_of_ble_eq_true rfl) rfl ?_
  intro p e s m args below meth c C hr hlk
  unfold f_X3_sayer at h
  refine z_aload_n C 0 rfl dX3_sayer_0 ?_
  refine z_iload_n C 1 rfl dX3_sayer_1 ?_
  obtain ⟨q1, hq1, h⟩ := bd_spec h
  refine z_callV1 C [.int p0] [] (v := (.int q1)) rfl (c_X3_has l D A a x σ p0 q1 hq1) cd_yX3_has in_RX3 ml_RX3_25 im_yX3_has sl_yX3_has gC_3 rfl hd_yX3_has ⟨⟨Nat.le_of_ble_eq_true rfl, Nat.le_of_ble_eq_true rfl⟩, rfl, rfl⟩ rfl (Nat.le_of_ble_eq_true rfl) ⟨Nat.zero_le _, Nat.zero_le _⟩ dX3_sayer_2 ?_
  refine z_if_eq C 17 (by decide) dX3_sayer_5 h (fun h => ?_) (fun h => ?_)
  · refine z_iconst C (v := (-1)) dX3_sayer_17 (by decide) ?_
    cases h
    exact z_iret C hr hlk dX3_sayer_18
  · refine z_aload_n C 0 rfl dX3_sayer_8 ?_
    refine z_get C iRX3 3 gC_3 rfl 2 (by decide) fl_RX3_15 rfl dX3_sayer_9 ?_
    refine z_iload_n C 1 rfl dX3_sayer_12 ?_
    refine z_iald C 10 0 gC_10 rfl dX3_sayer_13 h (fun y2 h => ?_)
    refine z_goto C 18 (by decide) dX3_sayer_14 ?_
    cases h
    exact z_iret C hr hlk dX3_sayer_18
theorem dX3_sayers_0 : decode cX3_sayers 0 = .ok (.iload_n 1, 1) := by decide +kernel
theorem dX3_sayers_1 : decode cX3_sayers 1 = .ok (.invokestatic 29, 3) := by decide +kernel
theorem dX3_sayers_4 : decode cX3_sayers 4 = .ok (.ifCond .eq 12, 3) := by decide +kernel
theorem dX3_sayers_7 : decode cX3_sayers 7 = .ok (.aload_n 0, 1) := by decide +kernel
theorem dX3_sayers_8 : decode cX3_sayers 8 = .ok (.getfield 18, 3) := by decide +kernel
theorem dX3_sayers_11 : decode cX3_sayers 11 = .ok (.iload_n 1, 1) := by decide +kernel
theorem dX3_sayers_12 : decode cX3_sayers 12 = .ok (.iaload, 1) := by decide +kernel
theorem dX3_sayers_13 : decode cX3_sayers 13 = .ok (.goto 4, 3) := by decide +kernel
theorem dX3_sayers_16 : decode cX3_sayers 16 = .ok (.iconst 0, 1) := by decide +kernel
theorem dX3_sayers_17 : decode cX3_sayers 17 = .ok (.ireturn, 1) := by decide +kernel
theorem hd_yX3_sayers : (yX3_sayers).cls ≠ "java/lang/invoke/MethodHandle" ∧ (yX3_sayers).cls ≠ "java/lang/invoke/VarHandle" ∧ (parseMethodDescriptor (yX3_sayers).desc).map (fun d => d.parameters.length) = some 1 := ⟨by decide, by decide, by decide +kernel⟩
def f_X3_sayers (p0 : Int32) (σ : ZS) : Option Int32 :=
  Option.bind (f_X6_isBlock p0) (fun q1 => (if q1 = 0 then some 0 else ld (σ.2.1 11) 128 p0 (fun y2 => some y2)))
set_option maxHeartbeats 4000000 in
set_option maxRecDepth 100000 in
theorem c_X3_sayers (l : Launch) (D : va_G) (A : Nat → Prop) (a : Nat → Nat) (x : ClassId × ClassId × ClassId) (σ : ZS) (p0 : Int32) (r : Int32) (h : f_X3_sayers p0 σ = some r) : zM l yX3_sayers w_yX3_sayers ({ frames := 1, cells := 0, slots := 0, locals := 20 } : Room) D A (tyz x) [.ref (a 3), .int p0] (wC a x σ) (some (.int r)) (wC a x σ) := by
  refine z_start [.ref (a 3), .int p0] (lv := [(0, .ref (a 3)), (1, .int p0)]) (by decide) (Nat.le_of_ble_eq_true rfl) rfl ?_
  intro p e s m args below meth c C hr hlk
  unfold f_X3_sayers at h
  refine z_iload_n C 1 rfl dX3_sayers_0 ?_
  obtain ⟨q1, hq1, h⟩ := bd_spec h
  refine z_callSN1 C [.int p0] [] (v := .int q1) 6 rfl (c_X6_isBlock l D A (tyz x) (wC a x σ) p0 q1 hq1) cd_yX6_isBlock in_RX6 rfl sm_yX6_isBlock hd_yX6_isBlock ⟨⟨Nat.le_of_ble_eq_true rfl, Nat.le_of_ble_eq_true rfl⟩, rfl, rfl⟩ rfl (Nat.le_of_ble_eq_true rfl) ⟨Nat.zero_le _, Nat.zero_le _⟩ dX3_sayers_1 ?_
  refine z_if_eq C 16 (by decide) dX3_sayers_4 h (fun h => ?_) (fun h => ?_)
  · refine z_iconst C (v := 0) dX3_sayers_16 (by decide) ?_
    cases h
    exact z_iret C hr hlk dX3_sayers_17
  · refine z_aload_n C 0 rfl dX3_sayers_7 ?_
    refine z_get C iRX3 3 gC_3 rfl 3 (by decide) fl_RX3_18 rfl dX3_sayers_8 ?_
    refine z_iload_n C 1 rfl dX3_sayers_11 ?_
    refine z_iald C 11 0 gC_11 rfl dX3_sayers_12 h (fun y2 h => ?_)
    refine z_goto C 17 (by decide) dX3_sayers_13 ?_
    cases h
    exact z_iret C hr hlk dX3_sayers_17
theorem dX3_suppose_0 : decode cX3_suppose 0 = .ok (.iload_n 1, 1) := by decide +kernel
theorem dX3_suppose_1 : decode cX3_suppose 1 = .ok (.invokestatic 29, 3) := by decide +kernel
theorem dX3_suppose_4 : decode cX3_suppose 4 = .ok (.ifCond .eq 10, 3) := by decide +kernel
theorem dX3_suppose_7 : decode cX3_suppose 7 = .ok (.aload_n 0, 1) := by decide +kernel
theorem dX3_suppose_8 : decode cX3_suppose 8 = .ok (.getfield 18, 3) := by decide +kernel
theorem dX3_suppose_11 : decode cX3_suppose 11 = .ok (.iload_n 1, 1) := by decide +kernel
theorem dX3_suppose_12 : decode cX3_suppose 12 = .ok (.iload_n 2, 1) := by decide +kernel
theorem dX3_suppose_13 : decode cX3_suppose 13 = .ok (.iastore, 1) := by decide +kernel
theorem dX3_suppose_14 : decode cX3_suppose 14 = .ok (.return_, 1) := by decide +kernel
theorem hd_yX3_suppose : (yX3_suppose).cls ≠ "java/lang/invoke/MethodHandle" ∧ (yX3_suppose).cls ≠ "java/lang/invoke/VarHandle" ∧ (parseMethodDescriptor (yX3_suppose).desc).map (fun d => d.parameters.length) = some 2 := ⟨by decide, by decide, by decide +kernel⟩
def f_X3_suppose (p0 : Int32) (p1 : Int32) (σ : ZS) : Option ZS :=
  Option.bind (f_X6_isBlock p0) (fun q1 => (if q1 = 0 then some σ else ck (inb p0 128) (some (setA σ 11 (Int32.toNatClampNeg p0) p1))))
set_option maxHeartbeats 4000000 in
set_option maxRecDepth 100000 in
theorem c_X3_suppose (l : Launch) (D : va_G) (A : Nat → Prop) (a : Nat → Nat) (x : ClassId × ClassId × ClassId) (σ : ZS) (p0 : Int32) (p1 : Int32) (r : ZS) (h : f_X3_suppose p0 p1 σ = some r) : zM l yX3_suppose w_yX3_suppose ({ frames := 1, cells := 0, slots := 0, locals := 20 } : Room) D A (tyz x) [.ref (a 3), .int p0, .int p1] (wC a x σ) none (wC a x r) := by
  refine z_start [.ref (a 3), .int p0, .int p1] (lv := [(0, .ref (a 3)), (1, .int p0), (2, .int p1)]) (by decide) (Nat.le_of_ble_eq_true rfl) rfl ?_
  intro p e s m args below meth c C hr hlk
  unfold f_X3_suppose at h
  refine z_iload_n C 1 rfl dX3_suppose_0 ?_
  obtain ⟨q1, hq1, h⟩ := bd_spec h
  refine z_callSN1 C [.int p0] [] (v := .int q1) 6 rfl (c_X6_isBlock l D A (tyz x) (wC a x σ) p0 q1 hq1) cd_yX6_isBlock in_RX6 rfl sm_yX6_isBlock hd_yX6_isBlock ⟨⟨Nat.le_of_ble_eq_true rfl, Nat.le_of_ble_eq_true rfl⟩, rfl, rfl⟩ rfl (Nat.le_of_ble_eq_true rfl) ⟨Nat.zero_le _, Nat.zero_le _⟩ dX3_suppose_1 ?_
  refine z_if_eq C 14 (by decide) dX3_suppose_4 h (fun h => ?_) (fun h => ?_)
  · cases h
    exact z_vret C hr hlk dX3_suppose_14
  · refine z_aload_n C 0 rfl dX3_suppose_7 ?_
    refine z_get C iRX3 3 gC_3 rfl 3 (by decide) fl_RX3_18 rfl dX3_suppose_8 ?_
    refine z_iload_n C 1 rfl dX3_suppose_11 ?_
    refine z_iload_n C 2 rfl dX3_suppose_12 ?_
    refine z_iast C 11 0 gC_11 rfl uC_11 dX3_suppose_13 h (fun h => ?_)
    cases h
    exact z_vret C hr hlk dX3_suppose_14
theorem dX3_add_0 : decode cX3_add 0 = .ok (.aload_n 0, 1) := by decide +kernel
theorem dX3_add_1 : decode cX3_add 1 = .ok (.getfield 21, 3) := by decide +kernel
theorem dX3_add_4 : decode cX3_add 4 = .ok (.bipush 16, 2) := by decide +kernel
theorem dX3_add_6 : decode cX3_add 6 = .ok (.if_icmp .lt 6, 3) := by decide +kernel
theorem dX3_add_9 : decode cX3_add 9 = .ok (.bipush (-6), 2) := by decide +kernel
theorem dX3_add_11 : decode cX3_add 11 = .ok (.ireturn, 1) := by decide +kernel
theorem dX3_add_12 : decode cX3_add 12 = .ok (.aload_n 0, 1) := by decide +kernel
theorem dX3_add_13 : decode cX3_add 13 = .ok (.getfield 9, 3) := by decide +kernel
theorem dX3_add_16 : decode cX3_add 16 = .ok (.aload_n 0, 1) := by decide +kernel
theorem dX3_add_17 : decode cX3_add 17 = .ok (.getfield 21, 3) := by decide +kernel
theorem dX3_add_20 : decode cX3_add 20 = .ok (.iload_n 1, 1) := by decide +kernel
theorem dX3_add_21 : decode cX3_add 21 = .ok (.iastore, 1) := by decide +kernel
theorem dX3_add_22 : decode cX3_add 22 = .ok (.aload_n 0, 1) := by decide +kernel
theorem dX3_add_23 : decode cX3_add 23 = .ok (.getfield 15, 3) := by decide +kernel
theorem dX3_add_26 : decode cX3_add 26 = .ok (.aload_n 0, 1) := by decide +kernel
theorem dX3_add_27 : decode cX3_add 27 = .ok (.getfield 21, 3) := by decide +kernel
theorem dX3_add_30 : decode cX3_add 30 = .ok (.iload_n 2, 1) := by decide +kernel
theorem dX3_add_31 : decode cX3_add 31 = .ok (.iastore, 1) := by decide +kernel
theorem dX3_add_32 : decode cX3_add 32 = .ok (.aload_n 0, 1) := by decide +kernel
theorem dX3_add_33 : decode cX3_add 33 = .ok (.iload_n 1, 1) := by decide +kernel
theorem dX3_add_34 : decode cX3_add 34 = .ok (.aload_n 0, 1) := by decide +kernel
theorem dX3_add_35 : decode cX3_add 35 = .ok (.iload_n 1, 1) := by decide +kernel
theorem dX3_add_36 : decode cX3_add 36 = .ok (.invokevirtual 32, 3) := by decide +kernel
theorem dX3_add_39 : decode cX3_add 39 = .ok (.iload_n 2, 1) := by decide +kernel
theorem dX3_add_40 : decode cX3_add 40 = .ok (.invokestatic 35, 3) := by decide +kernel
theorem dX3_add_43 : decode cX3_add 43 = .ok (.ior, 1) := by decide +kernel
theorem dX3_add_44 : decode cX3_add 44 = .ok (.invokevirtual 38, 3) := by decide +kernel
theorem dX3_add_47 : decode cX3_add 47 = .ok (.aload_n 0, 1) := by decide +kernel
theorem dX3_add_48 : decode cX3_add 48 = .ok (.dup, 1) := by decide +kernel
theorem dX3_add_49 : decode cX3_add 49 = .ok (.getfield 21, 3) := by decide +kernel
theorem dX3_add_52 : decode cX3_add 52 = .ok (.iconst 1, 1) := by decide +kernel
theorem dX3_add_53 : decode cX3_add 53 = .ok (.iadd, 1) := by decide +kernel
theorem dX3_add_54 : decode cX3_add 54 = .ok (.putfield 21, 3) := by decide +kernel
theorem dX3_add_57 : decode cX3_add 57 = .ok (.aload_n 0, 1) := by decide +kernel
theorem dX3_add_58 : decode cX3_add 58 = .ok (.getfield 21, 3) := by decide +kernel
theorem dX3_add_61 : decode cX3_add 61 = .ok (.iconst 1, 1) := by decide +kernel
theorem dX3_add_62 : decode cX3_add 62 = .ok (.isub, 1) := by decide +kernel
theorem dX3_add_63 : decode cX3_add 63 = .ok (.ireturn, 1) := by decide +kernel
theorem hd_yX3_add : (yX3_add).cls ≠ "java/lang/invoke/MethodHandle" ∧ (yX3_add).cls ≠ "java/lang/invoke/VarHandle" ∧ (parseMethodDescriptor (yX3_add).desc).map (fun d => d.parameters.length) = some 2 := ⟨by decide, by decide, by decide +kernel⟩
def f_X3_add (p0 : Int32) (p1 : Int32) (σ : ZS) : Option (Int32 × ZS) :=
  (if (σ.1 5) < 16 then ck (inb (σ.1 5) 16) (ck (inb ((setA σ 9 (Int32.toNatClampNeg (σ.1 5)) p0).1 5) 16) (Option.bind (f_X3_sayers p0 (setA (setA σ 9 (Int32.toNatClampNeg (σ.1 5)) p0) 10 (Int32.toNatClampNeg ((setA σ 9 (Int32.toNatClampNeg (σ.1 5)) p0).1 5)) p1)) (fun q1 => Option.bind (f_X6_bit p1) (fun q2 => Option.bind (f_X3_suppose p0 (q1 ||| q2) (setA (setA σ 9 (Int32.toNatClampNeg (σ.1 5)) p0) 10 (Int32.toNatClampNeg ((setA σ 9 (Int32.toNatClampNeg (σ.1 5)) p0).1 5)) p1)) (fun q3 => some (((setI q3 5 ((q3.1 5) + 1)).1 5) - 1, setI q3 5 ((q3.1 5) + 1))))))) else some ((-6), σ))
set_option maxHeartbeats 4000000 in
set_option maxRecDepth 100000 in
theorem c_X3_add (l : Launch) (D : va_G) (A : Nat → Prop) (a : Nat → Nat) (x : ClassId × ClassId × ClassId) (σ : ZS) (p0 : Int32) (p1 : Int32) (r : (Int32 × ZS)) (h : f_X3_add p0 p1 σ = some r) : zM l yX3_add w_yX3_add ({ frames := 2, cells := 0, slots := 0, locals := 42 } : Room) D A (tyz x) [.ref (a 3), .int p0, .int p1] (wC a x σ) (some (.int r.1)) (wC a x r.2) := by
  refine z_start [.ref (a 3), .int p0, .int p1] (lv := [(0, .ref (a 3)), (1, .int p0), (2, .int p1)]) (by decide) (Nat.le_of_ble_eq_true rfl) rfl ?_
  intro p e s m args below meth c C hr hlk
  unfold f_X3_add at h
  refine z_aload_n C 0 rfl dX3_add_0 ?_
  refine z_get C iRX3 3 gC_3 rfl 0 (by decide) fl_RX3_21 rfl dX3_add_1 ?_
  refine z_bipush C (v := 16) dX3_add_4 (by decide) ?_
  refine z_icmp_lt C 12 (by decide) dX3_add_6 h (fun h => ?_) (fun h => ?_)
  · refine z_aload_n C 0 rfl dX3_add_12 ?_
    refine z_get C iRX3 3 gC_3 rfl 1 (by decide) fl_RX3_9 rfl dX3_add_13 ?_
    refine z_aload_n C 0 rfl dX3_add_16 ?_
    refine z_get C iRX3 3 gC_3 rfl 0 (by decide) fl_RX3_21 rfl dX3_add_17 ?_
    refine z_iload_n C 1 rfl dX3_add_20 ?_
    refine z_iast C 9 0 gC_9 rfl uC_9 dX3_add_21 h (fun h => ?_)
    refine z_aload_n C 0 rfl dX3_add_22 ?_
    refine z_get C iRX3 3 gC_3 rfl 2 (by decide) fl_RX3_15 rfl dX3_add_23 ?_
    refine z_aload_n C 0 rfl dX3_add_26 ?_
    refine z_get C iRX3 3 gC_3 rfl 0 (by decide) fl_RX3_21 rfl dX3_add_27 ?_
    refine z_iload_n C 2 rfl dX3_add_30 ?_
    refine z_iast C 10 0 gC_10 rfl uC_10 dX3_add_31 h (fun h => ?_)
    refine z_aload_n C 0 rfl dX3_add_32 ?_
    refine z_iload_n C 1 rfl dX3_add_33 ?_
    refine z_aload_n C 0 rfl dX3_add_34 ?_
    refine z_iload_n C 1 rfl dX3_add_35 ?_
    obtain ⟨q1, hq1, h⟩ := bd_spec h
    refine z_callV1 C [.int p0] [.int p0, .ref (a 3)] (v := (.int q1)) rfl (c_X3_sayers l D A a x (setA (setA σ 9 (Int32.toNatClampNeg (σ.1 5)) p0) 10 (Int32.toNatClampNeg ((setA σ 9 (Int32.toNatClampNeg (σ.1 5)) p0).1 5)) p1) p0 q1 hq1) cd_yX3_sayers in_RX3 ml_RX3_32 im_yX3_sayers sl_yX3_sayers gC_3 rfl hd_yX3_sayers ⟨⟨Nat.le_of_ble_eq_true rfl, Nat.le_of_ble_eq_true rfl⟩, rfl, rfl⟩ rfl (Nat.le_of_ble_eq_true rfl) ⟨Nat.zero_le _, Nat.zero_le _⟩ dX3_add_36 ?_
    refine z_iload_n C 2 rfl dX3_add_39 ?_
    obtain ⟨q2, hq2, h⟩ := bd_spec h
    refine z_callSN1 C [.int p1] [.int q1, .int p0, .ref (a 3)] (v := .int q2) 7 rfl (c_X6_bit l D A (tyz x) (wC a x (setA (setA σ 9 (Int32.toNatClampNeg (σ.1 5)) p0) 10 (Int32.toNatClampNeg ((setA σ 9 (Int32.toNatClampNeg (σ.1 5)) p0).1 5)) p1)) p1 q2 hq2) cd_yX6_bit in_RX6 rfl sm_yX6_bit hd_yX6_bit ⟨⟨Nat.le_of_ble_eq_true rfl, Nat.le_of_ble_eq_true rfl⟩, rfl, rfl⟩ rfl (Nat.le_of_ble_eq_true rfl) ⟨Nat.zero_le _, Nat.zero_le _⟩ dX3_add_40 ?_
    refine z_ior C dX3_add_43 ?_
    obtain ⟨q3, hq3, h⟩ := bd_spec h
    refine z_callV0 C [.int p0, .int (q1 ||| q2)] [] rfl (c_X3_suppose l D A a x (setA (setA σ 9 (Int32.toNatClampNeg (σ.1 5)) p0) 10 (Int32.toNatClampNeg ((setA σ 9 (Int32.toNatClampNeg (σ.1 5)) p0).1 5)) p1) p0 (q1 ||| q2) q3 hq3) cd_yX3_suppose in_RX3 ml_RX3_38 im_yX3_suppose sl_yX3_suppose gC_3 rfl hd_yX3_suppose ⟨⟨Nat.le_of_ble_eq_true rfl, Nat.le_of_ble_eq_true rfl⟩, rfl, rfl⟩ rfl (Nat.le_of_ble_eq_true rfl) ⟨Nat.zero_le _, Nat.zero_le _⟩ dX3_add_44 ?_
    refine z_aload_n C 0 rfl dX3_add_47 ?_
    refine z_dup C rfl dX3_add_48 ?_
    refine z_get C iRX3 3 gC_3 rfl 0 (by decide) fl_RX3_21 rfl dX3_add_49 ?_
    refine z_iconst C (v := 1) dX3_add_52 (by decide) ?_
    refine z_iadd C dX3_add_53 ?_
    refine z_put C iRX3 tyX3 tyX3_ok nmX3 3 gC_3 rfl 0 (by decide) fl_RX3_21 rfl (ty := .int) (by decide +kernel) ⟨rfl, rfl⟩ (Nat.le_of_ble_eq_true rfl) pC_3_0 dX3_add_54 ?_
    refine z_aload_n C 0 rfl dX3_add_57 ?_
    refine z_get C iRX3 3 gC_3 rfl 0 (by decide) fl_RX3_21 rfl dX3_add_58 ?_
    refine z_iconst C (v := 1) dX3_add_61 (by decide) ?_
    refine z_isub C dX3_add_62 ?_
    cases h
    exact z_iret C hr hlk dX3_add_63
  · refine z_bipush C (v := (-6)) dX3_add_9 (by decide) ?_
    cases h
    exact z_iret C hr hlk dX3_add_11
theorem dX3_drop_0 : decode cX3_drop 0 = .ok (.aload_n 0, 1) := by decide +kernel
theorem dX3_drop_1 : decode cX3_drop 1 = .ok (.iload_n 1, 1) := by decide +kernel
theorem dX3_drop_2 : decode cX3_drop 2 = .ok (.invokevirtual 25, 3) := by decide +kernel
theorem dX3_drop_5 : decode cX3_drop 5 = .ok (.ifCond .ne 4, 3) := by decide +kernel
theorem dX3_drop_8 : decode cX3_drop 8 = .ok (.return_, 1) := by decide +kernel
theorem dX3_drop_9 : decode cX3_drop 9 = .ok (.aload_n 0, 1) := by decide +kernel
theorem dX3_drop_10 : decode cX3_drop 10 = .ok (.aload_n 0, 1) := by decide +kernel
theorem dX3_drop_11 : decode cX3_drop 11 = .ok (.getfield 9, 3) := by decide +kernel
theorem dX3_drop_14 : decode cX3_drop 14 = .ok (.iload_n 1, 1) := by decide +kernel
theorem dX3_drop_15 : decode cX3_drop 15 = .ok (.iaload, 1) := by decide +kernel
theorem dX3_drop_16 : decode cX3_drop 16 = .ok (.aload_n 0, 1) := by decide +kernel
theorem dX3_drop_17 : decode cX3_drop 17 = .ok (.aload_n 0, 1) := by decide +kernel
theorem dX3_drop_18 : decode cX3_drop 18 = .ok (.getfield 9, 3) := by decide +kernel
theorem dX3_drop_21 : decode cX3_drop 21 = .ok (.iload_n 1, 1) := by decide +kernel
theorem dX3_drop_22 : decode cX3_drop 22 = .ok (.iaload, 1) := by decide +kernel
theorem dX3_drop_23 : decode cX3_drop 23 = .ok (.invokevirtual 32, 3) := by decide +kernel
theorem dX3_drop_26 : decode cX3_drop 26 = .ok (.aload_n 0, 1) := by decide +kernel
theorem dX3_drop_27 : decode cX3_drop 27 = .ok (.getfield 15, 3) := by decide +kernel
theorem dX3_drop_30 : decode cX3_drop 30 = .ok (.iload_n 1, 1) := by decide +kernel
theorem dX3_drop_31 : decode cX3_drop 31 = .ok (.iaload, 1) := by decide +kernel
theorem dX3_drop_32 : decode cX3_drop 32 = .ok (.invokestatic 35, 3) := by decide +kernel
theorem dX3_drop_35 : decode cX3_drop 35 = .ok (.iconst (-1), 1) := by decide +kernel
theorem dX3_drop_36 : decode cX3_drop 36 = .ok (.ixor, 1) := by decide +kernel
theorem dX3_drop_37 : decode cX3_drop 37 = .ok (.iand, 1) := by decide +kernel
theorem dX3_drop_38 : decode cX3_drop 38 = .ok (.invokevirtual 38, 3) := by decide +kernel
theorem dX3_drop_41 : decode cX3_drop 41 = .ok (.iload_n 1, 1) := by decide +kernel
theorem dX3_drop_42 : decode cX3_drop 42 = .ok (.iconst 1, 1) := by decide +kernel
theorem dX3_drop_43 : decode cX3_drop 43 = .ok (.iadd, 1) := by decide +kernel
theorem dX3_drop_44 : decode cX3_drop 44 = .ok (.istore_n 2, 1) := by decide +kernel
theorem dX3_drop_45 : decode cX3_drop 45 = .ok (.iload_n 2, 1) := by decide +kernel
theorem dX3_drop_46 : decode cX3_drop 46 = .ok (.aload_n 0, 1) := by decide +kernel
theorem dX3_drop_47 : decode cX3_drop 47 = .ok (.getfield 21, 3) := by decide +kernel
theorem dX3_drop_50 : decode cX3_drop 50 = .ok (.if_icmp .ge 43, 3) := by decide +kernel
theorem dX3_drop_53 : decode cX3_drop 53 = .ok (.iload_n 2, 1) := by decide +kernel
theorem dX3_drop_54 : decode cX3_drop 54 = .ok (.bipush 16, 2) := by decide +kernel
theorem dX3_drop_56 : decode cX3_drop 56 = .ok (.if_icmp .ge 37, 3) := by decide +kernel
theorem dX3_drop_59 : decode cX3_drop 59 = .ok (.aload_n 0, 1) := by decide +kernel
theorem dX3_drop_60 : decode cX3_drop 60 = .ok (.getfield 9, 3) := by decide +kernel
theorem dX3_drop_63 : decode cX3_drop 63 = .ok (.iload_n 2, 1) := by decide +kernel
theorem dX3_drop_64 : decode cX3_drop 64 = .ok (.iconst 1, 1) := by decide +kernel
theorem dX3_drop_65 : decode cX3_drop 65 = .ok (.isub, 1) := by decide +kernel
theorem dX3_drop_66 : decode cX3_drop 66 = .ok (.aload_n 0, 1) := by decide +kernel
theorem dX3_drop_67 : decode cX3_drop 67 = .ok (.getfield 9, 3) := by decide +kernel
theorem dX3_drop_70 : decode cX3_drop 70 = .ok (.iload_n 2, 1) := by decide +kernel
theorem dX3_drop_71 : decode cX3_drop 71 = .ok (.iaload, 1) := by decide +kernel
theorem dX3_drop_72 : decode cX3_drop 72 = .ok (.iastore, 1) := by decide +kernel
theorem dX3_drop_73 : decode cX3_drop 73 = .ok (.aload_n 0, 1) := by decide +kernel
theorem dX3_drop_74 : decode cX3_drop 74 = .ok (.getfield 15, 3) := by decide +kernel
theorem dX3_drop_77 : decode cX3_drop 77 = .ok (.iload_n 2, 1) := by decide +kernel
theorem dX3_drop_78 : decode cX3_drop 78 = .ok (.iconst 1, 1) := by decide +kernel
theorem dX3_drop_79 : decode cX3_drop 79 = .ok (.isub, 1) := by decide +kernel
theorem dX3_drop_80 : decode cX3_drop 80 = .ok (.aload_n 0, 1) := by decide +kernel
theorem dX3_drop_81 : decode cX3_drop 81 = .ok (.getfield 15, 3) := by decide +kernel
theorem dX3_drop_84 : decode cX3_drop 84 = .ok (.iload_n 2, 1) := by decide +kernel
theorem dX3_drop_85 : decode cX3_drop 85 = .ok (.iaload, 1) := by decide +kernel
theorem dX3_drop_86 : decode cX3_drop 86 = .ok (.iastore, 1) := by decide +kernel
theorem dX3_drop_87 : decode cX3_drop 87 = .ok (.iinc 2 1, 3) := by decide +kernel
theorem dX3_drop_90 : decode cX3_drop 90 = .ok (.goto (-45), 3) := by decide +kernel
theorem dX3_drop_93 : decode cX3_drop 93 = .ok (.aload_n 0, 1) := by decide +kernel
theorem dX3_drop_94 : decode cX3_drop 94 = .ok (.dup, 1) := by decide +kernel
theorem dX3_drop_95 : decode cX3_drop 95 = .ok (.getfield 21, 3) := by decide +kernel
theorem dX3_drop_98 : decode cX3_drop 98 = .ok (.iconst 1, 1) := by decide +kernel
theorem dX3_drop_99 : decode cX3_drop 99 = .ok (.isub, 1) := by decide +kernel
theorem dX3_drop_100 : decode cX3_drop 100 = .ok (.putfield 21, 3) := by decide +kernel
theorem dX3_drop_103 : decode cX3_drop 103 = .ok (.return_, 1) := by decide +kernel
theorem hd_yX3_drop : (yX3_drop).cls ≠ "java/lang/invoke/MethodHandle" ∧ (yX3_drop).cls ≠ "java/lang/invoke/VarHandle" ∧ (parseMethodDescriptor (yX3_drop).desc).map (fun d => d.parameters.length) = some 1 := ⟨by decide, by decide, by decide +kernel⟩
def f_X3_drop_J93 (σ : ZS) : Option ZS :=
  some (setI σ 5 ((σ.1 5) - 1))
def f_X3_drop_B45  (t1 : (Int32 × ZS)) : Option ((Int32 × ZS) ⊕ ZS) :=
  (if (t1.2.1 5) ≤ t1.1 then wi (f_X3_drop_J93 t1.2) else (if 16 ≤ t1.1 then wi (f_X3_drop_J93 t1.2) else ld (t1.2.2.1 9) 16 t1.1 (fun y8 => ck (inb (t1.1 - 1) 16) (ld ((setA t1.2 9 (Int32.toNatClampNeg (t1.1 - 1)) y8).2.1 10) 16 t1.1 (fun y9 => ck (inb (t1.1 - 1) 16) (some (.inl (t1.1 + 1, setA (setA t1.2 9 (Int32.toNatClampNeg (t1.1 - 1)) y8) 10 (Int32.toNatClampNeg (t1.1 - 1)) y9))))))))
def f_X3_drop (p0 : Int32) (σ : ZS) : Option ZS :=
  Option.bind (f_X3_has p0 σ) (fun q1 => (if q1 = 0 then some σ else ld (σ.2.1 9) 16 p0 (fun y2 => ld (σ.2.1 9) 16 p0 (fun y3 => Option.bind (f_X3_sayers y3 σ) (fun q4 => ld (σ.2.1 10) 16 p0 (fun y5 => Option.bind (f_X6_bit y5) (fun q6 => Option.bind (f_X3_suppose y2 (q4 &&& (q6 ^^^ (-1))) σ) (fun q7 => lp zF (f_X3_drop_B45) (p0 + 1, q7)))))))))
set_option maxHeartbeats 4000000 in
set_option maxRecDepth 100000 in
theorem c_X3_drop (l : Launch) (D : va_G) (A : Nat → Prop) (a : Nat → Nat) (x : ClassId × ClassId × ClassId) (σ : ZS) (p0 : Int32) (r : ZS) (h : f_X3_drop p0 σ = some r) : zM l yX3_drop w_yX3_drop ({ frames := 2, cells := 0, slots := 0, locals := 42 } : Room) D A (tyz x) [.ref (a 3), .int p0] (wC a x σ) none (wC a x r) := by
  refine z_start [.ref (a 3), .int p0] (lv := [(0, .ref (a 3)), (1, .int p0)]) (by decide) (Nat.le_of_ble_eq_true rfl) rfl ?_
  intro p e s m args below meth c C hr hlk
  have J93 : ∀ (σ_93 : ZS), f_X3_drop_J93 σ_93 = some r → zV p l e ({ frames := 2, cells := 0, slots := 0, locals := 42 } : Room) s m args below meth c 0 0 (MQ below (zQ D A none (wC a x r)) args s 0 0 A) D A 3 (wC a x σ_93) 93 [(0, .ref (a 3))] [] := by
    intro σ_93 h
    unfold f_X3_drop_J93 at h
    refine z_aload_n C 0 rfl dX3_drop_93 ?_
    refine z_dup C rfl dX3_drop_94 ?_
    refine z_get C iRX3 3 gC_3 rfl 0 (by decide) fl_RX3_21 rfl dX3_drop_95 ?_
    refine z_iconst C (v := 1) dX3_drop_98 (by decide) ?_
    refine z_isub C dX3_drop_99 ?_
    refine z_put C iRX3 tyX3 tyX3_ok nmX3 3 gC_3 rfl 0 (by decide) fl_RX3_21 rfl (ty := .int) (by decide +kernel) ⟨rfl, rfl⟩ (Nat.le_of_ble_eq_true rfl) pC_3_0 dX3_drop_100 ?_
    cases h
    exact z_vret C hr hlk dX3_drop_103
  unfold f_X3_drop at h
  refine z_aload_n C 0 rfl dX3_drop_0 ?_
  refine z_iload_n C 1 rfl dX3_drop_1 ?_
  obtain ⟨q1, hq1, h⟩ := bd_spec h
  refine z_callV1 C [.int p0] [] (v := (.int q1)) rfl (c_X3_has l D A a x σ p0 q1 hq1) cd_yX3_has in_RX3 ml_RX3_25 im_yX3_has sl_yX3_has gC_3 rfl hd_yX3_has ⟨⟨Nat.le_of_ble_eq_true rfl, Nat.le_of_ble_eq_true rfl⟩, rfl, rfl⟩ rfl (Nat.le_of_ble_eq_true rfl) ⟨Nat.zero_le _, Nat.zero_le _⟩ dX3_drop_2 ?_
  refine z_if_ne C 9 (by decide) dX3_drop_5 h (fun h => ?_) (fun h => ?_)
  · refine z_aload_n C 0 rfl dX3_drop_9 ?_
    refine z_aload_n C 0 rfl dX3_drop_10 ?_
    refine z_get C iRX3 3 gC_3 rfl 1 (by decide) fl_RX3_9 rfl dX3_drop_11 ?_
    refine z_iload_n C 1 rfl dX3_drop_14 ?_
    refine z_iald C 9 0 gC_9 rfl dX3_drop_15 h (fun y2 h => ?_)
    refine z_aload_n C 0 rfl dX3_drop_16 ?_
    refine z_aload_n C 0 rfl dX3_drop_17 ?_
    refine z_get C iRX3 3 gC_3 rfl 1 (by decide) fl_RX3_9 rfl dX3_drop_18 ?_
    refine z_iload_n C 1 rfl dX3_drop_21 ?_
    refine z_iald C 9 0 gC_9 rfl dX3_drop_22 h (fun y3 h => ?_)
    obtain ⟨q4, hq4, h⟩ := bd_spec h
    refine z_callV1 C [.int y3] [.int y2, .ref (a 3)] (v := (.int q4)) rfl (c_X3_sayers l D A a x σ y3 q4 hq4) cd_yX3_sayers in_RX3 ml_RX3_32 im_yX3_sayers sl_yX3_sayers gC_3 rfl hd_yX3_sayers ⟨⟨Nat.le_of_ble_eq_true rfl, Nat.le_of_ble_eq_true rfl⟩, rfl, rfl⟩ rfl (Nat.le_of_ble_eq_true rfl) ⟨Nat.zero_le _, Nat.zero_le _⟩ dX3_drop_23 ?_
    refine z_aload_n C 0 rfl dX3_drop_26 ?_
    refine z_get C iRX3 3 gC_3 rfl 2 (by decide) fl_RX3_15 rfl dX3_drop_27 ?_
    refine z_iload_n C 1 rfl dX3_drop_30 ?_
    refine z_iald C 10 0 gC_10 rfl dX3_drop_31 h (fun y5 h => ?_)
    obtain ⟨q6, hq6, h⟩ := bd_spec h
    refine z_callSN1 C [.int y5] [.int q4, .int y2, .ref (a 3)] (v := .int q6) 7 rfl (c_X6_bit l D A (tyz x) (wC a x σ) y5 q6 hq6) cd_yX6_bit in_RX6 rfl sm_yX6_bit hd_yX6_bit ⟨⟨Nat.le_of_ble_eq_true rfl, Nat.le_of_ble_eq_true rfl⟩, rfl, rfl⟩ rfl (Nat.le_of_ble_eq_true rfl) ⟨Nat.zero_le _, Nat.zero_le _⟩ dX3_drop_32 ?_
    refine z_iconst C (v := (-1)) dX3_drop_35 (by decide) ?_
    refine z_ixor C dX3_drop_36 ?_
    refine z_iand C dX3_drop_37 ?_
    obtain ⟨q7, hq7, h⟩ := bd_spec h
    refine z_callV0 C [.int y2, .int (q4 &&& (q6 ^^^ (-1)))] [] rfl (c_X3_suppose l D A a x σ y2 (q4 &&& (q6 ^^^ (-1))) q7 hq7) cd_yX3_suppose in_RX3 ml_RX3_38 im_yX3_suppose sl_yX3_suppose gC_3 rfl hd_yX3_suppose ⟨⟨Nat.le_of_ble_eq_true rfl, Nat.le_of_ble_eq_true rfl⟩, rfl, rfl⟩ rfl (Nat.le_of_ble_eq_true rfl) ⟨Nat.zero_le _, Nat.zero_le _⟩ dX3_drop_38 ?_
    refine z_iload_n C 1 rfl dX3_drop_41 ?_
    refine z_iconst C (v := 1) dX3_drop_42 (by decide) ?_
    refine z_iadd C dX3_drop_43 ?_
    refine z_istore_n C [(2, .int (p0 + 1)), (0, .ref (a 3)), (1, .int p0)] rfl (by decide) rfl dX3_drop_44 ?_
    refine z_sub C [1, 0] (lv' := [(0, .ref (a 3)), (2, .int (p0 + 1))]) rfl ?_
    have L45 : ∀ (n : Nat) (t1 : (Int32 × ZS)), lp n (f_X3_drop_B45) t1 = some r → zV p l e ({ frames := 2, cells := 0, slots := 0, locals := 42 } : Room) s m args below meth c 0 0 (MQ below (zQ D A none (wC a x r)) args s 0 0 A) D A 3 (wC a x t1.2) 45 [(0, .ref (a 3)), (2, .int t1.1)] [] := by
      intro n1
      induction n1 with
      | zero => exact fun _ h => (lp_zero h).elim
      | succ n1 ih1 =>
        intro t1 h
        obtain ⟨u1, h, hk1⟩ := lp_succ h
        unfold f_X3_drop_B45 at h
        refine z_iload_n C 1 rfl dX3_drop_45 ?_
        refine z_aload_n C 0 rfl dX3_drop_46 ?_
        refine z_get C iRX3 3 gC_3 rfl 0 (by decide) fl_RX3_21 rfl dX3_drop_47 ?_
        refine z_icmp_ge C 93 (by decide) dX3_drop_50 h (fun h => ?_) (fun h => ?_)
        · refine z_sub C [0] (lv' := [(0, .ref (a 3))]) rfl ?_
          have h := unwi h hk1
          exact J93 _ h
        · refine z_iload_n C 1 rfl dX3_drop_53 ?_
          refine z_bipush C (v := 16) dX3_drop_54 (by decide) ?_
          refine z_icmp_ge C 93 (by decide) dX3_drop_56 h (fun h => ?_) (fun h => ?_)
          · refine z_sub C [0] (lv' := [(0, .ref (a 3))]) rfl ?_
            have h := unwi h hk1
            exact J93 _ h
          · refine z_aload_n C 0 rfl dX3_drop_59 ?_
            refine z_get C iRX3 3 gC_3 rfl 1 (by decide) fl_RX3_9 rfl dX3_drop_60 ?_
            refine z_iload_n C 1 rfl dX3_drop_63 ?_
            refine z_iconst C (v := 1) dX3_drop_64 (by decide) ?_
            refine z_isub C dX3_drop_65 ?_
            refine z_aload_n C 0 rfl dX3_drop_66 ?_
            refine z_get C iRX3 3 gC_3 rfl 1 (by decide) fl_RX3_9 rfl dX3_drop_67 ?_
            refine z_iload_n C 1 rfl dX3_drop_70 ?_
            refine z_iald C 9 0 gC_9 rfl dX3_drop_71 h (fun y8 h => ?_)
            refine z_iast C 9 0 gC_9 rfl uC_9 dX3_drop_72 h (fun h => ?_)
            refine z_aload_n C 0 rfl dX3_drop_73 ?_
            refine z_get C iRX3 3 gC_3 rfl 2 (by decide) fl_RX3_15 rfl dX3_drop_74 ?_
            refine z_iload_n C 1 rfl dX3_drop_77 ?_
            refine z_iconst C (v := 1) dX3_drop_78 (by decide) ?_
            refine z_isub C dX3_drop_79 ?_
            refine z_aload_n C 0 rfl dX3_drop_80 ?_
            refine z_get C iRX3 3 gC_3 rfl 2 (by decide) fl_RX3_15 rfl dX3_drop_81 ?_
            refine z_iload_n C 1 rfl dX3_drop_84 ?_
            refine z_iald C 10 0 gC_10 rfl dX3_drop_85 h (fun y9 h => ?_)
            refine z_iast C 10 0 gC_10 rfl uC_10 dX3_drop_86 h (fun h => ?_)
            refine z_iinc C (v := t1.1 + 1) [(2, .int (t1.1 + 1)), (0, .ref (a 3))] 1 rfl rfl (by decide) rfl dX3_drop_87 ?_
            refine z_goto C 45 (by decide) dX3_drop_90 ?_
            refine z_sub C [1, 0] (lv' := [(0, .ref (a 3)), (2, .int (t1.1 + 1))]) rfl ?_
            exact ih1 _ (uninl h hk1)
    exact L45 _ _ h
  · cases h
    exact z_vret C hr hlk dX3_drop_8
