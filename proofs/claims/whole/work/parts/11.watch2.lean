theorem dX6_isFalse_0 : decode cX6_isFalse 0 = .ok (.aload_n 0, 1) := by decide +kernel
theorem dX6_isFalse_1 : decode cX6_isFalse 1 = .ok (.getfield 19, 3) := by decide +kernel
theorem dX6_isFalse_4 : decode cX6_isFalse 4 = .ok (.aload_n 0, 1) := by decide +kernel
theorem dX6_isFalse_5 : decode cX6_isFalse 5 = .ok (.getfield 26, 3) := by decide +kernel
theorem dX6_isFalse_8 : decode cX6_isFalse 8 = .ok (.iload_n 1, 1) := by decide +kernel
theorem dX6_isFalse_9 : decode cX6_isFalse 9 = .ok (.invokevirtual 152, 3) := by decide +kernel
theorem dX6_isFalse_12 : decode cX6_isFalse 12 = .ok (.invokevirtual 89, 3) := by decide +kernel
theorem dX6_isFalse_15 : decode cX6_isFalse 15 = .ok (.istore_n 2, 1) := by decide +kernel
theorem dX6_isFalse_16 : decode cX6_isFalse 16 = .ok (.iload_n 2, 1) := by decide +kernel
theorem dX6_isFalse_17 : decode cX6_isFalse 17 = .ok (.iconst (-1), 1) := by decide +kernel
theorem dX6_isFalse_18 : decode cX6_isFalse 18 = .ok (.if_icmp .eq 19, 3) := by decide +kernel
theorem dX6_isFalse_21 : decode cX6_isFalse 21 = .ok (.iload_n 2, 1) := by decide +kernel
theorem dX6_isFalse_22 : decode cX6_isFalse 22 = .ok (.aload_n 0, 1) := by decide +kernel
theorem dX6_isFalse_23 : decode cX6_isFalse 23 = .ok (.getfield 26, 3) := by decide +kernel
theorem dX6_isFalse_26 : decode cX6_isFalse 26 = .ok (.iload_n 1, 1) := by decide +kernel
theorem dX6_isFalse_27 : decode cX6_isFalse 27 = .ok (.invokevirtual 161, 3) := by decide +kernel
theorem dX6_isFalse_30 : decode cX6_isFalse 30 = .ok (.if_icmp .eq 7, 3) := by decide +kernel
theorem dX6_isFalse_33 : decode cX6_isFalse 33 = .ok (.iconst 1, 1) := by decide +kernel
theorem dX6_isFalse_34 : decode cX6_isFalse 34 = .ok (.goto 4, 3) := by decide +kernel
theorem dX6_isFalse_37 : decode cX6_isFalse 37 = .ok (.iconst 0, 1) := by decide +kernel
theorem dX6_isFalse_38 : decode cX6_isFalse 38 = .ok (.ireturn, 1) := by decide +kernel
theorem hd_yX6_isFalse : (yX6_isFalse).cls ≠ "java/lang/invoke/MethodHandle" ∧ (yX6_isFalse).cls ≠ "java/lang/invoke/VarHandle" ∧ (parseMethodDescriptor (yX6_isFalse).desc).map (fun d => d.parameters.length) = some 1 := ⟨by decide, by decide, by decide +kernel⟩
def f_X6_isFalse (p0 : Int32) (σ : ZS) : Option Int32 :=
  Option.bind (f_X3_block p0 σ) (fun q1 => Option.bind (f_X2_owner q1 σ) (fun q2 => (if q2 = (-1) then some 0 else Option.bind (f_X3_sayer p0 σ) (fun q3 => (if q2 = q3 then some 0 else some 1)))))
set_option maxHeartbeats 4000000 in
set_option maxRecDepth 100000 in
theorem c_X6_isFalse (l : Launch) (D : va_G) (A : Nat → Prop) (a : Nat → Nat) (x : ClassId × ClassId × ClassId) (σ : ZS) (p0 : Int32) (r : Int32) (h : f_X6_isFalse p0 σ = some r) : zM l yX6_isFalse w_yX6_isFalse ({ frames := 3, cells := 0, slots := 0, locals := 64 } : Room) D A (tyz x) [.ref (a 0), .int p0] (wC a x σ) (some (.int r)) (wC a x σ) := by
  refine z_start [.ref (a 0), .int p0] (lv := [(0, .ref (a 0)), (1, .int p0)]) (by decide) (Nat.le_of_ble_eq_true rfl) rfl ?_
  intro p e s m args below meth c C hr hlk
  unfold f_X6_isFalse at h
  refine z_aload_n C 0 rfl dX6_isFalse_0 ?_
  refine z_get C iRX6 0 gC_0 rfl 1 (by decide) fl_RX6_19 rfl dX6_isFalse_1 ?_
  refine z_aload_n C 0 rfl dX6_isFalse_4 ?_
  refine z_get C iRX6 0 gC_0 rfl 2 (by decide) fl_RX6_26 rfl dX6_isFalse_5 ?_
  refine z_iload_n C 1 rfl dX6_isFalse_8 ?_
  obtain ⟨q1, hq1, h⟩ := bd_spec h
  refine z_callV1 C [.int p0] [.ref (a 2)] (v := (.int q1)) rfl (c_X3_block l D A a x σ p0 q1 hq1) cd_yX3_block in_RX3 ml_RX6_152 im_yX3_block sl_yX3_block gC_3 rfl hd_yX3_block ⟨⟨Nat.le_of_ble_eq_true rfl, Nat.le_of_ble_eq_true rfl⟩, rfl, rfl⟩ rfl (Nat.le_of_ble_eq_true rfl) ⟨Nat.zero_le _, Nat.zero_le _⟩ dX6_isFalse_9 ?_
  obtain ⟨q2, hq2, h⟩ := bd_spec h
  refine z_callV1 C [.int q1] [] (v := (.int q2)) rfl (c_X2_owner l D A a x σ q1 q2 hq2) cd_yX2_owner in_RX2 ml_RX6_89 im_yX2_owner sl_yX2_owner gC_2 rfl hd_yX2_owner ⟨⟨Nat.le_of_ble_eq_true rfl, Nat.le_of_ble_eq_true rfl⟩, rfl, rfl⟩ rfl (Nat.le_of_ble_eq_true rfl) ⟨Nat.zero_le _, Nat.zero_le _⟩ dX6_isFalse_12 ?_
  refine z_istore_n C [(2, .int q2), (0, .ref (a 0)), (1, .int p0)] rfl (by decide) rfl dX6_isFalse_15 ?_
  refine z_iload_n C 0 rfl dX6_isFalse_16 ?_
  refine z_iconst C (v := (-1)) dX6_isFalse_17 (by decide) ?_
  refine z_icmp_eq C 37 (by decide) dX6_isFalse_18 h (fun h => ?_) (fun h => ?_)
  · refine z_iconst C (v := 0) dX6_isFalse_37 (by decide) ?_
    cases h
    exact z_zret C hr hlk rfl dX6_isFalse_38
  · refine z_iload_n C 0 rfl dX6_isFalse_21 ?_
    refine z_aload_n C 1 rfl dX6_isFalse_22 ?_
    refine z_get C iRX6 0 gC_0 rfl 2 (by decide) fl_RX6_26 rfl dX6_isFalse_23 ?_
    refine z_iload_n C 2 rfl dX6_isFalse_26 ?_
    obtain ⟨q3, hq3, h⟩ := bd_spec h
    refine z_callV1 C [.int p0] [.int q2] (v := (.int q3)) rfl (c_X3_sayer l D A a x σ p0 q3 hq3) cd_yX3_sayer in_RX3 ml_RX6_161 im_yX3_sayer sl_yX3_sayer gC_3 rfl hd_yX3_sayer ⟨⟨Nat.le_of_ble_eq_true rfl, Nat.le_of_ble_eq_true rfl⟩, rfl, rfl⟩ rfl (Nat.le_of_ble_eq_true rfl) ⟨Nat.zero_le _, Nat.zero_le _⟩ dX6_isFalse_27 ?_
    refine z_icmp_eq C 37 (by decide) dX6_isFalse_30 h (fun h => ?_) (fun h => ?_)
    · refine z_iconst C (v := 0) dX6_isFalse_37 (by decide) ?_
      cases h
      exact z_zret C hr hlk rfl dX6_isFalse_38
    · refine z_iconst C (v := 1) dX6_isFalse_33 (by decide) ?_
      refine z_goto C 38 (by decide) dX6_isFalse_34 ?_
      cases h
      exact z_zret C hr hlk rfl dX6_isFalse_38
theorem dX6_seersOf_0 : decode cX6_seersOf 0 = .ok (.aload_n 0, 1) := by decide +kernel
theorem dX6_seersOf_1 : decode cX6_seersOf 1 = .ok (.getfield 26, 3) := by decide +kernel
theorem dX6_seersOf_4 : decode cX6_seersOf 4 = .ok (.iload_n 1, 1) := by decide +kernel
theorem dX6_seersOf_5 : decode cX6_seersOf 5 = .ok (.invokevirtual 161, 3) := by decide +kernel
theorem dX6_seersOf_8 : decode cX6_seersOf 8 = .ok (.istore_n 2, 1) := by decide +kernel
theorem dX6_seersOf_9 : decode cX6_seersOf 9 = .ok (.aload_n 0, 1) := by decide +kernel
theorem dX6_seersOf_10 : decode cX6_seersOf 10 = .ok (.getfield 35, 3) := by decide +kernel
theorem dX6_seersOf_13 : decode cX6_seersOf 13 = .ok (.aload_n 0, 1) := by decide +kernel
theorem dX6_seersOf_14 : decode cX6_seersOf 14 = .ok (.getfield 26, 3) := by decide +kernel
theorem dX6_seersOf_17 : decode cX6_seersOf 17 = .ok (.iload_n 1, 1) := by decide +kernel
theorem dX6_seersOf_18 : decode cX6_seersOf 18 = .ok (.invokevirtual 152, 3) := by decide +kernel
theorem dX6_seersOf_21 : decode cX6_seersOf 21 = .ok (.aload_n 0, 1) := by decide +kernel
theorem dX6_seersOf_22 : decode cX6_seersOf 22 = .ok (.getfield 12, 3) := by decide +kernel
theorem dX6_seersOf_25 : decode cX6_seersOf 25 = .ok (.invokevirtual 116, 3) := by decide +kernel
theorem dX6_seersOf_28 : decode cX6_seersOf 28 = .ok (.invokevirtual 119, 3) := by decide +kernel
theorem dX6_seersOf_31 : decode cX6_seersOf 31 = .ok (.iconst 0, 1) := by decide +kernel
theorem dX6_seersOf_32 : decode cX6_seersOf 32 = .ok (.istore_n 3, 1) := by decide +kernel
theorem dX6_seersOf_33 : decode cX6_seersOf 33 = .ok (.iconst 0, 1) := by decide +kernel
theorem dX6_seersOf_34 : decode cX6_seersOf 34 = .ok (.istore 4, 2) := by decide +kernel
theorem dX6_seersOf_36 : decode cX6_seersOf 36 = .ok (.iload 4, 2) := by decide +kernel
theorem dX6_seersOf_38 : decode cX6_seersOf 38 = .ok (.aload_n 0, 1) := by decide +kernel
theorem dX6_seersOf_39 : decode cX6_seersOf 39 = .ok (.getfield 12, 3) := by decide +kernel
theorem dX6_seersOf_42 : decode cX6_seersOf 42 = .ok (.invokevirtual 196, 3) := by decide +kernel
theorem dX6_seersOf_45 : decode cX6_seersOf 45 = .ok (.if_icmp .ge 39, 3) := by decide +kernel
theorem dX6_seersOf_48 : decode cX6_seersOf 48 = .ok (.iload 4, 2) := by decide +kernel
theorem dX6_seersOf_50 : decode cX6_seersOf 50 = .ok (.iload_n 2, 1) := by decide +kernel
theorem dX6_seersOf_51 : decode cX6_seersOf 51 = .ok (.if_icmp .eq 27, 3) := by decide +kernel
theorem dX6_seersOf_54 : decode cX6_seersOf 54 = .ok (.aload_n 0, 1) := by decide +kernel
theorem dX6_seersOf_55 : decode cX6_seersOf 55 = .ok (.getfield 35, 3) := by decide +kernel
theorem dX6_seersOf_58 : decode cX6_seersOf 58 = .ok (.invokevirtual 128, 3) := by decide +kernel
theorem dX6_seersOf_61 : decode cX6_seersOf 61 = .ok (.iload 4, 2) := by decide +kernel
theorem dX6_seersOf_63 : decode cX6_seersOf 63 = .ok (.invokevirtual 204, 3) := by decide +kernel
theorem dX6_seersOf_66 : decode cX6_seersOf 66 = .ok (.iload_n 2, 1) := by decide +kernel
theorem dX6_seersOf_67 : decode cX6_seersOf 67 = .ok (.if_icmp .ne 11, 3) := by decide +kernel
theorem dX6_seersOf_70 : decode cX6_seersOf 70 = .ok (.iload_n 3, 1) := by decide +kernel
theorem dX6_seersOf_71 : decode cX6_seersOf 71 = .ok (.iload 4, 2) := by decide +kernel
theorem dX6_seersOf_73 : decode cX6_seersOf 73 = .ok (.invokestatic 185, 3) := by decide +kernel
theorem dX6_seersOf_76 : decode cX6_seersOf 76 = .ok (.ior, 1) := by decide +kernel
theorem dX6_seersOf_77 : decode cX6_seersOf 77 = .ok (.istore_n 3, 1) := by decide +kernel
theorem dX6_seersOf_78 : decode cX6_seersOf 78 = .ok (.iinc 4 1, 3) := by decide +kernel
theorem dX6_seersOf_81 : decode cX6_seersOf 81 = .ok (.goto (-45), 3) := by decide +kernel
theorem dX6_seersOf_84 : decode cX6_seersOf 84 = .ok (.iload_n 3, 1) := by decide +kernel
theorem dX6_seersOf_85 : decode cX6_seersOf 85 = .ok (.ireturn, 1) := by decide +kernel
theorem hd_yX6_seersOf : (yX6_seersOf).cls ≠ "java/lang/invoke/MethodHandle" ∧ (yX6_seersOf).cls ≠ "java/lang/invoke/VarHandle" ∧ (parseMethodDescriptor (yX6_seersOf).desc).map (fun d => d.parameters.length) = some 1 := ⟨by decide, by decide, by decide +kernel⟩
def f_X6_seersOf_B36 (l2 : Int32) (σ : ZS) (t1 : (Int32 × Int32)) : Option ((Int32 × Int32) ⊕ (Int32 × ZS)) :=
  Option.bind (f_X1_number σ) (fun q5 => (if q5 ≤ t1.2 then wi (some (t1.1, σ)) else (if t1.2 = l2 then some (.inl (t1.1, t1.2 + 1)) else Option.bind (f_X5_last_n t1.2 σ) (fun q7 => (if q7 = l2 then Option.bind (f_X6_bit t1.2) (fun q8 => some (.inl (t1.1 ||| q8, t1.2 + 1))) else some (.inl (t1.1, t1.2 + 1)))))))
def f_X6_seersOf (p0 : Int32) (σ : ZS) : Option (Int32 × ZS) :=
  Option.bind (f_X3_sayer p0 σ) (fun q1 => Option.bind (f_X3_block p0 σ) (fun q2 => Option.bind (f_X1_refusing σ) (fun q3 => Option.bind (f_X4_settle q2 q3 σ) (fun q4 => lp zF (f_X6_seersOf_B36 q1 q4) (0, 0)))))
set_option maxHeartbeats 4000000 in
set_option maxRecDepth 100000 in
theorem c_X6_seersOf (l : Launch) (D : va_G) (A : Nat → Prop) (a : Nat → Nat) (x : ClassId × ClassId × ClassId) (σ : ZS) (p0 : Int32) (r : (Int32 × ZS)) (h : f_X6_seersOf p0 σ = some r) : zM l yX6_seersOf w_yX6_seersOf ({ frames := 4, cells := 0, slots := 0, locals := 107 } : Room) D A (tyz x) [.ref (a 0), .int p0] (wC a x σ) (some (.int r.1)) (wC a x r.2) := by
  refine z_start [.ref (a 0), .int p0] (lv := [(0, .ref (a 0)), (1, .int p0)]) (by decide) (Nat.le_of_ble_eq_true rfl) rfl ?_
  intro p e s m args below meth c C hr hlk
  unfold f_X6_seersOf at h
  refine z_aload_n C 0 rfl dX6_seersOf_0 ?_
  refine z_get C iRX6 0 gC_0 rfl 2 (by decide) fl_RX6_26 rfl dX6_seersOf_1 ?_
  refine z_iload_n C 1 rfl dX6_seersOf_4 ?_
  obtain ⟨q1, hq1, h⟩ := bd_spec h
  refine z_callV1 C [.int p0] [] (v := (.int q1)) rfl (c_X3_sayer l D A a x σ p0 q1 hq1) cd_yX3_sayer in_RX3 ml_RX6_161 im_yX3_sayer sl_yX3_sayer gC_3 rfl hd_yX3_sayer ⟨⟨Nat.le_of_ble_eq_true rfl, Nat.le_of_ble_eq_true rfl⟩, rfl, rfl⟩ rfl (Nat.le_of_ble_eq_true rfl) ⟨Nat.zero_le _, Nat.zero_le _⟩ dX6_seersOf_5 ?_
  refine z_istore_n C [(2, .int q1), (0, .ref (a 0)), (1, .int p0)] rfl (by decide) rfl dX6_seersOf_8 ?_
  refine z_aload_n C 1 rfl dX6_seersOf_9 ?_
  refine z_get C iRX6 0 gC_0 rfl 3 (by decide) fl_RX6_35 rfl dX6_seersOf_10 ?_
  refine z_aload_n C 1 rfl dX6_seersOf_13 ?_
  refine z_get C iRX6 0 gC_0 rfl 2 (by decide) fl_RX6_26 rfl dX6_seersOf_14 ?_
  refine z_iload_n C 2 rfl dX6_seersOf_17 ?_
  obtain ⟨q2, hq2, h⟩ := bd_spec h
  refine z_callV1 C [.int p0] [.ref (a 4)] (v := (.int q2)) rfl (c_X3_block l D A a x σ p0 q2 hq2) cd_yX3_block in_RX3 ml_RX6_152 im_yX3_block sl_yX3_block gC_3 rfl hd_yX3_block ⟨⟨Nat.le_of_ble_eq_true rfl, Nat.le_of_ble_eq_true rfl⟩, rfl, rfl⟩ rfl (Nat.le_of_ble_eq_true rfl) ⟨Nat.zero_le _, Nat.zero_le _⟩ dX6_seersOf_18 ?_
  refine z_aload_n C 1 rfl dX6_seersOf_21 ?_
  refine z_get C iRX6 0 gC_0 rfl 0 (by decide) fl_RX6_12 rfl dX6_seersOf_22 ?_
  obtain ⟨q3, hq3, h⟩ := bd_spec h
  refine z_callV1 C [] [.int q2, .ref (a 4)] (v := (.int q3)) rfl (c_X1_refusing l D A a x σ  q3 hq3) cd_yX1_refusing in_RX1 ml_RX6_116 im_yX1_refusing sl_yX1_refusing gC_1 rfl hd_yX1_refusing ⟨⟨Nat.le_of_ble_eq_true rfl, Nat.le_of_ble_eq_true rfl⟩, rfl, rfl⟩ rfl (Nat.le_of_ble_eq_true rfl) ⟨Nat.zero_le _, Nat.zero_le _⟩ dX6_seersOf_25 ?_
  obtain ⟨q4, hq4, h⟩ := bd_spec h
  refine z_callV0 C [.int q2, .int q3] [] rfl (c_X4_settle l D A a x σ q2 q3 q4 hq4) cd_yX4_settle in_RX4 ml_RX6_119 im_yX4_settle sl_yX4_settle gC_4 rfl hd_yX4_settle ⟨⟨Nat.le_of_ble_eq_true rfl, Nat.le_of_ble_eq_true rfl⟩, rfl, rfl⟩ rfl (Nat.le_of_ble_eq_true rfl) ⟨Nat.zero_le _, Nat.zero_le _⟩ dX6_seersOf_28 ?_
  refine z_iconst C (v := 0) dX6_seersOf_31 (by decide) ?_
  refine z_istore_n C [(3, .int 0), (2, .int q1), (0, .ref (a 0)), (1, .int p0)] rfl (by decide) rfl dX6_seersOf_32 ?_
  refine z_iconst C (v := 0) dX6_seersOf_33 (by decide) ?_
  refine z_istore C [(4, .int 0), (3, .int 0), (2, .int q1), (0, .ref (a 0)), (1, .int p0)] (by decide) rfl dX6_seersOf_34 ?_
  refine z_sub C [3, 2, 1, 0] (lv' := [(0, .ref (a 0)), (2, .int q1), (3, .int 0), (4, .int 0)]) rfl ?_
  have L36 : ∀ (n : Nat) (t1 : (Int32 × Int32)), lp n (f_X6_seersOf_B36 q1 q4) t1 = some r → zV p l e ({ frames := 4, cells := 0, slots := 0, locals := 107 } : Room) s m args below meth c 0 0 (MQ below (zQ D A (some (.int r.1)) (wC a x r.2)) args s 0 0 A) D A 5 (wC a x q4) 36 [(0, .ref (a 0)), (2, .int q1), (3, .int t1.1), (4, .int t1.2)] [] := by
    intro n1
    induction n1 with
    | zero => exact fun _ h => (lp_zero h).elim
    | succ n1 ih1 =>
      intro t1 h
      obtain ⟨u1, h, hk1⟩ := lp_succ h
      unfold f_X6_seersOf_B36 at h
      refine z_iload C 3 rfl dX6_seersOf_36 ?_
      refine z_aload_n C 0 rfl dX6_seersOf_38 ?_
      refine z_get C iRX6 0 gC_0 rfl 0 (by decide) fl_RX6_12 rfl dX6_seersOf_39 ?_
      obtain ⟨q5, hq5, h⟩ := bd_spec h
      refine z_callV1 C [] [.int t1.2] (v := (.int q5)) rfl (c_X1_number l D A a x q4  q5 hq5) cd_yX1_number in_RX1 ml_RX6_196 im_yX1_number sl_yX1_number gC_1 rfl hd_yX1_number ⟨⟨Nat.le_of_ble_eq_true rfl, Nat.le_of_ble_eq_true rfl⟩, rfl, rfl⟩ rfl (Nat.le_of_ble_eq_true rfl) ⟨Nat.zero_le _, Nat.zero_le _⟩ dX6_seersOf_42 ?_
      refine z_icmp_ge C 84 (by decide) dX6_seersOf_45 h (fun h => ?_) (fun h => ?_)
      · refine z_iload_n C 2 rfl dX6_seersOf_84 ?_
        have h := unwi h hk1
        cases h
        exact z_iret C hr hlk dX6_seersOf_85
      · refine z_iload C 3 rfl dX6_seersOf_48 ?_
        refine z_iload_n C 1 rfl dX6_seersOf_50 ?_
        refine z_icmp_eq C 78 (by decide) dX6_seersOf_51 h (fun h => ?_) (fun h => ?_)
        · refine z_iinc C (v := t1.2 + 1) [(4, .int (t1.2 + 1)), (0, .ref (a 0)), (2, .int q1), (3, .int t1.1)] 3 rfl rfl (by decide) rfl dX6_seersOf_78 ?_
          refine z_goto C 36 (by decide) dX6_seersOf_81 ?_
          refine z_sub C [1, 2, 3, 0] (lv' := [(0, .ref (a 0)), (2, .int q1), (3, .int t1.1), (4, .int (t1.2 + 1))]) rfl ?_
          exact ih1 _ (uninl h hk1)
        · refine z_aload_n C 0 rfl dX6_seersOf_54 ?_
          refine z_get C iRX6 0 gC_0 rfl 3 (by decide) fl_RX6_35 rfl dX6_seersOf_55 ?_
          refine z_callV1 C [] [] (v := (.ref (a 12))) rfl (c_X4_ways l D A a x q4 () rfl) cd_yX4_ways in_RX4 ml_RX6_128 im_yX4_ways sl_yX4_ways gC_4 rfl hd_yX4_ways ⟨⟨Nat.le_of_ble_eq_true rfl, Nat.le_of_ble_eq_true rfl⟩, rfl, rfl⟩ rfl (Nat.le_of_ble_eq_true rfl) ⟨Nat.zero_le _, Nat.zero_le _⟩ dX6_seersOf_58 ?_
          refine z_iload C 3 rfl dX6_seersOf_61 ?_
          obtain ⟨q7, hq7, h⟩ := bd_spec h
          refine z_callV1 C [.int t1.2] [] (v := (.int q7)) rfl (c_X5_last_n l D A a x q4 t1.2 q7 hq7) cd_yX5_last in_RX5 ml_RX6_204 im_yX5_last sl_yX5_last gC_12 rfl hd_yX5_last ⟨⟨Nat.le_of_ble_eq_true rfl, Nat.le_of_ble_eq_true rfl⟩, rfl, rfl⟩ rfl (Nat.le_of_ble_eq_true rfl) ⟨Nat.zero_le _, Nat.zero_le _⟩ dX6_seersOf_63 ?_
          refine z_iload_n C 1 rfl dX6_seersOf_66 ?_
          refine z_icmp_ne C 78 (by decide) dX6_seersOf_67 h (fun h => ?_) (fun h => ?_)
          · refine z_iinc C (v := t1.2 + 1) [(4, .int (t1.2 + 1)), (0, .ref (a 0)), (2, .int q1), (3, .int t1.1)] 3 rfl rfl (by decide) rfl dX6_seersOf_78 ?_
            refine z_goto C 36 (by decide) dX6_seersOf_81 ?_
            refine z_sub C [1, 2, 3, 0] (lv' := [(0, .ref (a 0)), (2, .int q1), (3, .int t1.1), (4, .int (t1.2 + 1))]) rfl ?_
            exact ih1 _ (uninl h hk1)
          · refine z_iload_n C 2 rfl dX6_seersOf_70 ?_
            refine z_iload C 3 rfl dX6_seersOf_71 ?_
            obtain ⟨q8, hq8, h⟩ := bd_spec h
            refine z_callS1 C [.int t1.2] [.int t1.1] (v := .int q8) rfl (c_X6_bit l D A (tyz x) (wC a x q4) t1.2 q8 hq8) cd_yX6_bit in_RX6 ml_RX6_185 sm_yX6_bit hd_yX6_bit ⟨⟨Nat.le_of_ble_eq_true rfl, Nat.le_of_ble_eq_true rfl⟩, rfl, rfl⟩ rfl (Nat.le_of_ble_eq_true rfl) ⟨Nat.zero_le _, Nat.zero_le _⟩ dX6_seersOf_73 ?_
            refine z_ior C dX6_seersOf_76 ?_
            refine z_istore_n C [(3, .int (t1.1 ||| q8)), (0, .ref (a 0)), (2, .int q1), (4, .int t1.2)] rfl (by decide) rfl dX6_seersOf_77 ?_
            refine z_iinc C (v := t1.2 + 1) [(4, .int (t1.2 + 1)), (3, .int (t1.1 ||| q8)), (0, .ref (a 0)), (2, .int q1)] 3 rfl rfl (by decide) rfl dX6_seersOf_78 ?_
            refine z_goto C 36 (by decide) dX6_seersOf_81 ?_
            refine z_sub C [2, 3, 1, 0] (lv' := [(0, .ref (a 0)), (2, .int q1), (3, .int (t1.1 ||| q8)), (4, .int (t1.2 + 1))]) rfl ?_
            exact ih1 _ (uninl h hk1)
  exact L36 _ _ h
theorem dX6_saying_0 : decode cX6_saying 0 = .ok (.aload_n 0, 1) := by decide +kernel
theorem dX6_saying_1 : decode cX6_saying 1 = .ok (.getfield 26, 3) := by decide +kernel
theorem dX6_saying_4 : decode cX6_saying 4 = .ok (.iload_n 1, 1) := by decide +kernel
theorem dX6_saying_5 : decode cX6_saying 5 = .ok (.invokevirtual 101, 3) := by decide +kernel
theorem dX6_saying_8 : decode cX6_saying 8 = .ok (.ifCond .ne 6, 3) := by decide +kernel
theorem dX6_saying_11 : decode cX6_saying 11 = .ok (.bipush (-2), 2) := by decide +kernel
theorem dX6_saying_13 : decode cX6_saying 13 = .ok (.ireturn, 1) := by decide +kernel
theorem dX6_saying_14 : decode cX6_saying 14 = .ok (.aload_n 0, 1) := by decide +kernel
theorem dX6_saying_15 : decode cX6_saying 15 = .ok (.getfield 26, 3) := by decide +kernel
theorem dX6_saying_18 : decode cX6_saying 18 = .ok (.iload_n 1, 1) := by decide +kernel
theorem dX6_saying_19 : decode cX6_saying 19 = .ok (.invokevirtual 152, 3) := by decide +kernel
theorem dX6_saying_22 : decode cX6_saying 22 = .ok (.istore_n 3, 1) := by decide +kernel
theorem dX6_saying_23 : decode cX6_saying 23 = .ok (.iload_n 2, 1) := by decide +kernel
theorem dX6_saying_24 : decode cX6_saying 24 = .ok (.tableswitch 105 0 5 #[40, 45, 50, 59, 73, 99], 40) := by decide +kernel
theorem dX6_saying_64 : decode cX6_saying 64 = .ok (.iload_n 3, 1) := by decide +kernel
theorem dX6_saying_65 : decode cX6_saying 65 = .ok (.invokestatic 155, 3) := by decide +kernel
theorem dX6_saying_68 : decode cX6_saying 68 = .ok (.ireturn, 1) := by decide +kernel
theorem dX6_saying_69 : decode cX6_saying 69 = .ok (.iload_n 3, 1) := by decide +kernel
theorem dX6_saying_70 : decode cX6_saying 70 = .ok (.invokestatic 158, 3) := by decide +kernel
theorem dX6_saying_73 : decode cX6_saying 73 = .ok (.ireturn, 1) := by decide +kernel
theorem dX6_saying_74 : decode cX6_saying 74 = .ok (.aload_n 0, 1) := by decide +kernel
theorem dX6_saying_75 : decode cX6_saying 75 = .ok (.getfield 26, 3) := by decide +kernel
theorem dX6_saying_78 : decode cX6_saying 78 = .ok (.iload_n 1, 1) := by decide +kernel
theorem dX6_saying_79 : decode cX6_saying 79 = .ok (.invokevirtual 161, 3) := by decide +kernel
theorem dX6_saying_82 : decode cX6_saying 82 = .ok (.ireturn, 1) := by decide +kernel
theorem dX6_saying_83 : decode cX6_saying 83 = .ok (.aload_n 0, 1) := by decide +kernel
theorem dX6_saying_84 : decode cX6_saying 84 = .ok (.iload_n 1, 1) := by decide +kernel
theorem dX6_saying_85 : decode cX6_saying 85 = .ok (.invokevirtual 164, 3) := by decide +kernel
theorem dX6_saying_88 : decode cX6_saying 88 = .ok (.ifCond .eq 7, 3) := by decide +kernel
theorem dX6_saying_91 : decode cX6_saying 91 = .ok (.iconst 1, 1) := by decide +kernel
theorem dX6_saying_92 : decode cX6_saying 92 = .ok (.goto 4, 3) := by decide +kernel
theorem dX6_saying_95 : decode cX6_saying 95 = .ok (.iconst 0, 1) := by decide +kernel
theorem dX6_saying_96 : decode cX6_saying 96 = .ok (.ireturn, 1) := by decide +kernel
theorem dX6_saying_97 : decode cX6_saying 97 = .ok (.aload_n 0, 1) := by decide +kernel
theorem dX6_saying_98 : decode cX6_saying 98 = .ok (.iload_n 1, 1) := by decide +kernel
theorem dX6_saying_99 : decode cX6_saying 99 = .ok (.invokevirtual 164, 3) := by decide +kernel
theorem dX6_saying_102 : decode cX6_saying 102 = .ok (.ifCond .eq 19, 3) := by decide +kernel
theorem dX6_saying_105 : decode cX6_saying 105 = .ok (.aload_n 0, 1) := by decide +kernel
theorem dX6_saying_106 : decode cX6_saying 106 = .ok (.getfield 19, 3) := by decide +kernel
theorem dX6_saying_109 : decode cX6_saying 109 = .ok (.iload_n 3, 1) := by decide +kernel
theorem dX6_saying_110 : decode cX6_saying 110 = .ok (.invokevirtual 79, 3) := by decide +kernel
theorem dX6_saying_113 : decode cX6_saying 113 = .ok (.iconst (-1), 1) := by decide +kernel
theorem dX6_saying_114 : decode cX6_saying 114 = .ok (.if_icmp .ne 7, 3) := by decide +kernel
theorem dX6_saying_117 : decode cX6_saying 117 = .ok (.iconst 1, 1) := by decide +kernel
theorem dX6_saying_118 : decode cX6_saying 118 = .ok (.goto 4, 3) := by decide +kernel
theorem dX6_saying_121 : decode cX6_saying 121 = .ok (.iconst 0, 1) := by decide +kernel
theorem dX6_saying_122 : decode cX6_saying 122 = .ok (.ireturn, 1) := by decide +kernel
theorem dX6_saying_123 : decode cX6_saying 123 = .ok (.aload_n 0, 1) := by decide +kernel
theorem dX6_saying_124 : decode cX6_saying 124 = .ok (.iload_n 1, 1) := by decide +kernel
theorem dX6_saying_125 : decode cX6_saying 125 = .ok (.invokevirtual 167, 3) := by decide +kernel
theorem dX6_saying_128 : decode cX6_saying 128 = .ok (.ireturn, 1) := by decide +kernel
theorem dX6_saying_129 : decode cX6_saying 129 = .ok (.bipush (-2), 2) := by decide +kernel
theorem dX6_saying_131 : decode cX6_saying 131 = .ok (.ireturn, 1) := by decide +kernel
theorem hd_yX6_saying : (yX6_saying).cls ≠ "java/lang/invoke/MethodHandle" ∧ (yX6_saying).cls ≠ "java/lang/invoke/VarHandle" ∧ (parseMethodDescriptor (yX6_saying).desc).map (fun d => d.parameters.length) = some 2 := ⟨by decide, by decide, by decide +kernel⟩
def f_X6_saying (p0 : Int32) (p1 : Int32) (σ : ZS) : Option (Int32 × ZS) :=
  Option.bind (f_X3_has p0 σ) (fun q1 => (if q1 = 0 then some ((-2), σ) else Option.bind (f_X3_block p0 σ) (fun q2 => (if p1 = 0 then Option.bind (f_X6_lengthOf q2) (fun q9 => some (q9, σ)) else (if p1 = 1 then Option.bind (f_X6_firstOf q2) (fun q8 => some (q8, σ)) else (if p1 = 2 then Option.bind (f_X3_sayer p0 σ) (fun q7 => some (q7, σ)) else (if p1 = 3 then Option.bind (f_X6_isFalse p0 σ) (fun q6 => (if q6 = 0 then some (0, σ) else some (1, σ))) else (if p1 = 4 then Option.bind (f_X6_isFalse p0 σ) (fun q4 => (if q4 = 0 then some (0, σ) else Option.bind (f_X2_holder q2 σ) (fun q5 => (if q5 = (-1) then some (1, σ) else some (0, σ))))) else (if p1 = 5 then Option.bind (f_X6_seersOf p0 σ) (fun q3 => some (q3.1, q3.2)) else some ((-2), σ))))))))))
set_option maxHeartbeats 4000000 in
set_option maxRecDepth 100000 in
theorem c_X6_saying (l : Launch) (D : va_G) (A : Nat → Prop) (a : Nat → Nat) (x : ClassId × ClassId × ClassId) (σ : ZS) (p0 : Int32) (p1 : Int32) (r : (Int32 × ZS)) (h : f_X6_saying p0 p1 σ = some r) : zM l yX6_saying w_yX6_saying ({ frames := 5, cells := 0, slots := 0, locals := 131 } : Room) D A (tyz x) [.ref (a 0), .int p0, .int p1] (wC a x σ) (some (.int r.1)) (wC a x r.2) := by
  refine z_start [.ref (a 0), .int p0, .int p1] (lv := [(0, .ref (a 0)), (1, .int p0), (2, .int p1)]) (by decide) (Nat.le_of_ble_eq_true rfl) rfl ?_
  intro p e s m args below meth c C hr hlk
  unfold f_X6_saying at h
  refine z_aload_n C 0 rfl dX6_saying_0 ?_
  refine z_get C iRX6 0 gC_0 rfl 2 (by decide) fl_RX6_26 rfl dX6_saying_1 ?_
  refine z_iload_n C 1 rfl dX6_saying_4 ?_
  obtain ⟨q1, hq1, h⟩ := bd_spec h
  refine z_callV1 C [.int p0] [] (v := (.int q1)) rfl (c_X3_has l D A a x σ p0 q1 hq1) cd_yX3_has in_RX3 ml_RX6_101 im_yX3_has sl_yX3_has gC_3 rfl hd_yX3_has ⟨⟨Nat.le_of_ble_eq_true rfl, Nat.le_of_ble_eq_true rfl⟩, rfl, rfl⟩ rfl (Nat.le_of_ble_eq_true rfl) ⟨Nat.zero_le _, Nat.zero_le _⟩ dX6_saying_5 ?_
  refine z_if_ne C 14 (by decide) dX6_saying_8 h (fun h => ?_) (fun h => ?_)
  · refine z_aload_n C 0 rfl dX6_saying_14 ?_
    refine z_get C iRX6 0 gC_0 rfl 2 (by decide) fl_RX6_26 rfl dX6_saying_15 ?_
    refine z_iload_n C 1 rfl dX6_saying_18 ?_
    obtain ⟨q2, hq2, h⟩ := bd_spec h
    refine z_callV1 C [.int p0] [] (v := (.int q2)) rfl (c_X3_block l D A a x σ p0 q2 hq2) cd_yX3_block in_RX3 ml_RX6_152 im_yX3_block sl_yX3_block gC_3 rfl hd_yX3_block ⟨⟨Nat.le_of_ble_eq_true rfl, Nat.le_of_ble_eq_true rfl⟩, rfl, rfl⟩ rfl (Nat.le_of_ble_eq_true rfl) ⟨Nat.zero_le _, Nat.zero_le _⟩ dX6_saying_19 ?_
    refine z_istore_n C [(3, .int q2), (0, .ref (a 0)), (1, .int p0), (2, .int p1)] rfl (by decide) rfl dX6_saying_22 ?_
    refine z_iload_n C 3 rfl dX6_saying_23 ?_
    by_cases hs0 : p1 = 0
    · rw [if_pos hs0] at h
      refine z_swIn (α := Unit) C 64 0 dX6_saying_24 (by rw [hs0]; decide) (by decide) (by decide) rfl (by decide) ?_
      refine z_iload_n C 0 rfl dX6_saying_64 ?_
      obtain ⟨q3, hq3, h⟩ := bd_spec h
      refine z_callS1 C [.int q2] [] (v := .int q3) rfl (c_X6_lengthOf l D A (tyz x) (wC a x σ) q2 q3 hq3) cd_yX6_lengthOf in_RX6 ml_RX6_155 sm_yX6_lengthOf hd_yX6_lengthOf ⟨⟨Nat.le_of_ble_eq_true rfl, Nat.le_of_ble_eq_true rfl⟩, rfl, rfl⟩ rfl (Nat.le_of_ble_eq_true rfl) ⟨Nat.zero_le _, Nat.zero_le _⟩ dX6_saying_65 ?_
      cases h
      exact z_iret C hr hlk dX6_saying_68
    rw [if_neg hs0] at h
    by_cases hs1 : p1 = 1
    · rw [if_pos hs1] at h
      refine z_swIn (α := Unit) C 69 1 dX6_saying_24 (by rw [hs1]; decide) (by decide) (by decide) rfl (by decide) ?_
      refine z_iload_n C 0 rfl dX6_saying_69 ?_
      obtain ⟨q4, hq4, h⟩ := bd_spec h
      refine z_callS1 C [.int q2] [] (v := .int q4) rfl (c_X6_firstOf l D A (tyz x) (wC a x σ) q2 q4 hq4) cd_yX6_firstOf in_RX6 ml_RX6_158 sm_yX6_firstOf hd_yX6_firstOf ⟨⟨Nat.le_of_ble_eq_true rfl, Nat.le_of_ble_eq_true rfl⟩, rfl, rfl⟩ rfl (Nat.le_of_ble_eq_true rfl) ⟨Nat.zero_le _, Nat.zero_le _⟩ dX6_saying_70 ?_
      cases h
      exact z_iret C hr hlk dX6_saying_73
    rw [if_neg hs1] at h
    by_cases hs2 : p1 = 2
    · rw [if_pos hs2] at h
      refine z_swIn (α := Unit) C 74 2 dX6_saying_24 (by rw [hs2]; decide) (by decide) (by decide) rfl (by decide) ?_
      refine z_aload_n C 1 rfl dX6_saying_74 ?_
      refine z_get C iRX6 0 gC_0 rfl 2 (by decide) fl_RX6_26 rfl dX6_saying_75 ?_
      refine z_iload_n C 2 rfl dX6_saying_78 ?_
      obtain ⟨q5, hq5, h⟩ := bd_spec h
      refine z_callV1 C [.int p0] [] (v := (.int q5)) rfl (c_X3_sayer l D A a x σ p0 q5 hq5) cd_yX3_sayer in_RX3 ml_RX6_161 im_yX3_sayer sl_yX3_sayer gC_3 rfl hd_yX3_sayer ⟨⟨Nat.le_of_ble_eq_true rfl, Nat.le_of_ble_eq_true rfl⟩, rfl, rfl⟩ rfl (Nat.le_of_ble_eq_true rfl) ⟨Nat.zero_le _, Nat.zero_le _⟩ dX6_saying_79 ?_
      cases h
      exact z_iret C hr hlk dX6_saying_82
    rw [if_neg hs2] at h
    by_cases hs3 : p1 = 3
    · rw [if_pos hs3] at h
      refine z_swIn (α := Unit) C 83 3 dX6_saying_24 (by rw [hs3]; decide) (by decide) (by decide) rfl (by decide) ?_
      refine z_aload_n C 1 rfl dX6_saying_83 ?_
      refine z_iload_n C 2 rfl dX6_saying_84 ?_
      obtain ⟨q6, hq6, h⟩ := bd_spec h
      refine z_callV1 C [.int p0] [] (v := (.int q6)) rfl (c_X6_isFalse l D A a x σ p0 q6 hq6) cd_yX6_isFalse in_RX6 ml_RX6_164 im_yX6_isFalse sl_yX6_isFalse gC_0 rfl hd_yX6_isFalse ⟨⟨Nat.le_of_ble_eq_true rfl, Nat.le_of_ble_eq_true rfl⟩, rfl, rfl⟩ rfl (Nat.le_of_ble_eq_true rfl) ⟨Nat.zero_le _, Nat.zero_le _⟩ dX6_saying_85 ?_
      refine z_if_eq C 95 (by decide) dX6_saying_88 h (fun h => ?_) (fun h => ?_)
      · refine z_iconst C (v := 0) dX6_saying_95 (by decide) ?_
        cases h
        exact z_iret C hr hlk dX6_saying_96
      · refine z_iconst C (v := 1) dX6_saying_91 (by decide) ?_
        refine z_goto C 96 (by decide) dX6_saying_92 ?_
        cases h
        exact z_iret C hr hlk dX6_saying_96
    rw [if_neg hs3] at h
    by_cases hs4 : p1 = 4
    · rw [if_pos hs4] at h
      refine z_swIn (α := Unit) C 97 4 dX6_saying_24 (by rw [hs4]; decide) (by decide) (by decide) rfl (by decide) ?_
      refine z_aload_n C 1 rfl dX6_saying_97 ?_
      refine z_iload_n C 2 rfl dX6_saying_98 ?_
      obtain ⟨q7, hq7, h⟩ := bd_spec h
      refine z_callV1 C [.int p0] [] (v := (.int q7)) rfl (c_X6_isFalse l D A a x σ p0 q7 hq7) cd_yX6_isFalse in_RX6 ml_RX6_164 im_yX6_isFalse sl_yX6_isFalse gC_0 rfl hd_yX6_isFalse ⟨⟨Nat.le_of_ble_eq_true rfl, Nat.le_of_ble_eq_true rfl⟩, rfl, rfl⟩ rfl (Nat.le_of_ble_eq_true rfl) ⟨Nat.zero_le _, Nat.zero_le _⟩ dX6_saying_99 ?_
      refine z_if_eq C 121 (by decide) dX6_saying_102 h (fun h => ?_) (fun h => ?_)
      · refine z_iconst C (v := 0) dX6_saying_121 (by decide) ?_
        cases h
        exact z_iret C hr hlk dX6_saying_122
      · refine z_aload_n C 1 rfl dX6_saying_105 ?_
        refine z_get C iRX6 0 gC_0 rfl 1 (by decide) fl_RX6_19 rfl dX6_saying_106 ?_
        refine z_iload_n C 0 rfl dX6_saying_109 ?_
        obtain ⟨q8, hq8, h⟩ := bd_spec h
        refine z_callV1 C [.int q2] [] (v := (.int q8)) rfl (c_X2_holder l D A a x σ q2 q8 hq8) cd_yX2_holder in_RX2 ml_RX6_79 im_yX2_holder sl_yX2_holder gC_2 rfl hd_yX2_holder ⟨⟨Nat.le_of_ble_eq_true rfl, Nat.le_of_ble_eq_true rfl⟩, rfl, rfl⟩ rfl (Nat.le_of_ble_eq_true rfl) ⟨Nat.zero_le _, Nat.zero_le _⟩ dX6_saying_110 ?_
        refine z_iconst C (v := (-1)) dX6_saying_113 (by decide) ?_
        refine z_icmp_ne C 121 (by decide) dX6_saying_114 h (fun h => ?_) (fun h => ?_)
        · refine z_iconst C (v := 0) dX6_saying_121 (by decide) ?_
          cases h
          exact z_iret C hr hlk dX6_saying_122
        · refine z_iconst C (v := 1) dX6_saying_117 (by decide) ?_
          refine z_goto C 122 (by decide) dX6_saying_118 ?_
          cases h
          exact z_iret C hr hlk dX6_saying_122
    rw [if_neg hs4] at h
    by_cases hs5 : p1 = 5
    · rw [if_pos hs5] at h
      refine z_swIn (α := Unit) C 123 5 dX6_saying_24 (by rw [hs5]; decide) (by decide) (by decide) rfl (by decide) ?_
      refine z_aload_n C 1 rfl dX6_saying_123 ?_
      refine z_iload_n C 2 rfl dX6_saying_124 ?_
      obtain ⟨q9, hq9, h⟩ := bd_spec h
      refine z_callV1 C [.int p0] [] (v := (.int q9.1)) rfl (c_X6_seersOf l D A a x σ p0 q9 hq9) cd_yX6_seersOf in_RX6 ml_RX6_167 im_yX6_seersOf sl_yX6_seersOf gC_0 rfl hd_yX6_seersOf ⟨⟨Nat.le_of_ble_eq_true rfl, Nat.le_of_ble_eq_true rfl⟩, rfl, rfl⟩ rfl (Nat.le_of_ble_eq_true rfl) ⟨Nat.zero_le _, Nat.zero_le _⟩ dX6_saying_125 ?_
      cases h
      exact z_iret C hr hlk dX6_saying_128
    rw [if_neg hs5] at h
    refine z_swOut C 129 dX6_saying_24 (zx_out6 hs0 hs1 hs2 hs3 hs4 hs5) (by decide) ?_
    refine z_bipush C (v := (-2)) dX6_saying_129 (by decide) ?_
    cases h
    exact z_iret C hr hlk dX6_saying_131
  · refine z_bipush C (v := (-2)) dX6_saying_11 (by decide) ?_
    cases h
    exact z_iret C hr hlk dX6_saying_13
theorem dX6_noteSeersOfFalse_0 : decode cX6_noteSeersOfFalse 0 = .ok (.iconst 0, 1) := by decide +kernel
theorem dX6_noteSeersOfFalse_1 : decode cX6_noteSeersOfFalse 1 = .ok (.istore_n 1, 1) := by decide +kernel
theorem dX6_noteSeersOfFalse_2 : decode cX6_noteSeersOfFalse 2 = .ok (.iconst 0, 1) := by decide +kernel
theorem dX6_noteSeersOfFalse_3 : decode cX6_noteSeersOfFalse 3 = .ok (.istore_n 2, 1) := by decide +kernel
theorem dX6_noteSeersOfFalse_4 : decode cX6_noteSeersOfFalse 4 = .ok (.iload_n 2, 1) := by decide +kernel
theorem dX6_noteSeersOfFalse_5 : decode cX6_noteSeersOfFalse 5 = .ok (.aload_n 0, 1) := by decide +kernel
theorem dX6_noteSeersOfFalse_6 : decode cX6_noteSeersOfFalse 6 = .ok (.getfield 26, 3) := by decide +kernel
theorem dX6_noteSeersOfFalse_9 : decode cX6_noteSeersOfFalse 9 = .ok (.invokevirtual 200, 3) := by decide +kernel
theorem dX6_noteSeersOfFalse_12 : decode cX6_noteSeersOfFalse 12 = .ok (.if_icmp .ge 50, 3) := by decide +kernel
theorem dX6_noteSeersOfFalse_15 : decode cX6_noteSeersOfFalse 15 = .ok (.iload_n 1, 1) := by decide +kernel
theorem dX6_noteSeersOfFalse_16 : decode cX6_noteSeersOfFalse 16 = .ok (.aload_n 0, 1) := by decide +kernel
theorem dX6_noteSeersOfFalse_17 : decode cX6_noteSeersOfFalse 17 = .ok (.getfield 48, 3) := by decide +kernel
theorem dX6_noteSeersOfFalse_20 : decode cX6_noteSeersOfFalse 20 = .ok (.arraylength, 1) := by decide +kernel
theorem dX6_noteSeersOfFalse_21 : decode cX6_noteSeersOfFalse 21 = .ok (.if_icmp .ge 41, 3) := by decide +kernel
theorem dX6_noteSeersOfFalse_24 : decode cX6_noteSeersOfFalse 24 = .ok (.aload_n 0, 1) := by decide +kernel
theorem dX6_noteSeersOfFalse_25 : decode cX6_noteSeersOfFalse 25 = .ok (.iload_n 2, 1) := by decide +kernel
theorem dX6_noteSeersOfFalse_26 : decode cX6_noteSeersOfFalse 26 = .ok (.invokevirtual 164, 3) := by decide +kernel
theorem dX6_noteSeersOfFalse_29 : decode cX6_noteSeersOfFalse 29 = .ok (.ifCond .eq 11, 3) := by decide +kernel
theorem dX6_noteSeersOfFalse_32 : decode cX6_noteSeersOfFalse 32 = .ok (.aload_n 0, 1) := by decide +kernel
theorem dX6_noteSeersOfFalse_33 : decode cX6_noteSeersOfFalse 33 = .ok (.iload_n 2, 1) := by decide +kernel
theorem dX6_noteSeersOfFalse_34 : decode cX6_noteSeersOfFalse 34 = .ok (.invokevirtual 167, 3) := by decide +kernel
theorem dX6_noteSeersOfFalse_37 : decode cX6_noteSeersOfFalse 37 = .ok (.goto 4, 3) := by decide +kernel
theorem dX6_noteSeersOfFalse_40 : decode cX6_noteSeersOfFalse 40 = .ok (.iconst 0, 1) := by decide +kernel
theorem dX6_noteSeersOfFalse_41 : decode cX6_noteSeersOfFalse 41 = .ok (.istore_n 3, 1) := by decide +kernel
theorem dX6_noteSeersOfFalse_42 : decode cX6_noteSeersOfFalse 42 = .ok (.iload_n 3, 1) := by decide +kernel
theorem dX6_noteSeersOfFalse_43 : decode cX6_noteSeersOfFalse 43 = .ok (.ifCond .eq 13, 3) := by decide +kernel
theorem dX6_noteSeersOfFalse_46 : decode cX6_noteSeersOfFalse 46 = .ok (.aload_n 0, 1) := by decide +kernel
theorem dX6_noteSeersOfFalse_47 : decode cX6_noteSeersOfFalse 47 = .ok (.getfield 48, 3) := by decide +kernel
theorem dX6_noteSeersOfFalse_50 : decode cX6_noteSeersOfFalse 50 = .ok (.iload_n 1, 1) := by decide +kernel
theorem dX6_noteSeersOfFalse_51 : decode cX6_noteSeersOfFalse 51 = .ok (.iload_n 3, 1) := by decide +kernel
theorem dX6_noteSeersOfFalse_52 : decode cX6_noteSeersOfFalse 52 = .ok (.iastore, 1) := by decide +kernel
theorem dX6_noteSeersOfFalse_53 : decode cX6_noteSeersOfFalse 53 = .ok (.iinc 1 1, 3) := by decide +kernel
theorem dX6_noteSeersOfFalse_56 : decode cX6_noteSeersOfFalse 56 = .ok (.iinc 2 1, 3) := by decide +kernel
theorem dX6_noteSeersOfFalse_59 : decode cX6_noteSeersOfFalse 59 = .ok (.goto (-55), 3) := by decide +kernel
theorem dX6_noteSeersOfFalse_62 : decode cX6_noteSeersOfFalse 62 = .ok (.iload_n 1, 1) := by decide +kernel
theorem dX6_noteSeersOfFalse_63 : decode cX6_noteSeersOfFalse 63 = .ok (.ireturn, 1) := by decide +kernel
theorem hd_yX6_noteSeersOfFalse : (yX6_noteSeersOfFalse).cls ≠ "java/lang/invoke/MethodHandle" ∧ (yX6_noteSeersOfFalse).cls ≠ "java/lang/invoke/VarHandle" ∧ (parseMethodDescriptor (yX6_noteSeersOfFalse).desc).map (fun d => d.parameters.length) = some 0 := ⟨by decide, by decide, by decide +kernel⟩
def f_X6_noteSeersOfFalse_J41 (l1 : Int32) (l2 : Int32) (s0 : Int32) (σ : ZS) : Option ((Int32 × Int32 × ZS) ⊕ (Int32 × ZS)) :=
  (if s0 = 0 then some (.inl (l1, l2 + 1, σ)) else ck (inb l1 16) (some (.inl (l1 + 1, l2 + 1, setA σ 6 (Int32.toNatClampNeg l1) s0))))
def f_X6_noteSeersOfFalse_B4  (t1 : (Int32 × Int32 × ZS)) : Option ((Int32 × Int32 × ZS) ⊕ (Int32 × ZS)) :=
  Option.bind (f_X3_number t1.2.2) (fun q1 => (if q1 ≤ t1.2.1 then wi (some (t1.1, t1.2.2)) else (if 16 ≤ t1.1 then wi (some (t1.1, t1.2.2)) else Option.bind (f_X6_isFalse t1.2.1 t1.2.2) (fun q2 => (if q2 = 0 then f_X6_noteSeersOfFalse_J41 t1.1 t1.2.1 0 t1.2.2 else Option.bind (f_X6_seersOf t1.2.1 t1.2.2) (fun q3 => f_X6_noteSeersOfFalse_J41 t1.1 t1.2.1 q3.1 q3.2))))))
def f_X6_noteSeersOfFalse  (σ : ZS) : Option (Int32 × ZS) :=
  lp zF (f_X6_noteSeersOfFalse_B4) (0, 0, σ)
set_option maxHeartbeats 4000000 in
set_option maxRecDepth 100000 in
theorem c_X6_noteSeersOfFalse (l : Launch) (D : va_G) (A : Nat → Prop) (a : Nat → Nat) (x : ClassId × ClassId × ClassId) (σ : ZS)  (r : (Int32 × ZS)) (h : f_X6_noteSeersOfFalse  σ = some r) : zM l yX6_noteSeersOfFalse w_yX6_noteSeersOfFalse ({ frames := 5, cells := 0, slots := 0, locals := 131 } : Room) D A (tyz x) [.ref (a 0)] (wC a x σ) (some (.int r.1)) (wC a x r.2) := by
  refine z_start [.ref (a 0)] (lv := [(0, .ref (a 0))]) (by decide) (Nat.le_of_ble_eq_true rfl) rfl ?_
  intro p e s m args below meth c C hr hlk
  unfold f_X6_noteSeersOfFalse at h
  refine z_iconst C (v := 0) dX6_noteSeersOfFalse_0 (by decide) ?_
  refine z_istore_n C [(1, .int 0), (0, .ref (a 0))] rfl (by decide) rfl dX6_noteSeersOfFalse_1 ?_
  refine z_iconst C (v := 0) dX6_noteSeersOfFalse_2 (by decide) ?_
  refine z_istore_n C [(2, .int 0), (1, .int 0), (0, .ref (a 0))] rfl (by decide) rfl dX6_noteSeersOfFalse_3 ?_
  refine z_sub C [2, 1, 0] (lv' := [(0, .ref (a 0)), (1, .int 0), (2, .int 0)]) rfl ?_
  have L4 : ∀ (n : Nat) (t1 : (Int32 × Int32 × ZS)), lp n (f_X6_noteSeersOfFalse_B4) t1 = some r → zV p l e ({ frames := 5, cells := 0, slots := 0, locals := 131 } : Room) s m args below meth c 0 0 (MQ below (zQ D A (some (.int r.1)) (wC a x r.2)) args s 0 0 A) D A 4 (wC a x t1.2.2) 4 [(0, .ref (a 0)), (1, .int t1.1), (2, .int t1.2.1)] [] := by
    intro n1
    induction n1 with
    | zero => exact fun _ h => (lp_zero h).elim
    | succ n1 ih1 =>
      intro t1 h
      obtain ⟨u1, h, hk1⟩ := lp_succ h
      have J41 : ∀ (l1_41 : Int32) (l2_41 : Int32) (s0_41 : Int32) (σ_41 : ZS), f_X6_noteSeersOfFalse_J41 l1_41 l2_41 s0_41 σ_41 = some u1 → zV p l e ({ frames := 5, cells := 0, slots := 0, locals := 131 } : Room) s m args below meth c 0 0 (MQ below (zQ D A (some (.int r.1)) (wC a x r.2)) args s 0 0 A) D A 4 (wC a x σ_41) 41 [(0, .ref (a 0)), (1, .int l1_41), (2, .int l2_41)] [.int s0_41] := by
        intro l1_41 l2_41 s0_41 σ_41 h
        unfold f_X6_noteSeersOfFalse_J41 at h
        refine z_istore_n C [(3, .int s0_41), (0, .ref (a 0)), (1, .int l1_41), (2, .int l2_41)] rfl (by decide) rfl dX6_noteSeersOfFalse_41 ?_
        refine z_iload_n C 0 rfl dX6_noteSeersOfFalse_42 ?_
        refine z_if_eq C 56 (by decide) dX6_noteSeersOfFalse_43 h (fun h => ?_) (fun h => ?_)
        · refine z_iinc C (v := l2_41 + 1) [(2, .int (l2_41 + 1)), (3, .int s0_41), (0, .ref (a 0)), (1, .int l1_41)] 3 rfl rfl (by decide) rfl dX6_noteSeersOfFalse_56 ?_
          refine z_goto C 4 (by decide) dX6_noteSeersOfFalse_59 ?_
          refine z_sub C [2, 3, 0] (lv' := [(0, .ref (a 0)), (1, .int l1_41), (2, .int (l2_41 + 1))]) rfl ?_
          exact ih1 _ (uninl h hk1)
        · refine z_aload_n C 1 rfl dX6_noteSeersOfFalse_46 ?_
          refine z_get C iRX6 0 gC_0 rfl 5 (by decide) fl_RX6_48 rfl dX6_noteSeersOfFalse_47 ?_
          refine z_iload_n C 2 rfl dX6_noteSeersOfFalse_50 ?_
          refine z_iload_n C 0 rfl dX6_noteSeersOfFalse_51 ?_
          refine z_iast C 6 0 gC_6 rfl uC_6 dX6_noteSeersOfFalse_52 h (fun h => ?_)
          refine z_iinc C (v := l1_41 + 1) [(1, .int (l1_41 + 1)), (3, .int s0_41), (0, .ref (a 0)), (2, .int l2_41)] 2 rfl rfl (by decide) rfl dX6_noteSeersOfFalse_53 ?_
          refine z_iinc C (v := l2_41 + 1) [(2, .int (l2_41 + 1)), (1, .int (l1_41 + 1)), (3, .int s0_41), (0, .ref (a 0))] 3 rfl rfl (by decide) rfl dX6_noteSeersOfFalse_56 ?_
          refine z_goto C 4 (by decide) dX6_noteSeersOfFalse_59 ?_
          refine z_sub C [3, 1, 0] (lv' := [(0, .ref (a 0)), (1, .int (l1_41 + 1)), (2, .int (l2_41 + 1))]) rfl ?_
          exact ih1 _ (uninl h hk1)
      unfold f_X6_noteSeersOfFalse_B4 at h
      refine z_iload_n C 2 rfl dX6_noteSeersOfFalse_4 ?_
      refine z_aload_n C 0 rfl dX6_noteSeersOfFalse_5 ?_
      refine z_get C iRX6 0 gC_0 rfl 2 (by decide) fl_RX6_26 rfl dX6_noteSeersOfFalse_6 ?_
      obtain ⟨q1, hq1, h⟩ := bd_spec h
      refine z_callV1 C [] [.int t1.2.1] (v := (.int q1)) rfl (c_X3_number l D A a x t1.2.2  q1 hq1) cd_yX3_number in_RX3 ml_RX6_200 im_yX3_number sl_yX3_number gC_3 rfl hd_yX3_number ⟨⟨Nat.le_of_ble_eq_true rfl, Nat.le_of_ble_eq_true rfl⟩, rfl, rfl⟩ rfl (Nat.le_of_ble_eq_true rfl) ⟨Nat.zero_le _, Nat.zero_le _⟩ dX6_noteSeersOfFalse_9 ?_
      refine z_icmp_ge C 62 (by decide) dX6_noteSeersOfFalse_12 h (fun h => ?_) (fun h => ?_)
      · refine z_iload_n C 1 rfl dX6_noteSeersOfFalse_62 ?_
        have h := unwi h hk1
        cases h
        exact z_iret C hr hlk dX6_noteSeersOfFalse_63
      · refine z_iload_n C 1 rfl dX6_noteSeersOfFalse_15 ?_
        refine z_aload_n C 0 rfl dX6_noteSeersOfFalse_16 ?_
        refine z_get C iRX6 0 gC_0 rfl 5 (by decide) fl_RX6_48 rfl dX6_noteSeersOfFalse_17 ?_
        refine z_alen C 6 0 gC_6 rfl (v := 16) rfl dX6_noteSeersOfFalse_20 ?_
        refine z_icmp_ge C 62 (by decide) dX6_noteSeersOfFalse_21 h (fun h => ?_) (fun h => ?_)
        · refine z_iload_n C 1 rfl dX6_noteSeersOfFalse_62 ?_
          have h := unwi h hk1
          cases h
          exact z_iret C hr hlk dX6_noteSeersOfFalse_63
        · refine z_aload_n C 0 rfl dX6_noteSeersOfFalse_24 ?_
          refine z_iload_n C 2 rfl dX6_noteSeersOfFalse_25 ?_
          obtain ⟨q2, hq2, h⟩ := bd_spec h
          refine z_callV1 C [.int t1.2.1] [] (v := (.int q2)) rfl (c_X6_isFalse l D A a x t1.2.2 t1.2.1 q2 hq2) cd_yX6_isFalse in_RX6 ml_RX6_164 im_yX6_isFalse sl_yX6_isFalse gC_0 rfl hd_yX6_isFalse ⟨⟨Nat.le_of_ble_eq_true rfl, Nat.le_of_ble_eq_true rfl⟩, rfl, rfl⟩ rfl (Nat.le_of_ble_eq_true rfl) ⟨Nat.zero_le _, Nat.zero_le _⟩ dX6_noteSeersOfFalse_26 ?_
          refine z_if_eq C 40 (by decide) dX6_noteSeersOfFalse_29 h (fun h => ?_) (fun h => ?_)
          · refine z_iconst C (v := 0) dX6_noteSeersOfFalse_40 (by decide) ?_
            exact J41 _ _ _ _ h
          · refine z_aload_n C 0 rfl dX6_noteSeersOfFalse_32 ?_
            refine z_iload_n C 2 rfl dX6_noteSeersOfFalse_33 ?_
            obtain ⟨q3, hq3, h⟩ := bd_spec h
            refine z_callV1 C [.int t1.2.1] [] (v := (.int q3.1)) rfl (c_X6_seersOf l D A a x t1.2.2 t1.2.1 q3 hq3) cd_yX6_seersOf in_RX6 ml_RX6_167 im_yX6_seersOf sl_yX6_seersOf gC_0 rfl hd_yX6_seersOf ⟨⟨Nat.le_of_ble_eq_true rfl, Nat.le_of_ble_eq_true rfl⟩, rfl, rfl⟩ rfl (Nat.le_of_ble_eq_true rfl) ⟨Nat.zero_le _, Nat.zero_le _⟩ dX6_noteSeersOfFalse_34 ?_
            refine z_goto C 41 (by decide) dX6_noteSeersOfFalse_37 ?_
            exact J41 _ _ _ _ h
  exact L4 _ _ h
theorem dX6_meetsAll_0 : decode cX6_meetsAll 0 = .ok (.iconst 0, 1) := by decide +kernel
theorem dX6_meetsAll_1 : decode cX6_meetsAll 1 = .ok (.istore_n 3, 1) := by decide +kernel
theorem dX6_meetsAll_2 : decode cX6_meetsAll 2 = .ok (.iload_n 3, 1) := by decide +kernel
theorem dX6_meetsAll_3 : decode cX6_meetsAll 3 = .ok (.iload_n 2, 1) := by decide +kernel
theorem dX6_meetsAll_4 : decode cX6_meetsAll 4 = .ok (.if_icmp .ge 31, 3) := by decide +kernel
theorem dX6_meetsAll_7 : decode cX6_meetsAll 7 = .ok (.iload_n 3, 1) := by decide +kernel
theorem dX6_meetsAll_8 : decode cX6_meetsAll 8 = .ok (.aload_n 0, 1) := by decide +kernel
theorem dX6_meetsAll_9 : decode cX6_meetsAll 9 = .ok (.getfield 48, 3) := by decide +kernel
theorem dX6_meetsAll_12 : decode cX6_meetsAll 12 = .ok (.arraylength, 1) := by decide +kernel
theorem dX6_meetsAll_13 : decode cX6_meetsAll 13 = .ok (.if_icmp .ge 22, 3) := by decide +kernel
theorem dX6_meetsAll_16 : decode cX6_meetsAll 16 = .ok (.aload_n 0, 1) := by decide +kernel
theorem dX6_meetsAll_17 : decode cX6_meetsAll 17 = .ok (.getfield 48, 3) := by decide +kernel
theorem dX6_meetsAll_20 : decode cX6_meetsAll 20 = .ok (.iload_n 3, 1) := by decide +kernel
theorem dX6_meetsAll_21 : decode cX6_meetsAll 21 = .ok (.iaload, 1) := by decide +kernel
theorem dX6_meetsAll_22 : decode cX6_meetsAll 22 = .ok (.iload_n 1, 1) := by decide +kernel
theorem dX6_meetsAll_23 : decode cX6_meetsAll 23 = .ok (.iand, 1) := by decide +kernel
theorem dX6_meetsAll_24 : decode cX6_meetsAll 24 = .ok (.ifCond .ne 5, 3) := by decide +kernel
theorem dX6_meetsAll_27 : decode cX6_meetsAll 27 = .ok (.iconst 0, 1) := by decide +kernel
theorem dX6_meetsAll_28 : decode cX6_meetsAll 28 = .ok (.ireturn, 1) := by decide +kernel
theorem dX6_meetsAll_29 : decode cX6_meetsAll 29 = .ok (.iinc 3 1, 3) := by decide +kernel
theorem dX6_meetsAll_32 : decode cX6_meetsAll 32 = .ok (.goto (-30), 3) := by decide +kernel
theorem dX6_meetsAll_35 : decode cX6_meetsAll 35 = .ok (.iconst 1, 1) := by decide +kernel
theorem dX6_meetsAll_36 : decode cX6_meetsAll 36 = .ok (.ireturn, 1) := by decide +kernel
theorem hd_yX6_meetsAll : (yX6_meetsAll).cls ≠ "java/lang/invoke/MethodHandle" ∧ (yX6_meetsAll).cls ≠ "java/lang/invoke/VarHandle" ∧ (parseMethodDescriptor (yX6_meetsAll).desc).map (fun d => d.parameters.length) = some 2 := ⟨by decide, by decide, by decide +kernel⟩
def f_X6_meetsAll_B2 (l1 : Int32) (l2 : Int32) (σ : ZS) (t1 : Int32) : Option (Int32 ⊕ Int32) :=
  (if l2 ≤ t1 then wi (some 1) else (if 16 ≤ t1 then wi (some 1) else ld (σ.2.1 6) 16 t1 (fun y1 => (if (y1 &&& l1) = 0 then wi (some 0) else some (.inl (t1 + 1))))))
def f_X6_meetsAll (p0 : Int32) (p1 : Int32) (σ : ZS) : Option Int32 :=
  lp zF (f_X6_meetsAll_B2 p0 p1 σ) 0
set_option maxHeartbeats 4000000 in
set_option maxRecDepth 100000 in
theorem c_X6_meetsAll (l : Launch) (D : va_G) (A : Nat → Prop) (a : Nat → Nat) (x : ClassId × ClassId × ClassId) (σ : ZS) (p0 : Int32) (p1 : Int32) (r : Int32) (h : f_X6_meetsAll p0 p1 σ = some r) : zM l yX6_meetsAll w_yX6_meetsAll ({ frames := 0, cells := 0, slots := 0, locals := 0 } : Room) D A (tyz x) [.ref (a 0), .int p0, .int p1] (wC a x σ) (some (.int r)) (wC a x σ) := by
  refine z_start [.ref (a 0), .int p0, .int p1] (lv := [(0, .ref (a 0)), (1, .int p0), (2, .int p1)]) (by decide) (Nat.le_of_ble_eq_true rfl) rfl ?_
  intro p e s m args below meth c C hr hlk
  unfold f_X6_meetsAll at h
  refine z_iconst C (v := 0) dX6_meetsAll_0 (by decide) ?_
  refine z_istore_n C [(3, .int 0), (0, .ref (a 0)), (1, .int p0), (2, .int p1)] rfl (by decide) rfl dX6_meetsAll_1 ?_
  refine z_sub C [1, 2, 3, 0] (lv' := [(0, .ref (a 0)), (1, .int p0), (2, .int p1), (3, .int 0)]) rfl ?_
  have L2 : ∀ (n : Nat) (t1 : Int32), lp n (f_X6_meetsAll_B2 p0 p1 σ) t1 = some r → zV p l e ({ frames := 0, cells := 0, slots := 0, locals := 0 } : Room) s m args below meth c 0 0 (MQ below (zQ D A (some (.int r)) (wC a x σ)) args s 0 0 A) D A 4 (wC a x σ) 2 [(0, .ref (a 0)), (1, .int p0), (2, .int p1), (3, .int t1)] [] := by
    intro n1
    induction n1 with
    | zero => exact fun _ h => (lp_zero h).elim
    | succ n1 ih1 =>
      intro t1 h
      obtain ⟨u1, h, hk1⟩ := lp_succ h
      unfold f_X6_meetsAll_B2 at h
      refine z_iload_n C 3 rfl dX6_meetsAll_2 ?_
      refine z_iload_n C 2 rfl dX6_meetsAll_3 ?_
      refine z_icmp_ge C 35 (by decide) dX6_meetsAll_4 h (fun h => ?_) (fun h => ?_)
      · refine z_iconst C (v := 1) dX6_meetsAll_35 (by decide) ?_
        have h := unwi h hk1
        cases h
        exact z_zret C hr hlk rfl dX6_meetsAll_36
      · refine z_iload_n C 3 rfl dX6_meetsAll_7 ?_
        refine z_aload_n C 0 rfl dX6_meetsAll_8 ?_
        refine z_get C iRX6 0 gC_0 rfl 5 (by decide) fl_RX6_48 rfl dX6_meetsAll_9 ?_
        refine z_alen C 6 0 gC_6 rfl (v := 16) rfl dX6_meetsAll_12 ?_
        refine z_icmp_ge C 35 (by decide) dX6_meetsAll_13 h (fun h => ?_) (fun h => ?_)
        · refine z_iconst C (v := 1) dX6_meetsAll_35 (by decide) ?_
          have h := unwi h hk1
          cases h
          exact z_zret C hr hlk rfl dX6_meetsAll_36
        · refine z_aload_n C 0 rfl dX6_meetsAll_16 ?_
          refine z_get C iRX6 0 gC_0 rfl 5 (by decide) fl_RX6_48 rfl dX6_meetsAll_17 ?_
          refine z_iload_n C 3 rfl dX6_meetsAll_20 ?_
          refine z_iald C 6 0 gC_6 rfl dX6_meetsAll_21 h (fun y1 h => ?_)
          refine z_iload_n C 1 rfl dX6_meetsAll_22 ?_
          refine z_iand C dX6_meetsAll_23 ?_
          refine z_if_ne C 29 (by decide) dX6_meetsAll_24 h (fun h => ?_) (fun h => ?_)
          · refine z_iinc C (v := t1 + 1) [(3, .int (t1 + 1)), (0, .ref (a 0)), (1, .int p0), (2, .int p1)] 3 rfl rfl (by decide) rfl dX6_meetsAll_29 ?_
            refine z_goto C 2 (by decide) dX6_meetsAll_32 ?_
            refine z_sub C [1, 2, 3, 0] (lv' := [(0, .ref (a 0)), (1, .int p0), (2, .int p1), (3, .int (t1 + 1))]) rfl ?_
            exact ih1 _ (uninl h hk1)
          · refine z_iconst C (v := 0) dX6_meetsAll_27 (by decide) ?_
            have h := unwi h hk1
            cases h
            exact z_zret C hr hlk rfl dX6_meetsAll_28
  exact L2 _ _ h
theorem dX6_nextSet_0 : decode cX6_nextSet 0 = .ok (.iload_n 1, 1) := by decide +kernel
theorem dX6_nextSet_1 : decode cX6_nextSet 1 = .ok (.invokestatic 191, 3) := by decide +kernel
theorem dX6_nextSet_4 : decode cX6_nextSet 4 = .ok (.istore_n 2, 1) := by decide +kernel
theorem dX6_nextSet_5 : decode cX6_nextSet 5 = .ok (.iconst 1, 1) := by decide +kernel
theorem dX6_nextSet_6 : decode cX6_nextSet 6 = .ok (.aload_n 0, 1) := by decide +kernel
theorem dX6_nextSet_7 : decode cX6_nextSet 7 = .ok (.getfield 12, 3) := by decide +kernel
theorem dX6_nextSet_10 : decode cX6_nextSet 10 = .ok (.invokevirtual 196, 3) := by decide +kernel
theorem dX6_nextSet_13 : decode cX6_nextSet 13 = .ok (.ishl, 1) := by decide +kernel
theorem dX6_nextSet_14 : decode cX6_nextSet 14 = .ok (.istore_n 3, 1) := by decide +kernel
theorem dX6_nextSet_15 : decode cX6_nextSet 15 = .ok (.iload_n 1, 1) := by decide +kernel
theorem dX6_nextSet_16 : decode cX6_nextSet 16 = .ok (.iconst 1, 1) := by decide +kernel
theorem dX6_nextSet_17 : decode cX6_nextSet 17 = .ok (.iadd, 1) := by decide +kernel
theorem dX6_nextSet_18 : decode cX6_nextSet 18 = .ok (.istore 4, 2) := by decide +kernel
theorem dX6_nextSet_20 : decode cX6_nextSet 20 = .ok (.iload 4, 2) := by decide +kernel
theorem dX6_nextSet_22 : decode cX6_nextSet 22 = .ok (.iload_n 3, 1) := by decide +kernel
theorem dX6_nextSet_23 : decode cX6_nextSet 23 = .ok (.if_icmp .ge 21, 3) := by decide +kernel
theorem dX6_nextSet_26 : decode cX6_nextSet 26 = .ok (.iload 4, 2) := by decide +kernel
theorem dX6_nextSet_28 : decode cX6_nextSet 28 = .ok (.invokestatic 191, 3) := by decide +kernel
theorem dX6_nextSet_31 : decode cX6_nextSet 31 = .ok (.iload_n 2, 1) := by decide +kernel
theorem dX6_nextSet_32 : decode cX6_nextSet 32 = .ok (.if_icmp .ne 6, 3) := by decide +kernel
theorem dX6_nextSet_35 : decode cX6_nextSet 35 = .ok (.iload 4, 2) := by decide +kernel
theorem dX6_nextSet_37 : decode cX6_nextSet 37 = .ok (.ireturn, 1) := by decide +kernel
theorem dX6_nextSet_38 : decode cX6_nextSet 38 = .ok (.iinc 4 1, 3) := by decide +kernel
theorem dX6_nextSet_41 : decode cX6_nextSet 41 = .ok (.goto (-21), 3) := by decide +kernel
theorem dX6_nextSet_44 : decode cX6_nextSet 44 = .ok (.iload_n 2, 1) := by decide +kernel
theorem dX6_nextSet_45 : decode cX6_nextSet 45 = .ok (.aload_n 0, 1) := by decide +kernel
theorem dX6_nextSet_46 : decode cX6_nextSet 46 = .ok (.getfield 12, 3) := by decide +kernel
theorem dX6_nextSet_49 : decode cX6_nextSet 49 = .ok (.invokevirtual 196, 3) := by decide +kernel
theorem dX6_nextSet_52 : decode cX6_nextSet 52 = .ok (.if_icmp .ge 11, 3) := by decide +kernel
theorem dX6_nextSet_55 : decode cX6_nextSet 55 = .ok (.iconst 2, 1) := by decide +kernel
theorem dX6_nextSet_56 : decode cX6_nextSet 56 = .ok (.iload_n 2, 1) := by decide +kernel
theorem dX6_nextSet_57 : decode cX6_nextSet 57 = .ok (.ishl, 1) := by decide +kernel
theorem dX6_nextSet_58 : decode cX6_nextSet 58 = .ok (.iconst 1, 1) := by decide +kernel
theorem dX6_nextSet_59 : decode cX6_nextSet 59 = .ok (.isub, 1) := by decide +kernel
theorem dX6_nextSet_60 : decode cX6_nextSet 60 = .ok (.goto 4, 3) := by decide +kernel
theorem dX6_nextSet_63 : decode cX6_nextSet 63 = .ok (.iconst (-1), 1) := by decide +kernel
theorem dX6_nextSet_64 : decode cX6_nextSet 64 = .ok (.ireturn, 1) := by decide +kernel
theorem hd_yX6_nextSet : (yX6_nextSet).cls ≠ "java/lang/invoke/MethodHandle" ∧ (yX6_nextSet).cls ≠ "java/lang/invoke/VarHandle" ∧ (parseMethodDescriptor (yX6_nextSet).desc).map (fun d => d.parameters.length) = some 1 := ⟨by decide, by decide, by decide +kernel⟩
def f_X6_nextSet_J44 (l2 : Int32) (σ : ZS) : Option Int32 :=
  Option.bind (f_X1_number σ) (fun q4 => (if q4 ≤ l2 then some (-1) else some (((2 : Int32) <<< (l2 &&& 31)) - 1)))
def f_X6_nextSet_B20 (l2 : Int32) (l3 : Int32) (σ : ZS) (t1 : Int32) : Option (Int32 ⊕ Int32) :=
  (if l3 ≤ t1 then wi (f_X6_nextSet_J44 l2 σ) else Option.bind (f_J6_bitCount_0f7a4 t1) (fun q3 => (if q3 = l2 then wi (some t1) else some (.inl (t1 + 1)))))
def f_X6_nextSet (p0 : Int32) (σ : ZS) : Option Int32 :=
  Option.bind (f_J6_bitCount_0f7a4 p0) (fun q1 => Option.bind (f_X1_number σ) (fun q2 => lp zF (f_X6_nextSet_B20 q1 ((1 : Int32) <<< (q2 &&& 31)) σ) (p0 + 1)))
set_option maxHeartbeats 4000000 in
set_option maxRecDepth 100000 in
theorem c_X6_nextSet (l : Launch) (D : va_G) (A : Nat → Prop) (a : Nat → Nat) (x : ClassId × ClassId × ClassId) (σ : ZS) (p0 : Int32) (r : Int32) (h : f_X6_nextSet p0 σ = some r) : zM l yX6_nextSet w_yX6_nextSet ({ frames := 1, cells := 0, slots := 0, locals := 20 } : Room) D A (tyz x) [.ref (a 0), .int p0] (wC a x σ) (some (.int r)) (wC a x σ) := by
  refine z_start [.ref (a 0), .int p0] (lv := [(0, .ref (a 0)), (1, .int p0)]) (by decide) (Nat.le_of_ble_eq_true rfl) rfl ?_
  intro p e s m args below meth c C hr hlk
  have J44 : ∀ (l2_44 : Int32), f_X6_nextSet_J44 l2_44 σ = some r → zV p l e ({ frames := 1, cells := 0, slots := 0, locals := 20 } : Room) s m args below meth c 0 0 (MQ below (zQ D A (some (.int r)) (wC a x σ)) args s 0 0 A) D A 5 (wC a x σ) 44 [(0, .ref (a 0)), (2, .int l2_44)] [] := by
    intro l2_44 h
    unfold f_X6_nextSet_J44 at h
    refine z_iload_n C 1 rfl dX6_nextSet_44 ?_
    refine z_aload_n C 0 rfl dX6_nextSet_45 ?_
    refine z_get C iRX6 0 gC_0 rfl 0 (by decide) fl_RX6_12 rfl dX6_nextSet_46 ?_
    obtain ⟨q1, hq1, h⟩ := bd_spec h
    refine z_callV1 C [] [.int l2_44] (v := (.int q1)) rfl (c_X1_number l D A a x σ  q1 hq1) cd_yX1_number in_RX1 ml_RX6_196 im_yX1_number sl_yX1_number gC_1 rfl hd_yX1_number ⟨⟨Nat.le_of_ble_eq_true rfl, Nat.le_of_ble_eq_true rfl⟩, rfl, rfl⟩ rfl (Nat.le_of_ble_eq_true rfl) ⟨Nat.zero_le _, Nat.zero_le _⟩ dX6_nextSet_49 ?_
    refine z_icmp_ge C 63 (by decide) dX6_nextSet_52 h (fun h => ?_) (fun h => ?_)
    · refine z_iconst C (v := (-1)) dX6_nextSet_63 (by decide) ?_
      cases h
      exact z_iret C hr hlk dX6_nextSet_64
    · refine z_iconst C (v := 2) dX6_nextSet_55 (by decide) ?_
      refine z_iload_n C 1 rfl dX6_nextSet_56 ?_
      refine z_ishl C dX6_nextSet_57 ?_
      refine z_iconst C (v := 1) dX6_nextSet_58 (by decide) ?_
      refine z_isub C dX6_nextSet_59 ?_
      refine z_goto C 64 (by decide) dX6_nextSet_60 ?_
      cases h
      exact z_iret C hr hlk dX6_nextSet_64
  unfold f_X6_nextSet at h
  refine z_iload_n C 1 rfl dX6_nextSet_0 ?_
  obtain ⟨q2, hq2, h⟩ := bd_spec h
  refine z_callS1 C [.int p0] [] (v := .int q2) rfl (c_J6_bitCount_0f7a4 l D A (tyz x) (wC a x σ) p0 q2 hq2) cd_yJ6_bitCount_0f7a4 in_RJ6 ml_RX6_191 sm_yJ6_bitCount_0f7a4 hd_yJ6_bitCount_0f7a4 ⟨⟨Nat.le_of_ble_eq_true rfl, Nat.le_of_ble_eq_true rfl⟩, rfl, rfl⟩ rfl (Nat.le_of_ble_eq_true rfl) ⟨Nat.zero_le _, Nat.zero_le _⟩ dX6_nextSet_1 ?_
  refine z_istore_n C [(2, .int q2), (0, .ref (a 0)), (1, .int p0)] rfl (by decide) rfl dX6_nextSet_4 ?_
  refine z_iconst C (v := 1) dX6_nextSet_5 (by decide) ?_
  refine z_aload_n C 1 rfl dX6_nextSet_6 ?_
  refine z_get C iRX6 0 gC_0 rfl 0 (by decide) fl_RX6_12 rfl dX6_nextSet_7 ?_
  obtain ⟨q3, hq3, h⟩ := bd_spec h
  refine z_callV1 C [] [.int 1] (v := (.int q3)) rfl (c_X1_number l D A a x σ  q3 hq3) cd_yX1_number in_RX1 ml_RX6_196 im_yX1_number sl_yX1_number gC_1 rfl hd_yX1_number ⟨⟨Nat.le_of_ble_eq_true rfl, Nat.le_of_ble_eq_true rfl⟩, rfl, rfl⟩ rfl (Nat.le_of_ble_eq_true rfl) ⟨Nat.zero_le _, Nat.zero_le _⟩ dX6_nextSet_10 ?_
  refine z_ishl C dX6_nextSet_13 ?_
  refine z_istore_n C [(3, .int ((1 : Int32) <<< (q3 &&& 31))), (2, .int q2), (0, .ref (a 0)), (1, .int p0)] rfl (by decide) rfl dX6_nextSet_14 ?_
  refine z_iload_n C 3 rfl dX6_nextSet_15 ?_
  refine z_iconst C (v := 1) dX6_nextSet_16 (by decide) ?_
  refine z_iadd C dX6_nextSet_17 ?_
  refine z_istore C [(4, .int (p0 + 1)), (3, .int ((1 : Int32) <<< (q3 &&& 31))), (2, .int q2), (0, .ref (a 0)), (1, .int p0)] (by decide) rfl dX6_nextSet_18 ?_
  refine z_sub C [3, 2, 1, 0] (lv' := [(0, .ref (a 0)), (2, .int q2), (3, .int ((1 : Int32) <<< (q3 &&& 31))), (4, .int (p0 + 1))]) rfl ?_
  have L20 : ∀ (n : Nat) (t1 : Int32), lp n (f_X6_nextSet_B20 q2 ((1 : Int32) <<< (q3 &&& 31)) σ) t1 = some r → zV p l e ({ frames := 1, cells := 0, slots := 0, locals := 20 } : Room) s m args below meth c 0 0 (MQ below (zQ D A (some (.int r)) (wC a x σ)) args s 0 0 A) D A 5 (wC a x σ) 20 [(0, .ref (a 0)), (2, .int q2), (3, .int ((1 : Int32) <<< (q3 &&& 31))), (4, .int t1)] [] := by
    intro n1
    induction n1 with
    | zero => exact fun _ h => (lp_zero h).elim
    | succ n1 ih1 =>
      intro t1 h
      obtain ⟨u1, h, hk1⟩ := lp_succ h
      unfold f_X6_nextSet_B20 at h
      refine z_iload C 3 rfl dX6_nextSet_20 ?_
      refine z_iload_n C 2 rfl dX6_nextSet_22 ?_
      refine z_icmp_ge C 44 (by decide) dX6_nextSet_23 h (fun h => ?_) (fun h => ?_)
      · refine z_sub C [0, 1] (lv' := [(0, .ref (a 0)), (2, .int q2)]) rfl ?_
        have h := unwi h hk1
        exact J44 _ h
      · refine z_iload C 3 rfl dX6_nextSet_26 ?_
        obtain ⟨q4, hq4, h⟩ := bd_spec h
        refine z_callS1 C [.int t1] [] (v := .int q4) rfl (c_J6_bitCount_0f7a4 l D A (tyz x) (wC a x σ) t1 q4 hq4) cd_yJ6_bitCount_0f7a4 in_RJ6 ml_RX6_191 sm_yJ6_bitCount_0f7a4 hd_yJ6_bitCount_0f7a4 ⟨⟨Nat.le_of_ble_eq_true rfl, Nat.le_of_ble_eq_true rfl⟩, rfl, rfl⟩ rfl (Nat.le_of_ble_eq_true rfl) ⟨Nat.zero_le _, Nat.zero_le _⟩ dX6_nextSet_28 ?_
        refine z_iload_n C 1 rfl dX6_nextSet_31 ?_
        refine z_icmp_ne C 38 (by decide) dX6_nextSet_32 h (fun h => ?_) (fun h => ?_)
        · refine z_iinc C (v := t1 + 1) [(4, .int (t1 + 1)), (0, .ref (a 0)), (2, .int q2), (3, .int ((1 : Int32) <<< (q3 &&& 31)))] 3 rfl rfl (by decide) rfl dX6_nextSet_38 ?_
          refine z_goto C 20 (by decide) dX6_nextSet_41 ?_
          refine z_sub C [1, 2, 3, 0] (lv' := [(0, .ref (a 0)), (2, .int q2), (3, .int ((1 : Int32) <<< (q3 &&& 31))), (4, .int (t1 + 1))]) rfl ?_
          exact ih1 _ (uninl h hk1)
        · refine z_iload C 3 rfl dX6_nextSet_35 ?_
          have h := unwi h hk1
          cases h
          exact z_iret C hr hlk dX6_nextSet_37
  exact L20 _ _ h
theorem dX6_watchers_0 : decode cX6_watchers 0 = .ok (.aload_n 0, 1) := by decide +kernel
theorem dX6_watchers_1 : decode cX6_watchers 1 = .ok (.invokevirtual 170, 3) := by decide +kernel
theorem dX6_watchers_4 : decode cX6_watchers 4 = .ok (.istore_n 1, 1) := by decide +kernel
theorem dX6_watchers_5 : decode cX6_watchers 5 = .ok (.iconst 0, 1) := by decide +kernel
theorem dX6_watchers_6 : decode cX6_watchers 6 = .ok (.istore_n 2, 1) := by decide +kernel
theorem dX6_watchers_7 : decode cX6_watchers 7 = .ok (.iconst 0, 1) := by decide +kernel
theorem dX6_watchers_8 : decode cX6_watchers 8 = .ok (.istore_n 3, 1) := by decide +kernel
theorem dX6_watchers_9 : decode cX6_watchers 9 = .ok (.iload_n 3, 1) := by decide +kernel
theorem dX6_watchers_10 : decode cX6_watchers 10 = .ok (.sipush 1024, 3) := by decide +kernel
theorem dX6_watchers_13 : decode cX6_watchers 13 = .ok (.if_icmp .ge 31, 3) := by decide +kernel
theorem dX6_watchers_16 : decode cX6_watchers 16 = .ok (.iload_n 2, 1) := by decide +kernel
theorem dX6_watchers_17 : decode cX6_watchers 17 = .ok (.iconst (-1), 1) := by decide +kernel
theorem dX6_watchers_18 : decode cX6_watchers 18 = .ok (.if_icmp .eq 26, 3) := by decide +kernel
theorem dX6_watchers_21 : decode cX6_watchers 21 = .ok (.aload_n 0, 1) := by decide +kernel
theorem dX6_watchers_22 : decode cX6_watchers 22 = .ok (.iload_n 2, 1) := by decide +kernel
theorem dX6_watchers_23 : decode cX6_watchers 23 = .ok (.iload_n 1, 1) := by decide +kernel
theorem dX6_watchers_24 : decode cX6_watchers 24 = .ok (.invokevirtual 173, 3) := by decide +kernel
theorem dX6_watchers_27 : decode cX6_watchers 27 = .ok (.ifCond .eq 5, 3) := by decide +kernel
theorem dX6_watchers_30 : decode cX6_watchers 30 = .ok (.iload_n 2, 1) := by decide +kernel
theorem dX6_watchers_31 : decode cX6_watchers 31 = .ok (.ireturn, 1) := by decide +kernel
theorem dX6_watchers_32 : decode cX6_watchers 32 = .ok (.aload_n 0, 1) := by decide +kernel
theorem dX6_watchers_33 : decode cX6_watchers 33 = .ok (.iload_n 2, 1) := by decide +kernel
theorem dX6_watchers_34 : decode cX6_watchers 34 = .ok (.invokevirtual 176, 3) := by decide +kernel
theorem dX6_watchers_37 : decode cX6_watchers 37 = .ok (.istore_n 2, 1) := by decide +kernel
theorem dX6_watchers_38 : decode cX6_watchers 38 = .ok (.iinc 3 1, 3) := by decide +kernel
theorem dX6_watchers_41 : decode cX6_watchers 41 = .ok (.goto (-32), 3) := by decide +kernel
theorem dX6_watchers_44 : decode cX6_watchers 44 = .ok (.iconst (-1), 1) := by decide +kernel
theorem dX6_watchers_45 : decode cX6_watchers 45 = .ok (.ireturn, 1) := by decide +kernel
theorem hd_yX6_watchers : (yX6_watchers).cls ≠ "java/lang/invoke/MethodHandle" ∧ (yX6_watchers).cls ≠ "java/lang/invoke/VarHandle" ∧ (parseMethodDescriptor (yX6_watchers).desc).map (fun d => d.parameters.length) = some 0 := ⟨by decide, by decide, by decide +kernel⟩
def f_X6_watchers_B9 (l1 : Int32) (σ : ZS) (t1 : (Int32 × Int32)) : Option ((Int32 × Int32) ⊕ (Int32 × ZS)) :=
  (if 1024 ≤ t1.2 then wi (some ((-1), σ)) else (if t1.1 = (-1) then wi (some ((-1), σ)) else Option.bind (f_X6_meetsAll t1.1 l1 σ) (fun q2 => (if q2 = 0 then Option.bind (f_X6_nextSet t1.1 σ) (fun q3 => some (.inl (q3, t1.2 + 1))) else wi (some (t1.1, σ))))))
def f_X6_watchers  (σ : ZS) : Option (Int32 × ZS) :=
  Option.bind (f_X6_noteSeersOfFalse σ) (fun q1 => lp zF (f_X6_watchers_B9 q1.1 q1.2) (0, 0))
set_option maxHeartbeats 4000000 in
set_option maxRecDepth 100000 in
theorem c_X6_watchers (l : Launch) (D : va_G) (A : Nat → Prop) (a : Nat → Nat) (x : ClassId × ClassId × ClassId) (σ : ZS)  (r : (Int32 × ZS)) (h : f_X6_watchers  σ = some r) : zM l yX6_watchers w_yX6_watchers ({ frames := 6, cells := 0, slots := 0, locals := 154 } : Room) D A (tyz x) [.ref (a 0)] (wC a x σ) (some (.int r.1)) (wC a x r.2) := by
  refine z_start [.ref (a 0)] (lv := [(0, .ref (a 0))]) (by decide) (Nat.le_of_ble_eq_true rfl) rfl ?_
  intro p e s m args below meth c C hr hlk
  unfold f_X6_watchers at h
  refine z_aload_n C 0 rfl dX6_watchers_0 ?_
  obtain ⟨q1, hq1, h⟩ := bd_spec h
  refine z_callV1 C [] [] (v := (.int q1.1)) rfl (c_X6_noteSeersOfFalse l D A a x σ  q1 hq1) cd_yX6_noteSeersOfFalse in_RX6 ml_RX6_170 im_yX6_noteSeersOfFalse sl_yX6_noteSeersOfFalse gC_0 rfl hd_yX6_noteSeersOfFalse ⟨⟨Nat.le_of_ble_eq_true rfl, Nat.le_of_ble_eq_true rfl⟩, rfl, rfl⟩ rfl (Nat.le_of_ble_eq_true rfl) ⟨Nat.zero_le _, Nat.zero_le _⟩ dX6_watchers_1 ?_
  refine z_istore_n C [(1, .int q1.1), (0, .ref (a 0))] rfl (by decide) rfl dX6_watchers_4 ?_
  refine z_iconst C (v := 0) dX6_watchers_5 (by decide) ?_
  refine z_istore_n C [(2, .int 0), (1, .int q1.1), (0, .ref (a 0))] rfl (by decide) rfl dX6_watchers_6 ?_
  refine z_iconst C (v := 0) dX6_watchers_7 (by decide) ?_
  refine z_istore_n C [(3, .int 0), (2, .int 0), (1, .int q1.1), (0, .ref (a 0))] rfl (by decide) rfl dX6_watchers_8 ?_
  refine z_sub C [3, 2, 1, 0] (lv' := [(0, .ref (a 0)), (1, .int q1.1), (2, .int 0), (3, .int 0)]) rfl ?_
  have L9 : ∀ (n : Nat) (t1 : (Int32 × Int32)), lp n (f_X6_watchers_B9 q1.1 q1.2) t1 = some r → zV p l e ({ frames := 6, cells := 0, slots := 0, locals := 154 } : Room) s m args below meth c 0 0 (MQ below (zQ D A (some (.int r.1)) (wC a x r.2)) args s 0 0 A) D A 4 (wC a x q1.2) 9 [(0, .ref (a 0)), (1, .int q1.1), (2, .int t1.1), (3, .int t1.2)] [] := by
    intro n1
    induction n1 with
    | zero => exact fun _ h => (lp_zero h).elim
    | succ n1 ih1 =>
      intro t1 h
      obtain ⟨u1, h, hk1⟩ := lp_succ h
      unfold f_X6_watchers_B9 at h
      refine z_iload_n C 3 rfl dX6_watchers_9 ?_
      refine z_sipush C (v := 1024) dX6_watchers_10 (by decide) ?_
      refine z_icmp_ge C 44 (by decide) dX6_watchers_13 h (fun h => ?_) (fun h => ?_)
      · refine z_iconst C (v := (-1)) dX6_watchers_44 (by decide) ?_
        have h := unwi h hk1
        cases h
        exact z_iret C hr hlk dX6_watchers_45
      · refine z_iload_n C 2 rfl dX6_watchers_16 ?_
        refine z_iconst C (v := (-1)) dX6_watchers_17 (by decide) ?_
        refine z_icmp_eq C 44 (by decide) dX6_watchers_18 h (fun h => ?_) (fun h => ?_)
        · refine z_iconst C (v := (-1)) dX6_watchers_44 (by decide) ?_
          have h := unwi h hk1
          cases h
          exact z_iret C hr hlk dX6_watchers_45
        · refine z_aload_n C 0 rfl dX6_watchers_21 ?_
          refine z_iload_n C 2 rfl dX6_watchers_22 ?_
          refine z_iload_n C 1 rfl dX6_watchers_23 ?_
          obtain ⟨q2, hq2, h⟩ := bd_spec h
          refine z_callV1 C [.int t1.1, .int q1.1] [] (v := (.int q2)) rfl (c_X6_meetsAll l D A a x q1.2 t1.1 q1.1 q2 hq2) cd_yX6_meetsAll in_RX6 ml_RX6_173 im_yX6_meetsAll sl_yX6_meetsAll gC_0 rfl hd_yX6_meetsAll ⟨⟨Nat.le_of_ble_eq_true rfl, Nat.le_of_ble_eq_true rfl⟩, rfl, rfl⟩ rfl (Nat.le_of_ble_eq_true rfl) ⟨Nat.zero_le _, Nat.zero_le _⟩ dX6_watchers_24 ?_
          refine z_if_eq C 32 (by decide) dX6_watchers_27 h (fun h => ?_) (fun h => ?_)
          · refine z_aload_n C 0 rfl dX6_watchers_32 ?_
            refine z_iload_n C 2 rfl dX6_watchers_33 ?_
            obtain ⟨q3, hq3, h⟩ := bd_spec h
            refine z_callV1 C [.int t1.1] [] (v := (.int q3)) rfl (c_X6_nextSet l D A a x q1.2 t1.1 q3 hq3) cd_yX6_nextSet in_RX6 ml_RX6_176 im_yX6_nextSet sl_yX6_nextSet gC_0 rfl hd_yX6_nextSet ⟨⟨Nat.le_of_ble_eq_true rfl, Nat.le_of_ble_eq_true rfl⟩, rfl, rfl⟩ rfl (Nat.le_of_ble_eq_true rfl) ⟨Nat.zero_le _, Nat.zero_le _⟩ dX6_watchers_34 ?_
            refine z_istore_n C [(2, .int q3), (0, .ref (a 0)), (1, .int q1.1), (3, .int t1.2)] rfl (by decide) rfl dX6_watchers_37 ?_
            refine z_iinc C (v := t1.2 + 1) [(3, .int (t1.2 + 1)), (2, .int q3), (0, .ref (a 0)), (1, .int q1.1)] 3 rfl rfl (by decide) rfl dX6_watchers_38 ?_
            refine z_goto C 9 (by decide) dX6_watchers_41 ?_
            refine z_sub C [2, 3, 1, 0] (lv' := [(0, .ref (a 0)), (1, .int q1.1), (2, .int q3), (3, .int (t1.2 + 1))]) rfl ?_
            exact ih1 _ (uninl h hk1)
          · refine z_iload_n C 2 rfl dX6_watchers_30 ?_
            have h := unwi h hk1
            cases h
            exact z_iret C hr hlk dX6_watchers_31
  exact L9 _ _ h
theorem dX6_cure_0 : decode cX6_cure 0 = .ok (.iload_n 1, 1) := by decide +kernel
theorem dX6_cure_1 : decode cX6_cure 1 = .ok (.invokestatic 140, 3) := by decide +kernel
theorem dX6_cure_4 : decode cX6_cure 4 = .ok (.ifCond .ne 6, 3) := by decide +kernel
theorem dX6_cure_7 : decode cX6_cure 7 = .ok (.bipush (-2), 2) := by decide +kernel
theorem dX6_cure_9 : decode cX6_cure 9 = .ok (.ireturn, 1) := by decide +kernel
theorem dX6_cure_10 : decode cX6_cure 10 = .ok (.aload_n 0, 1) := by decide +kernel
theorem dX6_cure_11 : decode cX6_cure 11 = .ok (.getfield 44, 3) := by decide +kernel
theorem dX6_cure_14 : decode cX6_cure 14 = .ok (.iload_n 1, 1) := by decide +kernel
theorem dX6_cure_15 : decode cX6_cure 15 = .ok (.invokevirtual 179, 3) := by decide +kernel
theorem dX6_cure_18 : decode cX6_cure 18 = .ok (.istore_n 2, 1) := by decide +kernel
theorem dX6_cure_19 : decode cX6_cure 19 = .ok (.aload_n 0, 1) := by decide +kernel
theorem dX6_cure_20 : decode cX6_cure 20 = .ok (.getfield 44, 3) := by decide +kernel
theorem dX6_cure_23 : decode cX6_cure 23 = .ok (.iload_n 1, 1) := by decide +kernel
theorem dX6_cure_24 : decode cX6_cure 24 = .ok (.invokevirtual 182, 3) := by decide +kernel
theorem dX6_cure_27 : decode cX6_cure 27 = .ok (.istore_n 3, 1) := by decide +kernel
theorem dX6_cure_28 : decode cX6_cure 28 = .ok (.iconst 0, 1) := by decide +kernel
theorem dX6_cure_29 : decode cX6_cure 29 = .ok (.istore 4, 2) := by decide +kernel
theorem dX6_cure_31 : decode cX6_cure 31 = .ok (.iconst 0, 1) := by decide +kernel
theorem dX6_cure_32 : decode cX6_cure 32 = .ok (.istore 5, 2) := by decide +kernel
theorem dX6_cure_34 : decode cX6_cure 34 = .ok (.iload 5, 2) := by decide +kernel
theorem dX6_cure_36 : decode cX6_cure 36 = .ok (.sipush 1024, 3) := by decide +kernel
theorem dX6_cure_39 : decode cX6_cure 39 = .ok (.if_icmp .ge 72, 3) := by decide +kernel
theorem dX6_cure_42 : decode cX6_cure 42 = .ok (.iload 4, 2) := by decide +kernel
theorem dX6_cure_44 : decode cX6_cure 44 = .ok (.iconst (-1), 1) := by decide +kernel
theorem dX6_cure_45 : decode cX6_cure 45 = .ok (.if_icmp .eq 66, 3) := by decide +kernel
theorem dX6_cure_48 : decode cX6_cure 48 = .ok (.iload 4, 2) := by decide +kernel
theorem dX6_cure_50 : decode cX6_cure 50 = .ok (.iload_n 3, 1) := by decide +kernel
theorem dX6_cure_51 : decode cX6_cure 51 = .ok (.iconst (-1), 1) := by decide +kernel
theorem dX6_cure_52 : decode cX6_cure 52 = .ok (.ixor, 1) := by decide +kernel
theorem dX6_cure_53 : decode cX6_cure 53 = .ok (.iand, 1) := by decide +kernel
theorem dX6_cure_54 : decode cX6_cure 54 = .ok (.ifCond .ne 7, 3) := by decide +kernel
theorem dX6_cure_57 : decode cX6_cure 57 = .ok (.iconst 1, 1) := by decide +kernel
theorem dX6_cure_58 : decode cX6_cure 58 = .ok (.goto 4, 3) := by decide +kernel
theorem dX6_cure_61 : decode cX6_cure 61 = .ok (.iconst 0, 1) := by decide +kernel
theorem dX6_cure_62 : decode cX6_cure 62 = .ok (.istore 6, 2) := by decide +kernel
theorem dX6_cure_64 : decode cX6_cure 64 = .ok (.iload 6, 2) := by decide +kernel
theorem dX6_cure_66 : decode cX6_cure 66 = .ok (.ifCond .eq 31, 3) := by decide +kernel
theorem dX6_cure_69 : decode cX6_cure 69 = .ok (.aload_n 0, 1) := by decide +kernel
theorem dX6_cure_70 : decode cX6_cure 70 = .ok (.getfield 44, 3) := by decide +kernel
theorem dX6_cure_73 : decode cX6_cure 73 = .ok (.iload_n 1, 1) := by decide +kernel
theorem dX6_cure_74 : decode cX6_cure 74 = .ok (.aload_n 0, 1) := by decide +kernel
theorem dX6_cure_75 : decode cX6_cure 75 = .ok (.getfield 12, 3) := by decide +kernel
theorem dX6_cure_78 : decode cX6_cure 78 = .ok (.invokevirtual 116, 3) := by decide +kernel
theorem dX6_cure_81 : decode cX6_cure 81 = .ok (.iload 4, 2) := by decide +kernel
theorem dX6_cure_83 : decode cX6_cure 83 = .ok (.ior, 1) := by decide +kernel
theorem dX6_cure_84 : decode cX6_cure 84 = .ok (.invokevirtual 149, 3) := by decide +kernel
theorem dX6_cure_87 : decode cX6_cure 87 = .ok (.iload_n 2, 1) := by decide +kernel
theorem dX6_cure_88 : decode cX6_cure 88 = .ok (.iconst (-1), 1) := by decide +kernel
theorem dX6_cure_89 : decode cX6_cure 89 = .ok (.ixor, 1) := by decide +kernel
theorem dX6_cure_90 : decode cX6_cure 90 = .ok (.iand, 1) := by decide +kernel
theorem dX6_cure_91 : decode cX6_cure 91 = .ok (.ifCond .ne 6, 3) := by decide +kernel
theorem dX6_cure_94 : decode cX6_cure 94 = .ok (.iload 4, 2) := by decide +kernel
theorem dX6_cure_96 : decode cX6_cure 96 = .ok (.ireturn, 1) := by decide +kernel
theorem dX6_cure_97 : decode cX6_cure 97 = .ok (.aload_n 0, 1) := by decide +kernel
theorem dX6_cure_98 : decode cX6_cure 98 = .ok (.iload 4, 2) := by decide +kernel
theorem dX6_cure_100 : decode cX6_cure 100 = .ok (.invokevirtual 176, 3) := by decide +kernel
theorem dX6_cure_103 : decode cX6_cure 103 = .ok (.istore 4, 2) := by decide +kernel
theorem dX6_cure_105 : decode cX6_cure 105 = .ok (.iinc 5 1, 3) := by decide +kernel
theorem dX6_cure_108 : decode cX6_cure 108 = .ok (.goto (-74), 3) := by decide +kernel
theorem dX6_cure_111 : decode cX6_cure 111 = .ok (.iconst (-1), 1) := by decide +kernel
theorem dX6_cure_112 : decode cX6_cure 112 = .ok (.ireturn, 1) := by decide +kernel
theorem hd_yX6_cure : (yX6_cure).cls ≠ "java/lang/invoke/MethodHandle" ∧ (yX6_cure).cls ≠ "java/lang/invoke/VarHandle" ∧ (parseMethodDescriptor (yX6_cure).desc).map (fun d => d.parameters.length) = some 1 := ⟨by decide, by decide, by decide +kernel⟩
def f_X6_cure_J97 (l1 : Int32) (l2 : Int32) (l3 : Int32) (l4 : Int32) (l5 : Int32) (σ : ZS) : Option ((Int32 × Int32 × ZS) ⊕ (Int32 × ZS)) :=
  Option.bind (f_X6_nextSet l4 σ) (fun q6 => some (.inl (q6, l5 + 1, σ)))
def f_X6_cure_J62 (l1 : Int32) (l2 : Int32) (l3 : Int32) (l4 : Int32) (l5 : Int32) (s0 : Int32) (σ : ZS) : Option ((Int32 × Int32 × ZS) ⊕ (Int32 × ZS)) :=
  (if s0 = 0 then f_X6_cure_J97 l1 l2 l3 l4 l5 σ else Option.bind (f_X1_refusing σ) (fun q4 => Option.bind (f_X0_astray l1 (q4 ||| l4) σ) (fun q5 => (if (q5.1 &&& (l2 ^^^ (-1))) = 0 then wi (some (l4, q5.2)) else f_X6_cure_J97 l1 l2 l3 l4 l5 q5.2))))
def f_X6_cure_B34 (l1 : Int32) (l2 : Int32) (l3 : Int32) (t1 : (Int32 × Int32 × ZS)) : Option ((Int32 × Int32 × ZS) ⊕ (Int32 × ZS)) :=
  (if 1024 ≤ t1.2.1 then wi (some ((-1), t1.2.2)) else (if t1.1 = (-1) then wi (some ((-1), t1.2.2)) else (if (t1.1 &&& (l3 ^^^ (-1))) = 0 then f_X6_cure_J62 l1 l2 l3 t1.1 t1.2.1 1 t1.2.2 else f_X6_cure_J62 l1 l2 l3 t1.1 t1.2.1 0 t1.2.2)))
def f_X6_cure (p0 : Int32) (σ : ZS) : Option (Int32 × ZS) :=
  Option.bind (f_X6_isAddress p0) (fun q1 => (if q1 = 0 then some ((-2), σ) else Option.bind (f_X0_allSayers p0 σ) (fun q2 => Option.bind (f_X0_helpers p0 σ) (fun q3 => lp zF (f_X6_cure_B34 p0 q2 q3) (0, 0, σ)))))
set_option maxHeartbeats 4000000 in
set_option maxRecDepth 100000 in
theorem c_X6_cure (l : Launch) (D : va_G) (A : Nat → Prop) (a : Nat → Nat) (x : ClassId × ClassId × ClassId) (σ : ZS) (p0 : Int32) (r : (Int32 × ZS)) (h : f_X6_cure p0 σ = some r) : zM l yX6_cure w_yX6_cure ({ frames := 6, cells := 0, slots := 0, locals := 157 } : Room) D A (tyz x) [.ref (a 0), .int p0] (wC a x σ) (some (.int r.1)) (wC a x r.2) := by
  refine z_start [.ref (a 0), .int p0] (lv := [(0, .ref (a 0)), (1, .int p0)]) (by decide) (Nat.le_of_ble_eq_true rfl) rfl ?_
  intro p e s m args below meth c C hr hlk
  unfold f_X6_cure at h
  refine z_iload_n C 1 rfl dX6_cure_0 ?_
  obtain ⟨q1, hq1, h⟩ := bd_spec h
  refine z_callS1 C [.int p0] [] (v := .int q1) rfl (c_X6_isAddress l D A (tyz x) (wC a x σ) p0 q1 hq1) cd_yX6_isAddress in_RX6 ml_RX6_140 sm_yX6_isAddress hd_yX6_isAddress ⟨⟨Nat.le_of_ble_eq_true rfl, Nat.le_of_ble_eq_true rfl⟩, rfl, rfl⟩ rfl (Nat.le_of_ble_eq_true rfl) ⟨Nat.zero_le _, Nat.zero_le _⟩ dX6_cure_1 ?_
  refine z_if_ne C 10 (by decide) dX6_cure_4 h (fun h => ?_) (fun h => ?_)
  · refine z_aload_n C 0 rfl dX6_cure_10 ?_
    refine z_get C iRX6 0 gC_0 rfl 4 (by decide) fl_RX6_44 rfl dX6_cure_11 ?_
    refine z_iload_n C 1 rfl dX6_cure_14 ?_
    obtain ⟨q2, hq2, h⟩ := bd_spec h
    refine z_callV1 C [.int p0] [] (v := (.int q2)) rfl (c_X0_allSayers l D A a x σ p0 q2 hq2) cd_yX0_allSayers in_RX0 ml_RX6_179 im_yX0_allSayers sl_yX0_allSayers gC_5 rfl hd_yX0_allSayers ⟨⟨Nat.le_of_ble_eq_true rfl, Nat.le_of_ble_eq_true rfl⟩, rfl, rfl⟩ rfl (Nat.le_of_ble_eq_true rfl) ⟨Nat.zero_le _, Nat.zero_le _⟩ dX6_cure_15 ?_
    refine z_istore_n C [(2, .int q2), (0, .ref (a 0)), (1, .int p0)] rfl (by decide) rfl dX6_cure_18 ?_
    refine z_aload_n C 1 rfl dX6_cure_19 ?_
    refine z_get C iRX6 0 gC_0 rfl 4 (by decide) fl_RX6_44 rfl dX6_cure_20 ?_
    refine z_iload_n C 2 rfl dX6_cure_23 ?_
    obtain ⟨q3, hq3, h⟩ := bd_spec h
    refine z_callV1 C [.int p0] [] (v := (.int q3)) rfl (c_X0_helpers l D A a x σ p0 q3 hq3) cd_yX0_helpers in_RX0 ml_RX6_182 im_yX0_helpers sl_yX0_helpers gC_5 rfl hd_yX0_helpers ⟨⟨Nat.le_of_ble_eq_true rfl, Nat.le_of_ble_eq_true rfl⟩, rfl, rfl⟩ rfl (Nat.le_of_ble_eq_true rfl) ⟨Nat.zero_le _, Nat.zero_le _⟩ dX6_cure_24 ?_
    refine z_istore_n C [(3, .int q3), (2, .int q2), (0, .ref (a 0)), (1, .int p0)] rfl (by decide) rfl dX6_cure_27 ?_
    refine z_iconst C (v := 0) dX6_cure_28 (by decide) ?_
    refine z_istore C [(4, .int 0), (3, .int q3), (2, .int q2), (0, .ref (a 0)), (1, .int p0)] (by decide) rfl dX6_cure_29 ?_
    refine z_iconst C (v := 0) dX6_cure_31 (by decide) ?_
    refine z_istore C [(5, .int 0), (4, .int 0), (3, .int q3), (2, .int q2), (0, .ref (a 0)), (1, .int p0)] (by decide) rfl dX6_cure_32 ?_
    refine z_sub C [4, 5, 3, 2, 1, 0] (lv' := [(0, .ref (a 0)), (1, .int p0), (2, .int q2), (3, .int q3), (4, .int 0), (5, .int 0)]) rfl ?_
    have L34 : ∀ (n : Nat) (t1 : (Int32 × Int32 × ZS)), lp n (f_X6_cure_B34 p0 q2 q3) t1 = some r → zV p l e ({ frames := 6, cells := 0, slots := 0, locals := 157 } : Room) s m args below meth c 0 0 (MQ below (zQ D A (some (.int r.1)) (wC a x r.2)) args s 0 0 A) D A 7 (wC a x t1.2.2) 34 [(0, .ref (a 0)), (1, .int p0), (2, .int q2), (3, .int q3), (4, .int t1.1), (5, .int t1.2.1)] [] := by
      intro n1
      induction n1 with
      | zero => exact fun _ h => (lp_zero h).elim
      | succ n1 ih1 =>
        intro t1 h
        obtain ⟨u1, h, hk1⟩ := lp_succ h
        have J97 : ∀ (l4_97 : Int32) (l5_97 : Int32) (σ_97 : ZS), f_X6_cure_J97 p0 q2 q3 l4_97 l5_97 σ_97 = some u1 → zV p l e ({ frames := 6, cells := 0, slots := 0, locals := 157 } : Room) s m args below meth c 0 0 (MQ below (zQ D A (some (.int r.1)) (wC a x r.2)) args s 0 0 A) D A 7 (wC a x σ_97) 97 [(0, .ref (a 0)), (1, .int p0), (2, .int q2), (3, .int q3), (4, .int l4_97), (5, .int l5_97)] [] := by
          intro l4_97 l5_97 σ_97 h
          unfold f_X6_cure_J97 at h
          refine z_aload_n C 0 rfl dX6_cure_97 ?_
          refine z_iload C 4 rfl dX6_cure_98 ?_
          obtain ⟨q4, hq4, h⟩ := bd_spec h
          refine z_callV1 C [.int l4_97] [] (v := (.int q4)) rfl (c_X6_nextSet l D A a x σ_97 l4_97 q4 hq4) cd_yX6_nextSet in_RX6 ml_RX6_176 im_yX6_nextSet sl_yX6_nextSet gC_0 rfl hd_yX6_nextSet ⟨⟨Nat.le_of_ble_eq_true rfl, Nat.le_of_ble_eq_true rfl⟩, rfl, rfl⟩ rfl (Nat.le_of_ble_eq_true rfl) ⟨Nat.zero_le _, Nat.zero_le _⟩ dX6_cure_100 ?_
          refine z_istore C [(4, .int q4), (0, .ref (a 0)), (1, .int p0), (2, .int q2), (3, .int q3), (5, .int l5_97)] (by decide) rfl dX6_cure_103 ?_
          refine z_iinc C (v := l5_97 + 1) [(5, .int (l5_97 + 1)), (4, .int q4), (0, .ref (a 0)), (1, .int p0), (2, .int q2), (3, .int q3)] 5 rfl rfl (by decide) rfl dX6_cure_105 ?_
          refine z_goto C 34 (by decide) dX6_cure_108 ?_
          refine z_sub C [2, 3, 4, 5, 1, 0] (lv' := [(0, .ref (a 0)), (1, .int p0), (2, .int q2), (3, .int q3), (4, .int q4), (5, .int (l5_97 + 1))]) rfl ?_
          exact ih1 _ (uninl h hk1)
        have J62 : ∀ (l4_62 : Int32) (l5_62 : Int32) (s0_62 : Int32) (σ_62 : ZS), f_X6_cure_J62 p0 q2 q3 l4_62 l5_62 s0_62 σ_62 = some u1 → zV p l e ({ frames := 6, cells := 0, slots := 0, locals := 157 } : Room) s m args below meth c 0 0 (MQ below (zQ D A (some (.int r.1)) (wC a x r.2)) args s 0 0 A) D A 7 (wC a x σ_62) 62 [(0, .ref (a 0)), (1, .int p0), (2, .int q2), (3, .int q3), (4, .int l4_62), (5, .int l5_62)] [.int s0_62] := by
          intro l4_62 l5_62 s0_62 σ_62 h
          unfold f_X6_cure_J62 at h
          refine z_istore C [(6, .int s0_62), (0, .ref (a 0)), (1, .int p0), (2, .int q2), (3, .int q3), (4, .int l4_62), (5, .int l5_62)] (by decide) rfl dX6_cure_62 ?_
          refine z_iload C 0 rfl dX6_cure_64 ?_
          refine z_if_eq C 97 (by decide) dX6_cure_66 h (fun h => ?_) (fun h => ?_)
          · refine z_sub C [1, 2, 3, 4, 5, 6] (lv' := [(0, .ref (a 0)), (1, .int p0), (2, .int q2), (3, .int q3), (4, .int l4_62), (5, .int l5_62)]) rfl ?_
            exact J97 _ _ _ h
          · refine z_aload_n C 1 rfl dX6_cure_69 ?_
            refine z_get C iRX6 0 gC_0 rfl 4 (by decide) fl_RX6_44 rfl dX6_cure_70 ?_
            refine z_iload_n C 2 rfl dX6_cure_73 ?_
            refine z_aload_n C 1 rfl dX6_cure_74 ?_
            refine z_get C iRX6 0 gC_0 rfl 0 (by decide) fl_RX6_12 rfl dX6_cure_75 ?_
            obtain ⟨q5, hq5, h⟩ := bd_spec h
            refine z_callV1 C [] [.int p0, .ref (a 5)] (v := (.int q5)) rfl (c_X1_refusing l D A a x σ_62  q5 hq5) cd_yX1_refusing in_RX1 ml_RX6_116 im_yX1_refusing sl_yX1_refusing gC_1 rfl hd_yX1_refusing ⟨⟨Nat.le_of_ble_eq_true rfl, Nat.le_of_ble_eq_true rfl⟩, rfl, rfl⟩ rfl (Nat.le_of_ble_eq_true rfl) ⟨Nat.zero_le _, Nat.zero_le _⟩ dX6_cure_78 ?_
            refine z_iload C 5 rfl dX6_cure_81 ?_
            refine z_ior C dX6_cure_83 ?_
            obtain ⟨q6, hq6, h⟩ := bd_spec h
            refine z_callV1 C [.int p0, .int (q5 ||| l4_62)] [] (v := (.int q6.1)) rfl (c_X0_astray l D A a x σ_62 p0 (q5 ||| l4_62) q6 hq6) cd_yX0_astray in_RX0 ml_RX6_149 im_yX0_astray sl_yX0_astray gC_5 rfl hd_yX0_astray ⟨⟨Nat.le_of_ble_eq_true rfl, Nat.le_of_ble_eq_true rfl⟩, rfl, rfl⟩ rfl (Nat.le_of_ble_eq_true rfl) ⟨Nat.zero_le _, Nat.zero_le _⟩ dX6_cure_84 ?_
            refine z_iload_n C 3 rfl dX6_cure_87 ?_
            refine z_iconst C (v := (-1)) dX6_cure_88 (by decide) ?_
            refine z_ixor C dX6_cure_89 ?_
            refine z_iand C dX6_cure_90 ?_
            refine z_if_ne C 97 (by decide) dX6_cure_91 h (fun h => ?_) (fun h => ?_)
            · refine z_sub C [1, 2, 3, 4, 5, 6] (lv' := [(0, .ref (a 0)), (1, .int p0), (2, .int q2), (3, .int q3), (4, .int l4_62), (5, .int l5_62)]) rfl ?_
              exact J97 _ _ _ h
            · refine z_iload C 5 rfl dX6_cure_94 ?_
              have h := unwi h hk1
              cases h
              exact z_iret C hr hlk dX6_cure_96
        unfold f_X6_cure_B34 at h
        refine z_iload C 5 rfl dX6_cure_34 ?_
        refine z_sipush C (v := 1024) dX6_cure_36 (by decide) ?_
        refine z_icmp_ge C 111 (by decide) dX6_cure_39 h (fun h => ?_) (fun h => ?_)
        · refine z_iconst C (v := (-1)) dX6_cure_111 (by decide) ?_
          have h := unwi h hk1
          cases h
          exact z_iret C hr hlk dX6_cure_112
        · refine z_iload C 4 rfl dX6_cure_42 ?_
          refine z_iconst C (v := (-1)) dX6_cure_44 (by decide) ?_
          refine z_icmp_eq C 111 (by decide) dX6_cure_45 h (fun h => ?_) (fun h => ?_)
          · refine z_iconst C (v := (-1)) dX6_cure_111 (by decide) ?_
            have h := unwi h hk1
            cases h
            exact z_iret C hr hlk dX6_cure_112
          · refine z_iload C 4 rfl dX6_cure_48 ?_
            refine z_iload_n C 3 rfl dX6_cure_50 ?_
            refine z_iconst C (v := (-1)) dX6_cure_51 (by decide) ?_
            refine z_ixor C dX6_cure_52 ?_
            refine z_iand C dX6_cure_53 ?_
            refine z_if_ne C 61 (by decide) dX6_cure_54 h (fun h => ?_) (fun h => ?_)
            · refine z_iconst C (v := 0) dX6_cure_61 (by decide) ?_
              exact J62 _ _ _ _ h
            · refine z_iconst C (v := 1) dX6_cure_57 (by decide) ?_
              refine z_goto C 62 (by decide) dX6_cure_58 ?_
              exact J62 _ _ _ _ h
    exact L34 _ _ h
  · refine z_bipush C (v := (-2)) dX6_cure_7 (by decide) ?_
    cases h
    exact z_iret C hr hlk dX6_cure_9
theorem dX6_halves_0 : decode cX6_halves 0 = .ok (.aload_n 0, 1) := by decide +kernel
theorem dX6_halves_1 : decode cX6_halves 1 = .ok (.getfield 26, 3) := by decide +kernel
theorem dX6_halves_4 : decode cX6_halves 4 = .ok (.iload_n 1, 1) := by decide +kernel
theorem dX6_halves_5 : decode cX6_halves 5 = .ok (.invokevirtual 101, 3) := by decide +kernel
theorem dX6_halves_8 : decode cX6_halves 8 = .ok (.ifCond .ne 6, 3) := by decide +kernel
theorem dX6_halves_11 : decode cX6_halves 11 = .ok (.bipush (-2), 2) := by decide +kernel
theorem dX6_halves_13 : decode cX6_halves 13 = .ok (.ireturn, 1) := by decide +kernel
theorem dX6_halves_14 : decode cX6_halves 14 = .ok (.aload_n 0, 1) := by decide +kernel
theorem dX6_halves_15 : decode cX6_halves 15 = .ok (.getfield 26, 3) := by decide +kernel
theorem dX6_halves_18 : decode cX6_halves 18 = .ok (.iload_n 1, 1) := by decide +kernel
theorem dX6_halves_19 : decode cX6_halves 19 = .ok (.invokevirtual 152, 3) := by decide +kernel
theorem dX6_halves_22 : decode cX6_halves 22 = .ok (.istore_n 2, 1) := by decide +kernel
theorem dX6_halves_23 : decode cX6_halves 23 = .ok (.aload_n 0, 1) := by decide +kernel
theorem dX6_halves_24 : decode cX6_halves 24 = .ok (.iload_n 1, 1) := by decide +kernel
theorem dX6_halves_25 : decode cX6_halves 25 = .ok (.invokevirtual 164, 3) := by decide +kernel
theorem dX6_halves_28 : decode cX6_halves 28 = .ok (.ifCond .eq 9, 3) := by decide +kernel
theorem dX6_halves_31 : decode cX6_halves 31 = .ok (.iload_n 2, 1) := by decide +kernel
theorem dX6_halves_32 : decode cX6_halves 32 = .ok (.bipush 64, 2) := by decide +kernel
theorem dX6_halves_34 : decode cX6_halves 34 = .ok (.if_icmp .lt 6, 3) := by decide +kernel
theorem dX6_halves_37 : decode cX6_halves 37 = .ok (.bipush (-5), 2) := by decide +kernel
theorem dX6_halves_39 : decode cX6_halves 39 = .ok (.ireturn, 1) := by decide +kernel
theorem dX6_halves_40 : decode cX6_halves 40 = .ok (.iconst 2, 1) := by decide +kernel
theorem dX6_halves_41 : decode cX6_halves 41 = .ok (.iload_n 2, 1) := by decide +kernel
theorem dX6_halves_42 : decode cX6_halves 42 = .ok (.imul, 1) := by decide +kernel
theorem dX6_halves_43 : decode cX6_halves 43 = .ok (.istore_n 3, 1) := by decide +kernel
theorem dX6_halves_44 : decode cX6_halves 44 = .ok (.aload_n 0, 1) := by decide +kernel
theorem dX6_halves_45 : decode cX6_halves 45 = .ok (.getfield 26, 3) := by decide +kernel
theorem dX6_halves_48 : decode cX6_halves 48 = .ok (.iload_n 3, 1) := by decide +kernel
theorem dX6_halves_49 : decode cX6_halves 49 = .ok (.invokevirtual 92, 3) := by decide +kernel
theorem dX6_halves_52 : decode cX6_halves 52 = .ok (.istore 4, 2) := by decide +kernel
theorem dX6_halves_54 : decode cX6_halves 54 = .ok (.aload_n 0, 1) := by decide +kernel
theorem dX6_halves_55 : decode cX6_halves 55 = .ok (.getfield 26, 3) := by decide +kernel
theorem dX6_halves_58 : decode cX6_halves 58 = .ok (.iload_n 3, 1) := by decide +kernel
theorem dX6_halves_59 : decode cX6_halves 59 = .ok (.iload 4, 2) := by decide +kernel
theorem dX6_halves_61 : decode cX6_halves 61 = .ok (.aload_n 0, 1) := by decide +kernel
theorem dX6_halves_62 : decode cX6_halves 62 = .ok (.getfield 19, 3) := by decide +kernel
theorem dX6_halves_65 : decode cX6_halves 65 = .ok (.iload_n 2, 1) := by decide +kernel
theorem dX6_halves_66 : decode cX6_halves 66 = .ok (.invokevirtual 89, 3) := by decide +kernel
theorem dX6_halves_69 : decode cX6_halves 69 = .ok (.invokestatic 185, 3) := by decide +kernel
theorem dX6_halves_72 : decode cX6_halves 72 = .ok (.ior, 1) := by decide +kernel
theorem dX6_halves_73 : decode cX6_halves 73 = .ok (.invokevirtual 188, 3) := by decide +kernel
theorem dX6_halves_76 : decode cX6_halves 76 = .ok (.aload_n 0, 1) := by decide +kernel
theorem dX6_halves_77 : decode cX6_halves 77 = .ok (.getfield 44, 3) := by decide +kernel
theorem dX6_halves_80 : decode cX6_halves 80 = .ok (.iload_n 2, 1) := by decide +kernel
theorem dX6_halves_81 : decode cX6_halves 81 = .ok (.invokestatic 158, 3) := by decide +kernel
theorem dX6_halves_84 : decode cX6_halves 84 = .ok (.aload_n 0, 1) := by decide +kernel
theorem dX6_halves_85 : decode cX6_halves 85 = .ok (.getfield 12, 3) := by decide +kernel
theorem dX6_halves_88 : decode cX6_halves 88 = .ok (.invokevirtual 116, 3) := by decide +kernel
theorem dX6_halves_91 : decode cX6_halves 91 = .ok (.invokevirtual 149, 3) := by decide +kernel
theorem dX6_halves_94 : decode cX6_halves 94 = .ok (.istore 5, 2) := by decide +kernel
theorem dX6_halves_96 : decode cX6_halves 96 = .ok (.aload_n 0, 1) := by decide +kernel
theorem dX6_halves_97 : decode cX6_halves 97 = .ok (.getfield 26, 3) := by decide +kernel
theorem dX6_halves_100 : decode cX6_halves 100 = .ok (.iload_n 3, 1) := by decide +kernel
theorem dX6_halves_101 : decode cX6_halves 101 = .ok (.iload 4, 2) := by decide +kernel
theorem dX6_halves_103 : decode cX6_halves 103 = .ok (.invokevirtual 188, 3) := by decide +kernel
theorem dX6_halves_106 : decode cX6_halves 106 = .ok (.iload 5, 2) := by decide +kernel
theorem dX6_halves_108 : decode cX6_halves 108 = .ok (.invokestatic 191, 3) := by decide +kernel
theorem dX6_halves_111 : decode cX6_halves 111 = .ok (.ireturn, 1) := by decide +kernel
theorem hd_yX6_halves : (yX6_halves).cls ≠ "java/lang/invoke/MethodHandle" ∧ (yX6_halves).cls ≠ "java/lang/invoke/VarHandle" ∧ (parseMethodDescriptor (yX6_halves).desc).map (fun d => d.parameters.length) = some 1 := ⟨by decide, by decide, by decide +kernel⟩
def f_X6_halves (p0 : Int32) (σ : ZS) : Option (Int32 × ZS) :=
  Option.bind (f_X3_has p0 σ) (fun q1 => (if q1 = 0 then some ((-2), σ) else Option.bind (f_X3_block p0 σ) (fun q2 => Option.bind (f_X6_isFalse p0 σ) (fun q3 => (if q3 = 0 then some ((-5), σ) else (if q2 < 64 then Option.bind (f_X3_sayers ((2 : Int32) * q2) σ) (fun q4 => Option.bind (f_X2_owner q2 σ) (fun q5 => Option.bind (f_X6_bit q5) (fun q6 => Option.bind (f_X3_suppose ((2 : Int32) * q2) (q4 ||| q6) σ) (fun q7 => Option.bind (f_X6_firstOf q2) (fun q8 => Option.bind (f_X1_refusing q7) (fun q9 => Option.bind (f_X0_astray q8 q9 q7) (fun q10 => Option.bind (f_X3_suppose ((2 : Int32) * q2) q4 q10.2) (fun q11 => Option.bind (f_J6_bitCount_0f7a4 q10.1) (fun q12 => some (q12, q11)))))))))) else some ((-5), σ)))))))
set_option maxHeartbeats 4000000 in
set_option maxRecDepth 100000 in
theorem c_X6_halves (l : Launch) (D : va_G) (A : Nat → Prop) (a : Nat → Nat) (x : ClassId × ClassId × ClassId) (σ : ZS) (p0 : Int32) (r : (Int32 × ZS)) (h : f_X6_halves p0 σ = some r) : zM l yX6_halves w_yX6_halves ({ frames := 6, cells := 0, slots := 0, locals := 157 } : Room) D A (tyz x) [.ref (a 0), .int p0] (wC a x σ) (some (.int r.1)) (wC a x r.2) := by
  refine z_start [.ref (a 0), .int p0] (lv := [(0, .ref (a 0)), (1, .int p0)]) (by decide) (Nat.le_of_ble_eq_true rfl) rfl ?_
  intro p e s m args below meth c C hr hlk
  unfold f_X6_halves at h
  refine z_aload_n C 0 rfl dX6_halves_0 ?_
  refine z_get C iRX6 0 gC_0 rfl 2 (by decide) fl_RX6_26 rfl dX6_halves_1 ?_
  refine z_iload_n C 1 rfl dX6_halves_4 ?_
  obtain ⟨q1, hq1, h⟩ := bd_spec h
  refine z_callV1 C [.int p0] [] (v := (.int q1)) rfl (c_X3_has l D A a x σ p0 q1 hq1) cd_yX3_has in_RX3 ml_RX6_101 im_yX3_has sl_yX3_has gC_3 rfl hd_yX3_has ⟨⟨Nat.le_of_ble_eq_true rfl, Nat.le_of_ble_eq_true rfl⟩, rfl, rfl⟩ rfl (Nat.le_of_ble_eq_true rfl) ⟨Nat.zero_le _, Nat.zero_le _⟩ dX6_halves_5 ?_
  refine z_if_ne C 14 (by decide) dX6_halves_8 h (fun h => ?_) (fun h => ?_)
  · refine z_aload_n C 0 rfl dX6_halves_14 ?_
    refine z_get C iRX6 0 gC_0 rfl 2 (by decide) fl_RX6_26 rfl dX6_halves_15 ?_
    refine z_iload_n C 1 rfl dX6_halves_18 ?_
    obtain ⟨q2, hq2, h⟩ := bd_spec h
    refine z_callV1 C [.int p0] [] (v := (.int q2)) rfl (c_X3_block l D A a x σ p0 q2 hq2) cd_yX3_block in_RX3 ml_RX6_152 im_yX3_block sl_yX3_block gC_3 rfl hd_yX3_block ⟨⟨Nat.le_of_ble_eq_true rfl, Nat.le_of_ble_eq_true rfl⟩, rfl, rfl⟩ rfl (Nat.le_of_ble_eq_true rfl) ⟨Nat.zero_le _, Nat.zero_le _⟩ dX6_halves_19 ?_
    refine z_istore_n C [(2, .int q2), (0, .ref (a 0)), (1, .int p0)] rfl (by decide) rfl dX6_halves_22 ?_
    refine z_aload_n C 1 rfl dX6_halves_23 ?_
    refine z_iload_n C 2 rfl dX6_halves_24 ?_
    obtain ⟨q3, hq3, h⟩ := bd_spec h
    refine z_callV1 C [.int p0] [] (v := (.int q3)) rfl (c_X6_isFalse l D A a x σ p0 q3 hq3) cd_yX6_isFalse in_RX6 ml_RX6_164 im_yX6_isFalse sl_yX6_isFalse gC_0 rfl hd_yX6_isFalse ⟨⟨Nat.le_of_ble_eq_true rfl, Nat.le_of_ble_eq_true rfl⟩, rfl, rfl⟩ rfl (Nat.le_of_ble_eq_true rfl) ⟨Nat.zero_le _, Nat.zero_le _⟩ dX6_halves_25 ?_
    refine z_if_eq C 37 (by decide) dX6_halves_28 h (fun h => ?_) (fun h => ?_)
    · refine z_bipush C (v := (-5)) dX6_halves_37 (by decide) ?_
      cases h
      exact z_iret C hr hlk dX6_halves_39
    · refine z_iload_n C 0 rfl dX6_halves_31 ?_
      refine z_bipush C (v := 64) dX6_halves_32 (by decide) ?_
      refine z_icmp_lt C 40 (by decide) dX6_halves_34 h (fun h => ?_) (fun h => ?_)
      · refine z_iconst C (v := 2) dX6_halves_40 (by decide) ?_
        refine z_iload_n C 0 rfl dX6_halves_41 ?_
        refine z_imul C dX6_halves_42 ?_
        refine z_istore_n C [(3, .int ((2 : Int32) * q2)), (2, .int q2), (0, .ref (a 0)), (1, .int p0)] rfl (by decide) rfl dX6_halves_43 ?_
        refine z_aload_n C 2 rfl dX6_halves_44 ?_
        refine z_get C iRX6 0 gC_0 rfl 2 (by decide) fl_RX6_26 rfl dX6_halves_45 ?_
        refine z_iload_n C 0 rfl dX6_halves_48 ?_
        obtain ⟨q4, hq4, h⟩ := bd_spec h
        refine z_callV1 C [.int ((2 : Int32) * q2)] [] (v := (.int q4)) rfl (c_X3_sayers l D A a x σ ((2 : Int32) * q2) q4 hq4) cd_yX3_sayers in_RX3 ml_RX6_92 im_yX3_sayers sl_yX3_sayers gC_3 rfl hd_yX3_sayers ⟨⟨Nat.le_of_ble_eq_true rfl, Nat.le_of_ble_eq_true rfl⟩, rfl, rfl⟩ rfl (Nat.le_of_ble_eq_true rfl) ⟨Nat.zero_le _, Nat.zero_le _⟩ dX6_halves_49 ?_
        refine z_istore C [(4, .int q4), (3, .int ((2 : Int32) * q2)), (2, .int q2), (0, .ref (a 0)), (1, .int p0)] (by decide) rfl dX6_halves_52 ?_
        refine z_aload_n C 3 rfl dX6_halves_54 ?_
        refine z_get C iRX6 0 gC_0 rfl 2 (by decide) fl_RX6_26 rfl dX6_halves_55 ?_
        refine z_iload_n C 1 rfl dX6_halves_58 ?_
        refine z_iload C 0 rfl dX6_halves_59 ?_
        refine z_aload_n C 3 rfl dX6_halves_61 ?_
        refine z_get C iRX6 0 gC_0 rfl 1 (by decide) fl_RX6_19 rfl dX6_halves_62 ?_
        refine z_iload_n C 2 rfl dX6_halves_65 ?_
        obtain ⟨q5, hq5, h⟩ := bd_spec h
        refine z_callV1 C [.int q2] [.int q4, .int ((2 : Int32) * q2), .ref (a 3)] (v := (.int q5)) rfl (c_X2_owner l D A a x σ q2 q5 hq5) cd_yX2_owner in_RX2 ml_RX6_89 im_yX2_owner sl_yX2_owner gC_2 rfl hd_yX2_owner ⟨⟨Nat.le_of_ble_eq_true rfl, Nat.le_of_ble_eq_true rfl⟩, rfl, rfl⟩ rfl (Nat.le_of_ble_eq_true rfl) ⟨Nat.zero_le _, Nat.zero_le _⟩ dX6_halves_66 ?_
        obtain ⟨q6, hq6, h⟩ := bd_spec h
        refine z_callS1 C [.int q5] [.int q4, .int ((2 : Int32) * q2), .ref (a 3)] (v := .int q6) rfl (c_X6_bit l D A (tyz x) (wC a x σ) q5 q6 hq6) cd_yX6_bit in_RX6 ml_RX6_185 sm_yX6_bit hd_yX6_bit ⟨⟨Nat.le_of_ble_eq_true rfl, Nat.le_of_ble_eq_true rfl⟩, rfl, rfl⟩ rfl (Nat.le_of_ble_eq_true rfl) ⟨Nat.zero_le _, Nat.zero_le _⟩ dX6_halves_69 ?_
        refine z_ior C dX6_halves_72 ?_
        obtain ⟨q7, hq7, h⟩ := bd_spec h
        refine z_callV0 C [.int ((2 : Int32) * q2), .int (q4 ||| q6)] [] rfl (c_X3_suppose l D A a x σ ((2 : Int32) * q2) (q4 ||| q6) q7 hq7) cd_yX3_suppose in_RX3 ml_RX6_188 im_yX3_suppose sl_yX3_suppose gC_3 rfl hd_yX3_suppose ⟨⟨Nat.le_of_ble_eq_true rfl, Nat.le_of_ble_eq_true rfl⟩, rfl, rfl⟩ rfl (Nat.le_of_ble_eq_true rfl) ⟨Nat.zero_le _, Nat.zero_le _⟩ dX6_halves_73 ?_
        refine z_aload_n C 3 rfl dX6_halves_76 ?_
        refine z_get C iRX6 0 gC_0 rfl 4 (by decide) fl_RX6_44 rfl dX6_halves_77 ?_
        refine z_iload_n C 2 rfl dX6_halves_80 ?_
        obtain ⟨q8, hq8, h⟩ := bd_spec h
        refine z_callS1 C [.int q2] [.ref (a 5)] (v := .int q8) rfl (c_X6_firstOf l D A (tyz x) (wC a x q7) q2 q8 hq8) cd_yX6_firstOf in_RX6 ml_RX6_158 sm_yX6_firstOf hd_yX6_firstOf ⟨⟨Nat.le_of_ble_eq_true rfl, Nat.le_of_ble_eq_true rfl⟩, rfl, rfl⟩ rfl (Nat.le_of_ble_eq_true rfl) ⟨Nat.zero_le _, Nat.zero_le _⟩ dX6_halves_81 ?_
        refine z_aload_n C 3 rfl dX6_halves_84 ?_
        refine z_get C iRX6 0 gC_0 rfl 0 (by decide) fl_RX6_12 rfl dX6_halves_85 ?_
        obtain ⟨q9, hq9, h⟩ := bd_spec h
        refine z_callV1 C [] [.int q8, .ref (a 5)] (v := (.int q9)) rfl (c_X1_refusing l D A a x q7  q9 hq9) cd_yX1_refusing in_RX1 ml_RX6_116 im_yX1_refusing sl_yX1_refusing gC_1 rfl hd_yX1_refusing ⟨⟨Nat.le_of_ble_eq_true rfl, Nat.le_of_ble_eq_true rfl⟩, rfl, rfl⟩ rfl (Nat.le_of_ble_eq_true rfl) ⟨Nat.zero_le _, Nat.zero_le _⟩ dX6_halves_88 ?_
        obtain ⟨q10, hq10, h⟩ := bd_spec h
        refine z_callV1 C [.int q8, .int q9] [] (v := (.int q10.1)) rfl (c_X0_astray l D A a x q7 q8 q9 q10 hq10) cd_yX0_astray in_RX0 ml_RX6_149 im_yX0_astray sl_yX0_astray gC_5 rfl hd_yX0_astray ⟨⟨Nat.le_of_ble_eq_true rfl, Nat.le_of_ble_eq_true rfl⟩, rfl, rfl⟩ rfl (Nat.le_of_ble_eq_true rfl) ⟨Nat.zero_le _, Nat.zero_le _⟩ dX6_halves_91 ?_
        refine z_istore C [(5, .int q10.1), (4, .int q4), (3, .int ((2 : Int32) * q2)), (2, .int q2), (0, .ref (a 0)), (1, .int p0)] (by decide) rfl dX6_halves_94 ?_
        refine z_aload_n C 4 rfl dX6_halves_96 ?_
        refine z_get C iRX6 0 gC_0 rfl 2 (by decide) fl_RX6_26 rfl dX6_halves_97 ?_
        refine z_iload_n C 2 rfl dX6_halves_100 ?_
        refine z_iload C 1 rfl dX6_halves_101 ?_
        obtain ⟨q11, hq11, h⟩ := bd_spec h
        refine z_callV0 C [.int ((2 : Int32) * q2), .int q4] [] rfl (c_X3_suppose l D A a x q10.2 ((2 : Int32) * q2) q4 q11 hq11) cd_yX3_suppose in_RX3 ml_RX6_188 im_yX3_suppose sl_yX3_suppose gC_3 rfl hd_yX3_suppose ⟨⟨Nat.le_of_ble_eq_true rfl, Nat.le_of_ble_eq_true rfl⟩, rfl, rfl⟩ rfl (Nat.le_of_ble_eq_true rfl) ⟨Nat.zero_le _, Nat.zero_le _⟩ dX6_halves_103 ?_
        refine z_iload C 0 rfl dX6_halves_106 ?_
        obtain ⟨q12, hq12, h⟩ := bd_spec h
        refine z_callS1 C [.int q10.1] [] (v := .int q12) rfl (c_J6_bitCount_0f7a4 l D A (tyz x) (wC a x q11) q10.1 q12 hq12) cd_yJ6_bitCount_0f7a4 in_RJ6 ml_RX6_191 sm_yJ6_bitCount_0f7a4 hd_yJ6_bitCount_0f7a4 ⟨⟨Nat.le_of_ble_eq_true rfl, Nat.le_of_ble_eq_true rfl⟩, rfl, rfl⟩ rfl (Nat.le_of_ble_eq_true rfl) ⟨Nat.zero_le _, Nat.zero_le _⟩ dX6_halves_108 ?_
        cases h
        exact z_iret C hr hlk dX6_halves_111
      · refine z_bipush C (v := (-5)) dX6_halves_37 (by decide) ?_
        cases h
        exact z_iret C hr hlk dX6_halves_39
  · refine z_bipush C (v := (-2)) dX6_halves_11 (by decide) ?_
    cases h
    exact z_iret C hr hlk dX6_halves_13
theorem dX6_falseSayings_0 : decode cX6_falseSayings 0 = .ok (.iconst 0, 1) := by decide +kernel
theorem dX6_falseSayings_1 : decode cX6_falseSayings 1 = .ok (.istore_n 1, 1) := by decide +kernel
theorem dX6_falseSayings_2 : decode cX6_falseSayings 2 = .ok (.iconst 0, 1) := by decide +kernel
theorem dX6_falseSayings_3 : decode cX6_falseSayings 3 = .ok (.istore_n 2, 1) := by decide +kernel
theorem dX6_falseSayings_4 : decode cX6_falseSayings 4 = .ok (.iload_n 2, 1) := by decide +kernel
theorem dX6_falseSayings_5 : decode cX6_falseSayings 5 = .ok (.aload_n 0, 1) := by decide +kernel
theorem dX6_falseSayings_6 : decode cX6_falseSayings 6 = .ok (.getfield 26, 3) := by decide +kernel
theorem dX6_falseSayings_9 : decode cX6_falseSayings 9 = .ok (.invokevirtual 200, 3) := by decide +kernel
theorem dX6_falseSayings_12 : decode cX6_falseSayings 12 = .ok (.if_icmp .ge 20, 3) := by decide +kernel
theorem dX6_falseSayings_15 : decode cX6_falseSayings 15 = .ok (.aload_n 0, 1) := by decide +kernel
theorem dX6_falseSayings_16 : decode cX6_falseSayings 16 = .ok (.iload_n 2, 1) := by decide +kernel
theorem dX6_falseSayings_17 : decode cX6_falseSayings 17 = .ok (.invokevirtual 164, 3) := by decide +kernel
theorem dX6_falseSayings_20 : decode cX6_falseSayings 20 = .ok (.ifCond .eq 6, 3) := by decide +kernel
theorem dX6_falseSayings_23 : decode cX6_falseSayings 23 = .ok (.iinc 1 1, 3) := by decide +kernel
theorem dX6_falseSayings_26 : decode cX6_falseSayings 26 = .ok (.iinc 2 1, 3) := by decide +kernel
theorem dX6_falseSayings_29 : decode cX6_falseSayings 29 = .ok (.goto (-25), 3) := by decide +kernel
theorem dX6_falseSayings_32 : decode cX6_falseSayings 32 = .ok (.iload_n 1, 1) := by decide +kernel
theorem dX6_falseSayings_33 : decode cX6_falseSayings 33 = .ok (.ireturn, 1) := by decide +kernel
theorem hd_yX6_falseSayings : (yX6_falseSayings).cls ≠ "java/lang/invoke/MethodHandle" ∧ (yX6_falseSayings).cls ≠ "java/lang/invoke/VarHandle" ∧ (parseMethodDescriptor (yX6_falseSayings).desc).map (fun d => d.parameters.length) = some 0 := ⟨by decide, by decide, by decide +kernel⟩
def f_X6_falseSayings_B4 (σ : ZS) (t1 : (Int32 × Int32)) : Option ((Int32 × Int32) ⊕ Int32) :=
  Option.bind (f_X3_number σ) (fun q1 => (if q1 ≤ t1.2 then wi (some t1.1) else Option.bind (f_X6_isFalse t1.2 σ) (fun q2 => (if q2 = 0 then some (.inl (t1.1, t1.2 + 1)) else some (.inl (t1.1 + 1, t1.2 + 1))))))
def f_X6_falseSayings  (σ : ZS) : Option Int32 :=
  lp zF (f_X6_falseSayings_B4 σ) (0, 0)
set_option maxHeartbeats 4000000 in
set_option maxRecDepth 100000 in
theorem c_X6_falseSayings (l : Launch) (D : va_G) (A : Nat → Prop) (a : Nat → Nat) (x : ClassId × ClassId × ClassId) (σ : ZS)  (r : Int32) (h : f_X6_falseSayings  σ = some r) : zM l yX6_falseSayings w_yX6_falseSayings ({ frames := 4, cells := 0, slots := 0, locals := 86 } : Room) D A (tyz x) [.ref (a 0)] (wC a x σ) (some (.int r)) (wC a x σ) := by
  refine z_start [.ref (a 0)] (lv := [(0, .ref (a 0))]) (by decide) (Nat.le_of_ble_eq_true rfl) rfl ?_
  intro p e s m args below meth c C hr hlk
  unfold f_X6_falseSayings at h
  refine z_iconst C (v := 0) dX6_falseSayings_0 (by decide) ?_
  refine z_istore_n C [(1, .int 0), (0, .ref (a 0))] rfl (by decide) rfl dX6_falseSayings_1 ?_
  refine z_iconst C (v := 0) dX6_falseSayings_2 (by decide) ?_
  refine z_istore_n C [(2, .int 0), (1, .int 0), (0, .ref (a 0))] rfl (by decide) rfl dX6_falseSayings_3 ?_
  refine z_sub C [2, 1, 0] (lv' := [(0, .ref (a 0)), (1, .int 0), (2, .int 0)]) rfl ?_
  have L4 : ∀ (n : Nat) (t1 : (Int32 × Int32)), lp n (f_X6_falseSayings_B4 σ) t1 = some r → zV p l e ({ frames := 4, cells := 0, slots := 0, locals := 86 } : Room) s m args below meth c 0 0 (MQ below (zQ D A (some (.int r)) (wC a x σ)) args s 0 0 A) D A 3 (wC a x σ) 4 [(0, .ref (a 0)), (1, .int t1.1), (2, .int t1.2)] [] := by
    intro n1
    induction n1 with
    | zero => exact fun _ h => (lp_zero h).elim
    | succ n1 ih1 =>
      intro t1 h
      obtain ⟨u1, h, hk1⟩ := lp_succ h
      unfold f_X6_falseSayings_B4 at h
      refine z_iload_n C 2 rfl dX6_falseSayings_4 ?_
      refine z_aload_n C 0 rfl dX6_falseSayings_5 ?_
      refine z_get C iRX6 0 gC_0 rfl 2 (by decide) fl_RX6_26 rfl dX6_falseSayings_6 ?_
      obtain ⟨q1, hq1, h⟩ := bd_spec h
      refine z_callV1 C [] [.int t1.2] (v := (.int q1)) rfl (c_X3_number l D A a x σ  q1 hq1) cd_yX3_number in_RX3 ml_RX6_200 im_yX3_number sl_yX3_number gC_3 rfl hd_yX3_number ⟨⟨Nat.le_of_ble_eq_true rfl, Nat.le_of_ble_eq_true rfl⟩, rfl, rfl⟩ rfl (Nat.le_of_ble_eq_true rfl) ⟨Nat.zero_le _, Nat.zero_le _⟩ dX6_falseSayings_9 ?_
      refine z_icmp_ge C 32 (by decide) dX6_falseSayings_12 h (fun h => ?_) (fun h => ?_)
      · refine z_iload_n C 1 rfl dX6_falseSayings_32 ?_
        have h := unwi h hk1
        cases h
        exact z_iret C hr hlk dX6_falseSayings_33
      · refine z_aload_n C 0 rfl dX6_falseSayings_15 ?_
        refine z_iload_n C 2 rfl dX6_falseSayings_16 ?_
        obtain ⟨q2, hq2, h⟩ := bd_spec h
        refine z_callV1 C [.int t1.2] [] (v := (.int q2)) rfl (c_X6_isFalse l D A a x σ t1.2 q2 hq2) cd_yX6_isFalse in_RX6 ml_RX6_164 im_yX6_isFalse sl_yX6_isFalse gC_0 rfl hd_yX6_isFalse ⟨⟨Nat.le_of_ble_eq_true rfl, Nat.le_of_ble_eq_true rfl⟩, rfl, rfl⟩ rfl (Nat.le_of_ble_eq_true rfl) ⟨Nat.zero_le _, Nat.zero_le _⟩ dX6_falseSayings_17 ?_
        refine z_if_eq C 26 (by decide) dX6_falseSayings_20 h (fun h => ?_) (fun h => ?_)
        · refine z_iinc C (v := t1.2 + 1) [(2, .int (t1.2 + 1)), (0, .ref (a 0)), (1, .int t1.1)] 2 rfl rfl (by decide) rfl dX6_falseSayings_26 ?_
          refine z_goto C 4 (by decide) dX6_falseSayings_29 ?_
          refine z_sub C [1, 2, 0] (lv' := [(0, .ref (a 0)), (1, .int t1.1), (2, .int (t1.2 + 1))]) rfl ?_
          exact ih1 _ (uninl h hk1)
        · refine z_iinc C (v := t1.1 + 1) [(1, .int (t1.1 + 1)), (0, .ref (a 0)), (2, .int t1.2)] 1 rfl rfl (by decide) rfl dX6_falseSayings_23 ?_
          refine z_iinc C (v := t1.2 + 1) [(2, .int (t1.2 + 1)), (1, .int (t1.1 + 1)), (0, .ref (a 0))] 2 rfl rfl (by decide) rfl dX6_falseSayings_26 ?_
          refine z_goto C 4 (by decide) dX6_falseSayings_29 ?_
          refine z_sub C [2, 1, 0] (lv' := [(0, .ref (a 0)), (1, .int (t1.1 + 1)), (2, .int (t1.2 + 1))]) rfl ?_
          exact ih1 _ (uninl h hk1)
  exact L4 _ _ h
theorem dX6_count_0 : decode cX6_count 0 = .ok (.iload_n 1, 1) := by decide +kernel
theorem dX6_count_1 : decode cX6_count 1 = .ok (.tableswitch 72 0 4 #[35, 43, 51, 59, 67], 35) := by decide +kernel
theorem dX6_count_36 : decode cX6_count 36 = .ok (.aload_n 0, 1) := by decide +kernel
theorem dX6_count_37 : decode cX6_count 37 = .ok (.getfield 12, 3) := by decide +kernel
theorem dX6_count_40 : decode cX6_count 40 = .ok (.invokevirtual 196, 3) := by decide +kernel
theorem dX6_count_43 : decode cX6_count 43 = .ok (.ireturn, 1) := by decide +kernel
theorem dX6_count_44 : decode cX6_count 44 = .ok (.aload_n 0, 1) := by decide +kernel
theorem dX6_count_45 : decode cX6_count 45 = .ok (.getfield 12, 3) := by decide +kernel
theorem dX6_count_48 : decode cX6_count 48 = .ok (.invokevirtual 197, 3) := by decide +kernel
theorem dX6_count_51 : decode cX6_count 51 = .ok (.ireturn, 1) := by decide +kernel
theorem dX6_count_52 : decode cX6_count 52 = .ok (.aload_n 0, 1) := by decide +kernel
theorem dX6_count_53 : decode cX6_count 53 = .ok (.getfield 19, 3) := by decide +kernel
theorem dX6_count_56 : decode cX6_count 56 = .ok (.invokevirtual 83, 3) := by decide +kernel
theorem dX6_count_59 : decode cX6_count 59 = .ok (.ireturn, 1) := by decide +kernel
theorem dX6_count_60 : decode cX6_count 60 = .ok (.aload_n 0, 1) := by decide +kernel
theorem dX6_count_61 : decode cX6_count 61 = .ok (.getfield 26, 3) := by decide +kernel
theorem dX6_count_64 : decode cX6_count 64 = .ok (.invokevirtual 200, 3) := by decide +kernel
theorem dX6_count_67 : decode cX6_count 67 = .ok (.ireturn, 1) := by decide +kernel
theorem dX6_count_68 : decode cX6_count 68 = .ok (.aload_n 0, 1) := by decide +kernel
theorem dX6_count_69 : decode cX6_count 69 = .ok (.invokevirtual 201, 3) := by decide +kernel
theorem dX6_count_72 : decode cX6_count 72 = .ok (.ireturn, 1) := by decide +kernel
theorem dX6_count_73 : decode cX6_count 73 = .ok (.bipush (-2), 2) := by decide +kernel
theorem dX6_count_75 : decode cX6_count 75 = .ok (.ireturn, 1) := by decide +kernel
theorem hd_yX6_count : (yX6_count).cls ≠ "java/lang/invoke/MethodHandle" ∧ (yX6_count).cls ≠ "java/lang/invoke/VarHandle" ∧ (parseMethodDescriptor (yX6_count).desc).map (fun d => d.parameters.length) = some 1 := ⟨by decide, by decide, by decide +kernel⟩
def f_X6_count (p0 : Int32) (σ : ZS) : Option Int32 :=
  (if p0 = 0 then Option.bind (f_X1_number σ) (fun q5 => some q5) else (if p0 = 1 then Option.bind (f_X1_ties σ) (fun q4 => some q4) else (if p0 = 2 then Option.bind (f_X2_number σ) (fun q3 => some q3) else (if p0 = 3 then Option.bind (f_X3_number σ) (fun q2 => some q2) else (if p0 = 4 then Option.bind (f_X6_falseSayings σ) (fun q1 => some q1) else some (-2))))))
set_option maxHeartbeats 4000000 in
set_option maxRecDepth 100000 in
theorem c_X6_count (l : Launch) (D : va_G) (A : Nat → Prop) (a : Nat → Nat) (x : ClassId × ClassId × ClassId) (σ : ZS) (p0 : Int32) (r : Int32) (h : f_X6_count p0 σ = some r) : zM l yX6_count w_yX6_count ({ frames := 5, cells := 0, slots := 0, locals := 108 } : Room) D A (tyz x) [.ref (a 0), .int p0] (wC a x σ) (some (.int r)) (wC a x σ) := by
  refine z_start [.ref (a 0), .int p0] (lv := [(0, .ref (a 0)), (1, .int p0)]) (by decide) (Nat.le_of_ble_eq_true rfl) rfl ?_
  intro p e s m args below meth c C hr hlk
  unfold f_X6_count at h
  refine z_iload_n C 1 rfl dX6_count_0 ?_
  by_cases hs0 : p0 = 0
  · rw [if_pos hs0] at h
    refine z_swIn (α := Unit) C 36 0 dX6_count_1 (by rw [hs0]; decide) (by decide) (by decide) rfl (by decide) ?_
    refine z_aload_n C 0 rfl dX6_count_36 ?_
    refine z_get C iRX6 0 gC_0 rfl 0 (by decide) fl_RX6_12 rfl dX6_count_37 ?_
    obtain ⟨q1, hq1, h⟩ := bd_spec h
    refine z_callV1 C [] [] (v := (.int q1)) rfl (c_X1_number l D A a x σ  q1 hq1) cd_yX1_number in_RX1 ml_RX6_196 im_yX1_number sl_yX1_number gC_1 rfl hd_yX1_number ⟨⟨Nat.le_of_ble_eq_true rfl, Nat.le_of_ble_eq_true rfl⟩, rfl, rfl⟩ rfl (Nat.le_of_ble_eq_true rfl) ⟨Nat.zero_le _, Nat.zero_le _⟩ dX6_count_40 ?_
    cases h
    exact z_iret C hr hlk dX6_count_43
  rw [if_neg hs0] at h
  by_cases hs1 : p0 = 1
  · rw [if_pos hs1] at h
    refine z_swIn (α := Unit) C 44 1 dX6_count_1 (by rw [hs1]; decide) (by decide) (by decide) rfl (by decide) ?_
    refine z_aload_n C 0 rfl dX6_count_44 ?_
    refine z_get C iRX6 0 gC_0 rfl 0 (by decide) fl_RX6_12 rfl dX6_count_45 ?_
    obtain ⟨q2, hq2, h⟩ := bd_spec h
    refine z_callV1 C [] [] (v := (.int q2)) rfl (c_X1_ties l D A a x σ  q2 hq2) cd_yX1_ties in_RX1 ml_RX6_197 im_yX1_ties sl_yX1_ties gC_1 rfl hd_yX1_ties ⟨⟨Nat.le_of_ble_eq_true rfl, Nat.le_of_ble_eq_true rfl⟩, rfl, rfl⟩ rfl (Nat.le_of_ble_eq_true rfl) ⟨Nat.zero_le _, Nat.zero_le _⟩ dX6_count_48 ?_
    cases h
    exact z_iret C hr hlk dX6_count_51
  rw [if_neg hs1] at h
  by_cases hs2 : p0 = 2
  · rw [if_pos hs2] at h
    refine z_swIn (α := Unit) C 52 2 dX6_count_1 (by rw [hs2]; decide) (by decide) (by decide) rfl (by decide) ?_
    refine z_aload_n C 0 rfl dX6_count_52 ?_
    refine z_get C iRX6 0 gC_0 rfl 1 (by decide) fl_RX6_19 rfl dX6_count_53 ?_
    obtain ⟨q3, hq3, h⟩ := bd_spec h
    refine z_callV1 C [] [] (v := (.int q3)) rfl (c_X2_number l D A a x σ  q3 hq3) cd_yX2_number in_RX2 ml_RX6_83 im_yX2_number sl_yX2_number gC_2 rfl hd_yX2_number ⟨⟨Nat.le_of_ble_eq_true rfl, Nat.le_of_ble_eq_true rfl⟩, rfl, rfl⟩ rfl (Nat.le_of_ble_eq_true rfl) ⟨Nat.zero_le _, Nat.zero_le _⟩ dX6_count_56 ?_
    cases h
    exact z_iret C hr hlk dX6_count_59
  rw [if_neg hs2] at h
  by_cases hs3 : p0 = 3
  · rw [if_pos hs3] at h
    refine z_swIn (α := Unit) C 60 3 dX6_count_1 (by rw [hs3]; decide) (by decide) (by decide) rfl (by decide) ?_
    refine z_aload_n C 0 rfl dX6_count_60 ?_
    refine z_get C iRX6 0 gC_0 rfl 2 (by decide) fl_RX6_26 rfl dX6_count_61 ?_
    obtain ⟨q4, hq4, h⟩ := bd_spec h
    refine z_callV1 C [] [] (v := (.int q4)) rfl (c_X3_number l D A a x σ  q4 hq4) cd_yX3_number in_RX3 ml_RX6_200 im_yX3_number sl_yX3_number gC_3 rfl hd_yX3_number ⟨⟨Nat.le_of_ble_eq_true rfl, Nat.le_of_ble_eq_true rfl⟩, rfl, rfl⟩ rfl (Nat.le_of_ble_eq_true rfl) ⟨Nat.zero_le _, Nat.zero_le _⟩ dX6_count_64 ?_
    cases h
    exact z_iret C hr hlk dX6_count_67
  rw [if_neg hs3] at h
  by_cases hs4 : p0 = 4
  · rw [if_pos hs4] at h
    refine z_swIn (α := Unit) C 68 4 dX6_count_1 (by rw [hs4]; decide) (by decide) (by decide) rfl (by decide) ?_
    refine z_aload_n C 0 rfl dX6_count_68 ?_
    obtain ⟨q5, hq5, h⟩ := bd_spec h
    refine z_callV1 C [] [] (v := (.int q5)) rfl (c_X6_falseSayings l D A a x σ  q5 hq5) cd_yX6_falseSayings in_RX6 ml_RX6_201 im_yX6_falseSayings sl_yX6_falseSayings gC_0 rfl hd_yX6_falseSayings ⟨⟨Nat.le_of_ble_eq_true rfl, Nat.le_of_ble_eq_true rfl⟩, rfl, rfl⟩ rfl (Nat.le_of_ble_eq_true rfl) ⟨Nat.zero_le _, Nat.zero_le _⟩ dX6_count_69 ?_
    cases h
    exact z_iret C hr hlk dX6_count_72
  rw [if_neg hs4] at h
  refine z_swOut C 73 dX6_count_1 (zx_out5 hs0 hs1 hs2 hs3 hs4) (by decide) ?_
  refine z_bipush C (v := (-2)) dX6_count_73 (by decide) ?_
  cases h
  exact z_iret C hr hlk dX6_count_75
