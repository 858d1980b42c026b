theorem dX4_ways_0 : decode cX4_ways 0 = .ok (.aload_n 0, 1) := by decide +kernel
theorem dX4_ways_1 : decode cX4_ways 1 = .ok (.getfield 12, 3) := by decide +kernel
theorem dX4_ways_4 : decode cX4_ways 4 = .ok (.areturn, 1) := by decide +kernel
theorem hd_yX4_ways : (yX4_ways).cls ≠ "java/lang/invoke/MethodHandle" ∧ (yX4_ways).cls ≠ "java/lang/invoke/VarHandle" ∧ (parseMethodDescriptor (yX4_ways).desc).map (fun d => d.parameters.length) = some 0 := ⟨by decide, by decide, by decide +kernel⟩
def f_X4_ways  (σ : ZS) : Option Unit :=
  some ()
set_option maxHeartbeats 4000000 in
set_option maxRecDepth 100000 in
theorem c_X4_ways (l : Launch) (D : va_G) (A : Nat → Prop) (a : Nat → Nat) (x : ClassId × ClassId × ClassId) (σ : ZS)  (r : Unit) (h : f_X4_ways  σ = some r) : zM l yX4_ways w_yX4_ways ({ frames := 0, cells := 0, slots := 0, locals := 0 } : Room) D A (tyz x) [.ref (a 4)] (wC a x σ) (some (.ref (a 12))) (wC a x σ) := by
  refine z_start [.ref (a 4)] (lv := [(0, .ref (a 4))]) (by decide) (Nat.le_of_ble_eq_true rfl) rfl ?_
  intro p e s m args below meth c C hr hlk
  refine z_aload_n C 0 rfl dX4_ways_0 ?_
  refine z_get C iRX4 4 gC_4 rfl 3 (by decide) fl_RX4_12 rfl dX4_ways_1 ?_
  exact z_aret C hr hlk dX4_ways_4
theorem dX4_changing_0 : decode cX4_changing 0 = .ok (.aload_n 0, 1) := by decide +kernel
theorem dX4_changing_1 : decode cX4_changing 1 = .ok (.getfield 33, 3) := by decide +kernel
theorem dX4_changing_4 : decode cX4_changing 4 = .ok (.ireturn, 1) := by decide +kernel
theorem hd_yX4_changing : (yX4_changing).cls ≠ "java/lang/invoke/MethodHandle" ∧ (yX4_changing).cls ≠ "java/lang/invoke/VarHandle" ∧ (parseMethodDescriptor (yX4_changing).desc).map (fun d => d.parameters.length) = some 0 := ⟨by decide, by decide, by decide +kernel⟩
def f_X4_changing  (σ : ZS) : Option Int32 :=
  some (σ.1 6)
set_option maxHeartbeats 4000000 in
set_option maxRecDepth 100000 in
theorem c_X4_changing (l : Launch) (D : va_G) (A : Nat → Prop) (a : Nat → Nat) (x : ClassId × ClassId × ClassId) (σ : ZS)  (r : Int32) (h : f_X4_changing  σ = some r) : zM l yX4_changing w_yX4_changing ({ frames := 0, cells := 0, slots := 0, locals := 0 } : Room) D A (tyz x) [.ref (a 4)] (wC a x σ) (some (.int r)) (wC a x σ) := by
  refine z_start [.ref (a 4)] (lv := [(0, .ref (a 4))]) (by decide) (Nat.le_of_ble_eq_true rfl) rfl ?_
  intro p e s m args below meth c C hr hlk
  unfold f_X4_changing at h
  refine z_aload_n C 0 rfl dX4_changing_0 ?_
  refine z_get C iRX4 4 gC_4 rfl 5 (by decide) fl_RX4_33 rfl dX4_changing_1 ?_
  cases h
  exact z_iret C hr hlk dX4_changing_4
theorem dX4_openHouses_0 : decode cX4_openHouses 0 = .ok (.iload_n 1, 1) := by decide +kernel
theorem dX4_openHouses_1 : decode cX4_openHouses 1 = .ok (.aload_n 0, 1) := by decide +kernel
theorem dX4_openHouses_2 : decode cX4_openHouses 2 = .ok (.getfield 21, 3) := by decide +kernel
theorem dX4_openHouses_5 : decode cX4_openHouses 5 = .ok (.invokevirtual 81, 3) := by decide +kernel
theorem dX4_openHouses_8 : decode cX4_openHouses 8 = .ok (.ior, 1) := by decide +kernel
theorem dX4_openHouses_9 : decode cX4_openHouses 9 = .ok (.istore_n 2, 1) := by decide +kernel
theorem dX4_openHouses_10 : decode cX4_openHouses 10 = .ok (.iconst 0, 1) := by decide +kernel
theorem dX4_openHouses_11 : decode cX4_openHouses 11 = .ok (.istore_n 3, 1) := by decide +kernel
theorem dX4_openHouses_12 : decode cX4_openHouses 12 = .ok (.iload_n 3, 1) := by decide +kernel
theorem dX4_openHouses_13 : decode cX4_openHouses 13 = .ok (.aload_n 0, 1) := by decide +kernel
theorem dX4_openHouses_14 : decode cX4_openHouses 14 = .ok (.getfield 21, 3) := by decide +kernel
theorem dX4_openHouses_17 : decode cX4_openHouses 17 = .ok (.invokevirtual 63, 3) := by decide +kernel
theorem dX4_openHouses_20 : decode cX4_openHouses 20 = .ok (.if_icmp .ge 37, 3) := by decide +kernel
theorem dX4_openHouses_23 : decode cX4_openHouses 23 = .ok (.aload_n 0, 1) := by decide +kernel
theorem dX4_openHouses_24 : decode cX4_openHouses 24 = .ok (.getfield 21, 3) := by decide +kernel
theorem dX4_openHouses_27 : decode cX4_openHouses 27 = .ok (.iload_n 3, 1) := by decide +kernel
theorem dX4_openHouses_28 : decode cX4_openHouses 28 = .ok (.aload_n 0, 1) := by decide +kernel
theorem dX4_openHouses_29 : decode cX4_openHouses 29 = .ok (.getfield 18, 3) := by decide +kernel
theorem dX4_openHouses_32 : decode cX4_openHouses 32 = .ok (.iload_n 3, 1) := by decide +kernel
theorem dX4_openHouses_33 : decode cX4_openHouses 33 = .ok (.iconst 1, 1) := by decide +kernel
theorem dX4_openHouses_34 : decode cX4_openHouses 34 = .ok (.invokevirtual 84, 3) := by decide +kernel
theorem dX4_openHouses_37 : decode cX4_openHouses 37 = .ok (.invokevirtual 88, 3) := by decide +kernel
theorem dX4_openHouses_40 : decode cX4_openHouses 40 = .ok (.iconst 1, 1) := by decide +kernel
theorem dX4_openHouses_41 : decode cX4_openHouses 41 = .ok (.if_icmp .ne 10, 3) := by decide +kernel
theorem dX4_openHouses_44 : decode cX4_openHouses 44 = .ok (.iload_n 2, 1) := by decide +kernel
theorem dX4_openHouses_45 : decode cX4_openHouses 45 = .ok (.iload_n 3, 1) := by decide +kernel
theorem dX4_openHouses_46 : decode cX4_openHouses 46 = .ok (.invokestatic 91, 3) := by decide +kernel
theorem dX4_openHouses_49 : decode cX4_openHouses 49 = .ok (.ior, 1) := by decide +kernel
theorem dX4_openHouses_50 : decode cX4_openHouses 50 = .ok (.istore_n 2, 1) := by decide +kernel
theorem dX4_openHouses_51 : decode cX4_openHouses 51 = .ok (.iinc 3 1, 3) := by decide +kernel
theorem dX4_openHouses_54 : decode cX4_openHouses 54 = .ok (.goto (-42), 3) := by decide +kernel
theorem dX4_openHouses_57 : decode cX4_openHouses 57 = .ok (.iload_n 2, 1) := by decide +kernel
theorem dX4_openHouses_58 : decode cX4_openHouses 58 = .ok (.ireturn, 1) := by decide +kernel
theorem hd_yX4_openHouses : (yX4_openHouses).cls ≠ "java/lang/invoke/MethodHandle" ∧ (yX4_openHouses).cls ≠ "java/lang/invoke/VarHandle" ∧ (parseMethodDescriptor (yX4_openHouses).desc).map (fun d => d.parameters.length) = some 1 := ⟨by decide, by decide, by decide +kernel⟩
def f_X4_openHouses_B12 (σ : ZS) (t1 : (Int32 × Int32)) : Option ((Int32 × Int32) ⊕ Int32) :=
  Option.bind (f_X1_number σ) (fun q2 => (if q2 ≤ t1.2 then wi (some t1.1) else Option.bind (f_X5_at_b t1.2 1 σ) (fun q3 => Option.bind (f_X1_kind t1.2 q3 σ) (fun q4 => (if q4 = 1 then Option.bind (f_X6_bit t1.2) (fun q5 => some (.inl (t1.1 ||| q5, t1.2 + 1))) else some (.inl (t1.1, t1.2 + 1)))))))
def f_X4_openHouses (p0 : Int32) (σ : ZS) : Option Int32 :=
  Option.bind (f_X1_leaking σ) (fun q1 => lp zF (f_X4_openHouses_B12 σ) (p0 ||| q1, 0))
set_option maxHeartbeats 4000000 in
set_option maxRecDepth 100000 in
theorem c_X4_openHouses (l : Launch) (D : va_G) (A : Nat → Prop) (a : Nat → Nat) (x : ClassId × ClassId × ClassId) (σ : ZS) (p0 : Int32) (r : Int32) (h : f_X4_openHouses p0 σ = some r) : zM l yX4_openHouses w_yX4_openHouses ({ frames := 1, cells := 0, slots := 0, locals := 23 } : Room) D A (tyz x) [.ref (a 4), .int p0] (wC a x σ) (some (.int r)) (wC a x σ) := by
  refine z_start [.ref (a 4), .int p0] (lv := [(0, .ref (a 4)), (1, .int p0)]) (by decide) (Nat.le_of_ble_eq_true rfl) rfl ?_
  intro p e s m args below meth c C hr hlk
  unfold f_X4_openHouses at h
  refine z_iload_n C 1 rfl dX4_openHouses_0 ?_
  refine z_aload_n C 0 rfl dX4_openHouses_1 ?_
  refine z_get C iRX4 4 gC_4 rfl 0 (by decide) fl_RX4_21 rfl dX4_openHouses_2 ?_
  obtain ⟨q1, hq1, h⟩ := bd_spec h
  refine z_callV1 C [] [.int p0] (v := (.int q1)) rfl (c_X1_leaking l D A a x σ  q1 hq1) cd_yX1_leaking in_RX1 ml_RX4_81 im_yX1_leaking sl_yX1_leaking gC_1 rfl hd_yX1_leaking ⟨⟨Nat.le_of_ble_eq_true rfl, Nat.le_of_ble_eq_true rfl⟩, rfl, rfl⟩ rfl (Nat.le_of_ble_eq_true rfl) ⟨Nat.zero_le _, Nat.zero_le _⟩ dX4_openHouses_5 ?_
  refine z_ior C dX4_openHouses_8 ?_
  refine z_istore_n C [(2, .int (p0 ||| q1)), (0, .ref (a 4)), (1, .int p0)] rfl (by decide) rfl dX4_openHouses_9 ?_
  refine z_iconst C (v := 0) dX4_openHouses_10 (by decide) ?_
  refine z_istore_n C [(3, .int 0), (2, .int (p0 ||| q1)), (0, .ref (a 4)), (1, .int p0)] rfl (by decide) rfl dX4_openHouses_11 ?_
  refine z_sub C [2, 1, 0] (lv' := [(0, .ref (a 4)), (2, .int (p0 ||| q1)), (3, .int 0)]) rfl ?_
  have L12 : ∀ (n : Nat) (t1 : (Int32 × Int32)), lp n (f_X4_openHouses_B12 σ) t1 = some r → zV p l e ({ frames := 1, cells := 0, slots := 0, locals := 23 } : Room) s m args below meth c 0 0 (MQ below (zQ D A (some (.int r)) (wC a x σ)) args s 0 0 A) D A 4 (wC a x σ) 12 [(0, .ref (a 4)), (2, .int t1.1), (3, .int t1.2)] [] := by
    intro n1
    induction n1 with
    | zero => exact fun _ h => (lp_zero h).elim
    | succ n1 ih1 =>
      intro t1 h
      obtain ⟨u1, h, hk1⟩ := lp_succ h
      unfold f_X4_openHouses_B12 at h
      refine z_iload_n C 2 rfl dX4_openHouses_12 ?_
      refine z_aload_n C 0 rfl dX4_openHouses_13 ?_
      refine z_get C iRX4 4 gC_4 rfl 0 (by decide) fl_RX4_21 rfl dX4_openHouses_14 ?_
      obtain ⟨q2, hq2, h⟩ := bd_spec h
      refine z_callV1 C [] [.int t1.2] (v := (.int q2)) rfl (c_X1_number l D A a x σ  q2 hq2) cd_yX1_number in_RX1 ml_RX4_63 im_yX1_number sl_yX1_number gC_1 rfl hd_yX1_number ⟨⟨Nat.le_of_ble_eq_true rfl, Nat.le_of_ble_eq_true rfl⟩, rfl, rfl⟩ rfl (Nat.le_of_ble_eq_true rfl) ⟨Nat.zero_le _, Nat.zero_le _⟩ dX4_openHouses_17 ?_
      refine z_icmp_ge C 57 (by decide) dX4_openHouses_20 h (fun h => ?_) (fun h => ?_)
      · refine z_iload_n C 1 rfl dX4_openHouses_57 ?_
        have h := unwi h hk1
        cases h
        exact z_iret C hr hlk dX4_openHouses_58
      · refine z_aload_n C 0 rfl dX4_openHouses_23 ?_
        refine z_get C iRX4 4 gC_4 rfl 0 (by decide) fl_RX4_21 rfl dX4_openHouses_24 ?_
        refine z_iload_n C 2 rfl dX4_openHouses_27 ?_
        refine z_aload_n C 0 rfl dX4_openHouses_28 ?_
        refine z_get C iRX4 4 gC_4 rfl 4 (by decide) fl_RX4_18 rfl dX4_openHouses_29 ?_
        refine z_iload_n C 2 rfl dX4_openHouses_32 ?_
        refine z_iconst C (v := 1) dX4_openHouses_33 (by decide) ?_
        obtain ⟨q3, hq3, h⟩ := bd_spec h
        refine z_callV1 C [.int t1.2, .int 1] [.int t1.2, .ref (a 1)] (v := (.int q3)) rfl (c_X5_at_b l D A a x σ t1.2 1 q3 hq3) cd_yX5_at in_RX5 ml_RX4_84 im_yX5_at sl_yX5_at gC_13 rfl hd_yX5_at ⟨⟨Nat.le_of_ble_eq_true rfl, Nat.le_of_ble_eq_true rfl⟩, rfl, rfl⟩ rfl (Nat.le_of_ble_eq_true rfl) ⟨Nat.zero_le _, Nat.zero_le _⟩ dX4_openHouses_34 ?_
        obtain ⟨q4, hq4, h⟩ := bd_spec h
        refine z_callV1 C [.int t1.2, .int q3] [] (v := (.int q4)) rfl (c_X1_kind l D A a x σ t1.2 q3 q4 hq4) cd_yX1_kind in_RX1 ml_RX4_88 im_yX1_kind sl_yX1_kind gC_1 rfl hd_yX1_kind ⟨⟨Nat.le_of_ble_eq_true rfl, Nat.le_of_ble_eq_true rfl⟩, rfl, rfl⟩ rfl (Nat.le_of_ble_eq_true rfl) ⟨Nat.zero_le _, Nat.zero_le _⟩ dX4_openHouses_37 ?_
        refine z_iconst C (v := 1) dX4_openHouses_40 (by decide) ?_
        refine z_icmp_ne C 51 (by decide) dX4_openHouses_41 h (fun h => ?_) (fun h => ?_)
        · refine z_iinc C (v := t1.2 + 1) [(3, .int (t1.2 + 1)), (0, .ref (a 4)), (2, .int t1.1)] 2 rfl rfl (by decide) rfl dX4_openHouses_51 ?_
          refine z_goto C 12 (by decide) dX4_openHouses_54 ?_
          refine z_sub C [1, 2, 0] (lv' := [(0, .ref (a 4)), (2, .int t1.1), (3, .int (t1.2 + 1))]) rfl ?_
          exact ih1 _ (uninl h hk1)
        · refine z_iload_n C 1 rfl dX4_openHouses_44 ?_
          refine z_iload_n C 2 rfl dX4_openHouses_45 ?_
          obtain ⟨q5, hq5, h⟩ := bd_spec h
          refine z_callSN1 C [.int t1.2] [.int t1.1] (v := .int q5) 10 rfl (c_X6_bit l D A (tyz x) (wC a x σ) t1.2 q5 hq5) cd_yX6_bit in_RX6 rfl sm_yX6_bit hd_yX6_bit ⟨⟨Nat.le_of_ble_eq_true rfl, Nat.le_of_ble_eq_true rfl⟩, rfl, rfl⟩ rfl (Nat.le_of_ble_eq_true rfl) ⟨Nat.zero_le _, Nat.zero_le _⟩ dX4_openHouses_46 ?_
          refine z_ior C dX4_openHouses_49 ?_
          refine z_istore_n C [(2, .int (t1.1 ||| q5)), (0, .ref (a 4)), (3, .int t1.2)] rfl (by decide) rfl dX4_openHouses_50 ?_
          refine z_iinc C (v := t1.2 + 1) [(3, .int (t1.2 + 1)), (2, .int (t1.1 ||| q5)), (0, .ref (a 4))] 2 rfl rfl (by decide) rfl dX4_openHouses_51 ?_
          refine z_goto C 12 (by decide) dX4_openHouses_54 ?_
          refine z_sub C [2, 1, 0] (lv' := [(0, .ref (a 4)), (2, .int (t1.1 ||| q5)), (3, .int (t1.2 + 1))]) rfl ?_
          exact ih1 _ (uninl h hk1)
  exact L12 _ _ h
theorem dX4_bestFor_0 : decode cX4_bestFor 0 = .ok (.iconst (-1), 1) := by decide +kernel
theorem dX4_bestFor_1 : decode cX4_bestFor 1 = .ok (.istore 4, 2) := by decide +kernel
theorem dX4_bestFor_3 : decode cX4_bestFor 3 = .ok (.iconst 0, 1) := by decide +kernel
theorem dX4_bestFor_4 : decode cX4_bestFor 4 = .ok (.istore 5, 2) := by decide +kernel
theorem dX4_bestFor_6 : decode cX4_bestFor 6 = .ok (.iconst 0, 1) := by decide +kernel
theorem dX4_bestFor_7 : decode cX4_bestFor 7 = .ok (.istore 6, 2) := by decide +kernel
theorem dX4_bestFor_9 : decode cX4_bestFor 9 = .ok (.iload 6, 2) := by decide +kernel
theorem dX4_bestFor_11 : decode cX4_bestFor 11 = .ok (.aload_n 0, 1) := by decide +kernel
theorem dX4_bestFor_12 : decode cX4_bestFor 12 = .ok (.getfield 21, 3) := by decide +kernel
theorem dX4_bestFor_15 : decode cX4_bestFor 15 = .ok (.invokevirtual 63, 3) := by decide +kernel
theorem dX4_bestFor_18 : decode cX4_bestFor 18 = .ok (.if_icmp .ge 146, 3) := by decide +kernel
theorem dX4_bestFor_21 : decode cX4_bestFor 21 = .ok (.aload_n 0, 1) := by decide +kernel
theorem dX4_bestFor_22 : decode cX4_bestFor 22 = .ok (.getfield 21, 3) := by decide +kernel
theorem dX4_bestFor_25 : decode cX4_bestFor 25 = .ok (.iload_n 1, 1) := by decide +kernel
theorem dX4_bestFor_26 : decode cX4_bestFor 26 = .ok (.iload 6, 2) := by decide +kernel
theorem dX4_bestFor_28 : decode cX4_bestFor 28 = .ok (.invokevirtual 88, 3) := by decide +kernel
theorem dX4_bestFor_31 : decode cX4_bestFor 31 = .ok (.istore 7, 2) := by decide +kernel
theorem dX4_bestFor_33 : decode cX4_bestFor 33 = .ok (.aload_n 0, 1) := by decide +kernel
theorem dX4_bestFor_34 : decode cX4_bestFor 34 = .ok (.getfield 18, 3) := by decide +kernel
theorem dX4_bestFor_37 : decode cX4_bestFor 37 = .ok (.iload 6, 2) := by decide +kernel
theorem dX4_bestFor_39 : decode cX4_bestFor 39 = .ok (.invokevirtual 94, 3) := by decide +kernel
theorem dX4_bestFor_42 : decode cX4_bestFor 42 = .ok (.istore 8, 2) := by decide +kernel
theorem dX4_bestFor_44 : decode cX4_bestFor 44 = .ok (.iload 7, 2) := by decide +kernel
theorem dX4_bestFor_46 : decode cX4_bestFor 46 = .ok (.ifCond .eq 112, 3) := by decide +kernel
theorem dX4_bestFor_49 : decode cX4_bestFor 49 = .ok (.iload 8, 2) := by decide +kernel
theorem dX4_bestFor_51 : decode cX4_bestFor 51 = .ok (.ifCond .eq 107, 3) := by decide +kernel
theorem dX4_bestFor_54 : decode cX4_bestFor 54 = .ok (.aload_n 0, 1) := by decide +kernel
theorem dX4_bestFor_55 : decode cX4_bestFor 55 = .ok (.getfield 18, 3) := by decide +kernel
theorem dX4_bestFor_58 : decode cX4_bestFor 58 = .ok (.iload 6, 2) := by decide +kernel
theorem dX4_bestFor_60 : decode cX4_bestFor 60 = .ok (.iload_n 1, 1) := by decide +kernel
theorem dX4_bestFor_61 : decode cX4_bestFor 61 = .ok (.invokevirtual 97, 3) := by decide +kernel
theorem dX4_bestFor_64 : decode cX4_bestFor 64 = .ok (.ifCond .eq 6, 3) := by decide +kernel
theorem dX4_bestFor_67 : decode cX4_bestFor 67 = .ok (.goto 91, 3) := by decide +kernel
theorem dX4_bestFor_70 : decode cX4_bestFor 70 = .ok (.iload 7, 2) := by decide +kernel
theorem dX4_bestFor_72 : decode cX4_bestFor 72 = .ok (.iconst 3, 1) := by decide +kernel
theorem dX4_bestFor_73 : decode cX4_bestFor 73 = .ok (.if_icmp .eq 12, 3) := by decide +kernel
theorem dX4_bestFor_76 : decode cX4_bestFor 76 = .ok (.iload_n 2, 1) := by decide +kernel
theorem dX4_bestFor_77 : decode cX4_bestFor 77 = .ok (.iload 6, 2) := by decide +kernel
theorem dX4_bestFor_79 : decode cX4_bestFor 79 = .ok (.invokestatic 69, 3) := by decide +kernel
theorem dX4_bestFor_82 : decode cX4_bestFor 82 = .ok (.ifCond .eq 7, 3) := by decide +kernel
theorem dX4_bestFor_85 : decode cX4_bestFor 85 = .ok (.iconst 1, 1) := by decide +kernel
theorem dX4_bestFor_86 : decode cX4_bestFor 86 = .ok (.goto 4, 3) := by decide +kernel
theorem dX4_bestFor_89 : decode cX4_bestFor 89 = .ok (.iconst 0, 1) := by decide +kernel
theorem dX4_bestFor_90 : decode cX4_bestFor 90 = .ok (.istore 9, 2) := by decide +kernel
theorem dX4_bestFor_92 : decode cX4_bestFor 92 = .ok (.iload_n 3, 1) := by decide +kernel
theorem dX4_bestFor_93 : decode cX4_bestFor 93 = .ok (.iconst (-1), 1) := by decide +kernel
theorem dX4_bestFor_94 : decode cX4_bestFor 94 = .ok (.if_icmp .eq 16, 3) := by decide +kernel
theorem dX4_bestFor_97 : decode cX4_bestFor 97 = .ok (.aload_n 0, 1) := by decide +kernel
theorem dX4_bestFor_98 : decode cX4_bestFor 98 = .ok (.getfield 18, 3) := by decide +kernel
theorem dX4_bestFor_101 : decode cX4_bestFor 101 = .ok (.iload 6, 2) := by decide +kernel
theorem dX4_bestFor_103 : decode cX4_bestFor 103 = .ok (.invokevirtual 100, 3) := by decide +kernel
theorem dX4_bestFor_106 : decode cX4_bestFor 106 = .ok (.iload_n 3, 1) := by decide +kernel
theorem dX4_bestFor_107 : decode cX4_bestFor 107 = .ok (.if_icmp .ne 7, 3) := by decide +kernel
theorem dX4_bestFor_110 : decode cX4_bestFor 110 = .ok (.iconst 1, 1) := by decide +kernel
theorem dX4_bestFor_111 : decode cX4_bestFor 111 = .ok (.goto 4, 3) := by decide +kernel
theorem dX4_bestFor_114 : decode cX4_bestFor 114 = .ok (.iconst 0, 1) := by decide +kernel
theorem dX4_bestFor_115 : decode cX4_bestFor 115 = .ok (.istore 10, 2) := by decide +kernel
theorem dX4_bestFor_117 : decode cX4_bestFor 117 = .ok (.bipush 16, 2) := by decide +kernel
theorem dX4_bestFor_119 : decode cX4_bestFor 119 = .ok (.iload 7, 2) := by decide +kernel
theorem dX4_bestFor_121 : decode cX4_bestFor 121 = .ok (.imul, 1) := by decide +kernel
theorem dX4_bestFor_122 : decode cX4_bestFor 122 = .ok (.iload 8, 2) := by decide +kernel
theorem dX4_bestFor_124 : decode cX4_bestFor 124 = .ok (.iadd, 1) := by decide +kernel
theorem dX4_bestFor_125 : decode cX4_bestFor 125 = .ok (.istore 11, 2) := by decide +kernel
theorem dX4_bestFor_127 : decode cX4_bestFor 127 = .ok (.iload 9, 2) := by decide +kernel
theorem dX4_bestFor_129 : decode cX4_bestFor 129 = .ok (.ifCond .eq 29, 3) := by decide +kernel
theorem dX4_bestFor_132 : decode cX4_bestFor 132 = .ok (.iload 10, 2) := by decide +kernel
theorem dX4_bestFor_134 : decode cX4_bestFor 134 = .ok (.ifCond .eq 24, 3) := by decide +kernel
theorem dX4_bestFor_137 : decode cX4_bestFor 137 = .ok (.iload 4, 2) := by decide +kernel
theorem dX4_bestFor_139 : decode cX4_bestFor 139 = .ok (.iconst (-1), 1) := by decide +kernel
theorem dX4_bestFor_140 : decode cX4_bestFor 140 = .ok (.if_icmp .eq 10, 3) := by decide +kernel
theorem dX4_bestFor_143 : decode cX4_bestFor 143 = .ok (.iload 11, 2) := by decide +kernel
theorem dX4_bestFor_145 : decode cX4_bestFor 145 = .ok (.iload 5, 2) := by decide +kernel
theorem dX4_bestFor_147 : decode cX4_bestFor 147 = .ok (.if_icmp .ge 11, 3) := by decide +kernel
theorem dX4_bestFor_150 : decode cX4_bestFor 150 = .ok (.iload 6, 2) := by decide +kernel
theorem dX4_bestFor_152 : decode cX4_bestFor 152 = .ok (.istore 4, 2) := by decide +kernel
theorem dX4_bestFor_154 : decode cX4_bestFor 154 = .ok (.iload 11, 2) := by decide +kernel
theorem dX4_bestFor_156 : decode cX4_bestFor 156 = .ok (.istore 5, 2) := by decide +kernel
theorem dX4_bestFor_158 : decode cX4_bestFor 158 = .ok (.iinc 6 1, 3) := by decide +kernel
theorem dX4_bestFor_161 : decode cX4_bestFor 161 = .ok (.goto (-152), 3) := by decide +kernel
theorem dX4_bestFor_164 : decode cX4_bestFor 164 = .ok (.iload 4, 2) := by decide +kernel
theorem dX4_bestFor_166 : decode cX4_bestFor 166 = .ok (.ireturn, 1) := by decide +kernel
theorem hd_yX4_bestFor : (yX4_bestFor).cls ≠ "java/lang/invoke/MethodHandle" ∧ (yX4_bestFor).cls ≠ "java/lang/invoke/VarHandle" ∧ (parseMethodDescriptor (yX4_bestFor).desc).map (fun d => d.parameters.length) = some 3 := ⟨by decide, by decide, by decide +kernel⟩
def f_X4_bestFor_J150 (l1 : Int32) (l2 : Int32) (l3 : Int32) (l6 : Int32) (l11 : Int32) (σ : ZS) : Option ((Int32 × Int32 × Int32) ⊕ Int32) :=
  some (.inl (l6, l11, l6 + 1))
def f_X4_bestFor_J115 (l1 : Int32) (l2 : Int32) (l3 : Int32) (l4 : Int32) (l5 : Int32) (l6 : Int32) (l7 : Int32) (l8 : Int32) (l9 : Int32) (s0 : Int32) (σ : ZS) : Option ((Int32 × Int32 × Int32) ⊕ Int32) :=
  (if l9 = 0 then some (.inl (l4, l5, l6 + 1)) else (if s0 = 0 then some (.inl (l4, l5, l6 + 1)) else (if l4 = (-1) then f_X4_bestFor_J150 l1 l2 l3 l6 (((16 : Int32) * l7) + l8) σ else (if l5 ≤ (((16 : Int32) * l7) + l8) then some (.inl (l4, l5, l6 + 1)) else f_X4_bestFor_J150 l1 l2 l3 l6 (((16 : Int32) * l7) + l8) σ))))
def f_X4_bestFor_J110 (l1 : Int32) (l2 : Int32) (l3 : Int32) (l4 : Int32) (l5 : Int32) (l6 : Int32) (l7 : Int32) (l8 : Int32) (l9 : Int32) (σ : ZS) : Option ((Int32 × Int32 × Int32) ⊕ Int32) :=
  f_X4_bestFor_J115 l1 l2 l3 l4 l5 l6 l7 l8 l9 1 σ
def f_X4_bestFor_J90 (l1 : Int32) (l2 : Int32) (l3 : Int32) (l4 : Int32) (l5 : Int32) (l6 : Int32) (l7 : Int32) (l8 : Int32) (s0 : Int32) (σ : ZS) : Option ((Int32 × Int32 × Int32) ⊕ Int32) :=
  (if l3 = (-1) then f_X4_bestFor_J110 l1 l2 l3 l4 l5 l6 l7 l8 s0 σ else Option.bind (f_X5_last_b l6 σ) (fun q6 => (if q6 = l3 then f_X4_bestFor_J110 l1 l2 l3 l4 l5 l6 l7 l8 s0 σ else f_X4_bestFor_J115 l1 l2 l3 l4 l5 l6 l7 l8 s0 0 σ)))
def f_X4_bestFor_J85 (l1 : Int32) (l2 : Int32) (l3 : Int32) (l4 : Int32) (l5 : Int32) (l6 : Int32) (l7 : Int32) (l8 : Int32) (σ : ZS) : Option ((Int32 × Int32 × Int32) ⊕ Int32) :=
  f_X4_bestFor_J90 l1 l2 l3 l4 l5 l6 l7 l8 1 σ
def f_X4_bestFor_B9 (l1 : Int32) (l2 : Int32) (l3 : Int32) (σ : ZS) (t1 : (Int32 × Int32 × Int32)) : Option ((Int32 × Int32 × Int32) ⊕ Int32) :=
  Option.bind (f_X1_number σ) (fun q1 => (if q1 ≤ t1.2.2 then wi (some t1.1) else Option.bind (f_X1_kind l1 t1.2.2 σ) (fun q2 => Option.bind (f_X5_length_b t1.2.2 σ) (fun q3 => (if q2 = 0 then some (.inl (t1.1, t1.2.1, t1.2.2 + 1)) else (if q3 = 0 then some (.inl (t1.1, t1.2.1, t1.2.2 + 1)) else Option.bind (f_X5_isOn_b t1.2.2 l1 σ) (fun q4 => (if q4 = 0 then (if q2 = 3 then f_X4_bestFor_J85 l1 l2 l3 t1.1 t1.2.1 t1.2.2 q2 q3 σ else Option.bind (f_X6_hasBit l2 t1.2.2) (fun q5 => (if q5 = 0 then f_X4_bestFor_J90 l1 l2 l3 t1.1 t1.2.1 t1.2.2 q2 q3 0 σ else f_X4_bestFor_J85 l1 l2 l3 t1.1 t1.2.1 t1.2.2 q2 q3 σ))) else some (.inl (t1.1, t1.2.1, t1.2.2 + 1))))))))))
def f_X4_bestFor (p0 : Int32) (p1 : Int32) (p2 : Int32) (σ : ZS) : Option Int32 :=
  lp zF (f_X4_bestFor_B9 p0 p1 p2 σ) ((-1), 0, 0)
set_option maxHeartbeats 4000000 in
set_option maxRecDepth 100000 in
theorem c_X4_bestFor (l : Launch) (D : va_G) (A : Nat → Prop) (a : Nat → Nat) (x : ClassId × ClassId × ClassId) (σ : ZS) (p0 : Int32) (p1 : Int32) (p2 : Int32) (r : Int32) (h : f_X4_bestFor p0 p1 p2 σ = some r) : zM l yX4_bestFor w_yX4_bestFor ({ frames := 1, cells := 0, slots := 0, locals := 23 } : Room) D A (tyz x) [.ref (a 4), .int p0, .int p1, .int p2] (wC a x σ) (some (.int r)) (wC a x σ) := by
  refine z_start [.ref (a 4), .int p0, .int p1, .int p2] (lv := [(0, .ref (a 4)), (1, .int p0), (2, .int p1), (3, .int p2)]) (by decide) (Nat.le_of_ble_eq_true rfl) rfl ?_
  intro p e s m args below meth c C hr hlk
  unfold f_X4_bestFor at h
  refine z_iconst C (v := (-1)) dX4_bestFor_0 (by decide) ?_
  refine z_istore C [(4, .int (-1)), (0, .ref (a 4)), (1, .int p0), (2, .int p1), (3, .int p2)] (by decide) rfl dX4_bestFor_1 ?_
  refine z_iconst C (v := 0) dX4_bestFor_3 (by decide) ?_
  refine z_istore C [(5, .int 0), (4, .int (-1)), (0, .ref (a 4)), (1, .int p0), (2, .int p1), (3, .int p2)] (by decide) rfl dX4_bestFor_4 ?_
  refine z_iconst C (v := 0) dX4_bestFor_6 (by decide) ?_
  refine z_istore C [(6, .int 0), (5, .int 0), (4, .int (-1)), (0, .ref (a 4)), (1, .int p0), (2, .int p1), (3, .int p2)] (by decide) rfl dX4_bestFor_7 ?_
  refine z_sub C [3, 4, 5, 6, 2, 1, 0] (lv' := [(0, .ref (a 4)), (1, .int p0), (2, .int p1), (3, .int p2), (4, .int (-1)), (5, .int 0), (6, .int 0)]) rfl ?_
  have L9 : ∀ (n : Nat) (t1 : (Int32 × Int32 × Int32)), lp n (f_X4_bestFor_B9 p0 p1 p2 σ) t1 = some r → zV p l e ({ frames := 1, cells := 0, slots := 0, locals := 23 } : Room) s m args below meth c 0 0 (MQ below (zQ D A (some (.int r)) (wC a x σ)) args s 0 0 A) D A 12 (wC a x σ) 9 [(0, .ref (a 4)), (1, .int p0), (2, .int p1), (3, .int p2), (4, .int t1.1), (5, .int t1.2.1), (6, .int t1.2.2)] [] := by
    intro n1
    induction n1 with
    | zero => exact fun _ h => (lp_zero h).elim
    | succ n1 ih1 =>
      intro t1 h
      obtain ⟨u1, h, hk1⟩ := lp_succ h
      have J150 : ∀ (l6_150 : Int32) (l11_150 : Int32), f_X4_bestFor_J150 p0 p1 p2 l6_150 l11_150 σ = some u1 → zV p l e ({ frames := 1, cells := 0, slots := 0, locals := 23 } : Room) s m args below meth c 0 0 (MQ below (zQ D A (some (.int r)) (wC a x σ)) args s 0 0 A) D A 12 (wC a x σ) 150 [(0, .ref (a 4)), (1, .int p0), (2, .int p1), (3, .int p2), (6, .int l6_150), (11, .int l11_150)] [] := by
        intro l6_150 l11_150 h
        unfold f_X4_bestFor_J150 at h
        refine z_iload C 4 rfl dX4_bestFor_150 ?_
        refine z_istore C [(4, .int l6_150), (0, .ref (a 4)), (1, .int p0), (2, .int p1), (3, .int p2), (6, .int l6_150), (11, .int l11_150)] (by decide) rfl dX4_bestFor_152 ?_
        refine z_iload C 6 rfl dX4_bestFor_154 ?_
        refine z_istore C [(5, .int l11_150), (4, .int l6_150), (0, .ref (a 4)), (1, .int p0), (2, .int p1), (3, .int p2), (6, .int l6_150), (11, .int l11_150)] (by decide) rfl dX4_bestFor_156 ?_
        refine z_iinc C (v := l6_150 + 1) [(6, .int (l6_150 + 1)), (5, .int l11_150), (4, .int l6_150), (0, .ref (a 4)), (1, .int p0), (2, .int p1), (3, .int p2), (11, .int l11_150)] 6 rfl rfl (by decide) rfl dX4_bestFor_158 ?_
        refine z_goto C 9 (by decide) dX4_bestFor_161 ?_
        refine z_sub C [3, 4, 5, 6, 2, 1, 0] (lv' := [(0, .ref (a 4)), (1, .int p0), (2, .int p1), (3, .int p2), (4, .int l6_150), (5, .int l11_150), (6, .int (l6_150 + 1))]) rfl ?_
        exact ih1 _ (uninl h hk1)
      have J115 : ∀ (l4_115 : Int32) (l5_115 : Int32) (l6_115 : Int32) (l7_115 : Int32) (l8_115 : Int32) (l9_115 : Int32) (s0_115 : Int32), f_X4_bestFor_J115 p0 p1 p2 l4_115 l5_115 l6_115 l7_115 l8_115 l9_115 s0_115 σ = some u1 → zV p l e ({ frames := 1, cells := 0, slots := 0, locals := 23 } : Room) s m args below meth c 0 0 (MQ below (zQ D A (some (.int r)) (wC a x σ)) args s 0 0 A) D A 12 (wC a x σ) 115 [(0, .ref (a 4)), (1, .int p0), (2, .int p1), (3, .int p2), (4, .int l4_115), (5, .int l5_115), (6, .int l6_115), (7, .int l7_115), (8, .int l8_115), (9, .int l9_115)] [.int s0_115] := by
        intro l4_115 l5_115 l6_115 l7_115 l8_115 l9_115 s0_115 h
        unfold f_X4_bestFor_J115 at h
        refine z_istore C [(10, .int s0_115), (0, .ref (a 4)), (1, .int p0), (2, .int p1), (3, .int p2), (4, .int l4_115), (5, .int l5_115), (6, .int l6_115), (7, .int l7_115), (8, .int l8_115), (9, .int l9_115)] (by decide) rfl dX4_bestFor_115 ?_
        refine z_bipush C (v := 16) dX4_bestFor_117 (by decide) ?_
        refine z_iload C 8 rfl dX4_bestFor_119 ?_
        refine z_imul C dX4_bestFor_121 ?_
        refine z_iload C 9 rfl dX4_bestFor_122 ?_
        refine z_iadd C dX4_bestFor_124 ?_
        refine z_istore C [(11, .int (((16 : Int32) * l7_115) + l8_115)), (10, .int s0_115), (0, .ref (a 4)), (1, .int p0), (2, .int p1), (3, .int p2), (4, .int l4_115), (5, .int l5_115), (6, .int l6_115), (7, .int l7_115), (8, .int l8_115), (9, .int l9_115)] (by decide) rfl dX4_bestFor_125 ?_
        refine z_iload C 11 rfl dX4_bestFor_127 ?_
        refine z_if_eq C 158 (by decide) dX4_bestFor_129 h (fun h => ?_) (fun h => ?_)
        · refine z_iinc C (v := l6_115 + 1) [(6, .int (l6_115 + 1)), (11, .int (((16 : Int32) * l7_115) + l8_115)), (10, .int s0_115), (0, .ref (a 4)), (1, .int p0), (2, .int p1), (3, .int p2), (4, .int l4_115), (5, .int l5_115), (7, .int l7_115), (8, .int l8_115), (9, .int l9_115)] 8 rfl rfl (by decide) rfl dX4_bestFor_158 ?_
          refine z_goto C 9 (by decide) dX4_bestFor_161 ?_
          refine z_sub C [3, 4, 5, 6, 7, 8, 0] (lv' := [(0, .ref (a 4)), (1, .int p0), (2, .int p1), (3, .int p2), (4, .int l4_115), (5, .int l5_115), (6, .int (l6_115 + 1))]) rfl ?_
          exact ih1 _ (uninl h hk1)
        · refine z_iload C 1 rfl dX4_bestFor_132 ?_
          refine z_if_eq C 158 (by decide) dX4_bestFor_134 h (fun h => ?_) (fun h => ?_)
          · refine z_iinc C (v := l6_115 + 1) [(6, .int (l6_115 + 1)), (11, .int (((16 : Int32) * l7_115) + l8_115)), (10, .int s0_115), (0, .ref (a 4)), (1, .int p0), (2, .int p1), (3, .int p2), (4, .int l4_115), (5, .int l5_115), (7, .int l7_115), (8, .int l8_115), (9, .int l9_115)] 8 rfl rfl (by decide) rfl dX4_bestFor_158 ?_
            refine z_goto C 9 (by decide) dX4_bestFor_161 ?_
            refine z_sub C [3, 4, 5, 6, 7, 8, 0] (lv' := [(0, .ref (a 4)), (1, .int p0), (2, .int p1), (3, .int p2), (4, .int l4_115), (5, .int l5_115), (6, .int (l6_115 + 1))]) rfl ?_
            exact ih1 _ (uninl h hk1)
          · refine z_iload C 6 rfl dX4_bestFor_137 ?_
            refine z_iconst C (v := (-1)) dX4_bestFor_139 (by decide) ?_
            refine z_icmp_eq C 150 (by decide) dX4_bestFor_140 h (fun h => ?_) (fun h => ?_)
            · refine z_sub C [2, 3, 4, 5, 8, 0] (lv' := [(0, .ref (a 4)), (1, .int p0), (2, .int p1), (3, .int p2), (6, .int l6_115), (11, .int (((16 : Int32) * l7_115) + l8_115))]) rfl ?_
              exact J150 _ _ h
            · refine z_iload C 0 rfl dX4_bestFor_143 ?_
              refine z_iload C 7 rfl dX4_bestFor_145 ?_
              refine z_icmp_ge C 158 (by decide) dX4_bestFor_147 h (fun h => ?_) (fun h => ?_)
              · refine z_iinc C (v := l6_115 + 1) [(6, .int (l6_115 + 1)), (11, .int (((16 : Int32) * l7_115) + l8_115)), (10, .int s0_115), (0, .ref (a 4)), (1, .int p0), (2, .int p1), (3, .int p2), (4, .int l4_115), (5, .int l5_115), (7, .int l7_115), (8, .int l8_115), (9, .int l9_115)] 8 rfl rfl (by decide) rfl dX4_bestFor_158 ?_
                refine z_goto C 9 (by decide) dX4_bestFor_161 ?_
                refine z_sub C [3, 4, 5, 6, 7, 8, 0] (lv' := [(0, .ref (a 4)), (1, .int p0), (2, .int p1), (3, .int p2), (4, .int l4_115), (5, .int l5_115), (6, .int (l6_115 + 1))]) rfl ?_
                exact ih1 _ (uninl h hk1)
              · refine z_sub C [2, 3, 4, 5, 8, 0] (lv' := [(0, .ref (a 4)), (1, .int p0), (2, .int p1), (3, .int p2), (6, .int l6_115), (11, .int (((16 : Int32) * l7_115) + l8_115))]) rfl ?_
                exact J150 _ _ h
      have J110 : ∀ (l4_110 : Int32) (l5_110 : Int32) (l6_110 : Int32) (l7_110 : Int32) (l8_110 : Int32) (l9_110 : Int32), f_X4_bestFor_J110 p0 p1 p2 l4_110 l5_110 l6_110 l7_110 l8_110 l9_110 σ = some u1 → zV p l e ({ frames := 1, cells := 0, slots := 0, locals := 23 } : Room) s m args below meth c 0 0 (MQ below (zQ D A (some (.int r)) (wC a x σ)) args s 0 0 A) D A 12 (wC a x σ) 110 [(0, .ref (a 4)), (1, .int p0), (2, .int p1), (3, .int p2), (4, .int l4_110), (5, .int l5_110), (6, .int l6_110), (7, .int l7_110), (8, .int l8_110), (9, .int l9_110)] [] := by
        intro l4_110 l5_110 l6_110 l7_110 l8_110 l9_110 h
        unfold f_X4_bestFor_J110 at h
        refine z_iconst C (v := 1) dX4_bestFor_110 (by decide) ?_
        refine z_goto C 115 (by decide) dX4_bestFor_111 ?_
        exact J115 _ _ _ _ _ _ _ h
      have J90 : ∀ (l4_90 : Int32) (l5_90 : Int32) (l6_90 : Int32) (l7_90 : Int32) (l8_90 : Int32) (s0_90 : Int32), f_X4_bestFor_J90 p0 p1 p2 l4_90 l5_90 l6_90 l7_90 l8_90 s0_90 σ = some u1 → zV p l e ({ frames := 1, cells := 0, slots := 0, locals := 23 } : Room) s m args below meth c 0 0 (MQ below (zQ D A (some (.int r)) (wC a x σ)) args s 0 0 A) D A 12 (wC a x σ) 90 [(0, .ref (a 4)), (1, .int p0), (2, .int p1), (3, .int p2), (4, .int l4_90), (5, .int l5_90), (6, .int l6_90), (7, .int l7_90), (8, .int l8_90)] [.int s0_90] := by
        intro l4_90 l5_90 l6_90 l7_90 l8_90 s0_90 h
        unfold f_X4_bestFor_J90 at h
        refine z_istore C [(9, .int s0_90), (0, .ref (a 4)), (1, .int p0), (2, .int p1), (3, .int p2), (4, .int l4_90), (5, .int l5_90), (6, .int l6_90), (7, .int l7_90), (8, .int l8_90)] (by decide) rfl dX4_bestFor_90 ?_
        refine z_iload_n C 4 rfl dX4_bestFor_92 ?_
        refine z_iconst C (v := (-1)) dX4_bestFor_93 (by decide) ?_
        refine z_icmp_eq C 110 (by decide) dX4_bestFor_94 h (fun h => ?_) (fun h => ?_)
        · refine z_sub C [1, 2, 3, 4, 5, 6, 7, 8, 9, 0] (lv' := [(0, .ref (a 4)), (1, .int p0), (2, .int p1), (3, .int p2), (4, .int l4_90), (5, .int l5_90), (6, .int l6_90), (7, .int l7_90), (8, .int l8_90), (9, .int s0_90)]) rfl ?_
          exact J110 _ _ _ _ _ _ h
        · refine z_aload_n C 1 rfl dX4_bestFor_97 ?_
          refine z_get C iRX4 4 gC_4 rfl 4 (by decide) fl_RX4_18 rfl dX4_bestFor_98 ?_
          refine z_iload C 7 rfl dX4_bestFor_101 ?_
          obtain ⟨q1, hq1, h⟩ := bd_spec h
          refine z_callV1 C [.int l6_90] [] (v := (.int q1)) rfl (c_X5_last_b l D A a x σ l6_90 q1 hq1) cd_yX5_last in_RX5 ml_RX4_100 im_yX5_last sl_yX5_last gC_13 rfl hd_yX5_last ⟨⟨Nat.le_of_ble_eq_true rfl, Nat.le_of_ble_eq_true rfl⟩, rfl, rfl⟩ rfl (Nat.le_of_ble_eq_true rfl) ⟨Nat.zero_le _, Nat.zero_le _⟩ dX4_bestFor_103 ?_
          refine z_iload_n C 4 rfl dX4_bestFor_106 ?_
          refine z_icmp_ne C 114 (by decide) dX4_bestFor_107 h (fun h => ?_) (fun h => ?_)
          · refine z_iconst C (v := 0) dX4_bestFor_114 (by decide) ?_
            refine z_sub C [1, 2, 3, 4, 5, 6, 7, 8, 9, 0] (lv' := [(0, .ref (a 4)), (1, .int p0), (2, .int p1), (3, .int p2), (4, .int l4_90), (5, .int l5_90), (6, .int l6_90), (7, .int l7_90), (8, .int l8_90), (9, .int s0_90)]) rfl ?_
            exact J115 _ _ _ _ _ _ _ h
          · refine z_sub C [1, 2, 3, 4, 5, 6, 7, 8, 9, 0] (lv' := [(0, .ref (a 4)), (1, .int p0), (2, .int p1), (3, .int p2), (4, .int l4_90), (5, .int l5_90), (6, .int l6_90), (7, .int l7_90), (8, .int l8_90), (9, .int s0_90)]) rfl ?_
            exact J110 _ _ _ _ _ _ h
      have J85 : ∀ (l4_85 : Int32) (l5_85 : Int32) (l6_85 : Int32) (l7_85 : Int32) (l8_85 : Int32), f_X4_bestFor_J85 p0 p1 p2 l4_85 l5_85 l6_85 l7_85 l8_85 σ = some u1 → zV p l e ({ frames := 1, cells := 0, slots := 0, locals := 23 } : Room) s m args below meth c 0 0 (MQ below (zQ D A (some (.int r)) (wC a x σ)) args s 0 0 A) D A 12 (wC a x σ) 85 [(0, .ref (a 4)), (1, .int p0), (2, .int p1), (3, .int p2), (4, .int l4_85), (5, .int l5_85), (6, .int l6_85), (7, .int l7_85), (8, .int l8_85)] [] := by
        intro l4_85 l5_85 l6_85 l7_85 l8_85 h
        unfold f_X4_bestFor_J85 at h
        refine z_iconst C (v := 1) dX4_bestFor_85 (by decide) ?_
        refine z_goto C 90 (by decide) dX4_bestFor_86 ?_
        exact J90 _ _ _ _ _ _ h
      unfold f_X4_bestFor_B9 at h
      refine z_iload C 6 rfl dX4_bestFor_9 ?_
      refine z_aload_n C 0 rfl dX4_bestFor_11 ?_
      refine z_get C iRX4 4 gC_4 rfl 0 (by decide) fl_RX4_21 rfl dX4_bestFor_12 ?_
      obtain ⟨q2, hq2, h⟩ := bd_spec h
      refine z_callV1 C [] [.int t1.2.2] (v := (.int q2)) rfl (c_X1_number l D A a x σ  q2 hq2) cd_yX1_number in_RX1 ml_RX4_63 im_yX1_number sl_yX1_number gC_1 rfl hd_yX1_number ⟨⟨Nat.le_of_ble_eq_true rfl, Nat.le_of_ble_eq_true rfl⟩, rfl, rfl⟩ rfl (Nat.le_of_ble_eq_true rfl) ⟨Nat.zero_le _, Nat.zero_le _⟩ dX4_bestFor_15 ?_
      refine z_icmp_ge C 164 (by decide) dX4_bestFor_18 h (fun h => ?_) (fun h => ?_)
      · refine z_iload C 4 rfl dX4_bestFor_164 ?_
        have h := unwi h hk1
        cases h
        exact z_iret C hr hlk dX4_bestFor_166
      · refine z_aload_n C 0 rfl dX4_bestFor_21 ?_
        refine z_get C iRX4 4 gC_4 rfl 0 (by decide) fl_RX4_21 rfl dX4_bestFor_22 ?_
        refine z_iload_n C 1 rfl dX4_bestFor_25 ?_
        refine z_iload C 6 rfl dX4_bestFor_26 ?_
        obtain ⟨q3, hq3, h⟩ := bd_spec h
        refine z_callV1 C [.int p0, .int t1.2.2] [] (v := (.int q3)) rfl (c_X1_kind l D A a x σ p0 t1.2.2 q3 hq3) cd_yX1_kind in_RX1 ml_RX4_88 im_yX1_kind sl_yX1_kind gC_1 rfl hd_yX1_kind ⟨⟨Nat.le_of_ble_eq_true rfl, Nat.le_of_ble_eq_true rfl⟩, rfl, rfl⟩ rfl (Nat.le_of_ble_eq_true rfl) ⟨Nat.zero_le _, Nat.zero_le _⟩ dX4_bestFor_28 ?_
        refine z_istore C [(7, .int q3), (0, .ref (a 4)), (1, .int p0), (2, .int p1), (3, .int p2), (4, .int t1.1), (5, .int t1.2.1), (6, .int t1.2.2)] (by decide) rfl dX4_bestFor_31 ?_
        refine z_aload_n C 1 rfl dX4_bestFor_33 ?_
        refine z_get C iRX4 4 gC_4 rfl 4 (by decide) fl_RX4_18 rfl dX4_bestFor_34 ?_
        refine z_iload C 7 rfl dX4_bestFor_37 ?_
        obtain ⟨q4, hq4, h⟩ := bd_spec h
        refine z_callV1 C [.int t1.2.2] [] (v := (.int q4)) rfl (c_X5_length_b l D A a x σ t1.2.2 q4 hq4) cd_yX5_length in_RX5 ml_RX4_94 im_yX5_length sl_yX5_length gC_13 rfl hd_yX5_length ⟨⟨Nat.le_of_ble_eq_true rfl, Nat.le_of_ble_eq_true rfl⟩, rfl, rfl⟩ rfl (Nat.le_of_ble_eq_true rfl) ⟨Nat.zero_le _, Nat.zero_le _⟩ dX4_bestFor_39 ?_
        refine z_istore C [(8, .int q4), (7, .int q3), (0, .ref (a 4)), (1, .int p0), (2, .int p1), (3, .int p2), (4, .int t1.1), (5, .int t1.2.1), (6, .int t1.2.2)] (by decide) rfl dX4_bestFor_42 ?_
        refine z_iload C 1 rfl dX4_bestFor_44 ?_
        refine z_if_eq C 158 (by decide) dX4_bestFor_46 h (fun h => ?_) (fun h => ?_)
        · refine z_iinc C (v := t1.2.2 + 1) [(6, .int (t1.2.2 + 1)), (8, .int q4), (7, .int q3), (0, .ref (a 4)), (1, .int p0), (2, .int p1), (3, .int p2), (4, .int t1.1), (5, .int t1.2.1)] 8 rfl rfl (by decide) rfl dX4_bestFor_158 ?_
          refine z_goto C 9 (by decide) dX4_bestFor_161 ?_
          refine z_sub C [3, 4, 5, 6, 7, 8, 0] (lv' := [(0, .ref (a 4)), (1, .int p0), (2, .int p1), (3, .int p2), (4, .int t1.1), (5, .int t1.2.1), (6, .int (t1.2.2 + 1))]) rfl ?_
          exact ih1 _ (uninl h hk1)
        · refine z_iload C 0 rfl dX4_bestFor_49 ?_
          refine z_if_eq C 158 (by decide) dX4_bestFor_51 h (fun h => ?_) (fun h => ?_)
          · refine z_iinc C (v := t1.2.2 + 1) [(6, .int (t1.2.2 + 1)), (8, .int q4), (7, .int q3), (0, .ref (a 4)), (1, .int p0), (2, .int p1), (3, .int p2), (4, .int t1.1), (5, .int t1.2.1)] 8 rfl rfl (by decide) rfl dX4_bestFor_158 ?_
            refine z_goto C 9 (by decide) dX4_bestFor_161 ?_
            refine z_sub C [3, 4, 5, 6, 7, 8, 0] (lv' := [(0, .ref (a 4)), (1, .int p0), (2, .int p1), (3, .int p2), (4, .int t1.1), (5, .int t1.2.1), (6, .int (t1.2.2 + 1))]) rfl ?_
            exact ih1 _ (uninl h hk1)
          · refine z_aload_n C 2 rfl dX4_bestFor_54 ?_
            refine z_get C iRX4 4 gC_4 rfl 4 (by decide) fl_RX4_18 rfl dX4_bestFor_55 ?_
            refine z_iload C 8 rfl dX4_bestFor_58 ?_
            refine z_iload_n C 3 rfl dX4_bestFor_60 ?_
            obtain ⟨q5, hq5, h⟩ := bd_spec h
            refine z_callV1 C [.int t1.2.2, .int p0] [] (v := (.int q5)) rfl (c_X5_isOn_b l D A a x σ t1.2.2 p0 q5 hq5) cd_yX5_isOn in_RX5 ml_RX4_97 im_yX5_isOn sl_yX5_isOn gC_13 rfl hd_yX5_isOn ⟨⟨Nat.le_of_ble_eq_true rfl, Nat.le_of_ble_eq_true rfl⟩, rfl, rfl⟩ rfl (Nat.le_of_ble_eq_true rfl) ⟨Nat.zero_le _, Nat.zero_le _⟩ dX4_bestFor_61 ?_
            refine z_if_eq C 70 (by decide) dX4_bestFor_64 h (fun h => ?_) (fun h => ?_)
            · refine z_iload C 1 rfl dX4_bestFor_70 ?_
              refine z_iconst C (v := 3) dX4_bestFor_72 (by decide) ?_
              refine z_icmp_eq C 85 (by decide) dX4_bestFor_73 h (fun h => ?_) (fun h => ?_)
              · refine z_sub C [2, 3, 4, 5, 6, 7, 8, 1, 0] (lv' := [(0, .ref (a 4)), (1, .int p0), (2, .int p1), (3, .int p2), (4, .int t1.1), (5, .int t1.2.1), (6, .int t1.2.2), (7, .int q3), (8, .int q4)]) rfl ?_
                exact J85 _ _ _ _ _ h
              · refine z_iload_n C 4 rfl dX4_bestFor_76 ?_
                refine z_iload C 8 rfl dX4_bestFor_77 ?_
                obtain ⟨q6, hq6, h⟩ := bd_spec h
                refine z_callSN1 C [.int p1, .int t1.2.2] [] (v := .int q6) 11 rfl (c_X6_hasBit l D A (tyz x) (wC a x σ) p1 t1.2.2 q6 hq6) cd_yX6_hasBit in_RX6 rfl sm_yX6_hasBit hd_yX6_hasBit ⟨⟨Nat.le_of_ble_eq_true rfl, Nat.le_of_ble_eq_true rfl⟩, rfl, rfl⟩ rfl (Nat.le_of_ble_eq_true rfl) ⟨Nat.zero_le _, Nat.zero_le _⟩ dX4_bestFor_79 ?_
                refine z_if_eq C 89 (by decide) dX4_bestFor_82 h (fun h => ?_) (fun h => ?_)
                · refine z_iconst C (v := 0) dX4_bestFor_89 (by decide) ?_
                  refine z_sub C [2, 3, 4, 5, 6, 7, 8, 1, 0] (lv' := [(0, .ref (a 4)), (1, .int p0), (2, .int p1), (3, .int p2), (4, .int t1.1), (5, .int t1.2.1), (6, .int t1.2.2), (7, .int q3), (8, .int q4)]) rfl ?_
                  exact J90 _ _ _ _ _ _ h
                · refine z_sub C [2, 3, 4, 5, 6, 7, 8, 1, 0] (lv' := [(0, .ref (a 4)), (1, .int p0), (2, .int p1), (3, .int p2), (4, .int t1.1), (5, .int t1.2.1), (6, .int t1.2.2), (7, .int q3), (8, .int q4)]) rfl ?_
                  exact J85 _ _ _ _ _ h
            · refine z_goto C 158 (by decide) dX4_bestFor_67 ?_
              refine z_iinc C (v := t1.2.2 + 1) [(6, .int (t1.2.2 + 1)), (8, .int q4), (7, .int q3), (0, .ref (a 4)), (1, .int p0), (2, .int p1), (3, .int p2), (4, .int t1.1), (5, .int t1.2.1)] 8 rfl rfl (by decide) rfl dX4_bestFor_158 ?_
              refine z_goto C 9 (by decide) dX4_bestFor_161 ?_
              refine z_sub C [3, 4, 5, 6, 7, 8, 0] (lv' := [(0, .ref (a 4)), (1, .int p0), (2, .int p1), (3, .int p2), (4, .int t1.1), (5, .int t1.2.1), (6, .int (t1.2.2 + 1))]) rfl ?_
              exact ih1 _ (uninl h hk1)
  exact L9 _ _ h
theorem dX4_goRound_0 : decode cX4_goRound 0 = .ok (.aload_n 0, 1) := by decide +kernel
theorem dX4_goRound_1 : decode cX4_goRound 1 = .ok (.iload_n 1, 1) := by decide +kernel
theorem dX4_goRound_2 : decode cX4_goRound 2 = .ok (.invokevirtual 60, 3) := by decide +kernel
theorem dX4_goRound_5 : decode cX4_goRound 5 = .ok (.istore 4, 2) := by decide +kernel
theorem dX4_goRound_7 : decode cX4_goRound 7 = .ok (.iconst 0, 1) := by decide +kernel
theorem dX4_goRound_8 : decode cX4_goRound 8 = .ok (.istore 5, 2) := by decide +kernel
theorem dX4_goRound_10 : decode cX4_goRound 10 = .ok (.iconst 0, 1) := by decide +kernel
theorem dX4_goRound_11 : decode cX4_goRound 11 = .ok (.istore 6, 2) := by decide +kernel
theorem dX4_goRound_13 : decode cX4_goRound 13 = .ok (.iload 6, 2) := by decide +kernel
theorem dX4_goRound_15 : decode cX4_goRound 15 = .ok (.aload_n 0, 1) := by decide +kernel
theorem dX4_goRound_16 : decode cX4_goRound 16 = .ok (.getfield 21, 3) := by decide +kernel
theorem dX4_goRound_19 : decode cX4_goRound 19 = .ok (.invokevirtual 63, 3) := by decide +kernel
theorem dX4_goRound_22 : decode cX4_goRound 22 = .ok (.if_icmp .ge 66, 3) := by decide +kernel
theorem dX4_goRound_25 : decode cX4_goRound 25 = .ok (.iload_n 1, 1) := by decide +kernel
theorem dX4_goRound_26 : decode cX4_goRound 26 = .ok (.iload 6, 2) := by decide +kernel
theorem dX4_goRound_28 : decode cX4_goRound 28 = .ok (.invokestatic 69, 3) := by decide +kernel
theorem dX4_goRound_31 : decode cX4_goRound 31 = .ok (.ifCond .eq 6, 3) := by decide +kernel
theorem dX4_goRound_34 : decode cX4_goRound 34 = .ok (.goto 48, 3) := by decide +kernel
theorem dX4_goRound_37 : decode cX4_goRound 37 = .ok (.iload_n 2, 1) := by decide +kernel
theorem dX4_goRound_38 : decode cX4_goRound 38 = .ok (.iload 6, 2) := by decide +kernel
theorem dX4_goRound_40 : decode cX4_goRound 40 = .ok (.invokestatic 69, 3) := by decide +kernel
theorem dX4_goRound_43 : decode cX4_goRound 43 = .ok (.ifCond .eq 7, 3) := by decide +kernel
theorem dX4_goRound_46 : decode cX4_goRound 46 = .ok (.iload_n 3, 1) := by decide +kernel
theorem dX4_goRound_47 : decode cX4_goRound 47 = .ok (.goto 4, 3) := by decide +kernel
theorem dX4_goRound_50 : decode cX4_goRound 50 = .ok (.iconst (-1), 1) := by decide +kernel
theorem dX4_goRound_51 : decode cX4_goRound 51 = .ok (.istore 7, 2) := by decide +kernel
theorem dX4_goRound_53 : decode cX4_goRound 53 = .ok (.aload_n 0, 1) := by decide +kernel
theorem dX4_goRound_54 : decode cX4_goRound 54 = .ok (.getfield 12, 3) := by decide +kernel
theorem dX4_goRound_57 : decode cX4_goRound 57 = .ok (.iload 6, 2) := by decide +kernel
theorem dX4_goRound_59 : decode cX4_goRound 59 = .ok (.aload_n 0, 1) := by decide +kernel
theorem dX4_goRound_60 : decode cX4_goRound 60 = .ok (.getfield 18, 3) := by decide +kernel
theorem dX4_goRound_63 : decode cX4_goRound 63 = .ok (.aload_n 0, 1) := by decide +kernel
theorem dX4_goRound_64 : decode cX4_goRound 64 = .ok (.iload 6, 2) := by decide +kernel
theorem dX4_goRound_66 : decode cX4_goRound 66 = .ok (.iload 4, 2) := by decide +kernel
theorem dX4_goRound_68 : decode cX4_goRound 68 = .ok (.iload 7, 2) := by decide +kernel
theorem dX4_goRound_70 : decode cX4_goRound 70 = .ok (.invokevirtual 73, 3) := by decide +kernel
theorem dX4_goRound_73 : decode cX4_goRound 73 = .ok (.invokevirtual 77, 3) := by decide +kernel
theorem dX4_goRound_76 : decode cX4_goRound 76 = .ok (.ifCond .eq 6, 3) := by decide +kernel
theorem dX4_goRound_79 : decode cX4_goRound 79 = .ok (.iconst 1, 1) := by decide +kernel
theorem dX4_goRound_80 : decode cX4_goRound 80 = .ok (.istore 5, 2) := by decide +kernel
theorem dX4_goRound_82 : decode cX4_goRound 82 = .ok (.iinc 6 1, 3) := by decide +kernel
theorem dX4_goRound_85 : decode cX4_goRound 85 = .ok (.goto (-72), 3) := by decide +kernel
theorem dX4_goRound_88 : decode cX4_goRound 88 = .ok (.iload 5, 2) := by decide +kernel
theorem dX4_goRound_90 : decode cX4_goRound 90 = .ok (.ireturn, 1) := by decide +kernel
theorem hd_yX4_goRound : (yX4_goRound).cls ≠ "java/lang/invoke/MethodHandle" ∧ (yX4_goRound).cls ≠ "java/lang/invoke/VarHandle" ∧ (parseMethodDescriptor (yX4_goRound).desc).map (fun d => d.parameters.length) = some 3 := ⟨by decide, by decide, by decide +kernel⟩
def f_X4_goRound_J51 (l1 : Int32) (l2 : Int32) (l3 : Int32) (l4 : Int32) (l5 : Int32) (l6 : Int32) (s0 : Int32) (σ : ZS) : Option ((Int32 × Int32 × ZS) ⊕ (Int32 × ZS)) :=
  Option.bind (f_X4_bestFor l6 l4 s0 σ) (fun q5 => Option.bind (f_X5_follow_n l6 q5 σ) (fun q6 => (if q6.1 = 0 then some (.inl (l5, l6 + 1, q6.2)) else some (.inl (1, l6 + 1, q6.2)))))
def f_X4_goRound_B13 (l1 : Int32) (l2 : Int32) (l3 : Int32) (l4 : Int32) (t1 : (Int32 × Int32 × ZS)) : Option ((Int32 × Int32 × ZS) ⊕ (Int32 × ZS)) :=
  Option.bind (f_X1_number t1.2.2) (fun q2 => (if q2 ≤ t1.2.1 then ck (isB t1.1) (wi (some (t1.1, t1.2.2))) else Option.bind (f_X6_hasBit l1 t1.2.1) (fun q3 => (if q3 = 0 then Option.bind (f_X6_hasBit l2 t1.2.1) (fun q4 => (if q4 = 0 then f_X4_goRound_J51 l1 l2 l3 l4 t1.1 t1.2.1 (-1) t1.2.2 else f_X4_goRound_J51 l1 l2 l3 l4 t1.1 t1.2.1 l3 t1.2.2)) else some (.inl (t1.1, t1.2.1 + 1, t1.2.2))))))
def f_X4_goRound (p0 : Int32) (p1 : Int32) (p2 : Int32) (σ : ZS) : Option (Int32 × ZS) :=
  Option.bind (f_X4_openHouses p0 σ) (fun q1 => lp zF (f_X4_goRound_B13 p0 p1 p2 q1) (0, 0, σ))
set_option maxHeartbeats 4000000 in
set_option maxRecDepth 100000 in
theorem c_X4_goRound (l : Launch) (D : va_G) (A : Nat → Prop) (a : Nat → Nat) (x : ClassId × ClassId × ClassId) (σ : ZS) (p0 : Int32) (p1 : Int32) (p2 : Int32) (r : (Int32 × ZS)) (h : f_X4_goRound p0 p1 p2 σ = some r) : zM l yX4_goRound w_yX4_goRound ({ frames := 2, cells := 0, slots := 0, locals := 54 } : Room) D A (tyz x) [.ref (a 4), .int p0, .int p1, .int p2] (wC a x σ) (some (.int r.1)) (wC a x r.2) := by
  refine z_start [.ref (a 4), .int p0, .int p1, .int p2] (lv := [(0, .ref (a 4)), (1, .int p0), (2, .int p1), (3, .int p2)]) (by decide) (Nat.le_of_ble_eq_true rfl) rfl ?_
  intro p e s m args below meth c C hr hlk
  unfold f_X4_goRound at h
  refine z_aload_n C 0 rfl dX4_goRound_0 ?_
  refine z_iload_n C 1 rfl dX4_goRound_1 ?_
  obtain ⟨q1, hq1, h⟩ := bd_spec h
  refine z_callV1 C [.int p0] [] (v := (.int q1)) rfl (c_X4_openHouses l D A a x σ p0 q1 hq1) cd_yX4_openHouses in_RX4 ml_RX4_60 im_yX4_openHouses sl_yX4_openHouses gC_4 rfl hd_yX4_openHouses ⟨⟨Nat.le_of_ble_eq_true rfl, Nat.le_of_ble_eq_true rfl⟩, rfl, rfl⟩ rfl (Nat.le_of_ble_eq_true rfl) ⟨Nat.zero_le _, Nat.zero_le _⟩ dX4_goRound_2 ?_
  refine z_istore C [(4, .int q1), (0, .ref (a 4)), (1, .int p0), (2, .int p1), (3, .int p2)] (by decide) rfl dX4_goRound_5 ?_
  refine z_iconst C (v := 0) dX4_goRound_7 (by decide) ?_
  refine z_istore C [(5, .int 0), (4, .int q1), (0, .ref (a 4)), (1, .int p0), (2, .int p1), (3, .int p2)] (by decide) rfl dX4_goRound_8 ?_
  refine z_iconst C (v := 0) dX4_goRound_10 (by decide) ?_
  refine z_istore C [(6, .int 0), (5, .int 0), (4, .int q1), (0, .ref (a 4)), (1, .int p0), (2, .int p1), (3, .int p2)] (by decide) rfl dX4_goRound_11 ?_
  refine z_sub C [3, 4, 5, 6, 2, 1, 0] (lv' := [(0, .ref (a 4)), (1, .int p0), (2, .int p1), (3, .int p2), (4, .int q1), (5, .int 0), (6, .int 0)]) rfl ?_
  have L13 : ∀ (n : Nat) (t1 : (Int32 × Int32 × ZS)), lp n (f_X4_goRound_B13 p0 p1 p2 q1) t1 = some r → zV p l e ({ frames := 2, cells := 0, slots := 0, locals := 54 } : Room) s m args below meth c 0 0 (MQ below (zQ D A (some (.int r.1)) (wC a x r.2)) args s 0 0 A) D A 8 (wC a x t1.2.2) 13 [(0, .ref (a 4)), (1, .int p0), (2, .int p1), (3, .int p2), (4, .int q1), (5, .int t1.1), (6, .int t1.2.1)] [] := by
    intro n1
    induction n1 with
    | zero => exact fun _ h => (lp_zero h).elim
    | succ n1 ih1 =>
      intro t1 h
      obtain ⟨u1, h, hk1⟩ := lp_succ h
      have J51 : ∀ (l5_51 : Int32) (l6_51 : Int32) (s0_51 : Int32) (σ_51 : ZS), f_X4_goRound_J51 p0 p1 p2 q1 l5_51 l6_51 s0_51 σ_51 = some u1 → zV p l e ({ frames := 2, cells := 0, slots := 0, locals := 54 } : Room) s m args below meth c 0 0 (MQ below (zQ D A (some (.int r.1)) (wC a x r.2)) args s 0 0 A) D A 8 (wC a x σ_51) 51 [(0, .ref (a 4)), (1, .int p0), (2, .int p1), (3, .int p2), (4, .int q1), (5, .int l5_51), (6, .int l6_51)] [.int s0_51] := by
        intro l5_51 l6_51 s0_51 σ_51 h
        unfold f_X4_goRound_J51 at h
        refine z_istore C [(7, .int s0_51), (0, .ref (a 4)), (1, .int p0), (2, .int p1), (3, .int p2), (4, .int q1), (5, .int l5_51), (6, .int l6_51)] (by decide) rfl dX4_goRound_51 ?_
        refine z_aload_n C 1 rfl dX4_goRound_53 ?_
        refine z_get C iRX4 4 gC_4 rfl 3 (by decide) fl_RX4_12 rfl dX4_goRound_54 ?_
        refine z_iload C 7 rfl dX4_goRound_57 ?_
        refine z_aload_n C 1 rfl dX4_goRound_59 ?_
        refine z_get C iRX4 4 gC_4 rfl 4 (by decide) fl_RX4_18 rfl dX4_goRound_60 ?_
        refine z_aload_n C 1 rfl dX4_goRound_63 ?_
        refine z_iload C 7 rfl dX4_goRound_64 ?_
        refine z_iload C 5 rfl dX4_goRound_66 ?_
        refine z_iload C 0 rfl dX4_goRound_68 ?_
        obtain ⟨q2, hq2, h⟩ := bd_spec h
        refine z_callV1 C [.int l6_51, .int q1, .int s0_51] [.ref (a 13), .int l6_51, .ref (a 12)] (v := (.int q2)) rfl (c_X4_bestFor l D A a x σ_51 l6_51 q1 s0_51 q2 hq2) cd_yX4_bestFor in_RX4 ml_RX4_73 im_yX4_bestFor sl_yX4_bestFor gC_4 rfl hd_yX4_bestFor ⟨⟨Nat.le_of_ble_eq_true rfl, Nat.le_of_ble_eq_true rfl⟩, rfl, rfl⟩ rfl (Nat.le_of_ble_eq_true rfl) ⟨Nat.zero_le _, Nat.zero_le _⟩ dX4_goRound_70 ?_
        obtain ⟨q3, hq3, h⟩ := bd_spec h
        refine z_callV1 C [.int l6_51, .ref (a 13), .int q2] [] (v := (.int q3.1)) rfl (c_X5_follow_n l D A a x σ_51 l6_51 q2 q3 hq3) cd_yX5_follow in_RX5 ml_RX4_77 im_yX5_follow sl_yX5_follow gC_12 rfl hd_yX5_follow ⟨⟨Nat.le_of_ble_eq_true rfl, Nat.le_of_ble_eq_true rfl⟩, rfl, rfl⟩ rfl (Nat.le_of_ble_eq_true rfl) ⟨Nat.zero_le _, Nat.zero_le _⟩ dX4_goRound_73 ?_
        refine z_if_eq C 82 (by decide) dX4_goRound_76 h (fun h => ?_) (fun h => ?_)
        · refine z_iinc C (v := l6_51 + 1) [(6, .int (l6_51 + 1)), (7, .int s0_51), (0, .ref (a 4)), (1, .int p0), (2, .int p1), (3, .int p2), (4, .int q1), (5, .int l5_51)] 7 rfl rfl (by decide) rfl dX4_goRound_82 ?_
          refine z_goto C 13 (by decide) dX4_goRound_85 ?_
          refine z_sub C [2, 3, 4, 5, 6, 7, 0] (lv' := [(0, .ref (a 4)), (1, .int p0), (2, .int p1), (3, .int p2), (4, .int q1), (5, .int l5_51), (6, .int (l6_51 + 1))]) rfl ?_
          exact ih1 _ (uninl h hk1)
        · refine z_iconst C (v := 1) dX4_goRound_79 (by decide) ?_
          refine z_istore C [(5, .int 1), (7, .int s0_51), (0, .ref (a 4)), (1, .int p0), (2, .int p1), (3, .int p2), (4, .int q1), (6, .int l6_51)] (by decide) rfl dX4_goRound_80 ?_
          refine z_iinc C (v := l6_51 + 1) [(6, .int (l6_51 + 1)), (5, .int 1), (7, .int s0_51), (0, .ref (a 4)), (1, .int p0), (2, .int p1), (3, .int p2), (4, .int q1)] 7 rfl rfl (by decide) rfl dX4_goRound_82 ?_
          refine z_goto C 13 (by decide) dX4_goRound_85 ?_
          refine z_sub C [3, 4, 5, 6, 7, 1, 0] (lv' := [(0, .ref (a 4)), (1, .int p0), (2, .int p1), (3, .int p2), (4, .int q1), (5, .int 1), (6, .int (l6_51 + 1))]) rfl ?_
          exact ih1 _ (uninl h hk1)
      unfold f_X4_goRound_B13 at h
      refine z_iload C 6 rfl dX4_goRound_13 ?_
      refine z_aload_n C 0 rfl dX4_goRound_15 ?_
      refine z_get C iRX4 4 gC_4 rfl 0 (by decide) fl_RX4_21 rfl dX4_goRound_16 ?_
      obtain ⟨q4, hq4, h⟩ := bd_spec h
      refine z_callV1 C [] [.int t1.2.1] (v := (.int q4)) rfl (c_X1_number l D A a x t1.2.2  q4 hq4) cd_yX1_number in_RX1 ml_RX4_63 im_yX1_number sl_yX1_number gC_1 rfl hd_yX1_number ⟨⟨Nat.le_of_ble_eq_true rfl, Nat.le_of_ble_eq_true rfl⟩, rfl, rfl⟩ rfl (Nat.le_of_ble_eq_true rfl) ⟨Nat.zero_le _, Nat.zero_le _⟩ dX4_goRound_19 ?_
      refine z_icmp_ge C 88 (by decide) dX4_goRound_22 h (fun h => ?_) (fun h => ?_)
      · refine z_iload C 5 rfl dX4_goRound_88 ?_
        obtain ⟨hb, h⟩ := ck_spec h
        have h := unwi h hk1
        cases h
        exact z_zret C hr hlk hb dX4_goRound_90
      · refine z_iload_n C 1 rfl dX4_goRound_25 ?_
        refine z_iload C 6 rfl dX4_goRound_26 ?_
        obtain ⟨q5, hq5, h⟩ := bd_spec h
        refine z_callSN1 C [.int p0, .int t1.2.1] [] (v := .int q5) 11 rfl (c_X6_hasBit l D A (tyz x) (wC a x t1.2.2) p0 t1.2.1 q5 hq5) cd_yX6_hasBit in_RX6 rfl sm_yX6_hasBit hd_yX6_hasBit ⟨⟨Nat.le_of_ble_eq_true rfl, Nat.le_of_ble_eq_true rfl⟩, rfl, rfl⟩ rfl (Nat.le_of_ble_eq_true rfl) ⟨Nat.zero_le _, Nat.zero_le _⟩ dX4_goRound_28 ?_
        refine z_if_eq C 37 (by decide) dX4_goRound_31 h (fun h => ?_) (fun h => ?_)
        · refine z_iload_n C 2 rfl dX4_goRound_37 ?_
          refine z_iload C 6 rfl dX4_goRound_38 ?_
          obtain ⟨q6, hq6, h⟩ := bd_spec h
          refine z_callSN1 C [.int p1, .int t1.2.1] [] (v := .int q6) 11 rfl (c_X6_hasBit l D A (tyz x) (wC a x t1.2.2) p1 t1.2.1 q6 hq6) cd_yX6_hasBit in_RX6 rfl sm_yX6_hasBit hd_yX6_hasBit ⟨⟨Nat.le_of_ble_eq_true rfl, Nat.le_of_ble_eq_true rfl⟩, rfl, rfl⟩ rfl (Nat.le_of_ble_eq_true rfl) ⟨Nat.zero_le _, Nat.zero_le _⟩ dX4_goRound_40 ?_
          refine z_if_eq C 50 (by decide) dX4_goRound_43 h (fun h => ?_) (fun h => ?_)
          · refine z_iconst C (v := (-1)) dX4_goRound_50 (by decide) ?_
            exact J51 _ _ _ _ h
          · refine z_iload_n C 3 rfl dX4_goRound_46 ?_
            refine z_goto C 51 (by decide) dX4_goRound_47 ?_
            exact J51 _ _ _ _ h
        · refine z_goto C 82 (by decide) dX4_goRound_34 ?_
          refine z_iinc C (v := t1.2.1 + 1) [(6, .int (t1.2.1 + 1)), (0, .ref (a 4)), (1, .int p0), (2, .int p1), (3, .int p2), (4, .int q1), (5, .int t1.1)] 6 rfl rfl (by decide) rfl dX4_goRound_82 ?_
          refine z_goto C 13 (by decide) dX4_goRound_85 ?_
          refine z_sub C [1, 2, 3, 4, 5, 6, 0] (lv' := [(0, .ref (a 4)), (1, .int p0), (2, .int p1), (3, .int p2), (4, .int q1), (5, .int t1.1), (6, .int (t1.2.1 + 1))]) rfl ?_
          exact ih1 _ (uninl h hk1)
  exact L13 _ _ h
theorem dX4_settle_0 : decode cX4_settle 0 = .ok (.aload_n 0, 1) := by decide +kernel
theorem dX4_settle_1 : decode cX4_settle 1 = .ok (.getfield 29, 3) := by decide +kernel
theorem dX4_settle_4 : decode cX4_settle 4 = .ok (.iload_n 1, 1) := by decide +kernel
theorem dX4_settle_5 : decode cX4_settle 5 = .ok (.invokevirtual 37, 3) := by decide +kernel
theorem dX4_settle_8 : decode cX4_settle 8 = .ok (.istore_n 3, 1) := by decide +kernel
theorem dX4_settle_9 : decode cX4_settle 9 = .ok (.aload_n 0, 1) := by decide +kernel
theorem dX4_settle_10 : decode cX4_settle 10 = .ok (.getfield 25, 3) := by decide +kernel
theorem dX4_settle_13 : decode cX4_settle 13 = .ok (.iload_n 1, 1) := by decide +kernel
theorem dX4_settle_14 : decode cX4_settle 14 = .ok (.invokevirtual 43, 3) := by decide +kernel
theorem dX4_settle_17 : decode cX4_settle 17 = .ok (.istore 4, 2) := by decide +kernel
theorem dX4_settle_19 : decode cX4_settle 19 = .ok (.aload_n 0, 1) := by decide +kernel
theorem dX4_settle_20 : decode cX4_settle 20 = .ok (.getfield 12, 3) := by decide +kernel
theorem dX4_settle_23 : decode cX4_settle 23 = .ok (.iload_n 3, 1) := by decide +kernel
theorem dX4_settle_24 : decode cX4_settle 24 = .ok (.invokevirtual 48, 3) := by decide +kernel
theorem dX4_settle_27 : decode cX4_settle 27 = .ok (.aload_n 0, 1) := by decide +kernel
theorem dX4_settle_28 : decode cX4_settle 28 = .ok (.iconst 0, 1) := by decide +kernel
theorem dX4_settle_29 : decode cX4_settle 29 = .ok (.putfield 33, 3) := by decide +kernel
theorem dX4_settle_32 : decode cX4_settle 32 = .ok (.iconst 1, 1) := by decide +kernel
theorem dX4_settle_33 : decode cX4_settle 33 = .ok (.istore 5, 2) := by decide +kernel
theorem dX4_settle_35 : decode cX4_settle 35 = .ok (.iconst 1, 1) := by decide +kernel
theorem dX4_settle_36 : decode cX4_settle 36 = .ok (.istore 6, 2) := by decide +kernel
theorem dX4_settle_38 : decode cX4_settle 38 = .ok (.iload 6, 2) := by decide +kernel
theorem dX4_settle_40 : decode cX4_settle 40 = .ok (.bipush 50, 2) := by decide +kernel
theorem dX4_settle_42 : decode cX4_settle 42 = .ok (.if_icmp .gt 46, 3) := by decide +kernel
theorem dX4_settle_45 : decode cX4_settle 45 = .ok (.iload 5, 2) := by decide +kernel
theorem dX4_settle_47 : decode cX4_settle 47 = .ok (.ifCond .eq 41, 3) := by decide +kernel
theorem dX4_settle_50 : decode cX4_settle 50 = .ok (.aload_n 0, 1) := by decide +kernel
theorem dX4_settle_51 : decode cX4_settle 51 = .ok (.getfield 18, 3) := by decide +kernel
theorem dX4_settle_54 : decode cX4_settle 54 = .ok (.aload_n 0, 1) := by decide +kernel
theorem dX4_settle_55 : decode cX4_settle 55 = .ok (.getfield 12, 3) := by decide +kernel
theorem dX4_settle_58 : decode cX4_settle 58 = .ok (.invokevirtual 52, 3) := by decide +kernel
theorem dX4_settle_61 : decode cX4_settle 61 = .ok (.aload_n 0, 1) := by decide +kernel
theorem dX4_settle_62 : decode cX4_settle 62 = .ok (.iload_n 3, 1) := by decide +kernel
theorem dX4_settle_63 : decode cX4_settle 63 = .ok (.iload_n 2, 1) := by decide +kernel
theorem dX4_settle_64 : decode cX4_settle 64 = .ok (.iload 4, 2) := by decide +kernel
theorem dX4_settle_66 : decode cX4_settle 66 = .ok (.invokevirtual 56, 3) := by decide +kernel
theorem dX4_settle_69 : decode cX4_settle 69 = .ok (.istore 5, 2) := by decide +kernel
theorem dX4_settle_71 : decode cX4_settle 71 = .ok (.iload 5, 2) := by decide +kernel
theorem dX4_settle_73 : decode cX4_settle 73 = .ok (.ifCond .eq 9, 3) := by decide +kernel
theorem dX4_settle_76 : decode cX4_settle 76 = .ok (.aload_n 0, 1) := by decide +kernel
theorem dX4_settle_77 : decode cX4_settle 77 = .ok (.iload 6, 2) := by decide +kernel
theorem dX4_settle_79 : decode cX4_settle 79 = .ok (.putfield 33, 3) := by decide +kernel
theorem dX4_settle_82 : decode cX4_settle 82 = .ok (.iinc 6 1, 3) := by decide +kernel
theorem dX4_settle_85 : decode cX4_settle 85 = .ok (.goto (-47), 3) := by decide +kernel
theorem dX4_settle_88 : decode cX4_settle 88 = .ok (.return_, 1) := by decide +kernel
theorem hd_yX4_settle : (yX4_settle).cls ≠ "java/lang/invoke/MethodHandle" ∧ (yX4_settle).cls ≠ "java/lang/invoke/VarHandle" ∧ (parseMethodDescriptor (yX4_settle).desc).map (fun d => d.parameters.length) = some 2 := ⟨by decide, by decide, by decide +kernel⟩
def f_X4_settle_B38 (l2 : Int32) (l3 : Int32) (l4 : Int32) (t1 : (Int32 × Int32 × ZS)) : Option ((Int32 × Int32 × ZS) ⊕ ZS) :=
  (if 50 < t1.2.1 then wi (some t1.2.2) else (if t1.1 = 0 then wi (some t1.2.2) else Option.bind (f_X5_copy_b t1.2.2) (fun q4 => Option.bind (f_X4_goRound l3 l2 l4 q4) (fun q5 => (if q5.1 = 0 then some (.inl (q5.1, t1.2.1 + 1, q5.2)) else some (.inl (q5.1, t1.2.1 + 1, setI q5.2 6 t1.2.1)))))))
def f_X4_settle (p0 : Int32) (p1 : Int32) (σ : ZS) : Option ZS :=
  Option.bind (f_X3_sayers p0 σ) (fun q1 => Option.bind (f_X2_owner p0 σ) (fun q2 => Option.bind (f_X5_begin_n q1 σ) (fun q3 => lp zF (f_X4_settle_B38 p1 q1 q2) (1, 1, setI q3 6 0))))
set_option maxHeartbeats 4000000 in
set_option maxRecDepth 100000 in
theorem c_X4_settle (l : Launch) (D : va_G) (A : Nat → Prop) (a : Nat → Nat) (x : ClassId × ClassId × ClassId) (σ : ZS) (p0 : Int32) (p1 : Int32) (r : ZS) (h : f_X4_settle p0 p1 σ = some r) : zM l yX4_settle w_yX4_settle ({ frames := 3, cells := 0, slots := 0, locals := 81 } : Room) D A (tyz x) [.ref (a 4), .int p0, .int p1] (wC a x σ) none (wC a x r) := by
  refine z_start [.ref (a 4), .int p0, .int p1] (lv := [(0, .ref (a 4)), (1, .int p0), (2, .int p1)]) (by decide) (Nat.le_of_ble_eq_true rfl) rfl ?_
  intro p e s m args below meth c C hr hlk
  unfold f_X4_settle at h
  refine z_aload_n C 0 rfl dX4_settle_0 ?_
  refine z_get C iRX4 4 gC_4 rfl 2 (by decide) fl_RX4_29 rfl dX4_settle_1 ?_
  refine z_iload_n C 1 rfl dX4_settle_4 ?_
  obtain ⟨q1, hq1, h⟩ := bd_spec h
  refine z_callV1 C [.int p0] [] (v := (.int q1)) rfl (c_X3_sayers l D A a x σ p0 q1 hq1) cd_yX3_sayers in_RX3 ml_RX4_37 im_yX3_sayers sl_yX3_sayers gC_3 rfl hd_yX3_sayers ⟨⟨Nat.le_of_ble_eq_true rfl, Nat.le_of_ble_eq_true rfl⟩, rfl, rfl⟩ rfl (Nat.le_of_ble_eq_true rfl) ⟨Nat.zero_le _, Nat.zero_le _⟩ dX4_settle_5 ?_
  refine z_istore_n C [(3, .int q1), (0, .ref (a 4)), (1, .int p0), (2, .int p1)] rfl (by decide) rfl dX4_settle_8 ?_
  refine z_aload_n C 1 rfl dX4_settle_9 ?_
  refine z_get C iRX4 4 gC_4 rfl 1 (by decide) fl_RX4_25 rfl dX4_settle_10 ?_
  refine z_iload_n C 2 rfl dX4_settle_13 ?_
  obtain ⟨q2, hq2, h⟩ := bd_spec h
  refine z_callV1 C [.int p0] [] (v := (.int q2)) rfl (c_X2_owner l D A a x σ p0 q2 hq2) cd_yX2_owner in_RX2 ml_RX4_43 im_yX2_owner sl_yX2_owner gC_2 rfl hd_yX2_owner ⟨⟨Nat.le_of_ble_eq_true rfl, Nat.le_of_ble_eq_true rfl⟩, rfl, rfl⟩ rfl (Nat.le_of_ble_eq_true rfl) ⟨Nat.zero_le _, Nat.zero_le _⟩ dX4_settle_14 ?_
  refine z_istore C [(4, .int q2), (3, .int q1), (0, .ref (a 4)), (1, .int p0), (2, .int p1)] (by decide) rfl dX4_settle_17 ?_
  refine z_aload_n C 2 rfl dX4_settle_19 ?_
  refine z_get C iRX4 4 gC_4 rfl 3 (by decide) fl_RX4_12 rfl dX4_settle_20 ?_
  refine z_iload_n C 1 rfl dX4_settle_23 ?_
  obtain ⟨q3, hq3, h⟩ := bd_spec h
  refine z_callV0 C [.int q1] [] rfl (c_X5_begin_n l D A a x σ q1 q3 hq3) cd_yX5_begin in_RX5 ml_RX4_48 im_yX5_begin sl_yX5_begin gC_12 rfl hd_yX5_begin ⟨⟨Nat.le_of_ble_eq_true rfl, Nat.le_of_ble_eq_true rfl⟩, rfl, rfl⟩ rfl (Nat.le_of_ble_eq_true rfl) ⟨Nat.zero_le _, Nat.zero_le _⟩ dX4_settle_24 ?_
  refine z_aload_n C 2 rfl dX4_settle_27 ?_
  refine z_iconst C (v := 0) dX4_settle_28 (by decide) ?_
  refine z_put C iRX4 tyX4 tyX4_ok nmX4 4 gC_4 rfl 5 (by decide) fl_RX4_33 rfl (ty := .int) (by decide +kernel) ⟨rfl, rfl⟩ (Nat.le_of_ble_eq_true rfl) pC_4_5 dX4_settle_29 ?_
  refine z_iconst C (v := 1) dX4_settle_32 (by decide) ?_
  refine z_istore C [(5, .int 1), (4, .int q2), (3, .int q1), (0, .ref (a 4)), (1, .int p0), (2, .int p1)] (by decide) rfl dX4_settle_33 ?_
  refine z_iconst C (v := 1) dX4_settle_35 (by decide) ?_
  refine z_istore C [(6, .int 1), (5, .int 1), (4, .int q2), (3, .int q1), (0, .ref (a 4)), (1, .int p0), (2, .int p1)] (by decide) rfl dX4_settle_36 ?_
  refine z_sub C [4, 6, 3, 2, 1, 0] (lv' := [(0, .ref (a 4)), (2, .int p1), (3, .int q1), (4, .int q2), (5, .int 1), (6, .int 1)]) rfl ?_
  have L38 : ∀ (n : Nat) (t1 : (Int32 × Int32 × ZS)), lp n (f_X4_settle_B38 p1 q1 q2) t1 = some r → zV p l e ({ frames := 3, cells := 0, slots := 0, locals := 81 } : Room) s m args below meth c 0 0 (MQ below (zQ D A none (wC a x r)) args s 0 0 A) D A 7 (wC a x t1.2.2) 38 [(0, .ref (a 4)), (2, .int p1), (3, .int q1), (4, .int q2), (5, .int t1.1), (6, .int t1.2.1)] [] := by
    intro n1
    induction n1 with
    | zero => exact fun _ h => (lp_zero h).elim
    | succ n1 ih1 =>
      intro t1 h
      obtain ⟨u1, h, hk1⟩ := lp_succ h
      unfold f_X4_settle_B38 at h
      refine z_iload C 5 rfl dX4_settle_38 ?_
      refine z_bipush C (v := 50) dX4_settle_40 (by decide) ?_
      refine z_icmp_gt C 88 (by decide) dX4_settle_42 h (fun h => ?_) (fun h => ?_)
      · have h := unwi h hk1
        cases h
        exact z_vret C hr hlk dX4_settle_88
      · refine z_iload C 4 rfl dX4_settle_45 ?_
        refine z_if_eq C 88 (by decide) dX4_settle_47 h (fun h => ?_) (fun h => ?_)
        · have h := unwi h hk1
          cases h
          exact z_vret C hr hlk dX4_settle_88
        · refine z_aload_n C 0 rfl dX4_settle_50 ?_
          refine z_get C iRX4 4 gC_4 rfl 4 (by decide) fl_RX4_18 rfl dX4_settle_51 ?_
          refine z_aload_n C 0 rfl dX4_settle_54 ?_
          refine z_get C iRX4 4 gC_4 rfl 3 (by decide) fl_RX4_12 rfl dX4_settle_55 ?_
          obtain ⟨q4, hq4, h⟩ := bd_spec h
          refine z_callV0 C [.ref (a 12)] [] rfl (c_X5_copy_b l D A a x t1.2.2  q4 hq4) cd_yX5_copy in_RX5 ml_RX4_52 im_yX5_copy sl_yX5_copy gC_13 rfl hd_yX5_copy ⟨⟨Nat.le_of_ble_eq_true rfl, Nat.le_of_ble_eq_true rfl⟩, rfl, rfl⟩ rfl (Nat.le_of_ble_eq_true rfl) ⟨Nat.zero_le _, Nat.zero_le _⟩ dX4_settle_58 ?_
          refine z_aload_n C 0 rfl dX4_settle_61 ?_
          refine z_iload_n C 2 rfl dX4_settle_62 ?_
          refine z_iload_n C 1 rfl dX4_settle_63 ?_
          refine z_iload C 3 rfl dX4_settle_64 ?_
          obtain ⟨q5, hq5, h⟩ := bd_spec h
          refine z_callV1 C [.int q1, .int p1, .int q2] [] (v := (.int q5.1)) rfl (c_X4_goRound l D A a x q4 q1 p1 q2 q5 hq5) cd_yX4_goRound in_RX4 ml_RX4_56 im_yX4_goRound sl_yX4_goRound gC_4 rfl hd_yX4_goRound ⟨⟨Nat.le_of_ble_eq_true rfl, Nat.le_of_ble_eq_true rfl⟩, rfl, rfl⟩ rfl (Nat.le_of_ble_eq_true rfl) ⟨Nat.zero_le _, Nat.zero_le _⟩ dX4_settle_66 ?_
          refine z_istore C [(5, .int q5.1), (0, .ref (a 4)), (2, .int p1), (3, .int q1), (4, .int q2), (6, .int t1.2.1)] (by decide) rfl dX4_settle_69 ?_
          refine z_iload C 0 rfl dX4_settle_71 ?_
          refine z_if_eq C 82 (by decide) dX4_settle_73 h (fun h => ?_) (fun h => ?_)
          · refine z_iinc C (v := t1.2.1 + 1) [(6, .int (t1.2.1 + 1)), (5, .int q5.1), (0, .ref (a 4)), (2, .int p1), (3, .int q1), (4, .int q2)] 5 rfl rfl (by decide) rfl dX4_settle_82 ?_
            refine z_goto C 38 (by decide) dX4_settle_85 ?_
            refine z_sub C [2, 3, 4, 5, 1, 0] (lv' := [(0, .ref (a 4)), (2, .int p1), (3, .int q1), (4, .int q2), (5, .int q5.1), (6, .int (t1.2.1 + 1))]) rfl ?_
            exact ih1 _ (uninl h hk1)
          · refine z_aload_n C 1 rfl dX4_settle_76 ?_
            refine z_iload C 5 rfl dX4_settle_77 ?_
            refine z_put C iRX4 tyX4 tyX4_ok nmX4 4 gC_4 rfl 5 (by decide) fl_RX4_33 rfl (ty := .int) (by decide +kernel) ⟨rfl, rfl⟩ (Nat.le_of_ble_eq_true rfl) pC_4_5 dX4_settle_79 ?_
            refine z_iinc C (v := t1.2.1 + 1) [(6, .int (t1.2.1 + 1)), (5, .int q5.1), (0, .ref (a 4)), (2, .int p1), (3, .int q1), (4, .int q2)] 5 rfl rfl (by decide) rfl dX4_settle_82 ?_
            refine z_goto C 38 (by decide) dX4_settle_85 ?_
            refine z_sub C [2, 3, 4, 5, 1, 0] (lv' := [(0, .ref (a 4)), (2, .int p1), (3, .int q1), (4, .int q2), (5, .int q5.1), (6, .int (t1.2.1 + 1))]) rfl ?_
            exact ih1 _ (uninl h hk1)
  exact L38 _ _ h
theorem dX4_breaker_0 : decode cX4_breaker 0 = .ok (.aload_n 0, 1) := by decide +kernel
theorem dX4_breaker_1 : decode cX4_breaker 1 = .ok (.getfield 12, 3) := by decide +kernel
theorem dX4_breaker_4 : decode cX4_breaker 4 = .ok (.iload_n 1, 1) := by decide +kernel
theorem dX4_breaker_5 : decode cX4_breaker 5 = .ok (.invokevirtual 94, 3) := by decide +kernel
theorem dX4_breaker_8 : decode cX4_breaker 8 = .ok (.iconst 2, 1) := by decide +kernel
theorem dX4_breaker_9 : decode cX4_breaker 9 = .ok (.isub, 1) := by decide +kernel
theorem dX4_breaker_10 : decode cX4_breaker 10 = .ok (.istore_n 2, 1) := by decide +kernel
theorem dX4_breaker_11 : decode cX4_breaker 11 = .ok (.iload_n 2, 1) := by decide +kernel
theorem dX4_breaker_12 : decode cX4_breaker 12 = .ok (.iconst 1, 1) := by decide +kernel
theorem dX4_breaker_13 : decode cX4_breaker 13 = .ok (.if_icmp .lt 91, 3) := by decide +kernel
theorem dX4_breaker_16 : decode cX4_breaker 16 = .ok (.aload_n 0, 1) := by decide +kernel
theorem dX4_breaker_17 : decode cX4_breaker 17 = .ok (.getfield 12, 3) := by decide +kernel
theorem dX4_breaker_20 : decode cX4_breaker 20 = .ok (.iload_n 1, 1) := by decide +kernel
theorem dX4_breaker_21 : decode cX4_breaker 21 = .ok (.iload_n 2, 1) := by decide +kernel
theorem dX4_breaker_22 : decode cX4_breaker 22 = .ok (.invokevirtual 84, 3) := by decide +kernel
theorem dX4_breaker_25 : decode cX4_breaker 25 = .ok (.istore_n 3, 1) := by decide +kernel
theorem dX4_breaker_26 : decode cX4_breaker 26 = .ok (.aload_n 0, 1) := by decide +kernel
theorem dX4_breaker_27 : decode cX4_breaker 27 = .ok (.getfield 21, 3) := by decide +kernel
theorem dX4_breaker_30 : decode cX4_breaker 30 = .ok (.iload_n 3, 1) := by decide +kernel
theorem dX4_breaker_31 : decode cX4_breaker 31 = .ok (.aload_n 0, 1) := by decide +kernel
theorem dX4_breaker_32 : decode cX4_breaker 32 = .ok (.getfield 12, 3) := by decide +kernel
theorem dX4_breaker_35 : decode cX4_breaker 35 = .ok (.iload_n 1, 1) := by decide +kernel
theorem dX4_breaker_36 : decode cX4_breaker 36 = .ok (.iload_n 2, 1) := by decide +kernel
theorem dX4_breaker_37 : decode cX4_breaker 37 = .ok (.iconst 1, 1) := by decide +kernel
theorem dX4_breaker_38 : decode cX4_breaker 38 = .ok (.isub, 1) := by decide +kernel
theorem dX4_breaker_39 : decode cX4_breaker 39 = .ok (.invokevirtual 84, 3) := by decide +kernel
theorem dX4_breaker_42 : decode cX4_breaker 42 = .ok (.invokevirtual 88, 3) := by decide +kernel
theorem dX4_breaker_45 : decode cX4_breaker 45 = .ok (.iconst 1, 1) := by decide +kernel
theorem dX4_breaker_46 : decode cX4_breaker 46 = .ok (.if_icmp .ne 7, 3) := by decide +kernel
theorem dX4_breaker_49 : decode cX4_breaker 49 = .ok (.iconst 1, 1) := by decide +kernel
theorem dX4_breaker_50 : decode cX4_breaker 50 = .ok (.goto 4, 3) := by decide +kernel
theorem dX4_breaker_53 : decode cX4_breaker 53 = .ok (.iconst 0, 1) := by decide +kernel
theorem dX4_breaker_54 : decode cX4_breaker 54 = .ok (.istore 4, 2) := by decide +kernel
theorem dX4_breaker_56 : decode cX4_breaker 56 = .ok (.aload_n 0, 1) := by decide +kernel
theorem dX4_breaker_57 : decode cX4_breaker 57 = .ok (.getfield 21, 3) := by decide +kernel
theorem dX4_breaker_60 : decode cX4_breaker 60 = .ok (.iload_n 3, 1) := by decide +kernel
theorem dX4_breaker_61 : decode cX4_breaker 61 = .ok (.aload_n 0, 1) := by decide +kernel
theorem dX4_breaker_62 : decode cX4_breaker 62 = .ok (.getfield 12, 3) := by decide +kernel
theorem dX4_breaker_65 : decode cX4_breaker 65 = .ok (.iload_n 1, 1) := by decide +kernel
theorem dX4_breaker_66 : decode cX4_breaker 66 = .ok (.iload_n 2, 1) := by decide +kernel
theorem dX4_breaker_67 : decode cX4_breaker 67 = .ok (.iconst 1, 1) := by decide +kernel
theorem dX4_breaker_68 : decode cX4_breaker 68 = .ok (.iadd, 1) := by decide +kernel
theorem dX4_breaker_69 : decode cX4_breaker 69 = .ok (.invokevirtual 84, 3) := by decide +kernel
theorem dX4_breaker_72 : decode cX4_breaker 72 = .ok (.invokevirtual 88, 3) := by decide +kernel
theorem dX4_breaker_75 : decode cX4_breaker 75 = .ok (.iconst 1, 1) := by decide +kernel
theorem dX4_breaker_76 : decode cX4_breaker 76 = .ok (.if_icmp .ne 7, 3) := by decide +kernel
theorem dX4_breaker_79 : decode cX4_breaker 79 = .ok (.iconst 1, 1) := by decide +kernel
theorem dX4_breaker_80 : decode cX4_breaker 80 = .ok (.goto 4, 3) := by decide +kernel
theorem dX4_breaker_83 : decode cX4_breaker 83 = .ok (.iconst 0, 1) := by decide +kernel
theorem dX4_breaker_84 : decode cX4_breaker 84 = .ok (.istore 5, 2) := by decide +kernel
theorem dX4_breaker_86 : decode cX4_breaker 86 = .ok (.iload 4, 2) := by decide +kernel
theorem dX4_breaker_88 : decode cX4_breaker 88 = .ok (.ifCond .ne 10, 3) := by decide +kernel
theorem dX4_breaker_91 : decode cX4_breaker 91 = .ok (.iload 5, 2) := by decide +kernel
theorem dX4_breaker_93 : decode cX4_breaker 93 = .ok (.ifCond .ne 5, 3) := by decide +kernel
theorem dX4_breaker_96 : decode cX4_breaker 96 = .ok (.iload_n 3, 1) := by decide +kernel
theorem dX4_breaker_97 : decode cX4_breaker 97 = .ok (.ireturn, 1) := by decide +kernel
theorem dX4_breaker_98 : decode cX4_breaker 98 = .ok (.iinc 2 (-1), 3) := by decide +kernel
theorem dX4_breaker_101 : decode cX4_breaker 101 = .ok (.goto (-90), 3) := by decide +kernel
theorem dX4_breaker_104 : decode cX4_breaker 104 = .ok (.iconst (-1), 1) := by decide +kernel
theorem dX4_breaker_105 : decode cX4_breaker 105 = .ok (.ireturn, 1) := by decide +kernel
theorem hd_yX4_breaker : (yX4_breaker).cls ≠ "java/lang/invoke/MethodHandle" ∧ (yX4_breaker).cls ≠ "java/lang/invoke/VarHandle" ∧ (parseMethodDescriptor (yX4_breaker).desc).map (fun d => d.parameters.length) = some 1 := ⟨by decide, by decide, by decide +kernel⟩
def f_X4_breaker_J84 (l1 : Int32) (l2 : Int32) (l3 : Int32) (l4 : Int32) (s0 : Int32) (σ : ZS) : Option (Int32 ⊕ Int32) :=
  (if l4 = 0 then (if s0 = 0 then wi (some l3) else some (.inl (l2 + (-1)))) else some (.inl (l2 + (-1))))
def f_X4_breaker_J54 (l1 : Int32) (l2 : Int32) (l3 : Int32) (s0 : Int32) (σ : ZS) : Option (Int32 ⊕ Int32) :=
  Option.bind (f_X5_at_n l1 (l2 + 1) σ) (fun q5 => Option.bind (f_X1_kind l3 q5 σ) (fun q6 => (if q6 = 1 then f_X4_breaker_J84 l1 l2 l3 s0 1 σ else f_X4_breaker_J84 l1 l2 l3 s0 0 σ)))
def f_X4_breaker_B11 (l1 : Int32) (σ : ZS) (t1 : Int32) : Option (Int32 ⊕ Int32) :=
  (if t1 < 1 then wi (some (-1)) else Option.bind (f_X5_at_n l1 t1 σ) (fun q2 => Option.bind (f_X5_at_n l1 (t1 - 1) σ) (fun q3 => Option.bind (f_X1_kind q2 q3 σ) (fun q4 => (if q4 = 1 then f_X4_breaker_J54 l1 t1 q2 1 σ else f_X4_breaker_J54 l1 t1 q2 0 σ)))))
def f_X4_breaker (p0 : Int32) (σ : ZS) : Option Int32 :=
  Option.bind (f_X5_length_n p0 σ) (fun q1 => lp zF (f_X4_breaker_B11 p0 σ) (q1 - 2))
set_option maxHeartbeats 4000000 in
set_option maxRecDepth 100000 in
theorem c_X4_breaker (l : Launch) (D : va_G) (A : Nat → Prop) (a : Nat → Nat) (x : ClassId × ClassId × ClassId) (σ : ZS) (p0 : Int32) (r : Int32) (h : f_X4_breaker p0 σ = some r) : zM l yX4_breaker w_yX4_breaker ({ frames := 1, cells := 0, slots := 0, locals := 23 } : Room) D A (tyz x) [.ref (a 4), .int p0] (wC a x σ) (some (.int r)) (wC a x σ) := by
  refine z_start [.ref (a 4), .int p0] (lv := [(0, .ref (a 4)), (1, .int p0)]) (by decide) (Nat.le_of_ble_eq_true rfl) rfl ?_
  intro p e s m args below meth c C hr hlk
  unfold f_X4_breaker at h
  refine z_aload_n C 0 rfl dX4_breaker_0 ?_
  refine z_get C iRX4 4 gC_4 rfl 3 (by decide) fl_RX4_12 rfl dX4_breaker_1 ?_
  refine z_iload_n C 1 rfl dX4_breaker_4 ?_
  obtain ⟨q1, hq1, h⟩ := bd_spec h
  refine z_callV1 C [.int p0] [] (v := (.int q1)) rfl (c_X5_length_n l D A a x σ p0 q1 hq1) cd_yX5_length in_RX5 ml_RX4_94 im_yX5_length sl_yX5_length gC_12 rfl hd_yX5_length ⟨⟨Nat.le_of_ble_eq_true rfl, Nat.le_of_ble_eq_true rfl⟩, rfl, rfl⟩ rfl (Nat.le_of_ble_eq_true rfl) ⟨Nat.zero_le _, Nat.zero_le _⟩ dX4_breaker_5 ?_
  refine z_iconst C (v := 2) dX4_breaker_8 (by decide) ?_
  refine z_isub C dX4_breaker_9 ?_
  refine z_istore_n C [(2, .int (q1 - 2)), (0, .ref (a 4)), (1, .int p0)] rfl (by decide) rfl dX4_breaker_10 ?_
  refine z_sub C [1, 2, 0] (lv' := [(0, .ref (a 4)), (1, .int p0), (2, .int (q1 - 2))]) rfl ?_
  have L11 : ∀ (n : Nat) (t1 : Int32), lp n (f_X4_breaker_B11 p0 σ) t1 = some r → zV p l e ({ frames := 1, cells := 0, slots := 0, locals := 23 } : Room) s m args below meth c 0 0 (MQ below (zQ D A (some (.int r)) (wC a x σ)) args s 0 0 A) D A 6 (wC a x σ) 11 [(0, .ref (a 4)), (1, .int p0), (2, .int t1)] [] := by
    intro n1
    induction n1 with
    | zero => exact fun _ h => (lp_zero h).elim
    | succ n1 ih1 =>
      intro t1 h
      obtain ⟨u1, h, hk1⟩ := lp_succ h
      have J84 : ∀ (l2_84 : Int32) (l3_84 : Int32) (l4_84 : Int32) (s0_84 : Int32), f_X4_breaker_J84 p0 l2_84 l3_84 l4_84 s0_84 σ = some u1 → zV p l e ({ frames := 1, cells := 0, slots := 0, locals := 23 } : Room) s m args below meth c 0 0 (MQ below (zQ D A (some (.int r)) (wC a x σ)) args s 0 0 A) D A 6 (wC a x σ) 84 [(0, .ref (a 4)), (1, .int p0), (2, .int l2_84), (3, .int l3_84), (4, .int l4_84)] [.int s0_84] := by
        intro l2_84 l3_84 l4_84 s0_84 h
        unfold f_X4_breaker_J84 at h
        refine z_istore C [(5, .int s0_84), (0, .ref (a 4)), (1, .int p0), (2, .int l2_84), (3, .int l3_84), (4, .int l4_84)] (by decide) rfl dX4_breaker_84 ?_
        refine z_iload C 5 rfl dX4_breaker_86 ?_
        refine z_if_ne C 98 (by decide) dX4_breaker_88 h (fun h => ?_) (fun h => ?_)
        · refine z_iinc C (v := l2_84 + (-1)) [(2, .int (l2_84 + (-1))), (5, .int s0_84), (0, .ref (a 4)), (1, .int p0), (3, .int l3_84), (4, .int l4_84)] 3 rfl (congrArg (HAdd.hAdd l2_84) (by decide)) (by decide) rfl dX4_breaker_98 ?_
          refine z_goto C 11 (by decide) dX4_breaker_101 ?_
          refine z_sub C [2, 3, 0] (lv' := [(0, .ref (a 4)), (1, .int p0), (2, .int (l2_84 + (-1)))]) rfl ?_
          exact ih1 _ (uninl h hk1)
        · refine z_iload C 0 rfl dX4_breaker_91 ?_
          refine z_if_ne C 98 (by decide) dX4_breaker_93 h (fun h => ?_) (fun h => ?_)
          · refine z_iinc C (v := l2_84 + (-1)) [(2, .int (l2_84 + (-1))), (5, .int s0_84), (0, .ref (a 4)), (1, .int p0), (3, .int l3_84), (4, .int l4_84)] 3 rfl (congrArg (HAdd.hAdd l2_84) (by decide)) (by decide) rfl dX4_breaker_98 ?_
            refine z_goto C 11 (by decide) dX4_breaker_101 ?_
            refine z_sub C [2, 3, 0] (lv' := [(0, .ref (a 4)), (1, .int p0), (2, .int (l2_84 + (-1)))]) rfl ?_
            exact ih1 _ (uninl h hk1)
          · refine z_iload_n C 4 rfl dX4_breaker_96 ?_
            have h := unwi h hk1
            cases h
            exact z_iret C hr hlk dX4_breaker_97
      have J54 : ∀ (l2_54 : Int32) (l3_54 : Int32) (s0_54 : Int32), f_X4_breaker_J54 p0 l2_54 l3_54 s0_54 σ = some u1 → zV p l e ({ frames := 1, cells := 0, slots := 0, locals := 23 } : Room) s m args below meth c 0 0 (MQ below (zQ D A (some (.int r)) (wC a x σ)) args s 0 0 A) D A 6 (wC a x σ) 54 [(0, .ref (a 4)), (1, .int p0), (2, .int l2_54), (3, .int l3_54)] [.int s0_54] := by
        intro l2_54 l3_54 s0_54 h
        unfold f_X4_breaker_J54 at h
        refine z_istore C [(4, .int s0_54), (0, .ref (a 4)), (1, .int p0), (2, .int l2_54), (3, .int l3_54)] (by decide) rfl dX4_breaker_54 ?_
        refine z_aload_n C 1 rfl dX4_breaker_56 ?_
        refine z_get C iRX4 4 gC_4 rfl 0 (by decide) fl_RX4_21 rfl dX4_breaker_57 ?_
        refine z_iload_n C 4 rfl dX4_breaker_60 ?_
        refine z_aload_n C 1 rfl dX4_breaker_61 ?_
        refine z_get C iRX4 4 gC_4 rfl 3 (by decide) fl_RX4_12 rfl dX4_breaker_62 ?_
        refine z_iload_n C 2 rfl dX4_breaker_65 ?_
        refine z_iload_n C 3 rfl dX4_breaker_66 ?_
        refine z_iconst C (v := 1) dX4_breaker_67 (by decide) ?_
        refine z_iadd C dX4_breaker_68 ?_
        obtain ⟨q2, hq2, h⟩ := bd_spec h
        refine z_callV1 C [.int p0, .int (l2_54 + 1)] [.int l3_54, .ref (a 1)] (v := (.int q2)) rfl (c_X5_at_n l D A a x σ p0 (l2_54 + 1) q2 hq2) cd_yX5_at in_RX5 ml_RX4_84 im_yX5_at sl_yX5_at gC_12 rfl hd_yX5_at ⟨⟨Nat.le_of_ble_eq_true rfl, Nat.le_of_ble_eq_true rfl⟩, rfl, rfl⟩ rfl (Nat.le_of_ble_eq_true rfl) ⟨Nat.zero_le _, Nat.zero_le _⟩ dX4_breaker_69 ?_
        obtain ⟨q3, hq3, h⟩ := bd_spec h
        refine z_callV1 C [.int l3_54, .int q2] [] (v := (.int q3)) rfl (c_X1_kind l D A a x σ l3_54 q2 q3 hq3) cd_yX1_kind in_RX1 ml_RX4_88 im_yX1_kind sl_yX1_kind gC_1 rfl hd_yX1_kind ⟨⟨Nat.le_of_ble_eq_true rfl, Nat.le_of_ble_eq_true rfl⟩, rfl, rfl⟩ rfl (Nat.le_of_ble_eq_true rfl) ⟨Nat.zero_le _, Nat.zero_le _⟩ dX4_breaker_72 ?_
        refine z_iconst C (v := 1) dX4_breaker_75 (by decide) ?_
        refine z_icmp_ne C 83 (by decide) dX4_breaker_76 h (fun h => ?_) (fun h => ?_)
        · refine z_iconst C (v := 0) dX4_breaker_83 (by decide) ?_
          refine z_sub C [1, 2, 3, 4, 0] (lv' := [(0, .ref (a 4)), (1, .int p0), (2, .int l2_54), (3, .int l3_54), (4, .int s0_54)]) rfl ?_
          exact J84 _ _ _ _ h
        · refine z_iconst C (v := 1) dX4_breaker_79 (by decide) ?_
          refine z_goto C 84 (by decide) dX4_breaker_80 ?_
          refine z_sub C [1, 2, 3, 4, 0] (lv' := [(0, .ref (a 4)), (1, .int p0), (2, .int l2_54), (3, .int l3_54), (4, .int s0_54)]) rfl ?_
          exact J84 _ _ _ _ h
      unfold f_X4_breaker_B11 at h
      refine z_iload_n C 2 rfl dX4_breaker_11 ?_
      refine z_iconst C (v := 1) dX4_breaker_12 (by decide) ?_
      refine z_icmp_lt C 104 (by decide) dX4_breaker_13 h (fun h => ?_) (fun h => ?_)
      · refine z_iconst C (v := (-1)) dX4_breaker_104 (by decide) ?_
        have h := unwi h hk1
        cases h
        exact z_iret C hr hlk dX4_breaker_105
      · refine z_aload_n C 0 rfl dX4_breaker_16 ?_
        refine z_get C iRX4 4 gC_4 rfl 3 (by decide) fl_RX4_12 rfl dX4_breaker_17 ?_
        refine z_iload_n C 1 rfl dX4_breaker_20 ?_
        refine z_iload_n C 2 rfl dX4_breaker_21 ?_
        obtain ⟨q4, hq4, h⟩ := bd_spec h
        refine z_callV1 C [.int p0, .int t1] [] (v := (.int q4)) rfl (c_X5_at_n l D A a x σ p0 t1 q4 hq4) cd_yX5_at in_RX5 ml_RX4_84 im_yX5_at sl_yX5_at gC_12 rfl hd_yX5_at ⟨⟨Nat.le_of_ble_eq_true rfl, Nat.le_of_ble_eq_true rfl⟩, rfl, rfl⟩ rfl (Nat.le_of_ble_eq_true rfl) ⟨Nat.zero_le _, Nat.zero_le _⟩ dX4_breaker_22 ?_
        refine z_istore_n C [(3, .int q4), (0, .ref (a 4)), (1, .int p0), (2, .int t1)] rfl (by decide) rfl dX4_breaker_25 ?_
        refine z_aload_n C 1 rfl dX4_breaker_26 ?_
        refine z_get C iRX4 4 gC_4 rfl 0 (by decide) fl_RX4_21 rfl dX4_breaker_27 ?_
        refine z_iload_n C 0 rfl dX4_breaker_30 ?_
        refine z_aload_n C 1 rfl dX4_breaker_31 ?_
        refine z_get C iRX4 4 gC_4 rfl 3 (by decide) fl_RX4_12 rfl dX4_breaker_32 ?_
        refine z_iload_n C 2 rfl dX4_breaker_35 ?_
        refine z_iload_n C 3 rfl dX4_breaker_36 ?_
        refine z_iconst C (v := 1) dX4_breaker_37 (by decide) ?_
        refine z_isub C dX4_breaker_38 ?_
        obtain ⟨q5, hq5, h⟩ := bd_spec h
        refine z_callV1 C [.int p0, .int (t1 - 1)] [.int q4, .ref (a 1)] (v := (.int q5)) rfl (c_X5_at_n l D A a x σ p0 (t1 - 1) q5 hq5) cd_yX5_at in_RX5 ml_RX4_84 im_yX5_at sl_yX5_at gC_12 rfl hd_yX5_at ⟨⟨Nat.le_of_ble_eq_true rfl, Nat.le_of_ble_eq_true rfl⟩, rfl, rfl⟩ rfl (Nat.le_of_ble_eq_true rfl) ⟨Nat.zero_le _, Nat.zero_le _⟩ dX4_breaker_39 ?_
        obtain ⟨q6, hq6, h⟩ := bd_spec h
        refine z_callV1 C [.int q4, .int q5] [] (v := (.int q6)) rfl (c_X1_kind l D A a x σ q4 q5 q6 hq6) cd_yX1_kind in_RX1 ml_RX4_88 im_yX1_kind sl_yX1_kind gC_1 rfl hd_yX1_kind ⟨⟨Nat.le_of_ble_eq_true rfl, Nat.le_of_ble_eq_true rfl⟩, rfl, rfl⟩ rfl (Nat.le_of_ble_eq_true rfl) ⟨Nat.zero_le _, Nat.zero_le _⟩ dX4_breaker_42 ?_
        refine z_iconst C (v := 1) dX4_breaker_45 (by decide) ?_
        refine z_icmp_ne C 53 (by decide) dX4_breaker_46 h (fun h => ?_) (fun h => ?_)
        · refine z_iconst C (v := 0) dX4_breaker_53 (by decide) ?_
          refine z_sub C [1, 2, 3, 0] (lv' := [(0, .ref (a 4)), (1, .int p0), (2, .int t1), (3, .int q4)]) rfl ?_
          exact J54 _ _ _ h
        · refine z_iconst C (v := 1) dX4_breaker_49 (by decide) ?_
          refine z_goto C 54 (by decide) dX4_breaker_50 ?_
          refine z_sub C [1, 2, 3, 0] (lv' := [(0, .ref (a 4)), (1, .int p0), (2, .int t1), (3, .int q4)]) rfl ?_
          exact J54 _ _ _ h
  exact L11 _ _ h
