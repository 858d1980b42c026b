theorem dX0_fillHops_0 : decode cX0_fillHops 0 = .ok (.iconst 0, 1) := by decide +kernel
theorem dX0_fillHops_1 : decode cX0_fillHops 1 = .ok (.istore_n 2, 1) := by decide +kernel
theorem dX0_fillHops_2 : decode cX0_fillHops 2 = .ok (.iconst 0, 1) := by decide +kernel
theorem dX0_fillHops_3 : decode cX0_fillHops 3 = .ok (.istore_n 3, 1) := by decide +kernel
theorem dX0_fillHops_4 : decode cX0_fillHops 4 = .ok (.iload_n 3, 1) := by decide +kernel
theorem dX0_fillHops_5 : decode cX0_fillHops 5 = .ok (.aload_n 0, 1) := by decide +kernel
theorem dX0_fillHops_6 : decode cX0_fillHops 6 = .ok (.getfield 15, 3) := by decide +kernel
theorem dX0_fillHops_9 : decode cX0_fillHops 9 = .ok (.invokevirtual 31, 3) := by decide +kernel
theorem dX0_fillHops_12 : decode cX0_fillHops 12 = .ok (.if_icmp .ge 63, 3) := by decide +kernel
theorem dX0_fillHops_15 : decode cX0_fillHops 15 = .ok (.iload_n 3, 1) := by decide +kernel
theorem dX0_fillHops_16 : decode cX0_fillHops 16 = .ok (.bipush 10, 2) := by decide +kernel
theorem dX0_fillHops_18 : decode cX0_fillHops 18 = .ok (.if_icmp .ge 57, 3) := by decide +kernel
theorem dX0_fillHops_21 : decode cX0_fillHops 21 = .ok (.aload_n 1, 1) := by decide +kernel
theorem dX0_fillHops_22 : decode cX0_fillHops 22 = .ok (.iload_n 3, 1) := by decide +kernel
theorem dX0_fillHops_23 : decode cX0_fillHops 23 = .ok (.invokevirtual 57, 3) := by decide +kernel
theorem dX0_fillHops_26 : decode cX0_fillHops 26 = .ok (.istore 4, 2) := by decide +kernel
theorem dX0_fillHops_28 : decode cX0_fillHops 28 = .ok (.aload_n 0, 1) := by decide +kernel
theorem dX0_fillHops_29 : decode cX0_fillHops 29 = .ok (.getfield 9, 3) := by decide +kernel
theorem dX0_fillHops_32 : decode cX0_fillHops 32 = .ok (.iload_n 3, 1) := by decide +kernel
theorem dX0_fillHops_33 : decode cX0_fillHops 33 = .ok (.iaload, 1) := by decide +kernel
theorem dX0_fillHops_34 : decode cX0_fillHops 34 = .ok (.bipush (-7), 2) := by decide +kernel
theorem dX0_fillHops_36 : decode cX0_fillHops 36 = .ok (.if_icmp .ne 33, 3) := by decide +kernel
theorem dX0_fillHops_39 : decode cX0_fillHops 39 = .ok (.iload 4, 2) := by decide +kernel
theorem dX0_fillHops_41 : decode cX0_fillHops 41 = .ok (.ifCond .le 28, 3) := by decide +kernel
theorem dX0_fillHops_44 : decode cX0_fillHops 44 = .ok (.aload_n 0, 1) := by decide +kernel
theorem dX0_fillHops_45 : decode cX0_fillHops 45 = .ok (.getfield 9, 3) := by decide +kernel
theorem dX0_fillHops_48 : decode cX0_fillHops 48 = .ok (.iload_n 3, 1) := by decide +kernel
theorem dX0_fillHops_49 : decode cX0_fillHops 49 = .ok (.iload 4, 2) := by decide +kernel
theorem dX0_fillHops_51 : decode cX0_fillHops 51 = .ok (.iconst 1, 1) := by decide +kernel
theorem dX0_fillHops_52 : decode cX0_fillHops 52 = .ok (.if_icmp .ne 7, 3) := by decide +kernel
theorem dX0_fillHops_55 : decode cX0_fillHops 55 = .ok (.iload_n 3, 1) := by decide +kernel
theorem dX0_fillHops_56 : decode cX0_fillHops 56 = .ok (.goto 9, 3) := by decide +kernel
theorem dX0_fillHops_59 : decode cX0_fillHops 59 = .ok (.aload_n 1, 1) := by decide +kernel
theorem dX0_fillHops_60 : decode cX0_fillHops 60 = .ok (.iload_n 3, 1) := by decide +kernel
theorem dX0_fillHops_61 : decode cX0_fillHops 61 = .ok (.iconst 1, 1) := by decide +kernel
theorem dX0_fillHops_62 : decode cX0_fillHops 62 = .ok (.invokevirtual 62, 3) := by decide +kernel
theorem dX0_fillHops_65 : decode cX0_fillHops 65 = .ok (.iastore, 1) := by decide +kernel
theorem dX0_fillHops_66 : decode cX0_fillHops 66 = .ok (.iinc 2 1, 3) := by decide +kernel
theorem dX0_fillHops_69 : decode cX0_fillHops 69 = .ok (.iinc 3 1, 3) := by decide +kernel
theorem dX0_fillHops_72 : decode cX0_fillHops 72 = .ok (.goto (-68), 3) := by decide +kernel
theorem dX0_fillHops_75 : decode cX0_fillHops 75 = .ok (.iload_n 2, 1) := by decide +kernel
theorem dX0_fillHops_76 : decode cX0_fillHops 76 = .ok (.ireturn, 1) := by decide +kernel
theorem hd_yX0_fillHops : (yX0_fillHops).cls ≠ "java/lang/invoke/MethodHandle" ∧ (yX0_fillHops).cls ≠ "java/lang/invoke/VarHandle" ∧ (parseMethodDescriptor (yX0_fillHops).desc).map (fun d => d.parameters.length) = some 1 := ⟨by decide, by decide, by decide +kernel⟩
def f_X0_fillHops_B4  (t1 : (Int32 × Int32 × ZS)) : Option ((Int32 × Int32 × ZS) ⊕ (Int32 × ZS)) :=
  Option.bind (f_X1_number t1.2.2) (fun q1 => (if q1 ≤ t1.2.1 then wi (some (t1.1, t1.2.2)) else (if 10 ≤ t1.2.1 then wi (some (t1.1, t1.2.2)) else Option.bind (f_X5_length_n t1.2.1 t1.2.2) (fun q2 => ld (t1.2.2.2.1 14) 10 t1.2.1 (fun y3 => (if y3 = (-7) then (if q2 ≤ 0 then some (.inl (t1.1, t1.2.1 + 1, t1.2.2)) else (if q2 = 1 then ck (inb t1.2.1 10) (some (.inl (t1.1 + 1, t1.2.1 + 1, setA t1.2.2 14 (Int32.toNatClampNeg t1.2.1) t1.2.1))) else Option.bind (f_X5_at_n t1.2.1 1 t1.2.2) (fun q4 => ck (inb t1.2.1 10) (some (.inl (t1.1 + 1, t1.2.1 + 1, setA t1.2.2 14 (Int32.toNatClampNeg t1.2.1) q4)))))) else some (.inl (t1.1, t1.2.1 + 1, t1.2.2))))))))
def f_X0_fillHops  (σ : ZS) : Option (Int32 × ZS) :=
  lp zF (f_X0_fillHops_B4) (0, 0, σ)
set_option maxHeartbeats 4000000 in
set_option maxRecDepth 100000 in
theorem c_X0_fillHops (l : Launch) (D : va_G) (A : Nat → Prop) (a : Nat → Nat) (x : ClassId × ClassId × ClassId) (σ : ZS)  (r : (Int32 × ZS)) (h : f_X0_fillHops  σ = some r) : zM l yX0_fillHops w_yX0_fillHops ({ frames := 1, cells := 0, slots := 0, locals := 22 } : Room) D A (tyz x) [.ref (a 5), .ref (a 12)] (wC a x σ) (some (.int r.1)) (wC a x r.2) := by
  refine z_start [.ref (a 5), .ref (a 12)] (lv := [(0, .ref (a 5)), (1, .ref (a 12))]) (by decide) (Nat.le_of_ble_eq_true rfl) rfl ?_
  intro p e s m args below meth c C hr hlk
  unfold f_X0_fillHops at h
  refine z_iconst C (v := 0) dX0_fillHops_0 (by decide) ?_
  refine z_istore_n C [(2, .int 0), (0, .ref (a 5)), (1, .ref (a 12))] rfl (by decide) rfl dX0_fillHops_1 ?_
  refine z_iconst C (v := 0) dX0_fillHops_2 (by decide) ?_
  refine z_istore_n C [(3, .int 0), (2, .int 0), (0, .ref (a 5)), (1, .ref (a 12))] rfl (by decide) rfl dX0_fillHops_3 ?_
  refine z_sub C [2, 3, 1, 0] (lv' := [(0, .ref (a 5)), (1, .ref (a 12)), (2, .int 0), (3, .int 0)]) rfl ?_
  have L4 : ∀ (n : Nat) (t1 : (Int32 × Int32 × ZS)), lp n (f_X0_fillHops_B4) t1 = some r → zV p l e ({ frames := 1, cells := 0, slots := 0, locals := 22 } : Room) s m args below meth c 0 0 (MQ below (zQ D A (some (.int r.1)) (wC a x r.2)) args s 0 0 A) D A 5 (wC a x t1.2.2) 4 [(0, .ref (a 5)), (1, .ref (a 12)), (2, .int t1.1), (3, .int t1.2.1)] [] := by
    intro n1
    induction n1 with
    | zero => exact fun _ h => (lp_zero h).elim
    | succ n1 ih1 =>
      intro t1 h
      obtain ⟨u1, h, hk1⟩ := lp_succ h
      unfold f_X0_fillHops_B4 at h
      refine z_iload_n C 3 rfl dX0_fillHops_4 ?_
      refine z_aload_n C 0 rfl dX0_fillHops_5 ?_
      refine z_get C iRX0 5 gC_5 rfl 0 (by decide) fl_RX0_15 rfl dX0_fillHops_6 ?_
      obtain ⟨q1, hq1, h⟩ := bd_spec h
      refine z_callV1 C [] [.int t1.2.1] (v := (.int q1)) rfl (c_X1_number l D A a x t1.2.2  q1 hq1) cd_yX1_number in_RX1 ml_RX0_31 im_yX1_number sl_yX1_number gC_1 rfl hd_yX1_number ⟨⟨Nat.le_of_ble_eq_true rfl, Nat.le_of_ble_eq_true rfl⟩, rfl, rfl⟩ rfl (Nat.le_of_ble_eq_true rfl) ⟨Nat.zero_le _, Nat.zero_le _⟩ dX0_fillHops_9 ?_
      refine z_icmp_ge C 75 (by decide) dX0_fillHops_12 h (fun h => ?_) (fun h => ?_)
      · refine z_iload_n C 2 rfl dX0_fillHops_75 ?_
        have h := unwi h hk1
        cases h
        exact z_iret C hr hlk dX0_fillHops_76
      · refine z_iload_n C 3 rfl dX0_fillHops_15 ?_
        refine z_bipush C (v := 10) dX0_fillHops_16 (by decide) ?_
        refine z_icmp_ge C 75 (by decide) dX0_fillHops_18 h (fun h => ?_) (fun h => ?_)
        · refine z_iload_n C 2 rfl dX0_fillHops_75 ?_
          have h := unwi h hk1
          cases h
          exact z_iret C hr hlk dX0_fillHops_76
        · refine z_aload_n C 1 rfl dX0_fillHops_21 ?_
          refine z_iload_n C 3 rfl dX0_fillHops_22 ?_
          obtain ⟨q2, hq2, h⟩ := bd_spec h
          refine z_callV1 C [.int t1.2.1] [] (v := (.int q2)) rfl (c_X5_length_n l D A a x t1.2.2 t1.2.1 q2 hq2) cd_yX5_length in_RX5 ml_RX0_57 im_yX5_length sl_yX5_length gC_12 rfl hd_yX5_length ⟨⟨Nat.le_of_ble_eq_true rfl, Nat.le_of_ble_eq_true rfl⟩, rfl, rfl⟩ rfl (Nat.le_of_ble_eq_true rfl) ⟨Nat.zero_le _, Nat.zero_le _⟩ dX0_fillHops_23 ?_
          refine z_istore C [(4, .int q2), (0, .ref (a 5)), (1, .ref (a 12)), (2, .int t1.1), (3, .int t1.2.1)] (by decide) rfl dX0_fillHops_26 ?_
          refine z_aload_n C 1 rfl dX0_fillHops_28 ?_
          refine z_get C iRX0 5 gC_5 rfl 4 (by decide) fl_RX0_9 rfl dX0_fillHops_29 ?_
          refine z_iload_n C 4 rfl dX0_fillHops_32 ?_
          refine z_iald C 14 0 gC_14 rfl dX0_fillHops_33 h (fun y3 h => ?_)
          refine z_bipush C (v := (-7)) dX0_fillHops_34 (by decide) ?_
          refine z_icmp_ne C 69 (by decide) dX0_fillHops_36 h (fun h => ?_) (fun h => ?_)
          · refine z_iinc C (v := t1.2.1 + 1) [(3, .int (t1.2.1 + 1)), (4, .int q2), (0, .ref (a 5)), (1, .ref (a 12)), (2, .int t1.1)] 4 rfl rfl (by decide) rfl dX0_fillHops_69 ?_
            refine z_goto C 4 (by decide) dX0_fillHops_72 ?_
            refine z_sub C [2, 3, 4, 0] (lv' := [(0, .ref (a 5)), (1, .ref (a 12)), (2, .int t1.1), (3, .int (t1.2.1 + 1))]) rfl ?_
            exact ih1 _ (uninl h hk1)
          · refine z_iload C 0 rfl dX0_fillHops_39 ?_
            refine z_if_le C 69 (by decide) dX0_fillHops_41 h (fun h => ?_) (fun h => ?_)
            · refine z_iinc C (v := t1.2.1 + 1) [(3, .int (t1.2.1 + 1)), (4, .int q2), (0, .ref (a 5)), (1, .ref (a 12)), (2, .int t1.1)] 4 rfl rfl (by decide) rfl dX0_fillHops_69 ?_
              refine z_goto C 4 (by decide) dX0_fillHops_72 ?_
              refine z_sub C [2, 3, 4, 0] (lv' := [(0, .ref (a 5)), (1, .ref (a 12)), (2, .int t1.1), (3, .int (t1.2.1 + 1))]) rfl ?_
              exact ih1 _ (uninl h hk1)
            · refine z_aload_n C 1 rfl dX0_fillHops_44 ?_
              refine z_get C iRX0 5 gC_5 rfl 4 (by decide) fl_RX0_9 rfl dX0_fillHops_45 ?_
              refine z_iload_n C 4 rfl dX0_fillHops_48 ?_
              refine z_iload C 0 rfl dX0_fillHops_49 ?_
              refine z_iconst C (v := 1) dX0_fillHops_51 (by decide) ?_
              refine z_icmp_ne C 59 (by decide) dX0_fillHops_52 h (fun h => ?_) (fun h => ?_)
              · refine z_aload_n C 2 rfl dX0_fillHops_59 ?_
                refine z_iload_n C 4 rfl dX0_fillHops_60 ?_
                refine z_iconst C (v := 1) dX0_fillHops_61 (by decide) ?_
                obtain ⟨q4, hq4, h⟩ := bd_spec h
                refine z_callV1 C [.int t1.2.1, .int 1] [.int t1.2.1, .ref (a 14)] (v := (.int q4)) rfl (c_X5_at_n l D A a x t1.2.2 t1.2.1 1 q4 hq4) cd_yX5_at in_RX5 ml_RX0_62 im_yX5_at sl_yX5_at gC_12 rfl hd_yX5_at ⟨⟨Nat.le_of_ble_eq_true rfl, Nat.le_of_ble_eq_true rfl⟩, rfl, rfl⟩ rfl (Nat.le_of_ble_eq_true rfl) ⟨Nat.zero_le _, Nat.zero_le _⟩ dX0_fillHops_62 ?_
                refine z_iast C 14 0 gC_14 rfl uC_14 dX0_fillHops_65 h (fun h => ?_)
                refine z_iinc C (v := t1.1 + 1) [(2, .int (t1.1 + 1)), (4, .int q2), (0, .ref (a 5)), (1, .ref (a 12)), (3, .int t1.2.1)] 3 rfl rfl (by decide) rfl dX0_fillHops_66 ?_
                refine z_iinc C (v := t1.2.1 + 1) [(3, .int (t1.2.1 + 1)), (2, .int (t1.1 + 1)), (4, .int q2), (0, .ref (a 5)), (1, .ref (a 12))] 4 rfl rfl (by decide) rfl dX0_fillHops_69 ?_
                refine z_goto C 4 (by decide) dX0_fillHops_72 ?_
                refine z_sub C [3, 4, 1, 0] (lv' := [(0, .ref (a 5)), (1, .ref (a 12)), (2, .int (t1.1 + 1)), (3, .int (t1.2.1 + 1))]) rfl ?_
                exact ih1 _ (uninl h hk1)
              · refine z_iload_n C 4 rfl dX0_fillHops_55 ?_
                refine z_goto C 65 (by decide) dX0_fillHops_56 ?_
                refine z_iast C 14 0 gC_14 rfl uC_14 dX0_fillHops_65 h (fun h => ?_)
                refine z_iinc C (v := t1.1 + 1) [(2, .int (t1.1 + 1)), (4, .int q2), (0, .ref (a 5)), (1, .ref (a 12)), (3, .int t1.2.1)] 3 rfl rfl (by decide) rfl dX0_fillHops_66 ?_
                refine z_iinc C (v := t1.2.1 + 1) [(3, .int (t1.2.1 + 1)), (2, .int (t1.1 + 1)), (4, .int q2), (0, .ref (a 5)), (1, .ref (a 12))] 4 rfl rfl (by decide) rfl dX0_fillHops_69 ?_
                refine z_goto C 4 (by decide) dX0_fillHops_72 ?_
                refine z_sub C [3, 4, 1, 0] (lv' := [(0, .ref (a 5)), (1, .ref (a 12)), (2, .int (t1.1 + 1)), (3, .int (t1.2.1 + 1))]) rfl ?_
                exact ih1 _ (uninl h hk1)
  exact L4 _ _ h
theorem dX0_look_0 : decode cX0_look 0 = .ok (.iconst 0, 1) := by decide +kernel
theorem dX0_look_1 : decode cX0_look 1 = .ok (.istore_n 3, 1) := by decide +kernel
theorem dX0_look_2 : decode cX0_look 2 = .ok (.iload_n 3, 1) := by decide +kernel
theorem dX0_look_3 : decode cX0_look 3 = .ok (.bipush 10, 2) := by decide +kernel
theorem dX0_look_5 : decode cX0_look 5 = .ok (.if_icmp .ge 17, 3) := by decide +kernel
theorem dX0_look_8 : decode cX0_look 8 = .ok (.aload_n 0, 1) := by decide +kernel
theorem dX0_look_9 : decode cX0_look 9 = .ok (.getfield 9, 3) := by decide +kernel
theorem dX0_look_12 : decode cX0_look 12 = .ok (.iload_n 3, 1) := by decide +kernel
theorem dX0_look_13 : decode cX0_look 13 = .ok (.bipush (-7), 2) := by decide +kernel
theorem dX0_look_15 : decode cX0_look 15 = .ok (.iastore, 1) := by decide +kernel
theorem dX0_look_16 : decode cX0_look 16 = .ok (.iinc 3 1, 3) := by decide +kernel
theorem dX0_look_19 : decode cX0_look 19 = .ok (.goto (-17), 3) := by decide +kernel
theorem dX0_look_22 : decode cX0_look 22 = .ok (.aload_n 0, 1) := by decide +kernel
theorem dX0_look_23 : decode cX0_look 23 = .ok (.getfield 15, 3) := by decide +kernel
theorem dX0_look_26 : decode cX0_look 26 = .ok (.invokevirtual 31, 3) := by decide +kernel
theorem dX0_look_29 : decode cX0_look 29 = .ok (.istore_n 3, 1) := by decide +kernel
theorem dX0_look_30 : decode cX0_look 30 = .ok (.bipush 64, 2) := by decide +kernel
theorem dX0_look_32 : decode cX0_look 32 = .ok (.iload_n 1, 1) := by decide +kernel
theorem dX0_look_33 : decode cX0_look 33 = .ok (.iadd, 1) := by decide +kernel
theorem dX0_look_34 : decode cX0_look 34 = .ok (.istore 4, 2) := by decide +kernel
theorem dX0_look_36 : decode cX0_look 36 = .ok (.iload 4, 2) := by decide +kernel
theorem dX0_look_38 : decode cX0_look 38 = .ok (.iconst 1, 1) := by decide +kernel
theorem dX0_look_39 : decode cX0_look 39 = .ok (.if_icmp .lt 52, 3) := by decide +kernel
theorem dX0_look_42 : decode cX0_look 42 = .ok (.iload_n 3, 1) := by decide +kernel
theorem dX0_look_43 : decode cX0_look 43 = .ok (.ifCond .le 48, 3) := by decide +kernel
theorem dX0_look_46 : decode cX0_look 46 = .ok (.aload_n 0, 1) := by decide +kernel
theorem dX0_look_47 : decode cX0_look 47 = .ok (.getfield 23, 3) := by decide +kernel
theorem dX0_look_50 : decode cX0_look 50 = .ok (.iload 4, 2) := by decide +kernel
theorem dX0_look_52 : decode cX0_look 52 = .ok (.invokevirtual 37, 3) := by decide +kernel
theorem dX0_look_55 : decode cX0_look 55 = .ok (.ifCond .eq 27, 3) := by decide +kernel
theorem dX0_look_58 : decode cX0_look 58 = .ok (.aload_n 0, 1) := by decide +kernel
theorem dX0_look_59 : decode cX0_look 59 = .ok (.getfield 27, 3) := by decide +kernel
theorem dX0_look_62 : decode cX0_look 62 = .ok (.iload 4, 2) := by decide +kernel
theorem dX0_look_64 : decode cX0_look 64 = .ok (.iload_n 2, 1) := by decide +kernel
theorem dX0_look_65 : decode cX0_look 65 = .ok (.invokevirtual 43, 3) := by decide +kernel
theorem dX0_look_68 : decode cX0_look 68 = .ok (.iload_n 3, 1) := by decide +kernel
theorem dX0_look_69 : decode cX0_look 69 = .ok (.aload_n 0, 1) := by decide +kernel
theorem dX0_look_70 : decode cX0_look 70 = .ok (.aload_n 0, 1) := by decide +kernel
theorem dX0_look_71 : decode cX0_look 71 = .ok (.getfield 27, 3) := by decide +kernel
theorem dX0_look_74 : decode cX0_look 74 = .ok (.invokevirtual 49, 3) := by decide +kernel
theorem dX0_look_77 : decode cX0_look 77 = .ok (.invokevirtual 53, 3) := by decide +kernel
theorem dX0_look_80 : decode cX0_look 80 = .ok (.isub, 1) := by decide +kernel
theorem dX0_look_81 : decode cX0_look 81 = .ok (.istore_n 3, 1) := by decide +kernel
theorem dX0_look_82 : decode cX0_look 82 = .ok (.iload 4, 2) := by decide +kernel
theorem dX0_look_84 : decode cX0_look 84 = .ok (.iconst 1, 1) := by decide +kernel
theorem dX0_look_85 : decode cX0_look 85 = .ok (.ishr, 1) := by decide +kernel
theorem dX0_look_86 : decode cX0_look 86 = .ok (.istore 4, 2) := by decide +kernel
theorem dX0_look_88 : decode cX0_look 88 = .ok (.goto (-52), 3) := by decide +kernel
theorem dX0_look_91 : decode cX0_look 91 = .ok (.return_, 1) := by decide +kernel
theorem hd_yX0_look : (yX0_look).cls ≠ "java/lang/invoke/MethodHandle" ∧ (yX0_look).cls ≠ "java/lang/invoke/VarHandle" ∧ (parseMethodDescriptor (yX0_look).desc).map (fun d => d.parameters.length) = some 2 := ⟨by decide, by decide, by decide +kernel⟩
def f_X0_look_J82 (l2 : Int32) (l3 : Int32) (l4 : Int32) (σ : ZS) : Option ((Int32 × Int32 × ZS) ⊕ ZS) :=
  some (.inl (l3, l4 >>> (1 &&& 31), σ))
def f_X0_look_B36 (l2 : Int32) (t1 : (Int32 × Int32 × ZS)) : Option ((Int32 × Int32 × ZS) ⊕ ZS) :=
  (if t1.2.1 < 1 then wi (some t1.2.2) else (if t1.1 ≤ 0 then wi (some t1.2.2) else Option.bind (f_X3_sayers t1.2.1 t1.2.2) (fun q2 => (if q2 = 0 then f_X0_look_J82 l2 t1.1 t1.2.1 t1.2.2 else Option.bind (f_X4_settle t1.2.1 l2 t1.2.2) (fun q3 => Option.bind (f_X0_fillHops q3) (fun q5 => f_X0_look_J82 l2 (t1.1 - q5.1) t1.2.1 q5.2))))))
def f_X0_look_J22 (l1 : Int32) (l2 : Int32) (σ : ZS) : Option ZS :=
  Option.bind (f_X1_number σ) (fun q1 => lp zF (f_X0_look_B36 l2) (q1, (64 : Int32) + l1, σ))
def f_X0_look_B2 (l1 : Int32) (l2 : Int32) (t1 : (Int32 × ZS)) : Option ((Int32 × ZS) ⊕ ZS) :=
  (if 10 ≤ t1.1 then wi (f_X0_look_J22 l1 l2 t1.2) else ck (inb t1.1 10) (some (.inl (t1.1 + 1, setA t1.2 14 (Int32.toNatClampNeg t1.1) (-7)))))
def f_X0_look (p0 : Int32) (p1 : Int32) (σ : ZS) : Option ZS :=
  lp zF (f_X0_look_B2 p0 p1) (0, σ)
set_option maxHeartbeats 4000000 in
set_option maxRecDepth 100000 in
theorem c_X0_look (l : Launch) (D : va_G) (A : Nat → Prop) (a : Nat → Nat) (x : ClassId × ClassId × ClassId) (σ : ZS) (p0 : Int32) (p1 : Int32) (r : ZS) (h : f_X0_look p0 p1 σ = some r) : zM l yX0_look w_yX0_look ({ frames := 4, cells := 0, slots := 0, locals := 107 } : Room) D A (tyz x) [.ref (a 5), .int p0, .int p1] (wC a x σ) none (wC a x r) := by
  refine z_start [.ref (a 5), .int p0, .int p1] (lv := [(0, .ref (a 5)), (1, .int p0), (2, .int p1)]) (by decide) (Nat.le_of_ble_eq_true rfl) rfl ?_
  intro p e s m args below meth c C hr hlk
  have J22 : ∀ (σ_22 : ZS), f_X0_look_J22 p0 p1 σ_22 = some r → zV p l e ({ frames := 4, cells := 0, slots := 0, locals := 107 } : Room) s m args below meth c 0 0 (MQ below (zQ D A none (wC a x r)) args s 0 0 A) D A 5 (wC a x σ_22) 22 [(0, .ref (a 5)), (1, .int p0), (2, .int p1)] [] := by
    intro σ_22 h
    unfold f_X0_look_J22 at h
    refine z_aload_n C 0 rfl dX0_look_22 ?_
    refine z_get C iRX0 5 gC_5 rfl 0 (by decide) fl_RX0_15 rfl dX0_look_23 ?_
    obtain ⟨q1, hq1, h⟩ := bd_spec h
    refine z_callV1 C [] [] (v := (.int q1)) rfl (c_X1_number l D A a x σ_22  q1 hq1) cd_yX1_number in_RX1 ml_RX0_31 im_yX1_number sl_yX1_number gC_1 rfl hd_yX1_number ⟨⟨Nat.le_of_ble_eq_true rfl, Nat.le_of_ble_eq_true rfl⟩, rfl, rfl⟩ rfl (Nat.le_of_ble_eq_true rfl) ⟨Nat.zero_le _, Nat.zero_le _⟩ dX0_look_26 ?_
    refine z_istore_n C [(3, .int q1), (0, .ref (a 5)), (1, .int p0), (2, .int p1)] rfl (by decide) rfl dX0_look_29 ?_
    refine z_bipush C (v := 64) dX0_look_30 (by decide) ?_
    refine z_iload_n C 2 rfl dX0_look_32 ?_
    refine z_iadd C dX0_look_33 ?_
    refine z_istore C [(4, .int ((64 : Int32) + p0)), (3, .int q1), (0, .ref (a 5)), (1, .int p0), (2, .int p1)] (by decide) rfl dX0_look_34 ?_
    refine z_sub C [2, 4, 1, 0] (lv' := [(0, .ref (a 5)), (2, .int p1), (3, .int q1), (4, .int ((64 : Int32) + p0))]) rfl ?_
    have L36 : ∀ (n : Nat) (t1 : (Int32 × Int32 × ZS)), lp n (f_X0_look_B36 p1) t1 = some r → zV p l e ({ frames := 4, cells := 0, slots := 0, locals := 107 } : Room) s m args below meth c 0 0 (MQ below (zQ D A none (wC a x r)) args s 0 0 A) D A 5 (wC a x t1.2.2) 36 [(0, .ref (a 5)), (2, .int p1), (3, .int t1.1), (4, .int t1.2.1)] [] := by
      intro n1
      induction n1 with
      | zero => exact fun _ h => (lp_zero h).elim
      | succ n1 ih1 =>
        intro t1 h
        obtain ⟨u1, h, hk1⟩ := lp_succ h
        have J82 : ∀ (l3_82 : Int32) (l4_82 : Int32) (σ_82 : ZS), f_X0_look_J82 p1 l3_82 l4_82 σ_82 = some u1 → zV p l e ({ frames := 4, cells := 0, slots := 0, locals := 107 } : Room) s m args below meth c 0 0 (MQ below (zQ D A none (wC a x r)) args s 0 0 A) D A 5 (wC a x σ_82) 82 [(0, .ref (a 5)), (2, .int p1), (3, .int l3_82), (4, .int l4_82)] [] := by
          intro l3_82 l4_82 σ_82 h
          unfold f_X0_look_J82 at h
          refine z_iload C 3 rfl dX0_look_82 ?_
          refine z_iconst C (v := 1) dX0_look_84 (by decide) ?_
          refine z_ishr C dX0_look_85 ?_
          refine z_istore C [(4, .int (l4_82 >>> (1 &&& 31))), (0, .ref (a 5)), (2, .int p1), (3, .int l3_82)] (by decide) rfl dX0_look_86 ?_
          refine z_goto C 36 (by decide) dX0_look_88 ?_
          refine z_sub C [1, 2, 3, 0] (lv' := [(0, .ref (a 5)), (2, .int p1), (3, .int l3_82), (4, .int (l4_82 >>> (1 &&& 31)))]) rfl ?_
          exact ih1 _ (uninl h hk1)
        unfold f_X0_look_B36 at h
        refine z_iload C 3 rfl dX0_look_36 ?_
        refine z_iconst C (v := 1) dX0_look_38 (by decide) ?_
        refine z_icmp_lt C 91 (by decide) dX0_look_39 h (fun h => ?_) (fun h => ?_)
        · have h := unwi h hk1
          cases h
          exact z_vret C hr hlk dX0_look_91
        · refine z_iload_n C 2 rfl dX0_look_42 ?_
          refine z_if_le C 91 (by decide) dX0_look_43 h (fun h => ?_) (fun h => ?_)
          · have h := unwi h hk1
            cases h
            exact z_vret C hr hlk dX0_look_91
          · refine z_aload_n C 0 rfl dX0_look_46 ?_
            refine z_get C iRX0 5 gC_5 rfl 2 (by decide) fl_RX0_23 rfl dX0_look_47 ?_
            refine z_iload C 3 rfl dX0_look_50 ?_
            obtain ⟨q2, hq2, h⟩ := bd_spec h
            refine z_callV1 C [.int t1.2.1] [] (v := (.int q2)) rfl (c_X3_sayers l D A a x t1.2.2 t1.2.1 q2 hq2) cd_yX3_sayers in_RX3 ml_RX0_37 im_yX3_sayers sl_yX3_sayers gC_3 rfl hd_yX3_sayers ⟨⟨Nat.le_of_ble_eq_true rfl, Nat.le_of_ble_eq_true rfl⟩, rfl, rfl⟩ rfl (Nat.le_of_ble_eq_true rfl) ⟨Nat.zero_le _, Nat.zero_le _⟩ dX0_look_52 ?_
            refine z_if_eq C 82 (by decide) dX0_look_55 h (fun h => ?_) (fun h => ?_)
            · exact J82 _ _ _ h
            · refine z_aload_n C 0 rfl dX0_look_58 ?_
              refine z_get C iRX0 5 gC_5 rfl 3 (by decide) fl_RX0_27 rfl dX0_look_59 ?_
              refine z_iload C 3 rfl dX0_look_62 ?_
              refine z_iload_n C 1 rfl dX0_look_64 ?_
              obtain ⟨q3, hq3, h⟩ := bd_spec h
              refine z_callV0 C [.int t1.2.1, .int p1] [] rfl (c_X4_settle l D A a x t1.2.2 t1.2.1 p1 q3 hq3) cd_yX4_settle in_RX4 ml_RX0_43 im_yX4_settle sl_yX4_settle gC_4 rfl hd_yX4_settle ⟨⟨Nat.le_of_ble_eq_true rfl, Nat.le_of_ble_eq_true rfl⟩, rfl, rfl⟩ rfl (Nat.le_of_ble_eq_true rfl) ⟨Nat.zero_le _, Nat.zero_le _⟩ dX0_look_65 ?_
              refine z_iload_n C 2 rfl dX0_look_68 ?_
              refine z_aload_n C 0 rfl dX0_look_69 ?_
              refine z_aload_n C 0 rfl dX0_look_70 ?_
              refine z_get C iRX0 5 gC_5 rfl 3 (by decide) fl_RX0_27 rfl dX0_look_71 ?_
              refine z_callV1 C [] [.ref (a 5), .int t1.1] (v := (.ref (a 12))) rfl (c_X4_ways l D A a x q3 () rfl) cd_yX4_ways in_RX4 ml_RX0_49 im_yX4_ways sl_yX4_ways gC_4 rfl hd_yX4_ways ⟨⟨Nat.le_of_ble_eq_true rfl, Nat.le_of_ble_eq_true rfl⟩, rfl, rfl⟩ rfl (Nat.le_of_ble_eq_true rfl) ⟨Nat.zero_le _, Nat.zero_le _⟩ dX0_look_74 ?_
              obtain ⟨q5, hq5, h⟩ := bd_spec h
              refine z_callV1 C [.ref (a 12)] [.int t1.1] (v := (.int q5.1)) rfl (c_X0_fillHops l D A a x q3  q5 hq5) cd_yX0_fillHops in_RX0 ml_RX0_53 im_yX0_fillHops sl_yX0_fillHops gC_5 rfl hd_yX0_fillHops ⟨⟨Nat.le_of_ble_eq_true rfl, Nat.le_of_ble_eq_true rfl⟩, rfl, rfl⟩ rfl (Nat.le_of_ble_eq_true rfl) ⟨Nat.zero_le _, Nat.zero_le _⟩ dX0_look_77 ?_
              refine z_isub C dX0_look_80 ?_
              refine z_istore_n C [(3, .int (t1.1 - q5.1)), (0, .ref (a 5)), (2, .int p1), (4, .int t1.2.1)] rfl (by decide) rfl dX0_look_81 ?_
              refine z_sub C [1, 2, 0, 3] (lv' := [(0, .ref (a 5)), (2, .int p1), (3, .int (t1.1 - q5.1)), (4, .int t1.2.1)]) rfl ?_
              exact J82 _ _ _ h
    exact L36 _ _ h
  unfold f_X0_look at h
  refine z_iconst C (v := 0) dX0_look_0 (by decide) ?_
  refine z_istore_n C [(3, .int 0), (0, .ref (a 5)), (1, .int p0), (2, .int p1)] rfl (by decide) rfl dX0_look_1 ?_
  refine z_sub C [1, 2, 3, 0] (lv' := [(0, .ref (a 5)), (1, .int p0), (2, .int p1), (3, .int 0)]) rfl ?_
  have L2 : ∀ (n : Nat) (t1 : (Int32 × ZS)), lp n (f_X0_look_B2 p0 p1) t1 = some r → zV p l e ({ frames := 4, cells := 0, slots := 0, locals := 107 } : Room) s m args below meth c 0 0 (MQ below (zQ D A none (wC a x r)) args s 0 0 A) D A 5 (wC a x t1.2) 2 [(0, .ref (a 5)), (1, .int p0), (2, .int p1), (3, .int t1.1)] [] := by
    intro n1
    induction n1 with
    | zero => exact fun _ h => (lp_zero h).elim
    | succ n1 ih1 =>
      intro t1 h
      obtain ⟨u1, h, hk1⟩ := lp_succ h
      unfold f_X0_look_B2 at h
      refine z_iload_n C 3 rfl dX0_look_2 ?_
      refine z_bipush C (v := 10) dX0_look_3 (by decide) ?_
      refine z_icmp_ge C 22 (by decide) dX0_look_5 h (fun h => ?_) (fun h => ?_)
      · refine z_sub C [0, 1, 2] (lv' := [(0, .ref (a 5)), (1, .int p0), (2, .int p1)]) rfl ?_
        have h := unwi h hk1
        exact J22 _ h
      · refine z_aload_n C 0 rfl dX0_look_8 ?_
        refine z_get C iRX0 5 gC_5 rfl 4 (by decide) fl_RX0_9 rfl dX0_look_9 ?_
        refine z_iload_n C 3 rfl dX0_look_12 ?_
        refine z_bipush C (v := (-7)) dX0_look_13 (by decide) ?_
        refine z_iast C 14 0 gC_14 rfl uC_14 dX0_look_15 h (fun h => ?_)
        refine z_iinc C (v := t1.1 + 1) [(3, .int (t1.1 + 1)), (0, .ref (a 5)), (1, .int p0), (2, .int p1)] 3 rfl rfl (by decide) rfl dX0_look_16 ?_
        refine z_goto C 2 (by decide) dX0_look_19 ?_
        refine z_sub C [1, 2, 3, 0] (lv' := [(0, .ref (a 5)), (1, .int p0), (2, .int p1), (3, .int (t1.1 + 1))]) rfl ?_
        exact ih1 _ (uninl h hk1)
  exact L2 _ _ h
theorem dX0_end_0 : decode cX0_end 0 = .ok (.iload_n 1, 1) := by decide +kernel
theorem dX0_end_1 : decode cX0_end 1 = .ok (.istore_n 2, 1) := by decide +kernel
theorem dX0_end_2 : decode cX0_end 2 = .ok (.iconst 0, 1) := by decide +kernel
theorem dX0_end_3 : decode cX0_end 3 = .ok (.istore_n 3, 1) := by decide +kernel
theorem dX0_end_4 : decode cX0_end 4 = .ok (.iload_n 3, 1) := by decide +kernel
theorem dX0_end_5 : decode cX0_end 5 = .ok (.bipush 10, 2) := by decide +kernel
theorem dX0_end_7 : decode cX0_end 7 = .ok (.if_icmp .ge 54, 3) := by decide +kernel
theorem dX0_end_10 : decode cX0_end 10 = .ok (.iload_n 2, 1) := by decide +kernel
theorem dX0_end_11 : decode cX0_end 11 = .ok (.ifCond .lt 21, 3) := by decide +kernel
theorem dX0_end_14 : decode cX0_end 14 = .ok (.iload_n 2, 1) := by decide +kernel
theorem dX0_end_15 : decode cX0_end 15 = .ok (.aload_n 0, 1) := by decide +kernel
theorem dX0_end_16 : decode cX0_end 16 = .ok (.getfield 9, 3) := by decide +kernel
theorem dX0_end_19 : decode cX0_end 19 = .ok (.arraylength, 1) := by decide +kernel
theorem dX0_end_20 : decode cX0_end 20 = .ok (.if_icmp .ge 12, 3) := by decide +kernel
theorem dX0_end_23 : decode cX0_end 23 = .ok (.aload_n 0, 1) := by decide +kernel
theorem dX0_end_24 : decode cX0_end 24 = .ok (.getfield 9, 3) := by decide +kernel
theorem dX0_end_27 : decode cX0_end 27 = .ok (.iload_n 2, 1) := by decide +kernel
theorem dX0_end_28 : decode cX0_end 28 = .ok (.iaload, 1) := by decide +kernel
theorem dX0_end_29 : decode cX0_end 29 = .ok (.goto 5, 3) := by decide +kernel
theorem dX0_end_32 : decode cX0_end 32 = .ok (.bipush (-7), 2) := by decide +kernel
theorem dX0_end_34 : decode cX0_end 34 = .ok (.istore 4, 2) := by decide +kernel
theorem dX0_end_36 : decode cX0_end 36 = .ok (.iload 4, 2) := by decide +kernel
theorem dX0_end_38 : decode cX0_end 38 = .ok (.bipush (-7), 2) := by decide +kernel
theorem dX0_end_40 : decode cX0_end 40 = .ok (.if_icmp .eq 9, 3) := by decide +kernel
theorem dX0_end_43 : decode cX0_end 43 = .ok (.iload 4, 2) := by decide +kernel
theorem dX0_end_45 : decode cX0_end 45 = .ok (.iload_n 2, 1) := by decide +kernel
theorem dX0_end_46 : decode cX0_end 46 = .ok (.if_icmp .ne 6, 3) := by decide +kernel
theorem dX0_end_49 : decode cX0_end 49 = .ok (.iload 4, 2) := by decide +kernel
theorem dX0_end_51 : decode cX0_end 51 = .ok (.ireturn, 1) := by decide +kernel
theorem dX0_end_52 : decode cX0_end 52 = .ok (.iload 4, 2) := by decide +kernel
theorem dX0_end_54 : decode cX0_end 54 = .ok (.istore_n 2, 1) := by decide +kernel
theorem dX0_end_55 : decode cX0_end 55 = .ok (.iinc 3 1, 3) := by decide +kernel
theorem dX0_end_58 : decode cX0_end 58 = .ok (.goto (-54), 3) := by decide +kernel
theorem dX0_end_61 : decode cX0_end 61 = .ok (.bipush (-8), 2) := by decide +kernel
theorem dX0_end_63 : decode cX0_end 63 = .ok (.ireturn, 1) := by decide +kernel
theorem hd_yX0_end : (yX0_end).cls ≠ "java/lang/invoke/MethodHandle" ∧ (yX0_end).cls ≠ "java/lang/invoke/VarHandle" ∧ (parseMethodDescriptor (yX0_end).desc).map (fun d => d.parameters.length) = some 1 := ⟨by decide, by decide, by decide +kernel⟩
def f_X0_end_J34 (l2 : Int32) (l3 : Int32) (s0 : Int32) (σ : ZS) : Option ((Int32 × Int32) ⊕ Int32) :=
  (if s0 = (-7) then wi (some s0) else (if s0 = l2 then wi (some s0) else some (.inl (s0, l3 + 1))))
def f_X0_end_J32 (l2 : Int32) (l3 : Int32) (σ : ZS) : Option ((Int32 × Int32) ⊕ Int32) :=
  f_X0_end_J34 l2 l3 (-7) σ
def f_X0_end_B4 (σ : ZS) (t1 : (Int32 × Int32)) : Option ((Int32 × Int32) ⊕ Int32) :=
  (if 10 ≤ t1.2 then wi (some (-8)) else (if t1.1 < 0 then f_X0_end_J32 t1.1 t1.2 σ else (if 10 ≤ t1.1 then f_X0_end_J32 t1.1 t1.2 σ else ld (σ.2.1 14) 10 t1.1 (fun y1 => f_X0_end_J34 t1.1 t1.2 y1 σ))))
def f_X0_end (p0 : Int32) (σ : ZS) : Option Int32 :=
  lp zF (f_X0_end_B4 σ) (p0, 0)
set_option maxHeartbeats 4000000 in
set_option maxRecDepth 100000 in
theorem c_X0_end (l : Launch) (D : va_G) (A : Nat → Prop) (a : Nat → Nat) (x : ClassId × ClassId × ClassId) (σ : ZS) (p0 : Int32) (r : Int32) (h : f_X0_end p0 σ = some r) : zM l yX0_end w_yX0_end ({ frames := 0, cells := 0, slots := 0, locals := 0 } : Room) D A (tyz x) [.ref (a 5), .int p0] (wC a x σ) (some (.int r)) (wC a x σ) := by
  refine z_start [.ref (a 5), .int p0] (lv := [(0, .ref (a 5)), (1, .int p0)]) (by decide) (Nat.le_of_ble_eq_true rfl) rfl ?_
  intro p e s m args below meth c C hr hlk
  unfold f_X0_end at h
  refine z_iload_n C 1 rfl dX0_end_0 ?_
  refine z_istore_n C [(2, .int p0), (0, .ref (a 5)), (1, .int p0)] rfl (by decide) rfl dX0_end_1 ?_
  refine z_iconst C (v := 0) dX0_end_2 (by decide) ?_
  refine z_istore_n C [(3, .int 0), (2, .int p0), (0, .ref (a 5)), (1, .int p0)] rfl (by decide) rfl dX0_end_3 ?_
  refine z_sub C [2, 1, 0] (lv' := [(0, .ref (a 5)), (2, .int p0), (3, .int 0)]) rfl ?_
  have L4 : ∀ (n : Nat) (t1 : (Int32 × Int32)), lp n (f_X0_end_B4 σ) t1 = some r → zV p l e ({ frames := 0, cells := 0, slots := 0, locals := 0 } : Room) s m args below meth c 0 0 (MQ below (zQ D A (some (.int r)) (wC a x σ)) args s 0 0 A) D A 5 (wC a x σ) 4 [(0, .ref (a 5)), (2, .int t1.1), (3, .int t1.2)] [] := by
    intro n1
    induction n1 with
    | zero => exact fun _ h => (lp_zero h).elim
    | succ n1 ih1 =>
      intro t1 h
      obtain ⟨u1, h, hk1⟩ := lp_succ h
      have J34 : ∀ (l2_34 : Int32) (l3_34 : Int32) (s0_34 : Int32), f_X0_end_J34 l2_34 l3_34 s0_34 σ = some u1 → zV p l e ({ frames := 0, cells := 0, slots := 0, locals := 0 } : Room) s m args below meth c 0 0 (MQ below (zQ D A (some (.int r)) (wC a x σ)) args s 0 0 A) D A 5 (wC a x σ) 34 [(0, .ref (a 5)), (2, .int l2_34), (3, .int l3_34)] [.int s0_34] := by
        intro l2_34 l3_34 s0_34 h
        unfold f_X0_end_J34 at h
        refine z_istore C [(4, .int s0_34), (0, .ref (a 5)), (2, .int l2_34), (3, .int l3_34)] (by decide) rfl dX0_end_34 ?_
        refine z_iload C 0 rfl dX0_end_36 ?_
        refine z_bipush C (v := (-7)) dX0_end_38 (by decide) ?_
        refine z_icmp_eq C 49 (by decide) dX0_end_40 h (fun h => ?_) (fun h => ?_)
        · refine z_iload C 0 rfl dX0_end_49 ?_
          have h := unwi h hk1
          cases h
          exact z_iret C hr hlk dX0_end_51
        · refine z_iload C 0 rfl dX0_end_43 ?_
          refine z_iload_n C 2 rfl dX0_end_45 ?_
          refine z_icmp_ne C 52 (by decide) dX0_end_46 h (fun h => ?_) (fun h => ?_)
          · refine z_iload C 0 rfl dX0_end_52 ?_
            refine z_istore_n C [(2, .int s0_34), (4, .int s0_34), (0, .ref (a 5)), (3, .int l3_34)] rfl (by decide) rfl dX0_end_54 ?_
            refine z_iinc C (v := l3_34 + 1) [(3, .int (l3_34 + 1)), (2, .int s0_34), (4, .int s0_34), (0, .ref (a 5))] 3 rfl rfl (by decide) rfl dX0_end_55 ?_
            refine z_goto C 4 (by decide) dX0_end_58 ?_
            refine z_sub C [3, 1, 0] (lv' := [(0, .ref (a 5)), (2, .int s0_34), (3, .int (l3_34 + 1))]) rfl ?_
            exact ih1 _ (uninl h hk1)
          · refine z_iload C 0 rfl dX0_end_49 ?_
            have h := unwi h hk1
            cases h
            exact z_iret C hr hlk dX0_end_51
      have J32 : ∀ (l2_32 : Int32) (l3_32 : Int32), f_X0_end_J32 l2_32 l3_32 σ = some u1 → zV p l e ({ frames := 0, cells := 0, slots := 0, locals := 0 } : Room) s m args below meth c 0 0 (MQ below (zQ D A (some (.int r)) (wC a x σ)) args s 0 0 A) D A 5 (wC a x σ) 32 [(0, .ref (a 5)), (2, .int l2_32), (3, .int l3_32)] [] := by
        intro l2_32 l3_32 h
        unfold f_X0_end_J32 at h
        refine z_bipush C (v := (-7)) dX0_end_32 (by decide) ?_
        exact J34 _ _ _ h
      unfold f_X0_end_B4 at h
      refine z_iload_n C 2 rfl dX0_end_4 ?_
      refine z_bipush C (v := 10) dX0_end_5 (by decide) ?_
      refine z_icmp_ge C 61 (by decide) dX0_end_7 h (fun h => ?_) (fun h => ?_)
      · refine z_bipush C (v := (-8)) dX0_end_61 (by decide) ?_
        have h := unwi h hk1
        cases h
        exact z_iret C hr hlk dX0_end_63
      · refine z_iload_n C 1 rfl dX0_end_10 ?_
        refine z_if_lt C 32 (by decide) dX0_end_11 h (fun h => ?_) (fun h => ?_)
        · exact J32 _ _ h
        · refine z_iload_n C 1 rfl dX0_end_14 ?_
          refine z_aload_n C 0 rfl dX0_end_15 ?_
          refine z_get C iRX0 5 gC_5 rfl 4 (by decide) fl_RX0_9 rfl dX0_end_16 ?_
          refine z_alen C 14 0 gC_14 rfl (v := 10) rfl dX0_end_19 ?_
          refine z_icmp_ge C 32 (by decide) dX0_end_20 h (fun h => ?_) (fun h => ?_)
          · exact J32 _ _ h
          · refine z_aload_n C 0 rfl dX0_end_23 ?_
            refine z_get C iRX0 5 gC_5 rfl 4 (by decide) fl_RX0_9 rfl dX0_end_24 ?_
            refine z_iload_n C 1 rfl dX0_end_27 ?_
            refine z_iald C 14 0 gC_14 rfl dX0_end_28 h (fun y1 h => ?_)
            refine z_goto C 34 (by decide) dX0_end_29 ?_
            exact J34 _ _ _ h
  exact L4 _ _ h
theorem dX0_astray_0 : decode cX0_astray 0 = .ok (.aload_n 0, 1) := by decide +kernel
theorem dX0_astray_1 : decode cX0_astray 1 = .ok (.getfield 19, 3) := by decide +kernel
theorem dX0_astray_4 : decode cX0_astray 4 = .ok (.bipush 64, 2) := by decide +kernel
theorem dX0_astray_6 : decode cX0_astray 6 = .ok (.iload_n 1, 1) := by decide +kernel
theorem dX0_astray_7 : decode cX0_astray 7 = .ok (.iadd, 1) := by decide +kernel
theorem dX0_astray_8 : decode cX0_astray 8 = .ok (.invokevirtual 66, 3) := by decide +kernel
theorem dX0_astray_11 : decode cX0_astray 11 = .ok (.istore_n 3, 1) := by decide +kernel
theorem dX0_astray_12 : decode cX0_astray 12 = .ok (.iload_n 3, 1) := by decide +kernel
theorem dX0_astray_13 : decode cX0_astray 13 = .ok (.iconst (-1), 1) := by decide +kernel
theorem dX0_astray_14 : decode cX0_astray 14 = .ok (.if_icmp .ne 5, 3) := by decide +kernel
theorem dX0_astray_17 : decode cX0_astray 17 = .ok (.iconst 0, 1) := by decide +kernel
theorem dX0_astray_18 : decode cX0_astray 18 = .ok (.ireturn, 1) := by decide +kernel
theorem dX0_astray_19 : decode cX0_astray 19 = .ok (.aload_n 0, 1) := by decide +kernel
theorem dX0_astray_20 : decode cX0_astray 20 = .ok (.iload_n 1, 1) := by decide +kernel
theorem dX0_astray_21 : decode cX0_astray 21 = .ok (.iload_n 2, 1) := by decide +kernel
theorem dX0_astray_22 : decode cX0_astray 22 = .ok (.invokevirtual 71, 3) := by decide +kernel
theorem dX0_astray_25 : decode cX0_astray 25 = .ok (.iconst 0, 1) := by decide +kernel
theorem dX0_astray_26 : decode cX0_astray 26 = .ok (.istore 4, 2) := by decide +kernel
theorem dX0_astray_28 : decode cX0_astray 28 = .ok (.iconst 0, 1) := by decide +kernel
theorem dX0_astray_29 : decode cX0_astray 29 = .ok (.istore 5, 2) := by decide +kernel
theorem dX0_astray_31 : decode cX0_astray 31 = .ok (.iload 5, 2) := by decide +kernel
theorem dX0_astray_33 : decode cX0_astray 33 = .ok (.aload_n 0, 1) := by decide +kernel
theorem dX0_astray_34 : decode cX0_astray 34 = .ok (.getfield 15, 3) := by decide +kernel
theorem dX0_astray_37 : decode cX0_astray 37 = .ok (.invokevirtual 31, 3) := by decide +kernel
theorem dX0_astray_40 : decode cX0_astray 40 = .ok (.if_icmp .ge 38, 3) := by decide +kernel
theorem dX0_astray_43 : decode cX0_astray 43 = .ok (.aload_n 0, 1) := by decide +kernel
theorem dX0_astray_44 : decode cX0_astray 44 = .ok (.iload 5, 2) := by decide +kernel
theorem dX0_astray_46 : decode cX0_astray 46 = .ok (.invokevirtual 74, 3) := by decide +kernel
theorem dX0_astray_49 : decode cX0_astray 49 = .ok (.istore 6, 2) := by decide +kernel
theorem dX0_astray_51 : decode cX0_astray 51 = .ok (.iload 6, 2) := by decide +kernel
theorem dX0_astray_53 : decode cX0_astray 53 = .ok (.ifCond .lt 19, 3) := by decide +kernel
theorem dX0_astray_56 : decode cX0_astray 56 = .ok (.iload 6, 2) := by decide +kernel
theorem dX0_astray_58 : decode cX0_astray 58 = .ok (.iload_n 3, 1) := by decide +kernel
theorem dX0_astray_59 : decode cX0_astray 59 = .ok (.if_icmp .eq 13, 3) := by decide +kernel
theorem dX0_astray_62 : decode cX0_astray 62 = .ok (.iload 4, 2) := by decide +kernel
theorem dX0_astray_64 : decode cX0_astray 64 = .ok (.iload 5, 2) := by decide +kernel
theorem dX0_astray_66 : decode cX0_astray 66 = .ok (.invokestatic 77, 3) := by decide +kernel
theorem dX0_astray_69 : decode cX0_astray 69 = .ok (.ior, 1) := by decide +kernel
theorem dX0_astray_70 : decode cX0_astray 70 = .ok (.istore 4, 2) := by decide +kernel
theorem dX0_astray_72 : decode cX0_astray 72 = .ok (.iinc 5 1, 3) := by decide +kernel
theorem dX0_astray_75 : decode cX0_astray 75 = .ok (.goto (-44), 3) := by decide +kernel
theorem dX0_astray_78 : decode cX0_astray 78 = .ok (.iload 4, 2) := by decide +kernel
theorem dX0_astray_80 : decode cX0_astray 80 = .ok (.ireturn, 1) := by decide +kernel
theorem hd_yX0_astray : (yX0_astray).cls ≠ "java/lang/invoke/MethodHandle" ∧ (yX0_astray).cls ≠ "java/lang/invoke/VarHandle" ∧ (parseMethodDescriptor (yX0_astray).desc).map (fun d => d.parameters.length) = some 2 := ⟨by decide, by decide, by decide +kernel⟩
def f_X0_astray_B31 (l3 : Int32) (σ : ZS) (t1 : (Int32 × Int32)) : Option ((Int32 × Int32) ⊕ (Int32 × ZS)) :=
  Option.bind (f_X1_number σ) (fun q3 => (if q3 ≤ t1.2 then wi (some (t1.1, σ)) else Option.bind (f_X0_end t1.2 σ) (fun q4 => (if q4 < 0 then some (.inl (t1.1, t1.2 + 1)) else (if q4 = l3 then some (.inl (t1.1, t1.2 + 1)) else Option.bind (f_X6_bit t1.2) (fun q5 => some (.inl (t1.1 ||| q5, t1.2 + 1))))))))
def f_X0_astray (p0 : Int32) (p1 : Int32) (σ : ZS) : Option (Int32 × ZS) :=
  Option.bind (f_X2_owner ((64 : Int32) + p0) σ) (fun q1 => (if q1 = (-1) then some (0, σ) else Option.bind (f_X0_look p0 p1 σ) (fun q2 => lp zF (f_X0_astray_B31 q1 q2) (0, 0))))
set_option maxHeartbeats 4000000 in
set_option maxRecDepth 100000 in
theorem c_X0_astray (l : Launch) (D : va_G) (A : Nat → Prop) (a : Nat → Nat) (x : ClassId × ClassId × ClassId) (σ : ZS) (p0 : Int32) (p1 : Int32) (r : (Int32 × ZS)) (h : f_X0_astray p0 p1 σ = some r) : zM l yX0_astray w_yX0_astray ({ frames := 5, cells := 0, slots := 0, locals := 131 } : Room) D A (tyz x) [.ref (a 5), .int p0, .int p1] (wC a x σ) (some (.int r.1)) (wC a x r.2) := by
  refine z_start [.ref (a 5), .int p0, .int p1] (lv := [(0, .ref (a 5)), (1, .int p0), (2, .int p1)]) (by decide) (Nat.le_of_ble_eq_true rfl) rfl ?_
  intro p e s m args below meth c C hr hlk
  unfold f_X0_astray at h
  refine z_aload_n C 0 rfl dX0_astray_0 ?_
  refine z_get C iRX0 5 gC_5 rfl 1 (by decide) fl_RX0_19 rfl dX0_astray_1 ?_
  refine z_bipush C (v := 64) dX0_astray_4 (by decide) ?_
  refine z_iload_n C 1 rfl dX0_astray_6 ?_
  refine z_iadd C dX0_astray_7 ?_
  obtain ⟨q1, hq1, h⟩ := bd_spec h
  refine z_callV1 C [.int ((64 : Int32) + p0)] [] (v := (.int q1)) rfl (c_X2_owner l D A a x σ ((64 : Int32) + p0) q1 hq1) cd_yX2_owner in_RX2 ml_RX0_66 im_yX2_owner sl_yX2_owner gC_2 rfl hd_yX2_owner ⟨⟨Nat.le_of_ble_eq_true rfl, Nat.le_of_ble_eq_true rfl⟩, rfl, rfl⟩ rfl (Nat.le_of_ble_eq_true rfl) ⟨Nat.zero_le _, Nat.zero_le _⟩ dX0_astray_8 ?_
  refine z_istore_n C [(3, .int q1), (0, .ref (a 5)), (1, .int p0), (2, .int p1)] rfl (by decide) rfl dX0_astray_11 ?_
  refine z_iload_n C 0 rfl dX0_astray_12 ?_
  refine z_iconst C (v := (-1)) dX0_astray_13 (by decide) ?_
  refine z_icmp_ne C 19 (by decide) dX0_astray_14 h (fun h => ?_) (fun h => ?_)
  · refine z_aload_n C 1 rfl dX0_astray_19 ?_
    refine z_iload_n C 2 rfl dX0_astray_20 ?_
    refine z_iload_n C 3 rfl dX0_astray_21 ?_
    obtain ⟨q2, hq2, h⟩ := bd_spec h
    refine z_callV0 C [.int p0, .int p1] [] rfl (c_X0_look l D A a x σ p0 p1 q2 hq2) cd_yX0_look in_RX0 ml_RX0_71 im_yX0_look sl_yX0_look gC_5 rfl hd_yX0_look ⟨⟨Nat.le_of_ble_eq_true rfl, Nat.le_of_ble_eq_true rfl⟩, rfl, rfl⟩ rfl (Nat.le_of_ble_eq_true rfl) ⟨Nat.zero_le _, Nat.zero_le _⟩ dX0_astray_22 ?_
    refine z_iconst C (v := 0) dX0_astray_25 (by decide) ?_
    refine z_istore C [(4, .int 0), (3, .int q1), (0, .ref (a 5)), (1, .int p0), (2, .int p1)] (by decide) rfl dX0_astray_26 ?_
    refine z_iconst C (v := 0) dX0_astray_28 (by decide) ?_
    refine z_istore C [(5, .int 0), (4, .int 0), (3, .int q1), (0, .ref (a 5)), (1, .int p0), (2, .int p1)] (by decide) rfl dX0_astray_29 ?_
    refine z_sub C [3, 2, 1, 0] (lv' := [(0, .ref (a 5)), (3, .int q1), (4, .int 0), (5, .int 0)]) rfl ?_
    have L31 : ∀ (n : Nat) (t1 : (Int32 × Int32)), lp n (f_X0_astray_B31 q1 q2) t1 = some r → zV p l e ({ frames := 5, cells := 0, slots := 0, locals := 131 } : Room) s m args below meth c 0 0 (MQ below (zQ D A (some (.int r.1)) (wC a x r.2)) args s 0 0 A) D A 7 (wC a x q2) 31 [(0, .ref (a 5)), (3, .int q1), (4, .int t1.1), (5, .int t1.2)] [] := by
      intro n1
      induction n1 with
      | zero => exact fun _ h => (lp_zero h).elim
      | succ n1 ih1 =>
        intro t1 h
        obtain ⟨u1, h, hk1⟩ := lp_succ h
        unfold f_X0_astray_B31 at h
        refine z_iload C 3 rfl dX0_astray_31 ?_
        refine z_aload_n C 0 rfl dX0_astray_33 ?_
        refine z_get C iRX0 5 gC_5 rfl 0 (by decide) fl_RX0_15 rfl dX0_astray_34 ?_
        obtain ⟨q3, hq3, h⟩ := bd_spec h
        refine z_callV1 C [] [.int t1.2] (v := (.int q3)) rfl (c_X1_number l D A a x q2  q3 hq3) cd_yX1_number in_RX1 ml_RX0_31 im_yX1_number sl_yX1_number gC_1 rfl hd_yX1_number ⟨⟨Nat.le_of_ble_eq_true rfl, Nat.le_of_ble_eq_true rfl⟩, rfl, rfl⟩ rfl (Nat.le_of_ble_eq_true rfl) ⟨Nat.zero_le _, Nat.zero_le _⟩ dX0_astray_37 ?_
        refine z_icmp_ge C 78 (by decide) dX0_astray_40 h (fun h => ?_) (fun h => ?_)
        · refine z_iload C 2 rfl dX0_astray_78 ?_
          have h := unwi h hk1
          cases h
          exact z_iret C hr hlk dX0_astray_80
        · refine z_aload_n C 0 rfl dX0_astray_43 ?_
          refine z_iload C 3 rfl dX0_astray_44 ?_
          obtain ⟨q4, hq4, h⟩ := bd_spec h
          refine z_callV1 C [.int t1.2] [] (v := (.int q4)) rfl (c_X0_end l D A a x q2 t1.2 q4 hq4) cd_yX0_end in_RX0 ml_RX0_74 im_yX0_end sl_yX0_end gC_5 rfl hd_yX0_end ⟨⟨Nat.le_of_ble_eq_true rfl, Nat.le_of_ble_eq_true rfl⟩, rfl, rfl⟩ rfl (Nat.le_of_ble_eq_true rfl) ⟨Nat.zero_le _, Nat.zero_le _⟩ dX0_astray_46 ?_
          refine z_istore C [(6, .int q4), (0, .ref (a 5)), (3, .int q1), (4, .int t1.1), (5, .int t1.2)] (by decide) rfl dX0_astray_49 ?_
          refine z_iload C 0 rfl dX0_astray_51 ?_
          refine z_if_lt C 72 (by decide) dX0_astray_53 h (fun h => ?_) (fun h => ?_)
          · refine z_iinc C (v := t1.2 + 1) [(5, .int (t1.2 + 1)), (6, .int q4), (0, .ref (a 5)), (3, .int q1), (4, .int t1.1)] 4 rfl rfl (by decide) rfl dX0_astray_72 ?_
            refine z_goto C 31 (by decide) dX0_astray_75 ?_
            refine z_sub C [2, 3, 4, 0] (lv' := [(0, .ref (a 5)), (3, .int q1), (4, .int t1.1), (5, .int (t1.2 + 1))]) rfl ?_
            exact ih1 _ (uninl h hk1)
          · refine z_iload C 0 rfl dX0_astray_56 ?_
            refine z_iload_n C 2 rfl dX0_astray_58 ?_
            refine z_icmp_eq C 72 (by decide) dX0_astray_59 h (fun h => ?_) (fun h => ?_)
            · refine z_iinc C (v := t1.2 + 1) [(5, .int (t1.2 + 1)), (6, .int q4), (0, .ref (a 5)), (3, .int q1), (4, .int t1.1)] 4 rfl rfl (by decide) rfl dX0_astray_72 ?_
              refine z_goto C 31 (by decide) dX0_astray_75 ?_
              refine z_sub C [2, 3, 4, 0] (lv' := [(0, .ref (a 5)), (3, .int q1), (4, .int t1.1), (5, .int (t1.2 + 1))]) rfl ?_
              exact ih1 _ (uninl h hk1)
            · refine z_iload C 3 rfl dX0_astray_62 ?_
              refine z_iload C 4 rfl dX0_astray_64 ?_
              obtain ⟨q5, hq5, h⟩ := bd_spec h
              refine z_callSN1 C [.int t1.2] [.int t1.1] (v := .int q5) 12 rfl (c_X6_bit l D A (tyz x) (wC a x q2) t1.2 q5 hq5) cd_yX6_bit in_RX6 rfl sm_yX6_bit hd_yX6_bit ⟨⟨Nat.le_of_ble_eq_true rfl, Nat.le_of_ble_eq_true rfl⟩, rfl, rfl⟩ rfl (Nat.le_of_ble_eq_true rfl) ⟨Nat.zero_le _, Nat.zero_le _⟩ dX0_astray_66 ?_
              refine z_ior C dX0_astray_69 ?_
              refine z_istore C [(4, .int (t1.1 ||| q5)), (6, .int q4), (0, .ref (a 5)), (3, .int q1), (5, .int t1.2)] (by decide) rfl dX0_astray_70 ?_
              refine z_iinc C (v := t1.2 + 1) [(5, .int (t1.2 + 1)), (4, .int (t1.1 ||| q5)), (6, .int q4), (0, .ref (a 5)), (3, .int q1)] 4 rfl rfl (by decide) rfl dX0_astray_72 ?_
              refine z_goto C 31 (by decide) dX0_astray_75 ?_
              refine z_sub C [3, 4, 1, 0] (lv' := [(0, .ref (a 5)), (3, .int q1), (4, .int (t1.1 ||| q5)), (5, .int (t1.2 + 1))]) rfl ?_
              exact ih1 _ (uninl h hk1)
    exact L31 _ _ h
  · refine z_iconst C (v := 0) dX0_astray_17 (by decide) ?_
    cases h
    exact z_iret C hr hlk dX0_astray_18
theorem dX0_allSayers_0 : decode cX0_allSayers 0 = .ok (.iconst 0, 1) := by decide +kernel
theorem dX0_allSayers_1 : decode cX0_allSayers 1 = .ok (.istore_n 2, 1) := by decide +kernel
theorem dX0_allSayers_2 : decode cX0_allSayers 2 = .ok (.bipush 64, 2) := by decide +kernel
theorem dX0_allSayers_4 : decode cX0_allSayers 4 = .ok (.iload_n 1, 1) := by decide +kernel
theorem dX0_allSayers_5 : decode cX0_allSayers 5 = .ok (.iadd, 1) := by decide +kernel
theorem dX0_allSayers_6 : decode cX0_allSayers 6 = .ok (.istore_n 3, 1) := by decide +kernel
theorem dX0_allSayers_7 : decode cX0_allSayers 7 = .ok (.iload_n 3, 1) := by decide +kernel
theorem dX0_allSayers_8 : decode cX0_allSayers 8 = .ok (.iconst 1, 1) := by decide +kernel
theorem dX0_allSayers_9 : decode cX0_allSayers 9 = .ok (.if_icmp .lt 21, 3) := by decide +kernel
theorem dX0_allSayers_12 : decode cX0_allSayers 12 = .ok (.iload_n 2, 1) := by decide +kernel
theorem dX0_allSayers_13 : decode cX0_allSayers 13 = .ok (.aload_n 0, 1) := by decide +kernel
theorem dX0_allSayers_14 : decode cX0_allSayers 14 = .ok (.getfield 23, 3) := by decide +kernel
theorem dX0_allSayers_17 : decode cX0_allSayers 17 = .ok (.iload_n 3, 1) := by decide +kernel
theorem dX0_allSayers_18 : decode cX0_allSayers 18 = .ok (.invokevirtual 37, 3) := by decide +kernel
theorem dX0_allSayers_21 : decode cX0_allSayers 21 = .ok (.ior, 1) := by decide +kernel
theorem dX0_allSayers_22 : decode cX0_allSayers 22 = .ok (.istore_n 2, 1) := by decide +kernel
theorem dX0_allSayers_23 : decode cX0_allSayers 23 = .ok (.iload_n 3, 1) := by decide +kernel
theorem dX0_allSayers_24 : decode cX0_allSayers 24 = .ok (.iconst 1, 1) := by decide +kernel
theorem dX0_allSayers_25 : decode cX0_allSayers 25 = .ok (.ishr, 1) := by decide +kernel
theorem dX0_allSayers_26 : decode cX0_allSayers 26 = .ok (.istore_n 3, 1) := by decide +kernel
theorem dX0_allSayers_27 : decode cX0_allSayers 27 = .ok (.goto (-20), 3) := by decide +kernel
theorem dX0_allSayers_30 : decode cX0_allSayers 30 = .ok (.iload_n 2, 1) := by decide +kernel
theorem dX0_allSayers_31 : decode cX0_allSayers 31 = .ok (.ireturn, 1) := by decide +kernel
theorem hd_yX0_allSayers : (yX0_allSayers).cls ≠ "java/lang/invoke/MethodHandle" ∧ (yX0_allSayers).cls ≠ "java/lang/invoke/VarHandle" ∧ (parseMethodDescriptor (yX0_allSayers).desc).map (fun d => d.parameters.length) = some 1 := ⟨by decide, by decide, by decide +kernel⟩
def f_X0_allSayers_B7 (σ : ZS) (t1 : (Int32 × Int32)) : Option ((Int32 × Int32) ⊕ Int32) :=
  (if t1.2 < 1 then wi (some t1.1) else Option.bind (f_X3_sayers t1.2 σ) (fun q1 => some (.inl (t1.1 ||| q1, t1.2 >>> (1 &&& 31)))))
def f_X0_allSayers (p0 : Int32) (σ : ZS) : Option Int32 :=
  lp zF (f_X0_allSayers_B7 σ) (0, (64 : Int32) + p0)
set_option maxHeartbeats 4000000 in
set_option maxRecDepth 100000 in
theorem c_X0_allSayers (l : Launch) (D : va_G) (A : Nat → Prop) (a : Nat → Nat) (x : ClassId × ClassId × ClassId) (σ : ZS) (p0 : Int32) (r : Int32) (h : f_X0_allSayers p0 σ = some r) : zM l yX0_allSayers w_yX0_allSayers ({ frames := 2, cells := 0, slots := 0, locals := 41 } : Room) D A (tyz x) [.ref (a 5), .int p0] (wC a x σ) (some (.int r)) (wC a x σ) := by
  refine z_start [.ref (a 5), .int p0] (lv := [(0, .ref (a 5)), (1, .int p0)]) (by decide) (Nat.le_of_ble_eq_true rfl) rfl ?_
  intro p e s m args below meth c C hr hlk
  unfold f_X0_allSayers at h
  refine z_iconst C (v := 0) dX0_allSayers_0 (by decide) ?_
  refine z_istore_n C [(2, .int 0), (0, .ref (a 5)), (1, .int p0)] rfl (by decide) rfl dX0_allSayers_1 ?_
  refine z_bipush C (v := 64) dX0_allSayers_2 (by decide) ?_
  refine z_iload_n C 2 rfl dX0_allSayers_4 ?_
  refine z_iadd C dX0_allSayers_5 ?_
  refine z_istore_n C [(3, .int ((64 : Int32) + p0)), (2, .int 0), (0, .ref (a 5)), (1, .int p0)] rfl (by decide) rfl dX0_allSayers_6 ?_
  refine z_sub C [2, 1, 0] (lv' := [(0, .ref (a 5)), (2, .int 0), (3, .int ((64 : Int32) + p0))]) rfl ?_
  have L7 : ∀ (n : Nat) (t1 : (Int32 × Int32)), lp n (f_X0_allSayers_B7 σ) t1 = some r → zV p l e ({ frames := 2, cells := 0, slots := 0, locals := 41 } : Room) s m args below meth c 0 0 (MQ below (zQ D A (some (.int r)) (wC a x σ)) args s 0 0 A) D A 4 (wC a x σ) 7 [(0, .ref (a 5)), (2, .int t1.1), (3, .int t1.2)] [] := by
    intro n1
    induction n1 with
    | zero => exact fun _ h => (lp_zero h).elim
    | succ n1 ih1 =>
      intro t1 h
      obtain ⟨u1, h, hk1⟩ := lp_succ h
      unfold f_X0_allSayers_B7 at h
      refine z_iload_n C 2 rfl dX0_allSayers_7 ?_
      refine z_iconst C (v := 1) dX0_allSayers_8 (by decide) ?_
      refine z_icmp_lt C 30 (by decide) dX0_allSayers_9 h (fun h => ?_) (fun h => ?_)
      · refine z_iload_n C 1 rfl dX0_allSayers_30 ?_
        have h := unwi h hk1
        cases h
        exact z_iret C hr hlk dX0_allSayers_31
      · refine z_iload_n C 1 rfl dX0_allSayers_12 ?_
        refine z_aload_n C 0 rfl dX0_allSayers_13 ?_
        refine z_get C iRX0 5 gC_5 rfl 2 (by decide) fl_RX0_23 rfl dX0_allSayers_14 ?_
        refine z_iload_n C 2 rfl dX0_allSayers_17 ?_
        obtain ⟨q1, hq1, h⟩ := bd_spec h
        refine z_callV1 C [.int t1.2] [.int t1.1] (v := (.int q1)) rfl (c_X3_sayers l D A a x σ t1.2 q1 hq1) cd_yX3_sayers in_RX3 ml_RX0_37 im_yX3_sayers sl_yX3_sayers gC_3 rfl hd_yX3_sayers ⟨⟨Nat.le_of_ble_eq_true rfl, Nat.le_of_ble_eq_true rfl⟩, rfl, rfl⟩ rfl (Nat.le_of_ble_eq_true rfl) ⟨Nat.zero_le _, Nat.zero_le _⟩ dX0_allSayers_18 ?_
        refine z_ior C dX0_allSayers_21 ?_
        refine z_istore_n C [(2, .int (t1.1 ||| q1)), (0, .ref (a 5)), (3, .int t1.2)] rfl (by decide) rfl dX0_allSayers_22 ?_
        refine z_iload_n C 2 rfl dX0_allSayers_23 ?_
        refine z_iconst C (v := 1) dX0_allSayers_24 (by decide) ?_
        refine z_ishr C dX0_allSayers_25 ?_
        refine z_istore_n C [(3, .int (t1.2 >>> (1 &&& 31))), (2, .int (t1.1 ||| q1)), (0, .ref (a 5))] rfl (by decide) rfl dX0_allSayers_26 ?_
        refine z_goto C 7 (by decide) dX0_allSayers_27 ?_
        refine z_sub C [2, 1, 0] (lv' := [(0, .ref (a 5)), (2, .int (t1.1 ||| q1)), (3, .int (t1.2 >>> (1 &&& 31)))]) rfl ?_
        exact ih1 _ (uninl h hk1)
  exact L7 _ _ h
theorem dX0_helpers_0 : decode cX0_helpers 0 = .ok (.iconst 0, 1) := by decide +kernel
theorem dX0_helpers_1 : decode cX0_helpers 1 = .ok (.istore_n 2, 1) := by decide +kernel
theorem dX0_helpers_2 : decode cX0_helpers 2 = .ok (.bipush 64, 2) := by decide +kernel
theorem dX0_helpers_4 : decode cX0_helpers 4 = .ok (.iload_n 1, 1) := by decide +kernel
theorem dX0_helpers_5 : decode cX0_helpers 5 = .ok (.iadd, 1) := by decide +kernel
theorem dX0_helpers_6 : decode cX0_helpers 6 = .ok (.istore_n 3, 1) := by decide +kernel
theorem dX0_helpers_7 : decode cX0_helpers 7 = .ok (.iload_n 3, 1) := by decide +kernel
theorem dX0_helpers_8 : decode cX0_helpers 8 = .ok (.iconst 1, 1) := by decide +kernel
theorem dX0_helpers_9 : decode cX0_helpers 9 = .ok (.if_icmp .lt 56, 3) := by decide +kernel
theorem dX0_helpers_12 : decode cX0_helpers 12 = .ok (.aload_n 0, 1) := by decide +kernel
theorem dX0_helpers_13 : decode cX0_helpers 13 = .ok (.getfield 19, 3) := by decide +kernel
theorem dX0_helpers_16 : decode cX0_helpers 16 = .ok (.iload_n 3, 1) := by decide +kernel
theorem dX0_helpers_17 : decode cX0_helpers 17 = .ok (.invokevirtual 66, 3) := by decide +kernel
theorem dX0_helpers_20 : decode cX0_helpers 20 = .ok (.istore 4, 2) := by decide +kernel
theorem dX0_helpers_22 : decode cX0_helpers 22 = .ok (.aload_n 0, 1) := by decide +kernel
theorem dX0_helpers_23 : decode cX0_helpers 23 = .ok (.getfield 23, 3) := by decide +kernel
theorem dX0_helpers_26 : decode cX0_helpers 26 = .ok (.iload_n 3, 1) := by decide +kernel
theorem dX0_helpers_27 : decode cX0_helpers 27 = .ok (.invokevirtual 37, 3) := by decide +kernel
theorem dX0_helpers_30 : decode cX0_helpers 30 = .ok (.istore 5, 2) := by decide +kernel
theorem dX0_helpers_32 : decode cX0_helpers 32 = .ok (.iload 4, 2) := by decide +kernel
theorem dX0_helpers_34 : decode cX0_helpers 34 = .ok (.iconst (-1), 1) := by decide +kernel
theorem dX0_helpers_35 : decode cX0_helpers 35 = .ok (.if_icmp .eq 23, 3) := by decide +kernel
theorem dX0_helpers_38 : decode cX0_helpers 38 = .ok (.iload 5, 2) := by decide +kernel
theorem dX0_helpers_40 : decode cX0_helpers 40 = .ok (.iload 4, 2) := by decide +kernel
theorem dX0_helpers_42 : decode cX0_helpers 42 = .ok (.invokestatic 77, 3) := by decide +kernel
theorem dX0_helpers_45 : decode cX0_helpers 45 = .ok (.iconst (-1), 1) := by decide +kernel
theorem dX0_helpers_46 : decode cX0_helpers 46 = .ok (.ixor, 1) := by decide +kernel
theorem dX0_helpers_47 : decode cX0_helpers 47 = .ok (.iand, 1) := by decide +kernel
theorem dX0_helpers_48 : decode cX0_helpers 48 = .ok (.ifCond .eq 10, 3) := by decide +kernel
theorem dX0_helpers_51 : decode cX0_helpers 51 = .ok (.iload_n 2, 1) := by decide +kernel
theorem dX0_helpers_52 : decode cX0_helpers 52 = .ok (.iload 5, 2) := by decide +kernel
theorem dX0_helpers_54 : decode cX0_helpers 54 = .ok (.iconst (-1), 1) := by decide +kernel
theorem dX0_helpers_55 : decode cX0_helpers 55 = .ok (.ixor, 1) := by decide +kernel
theorem dX0_helpers_56 : decode cX0_helpers 56 = .ok (.ior, 1) := by decide +kernel
theorem dX0_helpers_57 : decode cX0_helpers 57 = .ok (.istore_n 2, 1) := by decide +kernel
theorem dX0_helpers_58 : decode cX0_helpers 58 = .ok (.iload_n 3, 1) := by decide +kernel
theorem dX0_helpers_59 : decode cX0_helpers 59 = .ok (.iconst 1, 1) := by decide +kernel
theorem dX0_helpers_60 : decode cX0_helpers 60 = .ok (.ishr, 1) := by decide +kernel
theorem dX0_helpers_61 : decode cX0_helpers 61 = .ok (.istore_n 3, 1) := by decide +kernel
theorem dX0_helpers_62 : decode cX0_helpers 62 = .ok (.goto (-55), 3) := by decide +kernel
theorem dX0_helpers_65 : decode cX0_helpers 65 = .ok (.iload_n 2, 1) := by decide +kernel
theorem dX0_helpers_66 : decode cX0_helpers 66 = .ok (.aload_n 0, 1) := by decide +kernel
theorem dX0_helpers_67 : decode cX0_helpers 67 = .ok (.getfield 15, 3) := by decide +kernel
theorem dX0_helpers_70 : decode cX0_helpers 70 = .ok (.invokevirtual 80, 3) := by decide +kernel
theorem dX0_helpers_73 : decode cX0_helpers 73 = .ok (.iconst (-1), 1) := by decide +kernel
theorem dX0_helpers_74 : decode cX0_helpers 74 = .ok (.ixor, 1) := by decide +kernel
theorem dX0_helpers_75 : decode cX0_helpers 75 = .ok (.iand, 1) := by decide +kernel
theorem dX0_helpers_76 : decode cX0_helpers 76 = .ok (.ireturn, 1) := by decide +kernel
theorem hd_yX0_helpers : (yX0_helpers).cls ≠ "java/lang/invoke/MethodHandle" ∧ (yX0_helpers).cls ≠ "java/lang/invoke/VarHandle" ∧ (parseMethodDescriptor (yX0_helpers).desc).map (fun d => d.parameters.length) = some 1 := ⟨by decide, by decide, by decide +kernel⟩
def f_X0_helpers_J58 (l2 : Int32) (l3 : Int32) (σ : ZS) : Option ((Int32 × Int32) ⊕ Int32) :=
  some (.inl (l2, l3 >>> (1 &&& 31)))
def f_X0_helpers_J65 (l2 : Int32) (σ : ZS) : Option Int32 :=
  Option.bind (f_X1_refusing σ) (fun q4 => some (l2 &&& (q4 ^^^ (-1))))
def f_X0_helpers_B7 (σ : ZS) (t1 : (Int32 × Int32)) : Option ((Int32 × Int32) ⊕ Int32) :=
  (if t1.2 < 1 then wi (f_X0_helpers_J65 t1.1 σ) else Option.bind (f_X2_owner t1.2 σ) (fun q1 => Option.bind (f_X3_sayers t1.2 σ) (fun q2 => (if q1 = (-1) then f_X0_helpers_J58 t1.1 t1.2 σ else Option.bind (f_X6_bit q1) (fun q3 => (if (q2 &&& (q3 ^^^ (-1))) = 0 then f_X0_helpers_J58 t1.1 t1.2 σ else f_X0_helpers_J58 (t1.1 ||| (q2 ^^^ (-1))) t1.2 σ))))))
def f_X0_helpers (p0 : Int32) (σ : ZS) : Option Int32 :=
  lp zF (f_X0_helpers_B7 σ) (0, (64 : Int32) + p0)
set_option maxHeartbeats 4000000 in
set_option maxRecDepth 100000 in
theorem c_X0_helpers (l : Launch) (D : va_G) (A : Nat → Prop) (a : Nat → Nat) (x : ClassId × ClassId × ClassId) (σ : ZS) (p0 : Int32) (r : Int32) (h : f_X0_helpers p0 σ = some r) : zM l yX0_helpers w_yX0_helpers ({ frames := 3, cells := 0, slots := 0, locals := 64 } : Room) D A (tyz x) [.ref (a 5), .int p0] (wC a x σ) (some (.int r)) (wC a x σ) := by
  refine z_start [.ref (a 5), .int p0] (lv := [(0, .ref (a 5)), (1, .int p0)]) (by decide) (Nat.le_of_ble_eq_true rfl) rfl ?_
  intro p e s m args below meth c C hr hlk
  have J65 : ∀ (l2_65 : Int32), f_X0_helpers_J65 l2_65 σ = some r → zV p l e ({ frames := 3, cells := 0, slots := 0, locals := 64 } : Room) s m args below meth c 0 0 (MQ below (zQ D A (some (.int r)) (wC a x σ)) args s 0 0 A) D A 6 (wC a x σ) 65 [(0, .ref (a 5)), (2, .int l2_65)] [] := by
    intro l2_65 h
    unfold f_X0_helpers_J65 at h
    refine z_iload_n C 1 rfl dX0_helpers_65 ?_
    refine z_aload_n C 0 rfl dX0_helpers_66 ?_
    refine z_get C iRX0 5 gC_5 rfl 0 (by decide) fl_RX0_15 rfl dX0_helpers_67 ?_
    obtain ⟨q1, hq1, h⟩ := bd_spec h
    refine z_callV1 C [] [.int l2_65] (v := (.int q1)) rfl (c_X1_refusing l D A a x σ  q1 hq1) cd_yX1_refusing in_RX1 ml_RX0_80 im_yX1_refusing sl_yX1_refusing gC_1 rfl hd_yX1_refusing ⟨⟨Nat.le_of_ble_eq_true rfl, Nat.le_of_ble_eq_true rfl⟩, rfl, rfl⟩ rfl (Nat.le_of_ble_eq_true rfl) ⟨Nat.zero_le _, Nat.zero_le _⟩ dX0_helpers_70 ?_
    refine z_iconst C (v := (-1)) dX0_helpers_73 (by decide) ?_
    refine z_ixor C dX0_helpers_74 ?_
    refine z_iand C dX0_helpers_75 ?_
    cases h
    exact z_iret C hr hlk dX0_helpers_76
  unfold f_X0_helpers at h
  refine z_iconst C (v := 0) dX0_helpers_0 (by decide) ?_
  refine z_istore_n C [(2, .int 0), (0, .ref (a 5)), (1, .int p0)] rfl (by decide) rfl dX0_helpers_1 ?_
  refine z_bipush C (v := 64) dX0_helpers_2 (by decide) ?_
  refine z_iload_n C 2 rfl dX0_helpers_4 ?_
  refine z_iadd C dX0_helpers_5 ?_
  refine z_istore_n C [(3, .int ((64 : Int32) + p0)), (2, .int 0), (0, .ref (a 5)), (1, .int p0)] rfl (by decide) rfl dX0_helpers_6 ?_
  refine z_sub C [2, 1, 0] (lv' := [(0, .ref (a 5)), (2, .int 0), (3, .int ((64 : Int32) + p0))]) rfl ?_
  have L7 : ∀ (n : Nat) (t1 : (Int32 × Int32)), lp n (f_X0_helpers_B7 σ) t1 = some r → zV p l e ({ frames := 3, cells := 0, slots := 0, locals := 64 } : Room) s m args below meth c 0 0 (MQ below (zQ D A (some (.int r)) (wC a x σ)) args s 0 0 A) D A 6 (wC a x σ) 7 [(0, .ref (a 5)), (2, .int t1.1), (3, .int t1.2)] [] := by
    intro n1
    induction n1 with
    | zero => exact fun _ h => (lp_zero h).elim
    | succ n1 ih1 =>
      intro t1 h
      obtain ⟨u1, h, hk1⟩ := lp_succ h
      have J58 : ∀ (l2_58 : Int32) (l3_58 : Int32), f_X0_helpers_J58 l2_58 l3_58 σ = some u1 → zV p l e ({ frames := 3, cells := 0, slots := 0, locals := 64 } : Room) s m args below meth c 0 0 (MQ below (zQ D A (some (.int r)) (wC a x σ)) args s 0 0 A) D A 6 (wC a x σ) 58 [(0, .ref (a 5)), (2, .int l2_58), (3, .int l3_58)] [] := by
        intro l2_58 l3_58 h
        unfold f_X0_helpers_J58 at h
        refine z_iload_n C 2 rfl dX0_helpers_58 ?_
        refine z_iconst C (v := 1) dX0_helpers_59 (by decide) ?_
        refine z_ishr C dX0_helpers_60 ?_
        refine z_istore_n C [(3, .int (l3_58 >>> (1 &&& 31))), (0, .ref (a 5)), (2, .int l2_58)] rfl (by decide) rfl dX0_helpers_61 ?_
        refine z_goto C 7 (by decide) dX0_helpers_62 ?_
        refine z_sub C [1, 2, 0] (lv' := [(0, .ref (a 5)), (2, .int l2_58), (3, .int (l3_58 >>> (1 &&& 31)))]) rfl ?_
        exact ih1 _ (uninl h hk1)
      unfold f_X0_helpers_B7 at h
      refine z_iload_n C 2 rfl dX0_helpers_7 ?_
      refine z_iconst C (v := 1) dX0_helpers_8 (by decide) ?_
      refine z_icmp_lt C 65 (by decide) dX0_helpers_9 h (fun h => ?_) (fun h => ?_)
      · refine z_sub C [0, 1] (lv' := [(0, .ref (a 5)), (2, .int t1.1)]) rfl ?_
        have h := unwi h hk1
        exact J65 _ h
      · refine z_aload_n C 0 rfl dX0_helpers_12 ?_
        refine z_get C iRX0 5 gC_5 rfl 1 (by decide) fl_RX0_19 rfl dX0_helpers_13 ?_
        refine z_iload_n C 2 rfl dX0_helpers_16 ?_
        obtain ⟨q2, hq2, h⟩ := bd_spec h
        refine z_callV1 C [.int t1.2] [] (v := (.int q2)) rfl (c_X2_owner l D A a x σ t1.2 q2 hq2) cd_yX2_owner in_RX2 ml_RX0_66 im_yX2_owner sl_yX2_owner gC_2 rfl hd_yX2_owner ⟨⟨Nat.le_of_ble_eq_true rfl, Nat.le_of_ble_eq_true rfl⟩, rfl, rfl⟩ rfl (Nat.le_of_ble_eq_true rfl) ⟨Nat.zero_le _, Nat.zero_le _⟩ dX0_helpers_17 ?_
        refine z_istore C [(4, .int q2), (0, .ref (a 5)), (2, .int t1.1), (3, .int t1.2)] (by decide) rfl dX0_helpers_20 ?_
        refine z_aload_n C 1 rfl dX0_helpers_22 ?_
        refine z_get C iRX0 5 gC_5 rfl 2 (by decide) fl_RX0_23 rfl dX0_helpers_23 ?_
        refine z_iload_n C 3 rfl dX0_helpers_26 ?_
        obtain ⟨q3, hq3, h⟩ := bd_spec h
        refine z_callV1 C [.int t1.2] [] (v := (.int q3)) rfl (c_X3_sayers l D A a x σ t1.2 q3 hq3) cd_yX3_sayers in_RX3 ml_RX0_37 im_yX3_sayers sl_yX3_sayers gC_3 rfl hd_yX3_sayers ⟨⟨Nat.le_of_ble_eq_true rfl, Nat.le_of_ble_eq_true rfl⟩, rfl, rfl⟩ rfl (Nat.le_of_ble_eq_true rfl) ⟨Nat.zero_le _, Nat.zero_le _⟩ dX0_helpers_27 ?_
        refine z_istore C [(5, .int q3), (4, .int q2), (0, .ref (a 5)), (2, .int t1.1), (3, .int t1.2)] (by decide) rfl dX0_helpers_30 ?_
        refine z_iload C 1 rfl dX0_helpers_32 ?_
        refine z_iconst C (v := (-1)) dX0_helpers_34 (by decide) ?_
        refine z_icmp_eq C 58 (by decide) dX0_helpers_35 h (fun h => ?_) (fun h => ?_)
        · refine z_sub C [2, 3, 4] (lv' := [(0, .ref (a 5)), (2, .int t1.1), (3, .int t1.2)]) rfl ?_
          exact J58 _ _ h
        · refine z_iload C 0 rfl dX0_helpers_38 ?_
          refine z_iload C 1 rfl dX0_helpers_40 ?_
          obtain ⟨q4, hq4, h⟩ := bd_spec h
          refine z_callSN1 C [.int q2] [.int q3] (v := .int q4) 12 rfl (c_X6_bit l D A (tyz x) (wC a x σ) q2 q4 hq4) cd_yX6_bit in_RX6 rfl sm_yX6_bit hd_yX6_bit ⟨⟨Nat.le_of_ble_eq_true rfl, Nat.le_of_ble_eq_true rfl⟩, rfl, rfl⟩ rfl (Nat.le_of_ble_eq_true rfl) ⟨Nat.zero_le _, Nat.zero_le _⟩ dX0_helpers_42 ?_
          refine z_iconst C (v := (-1)) dX0_helpers_45 (by decide) ?_
          refine z_ixor C dX0_helpers_46 ?_
          refine z_iand C dX0_helpers_47 ?_
          refine z_if_eq C 58 (by decide) dX0_helpers_48 h (fun h => ?_) (fun h => ?_)
          · refine z_sub C [2, 3, 4] (lv' := [(0, .ref (a 5)), (2, .int t1.1), (3, .int t1.2)]) rfl ?_
            exact J58 _ _ h
          · refine z_iload_n C 3 rfl dX0_helpers_51 ?_
            refine z_iload C 0 rfl dX0_helpers_52 ?_
            refine z_iconst C (v := (-1)) dX0_helpers_54 (by decide) ?_
            refine z_ixor C dX0_helpers_55 ?_
            refine z_ior C dX0_helpers_56 ?_
            refine z_istore_n C [(2, .int (t1.1 ||| (q3 ^^^ (-1)))), (5, .int q3), (4, .int q2), (0, .ref (a 5)), (3, .int t1.2)] rfl (by decide) rfl dX0_helpers_57 ?_
            refine z_sub C [3, 0, 4] (lv' := [(0, .ref (a 5)), (2, .int (t1.1 ||| (q3 ^^^ (-1)))), (3, .int t1.2)]) rfl ?_
            exact J58 _ _ h
  exact L7 _ _ h
