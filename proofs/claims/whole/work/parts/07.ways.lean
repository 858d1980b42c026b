theorem dX5_begin_0 : decode cX5_begin 0 = .ok (.iconst 0, 1) := by decide +kernel
theorem dX5_begin_1 : decode cX5_begin 1 = .ok (.istore_n 2, 1) := by decide +kernel
theorem dX5_begin_2 : decode cX5_begin 2 = .ok (.iload_n 2, 1) := by decide +kernel
theorem dX5_begin_3 : decode cX5_begin 3 = .ok (.bipush 10, 2) := by decide +kernel
theorem dX5_begin_5 : decode cX5_begin 5 = .ok (.if_icmp .ge 79, 3) := by decide +kernel
theorem dX5_begin_8 : decode cX5_begin 8 = .ok (.iload_n 1, 1) := by decide +kernel
theorem dX5_begin_9 : decode cX5_begin 9 = .ok (.iload_n 2, 1) := by decide +kernel
theorem dX5_begin_10 : decode cX5_begin 10 = .ok (.invokestatic 25, 3) := by decide +kernel
theorem dX5_begin_13 : decode cX5_begin 13 = .ok (.istore_n 3, 1) := by decide +kernel
theorem dX5_begin_14 : decode cX5_begin 14 = .ok (.aload_n 0, 1) := by decide +kernel
theorem dX5_begin_15 : decode cX5_begin 15 = .ok (.getfield 9, 3) := by decide +kernel
theorem dX5_begin_18 : decode cX5_begin 18 = .ok (.iload_n 2, 1) := by decide +kernel
theorem dX5_begin_19 : decode cX5_begin 19 = .ok (.iload_n 3, 1) := by decide +kernel
theorem dX5_begin_20 : decode cX5_begin 20 = .ok (.ifCond .eq 8, 3) := by decide +kernel
theorem dX5_begin_23 : decode cX5_begin 23 = .ok (.iload_n 2, 1) := by decide +kernel
theorem dX5_begin_24 : decode cX5_begin 24 = .ok (.i2l, 1) := by decide +kernel
theorem dX5_begin_25 : decode cX5_begin 25 = .ok (.goto 4, 3) := by decide +kernel
theorem dX5_begin_28 : decode cX5_begin 28 = .ok (.lconst 0, 1) := by decide +kernel
theorem dX5_begin_29 : decode cX5_begin 29 = .ok (.lastore, 1) := by decide +kernel
theorem dX5_begin_30 : decode cX5_begin 30 = .ok (.aload_n 0, 1) := by decide +kernel
theorem dX5_begin_31 : decode cX5_begin 31 = .ok (.getfield 15, 3) := by decide +kernel
theorem dX5_begin_34 : decode cX5_begin 34 = .ok (.iload_n 2, 1) := by decide +kernel
theorem dX5_begin_35 : decode cX5_begin 35 = .ok (.iload_n 3, 1) := by decide +kernel
theorem dX5_begin_36 : decode cX5_begin 36 = .ok (.ifCond .eq 7, 3) := by decide +kernel
theorem dX5_begin_39 : decode cX5_begin 39 = .ok (.iconst 1, 1) := by decide +kernel
theorem dX5_begin_40 : decode cX5_begin 40 = .ok (.goto 4, 3) := by decide +kernel
theorem dX5_begin_43 : decode cX5_begin 43 = .ok (.iconst 0, 1) := by decide +kernel
theorem dX5_begin_44 : decode cX5_begin 44 = .ok (.iastore, 1) := by decide +kernel
theorem dX5_begin_45 : decode cX5_begin 45 = .ok (.aload_n 0, 1) := by decide +kernel
theorem dX5_begin_46 : decode cX5_begin 46 = .ok (.getfield 19, 3) := by decide +kernel
theorem dX5_begin_49 : decode cX5_begin 49 = .ok (.iload_n 2, 1) := by decide +kernel
theorem dX5_begin_50 : decode cX5_begin 50 = .ok (.iload_n 3, 1) := by decide +kernel
theorem dX5_begin_51 : decode cX5_begin 51 = .ok (.ifCond .eq 7, 3) := by decide +kernel
theorem dX5_begin_54 : decode cX5_begin 54 = .ok (.iload_n 2, 1) := by decide +kernel
theorem dX5_begin_55 : decode cX5_begin 55 = .ok (.goto 4, 3) := by decide +kernel
theorem dX5_begin_58 : decode cX5_begin 58 = .ok (.iconst (-1), 1) := by decide +kernel
theorem dX5_begin_59 : decode cX5_begin 59 = .ok (.iastore, 1) := by decide +kernel
theorem dX5_begin_60 : decode cX5_begin 60 = .ok (.aload_n 0, 1) := by decide +kernel
theorem dX5_begin_61 : decode cX5_begin 61 = .ok (.getfield 22, 3) := by decide +kernel
theorem dX5_begin_64 : decode cX5_begin 64 = .ok (.iload_n 2, 1) := by decide +kernel
theorem dX5_begin_65 : decode cX5_begin 65 = .ok (.iload_n 3, 1) := by decide +kernel
theorem dX5_begin_66 : decode cX5_begin 66 = .ok (.ifCond .eq 10, 3) := by decide +kernel
theorem dX5_begin_69 : decode cX5_begin 69 = .ok (.iload_n 2, 1) := by decide +kernel
theorem dX5_begin_70 : decode cX5_begin 70 = .ok (.invokestatic 29, 3) := by decide +kernel
theorem dX5_begin_73 : decode cX5_begin 73 = .ok (.goto 4, 3) := by decide +kernel
theorem dX5_begin_76 : decode cX5_begin 76 = .ok (.iconst 0, 1) := by decide +kernel
theorem dX5_begin_77 : decode cX5_begin 77 = .ok (.iastore, 1) := by decide +kernel
theorem dX5_begin_78 : decode cX5_begin 78 = .ok (.iinc 2 1, 3) := by decide +kernel
theorem dX5_begin_81 : decode cX5_begin 81 = .ok (.goto (-79), 3) := by decide +kernel
theorem dX5_begin_84 : decode cX5_begin 84 = .ok (.return_, 1) := by decide +kernel
theorem hd_yX5_begin : (yX5_begin).cls ≠ "java/lang/invoke/MethodHandle" ∧ (yX5_begin).cls ≠ "java/lang/invoke/VarHandle" ∧ (parseMethodDescriptor (yX5_begin).desc).map (fun d => d.parameters.length) = some 1 := ⟨by decide, by decide, by decide +kernel⟩
def f_X5_begin_n_J59 (l1 : Int32) (l2 : Int32) (l3 : Int32) (s0 : Int32) (s1 : Int32) (σ : ZS) : Option ((Int32 × ZS) ⊕ ZS) :=
  ck (inb s1 10) ((if l3 = 0 then ck (inb l2 10) (some (.inl (l2 + 1, setA (setA σ 17 (Int32.toNatClampNeg s1) s0) 18 (Int32.toNatClampNeg l2) 0))) else Option.bind (f_X6_bit l2) (fun q2 => ck (inb l2 10) (some (.inl (l2 + 1, setA (setA σ 17 (Int32.toNatClampNeg s1) s0) 18 (Int32.toNatClampNeg l2) q2))))))
def f_X5_begin_n_J44 (l1 : Int32) (l2 : Int32) (l3 : Int32) (s0 : Int32) (s1 : Int32) (σ : ZS) : Option ((Int32 × ZS) ⊕ ZS) :=
  ck (inb s1 10) ((if l3 = 0 then f_X5_begin_n_J59 l1 l2 l3 (-1) l2 (setA σ 16 (Int32.toNatClampNeg s1) s0) else f_X5_begin_n_J59 l1 l2 l3 l2 l2 (setA σ 16 (Int32.toNatClampNeg s1) s0)))
def f_X5_begin_n_J29 (l1 : Int32) (l2 : Int32) (l3 : Int32) (s0 : Int64) (s1 : Int32) (σ : ZS) : Option ((Int32 × ZS) ⊕ ZS) :=
  ck (inb s1 10) ((if l3 = 0 then f_X5_begin_n_J44 l1 l2 l3 0 l2 (setL σ 15 (Int32.toNatClampNeg s1) s0) else f_X5_begin_n_J44 l1 l2 l3 1 l2 (setL σ 15 (Int32.toNatClampNeg s1) s0)))
def f_X5_begin_n_B2 (l1 : Int32) (t1 : (Int32 × ZS)) : Option ((Int32 × ZS) ⊕ ZS) :=
  (if 10 ≤ t1.1 then wi (some t1.2) else Option.bind (f_X6_hasBit l1 t1.1) (fun q1 => (if q1 = 0 then f_X5_begin_n_J29 l1 t1.1 q1 0 t1.1 t1.2 else f_X5_begin_n_J29 l1 t1.1 q1 (Int32.toInt64 t1.1) t1.1 t1.2)))
def f_X5_begin_n (p0 : Int32) (σ : ZS) : Option ZS :=
  lp zF (f_X5_begin_n_B2 p0) (0, σ)
set_option maxHeartbeats 4000000 in
set_option maxRecDepth 100000 in
theorem c_X5_begin_n (l : Launch) (D : va_G) (A : Nat → Prop) (a : Nat → Nat) (x : ClassId × ClassId × ClassId) (σ : ZS) (p0 : Int32) (r : ZS) (h : f_X5_begin_n p0 σ = some r) : zM l yX5_begin w_yX5_begin ({ frames := 1, cells := 0, slots := 0, locals := 21 } : Room) D A (tyz x) [.ref (a 12), .int p0] (wC a x σ) none (wC a x r) := by
  refine z_start [.ref (a 12), .int p0] (lv := [(0, .ref (a 12)), (1, .int p0)]) (by decide) (Nat.le_of_ble_eq_true rfl) rfl ?_
  intro p e s m args below meth c C hr hlk
  unfold f_X5_begin_n at h
  refine z_iconst C (v := 0) dX5_begin_0 (by decide) ?_
  refine z_istore_n C [(2, .int 0), (0, .ref (a 12)), (1, .int p0)] rfl (by decide) rfl dX5_begin_1 ?_
  refine z_sub C [1, 2, 0] (lv' := [(0, .ref (a 12)), (1, .int p0), (2, .int 0)]) rfl ?_
  have L2 : ∀ (n : Nat) (t1 : (Int32 × ZS)), lp n (f_X5_begin_n_B2 p0) t1 = some r → zV p l e ({ frames := 1, cells := 0, slots := 0, locals := 21 } : Room) s m args below meth c 0 0 (MQ below (zQ D A none (wC a x r)) args s 0 0 A) D A 4 (wC a x t1.2) 2 [(0, .ref (a 12)), (1, .int p0), (2, .int t1.1)] [] := by
    intro n1
    induction n1 with
    | zero => exact fun _ h => (lp_zero h).elim
    | succ n1 ih1 =>
      intro t1 h
      obtain ⟨u1, h, hk1⟩ := lp_succ h
      have J59 : ∀ (l2_59 : Int32) (l3_59 : Int32) (s0_59 : Int32) (s1_59 : Int32) (σ_59 : ZS), f_X5_begin_n_J59 p0 l2_59 l3_59 s0_59 s1_59 σ_59 = some u1 → zV p l e ({ frames := 1, cells := 0, slots := 0, locals := 21 } : Room) s m args below meth c 0 0 (MQ below (zQ D A none (wC a x r)) args s 0 0 A) D A 4 (wC a x σ_59) 59 [(0, .ref (a 12)), (1, .int p0), (2, .int l2_59), (3, .int l3_59)] [.int s0_59, .int s1_59, .ref (a 17)] := by
        intro l2_59 l3_59 s0_59 s1_59 σ_59 h
        unfold f_X5_begin_n_J59 at h
        refine z_iast C 17 0 gC_17 rfl uC_17 dX5_begin_59 h (fun h => ?_)
        refine z_aload_n C 0 rfl dX5_begin_60 ?_
        refine z_get C iRX5 12 gC_12 rfl 3 (by decide) fl_RX5_22 rfl dX5_begin_61 ?_
        refine z_iload_n C 2 rfl dX5_begin_64 ?_
        refine z_iload_n C 3 rfl dX5_begin_65 ?_
        refine z_if_eq C 76 (by decide) dX5_begin_66 h (fun h => ?_) (fun h => ?_)
        · refine z_iconst C (v := 0) dX5_begin_76 (by decide) ?_
          refine z_iast C 18 0 gC_18 rfl uC_18 dX5_begin_77 h (fun h => ?_)
          refine z_iinc C (v := l2_59 + 1) [(2, .int (l2_59 + 1)), (0, .ref (a 12)), (1, .int p0), (3, .int l3_59)] 2 rfl rfl (by decide) rfl dX5_begin_78 ?_
          refine z_goto C 2 (by decide) dX5_begin_81 ?_
          refine z_sub C [1, 2, 0] (lv' := [(0, .ref (a 12)), (1, .int p0), (2, .int (l2_59 + 1))]) rfl ?_
          exact ih1 _ (uninl h hk1)
        · refine z_iload_n C 2 rfl dX5_begin_69 ?_
          obtain ⟨q1, hq1, h⟩ := bd_spec h
          refine z_callSN1 C [.int l2_59] [.int l2_59, .ref (a 18)] (v := .int q1) 9 rfl (c_X6_bit l D A (tyz x) (wC a x (setA σ_59 17 (Int32.toNatClampNeg s1_59) s0_59)) l2_59 q1 hq1) cd_yX6_bit in_RX6 rfl sm_yX6_bit hd_yX6_bit ⟨⟨Nat.le_of_ble_eq_true rfl, Nat.le_of_ble_eq_true rfl⟩, rfl, rfl⟩ rfl (Nat.le_of_ble_eq_true rfl) ⟨Nat.zero_le _, Nat.zero_le _⟩ dX5_begin_70 ?_
          refine z_goto C 77 (by decide) dX5_begin_73 ?_
          refine z_iast C 18 0 gC_18 rfl uC_18 dX5_begin_77 h (fun h => ?_)
          refine z_iinc C (v := l2_59 + 1) [(2, .int (l2_59 + 1)), (0, .ref (a 12)), (1, .int p0), (3, .int l3_59)] 2 rfl rfl (by decide) rfl dX5_begin_78 ?_
          refine z_goto C 2 (by decide) dX5_begin_81 ?_
          refine z_sub C [1, 2, 0] (lv' := [(0, .ref (a 12)), (1, .int p0), (2, .int (l2_59 + 1))]) rfl ?_
          exact ih1 _ (uninl h hk1)
      have J44 : ∀ (l2_44 : Int32) (l3_44 : Int32) (s0_44 : Int32) (s1_44 : Int32) (σ_44 : ZS), f_X5_begin_n_J44 p0 l2_44 l3_44 s0_44 s1_44 σ_44 = some u1 → zV p l e ({ frames := 1, cells := 0, slots := 0, locals := 21 } : Room) s m args below meth c 0 0 (MQ below (zQ D A none (wC a x r)) args s 0 0 A) D A 4 (wC a x σ_44) 44 [(0, .ref (a 12)), (1, .int p0), (2, .int l2_44), (3, .int l3_44)] [.int s0_44, .int s1_44, .ref (a 16)] := by
        intro l2_44 l3_44 s0_44 s1_44 σ_44 h
        unfold f_X5_begin_n_J44 at h
        refine z_iast C 16 0 gC_16 rfl uC_16 dX5_begin_44 h (fun h => ?_)
        refine z_aload_n C 0 rfl dX5_begin_45 ?_
        refine z_get C iRX5 12 gC_12 rfl 2 (by decide) fl_RX5_19 rfl dX5_begin_46 ?_
        refine z_iload_n C 2 rfl dX5_begin_49 ?_
        refine z_iload_n C 3 rfl dX5_begin_50 ?_
        refine z_if_eq C 58 (by decide) dX5_begin_51 h (fun h => ?_) (fun h => ?_)
        · refine z_iconst C (v := (-1)) dX5_begin_58 (by decide) ?_
          exact J59 _ _ _ _ _ h
        · refine z_iload_n C 2 rfl dX5_begin_54 ?_
          refine z_goto C 59 (by decide) dX5_begin_55 ?_
          exact J59 _ _ _ _ _ h
      have J29 : ∀ (l2_29 : Int32) (l3_29 : Int32) (s0_29 : Int64) (s1_29 : Int32) (σ_29 : ZS), f_X5_begin_n_J29 p0 l2_29 l3_29 s0_29 s1_29 σ_29 = some u1 → zV p l e ({ frames := 1, cells := 0, slots := 0, locals := 21 } : Room) s m args below meth c 0 0 (MQ below (zQ D A none (wC a x r)) args s 0 0 A) D A 4 (wC a x σ_29) 29 [(0, .ref (a 12)), (1, .int p0), (2, .int l2_29), (3, .int l3_29)] [.long s0_29, .int s1_29, .ref (a 15)] := by
        intro l2_29 l3_29 s0_29 s1_29 σ_29 h
        unfold f_X5_begin_n_J29 at h
        refine z_last C 15 1 gC_15 rfl uC_15 dX5_begin_29 h (fun h => ?_)
        refine z_aload_n C 0 rfl dX5_begin_30 ?_
        refine z_get C iRX5 12 gC_12 rfl 1 (by decide) fl_RX5_15 rfl dX5_begin_31 ?_
        refine z_iload_n C 2 rfl dX5_begin_34 ?_
        refine z_iload_n C 3 rfl dX5_begin_35 ?_
        refine z_if_eq C 43 (by decide) dX5_begin_36 h (fun h => ?_) (fun h => ?_)
        · refine z_iconst C (v := 0) dX5_begin_43 (by decide) ?_
          exact J44 _ _ _ _ _ h
        · refine z_iconst C (v := 1) dX5_begin_39 (by decide) ?_
          refine z_goto C 44 (by decide) dX5_begin_40 ?_
          exact J44 _ _ _ _ _ h
      unfold f_X5_begin_n_B2 at h
      refine z_iload_n C 2 rfl dX5_begin_2 ?_
      refine z_bipush C (v := 10) dX5_begin_3 (by decide) ?_
      refine z_icmp_ge C 84 (by decide) dX5_begin_5 h (fun h => ?_) (fun h => ?_)
      · have h := unwi h hk1
        cases h
        exact z_vret C hr hlk dX5_begin_84
      · refine z_iload_n C 1 rfl dX5_begin_8 ?_
        refine z_iload_n C 2 rfl dX5_begin_9 ?_
        obtain ⟨q2, hq2, h⟩ := bd_spec h
        refine z_callSN1 C [.int p0, .int t1.1] [] (v := .int q2) 8 rfl (c_X6_hasBit l D A (tyz x) (wC a x t1.2) p0 t1.1 q2 hq2) cd_yX6_hasBit in_RX6 rfl sm_yX6_hasBit hd_yX6_hasBit ⟨⟨Nat.le_of_ble_eq_true rfl, Nat.le_of_ble_eq_true rfl⟩, rfl, rfl⟩ rfl (Nat.le_of_ble_eq_true rfl) ⟨Nat.zero_le _, Nat.zero_le _⟩ dX5_begin_10 ?_
        refine z_istore_n C [(3, .int q2), (0, .ref (a 12)), (1, .int p0), (2, .int t1.1)] rfl (by decide) rfl dX5_begin_13 ?_
        refine z_aload_n C 1 rfl dX5_begin_14 ?_
        refine z_get C iRX5 12 gC_12 rfl 0 (by decide) fl_RX5_9 rfl dX5_begin_15 ?_
        refine z_iload_n C 3 rfl dX5_begin_18 ?_
        refine z_iload_n C 0 rfl dX5_begin_19 ?_
        refine z_if_eq C 28 (by decide) dX5_begin_20 h (fun h => ?_) (fun h => ?_)
        · refine z_lconst C (v := 0) dX5_begin_28 (by decide) ?_
          refine z_sub C [1, 2, 3, 0] (lv' := [(0, .ref (a 12)), (1, .int p0), (2, .int t1.1), (3, .int q2)]) rfl ?_
          exact J29 _ _ _ _ _ h
        · refine z_iload_n C 3 rfl dX5_begin_23 ?_
          refine z_i2l C dX5_begin_24 ?_
          refine z_goto C 29 (by decide) dX5_begin_25 ?_
          refine z_sub C [1, 2, 3, 0] (lv' := [(0, .ref (a 12)), (1, .int p0), (2, .int t1.1), (3, .int q2)]) rfl ?_
          exact J29 _ _ _ _ _ h
  exact L2 _ _ h
theorem dX5_copy_0 : decode cX5_copy 0 = .ok (.aload_n 1, 1) := by decide +kernel
theorem dX5_copy_1 : decode cX5_copy 1 = .ok (.getfield 9, 3) := by decide +kernel
theorem dX5_copy_4 : decode cX5_copy 4 = .ok (.iconst 0, 1) := by decide +kernel
theorem dX5_copy_5 : decode cX5_copy 5 = .ok (.aload_n 0, 1) := by decide +kernel
theorem dX5_copy_6 : decode cX5_copy 6 = .ok (.getfield 9, 3) := by decide +kernel
theorem dX5_copy_9 : decode cX5_copy 9 = .ok (.iconst 0, 1) := by decide +kernel
theorem dX5_copy_10 : decode cX5_copy 10 = .ok (.bipush 10, 2) := by decide +kernel
theorem dX5_copy_12 : decode cX5_copy 12 = .ok (.invokestatic 33, 3) := by decide +kernel
theorem dX5_copy_15 : decode cX5_copy 15 = .ok (.aload_n 1, 1) := by decide +kernel
theorem dX5_copy_16 : decode cX5_copy 16 = .ok (.getfield 15, 3) := by decide +kernel
theorem dX5_copy_19 : decode cX5_copy 19 = .ok (.iconst 0, 1) := by decide +kernel
theorem dX5_copy_20 : decode cX5_copy 20 = .ok (.aload_n 0, 1) := by decide +kernel
theorem dX5_copy_21 : decode cX5_copy 21 = .ok (.getfield 15, 3) := by decide +kernel
theorem dX5_copy_24 : decode cX5_copy 24 = .ok (.iconst 0, 1) := by decide +kernel
theorem dX5_copy_25 : decode cX5_copy 25 = .ok (.bipush 10, 2) := by decide +kernel
theorem dX5_copy_27 : decode cX5_copy 27 = .ok (.invokestatic 33, 3) := by decide +kernel
theorem dX5_copy_30 : decode cX5_copy 30 = .ok (.aload_n 1, 1) := by decide +kernel
theorem dX5_copy_31 : decode cX5_copy 31 = .ok (.getfield 19, 3) := by decide +kernel
theorem dX5_copy_34 : decode cX5_copy 34 = .ok (.iconst 0, 1) := by decide +kernel
theorem dX5_copy_35 : decode cX5_copy 35 = .ok (.aload_n 0, 1) := by decide +kernel
theorem dX5_copy_36 : decode cX5_copy 36 = .ok (.getfield 19, 3) := by decide +kernel
theorem dX5_copy_39 : decode cX5_copy 39 = .ok (.iconst 0, 1) := by decide +kernel
theorem dX5_copy_40 : decode cX5_copy 40 = .ok (.bipush 10, 2) := by decide +kernel
theorem dX5_copy_42 : decode cX5_copy 42 = .ok (.invokestatic 33, 3) := by decide +kernel
theorem dX5_copy_45 : decode cX5_copy 45 = .ok (.aload_n 1, 1) := by decide +kernel
theorem dX5_copy_46 : decode cX5_copy 46 = .ok (.getfield 22, 3) := by decide +kernel
theorem dX5_copy_49 : decode cX5_copy 49 = .ok (.iconst 0, 1) := by decide +kernel
theorem dX5_copy_50 : decode cX5_copy 50 = .ok (.aload_n 0, 1) := by decide +kernel
theorem dX5_copy_51 : decode cX5_copy 51 = .ok (.getfield 22, 3) := by decide +kernel
theorem dX5_copy_54 : decode cX5_copy 54 = .ok (.iconst 0, 1) := by decide +kernel
theorem dX5_copy_55 : decode cX5_copy 55 = .ok (.bipush 10, 2) := by decide +kernel
theorem dX5_copy_57 : decode cX5_copy 57 = .ok (.invokestatic 33, 3) := by decide +kernel
theorem dX5_copy_60 : decode cX5_copy 60 = .ok (.return_, 1) := by decide +kernel
theorem hd_yX5_copy : (yX5_copy).cls ≠ "java/lang/invoke/MethodHandle" ∧ (yX5_copy).cls ≠ "java/lang/invoke/VarHandle" ∧ (parseMethodDescriptor (yX5_copy).desc).map (fun d => d.parameters.length) = some 1 := ⟨by decide, by decide, by decide +kernel⟩
def f_X5_copy_b  (σ : ZS) : Option ZS :=
  ck (decide (¬ (0 : Int32) < 0) && (decide (¬ (0 : Int32) < 0) && (decide (¬ (10 : Int32) < 0) && (decide (Int32.toNatClampNeg 0 + Int32.toNatClampNeg 10 ≤ 10) && decide (Int32.toNatClampNeg 0 + Int32.toNatClampNeg 10 ≤ 10))))) (ck (decide (¬ (0 : Int32) < 0) && (decide (¬ (0 : Int32) < 0) && (decide (¬ (10 : Int32) < 0) && (decide (Int32.toNatClampNeg 0 + Int32.toNatClampNeg 10 ≤ 10) && decide (Int32.toNatClampNeg 0 + Int32.toNatClampNeg 10 ≤ 10))))) (ck (decide (¬ (0 : Int32) < 0) && (decide (¬ (0 : Int32) < 0) && (decide (¬ (10 : Int32) < 0) && (decide (Int32.toNatClampNeg 0 + Int32.toNatClampNeg 10 ≤ 10) && decide (Int32.toNatClampNeg 0 + Int32.toNatClampNeg 10 ≤ 10))))) (ck (decide (¬ (0 : Int32) < 0) && (decide (¬ (0 : Int32) < 0) && (decide (¬ (10 : Int32) < 0) && (decide (Int32.toNatClampNeg 0 + Int32.toNatClampNeg 10 ≤ 10) && decide (Int32.toNatClampNeg 0 + Int32.toNatClampNeg 10 ≤ 10))))) (some (setR (setR (setR (setJ σ 19 (va_cpy (σ.2.2 15) (σ.2.2 19) (Int32.toNatClampNeg 0) (Int32.toNatClampNeg 0) (Int32.toNatClampNeg 10))) 20 (va_cpy ((setJ σ 19 (va_cpy (σ.2.2 15) (σ.2.2 19) (Int32.toNatClampNeg 0) (Int32.toNatClampNeg 0) (Int32.toNatClampNeg 10))).2.1 16) ((setJ σ 19 (va_cpy (σ.2.2 15) (σ.2.2 19) (Int32.toNatClampNeg 0) (Int32.toNatClampNeg 0) (Int32.toNatClampNeg 10))).2.1 20) (Int32.toNatClampNeg 0) (Int32.toNatClampNeg 0) (Int32.toNatClampNeg 10))) 21 (va_cpy ((setR (setJ σ 19 (va_cpy (σ.2.2 15) (σ.2.2 19) (Int32.toNatClampNeg 0) (Int32.toNatClampNeg 0) (Int32.toNatClampNeg 10))) 20 (va_cpy ((setJ σ 19 (va_cpy (σ.2.2 15) (σ.2.2 19) (Int32.toNatClampNeg 0) (Int32.toNatClampNeg 0) (Int32.toNatClampNeg 10))).2.1 16) ((setJ σ 19 (va_cpy (σ.2.2 15) (σ.2.2 19) (Int32.toNatClampNeg 0) (Int32.toNatClampNeg 0) (Int32.toNatClampNeg 10))).2.1 20) (Int32.toNatClampNeg 0) (Int32.toNatClampNeg 0) (Int32.toNatClampNeg 10))).2.1 17) ((setR (setJ σ 19 (va_cpy (σ.2.2 15) (σ.2.2 19) (Int32.toNatClampNeg 0) (Int32.toNatClampNeg 0) (Int32.toNatClampNeg 10))) 20 (va_cpy ((setJ σ 19 (va_cpy (σ.2.2 15) (σ.2.2 19) (Int32.toNatClampNeg 0) (Int32.toNatClampNeg 0) (Int32.toNatClampNeg 10))).2.1 16) ((setJ σ 19 (va_cpy (σ.2.2 15) (σ.2.2 19) (Int32.toNatClampNeg 0) (Int32.toNatClampNeg 0) (Int32.toNatClampNeg 10))).2.1 20) (Int32.toNatClampNeg 0) (Int32.toNatClampNeg 0) (Int32.toNatClampNeg 10))).2.1 21) (Int32.toNatClampNeg 0) (Int32.toNatClampNeg 0) (Int32.toNatClampNeg 10))) 22 (va_cpy ((setR (setR (setJ σ 19 (va_cpy (σ.2.2 15) (σ.2.2 19) (Int32.toNatClampNeg 0) (Int32.toNatClampNeg 0) (Int32.toNatClampNeg 10))) 20 (va_cpy ((setJ σ 19 (va_cpy (σ.2.2 15) (σ.2.2 19) (Int32.toNatClampNeg 0) (Int32.toNatClampNeg 0) (Int32.toNatClampNeg 10))).2.1 16) ((setJ σ 19 (va_cpy (σ.2.2 15) (σ.2.2 19) (Int32.toNatClampNeg 0) (Int32.toNatClampNeg 0) (Int32.toNatClampNeg 10))).2.1 20) (Int32.toNatClampNeg 0) (Int32.toNatClampNeg 0) (Int32.toNatClampNeg 10))) 21 (va_cpy ((setR (setJ σ 19 (va_cpy (σ.2.2 15) (σ.2.2 19) (Int32.toNatClampNeg 0) (Int32.toNatClampNeg 0) (Int32.toNatClampNeg 10))) 20 (va_cpy ((setJ σ 19 (va_cpy (σ.2.2 15) (σ.2.2 19) (Int32.toNatClampNeg 0) (Int32.toNatClampNeg 0) (Int32.toNatClampNeg 10))).2.1 16) ((setJ σ 19 (va_cpy (σ.2.2 15) (σ.2.2 19) (Int32.toNatClampNeg 0) (Int32.toNatClampNeg 0) (Int32.toNatClampNeg 10))).2.1 20) (Int32.toNatClampNeg 0) (Int32.toNatClampNeg 0) (Int32.toNatClampNeg 10))).2.1 17) ((setR (setJ σ 19 (va_cpy (σ.2.2 15) (σ.2.2 19) (Int32.toNatClampNeg 0) (Int32.toNatClampNeg 0) (Int32.toNatClampNeg 10))) 20 (va_cpy ((setJ σ 19 (va_cpy (σ.2.2 15) (σ.2.2 19) (Int32.toNatClampNeg 0) (Int32.toNatClampNeg 0) (Int32.toNatClampNeg 10))).2.1 16) ((setJ σ 19 (va_cpy (σ.2.2 15) (σ.2.2 19) (Int32.toNatClampNeg 0) (Int32.toNatClampNeg 0) (Int32.toNatClampNeg 10))).2.1 20) (Int32.toNatClampNeg 0) (Int32.toNatClampNeg 0) (Int32.toNatClampNeg 10))).2.1 21) (Int32.toNatClampNeg 0) (Int32.toNatClampNeg 0) (Int32.toNatClampNeg 10))).2.1 18) ((setR (setR (setJ σ 19 (va_cpy (σ.2.2 15) (σ.2.2 19) (Int32.toNatClampNeg 0) (Int32.toNatClampNeg 0) (Int32.toNatClampNeg 10))) 20 (va_cpy ((setJ σ 19 (va_cpy (σ.2.2 15) (σ.2.2 19) (Int32.toNatClampNeg 0) (Int32.toNatClampNeg 0) (Int32.toNatClampNeg 10))).2.1 16) ((setJ σ 19 (va_cpy (σ.2.2 15) (σ.2.2 19) (Int32.toNatClampNeg 0) (Int32.toNatClampNeg 0) (Int32.toNatClampNeg 10))).2.1 20) (Int32.toNatClampNeg 0) (Int32.toNatClampNeg 0) (Int32.toNatClampNeg 10))) 21 (va_cpy ((setR (setJ σ 19 (va_cpy (σ.2.2 15) (σ.2.2 19) (Int32.toNatClampNeg 0) (Int32.toNatClampNeg 0) (Int32.toNatClampNeg 10))) 20 (va_cpy ((setJ σ 19 (va_cpy (σ.2.2 15) (σ.2.2 19) (Int32.toNatClampNeg 0) (Int32.toNatClampNeg 0) (Int32.toNatClampNeg 10))).2.1 16) ((setJ σ 19 (va_cpy (σ.2.2 15) (σ.2.2 19) (Int32.toNatClampNeg 0) (Int32.toNatClampNeg 0) (Int32.toNatClampNeg 10))).2.1 20) (Int32.toNatClampNeg 0) (Int32.toNatClampNeg 0) (Int32.toNatClampNeg 10))).2.1 17) ((setR (setJ σ 19 (va_cpy (σ.2.2 15) (σ.2.2 19) (Int32.toNatClampNeg 0) (Int32.toNatClampNeg 0) (Int32.toNatClampNeg 10))) 20 (va_cpy ((setJ σ 19 (va_cpy (σ.2.2 15) (σ.2.2 19) (Int32.toNatClampNeg 0) (Int32.toNatClampNeg 0) (Int32.toNatClampNeg 10))).2.1 16) ((setJ σ 19 (va_cpy (σ.2.2 15) (σ.2.2 19) (Int32.toNatClampNeg 0) (Int32.toNatClampNeg 0) (Int32.toNatClampNeg 10))).2.1 20) (Int32.toNatClampNeg 0) (Int32.toNatClampNeg 0) (Int32.toNatClampNeg 10))).2.1 21) (Int32.toNatClampNeg 0) (Int32.toNatClampNeg 0) (Int32.toNatClampNeg 10))).2.1 22) (Int32.toNatClampNeg 0) (Int32.toNatClampNeg 0) (Int32.toNatClampNeg 10)))))))
set_option maxHeartbeats 4000000 in
set_option maxRecDepth 100000 in
theorem c_X5_copy_b (l : Launch) (D : va_G) (A : Nat → Prop) (a : Nat → Nat) (x : ClassId × ClassId × ClassId) (σ : ZS)  (r : ZS) (h : f_X5_copy_b  σ = some r) : zM l yX5_copy w_yX5_copy ({ frames := 1, cells := 0, slots := 0, locals := 40 } : Room) D A (tyz x) [.ref (a 13), .ref (a 12)] (wC a x σ) none (wC a x r) := by
  refine z_start [.ref (a 13), .ref (a 12)] (lv := [(0, .ref (a 13)), (1, .ref (a 12))]) (by decide) (Nat.le_of_ble_eq_true rfl) rfl ?_
  intro p e s m args below meth c C hr hlk
  unfold f_X5_copy_b at h
  refine z_aload_n C 1 rfl dX5_copy_0 ?_
  refine z_get C iRX5 12 gC_12 rfl 0 (by decide) fl_RX5_9 rfl dX5_copy_1 ?_
  refine z_iconst C (v := 0) dX5_copy_4 (by decide) ?_
  refine z_aload_n C 0 rfl dX5_copy_5 ?_
  refine z_get C iRX5 13 gC_13 rfl 0 (by decide) fl_RX5_9 rfl dX5_copy_6 ?_
  refine z_iconst C (v := 0) dX5_copy_9 (by decide) ?_
  refine z_bipush C (v := 10) dX5_copy_10 (by decide) ?_
  refine z_copyl C 15 19 1 gC_15 gC_19 rfl rfl ml_RX5_33 h (by decide) (by decide) rC_19 dX5_copy_12 (fun h => ?_)
  refine z_aload_n C 1 rfl dX5_copy_15 ?_
  refine z_get C iRX5 12 gC_12 rfl 1 (by decide) fl_RX5_15 rfl dX5_copy_16 ?_
  refine z_iconst C (v := 0) dX5_copy_19 (by decide) ?_
  refine z_aload_n C 0 rfl dX5_copy_20 ?_
  refine z_get C iRX5 13 gC_13 rfl 1 (by decide) fl_RX5_15 rfl dX5_copy_21 ?_
  refine z_iconst C (v := 0) dX5_copy_24 (by decide) ?_
  refine z_bipush C (v := 10) dX5_copy_25 (by decide) ?_
  refine z_copyi C 16 20 0 gC_16 gC_20 rfl rfl ml_RX5_33 h (by decide) (by decide) rC_20 dX5_copy_27 (fun h => ?_)
  refine z_aload_n C 1 rfl dX5_copy_30 ?_
  refine z_get C iRX5 12 gC_12 rfl 2 (by decide) fl_RX5_19 rfl dX5_copy_31 ?_
  refine z_iconst C (v := 0) dX5_copy_34 (by decide) ?_
  refine z_aload_n C 0 rfl dX5_copy_35 ?_
  refine z_get C iRX5 13 gC_13 rfl 2 (by decide) fl_RX5_19 rfl dX5_copy_36 ?_
  refine z_iconst C (v := 0) dX5_copy_39 (by decide) ?_
  refine z_bipush C (v := 10) dX5_copy_40 (by decide) ?_
  refine z_copyi C 17 21 0 gC_17 gC_21 rfl rfl ml_RX5_33 h (by decide) (by decide) rC_21 dX5_copy_42 (fun h => ?_)
  refine z_aload_n C 1 rfl dX5_copy_45 ?_
  refine z_get C iRX5 12 gC_12 rfl 3 (by decide) fl_RX5_22 rfl dX5_copy_46 ?_
  refine z_iconst C (v := 0) dX5_copy_49 (by decide) ?_
  refine z_aload_n C 0 rfl dX5_copy_50 ?_
  refine z_get C iRX5 13 gC_13 rfl 3 (by decide) fl_RX5_22 rfl dX5_copy_51 ?_
  refine z_iconst C (v := 0) dX5_copy_54 (by decide) ?_
  refine z_bipush C (v := 10) dX5_copy_55 (by decide) ?_
  refine z_copyi C 18 22 0 gC_18 gC_22 rfl rfl ml_RX5_33 h (by decide) (by decide) rC_22 dX5_copy_57 (fun h => ?_)
  cases h
  exact z_vret C hr hlk dX5_copy_60
theorem dX5_length_0 : decode cX5_length 0 = .ok (.iload_n 1, 1) := by decide +kernel
theorem dX5_length_1 : decode cX5_length 1 = .ok (.ifCond .lt 21, 3) := by decide +kernel
theorem dX5_length_4 : decode cX5_length 4 = .ok (.iload_n 1, 1) := by decide +kernel
theorem dX5_length_5 : decode cX5_length 5 = .ok (.aload_n 0, 1) := by decide +kernel
theorem dX5_length_6 : decode cX5_length 6 = .ok (.getfield 15, 3) := by decide +kernel
theorem dX5_length_9 : decode cX5_length 9 = .ok (.arraylength, 1) := by decide +kernel
theorem dX5_length_10 : decode cX5_length 10 = .ok (.if_icmp .ge 12, 3) := by decide +kernel
theorem dX5_length_13 : decode cX5_length 13 = .ok (.aload_n 0, 1) := by decide +kernel
theorem dX5_length_14 : decode cX5_length 14 = .ok (.getfield 15, 3) := by decide +kernel
theorem dX5_length_17 : decode cX5_length 17 = .ok (.iload_n 1, 1) := by decide +kernel
theorem dX5_length_18 : decode cX5_length 18 = .ok (.iaload, 1) := by decide +kernel
theorem dX5_length_19 : decode cX5_length 19 = .ok (.goto 4, 3) := by decide +kernel
theorem dX5_length_22 : decode cX5_length 22 = .ok (.iconst 0, 1) := by decide +kernel
theorem dX5_length_23 : decode cX5_length 23 = .ok (.ireturn, 1) := by decide +kernel
theorem hd_yX5_length : (yX5_length).cls ≠ "java/lang/invoke/MethodHandle" ∧ (yX5_length).cls ≠ "java/lang/invoke/VarHandle" ∧ (parseMethodDescriptor (yX5_length).desc).map (fun d => d.parameters.length) = some 1 := ⟨by decide, by decide, by decide +kernel⟩
def f_X5_length_n (p0 : Int32) (σ : ZS) : Option Int32 :=
  (if p0 < 0 then some 0 else (if 10 ≤ p0 then some 0 else ld (σ.2.1 16) 10 p0 (fun y1 => some y1)))
set_option maxHeartbeats 4000000 in
set_option maxRecDepth 100000 in
theorem c_X5_length_n (l : Launch) (D : va_G) (A : Nat → Prop) (a : Nat → Nat) (x : ClassId × ClassId × ClassId) (σ : ZS) (p0 : Int32) (r : Int32) (h : f_X5_length_n p0 σ = some r) : zM l yX5_length w_yX5_length ({ frames := 0, cells := 0, slots := 0, locals := 0 } : Room) D A (tyz x) [.ref (a 12), .int p0] (wC a x σ) (some (.int r)) (wC a x σ) := by
  refine z_start [.ref (a 12), .int p0] (lv := [(0, .ref (a 12)), (1, .int p0)]) (by decide) (Nat.le_of_ble_eq_true rfl) rfl ?_
  intro p e s m args below meth c C hr hlk
  unfold f_X5_length_n at h
  refine z_iload_n C 1 rfl dX5_length_0 ?_
  refine z_if_lt C 22 (by decide) dX5_length_1 h (fun h => ?_) (fun h => ?_)
  · refine z_iconst C (v := 0) dX5_length_22 (by decide) ?_
    cases h
    exact z_iret C hr hlk dX5_length_23
  · refine z_iload_n C 1 rfl dX5_length_4 ?_
    refine z_aload_n C 0 rfl dX5_length_5 ?_
    refine z_get C iRX5 12 gC_12 rfl 1 (by decide) fl_RX5_15 rfl dX5_length_6 ?_
    refine z_alen C 16 0 gC_16 rfl (v := 10) rfl dX5_length_9 ?_
    refine z_icmp_ge C 22 (by decide) dX5_length_10 h (fun h => ?_) (fun h => ?_)
    · refine z_iconst C (v := 0) dX5_length_22 (by decide) ?_
      cases h
      exact z_iret C hr hlk dX5_length_23
    · refine z_aload_n C 0 rfl dX5_length_13 ?_
      refine z_get C iRX5 12 gC_12 rfl 1 (by decide) fl_RX5_15 rfl dX5_length_14 ?_
      refine z_iload_n C 1 rfl dX5_length_17 ?_
      refine z_iald C 16 0 gC_16 rfl dX5_length_18 h (fun y1 h => ?_)
      refine z_goto C 23 (by decide) dX5_length_19 ?_
      cases h
      exact z_iret C hr hlk dX5_length_23
def f_X5_length_b (p0 : Int32) (σ : ZS) : Option Int32 :=
  (if p0 < 0 then some 0 else (if 10 ≤ p0 then some 0 else ld (σ.2.1 20) 10 p0 (fun y1 => some y1)))
set_option maxHeartbeats 4000000 in
set_option maxRecDepth 100000 in
theorem c_X5_length_b (l : Launch) (D : va_G) (A : Nat → Prop) (a : Nat → Nat) (x : ClassId × ClassId × ClassId) (σ : ZS) (p0 : Int32) (r : Int32) (h : f_X5_length_b p0 σ = some r) : zM l yX5_length w_yX5_length ({ frames := 0, cells := 0, slots := 0, locals := 0 } : Room) D A (tyz x) [.ref (a 13), .int p0] (wC a x σ) (some (.int r)) (wC a x σ) := by
  refine z_start [.ref (a 13), .int p0] (lv := [(0, .ref (a 13)), (1, .int p0)]) (by decide) (Nat.le_of_ble_eq_true rfl) rfl ?_
  intro p e s m args below meth c C hr hlk
  unfold f_X5_length_b at h
  refine z_iload_n C 1 rfl dX5_length_0 ?_
  refine z_if_lt C 22 (by decide) dX5_length_1 h (fun h => ?_) (fun h => ?_)
  · refine z_iconst C (v := 0) dX5_length_22 (by decide) ?_
    cases h
    exact z_iret C hr hlk dX5_length_23
  · refine z_iload_n C 1 rfl dX5_length_4 ?_
    refine z_aload_n C 0 rfl dX5_length_5 ?_
    refine z_get C iRX5 13 gC_13 rfl 1 (by decide) fl_RX5_15 rfl dX5_length_6 ?_
    refine z_alen C 20 0 gC_20 rfl (v := 10) rfl dX5_length_9 ?_
    refine z_icmp_ge C 22 (by decide) dX5_length_10 h (fun h => ?_) (fun h => ?_)
    · refine z_iconst C (v := 0) dX5_length_22 (by decide) ?_
      cases h
      exact z_iret C hr hlk dX5_length_23
    · refine z_aload_n C 0 rfl dX5_length_13 ?_
      refine z_get C iRX5 13 gC_13 rfl 1 (by decide) fl_RX5_15 rfl dX5_length_14 ?_
      refine z_iload_n C 1 rfl dX5_length_17 ?_
      refine z_iald C 20 0 gC_20 rfl dX5_length_18 h (fun y1 h => ?_)
      refine z_goto C 23 (by decide) dX5_length_19 ?_
      cases h
      exact z_iret C hr hlk dX5_length_23
theorem dX5_at_0 : decode cX5_at 0 = .ok (.iload_n 1, 1) := by decide +kernel
theorem dX5_at_1 : decode cX5_at 1 = .ok (.ifCond .lt 23, 3) := by decide +kernel
theorem dX5_at_4 : decode cX5_at 4 = .ok (.iload_n 1, 1) := by decide +kernel
theorem dX5_at_5 : decode cX5_at 5 = .ok (.bipush 10, 2) := by decide +kernel
theorem dX5_at_7 : decode cX5_at 7 = .ok (.if_icmp .ge 17, 3) := by decide +kernel
theorem dX5_at_10 : decode cX5_at 10 = .ok (.iload_n 2, 1) := by decide +kernel
theorem dX5_at_11 : decode cX5_at 11 = .ok (.ifCond .lt 13, 3) := by decide +kernel
theorem dX5_at_14 : decode cX5_at 14 = .ok (.iload_n 2, 1) := by decide +kernel
theorem dX5_at_15 : decode cX5_at 15 = .ok (.aload_n 0, 1) := by decide +kernel
theorem dX5_at_16 : decode cX5_at 16 = .ok (.getfield 15, 3) := by decide +kernel
theorem dX5_at_19 : decode cX5_at 19 = .ok (.iload_n 1, 1) := by decide +kernel
theorem dX5_at_20 : decode cX5_at 20 = .ok (.iaload, 1) := by decide +kernel
theorem dX5_at_21 : decode cX5_at 21 = .ok (.if_icmp .lt 5, 3) := by decide +kernel
theorem dX5_at_24 : decode cX5_at 24 = .ok (.iconst (-1), 1) := by decide +kernel
theorem dX5_at_25 : decode cX5_at 25 = .ok (.ireturn, 1) := by decide +kernel
theorem dX5_at_26 : decode cX5_at 26 = .ok (.aload_n 0, 1) := by decide +kernel
theorem dX5_at_27 : decode cX5_at 27 = .ok (.getfield 9, 3) := by decide +kernel
theorem dX5_at_30 : decode cX5_at 30 = .ok (.iload_n 1, 1) := by decide +kernel
theorem dX5_at_31 : decode cX5_at 31 = .ok (.laload, 1) := by decide +kernel
theorem dX5_at_32 : decode cX5_at 32 = .ok (.iconst 4, 1) := by decide +kernel
theorem dX5_at_33 : decode cX5_at 33 = .ok (.iload_n 2, 1) := by decide +kernel
theorem dX5_at_34 : decode cX5_at 34 = .ok (.imul, 1) := by decide +kernel
theorem dX5_at_35 : decode cX5_at 35 = .ok (.lshr, 1) := by decide +kernel
theorem dX5_at_36 : decode cX5_at 36 = .ok (.l2i, 1) := by decide +kernel
theorem dX5_at_37 : decode cX5_at 37 = .ok (.bipush 15, 2) := by decide +kernel
theorem dX5_at_39 : decode cX5_at 39 = .ok (.iand, 1) := by decide +kernel
theorem dX5_at_40 : decode cX5_at 40 = .ok (.ireturn, 1) := by decide +kernel
theorem hd_yX5_at : (yX5_at).cls ≠ "java/lang/invoke/MethodHandle" ∧ (yX5_at).cls ≠ "java/lang/invoke/VarHandle" ∧ (parseMethodDescriptor (yX5_at).desc).map (fun d => d.parameters.length) = some 2 := ⟨by decide, by decide, by decide +kernel⟩
def f_X5_at_n (p0 : Int32) (p1 : Int32) (σ : ZS) : Option Int32 :=
  (if p0 < 0 then some (-1) else (if 10 ≤ p0 then some (-1) else (if p1 < 0 then some (-1) else ld (σ.2.1 16) 10 p0 (fun y1 => (if p1 < y1 then ld (σ.2.2 15) 10 p0 (fun y2 => some ((Int64.toInt32 (y2 >>> ((Int32.toInt64 ((4 : Int32) * p1)) &&& 63))) &&& 15)) else some (-1))))))
set_option maxHeartbeats 4000000 in
set_option maxRecDepth 100000 in
theorem c_X5_at_n (l : Launch) (D : va_G) (A : Nat → Prop) (a : Nat → Nat) (x : ClassId × ClassId × ClassId) (σ : ZS) (p0 : Int32) (p1 : Int32) (r : Int32) (h : f_X5_at_n p0 p1 σ = some r) : zM l yX5_at w_yX5_at ({ frames := 0, cells := 0, slots := 0, locals := 0 } : Room) D A (tyz x) [.ref (a 12), .int p0, .int p1] (wC a x σ) (some (.int r)) (wC a x σ) := by
  refine z_start [.ref (a 12), .int p0, .int p1] (lv := [(0, .ref (a 12)), (1, .int p0), (2, .int p1)]) (by decide) (Nat.le_of_ble_eq_true rfl) rfl ?_
  intro p e s m args below meth c C hr hlk
  unfold f_X5_at_n at h
  refine z_iload_n C 1 rfl dX5_at_0 ?_
  refine z_if_lt C 24 (by decide) dX5_at_1 h (fun h => ?_) (fun h => ?_)
  · refine z_iconst C (v := (-1)) dX5_at_24 (by decide) ?_
    cases h
    exact z_iret C hr hlk dX5_at_25
  · refine z_iload_n C 1 rfl dX5_at_4 ?_
    refine z_bipush C (v := 10) dX5_at_5 (by decide) ?_
    refine z_icmp_ge C 24 (by decide) dX5_at_7 h (fun h => ?_) (fun h => ?_)
    · refine z_iconst C (v := (-1)) dX5_at_24 (by decide) ?_
      cases h
      exact z_iret C hr hlk dX5_at_25
    · refine z_iload_n C 2 rfl dX5_at_10 ?_
      refine z_if_lt C 24 (by decide) dX5_at_11 h (fun h => ?_) (fun h => ?_)
      · refine z_iconst C (v := (-1)) dX5_at_24 (by decide) ?_
        cases h
        exact z_iret C hr hlk dX5_at_25
      · refine z_iload_n C 2 rfl dX5_at_14 ?_
        refine z_aload_n C 0 rfl dX5_at_15 ?_
        refine z_get C iRX5 12 gC_12 rfl 1 (by decide) fl_RX5_15 rfl dX5_at_16 ?_
        refine z_iload_n C 1 rfl dX5_at_19 ?_
        refine z_iald C 16 0 gC_16 rfl dX5_at_20 h (fun y1 h => ?_)
        refine z_icmp_lt C 26 (by decide) dX5_at_21 h (fun h => ?_) (fun h => ?_)
        · refine z_aload_n C 0 rfl dX5_at_26 ?_
          refine z_get C iRX5 12 gC_12 rfl 0 (by decide) fl_RX5_9 rfl dX5_at_27 ?_
          refine z_iload_n C 1 rfl dX5_at_30 ?_
          refine z_lald C 15 1 gC_15 rfl dX5_at_31 h (fun y2 h => ?_)
          refine z_iconst C (v := 4) dX5_at_32 (by decide) ?_
          refine z_iload_n C 2 rfl dX5_at_33 ?_
          refine z_imul C dX5_at_34 ?_
          refine z_lshr C dX5_at_35 ?_
          refine z_l2i C dX5_at_36 ?_
          refine z_bipush C (v := 15) dX5_at_37 (by decide) ?_
          refine z_iand C dX5_at_39 ?_
          cases h
          exact z_iret C hr hlk dX5_at_40
        · refine z_iconst C (v := (-1)) dX5_at_24 (by decide) ?_
          cases h
          exact z_iret C hr hlk dX5_at_25
def f_X5_at_b (p0 : Int32) (p1 : Int32) (σ : ZS) : Option Int32 :=
  (if p0 < 0 then some (-1) else (if 10 ≤ p0 then some (-1) else (if p1 < 0 then some (-1) else ld (σ.2.1 20) 10 p0 (fun y1 => (if p1 < y1 then ld (σ.2.2 19) 10 p0 (fun y2 => some ((Int64.toInt32 (y2 >>> ((Int32.toInt64 ((4 : Int32) * p1)) &&& 63))) &&& 15)) else some (-1))))))
set_option maxHeartbeats 4000000 in
set_option maxRecDepth 100000 in
theorem c_X5_at_b (l : Launch) (D : va_G) (A : Nat → Prop) (a : Nat → Nat) (x : ClassId × ClassId × ClassId) (σ : ZS) (p0 : Int32) (p1 : Int32) (r : Int32) (h : f_X5_at_b p0 p1 σ = some r) : zM l yX5_at w_yX5_at ({ frames := 0, cells := 0, slots := 0, locals := 0 } : Room) D A (tyz x) [.ref (a 13), .int p0, .int p1] (wC a x σ) (some (.int r)) (wC a x σ) := by
  refine z_start [.ref (a 13), .int p0, .int p1] (lv := [(0, .ref (a 13)), (1, .int p0), (2, .int p1)]) (by decide) (Nat.le_of_ble_eq_true rfl) rfl ?_
  intro p e s m args below meth c C hr hlk
  unfold f_X5_at_b at h
  refine z_iload_n C 1 rfl dX5_at_0 ?_
  refine z_if_lt C 24 (by decide) dX5_at_1 h (fun h => ?_) (fun h => ?_)
  · refine z_iconst C (v := (-1)) dX5_at_24 (by decide) ?_
    cases h
    exact z_iret C hr hlk dX5_at_25
  · refine z_iload_n C 1 rfl dX5_at_4 ?_
    refine z_bipush C (v := 10) dX5_at_5 (by decide) ?_
    refine z_icmp_ge C 24 (by decide) dX5_at_7 h (fun h => ?_) (fun h => ?_)
    · refine z_iconst C (v := (-1)) dX5_at_24 (by decide) ?_
      cases h
      exact z_iret C hr hlk dX5_at_25
    · refine z_iload_n C 2 rfl dX5_at_10 ?_
      refine z_if_lt C 24 (by decide) dX5_at_11 h (fun h => ?_) (fun h => ?_)
      · refine z_iconst C (v := (-1)) dX5_at_24 (by decide) ?_
        cases h
        exact z_iret C hr hlk dX5_at_25
      · refine z_iload_n C 2 rfl dX5_at_14 ?_
        refine z_aload_n C 0 rfl dX5_at_15 ?_
        refine z_get C iRX5 13 gC_13 rfl 1 (by decide) fl_RX5_15 rfl dX5_at_16 ?_
        refine z_iload_n C 1 rfl dX5_at_19 ?_
        refine z_iald C 20 0 gC_20 rfl dX5_at_20 h (fun y1 h => ?_)
        refine z_icmp_lt C 26 (by decide) dX5_at_21 h (fun h => ?_) (fun h => ?_)
        · refine z_aload_n C 0 rfl dX5_at_26 ?_
          refine z_get C iRX5 13 gC_13 rfl 0 (by decide) fl_RX5_9 rfl dX5_at_27 ?_
          refine z_iload_n C 1 rfl dX5_at_30 ?_
          refine z_lald C 19 1 gC_19 rfl dX5_at_31 h (fun y2 h => ?_)
          refine z_iconst C (v := 4) dX5_at_32 (by decide) ?_
          refine z_iload_n C 2 rfl dX5_at_33 ?_
          refine z_imul C dX5_at_34 ?_
          refine z_lshr C dX5_at_35 ?_
          refine z_l2i C dX5_at_36 ?_
          refine z_bipush C (v := 15) dX5_at_37 (by decide) ?_
          refine z_iand C dX5_at_39 ?_
          cases h
          exact z_iret C hr hlk dX5_at_40
        · refine z_iconst C (v := (-1)) dX5_at_24 (by decide) ?_
          cases h
          exact z_iret C hr hlk dX5_at_25
theorem dX5_last_0 : decode cX5_last 0 = .ok (.iload_n 1, 1) := by decide +kernel
theorem dX5_last_1 : decode cX5_last 1 = .ok (.ifCond .lt 21, 3) := by decide +kernel
theorem dX5_last_4 : decode cX5_last 4 = .ok (.iload_n 1, 1) := by decide +kernel
theorem dX5_last_5 : decode cX5_last 5 = .ok (.aload_n 0, 1) := by decide +kernel
theorem dX5_last_6 : decode cX5_last 6 = .ok (.getfield 19, 3) := by decide +kernel
theorem dX5_last_9 : decode cX5_last 9 = .ok (.arraylength, 1) := by decide +kernel
theorem dX5_last_10 : decode cX5_last 10 = .ok (.if_icmp .ge 12, 3) := by decide +kernel
theorem dX5_last_13 : decode cX5_last 13 = .ok (.aload_n 0, 1) := by decide +kernel
theorem dX5_last_14 : decode cX5_last 14 = .ok (.getfield 19, 3) := by decide +kernel
theorem dX5_last_17 : decode cX5_last 17 = .ok (.iload_n 1, 1) := by decide +kernel
theorem dX5_last_18 : decode cX5_last 18 = .ok (.iaload, 1) := by decide +kernel
theorem dX5_last_19 : decode cX5_last 19 = .ok (.goto 4, 3) := by decide +kernel
theorem dX5_last_22 : decode cX5_last 22 = .ok (.iconst (-1), 1) := by decide +kernel
theorem dX5_last_23 : decode cX5_last 23 = .ok (.ireturn, 1) := by decide +kernel
theorem hd_yX5_last : (yX5_last).cls ≠ "java/lang/invoke/MethodHandle" ∧ (yX5_last).cls ≠ "java/lang/invoke/VarHandle" ∧ (parseMethodDescriptor (yX5_last).desc).map (fun d => d.parameters.length) = some 1 := ⟨by decide, by decide, by decide +kernel⟩
def f_X5_last_n (p0 : Int32) (σ : ZS) : Option Int32 :=
  (if p0 < 0 then some (-1) else (if 10 ≤ p0 then some (-1) else ld (σ.2.1 17) 10 p0 (fun y1 => some y1)))
set_option maxHeartbeats 4000000 in
set_option maxRecDepth 100000 in
theorem c_X5_last_n (l : Launch) (D : va_G) (A : Nat → Prop) (a : Nat → Nat) (x : ClassId × ClassId × ClassId) (σ : ZS) (p0 : Int32) (r : Int32) (h : f_X5_last_n p0 σ = some r) : zM l yX5_last w_yX5_last ({ frames := 0, cells := 0, slots := 0, locals := 0 } : Room) D A (tyz x) [.ref (a 12), .int p0] (wC a x σ) (some (.int r)) (wC a x σ) := by
  refine z_start [.ref (a 12), .int p0] (lv := [(0, .ref (a 12)), (1, .int p0)]) (by decide) (Nat.le_of_ble_eq_true rfl) rfl ?_
  intro p e s m args below meth c C hr hlk
  unfold f_X5_last_n at h
  refine z_iload_n C 1 rfl dX5_last_0 ?_
  refine z_if_lt C 22 (by decide) dX5_last_1 h (fun h => ?_) (fun h => ?_)
  · refine z_iconst C (v := (-1)) dX5_last_22 (by decide) ?_
    cases h
    exact z_iret C hr hlk dX5_last_23
  · refine z_iload_n C 1 rfl dX5_last_4 ?_
    refine z_aload_n C 0 rfl dX5_last_5 ?_
    refine z_get C iRX5 12 gC_12 rfl 2 (by decide) fl_RX5_19 rfl dX5_last_6 ?_
    refine z_alen C 17 0 gC_17 rfl (v := 10) rfl dX5_last_9 ?_
    refine z_icmp_ge C 22 (by decide) dX5_last_10 h (fun h => ?_) (fun h => ?_)
    · refine z_iconst C (v := (-1)) dX5_last_22 (by decide) ?_
      cases h
      exact z_iret C hr hlk dX5_last_23
    · refine z_aload_n C 0 rfl dX5_last_13 ?_
      refine z_get C iRX5 12 gC_12 rfl 2 (by decide) fl_RX5_19 rfl dX5_last_14 ?_
      refine z_iload_n C 1 rfl dX5_last_17 ?_
      refine z_iald C 17 0 gC_17 rfl dX5_last_18 h (fun y1 h => ?_)
      refine z_goto C 23 (by decide) dX5_last_19 ?_
      cases h
      exact z_iret C hr hlk dX5_last_23
def f_X5_last_b (p0 : Int32) (σ : ZS) : Option Int32 :=
  (if p0 < 0 then some (-1) else (if 10 ≤ p0 then some (-1) else ld (σ.2.1 21) 10 p0 (fun y1 => some y1)))
set_option maxHeartbeats 4000000 in
set_option maxRecDepth 100000 in
theorem c_X5_last_b (l : Launch) (D : va_G) (A : Nat → Prop) (a : Nat → Nat) (x : ClassId × ClassId × ClassId) (σ : ZS) (p0 : Int32) (r : Int32) (h : f_X5_last_b p0 σ = some r) : zM l yX5_last w_yX5_last ({ frames := 0, cells := 0, slots := 0, locals := 0 } : Room) D A (tyz x) [.ref (a 13), .int p0] (wC a x σ) (some (.int r)) (wC a x σ) := by
  refine z_start [.ref (a 13), .int p0] (lv := [(0, .ref (a 13)), (1, .int p0)]) (by decide) (Nat.le_of_ble_eq_true rfl) rfl ?_
  intro p e s m args below meth c C hr hlk
  unfold f_X5_last_b at h
  refine z_iload_n C 1 rfl dX5_last_0 ?_
  refine z_if_lt C 22 (by decide) dX5_last_1 h (fun h => ?_) (fun h => ?_)
  · refine z_iconst C (v := (-1)) dX5_last_22 (by decide) ?_
    cases h
    exact z_iret C hr hlk dX5_last_23
  · refine z_iload_n C 1 rfl dX5_last_4 ?_
    refine z_aload_n C 0 rfl dX5_last_5 ?_
    refine z_get C iRX5 13 gC_13 rfl 2 (by decide) fl_RX5_19 rfl dX5_last_6 ?_
    refine z_alen C 21 0 gC_21 rfl (v := 10) rfl dX5_last_9 ?_
    refine z_icmp_ge C 22 (by decide) dX5_last_10 h (fun h => ?_) (fun h => ?_)
    · refine z_iconst C (v := (-1)) dX5_last_22 (by decide) ?_
      cases h
      exact z_iret C hr hlk dX5_last_23
    · refine z_aload_n C 0 rfl dX5_last_13 ?_
      refine z_get C iRX5 13 gC_13 rfl 2 (by decide) fl_RX5_19 rfl dX5_last_14 ?_
      refine z_iload_n C 1 rfl dX5_last_17 ?_
      refine z_iald C 21 0 gC_21 rfl dX5_last_18 h (fun y1 h => ?_)
      refine z_goto C 23 (by decide) dX5_last_19 ?_
      cases h
      exact z_iret C hr hlk dX5_last_23
theorem dX5_isOn_0 : decode cX5_isOn 0 = .ok (.iload_n 1, 1) := by decide +kernel
theorem dX5_isOn_1 : decode cX5_isOn 1 = .ok (.ifCond .lt 30, 3) := by decide +kernel
theorem dX5_isOn_4 : decode cX5_isOn 4 = .ok (.iload_n 1, 1) := by decide +kernel
theorem dX5_isOn_5 : decode cX5_isOn 5 = .ok (.aload_n 0, 1) := by decide +kernel
theorem dX5_isOn_6 : decode cX5_isOn 6 = .ok (.getfield 22, 3) := by decide +kernel
theorem dX5_isOn_9 : decode cX5_isOn 9 = .ok (.arraylength, 1) := by decide +kernel
theorem dX5_isOn_10 : decode cX5_isOn 10 = .ok (.if_icmp .ge 21, 3) := by decide +kernel
theorem dX5_isOn_13 : decode cX5_isOn 13 = .ok (.aload_n 0, 1) := by decide +kernel
theorem dX5_isOn_14 : decode cX5_isOn 14 = .ok (.getfield 22, 3) := by decide +kernel
theorem dX5_isOn_17 : decode cX5_isOn 17 = .ok (.iload_n 1, 1) := by decide +kernel
theorem dX5_isOn_18 : decode cX5_isOn 18 = .ok (.iaload, 1) := by decide +kernel
theorem dX5_isOn_19 : decode cX5_isOn 19 = .ok (.iload_n 2, 1) := by decide +kernel
theorem dX5_isOn_20 : decode cX5_isOn 20 = .ok (.ishr, 1) := by decide +kernel
theorem dX5_isOn_21 : decode cX5_isOn 21 = .ok (.iconst 1, 1) := by decide +kernel
theorem dX5_isOn_22 : decode cX5_isOn 22 = .ok (.iand, 1) := by decide +kernel
theorem dX5_isOn_23 : decode cX5_isOn 23 = .ok (.iconst 1, 1) := by decide +kernel
theorem dX5_isOn_24 : decode cX5_isOn 24 = .ok (.if_icmp .ne 7, 3) := by decide +kernel
theorem dX5_isOn_27 : decode cX5_isOn 27 = .ok (.iconst 1, 1) := by decide +kernel
theorem dX5_isOn_28 : decode cX5_isOn 28 = .ok (.goto 4, 3) := by decide +kernel
theorem dX5_isOn_31 : decode cX5_isOn 31 = .ok (.iconst 0, 1) := by decide +kernel
theorem dX5_isOn_32 : decode cX5_isOn 32 = .ok (.ireturn, 1) := by decide +kernel
theorem hd_yX5_isOn : (yX5_isOn).cls ≠ "java/lang/invoke/MethodHandle" ∧ (yX5_isOn).cls ≠ "java/lang/invoke/VarHandle" ∧ (parseMethodDescriptor (yX5_isOn).desc).map (fun d => d.parameters.length) = some 2 := ⟨by decide, by decide, by decide +kernel⟩
def f_X5_isOn_b (p0 : Int32) (p1 : Int32) (σ : ZS) : Option Int32 :=
  (if p0 < 0 then some 0 else (if 10 ≤ p0 then some 0 else ld (σ.2.1 22) 10 p0 (fun y1 => (if ((y1 >>> (p1 &&& 31)) &&& 1) = 1 then some 1 else some 0))))
set_option maxHeartbeats 4000000 in
set_option maxRecDepth 100000 in
theorem c_X5_isOn_b (l : Launch) (D : va_G) (A : Nat → Prop) (a : Nat → Nat) (x : ClassId × ClassId × ClassId) (σ : ZS) (p0 : Int32) (p1 : Int32) (r : Int32) (h : f_X5_isOn_b p0 p1 σ = some r) : zM l yX5_isOn w_yX5_isOn ({ frames := 0, cells := 0, slots := 0, locals := 0 } : Room) D A (tyz x) [.ref (a 13), .int p0, .int p1] (wC a x σ) (some (.int r)) (wC a x σ) := by
  refine z_start [.ref (a 13), .int p0, .int p1] (lv := [(0, .ref (a 13)), (1, .int p0), (2, .int p1)]) (by decide) (Nat.le_of_ble_eq_true rfl) rfl ?_
  intro p e s m args below meth c C hr hlk
  unfold f_X5_isOn_b at h
  refine z_iload_n C 1 rfl dX5_isOn_0 ?_
  refine z_if_lt C 31 (by decide) dX5_isOn_1 h (fun h => ?_) (fun h => ?_)
  · refine z_iconst C (v := 0) dX5_isOn_31 (by decide) ?_
    cases h
    exact z_zret C hr hlk rfl dX5_isOn_32
  · refine z_iload_n C 1 rfl dX5_isOn_4 ?_
    refine z_aload_n C 0 rfl dX5_isOn_5 ?_
    refine z_get C iRX5 13 gC_13 rfl 3 (by decide) fl_RX5_22 rfl dX5_isOn_6 ?_
    refine z_alen C 22 0 gC_22 rfl (v := 10) rfl dX5_isOn_9 ?_
    refine z_icmp_ge C 31 (by decide) dX5_isOn_10 h (fun h => ?_) (fun h => ?_)
    · refine z_iconst C (v := 0) dX5_isOn_31 (by decide) ?_
      cases h
      exact z_zret C hr hlk rfl dX5_isOn_32
    · refine z_aload_n C 0 rfl dX5_isOn_13 ?_
      refine z_get C iRX5 13 gC_13 rfl 3 (by decide) fl_RX5_22 rfl dX5_isOn_14 ?_
      refine z_iload_n C 1 rfl dX5_isOn_17 ?_
      refine z_iald C 22 0 gC_22 rfl dX5_isOn_18 h (fun y1 h => ?_)
      refine z_iload_n C 2 rfl dX5_isOn_19 ?_
      refine z_ishr C dX5_isOn_20 ?_
      refine z_iconst C (v := 1) dX5_isOn_21 (by decide) ?_
      refine z_iand C dX5_isOn_22 ?_
      refine z_iconst C (v := 1) dX5_isOn_23 (by decide) ?_
      refine z_icmp_ne C 31 (by decide) dX5_isOn_24 h (fun h => ?_) (fun h => ?_)
      · refine z_iconst C (v := 0) dX5_isOn_31 (by decide) ?_
        cases h
        exact z_zret C hr hlk rfl dX5_isOn_32
      · refine z_iconst C (v := 1) dX5_isOn_27 (by decide) ?_
        refine z_goto C 32 (by decide) dX5_isOn_28 ?_
        cases h
        exact z_zret C hr hlk rfl dX5_isOn_32
theorem dX5_follow_0 : decode cX5_follow 0 = .ok (.iload_n 1, 1) := by decide +kernel
theorem dX5_follow_1 : decode cX5_follow 1 = .ok (.ifCond .lt 9, 3) := by decide +kernel
theorem dX5_follow_4 : decode cX5_follow 4 = .ok (.iload_n 1, 1) := by decide +kernel
theorem dX5_follow_5 : decode cX5_follow 5 = .ok (.bipush 10, 2) := by decide +kernel
theorem dX5_follow_7 : decode cX5_follow 7 = .ok (.if_icmp .lt 5, 3) := by decide +kernel
theorem dX5_follow_10 : decode cX5_follow 10 = .ok (.iconst 0, 1) := by decide +kernel
theorem dX5_follow_11 : decode cX5_follow 11 = .ok (.ireturn, 1) := by decide +kernel
theorem dX5_follow_12 : decode cX5_follow 12 = .ok (.iload_n 3, 1) := by decide +kernel
theorem dX5_follow_13 : decode cX5_follow 13 = .ok (.ifCond .lt 13, 3) := by decide +kernel
theorem dX5_follow_16 : decode cX5_follow 16 = .ok (.iload_n 3, 1) := by decide +kernel
theorem dX5_follow_17 : decode cX5_follow 17 = .ok (.bipush 10, 2) := by decide +kernel
theorem dX5_follow_19 : decode cX5_follow 19 = .ok (.if_icmp .ge 7, 3) := by decide +kernel
theorem dX5_follow_22 : decode cX5_follow 22 = .ok (.iconst 1, 1) := by decide +kernel
theorem dX5_follow_23 : decode cX5_follow 23 = .ok (.goto 4, 3) := by decide +kernel
theorem dX5_follow_26 : decode cX5_follow 26 = .ok (.iconst 0, 1) := by decide +kernel
theorem dX5_follow_27 : decode cX5_follow 27 = .ok (.istore 4, 2) := by decide +kernel
theorem dX5_follow_29 : decode cX5_follow 29 = .ok (.iload 4, 2) := by decide +kernel
theorem dX5_follow_31 : decode cX5_follow 31 = .ok (.ifCond .eq 17, 3) := by decide +kernel
theorem dX5_follow_34 : decode cX5_follow 34 = .ok (.aload_n 2, 1) := by decide +kernel
theorem dX5_follow_35 : decode cX5_follow 35 = .ok (.getfield 9, 3) := by decide +kernel
theorem dX5_follow_38 : decode cX5_follow 38 = .ok (.iload_n 3, 1) := by decide +kernel
theorem dX5_follow_39 : decode cX5_follow 39 = .ok (.laload, 1) := by decide +kernel
theorem dX5_follow_40 : decode cX5_follow 40 = .ok (.iconst 4, 1) := by decide +kernel
theorem dX5_follow_41 : decode cX5_follow 41 = .ok (.lshl, 1) := by decide +kernel
theorem dX5_follow_42 : decode cX5_follow 42 = .ok (.iload_n 1, 1) := by decide +kernel
theorem dX5_follow_43 : decode cX5_follow 43 = .ok (.i2l, 1) := by decide +kernel
theorem dX5_follow_44 : decode cX5_follow 44 = .ok (.lor, 1) := by decide +kernel
theorem dX5_follow_45 : decode cX5_follow 45 = .ok (.goto 4, 3) := by decide +kernel
theorem dX5_follow_48 : decode cX5_follow 48 = .ok (.lconst 0, 1) := by decide +kernel
theorem dX5_follow_49 : decode cX5_follow 49 = .ok (.lstore 5, 2) := by decide +kernel
theorem dX5_follow_51 : decode cX5_follow 51 = .ok (.iload 4, 2) := by decide +kernel
theorem dX5_follow_53 : decode cX5_follow 53 = .ok (.ifCond .eq 14, 3) := by decide +kernel
theorem dX5_follow_56 : decode cX5_follow 56 = .ok (.aload_n 2, 1) := by decide +kernel
theorem dX5_follow_57 : decode cX5_follow 57 = .ok (.getfield 15, 3) := by decide +kernel
theorem dX5_follow_60 : decode cX5_follow 60 = .ok (.iload_n 3, 1) := by decide +kernel
theorem dX5_follow_61 : decode cX5_follow 61 = .ok (.iaload, 1) := by decide +kernel
theorem dX5_follow_62 : decode cX5_follow 62 = .ok (.iconst 1, 1) := by decide +kernel
theorem dX5_follow_63 : decode cX5_follow 63 = .ok (.iadd, 1) := by decide +kernel
theorem dX5_follow_64 : decode cX5_follow 64 = .ok (.goto 4, 3) := by decide +kernel
theorem dX5_follow_67 : decode cX5_follow 67 = .ok (.iconst 0, 1) := by decide +kernel
theorem dX5_follow_68 : decode cX5_follow 68 = .ok (.istore 7, 2) := by decide +kernel
theorem dX5_follow_70 : decode cX5_follow 70 = .ok (.lload 5, 2) := by decide +kernel
theorem dX5_follow_72 : decode cX5_follow 72 = .ok (.aload_n 0, 1) := by decide +kernel
theorem dX5_follow_73 : decode cX5_follow 73 = .ok (.getfield 9, 3) := by decide +kernel
theorem dX5_follow_76 : decode cX5_follow 76 = .ok (.iload_n 1, 1) := by decide +kernel
theorem dX5_follow_77 : decode cX5_follow 77 = .ok (.laload, 1) := by decide +kernel
theorem dX5_follow_78 : decode cX5_follow 78 = .ok (.lcmp, 1) := by decide +kernel
theorem dX5_follow_79 : decode cX5_follow 79 = .ok (.ifCond .ne 14, 3) := by decide +kernel
theorem dX5_follow_82 : decode cX5_follow 82 = .ok (.iload 7, 2) := by decide +kernel
theorem dX5_follow_84 : decode cX5_follow 84 = .ok (.aload_n 0, 1) := by decide +kernel
theorem dX5_follow_85 : decode cX5_follow 85 = .ok (.getfield 15, 3) := by decide +kernel
theorem dX5_follow_88 : decode cX5_follow 88 = .ok (.iload_n 1, 1) := by decide +kernel
theorem dX5_follow_89 : decode cX5_follow 89 = .ok (.iaload, 1) := by decide +kernel
theorem dX5_follow_90 : decode cX5_follow 90 = .ok (.if_icmp .eq 7, 3) := by decide +kernel
theorem dX5_follow_93 : decode cX5_follow 93 = .ok (.iconst 1, 1) := by decide +kernel
theorem dX5_follow_94 : decode cX5_follow 94 = .ok (.goto 4, 3) := by decide +kernel
theorem dX5_follow_97 : decode cX5_follow 97 = .ok (.iconst 0, 1) := by decide +kernel
theorem dX5_follow_98 : decode cX5_follow 98 = .ok (.istore 8, 2) := by decide +kernel
theorem dX5_follow_100 : decode cX5_follow 100 = .ok (.aload_n 0, 1) := by decide +kernel
theorem dX5_follow_101 : decode cX5_follow 101 = .ok (.getfield 9, 3) := by decide +kernel
theorem dX5_follow_104 : decode cX5_follow 104 = .ok (.iload_n 1, 1) := by decide +kernel
theorem dX5_follow_105 : decode cX5_follow 105 = .ok (.lload 5, 2) := by decide +kernel
theorem dX5_follow_107 : decode cX5_follow 107 = .ok (.lastore, 1) := by decide +kernel
theorem dX5_follow_108 : decode cX5_follow 108 = .ok (.aload_n 0, 1) := by decide +kernel
theorem dX5_follow_109 : decode cX5_follow 109 = .ok (.getfield 15, 3) := by decide +kernel
theorem dX5_follow_112 : decode cX5_follow 112 = .ok (.iload_n 1, 1) := by decide +kernel
theorem dX5_follow_113 : decode cX5_follow 113 = .ok (.iload 7, 2) := by decide +kernel
theorem dX5_follow_115 : decode cX5_follow 115 = .ok (.iastore, 1) := by decide +kernel
theorem dX5_follow_116 : decode cX5_follow 116 = .ok (.aload_n 0, 1) := by decide +kernel
theorem dX5_follow_117 : decode cX5_follow 117 = .ok (.getfield 19, 3) := by decide +kernel
theorem dX5_follow_120 : decode cX5_follow 120 = .ok (.iload_n 1, 1) := by decide +kernel
theorem dX5_follow_121 : decode cX5_follow 121 = .ok (.iload 4, 2) := by decide +kernel
theorem dX5_follow_123 : decode cX5_follow 123 = .ok (.ifCond .eq 12, 3) := by decide +kernel
theorem dX5_follow_126 : decode cX5_follow 126 = .ok (.aload_n 2, 1) := by decide +kernel
theorem dX5_follow_127 : decode cX5_follow 127 = .ok (.getfield 19, 3) := by decide +kernel
theorem dX5_follow_130 : decode cX5_follow 130 = .ok (.iload_n 3, 1) := by decide +kernel
theorem dX5_follow_131 : decode cX5_follow 131 = .ok (.iaload, 1) := by decide +kernel
theorem dX5_follow_132 : decode cX5_follow 132 = .ok (.goto 4, 3) := by decide +kernel
theorem dX5_follow_135 : decode cX5_follow 135 = .ok (.iconst (-1), 1) := by decide +kernel
theorem dX5_follow_136 : decode cX5_follow 136 = .ok (.iastore, 1) := by decide +kernel
theorem dX5_follow_137 : decode cX5_follow 137 = .ok (.aload_n 0, 1) := by decide +kernel
theorem dX5_follow_138 : decode cX5_follow 138 = .ok (.getfield 22, 3) := by decide +kernel
theorem dX5_follow_141 : decode cX5_follow 141 = .ok (.iload_n 1, 1) := by decide +kernel
theorem dX5_follow_142 : decode cX5_follow 142 = .ok (.iload 4, 2) := by decide +kernel
theorem dX5_follow_144 : decode cX5_follow 144 = .ok (.ifCond .eq 17, 3) := by decide +kernel
theorem dX5_follow_147 : decode cX5_follow 147 = .ok (.aload_n 2, 1) := by decide +kernel
theorem dX5_follow_148 : decode cX5_follow 148 = .ok (.getfield 22, 3) := by decide +kernel
theorem dX5_follow_151 : decode cX5_follow 151 = .ok (.iload_n 3, 1) := by decide +kernel
theorem dX5_follow_152 : decode cX5_follow 152 = .ok (.iaload, 1) := by decide +kernel
theorem dX5_follow_153 : decode cX5_follow 153 = .ok (.iload_n 1, 1) := by decide +kernel
theorem dX5_follow_154 : decode cX5_follow 154 = .ok (.invokestatic 29, 3) := by decide +kernel
theorem dX5_follow_157 : decode cX5_follow 157 = .ok (.ior, 1) := by decide +kernel
theorem dX5_follow_158 : decode cX5_follow 158 = .ok (.goto 4, 3) := by decide +kernel
theorem dX5_follow_161 : decode cX5_follow 161 = .ok (.iconst 0, 1) := by decide +kernel
theorem dX5_follow_162 : decode cX5_follow 162 = .ok (.iastore, 1) := by decide +kernel
theorem dX5_follow_163 : decode cX5_follow 163 = .ok (.iload 8, 2) := by decide +kernel
theorem dX5_follow_165 : decode cX5_follow 165 = .ok (.ireturn, 1) := by decide +kernel
theorem hd_yX5_follow : (yX5_follow).cls ≠ "java/lang/invoke/MethodHandle" ∧ (yX5_follow).cls ≠ "java/lang/invoke/VarHandle" ∧ (parseMethodDescriptor (yX5_follow).desc).map (fun d => d.parameters.length) = some 3 := ⟨by decide, by decide, by decide +kernel⟩
def f_X5_follow_n_J136 (l1 : Int32) (l3 : Int32) (l4 : Int32) (l8 : Int32) (s0 : Int32) (s1 : Int32) (σ : ZS) : Option (Int32 × ZS) :=
  ck (inb s1 10) ((if l4 = 0 then ck (inb l1 10) (ck (isB l8) (some (l8, setA (setA σ 17 (Int32.toNatClampNeg s1) s0) 18 (Int32.toNatClampNeg l1) 0))) else ld ((setA σ 17 (Int32.toNatClampNeg s1) s0).2.1 22) 10 l3 (fun y6 => Option.bind (f_X6_bit l1) (fun q7 => ck (inb l1 10) (ck (isB l8) (some (l8, setA (setA σ 17 (Int32.toNatClampNeg s1) s0) 18 (Int32.toNatClampNeg l1) (y6 ||| q7))))))))
def f_X5_follow_n_J98 (l1 : Int32) (l3 : Int32) (l4 : Int32) (l5 : Int64) (l7 : Int32) (s0 : Int32) (σ : ZS) : Option (Int32 × ZS) :=
  ck (inb l1 10) (ck (inb l1 10) ((if l4 = 0 then f_X5_follow_n_J136 l1 l3 l4 s0 (-1) l1 (setA (setL σ 15 (Int32.toNatClampNeg l1) l5) 16 (Int32.toNatClampNeg l1) l7) else ld ((setA (setL σ 15 (Int32.toNatClampNeg l1) l5) 16 (Int32.toNatClampNeg l1) l7).2.1 21) 10 l3 (fun y5 => f_X5_follow_n_J136 l1 l3 l4 s0 y5 l1 (setA (setL σ 15 (Int32.toNatClampNeg l1) l5) 16 (Int32.toNatClampNeg l1) l7)))))
def f_X5_follow_n_J93 (l1 : Int32) (l3 : Int32) (l4 : Int32) (l5 : Int64) (l7 : Int32) (σ : ZS) : Option (Int32 × ZS) :=
  f_X5_follow_n_J98 l1 l3 l4 l5 l7 1 σ
def f_X5_follow_n_J68 (l1 : Int32) (l3 : Int32) (l4 : Int32) (l5 : Int64) (s0 : Int32) (σ : ZS) : Option (Int32 × ZS) :=
  ld (σ.2.2 15) 10 l1 (fun y3 => (if (lg_cmp l5 y3) = 0 then ld (σ.2.1 16) 10 l1 (fun y4 => (if s0 = y4 then f_X5_follow_n_J98 l1 l3 l4 l5 s0 0 σ else f_X5_follow_n_J93 l1 l3 l4 l5 s0 σ)) else f_X5_follow_n_J93 l1 l3 l4 l5 s0 σ))
def f_X5_follow_n_J49 (l1 : Int32) (l3 : Int32) (l4 : Int32) (s0 : Int64) (σ : ZS) : Option (Int32 × ZS) :=
  (if l4 = 0 then f_X5_follow_n_J68 l1 l3 l4 s0 0 σ else ld (σ.2.1 20) 10 l3 (fun y2 => f_X5_follow_n_J68 l1 l3 l4 s0 (y2 + 1) σ))
def f_X5_follow_n_J27 (l1 : Int32) (l3 : Int32) (s0 : Int32) (σ : ZS) : Option (Int32 × ZS) :=
  (if s0 = 0 then f_X5_follow_n_J49 l1 l3 s0 0 σ else ld (σ.2.2 19) 10 l3 (fun y1 => f_X5_follow_n_J49 l1 l3 s0 ((y1 <<< ((Int32.toInt64 4) &&& 63)) ||| (Int32.toInt64 l1)) σ))
def f_X5_follow_n_J26 (l1 : Int32) (l3 : Int32) (σ : ZS) : Option (Int32 × ZS) :=
  f_X5_follow_n_J27 l1 l3 0 σ
def f_X5_follow_n (p0 : Int32) (p2 : Int32) (σ : ZS) : Option (Int32 × ZS) :=
  (if p0 < 0 then some (0, σ) else (if p0 < 10 then (if p2 < 0 then f_X5_follow_n_J26 p0 p2 σ else (if 10 ≤ p2 then f_X5_follow_n_J26 p0 p2 σ else f_X5_follow_n_J27 p0 p2 1 σ)) else some (0, σ)))
set_option maxHeartbeats 4000000 in
set_option maxRecDepth 100000 in
theorem c_X5_follow_n (l : Launch) (D : va_G) (A : Nat → Prop) (a : Nat → Nat) (x : ClassId × ClassId × ClassId) (σ : ZS) (p0 : Int32) (p2 : Int32) (r : (Int32 × ZS)) (h : f_X5_follow_n p0 p2 σ = some r) : zM l yX5_follow w_yX5_follow ({ frames := 1, cells := 0, slots := 0, locals := 20 } : Room) D A (tyz x) [.ref (a 12), .int p0, .ref (a 13), .int p2] (wC a x σ) (some (.int r.1)) (wC a x r.2) := by
  refine z_start [.ref (a 12), .int p0, .ref (a 13), .int p2] (lv := [(0, .ref (a 12)), (1, .int p0), (2, .ref (a 13)), (3, .int p2)]) (by decide) (Nat.le_of_ble_eq_true rfl) rfl ?_
  intro p e s m args below meth c C hr hlk
  have J136 : ∀ (l4_136 : Int32) (l8_136 : Int32) (s0_136 : Int32) (s1_136 : Int32) (σ_136 : ZS), f_X5_follow_n_J136 p0 p2 l4_136 l8_136 s0_136 s1_136 σ_136 = some r → zV p l e ({ frames := 1, cells := 0, slots := 0, locals := 20 } : Room) s m args below meth c 0 0 (MQ below (zQ D A (some (.int r.1)) (wC a x r.2)) args s 0 0 A) D A 9 (wC a x σ_136) 136 [(0, .ref (a 12)), (1, .int p0), (2, .ref (a 13)), (3, .int p2), (4, .int l4_136), (8, .int l8_136)] [.int s0_136, .int s1_136, .ref (a 17)] := by
    intro l4_136 l8_136 s0_136 s1_136 σ_136 h
    unfold f_X5_follow_n_J136 at h
    refine z_iast C 17 0 gC_17 rfl uC_17 dX5_follow_136 h (fun h => ?_)
    refine z_aload_n C 0 rfl dX5_follow_137 ?_
    refine z_get C iRX5 12 gC_12 rfl 3 (by decide) fl_RX5_22 rfl dX5_follow_138 ?_
    refine z_iload_n C 1 rfl dX5_follow_141 ?_
    refine z_iload C 4 rfl dX5_follow_142 ?_
    refine z_if_eq C 161 (by decide) dX5_follow_144 h (fun h => ?_) (fun h => ?_)
    · refine z_iconst C (v := 0) dX5_follow_161 (by decide) ?_
      refine z_iast C 18 0 gC_18 rfl uC_18 dX5_follow_162 h (fun h => ?_)
      refine z_iload C 5 rfl dX5_follow_163 ?_
      obtain ⟨hb, h⟩ := ck_spec h
      cases h
      exact z_zret C hr hlk hb dX5_follow_165
    · refine z_aload_n C 2 rfl dX5_follow_147 ?_
      refine z_get C iRX5 13 gC_13 rfl 3 (by decide) fl_RX5_22 rfl dX5_follow_148 ?_
      refine z_iload_n C 3 rfl dX5_follow_151 ?_
      refine z_iald C 22 0 gC_22 rfl dX5_follow_152 h (fun y1 h => ?_)
      refine z_iload_n C 1 rfl dX5_follow_153 ?_
      obtain ⟨q2, hq2, h⟩ := bd_spec h
      refine z_callSN1 C [.int p0] [.int y1, .int p0, .ref (a 18)] (v := .int q2) 9 rfl (c_X6_bit l D A (tyz x) (wC a x (setA σ_136 17 (Int32.toNatClampNeg s1_136) s0_136)) p0 q2 hq2) cd_yX6_bit in_RX6 rfl sm_yX6_bit hd_yX6_bit ⟨⟨Nat.le_of_ble_eq_true rfl, Nat.le_of_ble_eq_true rfl⟩, rfl, rfl⟩ rfl (Nat.le_of_ble_eq_true rfl) ⟨Nat.zero_le _, Nat.zero_le _⟩ dX5_follow_154 ?_
      refine z_ior C dX5_follow_157 ?_
      refine z_goto C 162 (by decide) dX5_follow_158 ?_
      refine z_iast C 18 0 gC_18 rfl uC_18 dX5_follow_162 h (fun h => ?_)
      refine z_iload C 5 rfl dX5_follow_163 ?_
      obtain ⟨hb, h⟩ := ck_spec h
      cases h
      exact z_zret C hr hlk hb dX5_follow_165
  have J98 : ∀ (l4_98 : Int32) (l5_98 : Int64) (l7_98 : Int32) (s0_98 : Int32) (σ_98 : ZS), f_X5_follow_n_J98 p0 p2 l4_98 l5_98 l7_98 s0_98 σ_98 = some r → zV p l e ({ frames := 1, cells := 0, slots := 0, locals := 20 } : Room) s m args below meth c 0 0 (MQ below (zQ D A (some (.int r.1)) (wC a x r.2)) args s 0 0 A) D A 9 (wC a x σ_98) 98 [(0, .ref (a 12)), (1, .int p0), (2, .ref (a 13)), (3, .int p2), (4, .int l4_98), (5, .long l5_98), (7, .int l7_98)] [.int s0_98] := by
    intro l4_98 l5_98 l7_98 s0_98 σ_98 h
    unfold f_X5_follow_n_J98 at h
    refine z_istore C [(8, .int s0_98), (0, .ref (a 12)), (1, .int p0), (2, .ref (a 13)), (3, .int p2), (4, .int l4_98), (5, .long l5_98), (7, .int l7_98)] (by decide) rfl dX5_follow_98 ?_
    refine z_aload_n C 1 rfl dX5_follow_100 ?_
    refine z_get C iRX5 12 gC_12 rfl 0 (by decide) fl_RX5_9 rfl dX5_follow_101 ?_
    refine z_iload_n C 2 rfl dX5_follow_104 ?_
    refine z_lload C 6 rfl dX5_follow_105 ?_
    refine z_last C 15 1 gC_15 rfl uC_15 dX5_follow_107 h (fun h => ?_)
    refine z_aload_n C 1 rfl dX5_follow_108 ?_
    refine z_get C iRX5 12 gC_12 rfl 1 (by decide) fl_RX5_15 rfl dX5_follow_109 ?_
    refine z_iload_n C 2 rfl dX5_follow_112 ?_
    refine z_iload C 7 rfl dX5_follow_113 ?_
    refine z_iast C 16 0 gC_16 rfl uC_16 dX5_follow_115 h (fun h => ?_)
    refine z_aload_n C 1 rfl dX5_follow_116 ?_
    refine z_get C iRX5 12 gC_12 rfl 2 (by decide) fl_RX5_19 rfl dX5_follow_117 ?_
    refine z_iload_n C 2 rfl dX5_follow_120 ?_
    refine z_iload C 5 rfl dX5_follow_121 ?_
    refine z_if_eq C 135 (by decide) dX5_follow_123 h (fun h => ?_) (fun h => ?_)
    · refine z_iconst C (v := (-1)) dX5_follow_135 (by decide) ?_
      refine z_sub C [1, 2, 3, 4, 5, 0] (lv' := [(0, .ref (a 12)), (1, .int p0), (2, .ref (a 13)), (3, .int p2), (4, .int l4_98), (8, .int s0_98)]) rfl ?_
      exact J136 _ _ _ _ _ h
    · refine z_aload_n C 3 rfl dX5_follow_126 ?_
      refine z_get C iRX5 13 gC_13 rfl 2 (by decide) fl_RX5_19 rfl dX5_follow_127 ?_
      refine z_iload_n C 4 rfl dX5_follow_130 ?_
      refine z_iald C 21 0 gC_21 rfl dX5_follow_131 h (fun y3 h => ?_)
      refine z_goto C 136 (by decide) dX5_follow_132 ?_
      refine z_sub C [1, 2, 3, 4, 5, 0] (lv' := [(0, .ref (a 12)), (1, .int p0), (2, .ref (a 13)), (3, .int p2), (4, .int l4_98), (8, .int s0_98)]) rfl ?_
      exact J136 _ _ _ _ _ h
  have J93 : ∀ (l4_93 : Int32) (l5_93 : Int64) (l7_93 : Int32) (σ_93 : ZS), f_X5_follow_n_J93 p0 p2 l4_93 l5_93 l7_93 σ_93 = some r → zV p l e ({ frames := 1, cells := 0, slots := 0, locals := 20 } : Room) s m args below meth c 0 0 (MQ below (zQ D A (some (.int r.1)) (wC a x r.2)) args s 0 0 A) D A 9 (wC a x σ_93) 93 [(0, .ref (a 12)), (1, .int p0), (2, .ref (a 13)), (3, .int p2), (4, .int l4_93), (5, .long l5_93), (7, .int l7_93)] [] := by
    intro l4_93 l5_93 l7_93 σ_93 h
    unfold f_X5_follow_n_J93 at h
    refine z_iconst C (v := 1) dX5_follow_93 (by decide) ?_
    refine z_goto C 98 (by decide) dX5_follow_94 ?_
    exact J98 _ _ _ _ _ h
  have J68 : ∀ (l4_68 : Int32) (l5_68 : Int64) (s0_68 : Int32) (σ_68 : ZS), f_X5_follow_n_J68 p0 p2 l4_68 l5_68 s0_68 σ_68 = some r → zV p l e ({ frames := 1, cells := 0, slots := 0, locals := 20 } : Room) s m args below meth c 0 0 (MQ below (zQ D A (some (.int r.1)) (wC a x r.2)) args s 0 0 A) D A 9 (wC a x σ_68) 68 [(0, .ref (a 12)), (1, .int p0), (2, .ref (a 13)), (3, .int p2), (4, .int l4_68), (5, .long l5_68)] [.int s0_68] := by
    intro l4_68 l5_68 s0_68 σ_68 h
    unfold f_X5_follow_n_J68 at h
    refine z_istore C [(7, .int s0_68), (0, .ref (a 12)), (1, .int p0), (2, .ref (a 13)), (3, .int p2), (4, .int l4_68), (5, .long l5_68)] (by decide) rfl dX5_follow_68 ?_
    refine z_lload C 6 rfl dX5_follow_70 ?_
    refine z_aload_n C 1 rfl dX5_follow_72 ?_
    refine z_get C iRX5 12 gC_12 rfl 0 (by decide) fl_RX5_9 rfl dX5_follow_73 ?_
    refine z_iload_n C 2 rfl dX5_follow_76 ?_
    refine z_lald C 15 1 gC_15 rfl dX5_follow_77 h (fun y4 h => ?_)
    refine z_lcmp C dX5_follow_78 ?_
    refine z_if_ne C 93 (by decide) dX5_follow_79 h (fun h => ?_) (fun h => ?_)
    · refine z_sub C [1, 2, 3, 4, 5, 6, 0] (lv' := [(0, .ref (a 12)), (1, .int p0), (2, .ref (a 13)), (3, .int p2), (4, .int l4_68), (5, .long l5_68), (7, .int s0_68)]) rfl ?_
      exact J93 _ _ _ _ h
    · refine z_iload C 0 rfl dX5_follow_82 ?_
      refine z_aload_n C 1 rfl dX5_follow_84 ?_
      refine z_get C iRX5 12 gC_12 rfl 1 (by decide) fl_RX5_15 rfl dX5_follow_85 ?_
      refine z_iload_n C 2 rfl dX5_follow_88 ?_
      refine z_iald C 16 0 gC_16 rfl dX5_follow_89 h (fun y5 h => ?_)
      refine z_icmp_eq C 97 (by decide) dX5_follow_90 h (fun h => ?_) (fun h => ?_)
      · refine z_iconst C (v := 0) dX5_follow_97 (by decide) ?_
        refine z_sub C [1, 2, 3, 4, 5, 6, 0] (lv' := [(0, .ref (a 12)), (1, .int p0), (2, .ref (a 13)), (3, .int p2), (4, .int l4_68), (5, .long l5_68), (7, .int s0_68)]) rfl ?_
        exact J98 _ _ _ _ _ h
      · refine z_sub C [1, 2, 3, 4, 5, 6, 0] (lv' := [(0, .ref (a 12)), (1, .int p0), (2, .ref (a 13)), (3, .int p2), (4, .int l4_68), (5, .long l5_68), (7, .int s0_68)]) rfl ?_
        exact J93 _ _ _ _ h
  have J49 : ∀ (l4_49 : Int32) (s0_49 : Int64) (σ_49 : ZS), f_X5_follow_n_J49 p0 p2 l4_49 s0_49 σ_49 = some r → zV p l e ({ frames := 1, cells := 0, slots := 0, locals := 20 } : Room) s m args below meth c 0 0 (MQ below (zQ D A (some (.int r.1)) (wC a x r.2)) args s 0 0 A) D A 9 (wC a x σ_49) 49 [(0, .ref (a 12)), (1, .int p0), (2, .ref (a 13)), (3, .int p2), (4, .int l4_49)] [.long s0_49] := by
    intro l4_49 s0_49 σ_49 h
    unfold f_X5_follow_n_J49 at h
    refine z_lstore C [(5, .long s0_49), (0, .ref (a 12)), (1, .int p0), (2, .ref (a 13)), (3, .int p2), (4, .int l4_49)] (by decide) rfl dX5_follow_49 ?_
    refine z_iload C 5 rfl dX5_follow_51 ?_
    refine z_if_eq C 67 (by decide) dX5_follow_53 h (fun h => ?_) (fun h => ?_)
    · refine z_iconst C (v := 0) dX5_follow_67 (by decide) ?_
      refine z_sub C [1, 2, 3, 4, 5, 0] (lv' := [(0, .ref (a 12)), (1, .int p0), (2, .ref (a 13)), (3, .int p2), (4, .int l4_49), (5, .long s0_49)]) rfl ?_
      exact J68 _ _ _ _ h
    · refine z_aload_n C 3 rfl dX5_follow_56 ?_
      refine z_get C iRX5 13 gC_13 rfl 1 (by decide) fl_RX5_15 rfl dX5_follow_57 ?_
      refine z_iload_n C 4 rfl dX5_follow_60 ?_
      refine z_iald C 20 0 gC_20 rfl dX5_follow_61 h (fun y6 h => ?_)
      refine z_iconst C (v := 1) dX5_follow_62 (by decide) ?_
      refine z_iadd C dX5_follow_63 ?_
      refine z_goto C 68 (by decide) dX5_follow_64 ?_
      refine z_sub C [1, 2, 3, 4, 5, 0] (lv' := [(0, .ref (a 12)), (1, .int p0), (2, .ref (a 13)), (3, .int p2), (4, .int l4_49), (5, .long s0_49)]) rfl ?_
      exact J68 _ _ _ _ h
  have J27 : ∀ (s0_27 : Int32) (σ_27 : ZS), f_X5_follow_n_J27 p0 p2 s0_27 σ_27 = some r → zV p l e ({ frames := 1, cells := 0, slots := 0, locals := 20 } : Room) s m args below meth c 0 0 (MQ below (zQ D A (some (.int r.1)) (wC a x r.2)) args s 0 0 A) D A 9 (wC a x σ_27) 27 [(0, .ref (a 12)), (1, .int p0), (2, .ref (a 13)), (3, .int p2)] [.int s0_27] := by
    intro s0_27 σ_27 h
    unfold f_X5_follow_n_J27 at h
    refine z_istore C [(4, .int s0_27), (0, .ref (a 12)), (1, .int p0), (2, .ref (a 13)), (3, .int p2)] (by decide) rfl dX5_follow_27 ?_
    refine z_iload C 0 rfl dX5_follow_29 ?_
    refine z_if_eq C 48 (by decide) dX5_follow_31 h (fun h => ?_) (fun h => ?_)
    · refine z_lconst C (v := 0) dX5_follow_48 (by decide) ?_
      refine z_sub C [1, 2, 3, 4, 0] (lv' := [(0, .ref (a 12)), (1, .int p0), (2, .ref (a 13)), (3, .int p2), (4, .int s0_27)]) rfl ?_
      exact J49 _ _ _ h
    · refine z_aload_n C 3 rfl dX5_follow_34 ?_
      refine z_get C iRX5 13 gC_13 rfl 0 (by decide) fl_RX5_9 rfl dX5_follow_35 ?_
      refine z_iload_n C 4 rfl dX5_follow_38 ?_
      refine z_lald C 19 1 gC_19 rfl dX5_follow_39 h (fun y7 h => ?_)
      refine z_iconst C (v := 4) dX5_follow_40 (by decide) ?_
      refine z_lshl C dX5_follow_41 ?_
      refine z_iload_n C 2 rfl dX5_follow_42 ?_
      refine z_i2l C dX5_follow_43 ?_
      refine z_lor C dX5_follow_44 ?_
      refine z_goto C 49 (by decide) dX5_follow_45 ?_
      refine z_sub C [1, 2, 3, 4, 0] (lv' := [(0, .ref (a 12)), (1, .int p0), (2, .ref (a 13)), (3, .int p2), (4, .int s0_27)]) rfl ?_
      exact J49 _ _ _ h
  have J26 : ∀ (σ_26 : ZS), f_X5_follow_n_J26 p0 p2 σ_26 = some r → zV p l e ({ frames := 1, cells := 0, slots := 0, locals := 20 } : Room) s m args below meth c 0 0 (MQ below (zQ D A (some (.int r.1)) (wC a x r.2)) args s 0 0 A) D A 9 (wC a x σ_26) 26 [(0, .ref (a 12)), (1, .int p0), (2, .ref (a 13)), (3, .int p2)] [] := by
    intro σ_26 h
    unfold f_X5_follow_n_J26 at h
    refine z_iconst C (v := 0) dX5_follow_26 (by decide) ?_
    exact J27 _ _ h
  unfold f_X5_follow_n at h
  refine z_iload_n C 1 rfl dX5_follow_0 ?_
  refine z_if_lt C 10 (by decide) dX5_follow_1 h (fun h => ?_) (fun h => ?_)
  · refine z_iconst C (v := 0) dX5_follow_10 (by decide) ?_
    cases h
    exact z_zret C hr hlk rfl dX5_follow_11
  · refine z_iload_n C 1 rfl dX5_follow_4 ?_
    refine z_bipush C (v := 10) dX5_follow_5 (by decide) ?_
    refine z_icmp_lt C 12 (by decide) dX5_follow_7 h (fun h => ?_) (fun h => ?_)
    · refine z_iload_n C 3 rfl dX5_follow_12 ?_
      refine z_if_lt C 26 (by decide) dX5_follow_13 h (fun h => ?_) (fun h => ?_)
      · exact J26 _ h
      · refine z_iload_n C 3 rfl dX5_follow_16 ?_
        refine z_bipush C (v := 10) dX5_follow_17 (by decide) ?_
        refine z_icmp_ge C 26 (by decide) dX5_follow_19 h (fun h => ?_) (fun h => ?_)
        · exact J26 _ h
        · refine z_iconst C (v := 1) dX5_follow_22 (by decide) ?_
          refine z_goto C 27 (by decide) dX5_follow_23 ?_
          exact J27 _ _ h
    · refine z_iconst C (v := 0) dX5_follow_10 (by decide) ?_
      cases h
      exact z_zret C hr hlk rfl dX5_follow_11
