theorem dX7_findHops_0 : decode cX7_findHops 0 = .ok (.iconst 0, 1) := by decide +kernel
theorem dX7_findHops_1 : decode cX7_findHops 1 = .ok (.istore_n 3, 1) := by decide +kernel
theorem dX7_findHops_2 : decode cX7_findHops 2 = .ok (.iload_n 3, 1) := by decide +kernel
theorem dX7_findHops_3 : decode cX7_findHops 3 = .ok (.bipush 7, 2) := by decide +kernel
theorem dX7_findHops_5 : decode cX7_findHops 5 = .ok (.if_icmp .ge 126, 3) := by decide +kernel
theorem dX7_findHops_8 : decode cX7_findHops 8 = .ok (.iconst 1, 1) := by decide +kernel
theorem dX7_findHops_9 : decode cX7_findHops 9 = .ok (.bipush 6, 2) := by decide +kernel
theorem dX7_findHops_11 : decode cX7_findHops 11 = .ok (.iload_n 3, 1) := by decide +kernel
theorem dX7_findHops_12 : decode cX7_findHops 12 = .ok (.isub, 1) := by decide +kernel
theorem dX7_findHops_13 : decode cX7_findHops 13 = .ok (.ishl, 1) := by decide +kernel
theorem dX7_findHops_14 : decode cX7_findHops 14 = .ok (.istore 4, 2) := by decide +kernel
theorem dX7_findHops_16 : decode cX7_findHops 16 = .ok (.iload_n 1, 1) := by decide +kernel
theorem dX7_findHops_17 : decode cX7_findHops 17 = .ok (.iload 4, 2) := by decide +kernel
theorem dX7_findHops_19 : decode cX7_findHops 19 = .ok (.idiv, 1) := by decide +kernel
theorem dX7_findHops_20 : decode cX7_findHops 20 = .ok (.iload 4, 2) := by decide +kernel
theorem dX7_findHops_22 : decode cX7_findHops 22 = .ok (.imul, 1) := by decide +kernel
theorem dX7_findHops_23 : decode cX7_findHops 23 = .ok (.istore 5, 2) := by decide +kernel
theorem dX7_findHops_25 : decode cX7_findHops 25 = .ok (.aload_n 0, 1) := by decide +kernel
theorem dX7_findHops_26 : decode cX7_findHops 26 = .ok (.iload_n 3, 1) := by decide +kernel
theorem dX7_findHops_27 : decode cX7_findHops 27 = .ok (.iload 5, 2) := by decide +kernel
theorem dX7_findHops_29 : decode cX7_findHops 29 = .ok (.invokevirtual 123, 3) := by decide +kernel
theorem dX7_findHops_32 : decode cX7_findHops 32 = .ok (.ifCond .eq 11, 3) := by decide +kernel
theorem dX7_findHops_35 : decode cX7_findHops 35 = .ok (.aload_n 0, 1) := by decide +kernel
theorem dX7_findHops_36 : decode cX7_findHops 36 = .ok (.iload_n 3, 1) := by decide +kernel
theorem dX7_findHops_37 : decode cX7_findHops 37 = .ok (.iload 5, 2) := by decide +kernel
theorem dX7_findHops_39 : decode cX7_findHops 39 = .ok (.iload_n 2, 1) := by decide +kernel
theorem dX7_findHops_40 : decode cX7_findHops 40 = .ok (.invokevirtual 126, 3) := by decide +kernel
theorem dX7_findHops_43 : decode cX7_findHops 43 = .ok (.iconst 0, 1) := by decide +kernel
theorem dX7_findHops_44 : decode cX7_findHops 44 = .ok (.istore 6, 2) := by decide +kernel
theorem dX7_findHops_46 : decode cX7_findHops 46 = .ok (.iload 6, 2) := by decide +kernel
theorem dX7_findHops_48 : decode cX7_findHops 48 = .ok (.aload_n 0, 1) := by decide +kernel
theorem dX7_findHops_49 : decode cX7_findHops 49 = .ok (.getfield 49, 3) := by decide +kernel
theorem dX7_findHops_52 : decode cX7_findHops 52 = .ok (.if_icmp .ge 73, 3) := by decide +kernel
theorem dX7_findHops_55 : decode cX7_findHops 55 = .ok (.aload_n 0, 1) := by decide +kernel
theorem dX7_findHops_56 : decode cX7_findHops 56 = .ok (.getfield 43, 3) := by decide +kernel
theorem dX7_findHops_59 : decode cX7_findHops 59 = .ok (.bipush 10, 2) := by decide +kernel
theorem dX7_findHops_61 : decode cX7_findHops 61 = .ok (.iload_n 3, 1) := by decide +kernel
theorem dX7_findHops_62 : decode cX7_findHops 62 = .ok (.imul, 1) := by decide +kernel
theorem dX7_findHops_63 : decode cX7_findHops 63 = .ok (.iload 6, 2) := by decide +kernel
theorem dX7_findHops_65 : decode cX7_findHops 65 = .ok (.iadd, 1) := by decide +kernel
theorem dX7_findHops_66 : decode cX7_findHops 66 = .ok (.aload_n 0, 1) := by decide +kernel
theorem dX7_findHops_67 : decode cX7_findHops 67 = .ok (.iload_n 3, 1) := by decide +kernel
theorem dX7_findHops_68 : decode cX7_findHops 68 = .ok (.iload 5, 2) := by decide +kernel
theorem dX7_findHops_70 : decode cX7_findHops 70 = .ok (.invokevirtual 123, 3) := by decide +kernel
theorem dX7_findHops_73 : decode cX7_findHops 73 = .ok (.ifCond .eq 13, 3) := by decide +kernel
theorem dX7_findHops_76 : decode cX7_findHops 76 = .ok (.aload_n 0, 1) := by decide +kernel
theorem dX7_findHops_77 : decode cX7_findHops 77 = .ok (.getfield 34, 3) := by decide +kernel
theorem dX7_findHops_80 : decode cX7_findHops 80 = .ok (.iload 6, 2) := by decide +kernel
theorem dX7_findHops_82 : decode cX7_findHops 82 = .ok (.iaload, 1) := by decide +kernel
theorem dX7_findHops_83 : decode cX7_findHops 83 = .ok (.ifCond .ne 7, 3) := by decide +kernel
theorem dX7_findHops_86 : decode cX7_findHops 86 = .ok (.iconst (-1), 1) := by decide +kernel
theorem dX7_findHops_87 : decode cX7_findHops 87 = .ok (.goto 31, 3) := by decide +kernel
theorem dX7_findHops_90 : decode cX7_findHops 90 = .ok (.aload_n 0, 1) := by decide +kernel
theorem dX7_findHops_91 : decode cX7_findHops 91 = .ok (.getfield 34, 3) := by decide +kernel
theorem dX7_findHops_94 : decode cX7_findHops 94 = .ok (.iload 6, 2) := by decide +kernel
theorem dX7_findHops_96 : decode cX7_findHops 96 = .ok (.iaload, 1) := by decide +kernel
theorem dX7_findHops_97 : decode cX7_findHops 97 = .ok (.iconst 1, 1) := by decide +kernel
theorem dX7_findHops_98 : decode cX7_findHops 98 = .ok (.if_icmp .ne 8, 3) := by decide +kernel
theorem dX7_findHops_101 : decode cX7_findHops 101 = .ok (.iload 6, 2) := by decide +kernel
theorem dX7_findHops_103 : decode cX7_findHops 103 = .ok (.goto 15, 3) := by decide +kernel
theorem dX7_findHops_106 : decode cX7_findHops 106 = .ok (.aload_n 0, 1) := by decide +kernel
theorem dX7_findHops_107 : decode cX7_findHops 107 = .ok (.getfield 31, 3) := by decide +kernel
theorem dX7_findHops_110 : decode cX7_findHops 110 = .ok (.bipush 10, 2) := by decide +kernel
theorem dX7_findHops_112 : decode cX7_findHops 112 = .ok (.iload 6, 2) := by decide +kernel
theorem dX7_findHops_114 : decode cX7_findHops 114 = .ok (.imul, 1) := by decide +kernel
theorem dX7_findHops_115 : decode cX7_findHops 115 = .ok (.iconst 1, 1) := by decide +kernel
theorem dX7_findHops_116 : decode cX7_findHops 116 = .ok (.iadd, 1) := by decide +kernel
theorem dX7_findHops_117 : decode cX7_findHops 117 = .ok (.iaload, 1) := by decide +kernel
theorem dX7_findHops_118 : decode cX7_findHops 118 = .ok (.iastore, 1) := by decide +kernel
theorem dX7_findHops_119 : decode cX7_findHops 119 = .ok (.iinc 6 1, 3) := by decide +kernel
theorem dX7_findHops_122 : decode cX7_findHops 122 = .ok (.goto (-76), 3) := by decide +kernel
theorem dX7_findHops_125 : decode cX7_findHops 125 = .ok (.iinc 3 1, 3) := by decide +kernel
theorem dX7_findHops_128 : decode cX7_findHops 128 = .ok (.goto (-126), 3) := by decide +kernel
theorem dX7_findHops_131 : decode cX7_findHops 131 = .ok (.return_, 1) := by decide +kernel
theorem hd_yX7_findHops : (yX7_findHops).cls ≠ "java/lang/invoke/MethodHandle" ∧ (yX7_findHops).cls ≠ "java/lang/invoke/VarHandle" ∧ (parseMethodDescriptor (yX7_findHops).desc).map (fun d => d.parameters.length) = some 2 := ⟨by decide, by decide, by decide +kernel⟩
def f_X7_findHops_J86 (l1 : Int32) (l2 : Int32) (l3 : Int32) (l5 : Int32) (l6 : Int32) (s0 : Int32) (σ : ZS) : Option ((Int32 × ZS) ⊕ ((Int32 × ZS) ⊕ ZS)) :=
  ck (inb s0 70) (some (.inl (l6 + 1, setA σ 12 (Int32.toNatClampNeg s0) (-1))))
def f_X7_findHops_B46 (l1 : Int32) (l2 : Int32) (l3 : Int32) (l5 : Int32) (t2 : (Int32 × ZS)) : Option ((Int32 × ZS) ⊕ ((Int32 × ZS) ⊕ ZS)) :=
  (if (t2.2.1 0) ≤ t2.1 then wi (some (.inl (l3 + 1, t2.2))) else Option.bind (f_X7_isSaid l3 l5 t2.2) (fun q3 => (if q3 = 0 then f_X7_findHops_J86 l1 l2 l3 l5 t2.1 (((10 : Int32) * l3) + t2.1) t2.2 else ld (t2.2.2.1 9) 10 t2.1 (fun y4 => (if y4 = 0 then f_X7_findHops_J86 l1 l2 l3 l5 t2.1 (((10 : Int32) * l3) + t2.1) t2.2 else ld (t2.2.2.1 9) 10 t2.1 (fun y5 => (if y5 = 1 then ck (inb (((10 : Int32) * l3) + t2.1) 70) (some (.inl (t2.1 + 1, setA t2.2 12 (Int32.toNatClampNeg (((10 : Int32) * l3) + t2.1)) t2.1))) else ld (t2.2.2.1 8) 100 (((10 : Int32) * t2.1) + 1) (fun y6 => ck (inb (((10 : Int32) * l3) + t2.1) 70) (some (.inl (t2.1 + 1, setA t2.2 12 (Int32.toNatClampNeg (((10 : Int32) * l3) + t2.1)) y6)))))))))))
def f_X7_findHops_J43 (l1 : Int32) (l2 : Int32) (l3 : Int32) (l5 : Int32) (σ : ZS) : Option ((Int32 × ZS) ⊕ ZS) :=
  lp zF (f_X7_findHops_B46 l1 l2 l3 l5) (0, σ)
def f_X7_findHops_B2 (l1 : Int32) (l2 : Int32) (t1 : (Int32 × ZS)) : Option ((Int32 × ZS) ⊕ ZS) :=
  (if 7 ≤ t1.1 then wi (some t1.2) else ck (decide (¬ ((1 : Int32) <<< (((6 : Int32) - t1.1) &&& 31)) = 0)) (Option.bind (f_X7_isSaid t1.1 ((l1 / ((1 : Int32) <<< (((6 : Int32) - t1.1) &&& 31))) * ((1 : Int32) <<< (((6 : Int32) - t1.1) &&& 31))) t1.2) (fun q1 => (if q1 = 0 then f_X7_findHops_J43 l1 l2 t1.1 ((l1 / ((1 : Int32) <<< (((6 : Int32) - t1.1) &&& 31))) * ((1 : Int32) <<< (((6 : Int32) - t1.1) &&& 31))) t1.2 else Option.bind (f_X7_findWays t1.1 ((l1 / ((1 : Int32) <<< (((6 : Int32) - t1.1) &&& 31))) * ((1 : Int32) <<< (((6 : Int32) - t1.1) &&& 31))) l2 t1.2) (fun q2 => f_X7_findHops_J43 l1 l2 t1.1 ((l1 / ((1 : Int32) <<< (((6 : Int32) - t1.1) &&& 31))) * ((1 : Int32) <<< (((6 : Int32) - t1.1) &&& 31))) q2)))))
def f_X7_findHops (p0 : Int32) (p1 : Int32) (σ : ZS) : Option ZS :=
  lp zF (f_X7_findHops_B2 p0 p1) (0, σ)
set_option maxHeartbeats 4000000 in
set_option maxRecDepth 100000 in
theorem c_X7_findHops (l : Launch) (D : va_G) (A : Nat → Prop) (a : Nat → Nat) (x : ClassId × ClassId × ClassId) (σ : ZS) (p0 : Int32) (p1 : Int32) (r : ZS) (h : f_X7_findHops p0 p1 σ = some r) : zM l yX7_findHops w_yX7_findHops ({ frames := 6, cells := 0, slots := 0, locals := 155 } : Room) D A (tyz x) [.ref (a 0), .int p0, .int p1] (wM a x σ) none (wM a x r) := by
  refine z_start [.ref (a 0), .int p0, .int p1] (lv := [(0, .ref (a 0)), (1, .int p0), (2, .int p1)]) (by decide) (Nat.le_of_ble_eq_true rfl) rfl ?_
  intro p e s m args below meth c C hr hlk
  unfold f_X7_findHops at h
  refine z_iconst C (v := 0) dX7_findHops_0 (by decide) ?_
  refine z_istore_n C [(3, .int 0), (0, .ref (a 0)), (1, .int p0), (2, .int p1)] rfl (by decide) rfl dX7_findHops_1 ?_
  refine z_sub C [1, 2, 3, 0] (lv' := [(0, .ref (a 0)), (1, .int p0), (2, .int p1), (3, .int 0)]) rfl ?_
  have L2 : ∀ (n : Nat) (t1 : (Int32 × ZS)), lp n (f_X7_findHops_B2 p0 p1) t1 = some r → zV p l e ({ frames := 6, cells := 0, slots := 0, locals := 155 } : Room) s m args below meth c 0 0 (MQ below (zQ D A none (wM a x r)) args s 0 0 A) D A 7 (wM a x t1.2) 2 [(0, .ref (a 0)), (1, .int p0), (2, .int p1), (3, .int t1.1)] [] := by
    intro n1
    induction n1 with
    | zero => exact fun _ h => (lp_zero h).elim
    | succ n1 ih1 =>
      intro t1 h
      obtain ⟨u1, h, hk1⟩ := lp_succ h
      have J43 : ∀ (l3_43 : Int32) (l5_43 : Int32) (σ_43 : ZS), f_X7_findHops_J43 p0 p1 l3_43 l5_43 σ_43 = some u1 → zV p l e ({ frames := 6, cells := 0, slots := 0, locals := 155 } : Room) s m args below meth c 0 0 (MQ below (zQ D A none (wM a x r)) args s 0 0 A) D A 7 (wM a x σ_43) 43 [(0, .ref (a 0)), (1, .int p0), (2, .int p1), (3, .int l3_43), (5, .int l5_43)] [] := by
        intro l3_43 l5_43 σ_43 h
        unfold f_X7_findHops_J43 at h
        refine z_iconst C (v := 0) dX7_findHops_43 (by decide) ?_
        refine z_istore C [(6, .int 0), (0, .ref (a 0)), (1, .int p0), (2, .int p1), (3, .int l3_43), (5, .int l5_43)] (by decide) rfl dX7_findHops_44 ?_
        refine z_sub C [1, 2, 3, 4, 5, 0] (lv' := [(0, .ref (a 0)), (1, .int p0), (2, .int p1), (3, .int l3_43), (5, .int l5_43), (6, .int 0)]) rfl ?_
        have L46 : ∀ (n : Nat) (t2 : (Int32 × ZS)), lp n (f_X7_findHops_B46 p0 p1 l3_43 l5_43) t2 = some u1 → zV p l e ({ frames := 6, cells := 0, slots := 0, locals := 155 } : Room) s m args below meth c 0 0 (MQ below (zQ D A none (wM a x r)) args s 0 0 A) D A 7 (wM a x t2.2) 46 [(0, .ref (a 0)), (1, .int p0), (2, .int p1), (3, .int l3_43), (5, .int l5_43), (6, .int t2.1)] [] := by
          intro n2
          induction n2 with
          | zero => exact fun _ h => (lp_zero h).elim
          | succ n2 ih2 =>
            intro t2 h
            obtain ⟨u2, h, hk2⟩ := lp_succ h
            have J86 : ∀ (l6_86 : Int32) (s0_86 : Int32) (σ_86 : ZS), f_X7_findHops_J86 p0 p1 l3_43 l5_43 l6_86 s0_86 σ_86 = some u2 → zV p l e ({ frames := 6, cells := 0, slots := 0, locals := 155 } : Room) s m args below meth c 0 0 (MQ below (zQ D A none (wM a x r)) args s 0 0 A) D A 7 (wM a x σ_86) 86 [(0, .ref (a 0)), (1, .int p0), (2, .int p1), (3, .int l3_43), (5, .int l5_43), (6, .int l6_86)] [.int s0_86, .ref (a 12)] := by
              intro l6_86 s0_86 σ_86 h
              unfold f_X7_findHops_J86 at h
              refine z_iconst C (v := (-1)) dX7_findHops_86 (by decide) ?_
              refine z_goto C 118 (by decide) dX7_findHops_87 ?_
              refine z_iast C 12 0 gM_12 rfl uM_12 dX7_findHops_118 h (fun h => ?_)
              refine z_iinc C (v := l6_86 + 1) [(6, .int (l6_86 + 1)), (0, .ref (a 0)), (1, .int p0), (2, .int p1), (3, .int l3_43), (5, .int l5_43)] 5 rfl rfl (by decide) rfl dX7_findHops_119 ?_
              refine z_goto C 46 (by decide) dX7_findHops_122 ?_
              refine z_sub C [1, 2, 3, 4, 5, 0] (lv' := [(0, .ref (a 0)), (1, .int p0), (2, .int p1), (3, .int l3_43), (5, .int l5_43), (6, .int (l6_86 + 1))]) rfl ?_
              exact ih2 _ (uninl h hk2)
            unfold f_X7_findHops_B46 at h
            refine z_iload C 5 rfl dX7_findHops_46 ?_
            refine z_aload_n C 0 rfl dX7_findHops_48 ?_
            refine z_get C iRX7 0 gM_0 rfl 0 (by decide) fl_RX7_49 rfl dX7_findHops_49 ?_
            refine z_icmp_ge C 125 (by decide) dX7_findHops_52 h (fun h => ?_) (fun h => ?_)
            · refine z_iinc C (v := l3_43 + 1) [(3, .int (l3_43 + 1)), (0, .ref (a 0)), (1, .int p0), (2, .int p1), (5, .int l5_43), (6, .int t2.1)] 3 rfl rfl (by decide) rfl dX7_findHops_125 ?_
              refine z_goto C 2 (by decide) dX7_findHops_128 ?_
              refine z_sub C [1, 2, 3, 0] (lv' := [(0, .ref (a 0)), (1, .int p0), (2, .int p1), (3, .int (l3_43 + 1))]) rfl ?_
              have h := unwi h hk2
              exact ih1 _ (uninl h hk1)
            · refine z_aload_n C 0 rfl dX7_findHops_55 ?_
              refine z_get C iRX7 0 gM_0 rfl 18 (by decide) fl_RX7_43 rfl dX7_findHops_56 ?_
              refine z_bipush C (v := 10) dX7_findHops_59 (by decide) ?_
              refine z_iload_n C 3 rfl dX7_findHops_61 ?_
              refine z_imul C dX7_findHops_62 ?_
              refine z_iload C 5 rfl dX7_findHops_63 ?_
              refine z_iadd C dX7_findHops_65 ?_
              refine z_aload_n C 0 rfl dX7_findHops_66 ?_
              refine z_iload_n C 3 rfl dX7_findHops_67 ?_
              refine z_iload C 4 rfl dX7_findHops_68 ?_
              obtain ⟨q1, hq1, h⟩ := bd_spec h
              refine z_callV1 C [.int l3_43, .int l5_43] [.int (((10 : Int32) * l3_43) + t2.1), .ref (a 12)] (v := (.int q1)) rfl (c_X7_isSaid l D A a x t2.2 l3_43 l5_43 q1 hq1) cd_yX7_isSaid in_RX7 ml_RX7_123 im_yX7_isSaid sl_yX7_isSaid gM_0 rfl hd_yX7_isSaid ⟨⟨Nat.le_of_ble_eq_true rfl, Nat.le_of_ble_eq_true rfl⟩, rfl, rfl⟩ rfl (Nat.le_of_ble_eq_true rfl) ⟨Nat.zero_le _, Nat.zero_le _⟩ dX7_findHops_70 ?_
              refine z_if_eq C 86 (by decide) dX7_findHops_73 h (fun h => ?_) (fun h => ?_)
              · exact J86 _ _ _ h
              · refine z_aload_n C 0 rfl dX7_findHops_76 ?_
                refine z_get C iRX7 0 gM_0 rfl 13 (by decide) fl_RX7_34 rfl dX7_findHops_77 ?_
                refine z_iload C 5 rfl dX7_findHops_80 ?_
                refine z_iald C 9 0 gM_9 rfl dX7_findHops_82 h (fun y2 h => ?_)
                refine z_if_ne C 90 (by decide) dX7_findHops_83 h (fun h => ?_) (fun h => ?_)
                · refine z_aload_n C 0 rfl dX7_findHops_90 ?_
                  refine z_get C iRX7 0 gM_0 rfl 13 (by decide) fl_RX7_34 rfl dX7_findHops_91 ?_
                  refine z_iload C 5 rfl dX7_findHops_94 ?_
                  refine z_iald C 9 0 gM_9 rfl dX7_findHops_96 h (fun y3 h => ?_)
                  refine z_iconst C (v := 1) dX7_findHops_97 (by decide) ?_
                  refine z_icmp_ne C 106 (by decide) dX7_findHops_98 h (fun h => ?_) (fun h => ?_)
                  · refine z_aload_n C 0 rfl dX7_findHops_106 ?_
                    refine z_get C iRX7 0 gM_0 rfl 12 (by decide) fl_RX7_31 rfl dX7_findHops_107 ?_
                    refine z_bipush C (v := 10) dX7_findHops_110 (by decide) ?_
                    refine z_iload C 5 rfl dX7_findHops_112 ?_
                    refine z_imul C dX7_findHops_114 ?_
                    refine z_iconst C (v := 1) dX7_findHops_115 (by decide) ?_
                    refine z_iadd C dX7_findHops_116 ?_
                    refine z_iald C 8 0 gM_8 rfl dX7_findHops_117 h (fun y4 h => ?_)
                    refine z_iast C 12 0 gM_12 rfl uM_12 dX7_findHops_118 h (fun h => ?_)
                    refine z_iinc C (v := t2.1 + 1) [(6, .int (t2.1 + 1)), (0, .ref (a 0)), (1, .int p0), (2, .int p1), (3, .int l3_43), (5, .int l5_43)] 5 rfl rfl (by decide) rfl dX7_findHops_119 ?_
                    refine z_goto C 46 (by decide) dX7_findHops_122 ?_
                    refine z_sub C [1, 2, 3, 4, 5, 0] (lv' := [(0, .ref (a 0)), (1, .int p0), (2, .int p1), (3, .int l3_43), (5, .int l5_43), (6, .int (t2.1 + 1))]) rfl ?_
                    exact ih2 _ (uninl h hk2)
                  · refine z_iload C 5 rfl dX7_findHops_101 ?_
                    refine z_goto C 118 (by decide) dX7_findHops_103 ?_
                    refine z_iast C 12 0 gM_12 rfl uM_12 dX7_findHops_118 h (fun h => ?_)
                    refine z_iinc C (v := t2.1 + 1) [(6, .int (t2.1 + 1)), (0, .ref (a 0)), (1, .int p0), (2, .int p1), (3, .int l3_43), (5, .int l5_43)] 5 rfl rfl (by decide) rfl dX7_findHops_119 ?_
                    refine z_goto C 46 (by decide) dX7_findHops_122 ?_
                    refine z_sub C [1, 2, 3, 4, 5, 0] (lv' := [(0, .ref (a 0)), (1, .int p0), (2, .int p1), (3, .int l3_43), (5, .int l5_43), (6, .int (t2.1 + 1))]) rfl ?_
                    exact ih2 _ (uninl h hk2)
                · exact J86 _ _ _ h
        exact L46 _ _ h
      unfold f_X7_findHops_B2 at h
      refine z_iload_n C 3 rfl dX7_findHops_2 ?_
      refine z_bipush C (v := 7) dX7_findHops_3 (by decide) ?_
      refine z_icmp_ge C 131 (by decide) dX7_findHops_5 h (fun h => ?_) (fun h => ?_)
      · have h := unwi h hk1
        cases h
        exact z_vret C hr hlk dX7_findHops_131
      · refine z_iconst C (v := 1) dX7_findHops_8 (by decide) ?_
        refine z_bipush C (v := 6) dX7_findHops_9 (by decide) ?_
        refine z_iload_n C 3 rfl dX7_findHops_11 ?_
        refine z_isub C dX7_findHops_12 ?_
        refine z_ishl C dX7_findHops_13 ?_
        refine z_istore C [(4, .int ((1 : Int32) <<< (((6 : Int32) - t1.1) &&& 31))), (0, .ref (a 0)), (1, .int p0), (2, .int p1), (3, .int t1.1)] (by decide) rfl dX7_findHops_14 ?_
        refine z_iload_n C 2 rfl dX7_findHops_16 ?_
        refine z_iload C 0 rfl dX7_findHops_17 ?_
        refine z_idiv C dX7_findHops_19 h (fun h => ?_)
        refine z_iload C 0 rfl dX7_findHops_20 ?_
        refine z_imul C dX7_findHops_22 ?_
        refine z_istore C [(5, .int ((p0 / ((1 : Int32) <<< (((6 : Int32) - t1.1) &&& 31))) * ((1 : Int32) <<< (((6 : Int32) - t1.1) &&& 31)))), (4, .int ((1 : Int32) <<< (((6 : Int32) - t1.1) &&& 31))), (0, .ref (a 0)), (1, .int p0), (2, .int p1), (3, .int t1.1)] (by decide) rfl dX7_findHops_23 ?_
        refine z_aload_n C 2 rfl dX7_findHops_25 ?_
        refine z_iload_n C 5 rfl dX7_findHops_26 ?_
        refine z_iload C 0 rfl dX7_findHops_27 ?_
        obtain ⟨q5, hq5, h⟩ := bd_spec h
        refine z_callV1 C [.int t1.1, .int ((p0 / ((1 : Int32) <<< (((6 : Int32) - t1.1) &&& 31))) * ((1 : Int32) <<< (((6 : Int32) - t1.1) &&& 31)))] [] (v := (.int q5)) rfl (c_X7_isSaid l D A a x t1.2 t1.1 ((p0 / ((1 : Int32) <<< (((6 : Int32) - t1.1) &&& 31))) * ((1 : Int32) <<< (((6 : Int32) - t1.1) &&& 31))) q5 hq5) cd_yX7_isSaid in_RX7 ml_RX7_123 im_yX7_isSaid sl_yX7_isSaid gM_0 rfl hd_yX7_isSaid ⟨⟨Nat.le_of_ble_eq_true rfl, Nat.le_of_ble_eq_true rfl⟩, rfl, rfl⟩ rfl (Nat.le_of_ble_eq_true rfl) ⟨Nat.zero_le _, Nat.zero_le _⟩ dX7_findHops_29 ?_
        refine z_if_eq C 43 (by decide) dX7_findHops_32 h (fun h => ?_) (fun h => ?_)
        · refine z_sub C [2, 3, 4, 5, 0] (lv' := [(0, .ref (a 0)), (1, .int p0), (2, .int p1), (3, .int t1.1), (5, .int ((p0 / ((1 : Int32) <<< (((6 : Int32) - t1.1) &&& 31))) * ((1 : Int32) <<< (((6 : Int32) - t1.1) &&& 31))))]) rfl ?_
          exact J43 _ _ _ h
        · refine z_aload_n C 2 rfl dX7_findHops_35 ?_
          refine z_iload_n C 5 rfl dX7_findHops_36 ?_
          refine z_iload C 0 rfl dX7_findHops_37 ?_
          refine z_iload_n C 4 rfl dX7_findHops_39 ?_
          obtain ⟨q6, hq6, h⟩ := bd_spec h
          refine z_callV0 C [.int t1.1, .int ((p0 / ((1 : Int32) <<< (((6 : Int32) - t1.1) &&& 31))) * ((1 : Int32) <<< (((6 : Int32) - t1.1) &&& 31))), .int p1] [] rfl (c_X7_findWays l D A a x t1.2 t1.1 ((p0 / ((1 : Int32) <<< (((6 : Int32) - t1.1) &&& 31))) * ((1 : Int32) <<< (((6 : Int32) - t1.1) &&& 31))) p1 q6 hq6) cd_yX7_findWays in_RX7 ml_RX7_126 im_yX7_findWays sl_yX7_findWays gM_0 rfl hd_yX7_findWays ⟨⟨Nat.le_of_ble_eq_true rfl, Nat.le_of_ble_eq_true rfl⟩, rfl, rfl⟩ rfl (Nat.le_of_ble_eq_true rfl) ⟨Nat.zero_le _, Nat.zero_le _⟩ dX7_findHops_40 ?_
          refine z_sub C [2, 3, 4, 5, 0] (lv' := [(0, .ref (a 0)), (1, .int p0), (2, .int p1), (3, .int t1.1), (5, .int ((p0 / ((1 : Int32) <<< (((6 : Int32) - t1.1) &&& 31))) * ((1 : Int32) <<< (((6 : Int32) - t1.1) &&& 31))))]) rfl ?_
          exact J43 _ _ _ h
  exact L2 _ _ h
theorem dX7_nextOf_0 : decode cX7_nextOf 0 = .ok (.bipush 6, 2) := by decide +kernel
theorem dX7_nextOf_2 : decode cX7_nextOf 2 = .ok (.istore_n 2, 1) := by decide +kernel
theorem dX7_nextOf_3 : decode cX7_nextOf 3 = .ok (.iload_n 2, 1) := by decide +kernel
theorem dX7_nextOf_4 : decode cX7_nextOf 4 = .ok (.ifCond .lt 36, 3) := by decide +kernel
theorem dX7_nextOf_7 : decode cX7_nextOf 7 = .ok (.aload_n 0, 1) := by decide +kernel
theorem dX7_nextOf_8 : decode cX7_nextOf 8 = .ok (.getfield 43, 3) := by decide +kernel
theorem dX7_nextOf_11 : decode cX7_nextOf 11 = .ok (.bipush 10, 2) := by decide +kernel
theorem dX7_nextOf_13 : decode cX7_nextOf 13 = .ok (.iload_n 2, 1) := by decide +kernel
theorem dX7_nextOf_14 : decode cX7_nextOf 14 = .ok (.imul, 1) := by decide +kernel
theorem dX7_nextOf_15 : decode cX7_nextOf 15 = .ok (.iload_n 1, 1) := by decide +kernel
theorem dX7_nextOf_16 : decode cX7_nextOf 16 = .ok (.iadd, 1) := by decide +kernel
theorem dX7_nextOf_17 : decode cX7_nextOf 17 = .ok (.iaload, 1) := by decide +kernel
theorem dX7_nextOf_18 : decode cX7_nextOf 18 = .ok (.iconst (-1), 1) := by decide +kernel
theorem dX7_nextOf_19 : decode cX7_nextOf 19 = .ok (.if_icmp .eq 15, 3) := by decide +kernel
theorem dX7_nextOf_22 : decode cX7_nextOf 22 = .ok (.aload_n 0, 1) := by decide +kernel
theorem dX7_nextOf_23 : decode cX7_nextOf 23 = .ok (.getfield 43, 3) := by decide +kernel
theorem dX7_nextOf_26 : decode cX7_nextOf 26 = .ok (.bipush 10, 2) := by decide +kernel
theorem dX7_nextOf_28 : decode cX7_nextOf 28 = .ok (.iload_n 2, 1) := by decide +kernel
theorem dX7_nextOf_29 : decode cX7_nextOf 29 = .ok (.imul, 1) := by decide +kernel
theorem dX7_nextOf_30 : decode cX7_nextOf 30 = .ok (.iload_n 1, 1) := by decide +kernel
theorem dX7_nextOf_31 : decode cX7_nextOf 31 = .ok (.iadd, 1) := by decide +kernel
theorem dX7_nextOf_32 : decode cX7_nextOf 32 = .ok (.iaload, 1) := by decide +kernel
theorem dX7_nextOf_33 : decode cX7_nextOf 33 = .ok (.ireturn, 1) := by decide +kernel
theorem dX7_nextOf_34 : decode cX7_nextOf 34 = .ok (.iinc 2 (-1), 3) := by decide +kernel
theorem dX7_nextOf_37 : decode cX7_nextOf 37 = .ok (.goto (-34), 3) := by decide +kernel
theorem dX7_nextOf_40 : decode cX7_nextOf 40 = .ok (.iconst (-1), 1) := by decide +kernel
theorem dX7_nextOf_41 : decode cX7_nextOf 41 = .ok (.ireturn, 1) := by decide +kernel
theorem hd_yX7_nextOf : (yX7_nextOf).cls ≠ "java/lang/invoke/MethodHandle" ∧ (yX7_nextOf).cls ≠ "java/lang/invoke/VarHandle" ∧ (parseMethodDescriptor (yX7_nextOf).desc).map (fun d => d.parameters.length) = some 1 := ⟨by decide, by decide, by decide +kernel⟩
def f_X7_nextOf_J22 (l1 : Int32) (l2 : Int32) (σ : ZS) : Option Int32 :=
  ld (σ.2.1 12) 70 (((10 : Int32) * l2) + l1) (fun y2 => some y2)
def f_X7_nextOf_B3 (l1 : Int32) (σ : ZS) (t1 : Int32) : Option (Int32 ⊕ Int32) :=
  (if t1 < 0 then wi (some (-1)) else ld (σ.2.1 12) 70 (((10 : Int32) * t1) + l1) (fun y1 => (if y1 = (-1) then some (.inl (t1 + (-1))) else wi (f_X7_nextOf_J22 l1 t1 σ))))
def f_X7_nextOf (p0 : Int32) (σ : ZS) : Option Int32 :=
  lp zF (f_X7_nextOf_B3 p0 σ) 6
set_option maxHeartbeats 4000000 in
set_option maxRecDepth 100000 in
theorem c_X7_nextOf (l : Launch) (D : va_G) (A : Nat → Prop) (a : Nat → Nat) (x : ClassId × ClassId × ClassId) (σ : ZS) (p0 : Int32) (r : Int32) (h : f_X7_nextOf p0 σ = some r) : zM l yX7_nextOf w_yX7_nextOf ({ frames := 0, cells := 0, slots := 0, locals := 0 } : Room) D A (tyz x) [.ref (a 0), .int p0] (wM a x σ) (some (.int r)) (wM a x σ) := by
  refine z_start [.ref (a 0), .int p0] (lv := [(0, .ref (a 0)), (1, .int p0)]) (by decide) (Nat.le_of_ble_eq_true rfl) rfl ?_
  intro p e s m args below meth c C hr hlk
  have J22 : ∀ (l2_22 : Int32), f_X7_nextOf_J22 p0 l2_22 σ = some r → zV p l e ({ frames := 0, cells := 0, slots := 0, locals := 0 } : Room) s m args below meth c 0 0 (MQ below (zQ D A (some (.int r)) (wM a x σ)) args s 0 0 A) D A 3 (wM a x σ) 22 [(0, .ref (a 0)), (1, .int p0), (2, .int l2_22)] [] := by
    intro l2_22 h
    unfold f_X7_nextOf_J22 at h
    refine z_aload_n C 0 rfl dX7_nextOf_22 ?_
    refine z_get C iRX7 0 gM_0 rfl 18 (by decide) fl_RX7_43 rfl dX7_nextOf_23 ?_
    refine z_bipush C (v := 10) dX7_nextOf_26 (by decide) ?_
    refine z_iload_n C 2 rfl dX7_nextOf_28 ?_
    refine z_imul C dX7_nextOf_29 ?_
    refine z_iload_n C 1 rfl dX7_nextOf_30 ?_
    refine z_iadd C dX7_nextOf_31 ?_
    refine z_iald C 12 0 gM_12 rfl dX7_nextOf_32 h (fun y1 h => ?_)
    cases h
    exact z_iret C hr hlk dX7_nextOf_33
  unfold f_X7_nextOf at h
  refine z_bipush C (v := 6) dX7_nextOf_0 (by decide) ?_
  refine z_istore_n C [(2, .int 6), (0, .ref (a 0)), (1, .int p0)] rfl (by decide) rfl dX7_nextOf_2 ?_
  refine z_sub C [1, 2, 0] (lv' := [(0, .ref (a 0)), (1, .int p0), (2, .int 6)]) rfl ?_
  have L3 : ∀ (n : Nat) (t1 : Int32), lp n (f_X7_nextOf_B3 p0 σ) t1 = some r → zV p l e ({ frames := 0, cells := 0, slots := 0, locals := 0 } : Room) s m args below meth c 0 0 (MQ below (zQ D A (some (.int r)) (wM a x σ)) args s 0 0 A) D A 3 (wM a x σ) 3 [(0, .ref (a 0)), (1, .int p0), (2, .int t1)] [] := by
    intro n1
    induction n1 with
    | zero => exact fun _ h => (lp_zero h).elim
    | succ n1 ih1 =>
      intro t1 h
      obtain ⟨u1, h, hk1⟩ := lp_succ h
      unfold f_X7_nextOf_B3 at h
      refine z_iload_n C 2 rfl dX7_nextOf_3 ?_
      refine z_if_lt C 40 (by decide) dX7_nextOf_4 h (fun h => ?_) (fun h => ?_)
      · refine z_iconst C (v := (-1)) dX7_nextOf_40 (by decide) ?_
        have h := unwi h hk1
        cases h
        exact z_iret C hr hlk dX7_nextOf_41
      · refine z_aload_n C 0 rfl dX7_nextOf_7 ?_
        refine z_get C iRX7 0 gM_0 rfl 18 (by decide) fl_RX7_43 rfl dX7_nextOf_8 ?_
        refine z_bipush C (v := 10) dX7_nextOf_11 (by decide) ?_
        refine z_iload_n C 2 rfl dX7_nextOf_13 ?_
        refine z_imul C dX7_nextOf_14 ?_
        refine z_iload_n C 1 rfl dX7_nextOf_15 ?_
        refine z_iadd C dX7_nextOf_16 ?_
        refine z_iald C 12 0 gM_12 rfl dX7_nextOf_17 h (fun y2 h => ?_)
        refine z_iconst C (v := (-1)) dX7_nextOf_18 (by decide) ?_
        refine z_icmp_eq C 34 (by decide) dX7_nextOf_19 h (fun h => ?_) (fun h => ?_)
        · refine z_iinc C (v := t1 + (-1)) [(2, .int (t1 + (-1))), (0, .ref (a 0)), (1, .int p0)] 2 rfl (congrArg (HAdd.hAdd t1) (by decide)) (by decide) rfl dX7_nextOf_34 ?_
          refine z_goto C 3 (by decide) dX7_nextOf_37 ?_
          refine z_sub C [1, 2, 0] (lv' := [(0, .ref (a 0)), (1, .int p0), (2, .int (t1 + (-1)))]) rfl ?_
          exact ih1 _ (uninl h hk1)
        · have h := unwi h hk1
          exact J22 _ h
  exact L3 _ _ h
theorem dX7_endOf_0 : decode cX7_endOf 0 = .ok (.iconst 0, 1) := by decide +kernel
theorem dX7_endOf_1 : decode cX7_endOf 1 = .ok (.istore_n 2, 1) := by decide +kernel
theorem dX7_endOf_2 : decode cX7_endOf 2 = .ok (.iload_n 1, 1) := by decide +kernel
theorem dX7_endOf_3 : decode cX7_endOf 3 = .ok (.istore_n 3, 1) := by decide +kernel
theorem dX7_endOf_4 : decode cX7_endOf 4 = .ok (.iload_n 2, 1) := by decide +kernel
theorem dX7_endOf_5 : decode cX7_endOf 5 = .ok (.iload_n 3, 1) := by decide +kernel
theorem dX7_endOf_6 : decode cX7_endOf 6 = .ok (.invokestatic 57, 3) := by decide +kernel
theorem dX7_endOf_9 : decode cX7_endOf 9 = .ok (.ifCond .ne 39, 3) := by decide +kernel
theorem dX7_endOf_12 : decode cX7_endOf 12 = .ok (.iload_n 2, 1) := by decide +kernel
theorem dX7_endOf_13 : decode cX7_endOf 13 = .ok (.iconst 1, 1) := by decide +kernel
theorem dX7_endOf_14 : decode cX7_endOf 14 = .ok (.iload_n 3, 1) := by decide +kernel
theorem dX7_endOf_15 : decode cX7_endOf 15 = .ok (.ishl, 1) := by decide +kernel
theorem dX7_endOf_16 : decode cX7_endOf 16 = .ok (.ior, 1) := by decide +kernel
theorem dX7_endOf_17 : decode cX7_endOf 17 = .ok (.istore_n 2, 1) := by decide +kernel
theorem dX7_endOf_18 : decode cX7_endOf 18 = .ok (.aload_n 0, 1) := by decide +kernel
theorem dX7_endOf_19 : decode cX7_endOf 19 = .ok (.iload_n 3, 1) := by decide +kernel
theorem dX7_endOf_20 : decode cX7_endOf 20 = .ok (.invokevirtual 132, 3) := by decide +kernel
theorem dX7_endOf_23 : decode cX7_endOf 23 = .ok (.istore 4, 2) := by decide +kernel
theorem dX7_endOf_25 : decode cX7_endOf 25 = .ok (.iload 4, 2) := by decide +kernel
theorem dX7_endOf_27 : decode cX7_endOf 27 = .ok (.iconst (-1), 1) := by decide +kernel
theorem dX7_endOf_28 : decode cX7_endOf 28 = .ok (.if_icmp .ne 6, 3) := by decide +kernel
theorem dX7_endOf_31 : decode cX7_endOf 31 = .ok (.bipush (-7), 2) := by decide +kernel
theorem dX7_endOf_33 : decode cX7_endOf 33 = .ok (.ireturn, 1) := by decide +kernel
theorem dX7_endOf_34 : decode cX7_endOf 34 = .ok (.iload 4, 2) := by decide +kernel
theorem dX7_endOf_36 : decode cX7_endOf 36 = .ok (.iload_n 3, 1) := by decide +kernel
theorem dX7_endOf_37 : decode cX7_endOf 37 = .ok (.if_icmp .ne 5, 3) := by decide +kernel
theorem dX7_endOf_40 : decode cX7_endOf 40 = .ok (.iload_n 3, 1) := by decide +kernel
theorem dX7_endOf_41 : decode cX7_endOf 41 = .ok (.ireturn, 1) := by decide +kernel
theorem dX7_endOf_42 : decode cX7_endOf 42 = .ok (.iload 4, 2) := by decide +kernel
theorem dX7_endOf_44 : decode cX7_endOf 44 = .ok (.istore_n 3, 1) := by decide +kernel
theorem dX7_endOf_45 : decode cX7_endOf 45 = .ok (.goto (-41), 3) := by decide +kernel
theorem dX7_endOf_48 : decode cX7_endOf 48 = .ok (.bipush (-8), 2) := by decide +kernel
theorem dX7_endOf_50 : decode cX7_endOf 50 = .ok (.ireturn, 1) := by decide +kernel
theorem hd_yX7_endOf : (yX7_endOf).cls ≠ "java/lang/invoke/MethodHandle" ∧ (yX7_endOf).cls ≠ "java/lang/invoke/VarHandle" ∧ (parseMethodDescriptor (yX7_endOf).desc).map (fun d => d.parameters.length) = some 1 := ⟨by decide, by decide, by decide +kernel⟩
def f_X7_endOf_B4 (σ : ZS) (t1 : (Int32 × Int32)) : Option ((Int32 × Int32) ⊕ Int32) :=
  Option.bind (f_X7_isOf t1.1 t1.2) (fun q1 => (if q1 = 0 then Option.bind (f_X7_nextOf t1.2 σ) (fun q2 => (if q2 = (-1) then wi (some (-7)) else (if q2 = t1.2 then wi (some t1.2) else some (.inl (t1.1 ||| ((1 : Int32) <<< (t1.2 &&& 31)), q2))))) else wi (some (-8))))
def f_X7_endOf (p0 : Int32) (σ : ZS) : Option Int32 :=
  lp zF (f_X7_endOf_B4 σ) (0, p0)
set_option maxHeartbeats 4000000 in
set_option maxRecDepth 100000 in
theorem c_X7_endOf (l : Launch) (D : va_G) (A : Nat → Prop) (a : Nat → Nat) (x : ClassId × ClassId × ClassId) (σ : ZS) (p0 : Int32) (r : Int32) (h : f_X7_endOf p0 σ = some r) : zM l yX7_endOf w_yX7_endOf ({ frames := 1, cells := 0, slots := 0, locals := 22 } : Room) D A (tyz x) [.ref (a 0), .int p0] (wM a x σ) (some (.int r)) (wM a x σ) := by
  refine z_start [.ref (a 0), .int p0] (lv := [(0, .ref (a 0)), (1, .int p0)]) (by decide) (Nat.le_of_ble_eq_true rfl) rfl ?_
  intro p e s m args below meth c C hr hlk
  unfold f_X7_endOf at h
  refine z_iconst C (v := 0) dX7_endOf_0 (by decide) ?_
  refine z_istore_n C [(2, .int 0), (0, .ref (a 0)), (1, .int p0)] rfl (by decide) rfl dX7_endOf_1 ?_
  refine z_iload_n C 2 rfl dX7_endOf_2 ?_
  refine z_istore_n C [(3, .int p0), (2, .int 0), (0, .ref (a 0)), (1, .int p0)] rfl (by decide) rfl dX7_endOf_3 ?_
  refine z_sub C [2, 1, 0] (lv' := [(0, .ref (a 0)), (2, .int 0), (3, .int p0)]) rfl ?_
  have L4 : ∀ (n : Nat) (t1 : (Int32 × Int32)), lp n (f_X7_endOf_B4 σ) t1 = some r → zV p l e ({ frames := 1, cells := 0, slots := 0, locals := 22 } : Room) s m args below meth c 0 0 (MQ below (zQ D A (some (.int r)) (wM a x σ)) args s 0 0 A) D A 5 (wM a x σ) 4 [(0, .ref (a 0)), (2, .int t1.1), (3, .int t1.2)] [] := by
    intro n1
    induction n1 with
    | zero => exact fun _ h => (lp_zero h).elim
    | succ n1 ih1 =>
      intro t1 h
      obtain ⟨u1, h, hk1⟩ := lp_succ h
      unfold f_X7_endOf_B4 at h
      refine z_iload_n C 1 rfl dX7_endOf_4 ?_
      refine z_iload_n C 2 rfl dX7_endOf_5 ?_
      obtain ⟨q1, hq1, h⟩ := bd_spec h
      refine z_callS1 C [.int t1.1, .int t1.2] [] (v := .int q1) rfl (c_X7_isOf l D A (tyz x) (wM a x σ) t1.1 t1.2 q1 hq1) cd_yX7_isOf in_RX7 ml_RX7_57 sm_yX7_isOf hd_yX7_isOf ⟨⟨Nat.le_of_ble_eq_true rfl, Nat.le_of_ble_eq_true rfl⟩, rfl, rfl⟩ rfl (Nat.le_of_ble_eq_true rfl) ⟨Nat.zero_le _, Nat.zero_le _⟩ dX7_endOf_6 ?_
      refine z_if_ne C 48 (by decide) dX7_endOf_9 h (fun h => ?_) (fun h => ?_)
      · refine z_bipush C (v := (-8)) dX7_endOf_48 (by decide) ?_
        have h := unwi h hk1
        cases h
        exact z_iret C hr hlk dX7_endOf_50
      · refine z_iload_n C 1 rfl dX7_endOf_12 ?_
        refine z_iconst C (v := 1) dX7_endOf_13 (by decide) ?_
        refine z_iload_n C 2 rfl dX7_endOf_14 ?_
        refine z_ishl C dX7_endOf_15 ?_
        refine z_ior C dX7_endOf_16 ?_
        refine z_istore_n C [(2, .int (t1.1 ||| ((1 : Int32) <<< (t1.2 &&& 31)))), (0, .ref (a 0)), (3, .int t1.2)] rfl (by decide) rfl dX7_endOf_17 ?_
        refine z_aload_n C 1 rfl dX7_endOf_18 ?_
        refine z_iload_n C 2 rfl dX7_endOf_19 ?_
        obtain ⟨q2, hq2, h⟩ := bd_spec h
        refine z_callV1 C [.int t1.2] [] (v := (.int q2)) rfl (c_X7_nextOf l D A a x σ t1.2 q2 hq2) cd_yX7_nextOf in_RX7 ml_RX7_132 im_yX7_nextOf sl_yX7_nextOf gM_0 rfl hd_yX7_nextOf ⟨⟨Nat.le_of_ble_eq_true rfl, Nat.le_of_ble_eq_true rfl⟩, rfl, rfl⟩ rfl (Nat.le_of_ble_eq_true rfl) ⟨Nat.zero_le _, Nat.zero_le _⟩ dX7_endOf_20 ?_
        refine z_istore C [(4, .int q2), (2, .int (t1.1 ||| ((1 : Int32) <<< (t1.2 &&& 31)))), (0, .ref (a 0)), (3, .int t1.2)] (by decide) rfl dX7_endOf_23 ?_
        refine z_iload C 0 rfl dX7_endOf_25 ?_
        refine z_iconst C (v := (-1)) dX7_endOf_27 (by decide) ?_
        refine z_icmp_ne C 34 (by decide) dX7_endOf_28 h (fun h => ?_) (fun h => ?_)
        · refine z_iload C 0 rfl dX7_endOf_34 ?_
          refine z_iload_n C 3 rfl dX7_endOf_36 ?_
          refine z_icmp_ne C 42 (by decide) dX7_endOf_37 h (fun h => ?_) (fun h => ?_)
          · refine z_iload C 0 rfl dX7_endOf_42 ?_
            refine z_istore_n C [(3, .int q2), (4, .int q2), (2, .int (t1.1 ||| ((1 : Int32) <<< (t1.2 &&& 31)))), (0, .ref (a 0))] rfl (by decide) rfl dX7_endOf_44 ?_
            refine z_goto C 4 (by decide) dX7_endOf_45 ?_
            refine z_sub C [3, 2, 0] (lv' := [(0, .ref (a 0)), (2, .int (t1.1 ||| ((1 : Int32) <<< (t1.2 &&& 31)))), (3, .int q2)]) rfl ?_
            exact ih1 _ (uninl h hk1)
          · refine z_iload_n C 3 rfl dX7_endOf_40 ?_
            have h := unwi h hk1
            cases h
            exact z_iret C hr hlk dX7_endOf_41
        · refine z_bipush C (v := (-7)) dX7_endOf_31 (by decide) ?_
          have h := unwi h hk1
          cases h
          exact z_iret C hr hlk dX7_endOf_33
  exact L4 _ _ h
theorem dX7_goes_0 : decode cX7_goes 0 = .ok (.aload_n 0, 1) := by decide +kernel
theorem dX7_goes_1 : decode cX7_goes 1 = .ok (.iload_n 1, 1) := by decide +kernel
theorem dX7_goes_2 : decode cX7_goes 2 = .ok (.invokevirtual 61, 3) := by decide +kernel
theorem dX7_goes_5 : decode cX7_goes 5 = .ok (.ifCond .eq 13, 3) := by decide +kernel
theorem dX7_goes_8 : decode cX7_goes 8 = .ok (.iload_n 2, 1) := by decide +kernel
theorem dX7_goes_9 : decode cX7_goes 9 = .ok (.iconst 0, 1) := by decide +kernel
theorem dX7_goes_10 : decode cX7_goes 10 = .ok (.bipush 63, 2) := by decide +kernel
theorem dX7_goes_12 : decode cX7_goes 12 = .ok (.invokestatic 53, 3) := by decide +kernel
theorem dX7_goes_15 : decode cX7_goes 15 = .ok (.ifCond .ne 6, 3) := by decide +kernel
theorem dX7_goes_18 : decode cX7_goes 18 = .ok (.bipush (-2), 2) := by decide +kernel
theorem dX7_goes_20 : decode cX7_goes 20 = .ok (.ireturn, 1) := by decide +kernel
theorem dX7_goes_21 : decode cX7_goes 21 = .ok (.aload_n 0, 1) := by decide +kernel
theorem dX7_goes_22 : decode cX7_goes 22 = .ok (.iload_n 2, 1) := by decide +kernel
theorem dX7_goes_23 : decode cX7_goes 23 = .ok (.aload_n 0, 1) := by decide +kernel
theorem dX7_goes_24 : decode cX7_goes 24 = .ok (.getfield 95, 3) := by decide +kernel
theorem dX7_goes_27 : decode cX7_goes 27 = .ok (.invokevirtual 135, 3) := by decide +kernel
theorem dX7_goes_30 : decode cX7_goes 30 = .ok (.aload_n 0, 1) := by decide +kernel
theorem dX7_goes_31 : decode cX7_goes 31 = .ok (.iload_n 1, 1) := by decide +kernel
theorem dX7_goes_32 : decode cX7_goes 32 = .ok (.invokevirtual 139, 3) := by decide +kernel
theorem dX7_goes_35 : decode cX7_goes 35 = .ok (.ireturn, 1) := by decide +kernel
theorem hd_yX7_goes : (yX7_goes).cls ≠ "java/lang/invoke/MethodHandle" ∧ (yX7_goes).cls ≠ "java/lang/invoke/VarHandle" ∧ (parseMethodDescriptor (yX7_goes).desc).map (fun d => d.parameters.length) = some 2 := ⟨by decide, by decide, by decide +kernel⟩
def f_X7_goes (p0 : Int32) (p1 : Int32) (σ : ZS) : Option (Int32 × ZS) :=
  Option.bind (f_X7_isHouse p0 σ) (fun q1 => (if q1 = 0 then some ((-2), σ) else Option.bind (f_X7_in p1 0 63) (fun q2 => (if q2 = 0 then some ((-2), σ) else Option.bind (f_X7_findHops p1 (σ.1 4) σ) (fun q3 => Option.bind (f_X7_endOf p0 q3) (fun q4 => some (q4, q3)))))))
set_option maxHeartbeats 4000000 in
set_option maxRecDepth 100000 in
theorem c_X7_goes (l : Launch) (D : va_G) (A : Nat → Prop) (a : Nat → Nat) (x : ClassId × ClassId × ClassId) (σ : ZS) (p0 : Int32) (p1 : Int32) (r : (Int32 × ZS)) (h : f_X7_goes p0 p1 σ = some r) : zM l yX7_goes w_yX7_goes ({ frames := 7, cells := 0, slots := 0, locals := 181 } : Room) D A (tyz x) [.ref (a 0), .int p0, .int p1] (wM a x σ) (some (.int r.1)) (wM a x r.2) := by
  refine z_start [.ref (a 0), .int p0, .int p1] (lv := [(0, .ref (a 0)), (1, .int p0), (2, .int p1)]) (by decide) (Nat.le_of_ble_eq_true rfl) rfl ?_
  intro p e s m args below meth c C hr hlk
  unfold f_X7_goes at h
  refine z_aload_n C 0 rfl dX7_goes_0 ?_
  refine z_iload_n C 1 rfl dX7_goes_1 ?_
  obtain ⟨q1, hq1, h⟩ := bd_spec h
  refine z_callV1 C [.int p0] [] (v := (.int q1)) rfl (c_X7_isHouse l D A a x σ p0 q1 hq1) cd_yX7_isHouse in_RX7 ml_RX7_61 im_yX7_isHouse sl_yX7_isHouse gM_0 rfl hd_yX7_isHouse ⟨⟨Nat.le_of_ble_eq_true rfl, Nat.le_of_ble_eq_true rfl⟩, rfl, rfl⟩ rfl (Nat.le_of_ble_eq_true rfl) ⟨Nat.zero_le _, Nat.zero_le _⟩ dX7_goes_2 ?_
  refine z_if_eq C 18 (by decide) dX7_goes_5 h (fun h => ?_) (fun h => ?_)
  · refine z_bipush C (v := (-2)) dX7_goes_18 (by decide) ?_
    cases h
    exact z_iret C hr hlk dX7_goes_20
  · refine z_iload_n C 2 rfl dX7_goes_8 ?_
    refine z_iconst C (v := 0) dX7_goes_9 (by decide) ?_
    refine z_bipush C (v := 63) dX7_goes_10 (by decide) ?_
    obtain ⟨q2, hq2, h⟩ := bd_spec h
    refine z_callS1 C [.int p1, .int 0, .int 63] [] (v := .int q2) rfl (c_X7_in l D A (tyz x) (wM a x σ) p1 0 63 q2 hq2) cd_yX7_in in_RX7 ml_RX7_53 sm_yX7_in hd_yX7_in ⟨⟨Nat.le_of_ble_eq_true rfl, Nat.le_of_ble_eq_true rfl⟩, rfl, rfl⟩ rfl (Nat.le_of_ble_eq_true rfl) ⟨Nat.zero_le _, Nat.zero_le _⟩ dX7_goes_12 ?_
    refine z_if_ne C 21 (by decide) dX7_goes_15 h (fun h => ?_) (fun h => ?_)
    · refine z_aload_n C 0 rfl dX7_goes_21 ?_
      refine z_iload_n C 2 rfl dX7_goes_22 ?_
      refine z_aload_n C 0 rfl dX7_goes_23 ?_
      refine z_get C iRX7 0 gM_0 rfl 11 (by decide) fl_RX7_95 rfl dX7_goes_24 ?_
      obtain ⟨q3, hq3, h⟩ := bd_spec h
      refine z_callV0 C [.int p1, .int (σ.1 4)] [] rfl (c_X7_findHops l D A a x σ p1 (σ.1 4) q3 hq3) cd_yX7_findHops in_RX7 ml_RX7_135 im_yX7_findHops sl_yX7_findHops gM_0 rfl hd_yX7_findHops ⟨⟨Nat.le_of_ble_eq_true rfl, Nat.le_of_ble_eq_true rfl⟩, rfl, rfl⟩ rfl (Nat.le_of_ble_eq_true rfl) ⟨Nat.zero_le _, Nat.zero_le _⟩ dX7_goes_27 ?_
      refine z_aload_n C 0 rfl dX7_goes_30 ?_
      refine z_iload_n C 1 rfl dX7_goes_31 ?_
      obtain ⟨q4, hq4, h⟩ := bd_spec h
      refine z_callV1 C [.int p0] [] (v := (.int q4)) rfl (c_X7_endOf l D A a x q3 p0 q4 hq4) cd_yX7_endOf in_RX7 ml_RX7_139 im_yX7_endOf sl_yX7_endOf gM_0 rfl hd_yX7_endOf ⟨⟨Nat.le_of_ble_eq_true rfl, Nat.le_of_ble_eq_true rfl⟩, rfl, rfl⟩ rfl (Nat.le_of_ble_eq_true rfl) ⟨Nat.zero_le _, Nat.zero_le _⟩ dX7_goes_32 ?_
      cases h
      exact z_iret C hr hlk dX7_goes_35
    · refine z_bipush C (v := (-2)) dX7_goes_18 (by decide) ?_
      cases h
      exact z_iret C hr hlk dX7_goes_20
theorem dX7_misledBy_0 : decode cX7_misledBy 0 = .ok (.aload_n 0, 1) := by decide +kernel
theorem dX7_misledBy_1 : decode cX7_misledBy 1 = .ok (.bipush 6, 2) := by decide +kernel
theorem dX7_misledBy_3 : decode cX7_misledBy 3 = .ok (.iload_n 1, 1) := by decide +kernel
theorem dX7_misledBy_4 : decode cX7_misledBy 4 = .ok (.invokevirtual 79, 3) := by decide +kernel
theorem dX7_misledBy_7 : decode cX7_misledBy 7 = .ok (.istore_n 3, 1) := by decide +kernel
theorem dX7_misledBy_8 : decode cX7_misledBy 8 = .ok (.iconst 0, 1) := by decide +kernel
theorem dX7_misledBy_9 : decode cX7_misledBy 9 = .ok (.istore 4, 2) := by decide +kernel
theorem dX7_misledBy_11 : decode cX7_misledBy 11 = .ok (.aload_n 0, 1) := by decide +kernel
theorem dX7_misledBy_12 : decode cX7_misledBy 12 = .ok (.iload_n 1, 1) := by decide +kernel
theorem dX7_misledBy_13 : decode cX7_misledBy 13 = .ok (.iload_n 2, 1) := by decide +kernel
theorem dX7_misledBy_14 : decode cX7_misledBy 14 = .ok (.invokevirtual 135, 3) := by decide +kernel
theorem dX7_misledBy_17 : decode cX7_misledBy 17 = .ok (.iconst 0, 1) := by decide +kernel
theorem dX7_misledBy_18 : decode cX7_misledBy 18 = .ok (.istore 5, 2) := by decide +kernel
theorem dX7_misledBy_20 : decode cX7_misledBy 20 = .ok (.iload 5, 2) := by decide +kernel
theorem dX7_misledBy_22 : decode cX7_misledBy 22 = .ok (.aload_n 0, 1) := by decide +kernel
theorem dX7_misledBy_23 : decode cX7_misledBy 23 = .ok (.getfield 49, 3) := by decide +kernel
theorem dX7_misledBy_26 : decode cX7_misledBy 26 = .ok (.if_icmp .ge 46, 3) := by decide +kernel
theorem dX7_misledBy_29 : decode cX7_misledBy 29 = .ok (.iload_n 3, 1) := by decide +kernel
theorem dX7_misledBy_30 : decode cX7_misledBy 30 = .ok (.iconst (-1), 1) := by decide +kernel
theorem dX7_misledBy_31 : decode cX7_misledBy 31 = .ok (.if_icmp .eq 41, 3) := by decide +kernel
theorem dX7_misledBy_34 : decode cX7_misledBy 34 = .ok (.aload_n 0, 1) := by decide +kernel
theorem dX7_misledBy_35 : decode cX7_misledBy 35 = .ok (.iload 5, 2) := by decide +kernel
theorem dX7_misledBy_37 : decode cX7_misledBy 37 = .ok (.invokevirtual 139, 3) := by decide +kernel
theorem dX7_misledBy_40 : decode cX7_misledBy 40 = .ok (.istore 6, 2) := by decide +kernel
theorem dX7_misledBy_42 : decode cX7_misledBy 42 = .ok (.iload 4, 2) := by decide +kernel
theorem dX7_misledBy_44 : decode cX7_misledBy 44 = .ok (.iload 6, 2) := by decide +kernel
theorem dX7_misledBy_46 : decode cX7_misledBy 46 = .ok (.ifCond .lt 16, 3) := by decide +kernel
theorem dX7_misledBy_49 : decode cX7_misledBy 49 = .ok (.iload 6, 2) := by decide +kernel
theorem dX7_misledBy_51 : decode cX7_misledBy 51 = .ok (.iload_n 3, 1) := by decide +kernel
theorem dX7_misledBy_52 : decode cX7_misledBy 52 = .ok (.if_icmp .eq 10, 3) := by decide +kernel
theorem dX7_misledBy_55 : decode cX7_misledBy 55 = .ok (.iconst 1, 1) := by decide +kernel
theorem dX7_misledBy_56 : decode cX7_misledBy 56 = .ok (.iload 5, 2) := by decide +kernel
theorem dX7_misledBy_58 : decode cX7_misledBy 58 = .ok (.ishl, 1) := by decide +kernel
theorem dX7_misledBy_59 : decode cX7_misledBy 59 = .ok (.goto 4, 3) := by decide +kernel
theorem dX7_misledBy_62 : decode cX7_misledBy 62 = .ok (.iconst 0, 1) := by decide +kernel
theorem dX7_misledBy_63 : decode cX7_misledBy 63 = .ok (.ior, 1) := by decide +kernel
theorem dX7_misledBy_64 : decode cX7_misledBy 64 = .ok (.istore 4, 2) := by decide +kernel
theorem dX7_misledBy_66 : decode cX7_misledBy 66 = .ok (.iinc 5 1, 3) := by decide +kernel
theorem dX7_misledBy_69 : decode cX7_misledBy 69 = .ok (.goto (-49), 3) := by decide +kernel
theorem dX7_misledBy_72 : decode cX7_misledBy 72 = .ok (.iload 4, 2) := by decide +kernel
theorem dX7_misledBy_74 : decode cX7_misledBy 74 = .ok (.ireturn, 1) := by decide +kernel
theorem hd_yX7_misledBy : (yX7_misledBy).cls ≠ "java/lang/invoke/MethodHandle" ∧ (yX7_misledBy).cls ≠ "java/lang/invoke/VarHandle" ∧ (parseMethodDescriptor (yX7_misledBy).desc).map (fun d => d.parameters.length) = some 2 := ⟨by decide, by decide, by decide +kernel⟩
def f_X7_misledBy_J62 (l3 : Int32) (l5 : Int32) (s0 : Int32) (σ : ZS) : Option ((Int32 × Int32) ⊕ (Int32 × ZS)) :=
  some (.inl (s0 ||| 0, l5 + 1))
def f_X7_misledBy_B20 (l3 : Int32) (σ : ZS) (t1 : (Int32 × Int32)) : Option ((Int32 × Int32) ⊕ (Int32 × ZS)) :=
  (if (σ.1 0) ≤ t1.2 then wi (some (t1.1, σ)) else (if l3 = (-1) then wi (some (t1.1, σ)) else Option.bind (f_X7_endOf t1.2 σ) (fun q3 => (if q3 < 0 then f_X7_misledBy_J62 l3 t1.2 t1.1 σ else (if q3 = l3 then f_X7_misledBy_J62 l3 t1.2 t1.1 σ else some (.inl (t1.1 ||| ((1 : Int32) <<< (t1.2 &&& 31)), t1.2 + 1)))))))
def f_X7_misledBy (p0 : Int32) (p1 : Int32) (σ : ZS) : Option (Int32 × ZS) :=
  Option.bind (f_X7_rightfulFor 6 p0 σ) (fun q1 => Option.bind (f_X7_findHops p0 p1 σ) (fun q2 => lp zF (f_X7_misledBy_B20 q1 q2) (0, 0)))
set_option maxHeartbeats 4000000 in
set_option maxRecDepth 100000 in
theorem c_X7_misledBy (l : Launch) (D : va_G) (A : Nat → Prop) (a : Nat → Nat) (x : ClassId × ClassId × ClassId) (σ : ZS) (p0 : Int32) (p1 : Int32) (r : (Int32 × ZS)) (h : f_X7_misledBy p0 p1 σ = some r) : zM l yX7_misledBy w_yX7_misledBy ({ frames := 7, cells := 0, slots := 0, locals := 181 } : Room) D A (tyz x) [.ref (a 0), .int p0, .int p1] (wM a x σ) (some (.int r.1)) (wM a x r.2) := by
  refine z_start [.ref (a 0), .int p0, .int p1] (lv := [(0, .ref (a 0)), (1, .int p0), (2, .int p1)]) (by decide) (Nat.le_of_ble_eq_true rfl) rfl ?_
  intro p e s m args below meth c C hr hlk
  unfold f_X7_misledBy at h
  refine z_aload_n C 0 rfl dX7_misledBy_0 ?_
  refine z_bipush C (v := 6) dX7_misledBy_1 (by decide) ?_
  refine z_iload_n C 1 rfl dX7_misledBy_3 ?_
  obtain ⟨q1, hq1, h⟩ := bd_spec h
  refine z_callV1 C [.int 6, .int p0] [] (v := (.int q1)) rfl (c_X7_rightfulFor l D A a x σ 6 p0 q1 hq1) cd_yX7_rightfulFor in_RX7 ml_RX7_79 im_yX7_rightfulFor sl_yX7_rightfulFor gM_0 rfl hd_yX7_rightfulFor ⟨⟨Nat.le_of_ble_eq_true rfl, Nat.le_of_ble_eq_true rfl⟩, rfl, rfl⟩ rfl (Nat.le_of_ble_eq_true rfl) ⟨Nat.zero_le _, Nat.zero_le _⟩ dX7_misledBy_4 ?_
  refine z_istore_n C [(3, .int q1), (0, .ref (a 0)), (1, .int p0), (2, .int p1)] rfl (by decide) rfl dX7_misledBy_7 ?_
  refine z_iconst C (v := 0) dX7_misledBy_8 (by decide) ?_
  refine z_istore C [(4, .int 0), (3, .int q1), (0, .ref (a 0)), (1, .int p0), (2, .int p1)] (by decide) rfl dX7_misledBy_9 ?_
  refine z_aload_n C 2 rfl dX7_misledBy_11 ?_
  refine z_iload_n C 3 rfl dX7_misledBy_12 ?_
  refine z_iload_n C 4 rfl dX7_misledBy_13 ?_
  obtain ⟨q2, hq2, h⟩ := bd_spec h
  refine z_callV0 C [.int p0, .int p1] [] rfl (c_X7_findHops l D A a x σ p0 p1 q2 hq2) cd_yX7_findHops in_RX7 ml_RX7_135 im_yX7_findHops sl_yX7_findHops gM_0 rfl hd_yX7_findHops ⟨⟨Nat.le_of_ble_eq_true rfl, Nat.le_of_ble_eq_true rfl⟩, rfl, rfl⟩ rfl (Nat.le_of_ble_eq_true rfl) ⟨Nat.zero_le _, Nat.zero_le _⟩ dX7_misledBy_14 ?_
  refine z_iconst C (v := 0) dX7_misledBy_17 (by decide) ?_
  refine z_istore C [(5, .int 0), (4, .int 0), (3, .int q1), (0, .ref (a 0)), (1, .int p0), (2, .int p1)] (by decide) rfl dX7_misledBy_18 ?_
  refine z_sub C [3, 2, 1, 0] (lv' := [(0, .ref (a 0)), (3, .int q1), (4, .int 0), (5, .int 0)]) rfl ?_
  have L20 : ∀ (n : Nat) (t1 : (Int32 × Int32)), lp n (f_X7_misledBy_B20 q1 q2) t1 = some r → zV p l e ({ frames := 7, cells := 0, slots := 0, locals := 181 } : Room) s m args below meth c 0 0 (MQ below (zQ D A (some (.int r.1)) (wM a x r.2)) args s 0 0 A) D A 7 (wM a x q2) 20 [(0, .ref (a 0)), (3, .int q1), (4, .int t1.1), (5, .int t1.2)] [] := by
    intro n1
    induction n1 with
    | zero => exact fun _ h => (lp_zero h).elim
    | succ n1 ih1 =>
      intro t1 h
      obtain ⟨u1, h, hk1⟩ := lp_succ h
      have J62 : ∀ (l5_62 : Int32) (s0_62 : Int32), f_X7_misledBy_J62 q1 l5_62 s0_62 q2 = some u1 → zV p l e ({ frames := 7, cells := 0, slots := 0, locals := 181 } : Room) s m args below meth c 0 0 (MQ below (zQ D A (some (.int r.1)) (wM a x r.2)) args s 0 0 A) D A 7 (wM a x q2) 62 [(0, .ref (a 0)), (3, .int q1), (5, .int l5_62)] [.int s0_62] := by
        intro l5_62 s0_62 h
        unfold f_X7_misledBy_J62 at h
        refine z_iconst C (v := 0) dX7_misledBy_62 (by decide) ?_
        refine z_ior C dX7_misledBy_63 ?_
        refine z_istore C [(4, .int (s0_62 ||| 0)), (0, .ref (a 0)), (3, .int q1), (5, .int l5_62)] (by decide) rfl dX7_misledBy_64 ?_
        refine z_iinc C (v := l5_62 + 1) [(5, .int (l5_62 + 1)), (4, .int (s0_62 ||| 0)), (0, .ref (a 0)), (3, .int q1)] 3 rfl rfl (by decide) rfl dX7_misledBy_66 ?_
        refine z_goto C 20 (by decide) dX7_misledBy_69 ?_
        refine z_sub C [2, 3, 1, 0] (lv' := [(0, .ref (a 0)), (3, .int q1), (4, .int (s0_62 ||| 0)), (5, .int (l5_62 + 1))]) rfl ?_
        exact ih1 _ (uninl h hk1)
      unfold f_X7_misledBy_B20 at h
      refine z_iload C 3 rfl dX7_misledBy_20 ?_
      refine z_aload_n C 0 rfl dX7_misledBy_22 ?_
      refine z_get C iRX7 0 gM_0 rfl 0 (by decide) fl_RX7_49 rfl dX7_misledBy_23 ?_
      refine z_icmp_ge C 72 (by decide) dX7_misledBy_26 h (fun h => ?_) (fun h => ?_)
      · refine z_iload C 2 rfl dX7_misledBy_72 ?_
        have h := unwi h hk1
        cases h
        exact z_iret C hr hlk dX7_misledBy_74
      · refine z_iload_n C 1 rfl dX7_misledBy_29 ?_
        refine z_iconst C (v := (-1)) dX7_misledBy_30 (by decide) ?_
        refine z_icmp_eq C 72 (by decide) dX7_misledBy_31 h (fun h => ?_) (fun h => ?_)
        · refine z_iload C 2 rfl dX7_misledBy_72 ?_
          have h := unwi h hk1
          cases h
          exact z_iret C hr hlk dX7_misledBy_74
        · refine z_aload_n C 0 rfl dX7_misledBy_34 ?_
          refine z_iload C 3 rfl dX7_misledBy_35 ?_
          obtain ⟨q3, hq3, h⟩ := bd_spec h
          refine z_callV1 C [.int t1.2] [] (v := (.int q3)) rfl (c_X7_endOf l D A a x q2 t1.2 q3 hq3) cd_yX7_endOf in_RX7 ml_RX7_139 im_yX7_endOf sl_yX7_endOf gM_0 rfl hd_yX7_endOf ⟨⟨Nat.le_of_ble_eq_true rfl, Nat.le_of_ble_eq_true rfl⟩, rfl, rfl⟩ rfl (Nat.le_of_ble_eq_true rfl) ⟨Nat.zero_le _, Nat.zero_le _⟩ dX7_misledBy_37 ?_
          refine z_istore C [(6, .int q3), (0, .ref (a 0)), (3, .int q1), (4, .int t1.1), (5, .int t1.2)] (by decide) rfl dX7_misledBy_40 ?_
          refine z_iload C 3 rfl dX7_misledBy_42 ?_
          refine z_iload C 0 rfl dX7_misledBy_44 ?_
          refine z_if_lt C 62 (by decide) dX7_misledBy_46 h (fun h => ?_) (fun h => ?_)
          · refine z_sub C [1, 2, 4] (lv' := [(0, .ref (a 0)), (3, .int q1), (5, .int t1.2)]) rfl ?_
            exact J62 _ _ h
          · refine z_iload C 0 rfl dX7_misledBy_49 ?_
            refine z_iload_n C 2 rfl dX7_misledBy_51 ?_
            refine z_icmp_eq C 62 (by decide) dX7_misledBy_52 h (fun h => ?_) (fun h => ?_)
            · refine z_sub C [1, 2, 4] (lv' := [(0, .ref (a 0)), (3, .int q1), (5, .int t1.2)]) rfl ?_
              exact J62 _ _ h
            · refine z_iconst C (v := 1) dX7_misledBy_55 (by decide) ?_
              refine z_iload C 4 rfl dX7_misledBy_56 ?_
              refine z_ishl C dX7_misledBy_58 ?_
              refine z_goto C 63 (by decide) dX7_misledBy_59 ?_
              refine z_ior C dX7_misledBy_63 ?_
              refine z_istore C [(4, .int (t1.1 ||| ((1 : Int32) <<< (t1.2 &&& 31)))), (6, .int q3), (0, .ref (a 0)), (3, .int q1), (5, .int t1.2)] (by decide) rfl dX7_misledBy_64 ?_
              refine z_iinc C (v := t1.2 + 1) [(5, .int (t1.2 + 1)), (4, .int (t1.1 ||| ((1 : Int32) <<< (t1.2 &&& 31)))), (6, .int q3), (0, .ref (a 0)), (3, .int q1)] 4 rfl rfl (by decide) rfl dX7_misledBy_66 ?_
              refine z_goto C 20 (by decide) dX7_misledBy_69 ?_
              refine z_sub C [3, 4, 1, 0] (lv' := [(0, .ref (a 0)), (3, .int q1), (4, .int (t1.1 ||| ((1 : Int32) <<< (t1.2 &&& 31)))), (5, .int (t1.2 + 1))]) rfl ?_
              exact ih1 _ (uninl h hk1)
  exact L20 _ _ h
theorem dX7_misled_0 : decode cX7_misled 0 = .ok (.iload_n 1, 1) := by decide +kernel
theorem dX7_misled_1 : decode cX7_misled 1 = .ok (.iconst 0, 1) := by decide +kernel
theorem dX7_misled_2 : decode cX7_misled 2 = .ok (.bipush 63, 2) := by decide +kernel
theorem dX7_misled_4 : decode cX7_misled 4 = .ok (.invokestatic 53, 3) := by decide +kernel
theorem dX7_misled_7 : decode cX7_misled 7 = .ok (.ifCond .eq 15, 3) := by decide +kernel
theorem dX7_misled_10 : decode cX7_misled 10 = .ok (.aload_n 0, 1) := by decide +kernel
theorem dX7_misled_11 : decode cX7_misled 11 = .ok (.iload_n 1, 1) := by decide +kernel
theorem dX7_misled_12 : decode cX7_misled 12 = .ok (.aload_n 0, 1) := by decide +kernel
theorem dX7_misled_13 : decode cX7_misled 13 = .ok (.getfield 95, 3) := by decide +kernel
theorem dX7_misled_16 : decode cX7_misled 16 = .ok (.invokevirtual 142, 3) := by decide +kernel
theorem dX7_misled_19 : decode cX7_misled 19 = .ok (.goto 5, 3) := by decide +kernel
theorem dX7_misled_22 : decode cX7_misled 22 = .ok (.bipush (-2), 2) := by decide +kernel
theorem dX7_misled_24 : decode cX7_misled 24 = .ok (.ireturn, 1) := by decide +kernel
theorem hd_yX7_misled : (yX7_misled).cls ≠ "java/lang/invoke/MethodHandle" ∧ (yX7_misled).cls ≠ "java/lang/invoke/VarHandle" ∧ (parseMethodDescriptor (yX7_misled).desc).map (fun d => d.parameters.length) = some 1 := ⟨by decide, by decide, by decide +kernel⟩
def f_X7_misled (p0 : Int32) (σ : ZS) : Option (Int32 × ZS) :=
  Option.bind (f_X7_in p0 0 63) (fun q1 => (if q1 = 0 then some ((-2), σ) else Option.bind (f_X7_misledBy p0 (σ.1 4) σ) (fun q2 => some (q2.1, q2.2))))
set_option maxHeartbeats 4000000 in
set_option maxRecDepth 100000 in
theorem c_X7_misled (l : Launch) (D : va_G) (A : Nat → Prop) (a : Nat → Nat) (x : ClassId × ClassId × ClassId) (σ : ZS) (p0 : Int32) (r : (Int32 × ZS)) (h : f_X7_misled p0 σ = some r) : zM l yX7_misled w_yX7_misled ({ frames := 8, cells := 0, slots := 0, locals := 207 } : Room) D A (tyz x) [.ref (a 0), .int p0] (wM a x σ) (some (.int r.1)) (wM a x r.2) := by
  refine z_start [.ref (a 0), .int p0] (lv := [(0, .ref (a 0)), (1, .int p0)]) (by decide) (Nat.le_of_ble_eq_true rfl) rfl ?_
  intro p e s m args below meth c C hr hlk
  unfold f_X7_misled at h
  refine z_iload_n C 1 rfl dX7_misled_0 ?_
  refine z_iconst C (v := 0) dX7_misled_1 (by decide) ?_
  refine z_bipush C (v := 63) dX7_misled_2 (by decide) ?_
  obtain ⟨q1, hq1, h⟩ := bd_spec h
  refine z_callS1 C [.int p0, .int 0, .int 63] [] (v := .int q1) rfl (c_X7_in l D A (tyz x) (wM a x σ) p0 0 63 q1 hq1) cd_yX7_in in_RX7 ml_RX7_53 sm_yX7_in hd_yX7_in ⟨⟨Nat.le_of_ble_eq_true rfl, Nat.le_of_ble_eq_true rfl⟩, rfl, rfl⟩ rfl (Nat.le_of_ble_eq_true rfl) ⟨Nat.zero_le _, Nat.zero_le _⟩ dX7_misled_4 ?_
  refine z_if_eq C 22 (by decide) dX7_misled_7 h (fun h => ?_) (fun h => ?_)
  · refine z_bipush C (v := (-2)) dX7_misled_22 (by decide) ?_
    cases h
    exact z_iret C hr hlk dX7_misled_24
  · refine z_aload_n C 0 rfl dX7_misled_10 ?_
    refine z_iload_n C 1 rfl dX7_misled_11 ?_
    refine z_aload_n C 0 rfl dX7_misled_12 ?_
    refine z_get C iRX7 0 gM_0 rfl 11 (by decide) fl_RX7_95 rfl dX7_misled_13 ?_
    obtain ⟨q2, hq2, h⟩ := bd_spec h
    refine z_callV1 C [.int p0, .int (σ.1 4)] [] (v := (.int q2.1)) rfl (c_X7_misledBy l D A a x σ p0 (σ.1 4) q2 hq2) cd_yX7_misledBy in_RX7 ml_RX7_142 im_yX7_misledBy sl_yX7_misledBy gM_0 rfl hd_yX7_misledBy ⟨⟨Nat.le_of_ble_eq_true rfl, Nat.le_of_ble_eq_true rfl⟩, rfl, rfl⟩ rfl (Nat.le_of_ble_eq_true rfl) ⟨Nat.zero_le _, Nat.zero_le _⟩ dX7_misled_16 ?_
    refine z_goto C 24 (by decide) dX7_misled_19 ?_
    cases h
    exact z_iret C hr hlk dX7_misled_24
theorem dX7_isFalse_0 : decode cX7_isFalse 0 = .ok (.aload_n 0, 1) := by decide +kernel
theorem dX7_isFalse_1 : decode cX7_isFalse 1 = .ok (.aload_n 0, 1) := by decide +kernel
theorem dX7_isFalse_2 : decode cX7_isFalse 2 = .ok (.getfield 22, 3) := by decide +kernel
theorem dX7_isFalse_5 : decode cX7_isFalse 5 = .ok (.iload_n 1, 1) := by decide +kernel
theorem dX7_isFalse_6 : decode cX7_isFalse 6 = .ok (.iaload, 1) := by decide +kernel
theorem dX7_isFalse_7 : decode cX7_isFalse 7 = .ok (.aload_n 0, 1) := by decide +kernel
theorem dX7_isFalse_8 : decode cX7_isFalse 8 = .ok (.getfield 25, 3) := by decide +kernel
theorem dX7_isFalse_11 : decode cX7_isFalse 11 = .ok (.iload_n 1, 1) := by decide +kernel
theorem dX7_isFalse_12 : decode cX7_isFalse 12 = .ok (.iaload, 1) := by decide +kernel
theorem dX7_isFalse_13 : decode cX7_isFalse 13 = .ok (.invokevirtual 79, 3) := by decide +kernel
theorem dX7_isFalse_16 : decode cX7_isFalse 16 = .ok (.istore_n 2, 1) := by decide +kernel
theorem dX7_isFalse_17 : decode cX7_isFalse 17 = .ok (.iload_n 2, 1) := by decide +kernel
theorem dX7_isFalse_18 : decode cX7_isFalse 18 = .ok (.iconst (-1), 1) := by decide +kernel
theorem dX7_isFalse_19 : decode cX7_isFalse 19 = .ok (.if_icmp .eq 17, 3) := by decide +kernel
theorem dX7_isFalse_22 : decode cX7_isFalse 22 = .ok (.iload_n 2, 1) := by decide +kernel
theorem dX7_isFalse_23 : decode cX7_isFalse 23 = .ok (.aload_n 0, 1) := by decide +kernel
theorem dX7_isFalse_24 : decode cX7_isFalse 24 = .ok (.getfield 28, 3) := by decide +kernel
theorem dX7_isFalse_27 : decode cX7_isFalse 27 = .ok (.iload_n 1, 1) := by decide +kernel
theorem dX7_isFalse_28 : decode cX7_isFalse 28 = .ok (.iaload, 1) := by decide +kernel
theorem dX7_isFalse_29 : decode cX7_isFalse 29 = .ok (.if_icmp .eq 7, 3) := by decide +kernel
theorem dX7_isFalse_32 : decode cX7_isFalse 32 = .ok (.iconst 1, 1) := by decide +kernel
theorem dX7_isFalse_33 : decode cX7_isFalse 33 = .ok (.goto 4, 3) := by decide +kernel
theorem dX7_isFalse_36 : decode cX7_isFalse 36 = .ok (.iconst 0, 1) := by decide +kernel
theorem dX7_isFalse_37 : decode cX7_isFalse 37 = .ok (.ireturn, 1) := by decide +kernel
theorem hd_yX7_isFalse : (yX7_isFalse).cls ≠ "java/lang/invoke/MethodHandle" ∧ (yX7_isFalse).cls ≠ "java/lang/invoke/VarHandle" ∧ (parseMethodDescriptor (yX7_isFalse).desc).map (fun d => d.parameters.length) = some 1 := ⟨by decide, by decide, by decide +kernel⟩
def f_X7_isFalse (p0 : Int32) (σ : ZS) : Option Int32 :=
  ld (σ.2.1 5) 18 p0 (fun y1 => ld (σ.2.1 6) 18 p0 (fun y2 => Option.bind (f_X7_rightfulFor y1 y2 σ) (fun q3 => (if q3 = (-1) then some 0 else ld (σ.2.1 7) 18 p0 (fun y4 => (if q3 = y4 then some 0 else some 1))))))
set_option maxHeartbeats 4000000 in
set_option maxRecDepth 100000 in
theorem c_X7_isFalse (l : Launch) (D : va_G) (A : Nat → Prop) (a : Nat → Nat) (x : ClassId × ClassId × ClassId) (σ : ZS) (p0 : Int32) (r : Int32) (h : f_X7_isFalse p0 σ = some r) : zM l yX7_isFalse w_yX7_isFalse ({ frames := 2, cells := 0, slots := 0, locals := 48 } : Room) D A (tyz x) [.ref (a 0), .int p0] (wM a x σ) (some (.int r)) (wM a x σ) := by
  refine z_start [.ref (a 0), .int p0] (lv := [(0, .ref (a 0)), (1, .int p0)]) (by decide) (Nat.le_of_ble_eq_true rfl) rfl ?_
  intro p e s m args below meth c C hr hlk
  unfold f_X7_isFalse at h
  refine z_aload_n C 0 rfl dX7_isFalse_0 ?_
  refine z_aload_n C 0 rfl dX7_isFalse_1 ?_
  refine z_get C iRX7 0 gM_0 rfl 7 (by decide) fl_RX7_22 rfl dX7_isFalse_2 ?_
  refine z_iload_n C 1 rfl dX7_isFalse_5 ?_
  refine z_iald C 5 0 gM_5 rfl dX7_isFalse_6 h (fun y1 h => ?_)
  refine z_aload_n C 0 rfl dX7_isFalse_7 ?_
  refine z_get C iRX7 0 gM_0 rfl 8 (by decide) fl_RX7_25 rfl dX7_isFalse_8 ?_
  refine z_iload_n C 1 rfl dX7_isFalse_11 ?_
  refine z_iald C 6 0 gM_6 rfl dX7_isFalse_12 h (fun y2 h => ?_)
  obtain ⟨q3, hq3, h⟩ := bd_spec h
  refine z_callV1 C [.int y1, .int y2] [] (v := (.int q3)) rfl (c_X7_rightfulFor l D A a x σ y1 y2 q3 hq3) cd_yX7_rightfulFor in_RX7 ml_RX7_79 im_yX7_rightfulFor sl_yX7_rightfulFor gM_0 rfl hd_yX7_rightfulFor ⟨⟨Nat.le_of_ble_eq_true rfl, Nat.le_of_ble_eq_true rfl⟩, rfl, rfl⟩ rfl (Nat.le_of_ble_eq_true rfl) ⟨Nat.zero_le _, Nat.zero_le _⟩ dX7_isFalse_13 ?_
  refine z_istore_n C [(2, .int q3), (0, .ref (a 0)), (1, .int p0)] rfl (by decide) rfl dX7_isFalse_16 ?_
  refine z_iload_n C 0 rfl dX7_isFalse_17 ?_
  refine z_iconst C (v := (-1)) dX7_isFalse_18 (by decide) ?_
  refine z_icmp_eq C 36 (by decide) dX7_isFalse_19 h (fun h => ?_) (fun h => ?_)
  · refine z_iconst C (v := 0) dX7_isFalse_36 (by decide) ?_
    cases h
    exact z_zret C hr hlk rfl dX7_isFalse_37
  · refine z_iload_n C 0 rfl dX7_isFalse_22 ?_
    refine z_aload_n C 1 rfl dX7_isFalse_23 ?_
    refine z_get C iRX7 0 gM_0 rfl 9 (by decide) fl_RX7_28 rfl dX7_isFalse_24 ?_
    refine z_iload_n C 2 rfl dX7_isFalse_27 ?_
    refine z_iald C 7 0 gM_7 rfl dX7_isFalse_28 h (fun y4 h => ?_)
    refine z_icmp_eq C 36 (by decide) dX7_isFalse_29 h (fun h => ?_) (fun h => ?_)
    · refine z_iconst C (v := 0) dX7_isFalse_36 (by decide) ?_
      cases h
      exact z_zret C hr hlk rfl dX7_isFalse_37
    · refine z_iconst C (v := 1) dX7_isFalse_32 (by decide) ?_
      refine z_goto C 37 (by decide) dX7_isFalse_33 ?_
      cases h
      exact z_zret C hr hlk rfl dX7_isFalse_37
theorem dX7_seenBy_0 : decode cX7_seenBy 0 = .ok (.aload_n 0, 1) := by decide +kernel
theorem dX7_seenBy_1 : decode cX7_seenBy 1 = .ok (.aload_n 0, 1) := by decide +kernel
theorem dX7_seenBy_2 : decode cX7_seenBy 2 = .ok (.getfield 22, 3) := by decide +kernel
theorem dX7_seenBy_5 : decode cX7_seenBy 5 = .ok (.iload_n 1, 1) := by decide +kernel
theorem dX7_seenBy_6 : decode cX7_seenBy 6 = .ok (.iaload, 1) := by decide +kernel
theorem dX7_seenBy_7 : decode cX7_seenBy 7 = .ok (.aload_n 0, 1) := by decide +kernel
theorem dX7_seenBy_8 : decode cX7_seenBy 8 = .ok (.getfield 25, 3) := by decide +kernel
theorem dX7_seenBy_11 : decode cX7_seenBy 11 = .ok (.iload_n 1, 1) := by decide +kernel
theorem dX7_seenBy_12 : decode cX7_seenBy 12 = .ok (.iaload, 1) := by decide +kernel
theorem dX7_seenBy_13 : decode cX7_seenBy 13 = .ok (.aload_n 0, 1) := by decide +kernel
theorem dX7_seenBy_14 : decode cX7_seenBy 14 = .ok (.getfield 95, 3) := by decide +kernel
theorem dX7_seenBy_17 : decode cX7_seenBy 17 = .ok (.invokevirtual 126, 3) := by decide +kernel
theorem dX7_seenBy_20 : decode cX7_seenBy 20 = .ok (.iconst 0, 1) := by decide +kernel
theorem dX7_seenBy_21 : decode cX7_seenBy 21 = .ok (.istore_n 2, 1) := by decide +kernel
theorem dX7_seenBy_22 : decode cX7_seenBy 22 = .ok (.iconst 0, 1) := by decide +kernel
theorem dX7_seenBy_23 : decode cX7_seenBy 23 = .ok (.istore_n 3, 1) := by decide +kernel
theorem dX7_seenBy_24 : decode cX7_seenBy 24 = .ok (.iload_n 3, 1) := by decide +kernel
theorem dX7_seenBy_25 : decode cX7_seenBy 25 = .ok (.aload_n 0, 1) := by decide +kernel
theorem dX7_seenBy_26 : decode cX7_seenBy 26 = .ok (.getfield 49, 3) := by decide +kernel
theorem dX7_seenBy_29 : decode cX7_seenBy 29 = .ok (.if_icmp .ge 65, 3) := by decide +kernel
theorem dX7_seenBy_32 : decode cX7_seenBy 32 = .ok (.iload_n 2, 1) := by decide +kernel
theorem dX7_seenBy_33 : decode cX7_seenBy 33 = .ok (.iload_n 3, 1) := by decide +kernel
theorem dX7_seenBy_34 : decode cX7_seenBy 34 = .ok (.aload_n 0, 1) := by decide +kernel
theorem dX7_seenBy_35 : decode cX7_seenBy 35 = .ok (.getfield 28, 3) := by decide +kernel
theorem dX7_seenBy_38 : decode cX7_seenBy 38 = .ok (.iload_n 1, 1) := by decide +kernel
theorem dX7_seenBy_39 : decode cX7_seenBy 39 = .ok (.iaload, 1) := by decide +kernel
theorem dX7_seenBy_40 : decode cX7_seenBy 40 = .ok (.if_icmp .eq 45, 3) := by decide +kernel
theorem dX7_seenBy_43 : decode cX7_seenBy 43 = .ok (.aload_n 0, 1) := by decide +kernel
theorem dX7_seenBy_44 : decode cX7_seenBy 44 = .ok (.getfield 34, 3) := by decide +kernel
theorem dX7_seenBy_47 : decode cX7_seenBy 47 = .ok (.iload_n 3, 1) := by decide +kernel
theorem dX7_seenBy_48 : decode cX7_seenBy 48 = .ok (.iaload, 1) := by decide +kernel
theorem dX7_seenBy_49 : decode cX7_seenBy 49 = .ok (.ifCond .le 36, 3) := by decide +kernel
theorem dX7_seenBy_52 : decode cX7_seenBy 52 = .ok (.aload_n 0, 1) := by decide +kernel
theorem dX7_seenBy_53 : decode cX7_seenBy 53 = .ok (.getfield 31, 3) := by decide +kernel
theorem dX7_seenBy_56 : decode cX7_seenBy 56 = .ok (.bipush 10, 2) := by decide +kernel
theorem dX7_seenBy_58 : decode cX7_seenBy 58 = .ok (.iload_n 3, 1) := by decide +kernel
theorem dX7_seenBy_59 : decode cX7_seenBy 59 = .ok (.imul, 1) := by decide +kernel
theorem dX7_seenBy_60 : decode cX7_seenBy 60 = .ok (.aload_n 0, 1) := by decide +kernel
theorem dX7_seenBy_61 : decode cX7_seenBy 61 = .ok (.getfield 34, 3) := by decide +kernel
theorem dX7_seenBy_64 : decode cX7_seenBy 64 = .ok (.iload_n 3, 1) := by decide +kernel
theorem dX7_seenBy_65 : decode cX7_seenBy 65 = .ok (.iaload, 1) := by decide +kernel
theorem dX7_seenBy_66 : decode cX7_seenBy 66 = .ok (.iadd, 1) := by decide +kernel
theorem dX7_seenBy_67 : decode cX7_seenBy 67 = .ok (.iconst 1, 1) := by decide +kernel
theorem dX7_seenBy_68 : decode cX7_seenBy 68 = .ok (.isub, 1) := by decide +kernel
theorem dX7_seenBy_69 : decode cX7_seenBy 69 = .ok (.iaload, 1) := by decide +kernel
theorem dX7_seenBy_70 : decode cX7_seenBy 70 = .ok (.aload_n 0, 1) := by decide +kernel
theorem dX7_seenBy_71 : decode cX7_seenBy 71 = .ok (.getfield 28, 3) := by decide +kernel
theorem dX7_seenBy_74 : decode cX7_seenBy 74 = .ok (.iload_n 1, 1) := by decide +kernel
theorem dX7_seenBy_75 : decode cX7_seenBy 75 = .ok (.iaload, 1) := by decide +kernel
theorem dX7_seenBy_76 : decode cX7_seenBy 76 = .ok (.if_icmp .ne 9, 3) := by decide +kernel
theorem dX7_seenBy_79 : decode cX7_seenBy 79 = .ok (.iconst 1, 1) := by decide +kernel
theorem dX7_seenBy_80 : decode cX7_seenBy 80 = .ok (.iload_n 3, 1) := by decide +kernel
theorem dX7_seenBy_81 : decode cX7_seenBy 81 = .ok (.ishl, 1) := by decide +kernel
theorem dX7_seenBy_82 : decode cX7_seenBy 82 = .ok (.goto 4, 3) := by decide +kernel
theorem dX7_seenBy_85 : decode cX7_seenBy 85 = .ok (.iconst 0, 1) := by decide +kernel
theorem dX7_seenBy_86 : decode cX7_seenBy 86 = .ok (.ior, 1) := by decide +kernel
theorem dX7_seenBy_87 : decode cX7_seenBy 87 = .ok (.istore_n 2, 1) := by decide +kernel
theorem dX7_seenBy_88 : decode cX7_seenBy 88 = .ok (.iinc 3 1, 3) := by decide +kernel
theorem dX7_seenBy_91 : decode cX7_seenBy 91 = .ok (.goto (-67), 3) := by decide +kernel
theorem dX7_seenBy_94 : decode cX7_seenBy 94 = .ok (.iload_n 2, 1) := by decide +kernel
theorem dX7_seenBy_95 : decode cX7_seenBy 95 = .ok (.ireturn, 1) := by decide +kernel
theorem hd_yX7_seenBy : (yX7_seenBy).cls ≠ "java/lang/invoke/MethodHandle" ∧ (yX7_seenBy).cls ≠ "java/lang/invoke/VarHandle" ∧ (parseMethodDescriptor (yX7_seenBy).desc).map (fun d => d.parameters.length) = some 1 := ⟨by decide, by decide, by decide +kernel⟩
def f_X7_seenBy_J85 (l1 : Int32) (l3 : Int32) (s0 : Int32) (σ : ZS) : Option ((Int32 × Int32) ⊕ (Int32 × ZS)) :=
  some (.inl (s0 ||| 0, l3 + 1))
def f_X7_seenBy_B24 (l1 : Int32) (σ : ZS) (t1 : (Int32 × Int32)) : Option ((Int32 × Int32) ⊕ (Int32 × ZS)) :=
  (if (σ.1 0) ≤ t1.2 then wi (some (t1.1, σ)) else ld (σ.2.1 7) 18 l1 (fun y4 => (if t1.2 = y4 then f_X7_seenBy_J85 l1 t1.2 t1.1 σ else ld (σ.2.1 9) 10 t1.2 (fun y5 => (if y5 ≤ 0 then f_X7_seenBy_J85 l1 t1.2 t1.1 σ else ld (σ.2.1 9) 10 t1.2 (fun y6 => ld (σ.2.1 8) 100 ((((10 : Int32) * t1.2) + y6) - 1) (fun y7 => ld (σ.2.1 7) 18 l1 (fun y8 => (if y7 = y8 then some (.inl (t1.1 ||| ((1 : Int32) <<< (t1.2 &&& 31)), t1.2 + 1)) else f_X7_seenBy_J85 l1 t1.2 t1.1 σ)))))))))
def f_X7_seenBy (p0 : Int32) (σ : ZS) : Option (Int32 × ZS) :=
  ld (σ.2.1 5) 18 p0 (fun y1 => ld (σ.2.1 6) 18 p0 (fun y2 => Option.bind (f_X7_findWays y1 y2 (σ.1 4) σ) (fun q3 => lp zF (f_X7_seenBy_B24 p0 q3) (0, 0))))
set_option maxHeartbeats 4000000 in
set_option maxRecDepth 100000 in
theorem c_X7_seenBy (l : Launch) (D : va_G) (A : Nat → Prop) (a : Nat → Nat) (x : ClassId × ClassId × ClassId) (σ : ZS) (p0 : Int32) (r : (Int32 × ZS)) (h : f_X7_seenBy p0 σ = some r) : zM l yX7_seenBy w_yX7_seenBy ({ frames := 6, cells := 0, slots := 0, locals := 155 } : Room) D A (tyz x) [.ref (a 0), .int p0] (wM a x σ) (some (.int r.1)) (wM a x r.2) := by
  refine z_start [.ref (a 0), .int p0] (lv := [(0, .ref (a 0)), (1, .int p0)]) (by decide) (Nat.le_of_ble_eq_true rfl) rfl ?_
  intro p e s m args below meth c C hr hlk
  unfold f_X7_seenBy at h
  refine z_aload_n C 0 rfl dX7_seenBy_0 ?_
  refine z_aload_n C 0 rfl dX7_seenBy_1 ?_
  refine z_get C iRX7 0 gM_0 rfl 7 (by decide) fl_RX7_22 rfl dX7_seenBy_2 ?_
  refine z_iload_n C 1 rfl dX7_seenBy_5 ?_
  refine z_iald C 5 0 gM_5 rfl dX7_seenBy_6 h (fun y1 h => ?_)
  refine z_aload_n C 0 rfl dX7_seenBy_7 ?_
  refine z_get C iRX7 0 gM_0 rfl 8 (by decide) fl_RX7_25 rfl dX7_seenBy_8 ?_
  refine z_iload_n C 1 rfl dX7_seenBy_11 ?_
  refine z_iald C 6 0 gM_6 rfl dX7_seenBy_12 h (fun y2 h => ?_)
  refine z_aload_n C 0 rfl dX7_seenBy_13 ?_
  refine z_get C iRX7 0 gM_0 rfl 11 (by decide) fl_RX7_95 rfl dX7_seenBy_14 ?_
  obtain ⟨q3, hq3, h⟩ := bd_spec h
  refine z_callV0 C [.int y1, .int y2, .int (σ.1 4)] [] rfl (c_X7_findWays l D A a x σ y1 y2 (σ.1 4) q3 hq3) cd_yX7_findWays in_RX7 ml_RX7_126 im_yX7_findWays sl_yX7_findWays gM_0 rfl hd_yX7_findWays ⟨⟨Nat.le_of_ble_eq_true rfl, Nat.le_of_ble_eq_true rfl⟩, rfl, rfl⟩ rfl (Nat.le_of_ble_eq_true rfl) ⟨Nat.zero_le _, Nat.zero_le _⟩ dX7_seenBy_17 ?_
  refine z_iconst C (v := 0) dX7_seenBy_20 (by decide) ?_
  refine z_istore_n C [(2, .int 0), (0, .ref (a 0)), (1, .int p0)] rfl (by decide) rfl dX7_seenBy_21 ?_
  refine z_iconst C (v := 0) dX7_seenBy_22 (by decide) ?_
  refine z_istore_n C [(3, .int 0), (2, .int 0), (0, .ref (a 0)), (1, .int p0)] rfl (by decide) rfl dX7_seenBy_23 ?_
  refine z_sub C [2, 3, 1, 0] (lv' := [(0, .ref (a 0)), (1, .int p0), (2, .int 0), (3, .int 0)]) rfl ?_
  have L24 : ∀ (n : Nat) (t1 : (Int32 × Int32)), lp n (f_X7_seenBy_B24 p0 q3) t1 = some r → zV p l e ({ frames := 6, cells := 0, slots := 0, locals := 155 } : Room) s m args below meth c 0 0 (MQ below (zQ D A (some (.int r.1)) (wM a x r.2)) args s 0 0 A) D A 4 (wM a x q3) 24 [(0, .ref (a 0)), (1, .int p0), (2, .int t1.1), (3, .int t1.2)] [] := by
    intro n1
    induction n1 with
    | zero => exact fun _ h => (lp_zero h).elim
    | succ n1 ih1 =>
      intro t1 h
      obtain ⟨u1, h, hk1⟩ := lp_succ h
      have J85 : ∀ (l3_85 : Int32) (s0_85 : Int32), f_X7_seenBy_J85 p0 l3_85 s0_85 q3 = some u1 → zV p l e ({ frames := 6, cells := 0, slots := 0, locals := 155 } : Room) s m args below meth c 0 0 (MQ below (zQ D A (some (.int r.1)) (wM a x r.2)) args s 0 0 A) D A 4 (wM a x q3) 85 [(0, .ref (a 0)), (1, .int p0), (3, .int l3_85)] [.int s0_85] := by
        intro l3_85 s0_85 h
        unfold f_X7_seenBy_J85 at h
        refine z_iconst C (v := 0) dX7_seenBy_85 (by decide) ?_
        refine z_ior C dX7_seenBy_86 ?_
        refine z_istore_n C [(2, .int (s0_85 ||| 0)), (0, .ref (a 0)), (1, .int p0), (3, .int l3_85)] rfl (by decide) rfl dX7_seenBy_87 ?_
        refine z_iinc C (v := l3_85 + 1) [(3, .int (l3_85 + 1)), (2, .int (s0_85 ||| 0)), (0, .ref (a 0)), (1, .int p0)] 3 rfl rfl (by decide) rfl dX7_seenBy_88 ?_
        refine z_goto C 24 (by decide) dX7_seenBy_91 ?_
        refine z_sub C [2, 3, 1, 0] (lv' := [(0, .ref (a 0)), (1, .int p0), (2, .int (s0_85 ||| 0)), (3, .int (l3_85 + 1))]) rfl ?_
        exact ih1 _ (uninl h hk1)
      unfold f_X7_seenBy_B24 at h
      refine z_iload_n C 3 rfl dX7_seenBy_24 ?_
      refine z_aload_n C 0 rfl dX7_seenBy_25 ?_
      refine z_get C iRX7 0 gM_0 rfl 0 (by decide) fl_RX7_49 rfl dX7_seenBy_26 ?_
      refine z_icmp_ge C 94 (by decide) dX7_seenBy_29 h (fun h => ?_) (fun h => ?_)
      · refine z_iload_n C 2 rfl dX7_seenBy_94 ?_
        have h := unwi h hk1
        cases h
        exact z_iret C hr hlk dX7_seenBy_95
      · refine z_iload_n C 2 rfl dX7_seenBy_32 ?_
        refine z_iload_n C 3 rfl dX7_seenBy_33 ?_
        refine z_aload_n C 0 rfl dX7_seenBy_34 ?_
        refine z_get C iRX7 0 gM_0 rfl 9 (by decide) fl_RX7_28 rfl dX7_seenBy_35 ?_
        refine z_iload_n C 1 rfl dX7_seenBy_38 ?_
        refine z_iald C 7 0 gM_7 rfl dX7_seenBy_39 h (fun y4 h => ?_)
        refine z_icmp_eq C 85 (by decide) dX7_seenBy_40 h (fun h => ?_) (fun h => ?_)
        · refine z_sub C [0, 1, 3] (lv' := [(0, .ref (a 0)), (1, .int p0), (3, .int t1.2)]) rfl ?_
          exact J85 _ _ h
        · refine z_aload_n C 0 rfl dX7_seenBy_43 ?_
          refine z_get C iRX7 0 gM_0 rfl 13 (by decide) fl_RX7_34 rfl dX7_seenBy_44 ?_
          refine z_iload_n C 3 rfl dX7_seenBy_47 ?_
          refine z_iald C 9 0 gM_9 rfl dX7_seenBy_48 h (fun y5 h => ?_)
          refine z_if_le C 85 (by decide) dX7_seenBy_49 h (fun h => ?_) (fun h => ?_)
          · refine z_sub C [0, 1, 3] (lv' := [(0, .ref (a 0)), (1, .int p0), (3, .int t1.2)]) rfl ?_
            exact J85 _ _ h
          · refine z_aload_n C 0 rfl dX7_seenBy_52 ?_
            refine z_get C iRX7 0 gM_0 rfl 12 (by decide) fl_RX7_31 rfl dX7_seenBy_53 ?_
            refine z_bipush C (v := 10) dX7_seenBy_56 (by decide) ?_
            refine z_iload_n C 3 rfl dX7_seenBy_58 ?_
            refine z_imul C dX7_seenBy_59 ?_
            refine z_aload_n C 0 rfl dX7_seenBy_60 ?_
            refine z_get C iRX7 0 gM_0 rfl 13 (by decide) fl_RX7_34 rfl dX7_seenBy_61 ?_
            refine z_iload_n C 3 rfl dX7_seenBy_64 ?_
            refine z_iald C 9 0 gM_9 rfl dX7_seenBy_65 h (fun y6 h => ?_)
            refine z_iadd C dX7_seenBy_66 ?_
            refine z_iconst C (v := 1) dX7_seenBy_67 (by decide) ?_
            refine z_isub C dX7_seenBy_68 ?_
            refine z_iald C 8 0 gM_8 rfl dX7_seenBy_69 h (fun y7 h => ?_)
            refine z_aload_n C 0 rfl dX7_seenBy_70 ?_
            refine z_get C iRX7 0 gM_0 rfl 9 (by decide) fl_RX7_28 rfl dX7_seenBy_71 ?_
            refine z_iload_n C 1 rfl dX7_seenBy_74 ?_
            refine z_iald C 7 0 gM_7 rfl dX7_seenBy_75 h (fun y8 h => ?_)
            refine z_icmp_ne C 85 (by decide) dX7_seenBy_76 h (fun h => ?_) (fun h => ?_)
            · refine z_sub C [0, 1, 3] (lv' := [(0, .ref (a 0)), (1, .int p0), (3, .int t1.2)]) rfl ?_
              exact J85 _ _ h
            · refine z_iconst C (v := 1) dX7_seenBy_79 (by decide) ?_
              refine z_iload_n C 3 rfl dX7_seenBy_80 ?_
              refine z_ishl C dX7_seenBy_81 ?_
              refine z_goto C 86 (by decide) dX7_seenBy_82 ?_
              refine z_ior C dX7_seenBy_86 ?_
              refine z_istore_n C [(2, .int (t1.1 ||| ((1 : Int32) <<< (t1.2 &&& 31)))), (0, .ref (a 0)), (1, .int p0), (3, .int t1.2)] rfl (by decide) rfl dX7_seenBy_87 ?_
              refine z_iinc C (v := t1.2 + 1) [(3, .int (t1.2 + 1)), (2, .int (t1.1 ||| ((1 : Int32) <<< (t1.2 &&& 31)))), (0, .ref (a 0)), (1, .int p0)] 3 rfl rfl (by decide) rfl dX7_seenBy_88 ?_
              refine z_goto C 24 (by decide) dX7_seenBy_91 ?_
              refine z_sub C [2, 3, 1, 0] (lv' := [(0, .ref (a 0)), (1, .int p0), (2, .int (t1.1 ||| ((1 : Int32) <<< (t1.2 &&& 31)))), (3, .int (t1.2 + 1))]) rfl ?_
              exact ih1 _ (uninl h hk1)
  exact L24 _ _ h
theorem dX7_saying_0 : decode cX7_saying 0 = .ok (.iload_n 1, 1) := by decide +kernel
theorem dX7_saying_1 : decode cX7_saying 1 = .ok (.iconst 0, 1) := by decide +kernel
theorem dX7_saying_2 : decode cX7_saying 2 = .ok (.aload_n 0, 1) := by decide +kernel
theorem dX7_saying_3 : decode cX7_saying 3 = .ok (.getfield 82, 3) := by decide +kernel
theorem dX7_saying_6 : decode cX7_saying 6 = .ok (.iconst 1, 1) := by decide +kernel
theorem dX7_saying_7 : decode cX7_saying 7 = .ok (.isub, 1) := by decide +kernel
theorem dX7_saying_8 : decode cX7_saying 8 = .ok (.invokestatic 53, 3) := by decide +kernel
theorem dX7_saying_11 : decode cX7_saying 11 = .ok (.ifCond .ne 6, 3) := by decide +kernel
theorem dX7_saying_14 : decode cX7_saying 14 = .ok (.bipush (-2), 2) := by decide +kernel
theorem dX7_saying_16 : decode cX7_saying 16 = .ok (.ireturn, 1) := by decide +kernel
theorem dX7_saying_17 : decode cX7_saying 17 = .ok (.iload_n 2, 1) := by decide +kernel
theorem dX7_saying_18 : decode cX7_saying 18 = .ok (.tableswitch 113 0 5 #[38, 45, 52, 59, 73, 107], 38) := by decide +kernel
theorem dX7_saying_56 : decode cX7_saying 56 = .ok (.aload_n 0, 1) := by decide +kernel
theorem dX7_saying_57 : decode cX7_saying 57 = .ok (.getfield 22, 3) := by decide +kernel
theorem dX7_saying_60 : decode cX7_saying 60 = .ok (.iload_n 1, 1) := by decide +kernel
theorem dX7_saying_61 : decode cX7_saying 61 = .ok (.iaload, 1) := by decide +kernel
theorem dX7_saying_62 : decode cX7_saying 62 = .ok (.ireturn, 1) := by decide +kernel
theorem dX7_saying_63 : decode cX7_saying 63 = .ok (.aload_n 0, 1) := by decide +kernel
theorem dX7_saying_64 : decode cX7_saying 64 = .ok (.getfield 25, 3) := by decide +kernel
theorem dX7_saying_67 : decode cX7_saying 67 = .ok (.iload_n 1, 1) := by decide +kernel
theorem dX7_saying_68 : decode cX7_saying 68 = .ok (.iaload, 1) := by decide +kernel
theorem dX7_saying_69 : decode cX7_saying 69 = .ok (.ireturn, 1) := by decide +kernel
theorem dX7_saying_70 : decode cX7_saying 70 = .ok (.aload_n 0, 1) := by decide +kernel
theorem dX7_saying_71 : decode cX7_saying 71 = .ok (.getfield 28, 3) := by decide +kernel
theorem dX7_saying_74 : decode cX7_saying 74 = .ok (.iload_n 1, 1) := by decide +kernel
theorem dX7_saying_75 : decode cX7_saying 75 = .ok (.iaload, 1) := by decide +kernel
theorem dX7_saying_76 : decode cX7_saying 76 = .ok (.ireturn, 1) := by decide +kernel
theorem dX7_saying_77 : decode cX7_saying 77 = .ok (.aload_n 0, 1) := by decide +kernel
theorem dX7_saying_78 : decode cX7_saying 78 = .ok (.iload_n 1, 1) := by decide +kernel
theorem dX7_saying_79 : decode cX7_saying 79 = .ok (.invokevirtual 145, 3) := by decide +kernel
theorem dX7_saying_82 : decode cX7_saying 82 = .ok (.ifCond .eq 7, 3) := by decide +kernel
theorem dX7_saying_85 : decode cX7_saying 85 = .ok (.iconst 1, 1) := by decide +kernel
theorem dX7_saying_86 : decode cX7_saying 86 = .ok (.goto 4, 3) := by decide +kernel
theorem dX7_saying_89 : decode cX7_saying 89 = .ok (.iconst 0, 1) := by decide +kernel
theorem dX7_saying_90 : decode cX7_saying 90 = .ok (.ireturn, 1) := by decide +kernel
theorem dX7_saying_91 : decode cX7_saying 91 = .ok (.aload_n 0, 1) := by decide +kernel
theorem dX7_saying_92 : decode cX7_saying 92 = .ok (.iload_n 1, 1) := by decide +kernel
theorem dX7_saying_93 : decode cX7_saying 93 = .ok (.invokevirtual 145, 3) := by decide +kernel
theorem dX7_saying_96 : decode cX7_saying 96 = .ok (.ifCond .eq 27, 3) := by decide +kernel
theorem dX7_saying_99 : decode cX7_saying 99 = .ok (.aload_n 0, 1) := by decide +kernel
theorem dX7_saying_100 : decode cX7_saying 100 = .ok (.aload_n 0, 1) := by decide +kernel
theorem dX7_saying_101 : decode cX7_saying 101 = .ok (.getfield 22, 3) := by decide +kernel
theorem dX7_saying_104 : decode cX7_saying 104 = .ok (.iload_n 1, 1) := by decide +kernel
theorem dX7_saying_105 : decode cX7_saying 105 = .ok (.iaload, 1) := by decide +kernel
theorem dX7_saying_106 : decode cX7_saying 106 = .ok (.aload_n 0, 1) := by decide +kernel
theorem dX7_saying_107 : decode cX7_saying 107 = .ok (.getfield 25, 3) := by decide +kernel
theorem dX7_saying_110 : decode cX7_saying 110 = .ok (.iload_n 1, 1) := by decide +kernel
theorem dX7_saying_111 : decode cX7_saying 111 = .ok (.iaload, 1) := by decide +kernel
theorem dX7_saying_112 : decode cX7_saying 112 = .ok (.invokevirtual 75, 3) := by decide +kernel
theorem dX7_saying_115 : decode cX7_saying 115 = .ok (.iconst (-1), 1) := by decide +kernel
theorem dX7_saying_116 : decode cX7_saying 116 = .ok (.if_icmp .ne 7, 3) := by decide +kernel
theorem dX7_saying_119 : decode cX7_saying 119 = .ok (.iconst 1, 1) := by decide +kernel
theorem dX7_saying_120 : decode cX7_saying 120 = .ok (.goto 4, 3) := by decide +kernel
theorem dX7_saying_123 : decode cX7_saying 123 = .ok (.iconst 0, 1) := by decide +kernel
theorem dX7_saying_124 : decode cX7_saying 124 = .ok (.ireturn, 1) := by decide +kernel
theorem dX7_saying_125 : decode cX7_saying 125 = .ok (.aload_n 0, 1) := by decide +kernel
theorem dX7_saying_126 : decode cX7_saying 126 = .ok (.iload_n 1, 1) := by decide +kernel
theorem dX7_saying_127 : decode cX7_saying 127 = .ok (.invokevirtual 148, 3) := by decide +kernel
theorem dX7_saying_130 : decode cX7_saying 130 = .ok (.ireturn, 1) := by decide +kernel
theorem dX7_saying_131 : decode cX7_saying 131 = .ok (.bipush (-2), 2) := by decide +kernel
theorem dX7_saying_133 : decode cX7_saying 133 = .ok (.ireturn, 1) := by decide +kernel
theorem hd_yX7_saying : (yX7_saying).cls ≠ "java/lang/invoke/MethodHandle" ∧ (yX7_saying).cls ≠ "java/lang/invoke/VarHandle" ∧ (parseMethodDescriptor (yX7_saying).desc).map (fun d => d.parameters.length) = some 2 := ⟨by decide, by decide, by decide +kernel⟩
def f_X7_saying (p0 : Int32) (p1 : Int32) (σ : ZS) : Option (Int32 × ZS) :=
  Option.bind (f_X7_in p0 0 ((σ.1 2) - 1)) (fun q1 => (if q1 = 0 then some ((-2), σ) else (if p1 = 0 then ld (σ.2.1 5) 18 p0 (fun y10 => some (y10, σ)) else (if p1 = 1 then ld (σ.2.1 6) 18 p0 (fun y9 => some (y9, σ)) else (if p1 = 2 then ld (σ.2.1 7) 18 p0 (fun y8 => some (y8, σ)) else (if p1 = 3 then Option.bind (f_X7_isFalse p0 σ) (fun q7 => (if q7 = 0 then some (0, σ) else some (1, σ))) else (if p1 = 4 then Option.bind (f_X7_isFalse p0 σ) (fun q3 => (if q3 = 0 then some (0, σ) else ld (σ.2.1 5) 18 p0 (fun y4 => ld (σ.2.1 6) 18 p0 (fun y5 => Option.bind (f_X7_rightOf y4 y5 σ) (fun q6 => (if q6 = (-1) then some (1, σ) else some (0, σ))))))) else (if p1 = 5 then Option.bind (f_X7_seenBy p0 σ) (fun q2 => some (q2.1, q2.2)) else some ((-2), σ)))))))))
set_option maxHeartbeats 4000000 in
set_option maxRecDepth 100000 in
theorem c_X7_saying (l : Launch) (D : va_G) (A : Nat → Prop) (a : Nat → Nat) (x : ClassId × ClassId × ClassId) (σ : ZS) (p0 : Int32) (p1 : Int32) (r : (Int32 × ZS)) (h : f_X7_saying p0 p1 σ = some r) : zM l yX7_saying w_yX7_saying ({ frames := 7, cells := 0, slots := 0, locals := 178 } : Room) D A (tyz x) [.ref (a 0), .int p0, .int p1] (wM a x σ) (some (.int r.1)) (wM a x r.2) := by
  refine z_start [.ref (a 0), .int p0, .int p1] (lv := [(0, .ref (a 0)), (1, .int p0), (2, .int p1)]) (by decide) (Nat.le_of_ble_eq_true rfl) rfl ?_
  intro p e s m args below meth c C hr hlk
  unfold f_X7_saying at h
  refine z_iload_n C 1 rfl dX7_saying_0 ?_
  refine z_iconst C (v := 0) dX7_saying_1 (by decide) ?_
  refine z_aload_n C 0 rfl dX7_saying_2 ?_
  refine z_get C iRX7 0 gM_0 rfl 6 (by decide) fl_RX7_82 rfl dX7_saying_3 ?_
  refine z_iconst C (v := 1) dX7_saying_6 (by decide) ?_
  refine z_isub C dX7_saying_7 ?_
  obtain ⟨q1, hq1, h⟩ := bd_spec h
  refine z_callS1 C [.int p0, .int 0, .int ((σ.1 2) - 1)] [] (v := .int q1) rfl (c_X7_in l D A (tyz x) (wM a x σ) p0 0 ((σ.1 2) - 1) q1 hq1) cd_yX7_in in_RX7 ml_RX7_53 sm_yX7_in hd_yX7_in ⟨⟨Nat.le_of_ble_eq_true rfl, Nat.le_of_ble_eq_true rfl⟩, rfl, rfl⟩ rfl (Nat.le_of_ble_eq_true rfl) ⟨Nat.zero_le _, Nat.zero_le _⟩ dX7_saying_8 ?_
  refine z_if_ne C 17 (by decide) dX7_saying_11 h (fun h => ?_) (fun h => ?_)
  · refine z_iload_n C 2 rfl dX7_saying_17 ?_
    by_cases hs0 : p1 = 0
    · rw [if_pos hs0] at h
      refine z_swIn (α := Unit) C 56 0 dX7_saying_18 (by rw [hs0]; decide) (by decide) (by decide) rfl (by decide) ?_
      refine z_aload_n C 0 rfl dX7_saying_56 ?_
      refine z_get C iRX7 0 gM_0 rfl 7 (by decide) fl_RX7_22 rfl dX7_saying_57 ?_
      refine z_iload_n C 1 rfl dX7_saying_60 ?_
      refine z_iald C 5 0 gM_5 rfl dX7_saying_61 h (fun y2 h => ?_)
      cases h
      exact z_iret C hr hlk dX7_saying_62
    rw [if_neg hs0] at h
    by_cases hs1 : p1 = 1
    · rw [if_pos hs1] at h
      refine z_swIn (α := Unit) C 63 1 dX7_saying_18 (by rw [hs1]; decide) (by decide) (by decide) rfl (by decide) ?_
      refine z_aload_n C 0 rfl dX7_saying_63 ?_
      refine z_get C iRX7 0 gM_0 rfl 8 (by decide) fl_RX7_25 rfl dX7_saying_64 ?_
      refine z_iload_n C 1 rfl dX7_saying_67 ?_
      refine z_iald C 6 0 gM_6 rfl dX7_saying_68 h (fun y3 h => ?_)
      cases h
      exact z_iret C hr hlk dX7_saying_69
    rw [if_neg hs1] at h
    by_cases hs2 : p1 = 2
    · rw [if_pos hs2] at h
      refine z_swIn (α := Unit) C 70 2 dX7_saying_18 (by rw [hs2]; decide) (by decide) (by decide) rfl (by decide) ?_
      refine z_aload_n C 0 rfl dX7_saying_70 ?_
      refine z_get C iRX7 0 gM_0 rfl 9 (by decide) fl_RX7_28 rfl dX7_saying_71 ?_
      refine z_iload_n C 1 rfl dX7_saying_74 ?_
      refine z_iald C 7 0 gM_7 rfl dX7_saying_75 h (fun y4 h => ?_)
      cases h
      exact z_iret C hr hlk dX7_saying_76
    rw [if_neg hs2] at h
    by_cases hs3 : p1 = 3
    · rw [if_pos hs3] at h
      refine z_swIn (α := Unit) C 77 3 dX7_saying_18 (by rw [hs3]; decide) (by decide) (by decide) rfl (by decide) ?_
      refine z_aload_n C 0 rfl dX7_saying_77 ?_
      refine z_iload_n C 1 rfl dX7_saying_78 ?_
      obtain ⟨q5, hq5, h⟩ := bd_spec h
      refine z_callV1 C [.int p0] [] (v := (.int q5)) rfl (c_X7_isFalse l D A a x σ p0 q5 hq5) cd_yX7_isFalse in_RX7 ml_RX7_145 im_yX7_isFalse sl_yX7_isFalse gM_0 rfl hd_yX7_isFalse ⟨⟨Nat.le_of_ble_eq_true rfl, Nat.le_of_ble_eq_true rfl⟩, rfl, rfl⟩ rfl (Nat.le_of_ble_eq_true rfl) ⟨Nat.zero_le _, Nat.zero_le _⟩ dX7_saying_79 ?_
      refine z_if_eq C 89 (by decide) dX7_saying_82 h (fun h => ?_) (fun h => ?_)
      · refine z_iconst C (v := 0) dX7_saying_89 (by decide) ?_
        cases h
        exact z_iret C hr hlk dX7_saying_90
      · refine z_iconst C (v := 1) dX7_saying_85 (by decide) ?_
        refine z_goto C 90 (by decide) dX7_saying_86 ?_
        cases h
        exact z_iret C hr hlk dX7_saying_90
    rw [if_neg hs3] at h
    by_cases hs4 : p1 = 4
    · rw [if_pos hs4] at h
      refine z_swIn (α := Unit) C 91 4 dX7_saying_18 (by rw [hs4]; decide) (by decide) (by decide) rfl (by decide) ?_
      refine z_aload_n C 0 rfl dX7_saying_91 ?_
      refine z_iload_n C 1 rfl dX7_saying_92 ?_
      obtain ⟨q6, hq6, h⟩ := bd_spec h
      refine z_callV1 C [.int p0] [] (v := (.int q6)) rfl (c_X7_isFalse l D A a x σ p0 q6 hq6) cd_yX7_isFalse in_RX7 ml_RX7_145 im_yX7_isFalse sl_yX7_isFalse gM_0 rfl hd_yX7_isFalse ⟨⟨Nat.le_of_ble_eq_true rfl, Nat.le_of_ble_eq_true rfl⟩, rfl, rfl⟩ rfl (Nat.le_of_ble_eq_true rfl) ⟨Nat.zero_le _, Nat.zero_le _⟩ dX7_saying_93 ?_
      refine z_if_eq C 123 (by decide) dX7_saying_96 h (fun h => ?_) (fun h => ?_)
      · refine z_iconst C (v := 0) dX7_saying_123 (by decide) ?_
        cases h
        exact z_iret C hr hlk dX7_saying_124
      · refine z_aload_n C 0 rfl dX7_saying_99 ?_
        refine z_aload_n C 0 rfl dX7_saying_100 ?_
        refine z_get C iRX7 0 gM_0 rfl 7 (by decide) fl_RX7_22 rfl dX7_saying_101 ?_
        refine z_iload_n C 1 rfl dX7_saying_104 ?_
        refine z_iald C 5 0 gM_5 rfl dX7_saying_105 h (fun y7 h => ?_)
        refine z_aload_n C 0 rfl dX7_saying_106 ?_
        refine z_get C iRX7 0 gM_0 rfl 8 (by decide) fl_RX7_25 rfl dX7_saying_107 ?_
        refine z_iload_n C 1 rfl dX7_saying_110 ?_
        refine z_iald C 6 0 gM_6 rfl dX7_saying_111 h (fun y8 h => ?_)
        obtain ⟨q9, hq9, h⟩ := bd_spec h
        refine z_callV1 C [.int y7, .int y8] [] (v := (.int q9)) rfl (c_X7_rightOf l D A a x σ y7 y8 q9 hq9) cd_yX7_rightOf in_RX7 ml_RX7_75 im_yX7_rightOf sl_yX7_rightOf gM_0 rfl hd_yX7_rightOf ⟨⟨Nat.le_of_ble_eq_true rfl, Nat.le_of_ble_eq_true rfl⟩, rfl, rfl⟩ rfl (Nat.le_of_ble_eq_true rfl) ⟨Nat.zero_le _, Nat.zero_le _⟩ dX7_saying_112 ?_
        refine z_iconst C (v := (-1)) dX7_saying_115 (by decide) ?_
        refine z_icmp_ne C 123 (by decide) dX7_saying_116 h (fun h => ?_) (fun h => ?_)
        · refine z_iconst C (v := 0) dX7_saying_123 (by decide) ?_
          cases h
          exact z_iret C hr hlk dX7_saying_124
        · refine z_iconst C (v := 1) dX7_saying_119 (by decide) ?_
          refine z_goto C 124 (by decide) dX7_saying_120 ?_
          cases h
          exact z_iret C hr hlk dX7_saying_124
    rw [if_neg hs4] at h
    by_cases hs5 : p1 = 5
    · rw [if_pos hs5] at h
      refine z_swIn (α := Unit) C 125 5 dX7_saying_18 (by rw [hs5]; decide) (by decide) (by decide) rfl (by decide) ?_
      refine z_aload_n C 0 rfl dX7_saying_125 ?_
      refine z_iload_n C 1 rfl dX7_saying_126 ?_
      obtain ⟨q10, hq10, h⟩ := bd_spec h
      refine z_callV1 C [.int p0] [] (v := (.int q10.1)) rfl (c_X7_seenBy l D A a x σ p0 q10 hq10) cd_yX7_seenBy in_RX7 ml_RX7_148 im_yX7_seenBy sl_yX7_seenBy gM_0 rfl hd_yX7_seenBy ⟨⟨Nat.le_of_ble_eq_true rfl, Nat.le_of_ble_eq_true rfl⟩, rfl, rfl⟩ rfl (Nat.le_of_ble_eq_true rfl) ⟨Nat.zero_le _, Nat.zero_le _⟩ dX7_saying_127 ?_
      cases h
      exact z_iret C hr hlk dX7_saying_130
    rw [if_neg hs5] at h
    refine z_swOut C 131 dX7_saying_18 (zx_out6 hs0 hs1 hs2 hs3 hs4 hs5) (by decide) ?_
    refine z_bipush C (v := (-2)) dX7_saying_131 (by decide) ?_
    cases h
    exact z_iret C hr hlk dX7_saying_133
  · refine z_bipush C (v := (-2)) dX7_saying_14 (by decide) ?_
    cases h
    exact z_iret C hr hlk dX7_saying_16
theorem dX7_ones_0 : decode cX7_ones 0 = .ok (.iconst 0, 1) := by decide +kernel
theorem dX7_ones_1 : decode cX7_ones 1 = .ok (.istore_n 1, 1) := by decide +kernel
theorem dX7_ones_2 : decode cX7_ones 2 = .ok (.iconst 0, 1) := by decide +kernel
theorem dX7_ones_3 : decode cX7_ones 3 = .ok (.istore_n 2, 1) := by decide +kernel
theorem dX7_ones_4 : decode cX7_ones 4 = .ok (.iload_n 2, 1) := by decide +kernel
theorem dX7_ones_5 : decode cX7_ones 5 = .ok (.bipush 10, 2) := by decide +kernel
theorem dX7_ones_7 : decode cX7_ones 7 = .ok (.if_icmp .ge 17, 3) := by decide +kernel
theorem dX7_ones_10 : decode cX7_ones 10 = .ok (.iload_n 1, 1) := by decide +kernel
theorem dX7_ones_11 : decode cX7_ones 11 = .ok (.iload_n 0, 1) := by decide +kernel
theorem dX7_ones_12 : decode cX7_ones 12 = .ok (.iload_n 2, 1) := by decide +kernel
theorem dX7_ones_13 : decode cX7_ones 13 = .ok (.ishr, 1) := by decide +kernel
theorem dX7_ones_14 : decode cX7_ones 14 = .ok (.iconst 1, 1) := by decide +kernel
theorem dX7_ones_15 : decode cX7_ones 15 = .ok (.iand, 1) := by decide +kernel
theorem dX7_ones_16 : decode cX7_ones 16 = .ok (.iadd, 1) := by decide +kernel
theorem dX7_ones_17 : decode cX7_ones 17 = .ok (.istore_n 1, 1) := by decide +kernel
theorem dX7_ones_18 : decode cX7_ones 18 = .ok (.iinc 2 1, 3) := by decide +kernel
theorem dX7_ones_21 : decode cX7_ones 21 = .ok (.goto (-17), 3) := by decide +kernel
theorem dX7_ones_24 : decode cX7_ones 24 = .ok (.iload_n 1, 1) := by decide +kernel
theorem dX7_ones_25 : decode cX7_ones 25 = .ok (.ireturn, 1) := by decide +kernel
theorem hd_yX7_ones : (yX7_ones).cls ≠ "java/lang/invoke/MethodHandle" ∧ (yX7_ones).cls ≠ "java/lang/invoke/VarHandle" ∧ (parseMethodDescriptor (yX7_ones).desc).map (fun d => d.parameters.length) = some 1 := ⟨by decide, by decide, by decide +kernel⟩
def f_X7_ones_B4 (l0 : Int32) (t1 : (Int32 × Int32)) : Option ((Int32 × Int32) ⊕ Int32) :=
  (if 10 ≤ t1.2 then wi (some t1.1) else some (.inl (t1.1 + ((l0 >>> (t1.2 &&& 31)) &&& 1), t1.2 + 1)))
def f_X7_ones (p0 : Int32) : Option Int32 :=
  lp zF (f_X7_ones_B4 p0) (0, 0)
set_option maxHeartbeats 4000000 in
set_option maxRecDepth 100000 in
theorem c_X7_ones (l : Launch) (D : va_G) (A : Nat → Prop) (tys : List (ClassId × FieldType)) (ws : va_W) (p0 : Int32) (r : Int32) (h : f_X7_ones p0 = some r) : zM l yX7_ones w_yX7_ones ({ frames := 0, cells := 0, slots := 0, locals := 0 } : Room) D A tys [.int p0] ws (some (.int r)) ws := by
  refine z_start [.int p0] (lv := [(0, .int p0)]) (by decide) (Nat.le_of_ble_eq_true rfl) rfl ?_
  intro p e s m args below meth c C hr hlk
  unfold f_X7_ones at h
  refine z_iconst C (v := 0) dX7_ones_0 (by decide) ?_
  refine z_istore_n C [(1, .int 0), (0, .int p0)] rfl (by decide) rfl dX7_ones_1 ?_
  refine z_iconst C (v := 0) dX7_ones_2 (by decide) ?_
  refine z_istore_n C [(2, .int 0), (1, .int 0), (0, .int p0)] rfl (by decide) rfl dX7_ones_3 ?_
  refine z_sub C [2, 1, 0] (lv' := [(0, .int p0), (1, .int 0), (2, .int 0)]) rfl ?_
  have L4 : ∀ (n : Nat) (t1 : (Int32 × Int32)), lp n (f_X7_ones_B4 p0) t1 = some r → zV p l e ({ frames := 0, cells := 0, slots := 0, locals := 0 } : Room) s m args below meth c 0 0 (MQ below (zQ D A (some (.int r)) ws) args s 0 0 A) D A 3 ws 4 [(0, .int p0), (1, .int t1.1), (2, .int t1.2)] [] := by
    intro n1
    induction n1 with
    | zero => exact fun _ h => (lp_zero h).elim
    | succ n1 ih1 =>
      intro t1 h
      obtain ⟨u1, h, hk1⟩ := lp_succ h
      unfold f_X7_ones_B4 at h
      refine z_iload_n C 2 rfl dX7_ones_4 ?_
      refine z_bipush C (v := 10) dX7_ones_5 (by decide) ?_
      refine z_icmp_ge C 24 (by decide) dX7_ones_7 h (fun h => ?_) (fun h => ?_)
      · refine z_iload_n C 1 rfl dX7_ones_24 ?_
        have h := unwi h hk1
        cases h
        exact z_iret C hr hlk dX7_ones_25
      · refine z_iload_n C 1 rfl dX7_ones_10 ?_
        refine z_iload_n C 0 rfl dX7_ones_11 ?_
        refine z_iload_n C 2 rfl dX7_ones_12 ?_
        refine z_ishr C dX7_ones_13 ?_
        refine z_iconst C (v := 1) dX7_ones_14 (by decide) ?_
        refine z_iand C dX7_ones_15 ?_
        refine z_iadd C dX7_ones_16 ?_
        refine z_istore_n C [(1, .int (t1.1 + ((p0 >>> (t1.2 &&& 31)) &&& 1))), (0, .int p0), (2, .int t1.2)] rfl (by decide) rfl dX7_ones_17 ?_
        refine z_iinc C (v := t1.2 + 1) [(2, .int (t1.2 + 1)), (1, .int (t1.1 + ((p0 >>> (t1.2 &&& 31)) &&& 1))), (0, .int p0)] 2 rfl rfl (by decide) rfl dX7_ones_18 ?_
        refine z_goto C 4 (by decide) dX7_ones_21 ?_
        refine z_sub C [2, 1, 0] (lv' := [(0, .int p0), (1, .int (t1.1 + ((p0 >>> (t1.2 &&& 31)) &&& 1))), (2, .int (t1.2 + 1))]) rfl ?_
        exact ih1 _ (uninl h hk1)
  exact L4 _ _ h
theorem dX7_watchers_0 : decode cX7_watchers 0 = .ok (.iconst 0, 1) := by decide +kernel
theorem dX7_watchers_1 : decode cX7_watchers 1 = .ok (.istore_n 1, 1) := by decide +kernel
theorem dX7_watchers_2 : decode cX7_watchers 2 = .ok (.iload_n 1, 1) := by decide +kernel
theorem dX7_watchers_3 : decode cX7_watchers 3 = .ok (.aload_n 0, 1) := by decide +kernel
theorem dX7_watchers_4 : decode cX7_watchers 4 = .ok (.getfield 82, 3) := by decide +kernel
theorem dX7_watchers_7 : decode cX7_watchers 7 = .ok (.if_icmp .ge 32, 3) := by decide +kernel
theorem dX7_watchers_10 : decode cX7_watchers 10 = .ok (.aload_n 0, 1) := by decide +kernel
theorem dX7_watchers_11 : decode cX7_watchers 11 = .ok (.getfield 46, 3) := by decide +kernel
theorem dX7_watchers_14 : decode cX7_watchers 14 = .ok (.iload_n 1, 1) := by decide +kernel
theorem dX7_watchers_15 : decode cX7_watchers 15 = .ok (.aload_n 0, 1) := by decide +kernel
theorem dX7_watchers_16 : decode cX7_watchers 16 = .ok (.iload_n 1, 1) := by decide +kernel
theorem dX7_watchers_17 : decode cX7_watchers 17 = .ok (.invokevirtual 145, 3) := by decide +kernel
theorem dX7_watchers_20 : decode cX7_watchers 20 = .ok (.ifCond .eq 11, 3) := by decide +kernel
theorem dX7_watchers_23 : decode cX7_watchers 23 = .ok (.aload_n 0, 1) := by decide +kernel
theorem dX7_watchers_24 : decode cX7_watchers 24 = .ok (.iload_n 1, 1) := by decide +kernel
theorem dX7_watchers_25 : decode cX7_watchers 25 = .ok (.invokevirtual 148, 3) := by decide +kernel
theorem dX7_watchers_28 : decode cX7_watchers 28 = .ok (.goto 4, 3) := by decide +kernel
theorem dX7_watchers_31 : decode cX7_watchers 31 = .ok (.iconst 0, 1) := by decide +kernel
theorem dX7_watchers_32 : decode cX7_watchers 32 = .ok (.iastore, 1) := by decide +kernel
theorem dX7_watchers_33 : decode cX7_watchers 33 = .ok (.iinc 1 1, 3) := by decide +kernel
theorem dX7_watchers_36 : decode cX7_watchers 36 = .ok (.goto (-34), 3) := by decide +kernel
theorem dX7_watchers_39 : decode cX7_watchers 39 = .ok (.iconst 1, 1) := by decide +kernel
theorem dX7_watchers_40 : decode cX7_watchers 40 = .ok (.aload_n 0, 1) := by decide +kernel
theorem dX7_watchers_41 : decode cX7_watchers 41 = .ok (.getfield 49, 3) := by decide +kernel
theorem dX7_watchers_44 : decode cX7_watchers 44 = .ok (.ishl, 1) := by decide +kernel
theorem dX7_watchers_45 : decode cX7_watchers 45 = .ok (.iconst 1, 1) := by decide +kernel
theorem dX7_watchers_46 : decode cX7_watchers 46 = .ok (.isub, 1) := by decide +kernel
theorem dX7_watchers_47 : decode cX7_watchers 47 = .ok (.istore_n 1, 1) := by decide +kernel
theorem dX7_watchers_48 : decode cX7_watchers 48 = .ok (.iload_n 1, 1) := by decide +kernel
theorem dX7_watchers_49 : decode cX7_watchers 49 = .ok (.istore_n 2, 1) := by decide +kernel
theorem dX7_watchers_50 : decode cX7_watchers 50 = .ok (.iload_n 2, 1) := by decide +kernel
theorem dX7_watchers_51 : decode cX7_watchers 51 = .ok (.ifCond .lt 86, 3) := by decide +kernel
theorem dX7_watchers_54 : decode cX7_watchers 54 = .ok (.iload_n 2, 1) := by decide +kernel
theorem dX7_watchers_55 : decode cX7_watchers 55 = .ok (.invokestatic 151, 3) := by decide +kernel
theorem dX7_watchers_58 : decode cX7_watchers 58 = .ok (.iload_n 1, 1) := by decide +kernel
theorem dX7_watchers_59 : decode cX7_watchers 59 = .ok (.invokestatic 151, 3) := by decide +kernel
theorem dX7_watchers_62 : decode cX7_watchers 62 = .ok (.if_icmp .gt 7, 3) := by decide +kernel
theorem dX7_watchers_65 : decode cX7_watchers 65 = .ok (.iconst 1, 1) := by decide +kernel
theorem dX7_watchers_66 : decode cX7_watchers 66 = .ok (.goto 4, 3) := by decide +kernel
theorem dX7_watchers_69 : decode cX7_watchers 69 = .ok (.iconst 0, 1) := by decide +kernel
theorem dX7_watchers_70 : decode cX7_watchers 70 = .ok (.istore_n 3, 1) := by decide +kernel
theorem dX7_watchers_71 : decode cX7_watchers 71 = .ok (.iconst 0, 1) := by decide +kernel
theorem dX7_watchers_72 : decode cX7_watchers 72 = .ok (.istore 4, 2) := by decide +kernel
theorem dX7_watchers_74 : decode cX7_watchers 74 = .ok (.iload 4, 2) := by decide +kernel
theorem dX7_watchers_76 : decode cX7_watchers 76 = .ok (.aload_n 0, 1) := by decide +kernel
theorem dX7_watchers_77 : decode cX7_watchers 77 = .ok (.getfield 82, 3) := by decide +kernel
theorem dX7_watchers_80 : decode cX7_watchers 80 = .ok (.if_icmp .ge 41, 3) := by decide +kernel
theorem dX7_watchers_83 : decode cX7_watchers 83 = .ok (.iload_n 3, 1) := by decide +kernel
theorem dX7_watchers_84 : decode cX7_watchers 84 = .ok (.ifCond .eq 37, 3) := by decide +kernel
theorem dX7_watchers_87 : decode cX7_watchers 87 = .ok (.aload_n 0, 1) := by decide +kernel
theorem dX7_watchers_88 : decode cX7_watchers 88 = .ok (.getfield 46, 3) := by decide +kernel
theorem dX7_watchers_91 : decode cX7_watchers 91 = .ok (.iload 4, 2) := by decide +kernel
theorem dX7_watchers_93 : decode cX7_watchers 93 = .ok (.iaload, 1) := by decide +kernel
theorem dX7_watchers_94 : decode cX7_watchers 94 = .ok (.ifCond .eq 15, 3) := by decide +kernel
theorem dX7_watchers_97 : decode cX7_watchers 97 = .ok (.aload_n 0, 1) := by decide +kernel
theorem dX7_watchers_98 : decode cX7_watchers 98 = .ok (.getfield 46, 3) := by decide +kernel
theorem dX7_watchers_101 : decode cX7_watchers 101 = .ok (.iload 4, 2) := by decide +kernel
theorem dX7_watchers_103 : decode cX7_watchers 103 = .ok (.iaload, 1) := by decide +kernel
theorem dX7_watchers_104 : decode cX7_watchers 104 = .ok (.iload_n 2, 1) := by decide +kernel
theorem dX7_watchers_105 : decode cX7_watchers 105 = .ok (.iand, 1) := by decide +kernel
theorem dX7_watchers_106 : decode cX7_watchers 106 = .ok (.ifCond .eq 7, 3) := by decide +kernel
theorem dX7_watchers_109 : decode cX7_watchers 109 = .ok (.iconst 1, 1) := by decide +kernel
theorem dX7_watchers_110 : decode cX7_watchers 110 = .ok (.goto 4, 3) := by decide +kernel
theorem dX7_watchers_113 : decode cX7_watchers 113 = .ok (.iconst 0, 1) := by decide +kernel
theorem dX7_watchers_114 : decode cX7_watchers 114 = .ok (.istore_n 3, 1) := by decide +kernel
theorem dX7_watchers_115 : decode cX7_watchers 115 = .ok (.iinc 4 1, 3) := by decide +kernel
theorem dX7_watchers_118 : decode cX7_watchers 118 = .ok (.goto (-44), 3) := by decide +kernel
theorem dX7_watchers_121 : decode cX7_watchers 121 = .ok (.iload_n 3, 1) := by decide +kernel
theorem dX7_watchers_122 : decode cX7_watchers 122 = .ok (.ifCond .eq 7, 3) := by decide +kernel
theorem dX7_watchers_125 : decode cX7_watchers 125 = .ok (.iload_n 2, 1) := by decide +kernel
theorem dX7_watchers_126 : decode cX7_watchers 126 = .ok (.goto 4, 3) := by decide +kernel
theorem dX7_watchers_129 : decode cX7_watchers 129 = .ok (.iload_n 1, 1) := by decide +kernel
theorem dX7_watchers_130 : decode cX7_watchers 130 = .ok (.istore_n 1, 1) := by decide +kernel
theorem dX7_watchers_131 : decode cX7_watchers 131 = .ok (.iinc 2 (-1), 3) := by decide +kernel
theorem dX7_watchers_134 : decode cX7_watchers 134 = .ok (.goto (-84), 3) := by decide +kernel
theorem dX7_watchers_137 : decode cX7_watchers 137 = .ok (.iload_n 1, 1) := by decide +kernel
theorem dX7_watchers_138 : decode cX7_watchers 138 = .ok (.ireturn, 1) := by decide +kernel
theorem hd_yX7_watchers : (yX7_watchers).cls ≠ "java/lang/invoke/MethodHandle" ∧ (yX7_watchers).cls ≠ "java/lang/invoke/VarHandle" ∧ (parseMethodDescriptor (yX7_watchers).desc).map (fun d => d.parameters.length) = some 0 := ⟨by decide, by decide, by decide +kernel⟩
def f_X7_watchers_J109 (l1 : Int32) (l2 : Int32) (l4 : Int32) (σ : ZS) : Option ((Int32 × Int32) ⊕ ((Int32 × Int32) ⊕ (Int32 × ZS))) :=
  some (.inl (1, l4 + 1))
def f_X7_watchers_J121 (l1 : Int32) (l2 : Int32) (l3 : Int32) (σ : ZS) : Option ((Int32 × Int32) ⊕ (Int32 × ZS)) :=
  (if l3 = 0 then some (.inl (l1, l2 + (-1))) else some (.inl (l2, l2 + (-1))))
def f_X7_watchers_B74 (l1 : Int32) (l2 : Int32) (σ : ZS) (t2 : (Int32 × Int32)) : Option ((Int32 × Int32) ⊕ ((Int32 × Int32) ⊕ (Int32 × ZS))) :=
  (if (σ.1 2) ≤ t2.2 then wi (f_X7_watchers_J121 l1 l2 t2.1 σ) else (if t2.1 = 0 then wi (f_X7_watchers_J121 l1 l2 t2.1 σ) else ld (σ.2.1 13) 16 t2.2 (fun y5 => (if y5 = 0 then f_X7_watchers_J109 l1 l2 t2.2 σ else ld (σ.2.1 13) 16 t2.2 (fun y6 => (if (y6 &&& l2) = 0 then some (.inl (0, t2.2 + 1)) else f_X7_watchers_J109 l1 l2 t2.2 σ))))))
def f_X7_watchers_J70 (l1 : Int32) (l2 : Int32) (s0 : Int32) (σ : ZS) : Option ((Int32 × Int32) ⊕ (Int32 × ZS)) :=
  lp zF (f_X7_watchers_B74 l1 l2 σ) (s0, 0)
def f_X7_watchers_B50 (σ : ZS) (t1 : (Int32 × Int32)) : Option ((Int32 × Int32) ⊕ (Int32 × ZS)) :=
  (if t1.2 < 0 then wi (some (t1.1, σ)) else Option.bind (f_X7_ones t1.2) (fun q3 => Option.bind (f_X7_ones t1.1) (fun q4 => (if q4 < q3 then f_X7_watchers_J70 t1.1 t1.2 0 σ else f_X7_watchers_J70 t1.1 t1.2 1 σ))))
def f_X7_watchers_J39 (σ : ZS) : Option (Int32 × ZS) :=
  lp zF (f_X7_watchers_B50 σ) (((1 : Int32) <<< ((σ.1 0) &&& 31)) - 1, ((1 : Int32) <<< ((σ.1 0) &&& 31)) - 1)
def f_X7_watchers_B2  (t1 : (Int32 × ZS)) : Option ((Int32 × ZS) ⊕ (Int32 × ZS)) :=
  (if (t1.2.1 2) ≤ t1.1 then wi (f_X7_watchers_J39 t1.2) else Option.bind (f_X7_isFalse t1.1 t1.2) (fun q1 => (if q1 = 0 then ck (inb t1.1 16) (some (.inl (t1.1 + 1, setA t1.2 13 (Int32.toNatClampNeg t1.1) 0))) else Option.bind (f_X7_seenBy t1.1 t1.2) (fun q2 => ck (inb t1.1 16) (some (.inl (t1.1 + 1, setA q2.2 13 (Int32.toNatClampNeg t1.1) q2.1)))))))
def f_X7_watchers  (σ : ZS) : Option (Int32 × ZS) :=
  lp zF (f_X7_watchers_B2) (0, σ)
set_option maxHeartbeats 4000000 in
set_option maxRecDepth 100000 in
theorem c_X7_watchers (l : Launch) (D : va_G) (A : Nat → Prop) (a : Nat → Nat) (x : ClassId × ClassId × ClassId) (σ : ZS)  (r : (Int32 × ZS)) (h : f_X7_watchers  σ = some r) : zM l yX7_watchers w_yX7_watchers ({ frames := 7, cells := 0, slots := 0, locals := 178 } : Room) D A (tyz x) [.ref (a 0)] (wM a x σ) (some (.int r.1)) (wM a x r.2) := by
  refine z_start [.ref (a 0)] (lv := [(0, .ref (a 0))]) (by decide) (Nat.le_of_ble_eq_true rfl) rfl ?_
  intro p e s m args below meth c C hr hlk
  have J39 : ∀ (σ_39 : ZS), f_X7_watchers_J39 σ_39 = some r → zV p l e ({ frames := 7, cells := 0, slots := 0, locals := 178 } : Room) s m args below meth c 0 0 (MQ below (zQ D A (some (.int r.1)) (wM a x r.2)) args s 0 0 A) D A 5 (wM a x σ_39) 39 [(0, .ref (a 0))] [] := by
    intro σ_39 h
    unfold f_X7_watchers_J39 at h
    refine z_iconst C (v := 1) dX7_watchers_39 (by decide) ?_
    refine z_aload_n C 0 rfl dX7_watchers_40 ?_
    refine z_get C iRX7 0 gM_0 rfl 0 (by decide) fl_RX7_49 rfl dX7_watchers_41 ?_
    refine z_ishl C dX7_watchers_44 ?_
    refine z_iconst C (v := 1) dX7_watchers_45 (by decide) ?_
    refine z_isub C dX7_watchers_46 ?_
    refine z_istore_n C [(1, .int (((1 : Int32) <<< ((σ_39.1 0) &&& 31)) - 1)), (0, .ref (a 0))] rfl (by decide) rfl dX7_watchers_47 ?_
    refine z_iload_n C 0 rfl dX7_watchers_48 ?_
    refine z_istore_n C [(2, .int (((1 : Int32) <<< ((σ_39.1 0) &&& 31)) - 1)), (1, .int (((1 : Int32) <<< ((σ_39.1 0) &&& 31)) - 1)), (0, .ref (a 0))] rfl (by decide) rfl dX7_watchers_49 ?_
    refine z_sub C [2, 1, 0] (lv' := [(0, .ref (a 0)), (1, .int (((1 : Int32) <<< ((σ_39.1 0) &&& 31)) - 1)), (2, .int (((1 : Int32) <<< ((σ_39.1 0) &&& 31)) - 1))]) rfl ?_
    have L50 : ∀ (n : Nat) (t1 : (Int32 × Int32)), lp n (f_X7_watchers_B50 σ_39) t1 = some r → zV p l e ({ frames := 7, cells := 0, slots := 0, locals := 178 } : Room) s m args below meth c 0 0 (MQ below (zQ D A (some (.int r.1)) (wM a x r.2)) args s 0 0 A) D A 5 (wM a x σ_39) 50 [(0, .ref (a 0)), (1, .int t1.1), (2, .int t1.2)] [] := by
      intro n1
      induction n1 with
      | zero => exact fun _ h => (lp_zero h).elim
      | succ n1 ih1 =>
        intro t1 h
        obtain ⟨u1, h, hk1⟩ := lp_succ h
        have J121 : ∀ (l1_121 : Int32) (l2_121 : Int32) (l3_121 : Int32), f_X7_watchers_J121 l1_121 l2_121 l3_121 σ_39 = some u1 → zV p l e ({ frames := 7, cells := 0, slots := 0, locals := 178 } : Room) s m args below meth c 0 0 (MQ below (zQ D A (some (.int r.1)) (wM a x r.2)) args s 0 0 A) D A 5 (wM a x σ_39) 121 [(0, .ref (a 0)), (1, .int l1_121), (2, .int l2_121), (3, .int l3_121)] [] := by
          intro l1_121 l2_121 l3_121 h
          unfold f_X7_watchers_J121 at h
          refine z_iload_n C 3 rfl dX7_watchers_121 ?_
          refine z_if_eq C 129 (by decide) dX7_watchers_122 h (fun h => ?_) (fun h => ?_)
          · refine z_iload_n C 1 rfl dX7_watchers_129 ?_
            refine z_istore_n C [(1, .int l1_121), (0, .ref (a 0)), (2, .int l2_121), (3, .int l3_121)] rfl (by decide) rfl dX7_watchers_130 ?_
            refine z_iinc C (v := l2_121 + (-1)) [(2, .int (l2_121 + (-1))), (1, .int l1_121), (0, .ref (a 0)), (3, .int l3_121)] 2 rfl (congrArg (HAdd.hAdd l2_121) (by decide)) (by decide) rfl dX7_watchers_131 ?_
            refine z_goto C 50 (by decide) dX7_watchers_134 ?_
            refine z_sub C [2, 1, 0] (lv' := [(0, .ref (a 0)), (1, .int l1_121), (2, .int (l2_121 + (-1)))]) rfl ?_
            exact ih1 _ (uninl h hk1)
          · refine z_iload_n C 2 rfl dX7_watchers_125 ?_
            refine z_goto C 130 (by decide) dX7_watchers_126 ?_
            refine z_istore_n C [(1, .int l2_121), (0, .ref (a 0)), (2, .int l2_121), (3, .int l3_121)] rfl (by decide) rfl dX7_watchers_130 ?_
            refine z_iinc C (v := l2_121 + (-1)) [(2, .int (l2_121 + (-1))), (1, .int l2_121), (0, .ref (a 0)), (3, .int l3_121)] 2 rfl (congrArg (HAdd.hAdd l2_121) (by decide)) (by decide) rfl dX7_watchers_131 ?_
            refine z_goto C 50 (by decide) dX7_watchers_134 ?_
            refine z_sub C [2, 1, 0] (lv' := [(0, .ref (a 0)), (1, .int l2_121), (2, .int (l2_121 + (-1)))]) rfl ?_
            exact ih1 _ (uninl h hk1)
        have J70 : ∀ (l1_70 : Int32) (l2_70 : Int32) (s0_70 : Int32), f_X7_watchers_J70 l1_70 l2_70 s0_70 σ_39 = some u1 → zV p l e ({ frames := 7, cells := 0, slots := 0, locals := 178 } : Room) s m args below meth c 0 0 (MQ below (zQ D A (some (.int r.1)) (wM a x r.2)) args s 0 0 A) D A 5 (wM a x σ_39) 70 [(0, .ref (a 0)), (1, .int l1_70), (2, .int l2_70)] [.int s0_70] := by
          intro l1_70 l2_70 s0_70 h
          unfold f_X7_watchers_J70 at h
          refine z_istore_n C [(3, .int s0_70), (0, .ref (a 0)), (1, .int l1_70), (2, .int l2_70)] rfl (by decide) rfl dX7_watchers_70 ?_
          refine z_iconst C (v := 0) dX7_watchers_71 (by decide) ?_
          refine z_istore C [(4, .int 0), (3, .int s0_70), (0, .ref (a 0)), (1, .int l1_70), (2, .int l2_70)] (by decide) rfl dX7_watchers_72 ?_
          refine z_sub C [2, 3, 4, 1, 0] (lv' := [(0, .ref (a 0)), (1, .int l1_70), (2, .int l2_70), (3, .int s0_70), (4, .int 0)]) rfl ?_
          have L74 : ∀ (n : Nat) (t2 : (Int32 × Int32)), lp n (f_X7_watchers_B74 l1_70 l2_70 σ_39) t2 = some u1 → zV p l e ({ frames := 7, cells := 0, slots := 0, locals := 178 } : Room) s m args below meth c 0 0 (MQ below (zQ D A (some (.int r.1)) (wM a x r.2)) args s 0 0 A) D A 5 (wM a x σ_39) 74 [(0, .ref (a 0)), (1, .int l1_70), (2, .int l2_70), (3, .int t2.1), (4, .int t2.2)] [] := by
            intro n2
            induction n2 with
            | zero => exact fun _ h => (lp_zero h).elim
            | succ n2 ih2 =>
              intro t2 h
              obtain ⟨u2, h, hk2⟩ := lp_succ h
              have J109 : ∀ (l4_109 : Int32), f_X7_watchers_J109 l1_70 l2_70 l4_109 σ_39 = some u2 → zV p l e ({ frames := 7, cells := 0, slots := 0, locals := 178 } : Room) s m args below meth c 0 0 (MQ below (zQ D A (some (.int r.1)) (wM a x r.2)) args s 0 0 A) D A 5 (wM a x σ_39) 109 [(0, .ref (a 0)), (1, .int l1_70), (2, .int l2_70), (4, .int l4_109)] [] := by
                intro l4_109 h
                unfold f_X7_watchers_J109 at h
                refine z_iconst C (v := 1) dX7_watchers_109 (by decide) ?_
                refine z_goto C 114 (by decide) dX7_watchers_110 ?_
                refine z_istore_n C [(3, .int 1), (0, .ref (a 0)), (1, .int l1_70), (2, .int l2_70), (4, .int l4_109)] rfl (by decide) rfl dX7_watchers_114 ?_
                refine z_iinc C (v := l4_109 + 1) [(4, .int (l4_109 + 1)), (3, .int 1), (0, .ref (a 0)), (1, .int l1_70), (2, .int l2_70)] 4 rfl rfl (by decide) rfl dX7_watchers_115 ?_
                refine z_goto C 74 (by decide) dX7_watchers_118 ?_
                refine z_sub C [2, 3, 4, 1, 0] (lv' := [(0, .ref (a 0)), (1, .int l1_70), (2, .int l2_70), (3, .int 1), (4, .int (l4_109 + 1))]) rfl ?_
                exact ih2 _ (uninl h hk2)
              unfold f_X7_watchers_B74 at h
              refine z_iload C 4 rfl dX7_watchers_74 ?_
              refine z_aload_n C 0 rfl dX7_watchers_76 ?_
              refine z_get C iRX7 0 gM_0 rfl 6 (by decide) fl_RX7_82 rfl dX7_watchers_77 ?_
              refine z_icmp_ge C 121 (by decide) dX7_watchers_80 h (fun h => ?_) (fun h => ?_)
              · refine z_sub C [0, 1, 2, 3] (lv' := [(0, .ref (a 0)), (1, .int l1_70), (2, .int l2_70), (3, .int t2.1)]) rfl ?_
                have h := unwi h hk2
                exact J121 _ _ _ h
              · refine z_iload_n C 3 rfl dX7_watchers_83 ?_
                refine z_if_eq C 121 (by decide) dX7_watchers_84 h (fun h => ?_) (fun h => ?_)
                · refine z_sub C [0, 1, 2, 3] (lv' := [(0, .ref (a 0)), (1, .int l1_70), (2, .int l2_70), (3, .int t2.1)]) rfl ?_
                  have h := unwi h hk2
                  exact J121 _ _ _ h
                · refine z_aload_n C 0 rfl dX7_watchers_87 ?_
                  refine z_get C iRX7 0 gM_0 rfl 19 (by decide) fl_RX7_46 rfl dX7_watchers_88 ?_
                  refine z_iload C 4 rfl dX7_watchers_91 ?_
                  refine z_iald C 13 0 gM_13 rfl dX7_watchers_93 h (fun y1 h => ?_)
                  refine z_if_eq C 109 (by decide) dX7_watchers_94 h (fun h => ?_) (fun h => ?_)
                  · refine z_sub C [0, 1, 2, 4] (lv' := [(0, .ref (a 0)), (1, .int l1_70), (2, .int l2_70), (4, .int t2.2)]) rfl ?_
                    exact J109 _ h
                  · refine z_aload_n C 0 rfl dX7_watchers_97 ?_
                    refine z_get C iRX7 0 gM_0 rfl 19 (by decide) fl_RX7_46 rfl dX7_watchers_98 ?_
                    refine z_iload C 4 rfl dX7_watchers_101 ?_
                    refine z_iald C 13 0 gM_13 rfl dX7_watchers_103 h (fun y2 h => ?_)
                    refine z_iload_n C 2 rfl dX7_watchers_104 ?_
                    refine z_iand C dX7_watchers_105 ?_
                    refine z_if_eq C 113 (by decide) dX7_watchers_106 h (fun h => ?_) (fun h => ?_)
                    · refine z_iconst C (v := 0) dX7_watchers_113 (by decide) ?_
                      refine z_istore_n C [(3, .int 0), (0, .ref (a 0)), (1, .int l1_70), (2, .int l2_70), (4, .int t2.2)] rfl (by decide) rfl dX7_watchers_114 ?_
                      refine z_iinc C (v := t2.2 + 1) [(4, .int (t2.2 + 1)), (3, .int 0), (0, .ref (a 0)), (1, .int l1_70), (2, .int l2_70)] 4 rfl rfl (by decide) rfl dX7_watchers_115 ?_
                      refine z_goto C 74 (by decide) dX7_watchers_118 ?_
                      refine z_sub C [2, 3, 4, 1, 0] (lv' := [(0, .ref (a 0)), (1, .int l1_70), (2, .int l2_70), (3, .int 0), (4, .int (t2.2 + 1))]) rfl ?_
                      exact ih2 _ (uninl h hk2)
                    · refine z_sub C [0, 1, 2, 4] (lv' := [(0, .ref (a 0)), (1, .int l1_70), (2, .int l2_70), (4, .int t2.2)]) rfl ?_
                      exact J109 _ h
          exact L74 _ _ h
        unfold f_X7_watchers_B50 at h
        refine z_iload_n C 2 rfl dX7_watchers_50 ?_
        refine z_if_lt C 137 (by decide) dX7_watchers_51 h (fun h => ?_) (fun h => ?_)
        · refine z_iload_n C 1 rfl dX7_watchers_137 ?_
          have h := unwi h hk1
          cases h
          exact z_iret C hr hlk dX7_watchers_138
        · refine z_iload_n C 2 rfl dX7_watchers_54 ?_
          obtain ⟨q3, hq3, h⟩ := bd_spec h
          refine z_callS1 C [.int t1.2] [] (v := .int q3) rfl (c_X7_ones l D A (tyz x) (wM a x σ_39) t1.2 q3 hq3) cd_yX7_ones in_RX7 ml_RX7_151 sm_yX7_ones hd_yX7_ones ⟨⟨Nat.le_of_ble_eq_true rfl, Nat.le_of_ble_eq_true rfl⟩, rfl, rfl⟩ rfl (Nat.le_of_ble_eq_true rfl) ⟨Nat.zero_le _, Nat.zero_le _⟩ dX7_watchers_55 ?_
          refine z_iload_n C 1 rfl dX7_watchers_58 ?_
          obtain ⟨q4, hq4, h⟩ := bd_spec h
          refine z_callS1 C [.int t1.1] [.int q3] (v := .int q4) rfl (c_X7_ones l D A (tyz x) (wM a x σ_39) t1.1 q4 hq4) cd_yX7_ones in_RX7 ml_RX7_151 sm_yX7_ones hd_yX7_ones ⟨⟨Nat.le_of_ble_eq_true rfl, Nat.le_of_ble_eq_true rfl⟩, rfl, rfl⟩ rfl (Nat.le_of_ble_eq_true rfl) ⟨Nat.zero_le _, Nat.zero_le _⟩ dX7_watchers_59 ?_
          refine z_icmp_gt C 69 (by decide) dX7_watchers_62 h (fun h => ?_) (fun h => ?_)
          · refine z_iconst C (v := 0) dX7_watchers_69 (by decide) ?_
            exact J70 _ _ _ h
          · refine z_iconst C (v := 1) dX7_watchers_65 (by decide) ?_
            refine z_goto C 70 (by decide) dX7_watchers_66 ?_
            exact J70 _ _ _ h
    exact L50 _ _ h
  unfold f_X7_watchers at h
  refine z_iconst C (v := 0) dX7_watchers_0 (by decide) ?_
  refine z_istore_n C [(1, .int 0), (0, .ref (a 0))] rfl (by decide) rfl dX7_watchers_1 ?_
  refine z_sub C [1, 0] (lv' := [(0, .ref (a 0)), (1, .int 0)]) rfl ?_
  have L2 : ∀ (n : Nat) (t1 : (Int32 × ZS)), lp n (f_X7_watchers_B2) t1 = some r → zV p l e ({ frames := 7, cells := 0, slots := 0, locals := 178 } : Room) s m args below meth c 0 0 (MQ below (zQ D A (some (.int r.1)) (wM a x r.2)) args s 0 0 A) D A 5 (wM a x t1.2) 2 [(0, .ref (a 0)), (1, .int t1.1)] [] := by
    intro n1
    induction n1 with
    | zero => exact fun _ h => (lp_zero h).elim
    | succ n1 ih1 =>
      intro t1 h
      obtain ⟨u1, h, hk1⟩ := lp_succ h
      unfold f_X7_watchers_B2 at h
      refine z_iload_n C 1 rfl dX7_watchers_2 ?_
      refine z_aload_n C 0 rfl dX7_watchers_3 ?_
      refine z_get C iRX7 0 gM_0 rfl 6 (by decide) fl_RX7_82 rfl dX7_watchers_4 ?_
      refine z_icmp_ge C 39 (by decide) dX7_watchers_7 h (fun h => ?_) (fun h => ?_)
      · refine z_sub C [0] (lv' := [(0, .ref (a 0))]) rfl ?_
        have h := unwi h hk1
        exact J39 _ h
      · refine z_aload_n C 0 rfl dX7_watchers_10 ?_
        refine z_get C iRX7 0 gM_0 rfl 19 (by decide) fl_RX7_46 rfl dX7_watchers_11 ?_
        refine z_iload_n C 1 rfl dX7_watchers_14 ?_
        refine z_aload_n C 0 rfl dX7_watchers_15 ?_
        refine z_iload_n C 1 rfl dX7_watchers_16 ?_
        obtain ⟨q5, hq5, h⟩ := bd_spec h
        refine z_callV1 C [.int t1.1] [.int t1.1, .ref (a 13)] (v := (.int q5)) rfl (c_X7_isFalse l D A a x t1.2 t1.1 q5 hq5) cd_yX7_isFalse in_RX7 ml_RX7_145 im_yX7_isFalse sl_yX7_isFalse gM_0 rfl hd_yX7_isFalse ⟨⟨Nat.le_of_ble_eq_true rfl, Nat.le_of_ble_eq_true rfl⟩, rfl, rfl⟩ rfl (Nat.le_of_ble_eq_true rfl) ⟨Nat.zero_le _, Nat.zero_le _⟩ dX7_watchers_17 ?_
        refine z_if_eq C 31 (by decide) dX7_watchers_20 h (fun h => ?_) (fun h => ?_)
        · refine z_iconst C (v := 0) dX7_watchers_31 (by decide) ?_
          refine z_iast C 13 0 gM_13 rfl uM_13 dX7_watchers_32 h (fun h => ?_)
          refine z_iinc C (v := t1.1 + 1) [(1, .int (t1.1 + 1)), (0, .ref (a 0))] 1 rfl rfl (by decide) rfl dX7_watchers_33 ?_
          refine z_goto C 2 (by decide) dX7_watchers_36 ?_
          refine z_sub C [1, 0] (lv' := [(0, .ref (a 0)), (1, .int (t1.1 + 1))]) rfl ?_
          exact ih1 _ (uninl h hk1)
        · refine z_aload_n C 0 rfl dX7_watchers_23 ?_
          refine z_iload_n C 1 rfl dX7_watchers_24 ?_
          obtain ⟨q6, hq6, h⟩ := bd_spec h
          refine z_callV1 C [.int t1.1] [.int t1.1, .ref (a 13)] (v := (.int q6.1)) rfl (c_X7_seenBy l D A a x t1.2 t1.1 q6 hq6) cd_yX7_seenBy in_RX7 ml_RX7_148 im_yX7_seenBy sl_yX7_seenBy gM_0 rfl hd_yX7_seenBy ⟨⟨Nat.le_of_ble_eq_true rfl, Nat.le_of_ble_eq_true rfl⟩, rfl, rfl⟩ rfl (Nat.le_of_ble_eq_true rfl) ⟨Nat.zero_le _, Nat.zero_le _⟩ dX7_watchers_25 ?_
          refine z_goto C 32 (by decide) dX7_watchers_28 ?_
          refine z_iast C 13 0 gM_13 rfl uM_13 dX7_watchers_32 h (fun h => ?_)
          refine z_iinc C (v := t1.1 + 1) [(1, .int (t1.1 + 1)), (0, .ref (a 0))] 1 rfl rfl (by decide) rfl dX7_watchers_33 ?_
          refine z_goto C 2 (by decide) dX7_watchers_36 ?_
          refine z_sub C [1, 0] (lv' := [(0, .ref (a 0)), (1, .int (t1.1 + 1))]) rfl ?_
          exact ih1 _ (uninl h hk1)
  exact L2 _ _ h
theorem dX7_cure_0 : decode cX7_cure 0 = .ok (.iload_n 1, 1) := by decide +kernel
theorem dX7_cure_1 : decode cX7_cure 1 = .ok (.iconst 0, 1) := by decide +kernel
theorem dX7_cure_2 : decode cX7_cure 2 = .ok (.bipush 63, 2) := by decide +kernel
theorem dX7_cure_4 : decode cX7_cure 4 = .ok (.invokestatic 53, 3) := by decide +kernel
theorem dX7_cure_7 : decode cX7_cure 7 = .ok (.ifCond .ne 6, 3) := by decide +kernel
theorem dX7_cure_10 : decode cX7_cure 10 = .ok (.bipush (-2), 2) := by decide +kernel
theorem dX7_cure_12 : decode cX7_cure 12 = .ok (.ireturn, 1) := by decide +kernel
theorem dX7_cure_13 : decode cX7_cure 13 = .ok (.iconst 0, 1) := by decide +kernel
theorem dX7_cure_14 : decode cX7_cure 14 = .ok (.istore_n 2, 1) := by decide +kernel
theorem dX7_cure_15 : decode cX7_cure 15 = .ok (.iconst 0, 1) := by decide +kernel
theorem dX7_cure_16 : decode cX7_cure 16 = .ok (.istore_n 3, 1) := by decide +kernel
theorem dX7_cure_17 : decode cX7_cure 17 = .ok (.iload_n 3, 1) := by decide +kernel
theorem dX7_cure_18 : decode cX7_cure 18 = .ok (.aload_n 0, 1) := by decide +kernel
theorem dX7_cure_19 : decode cX7_cure 19 = .ok (.getfield 82, 3) := by decide +kernel
theorem dX7_cure_22 : decode cX7_cure 22 = .ok (.if_icmp .ge 53, 3) := by decide +kernel
theorem dX7_cure_25 : decode cX7_cure 25 = .ok (.iconst 1, 1) := by decide +kernel
theorem dX7_cure_26 : decode cX7_cure 26 = .ok (.bipush 6, 2) := by decide +kernel
theorem dX7_cure_28 : decode cX7_cure 28 = .ok (.aload_n 0, 1) := by decide +kernel
theorem dX7_cure_29 : decode cX7_cure 29 = .ok (.getfield 22, 3) := by decide +kernel
theorem dX7_cure_32 : decode cX7_cure 32 = .ok (.iload_n 3, 1) := by decide +kernel
theorem dX7_cure_33 : decode cX7_cure 33 = .ok (.iaload, 1) := by decide +kernel
theorem dX7_cure_34 : decode cX7_cure 34 = .ok (.isub, 1) := by decide +kernel
theorem dX7_cure_35 : decode cX7_cure 35 = .ok (.ishl, 1) := by decide +kernel
theorem dX7_cure_36 : decode cX7_cure 36 = .ok (.istore 4, 2) := by decide +kernel
theorem dX7_cure_38 : decode cX7_cure 38 = .ok (.iload_n 2, 1) := by decide +kernel
theorem dX7_cure_39 : decode cX7_cure 39 = .ok (.iload_n 1, 1) := by decide +kernel
theorem dX7_cure_40 : decode cX7_cure 40 = .ok (.iload 4, 2) := by decide +kernel
theorem dX7_cure_42 : decode cX7_cure 42 = .ok (.idiv, 1) := by decide +kernel
theorem dX7_cure_43 : decode cX7_cure 43 = .ok (.iload 4, 2) := by decide +kernel
theorem dX7_cure_45 : decode cX7_cure 45 = .ok (.imul, 1) := by decide +kernel
theorem dX7_cure_46 : decode cX7_cure 46 = .ok (.aload_n 0, 1) := by decide +kernel
theorem dX7_cure_47 : decode cX7_cure 47 = .ok (.getfield 25, 3) := by decide +kernel
theorem dX7_cure_50 : decode cX7_cure 50 = .ok (.iload_n 3, 1) := by decide +kernel
theorem dX7_cure_51 : decode cX7_cure 51 = .ok (.iaload, 1) := by decide +kernel
theorem dX7_cure_52 : decode cX7_cure 52 = .ok (.if_icmp .ne 14, 3) := by decide +kernel
theorem dX7_cure_55 : decode cX7_cure 55 = .ok (.iconst 1, 1) := by decide +kernel
theorem dX7_cure_56 : decode cX7_cure 56 = .ok (.aload_n 0, 1) := by decide +kernel
theorem dX7_cure_57 : decode cX7_cure 57 = .ok (.getfield 28, 3) := by decide +kernel
theorem dX7_cure_60 : decode cX7_cure 60 = .ok (.iload_n 3, 1) := by decide +kernel
theorem dX7_cure_61 : decode cX7_cure 61 = .ok (.iaload, 1) := by decide +kernel
theorem dX7_cure_62 : decode cX7_cure 62 = .ok (.ishl, 1) := by decide +kernel
theorem dX7_cure_63 : decode cX7_cure 63 = .ok (.goto 4, 3) := by decide +kernel
theorem dX7_cure_66 : decode cX7_cure 66 = .ok (.iconst 0, 1) := by decide +kernel
theorem dX7_cure_67 : decode cX7_cure 67 = .ok (.ior, 1) := by decide +kernel
theorem dX7_cure_68 : decode cX7_cure 68 = .ok (.istore_n 2, 1) := by decide +kernel
theorem dX7_cure_69 : decode cX7_cure 69 = .ok (.iinc 3 1, 3) := by decide +kernel
theorem dX7_cure_72 : decode cX7_cure 72 = .ok (.goto (-55), 3) := by decide +kernel
theorem dX7_cure_75 : decode cX7_cure 75 = .ok (.iconst (-1), 1) := by decide +kernel
theorem dX7_cure_76 : decode cX7_cure 76 = .ok (.istore_n 3, 1) := by decide +kernel
theorem dX7_cure_77 : decode cX7_cure 77 = .ok (.iconst 0, 1) := by decide +kernel
theorem dX7_cure_78 : decode cX7_cure 78 = .ok (.istore 4, 2) := by decide +kernel
theorem dX7_cure_80 : decode cX7_cure 80 = .ok (.iload 4, 2) := by decide +kernel
theorem dX7_cure_82 : decode cX7_cure 82 = .ok (.iconst 1, 1) := by decide +kernel
theorem dX7_cure_83 : decode cX7_cure 83 = .ok (.aload_n 0, 1) := by decide +kernel
theorem dX7_cure_84 : decode cX7_cure 84 = .ok (.getfield 49, 3) := by decide +kernel
theorem dX7_cure_87 : decode cX7_cure 87 = .ok (.ishl, 1) := by decide +kernel
theorem dX7_cure_88 : decode cX7_cure 88 = .ok (.if_icmp .ge 52, 3) := by decide +kernel
theorem dX7_cure_91 : decode cX7_cure 91 = .ok (.iload_n 3, 1) := by decide +kernel
theorem dX7_cure_92 : decode cX7_cure 92 = .ok (.iconst (-1), 1) := by decide +kernel
theorem dX7_cure_93 : decode cX7_cure 93 = .ok (.if_icmp .eq 15, 3) := by decide +kernel
theorem dX7_cure_96 : decode cX7_cure 96 = .ok (.iload 4, 2) := by decide +kernel
theorem dX7_cure_98 : decode cX7_cure 98 = .ok (.invokestatic 151, 3) := by decide +kernel
theorem dX7_cure_101 : decode cX7_cure 101 = .ok (.iload_n 3, 1) := by decide +kernel
theorem dX7_cure_102 : decode cX7_cure 102 = .ok (.invokestatic 151, 3) := by decide +kernel
theorem dX7_cure_105 : decode cX7_cure 105 = .ok (.if_icmp .ge 29, 3) := by decide +kernel
theorem dX7_cure_108 : decode cX7_cure 108 = .ok (.aload_n 0, 1) := by decide +kernel
theorem dX7_cure_109 : decode cX7_cure 109 = .ok (.iload_n 1, 1) := by decide +kernel
theorem dX7_cure_110 : decode cX7_cure 110 = .ok (.aload_n 0, 1) := by decide +kernel
theorem dX7_cure_111 : decode cX7_cure 111 = .ok (.getfield 95, 3) := by decide +kernel
theorem dX7_cure_114 : decode cX7_cure 114 = .ok (.iload 4, 2) := by decide +kernel
theorem dX7_cure_116 : decode cX7_cure 116 = .ok (.ior, 1) := by decide +kernel
theorem dX7_cure_117 : decode cX7_cure 117 = .ok (.invokevirtual 142, 3) := by decide +kernel
theorem dX7_cure_120 : decode cX7_cure 120 = .ok (.iload_n 2, 1) := by decide +kernel
theorem dX7_cure_121 : decode cX7_cure 121 = .ok (.iconst (-1), 1) := by decide +kernel
theorem dX7_cure_122 : decode cX7_cure 122 = .ok (.ixor, 1) := by decide +kernel
theorem dX7_cure_123 : decode cX7_cure 123 = .ok (.iand, 1) := by decide +kernel
theorem dX7_cure_124 : decode cX7_cure 124 = .ok (.ifCond .ne 8, 3) := by decide +kernel
theorem dX7_cure_127 : decode cX7_cure 127 = .ok (.iload 4, 2) := by decide +kernel
theorem dX7_cure_129 : decode cX7_cure 129 = .ok (.goto 4, 3) := by decide +kernel
theorem dX7_cure_132 : decode cX7_cure 132 = .ok (.iload_n 3, 1) := by decide +kernel
theorem dX7_cure_133 : decode cX7_cure 133 = .ok (.istore_n 3, 1) := by decide +kernel
theorem dX7_cure_134 : decode cX7_cure 134 = .ok (.iinc 4 1, 3) := by decide +kernel
theorem dX7_cure_137 : decode cX7_cure 137 = .ok (.goto (-57), 3) := by decide +kernel
theorem dX7_cure_140 : decode cX7_cure 140 = .ok (.iload_n 3, 1) := by decide +kernel
theorem dX7_cure_141 : decode cX7_cure 141 = .ok (.ireturn, 1) := by decide +kernel
theorem hd_yX7_cure : (yX7_cure).cls ≠ "java/lang/invoke/MethodHandle" ∧ (yX7_cure).cls ≠ "java/lang/invoke/VarHandle" ∧ (parseMethodDescriptor (yX7_cure).desc).map (fun d => d.parameters.length) = some 1 := ⟨by decide, by decide, by decide +kernel⟩
def f_X7_cure_J108 (l1 : Int32) (l2 : Int32) (l3 : Int32) (l4 : Int32) (σ : ZS) : Option ((Int32 × Int32 × ZS) ⊕ (Int32 × ZS)) :=
  Option.bind (f_X7_misledBy l1 ((σ.1 4) ||| l4) σ) (fun q7 => (if (q7.1 &&& (l2 ^^^ (-1))) = 0 then some (.inl (l4, l4 + 1, q7.2)) else some (.inl (l3, l4 + 1, q7.2))))
def f_X7_cure_B80 (l1 : Int32) (l2 : Int32) (t1 : (Int32 × Int32 × ZS)) : Option ((Int32 × Int32 × ZS) ⊕ (Int32 × ZS)) :=
  (if ((1 : Int32) <<< ((t1.2.2.1 0) &&& 31)) ≤ t1.2.1 then wi (some (t1.1, t1.2.2)) else (if t1.1 = (-1) then f_X7_cure_J108 l1 l2 t1.1 t1.2.1 t1.2.2 else Option.bind (f_X7_ones t1.2.1) (fun q5 => Option.bind (f_X7_ones t1.1) (fun q6 => (if q6 ≤ q5 then some (.inl (t1.1, t1.2.1 + 1, t1.2.2)) else f_X7_cure_J108 l1 l2 t1.1 t1.2.1 t1.2.2)))))
def f_X7_cure_J75 (l1 : Int32) (l2 : Int32) (σ : ZS) : Option (Int32 × ZS) :=
  lp zF (f_X7_cure_B80 l1 l2) ((-1), 0, σ)
def f_X7_cure_B17 (l1 : Int32) (σ : ZS) (t1 : (Int32 × Int32)) : Option ((Int32 × Int32) ⊕ (Int32 × ZS)) :=
  (if (σ.1 2) ≤ t1.2 then wi (f_X7_cure_J75 l1 t1.1 σ) else ld (σ.2.1 5) 18 t1.2 (fun y2 => ck (decide (¬ ((1 : Int32) <<< (((6 : Int32) - y2) &&& 31)) = 0)) (ld (σ.2.1 6) 18 t1.2 (fun y3 => (if ((l1 / ((1 : Int32) <<< (((6 : Int32) - y2) &&& 31))) * ((1 : Int32) <<< (((6 : Int32) - y2) &&& 31))) = y3 then ld (σ.2.1 7) 18 t1.2 (fun y4 => some (.inl (t1.1 ||| ((1 : Int32) <<< (y4 &&& 31)), t1.2 + 1))) else some (.inl (t1.1 ||| 0, t1.2 + 1)))))))
def f_X7_cure (p0 : Int32) (σ : ZS) : Option (Int32 × ZS) :=
  Option.bind (f_X7_in p0 0 63) (fun q1 => (if q1 = 0 then some ((-2), σ) else lp zF (f_X7_cure_B17 p0 σ) (0, 0)))
set_option maxHeartbeats 4000000 in
set_option maxRecDepth 100000 in
theorem c_X7_cure (l : Launch) (D : va_G) (A : Nat → Prop) (a : Nat → Nat) (x : ClassId × ClassId × ClassId) (σ : ZS) (p0 : Int32) (r : (Int32 × ZS)) (h : f_X7_cure p0 σ = some r) : zM l yX7_cure w_yX7_cure ({ frames := 8, cells := 0, slots := 0, locals := 207 } : Room) D A (tyz x) [.ref (a 0), .int p0] (wM a x σ) (some (.int r.1)) (wM a x r.2) := by
  refine z_start [.ref (a 0), .int p0] (lv := [(0, .ref (a 0)), (1, .int p0)]) (by decide) (Nat.le_of_ble_eq_true rfl) rfl ?_
  intro p e s m args below meth c C hr hlk
  have J75 : ∀ (l2_75 : Int32) (σ_75 : ZS), f_X7_cure_J75 p0 l2_75 σ_75 = some r → zV p l e ({ frames := 8, cells := 0, slots := 0, locals := 207 } : Room) s m args below meth c 0 0 (MQ below (zQ D A (some (.int r.1)) (wM a x r.2)) args s 0 0 A) D A 5 (wM a x σ_75) 75 [(0, .ref (a 0)), (1, .int p0), (2, .int l2_75)] [] := by
    intro l2_75 σ_75 h
    unfold f_X7_cure_J75 at h
    refine z_iconst C (v := (-1)) dX7_cure_75 (by decide) ?_
    refine z_istore_n C [(3, .int (-1)), (0, .ref (a 0)), (1, .int p0), (2, .int l2_75)] rfl (by decide) rfl dX7_cure_76 ?_
    refine z_iconst C (v := 0) dX7_cure_77 (by decide) ?_
    refine z_istore C [(4, .int 0), (3, .int (-1)), (0, .ref (a 0)), (1, .int p0), (2, .int l2_75)] (by decide) rfl dX7_cure_78 ?_
    refine z_sub C [2, 3, 4, 1, 0] (lv' := [(0, .ref (a 0)), (1, .int p0), (2, .int l2_75), (3, .int (-1)), (4, .int 0)]) rfl ?_
    have L80 : ∀ (n : Nat) (t1 : (Int32 × Int32 × ZS)), lp n (f_X7_cure_B80 p0 l2_75) t1 = some r → zV p l e ({ frames := 8, cells := 0, slots := 0, locals := 207 } : Room) s m args below meth c 0 0 (MQ below (zQ D A (some (.int r.1)) (wM a x r.2)) args s 0 0 A) D A 5 (wM a x t1.2.2) 80 [(0, .ref (a 0)), (1, .int p0), (2, .int l2_75), (3, .int t1.1), (4, .int t1.2.1)] [] := by
      intro n1
      induction n1 with
      | zero => exact fun _ h => (lp_zero h).elim
      | succ n1 ih1 =>
        intro t1 h
        obtain ⟨u1, h, hk1⟩ := lp_succ h
        have J108 : ∀ (l3_108 : Int32) (l4_108 : Int32) (σ_108 : ZS), f_X7_cure_J108 p0 l2_75 l3_108 l4_108 σ_108 = some u1 → zV p l e ({ frames := 8, cells := 0, slots := 0, locals := 207 } : Room) s m args below meth c 0 0 (MQ below (zQ D A (some (.int r.1)) (wM a x r.2)) args s 0 0 A) D A 5 (wM a x σ_108) 108 [(0, .ref (a 0)), (1, .int p0), (2, .int l2_75), (3, .int l3_108), (4, .int l4_108)] [] := by
          intro l3_108 l4_108 σ_108 h
          unfold f_X7_cure_J108 at h
          refine z_aload_n C 0 rfl dX7_cure_108 ?_
          refine z_iload_n C 1 rfl dX7_cure_109 ?_
          refine z_aload_n C 0 rfl dX7_cure_110 ?_
          refine z_get C iRX7 0 gM_0 rfl 11 (by decide) fl_RX7_95 rfl dX7_cure_111 ?_
          refine z_iload C 4 rfl dX7_cure_114 ?_
          refine z_ior C dX7_cure_116 ?_
          obtain ⟨q1, hq1, h⟩ := bd_spec h
          refine z_callV1 C [.int p0, .int ((σ_108.1 4) ||| l4_108)] [] (v := (.int q1.1)) rfl (c_X7_misledBy l D A a x σ_108 p0 ((σ_108.1 4) ||| l4_108) q1 hq1) cd_yX7_misledBy in_RX7 ml_RX7_142 im_yX7_misledBy sl_yX7_misledBy gM_0 rfl hd_yX7_misledBy ⟨⟨Nat.le_of_ble_eq_true rfl, Nat.le_of_ble_eq_true rfl⟩, rfl, rfl⟩ rfl (Nat.le_of_ble_eq_true rfl) ⟨Nat.zero_le _, Nat.zero_le _⟩ dX7_cure_117 ?_
          refine z_iload_n C 2 rfl dX7_cure_120 ?_
          refine z_iconst C (v := (-1)) dX7_cure_121 (by decide) ?_
          refine z_ixor C dX7_cure_122 ?_
          refine z_iand C dX7_cure_123 ?_
          refine z_if_ne C 132 (by decide) dX7_cure_124 h (fun h => ?_) (fun h => ?_)
          · refine z_iload_n C 3 rfl dX7_cure_132 ?_
            refine z_istore_n C [(3, .int l3_108), (0, .ref (a 0)), (1, .int p0), (2, .int l2_75), (4, .int l4_108)] rfl (by decide) rfl dX7_cure_133 ?_
            refine z_iinc C (v := l4_108 + 1) [(4, .int (l4_108 + 1)), (3, .int l3_108), (0, .ref (a 0)), (1, .int p0), (2, .int l2_75)] 4 rfl rfl (by decide) rfl dX7_cure_134 ?_
            refine z_goto C 80 (by decide) dX7_cure_137 ?_
            refine z_sub C [2, 3, 4, 1, 0] (lv' := [(0, .ref (a 0)), (1, .int p0), (2, .int l2_75), (3, .int l3_108), (4, .int (l4_108 + 1))]) rfl ?_
            exact ih1 _ (uninl h hk1)
          · refine z_iload C 4 rfl dX7_cure_127 ?_
            refine z_goto C 133 (by decide) dX7_cure_129 ?_
            refine z_istore_n C [(3, .int l4_108), (0, .ref (a 0)), (1, .int p0), (2, .int l2_75), (4, .int l4_108)] rfl (by decide) rfl dX7_cure_133 ?_
            refine z_iinc C (v := l4_108 + 1) [(4, .int (l4_108 + 1)), (3, .int l4_108), (0, .ref (a 0)), (1, .int p0), (2, .int l2_75)] 4 rfl rfl (by decide) rfl dX7_cure_134 ?_
            refine z_goto C 80 (by decide) dX7_cure_137 ?_
            refine z_sub C [2, 3, 4, 1, 0] (lv' := [(0, .ref (a 0)), (1, .int p0), (2, .int l2_75), (3, .int l4_108), (4, .int (l4_108 + 1))]) rfl ?_
            exact ih1 _ (uninl h hk1)
        unfold f_X7_cure_B80 at h
        refine z_iload C 4 rfl dX7_cure_80 ?_
        refine z_iconst C (v := 1) dX7_cure_82 (by decide) ?_
        refine z_aload_n C 0 rfl dX7_cure_83 ?_
        refine z_get C iRX7 0 gM_0 rfl 0 (by decide) fl_RX7_49 rfl dX7_cure_84 ?_
        refine z_ishl C dX7_cure_87 ?_
        refine z_icmp_ge C 140 (by decide) dX7_cure_88 h (fun h => ?_) (fun h => ?_)
        · refine z_iload_n C 3 rfl dX7_cure_140 ?_
          have h := unwi h hk1
          cases h
          exact z_iret C hr hlk dX7_cure_141
        · refine z_iload_n C 3 rfl dX7_cure_91 ?_
          refine z_iconst C (v := (-1)) dX7_cure_92 (by decide) ?_
          refine z_icmp_eq C 108 (by decide) dX7_cure_93 h (fun h => ?_) (fun h => ?_)
          · exact J108 _ _ _ h
          · refine z_iload C 4 rfl dX7_cure_96 ?_
            obtain ⟨q2, hq2, h⟩ := bd_spec h
            refine z_callS1 C [.int t1.2.1] [] (v := .int q2) rfl (c_X7_ones l D A (tyz x) (wM a x t1.2.2) t1.2.1 q2 hq2) cd_yX7_ones in_RX7 ml_RX7_151 sm_yX7_ones hd_yX7_ones ⟨⟨Nat.le_of_ble_eq_true rfl, Nat.le_of_ble_eq_true rfl⟩, rfl, rfl⟩ rfl (Nat.le_of_ble_eq_true rfl) ⟨Nat.zero_le _, Nat.zero_le _⟩ dX7_cure_98 ?_
            refine z_iload_n C 3 rfl dX7_cure_101 ?_
            obtain ⟨q3, hq3, h⟩ := bd_spec h
            refine z_callS1 C [.int t1.1] [.int q2] (v := .int q3) rfl (c_X7_ones l D A (tyz x) (wM a x t1.2.2) t1.1 q3 hq3) cd_yX7_ones in_RX7 ml_RX7_151 sm_yX7_ones hd_yX7_ones ⟨⟨Nat.le_of_ble_eq_true rfl, Nat.le_of_ble_eq_true rfl⟩, rfl, rfl⟩ rfl (Nat.le_of_ble_eq_true rfl) ⟨Nat.zero_le _, Nat.zero_le _⟩ dX7_cure_102 ?_
            refine z_icmp_ge C 134 (by decide) dX7_cure_105 h (fun h => ?_) (fun h => ?_)
            · refine z_iinc C (v := t1.2.1 + 1) [(4, .int (t1.2.1 + 1)), (0, .ref (a 0)), (1, .int p0), (2, .int l2_75), (3, .int t1.1)] 4 rfl rfl (by decide) rfl dX7_cure_134 ?_
              refine z_goto C 80 (by decide) dX7_cure_137 ?_
              refine z_sub C [1, 2, 3, 4, 0] (lv' := [(0, .ref (a 0)), (1, .int p0), (2, .int l2_75), (3, .int t1.1), (4, .int (t1.2.1 + 1))]) rfl ?_
              exact ih1 _ (uninl h hk1)
            · exact J108 _ _ _ h
    exact L80 _ _ h
  unfold f_X7_cure at h
  refine z_iload_n C 1 rfl dX7_cure_0 ?_
  refine z_iconst C (v := 0) dX7_cure_1 (by decide) ?_
  refine z_bipush C (v := 63) dX7_cure_2 (by decide) ?_
  obtain ⟨q4, hq4, h⟩ := bd_spec h
  refine z_callS1 C [.int p0, .int 0, .int 63] [] (v := .int q4) rfl (c_X7_in l D A (tyz x) (wM a x σ) p0 0 63 q4 hq4) cd_yX7_in in_RX7 ml_RX7_53 sm_yX7_in hd_yX7_in ⟨⟨Nat.le_of_ble_eq_true rfl, Nat.le_of_ble_eq_true rfl⟩, rfl, rfl⟩ rfl (Nat.le_of_ble_eq_true rfl) ⟨Nat.zero_le _, Nat.zero_le _⟩ dX7_cure_4 ?_
  refine z_if_ne C 13 (by decide) dX7_cure_7 h (fun h => ?_) (fun h => ?_)
  · refine z_iconst C (v := 0) dX7_cure_13 (by decide) ?_
    refine z_istore_n C [(2, .int 0), (0, .ref (a 0)), (1, .int p0)] rfl (by decide) rfl dX7_cure_14 ?_
    refine z_iconst C (v := 0) dX7_cure_15 (by decide) ?_
    refine z_istore_n C [(3, .int 0), (2, .int 0), (0, .ref (a 0)), (1, .int p0)] rfl (by decide) rfl dX7_cure_16 ?_
    refine z_sub C [2, 3, 1, 0] (lv' := [(0, .ref (a 0)), (1, .int p0), (2, .int 0), (3, .int 0)]) rfl ?_
    have L17 : ∀ (n : Nat) (t1 : (Int32 × Int32)), lp n (f_X7_cure_B17 p0 σ) t1 = some r → zV p l e ({ frames := 8, cells := 0, slots := 0, locals := 207 } : Room) s m args below meth c 0 0 (MQ below (zQ D A (some (.int r.1)) (wM a x r.2)) args s 0 0 A) D A 5 (wM a x σ) 17 [(0, .ref (a 0)), (1, .int p0), (2, .int t1.1), (3, .int t1.2)] [] := by
      intro n1
      induction n1 with
      | zero => exact fun _ h => (lp_zero h).elim
      | succ n1 ih1 =>
        intro t1 h
        obtain ⟨u1, h, hk1⟩ := lp_succ h
        unfold f_X7_cure_B17 at h
        refine z_iload_n C 3 rfl dX7_cure_17 ?_
        refine z_aload_n C 0 rfl dX7_cure_18 ?_
        refine z_get C iRX7 0 gM_0 rfl 6 (by decide) fl_RX7_82 rfl dX7_cure_19 ?_
        refine z_icmp_ge C 75 (by decide) dX7_cure_22 h (fun h => ?_) (fun h => ?_)
        · refine z_sub C [0, 1, 2] (lv' := [(0, .ref (a 0)), (1, .int p0), (2, .int t1.1)]) rfl ?_
          have h := unwi h hk1
          exact J75 _ _ h
        · refine z_iconst C (v := 1) dX7_cure_25 (by decide) ?_
          refine z_bipush C (v := 6) dX7_cure_26 (by decide) ?_
          refine z_aload_n C 0 rfl dX7_cure_28 ?_
          refine z_get C iRX7 0 gM_0 rfl 7 (by decide) fl_RX7_22 rfl dX7_cure_29 ?_
          refine z_iload_n C 3 rfl dX7_cure_32 ?_
          refine z_iald C 5 0 gM_5 rfl dX7_cure_33 h (fun y5 h => ?_)
          refine z_isub C dX7_cure_34 ?_
          refine z_ishl C dX7_cure_35 ?_
          refine z_istore C [(4, .int ((1 : Int32) <<< (((6 : Int32) - y5) &&& 31))), (0, .ref (a 0)), (1, .int p0), (2, .int t1.1), (3, .int t1.2)] (by decide) rfl dX7_cure_36 ?_
          refine z_iload_n C 3 rfl dX7_cure_38 ?_
          refine z_iload_n C 2 rfl dX7_cure_39 ?_
          refine z_iload C 0 rfl dX7_cure_40 ?_
          refine z_idiv C dX7_cure_42 h (fun h => ?_)
          refine z_iload C 0 rfl dX7_cure_43 ?_
          refine z_imul C dX7_cure_45 ?_
          refine z_aload_n C 1 rfl dX7_cure_46 ?_
          refine z_get C iRX7 0 gM_0 rfl 8 (by decide) fl_RX7_25 rfl dX7_cure_47 ?_
          refine z_iload_n C 4 rfl dX7_cure_50 ?_
          refine z_iald C 6 0 gM_6 rfl dX7_cure_51 h (fun y6 h => ?_)
          refine z_icmp_ne C 66 (by decide) dX7_cure_52 h (fun h => ?_) (fun h => ?_)
          · refine z_iconst C (v := 0) dX7_cure_66 (by decide) ?_
            refine z_ior C dX7_cure_67 ?_
            refine z_istore_n C [(2, .int (t1.1 ||| 0)), (4, .int ((1 : Int32) <<< (((6 : Int32) - y5) &&& 31))), (0, .ref (a 0)), (1, .int p0), (3, .int t1.2)] rfl (by decide) rfl dX7_cure_68 ?_
            refine z_iinc C (v := t1.2 + 1) [(3, .int (t1.2 + 1)), (2, .int (t1.1 ||| 0)), (4, .int ((1 : Int32) <<< (((6 : Int32) - y5) &&& 31))), (0, .ref (a 0)), (1, .int p0)] 4 rfl rfl (by decide) rfl dX7_cure_69 ?_
            refine z_goto C 17 (by decide) dX7_cure_72 ?_
            refine z_sub C [3, 4, 1, 0] (lv' := [(0, .ref (a 0)), (1, .int p0), (2, .int (t1.1 ||| 0)), (3, .int (t1.2 + 1))]) rfl ?_
            exact ih1 _ (uninl h hk1)
          · refine z_iconst C (v := 1) dX7_cure_55 (by decide) ?_
            refine z_aload_n C 1 rfl dX7_cure_56 ?_
            refine z_get C iRX7 0 gM_0 rfl 9 (by decide) fl_RX7_28 rfl dX7_cure_57 ?_
            refine z_iload_n C 4 rfl dX7_cure_60 ?_
            refine z_iald C 7 0 gM_7 rfl dX7_cure_61 h (fun y7 h => ?_)
            refine z_ishl C dX7_cure_62 ?_
            refine z_goto C 67 (by decide) dX7_cure_63 ?_
            refine z_ior C dX7_cure_67 ?_
            refine z_istore_n C [(2, .int (t1.1 ||| ((1 : Int32) <<< (y7 &&& 31)))), (4, .int ((1 : Int32) <<< (((6 : Int32) - y5) &&& 31))), (0, .ref (a 0)), (1, .int p0), (3, .int t1.2)] rfl (by decide) rfl dX7_cure_68 ?_
            refine z_iinc C (v := t1.2 + 1) [(3, .int (t1.2 + 1)), (2, .int (t1.1 ||| ((1 : Int32) <<< (y7 &&& 31)))), (4, .int ((1 : Int32) <<< (((6 : Int32) - y5) &&& 31))), (0, .ref (a 0)), (1, .int p0)] 4 rfl rfl (by decide) rfl dX7_cure_69 ?_
            refine z_goto C 17 (by decide) dX7_cure_72 ?_
            refine z_sub C [3, 4, 1, 0] (lv' := [(0, .ref (a 0)), (1, .int p0), (2, .int (t1.1 ||| ((1 : Int32) <<< (y7 &&& 31)))), (3, .int (t1.2 + 1))]) rfl ?_
            exact ih1 _ (uninl h hk1)
    exact L17 _ _ h
  · refine z_bipush C (v := (-2)) dX7_cure_10 (by decide) ?_
    cases h
    exact z_iret C hr hlk dX7_cure_12
theorem dX7_halves_0 : decode cX7_halves 0 = .ok (.iload_n 1, 1) := by decide +kernel
theorem dX7_halves_1 : decode cX7_halves 1 = .ok (.iconst 0, 1) := by decide +kernel
theorem dX7_halves_2 : decode cX7_halves 2 = .ok (.aload_n 0, 1) := by decide +kernel
theorem dX7_halves_3 : decode cX7_halves 3 = .ok (.getfield 82, 3) := by decide +kernel
theorem dX7_halves_6 : decode cX7_halves 6 = .ok (.iconst 1, 1) := by decide +kernel
theorem dX7_halves_7 : decode cX7_halves 7 = .ok (.isub, 1) := by decide +kernel
theorem dX7_halves_8 : decode cX7_halves 8 = .ok (.invokestatic 53, 3) := by decide +kernel
theorem dX7_halves_11 : decode cX7_halves 11 = .ok (.ifCond .ne 6, 3) := by decide +kernel
theorem dX7_halves_14 : decode cX7_halves 14 = .ok (.bipush (-2), 2) := by decide +kernel
theorem dX7_halves_16 : decode cX7_halves 16 = .ok (.ireturn, 1) := by decide +kernel
theorem dX7_halves_17 : decode cX7_halves 17 = .ok (.aload_n 0, 1) := by decide +kernel
theorem dX7_halves_18 : decode cX7_halves 18 = .ok (.getfield 22, 3) := by decide +kernel
theorem dX7_halves_21 : decode cX7_halves 21 = .ok (.iload_n 1, 1) := by decide +kernel
theorem dX7_halves_22 : decode cX7_halves 22 = .ok (.iaload, 1) := by decide +kernel
theorem dX7_halves_23 : decode cX7_halves 23 = .ok (.istore_n 2, 1) := by decide +kernel
theorem dX7_halves_24 : decode cX7_halves 24 = .ok (.aload_n 0, 1) := by decide +kernel
theorem dX7_halves_25 : decode cX7_halves 25 = .ok (.getfield 25, 3) := by decide +kernel
theorem dX7_halves_28 : decode cX7_halves 28 = .ok (.iload_n 1, 1) := by decide +kernel
theorem dX7_halves_29 : decode cX7_halves 29 = .ok (.iaload, 1) := by decide +kernel
theorem dX7_halves_30 : decode cX7_halves 30 = .ok (.istore_n 3, 1) := by decide +kernel
theorem dX7_halves_31 : decode cX7_halves 31 = .ok (.aload_n 0, 1) := by decide +kernel
theorem dX7_halves_32 : decode cX7_halves 32 = .ok (.iload_n 1, 1) := by decide +kernel
theorem dX7_halves_33 : decode cX7_halves 33 = .ok (.invokevirtual 145, 3) := by decide +kernel
theorem dX7_halves_36 : decode cX7_halves 36 = .ok (.ifCond .eq 9, 3) := by decide +kernel
theorem dX7_halves_39 : decode cX7_halves 39 = .ok (.iload_n 2, 1) := by decide +kernel
theorem dX7_halves_40 : decode cX7_halves 40 = .ok (.bipush 6, 2) := by decide +kernel
theorem dX7_halves_42 : decode cX7_halves 42 = .ok (.if_icmp .ne 6, 3) := by decide +kernel
theorem dX7_halves_45 : decode cX7_halves 45 = .ok (.bipush (-5), 2) := by decide +kernel
theorem dX7_halves_47 : decode cX7_halves 47 = .ok (.ireturn, 1) := by decide +kernel
theorem dX7_halves_48 : decode cX7_halves 48 = .ok (.aload_n 0, 1) := by decide +kernel
theorem dX7_halves_49 : decode cX7_halves 49 = .ok (.iload_n 2, 1) := by decide +kernel
theorem dX7_halves_50 : decode cX7_halves 50 = .ok (.iload_n 3, 1) := by decide +kernel
theorem dX7_halves_51 : decode cX7_halves 51 = .ok (.invokevirtual 79, 3) := by decide +kernel
theorem dX7_halves_54 : decode cX7_halves 54 = .ok (.istore 4, 2) := by decide +kernel
theorem dX7_halves_56 : decode cX7_halves 56 = .ok (.aload_n 0, 1) := by decide +kernel
theorem dX7_halves_57 : decode cX7_halves 57 = .ok (.iload_n 2, 1) := by decide +kernel
theorem dX7_halves_58 : decode cX7_halves 58 = .ok (.iconst 1, 1) := by decide +kernel
theorem dX7_halves_59 : decode cX7_halves 59 = .ok (.iadd, 1) := by decide +kernel
theorem dX7_halves_60 : decode cX7_halves 60 = .ok (.iload_n 3, 1) := by decide +kernel
theorem dX7_halves_61 : decode cX7_halves 61 = .ok (.iload 4, 2) := by decide +kernel
theorem dX7_halves_63 : decode cX7_halves 63 = .ok (.invokevirtual 88, 3) := by decide +kernel
theorem dX7_halves_66 : decode cX7_halves 66 = .ok (.aload_n 0, 1) := by decide +kernel
theorem dX7_halves_67 : decode cX7_halves 67 = .ok (.iload_n 2, 1) := by decide +kernel
theorem dX7_halves_68 : decode cX7_halves 68 = .ok (.iconst 1, 1) := by decide +kernel
theorem dX7_halves_69 : decode cX7_halves 69 = .ok (.iadd, 1) := by decide +kernel
theorem dX7_halves_70 : decode cX7_halves 70 = .ok (.iload_n 3, 1) := by decide +kernel
theorem dX7_halves_71 : decode cX7_halves 71 = .ok (.iconst 1, 1) := by decide +kernel
theorem dX7_halves_72 : decode cX7_halves 72 = .ok (.iconst 5, 1) := by decide +kernel
theorem dX7_halves_73 : decode cX7_halves 73 = .ok (.iload_n 2, 1) := by decide +kernel
theorem dX7_halves_74 : decode cX7_halves 74 = .ok (.isub, 1) := by decide +kernel
theorem dX7_halves_75 : decode cX7_halves 75 = .ok (.ishl, 1) := by decide +kernel
theorem dX7_halves_76 : decode cX7_halves 76 = .ok (.iadd, 1) := by decide +kernel
theorem dX7_halves_77 : decode cX7_halves 77 = .ok (.iload 4, 2) := by decide +kernel
theorem dX7_halves_79 : decode cX7_halves 79 = .ok (.invokevirtual 88, 3) := by decide +kernel
theorem dX7_halves_82 : decode cX7_halves 82 = .ok (.aload_n 0, 1) := by decide +kernel
theorem dX7_halves_83 : decode cX7_halves 83 = .ok (.iload_n 3, 1) := by decide +kernel
theorem dX7_halves_84 : decode cX7_halves 84 = .ok (.aload_n 0, 1) := by decide +kernel
theorem dX7_halves_85 : decode cX7_halves 85 = .ok (.getfield 95, 3) := by decide +kernel
theorem dX7_halves_88 : decode cX7_halves 88 = .ok (.invokevirtual 142, 3) := by decide +kernel
theorem dX7_halves_91 : decode cX7_halves 91 = .ok (.invokestatic 151, 3) := by decide +kernel
theorem dX7_halves_94 : decode cX7_halves 94 = .ok (.istore 5, 2) := by decide +kernel
theorem dX7_halves_96 : decode cX7_halves 96 = .ok (.aload_n 0, 1) := by decide +kernel
theorem dX7_halves_97 : decode cX7_halves 97 = .ok (.dup, 1) := by decide +kernel
theorem dX7_halves_98 : decode cX7_halves 98 = .ok (.getfield 82, 3) := by decide +kernel
theorem dX7_halves_101 : decode cX7_halves 101 = .ok (.iconst 2, 1) := by decide +kernel
theorem dX7_halves_102 : decode cX7_halves 102 = .ok (.isub, 1) := by decide +kernel
theorem dX7_halves_103 : decode cX7_halves 103 = .ok (.putfield 82, 3) := by decide +kernel
theorem dX7_halves_106 : decode cX7_halves 106 = .ok (.iload 5, 2) := by decide +kernel
theorem dX7_halves_108 : decode cX7_halves 108 = .ok (.ireturn, 1) := by decide +kernel
theorem hd_yX7_halves : (yX7_halves).cls ≠ "java/lang/invoke/MethodHandle" ∧ (yX7_halves).cls ≠ "java/lang/invoke/VarHandle" ∧ (parseMethodDescriptor (yX7_halves).desc).map (fun d => d.parameters.length) = some 1 := ⟨by decide, by decide, by decide +kernel⟩
def f_X7_halves (p0 : Int32) (σ : ZS) : Option (Int32 × ZS) :=
  Option.bind (f_X7_in p0 0 ((σ.1 2) - 1)) (fun q1 => (if q1 = 0 then some ((-2), σ) else ld (σ.2.1 5) 18 p0 (fun y2 => ld (σ.2.1 6) 18 p0 (fun y3 => Option.bind (f_X7_isFalse p0 σ) (fun q4 => (if q4 = 0 then some ((-5), σ) else (if y2 = 6 then some ((-5), σ) else Option.bind (f_X7_rightfulFor y2 y3 σ) (fun q5 => Option.bind (f_X7_addSaying (y2 + 1) y3 q5 σ) (fun q6 => Option.bind (f_X7_addSaying (y2 + 1) (y3 + ((1 : Int32) <<< (((5 : Int32) - y2) &&& 31))) q5 q6) (fun q7 => Option.bind (f_X7_misledBy y3 (q7.1 4) q7) (fun q8 => Option.bind (f_X7_ones q8.1) (fun q9 => some (q9, setI q8.2 2 ((q8.2.1 2) - 2))))))))))))))
set_option maxHeartbeats 4000000 in
set_option maxRecDepth 100000 in
theorem c_X7_halves (l : Launch) (D : va_G) (A : Nat → Prop) (a : Nat → Nat) (x : ClassId × ClassId × ClassId) (σ : ZS) (p0 : Int32) (r : (Int32 × ZS)) (h : f_X7_halves p0 σ = some r) : zM l yX7_halves w_yX7_halves ({ frames := 8, cells := 0, slots := 0, locals := 207 } : Room) D A (tyz x) [.ref (a 0), .int p0] (wM a x σ) (some (.int r.1)) (wM a x r.2) := by
  refine z_start [.ref (a 0), .int p0] (lv := [(0, .ref (a 0)), (1, .int p0)]) (by decide) (Nat.le_of_ble_eq_true rfl) rfl ?_
  intro p e s m args below meth c C hr hlk
  unfold f_X7_halves at h
  refine z_iload_n C 1 rfl dX7_halves_0 ?_
  refine z_iconst C (v := 0) dX7_halves_1 (by decide) ?_
  refine z_aload_n C 0 rfl dX7_halves_2 ?_
  refine z_get C iRX7 0 gM_0 rfl 6 (by decide) fl_RX7_82 rfl dX7_halves_3 ?_
  refine z_iconst C (v := 1) dX7_halves_6 (by decide) ?_
  refine z_isub C dX7_halves_7 ?_
  obtain ⟨q1, hq1, h⟩ := bd_spec h
  refine z_callS1 C [.int p0, .int 0, .int ((σ.1 2) - 1)] [] (v := .int q1) rfl (c_X7_in l D A (tyz x) (wM a x σ) p0 0 ((σ.1 2) - 1) q1 hq1) cd_yX7_in in_RX7 ml_RX7_53 sm_yX7_in hd_yX7_in ⟨⟨Nat.le_of_ble_eq_true rfl, Nat.le_of_ble_eq_true rfl⟩, rfl, rfl⟩ rfl (Nat.le_of_ble_eq_true rfl) ⟨Nat.zero_le _, Nat.zero_le _⟩ dX7_halves_8 ?_
  refine z_if_ne C 17 (by decide) dX7_halves_11 h (fun h => ?_) (fun h => ?_)
  · refine z_aload_n C 0 rfl dX7_halves_17 ?_
    refine z_get C iRX7 0 gM_0 rfl 7 (by decide) fl_RX7_22 rfl dX7_halves_18 ?_
    refine z_iload_n C 1 rfl dX7_halves_21 ?_
    refine z_iald C 5 0 gM_5 rfl dX7_halves_22 h (fun y2 h => ?_)
    refine z_istore_n C [(2, .int y2), (0, .ref (a 0)), (1, .int p0)] rfl (by decide) rfl dX7_halves_23 ?_
    refine z_aload_n C 1 rfl dX7_halves_24 ?_
    refine z_get C iRX7 0 gM_0 rfl 8 (by decide) fl_RX7_25 rfl dX7_halves_25 ?_
    refine z_iload_n C 2 rfl dX7_halves_28 ?_
    refine z_iald C 6 0 gM_6 rfl dX7_halves_29 h (fun y3 h => ?_)
    refine z_istore_n C [(3, .int y3), (2, .int y2), (0, .ref (a 0)), (1, .int p0)] rfl (by decide) rfl dX7_halves_30 ?_
    refine z_aload_n C 2 rfl dX7_halves_31 ?_
    refine z_iload_n C 3 rfl dX7_halves_32 ?_
    obtain ⟨q4, hq4, h⟩ := bd_spec h
    refine z_callV1 C [.int p0] [] (v := (.int q4)) rfl (c_X7_isFalse l D A a x σ p0 q4 hq4) cd_yX7_isFalse in_RX7 ml_RX7_145 im_yX7_isFalse sl_yX7_isFalse gM_0 rfl hd_yX7_isFalse ⟨⟨Nat.le_of_ble_eq_true rfl, Nat.le_of_ble_eq_true rfl⟩, rfl, rfl⟩ rfl (Nat.le_of_ble_eq_true rfl) ⟨Nat.zero_le _, Nat.zero_le _⟩ dX7_halves_33 ?_
    refine z_if_eq C 45 (by decide) dX7_halves_36 h (fun h => ?_) (fun h => ?_)
    · refine z_bipush C (v := (-5)) dX7_halves_45 (by decide) ?_
      cases h
      exact z_iret C hr hlk dX7_halves_47
    · refine z_iload_n C 1 rfl dX7_halves_39 ?_
      refine z_bipush C (v := 6) dX7_halves_40 (by decide) ?_
      refine z_icmp_ne C 48 (by decide) dX7_halves_42 h (fun h => ?_) (fun h => ?_)
      · refine z_aload_n C 2 rfl dX7_halves_48 ?_
        refine z_iload_n C 1 rfl dX7_halves_49 ?_
        refine z_iload_n C 0 rfl dX7_halves_50 ?_
        obtain ⟨q5, hq5, h⟩ := bd_spec h
        refine z_callV1 C [.int y2, .int y3] [] (v := (.int q5)) rfl (c_X7_rightfulFor l D A a x σ y2 y3 q5 hq5) cd_yX7_rightfulFor in_RX7 ml_RX7_79 im_yX7_rightfulFor sl_yX7_rightfulFor gM_0 rfl hd_yX7_rightfulFor ⟨⟨Nat.le_of_ble_eq_true rfl, Nat.le_of_ble_eq_true rfl⟩, rfl, rfl⟩ rfl (Nat.le_of_ble_eq_true rfl) ⟨Nat.zero_le _, Nat.zero_le _⟩ dX7_halves_51 ?_
        refine z_istore C [(4, .int q5), (3, .int y3), (2, .int y2), (0, .ref (a 0)), (1, .int p0)] (by decide) rfl dX7_halves_54 ?_
        refine z_aload_n C 3 rfl dX7_halves_56 ?_
        refine z_iload_n C 2 rfl dX7_halves_57 ?_
        refine z_iconst C (v := 1) dX7_halves_58 (by decide) ?_
        refine z_iadd C dX7_halves_59 ?_
        refine z_iload_n C 1 rfl dX7_halves_60 ?_
        refine z_iload C 0 rfl dX7_halves_61 ?_
        obtain ⟨q6, hq6, h⟩ := bd_spec h
        refine z_callV0 C [.int (y2 + 1), .int y3, .int q5] [] rfl (c_X7_addSaying l D A a x σ (y2 + 1) y3 q5 q6 hq6) cd_yX7_addSaying in_RX7 ml_RX7_88 im_yX7_addSaying sl_yX7_addSaying gM_0 rfl hd_yX7_addSaying ⟨⟨Nat.le_of_ble_eq_true rfl, Nat.le_of_ble_eq_true rfl⟩, rfl, rfl⟩ rfl (Nat.le_of_ble_eq_true rfl) ⟨Nat.zero_le _, Nat.zero_le _⟩ dX7_halves_63 ?_
        refine z_aload_n C 3 rfl dX7_halves_66 ?_
        refine z_iload_n C 2 rfl dX7_halves_67 ?_
        refine z_iconst C (v := 1) dX7_halves_68 (by decide) ?_
        refine z_iadd C dX7_halves_69 ?_
        refine z_iload_n C 1 rfl dX7_halves_70 ?_
        refine z_iconst C (v := 1) dX7_halves_71 (by decide) ?_
        refine z_iconst C (v := 5) dX7_halves_72 (by decide) ?_
        refine z_iload_n C 2 rfl dX7_halves_73 ?_
        refine z_isub C dX7_halves_74 ?_
        refine z_ishl C dX7_halves_75 ?_
        refine z_iadd C dX7_halves_76 ?_
        refine z_iload C 0 rfl dX7_halves_77 ?_
        obtain ⟨q7, hq7, h⟩ := bd_spec h
        refine z_callV0 C [.int (y2 + 1), .int (y3 + ((1 : Int32) <<< (((5 : Int32) - y2) &&& 31))), .int q5] [] rfl (c_X7_addSaying l D A a x q6 (y2 + 1) (y3 + ((1 : Int32) <<< (((5 : Int32) - y2) &&& 31))) q5 q7 hq7) cd_yX7_addSaying in_RX7 ml_RX7_88 im_yX7_addSaying sl_yX7_addSaying gM_0 rfl hd_yX7_addSaying ⟨⟨Nat.le_of_ble_eq_true rfl, Nat.le_of_ble_eq_true rfl⟩, rfl, rfl⟩ rfl (Nat.le_of_ble_eq_true rfl) ⟨Nat.zero_le _, Nat.zero_le _⟩ dX7_halves_79 ?_
        refine z_aload_n C 3 rfl dX7_halves_82 ?_
        refine z_iload_n C 1 rfl dX7_halves_83 ?_
        refine z_aload_n C 3 rfl dX7_halves_84 ?_
        refine z_get C iRX7 0 gM_0 rfl 11 (by decide) fl_RX7_95 rfl dX7_halves_85 ?_
        obtain ⟨q8, hq8, h⟩ := bd_spec h
        refine z_callV1 C [.int y3, .int (q7.1 4)] [] (v := (.int q8.1)) rfl (c_X7_misledBy l D A a x q7 y3 (q7.1 4) q8 hq8) cd_yX7_misledBy in_RX7 ml_RX7_142 im_yX7_misledBy sl_yX7_misledBy gM_0 rfl hd_yX7_misledBy ⟨⟨Nat.le_of_ble_eq_true rfl, Nat.le_of_ble_eq_true rfl⟩, rfl, rfl⟩ rfl (Nat.le_of_ble_eq_true rfl) ⟨Nat.zero_le _, Nat.zero_le _⟩ dX7_halves_88 ?_
        obtain ⟨q9, hq9, h⟩ := bd_spec h
        refine z_callS1 C [.int q8.1] [] (v := .int q9) rfl (c_X7_ones l D A (tyz x) (wM a x q8.2) q8.1 q9 hq9) cd_yX7_ones in_RX7 ml_RX7_151 sm_yX7_ones hd_yX7_ones ⟨⟨Nat.le_of_ble_eq_true rfl, Nat.le_of_ble_eq_true rfl⟩, rfl, rfl⟩ rfl (Nat.le_of_ble_eq_true rfl) ⟨Nat.zero_le _, Nat.zero_le _⟩ dX7_halves_91 ?_
        refine z_istore C [(5, .int q9), (4, .int q5), (3, .int y3), (2, .int y2), (0, .ref (a 0)), (1, .int p0)] (by decide) rfl dX7_halves_94 ?_
        refine z_aload_n C 4 rfl dX7_halves_96 ?_
        refine z_dup C rfl dX7_halves_97 ?_
        refine z_get C iRX7 0 gM_0 rfl 6 (by decide) fl_RX7_82 rfl dX7_halves_98 ?_
        refine z_iconst C (v := 2) dX7_halves_101 (by decide) ?_
        refine z_isub C dX7_halves_102 ?_
        refine z_put C iRX7 tyX7 tyX7_ok nmX7 0 gM_0 rfl 6 (by decide) fl_RX7_82 rfl (ty := .int) (by decide +kernel) ⟨rfl, rfl⟩ (Nat.le_of_ble_eq_true rfl) pM_0_6 dX7_halves_103 ?_
        refine z_iload C 0 rfl dX7_halves_106 ?_
        cases h
        exact z_iret C hr hlk dX7_halves_108
      · refine z_bipush C (v := (-5)) dX7_halves_45 (by decide) ?_
        cases h
        exact z_iret C hr hlk dX7_halves_47
  · refine z_bipush C (v := (-2)) dX7_halves_14 (by decide) ?_
    cases h
    exact z_iret C hr hlk dX7_halves_16
theorem dX7_count_0 : decode cX7_count 0 = .ok (.iconst 0, 1) := by decide +kernel
theorem dX7_count_1 : decode cX7_count 1 = .ok (.istore_n 2, 1) := by decide +kernel
theorem dX7_count_2 : decode cX7_count 2 = .ok (.iload_n 1, 1) := by decide +kernel
theorem dX7_count_3 : decode cX7_count 3 = .ok (.tableswitch 137 0 4 #[33, 38, 93, 98, 103], 33) := by decide +kernel
theorem dX7_count_36 : decode cX7_count 36 = .ok (.aload_n 0, 1) := by decide +kernel
theorem dX7_count_37 : decode cX7_count 37 = .ok (.getfield 49, 3) := by decide +kernel
theorem dX7_count_40 : decode cX7_count 40 = .ok (.ireturn, 1) := by decide +kernel
theorem dX7_count_41 : decode cX7_count 41 = .ok (.iconst 0, 1) := by decide +kernel
theorem dX7_count_42 : decode cX7_count 42 = .ok (.istore_n 3, 1) := by decide +kernel
theorem dX7_count_43 : decode cX7_count 43 = .ok (.iload_n 3, 1) := by decide +kernel
theorem dX7_count_44 : decode cX7_count 44 = .ok (.bipush 100, 2) := by decide +kernel
theorem dX7_count_46 : decode cX7_count 46 = .ok (.if_icmp .ge 48, 3) := by decide +kernel
theorem dX7_count_49 : decode cX7_count 49 = .ok (.iload_n 2, 1) := by decide +kernel
theorem dX7_count_50 : decode cX7_count 50 = .ok (.iload_n 3, 1) := by decide +kernel
theorem dX7_count_51 : decode cX7_count 51 = .ok (.bipush 10, 2) := by decide +kernel
theorem dX7_count_53 : decode cX7_count 53 = .ok (.idiv, 1) := by decide +kernel
theorem dX7_count_54 : decode cX7_count 54 = .ok (.iload_n 3, 1) := by decide +kernel
theorem dX7_count_55 : decode cX7_count 55 = .ok (.bipush 10, 2) := by decide +kernel
theorem dX7_count_57 : decode cX7_count 57 = .ok (.irem, 1) := by decide +kernel
theorem dX7_count_58 : decode cX7_count 58 = .ok (.if_icmp .ge 27, 3) := by decide +kernel
theorem dX7_count_61 : decode cX7_count 61 = .ok (.iload_n 3, 1) := by decide +kernel
theorem dX7_count_62 : decode cX7_count 62 = .ok (.bipush 10, 2) := by decide +kernel
theorem dX7_count_64 : decode cX7_count 64 = .ok (.irem, 1) := by decide +kernel
theorem dX7_count_65 : decode cX7_count 65 = .ok (.aload_n 0, 1) := by decide +kernel
theorem dX7_count_66 : decode cX7_count 66 = .ok (.getfield 49, 3) := by decide +kernel
theorem dX7_count_69 : decode cX7_count 69 = .ok (.if_icmp .ge 16, 3) := by decide +kernel
theorem dX7_count_72 : decode cX7_count 72 = .ok (.aload_n 0, 1) := by decide +kernel
theorem dX7_count_73 : decode cX7_count 73 = .ok (.getfield 7, 3) := by decide +kernel
theorem dX7_count_76 : decode cX7_count 76 = .ok (.iload_n 3, 1) := by decide +kernel
theorem dX7_count_77 : decode cX7_count 77 = .ok (.iaload, 1) := by decide +kernel
theorem dX7_count_78 : decode cX7_count 78 = .ok (.ifCond .eq 7, 3) := by decide +kernel
theorem dX7_count_81 : decode cX7_count 81 = .ok (.iconst 1, 1) := by decide +kernel
theorem dX7_count_82 : decode cX7_count 82 = .ok (.goto 4, 3) := by decide +kernel
theorem dX7_count_85 : decode cX7_count 85 = .ok (.iconst 0, 1) := by decide +kernel
theorem dX7_count_86 : decode cX7_count 86 = .ok (.iadd, 1) := by decide +kernel
theorem dX7_count_87 : decode cX7_count 87 = .ok (.istore_n 2, 1) := by decide +kernel
theorem dX7_count_88 : decode cX7_count 88 = .ok (.iinc 3 1, 3) := by decide +kernel
theorem dX7_count_91 : decode cX7_count 91 = .ok (.goto (-48), 3) := by decide +kernel
theorem dX7_count_94 : decode cX7_count 94 = .ok (.iload_n 2, 1) := by decide +kernel
theorem dX7_count_95 : decode cX7_count 95 = .ok (.ireturn, 1) := by decide +kernel
theorem dX7_count_96 : decode cX7_count 96 = .ok (.aload_n 0, 1) := by decide +kernel
theorem dX7_count_97 : decode cX7_count 97 = .ok (.getfield 69, 3) := by decide +kernel
theorem dX7_count_100 : decode cX7_count 100 = .ok (.ireturn, 1) := by decide +kernel
theorem dX7_count_101 : decode cX7_count 101 = .ok (.aload_n 0, 1) := by decide +kernel
theorem dX7_count_102 : decode cX7_count 102 = .ok (.getfield 82, 3) := by decide +kernel
theorem dX7_count_105 : decode cX7_count 105 = .ok (.ireturn, 1) := by decide +kernel
theorem dX7_count_106 : decode cX7_count 106 = .ok (.iconst 0, 1) := by decide +kernel
theorem dX7_count_107 : decode cX7_count 107 = .ok (.istore_n 3, 1) := by decide +kernel
theorem dX7_count_108 : decode cX7_count 108 = .ok (.iload_n 3, 1) := by decide +kernel
theorem dX7_count_109 : decode cX7_count 109 = .ok (.aload_n 0, 1) := by decide +kernel
theorem dX7_count_110 : decode cX7_count 110 = .ok (.getfield 82, 3) := by decide +kernel
theorem dX7_count_113 : decode cX7_count 113 = .ok (.if_icmp .ge 25, 3) := by decide +kernel
theorem dX7_count_116 : decode cX7_count 116 = .ok (.iload_n 2, 1) := by decide +kernel
theorem dX7_count_117 : decode cX7_count 117 = .ok (.aload_n 0, 1) := by decide +kernel
theorem dX7_count_118 : decode cX7_count 118 = .ok (.iload_n 3, 1) := by decide +kernel
theorem dX7_count_119 : decode cX7_count 119 = .ok (.invokevirtual 145, 3) := by decide +kernel
theorem dX7_count_122 : decode cX7_count 122 = .ok (.ifCond .eq 7, 3) := by decide +kernel
theorem dX7_count_125 : decode cX7_count 125 = .ok (.iconst 1, 1) := by decide +kernel
theorem dX7_count_126 : decode cX7_count 126 = .ok (.goto 4, 3) := by decide +kernel
theorem dX7_count_129 : decode cX7_count 129 = .ok (.iconst 0, 1) := by decide +kernel
theorem dX7_count_130 : decode cX7_count 130 = .ok (.iadd, 1) := by decide +kernel
theorem dX7_count_131 : decode cX7_count 131 = .ok (.istore_n 2, 1) := by decide +kernel
theorem dX7_count_132 : decode cX7_count 132 = .ok (.iinc 3 1, 3) := by decide +kernel
theorem dX7_count_135 : decode cX7_count 135 = .ok (.goto (-27), 3) := by decide +kernel
theorem dX7_count_138 : decode cX7_count 138 = .ok (.iload_n 2, 1) := by decide +kernel
theorem dX7_count_139 : decode cX7_count 139 = .ok (.ireturn, 1) := by decide +kernel
theorem dX7_count_140 : decode cX7_count 140 = .ok (.bipush (-2), 2) := by decide +kernel
theorem dX7_count_142 : decode cX7_count 142 = .ok (.ireturn, 1) := by decide +kernel
theorem hd_yX7_count : (yX7_count).cls ≠ "java/lang/invoke/MethodHandle" ∧ (yX7_count).cls ≠ "java/lang/invoke/VarHandle" ∧ (parseMethodDescriptor (yX7_count).desc).map (fun d => d.parameters.length) = some 1 := ⟨by decide, by decide, by decide +kernel⟩
def f_X7_count_B108 (σ : ZS) (t1 : (Int32 × Int32)) : Option ((Int32 × Int32) ⊕ Int32) :=
  (if (σ.1 2) ≤ t1.2 then wi (some t1.1) else Option.bind (f_X7_isFalse t1.2 σ) (fun q1 => (if q1 = 0 then some (.inl (t1.1 + 0, t1.2 + 1)) else some (.inl (t1.1 + 1, t1.2 + 1)))))
def f_X7_count_J85 (l3 : Int32) (s0 : Int32) (σ : ZS) : Option ((Int32 × Int32) ⊕ Int32) :=
  some (.inl (s0 + 0, l3 + 1))
def f_X7_count_B43 (σ : ZS) (t1 : (Int32 × Int32)) : Option ((Int32 × Int32) ⊕ Int32) :=
  (if 100 ≤ t1.2 then wi (some t1.1) else ck (decide (¬ 10 = 0)) (ck (decide (¬ 10 = 0)) ((if (t1.2 - t1.2 / 10 * 10) ≤ (t1.2 / 10) then f_X7_count_J85 t1.2 t1.1 σ else ck (decide (¬ 10 = 0)) ((if (σ.1 0) ≤ (t1.2 - t1.2 / 10 * 10) then f_X7_count_J85 t1.2 t1.1 σ else ld (σ.2.1 1) 100 t1.2 (fun y2 => (if y2 = 0 then f_X7_count_J85 t1.2 t1.1 σ else some (.inl (t1.1 + 1, t1.2 + 1))))))))))
def f_X7_count (p0 : Int32) (σ : ZS) : Option Int32 :=
  (if p0 = 0 then some (σ.1 0) else (if p0 = 1 then lp zF (f_X7_count_B43 σ) (0, 0) else (if p0 = 2 then some (σ.1 1) else (if p0 = 3 then some (σ.1 2) else (if p0 = 4 then lp zF (f_X7_count_B108 σ) (0, 0) else some (-2))))))
set_option maxHeartbeats 4000000 in
set_option maxRecDepth 100000 in
theorem c_X7_count (l : Launch) (D : va_G) (A : Nat → Prop) (a : Nat → Nat) (x : ClassId × ClassId × ClassId) (σ : ZS) (p0 : Int32) (r : Int32) (h : f_X7_count p0 σ = some r) : zM l yX7_count w_yX7_count ({ frames := 3, cells := 0, slots := 0, locals := 70 } : Room) D A (tyz x) [.ref (a 0), .int p0] (wM a x σ) (some (.int r)) (wM a x σ) := by
  refine z_start [.ref (a 0), .int p0] (lv := [(0, .ref (a 0)), (1, .int p0)]) (by decide) (Nat.le_of_ble_eq_true rfl) rfl ?_
  intro p e s m args below meth c C hr hlk
  unfold f_X7_count at h
  refine z_iconst C (v := 0) dX7_count_0 (by decide) ?_
  refine z_istore_n C [(2, .int 0), (0, .ref (a 0)), (1, .int p0)] rfl (by decide) rfl dX7_count_1 ?_
  refine z_iload_n C 2 rfl dX7_count_2 ?_
  by_cases hs0 : p0 = 0
  · rw [if_pos hs0] at h
    refine z_swIn (α := Unit) C 36 0 dX7_count_3 (by rw [hs0]; decide) (by decide) (by decide) rfl (by decide) ?_
    refine z_aload_n C 1 rfl dX7_count_36 ?_
    refine z_get C iRX7 0 gM_0 rfl 0 (by decide) fl_RX7_49 rfl dX7_count_37 ?_
    cases h
    exact z_iret C hr hlk dX7_count_40
  rw [if_neg hs0] at h
  by_cases hs1 : p0 = 1
  · rw [if_pos hs1] at h
    refine z_swIn (α := Unit) C 41 1 dX7_count_3 (by rw [hs1]; decide) (by decide) (by decide) rfl (by decide) ?_
    refine z_iconst C (v := 0) dX7_count_41 (by decide) ?_
    refine z_istore_n C [(3, .int 0), (2, .int 0), (0, .ref (a 0)), (1, .int p0)] rfl (by decide) rfl dX7_count_42 ?_
    refine z_sub C [2, 1, 0] (lv' := [(0, .ref (a 0)), (2, .int 0), (3, .int 0)]) rfl ?_
    have L43 : ∀ (n : Nat) (t1 : (Int32 × Int32)), lp n (f_X7_count_B43 σ) t1 = some r → zV p l e ({ frames := 3, cells := 0, slots := 0, locals := 70 } : Room) s m args below meth c 0 0 (MQ below (zQ D A (some (.int r)) (wM a x σ)) args s 0 0 A) D A 4 (wM a x σ) 43 [(0, .ref (a 0)), (2, .int t1.1), (3, .int t1.2)] [] := by
      intro n1
      induction n1 with
      | zero => exact fun _ h => (lp_zero h).elim
      | succ n1 ih1 =>
        intro t1 h
        obtain ⟨u1, h, hk1⟩ := lp_succ h
        have J85 : ∀ (l3_85 : Int32) (s0_85 : Int32), f_X7_count_J85 l3_85 s0_85 σ = some u1 → zV p l e ({ frames := 3, cells := 0, slots := 0, locals := 70 } : Room) s m args below meth c 0 0 (MQ below (zQ D A (some (.int r)) (wM a x σ)) args s 0 0 A) D A 4 (wM a x σ) 85 [(0, .ref (a 0)), (3, .int l3_85)] [.int s0_85] := by
          intro l3_85 s0_85 h
          unfold f_X7_count_J85 at h
          refine z_iconst C (v := 0) dX7_count_85 (by decide) ?_
          refine z_iadd C dX7_count_86 ?_
          refine z_istore_n C [(2, .int (s0_85 + 0)), (0, .ref (a 0)), (3, .int l3_85)] rfl (by decide) rfl dX7_count_87 ?_
          refine z_iinc C (v := l3_85 + 1) [(3, .int (l3_85 + 1)), (2, .int (s0_85 + 0)), (0, .ref (a 0))] 2 rfl rfl (by decide) rfl dX7_count_88 ?_
          refine z_goto C 43 (by decide) dX7_count_91 ?_
          refine z_sub C [2, 1, 0] (lv' := [(0, .ref (a 0)), (2, .int (s0_85 + 0)), (3, .int (l3_85 + 1))]) rfl ?_
          exact ih1 _ (uninl h hk1)
        unfold f_X7_count_B43 at h
        refine z_iload_n C 2 rfl dX7_count_43 ?_
        refine z_bipush C (v := 100) dX7_count_44 (by decide) ?_
        refine z_icmp_ge C 94 (by decide) dX7_count_46 h (fun h => ?_) (fun h => ?_)
        · refine z_iload_n C 1 rfl dX7_count_94 ?_
          have h := unwi h hk1
          cases h
          exact z_iret C hr hlk dX7_count_95
        · refine z_iload_n C 1 rfl dX7_count_49 ?_
          refine z_iload_n C 2 rfl dX7_count_50 ?_
          refine z_bipush C (v := 10) dX7_count_51 (by decide) ?_
          refine z_idiv C dX7_count_53 h (fun h => ?_)
          refine z_iload_n C 2 rfl dX7_count_54 ?_
          refine z_bipush C (v := 10) dX7_count_55 (by decide) ?_
          refine z_irem C dX7_count_57 h (fun h => ?_)
          refine z_icmp_ge C 85 (by decide) dX7_count_58 h (fun h => ?_) (fun h => ?_)
          · refine z_sub C [0, 2] (lv' := [(0, .ref (a 0)), (3, .int t1.2)]) rfl ?_
            exact J85 _ _ h
          · refine z_iload_n C 2 rfl dX7_count_61 ?_
            refine z_bipush C (v := 10) dX7_count_62 (by decide) ?_
            refine z_irem C dX7_count_64 h (fun h => ?_)
            refine z_aload_n C 0 rfl dX7_count_65 ?_
            refine z_get C iRX7 0 gM_0 rfl 0 (by decide) fl_RX7_49 rfl dX7_count_66 ?_
            refine z_icmp_ge C 85 (by decide) dX7_count_69 h (fun h => ?_) (fun h => ?_)
            · refine z_sub C [0, 2] (lv' := [(0, .ref (a 0)), (3, .int t1.2)]) rfl ?_
              exact J85 _ _ h
            · refine z_aload_n C 0 rfl dX7_count_72 ?_
              refine z_get C iRX7 0 gM_0 rfl 1 (by decide) fl_RX7_7 rfl dX7_count_73 ?_
              refine z_iload_n C 2 rfl dX7_count_76 ?_
              refine z_iald C 1 0 gM_1 rfl dX7_count_77 h (fun y1 h => ?_)
              refine z_if_eq C 85 (by decide) dX7_count_78 h (fun h => ?_) (fun h => ?_)
              · refine z_sub C [0, 2] (lv' := [(0, .ref (a 0)), (3, .int t1.2)]) rfl ?_
                exact J85 _ _ h
              · refine z_iconst C (v := 1) dX7_count_81 (by decide) ?_
                refine z_goto C 86 (by decide) dX7_count_82 ?_
                refine z_iadd C dX7_count_86 ?_
                refine z_istore_n C [(2, .int (t1.1 + 1)), (0, .ref (a 0)), (3, .int t1.2)] rfl (by decide) rfl dX7_count_87 ?_
                refine z_iinc C (v := t1.2 + 1) [(3, .int (t1.2 + 1)), (2, .int (t1.1 + 1)), (0, .ref (a 0))] 2 rfl rfl (by decide) rfl dX7_count_88 ?_
                refine z_goto C 43 (by decide) dX7_count_91 ?_
                refine z_sub C [2, 1, 0] (lv' := [(0, .ref (a 0)), (2, .int (t1.1 + 1)), (3, .int (t1.2 + 1))]) rfl ?_
                exact ih1 _ (uninl h hk1)
    exact L43 _ _ h
  rw [if_neg hs1] at h
  by_cases hs2 : p0 = 2
  · rw [if_pos hs2] at h
    refine z_swIn (α := Unit) C 96 2 dX7_count_3 (by rw [hs2]; decide) (by decide) (by decide) rfl (by decide) ?_
    refine z_aload_n C 1 rfl dX7_count_96 ?_
    refine z_get C iRX7 0 gM_0 rfl 2 (by decide) fl_RX7_69 rfl dX7_count_97 ?_
    cases h
    exact z_iret C hr hlk dX7_count_100
  rw [if_neg hs2] at h
  by_cases hs3 : p0 = 3
  · rw [if_pos hs3] at h
    refine z_swIn (α := Unit) C 101 3 dX7_count_3 (by rw [hs3]; decide) (by decide) (by decide) rfl (by decide) ?_
    refine z_aload_n C 1 rfl dX7_count_101 ?_
    refine z_get C iRX7 0 gM_0 rfl 6 (by decide) fl_RX7_82 rfl dX7_count_102 ?_
    cases h
    exact z_iret C hr hlk dX7_count_105
  rw [if_neg hs3] at h
  by_cases hs4 : p0 = 4
  · rw [if_pos hs4] at h
    refine z_swIn (α := Unit) C 106 4 dX7_count_3 (by rw [hs4]; decide) (by decide) (by decide) rfl (by decide) ?_
    refine z_iconst C (v := 0) dX7_count_106 (by decide) ?_
    refine z_istore_n C [(3, .int 0), (2, .int 0), (0, .ref (a 0)), (1, .int p0)] rfl (by decide) rfl dX7_count_107 ?_
    refine z_sub C [2, 1, 0] (lv' := [(0, .ref (a 0)), (2, .int 0), (3, .int 0)]) rfl ?_
    have L108 : ∀ (n : Nat) (t1 : (Int32 × Int32)), lp n (f_X7_count_B108 σ) t1 = some r → zV p l e ({ frames := 3, cells := 0, slots := 0, locals := 70 } : Room) s m args below meth c 0 0 (MQ below (zQ D A (some (.int r)) (wM a x σ)) args s 0 0 A) D A 4 (wM a x σ) 108 [(0, .ref (a 0)), (2, .int t1.1), (3, .int t1.2)] [] := by
      intro n1
      induction n1 with
      | zero => exact fun _ h => (lp_zero h).elim
      | succ n1 ih1 =>
        intro t1 h
        obtain ⟨u1, h, hk1⟩ := lp_succ h
        unfold f_X7_count_B108 at h
        refine z_iload_n C 2 rfl dX7_count_108 ?_
        refine z_aload_n C 0 rfl dX7_count_109 ?_
        refine z_get C iRX7 0 gM_0 rfl 6 (by decide) fl_RX7_82 rfl dX7_count_110 ?_
        refine z_icmp_ge C 138 (by decide) dX7_count_113 h (fun h => ?_) (fun h => ?_)
        · refine z_iload_n C 1 rfl dX7_count_138 ?_
          have h := unwi h hk1
          cases h
          exact z_iret C hr hlk dX7_count_139
        · refine z_iload_n C 1 rfl dX7_count_116 ?_
          refine z_aload_n C 0 rfl dX7_count_117 ?_
          refine z_iload_n C 2 rfl dX7_count_118 ?_
          obtain ⟨q2, hq2, h⟩ := bd_spec h
          refine z_callV1 C [.int t1.2] [.int t1.1] (v := (.int q2)) rfl (c_X7_isFalse l D A a x σ t1.2 q2 hq2) cd_yX7_isFalse in_RX7 ml_RX7_145 im_yX7_isFalse sl_yX7_isFalse gM_0 rfl hd_yX7_isFalse ⟨⟨Nat.le_of_ble_eq_true rfl, Nat.le_of_ble_eq_true rfl⟩, rfl, rfl⟩ rfl (Nat.le_of_ble_eq_true rfl) ⟨Nat.zero_le _, Nat.zero_le _⟩ dX7_count_119 ?_
          refine z_if_eq C 129 (by decide) dX7_count_122 h (fun h => ?_) (fun h => ?_)
          · refine z_iconst C (v := 0) dX7_count_129 (by decide) ?_
            refine z_iadd C dX7_count_130 ?_
            refine z_istore_n C [(2, .int (t1.1 + 0)), (0, .ref (a 0)), (3, .int t1.2)] rfl (by decide) rfl dX7_count_131 ?_
            refine z_iinc C (v := t1.2 + 1) [(3, .int (t1.2 + 1)), (2, .int (t1.1 + 0)), (0, .ref (a 0))] 2 rfl rfl (by decide) rfl dX7_count_132 ?_
            refine z_goto C 108 (by decide) dX7_count_135 ?_
            refine z_sub C [2, 1, 0] (lv' := [(0, .ref (a 0)), (2, .int (t1.1 + 0)), (3, .int (t1.2 + 1))]) rfl ?_
            exact ih1 _ (uninl h hk1)
          · refine z_iconst C (v := 1) dX7_count_125 (by decide) ?_
            refine z_goto C 130 (by decide) dX7_count_126 ?_
            refine z_iadd C dX7_count_130 ?_
            refine z_istore_n C [(2, .int (t1.1 + 1)), (0, .ref (a 0)), (3, .int t1.2)] rfl (by decide) rfl dX7_count_131 ?_
            refine z_iinc C (v := t1.2 + 1) [(3, .int (t1.2 + 1)), (2, .int (t1.1 + 1)), (0, .ref (a 0))] 2 rfl rfl (by decide) rfl dX7_count_132 ?_
            refine z_goto C 108 (by decide) dX7_count_135 ?_
            refine z_sub C [2, 1, 0] (lv' := [(0, .ref (a 0)), (2, .int (t1.1 + 1)), (3, .int (t1.2 + 1))]) rfl ?_
            exact ih1 _ (uninl h hk1)
    exact L108 _ _ h
  rw [if_neg hs4] at h
  refine z_swOut C 140 dX7_count_3 (zx_out5 hs0 hs1 hs2 hs3 hs4) (by decide) ?_
  refine z_bipush C (v := (-2)) dX7_count_140 (by decide) ?_
  cases h
  exact z_iret C hr hlk dX7_count_142
