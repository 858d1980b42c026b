theorem dX7_isOn_0 : decode cX7_isOn 0 = .ok (.iconst 0, 1) := by decide +kernel
theorem dX7_isOn_1 : decode cX7_isOn 1 = .ok (.istore_n 3, 1) := by decide +kernel
theorem dX7_isOn_2 : decode cX7_isOn 2 = .ok (.iconst 0, 1) := by decide +kernel
theorem dX7_isOn_3 : decode cX7_isOn 3 = .ok (.istore 4, 2) := by decide +kernel
theorem dX7_isOn_5 : decode cX7_isOn 5 = .ok (.iload 4, 2) := by decide +kernel
theorem dX7_isOn_7 : decode cX7_isOn 7 = .ok (.aload_n 0, 1) := by decide +kernel
theorem dX7_isOn_8 : decode cX7_isOn 8 = .ok (.getfield 40, 3) := by decide +kernel
theorem dX7_isOn_11 : decode cX7_isOn 11 = .ok (.iload_n 1, 1) := by decide +kernel
theorem dX7_isOn_12 : decode cX7_isOn 12 = .ok (.iaload, 1) := by decide +kernel
theorem dX7_isOn_13 : decode cX7_isOn 13 = .ok (.if_icmp .ge 35, 3) := by decide +kernel
theorem dX7_isOn_16 : decode cX7_isOn 16 = .ok (.iload_n 3, 1) := by decide +kernel
theorem dX7_isOn_17 : decode cX7_isOn 17 = .ok (.ifCond .ne 19, 3) := by decide +kernel
theorem dX7_isOn_20 : decode cX7_isOn 20 = .ok (.aload_n 0, 1) := by decide +kernel
theorem dX7_isOn_21 : decode cX7_isOn 21 = .ok (.getfield 37, 3) := by decide +kernel
theorem dX7_isOn_24 : decode cX7_isOn 24 = .ok (.bipush 10, 2) := by decide +kernel
theorem dX7_isOn_26 : decode cX7_isOn 26 = .ok (.iload_n 1, 1) := by decide +kernel
theorem dX7_isOn_27 : decode cX7_isOn 27 = .ok (.imul, 1) := by decide +kernel
theorem dX7_isOn_28 : decode cX7_isOn 28 = .ok (.iload 4, 2) := by decide +kernel
theorem dX7_isOn_30 : decode cX7_isOn 30 = .ok (.iadd, 1) := by decide +kernel
theorem dX7_isOn_31 : decode cX7_isOn 31 = .ok (.iaload, 1) := by decide +kernel
theorem dX7_isOn_32 : decode cX7_isOn 32 = .ok (.iload_n 2, 1) := by decide +kernel
theorem dX7_isOn_33 : decode cX7_isOn 33 = .ok (.if_icmp .ne 7, 3) := by decide +kernel
theorem dX7_isOn_36 : decode cX7_isOn 36 = .ok (.iconst 1, 1) := by decide +kernel
theorem dX7_isOn_37 : decode cX7_isOn 37 = .ok (.goto 4, 3) := by decide +kernel
theorem dX7_isOn_40 : decode cX7_isOn 40 = .ok (.iconst 0, 1) := by decide +kernel
theorem dX7_isOn_41 : decode cX7_isOn 41 = .ok (.istore_n 3, 1) := by decide +kernel
theorem dX7_isOn_42 : decode cX7_isOn 42 = .ok (.iinc 4 1, 3) := by decide +kernel
theorem dX7_isOn_45 : decode cX7_isOn 45 = .ok (.goto (-40), 3) := by decide +kernel
theorem dX7_isOn_48 : decode cX7_isOn 48 = .ok (.iload_n 3, 1) := by decide +kernel
theorem dX7_isOn_49 : decode cX7_isOn 49 = .ok (.ireturn, 1) := by decide +kernel
theorem hd_yX7_isOn : (yX7_isOn).cls ≠ "java/lang/invoke/MethodHandle" ∧ (yX7_isOn).cls ≠ "java/lang/invoke/VarHandle" ∧ (parseMethodDescriptor (yX7_isOn).desc).map (fun d => d.parameters.length) = some 2 := ⟨by decide, by decide, by decide +kernel⟩
def f_X7_isOn_J36 (l1 : Int32) (l2 : Int32) (l4 : Int32) (σ : ZS) : Option ((Int32 × Int32) ⊕ Int32) :=
  some (.inl (1, l4 + 1))
def f_X7_isOn_B5 (l1 : Int32) (l2 : Int32) (σ : ZS) (t1 : (Int32 × Int32)) : Option ((Int32 × Int32) ⊕ Int32) :=
  ld (σ.2.1 11) 10 l1 (fun y1 => (if y1 ≤ t1.2 then ck (isB t1.1) (wi (some t1.1)) else (if t1.1 = 0 then ld (σ.2.1 10) 100 (((10 : Int32) * l1) + t1.2) (fun y2 => (if y2 = l2 then f_X7_isOn_J36 l1 l2 t1.2 σ else some (.inl (0, t1.2 + 1)))) else f_X7_isOn_J36 l1 l2 t1.2 σ)))
def f_X7_isOn (p0 : Int32) (p1 : Int32) (σ : ZS) : Option Int32 :=
  lp zF (f_X7_isOn_B5 p0 p1 σ) (0, 0)
set_option maxHeartbeats 4000000 in
set_option maxRecDepth 100000 in
theorem c_X7_isOn (l : Launch) (D : va_G) (A : Nat → Prop) (a : Nat → Nat) (x : ClassId × ClassId × ClassId) (σ : ZS) (p0 : Int32) (p1 : Int32) (r : Int32) (h : f_X7_isOn p0 p1 σ = some r) : zM l yX7_isOn w_yX7_isOn ({ frames := 0, cells := 0, slots := 0, locals := 0 } : Room) D A (tyz x) [.ref (a 0), .int p0, .int p1] (wM a x σ) (some (.int r)) (wM a x σ) := by
  refine z_start [.ref (a 0), .int p0, .int p1] (lv := [(0, .ref (a 0)), (1, .int p0), (2, .int p1)]) (by decide) (Nat.le_of_ble_eq_true rfl) rfl ?_
  intro p e s m args below meth c C hr hlk
  unfold f_X7_isOn at h
  refine z_iconst C (v := 0) dX7_isOn_0 (by decide) ?_
  refine z_istore_n C [(3, .int 0), (0, .ref (a 0)), (1, .int p0), (2, .int p1)] rfl (by decide) rfl dX7_isOn_1 ?_
  refine z_iconst C (v := 0) dX7_isOn_2 (by decide) ?_
  refine z_istore C [(4, .int 0), (3, .int 0), (0, .ref (a 0)), (1, .int p0), (2, .int p1)] (by decide) rfl dX7_isOn_3 ?_
  refine z_sub C [2, 3, 4, 1, 0] (lv' := [(0, .ref (a 0)), (1, .int p0), (2, .int p1), (3, .int 0), (4, .int 0)]) rfl ?_
  have L5 : ∀ (n : Nat) (t1 : (Int32 × Int32)), lp n (f_X7_isOn_B5 p0 p1 σ) t1 = some r → zV p l e ({ frames := 0, cells := 0, slots := 0, locals := 0 } : Room) s m args below meth c 0 0 (MQ below (zQ D A (some (.int r)) (wM a x σ)) args s 0 0 A) D A 5 (wM a x σ) 5 [(0, .ref (a 0)), (1, .int p0), (2, .int p1), (3, .int t1.1), (4, .int t1.2)] [] := by
    intro n1
    induction n1 with
    | zero => exact fun _ h => (lp_zero h).elim
    | succ n1 ih1 =>
      intro t1 h
      obtain ⟨u1, h, hk1⟩ := lp_succ h
      have J36 : ∀ (l4_36 : Int32), f_X7_isOn_J36 p0 p1 l4_36 σ = some u1 → zV p l e ({ frames := 0, cells := 0, slots := 0, locals := 0 } : Room) s m args below meth c 0 0 (MQ below (zQ D A (some (.int r)) (wM a x σ)) args s 0 0 A) D A 5 (wM a x σ) 36 [(0, .ref (a 0)), (1, .int p0), (2, .int p1), (4, .int l4_36)] [] := by
        intro l4_36 h
        unfold f_X7_isOn_J36 at h
        refine z_iconst C (v := 1) dX7_isOn_36 (by decide) ?_
        refine z_goto C 41 (by decide) dX7_isOn_37 ?_
        refine z_istore_n C [(3, .int 1), (0, .ref (a 0)), (1, .int p0), (2, .int p1), (4, .int l4_36)] rfl (by decide) rfl dX7_isOn_41 ?_
        refine z_iinc C (v := l4_36 + 1) [(4, .int (l4_36 + 1)), (3, .int 1), (0, .ref (a 0)), (1, .int p0), (2, .int p1)] 4 rfl rfl (by decide) rfl dX7_isOn_42 ?_
        refine z_goto C 5 (by decide) dX7_isOn_45 ?_
        refine z_sub C [2, 3, 4, 1, 0] (lv' := [(0, .ref (a 0)), (1, .int p0), (2, .int p1), (3, .int 1), (4, .int (l4_36 + 1))]) rfl ?_
        exact ih1 _ (uninl h hk1)
      unfold f_X7_isOn_B5 at h
      refine z_iload C 4 rfl dX7_isOn_5 ?_
      refine z_aload_n C 0 rfl dX7_isOn_7 ?_
      refine z_get C iRX7 0 gM_0 rfl 15 (by decide) fl_RX7_40 rfl dX7_isOn_8 ?_
      refine z_iload_n C 1 rfl dX7_isOn_11 ?_
      refine z_iald C 11 0 gM_11 rfl dX7_isOn_12 h (fun y1 h => ?_)
      refine z_icmp_ge C 48 (by decide) dX7_isOn_13 h (fun h => ?_) (fun h => ?_)
      · refine z_iload_n C 3 rfl dX7_isOn_48 ?_
        obtain ⟨hb, h⟩ := ck_spec h
        have h := unwi h hk1
        cases h
        exact z_zret C hr hlk hb dX7_isOn_49
      · refine z_iload_n C 3 rfl dX7_isOn_16 ?_
        refine z_if_ne C 36 (by decide) dX7_isOn_17 h (fun h => ?_) (fun h => ?_)
        · refine z_sub C [0, 1, 2, 4] (lv' := [(0, .ref (a 0)), (1, .int p0), (2, .int p1), (4, .int t1.2)]) rfl ?_
          exact J36 _ h
        · refine z_aload_n C 0 rfl dX7_isOn_20 ?_
          refine z_get C iRX7 0 gM_0 rfl 14 (by decide) fl_RX7_37 rfl dX7_isOn_21 ?_
          refine z_bipush C (v := 10) dX7_isOn_24 (by decide) ?_
          refine z_iload_n C 1 rfl dX7_isOn_26 ?_
          refine z_imul C dX7_isOn_27 ?_
          refine z_iload C 4 rfl dX7_isOn_28 ?_
          refine z_iadd C dX7_isOn_30 ?_
          refine z_iald C 10 0 gM_10 rfl dX7_isOn_31 h (fun y2 h => ?_)
          refine z_iload_n C 2 rfl dX7_isOn_32 ?_
          refine z_icmp_ne C 40 (by decide) dX7_isOn_33 h (fun h => ?_) (fun h => ?_)
          · refine z_iconst C (v := 0) dX7_isOn_40 (by decide) ?_
            refine z_istore_n C [(3, .int 0), (0, .ref (a 0)), (1, .int p0), (2, .int p1), (4, .int t1.2)] rfl (by decide) rfl dX7_isOn_41 ?_
            refine z_iinc C (v := t1.2 + 1) [(4, .int (t1.2 + 1)), (3, .int 0), (0, .ref (a 0)), (1, .int p0), (2, .int p1)] 4 rfl rfl (by decide) rfl dX7_isOn_42 ?_
            refine z_goto C 5 (by decide) dX7_isOn_45 ?_
            refine z_sub C [2, 3, 4, 1, 0] (lv' := [(0, .ref (a 0)), (1, .int p0), (2, .int p1), (3, .int 0), (4, .int (t1.2 + 1))]) rfl ?_
            exact ih1 _ (uninl h hk1)
          · refine z_sub C [0, 1, 2, 4] (lv' := [(0, .ref (a 0)), (1, .int p0), (2, .int p1), (4, .int t1.2)]) rfl ?_
            exact J36 _ h
  exact L5 _ _ h
theorem dX7_passes_0 : decode cX7_passes 0 = .ok (.aload_n 0, 1) := by decide +kernel
theorem dX7_passes_1 : decode cX7_passes 1 = .ok (.getfield 7, 3) := by decide +kernel
theorem dX7_passes_4 : decode cX7_passes 4 = .ok (.bipush 10, 2) := by decide +kernel
theorem dX7_passes_6 : decode cX7_passes 6 = .ok (.iload_n 3, 1) := by decide +kernel
theorem dX7_passes_7 : decode cX7_passes 7 = .ok (.imul, 1) := by decide +kernel
theorem dX7_passes_8 : decode cX7_passes 8 = .ok (.iload 4, 2) := by decide +kernel
theorem dX7_passes_10 : decode cX7_passes 10 = .ok (.iadd, 1) := by decide +kernel
theorem dX7_passes_11 : decode cX7_passes 11 = .ok (.iaload, 1) := by decide +kernel
theorem dX7_passes_12 : decode cX7_passes 12 = .ok (.iconst 1, 1) := by decide +kernel
theorem dX7_passes_13 : decode cX7_passes 13 = .ok (.if_icmp .eq 24, 3) := by decide +kernel
theorem dX7_passes_16 : decode cX7_passes 16 = .ok (.aload_n 0, 1) := by decide +kernel
theorem dX7_passes_17 : decode cX7_passes 17 = .ok (.getfield 92, 3) := by decide +kernel
theorem dX7_passes_20 : decode cX7_passes 20 = .ok (.iload_n 3, 1) := by decide +kernel
theorem dX7_passes_21 : decode cX7_passes 21 = .ok (.invokestatic 57, 3) := by decide +kernel
theorem dX7_passes_24 : decode cX7_passes 24 = .ok (.ifCond .ne 13, 3) := by decide +kernel
theorem dX7_passes_27 : decode cX7_passes 27 = .ok (.aload_n 0, 1) := by decide +kernel
theorem dX7_passes_28 : decode cX7_passes 28 = .ok (.iload_n 1, 1) := by decide +kernel
theorem dX7_passes_29 : decode cX7_passes 29 = .ok (.iload_n 2, 1) := by decide +kernel
theorem dX7_passes_30 : decode cX7_passes 30 = .ok (.iload_n 3, 1) := by decide +kernel
theorem dX7_passes_31 : decode cX7_passes 31 = .ok (.invokevirtual 85, 3) := by decide +kernel
theorem dX7_passes_34 : decode cX7_passes 34 = .ok (.ifCond .eq 5, 3) := by decide +kernel
theorem dX7_passes_37 : decode cX7_passes 37 = .ok (.iconst 1, 1) := by decide +kernel
theorem dX7_passes_38 : decode cX7_passes 38 = .ok (.ireturn, 1) := by decide +kernel
theorem dX7_passes_39 : decode cX7_passes 39 = .ok (.aload_n 0, 1) := by decide +kernel
theorem dX7_passes_40 : decode cX7_passes 40 = .ok (.getfield 40, 3) := by decide +kernel
theorem dX7_passes_43 : decode cX7_passes 43 = .ok (.iload_n 3, 1) := by decide +kernel
theorem dX7_passes_44 : decode cX7_passes 44 = .ok (.iaload, 1) := by decide +kernel
theorem dX7_passes_45 : decode cX7_passes 45 = .ok (.iconst 1, 1) := by decide +kernel
theorem dX7_passes_46 : decode cX7_passes 46 = .ok (.if_icmp .le 32, 3) := by decide +kernel
theorem dX7_passes_49 : decode cX7_passes 49 = .ok (.aload_n 0, 1) := by decide +kernel
theorem dX7_passes_50 : decode cX7_passes 50 = .ok (.getfield 7, 3) := by decide +kernel
theorem dX7_passes_53 : decode cX7_passes 53 = .ok (.bipush 10, 2) := by decide +kernel
theorem dX7_passes_55 : decode cX7_passes 55 = .ok (.iload_n 3, 1) := by decide +kernel
theorem dX7_passes_56 : decode cX7_passes 56 = .ok (.imul, 1) := by decide +kernel
theorem dX7_passes_57 : decode cX7_passes 57 = .ok (.aload_n 0, 1) := by decide +kernel
theorem dX7_passes_58 : decode cX7_passes 58 = .ok (.getfield 37, 3) := by decide +kernel
theorem dX7_passes_61 : decode cX7_passes 61 = .ok (.bipush 10, 2) := by decide +kernel
theorem dX7_passes_63 : decode cX7_passes 63 = .ok (.iload_n 3, 1) := by decide +kernel
theorem dX7_passes_64 : decode cX7_passes 64 = .ok (.imul, 1) := by decide +kernel
theorem dX7_passes_65 : decode cX7_passes 65 = .ok (.iconst 1, 1) := by decide +kernel
theorem dX7_passes_66 : decode cX7_passes 66 = .ok (.iadd, 1) := by decide +kernel
theorem dX7_passes_67 : decode cX7_passes 67 = .ok (.iaload, 1) := by decide +kernel
theorem dX7_passes_68 : decode cX7_passes 68 = .ok (.iadd, 1) := by decide +kernel
theorem dX7_passes_69 : decode cX7_passes 69 = .ok (.iaload, 1) := by decide +kernel
theorem dX7_passes_70 : decode cX7_passes 70 = .ok (.iconst 1, 1) := by decide +kernel
theorem dX7_passes_71 : decode cX7_passes 71 = .ok (.if_icmp .ne 7, 3) := by decide +kernel
theorem dX7_passes_74 : decode cX7_passes 74 = .ok (.iconst 1, 1) := by decide +kernel
theorem dX7_passes_75 : decode cX7_passes 75 = .ok (.goto 4, 3) := by decide +kernel
theorem dX7_passes_78 : decode cX7_passes 78 = .ok (.iconst 0, 1) := by decide +kernel
theorem dX7_passes_79 : decode cX7_passes 79 = .ok (.ireturn, 1) := by decide +kernel
theorem hd_yX7_passes : (yX7_passes).cls ≠ "java/lang/invoke/MethodHandle" ∧ (yX7_passes).cls ≠ "java/lang/invoke/VarHandle" ∧ (parseMethodDescriptor (yX7_passes).desc).map (fun d => d.parameters.length) = some 4 := ⟨by decide, by decide, by decide +kernel⟩
def f_X7_passes (p0 : Int32) (p1 : Int32) (p2 : Int32) (p3 : Int32) (σ : ZS) : Option Int32 :=
  ld (σ.2.1 1) 100 (((10 : Int32) * p2) + p3) (fun y1 => (if y1 = 1 then some 1 else Option.bind (f_X7_isOf (σ.1 3) p2) (fun q2 => (if q2 = 0 then Option.bind (f_X7_says p0 p1 p2 σ) (fun q3 => (if q3 = 0 then ld (σ.2.1 11) 10 p2 (fun y4 => (if y4 ≤ 1 then some 0 else ld (σ.2.1 10) 100 (((10 : Int32) * p2) + 1) (fun y5 => ld (σ.2.1 1) 100 (((10 : Int32) * p2) + y5) (fun y6 => (if y6 = 1 then some 1 else some 0))))) else some 1)) else some 1))))
set_option maxHeartbeats 4000000 in
set_option maxRecDepth 100000 in
theorem c_X7_passes (l : Launch) (D : va_G) (A : Nat → Prop) (a : Nat → Nat) (x : ClassId × ClassId × ClassId) (σ : ZS) (p0 : Int32) (p1 : Int32) (p2 : Int32) (p3 : Int32) (r : Int32) (h : f_X7_passes p0 p1 p2 p3 σ = some r) : zM l yX7_passes w_yX7_passes ({ frames := 1, cells := 0, slots := 0, locals := 25 } : Room) D A (tyz x) [.ref (a 0), .int p0, .int p1, .int p2, .int p3] (wM a x σ) (some (.int r)) (wM a x σ) := by
  refine z_start [.ref (a 0), .int p0, .int p1, .int p2, .int p3] (lv := [(0, .ref (a 0)), (1, .int p0), (2, .int p1), (3, .int p2), (4, .int p3)]) (by decide) (Nat.le_of_ble_eq_true rfl) rfl ?_
  intro p e s m args below meth c C hr hlk
  unfold f_X7_passes at h
  refine z_aload_n C 0 rfl dX7_passes_0 ?_
  refine z_get C iRX7 0 gM_0 rfl 1 (by decide) fl_RX7_7 rfl dX7_passes_1 ?_
  refine z_bipush C (v := 10) dX7_passes_4 (by decide) ?_
  refine z_iload_n C 3 rfl dX7_passes_6 ?_
  refine z_imul C dX7_passes_7 ?_
  refine z_iload C 4 rfl dX7_passes_8 ?_
  refine z_iadd C dX7_passes_10 ?_
  refine z_iald C 1 0 gM_1 rfl dX7_passes_11 h (fun y1 h => ?_)
  refine z_iconst C (v := 1) dX7_passes_12 (by decide) ?_
  refine z_icmp_eq C 37 (by decide) dX7_passes_13 h (fun h => ?_) (fun h => ?_)
  · refine z_iconst C (v := 1) dX7_passes_37 (by decide) ?_
    cases h
    exact z_zret C hr hlk rfl dX7_passes_38
  · refine z_aload_n C 0 rfl dX7_passes_16 ?_
    refine z_get C iRX7 0 gM_0 rfl 10 (by decide) fl_RX7_92 rfl dX7_passes_17 ?_
    refine z_iload_n C 3 rfl dX7_passes_20 ?_
    obtain ⟨q2, hq2, h⟩ := bd_spec h
    refine z_callS1 C [.int (σ.1 3), .int p2] [] (v := .int q2) rfl (c_X7_isOf l D A (tyz x) (wM a x σ) (σ.1 3) p2 q2 hq2) cd_yX7_isOf in_RX7 ml_RX7_57 sm_yX7_isOf hd_yX7_isOf ⟨⟨Nat.le_of_ble_eq_true rfl, Nat.le_of_ble_eq_true rfl⟩, rfl, rfl⟩ rfl (Nat.le_of_ble_eq_true rfl) ⟨Nat.zero_le _, Nat.zero_le _⟩ dX7_passes_21 ?_
    refine z_if_ne C 37 (by decide) dX7_passes_24 h (fun h => ?_) (fun h => ?_)
    · refine z_iconst C (v := 1) dX7_passes_37 (by decide) ?_
      cases h
      exact z_zret C hr hlk rfl dX7_passes_38
    · refine z_aload_n C 0 rfl dX7_passes_27 ?_
      refine z_iload_n C 1 rfl dX7_passes_28 ?_
      refine z_iload_n C 2 rfl dX7_passes_29 ?_
      refine z_iload_n C 3 rfl dX7_passes_30 ?_
      obtain ⟨q3, hq3, h⟩ := bd_spec h
      refine z_callV1 C [.int p0, .int p1, .int p2] [] (v := (.int q3)) rfl (c_X7_says l D A a x σ p0 p1 p2 q3 hq3) cd_yX7_says in_RX7 ml_RX7_85 im_yX7_says sl_yX7_says gM_0 rfl hd_yX7_says ⟨⟨Nat.le_of_ble_eq_true rfl, Nat.le_of_ble_eq_true rfl⟩, rfl, rfl⟩ rfl (Nat.le_of_ble_eq_true rfl) ⟨Nat.zero_le _, Nat.zero_le _⟩ dX7_passes_31 ?_
      refine z_if_eq C 39 (by decide) dX7_passes_34 h (fun h => ?_) (fun h => ?_)
      · refine z_aload_n C 0 rfl dX7_passes_39 ?_
        refine z_get C iRX7 0 gM_0 rfl 15 (by decide) fl_RX7_40 rfl dX7_passes_40 ?_
        refine z_iload_n C 3 rfl dX7_passes_43 ?_
        refine z_iald C 11 0 gM_11 rfl dX7_passes_44 h (fun y4 h => ?_)
        refine z_iconst C (v := 1) dX7_passes_45 (by decide) ?_
        refine z_icmp_le C 78 (by decide) dX7_passes_46 h (fun h => ?_) (fun h => ?_)
        · refine z_iconst C (v := 0) dX7_passes_78 (by decide) ?_
          cases h
          exact z_zret C hr hlk rfl dX7_passes_79
        · refine z_aload_n C 0 rfl dX7_passes_49 ?_
          refine z_get C iRX7 0 gM_0 rfl 1 (by decide) fl_RX7_7 rfl dX7_passes_50 ?_
          refine z_bipush C (v := 10) dX7_passes_53 (by decide) ?_
          refine z_iload_n C 3 rfl dX7_passes_55 ?_
          refine z_imul C dX7_passes_56 ?_
          refine z_aload_n C 0 rfl dX7_passes_57 ?_
          refine z_get C iRX7 0 gM_0 rfl 14 (by decide) fl_RX7_37 rfl dX7_passes_58 ?_
          refine z_bipush C (v := 10) dX7_passes_61 (by decide) ?_
          refine z_iload_n C 3 rfl dX7_passes_63 ?_
          refine z_imul C dX7_passes_64 ?_
          refine z_iconst C (v := 1) dX7_passes_65 (by decide) ?_
          refine z_iadd C dX7_passes_66 ?_
          refine z_iald C 10 0 gM_10 rfl dX7_passes_67 h (fun y5 h => ?_)
          refine z_iadd C dX7_passes_68 ?_
          refine z_iald C 1 0 gM_1 rfl dX7_passes_69 h (fun y6 h => ?_)
          refine z_iconst C (v := 1) dX7_passes_70 (by decide) ?_
          refine z_icmp_ne C 78 (by decide) dX7_passes_71 h (fun h => ?_) (fun h => ?_)
          · refine z_iconst C (v := 0) dX7_passes_78 (by decide) ?_
            cases h
            exact z_zret C hr hlk rfl dX7_passes_79
          · refine z_iconst C (v := 1) dX7_passes_74 (by decide) ?_
            refine z_goto C 79 (by decide) dX7_passes_75 ?_
            cases h
            exact z_zret C hr hlk rfl dX7_passes_79
      · refine z_iconst C (v := 1) dX7_passes_37 (by decide) ?_
        cases h
        exact z_zret C hr hlk rfl dX7_passes_38
theorem dX7_mayTake_0 : decode cX7_mayTake 0 = .ok (.aload_n 0, 1) := by decide +kernel
theorem dX7_mayTake_1 : decode cX7_mayTake 1 = .ok (.getfield 7, 3) := by decide +kernel
theorem dX7_mayTake_4 : decode cX7_mayTake 4 = .ok (.bipush 10, 2) := by decide +kernel
theorem dX7_mayTake_6 : decode cX7_mayTake 6 = .ok (.iload_n 3, 1) := by decide +kernel
theorem dX7_mayTake_7 : decode cX7_mayTake 7 = .ok (.imul, 1) := by decide +kernel
theorem dX7_mayTake_8 : decode cX7_mayTake 8 = .ok (.iload 4, 2) := by decide +kernel
theorem dX7_mayTake_10 : decode cX7_mayTake 10 = .ok (.iadd, 1) := by decide +kernel
theorem dX7_mayTake_11 : decode cX7_mayTake 11 = .ok (.iaload, 1) := by decide +kernel
theorem dX7_mayTake_12 : decode cX7_mayTake 12 = .ok (.ifCond .eq 35, 3) := by decide +kernel
theorem dX7_mayTake_15 : decode cX7_mayTake 15 = .ok (.aload_n 0, 1) := by decide +kernel
theorem dX7_mayTake_16 : decode cX7_mayTake 16 = .ok (.getfield 40, 3) := by decide +kernel
theorem dX7_mayTake_19 : decode cX7_mayTake 19 = .ok (.iload 4, 2) := by decide +kernel
theorem dX7_mayTake_21 : decode cX7_mayTake 21 = .ok (.iaload, 1) := by decide +kernel
theorem dX7_mayTake_22 : decode cX7_mayTake 22 = .ok (.ifCond .eq 25, 3) := by decide +kernel
theorem dX7_mayTake_25 : decode cX7_mayTake 25 = .ok (.aload_n 0, 1) := by decide +kernel
theorem dX7_mayTake_26 : decode cX7_mayTake 26 = .ok (.iload 4, 2) := by decide +kernel
theorem dX7_mayTake_28 : decode cX7_mayTake 28 = .ok (.iload_n 3, 1) := by decide +kernel
theorem dX7_mayTake_29 : decode cX7_mayTake 29 = .ok (.invokevirtual 98, 3) := by decide +kernel
theorem dX7_mayTake_32 : decode cX7_mayTake 32 = .ok (.ifCond .ne 15, 3) := by decide +kernel
theorem dX7_mayTake_35 : decode cX7_mayTake 35 = .ok (.aload_n 0, 1) := by decide +kernel
theorem dX7_mayTake_36 : decode cX7_mayTake 36 = .ok (.iload_n 1, 1) := by decide +kernel
theorem dX7_mayTake_37 : decode cX7_mayTake 37 = .ok (.iload_n 2, 1) := by decide +kernel
theorem dX7_mayTake_38 : decode cX7_mayTake 38 = .ok (.iload 4, 2) := by decide +kernel
theorem dX7_mayTake_40 : decode cX7_mayTake 40 = .ok (.iload_n 3, 1) := by decide +kernel
theorem dX7_mayTake_41 : decode cX7_mayTake 41 = .ok (.invokevirtual 101, 3) := by decide +kernel
theorem dX7_mayTake_44 : decode cX7_mayTake 44 = .ok (.ifCond .ne 5, 3) := by decide +kernel
theorem dX7_mayTake_47 : decode cX7_mayTake 47 = .ok (.iconst 0, 1) := by decide +kernel
theorem dX7_mayTake_48 : decode cX7_mayTake 48 = .ok (.ireturn, 1) := by decide +kernel
theorem dX7_mayTake_49 : decode cX7_mayTake 49 = .ok (.aload_n 0, 1) := by decide +kernel
theorem dX7_mayTake_50 : decode cX7_mayTake 50 = .ok (.iload_n 1, 1) := by decide +kernel
theorem dX7_mayTake_51 : decode cX7_mayTake 51 = .ok (.iload_n 2, 1) := by decide +kernel
theorem dX7_mayTake_52 : decode cX7_mayTake 52 = .ok (.invokevirtual 79, 3) := by decide +kernel
theorem dX7_mayTake_55 : decode cX7_mayTake 55 = .ok (.istore 6, 2) := by decide +kernel
theorem dX7_mayTake_57 : decode cX7_mayTake 57 = .ok (.iload 5, 2) := by decide +kernel
theorem dX7_mayTake_59 : decode cX7_mayTake 59 = .ok (.iload_n 3, 1) := by decide +kernel
theorem dX7_mayTake_60 : decode cX7_mayTake 60 = .ok (.invokestatic 57, 3) := by decide +kernel
theorem dX7_mayTake_63 : decode cX7_mayTake 63 = .ok (.ifCond .eq 34, 3) := by decide +kernel
theorem dX7_mayTake_66 : decode cX7_mayTake 66 = .ok (.iload 6, 2) := by decide +kernel
theorem dX7_mayTake_68 : decode cX7_mayTake 68 = .ok (.iconst (-1), 1) := by decide +kernel
theorem dX7_mayTake_69 : decode cX7_mayTake 69 = .ok (.if_icmp .eq 28, 3) := by decide +kernel
theorem dX7_mayTake_72 : decode cX7_mayTake 72 = .ok (.aload_n 0, 1) := by decide +kernel
theorem dX7_mayTake_73 : decode cX7_mayTake 73 = .ok (.getfield 37, 3) := by decide +kernel
theorem dX7_mayTake_76 : decode cX7_mayTake 76 = .ok (.bipush 10, 2) := by decide +kernel
theorem dX7_mayTake_78 : decode cX7_mayTake 78 = .ok (.iload 4, 2) := by decide +kernel
theorem dX7_mayTake_80 : decode cX7_mayTake 80 = .ok (.imul, 1) := by decide +kernel
theorem dX7_mayTake_81 : decode cX7_mayTake 81 = .ok (.aload_n 0, 1) := by decide +kernel
theorem dX7_mayTake_82 : decode cX7_mayTake 82 = .ok (.getfield 40, 3) := by decide +kernel
theorem dX7_mayTake_85 : decode cX7_mayTake 85 = .ok (.iload 4, 2) := by decide +kernel
theorem dX7_mayTake_87 : decode cX7_mayTake 87 = .ok (.iaload, 1) := by decide +kernel
theorem dX7_mayTake_88 : decode cX7_mayTake 88 = .ok (.iadd, 1) := by decide +kernel
theorem dX7_mayTake_89 : decode cX7_mayTake 89 = .ok (.iconst 1, 1) := by decide +kernel
theorem dX7_mayTake_90 : decode cX7_mayTake 90 = .ok (.isub, 1) := by decide +kernel
theorem dX7_mayTake_91 : decode cX7_mayTake 91 = .ok (.iaload, 1) := by decide +kernel
theorem dX7_mayTake_92 : decode cX7_mayTake 92 = .ok (.iload 6, 2) := by decide +kernel
theorem dX7_mayTake_94 : decode cX7_mayTake 94 = .ok (.if_icmp .ne 7, 3) := by decide +kernel
theorem dX7_mayTake_97 : decode cX7_mayTake 97 = .ok (.iconst 1, 1) := by decide +kernel
theorem dX7_mayTake_98 : decode cX7_mayTake 98 = .ok (.goto 4, 3) := by decide +kernel
theorem dX7_mayTake_101 : decode cX7_mayTake 101 = .ok (.iconst 0, 1) := by decide +kernel
theorem dX7_mayTake_102 : decode cX7_mayTake 102 = .ok (.ireturn, 1) := by decide +kernel
theorem hd_yX7_mayTake : (yX7_mayTake).cls ≠ "java/lang/invoke/MethodHandle" ∧ (yX7_mayTake).cls ≠ "java/lang/invoke/VarHandle" ∧ (parseMethodDescriptor (yX7_mayTake).desc).map (fun d => d.parameters.length) = some 5 := ⟨by decide, by decide, by decide +kernel⟩
def f_X7_mayTake (p0 : Int32) (p1 : Int32) (p2 : Int32) (p3 : Int32) (p4 : Int32) (σ : ZS) : Option Int32 :=
  ld (σ.2.1 1) 100 (((10 : Int32) * p2) + p3) (fun y1 => (if y1 = 0 then some 0 else ld (σ.2.1 11) 10 p3 (fun y2 => (if y2 = 0 then some 0 else Option.bind (f_X7_isOn p3 p2 σ) (fun q3 => (if q3 = 0 then Option.bind (f_X7_passes p0 p1 p3 p2 σ) (fun q4 => (if q4 = 0 then some 0 else Option.bind (f_X7_rightfulFor p0 p1 σ) (fun q5 => Option.bind (f_X7_isOf p4 p2) (fun q6 => (if q6 = 0 then some 1 else (if q5 = (-1) then some 1 else ld (σ.2.1 11) 10 p3 (fun y7 => ld (σ.2.1 10) 100 ((((10 : Int32) * p3) + y7) - 1) (fun y8 => (if y8 = q5 then some 1 else some 0))))))))) else some 0))))))
set_option maxHeartbeats 4000000 in
set_option maxRecDepth 100000 in
theorem c_X7_mayTake (l : Launch) (D : va_G) (A : Nat → Prop) (a : Nat → Nat) (x : ClassId × ClassId × ClassId) (σ : ZS) (p0 : Int32) (p1 : Int32) (p2 : Int32) (p3 : Int32) (p4 : Int32) (r : Int32) (h : f_X7_mayTake p0 p1 p2 p3 p4 σ = some r) : zM l yX7_mayTake w_yX7_mayTake ({ frames := 2, cells := 0, slots := 0, locals := 49 } : Room) D A (tyz x) [.ref (a 0), .int p0, .int p1, .int p2, .int p3, .int p4] (wM a x σ) (some (.int r)) (wM a x σ) := by
  refine z_start [.ref (a 0), .int p0, .int p1, .int p2, .int p3, .int p4] (lv := [(0, .ref (a 0)), (1, .int p0), (2, .int p1), (3, .int p2), (4, .int p3), (5, .int p4)]) (by decide) (Nat.le_of_ble_eq_true rfl) rfl ?_
  intro p e s m args below meth c C hr hlk
  unfold f_X7_mayTake at h
  refine z_aload_n C 0 rfl dX7_mayTake_0 ?_
  refine z_get C iRX7 0 gM_0 rfl 1 (by decide) fl_RX7_7 rfl dX7_mayTake_1 ?_
  refine z_bipush C (v := 10) dX7_mayTake_4 (by decide) ?_
  refine z_iload_n C 3 rfl dX7_mayTake_6 ?_
  refine z_imul C dX7_mayTake_7 ?_
  refine z_iload C 4 rfl dX7_mayTake_8 ?_
  refine z_iadd C dX7_mayTake_10 ?_
  refine z_iald C 1 0 gM_1 rfl dX7_mayTake_11 h (fun y1 h => ?_)
  refine z_if_eq C 47 (by decide) dX7_mayTake_12 h (fun h => ?_) (fun h => ?_)
  · refine z_iconst C (v := 0) dX7_mayTake_47 (by decide) ?_
    cases h
    exact z_zret C hr hlk rfl dX7_mayTake_48
  · refine z_aload_n C 0 rfl dX7_mayTake_15 ?_
    refine z_get C iRX7 0 gM_0 rfl 15 (by decide) fl_RX7_40 rfl dX7_mayTake_16 ?_
    refine z_iload C 4 rfl dX7_mayTake_19 ?_
    refine z_iald C 11 0 gM_11 rfl dX7_mayTake_21 h (fun y2 h => ?_)
    refine z_if_eq C 47 (by decide) dX7_mayTake_22 h (fun h => ?_) (fun h => ?_)
    · refine z_iconst C (v := 0) dX7_mayTake_47 (by decide) ?_
      cases h
      exact z_zret C hr hlk rfl dX7_mayTake_48
    · refine z_aload_n C 0 rfl dX7_mayTake_25 ?_
      refine z_iload C 4 rfl dX7_mayTake_26 ?_
      refine z_iload_n C 3 rfl dX7_mayTake_28 ?_
      obtain ⟨q3, hq3, h⟩ := bd_spec h
      refine z_callV1 C [.int p3, .int p2] [] (v := (.int q3)) rfl (c_X7_isOn l D A a x σ p3 p2 q3 hq3) cd_yX7_isOn in_RX7 ml_RX7_98 im_yX7_isOn sl_yX7_isOn gM_0 rfl hd_yX7_isOn ⟨⟨Nat.le_of_ble_eq_true rfl, Nat.le_of_ble_eq_true rfl⟩, rfl, rfl⟩ rfl (Nat.le_of_ble_eq_true rfl) ⟨Nat.zero_le _, Nat.zero_le _⟩ dX7_mayTake_29 ?_
      refine z_if_ne C 47 (by decide) dX7_mayTake_32 h (fun h => ?_) (fun h => ?_)
      · refine z_iconst C (v := 0) dX7_mayTake_47 (by decide) ?_
        cases h
        exact z_zret C hr hlk rfl dX7_mayTake_48
      · refine z_aload_n C 0 rfl dX7_mayTake_35 ?_
        refine z_iload_n C 1 rfl dX7_mayTake_36 ?_
        refine z_iload_n C 2 rfl dX7_mayTake_37 ?_
        refine z_iload C 4 rfl dX7_mayTake_38 ?_
        refine z_iload_n C 3 rfl dX7_mayTake_40 ?_
        obtain ⟨q4, hq4, h⟩ := bd_spec h
        refine z_callV1 C [.int p0, .int p1, .int p3, .int p2] [] (v := (.int q4)) rfl (c_X7_passes l D A a x σ p0 p1 p3 p2 q4 hq4) cd_yX7_passes in_RX7 ml_RX7_101 im_yX7_passes sl_yX7_passes gM_0 rfl hd_yX7_passes ⟨⟨Nat.le_of_ble_eq_true rfl, Nat.le_of_ble_eq_true rfl⟩, rfl, rfl⟩ rfl (Nat.le_of_ble_eq_true rfl) ⟨Nat.zero_le _, Nat.zero_le _⟩ dX7_mayTake_41 ?_
        refine z_if_ne C 49 (by decide) dX7_mayTake_44 h (fun h => ?_) (fun h => ?_)
        · refine z_aload_n C 0 rfl dX7_mayTake_49 ?_
          refine z_iload_n C 1 rfl dX7_mayTake_50 ?_
          refine z_iload_n C 2 rfl dX7_mayTake_51 ?_
          obtain ⟨q5, hq5, h⟩ := bd_spec h
          refine z_callV1 C [.int p0, .int p1] [] (v := (.int q5)) rfl (c_X7_rightfulFor l D A a x σ p0 p1 q5 hq5) cd_yX7_rightfulFor in_RX7 ml_RX7_79 im_yX7_rightfulFor sl_yX7_rightfulFor gM_0 rfl hd_yX7_rightfulFor ⟨⟨Nat.le_of_ble_eq_true rfl, Nat.le_of_ble_eq_true rfl⟩, rfl, rfl⟩ rfl (Nat.le_of_ble_eq_true rfl) ⟨Nat.zero_le _, Nat.zero_le _⟩ dX7_mayTake_52 ?_
          refine z_istore C [(6, .int q5), (0, .ref (a 0)), (1, .int p0), (2, .int p1), (3, .int p2), (4, .int p3), (5, .int p4)] (by decide) rfl dX7_mayTake_55 ?_
          refine z_iload C 6 rfl dX7_mayTake_57 ?_
          refine z_iload_n C 4 rfl dX7_mayTake_59 ?_
          obtain ⟨q6, hq6, h⟩ := bd_spec h
          refine z_callS1 C [.int p4, .int p2] [] (v := .int q6) rfl (c_X7_isOf l D A (tyz x) (wM a x σ) p4 p2 q6 hq6) cd_yX7_isOf in_RX7 ml_RX7_57 sm_yX7_isOf hd_yX7_isOf ⟨⟨Nat.le_of_ble_eq_true rfl, Nat.le_of_ble_eq_true rfl⟩, rfl, rfl⟩ rfl (Nat.le_of_ble_eq_true rfl) ⟨Nat.zero_le _, Nat.zero_le _⟩ dX7_mayTake_60 ?_
          refine z_if_eq C 97 (by decide) dX7_mayTake_63 h (fun h => ?_) (fun h => ?_)
          · refine z_iconst C (v := 1) dX7_mayTake_97 (by decide) ?_
            refine z_goto C 102 (by decide) dX7_mayTake_98 ?_
            cases h
            exact z_zret C hr hlk rfl dX7_mayTake_102
          · refine z_iload C 0 rfl dX7_mayTake_66 ?_
            refine z_iconst C (v := (-1)) dX7_mayTake_68 (by decide) ?_
            refine z_icmp_eq C 97 (by decide) dX7_mayTake_69 h (fun h => ?_) (fun h => ?_)
            · refine z_iconst C (v := 1) dX7_mayTake_97 (by decide) ?_
              refine z_goto C 102 (by decide) dX7_mayTake_98 ?_
              cases h
              exact z_zret C hr hlk rfl dX7_mayTake_102
            · refine z_aload_n C 1 rfl dX7_mayTake_72 ?_
              refine z_get C iRX7 0 gM_0 rfl 14 (by decide) fl_RX7_37 rfl dX7_mayTake_73 ?_
              refine z_bipush C (v := 10) dX7_mayTake_76 (by decide) ?_
              refine z_iload C 5 rfl dX7_mayTake_78 ?_
              refine z_imul C dX7_mayTake_80 ?_
              refine z_aload_n C 1 rfl dX7_mayTake_81 ?_
              refine z_get C iRX7 0 gM_0 rfl 15 (by decide) fl_RX7_40 rfl dX7_mayTake_82 ?_
              refine z_iload C 5 rfl dX7_mayTake_85 ?_
              refine z_iald C 11 0 gM_11 rfl dX7_mayTake_87 h (fun y7 h => ?_)
              refine z_iadd C dX7_mayTake_88 ?_
              refine z_iconst C (v := 1) dX7_mayTake_89 (by decide) ?_
              refine z_isub C dX7_mayTake_90 ?_
              refine z_iald C 10 0 gM_10 rfl dX7_mayTake_91 h (fun y8 h => ?_)
              refine z_iload C 0 rfl dX7_mayTake_92 ?_
              refine z_icmp_ne C 101 (by decide) dX7_mayTake_94 h (fun h => ?_) (fun h => ?_)
              · refine z_iconst C (v := 0) dX7_mayTake_101 (by decide) ?_
                cases h
                exact z_zret C hr hlk rfl dX7_mayTake_102
              · refine z_iconst C (v := 1) dX7_mayTake_97 (by decide) ?_
                refine z_goto C 102 (by decide) dX7_mayTake_98 ?_
                cases h
                exact z_zret C hr hlk rfl dX7_mayTake_102
        · refine z_iconst C (v := 0) dX7_mayTake_47 (by decide) ?_
          cases h
          exact z_zret C hr hlk rfl dX7_mayTake_48
theorem dX7_bestFor_0 : decode cX7_bestFor 0 = .ok (.iconst (-1), 1) := by decide +kernel
theorem dX7_bestFor_1 : decode cX7_bestFor 1 = .ok (.istore 5, 2) := by decide +kernel
theorem dX7_bestFor_3 : decode cX7_bestFor 3 = .ok (.iconst 0, 1) := by decide +kernel
theorem dX7_bestFor_4 : decode cX7_bestFor 4 = .ok (.istore 6, 2) := by decide +kernel
theorem dX7_bestFor_6 : decode cX7_bestFor 6 = .ok (.iload 6, 2) := by decide +kernel
theorem dX7_bestFor_8 : decode cX7_bestFor 8 = .ok (.aload_n 0, 1) := by decide +kernel
theorem dX7_bestFor_9 : decode cX7_bestFor 9 = .ok (.getfield 49, 3) := by decide +kernel
theorem dX7_bestFor_12 : decode cX7_bestFor 12 = .ok (.if_icmp .ge 101, 3) := by decide +kernel
theorem dX7_bestFor_15 : decode cX7_bestFor 15 = .ok (.aload_n 0, 1) := by decide +kernel
theorem dX7_bestFor_16 : decode cX7_bestFor 16 = .ok (.iload_n 1, 1) := by decide +kernel
theorem dX7_bestFor_17 : decode cX7_bestFor 17 = .ok (.iload_n 2, 1) := by decide +kernel
theorem dX7_bestFor_18 : decode cX7_bestFor 18 = .ok (.iload_n 3, 1) := by decide +kernel
theorem dX7_bestFor_19 : decode cX7_bestFor 19 = .ok (.iload 6, 2) := by decide +kernel
theorem dX7_bestFor_21 : decode cX7_bestFor 21 = .ok (.iload 4, 2) := by decide +kernel
theorem dX7_bestFor_23 : decode cX7_bestFor 23 = .ok (.invokevirtual 105, 3) := by decide +kernel
theorem dX7_bestFor_26 : decode cX7_bestFor 26 = .ok (.ifCond .eq 81, 3) := by decide +kernel
theorem dX7_bestFor_29 : decode cX7_bestFor 29 = .ok (.iload 5, 2) := by decide +kernel
theorem dX7_bestFor_31 : decode cX7_bestFor 31 = .ok (.iconst (-1), 1) := by decide +kernel
theorem dX7_bestFor_32 : decode cX7_bestFor 32 = .ok (.if_icmp .ne 7, 3) := by decide +kernel
theorem dX7_bestFor_35 : decode cX7_bestFor 35 = .ok (.iconst (-1), 1) := by decide +kernel
theorem dX7_bestFor_36 : decode cX7_bestFor 36 = .ok (.goto 28, 3) := by decide +kernel
theorem dX7_bestFor_39 : decode cX7_bestFor 39 = .ok (.aload_n 0, 1) := by decide +kernel
theorem dX7_bestFor_40 : decode cX7_bestFor 40 = .ok (.getfield 7, 3) := by decide +kernel
theorem dX7_bestFor_43 : decode cX7_bestFor 43 = .ok (.bipush 10, 2) := by decide +kernel
theorem dX7_bestFor_45 : decode cX7_bestFor 45 = .ok (.iload_n 3, 1) := by decide +kernel
theorem dX7_bestFor_46 : decode cX7_bestFor 46 = .ok (.imul, 1) := by decide +kernel
theorem dX7_bestFor_47 : decode cX7_bestFor 47 = .ok (.iload 6, 2) := by decide +kernel
theorem dX7_bestFor_49 : decode cX7_bestFor 49 = .ok (.iadd, 1) := by decide +kernel
theorem dX7_bestFor_50 : decode cX7_bestFor 50 = .ok (.iaload, 1) := by decide +kernel
theorem dX7_bestFor_51 : decode cX7_bestFor 51 = .ok (.aload_n 0, 1) := by decide +kernel
theorem dX7_bestFor_52 : decode cX7_bestFor 52 = .ok (.getfield 7, 3) := by decide +kernel
theorem dX7_bestFor_55 : decode cX7_bestFor 55 = .ok (.bipush 10, 2) := by decide +kernel
theorem dX7_bestFor_57 : decode cX7_bestFor 57 = .ok (.iload_n 3, 1) := by decide +kernel
theorem dX7_bestFor_58 : decode cX7_bestFor 58 = .ok (.imul, 1) := by decide +kernel
theorem dX7_bestFor_59 : decode cX7_bestFor 59 = .ok (.iload 5, 2) := by decide +kernel
theorem dX7_bestFor_61 : decode cX7_bestFor 61 = .ok (.iadd, 1) := by decide +kernel
theorem dX7_bestFor_62 : decode cX7_bestFor 62 = .ok (.iaload, 1) := by decide +kernel
theorem dX7_bestFor_63 : decode cX7_bestFor 63 = .ok (.isub, 1) := by decide +kernel
theorem dX7_bestFor_64 : decode cX7_bestFor 64 = .ok (.istore 7, 2) := by decide +kernel
theorem dX7_bestFor_66 : decode cX7_bestFor 66 = .ok (.iload 7, 2) := by decide +kernel
theorem dX7_bestFor_68 : decode cX7_bestFor 68 = .ok (.ifCond .ne 21, 3) := by decide +kernel
theorem dX7_bestFor_71 : decode cX7_bestFor 71 = .ok (.aload_n 0, 1) := by decide +kernel
theorem dX7_bestFor_72 : decode cX7_bestFor 72 = .ok (.getfield 40, 3) := by decide +kernel
theorem dX7_bestFor_75 : decode cX7_bestFor 75 = .ok (.iload 6, 2) := by decide +kernel
theorem dX7_bestFor_77 : decode cX7_bestFor 77 = .ok (.iaload, 1) := by decide +kernel
theorem dX7_bestFor_78 : decode cX7_bestFor 78 = .ok (.aload_n 0, 1) := by decide +kernel
theorem dX7_bestFor_79 : decode cX7_bestFor 79 = .ok (.getfield 40, 3) := by decide +kernel
theorem dX7_bestFor_82 : decode cX7_bestFor 82 = .ok (.iload 5, 2) := by decide +kernel
theorem dX7_bestFor_84 : decode cX7_bestFor 84 = .ok (.iaload, 1) := by decide +kernel
theorem dX7_bestFor_85 : decode cX7_bestFor 85 = .ok (.isub, 1) := by decide +kernel
theorem dX7_bestFor_86 : decode cX7_bestFor 86 = .ok (.goto 5, 3) := by decide +kernel
theorem dX7_bestFor_89 : decode cX7_bestFor 89 = .ok (.iload 7, 2) := by decide +kernel
theorem dX7_bestFor_91 : decode cX7_bestFor 91 = .ok (.istore 7, 2) := by decide +kernel
theorem dX7_bestFor_93 : decode cX7_bestFor 93 = .ok (.iload 7, 2) := by decide +kernel
theorem dX7_bestFor_95 : decode cX7_bestFor 95 = .ok (.ifCond .ge 8, 3) := by decide +kernel
theorem dX7_bestFor_98 : decode cX7_bestFor 98 = .ok (.iload 6, 2) := by decide +kernel
theorem dX7_bestFor_100 : decode cX7_bestFor 100 = .ok (.goto 5, 3) := by decide +kernel
theorem dX7_bestFor_103 : decode cX7_bestFor 103 = .ok (.iload 5, 2) := by decide +kernel
theorem dX7_bestFor_105 : decode cX7_bestFor 105 = .ok (.istore 5, 2) := by decide +kernel
theorem dX7_bestFor_107 : decode cX7_bestFor 107 = .ok (.iinc 6 1, 3) := by decide +kernel
theorem dX7_bestFor_110 : decode cX7_bestFor 110 = .ok (.goto (-104), 3) := by decide +kernel
theorem dX7_bestFor_113 : decode cX7_bestFor 113 = .ok (.iload 5, 2) := by decide +kernel
theorem dX7_bestFor_115 : decode cX7_bestFor 115 = .ok (.ireturn, 1) := by decide +kernel
theorem hd_yX7_bestFor : (yX7_bestFor).cls ≠ "java/lang/invoke/MethodHandle" ∧ (yX7_bestFor).cls ≠ "java/lang/invoke/VarHandle" ∧ (parseMethodDescriptor (yX7_bestFor).desc).map (fun d => d.parameters.length) = some 4 := ⟨by decide, by decide, by decide +kernel⟩
def f_X7_bestFor_J91 (l1 : Int32) (l2 : Int32) (l3 : Int32) (l4 : Int32) (l5 : Int32) (l6 : Int32) (s0 : Int32) (σ : ZS) : Option ((Int32 × Int32) ⊕ Int32) :=
  (if 0 ≤ s0 then some (.inl (l5, l6 + 1)) else some (.inl (l6, l6 + 1)))
def f_X7_bestFor_J64 (l1 : Int32) (l2 : Int32) (l3 : Int32) (l4 : Int32) (l5 : Int32) (l6 : Int32) (s0 : Int32) (σ : ZS) : Option ((Int32 × Int32) ⊕ Int32) :=
  (if s0 = 0 then ld (σ.2.1 11) 10 l6 (fun y2 => ld (σ.2.1 11) 10 l5 (fun y3 => f_X7_bestFor_J91 l1 l2 l3 l4 l5 l6 (y2 - y3) σ)) else f_X7_bestFor_J91 l1 l2 l3 l4 l5 l6 s0 σ)
def f_X7_bestFor_B6 (l1 : Int32) (l2 : Int32) (l3 : Int32) (l4 : Int32) (σ : ZS) (t1 : (Int32 × Int32)) : Option ((Int32 × Int32) ⊕ Int32) :=
  (if (σ.1 0) ≤ t1.2 then wi (some t1.1) else Option.bind (f_X7_mayTake l1 l2 l3 t1.2 l4 σ) (fun q1 => (if q1 = 0 then some (.inl (t1.1, t1.2 + 1)) else (if t1.1 = (-1) then f_X7_bestFor_J64 l1 l2 l3 l4 t1.1 t1.2 (-1) σ else ld (σ.2.1 1) 100 (((10 : Int32) * l3) + t1.2) (fun y4 => ld (σ.2.1 1) 100 (((10 : Int32) * l3) + t1.1) (fun y5 => f_X7_bestFor_J64 l1 l2 l3 l4 t1.1 t1.2 (y4 - y5) σ))))))
def f_X7_bestFor (p0 : Int32) (p1 : Int32) (p2 : Int32) (p3 : Int32) (σ : ZS) : Option Int32 :=
  lp zF (f_X7_bestFor_B6 p0 p1 p2 p3 σ) ((-1), 0)
set_option maxHeartbeats 4000000 in
set_option maxRecDepth 100000 in
theorem c_X7_bestFor (l : Launch) (D : va_G) (A : Nat → Prop) (a : Nat → Nat) (x : ClassId × ClassId × ClassId) (σ : ZS) (p0 : Int32) (p1 : Int32) (p2 : Int32) (p3 : Int32) (r : Int32) (h : f_X7_bestFor p0 p1 p2 p3 σ = some r) : zM l yX7_bestFor w_yX7_bestFor ({ frames := 3, cells := 0, slots := 0, locals := 75 } : Room) D A (tyz x) [.ref (a 0), .int p0, .int p1, .int p2, .int p3] (wM a x σ) (some (.int r)) (wM a x σ) := by
  refine z_start [.ref (a 0), .int p0, .int p1, .int p2, .int p3] (lv := [(0, .ref (a 0)), (1, .int p0), (2, .int p1), (3, .int p2), (4, .int p3)]) (by decide) (Nat.le_of_ble_eq_true rfl) rfl ?_
  intro p e s m args below meth c C hr hlk
  unfold f_X7_bestFor at h
  refine z_iconst C (v := (-1)) dX7_bestFor_0 (by decide) ?_
  refine z_istore C [(5, .int (-1)), (0, .ref (a 0)), (1, .int p0), (2, .int p1), (3, .int p2), (4, .int p3)] (by decide) rfl dX7_bestFor_1 ?_
  refine z_iconst C (v := 0) dX7_bestFor_3 (by decide) ?_
  refine z_istore C [(6, .int 0), (5, .int (-1)), (0, .ref (a 0)), (1, .int p0), (2, .int p1), (3, .int p2), (4, .int p3)] (by decide) rfl dX7_bestFor_4 ?_
  refine z_sub C [2, 3, 4, 5, 6, 1, 0] (lv' := [(0, .ref (a 0)), (1, .int p0), (2, .int p1), (3, .int p2), (4, .int p3), (5, .int (-1)), (6, .int 0)]) rfl ?_
  have L6 : ∀ (n : Nat) (t1 : (Int32 × Int32)), lp n (f_X7_bestFor_B6 p0 p1 p2 p3 σ) t1 = some r → zV p l e ({ frames := 3, cells := 0, slots := 0, locals := 75 } : Room) s m args below meth c 0 0 (MQ below (zQ D A (some (.int r)) (wM a x σ)) args s 0 0 A) D A 8 (wM a x σ) 6 [(0, .ref (a 0)), (1, .int p0), (2, .int p1), (3, .int p2), (4, .int p3), (5, .int t1.1), (6, .int t1.2)] [] := by
    intro n1
    induction n1 with
    | zero => exact fun _ h => (lp_zero h).elim
    | succ n1 ih1 =>
      intro t1 h
      obtain ⟨u1, h, hk1⟩ := lp_succ h
      have J91 : ∀ (l5_91 : Int32) (l6_91 : Int32) (s0_91 : Int32), f_X7_bestFor_J91 p0 p1 p2 p3 l5_91 l6_91 s0_91 σ = some u1 → zV p l e ({ frames := 3, cells := 0, slots := 0, locals := 75 } : Room) s m args below meth c 0 0 (MQ below (zQ D A (some (.int r)) (wM a x σ)) args s 0 0 A) D A 8 (wM a x σ) 91 [(0, .ref (a 0)), (1, .int p0), (2, .int p1), (3, .int p2), (4, .int p3), (5, .int l5_91), (6, .int l6_91)] [.int s0_91] := by
        intro l5_91 l6_91 s0_91 h
        unfold f_X7_bestFor_J91 at h
        refine z_istore C [(7, .int s0_91), (0, .ref (a 0)), (1, .int p0), (2, .int p1), (3, .int p2), (4, .int p3), (5, .int l5_91), (6, .int l6_91)] (by decide) rfl dX7_bestFor_91 ?_
        refine z_iload C 0 rfl dX7_bestFor_93 ?_
        refine z_if_ge C 103 (by decide) dX7_bestFor_95 h (fun h => ?_) (fun h => ?_)
        · refine z_iload C 6 rfl dX7_bestFor_103 ?_
          refine z_istore C [(5, .int l5_91), (7, .int s0_91), (0, .ref (a 0)), (1, .int p0), (2, .int p1), (3, .int p2), (4, .int p3), (6, .int l6_91)] (by decide) rfl dX7_bestFor_105 ?_
          refine z_iinc C (v := l6_91 + 1) [(6, .int (l6_91 + 1)), (5, .int l5_91), (7, .int s0_91), (0, .ref (a 0)), (1, .int p0), (2, .int p1), (3, .int p2), (4, .int p3)] 7 rfl rfl (by decide) rfl dX7_bestFor_107 ?_
          refine z_goto C 6 (by decide) dX7_bestFor_110 ?_
          refine z_sub C [3, 4, 5, 6, 7, 1, 0] (lv' := [(0, .ref (a 0)), (1, .int p0), (2, .int p1), (3, .int p2), (4, .int p3), (5, .int l5_91), (6, .int (l6_91 + 1))]) rfl ?_
          exact ih1 _ (uninl h hk1)
        · refine z_iload C 7 rfl dX7_bestFor_98 ?_
          refine z_goto C 105 (by decide) dX7_bestFor_100 ?_
          refine z_istore C [(5, .int l6_91), (7, .int s0_91), (0, .ref (a 0)), (1, .int p0), (2, .int p1), (3, .int p2), (4, .int p3), (6, .int l6_91)] (by decide) rfl dX7_bestFor_105 ?_
          refine z_iinc C (v := l6_91 + 1) [(6, .int (l6_91 + 1)), (5, .int l6_91), (7, .int s0_91), (0, .ref (a 0)), (1, .int p0), (2, .int p1), (3, .int p2), (4, .int p3)] 7 rfl rfl (by decide) rfl dX7_bestFor_107 ?_
          refine z_goto C 6 (by decide) dX7_bestFor_110 ?_
          refine z_sub C [3, 4, 5, 6, 7, 1, 0] (lv' := [(0, .ref (a 0)), (1, .int p0), (2, .int p1), (3, .int p2), (4, .int p3), (5, .int l6_91), (6, .int (l6_91 + 1))]) rfl ?_
          exact ih1 _ (uninl h hk1)
      have J64 : ∀ (l5_64 : Int32) (l6_64 : Int32) (s0_64 : Int32), f_X7_bestFor_J64 p0 p1 p2 p3 l5_64 l6_64 s0_64 σ = some u1 → zV p l e ({ frames := 3, cells := 0, slots := 0, locals := 75 } : Room) s m args below meth c 0 0 (MQ below (zQ D A (some (.int r)) (wM a x σ)) args s 0 0 A) D A 8 (wM a x σ) 64 [(0, .ref (a 0)), (1, .int p0), (2, .int p1), (3, .int p2), (4, .int p3), (5, .int l5_64), (6, .int l6_64)] [.int s0_64] := by
        intro l5_64 l6_64 s0_64 h
        unfold f_X7_bestFor_J64 at h
        refine z_istore C [(7, .int s0_64), (0, .ref (a 0)), (1, .int p0), (2, .int p1), (3, .int p2), (4, .int p3), (5, .int l5_64), (6, .int l6_64)] (by decide) rfl dX7_bestFor_64 ?_
        refine z_iload C 0 rfl dX7_bestFor_66 ?_
        refine z_if_ne C 89 (by decide) dX7_bestFor_68 h (fun h => ?_) (fun h => ?_)
        · refine z_iload C 0 rfl dX7_bestFor_89 ?_
          refine z_sub C [1, 2, 3, 4, 5, 6, 7] (lv' := [(0, .ref (a 0)), (1, .int p0), (2, .int p1), (3, .int p2), (4, .int p3), (5, .int l5_64), (6, .int l6_64)]) rfl ?_
          exact J91 _ _ _ h
        · refine z_aload_n C 1 rfl dX7_bestFor_71 ?_
          refine z_get C iRX7 0 gM_0 rfl 15 (by decide) fl_RX7_40 rfl dX7_bestFor_72 ?_
          refine z_iload C 7 rfl dX7_bestFor_75 ?_
          refine z_iald C 11 0 gM_11 rfl dX7_bestFor_77 h (fun y1 h => ?_)
          refine z_aload_n C 1 rfl dX7_bestFor_78 ?_
          refine z_get C iRX7 0 gM_0 rfl 15 (by decide) fl_RX7_40 rfl dX7_bestFor_79 ?_
          refine z_iload C 6 rfl dX7_bestFor_82 ?_
          refine z_iald C 11 0 gM_11 rfl dX7_bestFor_84 h (fun y2 h => ?_)
          refine z_isub C dX7_bestFor_85 ?_
          refine z_goto C 91 (by decide) dX7_bestFor_86 ?_
          refine z_sub C [1, 2, 3, 4, 5, 6, 7] (lv' := [(0, .ref (a 0)), (1, .int p0), (2, .int p1), (3, .int p2), (4, .int p3), (5, .int l5_64), (6, .int l6_64)]) rfl ?_
          exact J91 _ _ _ h
      unfold f_X7_bestFor_B6 at h
      refine z_iload C 6 rfl dX7_bestFor_6 ?_
      refine z_aload_n C 0 rfl dX7_bestFor_8 ?_
      refine z_get C iRX7 0 gM_0 rfl 0 (by decide) fl_RX7_49 rfl dX7_bestFor_9 ?_
      refine z_icmp_ge C 113 (by decide) dX7_bestFor_12 h (fun h => ?_) (fun h => ?_)
      · refine z_iload C 5 rfl dX7_bestFor_113 ?_
        have h := unwi h hk1
        cases h
        exact z_iret C hr hlk dX7_bestFor_115
      · refine z_aload_n C 0 rfl dX7_bestFor_15 ?_
        refine z_iload_n C 1 rfl dX7_bestFor_16 ?_
        refine z_iload_n C 2 rfl dX7_bestFor_17 ?_
        refine z_iload_n C 3 rfl dX7_bestFor_18 ?_
        refine z_iload C 6 rfl dX7_bestFor_19 ?_
        refine z_iload C 4 rfl dX7_bestFor_21 ?_
        obtain ⟨q3, hq3, h⟩ := bd_spec h
        refine z_callV1 C [.int p0, .int p1, .int p2, .int t1.2, .int p3] [] (v := (.int q3)) rfl (c_X7_mayTake l D A a x σ p0 p1 p2 t1.2 p3 q3 hq3) cd_yX7_mayTake in_RX7 ml_RX7_105 im_yX7_mayTake sl_yX7_mayTake gM_0 rfl hd_yX7_mayTake ⟨⟨Nat.le_of_ble_eq_true rfl, Nat.le_of_ble_eq_true rfl⟩, rfl, rfl⟩ rfl (Nat.le_of_ble_eq_true rfl) ⟨Nat.zero_le _, Nat.zero_le _⟩ dX7_bestFor_23 ?_
        refine z_if_eq C 107 (by decide) dX7_bestFor_26 h (fun h => ?_) (fun h => ?_)
        · refine z_iinc C (v := t1.2 + 1) [(6, .int (t1.2 + 1)), (0, .ref (a 0)), (1, .int p0), (2, .int p1), (3, .int p2), (4, .int p3), (5, .int t1.1)] 6 rfl rfl (by decide) rfl dX7_bestFor_107 ?_
          refine z_goto C 6 (by decide) dX7_bestFor_110 ?_
          refine z_sub C [1, 2, 3, 4, 5, 6, 0] (lv' := [(0, .ref (a 0)), (1, .int p0), (2, .int p1), (3, .int p2), (4, .int p3), (5, .int t1.1), (6, .int (t1.2 + 1))]) rfl ?_
          exact ih1 _ (uninl h hk1)
        · refine z_iload C 5 rfl dX7_bestFor_29 ?_
          refine z_iconst C (v := (-1)) dX7_bestFor_31 (by decide) ?_
          refine z_icmp_ne C 39 (by decide) dX7_bestFor_32 h (fun h => ?_) (fun h => ?_)
          · refine z_aload_n C 0 rfl dX7_bestFor_39 ?_
            refine z_get C iRX7 0 gM_0 rfl 1 (by decide) fl_RX7_7 rfl dX7_bestFor_40 ?_
            refine z_bipush C (v := 10) dX7_bestFor_43 (by decide) ?_
            refine z_iload_n C 3 rfl dX7_bestFor_45 ?_
            refine z_imul C dX7_bestFor_46 ?_
            refine z_iload C 6 rfl dX7_bestFor_47 ?_
            refine z_iadd C dX7_bestFor_49 ?_
            refine z_iald C 1 0 gM_1 rfl dX7_bestFor_50 h (fun y4 h => ?_)
            refine z_aload_n C 0 rfl dX7_bestFor_51 ?_
            refine z_get C iRX7 0 gM_0 rfl 1 (by decide) fl_RX7_7 rfl dX7_bestFor_52 ?_
            refine z_bipush C (v := 10) dX7_bestFor_55 (by decide) ?_
            refine z_iload_n C 3 rfl dX7_bestFor_57 ?_
            refine z_imul C dX7_bestFor_58 ?_
            refine z_iload C 5 rfl dX7_bestFor_59 ?_
            refine z_iadd C dX7_bestFor_61 ?_
            refine z_iald C 1 0 gM_1 rfl dX7_bestFor_62 h (fun y5 h => ?_)
            refine z_isub C dX7_bestFor_63 ?_
            exact J64 _ _ _ h
          · refine z_iconst C (v := (-1)) dX7_bestFor_35 (by decide) ?_
            refine z_goto C 64 (by decide) dX7_bestFor_36 ?_
            exact J64 _ _ _ h
  exact L6 _ _ h
theorem dX7_goRound_0 : decode cX7_goRound 0 = .ok (.iconst 0, 1) := by decide +kernel
theorem dX7_goRound_1 : decode cX7_goRound 1 = .ok (.istore 4, 2) := by decide +kernel
theorem dX7_goRound_3 : decode cX7_goRound 3 = .ok (.iload 4, 2) := by decide +kernel
theorem dX7_goRound_5 : decode cX7_goRound 5 = .ok (.bipush 100, 2) := by decide +kernel
theorem dX7_goRound_7 : decode cX7_goRound 7 = .ok (.if_icmp .ge 23, 3) := by decide +kernel
theorem dX7_goRound_10 : decode cX7_goRound 10 = .ok (.aload_n 0, 1) := by decide +kernel
theorem dX7_goRound_11 : decode cX7_goRound 11 = .ok (.getfield 37, 3) := by decide +kernel
theorem dX7_goRound_14 : decode cX7_goRound 14 = .ok (.iload 4, 2) := by decide +kernel
theorem dX7_goRound_16 : decode cX7_goRound 16 = .ok (.aload_n 0, 1) := by decide +kernel
theorem dX7_goRound_17 : decode cX7_goRound 17 = .ok (.getfield 31, 3) := by decide +kernel
theorem dX7_goRound_20 : decode cX7_goRound 20 = .ok (.iload 4, 2) := by decide +kernel
theorem dX7_goRound_22 : decode cX7_goRound 22 = .ok (.iaload, 1) := by decide +kernel
theorem dX7_goRound_23 : decode cX7_goRound 23 = .ok (.iastore, 1) := by decide +kernel
theorem dX7_goRound_24 : decode cX7_goRound 24 = .ok (.iinc 4 1, 3) := by decide +kernel
theorem dX7_goRound_27 : decode cX7_goRound 27 = .ok (.goto (-24), 3) := by decide +kernel
theorem dX7_goRound_30 : decode cX7_goRound 30 = .ok (.iconst 0, 1) := by decide +kernel
theorem dX7_goRound_31 : decode cX7_goRound 31 = .ok (.istore 4, 2) := by decide +kernel
theorem dX7_goRound_33 : decode cX7_goRound 33 = .ok (.iload 4, 2) := by decide +kernel
theorem dX7_goRound_35 : decode cX7_goRound 35 = .ok (.aload_n 0, 1) := by decide +kernel
theorem dX7_goRound_36 : decode cX7_goRound 36 = .ok (.getfield 49, 3) := by decide +kernel
theorem dX7_goRound_39 : decode cX7_goRound 39 = .ok (.if_icmp .ge 23, 3) := by decide +kernel
theorem dX7_goRound_42 : decode cX7_goRound 42 = .ok (.aload_n 0, 1) := by decide +kernel
theorem dX7_goRound_43 : decode cX7_goRound 43 = .ok (.getfield 40, 3) := by decide +kernel
theorem dX7_goRound_46 : decode cX7_goRound 46 = .ok (.iload 4, 2) := by decide +kernel
theorem dX7_goRound_48 : decode cX7_goRound 48 = .ok (.aload_n 0, 1) := by decide +kernel
theorem dX7_goRound_49 : decode cX7_goRound 49 = .ok (.getfield 34, 3) := by decide +kernel
theorem dX7_goRound_52 : decode cX7_goRound 52 = .ok (.iload 4, 2) := by decide +kernel
theorem dX7_goRound_54 : decode cX7_goRound 54 = .ok (.iaload, 1) := by decide +kernel
theorem dX7_goRound_55 : decode cX7_goRound 55 = .ok (.iastore, 1) := by decide +kernel
theorem dX7_goRound_56 : decode cX7_goRound 56 = .ok (.iinc 4 1, 3) := by decide +kernel
theorem dX7_goRound_59 : decode cX7_goRound 59 = .ok (.goto (-26), 3) := by decide +kernel
theorem dX7_goRound_62 : decode cX7_goRound 62 = .ok (.iconst 0, 1) := by decide +kernel
theorem dX7_goRound_63 : decode cX7_goRound 63 = .ok (.istore 4, 2) := by decide +kernel
theorem dX7_goRound_65 : decode cX7_goRound 65 = .ok (.iconst 0, 1) := by decide +kernel
theorem dX7_goRound_66 : decode cX7_goRound 66 = .ok (.istore 5, 2) := by decide +kernel
theorem dX7_goRound_68 : decode cX7_goRound 68 = .ok (.iload 5, 2) := by decide +kernel
theorem dX7_goRound_70 : decode cX7_goRound 70 = .ok (.aload_n 0, 1) := by decide +kernel
theorem dX7_goRound_71 : decode cX7_goRound 71 = .ok (.getfield 49, 3) := by decide +kernel
theorem dX7_goRound_74 : decode cX7_goRound 74 = .ok (.if_icmp .ge 176, 3) := by decide +kernel
theorem dX7_goRound_77 : decode cX7_goRound 77 = .ok (.aload_n 0, 1) := by decide +kernel
theorem dX7_goRound_78 : decode cX7_goRound 78 = .ok (.iload_n 1, 1) := by decide +kernel
theorem dX7_goRound_79 : decode cX7_goRound 79 = .ok (.iload_n 2, 1) := by decide +kernel
theorem dX7_goRound_80 : decode cX7_goRound 80 = .ok (.iload 5, 2) := by decide +kernel
theorem dX7_goRound_82 : decode cX7_goRound 82 = .ok (.invokevirtual 85, 3) := by decide +kernel
theorem dX7_goRound_85 : decode cX7_goRound 85 = .ok (.ifCond .eq 6, 3) := by decide +kernel
theorem dX7_goRound_88 : decode cX7_goRound 88 = .ok (.goto 156, 3) := by decide +kernel
theorem dX7_goRound_91 : decode cX7_goRound 91 = .ok (.aload_n 0, 1) := by decide +kernel
theorem dX7_goRound_92 : decode cX7_goRound 92 = .ok (.iload_n 1, 1) := by decide +kernel
theorem dX7_goRound_93 : decode cX7_goRound 93 = .ok (.iload_n 2, 1) := by decide +kernel
theorem dX7_goRound_94 : decode cX7_goRound 94 = .ok (.iload 5, 2) := by decide +kernel
theorem dX7_goRound_96 : decode cX7_goRound 96 = .ok (.iload_n 3, 1) := by decide +kernel
theorem dX7_goRound_97 : decode cX7_goRound 97 = .ok (.invokevirtual 109, 3) := by decide +kernel
theorem dX7_goRound_100 : decode cX7_goRound 100 = .ok (.istore 6, 2) := by decide +kernel
theorem dX7_goRound_102 : decode cX7_goRound 102 = .ok (.iload 6, 2) := by decide +kernel
theorem dX7_goRound_104 : decode cX7_goRound 104 = .ok (.iconst (-1), 1) := by decide +kernel
theorem dX7_goRound_105 : decode cX7_goRound 105 = .ok (.if_icmp .ne 7, 3) := by decide +kernel
theorem dX7_goRound_108 : decode cX7_goRound 108 = .ok (.iconst 0, 1) := by decide +kernel
theorem dX7_goRound_109 : decode cX7_goRound 109 = .ok (.goto 12, 3) := by decide +kernel
theorem dX7_goRound_112 : decode cX7_goRound 112 = .ok (.aload_n 0, 1) := by decide +kernel
theorem dX7_goRound_113 : decode cX7_goRound 113 = .ok (.getfield 40, 3) := by decide +kernel
theorem dX7_goRound_116 : decode cX7_goRound 116 = .ok (.iload 6, 2) := by decide +kernel
theorem dX7_goRound_118 : decode cX7_goRound 118 = .ok (.iaload, 1) := by decide +kernel
theorem dX7_goRound_119 : decode cX7_goRound 119 = .ok (.iconst 1, 1) := by decide +kernel
theorem dX7_goRound_120 : decode cX7_goRound 120 = .ok (.iadd, 1) := by decide +kernel
theorem dX7_goRound_121 : decode cX7_goRound 121 = .ok (.istore 7, 2) := by decide +kernel
theorem dX7_goRound_123 : decode cX7_goRound 123 = .ok (.iload 4, 2) := by decide +kernel
theorem dX7_goRound_125 : decode cX7_goRound 125 = .ok (.ifCond .ne 15, 3) := by decide +kernel
theorem dX7_goRound_128 : decode cX7_goRound 128 = .ok (.iload 7, 2) := by decide +kernel
theorem dX7_goRound_130 : decode cX7_goRound 130 = .ok (.aload_n 0, 1) := by decide +kernel
theorem dX7_goRound_131 : decode cX7_goRound 131 = .ok (.getfield 34, 3) := by decide +kernel
theorem dX7_goRound_134 : decode cX7_goRound 134 = .ok (.iload 5, 2) := by decide +kernel
theorem dX7_goRound_136 : decode cX7_goRound 136 = .ok (.iaload, 1) := by decide +kernel
theorem dX7_goRound_137 : decode cX7_goRound 137 = .ok (.if_icmp .eq 7, 3) := by decide +kernel
theorem dX7_goRound_140 : decode cX7_goRound 140 = .ok (.iconst 1, 1) := by decide +kernel
theorem dX7_goRound_141 : decode cX7_goRound 141 = .ok (.goto 4, 3) := by decide +kernel
theorem dX7_goRound_144 : decode cX7_goRound 144 = .ok (.iconst 0, 1) := by decide +kernel
theorem dX7_goRound_145 : decode cX7_goRound 145 = .ok (.istore 4, 2) := by decide +kernel
theorem dX7_goRound_147 : decode cX7_goRound 147 = .ok (.aload_n 0, 1) := by decide +kernel
theorem dX7_goRound_148 : decode cX7_goRound 148 = .ok (.getfield 34, 3) := by decide +kernel
theorem dX7_goRound_151 : decode cX7_goRound 151 = .ok (.iload 5, 2) := by decide +kernel
theorem dX7_goRound_153 : decode cX7_goRound 153 = .ok (.iload 7, 2) := by decide +kernel
theorem dX7_goRound_155 : decode cX7_goRound 155 = .ok (.iastore, 1) := by decide +kernel
theorem dX7_goRound_156 : decode cX7_goRound 156 = .ok (.iconst 0, 1) := by decide +kernel
theorem dX7_goRound_157 : decode cX7_goRound 157 = .ok (.istore 8, 2) := by decide +kernel
theorem dX7_goRound_159 : decode cX7_goRound 159 = .ok (.iload 8, 2) := by decide +kernel
theorem dX7_goRound_161 : decode cX7_goRound 161 = .ok (.iload 7, 2) := by decide +kernel
theorem dX7_goRound_163 : decode cX7_goRound 163 = .ok (.if_icmp .ge 81, 3) := by decide +kernel
theorem dX7_goRound_166 : decode cX7_goRound 166 = .ok (.iload 8, 2) := by decide +kernel
theorem dX7_goRound_168 : decode cX7_goRound 168 = .ok (.ifCond .ne 8, 3) := by decide +kernel
theorem dX7_goRound_171 : decode cX7_goRound 171 = .ok (.iload 5, 2) := by decide +kernel
theorem dX7_goRound_173 : decode cX7_goRound 173 = .ok (.goto 18, 3) := by decide +kernel
theorem dX7_goRound_176 : decode cX7_goRound 176 = .ok (.aload_n 0, 1) := by decide +kernel
theorem dX7_goRound_177 : decode cX7_goRound 177 = .ok (.getfield 37, 3) := by decide +kernel
theorem dX7_goRound_180 : decode cX7_goRound 180 = .ok (.bipush 10, 2) := by decide +kernel
theorem dX7_goRound_182 : decode cX7_goRound 182 = .ok (.iload 6, 2) := by decide +kernel
theorem dX7_goRound_184 : decode cX7_goRound 184 = .ok (.imul, 1) := by decide +kernel
theorem dX7_goRound_185 : decode cX7_goRound 185 = .ok (.iload 8, 2) := by decide +kernel
theorem dX7_goRound_187 : decode cX7_goRound 187 = .ok (.iadd, 1) := by decide +kernel
theorem dX7_goRound_188 : decode cX7_goRound 188 = .ok (.iconst 1, 1) := by decide +kernel
theorem dX7_goRound_189 : decode cX7_goRound 189 = .ok (.isub, 1) := by decide +kernel
theorem dX7_goRound_190 : decode cX7_goRound 190 = .ok (.iaload, 1) := by decide +kernel
theorem dX7_goRound_191 : decode cX7_goRound 191 = .ok (.istore 9, 2) := by decide +kernel
theorem dX7_goRound_193 : decode cX7_goRound 193 = .ok (.iload 4, 2) := by decide +kernel
theorem dX7_goRound_195 : decode cX7_goRound 195 = .ok (.ifCond .ne 21, 3) := by decide +kernel
theorem dX7_goRound_198 : decode cX7_goRound 198 = .ok (.aload_n 0, 1) := by decide +kernel
theorem dX7_goRound_199 : decode cX7_goRound 199 = .ok (.getfield 31, 3) := by decide +kernel
theorem dX7_goRound_202 : decode cX7_goRound 202 = .ok (.bipush 10, 2) := by decide +kernel
theorem dX7_goRound_204 : decode cX7_goRound 204 = .ok (.iload 5, 2) := by decide +kernel
theorem dX7_goRound_206 : decode cX7_goRound 206 = .ok (.imul, 1) := by decide +kernel
theorem dX7_goRound_207 : decode cX7_goRound 207 = .ok (.iload 8, 2) := by decide +kernel
theorem dX7_goRound_209 : decode cX7_goRound 209 = .ok (.iadd, 1) := by decide +kernel
theorem dX7_goRound_210 : decode cX7_goRound 210 = .ok (.iaload, 1) := by decide +kernel
theorem dX7_goRound_211 : decode cX7_goRound 211 = .ok (.iload 9, 2) := by decide +kernel
theorem dX7_goRound_213 : decode cX7_goRound 213 = .ok (.if_icmp .eq 7, 3) := by decide +kernel
theorem dX7_goRound_216 : decode cX7_goRound 216 = .ok (.iconst 1, 1) := by decide +kernel
theorem dX7_goRound_217 : decode cX7_goRound 217 = .ok (.goto 4, 3) := by decide +kernel
theorem dX7_goRound_220 : decode cX7_goRound 220 = .ok (.iconst 0, 1) := by decide +kernel
theorem dX7_goRound_221 : decode cX7_goRound 221 = .ok (.istore 4, 2) := by decide +kernel
theorem dX7_goRound_223 : decode cX7_goRound 223 = .ok (.aload_n 0, 1) := by decide +kernel
theorem dX7_goRound_224 : decode cX7_goRound 224 = .ok (.getfield 31, 3) := by decide +kernel
theorem dX7_goRound_227 : decode cX7_goRound 227 = .ok (.bipush 10, 2) := by decide +kernel
theorem dX7_goRound_229 : decode cX7_goRound 229 = .ok (.iload 5, 2) := by decide +kernel
theorem dX7_goRound_231 : decode cX7_goRound 231 = .ok (.imul, 1) := by decide +kernel
theorem dX7_goRound_232 : decode cX7_goRound 232 = .ok (.iload 8, 2) := by decide +kernel
theorem dX7_goRound_234 : decode cX7_goRound 234 = .ok (.iadd, 1) := by decide +kernel
theorem dX7_goRound_235 : decode cX7_goRound 235 = .ok (.iload 9, 2) := by decide +kernel
theorem dX7_goRound_237 : decode cX7_goRound 237 = .ok (.iastore, 1) := by decide +kernel
theorem dX7_goRound_238 : decode cX7_goRound 238 = .ok (.iinc 8 1, 3) := by decide +kernel
theorem dX7_goRound_241 : decode cX7_goRound 241 = .ok (.goto (-82), 3) := by decide +kernel
theorem dX7_goRound_244 : decode cX7_goRound 244 = .ok (.iinc 5 1, 3) := by decide +kernel
theorem dX7_goRound_247 : decode cX7_goRound 247 = .ok (.goto (-179), 3) := by decide +kernel
theorem dX7_goRound_250 : decode cX7_goRound 250 = .ok (.iload 4, 2) := by decide +kernel
theorem dX7_goRound_252 : decode cX7_goRound 252 = .ok (.ireturn, 1) := by decide +kernel
theorem hd_yX7_goRound : (yX7_goRound).cls ≠ "java/lang/invoke/MethodHandle" ∧ (yX7_goRound).cls ≠ "java/lang/invoke/VarHandle" ∧ (parseMethodDescriptor (yX7_goRound).desc).map (fun d => d.parameters.length) = some 3 := ⟨by decide, by decide, by decide +kernel⟩
def f_X7_goRound_J221 (l1 : Int32) (l2 : Int32) (l3 : Int32) (l5 : Int32) (l6 : Int32) (l7 : Int32) (l8 : Int32) (l9 : Int32) (s0 : Int32) (σ : ZS) : Option ((Int32 × Int32 × ZS) ⊕ ((Int32 × Int32 × ZS) ⊕ (Int32 × ZS))) :=
  ck (inb (((10 : Int32) * l5) + l8) 100) (some (.inl (s0, l8 + 1, setA σ 8 (Int32.toNatClampNeg (((10 : Int32) * l5) + l8)) l9)))
def f_X7_goRound_J216 (l1 : Int32) (l2 : Int32) (l3 : Int32) (l5 : Int32) (l6 : Int32) (l7 : Int32) (l8 : Int32) (l9 : Int32) (σ : ZS) : Option ((Int32 × Int32 × ZS) ⊕ ((Int32 × Int32 × ZS) ⊕ (Int32 × ZS))) :=
  f_X7_goRound_J221 l1 l2 l3 l5 l6 l7 l8 l9 1 σ
def f_X7_goRound_J191 (l1 : Int32) (l2 : Int32) (l3 : Int32) (l4 : Int32) (l5 : Int32) (l6 : Int32) (l7 : Int32) (l8 : Int32) (s0 : Int32) (σ : ZS) : Option ((Int32 × Int32 × ZS) ⊕ ((Int32 × Int32 × ZS) ⊕ (Int32 × ZS))) :=
  (if l4 = 0 then ld (σ.2.1 8) 100 (((10 : Int32) * l5) + l8) (fun y6 => (if y6 = s0 then f_X7_goRound_J221 l1 l2 l3 l5 l6 l7 l8 s0 0 σ else f_X7_goRound_J216 l1 l2 l3 l5 l6 l7 l8 s0 σ)) else f_X7_goRound_J216 l1 l2 l3 l5 l6 l7 l8 s0 σ)
def f_X7_goRound_B159 (l1 : Int32) (l2 : Int32) (l3 : Int32) (l5 : Int32) (l6 : Int32) (l7 : Int32) (t2 : (Int32 × Int32 × ZS)) : Option ((Int32 × Int32 × ZS) ⊕ ((Int32 × Int32 × ZS) ⊕ (Int32 × ZS))) :=
  (if l7 ≤ t2.2.1 then wi (some (.inl (t2.1, l5 + 1, t2.2.2))) else (if t2.2.1 = 0 then f_X7_goRound_J191 l1 l2 l3 t2.1 l5 l6 l7 t2.2.1 l5 t2.2.2 else ld (t2.2.2.2.1 10) 100 ((((10 : Int32) * l6) + t2.2.1) - 1) (fun y7 => f_X7_goRound_J191 l1 l2 l3 t2.1 l5 l6 l7 t2.2.1 y7 t2.2.2)))
def f_X7_goRound_J145 (l1 : Int32) (l2 : Int32) (l3 : Int32) (l5 : Int32) (l6 : Int32) (l7 : Int32) (s0 : Int32) (σ : ZS) : Option ((Int32 × Int32 × ZS) ⊕ (Int32 × ZS)) :=
  ck (inb l5 10) (lp zF (f_X7_goRound_B159 l1 l2 l3 l5 l6 l7) (s0, 0, setA σ 9 (Int32.toNatClampNeg l5) l7))
def f_X7_goRound_J140 (l1 : Int32) (l2 : Int32) (l3 : Int32) (l5 : Int32) (l6 : Int32) (l7 : Int32) (σ : ZS) : Option ((Int32 × Int32 × ZS) ⊕ (Int32 × ZS)) :=
  f_X7_goRound_J145 l1 l2 l3 l5 l6 l7 1 σ
def f_X7_goRound_J121 (l1 : Int32) (l2 : Int32) (l3 : Int32) (l4 : Int32) (l5 : Int32) (l6 : Int32) (s0 : Int32) (σ : ZS) : Option ((Int32 × Int32 × ZS) ⊕ (Int32 × ZS)) :=
  (if l4 = 0 then ld (σ.2.1 9) 10 l5 (fun y5 => (if s0 = y5 then f_X7_goRound_J145 l1 l2 l3 l5 l6 s0 0 σ else f_X7_goRound_J140 l1 l2 l3 l5 l6 s0 σ)) else f_X7_goRound_J140 l1 l2 l3 l5 l6 s0 σ)
def f_X7_goRound_B68 (l1 : Int32) (l2 : Int32) (l3 : Int32) (t1 : (Int32 × Int32 × ZS)) : Option ((Int32 × Int32 × ZS) ⊕ (Int32 × ZS)) :=
  (if (t1.2.2.1 0) ≤ t1.2.1 then ck (isB t1.1) (wi (some (t1.1, t1.2.2))) else Option.bind (f_X7_says l1 l2 t1.2.1 t1.2.2) (fun q3 => (if q3 = 0 then Option.bind (f_X7_bestFor l1 l2 t1.2.1 l3 t1.2.2) (fun q4 => (if q4 = (-1) then f_X7_goRound_J121 l1 l2 l3 t1.1 t1.2.1 q4 0 t1.2.2 else ld (t1.2.2.2.1 11) 10 q4 (fun y8 => f_X7_goRound_J121 l1 l2 l3 t1.1 t1.2.1 q4 (y8 + 1) t1.2.2))) else some (.inl (t1.1, t1.2.1 + 1, t1.2.2)))))
def f_X7_goRound_J62 (l1 : Int32) (l2 : Int32) (l3 : Int32) (σ : ZS) : Option (Int32 × ZS) :=
  lp zF (f_X7_goRound_B68 l1 l2 l3) (0, 0, σ)
def f_X7_goRound_B33 (l1 : Int32) (l2 : Int32) (l3 : Int32) (t1 : (Int32 × ZS)) : Option ((Int32 × ZS) ⊕ (Int32 × ZS)) :=
  (if (t1.2.1 0) ≤ t1.1 then wi (f_X7_goRound_J62 l1 l2 l3 t1.2) else ld (t1.2.2.1 9) 10 t1.1 (fun y2 => ck (inb t1.1 10) (some (.inl (t1.1 + 1, setA t1.2 11 (Int32.toNatClampNeg t1.1) y2)))))
def f_X7_goRound_J30 (l1 : Int32) (l2 : Int32) (l3 : Int32) (σ : ZS) : Option (Int32 × ZS) :=
  lp zF (f_X7_goRound_B33 l1 l2 l3) (0, σ)
def f_X7_goRound_B3 (l1 : Int32) (l2 : Int32) (l3 : Int32) (t1 : (Int32 × ZS)) : Option ((Int32 × ZS) ⊕ (Int32 × ZS)) :=
  (if 100 ≤ t1.1 then wi (f_X7_goRound_J30 l1 l2 l3 t1.2) else ld (t1.2.2.1 8) 100 t1.1 (fun y1 => ck (inb t1.1 100) (some (.inl (t1.1 + 1, setA t1.2 10 (Int32.toNatClampNeg t1.1) y1)))))
def f_X7_goRound (p0 : Int32) (p1 : Int32) (p2 : Int32) (σ : ZS) : Option (Int32 × ZS) :=
  lp zF (f_X7_goRound_B3 p0 p1 p2) (0, σ)
set_option maxHeartbeats 4000000 in
set_option maxRecDepth 100000 in
theorem c_X7_goRound (l : Launch) (D : va_G) (A : Nat → Prop) (a : Nat → Nat) (x : ClassId × ClassId × ClassId) (σ : ZS) (p0 : Int32) (p1 : Int32) (p2 : Int32) (r : (Int32 × ZS)) (h : f_X7_goRound p0 p1 p2 σ = some r) : zM l yX7_goRound w_yX7_goRound ({ frames := 4, cells := 0, slots := 0, locals := 102 } : Room) D A (tyz x) [.ref (a 0), .int p0, .int p1, .int p2] (wM a x σ) (some (.int r.1)) (wM a x r.2) := by
  refine z_start [.ref (a 0), .int p0, .int p1, .int p2] (lv := [(0, .ref (a 0)), (1, .int p0), (2, .int p1), (3, .int p2)]) (by decide) (Nat.le_of_ble_eq_true rfl) rfl ?_
  intro p e s m args below meth c C hr hlk
  have J62 : ∀ (σ_62 : ZS), f_X7_goRound_J62 p0 p1 p2 σ_62 = some r → zV p l e ({ frames := 4, cells := 0, slots := 0, locals := 102 } : Room) s m args below meth c 0 0 (MQ below (zQ D A (some (.int r.1)) (wM a x r.2)) args s 0 0 A) D A 10 (wM a x σ_62) 62 [(0, .ref (a 0)), (1, .int p0), (2, .int p1), (3, .int p2)] [] := by
    intro σ_62 h
    unfold f_X7_goRound_J62 at h
    refine z_iconst C (v := 0) dX7_goRound_62 (by decide) ?_
    refine z_istore C [(4, .int 0), (0, .ref (a 0)), (1, .int p0), (2, .int p1), (3, .int p2)] (by decide) rfl dX7_goRound_63 ?_
    refine z_iconst C (v := 0) dX7_goRound_65 (by decide) ?_
    refine z_istore C [(5, .int 0), (4, .int 0), (0, .ref (a 0)), (1, .int p0), (2, .int p1), (3, .int p2)] (by decide) rfl dX7_goRound_66 ?_
    refine z_sub C [2, 3, 4, 5, 1, 0] (lv' := [(0, .ref (a 0)), (1, .int p0), (2, .int p1), (3, .int p2), (4, .int 0), (5, .int 0)]) rfl ?_
    have L68 : ∀ (n : Nat) (t1 : (Int32 × Int32 × ZS)), lp n (f_X7_goRound_B68 p0 p1 p2) t1 = some r → zV p l e ({ frames := 4, cells := 0, slots := 0, locals := 102 } : Room) s m args below meth c 0 0 (MQ below (zQ D A (some (.int r.1)) (wM a x r.2)) args s 0 0 A) D A 10 (wM a x t1.2.2) 68 [(0, .ref (a 0)), (1, .int p0), (2, .int p1), (3, .int p2), (4, .int t1.1), (5, .int t1.2.1)] [] := by
      intro n1
      induction n1 with
      | zero => exact fun _ h => (lp_zero h).elim
      | succ n1 ih1 =>
        intro t1 h
        obtain ⟨u1, h, hk1⟩ := lp_succ h
        have J145 : ∀ (l5_145 : Int32) (l6_145 : Int32) (l7_145 : Int32) (s0_145 : Int32) (σ_145 : ZS), f_X7_goRound_J145 p0 p1 p2 l5_145 l6_145 l7_145 s0_145 σ_145 = some u1 → zV p l e ({ frames := 4, cells := 0, slots := 0, locals := 102 } : Room) s m args below meth c 0 0 (MQ below (zQ D A (some (.int r.1)) (wM a x r.2)) args s 0 0 A) D A 10 (wM a x σ_145) 145 [(0, .ref (a 0)), (1, .int p0), (2, .int p1), (3, .int p2), (5, .int l5_145), (6, .int l6_145), (7, .int l7_145)] [.int s0_145] := by
          intro l5_145 l6_145 l7_145 s0_145 σ_145 h
          unfold f_X7_goRound_J145 at h
          refine z_istore C [(4, .int s0_145), (0, .ref (a 0)), (1, .int p0), (2, .int p1), (3, .int p2), (5, .int l5_145), (6, .int l6_145), (7, .int l7_145)] (by decide) rfl dX7_goRound_145 ?_
          refine z_aload_n C 1 rfl dX7_goRound_147 ?_
          refine z_get C iRX7 0 gM_0 rfl 13 (by decide) fl_RX7_34 rfl dX7_goRound_148 ?_
          refine z_iload C 5 rfl dX7_goRound_151 ?_
          refine z_iload C 7 rfl dX7_goRound_153 ?_
          refine z_iast C 9 0 gM_9 rfl uM_9 dX7_goRound_155 h (fun h => ?_)
          refine z_iconst C (v := 0) dX7_goRound_156 (by decide) ?_
          refine z_istore C [(8, .int 0), (4, .int s0_145), (0, .ref (a 0)), (1, .int p0), (2, .int p1), (3, .int p2), (5, .int l5_145), (6, .int l6_145), (7, .int l7_145)] (by decide) rfl dX7_goRound_157 ?_
          refine z_sub C [2, 3, 4, 5, 1, 6, 7, 8, 0] (lv' := [(0, .ref (a 0)), (1, .int p0), (2, .int p1), (3, .int p2), (4, .int s0_145), (5, .int l5_145), (6, .int l6_145), (7, .int l7_145), (8, .int 0)]) rfl ?_
          have L159 : ∀ (n : Nat) (t2 : (Int32 × Int32 × ZS)), lp n (f_X7_goRound_B159 p0 p1 p2 l5_145 l6_145 l7_145) t2 = some u1 → zV p l e ({ frames := 4, cells := 0, slots := 0, locals := 102 } : Room) s m args below meth c 0 0 (MQ below (zQ D A (some (.int r.1)) (wM a x r.2)) args s 0 0 A) D A 10 (wM a x t2.2.2) 159 [(0, .ref (a 0)), (1, .int p0), (2, .int p1), (3, .int p2), (4, .int t2.1), (5, .int l5_145), (6, .int l6_145), (7, .int l7_145), (8, .int t2.2.1)] [] := by
            intro n2
            induction n2 with
            | zero => exact fun _ h => (lp_zero h).elim
            | succ n2 ih2 =>
              intro t2 h
              obtain ⟨u2, h, hk2⟩ := lp_succ h
              have J221 : ∀ (l8_221 : Int32) (l9_221 : Int32) (s0_221 : Int32) (σ_221 : ZS), f_X7_goRound_J221 p0 p1 p2 l5_145 l6_145 l7_145 l8_221 l9_221 s0_221 σ_221 = some u2 → zV p l e ({ frames := 4, cells := 0, slots := 0, locals := 102 } : Room) s m args below meth c 0 0 (MQ below (zQ D A (some (.int r.1)) (wM a x r.2)) args s 0 0 A) D A 10 (wM a x σ_221) 221 [(0, .ref (a 0)), (1, .int p0), (2, .int p1), (3, .int p2), (5, .int l5_145), (6, .int l6_145), (7, .int l7_145), (8, .int l8_221), (9, .int l9_221)] [.int s0_221] := by
                intro l8_221 l9_221 s0_221 σ_221 h
                unfold f_X7_goRound_J221 at h
                refine z_istore C [(4, .int s0_221), (0, .ref (a 0)), (1, .int p0), (2, .int p1), (3, .int p2), (5, .int l5_145), (6, .int l6_145), (7, .int l7_145), (8, .int l8_221), (9, .int l9_221)] (by decide) rfl dX7_goRound_221 ?_
                refine z_aload_n C 1 rfl dX7_goRound_223 ?_
                refine z_get C iRX7 0 gM_0 rfl 12 (by decide) fl_RX7_31 rfl dX7_goRound_224 ?_
                refine z_bipush C (v := 10) dX7_goRound_227 (by decide) ?_
                refine z_iload C 5 rfl dX7_goRound_229 ?_
                refine z_imul C dX7_goRound_231 ?_
                refine z_iload C 8 rfl dX7_goRound_232 ?_
                refine z_iadd C dX7_goRound_234 ?_
                refine z_iload C 9 rfl dX7_goRound_235 ?_
                refine z_iast C 8 0 gM_8 rfl uM_8 dX7_goRound_237 h (fun h => ?_)
                refine z_iinc C (v := l8_221 + 1) [(8, .int (l8_221 + 1)), (4, .int s0_221), (0, .ref (a 0)), (1, .int p0), (2, .int p1), (3, .int p2), (5, .int l5_145), (6, .int l6_145), (7, .int l7_145), (9, .int l9_221)] 8 rfl rfl (by decide) rfl dX7_goRound_238 ?_
                refine z_goto C 159 (by decide) dX7_goRound_241 ?_
                refine z_sub C [2, 3, 4, 5, 1, 6, 7, 8, 0] (lv' := [(0, .ref (a 0)), (1, .int p0), (2, .int p1), (3, .int p2), (4, .int s0_221), (5, .int l5_145), (6, .int l6_145), (7, .int l7_145), (8, .int (l8_221 + 1))]) rfl ?_
                exact ih2 _ (uninl h hk2)
              have J216 : ∀ (l8_216 : Int32) (l9_216 : Int32) (σ_216 : ZS), f_X7_goRound_J216 p0 p1 p2 l5_145 l6_145 l7_145 l8_216 l9_216 σ_216 = some u2 → zV p l e ({ frames := 4, cells := 0, slots := 0, locals := 102 } : Room) s m args below meth c 0 0 (MQ below (zQ D A (some (.int r.1)) (wM a x r.2)) args s 0 0 A) D A 10 (wM a x σ_216) 216 [(0, .ref (a 0)), (1, .int p0), (2, .int p1), (3, .int p2), (5, .int l5_145), (6, .int l6_145), (7, .int l7_145), (8, .int l8_216), (9, .int l9_216)] [] := by
                intro l8_216 l9_216 σ_216 h
                unfold f_X7_goRound_J216 at h
                refine z_iconst C (v := 1) dX7_goRound_216 (by decide) ?_
                refine z_goto C 221 (by decide) dX7_goRound_217 ?_
                exact J221 _ _ _ _ h
              have J191 : ∀ (l4_191 : Int32) (l8_191 : Int32) (s0_191 : Int32) (σ_191 : ZS), f_X7_goRound_J191 p0 p1 p2 l4_191 l5_145 l6_145 l7_145 l8_191 s0_191 σ_191 = some u2 → zV p l e ({ frames := 4, cells := 0, slots := 0, locals := 102 } : Room) s m args below meth c 0 0 (MQ below (zQ D A (some (.int r.1)) (wM a x r.2)) args s 0 0 A) D A 10 (wM a x σ_191) 191 [(0, .ref (a 0)), (1, .int p0), (2, .int p1), (3, .int p2), (4, .int l4_191), (5, .int l5_145), (6, .int l6_145), (7, .int l7_145), (8, .int l8_191)] [.int s0_191] := by
                intro l4_191 l8_191 s0_191 σ_191 h
                unfold f_X7_goRound_J191 at h
                refine z_istore C [(9, .int s0_191), (0, .ref (a 0)), (1, .int p0), (2, .int p1), (3, .int p2), (4, .int l4_191), (5, .int l5_145), (6, .int l6_145), (7, .int l7_145), (8, .int l8_191)] (by decide) rfl dX7_goRound_191 ?_
                refine z_iload C 5 rfl dX7_goRound_193 ?_
                refine z_if_ne C 216 (by decide) dX7_goRound_195 h (fun h => ?_) (fun h => ?_)
                · refine z_sub C [1, 2, 3, 4, 6, 7, 8, 9, 0] (lv' := [(0, .ref (a 0)), (1, .int p0), (2, .int p1), (3, .int p2), (5, .int l5_145), (6, .int l6_145), (7, .int l7_145), (8, .int l8_191), (9, .int s0_191)]) rfl ?_
                  exact J216 _ _ _ h
                · refine z_aload_n C 1 rfl dX7_goRound_198 ?_
                  refine z_get C iRX7 0 gM_0 rfl 12 (by decide) fl_RX7_31 rfl dX7_goRound_199 ?_
                  refine z_bipush C (v := 10) dX7_goRound_202 (by decide) ?_
                  refine z_iload C 6 rfl dX7_goRound_204 ?_
                  refine z_imul C dX7_goRound_206 ?_
                  refine z_iload C 9 rfl dX7_goRound_207 ?_
                  refine z_iadd C dX7_goRound_209 ?_
                  refine z_iald C 8 0 gM_8 rfl dX7_goRound_210 h (fun y1 h => ?_)
                  refine z_iload C 0 rfl dX7_goRound_211 ?_
                  refine z_icmp_eq C 220 (by decide) dX7_goRound_213 h (fun h => ?_) (fun h => ?_)
                  · refine z_iconst C (v := 0) dX7_goRound_220 (by decide) ?_
                    refine z_sub C [1, 2, 3, 4, 6, 7, 8, 9, 0] (lv' := [(0, .ref (a 0)), (1, .int p0), (2, .int p1), (3, .int p2), (5, .int l5_145), (6, .int l6_145), (7, .int l7_145), (8, .int l8_191), (9, .int s0_191)]) rfl ?_
                    exact J221 _ _ _ _ h
                  · refine z_sub C [1, 2, 3, 4, 6, 7, 8, 9, 0] (lv' := [(0, .ref (a 0)), (1, .int p0), (2, .int p1), (3, .int p2), (5, .int l5_145), (6, .int l6_145), (7, .int l7_145), (8, .int l8_191), (9, .int s0_191)]) rfl ?_
                    exact J216 _ _ _ h
              unfold f_X7_goRound_B159 at h
              refine z_iload C 8 rfl dX7_goRound_159 ?_
              refine z_iload C 7 rfl dX7_goRound_161 ?_
              refine z_icmp_ge C 244 (by decide) dX7_goRound_163 h (fun h => ?_) (fun h => ?_)
              · refine z_iinc C (v := l5_145 + 1) [(5, .int (l5_145 + 1)), (0, .ref (a 0)), (1, .int p0), (2, .int p1), (3, .int p2), (4, .int t2.1), (6, .int l6_145), (7, .int l7_145), (8, .int t2.2.1)] 5 rfl rfl (by decide) rfl dX7_goRound_244 ?_
                refine z_goto C 68 (by decide) dX7_goRound_247 ?_
                refine z_sub C [1, 2, 3, 4, 5, 0] (lv' := [(0, .ref (a 0)), (1, .int p0), (2, .int p1), (3, .int p2), (4, .int t2.1), (5, .int (l5_145 + 1))]) rfl ?_
                have h := unwi h hk2
                exact ih1 _ (uninl h hk1)
              · refine z_iload C 8 rfl dX7_goRound_166 ?_
                refine z_if_ne C 176 (by decide) dX7_goRound_168 h (fun h => ?_) (fun h => ?_)
                · refine z_aload_n C 0 rfl dX7_goRound_176 ?_
                  refine z_get C iRX7 0 gM_0 rfl 14 (by decide) fl_RX7_37 rfl dX7_goRound_177 ?_
                  refine z_bipush C (v := 10) dX7_goRound_180 (by decide) ?_
                  refine z_iload C 6 rfl dX7_goRound_182 ?_
                  refine z_imul C dX7_goRound_184 ?_
                  refine z_iload C 8 rfl dX7_goRound_185 ?_
                  refine z_iadd C dX7_goRound_187 ?_
                  refine z_iconst C (v := 1) dX7_goRound_188 (by decide) ?_
                  refine z_isub C dX7_goRound_189 ?_
                  refine z_iald C 10 0 gM_10 rfl dX7_goRound_190 h (fun y2 h => ?_)
                  exact J191 _ _ _ _ h
                · refine z_iload C 5 rfl dX7_goRound_171 ?_
                  refine z_goto C 191 (by decide) dX7_goRound_173 ?_
                  exact J191 _ _ _ _ h
          exact L159 _ _ h
        have J140 : ∀ (l5_140 : Int32) (l6_140 : Int32) (l7_140 : Int32) (σ_140 : ZS), f_X7_goRound_J140 p0 p1 p2 l5_140 l6_140 l7_140 σ_140 = some u1 → zV p l e ({ frames := 4, cells := 0, slots := 0, locals := 102 } : Room) s m args below meth c 0 0 (MQ below (zQ D A (some (.int r.1)) (wM a x r.2)) args s 0 0 A) D A 10 (wM a x σ_140) 140 [(0, .ref (a 0)), (1, .int p0), (2, .int p1), (3, .int p2), (5, .int l5_140), (6, .int l6_140), (7, .int l7_140)] [] := by
          intro l5_140 l6_140 l7_140 σ_140 h
          unfold f_X7_goRound_J140 at h
          refine z_iconst C (v := 1) dX7_goRound_140 (by decide) ?_
          refine z_goto C 145 (by decide) dX7_goRound_141 ?_
          exact J145 _ _ _ _ _ h
        have J121 : ∀ (l4_121 : Int32) (l5_121 : Int32) (l6_121 : Int32) (s0_121 : Int32) (σ_121 : ZS), f_X7_goRound_J121 p0 p1 p2 l4_121 l5_121 l6_121 s0_121 σ_121 = some u1 → zV p l e ({ frames := 4, cells := 0, slots := 0, locals := 102 } : Room) s m args below meth c 0 0 (MQ below (zQ D A (some (.int r.1)) (wM a x r.2)) args s 0 0 A) D A 10 (wM a x σ_121) 121 [(0, .ref (a 0)), (1, .int p0), (2, .int p1), (3, .int p2), (4, .int l4_121), (5, .int l5_121), (6, .int l6_121)] [.int s0_121] := by
          intro l4_121 l5_121 l6_121 s0_121 σ_121 h
          unfold f_X7_goRound_J121 at h
          refine z_istore C [(7, .int s0_121), (0, .ref (a 0)), (1, .int p0), (2, .int p1), (3, .int p2), (4, .int l4_121), (5, .int l5_121), (6, .int l6_121)] (by decide) rfl dX7_goRound_121 ?_
          refine z_iload C 5 rfl dX7_goRound_123 ?_
          refine z_if_ne C 140 (by decide) dX7_goRound_125 h (fun h => ?_) (fun h => ?_)
          · refine z_sub C [1, 2, 3, 4, 6, 7, 0] (lv' := [(0, .ref (a 0)), (1, .int p0), (2, .int p1), (3, .int p2), (5, .int l5_121), (6, .int l6_121), (7, .int s0_121)]) rfl ?_
            exact J140 _ _ _ _ h
          · refine z_iload C 0 rfl dX7_goRound_128 ?_
            refine z_aload_n C 1 rfl dX7_goRound_130 ?_
            refine z_get C iRX7 0 gM_0 rfl 13 (by decide) fl_RX7_34 rfl dX7_goRound_131 ?_
            refine z_iload C 6 rfl dX7_goRound_134 ?_
            refine z_iald C 9 0 gM_9 rfl dX7_goRound_136 h (fun y3 h => ?_)
            refine z_icmp_eq C 144 (by decide) dX7_goRound_137 h (fun h => ?_) (fun h => ?_)
            · refine z_iconst C (v := 0) dX7_goRound_144 (by decide) ?_
              refine z_sub C [1, 2, 3, 4, 6, 7, 0] (lv' := [(0, .ref (a 0)), (1, .int p0), (2, .int p1), (3, .int p2), (5, .int l5_121), (6, .int l6_121), (7, .int s0_121)]) rfl ?_
              exact J145 _ _ _ _ _ h
            · refine z_sub C [1, 2, 3, 4, 6, 7, 0] (lv' := [(0, .ref (a 0)), (1, .int p0), (2, .int p1), (3, .int p2), (5, .int l5_121), (6, .int l6_121), (7, .int s0_121)]) rfl ?_
              exact J140 _ _ _ _ h
        unfold f_X7_goRound_B68 at h
        refine z_iload C 5 rfl dX7_goRound_68 ?_
        refine z_aload_n C 0 rfl dX7_goRound_70 ?_
        refine z_get C iRX7 0 gM_0 rfl 0 (by decide) fl_RX7_49 rfl dX7_goRound_71 ?_
        refine z_icmp_ge C 250 (by decide) dX7_goRound_74 h (fun h => ?_) (fun h => ?_)
        · refine z_iload C 4 rfl dX7_goRound_250 ?_
          obtain ⟨hb, h⟩ := ck_spec h
          have h := unwi h hk1
          cases h
          exact z_zret C hr hlk hb dX7_goRound_252
        · refine z_aload_n C 0 rfl dX7_goRound_77 ?_
          refine z_iload_n C 1 rfl dX7_goRound_78 ?_
          refine z_iload_n C 2 rfl dX7_goRound_79 ?_
          refine z_iload C 5 rfl dX7_goRound_80 ?_
          obtain ⟨q4, hq4, h⟩ := bd_spec h
          refine z_callV1 C [.int p0, .int p1, .int t1.2.1] [] (v := (.int q4)) rfl (c_X7_says l D A a x t1.2.2 p0 p1 t1.2.1 q4 hq4) cd_yX7_says in_RX7 ml_RX7_85 im_yX7_says sl_yX7_says gM_0 rfl hd_yX7_says ⟨⟨Nat.le_of_ble_eq_true rfl, Nat.le_of_ble_eq_true rfl⟩, rfl, rfl⟩ rfl (Nat.le_of_ble_eq_true rfl) ⟨Nat.zero_le _, Nat.zero_le _⟩ dX7_goRound_82 ?_
          refine z_if_eq C 91 (by decide) dX7_goRound_85 h (fun h => ?_) (fun h => ?_)
          · refine z_aload_n C 0 rfl dX7_goRound_91 ?_
            refine z_iload_n C 1 rfl dX7_goRound_92 ?_
            refine z_iload_n C 2 rfl dX7_goRound_93 ?_
            refine z_iload C 5 rfl dX7_goRound_94 ?_
            refine z_iload_n C 3 rfl dX7_goRound_96 ?_
            obtain ⟨q5, hq5, h⟩ := bd_spec h
            refine z_callV1 C [.int p0, .int p1, .int t1.2.1, .int p2] [] (v := (.int q5)) rfl (c_X7_bestFor l D A a x t1.2.2 p0 p1 t1.2.1 p2 q5 hq5) cd_yX7_bestFor in_RX7 ml_RX7_109 im_yX7_bestFor sl_yX7_bestFor gM_0 rfl hd_yX7_bestFor ⟨⟨Nat.le_of_ble_eq_true rfl, Nat.le_of_ble_eq_true rfl⟩, rfl, rfl⟩ rfl (Nat.le_of_ble_eq_true rfl) ⟨Nat.zero_le _, Nat.zero_le _⟩ dX7_goRound_97 ?_
            refine z_istore C [(6, .int q5), (0, .ref (a 0)), (1, .int p0), (2, .int p1), (3, .int p2), (4, .int t1.1), (5, .int t1.2.1)] (by decide) rfl dX7_goRound_100 ?_
            refine z_iload C 0 rfl dX7_goRound_102 ?_
            refine z_iconst C (v := (-1)) dX7_goRound_104 (by decide) ?_
            refine z_icmp_ne C 112 (by decide) dX7_goRound_105 h (fun h => ?_) (fun h => ?_)
            · refine z_aload_n C 1 rfl dX7_goRound_112 ?_
              refine z_get C iRX7 0 gM_0 rfl 15 (by decide) fl_RX7_40 rfl dX7_goRound_113 ?_
              refine z_iload C 0 rfl dX7_goRound_116 ?_
              refine z_iald C 11 0 gM_11 rfl dX7_goRound_118 h (fun y6 h => ?_)
              refine z_iconst C (v := 1) dX7_goRound_119 (by decide) ?_
              refine z_iadd C dX7_goRound_120 ?_
              refine z_sub C [1, 2, 3, 4, 5, 6, 0] (lv' := [(0, .ref (a 0)), (1, .int p0), (2, .int p1), (3, .int p2), (4, .int t1.1), (5, .int t1.2.1), (6, .int q5)]) rfl ?_
              exact J121 _ _ _ _ _ h
            · refine z_iconst C (v := 0) dX7_goRound_108 (by decide) ?_
              refine z_goto C 121 (by decide) dX7_goRound_109 ?_
              refine z_sub C [1, 2, 3, 4, 5, 6, 0] (lv' := [(0, .ref (a 0)), (1, .int p0), (2, .int p1), (3, .int p2), (4, .int t1.1), (5, .int t1.2.1), (6, .int q5)]) rfl ?_
              exact J121 _ _ _ _ _ h
          · refine z_goto C 244 (by decide) dX7_goRound_88 ?_
            refine z_iinc C (v := t1.2.1 + 1) [(5, .int (t1.2.1 + 1)), (0, .ref (a 0)), (1, .int p0), (2, .int p1), (3, .int p2), (4, .int t1.1)] 5 rfl rfl (by decide) rfl dX7_goRound_244 ?_
            refine z_goto C 68 (by decide) dX7_goRound_247 ?_
            refine z_sub C [1, 2, 3, 4, 5, 0] (lv' := [(0, .ref (a 0)), (1, .int p0), (2, .int p1), (3, .int p2), (4, .int t1.1), (5, .int (t1.2.1 + 1))]) rfl ?_
            exact ih1 _ (uninl h hk1)
    exact L68 _ _ h
  have J30 : ∀ (σ_30 : ZS), f_X7_goRound_J30 p0 p1 p2 σ_30 = some r → zV p l e ({ frames := 4, cells := 0, slots := 0, locals := 102 } : Room) s m args below meth c 0 0 (MQ below (zQ D A (some (.int r.1)) (wM a x r.2)) args s 0 0 A) D A 10 (wM a x σ_30) 30 [(0, .ref (a 0)), (1, .int p0), (2, .int p1), (3, .int p2)] [] := by
    intro σ_30 h
    unfold f_X7_goRound_J30 at h
    refine z_iconst C (v := 0) dX7_goRound_30 (by decide) ?_
    refine z_istore C [(4, .int 0), (0, .ref (a 0)), (1, .int p0), (2, .int p1), (3, .int p2)] (by decide) rfl dX7_goRound_31 ?_
    refine z_sub C [1, 2, 3, 4, 0] (lv' := [(0, .ref (a 0)), (1, .int p0), (2, .int p1), (3, .int p2), (4, .int 0)]) rfl ?_
    have L33 : ∀ (n : Nat) (t1 : (Int32 × ZS)), lp n (f_X7_goRound_B33 p0 p1 p2) t1 = some r → zV p l e ({ frames := 4, cells := 0, slots := 0, locals := 102 } : Room) s m args below meth c 0 0 (MQ below (zQ D A (some (.int r.1)) (wM a x r.2)) args s 0 0 A) D A 10 (wM a x t1.2) 33 [(0, .ref (a 0)), (1, .int p0), (2, .int p1), (3, .int p2), (4, .int t1.1)] [] := by
      intro n1
      induction n1 with
      | zero => exact fun _ h => (lp_zero h).elim
      | succ n1 ih1 =>
        intro t1 h
        obtain ⟨u1, h, hk1⟩ := lp_succ h
        unfold f_X7_goRound_B33 at h
        refine z_iload C 4 rfl dX7_goRound_33 ?_
        refine z_aload_n C 0 rfl dX7_goRound_35 ?_
        refine z_get C iRX7 0 gM_0 rfl 0 (by decide) fl_RX7_49 rfl dX7_goRound_36 ?_
        refine z_icmp_ge C 62 (by decide) dX7_goRound_39 h (fun h => ?_) (fun h => ?_)
        · refine z_sub C [0, 1, 2, 3] (lv' := [(0, .ref (a 0)), (1, .int p0), (2, .int p1), (3, .int p2)]) rfl ?_
          have h := unwi h hk1
          exact J62 _ h
        · refine z_aload_n C 0 rfl dX7_goRound_42 ?_
          refine z_get C iRX7 0 gM_0 rfl 15 (by decide) fl_RX7_40 rfl dX7_goRound_43 ?_
          refine z_iload C 4 rfl dX7_goRound_46 ?_
          refine z_aload_n C 0 rfl dX7_goRound_48 ?_
          refine z_get C iRX7 0 gM_0 rfl 13 (by decide) fl_RX7_34 rfl dX7_goRound_49 ?_
          refine z_iload C 4 rfl dX7_goRound_52 ?_
          refine z_iald C 9 0 gM_9 rfl dX7_goRound_54 h (fun y7 h => ?_)
          refine z_iast C 11 0 gM_11 rfl uM_11 dX7_goRound_55 h (fun h => ?_)
          refine z_iinc C (v := t1.1 + 1) [(4, .int (t1.1 + 1)), (0, .ref (a 0)), (1, .int p0), (2, .int p1), (3, .int p2)] 4 rfl rfl (by decide) rfl dX7_goRound_56 ?_
          refine z_goto C 33 (by decide) dX7_goRound_59 ?_
          refine z_sub C [1, 2, 3, 4, 0] (lv' := [(0, .ref (a 0)), (1, .int p0), (2, .int p1), (3, .int p2), (4, .int (t1.1 + 1))]) rfl ?_
          exact ih1 _ (uninl h hk1)
    exact L33 _ _ h
  unfold f_X7_goRound at h
  refine z_iconst C (v := 0) dX7_goRound_0 (by decide) ?_
  refine z_istore C [(4, .int 0), (0, .ref (a 0)), (1, .int p0), (2, .int p1), (3, .int p2)] (by decide) rfl dX7_goRound_1 ?_
  refine z_sub C [1, 2, 3, 4, 0] (lv' := [(0, .ref (a 0)), (1, .int p0), (2, .int p1), (3, .int p2), (4, .int 0)]) rfl ?_
  have L3 : ∀ (n : Nat) (t1 : (Int32 × ZS)), lp n (f_X7_goRound_B3 p0 p1 p2) t1 = some r → zV p l e ({ frames := 4, cells := 0, slots := 0, locals := 102 } : Room) s m args below meth c 0 0 (MQ below (zQ D A (some (.int r.1)) (wM a x r.2)) args s 0 0 A) D A 10 (wM a x t1.2) 3 [(0, .ref (a 0)), (1, .int p0), (2, .int p1), (3, .int p2), (4, .int t1.1)] [] := by
    intro n1
    induction n1 with
    | zero => exact fun _ h => (lp_zero h).elim
    | succ n1 ih1 =>
      intro t1 h
      obtain ⟨u1, h, hk1⟩ := lp_succ h
      unfold f_X7_goRound_B3 at h
      refine z_iload C 4 rfl dX7_goRound_3 ?_
      refine z_bipush C (v := 100) dX7_goRound_5 (by decide) ?_
      refine z_icmp_ge C 30 (by decide) dX7_goRound_7 h (fun h => ?_) (fun h => ?_)
      · refine z_sub C [0, 1, 2, 3] (lv' := [(0, .ref (a 0)), (1, .int p0), (2, .int p1), (3, .int p2)]) rfl ?_
        have h := unwi h hk1
        exact J30 _ h
      · refine z_aload_n C 0 rfl dX7_goRound_10 ?_
        refine z_get C iRX7 0 gM_0 rfl 14 (by decide) fl_RX7_37 rfl dX7_goRound_11 ?_
        refine z_iload C 4 rfl dX7_goRound_14 ?_
        refine z_aload_n C 0 rfl dX7_goRound_16 ?_
        refine z_get C iRX7 0 gM_0 rfl 12 (by decide) fl_RX7_31 rfl dX7_goRound_17 ?_
        refine z_iload C 4 rfl dX7_goRound_20 ?_
        refine z_iald C 8 0 gM_8 rfl dX7_goRound_22 h (fun y8 h => ?_)
        refine z_iast C 10 0 gM_10 rfl uM_10 dX7_goRound_23 h (fun h => ?_)
        refine z_iinc C (v := t1.1 + 1) [(4, .int (t1.1 + 1)), (0, .ref (a 0)), (1, .int p0), (2, .int p1), (3, .int p2)] 4 rfl rfl (by decide) rfl dX7_goRound_24 ?_
        refine z_goto C 3 (by decide) dX7_goRound_27 ?_
        refine z_sub C [1, 2, 3, 4, 0] (lv' := [(0, .ref (a 0)), (1, .int p0), (2, .int p1), (3, .int p2), (4, .int (t1.1 + 1))]) rfl ?_
        exact ih1 _ (uninl h hk1)
  exact L3 _ _ h
theorem dX7_findWays_0 : decode cX7_findWays 0 = .ok (.iconst 0, 1) := by decide +kernel
theorem dX7_findWays_1 : decode cX7_findWays 1 = .ok (.istore 4, 2) := by decide +kernel
theorem dX7_findWays_3 : decode cX7_findWays 3 = .ok (.iload 4, 2) := by decide +kernel
theorem dX7_findWays_5 : decode cX7_findWays 5 = .ok (.aload_n 0, 1) := by decide +kernel
theorem dX7_findWays_6 : decode cX7_findWays 6 = .ok (.getfield 49, 3) := by decide +kernel
theorem dX7_findWays_9 : decode cX7_findWays 9 = .ok (.if_icmp .ge 44, 3) := by decide +kernel
theorem dX7_findWays_12 : decode cX7_findWays 12 = .ok (.aload_n 0, 1) := by decide +kernel
theorem dX7_findWays_13 : decode cX7_findWays 13 = .ok (.getfield 34, 3) := by decide +kernel
theorem dX7_findWays_16 : decode cX7_findWays 16 = .ok (.iload 4, 2) := by decide +kernel
theorem dX7_findWays_18 : decode cX7_findWays 18 = .ok (.aload_n 0, 1) := by decide +kernel
theorem dX7_findWays_19 : decode cX7_findWays 19 = .ok (.iload_n 1, 1) := by decide +kernel
theorem dX7_findWays_20 : decode cX7_findWays 20 = .ok (.iload_n 2, 1) := by decide +kernel
theorem dX7_findWays_21 : decode cX7_findWays 21 = .ok (.iload 4, 2) := by decide +kernel
theorem dX7_findWays_23 : decode cX7_findWays 23 = .ok (.invokevirtual 85, 3) := by decide +kernel
theorem dX7_findWays_26 : decode cX7_findWays 26 = .ok (.ifCond .eq 7, 3) := by decide +kernel
theorem dX7_findWays_29 : decode cX7_findWays 29 = .ok (.iconst 1, 1) := by decide +kernel
theorem dX7_findWays_30 : decode cX7_findWays 30 = .ok (.goto 4, 3) := by decide +kernel
theorem dX7_findWays_33 : decode cX7_findWays 33 = .ok (.iconst 0, 1) := by decide +kernel
theorem dX7_findWays_34 : decode cX7_findWays 34 = .ok (.iastore, 1) := by decide +kernel
theorem dX7_findWays_35 : decode cX7_findWays 35 = .ok (.aload_n 0, 1) := by decide +kernel
theorem dX7_findWays_36 : decode cX7_findWays 36 = .ok (.getfield 31, 3) := by decide +kernel
theorem dX7_findWays_39 : decode cX7_findWays 39 = .ok (.bipush 10, 2) := by decide +kernel
theorem dX7_findWays_41 : decode cX7_findWays 41 = .ok (.iload 4, 2) := by decide +kernel
theorem dX7_findWays_43 : decode cX7_findWays 43 = .ok (.imul, 1) := by decide +kernel
theorem dX7_findWays_44 : decode cX7_findWays 44 = .ok (.iload 4, 2) := by decide +kernel
theorem dX7_findWays_46 : decode cX7_findWays 46 = .ok (.iastore, 1) := by decide +kernel
theorem dX7_findWays_47 : decode cX7_findWays 47 = .ok (.iinc 4 1, 3) := by decide +kernel
theorem dX7_findWays_50 : decode cX7_findWays 50 = .ok (.goto (-47), 3) := by decide +kernel
theorem dX7_findWays_53 : decode cX7_findWays 53 = .ok (.aload_n 0, 1) := by decide +kernel
theorem dX7_findWays_54 : decode cX7_findWays 54 = .ok (.iconst 0, 1) := by decide +kernel
theorem dX7_findWays_55 : decode cX7_findWays 55 = .ok (.putfield 113, 3) := by decide +kernel
theorem dX7_findWays_58 : decode cX7_findWays 58 = .ok (.iconst 1, 1) := by decide +kernel
theorem dX7_findWays_59 : decode cX7_findWays 59 = .ok (.istore 4, 2) := by decide +kernel
theorem dX7_findWays_61 : decode cX7_findWays 61 = .ok (.iload 4, 2) := by decide +kernel
theorem dX7_findWays_63 : decode cX7_findWays 63 = .ok (.ifCond .eq 43, 3) := by decide +kernel
theorem dX7_findWays_66 : decode cX7_findWays 66 = .ok (.aload_n 0, 1) := by decide +kernel
theorem dX7_findWays_67 : decode cX7_findWays 67 = .ok (.getfield 113, 3) := by decide +kernel
theorem dX7_findWays_70 : decode cX7_findWays 70 = .ok (.bipush 50, 2) := by decide +kernel
theorem dX7_findWays_72 : decode cX7_findWays 72 = .ok (.if_icmp .ge 34, 3) := by decide +kernel
theorem dX7_findWays_75 : decode cX7_findWays 75 = .ok (.aload_n 0, 1) := by decide +kernel
theorem dX7_findWays_76 : decode cX7_findWays 76 = .ok (.iload_n 1, 1) := by decide +kernel
theorem dX7_findWays_77 : decode cX7_findWays 77 = .ok (.iload_n 2, 1) := by decide +kernel
theorem dX7_findWays_78 : decode cX7_findWays 78 = .ok (.iload_n 3, 1) := by decide +kernel
theorem dX7_findWays_79 : decode cX7_findWays 79 = .ok (.invokevirtual 116, 3) := by decide +kernel
theorem dX7_findWays_82 : decode cX7_findWays 82 = .ok (.istore 4, 2) := by decide +kernel
theorem dX7_findWays_84 : decode cX7_findWays 84 = .ok (.aload_n 0, 1) := by decide +kernel
theorem dX7_findWays_85 : decode cX7_findWays 85 = .ok (.dup, 1) := by decide +kernel
theorem dX7_findWays_86 : decode cX7_findWays 86 = .ok (.getfield 113, 3) := by decide +kernel
theorem dX7_findWays_89 : decode cX7_findWays 89 = .ok (.iload 4, 2) := by decide +kernel
theorem dX7_findWays_91 : decode cX7_findWays 91 = .ok (.ifCond .eq 7, 3) := by decide +kernel
theorem dX7_findWays_94 : decode cX7_findWays 94 = .ok (.iconst 1, 1) := by decide +kernel
theorem dX7_findWays_95 : decode cX7_findWays 95 = .ok (.goto 4, 3) := by decide +kernel
theorem dX7_findWays_98 : decode cX7_findWays 98 = .ok (.iconst 0, 1) := by decide +kernel
theorem dX7_findWays_99 : decode cX7_findWays 99 = .ok (.iadd, 1) := by decide +kernel
theorem dX7_findWays_100 : decode cX7_findWays 100 = .ok (.putfield 113, 3) := by decide +kernel
theorem dX7_findWays_103 : decode cX7_findWays 103 = .ok (.goto (-42), 3) := by decide +kernel
theorem dX7_findWays_106 : decode cX7_findWays 106 = .ok (.aload_n 0, 1) := by decide +kernel
theorem dX7_findWays_107 : decode cX7_findWays 107 = .ok (.iload 4, 2) := by decide +kernel
theorem dX7_findWays_109 : decode cX7_findWays 109 = .ok (.putfield 119, 3) := by decide +kernel
theorem dX7_findWays_112 : decode cX7_findWays 112 = .ok (.return_, 1) := by decide +kernel
theorem hd_yX7_findWays : (yX7_findWays).cls ≠ "java/lang/invoke/MethodHandle" ∧ (yX7_findWays).cls ≠ "java/lang/invoke/VarHandle" ∧ (parseMethodDescriptor (yX7_findWays).desc).map (fun d => d.parameters.length) = some 3 := ⟨by decide, by decide, by decide +kernel⟩
def f_X7_findWays_J34 (l1 : Int32) (l2 : Int32) (l3 : Int32) (l4 : Int32) (s0 : Int32) (s1 : Int32) (σ : ZS) : Option ((Int32 × ZS) ⊕ ZS) :=
  ck (inb s1 10) (ck (inb ((10 : Int32) * l4) 100) (some (.inl (l4 + 1, setA (setA σ 9 (Int32.toNatClampNeg s1) s0) 8 (Int32.toNatClampNeg ((10 : Int32) * l4)) l4))))
def f_X7_findWays_B61 (l1 : Int32) (l2 : Int32) (l3 : Int32) (t1 : (Int32 × ZS)) : Option ((Int32 × ZS) ⊕ ZS) :=
  (if t1.1 = 0 then ck (isB t1.1) (wi (some (setI t1.2 6 t1.1))) else (if 50 ≤ (t1.2.1 5) then ck (isB t1.1) (wi (some (setI t1.2 6 t1.1))) else Option.bind (f_X7_goRound l1 l2 l3 t1.2) (fun q2 => (if q2.1 = 0 then some (.inl (q2.1, setI q2.2 5 ((q2.2.1 5) + 0))) else some (.inl (q2.1, setI q2.2 5 ((q2.2.1 5) + 1)))))))
def f_X7_findWays_J53 (l1 : Int32) (l2 : Int32) (l3 : Int32) (σ : ZS) : Option ZS :=
  lp zF (f_X7_findWays_B61 l1 l2 l3) (1, setI σ 5 0)
def f_X7_findWays_B3 (l1 : Int32) (l2 : Int32) (l3 : Int32) (t1 : (Int32 × ZS)) : Option ((Int32 × ZS) ⊕ ZS) :=
  (if (t1.2.1 0) ≤ t1.1 then wi (f_X7_findWays_J53 l1 l2 l3 t1.2) else Option.bind (f_X7_says l1 l2 t1.1 t1.2) (fun q1 => (if q1 = 0 then f_X7_findWays_J34 l1 l2 l3 t1.1 0 t1.1 t1.2 else f_X7_findWays_J34 l1 l2 l3 t1.1 1 t1.1 t1.2)))
def f_X7_findWays (p0 : Int32) (p1 : Int32) (p2 : Int32) (σ : ZS) : Option ZS :=
  lp zF (f_X7_findWays_B3 p0 p1 p2) (0, σ)
set_option maxHeartbeats 4000000 in
set_option maxRecDepth 100000 in
theorem c_X7_findWays (l : Launch) (D : va_G) (A : Nat → Prop) (a : Nat → Nat) (x : ClassId × ClassId × ClassId) (σ : ZS) (p0 : Int32) (p1 : Int32) (p2 : Int32) (r : ZS) (h : f_X7_findWays p0 p1 p2 σ = some r) : zM l yX7_findWays w_yX7_findWays ({ frames := 5, cells := 0, slots := 0, locals := 131 } : Room) D A (tyz x) [.ref (a 0), .int p0, .int p1, .int p2] (wM a x σ) none (wM a x r) := by
  refine z_start [.ref (a 0), .int p0, .int p1, .int p2] (lv := [(0, .ref (a 0)), (1, .int p0), (2, .int p1), (3, .int p2)]) (by decide) (Nat.le_of_ble_eq_true rfl) rfl ?_
  intro p e s m args below meth c C hr hlk
  have J53 : ∀ (σ_53 : ZS), f_X7_findWays_J53 p0 p1 p2 σ_53 = some r → zV p l e ({ frames := 5, cells := 0, slots := 0, locals := 131 } : Room) s m args below meth c 0 0 (MQ below (zQ D A none (wM a x r)) args s 0 0 A) D A 5 (wM a x σ_53) 53 [(0, .ref (a 0)), (1, .int p0), (2, .int p1), (3, .int p2)] [] := by
    intro σ_53 h
    unfold f_X7_findWays_J53 at h
    refine z_aload_n C 0 rfl dX7_findWays_53 ?_
    refine z_iconst C (v := 0) dX7_findWays_54 (by decide) ?_
    refine z_put C iRX7 tyX7 tyX7_ok nmX7 0 gM_0 rfl 16 (by decide) fl_RX7_113 rfl (ty := .int) (by decide +kernel) ⟨rfl, rfl⟩ (Nat.le_of_ble_eq_true rfl) pM_0_16 dX7_findWays_55 ?_
    refine z_iconst C (v := 1) dX7_findWays_58 (by decide) ?_
    refine z_istore C [(4, .int 1), (0, .ref (a 0)), (1, .int p0), (2, .int p1), (3, .int p2)] (by decide) rfl dX7_findWays_59 ?_
    refine z_sub C [1, 2, 3, 4, 0] (lv' := [(0, .ref (a 0)), (1, .int p0), (2, .int p1), (3, .int p2), (4, .int 1)]) rfl ?_
    have L61 : ∀ (n : Nat) (t1 : (Int32 × ZS)), lp n (f_X7_findWays_B61 p0 p1 p2) t1 = some r → zV p l e ({ frames := 5, cells := 0, slots := 0, locals := 131 } : Room) s m args below meth c 0 0 (MQ below (zQ D A none (wM a x r)) args s 0 0 A) D A 5 (wM a x t1.2) 61 [(0, .ref (a 0)), (1, .int p0), (2, .int p1), (3, .int p2), (4, .int t1.1)] [] := by
      intro n1
      induction n1 with
      | zero => exact fun _ h => (lp_zero h).elim
      | succ n1 ih1 =>
        intro t1 h
        obtain ⟨u1, h, hk1⟩ := lp_succ h
        unfold f_X7_findWays_B61 at h
        refine z_iload C 4 rfl dX7_findWays_61 ?_
        refine z_if_eq C 106 (by decide) dX7_findWays_63 h (fun h => ?_) (fun h => ?_)
        · refine z_aload_n C 0 rfl dX7_findWays_106 ?_
          refine z_iload C 4 rfl dX7_findWays_107 ?_
          obtain ⟨hb, h⟩ := ck_spec h
          refine z_put C iRX7 tyX7 tyX7_ok nmX7 0 gM_0 rfl 17 (by decide) fl_RX7_119 rfl (ty := .boolean) (by decide +kernel) (isB_n hb) (Nat.le_of_ble_eq_true rfl) pM_0_17 dX7_findWays_109 ?_
          have h := unwi h hk1
          cases h
          exact z_vret C hr hlk dX7_findWays_112
        · refine z_aload_n C 0 rfl dX7_findWays_66 ?_
          refine z_get C iRX7 0 gM_0 rfl 16 (by decide) fl_RX7_113 rfl dX7_findWays_67 ?_
          refine z_bipush C (v := 50) dX7_findWays_70 (by decide) ?_
          refine z_icmp_ge C 106 (by decide) dX7_findWays_72 h (fun h => ?_) (fun h => ?_)
          · refine z_aload_n C 0 rfl dX7_findWays_106 ?_
            refine z_iload C 4 rfl dX7_findWays_107 ?_
            obtain ⟨hb, h⟩ := ck_spec h
            refine z_put C iRX7 tyX7 tyX7_ok nmX7 0 gM_0 rfl 17 (by decide) fl_RX7_119 rfl (ty := .boolean) (by decide +kernel) (isB_n hb) (Nat.le_of_ble_eq_true rfl) pM_0_17 dX7_findWays_109 ?_
            have h := unwi h hk1
            cases h
            exact z_vret C hr hlk dX7_findWays_112
          · refine z_aload_n C 0 rfl dX7_findWays_75 ?_
            refine z_iload_n C 1 rfl dX7_findWays_76 ?_
            refine z_iload_n C 2 rfl dX7_findWays_77 ?_
            refine z_iload_n C 3 rfl dX7_findWays_78 ?_
            obtain ⟨q1, hq1, h⟩ := bd_spec h
            refine z_callV1 C [.int p0, .int p1, .int p2] [] (v := (.int q1.1)) rfl (c_X7_goRound l D A a x t1.2 p0 p1 p2 q1 hq1) cd_yX7_goRound in_RX7 ml_RX7_116 im_yX7_goRound sl_yX7_goRound gM_0 rfl hd_yX7_goRound ⟨⟨Nat.le_of_ble_eq_true rfl, Nat.le_of_ble_eq_true rfl⟩, rfl, rfl⟩ rfl (Nat.le_of_ble_eq_true rfl) ⟨Nat.zero_le _, Nat.zero_le _⟩ dX7_findWays_79 ?_
            refine z_istore C [(4, .int q1.1), (0, .ref (a 0)), (1, .int p0), (2, .int p1), (3, .int p2)] (by decide) rfl dX7_findWays_82 ?_
            refine z_aload_n C 1 rfl dX7_findWays_84 ?_
            refine z_dup C rfl dX7_findWays_85 ?_
            refine z_get C iRX7 0 gM_0 rfl 16 (by decide) fl_RX7_113 rfl dX7_findWays_86 ?_
            refine z_iload C 0 rfl dX7_findWays_89 ?_
            refine z_if_eq C 98 (by decide) dX7_findWays_91 h (fun h => ?_) (fun h => ?_)
            · refine z_iconst C (v := 0) dX7_findWays_98 (by decide) ?_
              refine z_iadd C dX7_findWays_99 ?_
              refine z_put C iRX7 tyX7 tyX7_ok nmX7 0 gM_0 rfl 16 (by decide) fl_RX7_113 rfl (ty := .int) (by decide +kernel) ⟨rfl, rfl⟩ (Nat.le_of_ble_eq_true rfl) pM_0_16 dX7_findWays_100 ?_
              refine z_goto C 61 (by decide) dX7_findWays_103 ?_
              refine z_sub C [1, 2, 3, 4, 0] (lv' := [(0, .ref (a 0)), (1, .int p0), (2, .int p1), (3, .int p2), (4, .int q1.1)]) rfl ?_
              exact ih1 _ (uninl h hk1)
            · refine z_iconst C (v := 1) dX7_findWays_94 (by decide) ?_
              refine z_goto C 99 (by decide) dX7_findWays_95 ?_
              refine z_iadd C dX7_findWays_99 ?_
              refine z_put C iRX7 tyX7 tyX7_ok nmX7 0 gM_0 rfl 16 (by decide) fl_RX7_113 rfl (ty := .int) (by decide +kernel) ⟨rfl, rfl⟩ (Nat.le_of_ble_eq_true rfl) pM_0_16 dX7_findWays_100 ?_
              refine z_goto C 61 (by decide) dX7_findWays_103 ?_
              refine z_sub C [1, 2, 3, 4, 0] (lv' := [(0, .ref (a 0)), (1, .int p0), (2, .int p1), (3, .int p2), (4, .int q1.1)]) rfl ?_
              exact ih1 _ (uninl h hk1)
    exact L61 _ _ h
  unfold f_X7_findWays at h
  refine z_iconst C (v := 0) dX7_findWays_0 (by decide) ?_
  refine z_istore C [(4, .int 0), (0, .ref (a 0)), (1, .int p0), (2, .int p1), (3, .int p2)] (by decide) rfl dX7_findWays_1 ?_
  refine z_sub C [1, 2, 3, 4, 0] (lv' := [(0, .ref (a 0)), (1, .int p0), (2, .int p1), (3, .int p2), (4, .int 0)]) rfl ?_
  have L3 : ∀ (n : Nat) (t1 : (Int32 × ZS)), lp n (f_X7_findWays_B3 p0 p1 p2) t1 = some r → zV p l e ({ frames := 5, cells := 0, slots := 0, locals := 131 } : Room) s m args below meth c 0 0 (MQ below (zQ D A none (wM a x r)) args s 0 0 A) D A 5 (wM a x t1.2) 3 [(0, .ref (a 0)), (1, .int p0), (2, .int p1), (3, .int p2), (4, .int t1.1)] [] := by
    intro n1
    induction n1 with
    | zero => exact fun _ h => (lp_zero h).elim
    | succ n1 ih1 =>
      intro t1 h
      obtain ⟨u1, h, hk1⟩ := lp_succ h
      have J34 : ∀ (l4_34 : Int32) (s0_34 : Int32) (s1_34 : Int32) (σ_34 : ZS), f_X7_findWays_J34 p0 p1 p2 l4_34 s0_34 s1_34 σ_34 = some u1 → zV p l e ({ frames := 5, cells := 0, slots := 0, locals := 131 } : Room) s m args below meth c 0 0 (MQ below (zQ D A none (wM a x r)) args s 0 0 A) D A 5 (wM a x σ_34) 34 [(0, .ref (a 0)), (1, .int p0), (2, .int p1), (3, .int p2), (4, .int l4_34)] [.int s0_34, .int s1_34, .ref (a 9)] := by
        intro l4_34 s0_34 s1_34 σ_34 h
        unfold f_X7_findWays_J34 at h
        refine z_iast C 9 0 gM_9 rfl uM_9 dX7_findWays_34 h (fun h => ?_)
        refine z_aload_n C 0 rfl dX7_findWays_35 ?_
        refine z_get C iRX7 0 gM_0 rfl 12 (by decide) fl_RX7_31 rfl dX7_findWays_36 ?_
        refine z_bipush C (v := 10) dX7_findWays_39 (by decide) ?_
        refine z_iload C 4 rfl dX7_findWays_41 ?_
        refine z_imul C dX7_findWays_43 ?_
        refine z_iload C 4 rfl dX7_findWays_44 ?_
        refine z_iast C 8 0 gM_8 rfl uM_8 dX7_findWays_46 h (fun h => ?_)
        refine z_iinc C (v := l4_34 + 1) [(4, .int (l4_34 + 1)), (0, .ref (a 0)), (1, .int p0), (2, .int p1), (3, .int p2)] 4 rfl rfl (by decide) rfl dX7_findWays_47 ?_
        refine z_goto C 3 (by decide) dX7_findWays_50 ?_
        refine z_sub C [1, 2, 3, 4, 0] (lv' := [(0, .ref (a 0)), (1, .int p0), (2, .int p1), (3, .int p2), (4, .int (l4_34 + 1))]) rfl ?_
        exact ih1 _ (uninl h hk1)
      unfold f_X7_findWays_B3 at h
      refine z_iload C 4 rfl dX7_findWays_3 ?_
      refine z_aload_n C 0 rfl dX7_findWays_5 ?_
      refine z_get C iRX7 0 gM_0 rfl 0 (by decide) fl_RX7_49 rfl dX7_findWays_6 ?_
      refine z_icmp_ge C 53 (by decide) dX7_findWays_9 h (fun h => ?_) (fun h => ?_)
      · refine z_sub C [0, 1, 2, 3] (lv' := [(0, .ref (a 0)), (1, .int p0), (2, .int p1), (3, .int p2)]) rfl ?_
        have h := unwi h hk1
        exact J53 _ h
      · refine z_aload_n C 0 rfl dX7_findWays_12 ?_
        refine z_get C iRX7 0 gM_0 rfl 13 (by decide) fl_RX7_34 rfl dX7_findWays_13 ?_
        refine z_iload C 4 rfl dX7_findWays_16 ?_
        refine z_aload_n C 0 rfl dX7_findWays_18 ?_
        refine z_iload_n C 1 rfl dX7_findWays_19 ?_
        refine z_iload_n C 2 rfl dX7_findWays_20 ?_
        refine z_iload C 4 rfl dX7_findWays_21 ?_
        obtain ⟨q2, hq2, h⟩ := bd_spec h
        refine z_callV1 C [.int p0, .int p1, .int t1.1] [.int t1.1, .ref (a 9)] (v := (.int q2)) rfl (c_X7_says l D A a x t1.2 p0 p1 t1.1 q2 hq2) cd_yX7_says in_RX7 ml_RX7_85 im_yX7_says sl_yX7_says gM_0 rfl hd_yX7_says ⟨⟨Nat.le_of_ble_eq_true rfl, Nat.le_of_ble_eq_true rfl⟩, rfl, rfl⟩ rfl (Nat.le_of_ble_eq_true rfl) ⟨Nat.zero_le _, Nat.zero_le _⟩ dX7_findWays_23 ?_
        refine z_if_eq C 33 (by decide) dX7_findWays_26 h (fun h => ?_) (fun h => ?_)
        · refine z_iconst C (v := 0) dX7_findWays_33 (by decide) ?_
          exact J34 _ _ _ _ h
        · refine z_iconst C (v := 1) dX7_findWays_29 (by decide) ?_
          refine z_goto C 34 (by decide) dX7_findWays_30 ?_
          exact J34 _ _ _ _ h
  exact L3 _ _ h
theorem dX7_asked_0 : decode cX7_asked 0 = .ok (.iload_n 1, 1) := by decide +kernel
theorem dX7_asked_1 : decode cX7_asked 1 = .ok (.iload_n 2, 1) := by decide +kernel
theorem dX7_asked_2 : decode cX7_asked 2 = .ok (.invokestatic 72, 3) := by decide +kernel
theorem dX7_asked_5 : decode cX7_asked 5 = .ok (.ifCond .ne 6, 3) := by decide +kernel
theorem dX7_asked_8 : decode cX7_asked 8 = .ok (.bipush (-2), 2) := by decide +kernel
theorem dX7_asked_10 : decode cX7_asked 10 = .ok (.ireturn, 1) := by decide +kernel
theorem dX7_asked_11 : decode cX7_asked 11 = .ok (.aload_n 0, 1) := by decide +kernel
theorem dX7_asked_12 : decode cX7_asked 12 = .ok (.iload_n 1, 1) := by decide +kernel
theorem dX7_asked_13 : decode cX7_asked 13 = .ok (.iload_n 2, 1) := by decide +kernel
theorem dX7_asked_14 : decode cX7_asked 14 = .ok (.invokevirtual 123, 3) := by decide +kernel
theorem dX7_asked_17 : decode cX7_asked 17 = .ok (.ifCond .ne 6, 3) := by decide +kernel
theorem dX7_asked_20 : decode cX7_asked 20 = .ok (.bipush (-5), 2) := by decide +kernel
theorem dX7_asked_22 : decode cX7_asked 22 = .ok (.ireturn, 1) := by decide +kernel
theorem dX7_asked_23 : decode cX7_asked 23 = .ok (.aload_n 0, 1) := by decide +kernel
theorem dX7_asked_24 : decode cX7_asked 24 = .ok (.iload_n 1, 1) := by decide +kernel
theorem dX7_asked_25 : decode cX7_asked 25 = .ok (.iload_n 2, 1) := by decide +kernel
theorem dX7_asked_26 : decode cX7_asked 26 = .ok (.aload_n 0, 1) := by decide +kernel
theorem dX7_asked_27 : decode cX7_asked 27 = .ok (.getfield 95, 3) := by decide +kernel
theorem dX7_asked_30 : decode cX7_asked 30 = .ok (.invokevirtual 126, 3) := by decide +kernel
theorem dX7_asked_33 : decode cX7_asked 33 = .ok (.iconst 0, 1) := by decide +kernel
theorem dX7_asked_34 : decode cX7_asked 34 = .ok (.ireturn, 1) := by decide +kernel
theorem hd_yX7_asked : (yX7_asked).cls ≠ "java/lang/invoke/MethodHandle" ∧ (yX7_asked).cls ≠ "java/lang/invoke/VarHandle" ∧ (parseMethodDescriptor (yX7_asked).desc).map (fun d => d.parameters.length) = some 2 := ⟨by decide, by decide, by decide +kernel⟩
def f_X7_asked (p0 : Int32) (p1 : Int32) (σ : ZS) : Option (Int32 × ZS) :=
  Option.bind (f_X7_isBlock p0 p1) (fun q1 => (if q1 = 0 then some ((-2), σ) else Option.bind (f_X7_isSaid p0 p1 σ) (fun q2 => (if q2 = 0 then some ((-5), σ) else Option.bind (f_X7_findWays p0 p1 (σ.1 4) σ) (fun q3 => some (0, q3))))))
set_option maxHeartbeats 4000000 in
set_option maxRecDepth 100000 in
theorem c_X7_asked (l : Launch) (D : va_G) (A : Nat → Prop) (a : Nat → Nat) (x : ClassId × ClassId × ClassId) (σ : ZS) (p0 : Int32) (p1 : Int32) (r : (Int32 × ZS)) (h : f_X7_asked p0 p1 σ = some r) : zM l yX7_asked w_yX7_asked ({ frames := 6, cells := 0, slots := 0, locals := 155 } : Room) D A (tyz x) [.ref (a 0), .int p0, .int p1] (wM a x σ) (some (.int r.1)) (wM a x r.2) := by
  refine z_start [.ref (a 0), .int p0, .int p1] (lv := [(0, .ref (a 0)), (1, .int p0), (2, .int p1)]) (by decide) (Nat.le_of_ble_eq_true rfl) rfl ?_
  intro p e s m args below meth c C hr hlk
  unfold f_X7_asked at h
  refine z_iload_n C 1 rfl dX7_asked_0 ?_
  refine z_iload_n C 2 rfl dX7_asked_1 ?_
  obtain ⟨q1, hq1, h⟩ := bd_spec h
  refine z_callS1 C [.int p0, .int p1] [] (v := .int q1) rfl (c_X7_isBlock l D A (tyz x) (wM a x σ) p0 p1 q1 hq1) cd_yX7_isBlock in_RX7 ml_RX7_72 sm_yX7_isBlock hd_yX7_isBlock ⟨⟨Nat.le_of_ble_eq_true rfl, Nat.le_of_ble_eq_true rfl⟩, rfl, rfl⟩ rfl (Nat.le_of_ble_eq_true rfl) ⟨Nat.zero_le _, Nat.zero_le _⟩ dX7_asked_2 ?_
  refine z_if_ne C 11 (by decide) dX7_asked_5 h (fun h => ?_) (fun h => ?_)
  · refine z_aload_n C 0 rfl dX7_asked_11 ?_
    refine z_iload_n C 1 rfl dX7_asked_12 ?_
    refine z_iload_n C 2 rfl dX7_asked_13 ?_
    obtain ⟨q2, hq2, h⟩ := bd_spec h
    refine z_callV1 C [.int p0, .int p1] [] (v := (.int q2)) rfl (c_X7_isSaid l D A a x σ p0 p1 q2 hq2) cd_yX7_isSaid in_RX7 ml_RX7_123 im_yX7_isSaid sl_yX7_isSaid gM_0 rfl hd_yX7_isSaid ⟨⟨Nat.le_of_ble_eq_true rfl, Nat.le_of_ble_eq_true rfl⟩, rfl, rfl⟩ rfl (Nat.le_of_ble_eq_true rfl) ⟨Nat.zero_le _, Nat.zero_le _⟩ dX7_asked_14 ?_
    refine z_if_ne C 23 (by decide) dX7_asked_17 h (fun h => ?_) (fun h => ?_)
    · refine z_aload_n C 0 rfl dX7_asked_23 ?_
      refine z_iload_n C 1 rfl dX7_asked_24 ?_
      refine z_iload_n C 2 rfl dX7_asked_25 ?_
      refine z_aload_n C 0 rfl dX7_asked_26 ?_
      refine z_get C iRX7 0 gM_0 rfl 11 (by decide) fl_RX7_95 rfl dX7_asked_27 ?_
      obtain ⟨q3, hq3, h⟩ := bd_spec h
      refine z_callV0 C [.int p0, .int p1, .int (σ.1 4)] [] rfl (c_X7_findWays l D A a x σ p0 p1 (σ.1 4) q3 hq3) cd_yX7_findWays in_RX7 ml_RX7_126 im_yX7_findWays sl_yX7_findWays gM_0 rfl hd_yX7_findWays ⟨⟨Nat.le_of_ble_eq_true rfl, Nat.le_of_ble_eq_true rfl⟩, rfl, rfl⟩ rfl (Nat.le_of_ble_eq_true rfl) ⟨Nat.zero_le _, Nat.zero_le _⟩ dX7_asked_30 ?_
      refine z_iconst C (v := 0) dX7_asked_33 (by decide) ?_
      cases h
      exact z_iret C hr hlk dX7_asked_34
    · refine z_bipush C (v := (-5)) dX7_asked_20 (by decide) ?_
      cases h
      exact z_iret C hr hlk dX7_asked_22
  · refine z_bipush C (v := (-2)) dX7_asked_8 (by decide) ?_
    cases h
    exact z_iret C hr hlk dX7_asked_10
theorem dX7_rounds_0 : decode cX7_rounds 0 = .ok (.aload_n 0, 1) := by decide +kernel
theorem dX7_rounds_1 : decode cX7_rounds 1 = .ok (.iload_n 1, 1) := by decide +kernel
theorem dX7_rounds_2 : decode cX7_rounds 2 = .ok (.iload_n 2, 1) := by decide +kernel
theorem dX7_rounds_3 : decode cX7_rounds 3 = .ok (.invokevirtual 129, 3) := by decide +kernel
theorem dX7_rounds_6 : decode cX7_rounds 6 = .ok (.istore_n 3, 1) := by decide +kernel
theorem dX7_rounds_7 : decode cX7_rounds 7 = .ok (.iload_n 3, 1) := by decide +kernel
theorem dX7_rounds_8 : decode cX7_rounds 8 = .ok (.ifCond .ge 7, 3) := by decide +kernel
theorem dX7_rounds_11 : decode cX7_rounds 11 = .ok (.iload_n 3, 1) := by decide +kernel
theorem dX7_rounds_12 : decode cX7_rounds 12 = .ok (.goto 7, 3) := by decide +kernel
theorem dX7_rounds_15 : decode cX7_rounds 15 = .ok (.aload_n 0, 1) := by decide +kernel
theorem dX7_rounds_16 : decode cX7_rounds 16 = .ok (.getfield 113, 3) := by decide +kernel
theorem dX7_rounds_19 : decode cX7_rounds 19 = .ok (.ireturn, 1) := by decide +kernel
theorem hd_yX7_rounds : (yX7_rounds).cls ≠ "java/lang/invoke/MethodHandle" ∧ (yX7_rounds).cls ≠ "java/lang/invoke/VarHandle" ∧ (parseMethodDescriptor (yX7_rounds).desc).map (fun d => d.parameters.length) = some 2 := ⟨by decide, by decide, by decide +kernel⟩
def f_X7_rounds (p0 : Int32) (p1 : Int32) (σ : ZS) : Option (Int32 × ZS) :=
  Option.bind (f_X7_asked p0 p1 σ) (fun q1 => (if 0 ≤ q1.1 then some (q1.2.1 5, q1.2) else some (q1.1, q1.2)))
set_option maxHeartbeats 4000000 in
set_option maxRecDepth 100000 in
theorem c_X7_rounds (l : Launch) (D : va_G) (A : Nat → Prop) (a : Nat → Nat) (x : ClassId × ClassId × ClassId) (σ : ZS) (p0 : Int32) (p1 : Int32) (r : (Int32 × ZS)) (h : f_X7_rounds p0 p1 σ = some r) : zM l yX7_rounds w_yX7_rounds ({ frames := 7, cells := 0, slots := 0, locals := 177 } : Room) D A (tyz x) [.ref (a 0), .int p0, .int p1] (wM a x σ) (some (.int r.1)) (wM a x r.2) := by
  refine z_start [.ref (a 0), .int p0, .int p1] (lv := [(0, .ref (a 0)), (1, .int p0), (2, .int p1)]) (by decide) (Nat.le_of_ble_eq_true rfl) rfl ?_
  intro p e s m args below meth c C hr hlk
  unfold f_X7_rounds at h
  refine z_aload_n C 0 rfl dX7_rounds_0 ?_
  refine z_iload_n C 1 rfl dX7_rounds_1 ?_
  refine z_iload_n C 2 rfl dX7_rounds_2 ?_
  obtain ⟨q1, hq1, h⟩ := bd_spec h
  refine z_callV1 C [.int p0, .int p1] [] (v := (.int q1.1)) rfl (c_X7_asked l D A a x σ p0 p1 q1 hq1) cd_yX7_asked in_RX7 ml_RX7_129 im_yX7_asked sl_yX7_asked gM_0 rfl hd_yX7_asked ⟨⟨Nat.le_of_ble_eq_true rfl, Nat.le_of_ble_eq_true rfl⟩, rfl, rfl⟩ rfl (Nat.le_of_ble_eq_true rfl) ⟨Nat.zero_le _, Nat.zero_le _⟩ dX7_rounds_3 ?_
  refine z_istore_n C [(3, .int q1.1), (0, .ref (a 0)), (1, .int p0), (2, .int p1)] rfl (by decide) rfl dX7_rounds_6 ?_
  refine z_iload_n C 0 rfl dX7_rounds_7 ?_
  refine z_if_ge C 15 (by decide) dX7_rounds_8 h (fun h => ?_) (fun h => ?_)
  · refine z_aload_n C 1 rfl dX7_rounds_15 ?_
    refine z_get C iRX7 0 gM_0 rfl 16 (by decide) fl_RX7_113 rfl dX7_rounds_16 ?_
    cases h
    exact z_iret C hr hlk dX7_rounds_19
  · refine z_iload_n C 0 rfl dX7_rounds_11 ?_
    refine z_goto C 19 (by decide) dX7_rounds_12 ?_
    cases h
    exact z_iret C hr hlk dX7_rounds_19
theorem dX7_restless_0 : decode cX7_restless 0 = .ok (.aload_n 0, 1) := by decide +kernel
theorem dX7_restless_1 : decode cX7_restless 1 = .ok (.iload_n 1, 1) := by decide +kernel
theorem dX7_restless_2 : decode cX7_restless 2 = .ok (.iload_n 2, 1) := by decide +kernel
theorem dX7_restless_3 : decode cX7_restless 3 = .ok (.invokevirtual 129, 3) := by decide +kernel
theorem dX7_restless_6 : decode cX7_restless 6 = .ok (.istore_n 3, 1) := by decide +kernel
theorem dX7_restless_7 : decode cX7_restless 7 = .ok (.iload_n 3, 1) := by decide +kernel
theorem dX7_restless_8 : decode cX7_restless 8 = .ok (.ifCond .ge 7, 3) := by decide +kernel
theorem dX7_restless_11 : decode cX7_restless 11 = .ok (.iload_n 3, 1) := by decide +kernel
theorem dX7_restless_12 : decode cX7_restless 12 = .ok (.goto 15, 3) := by decide +kernel
theorem dX7_restless_15 : decode cX7_restless 15 = .ok (.aload_n 0, 1) := by decide +kernel
theorem dX7_restless_16 : decode cX7_restless 16 = .ok (.getfield 119, 3) := by decide +kernel
theorem dX7_restless_19 : decode cX7_restless 19 = .ok (.ifCond .eq 7, 3) := by decide +kernel
theorem dX7_restless_22 : decode cX7_restless 22 = .ok (.iconst 1, 1) := by decide +kernel
theorem dX7_restless_23 : decode cX7_restless 23 = .ok (.goto 4, 3) := by decide +kernel
theorem dX7_restless_26 : decode cX7_restless 26 = .ok (.iconst 0, 1) := by decide +kernel
theorem dX7_restless_27 : decode cX7_restless 27 = .ok (.ireturn, 1) := by decide +kernel
theorem hd_yX7_restless : (yX7_restless).cls ≠ "java/lang/invoke/MethodHandle" ∧ (yX7_restless).cls ≠ "java/lang/invoke/VarHandle" ∧ (parseMethodDescriptor (yX7_restless).desc).map (fun d => d.parameters.length) = some 2 := ⟨by decide, by decide, by decide +kernel⟩
def f_X7_restless (p0 : Int32) (p1 : Int32) (σ : ZS) : Option (Int32 × ZS) :=
  Option.bind (f_X7_asked p0 p1 σ) (fun q1 => (if 0 ≤ q1.1 then (if (q1.2.1 6) = 0 then some (0, q1.2) else some (1, q1.2)) else some (q1.1, q1.2)))
set_option maxHeartbeats 4000000 in
set_option maxRecDepth 100000 in
theorem c_X7_restless (l : Launch) (D : va_G) (A : Nat → Prop) (a : Nat → Nat) (x : ClassId × ClassId × ClassId) (σ : ZS) (p0 : Int32) (p1 : Int32) (r : (Int32 × ZS)) (h : f_X7_restless p0 p1 σ = some r) : zM l yX7_restless w_yX7_restless ({ frames := 7, cells := 0, slots := 0, locals := 177 } : Room) D A (tyz x) [.ref (a 0), .int p0, .int p1] (wM a x σ) (some (.int r.1)) (wM a x r.2) := by
  refine z_start [.ref (a 0), .int p0, .int p1] (lv := [(0, .ref (a 0)), (1, .int p0), (2, .int p1)]) (by decide) (Nat.le_of_ble_eq_true rfl) rfl ?_
  intro p e s m args below meth c C hr hlk
  unfold f_X7_restless at h
  refine z_aload_n C 0 rfl dX7_restless_0 ?_
  refine z_iload_n C 1 rfl dX7_restless_1 ?_
  refine z_iload_n C 2 rfl dX7_restless_2 ?_
  obtain ⟨q1, hq1, h⟩ := bd_spec h
  refine z_callV1 C [.int p0, .int p1] [] (v := (.int q1.1)) rfl (c_X7_asked l D A a x σ p0 p1 q1 hq1) cd_yX7_asked in_RX7 ml_RX7_129 im_yX7_asked sl_yX7_asked gM_0 rfl hd_yX7_asked ⟨⟨Nat.le_of_ble_eq_true rfl, Nat.le_of_ble_eq_true rfl⟩, rfl, rfl⟩ rfl (Nat.le_of_ble_eq_true rfl) ⟨Nat.zero_le _, Nat.zero_le _⟩ dX7_restless_3 ?_
  refine z_istore_n C [(3, .int q1.1), (0, .ref (a 0)), (1, .int p0), (2, .int p1)] rfl (by decide) rfl dX7_restless_6 ?_
  refine z_iload_n C 0 rfl dX7_restless_7 ?_
  refine z_if_ge C 15 (by decide) dX7_restless_8 h (fun h => ?_) (fun h => ?_)
  · refine z_aload_n C 1 rfl dX7_restless_15 ?_
    refine z_get C iRX7 0 gM_0 rfl 17 (by decide) fl_RX7_119 rfl dX7_restless_16 ?_
    refine z_if_eq C 26 (by decide) dX7_restless_19 h (fun h => ?_) (fun h => ?_)
    · refine z_iconst C (v := 0) dX7_restless_26 (by decide) ?_
      cases h
      exact z_iret C hr hlk dX7_restless_27
    · refine z_iconst C (v := 1) dX7_restless_22 (by decide) ?_
      refine z_goto C 27 (by decide) dX7_restless_23 ?_
      cases h
      exact z_iret C hr hlk dX7_restless_27
  · refine z_iload_n C 0 rfl dX7_restless_11 ?_
    refine z_goto C 27 (by decide) dX7_restless_12 ?_
    cases h
    exact z_iret C hr hlk dX7_restless_27
theorem dX7_way_0 : decode cX7_way 0 = .ok (.aload_n 0, 1) := by decide +kernel
theorem dX7_way_1 : decode cX7_way 1 = .ok (.iload_n 3, 1) := by decide +kernel
theorem dX7_way_2 : decode cX7_way 2 = .ok (.invokevirtual 61, 3) := by decide +kernel
theorem dX7_way_5 : decode cX7_way 5 = .ok (.ifCond .eq 8, 3) := by decide +kernel
theorem dX7_way_8 : decode cX7_way 8 = .ok (.iload 4, 2) := by decide +kernel
theorem dX7_way_10 : decode cX7_way 10 = .ok (.ifCond .ge 6, 3) := by decide +kernel
theorem dX7_way_13 : decode cX7_way 13 = .ok (.bipush (-2), 2) := by decide +kernel
theorem dX7_way_15 : decode cX7_way 15 = .ok (.ireturn, 1) := by decide +kernel
theorem dX7_way_16 : decode cX7_way 16 = .ok (.aload_n 0, 1) := by decide +kernel
theorem dX7_way_17 : decode cX7_way 17 = .ok (.iload_n 1, 1) := by decide +kernel
theorem dX7_way_18 : decode cX7_way 18 = .ok (.iload_n 2, 1) := by decide +kernel
theorem dX7_way_19 : decode cX7_way 19 = .ok (.invokevirtual 129, 3) := by decide +kernel
theorem dX7_way_22 : decode cX7_way 22 = .ok (.istore 5, 2) := by decide +kernel
theorem dX7_way_24 : decode cX7_way 24 = .ok (.iload 5, 2) := by decide +kernel
theorem dX7_way_26 : decode cX7_way 26 = .ok (.ifCond .ge 8, 3) := by decide +kernel
theorem dX7_way_29 : decode cX7_way 29 = .ok (.iload 5, 2) := by decide +kernel
theorem dX7_way_31 : decode cX7_way 31 = .ok (.goto 30, 3) := by decide +kernel
theorem dX7_way_34 : decode cX7_way 34 = .ok (.iload 4, 2) := by decide +kernel
theorem dX7_way_36 : decode cX7_way 36 = .ok (.aload_n 0, 1) := by decide +kernel
theorem dX7_way_37 : decode cX7_way 37 = .ok (.getfield 34, 3) := by decide +kernel
theorem dX7_way_40 : decode cX7_way 40 = .ok (.iload_n 3, 1) := by decide +kernel
theorem dX7_way_41 : decode cX7_way 41 = .ok (.iaload, 1) := by decide +kernel
theorem dX7_way_42 : decode cX7_way 42 = .ok (.if_icmp .ge 18, 3) := by decide +kernel
theorem dX7_way_45 : decode cX7_way 45 = .ok (.aload_n 0, 1) := by decide +kernel
theorem dX7_way_46 : decode cX7_way 46 = .ok (.getfield 31, 3) := by decide +kernel
theorem dX7_way_49 : decode cX7_way 49 = .ok (.bipush 10, 2) := by decide +kernel
theorem dX7_way_51 : decode cX7_way 51 = .ok (.iload_n 3, 1) := by decide +kernel
theorem dX7_way_52 : decode cX7_way 52 = .ok (.imul, 1) := by decide +kernel
theorem dX7_way_53 : decode cX7_way 53 = .ok (.iload 4, 2) := by decide +kernel
theorem dX7_way_55 : decode cX7_way 55 = .ok (.iadd, 1) := by decide +kernel
theorem dX7_way_56 : decode cX7_way 56 = .ok (.iaload, 1) := by decide +kernel
theorem dX7_way_57 : decode cX7_way 57 = .ok (.goto 4, 3) := by decide +kernel
theorem dX7_way_60 : decode cX7_way 60 = .ok (.iconst (-1), 1) := by decide +kernel
theorem dX7_way_61 : decode cX7_way 61 = .ok (.ireturn, 1) := by decide +kernel
theorem hd_yX7_way : (yX7_way).cls ≠ "java/lang/invoke/MethodHandle" ∧ (yX7_way).cls ≠ "java/lang/invoke/VarHandle" ∧ (parseMethodDescriptor (yX7_way).desc).map (fun d => d.parameters.length) = some 4 := ⟨by decide, by decide, by decide +kernel⟩
def f_X7_way (p0 : Int32) (p1 : Int32) (p2 : Int32) (p3 : Int32) (σ : ZS) : Option (Int32 × ZS) :=
  Option.bind (f_X7_isHouse p2 σ) (fun q1 => (if q1 = 0 then some ((-2), σ) else (if 0 ≤ p3 then Option.bind (f_X7_asked p0 p1 σ) (fun q2 => (if 0 ≤ q2.1 then ld (q2.2.2.1 9) 10 p2 (fun y3 => (if y3 ≤ p3 then some ((-1), q2.2) else ld (q2.2.2.1 8) 100 (((10 : Int32) * p2) + p3) (fun y4 => some (y4, q2.2)))) else some (q2.1, q2.2))) else some ((-2), σ))))
set_option maxHeartbeats 4000000 in
set_option maxRecDepth 100000 in
theorem c_X7_way (l : Launch) (D : va_G) (A : Nat → Prop) (a : Nat → Nat) (x : ClassId × ClassId × ClassId) (σ : ZS) (p0 : Int32) (p1 : Int32) (p2 : Int32) (p3 : Int32) (r : (Int32 × ZS)) (h : f_X7_way p0 p1 p2 p3 σ = some r) : zM l yX7_way w_yX7_way ({ frames := 7, cells := 0, slots := 0, locals := 177 } : Room) D A (tyz x) [.ref (a 0), .int p0, .int p1, .int p2, .int p3] (wM a x σ) (some (.int r.1)) (wM a x r.2) := by
  refine z_start [.ref (a 0), .int p0, .int p1, .int p2, .int p3] (lv := [(0, .ref (a 0)), (1, .int p0), (2, .int p1), (3, .int p2), (4, .int p3)]) (by decide) (Nat.le_of_ble_eq_true rfl) rfl ?_
  intro p e s m args below meth c C hr hlk
  unfold f_X7_way at h
  refine z_aload_n C 0 rfl dX7_way_0 ?_
  refine z_iload_n C 3 rfl dX7_way_1 ?_
  obtain ⟨q1, hq1, h⟩ := bd_spec h
  refine z_callV1 C [.int p2] [] (v := (.int q1)) rfl (c_X7_isHouse l D A a x σ p2 q1 hq1) cd_yX7_isHouse in_RX7 ml_RX7_61 im_yX7_isHouse sl_yX7_isHouse gM_0 rfl hd_yX7_isHouse ⟨⟨Nat.le_of_ble_eq_true rfl, Nat.le_of_ble_eq_true rfl⟩, rfl, rfl⟩ rfl (Nat.le_of_ble_eq_true rfl) ⟨Nat.zero_le _, Nat.zero_le _⟩ dX7_way_2 ?_
  refine z_if_eq C 13 (by decide) dX7_way_5 h (fun h => ?_) (fun h => ?_)
  · refine z_bipush C (v := (-2)) dX7_way_13 (by decide) ?_
    cases h
    exact z_iret C hr hlk dX7_way_15
  · refine z_iload C 4 rfl dX7_way_8 ?_
    refine z_if_ge C 16 (by decide) dX7_way_10 h (fun h => ?_) (fun h => ?_)
    · refine z_aload_n C 0 rfl dX7_way_16 ?_
      refine z_iload_n C 1 rfl dX7_way_17 ?_
      refine z_iload_n C 2 rfl dX7_way_18 ?_
      obtain ⟨q2, hq2, h⟩ := bd_spec h
      refine z_callV1 C [.int p0, .int p1] [] (v := (.int q2.1)) rfl (c_X7_asked l D A a x σ p0 p1 q2 hq2) cd_yX7_asked in_RX7 ml_RX7_129 im_yX7_asked sl_yX7_asked gM_0 rfl hd_yX7_asked ⟨⟨Nat.le_of_ble_eq_true rfl, Nat.le_of_ble_eq_true rfl⟩, rfl, rfl⟩ rfl (Nat.le_of_ble_eq_true rfl) ⟨Nat.zero_le _, Nat.zero_le _⟩ dX7_way_19 ?_
      refine z_istore C [(5, .int q2.1), (0, .ref (a 0)), (1, .int p0), (2, .int p1), (3, .int p2), (4, .int p3)] (by decide) rfl dX7_way_22 ?_
      refine z_iload C 0 rfl dX7_way_24 ?_
      refine z_if_ge C 34 (by decide) dX7_way_26 h (fun h => ?_) (fun h => ?_)
      · refine z_iload C 5 rfl dX7_way_34 ?_
        refine z_aload_n C 1 rfl dX7_way_36 ?_
        refine z_get C iRX7 0 gM_0 rfl 13 (by decide) fl_RX7_34 rfl dX7_way_37 ?_
        refine z_iload_n C 4 rfl dX7_way_40 ?_
        refine z_iald C 9 0 gM_9 rfl dX7_way_41 h (fun y3 h => ?_)
        refine z_icmp_ge C 60 (by decide) dX7_way_42 h (fun h => ?_) (fun h => ?_)
        · refine z_iconst C (v := (-1)) dX7_way_60 (by decide) ?_
          cases h
          exact z_iret C hr hlk dX7_way_61
        · refine z_aload_n C 1 rfl dX7_way_45 ?_
          refine z_get C iRX7 0 gM_0 rfl 12 (by decide) fl_RX7_31 rfl dX7_way_46 ?_
          refine z_bipush C (v := 10) dX7_way_49 (by decide) ?_
          refine z_iload_n C 4 rfl dX7_way_51 ?_
          refine z_imul C dX7_way_52 ?_
          refine z_iload C 5 rfl dX7_way_53 ?_
          refine z_iadd C dX7_way_55 ?_
          refine z_iald C 8 0 gM_8 rfl dX7_way_56 h (fun y4 h => ?_)
          refine z_goto C 61 (by decide) dX7_way_57 ?_
          cases h
          exact z_iret C hr hlk dX7_way_61
      · refine z_iload C 0 rfl dX7_way_29 ?_
        refine z_goto C 61 (by decide) dX7_way_31 ?_
        cases h
        exact z_iret C hr hlk dX7_way_61
    · refine z_bipush C (v := (-2)) dX7_way_13 (by decide) ?_
      cases h
      exact z_iret C hr hlk dX7_way_15
theorem dX7_broken_0 : decode cX7_broken 0 = .ok (.aload_n 0, 1) := by decide +kernel
theorem dX7_broken_1 : decode cX7_broken 1 = .ok (.iload_n 3, 1) := by decide +kernel
theorem dX7_broken_2 : decode cX7_broken 2 = .ok (.invokevirtual 61, 3) := by decide +kernel
theorem dX7_broken_5 : decode cX7_broken 5 = .ok (.ifCond .ne 6, 3) := by decide +kernel
theorem dX7_broken_8 : decode cX7_broken 8 = .ok (.bipush (-2), 2) := by decide +kernel
theorem dX7_broken_10 : decode cX7_broken 10 = .ok (.ireturn, 1) := by decide +kernel
theorem dX7_broken_11 : decode cX7_broken 11 = .ok (.aload_n 0, 1) := by decide +kernel
theorem dX7_broken_12 : decode cX7_broken 12 = .ok (.iload_n 1, 1) := by decide +kernel
theorem dX7_broken_13 : decode cX7_broken 13 = .ok (.iload_n 2, 1) := by decide +kernel
theorem dX7_broken_14 : decode cX7_broken 14 = .ok (.invokevirtual 129, 3) := by decide +kernel
theorem dX7_broken_17 : decode cX7_broken 17 = .ok (.istore 4, 2) := by decide +kernel
theorem dX7_broken_19 : decode cX7_broken 19 = .ok (.iload 4, 2) := by decide +kernel
theorem dX7_broken_21 : decode cX7_broken 21 = .ok (.ifCond .ge 6, 3) := by decide +kernel
theorem dX7_broken_24 : decode cX7_broken 24 = .ok (.iload 4, 2) := by decide +kernel
theorem dX7_broken_26 : decode cX7_broken 26 = .ok (.ireturn, 1) := by decide +kernel
theorem dX7_broken_27 : decode cX7_broken 27 = .ok (.aload_n 0, 1) := by decide +kernel
theorem dX7_broken_28 : decode cX7_broken 28 = .ok (.getfield 34, 3) := by decide +kernel
theorem dX7_broken_31 : decode cX7_broken 31 = .ok (.iload_n 3, 1) := by decide +kernel
theorem dX7_broken_32 : decode cX7_broken 32 = .ok (.iaload, 1) := by decide +kernel
theorem dX7_broken_33 : decode cX7_broken 33 = .ok (.iconst 2, 1) := by decide +kernel
theorem dX7_broken_34 : decode cX7_broken 34 = .ok (.isub, 1) := by decide +kernel
theorem dX7_broken_35 : decode cX7_broken 35 = .ok (.istore 5, 2) := by decide +kernel
theorem dX7_broken_37 : decode cX7_broken 37 = .ok (.iload 5, 2) := by decide +kernel
theorem dX7_broken_39 : decode cX7_broken 39 = .ok (.ifCond .le 84, 3) := by decide +kernel
theorem dX7_broken_42 : decode cX7_broken 42 = .ok (.aload_n 0, 1) := by decide +kernel
theorem dX7_broken_43 : decode cX7_broken 43 = .ok (.getfield 31, 3) := by decide +kernel
theorem dX7_broken_46 : decode cX7_broken 46 = .ok (.bipush 10, 2) := by decide +kernel
theorem dX7_broken_48 : decode cX7_broken 48 = .ok (.iload_n 3, 1) := by decide +kernel
theorem dX7_broken_49 : decode cX7_broken 49 = .ok (.imul, 1) := by decide +kernel
theorem dX7_broken_50 : decode cX7_broken 50 = .ok (.iload 5, 2) := by decide +kernel
theorem dX7_broken_52 : decode cX7_broken 52 = .ok (.iadd, 1) := by decide +kernel
theorem dX7_broken_53 : decode cX7_broken 53 = .ok (.iaload, 1) := by decide +kernel
theorem dX7_broken_54 : decode cX7_broken 54 = .ok (.istore 6, 2) := by decide +kernel
theorem dX7_broken_56 : decode cX7_broken 56 = .ok (.aload_n 0, 1) := by decide +kernel
theorem dX7_broken_57 : decode cX7_broken 57 = .ok (.getfield 7, 3) := by decide +kernel
theorem dX7_broken_60 : decode cX7_broken 60 = .ok (.bipush 10, 2) := by decide +kernel
theorem dX7_broken_62 : decode cX7_broken 62 = .ok (.iload 6, 2) := by decide +kernel
theorem dX7_broken_64 : decode cX7_broken 64 = .ok (.imul, 1) := by decide +kernel
theorem dX7_broken_65 : decode cX7_broken 65 = .ok (.aload_n 0, 1) := by decide +kernel
theorem dX7_broken_66 : decode cX7_broken 66 = .ok (.getfield 31, 3) := by decide +kernel
theorem dX7_broken_69 : decode cX7_broken 69 = .ok (.bipush 10, 2) := by decide +kernel
theorem dX7_broken_71 : decode cX7_broken 71 = .ok (.iload_n 3, 1) := by decide +kernel
theorem dX7_broken_72 : decode cX7_broken 72 = .ok (.imul, 1) := by decide +kernel
theorem dX7_broken_73 : decode cX7_broken 73 = .ok (.iload 5, 2) := by decide +kernel
theorem dX7_broken_75 : decode cX7_broken 75 = .ok (.iadd, 1) := by decide +kernel
theorem dX7_broken_76 : decode cX7_broken 76 = .ok (.iconst 1, 1) := by decide +kernel
theorem dX7_broken_77 : decode cX7_broken 77 = .ok (.isub, 1) := by decide +kernel
theorem dX7_broken_78 : decode cX7_broken 78 = .ok (.iaload, 1) := by decide +kernel
theorem dX7_broken_79 : decode cX7_broken 79 = .ok (.iadd, 1) := by decide +kernel
theorem dX7_broken_80 : decode cX7_broken 80 = .ok (.iaload, 1) := by decide +kernel
theorem dX7_broken_81 : decode cX7_broken 81 = .ok (.iconst 1, 1) := by decide +kernel
theorem dX7_broken_82 : decode cX7_broken 82 = .ok (.if_icmp .eq 35, 3) := by decide +kernel
theorem dX7_broken_85 : decode cX7_broken 85 = .ok (.aload_n 0, 1) := by decide +kernel
theorem dX7_broken_86 : decode cX7_broken 86 = .ok (.getfield 7, 3) := by decide +kernel
theorem dX7_broken_89 : decode cX7_broken 89 = .ok (.bipush 10, 2) := by decide +kernel
theorem dX7_broken_91 : decode cX7_broken 91 = .ok (.iload 6, 2) := by decide +kernel
theorem dX7_broken_93 : decode cX7_broken 93 = .ok (.imul, 1) := by decide +kernel
theorem dX7_broken_94 : decode cX7_broken 94 = .ok (.aload_n 0, 1) := by decide +kernel
theorem dX7_broken_95 : decode cX7_broken 95 = .ok (.getfield 31, 3) := by decide +kernel
theorem dX7_broken_98 : decode cX7_broken 98 = .ok (.bipush 10, 2) := by decide +kernel
theorem dX7_broken_100 : decode cX7_broken 100 = .ok (.iload_n 3, 1) := by decide +kernel
theorem dX7_broken_101 : decode cX7_broken 101 = .ok (.imul, 1) := by decide +kernel
theorem dX7_broken_102 : decode cX7_broken 102 = .ok (.iload 5, 2) := by decide +kernel
theorem dX7_broken_104 : decode cX7_broken 104 = .ok (.iadd, 1) := by decide +kernel
theorem dX7_broken_105 : decode cX7_broken 105 = .ok (.iconst 1, 1) := by decide +kernel
theorem dX7_broken_106 : decode cX7_broken 106 = .ok (.iadd, 1) := by decide +kernel
theorem dX7_broken_107 : decode cX7_broken 107 = .ok (.iaload, 1) := by decide +kernel
theorem dX7_broken_108 : decode cX7_broken 108 = .ok (.iadd, 1) := by decide +kernel
theorem dX7_broken_109 : decode cX7_broken 109 = .ok (.iaload, 1) := by decide +kernel
theorem dX7_broken_110 : decode cX7_broken 110 = .ok (.iconst 1, 1) := by decide +kernel
theorem dX7_broken_111 : decode cX7_broken 111 = .ok (.if_icmp .eq 6, 3) := by decide +kernel
theorem dX7_broken_114 : decode cX7_broken 114 = .ok (.iload 6, 2) := by decide +kernel
theorem dX7_broken_116 : decode cX7_broken 116 = .ok (.ireturn, 1) := by decide +kernel
theorem dX7_broken_117 : decode cX7_broken 117 = .ok (.iinc 5 (-1), 3) := by decide +kernel
theorem dX7_broken_120 : decode cX7_broken 120 = .ok (.goto (-83), 3) := by decide +kernel
theorem dX7_broken_123 : decode cX7_broken 123 = .ok (.iconst (-1), 1) := by decide +kernel
theorem dX7_broken_124 : decode cX7_broken 124 = .ok (.ireturn, 1) := by decide +kernel
theorem hd_yX7_broken : (yX7_broken).cls ≠ "java/lang/invoke/MethodHandle" ∧ (yX7_broken).cls ≠ "java/lang/invoke/VarHandle" ∧ (parseMethodDescriptor (yX7_broken).desc).map (fun d => d.parameters.length) = some 3 := ⟨by decide, by decide, by decide +kernel⟩
def f_X7_broken_B37 (l3 : Int32) (σ : ZS) (t1 : Int32) : Option (Int32 ⊕ (Int32 × ZS)) :=
  (if t1 ≤ 0 then wi (some ((-1), σ)) else ld (σ.2.1 8) 100 (((10 : Int32) * l3) + t1) (fun y4 => ld (σ.2.1 8) 100 ((((10 : Int32) * l3) + t1) - 1) (fun y5 => ld (σ.2.1 1) 100 (((10 : Int32) * y4) + y5) (fun y6 => (if y6 = 1 then some (.inl (t1 + (-1))) else ld (σ.2.1 8) 100 ((((10 : Int32) * l3) + t1) + 1) (fun y7 => ld (σ.2.1 1) 100 (((10 : Int32) * y4) + y7) (fun y8 => (if y8 = 1 then some (.inl (t1 + (-1))) else wi (some (y4, σ))))))))))
def f_X7_broken (p0 : Int32) (p1 : Int32) (p2 : Int32) (σ : ZS) : Option (Int32 × ZS) :=
  Option.bind (f_X7_isHouse p2 σ) (fun q1 => (if q1 = 0 then some ((-2), σ) else Option.bind (f_X7_asked p0 p1 σ) (fun q2 => (if 0 ≤ q2.1 then ld (q2.2.2.1 9) 10 p2 (fun y3 => lp zF (f_X7_broken_B37 p2 q2.2) (y3 - 2)) else some (q2.1, q2.2)))))
set_option maxHeartbeats 4000000 in
set_option maxRecDepth 100000 in
theorem c_X7_broken (l : Launch) (D : va_G) (A : Nat → Prop) (a : Nat → Nat) (x : ClassId × ClassId × ClassId) (σ : ZS) (p0 : Int32) (p1 : Int32) (p2 : Int32) (r : (Int32 × ZS)) (h : f_X7_broken p0 p1 p2 σ = some r) : zM l yX7_broken w_yX7_broken ({ frames := 7, cells := 0, slots := 0, locals := 177 } : Room) D A (tyz x) [.ref (a 0), .int p0, .int p1, .int p2] (wM a x σ) (some (.int r.1)) (wM a x r.2) := by
  refine z_start [.ref (a 0), .int p0, .int p1, .int p2] (lv := [(0, .ref (a 0)), (1, .int p0), (2, .int p1), (3, .int p2)]) (by decide) (Nat.le_of_ble_eq_true rfl) rfl ?_
  intro p e s m args below meth c C hr hlk
  unfold f_X7_broken at h
  refine z_aload_n C 0 rfl dX7_broken_0 ?_
  refine z_iload_n C 3 rfl dX7_broken_1 ?_
  obtain ⟨q1, hq1, h⟩ := bd_spec h
  refine z_callV1 C [.int p2] [] (v := (.int q1)) rfl (c_X7_isHouse l D A a x σ p2 q1 hq1) cd_yX7_isHouse in_RX7 ml_RX7_61 im_yX7_isHouse sl_yX7_isHouse gM_0 rfl hd_yX7_isHouse ⟨⟨Nat.le_of_ble_eq_true rfl, Nat.le_of_ble_eq_true rfl⟩, rfl, rfl⟩ rfl (Nat.le_of_ble_eq_true rfl) ⟨Nat.zero_le _, Nat.zero_le _⟩ dX7_broken_2 ?_
  refine z_if_ne C 11 (by decide) dX7_broken_5 h (fun h => ?_) (fun h => ?_)
  · refine z_aload_n C 0 rfl dX7_broken_11 ?_
    refine z_iload_n C 1 rfl dX7_broken_12 ?_
    refine z_iload_n C 2 rfl dX7_broken_13 ?_
    obtain ⟨q2, hq2, h⟩ := bd_spec h
    refine z_callV1 C [.int p0, .int p1] [] (v := (.int q2.1)) rfl (c_X7_asked l D A a x σ p0 p1 q2 hq2) cd_yX7_asked in_RX7 ml_RX7_129 im_yX7_asked sl_yX7_asked gM_0 rfl hd_yX7_asked ⟨⟨Nat.le_of_ble_eq_true rfl, Nat.le_of_ble_eq_true rfl⟩, rfl, rfl⟩ rfl (Nat.le_of_ble_eq_true rfl) ⟨Nat.zero_le _, Nat.zero_le _⟩ dX7_broken_14 ?_
    refine z_istore C [(4, .int q2.1), (0, .ref (a 0)), (1, .int p0), (2, .int p1), (3, .int p2)] (by decide) rfl dX7_broken_17 ?_
    refine z_iload C 0 rfl dX7_broken_19 ?_
    refine z_if_ge C 27 (by decide) dX7_broken_21 h (fun h => ?_) (fun h => ?_)
    · refine z_aload_n C 1 rfl dX7_broken_27 ?_
      refine z_get C iRX7 0 gM_0 rfl 13 (by decide) fl_RX7_34 rfl dX7_broken_28 ?_
      refine z_iload_n C 4 rfl dX7_broken_31 ?_
      refine z_iald C 9 0 gM_9 rfl dX7_broken_32 h (fun y3 h => ?_)
      refine z_iconst C (v := 2) dX7_broken_33 (by decide) ?_
      refine z_isub C dX7_broken_34 ?_
      refine z_istore C [(5, .int (y3 - 2)), (4, .int q2.1), (0, .ref (a 0)), (1, .int p0), (2, .int p1), (3, .int p2)] (by decide) rfl dX7_broken_35 ?_
      refine z_sub C [2, 5, 0] (lv' := [(0, .ref (a 0)), (3, .int p2), (5, .int (y3 - 2))]) rfl ?_
      have L37 : ∀ (n : Nat) (t1 : Int32), lp n (f_X7_broken_B37 p2 q2.2) t1 = some r → zV p l e ({ frames := 7, cells := 0, slots := 0, locals := 177 } : Room) s m args below meth c 0 0 (MQ below (zQ D A (some (.int r.1)) (wM a x r.2)) args s 0 0 A) D A 7 (wM a x q2.2) 37 [(0, .ref (a 0)), (3, .int p2), (5, .int t1)] [] := by
        intro n1
        induction n1 with
        | zero => exact fun _ h => (lp_zero h).elim
        | succ n1 ih1 =>
          intro t1 h
          obtain ⟨u1, h, hk1⟩ := lp_succ h
          unfold f_X7_broken_B37 at h
          refine z_iload C 2 rfl dX7_broken_37 ?_
          refine z_if_le C 123 (by decide) dX7_broken_39 h (fun h => ?_) (fun h => ?_)
          · refine z_iconst C (v := (-1)) dX7_broken_123 (by decide) ?_
            have h := unwi h hk1
            cases h
            exact z_iret C hr hlk dX7_broken_124
          · refine z_aload_n C 0 rfl dX7_broken_42 ?_
            refine z_get C iRX7 0 gM_0 rfl 12 (by decide) fl_RX7_31 rfl dX7_broken_43 ?_
            refine z_bipush C (v := 10) dX7_broken_46 (by decide) ?_
            refine z_iload_n C 1 rfl dX7_broken_48 ?_
            refine z_imul C dX7_broken_49 ?_
            refine z_iload C 2 rfl dX7_broken_50 ?_
            refine z_iadd C dX7_broken_52 ?_
            refine z_iald C 8 0 gM_8 rfl dX7_broken_53 h (fun y4 h => ?_)
            refine z_istore C [(6, .int y4), (0, .ref (a 0)), (3, .int p2), (5, .int t1)] (by decide) rfl dX7_broken_54 ?_
            refine z_aload_n C 1 rfl dX7_broken_56 ?_
            refine z_get C iRX7 0 gM_0 rfl 1 (by decide) fl_RX7_7 rfl dX7_broken_57 ?_
            refine z_bipush C (v := 10) dX7_broken_60 (by decide) ?_
            refine z_iload C 0 rfl dX7_broken_62 ?_
            refine z_imul C dX7_broken_64 ?_
            refine z_aload_n C 1 rfl dX7_broken_65 ?_
            refine z_get C iRX7 0 gM_0 rfl 12 (by decide) fl_RX7_31 rfl dX7_broken_66 ?_
            refine z_bipush C (v := 10) dX7_broken_69 (by decide) ?_
            refine z_iload_n C 2 rfl dX7_broken_71 ?_
            refine z_imul C dX7_broken_72 ?_
            refine z_iload C 3 rfl dX7_broken_73 ?_
            refine z_iadd C dX7_broken_75 ?_
            refine z_iconst C (v := 1) dX7_broken_76 (by decide) ?_
            refine z_isub C dX7_broken_77 ?_
            refine z_iald C 8 0 gM_8 rfl dX7_broken_78 h (fun y5 h => ?_)
            refine z_iadd C dX7_broken_79 ?_
            refine z_iald C 1 0 gM_1 rfl dX7_broken_80 h (fun y6 h => ?_)
            refine z_iconst C (v := 1) dX7_broken_81 (by decide) ?_
            refine z_icmp_eq C 117 (by decide) dX7_broken_82 h (fun h => ?_) (fun h => ?_)
            · refine z_iinc C (v := t1 + (-1)) [(5, .int (t1 + (-1))), (6, .int y4), (0, .ref (a 0)), (3, .int p2)] 3 rfl (congrArg (HAdd.hAdd t1) (by decide)) (by decide) rfl dX7_broken_117 ?_
              refine z_goto C 37 (by decide) dX7_broken_120 ?_
              refine z_sub C [2, 3, 0] (lv' := [(0, .ref (a 0)), (3, .int p2), (5, .int (t1 + (-1)))]) rfl ?_
              exact ih1 _ (uninl h hk1)
            · refine z_aload_n C 1 rfl dX7_broken_85 ?_
              refine z_get C iRX7 0 gM_0 rfl 1 (by decide) fl_RX7_7 rfl dX7_broken_86 ?_
              refine z_bipush C (v := 10) dX7_broken_89 (by decide) ?_
              refine z_iload C 0 rfl dX7_broken_91 ?_
              refine z_imul C dX7_broken_93 ?_
              refine z_aload_n C 1 rfl dX7_broken_94 ?_
              refine z_get C iRX7 0 gM_0 rfl 12 (by decide) fl_RX7_31 rfl dX7_broken_95 ?_
              refine z_bipush C (v := 10) dX7_broken_98 (by decide) ?_
              refine z_iload_n C 2 rfl dX7_broken_100 ?_
              refine z_imul C dX7_broken_101 ?_
              refine z_iload C 3 rfl dX7_broken_102 ?_
              refine z_iadd C dX7_broken_104 ?_
              refine z_iconst C (v := 1) dX7_broken_105 (by decide) ?_
              refine z_iadd C dX7_broken_106 ?_
              refine z_iald C 8 0 gM_8 rfl dX7_broken_107 h (fun y7 h => ?_)
              refine z_iadd C dX7_broken_108 ?_
              refine z_iald C 1 0 gM_1 rfl dX7_broken_109 h (fun y8 h => ?_)
              refine z_iconst C (v := 1) dX7_broken_110 (by decide) ?_
              refine z_icmp_eq C 117 (by decide) dX7_broken_111 h (fun h => ?_) (fun h => ?_)
              · refine z_iinc C (v := t1 + (-1)) [(5, .int (t1 + (-1))), (6, .int y4), (0, .ref (a 0)), (3, .int p2)] 3 rfl (congrArg (HAdd.hAdd t1) (by decide)) (by decide) rfl dX7_broken_117 ?_
                refine z_goto C 37 (by decide) dX7_broken_120 ?_
                refine z_sub C [2, 3, 0] (lv' := [(0, .ref (a 0)), (3, .int p2), (5, .int (t1 + (-1)))]) rfl ?_
                exact ih1 _ (uninl h hk1)
              · refine z_iload C 0 rfl dX7_broken_114 ?_
                have h := unwi h hk1
                cases h
                exact z_iret C hr hlk dX7_broken_116
      exact L37 _ _ h
    · refine z_iload C 0 rfl dX7_broken_24 ?_
      cases h
      exact z_iret C hr hlk dX7_broken_26
  · refine z_bipush C (v := (-2)) dX7_broken_8 (by decide) ?_
    cases h
    exact z_iret C hr hlk dX7_broken_10
