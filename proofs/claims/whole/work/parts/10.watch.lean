theorem dX6_house_0 : decode cX6_house 0 = .ok (.aload_n 0, 1) := by decide +kernel
theorem dX6_house_1 : decode cX6_house 1 = .ok (.getfield 12, 3) := by decide +kernel
theorem dX6_house_4 : decode cX6_house 4 = .ok (.invokevirtual 52, 3) := by decide +kernel
theorem dX6_house_7 : decode cX6_house 7 = .ok (.ireturn, 1) := by decide +kernel
theorem hd_yX6_house : (yX6_house).cls ≠ "java/lang/invoke/MethodHandle" ∧ (yX6_house).cls ≠ "java/lang/invoke/VarHandle" ∧ (parseMethodDescriptor (yX6_house).desc).map (fun d => d.parameters.length) = some 0 := ⟨by decide, by decide, by decide +kernel⟩
def f_X6_house  (σ : ZS) : Option (Int32 × ZS) :=
  Option.bind (f_X1_build σ) (fun q1 => some (q1.1, q1.2))
set_option maxHeartbeats 4000000 in
set_option maxRecDepth 100000 in
theorem c_X6_house (l : Launch) (D : va_G) (A : Nat → Prop) (a : Nat → Nat) (x : ClassId × ClassId × ClassId) (σ : ZS)  (r : (Int32 × ZS)) (h : f_X6_house  σ = some r) : zM l yX6_house w_yX6_house ({ frames := 1, cells := 0, slots := 0, locals := 20 } : Room) D A (tyz x) [.ref (a 0)] (wC a x σ) (some (.int r.1)) (wC a x r.2) := by
  refine z_start [.ref (a 0)] (lv := [(0, .ref (a 0))]) (by decide) (Nat.le_of_ble_eq_true rfl) rfl ?_
  intro p e s m args below meth c C hr hlk
  unfold f_X6_house at h
  refine z_aload_n C 0 rfl dX6_house_0 ?_
  refine z_get C iRX6 0 gC_0 rfl 0 (by decide) fl_RX6_12 rfl dX6_house_1 ?_
  obtain ⟨q1, hq1, h⟩ := bd_spec h
  refine z_callV1 C [] [] (v := (.int q1.1)) rfl (c_X1_build l D A a x σ  q1 hq1) cd_yX1_build in_RX1 ml_RX6_52 im_yX1_build sl_yX1_build gC_1 rfl hd_yX1_build ⟨⟨Nat.le_of_ble_eq_true rfl, Nat.le_of_ble_eq_true rfl⟩, rfl, rfl⟩ rfl (Nat.le_of_ble_eq_true rfl) ⟨Nat.zero_le _, Nat.zero_le _⟩ dX6_house_4 ?_
  cases h
  exact z_iret C hr hlk dX6_house_7
theorem dX6_tie_0 : decode cX6_tie 0 = .ok (.aload_n 0, 1) := by decide +kernel
theorem dX6_tie_1 : decode cX6_tie 1 = .ok (.getfield 12, 3) := by decide +kernel
theorem dX6_tie_4 : decode cX6_tie 4 = .ok (.iload_n 1, 1) := by decide +kernel
theorem dX6_tie_5 : decode cX6_tie 5 = .ok (.invokevirtual 56, 3) := by decide +kernel
theorem dX6_tie_8 : decode cX6_tie 8 = .ok (.ifCond .eq 14, 3) := by decide +kernel
theorem dX6_tie_11 : decode cX6_tie 11 = .ok (.aload_n 0, 1) := by decide +kernel
theorem dX6_tie_12 : decode cX6_tie 12 = .ok (.getfield 12, 3) := by decide +kernel
theorem dX6_tie_15 : decode cX6_tie 15 = .ok (.iload_n 2, 1) := by decide +kernel
theorem dX6_tie_16 : decode cX6_tie 16 = .ok (.invokevirtual 56, 3) := by decide +kernel
theorem dX6_tie_19 : decode cX6_tie 19 = .ok (.ifCond .ne 6, 3) := by decide +kernel
theorem dX6_tie_22 : decode cX6_tie 22 = .ok (.bipush (-2), 2) := by decide +kernel
theorem dX6_tie_24 : decode cX6_tie 24 = .ok (.ireturn, 1) := by decide +kernel
theorem dX6_tie_25 : decode cX6_tie 25 = .ok (.iload_n 1, 1) := by decide +kernel
theorem dX6_tie_26 : decode cX6_tie 26 = .ok (.iload_n 2, 1) := by decide +kernel
theorem dX6_tie_27 : decode cX6_tie 27 = .ok (.if_icmp .eq 15, 3) := by decide +kernel
theorem dX6_tie_30 : decode cX6_tie 30 = .ok (.aload_n 0, 1) := by decide +kernel
theorem dX6_tie_31 : decode cX6_tie 31 = .ok (.getfield 12, 3) := by decide +kernel
theorem dX6_tie_34 : decode cX6_tie 34 = .ok (.iload_n 1, 1) := by decide +kernel
theorem dX6_tie_35 : decode cX6_tie 35 = .ok (.iload_n 2, 1) := by decide +kernel
theorem dX6_tie_36 : decode cX6_tie 36 = .ok (.invokevirtual 60, 3) := by decide +kernel
theorem dX6_tie_39 : decode cX6_tie 39 = .ok (.ifCond .eq 6, 3) := by decide +kernel
theorem dX6_tie_42 : decode cX6_tie 42 = .ok (.bipush (-3), 2) := by decide +kernel
theorem dX6_tie_44 : decode cX6_tie 44 = .ok (.ireturn, 1) := by decide +kernel
theorem dX6_tie_45 : decode cX6_tie 45 = .ok (.iload_n 3, 1) := by decide +kernel
theorem dX6_tie_46 : decode cX6_tie 46 = .ok (.ifCond .ne 18, 3) := by decide +kernel
theorem dX6_tie_49 : decode cX6_tie 49 = .ok (.aload_n 0, 1) := by decide +kernel
theorem dX6_tie_50 : decode cX6_tie 50 = .ok (.getfield 12, 3) := by decide +kernel
theorem dX6_tie_53 : decode cX6_tie 53 = .ok (.iload_n 2, 1) := by decide +kernel
theorem dX6_tie_54 : decode cX6_tie 54 = .ok (.iload_n 1, 1) := by decide +kernel
theorem dX6_tie_55 : decode cX6_tie 55 = .ok (.invokevirtual 64, 3) := by decide +kernel
theorem dX6_tie_58 : decode cX6_tie 58 = .ok (.ifCond .eq 6, 3) := by decide +kernel
theorem dX6_tie_61 : decode cX6_tie 61 = .ok (.bipush (-4), 2) := by decide +kernel
theorem dX6_tie_63 : decode cX6_tie 63 = .ok (.ireturn, 1) := by decide +kernel
theorem dX6_tie_64 : decode cX6_tie 64 = .ok (.iload_n 3, 1) := by decide +kernel
theorem dX6_tie_65 : decode cX6_tie 65 = .ok (.ifCond .eq 17, 3) := by decide +kernel
theorem dX6_tie_68 : decode cX6_tie 68 = .ok (.aload_n 0, 1) := by decide +kernel
theorem dX6_tie_69 : decode cX6_tie 69 = .ok (.getfield 12, 3) := by decide +kernel
theorem dX6_tie_72 : decode cX6_tie 72 = .ok (.iload_n 1, 1) := by decide +kernel
theorem dX6_tie_73 : decode cX6_tie 73 = .ok (.iload_n 2, 1) := by decide +kernel
theorem dX6_tie_74 : decode cX6_tie 74 = .ok (.iconst 2, 1) := by decide +kernel
theorem dX6_tie_75 : decode cX6_tie 75 = .ok (.iconst 2, 1) := by decide +kernel
theorem dX6_tie_76 : decode cX6_tie 76 = .ok (.invokevirtual 68, 3) := by decide +kernel
theorem dX6_tie_79 : decode cX6_tie 79 = .ok (.goto 14, 3) := by decide +kernel
theorem dX6_tie_82 : decode cX6_tie 82 = .ok (.aload_n 0, 1) := by decide +kernel
theorem dX6_tie_83 : decode cX6_tie 83 = .ok (.getfield 12, 3) := by decide +kernel
theorem dX6_tie_86 : decode cX6_tie 86 = .ok (.iload_n 1, 1) := by decide +kernel
theorem dX6_tie_87 : decode cX6_tie 87 = .ok (.iload_n 2, 1) := by decide +kernel
theorem dX6_tie_88 : decode cX6_tie 88 = .ok (.iconst 1, 1) := by decide +kernel
theorem dX6_tie_89 : decode cX6_tie 89 = .ok (.iconst 3, 1) := by decide +kernel
theorem dX6_tie_90 : decode cX6_tie 90 = .ok (.invokevirtual 68, 3) := by decide +kernel
theorem dX6_tie_93 : decode cX6_tie 93 = .ok (.iconst 1, 1) := by decide +kernel
theorem dX6_tie_94 : decode cX6_tie 94 = .ok (.ireturn, 1) := by decide +kernel
theorem hd_yX6_tie : (yX6_tie).cls ≠ "java/lang/invoke/MethodHandle" ∧ (yX6_tie).cls ≠ "java/lang/invoke/VarHandle" ∧ (parseMethodDescriptor (yX6_tie).desc).map (fun d => d.parameters.length) = some 3 := ⟨by decide, by decide, by decide +kernel⟩
def f_X6_tie_J64 (l1 : Int32) (l2 : Int32) (l3 : Int32) (σ : ZS) : Option (Int32 × ZS) :=
  (if l3 = 0 then Option.bind (f_X1_bind l1 l2 1 3 σ) (fun q6 => some (1, q6)) else Option.bind (f_X1_bind l1 l2 2 2 σ) (fun q5 => some (1, q5)))
def f_X6_tie (p0 : Int32) (p1 : Int32) (p2 : Int32) (σ : ZS) : Option (Int32 × ZS) :=
  Option.bind (f_X1_has p0 σ) (fun q1 => (if q1 = 0 then some ((-2), σ) else Option.bind (f_X1_has p1 σ) (fun q2 => (if q2 = 0 then some ((-2), σ) else (if p0 = p1 then some ((-3), σ) else Option.bind (f_X1_kind p0 p1 σ) (fun q3 => (if q3 = 0 then (if p2 = 0 then Option.bind (f_X1_isAbove p1 p0 σ) (fun q4 => (if q4 = 0 then f_X6_tie_J64 p0 p1 p2 σ else some ((-4), σ))) else f_X6_tie_J64 p0 p1 p2 σ) else some ((-3), σ))))))))
set_option maxHeartbeats 4000000 in
set_option maxRecDepth 100000 in
theorem c_X6_tie (l : Launch) (D : va_G) (A : Nat → Prop) (a : Nat → Nat) (x : ClassId × ClassId × ClassId) (σ : ZS) (p0 : Int32) (p1 : Int32) (p2 : Int32) (r : (Int32 × ZS)) (h : f_X6_tie p0 p1 p2 σ = some r) : zM l yX6_tie w_yX6_tie ({ frames := 3, cells := 0, slots := 0, locals := 71 } : Room) D A (tyz x) [.ref (a 0), .int p0, .int p1, .int p2] (wC a x σ) (some (.int r.1)) (wC a x r.2) := by
  refine z_start [.ref (a 0), .int p0, .int p1, .int p2] (lv := [(0, .ref (a 0)), (1, .int p0), (2, .int p1), (3, .int p2)]) (by decide) (Nat.le_of_ble_eq_true rfl) rfl ?_
  intro p e s m args below meth c C hr hlk
  have J64 : ∀ (σ_64 : ZS), f_X6_tie_J64 p0 p1 p2 σ_64 = some r → zV p l e ({ frames := 3, cells := 0, slots := 0, locals := 71 } : Room) s m args below meth c 0 0 (MQ below (zQ D A (some (.int r.1)) (wC a x r.2)) args s 0 0 A) D A 4 (wC a x σ_64) 64 [(0, .ref (a 0)), (1, .int p0), (2, .int p1), (3, .int p2)] [] := by
    intro σ_64 h
    unfold f_X6_tie_J64 at h
    refine z_iload_n C 3 rfl dX6_tie_64 ?_
    refine z_if_eq C 82 (by decide) dX6_tie_65 h (fun h => ?_) (fun h => ?_)
    · refine z_aload_n C 0 rfl dX6_tie_82 ?_
      refine z_get C iRX6 0 gC_0 rfl 0 (by decide) fl_RX6_12 rfl dX6_tie_83 ?_
      refine z_iload_n C 1 rfl dX6_tie_86 ?_
      refine z_iload_n C 2 rfl dX6_tie_87 ?_
      refine z_iconst C (v := 1) dX6_tie_88 (by decide) ?_
      refine z_iconst C (v := 3) dX6_tie_89 (by decide) ?_
      obtain ⟨q1, hq1, h⟩ := bd_spec h
      refine z_callV0 C [.int p0, .int p1, .int 1, .int 3] [] rfl (c_X1_bind l D A a x σ_64 p0 p1 1 3 q1 hq1) cd_yX1_bind in_RX1 ml_RX6_68 im_yX1_bind sl_yX1_bind gC_1 rfl hd_yX1_bind ⟨⟨Nat.le_of_ble_eq_true rfl, Nat.le_of_ble_eq_true rfl⟩, rfl, rfl⟩ rfl (Nat.le_of_ble_eq_true rfl) ⟨Nat.zero_le _, Nat.zero_le _⟩ dX6_tie_90 ?_
      refine z_iconst C (v := 1) dX6_tie_93 (by decide) ?_
      cases h
      exact z_iret C hr hlk dX6_tie_94
    · refine z_aload_n C 0 rfl dX6_tie_68 ?_
      refine z_get C iRX6 0 gC_0 rfl 0 (by decide) fl_RX6_12 rfl dX6_tie_69 ?_
      refine z_iload_n C 1 rfl dX6_tie_72 ?_
      refine z_iload_n C 2 rfl dX6_tie_73 ?_
      refine z_iconst C (v := 2) dX6_tie_74 (by decide) ?_
      refine z_iconst C (v := 2) dX6_tie_75 (by decide) ?_
      obtain ⟨q2, hq2, h⟩ := bd_spec h
      refine z_callV0 C [.int p0, .int p1, .int 2, .int 2] [] rfl (c_X1_bind l D A a x σ_64 p0 p1 2 2 q2 hq2) cd_yX1_bind in_RX1 ml_RX6_68 im_yX1_bind sl_yX1_bind gC_1 rfl hd_yX1_bind ⟨⟨Nat.le_of_ble_eq_true rfl, Nat.le_of_ble_eq_true rfl⟩, rfl, rfl⟩ rfl (Nat.le_of_ble_eq_true rfl) ⟨Nat.zero_le _, Nat.zero_le _⟩ dX6_tie_76 ?_
      refine z_goto C 93 (by decide) dX6_tie_79 ?_
      refine z_iconst C (v := 1) dX6_tie_93 (by decide) ?_
      cases h
      exact z_iret C hr hlk dX6_tie_94
  unfold f_X6_tie at h
  refine z_aload_n C 0 rfl dX6_tie_0 ?_
  refine z_get C iRX6 0 gC_0 rfl 0 (by decide) fl_RX6_12 rfl dX6_tie_1 ?_
  refine z_iload_n C 1 rfl dX6_tie_4 ?_
  obtain ⟨q3, hq3, h⟩ := bd_spec h
  refine z_callV1 C [.int p0] [] (v := (.int q3)) rfl (c_X1_has l D A a x σ p0 q3 hq3) cd_yX1_has in_RX1 ml_RX6_56 im_yX1_has sl_yX1_has gC_1 rfl hd_yX1_has ⟨⟨Nat.le_of_ble_eq_true rfl, Nat.le_of_ble_eq_true rfl⟩, rfl, rfl⟩ rfl (Nat.le_of_ble_eq_true rfl) ⟨Nat.zero_le _, Nat.zero_le _⟩ dX6_tie_5 ?_
  refine z_if_eq C 22 (by decide) dX6_tie_8 h (fun h => ?_) (fun h => ?_)
  · refine z_bipush C (v := (-2)) dX6_tie_22 (by decide) ?_
    cases h
    exact z_iret C hr hlk dX6_tie_24
  · refine z_aload_n C 0 rfl dX6_tie_11 ?_
    refine z_get C iRX6 0 gC_0 rfl 0 (by decide) fl_RX6_12 rfl dX6_tie_12 ?_
    refine z_iload_n C 2 rfl dX6_tie_15 ?_
    obtain ⟨q4, hq4, h⟩ := bd_spec h
    refine z_callV1 C [.int p1] [] (v := (.int q4)) rfl (c_X1_has l D A a x σ p1 q4 hq4) cd_yX1_has in_RX1 ml_RX6_56 im_yX1_has sl_yX1_has gC_1 rfl hd_yX1_has ⟨⟨Nat.le_of_ble_eq_true rfl, Nat.le_of_ble_eq_true rfl⟩, rfl, rfl⟩ rfl (Nat.le_of_ble_eq_true rfl) ⟨Nat.zero_le _, Nat.zero_le _⟩ dX6_tie_16 ?_
    refine z_if_ne C 25 (by decide) dX6_tie_19 h (fun h => ?_) (fun h => ?_)
    · refine z_iload_n C 1 rfl dX6_tie_25 ?_
      refine z_iload_n C 2 rfl dX6_tie_26 ?_
      refine z_icmp_eq C 42 (by decide) dX6_tie_27 h (fun h => ?_) (fun h => ?_)
      · refine z_bipush C (v := (-3)) dX6_tie_42 (by decide) ?_
        cases h
        exact z_iret C hr hlk dX6_tie_44
      · refine z_aload_n C 0 rfl dX6_tie_30 ?_
        refine z_get C iRX6 0 gC_0 rfl 0 (by decide) fl_RX6_12 rfl dX6_tie_31 ?_
        refine z_iload_n C 1 rfl dX6_tie_34 ?_
        refine z_iload_n C 2 rfl dX6_tie_35 ?_
        obtain ⟨q5, hq5, h⟩ := bd_spec h
        refine z_callV1 C [.int p0, .int p1] [] (v := (.int q5)) rfl (c_X1_kind l D A a x σ p0 p1 q5 hq5) cd_yX1_kind in_RX1 ml_RX6_60 im_yX1_kind sl_yX1_kind gC_1 rfl hd_yX1_kind ⟨⟨Nat.le_of_ble_eq_true rfl, Nat.le_of_ble_eq_true rfl⟩, rfl, rfl⟩ rfl (Nat.le_of_ble_eq_true rfl) ⟨Nat.zero_le _, Nat.zero_le _⟩ dX6_tie_36 ?_
        refine z_if_eq C 45 (by decide) dX6_tie_39 h (fun h => ?_) (fun h => ?_)
        · refine z_iload_n C 3 rfl dX6_tie_45 ?_
          refine z_if_ne C 64 (by decide) dX6_tie_46 h (fun h => ?_) (fun h => ?_)
          · exact J64 _ h
          · refine z_aload_n C 0 rfl dX6_tie_49 ?_
            refine z_get C iRX6 0 gC_0 rfl 0 (by decide) fl_RX6_12 rfl dX6_tie_50 ?_
            refine z_iload_n C 2 rfl dX6_tie_53 ?_
            refine z_iload_n C 1 rfl dX6_tie_54 ?_
            obtain ⟨q6, hq6, h⟩ := bd_spec h
            refine z_callV1 C [.int p1, .int p0] [] (v := (.int q6)) rfl (c_X1_isAbove l D A a x σ p1 p0 q6 hq6) cd_yX1_isAbove in_RX1 ml_RX6_64 im_yX1_isAbove sl_yX1_isAbove gC_1 rfl hd_yX1_isAbove ⟨⟨Nat.le_of_ble_eq_true rfl, Nat.le_of_ble_eq_true rfl⟩, rfl, rfl⟩ rfl (Nat.le_of_ble_eq_true rfl) ⟨Nat.zero_le _, Nat.zero_le _⟩ dX6_tie_55 ?_
            refine z_if_eq C 64 (by decide) dX6_tie_58 h (fun h => ?_) (fun h => ?_)
            · exact J64 _ h
            · refine z_bipush C (v := (-4)) dX6_tie_61 (by decide) ?_
              cases h
              exact z_iret C hr hlk dX6_tie_63
        · refine z_bipush C (v := (-3)) dX6_tie_42 (by decide) ?_
          cases h
          exact z_iret C hr hlk dX6_tie_44
    · refine z_bipush C (v := (-2)) dX6_tie_22 (by decide) ?_
      cases h
      exact z_iret C hr hlk dX6_tie_24
theorem dX6_untie_0 : decode cX6_untie 0 = .ok (.aload_n 0, 1) := by decide +kernel
theorem dX6_untie_1 : decode cX6_untie 1 = .ok (.getfield 12, 3) := by decide +kernel
theorem dX6_untie_4 : decode cX6_untie 4 = .ok (.iload_n 1, 1) := by decide +kernel
theorem dX6_untie_5 : decode cX6_untie 5 = .ok (.invokevirtual 56, 3) := by decide +kernel
theorem dX6_untie_8 : decode cX6_untie 8 = .ok (.ifCond .eq 14, 3) := by decide +kernel
theorem dX6_untie_11 : decode cX6_untie 11 = .ok (.aload_n 0, 1) := by decide +kernel
theorem dX6_untie_12 : decode cX6_untie 12 = .ok (.getfield 12, 3) := by decide +kernel
theorem dX6_untie_15 : decode cX6_untie 15 = .ok (.iload_n 2, 1) := by decide +kernel
theorem dX6_untie_16 : decode cX6_untie 16 = .ok (.invokevirtual 56, 3) := by decide +kernel
theorem dX6_untie_19 : decode cX6_untie 19 = .ok (.ifCond .ne 6, 3) := by decide +kernel
theorem dX6_untie_22 : decode cX6_untie 22 = .ok (.bipush (-2), 2) := by decide +kernel
theorem dX6_untie_24 : decode cX6_untie 24 = .ok (.ireturn, 1) := by decide +kernel
theorem dX6_untie_25 : decode cX6_untie 25 = .ok (.aload_n 0, 1) := by decide +kernel
theorem dX6_untie_26 : decode cX6_untie 26 = .ok (.getfield 12, 3) := by decide +kernel
theorem dX6_untie_29 : decode cX6_untie 29 = .ok (.iload_n 1, 1) := by decide +kernel
theorem dX6_untie_30 : decode cX6_untie 30 = .ok (.iload_n 2, 1) := by decide +kernel
theorem dX6_untie_31 : decode cX6_untie 31 = .ok (.invokevirtual 60, 3) := by decide +kernel
theorem dX6_untie_34 : decode cX6_untie 34 = .ok (.ifCond .ne 6, 3) := by decide +kernel
theorem dX6_untie_37 : decode cX6_untie 37 = .ok (.bipush (-5), 2) := by decide +kernel
theorem dX6_untie_39 : decode cX6_untie 39 = .ok (.ireturn, 1) := by decide +kernel
theorem dX6_untie_40 : decode cX6_untie 40 = .ok (.aload_n 0, 1) := by decide +kernel
theorem dX6_untie_41 : decode cX6_untie 41 = .ok (.getfield 12, 3) := by decide +kernel
theorem dX6_untie_44 : decode cX6_untie 44 = .ok (.iload_n 1, 1) := by decide +kernel
theorem dX6_untie_45 : decode cX6_untie 45 = .ok (.iload_n 2, 1) := by decide +kernel
theorem dX6_untie_46 : decode cX6_untie 46 = .ok (.invokevirtual 72, 3) := by decide +kernel
theorem dX6_untie_49 : decode cX6_untie 49 = .ok (.iconst 1, 1) := by decide +kernel
theorem dX6_untie_50 : decode cX6_untie 50 = .ok (.ireturn, 1) := by decide +kernel
theorem hd_yX6_untie : (yX6_untie).cls ≠ "java/lang/invoke/MethodHandle" ∧ (yX6_untie).cls ≠ "java/lang/invoke/VarHandle" ∧ (parseMethodDescriptor (yX6_untie).desc).map (fun d => d.parameters.length) = some 2 := ⟨by decide, by decide, by decide +kernel⟩
def f_X6_untie (p0 : Int32) (p1 : Int32) (σ : ZS) : Option (Int32 × ZS) :=
  Option.bind (f_X1_has p0 σ) (fun q1 => (if q1 = 0 then some ((-2), σ) else Option.bind (f_X1_has p1 σ) (fun q2 => (if q2 = 0 then some ((-2), σ) else Option.bind (f_X1_kind p0 p1 σ) (fun q3 => (if q3 = 0 then some ((-5), σ) else Option.bind (f_X1_part p0 p1 σ) (fun q4 => some (1, q4))))))))
set_option maxHeartbeats 4000000 in
set_option maxRecDepth 100000 in
theorem c_X6_untie (l : Launch) (D : va_G) (A : Nat → Prop) (a : Nat → Nat) (x : ClassId × ClassId × ClassId) (σ : ZS) (p0 : Int32) (p1 : Int32) (r : (Int32 × ZS)) (h : f_X6_untie p0 p1 σ = some r) : zM l yX6_untie w_yX6_untie ({ frames := 3, cells := 0, slots := 0, locals := 66 } : Room) D A (tyz x) [.ref (a 0), .int p0, .int p1] (wC a x σ) (some (.int r.1)) (wC a x r.2) := by
  refine z_start [.ref (a 0), .int p0, .int p1] (lv := [(0, .ref (a 0)), (1, .int p0), (2, .int p1)]) (by decide) (Nat.le_of_ble_eq_true rfl) rfl ?_
  intro p e s m args below meth c C hr hlk
  unfold f_X6_untie at h
  refine z_aload_n C 0 rfl dX6_untie_0 ?_
  refine z_get C iRX6 0 gC_0 rfl 0 (by decide) fl_RX6_12 rfl dX6_untie_1 ?_
  refine z_iload_n C 1 rfl dX6_untie_4 ?_
  obtain ⟨q1, hq1, h⟩ := bd_spec h
  refine z_callV1 C [.int p0] [] (v := (.int q1)) rfl (c_X1_has l D A a x σ p0 q1 hq1) cd_yX1_has in_RX1 ml_RX6_56 im_yX1_has sl_yX1_has gC_1 rfl hd_yX1_has ⟨⟨Nat.le_of_ble_eq_true rfl, Nat.le_of_ble_eq_true rfl⟩, rfl, rfl⟩ rfl (Nat.le_of_ble_eq_true rfl) ⟨Nat.zero_le _, Nat.zero_le _⟩ dX6_untie_5 ?_
  refine z_if_eq C 22 (by decide) dX6_untie_8 h (fun h => ?_) (fun h => ?_)
  · refine z_bipush C (v := (-2)) dX6_untie_22 (by decide) ?_
    cases h
    exact z_iret C hr hlk dX6_untie_24
  · refine z_aload_n C 0 rfl dX6_untie_11 ?_
    refine z_get C iRX6 0 gC_0 rfl 0 (by decide) fl_RX6_12 rfl dX6_untie_12 ?_
    refine z_iload_n C 2 rfl dX6_untie_15 ?_
    obtain ⟨q2, hq2, h⟩ := bd_spec h
    refine z_callV1 C [.int p1] [] (v := (.int q2)) rfl (c_X1_has l D A a x σ p1 q2 hq2) cd_yX1_has in_RX1 ml_RX6_56 im_yX1_has sl_yX1_has gC_1 rfl hd_yX1_has ⟨⟨Nat.le_of_ble_eq_true rfl, Nat.le_of_ble_eq_true rfl⟩, rfl, rfl⟩ rfl (Nat.le_of_ble_eq_true rfl) ⟨Nat.zero_le _, Nat.zero_le _⟩ dX6_untie_16 ?_
    refine z_if_ne C 25 (by decide) dX6_untie_19 h (fun h => ?_) (fun h => ?_)
    · refine z_aload_n C 0 rfl dX6_untie_25 ?_
      refine z_get C iRX6 0 gC_0 rfl 0 (by decide) fl_RX6_12 rfl dX6_untie_26 ?_
      refine z_iload_n C 1 rfl dX6_untie_29 ?_
      refine z_iload_n C 2 rfl dX6_untie_30 ?_
      obtain ⟨q3, hq3, h⟩ := bd_spec h
      refine z_callV1 C [.int p0, .int p1] [] (v := (.int q3)) rfl (c_X1_kind l D A a x σ p0 p1 q3 hq3) cd_yX1_kind in_RX1 ml_RX6_60 im_yX1_kind sl_yX1_kind gC_1 rfl hd_yX1_kind ⟨⟨Nat.le_of_ble_eq_true rfl, Nat.le_of_ble_eq_true rfl⟩, rfl, rfl⟩ rfl (Nat.le_of_ble_eq_true rfl) ⟨Nat.zero_le _, Nat.zero_le _⟩ dX6_untie_31 ?_
      refine z_if_ne C 40 (by decide) dX6_untie_34 h (fun h => ?_) (fun h => ?_)
      · refine z_aload_n C 0 rfl dX6_untie_40 ?_
        refine z_get C iRX6 0 gC_0 rfl 0 (by decide) fl_RX6_12 rfl dX6_untie_41 ?_
        refine z_iload_n C 1 rfl dX6_untie_44 ?_
        refine z_iload_n C 2 rfl dX6_untie_45 ?_
        obtain ⟨q4, hq4, h⟩ := bd_spec h
        refine z_callV0 C [.int p0, .int p1] [] rfl (c_X1_part l D A a x σ p0 p1 q4 hq4) cd_yX1_part in_RX1 ml_RX6_72 im_yX1_part sl_yX1_part gC_1 rfl hd_yX1_part ⟨⟨Nat.le_of_ble_eq_true rfl, Nat.le_of_ble_eq_true rfl⟩, rfl, rfl⟩ rfl (Nat.le_of_ble_eq_true rfl) ⟨Nat.zero_le _, Nat.zero_le _⟩ dX6_untie_46 ?_
        refine z_iconst C (v := 1) dX6_untie_49 (by decide) ?_
        cases h
        exact z_iret C hr hlk dX6_untie_50
      · refine z_bipush C (v := (-5)) dX6_untie_37 (by decide) ?_
        cases h
        exact z_iret C hr hlk dX6_untie_39
    · refine z_bipush C (v := (-2)) dX6_untie_22 (by decide) ?_
      cases h
      exact z_iret C hr hlk dX6_untie_24
theorem dX6_right_0 : decode cX6_right 0 = .ok (.iload_n 1, 1) := by decide +kernel
theorem dX6_right_1 : decode cX6_right 1 = .ok (.iload_n 2, 1) := by decide +kernel
theorem dX6_right_2 : decode cX6_right 2 = .ok (.invokestatic 76, 3) := by decide +kernel
theorem dX6_right_5 : decode cX6_right 5 = .ok (.istore 4, 2) := by decide +kernel
theorem dX6_right_7 : decode cX6_right 7 = .ok (.iload 4, 2) := by decide +kernel
theorem dX6_right_9 : decode cX6_right 9 = .ok (.bipush (-2), 2) := by decide +kernel
theorem dX6_right_11 : decode cX6_right 11 = .ok (.if_icmp .eq 14, 3) := by decide +kernel
theorem dX6_right_14 : decode cX6_right 14 = .ok (.aload_n 0, 1) := by decide +kernel
theorem dX6_right_15 : decode cX6_right 15 = .ok (.getfield 12, 3) := by decide +kernel
theorem dX6_right_18 : decode cX6_right 18 = .ok (.iload_n 3, 1) := by decide +kernel
theorem dX6_right_19 : decode cX6_right 19 = .ok (.invokevirtual 56, 3) := by decide +kernel
theorem dX6_right_22 : decode cX6_right 22 = .ok (.ifCond .ne 6, 3) := by decide +kernel
theorem dX6_right_25 : decode cX6_right 25 = .ok (.bipush (-2), 2) := by decide +kernel
theorem dX6_right_27 : decode cX6_right 27 = .ok (.ireturn, 1) := by decide +kernel
theorem dX6_right_28 : decode cX6_right 28 = .ok (.aload_n 0, 1) := by decide +kernel
theorem dX6_right_29 : decode cX6_right 29 = .ok (.getfield 19, 3) := by decide +kernel
theorem dX6_right_32 : decode cX6_right 32 = .ok (.iload 4, 2) := by decide +kernel
theorem dX6_right_34 : decode cX6_right 34 = .ok (.invokevirtual 79, 3) := by decide +kernel
theorem dX6_right_37 : decode cX6_right 37 = .ok (.istore 5, 2) := by decide +kernel
theorem dX6_right_39 : decode cX6_right 39 = .ok (.iload 5, 2) := by decide +kernel
theorem dX6_right_41 : decode cX6_right 41 = .ok (.iload_n 3, 1) := by decide +kernel
theorem dX6_right_42 : decode cX6_right 42 = .ok (.if_icmp .ne 6, 3) := by decide +kernel
theorem dX6_right_45 : decode cX6_right 45 = .ok (.bipush (-3), 2) := by decide +kernel
theorem dX6_right_47 : decode cX6_right 47 = .ok (.ireturn, 1) := by decide +kernel
theorem dX6_right_48 : decode cX6_right 48 = .ok (.iload 5, 2) := by decide +kernel
theorem dX6_right_50 : decode cX6_right 50 = .ok (.iconst (-1), 1) := by decide +kernel
theorem dX6_right_51 : decode cX6_right 51 = .ok (.if_icmp .ne 18, 3) := by decide +kernel
theorem dX6_right_54 : decode cX6_right 54 = .ok (.aload_n 0, 1) := by decide +kernel
theorem dX6_right_55 : decode cX6_right 55 = .ok (.getfield 19, 3) := by decide +kernel
theorem dX6_right_58 : decode cX6_right 58 = .ok (.invokevirtual 83, 3) := by decide +kernel
theorem dX6_right_61 : decode cX6_right 61 = .ok (.bipush 12, 2) := by decide +kernel
theorem dX6_right_63 : decode cX6_right 63 = .ok (.if_icmp .lt 6, 3) := by decide +kernel
theorem dX6_right_66 : decode cX6_right 66 = .ok (.bipush (-6), 2) := by decide +kernel
theorem dX6_right_68 : decode cX6_right 68 = .ok (.ireturn, 1) := by decide +kernel
theorem dX6_right_69 : decode cX6_right 69 = .ok (.aload_n 0, 1) := by decide +kernel
theorem dX6_right_70 : decode cX6_right 70 = .ok (.getfield 19, 3) := by decide +kernel
theorem dX6_right_73 : decode cX6_right 73 = .ok (.iload 4, 2) := by decide +kernel
theorem dX6_right_75 : decode cX6_right 75 = .ok (.iload_n 3, 1) := by decide +kernel
theorem dX6_right_76 : decode cX6_right 76 = .ok (.invokevirtual 86, 3) := by decide +kernel
theorem dX6_right_79 : decode cX6_right 79 = .ok (.iload 5, 2) := by decide +kernel
theorem dX6_right_81 : decode cX6_right 81 = .ok (.ireturn, 1) := by decide +kernel
theorem hd_yX6_right : (yX6_right).cls ≠ "java/lang/invoke/MethodHandle" ∧ (yX6_right).cls ≠ "java/lang/invoke/VarHandle" ∧ (parseMethodDescriptor (yX6_right).desc).map (fun d => d.parameters.length) = some 3 := ⟨by decide, by decide, by decide +kernel⟩
def f_X6_right_J69 (l3 : Int32) (l4 : Int32) (l5 : Int32) (σ : ZS) : Option (Int32 × ZS) :=
  Option.bind (f_X2_give l4 l3 σ) (fun q5 => some (l5, q5))
def f_X6_right (p0 : Int32) (p1 : Int32) (p2 : Int32) (σ : ZS) : Option (Int32 × ZS) :=
  Option.bind (f_X6_blockNumber p0 p1) (fun q1 => (if q1 = (-2) then some ((-2), σ) else Option.bind (f_X1_has p2 σ) (fun q2 => (if q2 = 0 then some ((-2), σ) else Option.bind (f_X2_holder q1 σ) (fun q3 => (if q3 = p2 then some ((-3), σ) else (if q3 = (-1) then Option.bind (f_X2_number σ) (fun q4 => (if q4 < 12 then f_X6_right_J69 p2 q1 q3 σ else some ((-6), σ))) else f_X6_right_J69 p2 q1 q3 σ)))))))
set_option maxHeartbeats 4000000 in
set_option maxRecDepth 100000 in
theorem c_X6_right (l : Launch) (D : va_G) (A : Nat → Prop) (a : Nat → Nat) (x : ClassId × ClassId × ClassId) (σ : ZS) (p0 : Int32) (p1 : Int32) (p2 : Int32) (r : (Int32 × ZS)) (h : f_X6_right p0 p1 p2 σ = some r) : zM l yX6_right w_yX6_right ({ frames := 2, cells := 0, slots := 0, locals := 42 } : Room) D A (tyz x) [.ref (a 0), .int p0, .int p1, .int p2] (wC a x σ) (some (.int r.1)) (wC a x r.2) := by
  refine z_start [.ref (a 0), .int p0, .int p1, .int p2] (lv := [(0, .ref (a 0)), (1, .int p0), (2, .int p1), (3, .int p2)]) (by decide) (Nat.le_of_ble_eq_true rfl) rfl ?_
  intro p e s m args below meth c C hr hlk
  have J69 : ∀ (l4_69 : Int32) (l5_69 : Int32) (σ_69 : ZS), f_X6_right_J69 p2 l4_69 l5_69 σ_69 = some r → zV p l e ({ frames := 2, cells := 0, slots := 0, locals := 42 } : Room) s m args below meth c 0 0 (MQ below (zQ D A (some (.int r.1)) (wC a x r.2)) args s 0 0 A) D A 6 (wC a x σ_69) 69 [(0, .ref (a 0)), (3, .int p2), (4, .int l4_69), (5, .int l5_69)] [] := by
    intro l4_69 l5_69 σ_69 h
    unfold f_X6_right_J69 at h
    refine z_aload_n C 0 rfl dX6_right_69 ?_
    refine z_get C iRX6 0 gC_0 rfl 1 (by decide) fl_RX6_19 rfl dX6_right_70 ?_
    refine z_iload C 2 rfl dX6_right_73 ?_
    refine z_iload_n C 1 rfl dX6_right_75 ?_
    obtain ⟨q1, hq1, h⟩ := bd_spec h
    refine z_callV0 C [.int l4_69, .int p2] [] rfl (c_X2_give l D A a x σ_69 l4_69 p2 q1 hq1) cd_yX2_give in_RX2 ml_RX6_86 im_yX2_give sl_yX2_give gC_2 rfl hd_yX2_give ⟨⟨Nat.le_of_ble_eq_true rfl, Nat.le_of_ble_eq_true rfl⟩, rfl, rfl⟩ rfl (Nat.le_of_ble_eq_true rfl) ⟨Nat.zero_le _, Nat.zero_le _⟩ dX6_right_76 ?_
    refine z_iload C 3 rfl dX6_right_79 ?_
    cases h
    exact z_iret C hr hlk dX6_right_81
  unfold f_X6_right at h
  refine z_iload_n C 1 rfl dX6_right_0 ?_
  refine z_iload_n C 2 rfl dX6_right_1 ?_
  obtain ⟨q2, hq2, h⟩ := bd_spec h
  refine z_callS1 C [.int p0, .int p1] [] (v := .int q2) rfl (c_X6_blockNumber l D A (tyz x) (wC a x σ) p0 p1 q2 hq2) cd_yX6_blockNumber in_RX6 ml_RX6_76 sm_yX6_blockNumber hd_yX6_blockNumber ⟨⟨Nat.le_of_ble_eq_true rfl, Nat.le_of_ble_eq_true rfl⟩, rfl, rfl⟩ rfl (Nat.le_of_ble_eq_true rfl) ⟨Nat.zero_le _, Nat.zero_le _⟩ dX6_right_2 ?_
  refine z_istore C [(4, .int q2), (0, .ref (a 0)), (1, .int p0), (2, .int p1), (3, .int p2)] (by decide) rfl dX6_right_5 ?_
  refine z_iload C 0 rfl dX6_right_7 ?_
  refine z_bipush C (v := (-2)) dX6_right_9 (by decide) ?_
  refine z_icmp_eq C 25 (by decide) dX6_right_11 h (fun h => ?_) (fun h => ?_)
  · refine z_bipush C (v := (-2)) dX6_right_25 (by decide) ?_
    cases h
    exact z_iret C hr hlk dX6_right_27
  · refine z_aload_n C 1 rfl dX6_right_14 ?_
    refine z_get C iRX6 0 gC_0 rfl 0 (by decide) fl_RX6_12 rfl dX6_right_15 ?_
    refine z_iload_n C 4 rfl dX6_right_18 ?_
    obtain ⟨q3, hq3, h⟩ := bd_spec h
    refine z_callV1 C [.int p2] [] (v := (.int q3)) rfl (c_X1_has l D A a x σ p2 q3 hq3) cd_yX1_has in_RX1 ml_RX6_56 im_yX1_has sl_yX1_has gC_1 rfl hd_yX1_has ⟨⟨Nat.le_of_ble_eq_true rfl, Nat.le_of_ble_eq_true rfl⟩, rfl, rfl⟩ rfl (Nat.le_of_ble_eq_true rfl) ⟨Nat.zero_le _, Nat.zero_le _⟩ dX6_right_19 ?_
    refine z_if_ne C 28 (by decide) dX6_right_22 h (fun h => ?_) (fun h => ?_)
    · refine z_aload_n C 1 rfl dX6_right_28 ?_
      refine z_get C iRX6 0 gC_0 rfl 1 (by decide) fl_RX6_19 rfl dX6_right_29 ?_
      refine z_iload C 0 rfl dX6_right_32 ?_
      obtain ⟨q4, hq4, h⟩ := bd_spec h
      refine z_callV1 C [.int q2] [] (v := (.int q4)) rfl (c_X2_holder l D A a x σ q2 q4 hq4) cd_yX2_holder in_RX2 ml_RX6_79 im_yX2_holder sl_yX2_holder gC_2 rfl hd_yX2_holder ⟨⟨Nat.le_of_ble_eq_true rfl, Nat.le_of_ble_eq_true rfl⟩, rfl, rfl⟩ rfl (Nat.le_of_ble_eq_true rfl) ⟨Nat.zero_le _, Nat.zero_le _⟩ dX6_right_34 ?_
      refine z_istore C [(5, .int q4), (4, .int q2), (0, .ref (a 0)), (1, .int p0), (2, .int p1), (3, .int p2)] (by decide) rfl dX6_right_37 ?_
      refine z_iload C 0 rfl dX6_right_39 ?_
      refine z_iload_n C 5 rfl dX6_right_41 ?_
      refine z_icmp_ne C 48 (by decide) dX6_right_42 h (fun h => ?_) (fun h => ?_)
      · refine z_iload C 0 rfl dX6_right_48 ?_
        refine z_iconst C (v := (-1)) dX6_right_50 (by decide) ?_
        refine z_icmp_ne C 69 (by decide) dX6_right_51 h (fun h => ?_) (fun h => ?_)
        · refine z_sub C [2, 5, 1, 0] (lv' := [(0, .ref (a 0)), (3, .int p2), (4, .int q2), (5, .int q4)]) rfl ?_
          exact J69 _ _ _ h
        · refine z_aload_n C 2 rfl dX6_right_54 ?_
          refine z_get C iRX6 0 gC_0 rfl 1 (by decide) fl_RX6_19 rfl dX6_right_55 ?_
          obtain ⟨q5, hq5, h⟩ := bd_spec h
          refine z_callV1 C [] [] (v := (.int q5)) rfl (c_X2_number l D A a x σ  q5 hq5) cd_yX2_number in_RX2 ml_RX6_83 im_yX2_number sl_yX2_number gC_2 rfl hd_yX2_number ⟨⟨Nat.le_of_ble_eq_true rfl, Nat.le_of_ble_eq_true rfl⟩, rfl, rfl⟩ rfl (Nat.le_of_ble_eq_true rfl) ⟨Nat.zero_le _, Nat.zero_le _⟩ dX6_right_58 ?_
          refine z_bipush C (v := 12) dX6_right_61 (by decide) ?_
          refine z_icmp_lt C 69 (by decide) dX6_right_63 h (fun h => ?_) (fun h => ?_)
          · refine z_sub C [2, 5, 1, 0] (lv' := [(0, .ref (a 0)), (3, .int p2), (4, .int q2), (5, .int q4)]) rfl ?_
            exact J69 _ _ _ h
          · refine z_bipush C (v := (-6)) dX6_right_66 (by decide) ?_
            cases h
            exact z_iret C hr hlk dX6_right_68
      · refine z_bipush C (v := (-3)) dX6_right_45 (by decide) ?_
        cases h
        exact z_iret C hr hlk dX6_right_47
    · refine z_bipush C (v := (-2)) dX6_right_25 (by decide) ?_
      cases h
      exact z_iret C hr hlk dX6_right_27
theorem dX6_free_0 : decode cX6_free 0 = .ok (.iload_n 1, 1) := by decide +kernel
theorem dX6_free_1 : decode cX6_free 1 = .ok (.iload_n 2, 1) := by decide +kernel
theorem dX6_free_2 : decode cX6_free 2 = .ok (.invokestatic 76, 3) := by decide +kernel
theorem dX6_free_5 : decode cX6_free 5 = .ok (.istore_n 3, 1) := by decide +kernel
theorem dX6_free_6 : decode cX6_free 6 = .ok (.iload_n 3, 1) := by decide +kernel
theorem dX6_free_7 : decode cX6_free 7 = .ok (.bipush (-2), 2) := by decide +kernel
theorem dX6_free_9 : decode cX6_free 9 = .ok (.if_icmp .ne 6, 3) := by decide +kernel
theorem dX6_free_12 : decode cX6_free 12 = .ok (.bipush (-2), 2) := by decide +kernel
theorem dX6_free_14 : decode cX6_free 14 = .ok (.ireturn, 1) := by decide +kernel
theorem dX6_free_15 : decode cX6_free 15 = .ok (.aload_n 0, 1) := by decide +kernel
theorem dX6_free_16 : decode cX6_free 16 = .ok (.getfield 19, 3) := by decide +kernel
theorem dX6_free_19 : decode cX6_free 19 = .ok (.iload_n 3, 1) := by decide +kernel
theorem dX6_free_20 : decode cX6_free 20 = .ok (.invokevirtual 79, 3) := by decide +kernel
theorem dX6_free_23 : decode cX6_free 23 = .ok (.istore 4, 2) := by decide +kernel
theorem dX6_free_25 : decode cX6_free 25 = .ok (.iload 4, 2) := by decide +kernel
theorem dX6_free_27 : decode cX6_free 27 = .ok (.iconst (-1), 1) := by decide +kernel
theorem dX6_free_28 : decode cX6_free 28 = .ok (.if_icmp .ne 6, 3) := by decide +kernel
theorem dX6_free_31 : decode cX6_free 31 = .ok (.bipush (-5), 2) := by decide +kernel
theorem dX6_free_33 : decode cX6_free 33 = .ok (.ireturn, 1) := by decide +kernel
theorem dX6_free_34 : decode cX6_free 34 = .ok (.aload_n 0, 1) := by decide +kernel
theorem dX6_free_35 : decode cX6_free 35 = .ok (.getfield 19, 3) := by decide +kernel
theorem dX6_free_38 : decode cX6_free 38 = .ok (.iload_n 3, 1) := by decide +kernel
theorem dX6_free_39 : decode cX6_free 39 = .ok (.iconst (-1), 1) := by decide +kernel
theorem dX6_free_40 : decode cX6_free 40 = .ok (.invokevirtual 86, 3) := by decide +kernel
theorem dX6_free_43 : decode cX6_free 43 = .ok (.iload 4, 2) := by decide +kernel
theorem dX6_free_45 : decode cX6_free 45 = .ok (.ireturn, 1) := by decide +kernel
theorem hd_yX6_free : (yX6_free).cls ≠ "java/lang/invoke/MethodHandle" ∧ (yX6_free).cls ≠ "java/lang/invoke/VarHandle" ∧ (parseMethodDescriptor (yX6_free).desc).map (fun d => d.parameters.length) = some 2 := ⟨by decide, by decide, by decide +kernel⟩
def f_X6_free (p0 : Int32) (p1 : Int32) (σ : ZS) : Option (Int32 × ZS) :=
  Option.bind (f_X6_blockNumber p0 p1) (fun q1 => (if q1 = (-2) then some ((-2), σ) else Option.bind (f_X2_holder q1 σ) (fun q2 => (if q2 = (-1) then some ((-5), σ) else Option.bind (f_X2_give q1 (-1) σ) (fun q3 => some (q2, q3))))))
set_option maxHeartbeats 4000000 in
set_option maxRecDepth 100000 in
theorem c_X6_free (l : Launch) (D : va_G) (A : Nat → Prop) (a : Nat → Nat) (x : ClassId × ClassId × ClassId) (σ : ZS) (p0 : Int32) (p1 : Int32) (r : (Int32 × ZS)) (h : f_X6_free p0 p1 σ = some r) : zM l yX6_free w_yX6_free ({ frames := 2, cells := 0, slots := 0, locals := 42 } : Room) D A (tyz x) [.ref (a 0), .int p0, .int p1] (wC a x σ) (some (.int r.1)) (wC a x r.2) := by
  refine z_start [.ref (a 0), .int p0, .int p1] (lv := [(0, .ref (a 0)), (1, .int p0), (2, .int p1)]) (by decide) (Nat.le_of_ble_eq_true rfl) rfl ?_
  intro p e s m args below meth c C hr hlk
  unfold f_X6_free at h
  refine z_iload_n C 1 rfl dX6_free_0 ?_
  refine z_iload_n C 2 rfl dX6_free_1 ?_
  obtain ⟨q1, hq1, h⟩ := bd_spec h
  refine z_callS1 C [.int p0, .int p1] [] (v := .int q1) rfl (c_X6_blockNumber l D A (tyz x) (wC a x σ) p0 p1 q1 hq1) cd_yX6_blockNumber in_RX6 ml_RX6_76 sm_yX6_blockNumber hd_yX6_blockNumber ⟨⟨Nat.le_of_ble_eq_true rfl, Nat.le_of_ble_eq_true rfl⟩, rfl, rfl⟩ rfl (Nat.le_of_ble_eq_true rfl) ⟨Nat.zero_le _, Nat.zero_le _⟩ dX6_free_2 ?_
  refine z_istore_n C [(3, .int q1), (0, .ref (a 0)), (1, .int p0), (2, .int p1)] rfl (by decide) rfl dX6_free_5 ?_
  refine z_iload_n C 0 rfl dX6_free_6 ?_
  refine z_bipush C (v := (-2)) dX6_free_7 (by decide) ?_
  refine z_icmp_ne C 15 (by decide) dX6_free_9 h (fun h => ?_) (fun h => ?_)
  · refine z_aload_n C 1 rfl dX6_free_15 ?_
    refine z_get C iRX6 0 gC_0 rfl 1 (by decide) fl_RX6_19 rfl dX6_free_16 ?_
    refine z_iload_n C 0 rfl dX6_free_19 ?_
    obtain ⟨q2, hq2, h⟩ := bd_spec h
    refine z_callV1 C [.int q1] [] (v := (.int q2)) rfl (c_X2_holder l D A a x σ q1 q2 hq2) cd_yX2_holder in_RX2 ml_RX6_79 im_yX2_holder sl_yX2_holder gC_2 rfl hd_yX2_holder ⟨⟨Nat.le_of_ble_eq_true rfl, Nat.le_of_ble_eq_true rfl⟩, rfl, rfl⟩ rfl (Nat.le_of_ble_eq_true rfl) ⟨Nat.zero_le _, Nat.zero_le _⟩ dX6_free_20 ?_
    refine z_istore C [(4, .int q2), (3, .int q1), (0, .ref (a 0)), (1, .int p0), (2, .int p1)] (by decide) rfl dX6_free_23 ?_
    refine z_iload C 0 rfl dX6_free_25 ?_
    refine z_iconst C (v := (-1)) dX6_free_27 (by decide) ?_
    refine z_icmp_ne C 34 (by decide) dX6_free_28 h (fun h => ?_) (fun h => ?_)
    · refine z_aload_n C 2 rfl dX6_free_34 ?_
      refine z_get C iRX6 0 gC_0 rfl 1 (by decide) fl_RX6_19 rfl dX6_free_35 ?_
      refine z_iload_n C 1 rfl dX6_free_38 ?_
      refine z_iconst C (v := (-1)) dX6_free_39 (by decide) ?_
      obtain ⟨q3, hq3, h⟩ := bd_spec h
      refine z_callV0 C [.int q1, .int (-1)] [] rfl (c_X2_give l D A a x σ q1 (-1) q3 hq3) cd_yX2_give in_RX2 ml_RX6_86 im_yX2_give sl_yX2_give gC_2 rfl hd_yX2_give ⟨⟨Nat.le_of_ble_eq_true rfl, Nat.le_of_ble_eq_true rfl⟩, rfl, rfl⟩ rfl (Nat.le_of_ble_eq_true rfl) ⟨Nat.zero_le _, Nat.zero_le _⟩ dX6_free_40 ?_
      refine z_iload C 0 rfl dX6_free_43 ?_
      cases h
      exact z_iret C hr hlk dX6_free_45
    · refine z_bipush C (v := (-5)) dX6_free_31 (by decide) ?_
      cases h
      exact z_iret C hr hlk dX6_free_33
  · refine z_bipush C (v := (-2)) dX6_free_12 (by decide) ?_
    cases h
    exact z_iret C hr hlk dX6_free_14
theorem dX6_rightful_0 : decode cX6_rightful 0 = .ok (.iload_n 1, 1) := by decide +kernel
theorem dX6_rightful_1 : decode cX6_rightful 1 = .ok (.iload_n 2, 1) := by decide +kernel
theorem dX6_rightful_2 : decode cX6_rightful 2 = .ok (.invokestatic 76, 3) := by decide +kernel
theorem dX6_rightful_5 : decode cX6_rightful 5 = .ok (.istore_n 3, 1) := by decide +kernel
theorem dX6_rightful_6 : decode cX6_rightful 6 = .ok (.iload_n 3, 1) := by decide +kernel
theorem dX6_rightful_7 : decode cX6_rightful 7 = .ok (.bipush (-2), 2) := by decide +kernel
theorem dX6_rightful_9 : decode cX6_rightful 9 = .ok (.if_icmp .ne 8, 3) := by decide +kernel
theorem dX6_rightful_12 : decode cX6_rightful 12 = .ok (.bipush (-2), 2) := by decide +kernel
theorem dX6_rightful_14 : decode cX6_rightful 14 = .ok (.goto 11, 3) := by decide +kernel
theorem dX6_rightful_17 : decode cX6_rightful 17 = .ok (.aload_n 0, 1) := by decide +kernel
theorem dX6_rightful_18 : decode cX6_rightful 18 = .ok (.getfield 19, 3) := by decide +kernel
theorem dX6_rightful_21 : decode cX6_rightful 21 = .ok (.iload_n 3, 1) := by decide +kernel
theorem dX6_rightful_22 : decode cX6_rightful 22 = .ok (.invokevirtual 89, 3) := by decide +kernel
theorem dX6_rightful_25 : decode cX6_rightful 25 = .ok (.ireturn, 1) := by decide +kernel
theorem hd_yX6_rightful : (yX6_rightful).cls ≠ "java/lang/invoke/MethodHandle" ∧ (yX6_rightful).cls ≠ "java/lang/invoke/VarHandle" ∧ (parseMethodDescriptor (yX6_rightful).desc).map (fun d => d.parameters.length) = some 2 := ⟨by decide, by decide, by decide +kernel⟩
def f_X6_rightful (p0 : Int32) (p1 : Int32) (σ : ZS) : Option Int32 :=
  Option.bind (f_X6_blockNumber p0 p1) (fun q1 => (if q1 = (-2) then some (-2) else Option.bind (f_X2_owner q1 σ) (fun q2 => some q2)))
set_option maxHeartbeats 4000000 in
set_option maxRecDepth 100000 in
theorem c_X6_rightful (l : Launch) (D : va_G) (A : Nat → Prop) (a : Nat → Nat) (x : ClassId × ClassId × ClassId) (σ : ZS) (p0 : Int32) (p1 : Int32) (r : Int32) (h : f_X6_rightful p0 p1 σ = some r) : zM l yX6_rightful w_yX6_rightful ({ frames := 3, cells := 0, slots := 0, locals := 64 } : Room) D A (tyz x) [.ref (a 0), .int p0, .int p1] (wC a x σ) (some (.int r)) (wC a x σ) := by
  refine z_start [.ref (a 0), .int p0, .int p1] (lv := [(0, .ref (a 0)), (1, .int p0), (2, .int p1)]) (by decide) (Nat.le_of_ble_eq_true rfl) rfl ?_
  intro p e s m args below meth c C hr hlk
  unfold f_X6_rightful at h
  refine z_iload_n C 1 rfl dX6_rightful_0 ?_
  refine z_iload_n C 2 rfl dX6_rightful_1 ?_
  obtain ⟨q1, hq1, h⟩ := bd_spec h
  refine z_callS1 C [.int p0, .int p1] [] (v := .int q1) rfl (c_X6_blockNumber l D A (tyz x) (wC a x σ) p0 p1 q1 hq1) cd_yX6_blockNumber in_RX6 ml_RX6_76 sm_yX6_blockNumber hd_yX6_blockNumber ⟨⟨Nat.le_of_ble_eq_true rfl, Nat.le_of_ble_eq_true rfl⟩, rfl, rfl⟩ rfl (Nat.le_of_ble_eq_true rfl) ⟨Nat.zero_le _, Nat.zero_le _⟩ dX6_rightful_2 ?_
  refine z_istore_n C [(3, .int q1), (0, .ref (a 0)), (1, .int p0), (2, .int p1)] rfl (by decide) rfl dX6_rightful_5 ?_
  refine z_iload_n C 0 rfl dX6_rightful_6 ?_
  refine z_bipush C (v := (-2)) dX6_rightful_7 (by decide) ?_
  refine z_icmp_ne C 17 (by decide) dX6_rightful_9 h (fun h => ?_) (fun h => ?_)
  · refine z_aload_n C 1 rfl dX6_rightful_17 ?_
    refine z_get C iRX6 0 gC_0 rfl 1 (by decide) fl_RX6_19 rfl dX6_rightful_18 ?_
    refine z_iload_n C 0 rfl dX6_rightful_21 ?_
    obtain ⟨q2, hq2, h⟩ := bd_spec h
    refine z_callV1 C [.int q1] [] (v := (.int q2)) rfl (c_X2_owner l D A a x σ q1 q2 hq2) cd_yX2_owner in_RX2 ml_RX6_89 im_yX2_owner sl_yX2_owner gC_2 rfl hd_yX2_owner ⟨⟨Nat.le_of_ble_eq_true rfl, Nat.le_of_ble_eq_true rfl⟩, rfl, rfl⟩ rfl (Nat.le_of_ble_eq_true rfl) ⟨Nat.zero_le _, Nat.zero_le _⟩ dX6_rightful_22 ?_
    cases h
    exact z_iret C hr hlk dX6_rightful_25
  · refine z_bipush C (v := (-2)) dX6_rightful_12 (by decide) ?_
    refine z_goto C 25 (by decide) dX6_rightful_14 ?_
    cases h
    exact z_iret C hr hlk dX6_rightful_25
theorem dX6_say_0 : decode cX6_say 0 = .ok (.iload_n 1, 1) := by decide +kernel
theorem dX6_say_1 : decode cX6_say 1 = .ok (.iload_n 2, 1) := by decide +kernel
theorem dX6_say_2 : decode cX6_say 2 = .ok (.invokestatic 76, 3) := by decide +kernel
theorem dX6_say_5 : decode cX6_say 5 = .ok (.istore 4, 2) := by decide +kernel
theorem dX6_say_7 : decode cX6_say 7 = .ok (.iload 4, 2) := by decide +kernel
theorem dX6_say_9 : decode cX6_say 9 = .ok (.bipush (-2), 2) := by decide +kernel
theorem dX6_say_11 : decode cX6_say 11 = .ok (.if_icmp .eq 14, 3) := by decide +kernel
theorem dX6_say_14 : decode cX6_say 14 = .ok (.aload_n 0, 1) := by decide +kernel
theorem dX6_say_15 : decode cX6_say 15 = .ok (.getfield 12, 3) := by decide +kernel
theorem dX6_say_18 : decode cX6_say 18 = .ok (.iload_n 3, 1) := by decide +kernel
theorem dX6_say_19 : decode cX6_say 19 = .ok (.invokevirtual 56, 3) := by decide +kernel
theorem dX6_say_22 : decode cX6_say 22 = .ok (.ifCond .ne 6, 3) := by decide +kernel
theorem dX6_say_25 : decode cX6_say 25 = .ok (.bipush (-2), 2) := by decide +kernel
theorem dX6_say_27 : decode cX6_say 27 = .ok (.ireturn, 1) := by decide +kernel
theorem dX6_say_28 : decode cX6_say 28 = .ok (.aload_n 0, 1) := by decide +kernel
theorem dX6_say_29 : decode cX6_say 29 = .ok (.getfield 26, 3) := by decide +kernel
theorem dX6_say_32 : decode cX6_say 32 = .ok (.iload 4, 2) := by decide +kernel
theorem dX6_say_34 : decode cX6_say 34 = .ok (.invokevirtual 92, 3) := by decide +kernel
theorem dX6_say_37 : decode cX6_say 37 = .ok (.iload_n 3, 1) := by decide +kernel
theorem dX6_say_38 : decode cX6_say 38 = .ok (.invokestatic 95, 3) := by decide +kernel
theorem dX6_say_41 : decode cX6_say 41 = .ok (.ifCond .eq 6, 3) := by decide +kernel
theorem dX6_say_44 : decode cX6_say 44 = .ok (.bipush (-3), 2) := by decide +kernel
theorem dX6_say_46 : decode cX6_say 46 = .ok (.ireturn, 1) := by decide +kernel
theorem dX6_say_47 : decode cX6_say 47 = .ok (.aload_n 0, 1) := by decide +kernel
theorem dX6_say_48 : decode cX6_say 48 = .ok (.getfield 26, 3) := by decide +kernel
theorem dX6_say_51 : decode cX6_say 51 = .ok (.iload 4, 2) := by decide +kernel
theorem dX6_say_53 : decode cX6_say 53 = .ok (.iload_n 3, 1) := by decide +kernel
theorem dX6_say_54 : decode cX6_say 54 = .ok (.invokevirtual 98, 3) := by decide +kernel
theorem dX6_say_57 : decode cX6_say 57 = .ok (.ireturn, 1) := by decide +kernel
theorem hd_yX6_say : (yX6_say).cls ≠ "java/lang/invoke/MethodHandle" ∧ (yX6_say).cls ≠ "java/lang/invoke/VarHandle" ∧ (parseMethodDescriptor (yX6_say).desc).map (fun d => d.parameters.length) = some 3 := ⟨by decide, by decide, by decide +kernel⟩
def f_X6_say (p0 : Int32) (p1 : Int32) (p2 : Int32) (σ : ZS) : Option (Int32 × ZS) :=
  Option.bind (f_X6_blockNumber p0 p1) (fun q1 => (if q1 = (-2) then some ((-2), σ) else Option.bind (f_X1_has p2 σ) (fun q2 => (if q2 = 0 then some ((-2), σ) else Option.bind (f_X3_sayers q1 σ) (fun q3 => Option.bind (f_X6_hasBit q3 p2) (fun q4 => (if q4 = 0 then Option.bind (f_X3_add q1 p2 σ) (fun q5 => some (q5.1, q5.2)) else some ((-3), σ))))))))
set_option maxHeartbeats 4000000 in
set_option maxRecDepth 100000 in
theorem c_X6_say (l : Launch) (D : va_G) (A : Nat → Prop) (a : Nat → Nat) (x : ClassId × ClassId × ClassId) (σ : ZS) (p0 : Int32) (p1 : Int32) (p2 : Int32) (r : (Int32 × ZS)) (h : f_X6_say p0 p1 p2 σ = some r) : zM l yX6_say w_yX6_say ({ frames := 3, cells := 0, slots := 0, locals := 64 } : Room) D A (tyz x) [.ref (a 0), .int p0, .int p1, .int p2] (wC a x σ) (some (.int r.1)) (wC a x r.2) := by
  refine z_start [.ref (a 0), .int p0, .int p1, .int p2] (lv := [(0, .ref (a 0)), (1, .int p0), (2, .int p1), (3, .int p2)]) (by decide) (Nat.le_of_ble_eq_true rfl) rfl ?_
  intro p e s m args below meth c C hr hlk
  unfold f_X6_say at h
  refine z_iload_n C 1 rfl dX6_say_0 ?_
  refine z_iload_n C 2 rfl dX6_say_1 ?_
  obtain ⟨q1, hq1, h⟩ := bd_spec h
  refine z_callS1 C [.int p0, .int p1] [] (v := .int q1) rfl (c_X6_blockNumber l D A (tyz x) (wC a x σ) p0 p1 q1 hq1) cd_yX6_blockNumber in_RX6 ml_RX6_76 sm_yX6_blockNumber hd_yX6_blockNumber ⟨⟨Nat.le_of_ble_eq_true rfl, Nat.le_of_ble_eq_true rfl⟩, rfl, rfl⟩ rfl (Nat.le_of_ble_eq_true rfl) ⟨Nat.zero_le _, Nat.zero_le _⟩ dX6_say_2 ?_
  refine z_istore C [(4, .int q1), (0, .ref (a 0)), (1, .int p0), (2, .int p1), (3, .int p2)] (by decide) rfl dX6_say_5 ?_
  refine z_iload C 0 rfl dX6_say_7 ?_
  refine z_bipush C (v := (-2)) dX6_say_9 (by decide) ?_
  refine z_icmp_eq C 25 (by decide) dX6_say_11 h (fun h => ?_) (fun h => ?_)
  · refine z_bipush C (v := (-2)) dX6_say_25 (by decide) ?_
    cases h
    exact z_iret C hr hlk dX6_say_27
  · refine z_aload_n C 1 rfl dX6_say_14 ?_
    refine z_get C iRX6 0 gC_0 rfl 0 (by decide) fl_RX6_12 rfl dX6_say_15 ?_
    refine z_iload_n C 4 rfl dX6_say_18 ?_
    obtain ⟨q2, hq2, h⟩ := bd_spec h
    refine z_callV1 C [.int p2] [] (v := (.int q2)) rfl (c_X1_has l D A a x σ p2 q2 hq2) cd_yX1_has in_RX1 ml_RX6_56 im_yX1_has sl_yX1_has gC_1 rfl hd_yX1_has ⟨⟨Nat.le_of_ble_eq_true rfl, Nat.le_of_ble_eq_true rfl⟩, rfl, rfl⟩ rfl (Nat.le_of_ble_eq_true rfl) ⟨Nat.zero_le _, Nat.zero_le _⟩ dX6_say_19 ?_
    refine z_if_ne C 28 (by decide) dX6_say_22 h (fun h => ?_) (fun h => ?_)
    · refine z_aload_n C 1 rfl dX6_say_28 ?_
      refine z_get C iRX6 0 gC_0 rfl 2 (by decide) fl_RX6_26 rfl dX6_say_29 ?_
      refine z_iload C 0 rfl dX6_say_32 ?_
      obtain ⟨q3, hq3, h⟩ := bd_spec h
      refine z_callV1 C [.int q1] [] (v := (.int q3)) rfl (c_X3_sayers l D A a x σ q1 q3 hq3) cd_yX3_sayers in_RX3 ml_RX6_92 im_yX3_sayers sl_yX3_sayers gC_3 rfl hd_yX3_sayers ⟨⟨Nat.le_of_ble_eq_true rfl, Nat.le_of_ble_eq_true rfl⟩, rfl, rfl⟩ rfl (Nat.le_of_ble_eq_true rfl) ⟨Nat.zero_le _, Nat.zero_le _⟩ dX6_say_34 ?_
      refine z_iload_n C 4 rfl dX6_say_37 ?_
      obtain ⟨q4, hq4, h⟩ := bd_spec h
      refine z_callS1 C [.int q3, .int p2] [] (v := .int q4) rfl (c_X6_hasBit l D A (tyz x) (wC a x σ) q3 p2 q4 hq4) cd_yX6_hasBit in_RX6 ml_RX6_95 sm_yX6_hasBit hd_yX6_hasBit ⟨⟨Nat.le_of_ble_eq_true rfl, Nat.le_of_ble_eq_true rfl⟩, rfl, rfl⟩ rfl (Nat.le_of_ble_eq_true rfl) ⟨Nat.zero_le _, Nat.zero_le _⟩ dX6_say_38 ?_
      refine z_if_eq C 47 (by decide) dX6_say_41 h (fun h => ?_) (fun h => ?_)
      · refine z_aload_n C 1 rfl dX6_say_47 ?_
        refine z_get C iRX6 0 gC_0 rfl 2 (by decide) fl_RX6_26 rfl dX6_say_48 ?_
        refine z_iload C 0 rfl dX6_say_51 ?_
        refine z_iload_n C 4 rfl dX6_say_53 ?_
        obtain ⟨q5, hq5, h⟩ := bd_spec h
        refine z_callV1 C [.int q1, .int p2] [] (v := (.int q5.1)) rfl (c_X3_add l D A a x σ q1 p2 q5 hq5) cd_yX3_add in_RX3 ml_RX6_98 im_yX3_add sl_yX3_add gC_3 rfl hd_yX3_add ⟨⟨Nat.le_of_ble_eq_true rfl, Nat.le_of_ble_eq_true rfl⟩, rfl, rfl⟩ rfl (Nat.le_of_ble_eq_true rfl) ⟨Nat.zero_le _, Nat.zero_le _⟩ dX6_say_54 ?_
        cases h
        exact z_iret C hr hlk dX6_say_57
      · refine z_bipush C (v := (-3)) dX6_say_44 (by decide) ?_
        cases h
        exact z_iret C hr hlk dX6_say_46
    · refine z_bipush C (v := (-2)) dX6_say_25 (by decide) ?_
      cases h
      exact z_iret C hr hlk dX6_say_27
theorem dX6_unsay_0 : decode cX6_unsay 0 = .ok (.aload_n 0, 1) := by decide +kernel
theorem dX6_unsay_1 : decode cX6_unsay 1 = .ok (.getfield 26, 3) := by decide +kernel
theorem dX6_unsay_4 : decode cX6_unsay 4 = .ok (.iload_n 1, 1) := by decide +kernel
theorem dX6_unsay_5 : decode cX6_unsay 5 = .ok (.invokevirtual 101, 3) := by decide +kernel
theorem dX6_unsay_8 : decode cX6_unsay 8 = .ok (.ifCond .ne 6, 3) := by decide +kernel
theorem dX6_unsay_11 : decode cX6_unsay 11 = .ok (.bipush (-2), 2) := by decide +kernel
theorem dX6_unsay_13 : decode cX6_unsay 13 = .ok (.ireturn, 1) := by decide +kernel
theorem dX6_unsay_14 : decode cX6_unsay 14 = .ok (.aload_n 0, 1) := by decide +kernel
theorem dX6_unsay_15 : decode cX6_unsay 15 = .ok (.getfield 26, 3) := by decide +kernel
theorem dX6_unsay_18 : decode cX6_unsay 18 = .ok (.iload_n 1, 1) := by decide +kernel
theorem dX6_unsay_19 : decode cX6_unsay 19 = .ok (.invokevirtual 102, 3) := by decide +kernel
theorem dX6_unsay_22 : decode cX6_unsay 22 = .ok (.iconst 1, 1) := by decide +kernel
theorem dX6_unsay_23 : decode cX6_unsay 23 = .ok (.ireturn, 1) := by decide +kernel
theorem hd_yX6_unsay : (yX6_unsay).cls ≠ "java/lang/invoke/MethodHandle" ∧ (yX6_unsay).cls ≠ "java/lang/invoke/VarHandle" ∧ (parseMethodDescriptor (yX6_unsay).desc).map (fun d => d.parameters.length) = some 1 := ⟨by decide, by decide, by decide +kernel⟩
def f_X6_unsay (p0 : Int32) (σ : ZS) : Option (Int32 × ZS) :=
  Option.bind (f_X3_has p0 σ) (fun q1 => (if q1 = 0 then some ((-2), σ) else Option.bind (f_X3_drop p0 σ) (fun q2 => some (1, q2))))
set_option maxHeartbeats 4000000 in
set_option maxRecDepth 100000 in
theorem c_X6_unsay (l : Launch) (D : va_G) (A : Nat → Prop) (a : Nat → Nat) (x : ClassId × ClassId × ClassId) (σ : ZS) (p0 : Int32) (r : (Int32 × ZS)) (h : f_X6_unsay p0 σ = some r) : zM l yX6_unsay w_yX6_unsay ({ frames := 3, cells := 0, slots := 0, locals := 64 } : Room) D A (tyz x) [.ref (a 0), .int p0] (wC a x σ) (some (.int r.1)) (wC a x r.2) := by
  refine z_start [.ref (a 0), .int p0] (lv := [(0, .ref (a 0)), (1, .int p0)]) (by decide) (Nat.le_of_ble_eq_true rfl) rfl ?_
  intro p e s m args below meth c C hr hlk
  unfold f_X6_unsay at h
  refine z_aload_n C 0 rfl dX6_unsay_0 ?_
  refine z_get C iRX6 0 gC_0 rfl 2 (by decide) fl_RX6_26 rfl dX6_unsay_1 ?_
  refine z_iload_n C 1 rfl dX6_unsay_4 ?_
  obtain ⟨q1, hq1, h⟩ := bd_spec h
  refine z_callV1 C [.int p0] [] (v := (.int q1)) rfl (c_X3_has l D A a x σ p0 q1 hq1) cd_yX3_has in_RX3 ml_RX6_101 im_yX3_has sl_yX3_has gC_3 rfl hd_yX3_has ⟨⟨Nat.le_of_ble_eq_true rfl, Nat.le_of_ble_eq_true rfl⟩, rfl, rfl⟩ rfl (Nat.le_of_ble_eq_true rfl) ⟨Nat.zero_le _, Nat.zero_le _⟩ dX6_unsay_5 ?_
  refine z_if_ne C 14 (by decide) dX6_unsay_8 h (fun h => ?_) (fun h => ?_)
  · refine z_aload_n C 0 rfl dX6_unsay_14 ?_
    refine z_get C iRX6 0 gC_0 rfl 2 (by decide) fl_RX6_26 rfl dX6_unsay_15 ?_
    refine z_iload_n C 1 rfl dX6_unsay_18 ?_
    obtain ⟨q2, hq2, h⟩ := bd_spec h
    refine z_callV0 C [.int p0] [] rfl (c_X3_drop l D A a x σ p0 q2 hq2) cd_yX3_drop in_RX3 ml_RX6_102 im_yX3_drop sl_yX3_drop gC_3 rfl hd_yX3_drop ⟨⟨Nat.le_of_ble_eq_true rfl, Nat.le_of_ble_eq_true rfl⟩, rfl, rfl⟩ rfl (Nat.le_of_ble_eq_true rfl) ⟨Nat.zero_le _, Nat.zero_le _⟩ dX6_unsay_19 ?_
    refine z_iconst C (v := 1) dX6_unsay_22 (by decide) ?_
    cases h
    exact z_iret C hr hlk dX6_unsay_23
  · refine z_bipush C (v := (-2)) dX6_unsay_11 (by decide) ?_
    cases h
    exact z_iret C hr hlk dX6_unsay_13
theorem dX6_set_0 : decode cX6_set 0 = .ok (.iload_n 1, 1) := by decide +kernel
theorem dX6_set_1 : decode cX6_set 1 = .ok (.ifCond .eq 8, 3) := by decide +kernel
theorem dX6_set_4 : decode cX6_set 4 = .ok (.iload_n 1, 1) := by decide +kernel
theorem dX6_set_5 : decode cX6_set 5 = .ok (.iconst 1, 1) := by decide +kernel
theorem dX6_set_6 : decode cX6_set 6 = .ok (.if_icmp .ne 14, 3) := by decide +kernel
theorem dX6_set_9 : decode cX6_set 9 = .ok (.aload_n 0, 1) := by decide +kernel
theorem dX6_set_10 : decode cX6_set 10 = .ok (.getfield 12, 3) := by decide +kernel
theorem dX6_set_13 : decode cX6_set 13 = .ok (.iload_n 2, 1) := by decide +kernel
theorem dX6_set_14 : decode cX6_set 14 = .ok (.invokevirtual 56, 3) := by decide +kernel
theorem dX6_set_17 : decode cX6_set 17 = .ok (.ifCond .ne 6, 3) := by decide +kernel
theorem dX6_set_20 : decode cX6_set 20 = .ok (.bipush (-2), 2) := by decide +kernel
theorem dX6_set_22 : decode cX6_set 22 = .ok (.ireturn, 1) := by decide +kernel
theorem dX6_set_23 : decode cX6_set 23 = .ok (.iload_n 1, 1) := by decide +kernel
theorem dX6_set_24 : decode cX6_set 24 = .ok (.ifCond .ne 15, 3) := by decide +kernel
theorem dX6_set_27 : decode cX6_set 27 = .ok (.aload_n 0, 1) := by decide +kernel
theorem dX6_set_28 : decode cX6_set 28 = .ok (.getfield 12, 3) := by decide +kernel
theorem dX6_set_31 : decode cX6_set 31 = .ok (.iload_n 2, 1) := by decide +kernel
theorem dX6_set_32 : decode cX6_set 32 = .ok (.iload_n 3, 1) := by decide +kernel
theorem dX6_set_33 : decode cX6_set 33 = .ok (.invokevirtual 106, 3) := by decide +kernel
theorem dX6_set_36 : decode cX6_set 36 = .ok (.goto 12, 3) := by decide +kernel
theorem dX6_set_39 : decode cX6_set 39 = .ok (.aload_n 0, 1) := by decide +kernel
theorem dX6_set_40 : decode cX6_set 40 = .ok (.getfield 12, 3) := by decide +kernel
theorem dX6_set_43 : decode cX6_set 43 = .ok (.iload_n 2, 1) := by decide +kernel
theorem dX6_set_44 : decode cX6_set 44 = .ok (.iload_n 3, 1) := by decide +kernel
theorem dX6_set_45 : decode cX6_set 45 = .ok (.invokevirtual 110, 3) := by decide +kernel
theorem dX6_set_48 : decode cX6_set 48 = .ok (.ireturn, 1) := by decide +kernel
theorem hd_yX6_set : (yX6_set).cls ≠ "java/lang/invoke/MethodHandle" ∧ (yX6_set).cls ≠ "java/lang/invoke/VarHandle" ∧ (parseMethodDescriptor (yX6_set).desc).map (fun d => d.parameters.length) = some 3 := ⟨by decide, by decide, by decide +kernel⟩
def f_X6_set_J9 (l1 : Int32) (l2 : Int32) (l3 : Int32) (σ : ZS) : Option (Int32 × ZS) :=
  Option.bind (f_X1_has l2 σ) (fun q1 => (if q1 = 0 then some ((-2), σ) else (if l1 = 0 then Option.bind (f_X1_turnLeak l2 l3 σ) (fun q2 => some (q2.1, q2.2)) else Option.bind (f_X1_turnRefusal l2 l3 σ) (fun q3 => some (q3.1, q3.2)))))
def f_X6_set (p0 : Int32) (p1 : Int32) (p2 : Int32) (σ : ZS) : Option (Int32 × ZS) :=
  (if p0 = 0 then f_X6_set_J9 p0 p1 p2 σ else (if p0 = 1 then f_X6_set_J9 p0 p1 p2 σ else some ((-2), σ)))
set_option maxHeartbeats 4000000 in
set_option maxRecDepth 100000 in
theorem c_X6_set (l : Launch) (D : va_G) (A : Nat → Prop) (a : Nat → Nat) (x : ClassId × ClassId × ClassId) (σ : ZS) (p0 : Int32) (p1 : Int32) (p2 : Int32) (r : (Int32 × ZS)) (h : f_X6_set p0 p1 p2 σ = some r) : zM l yX6_set w_yX6_set ({ frames := 2, cells := 0, slots := 0, locals := 44 } : Room) D A (tyz x) [.ref (a 0), .int p0, .int p1, .int p2] (wC a x σ) (some (.int r.1)) (wC a x r.2) := by
  refine z_start [.ref (a 0), .int p0, .int p1, .int p2] (lv := [(0, .ref (a 0)), (1, .int p0), (2, .int p1), (3, .int p2)]) (by decide) (Nat.le_of_ble_eq_true rfl) rfl ?_
  intro p e s m args below meth c C hr hlk
  have J9 : ∀ (σ_9 : ZS), f_X6_set_J9 p0 p1 p2 σ_9 = some r → zV p l e ({ frames := 2, cells := 0, slots := 0, locals := 44 } : Room) s m args below meth c 0 0 (MQ below (zQ D A (some (.int r.1)) (wC a x r.2)) args s 0 0 A) D A 4 (wC a x σ_9) 9 [(0, .ref (a 0)), (1, .int p0), (2, .int p1), (3, .int p2)] [] := by
    intro σ_9 h
    unfold f_X6_set_J9 at h
    refine z_aload_n C 0 rfl dX6_set_9 ?_
    refine z_get C iRX6 0 gC_0 rfl 0 (by decide) fl_RX6_12 rfl dX6_set_10 ?_
    refine z_iload_n C 2 rfl dX6_set_13 ?_
    obtain ⟨q1, hq1, h⟩ := bd_spec h
    refine z_callV1 C [.int p1] [] (v := (.int q1)) rfl (c_X1_has l D A a x σ_9 p1 q1 hq1) cd_yX1_has in_RX1 ml_RX6_56 im_yX1_has sl_yX1_has gC_1 rfl hd_yX1_has ⟨⟨Nat.le_of_ble_eq_true rfl, Nat.le_of_ble_eq_true rfl⟩, rfl, rfl⟩ rfl (Nat.le_of_ble_eq_true rfl) ⟨Nat.zero_le _, Nat.zero_le _⟩ dX6_set_14 ?_
    refine z_if_ne C 23 (by decide) dX6_set_17 h (fun h => ?_) (fun h => ?_)
    · refine z_iload_n C 1 rfl dX6_set_23 ?_
      refine z_if_ne C 39 (by decide) dX6_set_24 h (fun h => ?_) (fun h => ?_)
      · refine z_aload_n C 0 rfl dX6_set_39 ?_
        refine z_get C iRX6 0 gC_0 rfl 0 (by decide) fl_RX6_12 rfl dX6_set_40 ?_
        refine z_iload_n C 2 rfl dX6_set_43 ?_
        refine z_iload_n C 3 rfl dX6_set_44 ?_
        obtain ⟨q2, hq2, h⟩ := bd_spec h
        refine z_callV1 C [.int p1, .int p2] [] (v := (.int q2.1)) rfl (c_X1_turnRefusal l D A a x σ_9 p1 p2 q2 hq2) cd_yX1_turnRefusal in_RX1 ml_RX6_110 im_yX1_turnRefusal sl_yX1_turnRefusal gC_1 rfl hd_yX1_turnRefusal ⟨⟨Nat.le_of_ble_eq_true rfl, Nat.le_of_ble_eq_true rfl⟩, rfl, rfl⟩ rfl (Nat.le_of_ble_eq_true rfl) ⟨Nat.zero_le _, Nat.zero_le _⟩ dX6_set_45 ?_
        cases h
        exact z_iret C hr hlk dX6_set_48
      · refine z_aload_n C 0 rfl dX6_set_27 ?_
        refine z_get C iRX6 0 gC_0 rfl 0 (by decide) fl_RX6_12 rfl dX6_set_28 ?_
        refine z_iload_n C 2 rfl dX6_set_31 ?_
        refine z_iload_n C 3 rfl dX6_set_32 ?_
        obtain ⟨q3, hq3, h⟩ := bd_spec h
        refine z_callV1 C [.int p1, .int p2] [] (v := (.int q3.1)) rfl (c_X1_turnLeak l D A a x σ_9 p1 p2 q3 hq3) cd_yX1_turnLeak in_RX1 ml_RX6_106 im_yX1_turnLeak sl_yX1_turnLeak gC_1 rfl hd_yX1_turnLeak ⟨⟨Nat.le_of_ble_eq_true rfl, Nat.le_of_ble_eq_true rfl⟩, rfl, rfl⟩ rfl (Nat.le_of_ble_eq_true rfl) ⟨Nat.zero_le _, Nat.zero_le _⟩ dX6_set_33 ?_
        refine z_goto C 48 (by decide) dX6_set_36 ?_
        cases h
        exact z_iret C hr hlk dX6_set_48
    · refine z_bipush C (v := (-2)) dX6_set_20 (by decide) ?_
      cases h
      exact z_iret C hr hlk dX6_set_22
  unfold f_X6_set at h
  refine z_iload_n C 1 rfl dX6_set_0 ?_
  refine z_if_eq C 9 (by decide) dX6_set_1 h (fun h => ?_) (fun h => ?_)
  · exact J9 _ h
  · refine z_iload_n C 1 rfl dX6_set_4 ?_
    refine z_iconst C (v := 1) dX6_set_5 (by decide) ?_
    refine z_icmp_ne C 20 (by decide) dX6_set_6 h (fun h => ?_) (fun h => ?_)
    · refine z_bipush C (v := (-2)) dX6_set_20 (by decide) ?_
      cases h
      exact z_iret C hr hlk dX6_set_22
    · exact J9 _ h
theorem dX6_refusal_0 : decode cX6_refusal 0 = .ok (.iload_n 1, 1) := by decide +kernel
theorem dX6_refusal_1 : decode cX6_refusal 1 = .ok (.bipush (-2), 2) := by decide +kernel
theorem dX6_refusal_3 : decode cX6_refusal 3 = .ok (.if_icmp .ne 6, 3) := by decide +kernel
theorem dX6_refusal_6 : decode cX6_refusal 6 = .ok (.bipush (-2), 2) := by decide +kernel
theorem dX6_refusal_8 : decode cX6_refusal 8 = .ok (.ireturn, 1) := by decide +kernel
theorem dX6_refusal_9 : decode cX6_refusal 9 = .ok (.aload_n 0, 1) := by decide +kernel
theorem dX6_refusal_10 : decode cX6_refusal 10 = .ok (.getfield 26, 3) := by decide +kernel
theorem dX6_refusal_13 : decode cX6_refusal 13 = .ok (.iload_n 1, 1) := by decide +kernel
theorem dX6_refusal_14 : decode cX6_refusal 14 = .ok (.invokevirtual 92, 3) := by decide +kernel
theorem dX6_refusal_17 : decode cX6_refusal 17 = .ok (.ifCond .ne 8, 3) := by decide +kernel
theorem dX6_refusal_20 : decode cX6_refusal 20 = .ok (.bipush (-5), 2) := by decide +kernel
theorem dX6_refusal_22 : decode cX6_refusal 22 = .ok (.goto 4, 3) := by decide +kernel
theorem dX6_refusal_25 : decode cX6_refusal 25 = .ok (.iconst 0, 1) := by decide +kernel
theorem dX6_refusal_26 : decode cX6_refusal 26 = .ok (.ireturn, 1) := by decide +kernel
theorem hd_yX6_refusal : (yX6_refusal).cls ≠ "java/lang/invoke/MethodHandle" ∧ (yX6_refusal).cls ≠ "java/lang/invoke/VarHandle" ∧ (parseMethodDescriptor (yX6_refusal).desc).map (fun d => d.parameters.length) = some 1 := ⟨by decide, by decide, by decide +kernel⟩
def f_X6_refusal (p0 : Int32) (σ : ZS) : Option Int32 :=
  (if p0 = (-2) then some (-2) else Option.bind (f_X3_sayers p0 σ) (fun q1 => (if q1 = 0 then some (-5) else some 0)))
set_option maxHeartbeats 4000000 in
set_option maxRecDepth 100000 in
theorem c_X6_refusal (l : Launch) (D : va_G) (A : Nat → Prop) (a : Nat → Nat) (x : ClassId × ClassId × ClassId) (σ : ZS) (p0 : Int32) (r : Int32) (h : f_X6_refusal p0 σ = some r) : zM l yX6_refusal w_yX6_refusal ({ frames := 2, cells := 0, slots := 0, locals := 41 } : Room) D A (tyz x) [.ref (a 0), .int p0] (wC a x σ) (some (.int r)) (wC a x σ) := by
  refine z_start [.ref (a 0), .int p0] (lv := [(0, .ref (a 0)), (1, .int p0)]) (by decide) (Nat.le_of_ble_eq_true rfl) rfl ?_
  intro p e s m args below meth c C hr hlk
  unfold f_X6_refusal at h
  refine z_iload_n C 1 rfl dX6_refusal_0 ?_
  refine z_bipush C (v := (-2)) dX6_refusal_1 (by decide) ?_
  refine z_icmp_ne C 9 (by decide) dX6_refusal_3 h (fun h => ?_) (fun h => ?_)
  · refine z_aload_n C 0 rfl dX6_refusal_9 ?_
    refine z_get C iRX6 0 gC_0 rfl 2 (by decide) fl_RX6_26 rfl dX6_refusal_10 ?_
    refine z_iload_n C 1 rfl dX6_refusal_13 ?_
    obtain ⟨q1, hq1, h⟩ := bd_spec h
    refine z_callV1 C [.int p0] [] (v := (.int q1)) rfl (c_X3_sayers l D A a x σ p0 q1 hq1) cd_yX3_sayers in_RX3 ml_RX6_92 im_yX3_sayers sl_yX3_sayers gC_3 rfl hd_yX3_sayers ⟨⟨Nat.le_of_ble_eq_true rfl, Nat.le_of_ble_eq_true rfl⟩, rfl, rfl⟩ rfl (Nat.le_of_ble_eq_true rfl) ⟨Nat.zero_le _, Nat.zero_le _⟩ dX6_refusal_14 ?_
    refine z_if_ne C 25 (by decide) dX6_refusal_17 h (fun h => ?_) (fun h => ?_)
    · refine z_iconst C (v := 0) dX6_refusal_25 (by decide) ?_
      cases h
      exact z_iret C hr hlk dX6_refusal_26
    · refine z_bipush C (v := (-5)) dX6_refusal_20 (by decide) ?_
      refine z_goto C 26 (by decide) dX6_refusal_22 ?_
      cases h
      exact z_iret C hr hlk dX6_refusal_26
  · refine z_bipush C (v := (-2)) dX6_refusal_6 (by decide) ?_
    cases h
    exact z_iret C hr hlk dX6_refusal_8
theorem dX6_rounds_0 : decode cX6_rounds 0 = .ok (.iload_n 1, 1) := by decide +kernel
theorem dX6_rounds_1 : decode cX6_rounds 1 = .ok (.iload_n 2, 1) := by decide +kernel
theorem dX6_rounds_2 : decode cX6_rounds 2 = .ok (.invokestatic 76, 3) := by decide +kernel
theorem dX6_rounds_5 : decode cX6_rounds 5 = .ok (.istore_n 3, 1) := by decide +kernel
theorem dX6_rounds_6 : decode cX6_rounds 6 = .ok (.aload_n 0, 1) := by decide +kernel
theorem dX6_rounds_7 : decode cX6_rounds 7 = .ok (.iload_n 3, 1) := by decide +kernel
theorem dX6_rounds_8 : decode cX6_rounds 8 = .ok (.invokevirtual 113, 3) := by decide +kernel
theorem dX6_rounds_11 : decode cX6_rounds 11 = .ok (.istore 4, 2) := by decide +kernel
theorem dX6_rounds_13 : decode cX6_rounds 13 = .ok (.iload 4, 2) := by decide +kernel
theorem dX6_rounds_15 : decode cX6_rounds 15 = .ok (.ifCond .eq 6, 3) := by decide +kernel
theorem dX6_rounds_18 : decode cX6_rounds 18 = .ok (.iload 4, 2) := by decide +kernel
theorem dX6_rounds_20 : decode cX6_rounds 20 = .ok (.ireturn, 1) := by decide +kernel
theorem dX6_rounds_21 : decode cX6_rounds 21 = .ok (.aload_n 0, 1) := by decide +kernel
theorem dX6_rounds_22 : decode cX6_rounds 22 = .ok (.getfield 35, 3) := by decide +kernel
theorem dX6_rounds_25 : decode cX6_rounds 25 = .ok (.iload_n 3, 1) := by decide +kernel
theorem dX6_rounds_26 : decode cX6_rounds 26 = .ok (.aload_n 0, 1) := by decide +kernel
theorem dX6_rounds_27 : decode cX6_rounds 27 = .ok (.getfield 12, 3) := by decide +kernel
theorem dX6_rounds_30 : decode cX6_rounds 30 = .ok (.invokevirtual 116, 3) := by decide +kernel
theorem dX6_rounds_33 : decode cX6_rounds 33 = .ok (.invokevirtual 119, 3) := by decide +kernel
theorem dX6_rounds_36 : decode cX6_rounds 36 = .ok (.aload_n 0, 1) := by decide +kernel
theorem dX6_rounds_37 : decode cX6_rounds 37 = .ok (.getfield 35, 3) := by decide +kernel
theorem dX6_rounds_40 : decode cX6_rounds 40 = .ok (.invokevirtual 122, 3) := by decide +kernel
theorem dX6_rounds_43 : decode cX6_rounds 43 = .ok (.ireturn, 1) := by decide +kernel
theorem hd_yX6_rounds : (yX6_rounds).cls ≠ "java/lang/invoke/MethodHandle" ∧ (yX6_rounds).cls ≠ "java/lang/invoke/VarHandle" ∧ (parseMethodDescriptor (yX6_rounds).desc).map (fun d => d.parameters.length) = some 2 := ⟨by decide, by decide, by decide +kernel⟩
def f_X6_rounds (p0 : Int32) (p1 : Int32) (σ : ZS) : Option (Int32 × ZS) :=
  Option.bind (f_X6_blockNumber p0 p1) (fun q1 => Option.bind (f_X6_refusal q1 σ) (fun q2 => (if q2 = 0 then Option.bind (f_X1_refusing σ) (fun q3 => Option.bind (f_X4_settle q1 q3 σ) (fun q4 => Option.bind (f_X4_changing q4) (fun q5 => some (q5, q4)))) else some (q2, σ))))
set_option maxHeartbeats 4000000 in
set_option maxRecDepth 100000 in
theorem c_X6_rounds (l : Launch) (D : va_G) (A : Nat → Prop) (a : Nat → Nat) (x : ClassId × ClassId × ClassId) (σ : ZS) (p0 : Int32) (p1 : Int32) (r : (Int32 × ZS)) (h : f_X6_rounds p0 p1 σ = some r) : zM l yX6_rounds w_yX6_rounds ({ frames := 4, cells := 0, slots := 0, locals := 107 } : Room) D A (tyz x) [.ref (a 0), .int p0, .int p1] (wC a x σ) (some (.int r.1)) (wC a x r.2) := by
  refine z_start [.ref (a 0), .int p0, .int p1] (lv := [(0, .ref (a 0)), (1, .int p0), (2, .int p1)]) (by decide) (Nat.le_of_ble_eq_true rfl) rfl ?_
  intro p e s m args below meth c C hr hlk
  unfold f_X6_rounds at h
  refine z_iload_n C 1 rfl dX6_rounds_0 ?_
  refine z_iload_n C 2 rfl dX6_rounds_1 ?_
  obtain ⟨q1, hq1, h⟩ := bd_spec h
  refine z_callS1 C [.int p0, .int p1] [] (v := .int q1) rfl (c_X6_blockNumber l D A (tyz x) (wC a x σ) p0 p1 q1 hq1) cd_yX6_blockNumber in_RX6 ml_RX6_76 sm_yX6_blockNumber hd_yX6_blockNumber ⟨⟨Nat.le_of_ble_eq_true rfl, Nat.le_of_ble_eq_true rfl⟩, rfl, rfl⟩ rfl (Nat.le_of_ble_eq_true rfl) ⟨Nat.zero_le _, Nat.zero_le _⟩ dX6_rounds_2 ?_
  refine z_istore_n C [(3, .int q1), (0, .ref (a 0)), (1, .int p0), (2, .int p1)] rfl (by decide) rfl dX6_rounds_5 ?_
  refine z_aload_n C 1 rfl dX6_rounds_6 ?_
  refine z_iload_n C 0 rfl dX6_rounds_7 ?_
  obtain ⟨q2, hq2, h⟩ := bd_spec h
  refine z_callV1 C [.int q1] [] (v := (.int q2)) rfl (c_X6_refusal l D A a x σ q1 q2 hq2) cd_yX6_refusal in_RX6 ml_RX6_113 im_yX6_refusal sl_yX6_refusal gC_0 rfl hd_yX6_refusal ⟨⟨Nat.le_of_ble_eq_true rfl, Nat.le_of_ble_eq_true rfl⟩, rfl, rfl⟩ rfl (Nat.le_of_ble_eq_true rfl) ⟨Nat.zero_le _, Nat.zero_le _⟩ dX6_rounds_8 ?_
  refine z_istore C [(4, .int q2), (3, .int q1), (0, .ref (a 0)), (1, .int p0), (2, .int p1)] (by decide) rfl dX6_rounds_11 ?_
  refine z_iload C 0 rfl dX6_rounds_13 ?_
  refine z_if_eq C 21 (by decide) dX6_rounds_15 h (fun h => ?_) (fun h => ?_)
  · refine z_aload_n C 2 rfl dX6_rounds_21 ?_
    refine z_get C iRX6 0 gC_0 rfl 3 (by decide) fl_RX6_35 rfl dX6_rounds_22 ?_
    refine z_iload_n C 1 rfl dX6_rounds_25 ?_
    refine z_aload_n C 2 rfl dX6_rounds_26 ?_
    refine z_get C iRX6 0 gC_0 rfl 0 (by decide) fl_RX6_12 rfl dX6_rounds_27 ?_
    obtain ⟨q3, hq3, h⟩ := bd_spec h
    refine z_callV1 C [] [.int q1, .ref (a 4)] (v := (.int q3)) rfl (c_X1_refusing l D A a x σ  q3 hq3) cd_yX1_refusing in_RX1 ml_RX6_116 im_yX1_refusing sl_yX1_refusing gC_1 rfl hd_yX1_refusing ⟨⟨Nat.le_of_ble_eq_true rfl, Nat.le_of_ble_eq_true rfl⟩, rfl, rfl⟩ rfl (Nat.le_of_ble_eq_true rfl) ⟨Nat.zero_le _, Nat.zero_le _⟩ dX6_rounds_30 ?_
    obtain ⟨q4, hq4, h⟩ := bd_spec h
    refine z_callV0 C [.int q1, .int q3] [] rfl (c_X4_settle l D A a x σ q1 q3 q4 hq4) cd_yX4_settle in_RX4 ml_RX6_119 im_yX4_settle sl_yX4_settle gC_4 rfl hd_yX4_settle ⟨⟨Nat.le_of_ble_eq_true rfl, Nat.le_of_ble_eq_true rfl⟩, rfl, rfl⟩ rfl (Nat.le_of_ble_eq_true rfl) ⟨Nat.zero_le _, Nat.zero_le _⟩ dX6_rounds_33 ?_
    refine z_aload_n C 2 rfl dX6_rounds_36 ?_
    refine z_get C iRX6 0 gC_0 rfl 3 (by decide) fl_RX6_35 rfl dX6_rounds_37 ?_
    obtain ⟨q5, hq5, h⟩ := bd_spec h
    refine z_callV1 C [] [] (v := (.int q5)) rfl (c_X4_changing l D A a x q4  q5 hq5) cd_yX4_changing in_RX4 ml_RX6_122 im_yX4_changing sl_yX4_changing gC_4 rfl hd_yX4_changing ⟨⟨Nat.le_of_ble_eq_true rfl, Nat.le_of_ble_eq_true rfl⟩, rfl, rfl⟩ rfl (Nat.le_of_ble_eq_true rfl) ⟨Nat.zero_le _, Nat.zero_le _⟩ dX6_rounds_40 ?_
    cases h
    exact z_iret C hr hlk dX6_rounds_43
  · refine z_iload C 0 rfl dX6_rounds_18 ?_
    cases h
    exact z_iret C hr hlk dX6_rounds_20
theorem dX6_restless_0 : decode cX6_restless 0 = .ok (.aload_n 0, 1) := by decide +kernel
theorem dX6_restless_1 : decode cX6_restless 1 = .ok (.iload_n 1, 1) := by decide +kernel
theorem dX6_restless_2 : decode cX6_restless 2 = .ok (.iload_n 2, 1) := by decide +kernel
theorem dX6_restless_3 : decode cX6_restless 3 = .ok (.invokevirtual 125, 3) := by decide +kernel
theorem dX6_restless_6 : decode cX6_restless 6 = .ok (.istore_n 3, 1) := by decide +kernel
theorem dX6_restless_7 : decode cX6_restless 7 = .ok (.iload_n 3, 1) := by decide +kernel
theorem dX6_restless_8 : decode cX6_restless 8 = .ok (.ifCond .ge 5, 3) := by decide +kernel
theorem dX6_restless_11 : decode cX6_restless 11 = .ok (.iload_n 3, 1) := by decide +kernel
theorem dX6_restless_12 : decode cX6_restless 12 = .ok (.ireturn, 1) := by decide +kernel
theorem dX6_restless_13 : decode cX6_restless 13 = .ok (.iload_n 3, 1) := by decide +kernel
theorem dX6_restless_14 : decode cX6_restless 14 = .ok (.bipush 50, 2) := by decide +kernel
theorem dX6_restless_16 : decode cX6_restless 16 = .ok (.if_icmp .ne 7, 3) := by decide +kernel
theorem dX6_restless_19 : decode cX6_restless 19 = .ok (.iconst 1, 1) := by decide +kernel
theorem dX6_restless_20 : decode cX6_restless 20 = .ok (.goto 4, 3) := by decide +kernel
theorem dX6_restless_23 : decode cX6_restless 23 = .ok (.iconst 0, 1) := by decide +kernel
theorem dX6_restless_24 : decode cX6_restless 24 = .ok (.ireturn, 1) := by decide +kernel
theorem hd_yX6_restless : (yX6_restless).cls ≠ "java/lang/invoke/MethodHandle" ∧ (yX6_restless).cls ≠ "java/lang/invoke/VarHandle" ∧ (parseMethodDescriptor (yX6_restless).desc).map (fun d => d.parameters.length) = some 2 := ⟨by decide, by decide, by decide +kernel⟩
def f_X6_restless (p0 : Int32) (p1 : Int32) (σ : ZS) : Option (Int32 × ZS) :=
  Option.bind (f_X6_rounds p0 p1 σ) (fun q1 => (if 0 ≤ q1.1 then (if q1.1 = 50 then some (1, q1.2) else some (0, q1.2)) else some (q1.1, q1.2)))
set_option maxHeartbeats 4000000 in
set_option maxRecDepth 100000 in
theorem c_X6_restless (l : Launch) (D : va_G) (A : Nat → Prop) (a : Nat → Nat) (x : ClassId × ClassId × ClassId) (σ : ZS) (p0 : Int32) (p1 : Int32) (r : (Int32 × ZS)) (h : f_X6_restless p0 p1 σ = some r) : zM l yX6_restless w_yX6_restless ({ frames := 5, cells := 0, slots := 0, locals := 131 } : Room) D A (tyz x) [.ref (a 0), .int p0, .int p1] (wC a x σ) (some (.int r.1)) (wC a x r.2) := by
  refine z_start [.ref (a 0), .int p0, .int p1] (lv := [(0, .ref (a 0)), (1, .int p0), (2, .int p1)]) (by decide) (Nat.le_of_ble_eq_true rfl) rfl ?_
  intro p e s m args below meth c C hr hlk
  unfold f_X6_restless at h
  refine z_aload_n C 0 rfl dX6_restless_0 ?_
  refine z_iload_n C 1 rfl dX6_restless_1 ?_
  refine z_iload_n C 2 rfl dX6_restless_2 ?_
  obtain ⟨q1, hq1, h⟩ := bd_spec h
  refine z_callV1 C [.int p0, .int p1] [] (v := (.int q1.1)) rfl (c_X6_rounds l D A a x σ p0 p1 q1 hq1) cd_yX6_rounds in_RX6 ml_RX6_125 im_yX6_rounds sl_yX6_rounds gC_0 rfl hd_yX6_rounds ⟨⟨Nat.le_of_ble_eq_true rfl, Nat.le_of_ble_eq_true rfl⟩, rfl, rfl⟩ rfl (Nat.le_of_ble_eq_true rfl) ⟨Nat.zero_le _, Nat.zero_le _⟩ dX6_restless_3 ?_
  refine z_istore_n C [(3, .int q1.1), (0, .ref (a 0)), (1, .int p0), (2, .int p1)] rfl (by decide) rfl dX6_restless_6 ?_
  refine z_iload_n C 0 rfl dX6_restless_7 ?_
  refine z_if_ge C 13 (by decide) dX6_restless_8 h (fun h => ?_) (fun h => ?_)
  · refine z_iload_n C 0 rfl dX6_restless_13 ?_
    refine z_bipush C (v := 50) dX6_restless_14 (by decide) ?_
    refine z_icmp_ne C 23 (by decide) dX6_restless_16 h (fun h => ?_) (fun h => ?_)
    · refine z_iconst C (v := 0) dX6_restless_23 (by decide) ?_
      cases h
      exact z_iret C hr hlk dX6_restless_24
    · refine z_iconst C (v := 1) dX6_restless_19 (by decide) ?_
      refine z_goto C 24 (by decide) dX6_restless_20 ?_
      cases h
      exact z_iret C hr hlk dX6_restless_24
  · refine z_iload_n C 0 rfl dX6_restless_11 ?_
    cases h
    exact z_iret C hr hlk dX6_restless_12
theorem dX6_way_0 : decode cX6_way 0 = .ok (.iload_n 1, 1) := by decide +kernel
theorem dX6_way_1 : decode cX6_way 1 = .ok (.iload_n 2, 1) := by decide +kernel
theorem dX6_way_2 : decode cX6_way 2 = .ok (.invokestatic 76, 3) := by decide +kernel
theorem dX6_way_5 : decode cX6_way 5 = .ok (.istore 5, 2) := by decide +kernel
theorem dX6_way_7 : decode cX6_way 7 = .ok (.aload_n 0, 1) := by decide +kernel
theorem dX6_way_8 : decode cX6_way 8 = .ok (.getfield 12, 3) := by decide +kernel
theorem dX6_way_11 : decode cX6_way 11 = .ok (.iload_n 3, 1) := by decide +kernel
theorem dX6_way_12 : decode cX6_way 12 = .ok (.invokevirtual 56, 3) := by decide +kernel
theorem dX6_way_15 : decode cX6_way 15 = .ok (.ifCond .eq 8, 3) := by decide +kernel
theorem dX6_way_18 : decode cX6_way 18 = .ok (.iload 4, 2) := by decide +kernel
theorem dX6_way_20 : decode cX6_way 20 = .ok (.ifCond .ge 6, 3) := by decide +kernel
theorem dX6_way_23 : decode cX6_way 23 = .ok (.bipush (-2), 2) := by decide +kernel
theorem dX6_way_25 : decode cX6_way 25 = .ok (.ireturn, 1) := by decide +kernel
theorem dX6_way_26 : decode cX6_way 26 = .ok (.aload_n 0, 1) := by decide +kernel
theorem dX6_way_27 : decode cX6_way 27 = .ok (.iload 5, 2) := by decide +kernel
theorem dX6_way_29 : decode cX6_way 29 = .ok (.invokevirtual 113, 3) := by decide +kernel
theorem dX6_way_32 : decode cX6_way 32 = .ok (.istore 6, 2) := by decide +kernel
theorem dX6_way_34 : decode cX6_way 34 = .ok (.iload 6, 2) := by decide +kernel
theorem dX6_way_36 : decode cX6_way 36 = .ok (.ifCond .eq 6, 3) := by decide +kernel
theorem dX6_way_39 : decode cX6_way 39 = .ok (.iload 6, 2) := by decide +kernel
theorem dX6_way_41 : decode cX6_way 41 = .ok (.ireturn, 1) := by decide +kernel
theorem dX6_way_42 : decode cX6_way 42 = .ok (.aload_n 0, 1) := by decide +kernel
theorem dX6_way_43 : decode cX6_way 43 = .ok (.getfield 35, 3) := by decide +kernel
theorem dX6_way_46 : decode cX6_way 46 = .ok (.iload 5, 2) := by decide +kernel
theorem dX6_way_48 : decode cX6_way 48 = .ok (.aload_n 0, 1) := by decide +kernel
theorem dX6_way_49 : decode cX6_way 49 = .ok (.getfield 12, 3) := by decide +kernel
theorem dX6_way_52 : decode cX6_way 52 = .ok (.invokevirtual 116, 3) := by decide +kernel
theorem dX6_way_55 : decode cX6_way 55 = .ok (.invokevirtual 119, 3) := by decide +kernel
theorem dX6_way_58 : decode cX6_way 58 = .ok (.aload_n 0, 1) := by decide +kernel
theorem dX6_way_59 : decode cX6_way 59 = .ok (.getfield 35, 3) := by decide +kernel
theorem dX6_way_62 : decode cX6_way 62 = .ok (.invokevirtual 128, 3) := by decide +kernel
theorem dX6_way_65 : decode cX6_way 65 = .ok (.iload_n 3, 1) := by decide +kernel
theorem dX6_way_66 : decode cX6_way 66 = .ok (.iload 4, 2) := by decide +kernel
theorem dX6_way_68 : decode cX6_way 68 = .ok (.invokevirtual 132, 3) := by decide +kernel
theorem dX6_way_71 : decode cX6_way 71 = .ok (.ireturn, 1) := by decide +kernel
theorem hd_yX6_way : (yX6_way).cls ≠ "java/lang/invoke/MethodHandle" ∧ (yX6_way).cls ≠ "java/lang/invoke/VarHandle" ∧ (parseMethodDescriptor (yX6_way).desc).map (fun d => d.parameters.length) = some 4 := ⟨by decide, by decide, by decide +kernel⟩
def f_X6_way (p0 : Int32) (p1 : Int32) (p2 : Int32) (p3 : Int32) (σ : ZS) : Option (Int32 × ZS) :=
  Option.bind (f_X6_blockNumber p0 p1) (fun q1 => Option.bind (f_X1_has p2 σ) (fun q2 => (if q2 = 0 then some ((-2), σ) else (if 0 ≤ p3 then Option.bind (f_X6_refusal q1 σ) (fun q3 => (if q3 = 0 then Option.bind (f_X1_refusing σ) (fun q4 => Option.bind (f_X4_settle q1 q4 σ) (fun q5 => Option.bind (f_X5_at_n p2 p3 q5) (fun q7 => some (q7, q5)))) else some (q3, σ))) else some ((-2), σ)))))
set_option maxHeartbeats 4000000 in
set_option maxRecDepth 100000 in
theorem c_X6_way (l : Launch) (D : va_G) (A : Nat → Prop) (a : Nat → Nat) (x : ClassId × ClassId × ClassId) (σ : ZS) (p0 : Int32) (p1 : Int32) (p2 : Int32) (p3 : Int32) (r : (Int32 × ZS)) (h : f_X6_way p0 p1 p2 p3 σ = some r) : zM l yX6_way w_yX6_way ({ frames := 4, cells := 0, slots := 0, locals := 107 } : Room) D A (tyz x) [.ref (a 0), .int p0, .int p1, .int p2, .int p3] (wC a x σ) (some (.int r.1)) (wC a x r.2) := by
  refine z_start [.ref (a 0), .int p0, .int p1, .int p2, .int p3] (lv := [(0, .ref (a 0)), (1, .int p0), (2, .int p1), (3, .int p2), (4, .int p3)]) (by decide) (Nat.le_of_ble_eq_true rfl) rfl ?_
  intro p e s m args below meth c C hr hlk
  unfold f_X6_way at h
  refine z_iload_n C 1 rfl dX6_way_0 ?_
  refine z_iload_n C 2 rfl dX6_way_1 ?_
  obtain ⟨q1, hq1, h⟩ := bd_spec h
  refine z_callS1 C [.int p0, .int p1] [] (v := .int q1) rfl (c_X6_blockNumber l D A (tyz x) (wC a x σ) p0 p1 q1 hq1) cd_yX6_blockNumber in_RX6 ml_RX6_76 sm_yX6_blockNumber hd_yX6_blockNumber ⟨⟨Nat.le_of_ble_eq_true rfl, Nat.le_of_ble_eq_true rfl⟩, rfl, rfl⟩ rfl (Nat.le_of_ble_eq_true rfl) ⟨Nat.zero_le _, Nat.zero_le _⟩ dX6_way_2 ?_
  refine z_istore C [(5, .int q1), (0, .ref (a 0)), (1, .int p0), (2, .int p1), (3, .int p2), (4, .int p3)] (by decide) rfl dX6_way_5 ?_
  refine z_aload_n C 1 rfl dX6_way_7 ?_
  refine z_get C iRX6 0 gC_0 rfl 0 (by decide) fl_RX6_12 rfl dX6_way_8 ?_
  refine z_iload_n C 4 rfl dX6_way_11 ?_
  obtain ⟨q2, hq2, h⟩ := bd_spec h
  refine z_callV1 C [.int p2] [] (v := (.int q2)) rfl (c_X1_has l D A a x σ p2 q2 hq2) cd_yX1_has in_RX1 ml_RX6_56 im_yX1_has sl_yX1_has gC_1 rfl hd_yX1_has ⟨⟨Nat.le_of_ble_eq_true rfl, Nat.le_of_ble_eq_true rfl⟩, rfl, rfl⟩ rfl (Nat.le_of_ble_eq_true rfl) ⟨Nat.zero_le _, Nat.zero_le _⟩ dX6_way_12 ?_
  refine z_if_eq C 23 (by decide) dX6_way_15 h (fun h => ?_) (fun h => ?_)
  · refine z_bipush C (v := (-2)) dX6_way_23 (by decide) ?_
    cases h
    exact z_iret C hr hlk dX6_way_25
  · refine z_iload C 5 rfl dX6_way_18 ?_
    refine z_if_ge C 26 (by decide) dX6_way_20 h (fun h => ?_) (fun h => ?_)
    · refine z_aload_n C 1 rfl dX6_way_26 ?_
      refine z_iload C 0 rfl dX6_way_27 ?_
      obtain ⟨q3, hq3, h⟩ := bd_spec h
      refine z_callV1 C [.int q1] [] (v := (.int q3)) rfl (c_X6_refusal l D A a x σ q1 q3 hq3) cd_yX6_refusal in_RX6 ml_RX6_113 im_yX6_refusal sl_yX6_refusal gC_0 rfl hd_yX6_refusal ⟨⟨Nat.le_of_ble_eq_true rfl, Nat.le_of_ble_eq_true rfl⟩, rfl, rfl⟩ rfl (Nat.le_of_ble_eq_true rfl) ⟨Nat.zero_le _, Nat.zero_le _⟩ dX6_way_29 ?_
      refine z_istore C [(6, .int q3), (5, .int q1), (0, .ref (a 0)), (1, .int p0), (2, .int p1), (3, .int p2), (4, .int p3)] (by decide) rfl dX6_way_32 ?_
      refine z_iload C 0 rfl dX6_way_34 ?_
      refine z_if_eq C 42 (by decide) dX6_way_36 h (fun h => ?_) (fun h => ?_)
      · refine z_aload_n C 2 rfl dX6_way_42 ?_
        refine z_get C iRX6 0 gC_0 rfl 3 (by decide) fl_RX6_35 rfl dX6_way_43 ?_
        refine z_iload C 1 rfl dX6_way_46 ?_
        refine z_aload_n C 2 rfl dX6_way_48 ?_
        refine z_get C iRX6 0 gC_0 rfl 0 (by decide) fl_RX6_12 rfl dX6_way_49 ?_
        obtain ⟨q4, hq4, h⟩ := bd_spec h
        refine z_callV1 C [] [.int q1, .ref (a 4)] (v := (.int q4)) rfl (c_X1_refusing l D A a x σ  q4 hq4) cd_yX1_refusing in_RX1 ml_RX6_116 im_yX1_refusing sl_yX1_refusing gC_1 rfl hd_yX1_refusing ⟨⟨Nat.le_of_ble_eq_true rfl, Nat.le_of_ble_eq_true rfl⟩, rfl, rfl⟩ rfl (Nat.le_of_ble_eq_true rfl) ⟨Nat.zero_le _, Nat.zero_le _⟩ dX6_way_52 ?_
        obtain ⟨q5, hq5, h⟩ := bd_spec h
        refine z_callV0 C [.int q1, .int q4] [] rfl (c_X4_settle l D A a x σ q1 q4 q5 hq5) cd_yX4_settle in_RX4 ml_RX6_119 im_yX4_settle sl_yX4_settle gC_4 rfl hd_yX4_settle ⟨⟨Nat.le_of_ble_eq_true rfl, Nat.le_of_ble_eq_true rfl⟩, rfl, rfl⟩ rfl (Nat.le_of_ble_eq_true rfl) ⟨Nat.zero_le _, Nat.zero_le _⟩ dX6_way_55 ?_
        refine z_aload_n C 2 rfl dX6_way_58 ?_
        refine z_get C iRX6 0 gC_0 rfl 3 (by decide) fl_RX6_35 rfl dX6_way_59 ?_
        refine z_callV1 C [] [] (v := (.ref (a 12))) rfl (c_X4_ways l D A a x q5 () rfl) cd_yX4_ways in_RX4 ml_RX6_128 im_yX4_ways sl_yX4_ways gC_4 rfl hd_yX4_ways ⟨⟨Nat.le_of_ble_eq_true rfl, Nat.le_of_ble_eq_true rfl⟩, rfl, rfl⟩ rfl (Nat.le_of_ble_eq_true rfl) ⟨Nat.zero_le _, Nat.zero_le _⟩ dX6_way_62 ?_
        refine z_iload_n C 5 rfl dX6_way_65 ?_
        refine z_iload C 6 rfl dX6_way_66 ?_
        obtain ⟨q7, hq7, h⟩ := bd_spec h
        refine z_callV1 C [.int p2, .int p3] [] (v := (.int q7)) rfl (c_X5_at_n l D A a x q5 p2 p3 q7 hq7) cd_yX5_at in_RX5 ml_RX6_132 im_yX5_at sl_yX5_at gC_12 rfl hd_yX5_at ⟨⟨Nat.le_of_ble_eq_true rfl, Nat.le_of_ble_eq_true rfl⟩, rfl, rfl⟩ rfl (Nat.le_of_ble_eq_true rfl) ⟨Nat.zero_le _, Nat.zero_le _⟩ dX6_way_68 ?_
        cases h
        exact z_iret C hr hlk dX6_way_71
      · refine z_iload C 0 rfl dX6_way_39 ?_
        cases h
        exact z_iret C hr hlk dX6_way_41
    · refine z_bipush C (v := (-2)) dX6_way_23 (by decide) ?_
      cases h
      exact z_iret C hr hlk dX6_way_25
theorem dX6_broken_0 : decode cX6_broken 0 = .ok (.iload_n 1, 1) := by decide +kernel
theorem dX6_broken_1 : decode cX6_broken 1 = .ok (.iload_n 2, 1) := by decide +kernel
theorem dX6_broken_2 : decode cX6_broken 2 = .ok (.invokestatic 76, 3) := by decide +kernel
theorem dX6_broken_5 : decode cX6_broken 5 = .ok (.istore 4, 2) := by decide +kernel
theorem dX6_broken_7 : decode cX6_broken 7 = .ok (.aload_n 0, 1) := by decide +kernel
theorem dX6_broken_8 : decode cX6_broken 8 = .ok (.getfield 12, 3) := by decide +kernel
theorem dX6_broken_11 : decode cX6_broken 11 = .ok (.iload_n 3, 1) := by decide +kernel
theorem dX6_broken_12 : decode cX6_broken 12 = .ok (.invokevirtual 56, 3) := by decide +kernel
theorem dX6_broken_15 : decode cX6_broken 15 = .ok (.ifCond .ne 6, 3) := by decide +kernel
theorem dX6_broken_18 : decode cX6_broken 18 = .ok (.bipush (-2), 2) := by decide +kernel
theorem dX6_broken_20 : decode cX6_broken 20 = .ok (.ireturn, 1) := by decide +kernel
theorem dX6_broken_21 : decode cX6_broken 21 = .ok (.aload_n 0, 1) := by decide +kernel
theorem dX6_broken_22 : decode cX6_broken 22 = .ok (.iload 4, 2) := by decide +kernel
theorem dX6_broken_24 : decode cX6_broken 24 = .ok (.invokevirtual 113, 3) := by decide +kernel
theorem dX6_broken_27 : decode cX6_broken 27 = .ok (.istore 5, 2) := by decide +kernel
theorem dX6_broken_29 : decode cX6_broken 29 = .ok (.iload 5, 2) := by decide +kernel
theorem dX6_broken_31 : decode cX6_broken 31 = .ok (.ifCond .eq 6, 3) := by decide +kernel
theorem dX6_broken_34 : decode cX6_broken 34 = .ok (.iload 5, 2) := by decide +kernel
theorem dX6_broken_36 : decode cX6_broken 36 = .ok (.ireturn, 1) := by decide +kernel
theorem dX6_broken_37 : decode cX6_broken 37 = .ok (.aload_n 0, 1) := by decide +kernel
theorem dX6_broken_38 : decode cX6_broken 38 = .ok (.getfield 35, 3) := by decide +kernel
theorem dX6_broken_41 : decode cX6_broken 41 = .ok (.iload 4, 2) := by decide +kernel
theorem dX6_broken_43 : decode cX6_broken 43 = .ok (.aload_n 0, 1) := by decide +kernel
theorem dX6_broken_44 : decode cX6_broken 44 = .ok (.getfield 12, 3) := by decide +kernel
theorem dX6_broken_47 : decode cX6_broken 47 = .ok (.invokevirtual 116, 3) := by decide +kernel
theorem dX6_broken_50 : decode cX6_broken 50 = .ok (.invokevirtual 119, 3) := by decide +kernel
theorem dX6_broken_53 : decode cX6_broken 53 = .ok (.aload_n 0, 1) := by decide +kernel
theorem dX6_broken_54 : decode cX6_broken 54 = .ok (.getfield 35, 3) := by decide +kernel
theorem dX6_broken_57 : decode cX6_broken 57 = .ok (.iload_n 3, 1) := by decide +kernel
theorem dX6_broken_58 : decode cX6_broken 58 = .ok (.invokevirtual 137, 3) := by decide +kernel
theorem dX6_broken_61 : decode cX6_broken 61 = .ok (.ireturn, 1) := by decide +kernel
theorem hd_yX6_broken : (yX6_broken).cls ≠ "java/lang/invoke/MethodHandle" ∧ (yX6_broken).cls ≠ "java/lang/invoke/VarHandle" ∧ (parseMethodDescriptor (yX6_broken).desc).map (fun d => d.parameters.length) = some 3 := ⟨by decide, by decide, by decide +kernel⟩
def f_X6_broken (p0 : Int32) (p1 : Int32) (p2 : Int32) (σ : ZS) : Option (Int32 × ZS) :=
  Option.bind (f_X6_blockNumber p0 p1) (fun q1 => Option.bind (f_X1_has p2 σ) (fun q2 => (if q2 = 0 then some ((-2), σ) else Option.bind (f_X6_refusal q1 σ) (fun q3 => (if q3 = 0 then Option.bind (f_X1_refusing σ) (fun q4 => Option.bind (f_X4_settle q1 q4 σ) (fun q5 => Option.bind (f_X4_breaker p2 q5) (fun q6 => some (q6, q5)))) else some (q3, σ))))))
set_option maxHeartbeats 4000000 in
set_option maxRecDepth 100000 in
theorem c_X6_broken (l : Launch) (D : va_G) (A : Nat → Prop) (a : Nat → Nat) (x : ClassId × ClassId × ClassId) (σ : ZS) (p0 : Int32) (p1 : Int32) (p2 : Int32) (r : (Int32 × ZS)) (h : f_X6_broken p0 p1 p2 σ = some r) : zM l yX6_broken w_yX6_broken ({ frames := 4, cells := 0, slots := 0, locals := 107 } : Room) D A (tyz x) [.ref (a 0), .int p0, .int p1, .int p2] (wC a x σ) (some (.int r.1)) (wC a x r.2) := by
  refine z_start [.ref (a 0), .int p0, .int p1, .int p2] (lv := [(0, .ref (a 0)), (1, .int p0), (2, .int p1), (3, .int p2)]) (by decide) (Nat.le_of_ble_eq_true rfl) rfl ?_
  intro p e s m args below meth c C hr hlk
  unfold f_X6_broken at h
  refine z_iload_n C 1 rfl dX6_broken_0 ?_
  refine z_iload_n C 2 rfl dX6_broken_1 ?_
  obtain ⟨q1, hq1, h⟩ := bd_spec h
  refine z_callS1 C [.int p0, .int p1] [] (v := .int q1) rfl (c_X6_blockNumber l D A (tyz x) (wC a x σ) p0 p1 q1 hq1) cd_yX6_blockNumber in_RX6 ml_RX6_76 sm_yX6_blockNumber hd_yX6_blockNumber ⟨⟨Nat.le_of_ble_eq_true rfl, Nat.le_of_ble_eq_true rfl⟩, rfl, rfl⟩ rfl (Nat.le_of_ble_eq_true rfl) ⟨Nat.zero_le _, Nat.zero_le _⟩ dX6_broken_2 ?_
  refine z_istore C [(4, .int q1), (0, .ref (a 0)), (1, .int p0), (2, .int p1), (3, .int p2)] (by decide) rfl dX6_broken_5 ?_
  refine z_aload_n C 1 rfl dX6_broken_7 ?_
  refine z_get C iRX6 0 gC_0 rfl 0 (by decide) fl_RX6_12 rfl dX6_broken_8 ?_
  refine z_iload_n C 4 rfl dX6_broken_11 ?_
  obtain ⟨q2, hq2, h⟩ := bd_spec h
  refine z_callV1 C [.int p2] [] (v := (.int q2)) rfl (c_X1_has l D A a x σ p2 q2 hq2) cd_yX1_has in_RX1 ml_RX6_56 im_yX1_has sl_yX1_has gC_1 rfl hd_yX1_has ⟨⟨Nat.le_of_ble_eq_true rfl, Nat.le_of_ble_eq_true rfl⟩, rfl, rfl⟩ rfl (Nat.le_of_ble_eq_true rfl) ⟨Nat.zero_le _, Nat.zero_le _⟩ dX6_broken_12 ?_
  refine z_if_ne C 21 (by decide) dX6_broken_15 h (fun h => ?_) (fun h => ?_)
  · refine z_aload_n C 1 rfl dX6_broken_21 ?_
    refine z_iload C 0 rfl dX6_broken_22 ?_
    obtain ⟨q3, hq3, h⟩ := bd_spec h
    refine z_callV1 C [.int q1] [] (v := (.int q3)) rfl (c_X6_refusal l D A a x σ q1 q3 hq3) cd_yX6_refusal in_RX6 ml_RX6_113 im_yX6_refusal sl_yX6_refusal gC_0 rfl hd_yX6_refusal ⟨⟨Nat.le_of_ble_eq_true rfl, Nat.le_of_ble_eq_true rfl⟩, rfl, rfl⟩ rfl (Nat.le_of_ble_eq_true rfl) ⟨Nat.zero_le _, Nat.zero_le _⟩ dX6_broken_24 ?_
    refine z_istore C [(5, .int q3), (4, .int q1), (0, .ref (a 0)), (1, .int p0), (2, .int p1), (3, .int p2)] (by decide) rfl dX6_broken_27 ?_
    refine z_iload C 0 rfl dX6_broken_29 ?_
    refine z_if_eq C 37 (by decide) dX6_broken_31 h (fun h => ?_) (fun h => ?_)
    · refine z_aload_n C 2 rfl dX6_broken_37 ?_
      refine z_get C iRX6 0 gC_0 rfl 3 (by decide) fl_RX6_35 rfl dX6_broken_38 ?_
      refine z_iload C 1 rfl dX6_broken_41 ?_
      refine z_aload_n C 2 rfl dX6_broken_43 ?_
      refine z_get C iRX6 0 gC_0 rfl 0 (by decide) fl_RX6_12 rfl dX6_broken_44 ?_
      obtain ⟨q4, hq4, h⟩ := bd_spec h
      refine z_callV1 C [] [.int q1, .ref (a 4)] (v := (.int q4)) rfl (c_X1_refusing l D A a x σ  q4 hq4) cd_yX1_refusing in_RX1 ml_RX6_116 im_yX1_refusing sl_yX1_refusing gC_1 rfl hd_yX1_refusing ⟨⟨Nat.le_of_ble_eq_true rfl, Nat.le_of_ble_eq_true rfl⟩, rfl, rfl⟩ rfl (Nat.le_of_ble_eq_true rfl) ⟨Nat.zero_le _, Nat.zero_le _⟩ dX6_broken_47 ?_
      obtain ⟨q5, hq5, h⟩ := bd_spec h
      refine z_callV0 C [.int q1, .int q4] [] rfl (c_X4_settle l D A a x σ q1 q4 q5 hq5) cd_yX4_settle in_RX4 ml_RX6_119 im_yX4_settle sl_yX4_settle gC_4 rfl hd_yX4_settle ⟨⟨Nat.le_of_ble_eq_true rfl, Nat.le_of_ble_eq_true rfl⟩, rfl, rfl⟩ rfl (Nat.le_of_ble_eq_true rfl) ⟨Nat.zero_le _, Nat.zero_le _⟩ dX6_broken_50 ?_
      refine z_aload_n C 2 rfl dX6_broken_53 ?_
      refine z_get C iRX6 0 gC_0 rfl 3 (by decide) fl_RX6_35 rfl dX6_broken_54 ?_
      refine z_iload_n C 5 rfl dX6_broken_57 ?_
      obtain ⟨q6, hq6, h⟩ := bd_spec h
      refine z_callV1 C [.int p2] [] (v := (.int q6)) rfl (c_X4_breaker l D A a x q5 p2 q6 hq6) cd_yX4_breaker in_RX4 ml_RX6_137 im_yX4_breaker sl_yX4_breaker gC_4 rfl hd_yX4_breaker ⟨⟨Nat.le_of_ble_eq_true rfl, Nat.le_of_ble_eq_true rfl⟩, rfl, rfl⟩ rfl (Nat.le_of_ble_eq_true rfl) ⟨Nat.zero_le _, Nat.zero_le _⟩ dX6_broken_58 ?_
      cases h
      exact z_iret C hr hlk dX6_broken_61
    · refine z_iload C 0 rfl dX6_broken_34 ?_
      cases h
      exact z_iret C hr hlk dX6_broken_36
  · refine z_bipush C (v := (-2)) dX6_broken_18 (by decide) ?_
    cases h
    exact z_iret C hr hlk dX6_broken_20
theorem dX6_goes_0 : decode cX6_goes 0 = .ok (.aload_n 0, 1) := by decide +kernel
theorem dX6_goes_1 : decode cX6_goes 1 = .ok (.getfield 12, 3) := by decide +kernel
theorem dX6_goes_4 : decode cX6_goes 4 = .ok (.iload_n 1, 1) := by decide +kernel
theorem dX6_goes_5 : decode cX6_goes 5 = .ok (.invokevirtual 56, 3) := by decide +kernel
theorem dX6_goes_8 : decode cX6_goes 8 = .ok (.ifCond .eq 10, 3) := by decide +kernel
theorem dX6_goes_11 : decode cX6_goes 11 = .ok (.iload_n 2, 1) := by decide +kernel
theorem dX6_goes_12 : decode cX6_goes 12 = .ok (.invokestatic 140, 3) := by decide +kernel
theorem dX6_goes_15 : decode cX6_goes 15 = .ok (.ifCond .ne 6, 3) := by decide +kernel
theorem dX6_goes_18 : decode cX6_goes 18 = .ok (.bipush (-2), 2) := by decide +kernel
theorem dX6_goes_20 : decode cX6_goes 20 = .ok (.ireturn, 1) := by decide +kernel
theorem dX6_goes_21 : decode cX6_goes 21 = .ok (.aload_n 0, 1) := by decide +kernel
theorem dX6_goes_22 : decode cX6_goes 22 = .ok (.getfield 44, 3) := by decide +kernel
theorem dX6_goes_25 : decode cX6_goes 25 = .ok (.iload_n 2, 1) := by decide +kernel
theorem dX6_goes_26 : decode cX6_goes 26 = .ok (.aload_n 0, 1) := by decide +kernel
theorem dX6_goes_27 : decode cX6_goes 27 = .ok (.getfield 12, 3) := by decide +kernel
theorem dX6_goes_30 : decode cX6_goes 30 = .ok (.invokevirtual 116, 3) := by decide +kernel
theorem dX6_goes_33 : decode cX6_goes 33 = .ok (.invokevirtual 143, 3) := by decide +kernel
theorem dX6_goes_36 : decode cX6_goes 36 = .ok (.aload_n 0, 1) := by decide +kernel
theorem dX6_goes_37 : decode cX6_goes 37 = .ok (.getfield 44, 3) := by decide +kernel
theorem dX6_goes_40 : decode cX6_goes 40 = .ok (.iload_n 1, 1) := by decide +kernel
theorem dX6_goes_41 : decode cX6_goes 41 = .ok (.invokevirtual 146, 3) := by decide +kernel
theorem dX6_goes_44 : decode cX6_goes 44 = .ok (.ireturn, 1) := by decide +kernel
theorem hd_yX6_goes : (yX6_goes).cls ≠ "java/lang/invoke/MethodHandle" ∧ (yX6_goes).cls ≠ "java/lang/invoke/VarHandle" ∧ (parseMethodDescriptor (yX6_goes).desc).map (fun d => d.parameters.length) = some 2 := ⟨by decide, by decide, by decide +kernel⟩
def f_X6_goes (p0 : Int32) (p1 : Int32) (σ : ZS) : Option (Int32 × ZS) :=
  Option.bind (f_X1_has p0 σ) (fun q1 => (if q1 = 0 then some ((-2), σ) else Option.bind (f_X6_isAddress p1) (fun q2 => (if q2 = 0 then some ((-2), σ) else Option.bind (f_X1_refusing σ) (fun q3 => Option.bind (f_X0_look p1 q3 σ) (fun q4 => Option.bind (f_X0_end p0 q4) (fun q5 => some (q5, q4))))))))
set_option maxHeartbeats 4000000 in
set_option maxRecDepth 100000 in
theorem c_X6_goes (l : Launch) (D : va_G) (A : Nat → Prop) (a : Nat → Nat) (x : ClassId × ClassId × ClassId) (σ : ZS) (p0 : Int32) (p1 : Int32) (r : (Int32 × ZS)) (h : f_X6_goes p0 p1 σ = some r) : zM l yX6_goes w_yX6_goes ({ frames := 5, cells := 0, slots := 0, locals := 131 } : Room) D A (tyz x) [.ref (a 0), .int p0, .int p1] (wC a x σ) (some (.int r.1)) (wC a x r.2) := by
  refine z_start [.ref (a 0), .int p0, .int p1] (lv := [(0, .ref (a 0)), (1, .int p0), (2, .int p1)]) (by decide) (Nat.le_of_ble_eq_true rfl) rfl ?_
  intro p e s m args below meth c C hr hlk
  unfold f_X6_goes at h
  refine z_aload_n C 0 rfl dX6_goes_0 ?_
  refine z_get C iRX6 0 gC_0 rfl 0 (by decide) fl_RX6_12 rfl dX6_goes_1 ?_
  refine z_iload_n C 1 rfl dX6_goes_4 ?_
  obtain ⟨q1, hq1, h⟩ := bd_spec h
  refine z_callV1 C [.int p0] [] (v := (.int q1)) rfl (c_X1_has l D A a x σ p0 q1 hq1) cd_yX1_has in_RX1 ml_RX6_56 im_yX1_has sl_yX1_has gC_1 rfl hd_yX1_has ⟨⟨Nat.le_of_ble_eq_true rfl, Nat.le_of_ble_eq_true rfl⟩, rfl, rfl⟩ rfl (Nat.le_of_ble_eq_true rfl) ⟨Nat.zero_le _, Nat.zero_le _⟩ dX6_goes_5 ?_
  refine z_if_eq C 18 (by decide) dX6_goes_8 h (fun h => ?_) (fun h => ?_)
  · refine z_bipush C (v := (-2)) dX6_goes_18 (by decide) ?_
    cases h
    exact z_iret C hr hlk dX6_goes_20
  · refine z_iload_n C 2 rfl dX6_goes_11 ?_
    obtain ⟨q2, hq2, h⟩ := bd_spec h
    refine z_callS1 C [.int p1] [] (v := .int q2) rfl (c_X6_isAddress l D A (tyz x) (wC a x σ) p1 q2 hq2) cd_yX6_isAddress in_RX6 ml_RX6_140 sm_yX6_isAddress hd_yX6_isAddress ⟨⟨Nat.le_of_ble_eq_true rfl, Nat.le_of_ble_eq_true rfl⟩, rfl, rfl⟩ rfl (Nat.le_of_ble_eq_true rfl) ⟨Nat.zero_le _, Nat.zero_le _⟩ dX6_goes_12 ?_
    refine z_if_ne C 21 (by decide) dX6_goes_15 h (fun h => ?_) (fun h => ?_)
    · refine z_aload_n C 0 rfl dX6_goes_21 ?_
      refine z_get C iRX6 0 gC_0 rfl 4 (by decide) fl_RX6_44 rfl dX6_goes_22 ?_
      refine z_iload_n C 2 rfl dX6_goes_25 ?_
      refine z_aload_n C 0 rfl dX6_goes_26 ?_
      refine z_get C iRX6 0 gC_0 rfl 0 (by decide) fl_RX6_12 rfl dX6_goes_27 ?_
      obtain ⟨q3, hq3, h⟩ := bd_spec h
      refine z_callV1 C [] [.int p1, .ref (a 5)] (v := (.int q3)) rfl (c_X1_refusing l D A a x σ  q3 hq3) cd_yX1_refusing in_RX1 ml_RX6_116 im_yX1_refusing sl_yX1_refusing gC_1 rfl hd_yX1_refusing ⟨⟨Nat.le_of_ble_eq_true rfl, Nat.le_of_ble_eq_true rfl⟩, rfl, rfl⟩ rfl (Nat.le_of_ble_eq_true rfl) ⟨Nat.zero_le _, Nat.zero_le _⟩ dX6_goes_30 ?_
      obtain ⟨q4, hq4, h⟩ := bd_spec h
      refine z_callV0 C [.int p1, .int q3] [] rfl (c_X0_look l D A a x σ p1 q3 q4 hq4) cd_yX0_look in_RX0 ml_RX6_143 im_yX0_look sl_yX0_look gC_5 rfl hd_yX0_look ⟨⟨Nat.le_of_ble_eq_true rfl, Nat.le_of_ble_eq_true rfl⟩, rfl, rfl⟩ rfl (Nat.le_of_ble_eq_true rfl) ⟨Nat.zero_le _, Nat.zero_le _⟩ dX6_goes_33 ?_
      refine z_aload_n C 0 rfl dX6_goes_36 ?_
      refine z_get C iRX6 0 gC_0 rfl 4 (by decide) fl_RX6_44 rfl dX6_goes_37 ?_
      refine z_iload_n C 1 rfl dX6_goes_40 ?_
      obtain ⟨q5, hq5, h⟩ := bd_spec h
      refine z_callV1 C [.int p0] [] (v := (.int q5)) rfl (c_X0_end l D A a x q4 p0 q5 hq5) cd_yX0_end in_RX0 ml_RX6_146 im_yX0_end sl_yX0_end gC_5 rfl hd_yX0_end ⟨⟨Nat.le_of_ble_eq_true rfl, Nat.le_of_ble_eq_true rfl⟩, rfl, rfl⟩ rfl (Nat.le_of_ble_eq_true rfl) ⟨Nat.zero_le _, Nat.zero_le _⟩ dX6_goes_41 ?_
      cases h
      exact z_iret C hr hlk dX6_goes_44
    · refine z_bipush C (v := (-2)) dX6_goes_18 (by decide) ?_
      cases h
      exact z_iret C hr hlk dX6_goes_20
theorem dX6_misled_0 : decode cX6_misled 0 = .ok (.iload_n 1, 1) := by decide +kernel
theorem dX6_misled_1 : decode cX6_misled 1 = .ok (.invokestatic 140, 3) := by decide +kernel
theorem dX6_misled_4 : decode cX6_misled 4 = .ok (.ifCond .eq 21, 3) := by decide +kernel
theorem dX6_misled_7 : decode cX6_misled 7 = .ok (.aload_n 0, 1) := by decide +kernel
theorem dX6_misled_8 : decode cX6_misled 8 = .ok (.getfield 44, 3) := by decide +kernel
theorem dX6_misled_11 : decode cX6_misled 11 = .ok (.iload_n 1, 1) := by decide +kernel
theorem dX6_misled_12 : decode cX6_misled 12 = .ok (.aload_n 0, 1) := by decide +kernel
theorem dX6_misled_13 : decode cX6_misled 13 = .ok (.getfield 12, 3) := by decide +kernel
theorem dX6_misled_16 : decode cX6_misled 16 = .ok (.invokevirtual 116, 3) := by decide +kernel
theorem dX6_misled_19 : decode cX6_misled 19 = .ok (.invokevirtual 149, 3) := by decide +kernel
theorem dX6_misled_22 : decode cX6_misled 22 = .ok (.goto 5, 3) := by decide +kernel
theorem dX6_misled_25 : decode cX6_misled 25 = .ok (.bipush (-2), 2) := by decide +kernel
theorem dX6_misled_27 : decode cX6_misled 27 = .ok (.ireturn, 1) := by decide +kernel
theorem hd_yX6_misled : (yX6_misled).cls ≠ "java/lang/invoke/MethodHandle" ∧ (yX6_misled).cls ≠ "java/lang/invoke/VarHandle" ∧ (parseMethodDescriptor (yX6_misled).desc).map (fun d => d.parameters.length) = some 1 := ⟨by decide, by decide, by decide +kernel⟩
def f_X6_misled (p0 : Int32) (σ : ZS) : Option (Int32 × ZS) :=
  Option.bind (f_X6_isAddress p0) (fun q1 => (if q1 = 0 then some ((-2), σ) else Option.bind (f_X1_refusing σ) (fun q2 => Option.bind (f_X0_astray p0 q2 σ) (fun q3 => some (q3.1, q3.2)))))
set_option maxHeartbeats 4000000 in
set_option maxRecDepth 100000 in
theorem c_X6_misled (l : Launch) (D : va_G) (A : Nat → Prop) (a : Nat → Nat) (x : ClassId × ClassId × ClassId) (σ : ZS) (p0 : Int32) (r : (Int32 × ZS)) (h : f_X6_misled p0 σ = some r) : zM l yX6_misled w_yX6_misled ({ frames := 6, cells := 0, slots := 0, locals := 157 } : Room) D A (tyz x) [.ref (a 0), .int p0] (wC a x σ) (some (.int r.1)) (wC a x r.2) := by
  refine z_start [.ref (a 0), .int p0] (lv := [(0, .ref (a 0)), (1, .int p0)]) (by decide) (Nat.le_of_ble_eq_true rfl) rfl ?_
  intro p e s m args below meth c C hr hlk
  unfold f_X6_misled at h
  refine z_iload_n C 1 rfl dX6_misled_0 ?_
  obtain ⟨q1, hq1, h⟩ := bd_spec h
  refine z_callS1 C [.int p0] [] (v := .int q1) rfl (c_X6_isAddress l D A (tyz x) (wC a x σ) p0 q1 hq1) cd_yX6_isAddress in_RX6 ml_RX6_140 sm_yX6_isAddress hd_yX6_isAddress ⟨⟨Nat.le_of_ble_eq_true rfl, Nat.le_of_ble_eq_true rfl⟩, rfl, rfl⟩ rfl (Nat.le_of_ble_eq_true rfl) ⟨Nat.zero_le _, Nat.zero_le _⟩ dX6_misled_1 ?_
  refine z_if_eq C 25 (by decide) dX6_misled_4 h (fun h => ?_) (fun h => ?_)
  · refine z_bipush C (v := (-2)) dX6_misled_25 (by decide) ?_
    cases h
    exact z_iret C hr hlk dX6_misled_27
  · refine z_aload_n C 0 rfl dX6_misled_7 ?_
    refine z_get C iRX6 0 gC_0 rfl 4 (by decide) fl_RX6_44 rfl dX6_misled_8 ?_
    refine z_iload_n C 1 rfl dX6_misled_11 ?_
    refine z_aload_n C 0 rfl dX6_misled_12 ?_
    refine z_get C iRX6 0 gC_0 rfl 0 (by decide) fl_RX6_12 rfl dX6_misled_13 ?_
    obtain ⟨q2, hq2, h⟩ := bd_spec h
    refine z_callV1 C [] [.int p0, .ref (a 5)] (v := (.int q2)) rfl (c_X1_refusing l D A a x σ  q2 hq2) cd_yX1_refusing in_RX1 ml_RX6_116 im_yX1_refusing sl_yX1_refusing gC_1 rfl hd_yX1_refusing ⟨⟨Nat.le_of_ble_eq_true rfl, Nat.le_of_ble_eq_true rfl⟩, rfl, rfl⟩ rfl (Nat.le_of_ble_eq_true rfl) ⟨Nat.zero_le _, Nat.zero_le _⟩ dX6_misled_16 ?_
    obtain ⟨q3, hq3, h⟩ := bd_spec h
    refine z_callV1 C [.int p0, .int q2] [] (v := (.int q3.1)) rfl (c_X0_astray l D A a x σ p0 q2 q3 hq3) cd_yX0_astray in_RX0 ml_RX6_149 im_yX0_astray sl_yX0_astray gC_5 rfl hd_yX0_astray ⟨⟨Nat.le_of_ble_eq_true rfl, Nat.le_of_ble_eq_true rfl⟩, rfl, rfl⟩ rfl (Nat.le_of_ble_eq_true rfl) ⟨Nat.zero_le _, Nat.zero_le _⟩ dX6_misled_19 ?_
    refine z_goto C 27 (by decide) dX6_misled_22 ?_
    cases h
    exact z_iret C hr hlk dX6_misled_27
