def zF : Nat := 3000
theorem zx_outN {x : Int32} {n : Nat} (hn : n < 2 ^ 31) (h : ∀ k : Nat, k < n → ¬ x = nI k) : x.toInt < 0 ∨ (n : Int) - 1 < x.toInt := by
  by_cases h0 : x < 0
  · exact Or.inl (by simpa [Int32.lt_iff_toInt_lt] using h0)
  · obtain ⟨j, hj, rfl⟩ := nI_of h0
    refine Or.inr ?_
    rw [nI_toInt hj]
    by_cases hjn : j < n
    · exact absurd rfl (h j hjn)
    · omega
theorem zx_out5 {x : Int32} (h0 : ¬ x = 0) (h1 : ¬ x = 1) (h2 : ¬ x = 2) (h3 : ¬ x = 3) (h4 : ¬ x = 4) : x.toInt < 0 ∨ (4 : Int) < x.toInt := zx_outN (n := 5) (by decide) (fun k hk => by
  match k, hk with
  | 0, _ => exact h0
  | 1, _ => exact h1
  | 2, _ => exact h2
  | 3, _ => exact h3
  | 4, _ => exact h4
  | n + 5, h => exact absurd h (by omega))
theorem zx_out6 {x : Int32} (h0 : ¬ x = 0) (h1 : ¬ x = 1) (h2 : ¬ x = 2) (h3 : ¬ x = 3) (h4 : ¬ x = 4) (h5 : ¬ x = 5) : x.toInt < 0 ∨ (5 : Int) < x.toInt := zx_outN (n := 6) (by decide) (fun k hk => by
  match k, hk with
  | 0, _ => exact h0
  | 1, _ => exact h1
  | 2, _ => exact h2
  | 3, _ => exact h3
  | 4, _ => exact h4
  | 5, _ => exact h5
  | n + 6, h => exact absurd h (by omega))
theorem dX6_isAddress_0 : decode cX6_isAddress 0 = .ok (.iload_n 0, 1) := by decide +kernel
theorem dX6_isAddress_1 : decode cX6_isAddress 1 = .ok (.ifCond .lt 13, 3) := by decide +kernel
theorem dX6_isAddress_4 : decode cX6_isAddress 4 = .ok (.iload_n 0, 1) := by decide +kernel
theorem dX6_isAddress_5 : decode cX6_isAddress 5 = .ok (.bipush 64, 2) := by decide +kernel
theorem dX6_isAddress_7 : decode cX6_isAddress 7 = .ok (.if_icmp .ge 7, 3) := by decide +kernel
theorem dX6_isAddress_10 : decode cX6_isAddress 10 = .ok (.iconst 1, 1) := by decide +kernel
theorem dX6_isAddress_11 : decode cX6_isAddress 11 = .ok (.goto 4, 3) := by decide +kernel
theorem dX6_isAddress_14 : decode cX6_isAddress 14 = .ok (.iconst 0, 1) := by decide +kernel
theorem dX6_isAddress_15 : decode cX6_isAddress 15 = .ok (.ireturn, 1) := by decide +kernel
theorem hd_yX6_isAddress : (yX6_isAddress).cls ≠ "java/lang/invoke/MethodHandle" ∧ (yX6_isAddress).cls ≠ "java/lang/invoke/VarHandle" ∧ (parseMethodDescriptor (yX6_isAddress).desc).map (fun d => d.parameters.length) = some 1 := ⟨by decide, by decide, by decide +kernel⟩
def f_X6_isAddress (p0 : Int32) : Option Int32 :=
  (if p0 < 0 then some 0 else (if 64 ≤ p0 then some 0 else some 1))
set_option maxHeartbeats 4000000 in
set_option maxRecDepth 100000 in
theorem c_X6_isAddress (l : Launch) (D : va_G) (A : Nat → Prop) (tys : List (ClassId × FieldType)) (ws : va_W) (p0 : Int32) (r : Int32) (h : f_X6_isAddress p0 = some r) : zM l yX6_isAddress w_yX6_isAddress ({ frames := 0, cells := 0, slots := 0, locals := 0 } : Room) D A tys [.int p0] ws (some (.int r)) ws := by
  refine z_start [.int p0] (lv := [(0, .int p0)]) (by decide) (Nat.le_of_ble_eq_true rfl) rfl ?_
  intro p e s m args below meth c C hr hlk
  unfold f_X6_isAddress at h
  refine z_iload_n C 0 rfl dX6_isAddress_0 ?_
  refine z_if_lt C 14 (by decide) dX6_isAddress_1 h (fun h => ?_) (fun h => ?_)
  · refine z_iconst C (v := 0) dX6_isAddress_14 (by decide) ?_
    cases h
    exact z_zret C hr hlk rfl dX6_isAddress_15
  · refine z_iload_n C 0 rfl dX6_isAddress_4 ?_
    refine z_bipush C (v := 64) dX6_isAddress_5 (by decide) ?_
    refine z_icmp_ge C 14 (by decide) dX6_isAddress_7 h (fun h => ?_) (fun h => ?_)
    · refine z_iconst C (v := 0) dX6_isAddress_14 (by decide) ?_
      cases h
      exact z_zret C hr hlk rfl dX6_isAddress_15
    · refine z_iconst C (v := 1) dX6_isAddress_10 (by decide) ?_
      refine z_goto C 15 (by decide) dX6_isAddress_11 ?_
      cases h
      exact z_zret C hr hlk rfl dX6_isAddress_15
theorem dX6_isBlock_0 : decode cX6_isBlock 0 = .ok (.iload_n 0, 1) := by decide +kernel
theorem dX6_isBlock_1 : decode cX6_isBlock 1 = .ok (.iconst 1, 1) := by decide +kernel
theorem dX6_isBlock_2 : decode cX6_isBlock 2 = .ok (.if_icmp .lt 14, 3) := by decide +kernel
theorem dX6_isBlock_5 : decode cX6_isBlock 5 = .ok (.iload_n 0, 1) := by decide +kernel
theorem dX6_isBlock_6 : decode cX6_isBlock 6 = .ok (.sipush 128, 3) := by decide +kernel
theorem dX6_isBlock_9 : decode cX6_isBlock 9 = .ok (.if_icmp .ge 7, 3) := by decide +kernel
theorem dX6_isBlock_12 : decode cX6_isBlock 12 = .ok (.iconst 1, 1) := by decide +kernel
theorem dX6_isBlock_13 : decode cX6_isBlock 13 = .ok (.goto 4, 3) := by decide +kernel
theorem dX6_isBlock_16 : decode cX6_isBlock 16 = .ok (.iconst 0, 1) := by decide +kernel
theorem dX6_isBlock_17 : decode cX6_isBlock 17 = .ok (.ireturn, 1) := by decide +kernel
theorem hd_yX6_isBlock : (yX6_isBlock).cls ≠ "java/lang/invoke/MethodHandle" ∧ (yX6_isBlock).cls ≠ "java/lang/invoke/VarHandle" ∧ (parseMethodDescriptor (yX6_isBlock).desc).map (fun d => d.parameters.length) = some 1 := ⟨by decide, by decide, by decide +kernel⟩
def f_X6_isBlock (p0 : Int32) : Option Int32 :=
  (if p0 < 1 then some 0 else (if 128 ≤ p0 then some 0 else some 1))
set_option maxHeartbeats 4000000 in
set_option maxRecDepth 100000 in
theorem c_X6_isBlock (l : Launch) (D : va_G) (A : Nat → Prop) (tys : List (ClassId × FieldType)) (ws : va_W) (p0 : Int32) (r : Int32) (h : f_X6_isBlock p0 = some r) : zM l yX6_isBlock w_yX6_isBlock ({ frames := 0, cells := 0, slots := 0, locals := 0 } : Room) D A tys [.int p0] ws (some (.int r)) ws := by
  refine z_start [.int p0] (lv := [(0, .int p0)]) (by decide) (Nat.le_of_ble_eq_true rfl) rfl ?_
  intro p e s m args below meth c C hr hlk
  unfold f_X6_isBlock at h
  refine z_iload_n C 0 rfl dX6_isBlock_0 ?_
  refine z_iconst C (v := 1) dX6_isBlock_1 (by decide) ?_
  refine z_icmp_lt C 16 (by decide) dX6_isBlock_2 h (fun h => ?_) (fun h => ?_)
  · refine z_iconst C (v := 0) dX6_isBlock_16 (by decide) ?_
    cases h
    exact z_zret C hr hlk rfl dX6_isBlock_17
  · refine z_iload_n C 0 rfl dX6_isBlock_5 ?_
    refine z_sipush C (v := 128) dX6_isBlock_6 (by decide) ?_
    refine z_icmp_ge C 16 (by decide) dX6_isBlock_9 h (fun h => ?_) (fun h => ?_)
    · refine z_iconst C (v := 0) dX6_isBlock_16 (by decide) ?_
      cases h
      exact z_zret C hr hlk rfl dX6_isBlock_17
    · refine z_iconst C (v := 1) dX6_isBlock_12 (by decide) ?_
      refine z_goto C 17 (by decide) dX6_isBlock_13 ?_
      cases h
      exact z_zret C hr hlk rfl dX6_isBlock_17
theorem dX6_bit_0 : decode cX6_bit 0 = .ok (.iload_n 0, 1) := by decide +kernel
theorem dX6_bit_1 : decode cX6_bit 1 = .ok (.ifCond .lt 15, 3) := by decide +kernel
theorem dX6_bit_4 : decode cX6_bit 4 = .ok (.iload_n 0, 1) := by decide +kernel
theorem dX6_bit_5 : decode cX6_bit 5 = .ok (.bipush 10, 2) := by decide +kernel
theorem dX6_bit_7 : decode cX6_bit 7 = .ok (.if_icmp .ge 9, 3) := by decide +kernel
theorem dX6_bit_10 : decode cX6_bit 10 = .ok (.iconst 1, 1) := by decide +kernel
theorem dX6_bit_11 : decode cX6_bit 11 = .ok (.iload_n 0, 1) := by decide +kernel
theorem dX6_bit_12 : decode cX6_bit 12 = .ok (.ishl, 1) := by decide +kernel
theorem dX6_bit_13 : decode cX6_bit 13 = .ok (.goto 4, 3) := by decide +kernel
theorem dX6_bit_16 : decode cX6_bit 16 = .ok (.iconst 0, 1) := by decide +kernel
theorem dX6_bit_17 : decode cX6_bit 17 = .ok (.ireturn, 1) := by decide +kernel
theorem hd_yX6_bit : (yX6_bit).cls ≠ "java/lang/invoke/MethodHandle" ∧ (yX6_bit).cls ≠ "java/lang/invoke/VarHandle" ∧ (parseMethodDescriptor (yX6_bit).desc).map (fun d => d.parameters.length) = some 1 := ⟨by decide, by decide, by decide +kernel⟩
def f_X6_bit (p0 : Int32) : Option Int32 :=
  (if p0 < 0 then some 0 else (if 10 ≤ p0 then some 0 else some ((1 : Int32) <<< (p0 &&& 31))))
set_option maxHeartbeats 4000000 in
set_option maxRecDepth 100000 in
theorem c_X6_bit (l : Launch) (D : va_G) (A : Nat → Prop) (tys : List (ClassId × FieldType)) (ws : va_W) (p0 : Int32) (r : Int32) (h : f_X6_bit p0 = some r) : zM l yX6_bit w_yX6_bit ({ frames := 0, cells := 0, slots := 0, locals := 0 } : Room) D A tys [.int p0] ws (some (.int r)) ws := by
  refine z_start [.int p0] (lv := [(0, .int p0)]) (by decide) (Nat.le_of_ble_eq_true rfl) rfl ?_
  intro p e s m args below meth c C hr hlk
  unfold f_X6_bit at h
  refine z_iload_n C 0 rfl dX6_bit_0 ?_
  refine z_if_lt C 16 (by decide) dX6_bit_1 h (fun h => ?_) (fun h => ?_)
  · refine z_iconst C (v := 0) dX6_bit_16 (by decide) ?_
    cases h
    exact z_iret C hr hlk dX6_bit_17
  · refine z_iload_n C 0 rfl dX6_bit_4 ?_
    refine z_bipush C (v := 10) dX6_bit_5 (by decide) ?_
    refine z_icmp_ge C 16 (by decide) dX6_bit_7 h (fun h => ?_) (fun h => ?_)
    · refine z_iconst C (v := 0) dX6_bit_16 (by decide) ?_
      cases h
      exact z_iret C hr hlk dX6_bit_17
    · refine z_iconst C (v := 1) dX6_bit_10 (by decide) ?_
      refine z_iload_n C 0 rfl dX6_bit_11 ?_
      refine z_ishl C dX6_bit_12 ?_
      refine z_goto C 17 (by decide) dX6_bit_13 ?_
      cases h
      exact z_iret C hr hlk dX6_bit_17
theorem dX6_hasBit_0 : decode cX6_hasBit 0 = .ok (.iload_n 1, 1) := by decide +kernel
theorem dX6_hasBit_1 : decode cX6_hasBit 1 = .ok (.ifCond .lt 22, 3) := by decide +kernel
theorem dX6_hasBit_4 : decode cX6_hasBit 4 = .ok (.iload_n 1, 1) := by decide +kernel
theorem dX6_hasBit_5 : decode cX6_hasBit 5 = .ok (.bipush 10, 2) := by decide +kernel
theorem dX6_hasBit_7 : decode cX6_hasBit 7 = .ok (.if_icmp .ge 16, 3) := by decide +kernel
theorem dX6_hasBit_10 : decode cX6_hasBit 10 = .ok (.iload_n 0, 1) := by decide +kernel
theorem dX6_hasBit_11 : decode cX6_hasBit 11 = .ok (.iload_n 1, 1) := by decide +kernel
theorem dX6_hasBit_12 : decode cX6_hasBit 12 = .ok (.ishr, 1) := by decide +kernel
theorem dX6_hasBit_13 : decode cX6_hasBit 13 = .ok (.iconst 1, 1) := by decide +kernel
theorem dX6_hasBit_14 : decode cX6_hasBit 14 = .ok (.iand, 1) := by decide +kernel
theorem dX6_hasBit_15 : decode cX6_hasBit 15 = .ok (.iconst 1, 1) := by decide +kernel
theorem dX6_hasBit_16 : decode cX6_hasBit 16 = .ok (.if_icmp .ne 7, 3) := by decide +kernel
theorem dX6_hasBit_19 : decode cX6_hasBit 19 = .ok (.iconst 1, 1) := by decide +kernel
theorem dX6_hasBit_20 : decode cX6_hasBit 20 = .ok (.goto 4, 3) := by decide +kernel
theorem dX6_hasBit_23 : decode cX6_hasBit 23 = .ok (.iconst 0, 1) := by decide +kernel
theorem dX6_hasBit_24 : decode cX6_hasBit 24 = .ok (.ireturn, 1) := by decide +kernel
theorem hd_yX6_hasBit : (yX6_hasBit).cls ≠ "java/lang/invoke/MethodHandle" ∧ (yX6_hasBit).cls ≠ "java/lang/invoke/VarHandle" ∧ (parseMethodDescriptor (yX6_hasBit).desc).map (fun d => d.parameters.length) = some 2 := ⟨by decide, by decide, by decide +kernel⟩
def f_X6_hasBit (p0 : Int32) (p1 : Int32) : Option Int32 :=
  (if p1 < 0 then some 0 else (if 10 ≤ p1 then some 0 else (if ((p0 >>> (p1 &&& 31)) &&& 1) = 1 then some 1 else some 0)))
set_option maxHeartbeats 4000000 in
set_option maxRecDepth 100000 in
theorem c_X6_hasBit (l : Launch) (D : va_G) (A : Nat → Prop) (tys : List (ClassId × FieldType)) (ws : va_W) (p0 : Int32) (p1 : Int32) (r : Int32) (h : f_X6_hasBit p0 p1 = some r) : zM l yX6_hasBit w_yX6_hasBit ({ frames := 0, cells := 0, slots := 0, locals := 0 } : Room) D A tys [.int p0, .int p1] ws (some (.int r)) ws := by
  refine z_start [.int p0, .int p1] (lv := [(0, .int p0), (1, .int p1)]) (by decide) (Nat.le_of_ble_eq_true rfl) rfl ?_
  intro p e s m args below meth c C hr hlk
  unfold f_X6_hasBit at h
  refine z_iload_n C 1 rfl dX6_hasBit_0 ?_
  refine z_if_lt C 23 (by decide) dX6_hasBit_1 h (fun h => ?_) (fun h => ?_)
  · refine z_iconst C (v := 0) dX6_hasBit_23 (by decide) ?_
    cases h
    exact z_zret C hr hlk rfl dX6_hasBit_24
  · refine z_iload_n C 1 rfl dX6_hasBit_4 ?_
    refine z_bipush C (v := 10) dX6_hasBit_5 (by decide) ?_
    refine z_icmp_ge C 23 (by decide) dX6_hasBit_7 h (fun h => ?_) (fun h => ?_)
    · refine z_iconst C (v := 0) dX6_hasBit_23 (by decide) ?_
      cases h
      exact z_zret C hr hlk rfl dX6_hasBit_24
    · refine z_iload_n C 0 rfl dX6_hasBit_10 ?_
      refine z_iload_n C 1 rfl dX6_hasBit_11 ?_
      refine z_ishr C dX6_hasBit_12 ?_
      refine z_iconst C (v := 1) dX6_hasBit_13 (by decide) ?_
      refine z_iand C dX6_hasBit_14 ?_
      refine z_iconst C (v := 1) dX6_hasBit_15 (by decide) ?_
      refine z_icmp_ne C 23 (by decide) dX6_hasBit_16 h (fun h => ?_) (fun h => ?_)
      · refine z_iconst C (v := 0) dX6_hasBit_23 (by decide) ?_
        cases h
        exact z_zret C hr hlk rfl dX6_hasBit_24
      · refine z_iconst C (v := 1) dX6_hasBit_19 (by decide) ?_
        refine z_goto C 24 (by decide) dX6_hasBit_20 ?_
        cases h
        exact z_zret C hr hlk rfl dX6_hasBit_24
theorem dX6_blockNumber_0 : decode cX6_blockNumber 0 = .ok (.iload_n 0, 1) := by decide +kernel
theorem dX6_blockNumber_1 : decode cX6_blockNumber 1 = .ok (.ifCond .lt 16, 3) := by decide +kernel
theorem dX6_blockNumber_4 : decode cX6_blockNumber 4 = .ok (.iload_n 0, 1) := by decide +kernel
theorem dX6_blockNumber_5 : decode cX6_blockNumber 5 = .ok (.bipush 6, 2) := by decide +kernel
theorem dX6_blockNumber_7 : decode cX6_blockNumber 7 = .ok (.if_icmp .gt 10, 3) := by decide +kernel
theorem dX6_blockNumber_10 : decode cX6_blockNumber 10 = .ok (.iload_n 1, 1) := by decide +kernel
theorem dX6_blockNumber_11 : decode cX6_blockNumber 11 = .ok (.invokestatic 140, 3) := by decide +kernel
theorem dX6_blockNumber_14 : decode cX6_blockNumber 14 = .ok (.ifCond .ne 6, 3) := by decide +kernel
theorem dX6_blockNumber_17 : decode cX6_blockNumber 17 = .ok (.bipush (-2), 2) := by decide +kernel
theorem dX6_blockNumber_19 : decode cX6_blockNumber 19 = .ok (.ireturn, 1) := by decide +kernel
theorem dX6_blockNumber_20 : decode cX6_blockNumber 20 = .ok (.bipush 64, 2) := by decide +kernel
theorem dX6_blockNumber_22 : decode cX6_blockNumber 22 = .ok (.iload_n 0, 1) := by decide +kernel
theorem dX6_blockNumber_23 : decode cX6_blockNumber 23 = .ok (.ishr, 1) := by decide +kernel
theorem dX6_blockNumber_24 : decode cX6_blockNumber 24 = .ok (.istore_n 2, 1) := by decide +kernel
theorem dX6_blockNumber_25 : decode cX6_blockNumber 25 = .ok (.iload_n 1, 1) := by decide +kernel
theorem dX6_blockNumber_26 : decode cX6_blockNumber 26 = .ok (.iload_n 2, 1) := by decide +kernel
theorem dX6_blockNumber_27 : decode cX6_blockNumber 27 = .ok (.iconst 1, 1) := by decide +kernel
theorem dX6_blockNumber_28 : decode cX6_blockNumber 28 = .ok (.isub, 1) := by decide +kernel
theorem dX6_blockNumber_29 : decode cX6_blockNumber 29 = .ok (.iand, 1) := by decide +kernel
theorem dX6_blockNumber_30 : decode cX6_blockNumber 30 = .ok (.ifCond .ne 15, 3) := by decide +kernel
theorem dX6_blockNumber_33 : decode cX6_blockNumber 33 = .ok (.bipush 64, 2) := by decide +kernel
theorem dX6_blockNumber_35 : decode cX6_blockNumber 35 = .ok (.iload_n 1, 1) := by decide +kernel
theorem dX6_blockNumber_36 : decode cX6_blockNumber 36 = .ok (.iadd, 1) := by decide +kernel
theorem dX6_blockNumber_37 : decode cX6_blockNumber 37 = .ok (.bipush 6, 2) := by decide +kernel
theorem dX6_blockNumber_39 : decode cX6_blockNumber 39 = .ok (.iload_n 0, 1) := by decide +kernel
theorem dX6_blockNumber_40 : decode cX6_blockNumber 40 = .ok (.isub, 1) := by decide +kernel
theorem dX6_blockNumber_41 : decode cX6_blockNumber 41 = .ok (.ishr, 1) := by decide +kernel
theorem dX6_blockNumber_42 : decode cX6_blockNumber 42 = .ok (.goto 5, 3) := by decide +kernel
theorem dX6_blockNumber_45 : decode cX6_blockNumber 45 = .ok (.bipush (-2), 2) := by decide +kernel
theorem dX6_blockNumber_47 : decode cX6_blockNumber 47 = .ok (.ireturn, 1) := by decide +kernel
theorem hd_yX6_blockNumber : (yX6_blockNumber).cls ≠ "java/lang/invoke/MethodHandle" ∧ (yX6_blockNumber).cls ≠ "java/lang/invoke/VarHandle" ∧ (parseMethodDescriptor (yX6_blockNumber).desc).map (fun d => d.parameters.length) = some 2 := ⟨by decide, by decide, by decide +kernel⟩
def f_X6_blockNumber (p0 : Int32) (p1 : Int32) : Option Int32 :=
  (if p0 < 0 then some (-2) else (if 6 < p0 then some (-2) else Option.bind (f_X6_isAddress p1) (fun q1 => (if q1 = 0 then some (-2) else (if (p1 &&& (((64 : Int32) >>> (p0 &&& 31)) - 1)) = 0 then some (((64 : Int32) + p1) >>> (((6 : Int32) - p0) &&& 31)) else some (-2))))))
set_option maxHeartbeats 4000000 in
set_option maxRecDepth 100000 in
theorem c_X6_blockNumber (l : Launch) (D : va_G) (A : Nat → Prop) (tys : List (ClassId × FieldType)) (ws : va_W) (p0 : Int32) (p1 : Int32) (r : Int32) (h : f_X6_blockNumber p0 p1 = some r) : zM l yX6_blockNumber w_yX6_blockNumber ({ frames := 1, cells := 0, slots := 0, locals := 20 } : Room) D A tys [.int p0, .int p1] ws (some (.int r)) ws := by
  refine z_start [.int p0, .int p1] (lv := [(0, .int p0), (1, .int p1)]) (by decide) (Nat.le_of_ble_eq_true rfl) rfl ?_
  intro p e s m args below meth c C hr hlk
  unfold f_X6_blockNumber at h
  refine z_iload_n C 0 rfl dX6_blockNumber_0 ?_
  refine z_if_lt C 17 (by decide) dX6_blockNumber_1 h (fun h => ?_) (fun h => ?_)
  · refine z_bipush C (v := (-2)) dX6_blockNumber_17 (by decide) ?_
    cases h
    exact z_iret C hr hlk dX6_blockNumber_19
  · refine z_iload_n C 0 rfl dX6_blockNumber_4 ?_
    refine z_bipush C (v := 6) dX6_blockNumber_5 (by decide) ?_
    refine z_icmp_gt C 17 (by decide) dX6_blockNumber_7 h (fun h => ?_) (fun h => ?_)
    · refine z_bipush C (v := (-2)) dX6_blockNumber_17 (by decide) ?_
      cases h
      exact z_iret C hr hlk dX6_blockNumber_19
    · refine z_iload_n C 1 rfl dX6_blockNumber_10 ?_
      obtain ⟨q1, hq1, h⟩ := bd_spec h
      refine z_callS1 C [.int p1] [] (v := .int q1) rfl (c_X6_isAddress l D A tys ws p1 q1 hq1) cd_yX6_isAddress in_RX6 ml_RX6_140 sm_yX6_isAddress hd_yX6_isAddress ⟨⟨Nat.le_of_ble_eq_true rfl, Nat.le_of_ble_eq_true rfl⟩, rfl, rfl⟩ rfl (Nat.le_of_ble_eq_true rfl) ⟨Nat.zero_le _, Nat.zero_le _⟩ dX6_blockNumber_11 ?_
      refine z_if_ne C 20 (by decide) dX6_blockNumber_14 h (fun h => ?_) (fun h => ?_)
      · refine z_bipush C (v := 64) dX6_blockNumber_20 (by decide) ?_
        refine z_iload_n C 0 rfl dX6_blockNumber_22 ?_
        refine z_ishr C dX6_blockNumber_23 ?_
        refine z_istore_n C [(2, .int ((64 : Int32) >>> (p0 &&& 31))), (0, .int p0), (1, .int p1)] rfl (by decide) rfl dX6_blockNumber_24 ?_
        refine z_iload_n C 2 rfl dX6_blockNumber_25 ?_
        refine z_iload_n C 0 rfl dX6_blockNumber_26 ?_
        refine z_iconst C (v := 1) dX6_blockNumber_27 (by decide) ?_
        refine z_isub C dX6_blockNumber_28 ?_
        refine z_iand C dX6_blockNumber_29 ?_
        refine z_if_ne C 45 (by decide) dX6_blockNumber_30 h (fun h => ?_) (fun h => ?_)
        · refine z_bipush C (v := (-2)) dX6_blockNumber_45 (by decide) ?_
          cases h
          exact z_iret C hr hlk dX6_blockNumber_47
        · refine z_bipush C (v := 64) dX6_blockNumber_33 (by decide) ?_
          refine z_iload_n C 2 rfl dX6_blockNumber_35 ?_
          refine z_iadd C dX6_blockNumber_36 ?_
          refine z_bipush C (v := 6) dX6_blockNumber_37 (by decide) ?_
          refine z_iload_n C 1 rfl dX6_blockNumber_39 ?_
          refine z_isub C dX6_blockNumber_40 ?_
          refine z_ishr C dX6_blockNumber_41 ?_
          refine z_goto C 47 (by decide) dX6_blockNumber_42 ?_
          cases h
          exact z_iret C hr hlk dX6_blockNumber_47
      · refine z_bipush C (v := (-2)) dX6_blockNumber_17 (by decide) ?_
        cases h
        exact z_iret C hr hlk dX6_blockNumber_19
theorem dX6_lengthOf_0 : decode cX6_lengthOf 0 = .ok (.iconst 0, 1) := by decide +kernel
theorem dX6_lengthOf_1 : decode cX6_lengthOf 1 = .ok (.istore_n 1, 1) := by decide +kernel
theorem dX6_lengthOf_2 : decode cX6_lengthOf 2 = .ok (.iload_n 1, 1) := by decide +kernel
theorem dX6_lengthOf_3 : decode cX6_lengthOf 3 = .ok (.bipush 6, 2) := by decide +kernel
theorem dX6_lengthOf_5 : decode cX6_lengthOf 5 = .ok (.if_icmp .ge 16, 3) := by decide +kernel
theorem dX6_lengthOf_8 : decode cX6_lengthOf 8 = .ok (.iload_n 0, 1) := by decide +kernel
theorem dX6_lengthOf_9 : decode cX6_lengthOf 9 = .ok (.iload_n 1, 1) := by decide +kernel
theorem dX6_lengthOf_10 : decode cX6_lengthOf 10 = .ok (.ishr, 1) := by decide +kernel
theorem dX6_lengthOf_11 : decode cX6_lengthOf 11 = .ok (.iconst 1, 1) := by decide +kernel
theorem dX6_lengthOf_12 : decode cX6_lengthOf 12 = .ok (.if_icmp .le 9, 3) := by decide +kernel
theorem dX6_lengthOf_15 : decode cX6_lengthOf 15 = .ok (.iinc 1 1, 3) := by decide +kernel
theorem dX6_lengthOf_18 : decode cX6_lengthOf 18 = .ok (.goto (-16), 3) := by decide +kernel
theorem dX6_lengthOf_21 : decode cX6_lengthOf 21 = .ok (.iload_n 1, 1) := by decide +kernel
theorem dX6_lengthOf_22 : decode cX6_lengthOf 22 = .ok (.ireturn, 1) := by decide +kernel
theorem hd_yX6_lengthOf : (yX6_lengthOf).cls ≠ "java/lang/invoke/MethodHandle" ∧ (yX6_lengthOf).cls ≠ "java/lang/invoke/VarHandle" ∧ (parseMethodDescriptor (yX6_lengthOf).desc).map (fun d => d.parameters.length) = some 1 := ⟨by decide, by decide, by decide +kernel⟩
def f_X6_lengthOf_B2 (l0 : Int32) (t1 : Int32) : Option (Int32 ⊕ Int32) :=
  (if 6 ≤ t1 then wi (some t1) else (if (l0 >>> (t1 &&& 31)) ≤ 1 then wi (some t1) else some (.inl (t1 + 1))))
def f_X6_lengthOf (p0 : Int32) : Option Int32 :=
  lp zF (f_X6_lengthOf_B2 p0) 0
set_option maxHeartbeats 4000000 in
set_option maxRecDepth 100000 in
theorem c_X6_lengthOf (l : Launch) (D : va_G) (A : Nat → Prop) (tys : List (ClassId × FieldType)) (ws : va_W) (p0 : Int32) (r : Int32) (h : f_X6_lengthOf p0 = some r) : zM l yX6_lengthOf w_yX6_lengthOf ({ frames := 0, cells := 0, slots := 0, locals := 0 } : Room) D A tys [.int p0] ws (some (.int r)) ws := by
  refine z_start [.int p0] (lv := [(0, .int p0)]) (by decide) (Nat.le_of_ble_eq_true rfl) rfl ?_
  intro p e s m args below meth c C hr hlk
  unfold f_X6_lengthOf at h
  refine z_iconst C (v := 0) dX6_lengthOf_0 (by decide) ?_
  refine z_istore_n C [(1, .int 0), (0, .int p0)] rfl (by decide) rfl dX6_lengthOf_1 ?_
  refine z_sub C [1, 0] (lv' := [(0, .int p0), (1, .int 0)]) rfl ?_
  have L2 : ∀ (n : Nat) (t1 : Int32), lp n (f_X6_lengthOf_B2 p0) t1 = some r → zV p l e ({ frames := 0, cells := 0, slots := 0, locals := 0 } : Room) s m args below meth c 0 0 (MQ below (zQ D A (some (.int r)) ws) args s 0 0 A) D A 2 ws 2 [(0, .int p0), (1, .int t1)] [] := by
    intro n1
    induction n1 with
    | zero => exact fun _ h => (lp_zero h).elim
    | succ n1 ih1 =>
      intro t1 h
      obtain ⟨u1, h, hk1⟩ := lp_succ h
      unfold f_X6_lengthOf_B2 at h
      refine z_iload_n C 1 rfl dX6_lengthOf_2 ?_
      refine z_bipush C (v := 6) dX6_lengthOf_3 (by decide) ?_
      refine z_icmp_ge C 21 (by decide) dX6_lengthOf_5 h (fun h => ?_) (fun h => ?_)
      · refine z_iload_n C 1 rfl dX6_lengthOf_21 ?_
        have h := unwi h hk1
        cases h
        exact z_iret C hr hlk dX6_lengthOf_22
      · refine z_iload_n C 0 rfl dX6_lengthOf_8 ?_
        refine z_iload_n C 1 rfl dX6_lengthOf_9 ?_
        refine z_ishr C dX6_lengthOf_10 ?_
        refine z_iconst C (v := 1) dX6_lengthOf_11 (by decide) ?_
        refine z_icmp_le C 21 (by decide) dX6_lengthOf_12 h (fun h => ?_) (fun h => ?_)
        · refine z_iload_n C 1 rfl dX6_lengthOf_21 ?_
          have h := unwi h hk1
          cases h
          exact z_iret C hr hlk dX6_lengthOf_22
        · refine z_iinc C (v := t1 + 1) [(1, .int (t1 + 1)), (0, .int p0)] 1 rfl rfl (by decide) rfl dX6_lengthOf_15 ?_
          refine z_goto C 2 (by decide) dX6_lengthOf_18 ?_
          refine z_sub C [1, 0] (lv' := [(0, .int p0), (1, .int (t1 + 1))]) rfl ?_
          exact ih1 _ (uninl h hk1)
  exact L2 _ _ h
theorem dX6_firstOf_0 : decode cX6_firstOf 0 = .ok (.iload_n 0, 1) := by decide +kernel
theorem dX6_firstOf_1 : decode cX6_firstOf 1 = .ok (.bipush 6, 2) := by decide +kernel
theorem dX6_firstOf_3 : decode cX6_firstOf 3 = .ok (.iload_n 0, 1) := by decide +kernel
theorem dX6_firstOf_4 : decode cX6_firstOf 4 = .ok (.invokestatic 155, 3) := by decide +kernel
theorem dX6_firstOf_7 : decode cX6_firstOf 7 = .ok (.isub, 1) := by decide +kernel
theorem dX6_firstOf_8 : decode cX6_firstOf 8 = .ok (.ishl, 1) := by decide +kernel
theorem dX6_firstOf_9 : decode cX6_firstOf 9 = .ok (.bipush 64, 2) := by decide +kernel
theorem dX6_firstOf_11 : decode cX6_firstOf 11 = .ok (.isub, 1) := by decide +kernel
theorem dX6_firstOf_12 : decode cX6_firstOf 12 = .ok (.ireturn, 1) := by decide +kernel
theorem hd_yX6_firstOf : (yX6_firstOf).cls ≠ "java/lang/invoke/MethodHandle" ∧ (yX6_firstOf).cls ≠ "java/lang/invoke/VarHandle" ∧ (parseMethodDescriptor (yX6_firstOf).desc).map (fun d => d.parameters.length) = some 1 := ⟨by decide, by decide, by decide +kernel⟩
def f_X6_firstOf (p0 : Int32) : Option Int32 :=
  Option.bind (f_X6_lengthOf p0) (fun q1 => some ((p0 <<< (((6 : Int32) - q1) &&& 31)) - 64))
set_option maxHeartbeats 4000000 in
set_option maxRecDepth 100000 in
theorem c_X6_firstOf (l : Launch) (D : va_G) (A : Nat → Prop) (tys : List (ClassId × FieldType)) (ws : va_W) (p0 : Int32) (r : Int32) (h : f_X6_firstOf p0 = some r) : zM l yX6_firstOf w_yX6_firstOf ({ frames := 1, cells := 0, slots := 0, locals := 21 } : Room) D A tys [.int p0] ws (some (.int r)) ws := by
  refine z_start [.int p0] (lv := [(0, .int p0)]) (by decide) (Nat.le_of_ble_eq_true rfl) rfl ?_
  intro p e s m args below meth c C hr hlk
  unfold f_X6_firstOf at h
  refine z_iload_n C 0 rfl dX6_firstOf_0 ?_
  refine z_bipush C (v := 6) dX6_firstOf_1 (by decide) ?_
  refine z_iload_n C 0 rfl dX6_firstOf_3 ?_
  obtain ⟨q1, hq1, h⟩ := bd_spec h
  refine z_callS1 C [.int p0] [.int 6, .int p0] (v := .int q1) rfl (c_X6_lengthOf l D A tys ws p0 q1 hq1) cd_yX6_lengthOf in_RX6 ml_RX6_155 sm_yX6_lengthOf hd_yX6_lengthOf ⟨⟨Nat.le_of_ble_eq_true rfl, Nat.le_of_ble_eq_true rfl⟩, rfl, rfl⟩ rfl (Nat.le_of_ble_eq_true rfl) ⟨Nat.zero_le _, Nat.zero_le _⟩ dX6_firstOf_4 ?_
  refine z_isub C dX6_firstOf_7 ?_
  refine z_ishl C dX6_firstOf_8 ?_
  refine z_bipush C (v := 64) dX6_firstOf_9 (by decide) ?_
  refine z_isub C dX6_firstOf_11 ?_
  cases h
  exact z_iret C hr hlk dX6_firstOf_12
theorem dJ6_bitCount_0f7a4_0 : decode cJ6_bitCount_0f7a4 0 = .ok (.iload_n 0, 1) := by decide +kernel
theorem dJ6_bitCount_0f7a4_1 : decode cJ6_bitCount_0f7a4 1 = .ok (.iload_n 0, 1) := by decide +kernel
theorem dJ6_bitCount_0f7a4_2 : decode cJ6_bitCount_0f7a4 2 = .ok (.iconst 1, 1) := by decide +kernel
theorem dJ6_bitCount_0f7a4_3 : decode cJ6_bitCount_0f7a4 3 = .ok (.iushr, 1) := by decide +kernel
theorem dJ6_bitCount_0f7a4_4 : decode cJ6_bitCount_0f7a4 4 = .ok (.ldc_w 265, 3) := by decide +kernel
theorem dJ6_bitCount_0f7a4_7 : decode cJ6_bitCount_0f7a4 7 = .ok (.iand, 1) := by decide +kernel
theorem dJ6_bitCount_0f7a4_8 : decode cJ6_bitCount_0f7a4 8 = .ok (.isub, 1) := by decide +kernel
theorem dJ6_bitCount_0f7a4_9 : decode cJ6_bitCount_0f7a4 9 = .ok (.istore_n 0, 1) := by decide +kernel
theorem dJ6_bitCount_0f7a4_10 : decode cJ6_bitCount_0f7a4 10 = .ok (.iload_n 0, 1) := by decide +kernel
theorem dJ6_bitCount_0f7a4_11 : decode cJ6_bitCount_0f7a4 11 = .ok (.ldc_w 266, 3) := by decide +kernel
theorem dJ6_bitCount_0f7a4_14 : decode cJ6_bitCount_0f7a4 14 = .ok (.iand, 1) := by decide +kernel
theorem dJ6_bitCount_0f7a4_15 : decode cJ6_bitCount_0f7a4 15 = .ok (.iload_n 0, 1) := by decide +kernel
theorem dJ6_bitCount_0f7a4_16 : decode cJ6_bitCount_0f7a4 16 = .ok (.iconst 2, 1) := by decide +kernel
theorem dJ6_bitCount_0f7a4_17 : decode cJ6_bitCount_0f7a4 17 = .ok (.iushr, 1) := by decide +kernel
theorem dJ6_bitCount_0f7a4_18 : decode cJ6_bitCount_0f7a4 18 = .ok (.ldc_w 266, 3) := by decide +kernel
theorem dJ6_bitCount_0f7a4_21 : decode cJ6_bitCount_0f7a4 21 = .ok (.iand, 1) := by decide +kernel
theorem dJ6_bitCount_0f7a4_22 : decode cJ6_bitCount_0f7a4 22 = .ok (.iadd, 1) := by decide +kernel
theorem dJ6_bitCount_0f7a4_23 : decode cJ6_bitCount_0f7a4 23 = .ok (.istore_n 0, 1) := by decide +kernel
theorem dJ6_bitCount_0f7a4_24 : decode cJ6_bitCount_0f7a4 24 = .ok (.iload_n 0, 1) := by decide +kernel
theorem dJ6_bitCount_0f7a4_25 : decode cJ6_bitCount_0f7a4 25 = .ok (.iload_n 0, 1) := by decide +kernel
theorem dJ6_bitCount_0f7a4_26 : decode cJ6_bitCount_0f7a4 26 = .ok (.iconst 4, 1) := by decide +kernel
theorem dJ6_bitCount_0f7a4_27 : decode cJ6_bitCount_0f7a4 27 = .ok (.iushr, 1) := by decide +kernel
theorem dJ6_bitCount_0f7a4_28 : decode cJ6_bitCount_0f7a4 28 = .ok (.iadd, 1) := by decide +kernel
theorem dJ6_bitCount_0f7a4_29 : decode cJ6_bitCount_0f7a4 29 = .ok (.ldc_w 267, 3) := by decide +kernel
theorem dJ6_bitCount_0f7a4_32 : decode cJ6_bitCount_0f7a4 32 = .ok (.iand, 1) := by decide +kernel
theorem dJ6_bitCount_0f7a4_33 : decode cJ6_bitCount_0f7a4 33 = .ok (.istore_n 0, 1) := by decide +kernel
theorem dJ6_bitCount_0f7a4_34 : decode cJ6_bitCount_0f7a4 34 = .ok (.iload_n 0, 1) := by decide +kernel
theorem dJ6_bitCount_0f7a4_35 : decode cJ6_bitCount_0f7a4 35 = .ok (.iload_n 0, 1) := by decide +kernel
theorem dJ6_bitCount_0f7a4_36 : decode cJ6_bitCount_0f7a4 36 = .ok (.bipush 8, 2) := by decide +kernel
theorem dJ6_bitCount_0f7a4_38 : decode cJ6_bitCount_0f7a4 38 = .ok (.iushr, 1) := by decide +kernel
theorem dJ6_bitCount_0f7a4_39 : decode cJ6_bitCount_0f7a4 39 = .ok (.iadd, 1) := by decide +kernel
theorem dJ6_bitCount_0f7a4_40 : decode cJ6_bitCount_0f7a4 40 = .ok (.istore_n 0, 1) := by decide +kernel
theorem dJ6_bitCount_0f7a4_41 : decode cJ6_bitCount_0f7a4 41 = .ok (.iload_n 0, 1) := by decide +kernel
theorem dJ6_bitCount_0f7a4_42 : decode cJ6_bitCount_0f7a4 42 = .ok (.iload_n 0, 1) := by decide +kernel
theorem dJ6_bitCount_0f7a4_43 : decode cJ6_bitCount_0f7a4 43 = .ok (.bipush 16, 2) := by decide +kernel
theorem dJ6_bitCount_0f7a4_45 : decode cJ6_bitCount_0f7a4 45 = .ok (.iushr, 1) := by decide +kernel
theorem dJ6_bitCount_0f7a4_46 : decode cJ6_bitCount_0f7a4 46 = .ok (.iadd, 1) := by decide +kernel
theorem dJ6_bitCount_0f7a4_47 : decode cJ6_bitCount_0f7a4 47 = .ok (.istore_n 0, 1) := by decide +kernel
theorem dJ6_bitCount_0f7a4_48 : decode cJ6_bitCount_0f7a4 48 = .ok (.iload_n 0, 1) := by decide +kernel
theorem dJ6_bitCount_0f7a4_49 : decode cJ6_bitCount_0f7a4 49 = .ok (.bipush 63, 2) := by decide +kernel
theorem dJ6_bitCount_0f7a4_51 : decode cJ6_bitCount_0f7a4 51 = .ok (.iand, 1) := by decide +kernel
theorem dJ6_bitCount_0f7a4_52 : decode cJ6_bitCount_0f7a4 52 = .ok (.ireturn, 1) := by decide +kernel
theorem hd_yJ6_bitCount_0f7a4 : (yJ6_bitCount_0f7a4).cls ≠ "java/lang/invoke/MethodHandle" ∧ (yJ6_bitCount_0f7a4).cls ≠ "java/lang/invoke/VarHandle" ∧ (parseMethodDescriptor (yJ6_bitCount_0f7a4).desc).map (fun d => d.parameters.length) = some 1 := ⟨by decide, by decide, by decide +kernel⟩
def f_J6_bitCount_0f7a4 (p0 : Int32) : Option Int32 :=
  some ((((((((p0 - ((((Int32.toUInt32 p0) >>> ((Int32.toUInt32 1) &&& Int32.toUInt32 31)).toInt32) &&& 1431655765)) &&& 858993459) + ((((Int32.toUInt32 (p0 - ((((Int32.toUInt32 p0) >>> ((Int32.toUInt32 1) &&& Int32.toUInt32 31)).toInt32) &&& 1431655765))) >>> ((Int32.toUInt32 2) &&& Int32.toUInt32 31)).toInt32) &&& 858993459)) + (((Int32.toUInt32 (((p0 - ((((Int32.toUInt32 p0) >>> ((Int32.toUInt32 1) &&& Int32.toUInt32 31)).toInt32) &&& 1431655765)) &&& 858993459) + ((((Int32.toUInt32 (p0 - ((((Int32.toUInt32 p0) >>> ((Int32.toUInt32 1) &&& Int32.toUInt32 31)).toInt32) &&& 1431655765))) >>> ((Int32.toUInt32 2) &&& Int32.toUInt32 31)).toInt32) &&& 858993459))) >>> ((Int32.toUInt32 4) &&& Int32.toUInt32 31)).toInt32)) &&& 252645135) + (((Int32.toUInt32 (((((p0 - ((((Int32.toUInt32 p0) >>> ((Int32.toUInt32 1) &&& Int32.toUInt32 31)).toInt32) &&& 1431655765)) &&& 858993459) + ((((Int32.toUInt32 (p0 - ((((Int32.toUInt32 p0) >>> ((Int32.toUInt32 1) &&& Int32.toUInt32 31)).toInt32) &&& 1431655765))) >>> ((Int32.toUInt32 2) &&& Int32.toUInt32 31)).toInt32) &&& 858993459)) + (((Int32.toUInt32 (((p0 - ((((Int32.toUInt32 p0) >>> ((Int32.toUInt32 1) &&& Int32.toUInt32 31)).toInt32) &&& 1431655765)) &&& 858993459) + ((((Int32.toUInt32 (p0 - ((((Int32.toUInt32 p0) >>> ((Int32.toUInt32 1) &&& Int32.toUInt32 31)).toInt32) &&& 1431655765))) >>> ((Int32.toUInt32 2) &&& Int32.toUInt32 31)).toInt32) &&& 858993459))) >>> ((Int32.toUInt32 4) &&& Int32.toUInt32 31)).toInt32)) &&& 252645135)) >>> ((Int32.toUInt32 8) &&& Int32.toUInt32 31)).toInt32)) + (((Int32.toUInt32 ((((((p0 - ((((Int32.toUInt32 p0) >>> ((Int32.toUInt32 1) &&& Int32.toUInt32 31)).toInt32) &&& 1431655765)) &&& 858993459) + ((((Int32.toUInt32 (p0 - ((((Int32.toUInt32 p0) >>> ((Int32.toUInt32 1) &&& Int32.toUInt32 31)).toInt32) &&& 1431655765))) >>> ((Int32.toUInt32 2) &&& Int32.toUInt32 31)).toInt32) &&& 858993459)) + (((Int32.toUInt32 (((p0 - ((((Int32.toUInt32 p0) >>> ((Int32.toUInt32 1) &&& Int32.toUInt32 31)).toInt32) &&& 1431655765)) &&& 858993459) + ((((Int32.toUInt32 (p0 - ((((Int32.toUInt32 p0) >>> ((Int32.toUInt32 1) &&& Int32.toUInt32 31)).toInt32) &&& 1431655765))) >>> ((Int32.toUInt32 2) &&& Int32.toUInt32 31)).toInt32) &&& 858993459))) >>> ((Int32.toUInt32 4) &&& Int32.toUInt32 31)).toInt32)) &&& 252645135) + (((Int32.toUInt32 (((((p0 - ((((Int32.toUInt32 p0) >>> ((Int32.toUInt32 1) &&& Int32.toUInt32 31)).toInt32) &&& 1431655765)) &&& 858993459) + ((((Int32.toUInt32 (p0 - ((((Int32.toUInt32 p0) >>> ((Int32.toUInt32 1) &&& Int32.toUInt32 31)).toInt32) &&& 1431655765))) >>> ((Int32.toUInt32 2) &&& Int32.toUInt32 31)).toInt32) &&& 858993459)) + (((Int32.toUInt32 (((p0 - ((((Int32.toUInt32 p0) >>> ((Int32.toUInt32 1) &&& Int32.toUInt32 31)).toInt32) &&& 1431655765)) &&& 858993459) + ((((Int32.toUInt32 (p0 - ((((Int32.toUInt32 p0) >>> ((Int32.toUInt32 1) &&& Int32.toUInt32 31)).toInt32) &&& 1431655765))) >>> ((Int32.toUInt32 2) &&& Int32.toUInt32 31)).toInt32) &&& 858993459))) >>> ((Int32.toUInt32 4) &&& Int32.toUInt32 31)).toInt32)) &&& 252645135)) >>> ((Int32.toUInt32 8) &&& Int32.toUInt32 31)).toInt32))) >>> ((Int32.toUInt32 16) &&& Int32.toUInt32 31)).toInt32)) &&& 63)
set_option maxHeartbeats 4000000 in
set_option maxRecDepth 100000 in
theorem c_J6_bitCount_0f7a4 (l : Launch) (D : va_G) (A : Nat → Prop) (tys : List (ClassId × FieldType)) (ws : va_W) (p0 : Int32) (r : Int32) (h : f_J6_bitCount_0f7a4 p0 = some r) : zM l yJ6_bitCount_0f7a4 w_yJ6_bitCount_0f7a4 ({ frames := 0, cells := 0, slots := 0, locals := 0 } : Room) D A tys [.int p0] ws (some (.int r)) ws := by
  refine z_start [.int p0] (lv := [(0, .int p0)]) (by decide) (Nat.le_of_ble_eq_true rfl) rfl ?_
  intro p e s m args below meth c C hr hlk
  unfold f_J6_bitCount_0f7a4 at h
  refine z_iload_n C 0 rfl dJ6_bitCount_0f7a4_0 ?_
  refine z_iload_n C 0 rfl dJ6_bitCount_0f7a4_1 ?_
  refine z_iconst C (v := 1) dJ6_bitCount_0f7a4_2 (by decide) ?_
  refine z_iushr C dJ6_bitCount_0f7a4_3 ?_
  refine z_ldcw C ct_RJ6_265 dJ6_bitCount_0f7a4_4 ?_
  refine z_iand C dJ6_bitCount_0f7a4_7 ?_
  refine z_isub C dJ6_bitCount_0f7a4_8 ?_
  refine z_istore_n C [(0, .int (p0 - ((((Int32.toUInt32 p0) >>> ((Int32.toUInt32 1) &&& Int32.toUInt32 31)).toInt32) &&& 1431655765)))] rfl (by decide) rfl dJ6_bitCount_0f7a4_9 ?_
  refine z_iload_n C 0 rfl dJ6_bitCount_0f7a4_10 ?_
  refine z_ldcw C ct_RJ6_266 dJ6_bitCount_0f7a4_11 ?_
  refine z_iand C dJ6_bitCount_0f7a4_14 ?_
  refine z_iload_n C 0 rfl dJ6_bitCount_0f7a4_15 ?_
  refine z_iconst C (v := 2) dJ6_bitCount_0f7a4_16 (by decide) ?_
  refine z_iushr C dJ6_bitCount_0f7a4_17 ?_
  refine z_ldcw C ct_RJ6_266 dJ6_bitCount_0f7a4_18 ?_
  refine z_iand C dJ6_bitCount_0f7a4_21 ?_
  refine z_iadd C dJ6_bitCount_0f7a4_22 ?_
  refine z_istore_n C [(0, .int (((p0 - ((((Int32.toUInt32 p0) >>> ((Int32.toUInt32 1) &&& Int32.toUInt32 31)).toInt32) &&& 1431655765)) &&& 858993459) + ((((Int32.toUInt32 (p0 - ((((Int32.toUInt32 p0) >>> ((Int32.toUInt32 1) &&& Int32.toUInt32 31)).toInt32) &&& 1431655765))) >>> ((Int32.toUInt32 2) &&& Int32.toUInt32 31)).toInt32) &&& 858993459)))] rfl (by decide) rfl dJ6_bitCount_0f7a4_23 ?_
  refine z_iload_n C 0 rfl dJ6_bitCount_0f7a4_24 ?_
  refine z_iload_n C 0 rfl dJ6_bitCount_0f7a4_25 ?_
  refine z_iconst C (v := 4) dJ6_bitCount_0f7a4_26 (by decide) ?_
  refine z_iushr C dJ6_bitCount_0f7a4_27 ?_
  refine z_iadd C dJ6_bitCount_0f7a4_28 ?_
  refine z_ldcw C ct_RJ6_267 dJ6_bitCount_0f7a4_29 ?_
  refine z_iand C dJ6_bitCount_0f7a4_32 ?_
  refine z_istore_n C [(0, .int (((((p0 - ((((Int32.toUInt32 p0) >>> ((Int32.toUInt32 1) &&& Int32.toUInt32 31)).toInt32) &&& 1431655765)) &&& 858993459) + ((((Int32.toUInt32 (p0 - ((((Int32.toUInt32 p0) >>> ((Int32.toUInt32 1) &&& Int32.toUInt32 31)).toInt32) &&& 1431655765))) >>> ((Int32.toUInt32 2) &&& Int32.toUInt32 31)).toInt32) &&& 858993459)) + (((Int32.toUInt32 (((p0 - ((((Int32.toUInt32 p0) >>> ((Int32.toUInt32 1) &&& Int32.toUInt32 31)).toInt32) &&& 1431655765)) &&& 858993459) + ((((Int32.toUInt32 (p0 - ((((Int32.toUInt32 p0) >>> ((Int32.toUInt32 1) &&& Int32.toUInt32 31)).toInt32) &&& 1431655765))) >>> ((Int32.toUInt32 2) &&& Int32.toUInt32 31)).toInt32) &&& 858993459))) >>> ((Int32.toUInt32 4) &&& Int32.toUInt32 31)).toInt32)) &&& 252645135))] rfl (by decide) rfl dJ6_bitCount_0f7a4_33 ?_
  refine z_iload_n C 0 rfl dJ6_bitCount_0f7a4_34 ?_
  refine z_iload_n C 0 rfl dJ6_bitCount_0f7a4_35 ?_
  refine z_bipush C (v := 8) dJ6_bitCount_0f7a4_36 (by decide) ?_
  refine z_iushr C dJ6_bitCount_0f7a4_38 ?_
  refine z_iadd C dJ6_bitCount_0f7a4_39 ?_
  refine z_istore_n C [(0, .int ((((((p0 - ((((Int32.toUInt32 p0) >>> ((Int32.toUInt32 1) &&& Int32.toUInt32 31)).toInt32) &&& 1431655765)) &&& 858993459) + ((((Int32.toUInt32 (p0 - ((((Int32.toUInt32 p0) >>> ((Int32.toUInt32 1) &&& Int32.toUInt32 31)).toInt32) &&& 1431655765))) >>> ((Int32.toUInt32 2) &&& Int32.toUInt32 31)).toInt32) &&& 858993459)) + (((Int32.toUInt32 (((p0 - ((((Int32.toUInt32 p0) >>> ((Int32.toUInt32 1) &&& Int32.toUInt32 31)).toInt32) &&& 1431655765)) &&& 858993459) + ((((Int32.toUInt32 (p0 - ((((Int32.toUInt32 p0) >>> ((Int32.toUInt32 1) &&& Int32.toUInt32 31)).toInt32) &&& 1431655765))) >>> ((Int32.toUInt32 2) &&& Int32.toUInt32 31)).toInt32) &&& 858993459))) >>> ((Int32.toUInt32 4) &&& Int32.toUInt32 31)).toInt32)) &&& 252645135) + (((Int32.toUInt32 (((((p0 - ((((Int32.toUInt32 p0) >>> ((Int32.toUInt32 1) &&& Int32.toUInt32 31)).toInt32) &&& 1431655765)) &&& 858993459) + ((((Int32.toUInt32 (p0 - ((((Int32.toUInt32 p0) >>> ((Int32.toUInt32 1) &&& Int32.toUInt32 31)).toInt32) &&& 1431655765))) >>> ((Int32.toUInt32 2) &&& Int32.toUInt32 31)).toInt32) &&& 858993459)) + (((Int32.toUInt32 (((p0 - ((((Int32.toUInt32 p0) >>> ((Int32.toUInt32 1) &&& Int32.toUInt32 31)).toInt32) &&& 1431655765)) &&& 858993459) + ((((Int32.toUInt32 (p0 - ((((Int32.toUInt32 p0) >>> ((Int32.toUInt32 1) &&& Int32.toUInt32 31)).toInt32) &&& 1431655765))) >>> ((Int32.toUInt32 2) &&& Int32.toUInt32 31)).toInt32) &&& 858993459))) >>> ((Int32.toUInt32 4) &&& Int32.toUInt32 31)).toInt32)) &&& 252645135)) >>> ((Int32.toUInt32 8) &&& Int32.toUInt32 31)).toInt32)))] rfl (by decide) rfl dJ6_bitCount_0f7a4_40 ?_
  refine z_iload_n C 0 rfl dJ6_bitCount_0f7a4_41 ?_
  refine z_iload_n C 0 rfl dJ6_bitCount_0f7a4_42 ?_
  refine z_bipush C (v := 16) dJ6_bitCount_0f7a4_43 (by decide) ?_
  refine z_iushr C dJ6_bitCount_0f7a4_45 ?_
  refine z_iadd C dJ6_bitCount_0f7a4_46 ?_
  refine z_istore_n C [(0, .int (((((((p0 - ((((Int32.toUInt32 p0) >>> ((Int32.toUInt32 1) &&& Int32.toUInt32 31)).toInt32) &&& 1431655765)) &&& 858993459) + ((((Int32.toUInt32 (p0 - ((((Int32.toUInt32 p0) >>> ((Int32.toUInt32 1) &&& Int32.toUInt32 31)).toInt32) &&& 1431655765))) >>> ((Int32.toUInt32 2) &&& Int32.toUInt32 31)).toInt32) &&& 858993459)) + (((Int32.toUInt32 (((p0 - ((((Int32.toUInt32 p0) >>> ((Int32.toUInt32 1) &&& Int32.toUInt32 31)).toInt32) &&& 1431655765)) &&& 858993459) + ((((Int32.toUInt32 (p0 - ((((Int32.toUInt32 p0) >>> ((Int32.toUInt32 1) &&& Int32.toUInt32 31)).toInt32) &&& 1431655765))) >>> ((Int32.toUInt32 2) &&& Int32.toUInt32 31)).toInt32) &&& 858993459))) >>> ((Int32.toUInt32 4) &&& Int32.toUInt32 31)).toInt32)) &&& 252645135) + (((Int32.toUInt32 (((((p0 - ((((Int32.toUInt32 p0) >>> ((Int32.toUInt32 1) &&& Int32.toUInt32 31)).toInt32) &&& 1431655765)) &&& 858993459) + ((((Int32.toUInt32 (p0 - ((((Int32.toUInt32 p0) >>> ((Int32.toUInt32 1) &&& Int32.toUInt32 31)).toInt32) &&& 1431655765))) >>> ((Int32.toUInt32 2) &&& Int32.toUInt32 31)).toInt32) &&& 858993459)) + (((Int32.toUInt32 (((p0 - ((((Int32.toUInt32 p0) >>> ((Int32.toUInt32 1) &&& Int32.toUInt32 31)).toInt32) &&& 1431655765)) &&& 858993459) + ((((Int32.toUInt32 (p0 - ((((Int32.toUInt32 p0) >>> ((Int32.toUInt32 1) &&& Int32.toUInt32 31)).toInt32) &&& 1431655765))) >>> ((Int32.toUInt32 2) &&& Int32.toUInt32 31)).toInt32) &&& 858993459))) >>> ((Int32.toUInt32 4) &&& Int32.toUInt32 31)).toInt32)) &&& 252645135)) >>> ((Int32.toUInt32 8) &&& Int32.toUInt32 31)).toInt32)) + (((Int32.toUInt32 ((((((p0 - ((((Int32.toUInt32 p0) >>> ((Int32.toUInt32 1) &&& Int32.toUInt32 31)).toInt32) &&& 1431655765)) &&& 858993459) + ((((Int32.toUInt32 (p0 - ((((Int32.toUInt32 p0) >>> ((Int32.toUInt32 1) &&& Int32.toUInt32 31)).toInt32) &&& 1431655765))) >>> ((Int32.toUInt32 2) &&& Int32.toUInt32 31)).toInt32) &&& 858993459)) + (((Int32.toUInt32 (((p0 - ((((Int32.toUInt32 p0) >>> ((Int32.toUInt32 1) &&& Int32.toUInt32 31)).toInt32) &&& 1431655765)) &&& 858993459) + ((((Int32.toUInt32 (p0 - ((((Int32.toUInt32 p0) >>> ((Int32.toUInt32 1) &&& Int32.toUInt32 31)).toInt32) &&& 1431655765))) >>> ((Int32.toUInt32 2) &&& Int32.toUInt32 31)).toInt32) &&& 858993459))) >>> ((Int32.toUInt32 4) &&& Int32.toUInt32 31)).toInt32)) &&& 252645135) + (((Int32.toUInt32 (((((p0 - ((((Int32.toUInt32 p0) >>> ((Int32.toUInt32 1) &&& Int32.toUInt32 31)).toInt32) &&& 1431655765)) &&& 858993459) + ((((Int32.toUInt32 (p0 - ((((Int32.toUInt32 p0) >>> ((Int32.toUInt32 1) &&& Int32.toUInt32 31)).toInt32) &&& 1431655765))) >>> ((Int32.toUInt32 2) &&& Int32.toUInt32 31)).toInt32) &&& 858993459)) + (((Int32.toUInt32 (((p0 - ((((Int32.toUInt32 p0) >>> ((Int32.toUInt32 1) &&& Int32.toUInt32 31)).toInt32) &&& 1431655765)) &&& 858993459) + ((((Int32.toUInt32 (p0 - ((((Int32.toUInt32 p0) >>> ((Int32.toUInt32 1) &&& Int32.toUInt32 31)).toInt32) &&& 1431655765))) >>> ((Int32.toUInt32 2) &&& Int32.toUInt32 31)).toInt32) &&& 858993459))) >>> ((Int32.toUInt32 4) &&& Int32.toUInt32 31)).toInt32)) &&& 252645135)) >>> ((Int32.toUInt32 8) &&& Int32.toUInt32 31)).toInt32))) >>> ((Int32.toUInt32 16) &&& Int32.toUInt32 31)).toInt32)))] rfl (by decide) rfl dJ6_bitCount_0f7a4_47 ?_
  refine z_iload_n C 0 rfl dJ6_bitCount_0f7a4_48 ?_
  refine z_bipush C (v := 63) dJ6_bitCount_0f7a4_49 (by decide) ?_
  refine z_iand C dJ6_bitCount_0f7a4_51 ?_
  cases h
  exact z_iret C hr hlk dJ6_bitCount_0f7a4_52
