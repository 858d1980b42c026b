/-! The constructors: printed by wip/gen/ctor.py -/
theorem dX5_init_0 : decode cX5_init 0 = .ok (.aload_n 0, 1) := by decide +kernel
theorem dX5_init_1 : decode cX5_init 1 = .ok (.invokespecial 3, 3) := by decide +kernel
theorem dX5_init_4 : decode cX5_init 4 = .ok (.aload_n 0, 1) := by decide +kernel
theorem dX5_init_5 : decode cX5_init 5 = .ok (.bipush 10, 2) := by decide +kernel
theorem dX5_init_7 : decode cX5_init 7 = .ok (.newarray .long, 2) := by decide +kernel
theorem dX5_init_9 : decode cX5_init 9 = .ok (.putfield 9, 3) := by decide +kernel
theorem dX5_init_12 : decode cX5_init 12 = .ok (.aload_n 0, 1) := by decide +kernel
theorem dX5_init_13 : decode cX5_init 13 = .ok (.bipush 10, 2) := by decide +kernel
theorem dX5_init_15 : decode cX5_init 15 = .ok (.newarray .int, 2) := by decide +kernel
theorem dX5_init_17 : decode cX5_init 17 = .ok (.putfield 15, 3) := by decide +kernel
theorem dX5_init_20 : decode cX5_init 20 = .ok (.aload_n 0, 1) := by decide +kernel
theorem dX5_init_21 : decode cX5_init 21 = .ok (.bipush 10, 2) := by decide +kernel
theorem dX5_init_23 : decode cX5_init 23 = .ok (.newarray .int, 2) := by decide +kernel
theorem dX5_init_25 : decode cX5_init 25 = .ok (.putfield 19, 3) := by decide +kernel
theorem dX5_init_28 : decode cX5_init 28 = .ok (.aload_n 0, 1) := by decide +kernel
theorem dX5_init_29 : decode cX5_init 29 = .ok (.bipush 10, 2) := by decide +kernel
theorem dX5_init_31 : decode cX5_init 31 = .ok (.newarray .int, 2) := by decide +kernel
theorem dX5_init_33 : decode cX5_init 33 = .ok (.putfield 22, 3) := by decide +kernel
theorem dX5_init_36 : decode cX5_init 36 = .ok (.return_, 1) := by decide +kernel
def dfX5 : List Value := [.null, .null, .null, .null]
theorem dfX5_ok : ∀ j, j < 4 → defaultValue (tyX5 j) = vp_V dfX5 j := by decide +kernel
theorem n_X5 (l : Launch) (D : va_G) (A : Nat → Prop) (x : ClassId × ClassId × ClassId) (X : va_W) (q : Nat) : zN l yX5_init w_yX5_init ({ frames := 1, cells := 4, slots := 40, locals := 12 } : Room) D A (tyz x) 4 40 [.ref q] (X ++ [(q, .inr (5, dfX5))]) (fun ws' => ∃ (b0 : Nat) (b1 : Nat) (b2 : Nat) (b3 : Nat), ws' = X ++ (q, .inr (5, [.ref b0, .ref b1, .ref b2, .ref b3])) :: [(b0, .inl (x.2.1, 10, .inr (.inl (fun _ => 0)))), (b1, .inl (x.1, 10, .inl (fun _ => 0))), (b2, .inl (x.1, 10, .inl (fun _ => 0))), (b3, .inl (x.1, 10, .inl (fun _ => 0)))]) := by
  refine zN_start [.ref q] (lv := [(0, .ref q)]) (by decide) rfl (Nat.le_of_ble_eq_true rfl) rfl ?_
  intro p e s m args below meth c C hr hlk hin hO hA
  refine z_aload_n C 0 rfl dX5_init_0 ?_
  refine z_objI C ml_RX5_3 (by decide) (by decide) dX5_init_1 ?_
  refine z_aload_n C 0 rfl dX5_init_4 ?_
  refine z_bipush C (v := 10) dX5_init_5 (by decide) ?_
  refine z_newL C hA rfl 10 (by decide) (by decide) (by decide) (by decide) (by decide) dX5_init_7 (fun b0 => ?_)
  rw [ax_asc]
  refine z_putF C hin iRX5 tyX5 tyX5_ok nmX5 X.length (ax_get _ _ _) rfl 0 (by decide) rfl fl_RX5_9 rfl (ty := .array .long) (by decide +kernel) ⟨rfl, rfl⟩ (Nat.le_of_ble_eq_true rfl) (ax_set _ _ _ _) dX5_init_9 ?_
  refine z_aload_n C 0 rfl dX5_init_12 ?_
  refine z_bipush C (v := 10) dX5_init_13 (by decide) ?_
  refine z_newI C hA rfl 10 (by decide) (by decide) (by decide) (by decide) (by decide) dX5_init_15 (fun b1 => ?_)
  rw [ax_asc]
  refine z_putF C hin iRX5 tyX5 tyX5_ok nmX5 X.length (ax_get _ _ _) rfl 1 (by decide) rfl fl_RX5_15 rfl (ty := .array .int) (by decide +kernel) ⟨rfl, rfl⟩ (Nat.le_of_ble_eq_true rfl) (ax_set _ _ _ _) dX5_init_17 ?_
  refine z_aload_n C 0 rfl dX5_init_20 ?_
  refine z_bipush C (v := 10) dX5_init_21 (by decide) ?_
  refine z_newI C hA rfl 10 (by decide) (by decide) (by decide) (by decide) (by decide) dX5_init_23 (fun b2 => ?_)
  rw [ax_asc]
  refine z_putF C hin iRX5 tyX5 tyX5_ok nmX5 X.length (ax_get _ _ _) rfl 2 (by decide) rfl fl_RX5_19 rfl (ty := .array .int) (by decide +kernel) ⟨rfl, rfl⟩ (Nat.le_of_ble_eq_true rfl) (ax_set _ _ _ _) dX5_init_25 ?_
  refine z_aload_n C 0 rfl dX5_init_28 ?_
  refine z_bipush C (v := 10) dX5_init_29 (by decide) ?_
  refine z_newI C hA rfl 10 (by decide) (by decide) (by decide) (by decide) (by decide) dX5_init_31 (fun b3 => ?_)
  rw [ax_asc]
  refine z_putF C hin iRX5 tyX5 tyX5_ok nmX5 X.length (ax_get _ _ _) rfl 3 (by decide) rfl fl_RX5_22 rfl (ty := .array .int) (by decide +kernel) ⟨rfl, rfl⟩ (Nat.le_of_ble_eq_true rfl) (ax_set _ _ _ _) dX5_init_33 ?_
  exact zN_ret C hr hlk ⟨b0, b1, b2, b3, rfl⟩ dX5_init_36
theorem dX3_init_0 : decode cX3_init 0 = .ok (.aload_n 0, 1) := by decide +kernel
theorem dX3_init_1 : decode cX3_init 1 = .ok (.invokespecial 3, 3) := by decide +kernel
theorem dX3_init_4 : decode cX3_init 4 = .ok (.aload_n 0, 1) := by decide +kernel
theorem dX3_init_5 : decode cX3_init 5 = .ok (.bipush 16, 2) := by decide +kernel
theorem dX3_init_7 : decode cX3_init 7 = .ok (.newarray .int, 2) := by decide +kernel
theorem dX3_init_9 : decode cX3_init 9 = .ok (.putfield 9, 3) := by decide +kernel
theorem dX3_init_12 : decode cX3_init 12 = .ok (.aload_n 0, 1) := by decide +kernel
theorem dX3_init_13 : decode cX3_init 13 = .ok (.bipush 16, 2) := by decide +kernel
theorem dX3_init_15 : decode cX3_init 15 = .ok (.newarray .int, 2) := by decide +kernel
theorem dX3_init_17 : decode cX3_init 17 = .ok (.putfield 15, 3) := by decide +kernel
theorem dX3_init_20 : decode cX3_init 20 = .ok (.aload_n 0, 1) := by decide +kernel
theorem dX3_init_21 : decode cX3_init 21 = .ok (.sipush 128, 3) := by decide +kernel
theorem dX3_init_24 : decode cX3_init 24 = .ok (.newarray .int, 2) := by decide +kernel
theorem dX3_init_26 : decode cX3_init 26 = .ok (.putfield 18, 3) := by decide +kernel
theorem dX3_init_29 : decode cX3_init 29 = .ok (.return_, 1) := by decide +kernel
def dfX3 : List Value := [.int 0, .null, .null, .null]
theorem dfX3_ok : ∀ j, j < 4 → defaultValue (tyX3 j) = vp_V dfX3 j := by decide +kernel
theorem n_X3 (l : Launch) (D : va_G) (A : Nat → Prop) (x : ClassId × ClassId × ClassId) (X : va_W) (q : Nat) : zN l yX3_init w_yX3_init ({ frames := 1, cells := 3, slots := 160, locals := 12 } : Room) D A (tyz x) 3 160 [.ref q] (X ++ [(q, .inr (3, dfX3))]) (fun ws' => ∃ (b0 : Nat) (b1 : Nat) (b2 : Nat), ws' = X ++ (q, .inr (3, [.int 0, .ref b0, .ref b1, .ref b2])) :: [(b0, .inl (x.1, 16, .inl (fun _ => 0))), (b1, .inl (x.1, 16, .inl (fun _ => 0))), (b2, .inl (x.1, 128, .inl (fun _ => 0)))]) := by
  refine zN_start [.ref q] (lv := [(0, .ref q)]) (by decide) rfl (Nat.le_of_ble_eq_true rfl) rfl ?_
  intro p e s m args below meth c C hr hlk hin hO hA
  refine z_aload_n C 0 rfl dX3_init_0 ?_
  refine z_objI C ml_RX3_3 (by decide) (by decide) dX3_init_1 ?_
  refine z_aload_n C 0 rfl dX3_init_4 ?_
  refine z_bipush C (v := 16) dX3_init_5 (by decide) ?_
  refine z_newI C hA rfl 16 (by decide) (by decide) (by decide) (by decide) (by decide) dX3_init_7 (fun b0 => ?_)
  rw [ax_asc]
  refine z_putF C hin iRX3 tyX3 tyX3_ok nmX3 X.length (ax_get _ _ _) rfl 1 (by decide) rfl fl_RX3_9 rfl (ty := .array .int) (by decide +kernel) ⟨rfl, rfl⟩ (Nat.le_of_ble_eq_true rfl) (ax_set _ _ _ _) dX3_init_9 ?_
  refine z_aload_n C 0 rfl dX3_init_12 ?_
  refine z_bipush C (v := 16) dX3_init_13 (by decide) ?_
  refine z_newI C hA rfl 16 (by decide) (by decide) (by decide) (by decide) (by decide) dX3_init_15 (fun b1 => ?_)
  rw [ax_asc]
  refine z_putF C hin iRX3 tyX3 tyX3_ok nmX3 X.length (ax_get _ _ _) rfl 2 (by decide) rfl fl_RX3_15 rfl (ty := .array .int) (by decide +kernel) ⟨rfl, rfl⟩ (Nat.le_of_ble_eq_true rfl) (ax_set _ _ _ _) dX3_init_17 ?_
  refine z_aload_n C 0 rfl dX3_init_20 ?_
  refine z_sipush C (v := 128) dX3_init_21 (by decide) ?_
  refine z_newI C hA rfl 128 (by decide) (by decide) (by decide) (by decide) (by decide) dX3_init_24 (fun b2 => ?_)
  rw [ax_asc]
  refine z_putF C hin iRX3 tyX3 tyX3_ok nmX3 X.length (ax_get _ _ _) rfl 3 (by decide) rfl fl_RX3_18 rfl (ty := .array .int) (by decide +kernel) ⟨rfl, rfl⟩ (Nat.le_of_ble_eq_true rfl) (ax_set _ _ _ _) dX3_init_26 ?_
  exact zN_ret C hr hlk ⟨b0, b1, b2, rfl⟩ dX3_init_29
theorem dX1_init_0 : decode cX1_init 0 = .ok (.aload_n 0, 1) := by decide +kernel
theorem dX1_init_1 : decode cX1_init 1 = .ok (.invokespecial 3, 3) := by decide +kernel
theorem dX1_init_4 : decode cX1_init 4 = .ok (.aload_n 0, 1) := by decide +kernel
theorem dX1_init_5 : decode cX1_init 5 = .ok (.bipush 10, 2) := by decide +kernel
theorem dX1_init_7 : decode cX1_init 7 = .ok (.bipush 10, 2) := by decide +kernel
theorem dX1_init_9 : decode cX1_init 9 = .ok (.multianewarray 9 2, 4) := by decide +kernel
theorem dX1_init_13 : decode cX1_init 13 = .ok (.putfield 11, 3) := by decide +kernel
theorem dX1_init_16 : decode cX1_init 16 = .ok (.return_, 1) := by decide +kernel
def dfX1 : List Value := [.int 0, .int 0, .int 0, .int 0, .null]
theorem dfX1_ok : ∀ j, j < 5 → defaultValue (tyX1 j) = vp_V dfX1 j := by decide +kernel
theorem n_X1 (l : Launch) (D : va_G) (A : Nat → Prop) (x : ClassId × ClassId × ClassId) (X : va_W) (q : Nat) : zN l yX1_init w_yX1_init ({ frames := 1, cells := 11, slots := 110, locals := 12 } : Room) D A (tyz x) 11 110 [.ref q] (X ++ [(q, .inr (1, dfX1))]) (fun ws' => ∃ (b0 : Nat) (r0 : Nat → Nat), ws' = X ++ (q, .inr (1, [.int 0, .int 0, .int 0, .int 0, .ref b0])) :: [(b0, .inl (x.2.2, 10, .inr (.inr (.inr (.inr (fun i => if i < 10 then some (r0 i) else none)))))), (r0 0, .inl (x.1, 10, .inl (fun _ => 0))), (r0 1, .inl (x.1, 10, .inl (fun _ => 0))), (r0 2, .inl (x.1, 10, .inl (fun _ => 0))), (r0 3, .inl (x.1, 10, .inl (fun _ => 0))), (r0 4, .inl (x.1, 10, .inl (fun _ => 0))), (r0 5, .inl (x.1, 10, .inl (fun _ => 0))), (r0 6, .inl (x.1, 10, .inl (fun _ => 0))), (r0 7, .inl (x.1, 10, .inl (fun _ => 0))), (r0 8, .inl (x.1, 10, .inl (fun _ => 0))), (r0 9, .inl (x.1, 10, .inl (fun _ => 0)))]) := by
  refine zN_start [.ref q] (lv := [(0, .ref q)]) (by decide) rfl (Nat.le_of_ble_eq_true rfl) rfl ?_
  intro p e s m args below meth c C hr hlk hin hO hA
  refine z_aload_n C 0 rfl dX1_init_0 ?_
  refine z_objI C ml_RX1_3 (by decide) (by decide) dX1_init_1 ?_
  refine z_aload_n C 0 rfl dX1_init_4 ?_
  refine z_bipush C (v := 10) dX1_init_5 (by decide) ?_
  refine z_bipush C (v := 10) dX1_init_7 (by decide) ?_
  refine z_mna C hO hA rfl rfl kl_RX1_9 (by decide) (by decide) dX1_init_9 (fun b0 r0 => ?_)
  rw [ax_asc]
  refine z_putF C hin iRX1 tyX1 tyX1_ok nmX1 X.length (ax_get _ _ _) rfl 4 (by decide) rfl fl_RX1_11 rfl (ty := .array (.array .int)) (by decide +kernel) ⟨rfl, rfl⟩ (Nat.le_of_ble_eq_true rfl) (ax_set _ _ _ _) dX1_init_13 ?_
  exact zN_ret C hr hlk ⟨b0, r0, rfl⟩ dX1_init_16
theorem dX2_init_0 : decode cX2_init 0 = .ok (.aload_n 0, 1) := by decide +kernel
theorem dX2_init_1 : decode cX2_init 1 = .ok (.invokespecial 3, 3) := by decide +kernel
theorem dX2_init_4 : decode cX2_init 4 = .ok (.aload_n 0, 1) := by decide +kernel
theorem dX2_init_5 : decode cX2_init 5 = .ok (.sipush 128, 3) := by decide +kernel
theorem dX2_init_8 : decode cX2_init 8 = .ok (.newarray .int, 2) := by decide +kernel
theorem dX2_init_10 : decode cX2_init 10 = .ok (.putfield 9, 3) := by decide +kernel
theorem dX2_init_13 : decode cX2_init 13 = .ok (.iconst 0, 1) := by decide +kernel
theorem dX2_init_14 : decode cX2_init 14 = .ok (.istore_n 1, 1) := by decide +kernel
theorem dX2_init_15 : decode cX2_init 15 = .ok (.iload_n 1, 1) := by decide +kernel
theorem dX2_init_16 : decode cX2_init 16 = .ok (.sipush 128, 3) := by decide +kernel
theorem dX2_init_19 : decode cX2_init 19 = .ok (.if_icmp .ge 16, 3) := by decide +kernel
theorem dX2_init_22 : decode cX2_init 22 = .ok (.aload_n 0, 1) := by decide +kernel
theorem dX2_init_23 : decode cX2_init 23 = .ok (.getfield 9, 3) := by decide +kernel
theorem dX2_init_26 : decode cX2_init 26 = .ok (.iload_n 1, 1) := by decide +kernel
theorem dX2_init_27 : decode cX2_init 27 = .ok (.iconst (-1), 1) := by decide +kernel
theorem dX2_init_28 : decode cX2_init 28 = .ok (.iastore, 1) := by decide +kernel
theorem dX2_init_29 : decode cX2_init 29 = .ok (.iinc 1 1, 3) := by decide +kernel
theorem dX2_init_32 : decode cX2_init 32 = .ok (.goto (-17), 3) := by decide +kernel
theorem dX2_init_35 : decode cX2_init 35 = .ok (.return_, 1) := by decide +kernel
def dfX2 : List Value := [.int 0, .null]
theorem dfX2_ok : ∀ j, j < 2 → defaultValue (tyX2 j) = vp_V dfX2 j := by decide +kernel
theorem n_X2 (l : Launch) (D : va_G) (A : Nat → Prop) (x : ClassId × ClassId × ClassId) (X : va_W) (q : Nat) : zN l yX2_init w_yX2_init ({ frames := 1, cells := 1, slots := 128, locals := 12 } : Room) D A (tyz x) 1 128 [.ref q] (X ++ [(q, .inr (2, dfX2))]) (fun ws' => ∃ (b0 : Nat) (f9 : Nat → Int32), (∀ j, j < 128 → f9 j = -1) ∧ ws' = X ++ (q, .inr (2, [.int 0, .ref b0])) :: [(b0, .inl (x.1, 128, .inl f9))]) := by
  refine zN_start [.ref q] (lv := [(0, .ref q)]) (by decide) rfl (Nat.le_of_ble_eq_true rfl) rfl ?_
  intro p e s m args below meth c C hr hlk hin hO hA
  refine z_aload_n C 0 rfl dX2_init_0 ?_
  refine z_objI C ml_RX2_3 (by decide) (by decide) dX2_init_1 ?_
  refine z_aload_n C 0 rfl dX2_init_4 ?_
  refine z_sipush C (v := 128) dX2_init_5 (by decide) ?_
  refine z_newI C hA rfl 128 (by decide) (by decide) (by decide) (by decide) (by decide) dX2_init_8 (fun b0 => ?_)
  rw [ax_asc]
  refine z_putF C hin iRX2 tyX2 tyX2_ok nmX2 X.length (ax_get _ _ _) rfl 1 (by decide) rfl fl_RX2_9 rfl (ty := .array .int) (by decide +kernel) ⟨rfl, rfl⟩ (Nat.le_of_ble_eq_true rfl) (ax_set _ _ _ _) dX2_init_10 ?_
  refine z_iconst C (v := 0) dX2_init_13 (by decide) ?_
  refine z_istore_n C [(1, .int 0), (0, .ref q)] rfl (by decide) rfl dX2_init_14 ?_
  have L : ∀ (n k : Nat) (f : Nat → Int32), k + n = 128 → (∀ j, j < k → f j = -1) → zV p l e ({ frames := 1, cells := 1, slots := 128, locals := 12 } : Room) s m args below meth c (0 + 1) (0 + 128) (MQ below (fun _ st oc t => oc = .returned none ∧ (∃ ws', (∃ (b0 : Nat) (f9 : Nat → Int32), (∀ j, j < 128 → f9 j = -1) ∧ ws' = X ++ (q, .inr (2, [.int 0, .ref b0])) :: [(b0, .inl (x.1, 128, .inl f9))]) ∧ va_P D clz ws' t.heap ∧ va_D A ws') ∧ va_F A st t) args s 1 128 A) D A 2 (X ++ (q, .inr (2, [.int 0, .ref b0])) :: (b0, .inl (x.1, 128, .inl f)) :: []) 15 [(1, .int (nI k)), (0, .ref q)] [] := by
    intro n
    induction n with
    | zero =>
      intro k f hk hf
      have hk : k = 128 := by omega
      subst hk
      refine z_iload_n C 0 rfl dX2_init_15 ?_
      refine z_sipush C (v := 128) dX2_init_16 (by decide) ?_
      refine z_icmp_ge C 35 (by decide) dX2_init_19 (X := some ()) (Y := none) (r := ()) (by decide) (fun _ => ?_) (fun h => by cases h)
      exact zN_ret C hr hlk ⟨b0, f, hf, rfl⟩ dX2_init_35
    | succ n ih =>
      intro k f hk hf
      refine z_iload_n C 0 rfl dX2_init_15 ?_
      refine z_sipush C (v := 128) dX2_init_16 (by decide) ?_
      refine z_icmp_ge C 35 (by decide) dX2_init_19 (X := none) (Y := some ()) (r := ()) (if_neg (nI_ge (b := 128) (by omega) (by decide))) (fun h => by cases h) (fun _ => ?_)
      refine z_aload_n C 1 rfl dX2_init_22 ?_
      refine z_get C iRX2 X.length (ax_get _ _ _) rfl 1 (by decide) fl_RX2_9 rfl dX2_init_23 ?_
      refine z_iload_n C 0 rfl dX2_init_26 ?_
      refine z_iconst C (v := -1) dX2_init_27 (by decide) ?_
      refine z_iast C (X.length + 1) 0 (ax_get1 _ _ _ _) rfl (ax_set1 _ _ _ _ _) dX2_init_28 (o := some ()) (r := ()) (by unfold ck; rw [if_pos (inb_nI (by omega) (by decide))]) (fun _ => ?_)
      refine z_iinc C (n := 1) (v := nI (k + 1)) [(1, .int (nI (k + 1))), (0, .ref q)] 0 rfl (nI_1 k) (by decide) rfl dX2_init_29 ?_
      refine z_goto C 15 (by decide) dX2_init_32 ?_
      refine ih (k + 1) _ (by omega) (fun j hj => ?_)
      rw [nI_clamp (by omega)]
      unfold upd
      by_cases h9 : j = k
      · rw [if_pos h9]
      · rw [if_neg h9]
        exact hf j (by omega)
  exact L 128 0 _ rfl (fun j hj => absurd hj (Nat.not_lt_zero j))
theorem dX4_init_0 : decode cX4_init 0 = .ok (.aload_n 0, 1) := by decide +kernel
theorem dX4_init_1 : decode cX4_init 1 = .ok (.invokespecial 3, 3) := by decide +kernel
theorem dX4_init_4 : decode cX4_init 4 = .ok (.aload_n 0, 1) := by decide +kernel
theorem dX4_init_5 : decode cX4_init 5 = .ok (.new 9, 3) := by decide +kernel
theorem dX4_init_8 : decode cX4_init 8 = .ok (.dup, 1) := by decide +kernel
theorem dX4_init_9 : decode cX4_init 9 = .ok (.invokespecial 11, 3) := by decide +kernel
theorem dX4_init_12 : decode cX4_init 12 = .ok (.putfield 12, 3) := by decide +kernel
theorem dX4_init_15 : decode cX4_init 15 = .ok (.aload_n 0, 1) := by decide +kernel
theorem dX4_init_16 : decode cX4_init 16 = .ok (.new 9, 3) := by decide +kernel
theorem dX4_init_19 : decode cX4_init 19 = .ok (.dup, 1) := by decide +kernel
theorem dX4_init_20 : decode cX4_init 20 = .ok (.invokespecial 11, 3) := by decide +kernel
theorem dX4_init_23 : decode cX4_init 23 = .ok (.putfield 18, 3) := by decide +kernel
theorem dX4_init_26 : decode cX4_init 26 = .ok (.aload_n 0, 1) := by decide +kernel
theorem dX4_init_27 : decode cX4_init 27 = .ok (.aload_n 1, 1) := by decide +kernel
theorem dX4_init_28 : decode cX4_init 28 = .ok (.putfield 21, 3) := by decide +kernel
theorem dX4_init_31 : decode cX4_init 31 = .ok (.aload_n 0, 1) := by decide +kernel
theorem dX4_init_32 : decode cX4_init 32 = .ok (.aload_n 2, 1) := by decide +kernel
theorem dX4_init_33 : decode cX4_init 33 = .ok (.putfield 25, 3) := by decide +kernel
theorem dX4_init_36 : decode cX4_init 36 = .ok (.aload_n 0, 1) := by decide +kernel
theorem dX4_init_37 : decode cX4_init 37 = .ok (.aload_n 3, 1) := by decide +kernel
theorem dX4_init_38 : decode cX4_init 38 = .ok (.putfield 29, 3) := by decide +kernel
theorem dX4_init_41 : decode cX4_init 41 = .ok (.return_, 1) := by decide +kernel
def dfX4 : List Value := [.null, .null, .null, .null, .null, .int 0]
theorem dfX4_ok : ∀ j, j < 6 → defaultValue (tyX4 j) = vp_V dfX4 j := by decide +kernel
theorem n_X4 (l : Launch) (D : va_G) (A : Nat → Prop) (x : ClassId × ClassId × ClassId) (X : va_W) (q g0 g1 g2 : Nat) : zN l yX4_init w_yX4_init ({ frames := 2, cells := 10, slots := 88, locals := 32 } : Room) D A (tyz x) 10 88 [.ref q, .ref g0, .ref g1, .ref g2] (X ++ [(q, .inr (4, dfX4))]) (fun ws' => ∃ (b0 : Nat) (b1 : Nat) (b2 : Nat) (b3 : Nat) (b4 : Nat) (b5 : Nat) (b6 : Nat) (b7 : Nat) (b8 : Nat) (b9 : Nat), ws' = X ++ (q, .inr (4, [.ref g0, .ref g1, .ref g2, .ref b0, .ref b5, .int 0])) :: [(b0, .inr (5, [.ref b1, .ref b2, .ref b3, .ref b4])), (b1, .inl (x.2.1, 10, .inr (.inl (fun _ => 0)))), (b2, .inl (x.1, 10, .inl (fun _ => 0))), (b3, .inl (x.1, 10, .inl (fun _ => 0))), (b4, .inl (x.1, 10, .inl (fun _ => 0))), (b5, .inr (5, [.ref b6, .ref b7, .ref b8, .ref b9])), (b6, .inl (x.2.1, 10, .inr (.inl (fun _ => 0)))), (b7, .inl (x.1, 10, .inl (fun _ => 0))), (b8, .inl (x.1, 10, .inl (fun _ => 0))), (b9, .inl (x.1, 10, .inl (fun _ => 0)))]) := by
  refine zN_start [.ref q, .ref g0, .ref g1, .ref g2] (lv := [(0, .ref q), (1, .ref g0), (2, .ref g1), (3, .ref g2)]) (by decide) rfl (Nat.le_of_ble_eq_true rfl) rfl ?_
  intro p e s m args below meth c C hr hlk hin hO hA
  refine z_aload_n C 0 rfl dX4_init_0 ?_
  refine z_objI C ml_RX4_3 (by decide) (by decide) dX4_init_1 ?_
  refine z_aload_n C 0 rfl dX4_init_4 ?_
  refine z_new C hA (ci := 5) iRX5 tyX5 tyX5_ok kl_RX4_9 it_RX5 in_RX5 rfl dfX5 (fun j hj => dfX5_ok j hj) (by decide) (by decide) dX4_init_5 (fun b0 => ?_)
  rw [ax_asc]
  refine z_dup C rfl dX4_init_8 ?_
  rw [← ax_asc]
  refine z_callIN C hO hA [] [.ref b0, .ref q] 2 rfl (n_X5 l D A x _ b0) rfl cd_yX5_init in_RX5 rfl im_yX5_init (n := 0) ⟨by decide +kernel, by decide +kernel, by decide +kernel⟩ (by decide) rfl (Nat.le_of_ble_eq_true rfl) (by decide) dX4_init_9 (fun w hw => ?_)
  obtain ⟨b1, b2, b3, b4, rfl⟩ := hw
  rw [ax_asc]
  refine z_putF C hin iRX4 tyX4 tyX4_ok nmX4 X.length (ax_get _ _ _) rfl 3 (by decide) rfl fl_RX4_12 rfl (ty := .object "RouteWatch$Ways") (by decide +kernel) ⟨rfl, rfl⟩ (Nat.le_of_ble_eq_true rfl) (ax_set _ _ _ _) dX4_init_12 ?_
  refine z_aload_n C 0 rfl dX4_init_15 ?_
  refine z_new C hA (ci := 5) iRX5 tyX5 tyX5_ok kl_RX4_9 it_RX5 in_RX5 rfl dfX5 (fun j hj => dfX5_ok j hj) (by decide) (by decide) dX4_init_16 (fun b5 => ?_)
  rw [ax_asc]
  refine z_dup C rfl dX4_init_19 ?_
  rw [← ax_asc]
  refine z_callIN C hO hA [] [.ref b5, .ref q] 2 rfl (n_X5 l D A x _ b5) rfl cd_yX5_init in_RX5 rfl im_yX5_init (n := 0) ⟨by decide +kernel, by decide +kernel, by decide +kernel⟩ (by decide) rfl (Nat.le_of_ble_eq_true rfl) (by decide) dX4_init_20 (fun w hw => ?_)
  obtain ⟨b6, b7, b8, b9, rfl⟩ := hw
  rw [ax_asc]
  refine z_putF C hin iRX4 tyX4 tyX4_ok nmX4 X.length (ax_get _ _ _) rfl 4 (by decide) rfl fl_RX4_18 rfl (ty := .object "RouteWatch$Ways") (by decide +kernel) ⟨rfl, rfl⟩ (Nat.le_of_ble_eq_true rfl) (ax_set _ _ _ _) dX4_init_23 ?_
  refine z_aload_n C 0 rfl dX4_init_26 ?_
  refine z_aload_n C 1 rfl dX4_init_27 ?_
  refine z_putF C hin iRX4 tyX4 tyX4_ok nmX4 X.length (ax_get _ _ _) rfl 0 (by decide) rfl fl_RX4_21 rfl (ty := .object "RouteWatch$Houses") (by decide +kernel) ⟨rfl, rfl⟩ (Nat.le_of_ble_eq_true rfl) (ax_set _ _ _ _) dX4_init_28 ?_
  refine z_aload_n C 0 rfl dX4_init_31 ?_
  refine z_aload_n C 2 rfl dX4_init_32 ?_
  refine z_putF C hin iRX4 tyX4 tyX4_ok nmX4 X.length (ax_get _ _ _) rfl 1 (by decide) rfl fl_RX4_25 rfl (ty := .object "RouteWatch$Rights") (by decide +kernel) ⟨rfl, rfl⟩ (Nat.le_of_ble_eq_true rfl) (ax_set _ _ _ _) dX4_init_33 ?_
  refine z_aload_n C 0 rfl dX4_init_36 ?_
  refine z_aload_n C 3 rfl dX4_init_37 ?_
  refine z_putF C hin iRX4 tyX4 tyX4_ok nmX4 X.length (ax_get _ _ _) rfl 2 (by decide) rfl fl_RX4_29 rfl (ty := .object "RouteWatch$Sayings") (by decide +kernel) ⟨rfl, rfl⟩ (Nat.le_of_ble_eq_true rfl) (ax_set _ _ _ _) dX4_init_38 ?_
  exact zN_ret C hr hlk ⟨b0, b1, b2, b3, b4, b5, b6, b7, b8, b9, rfl⟩ dX4_init_41
theorem dX0_init_0 : decode cX0_init 0 = .ok (.aload_n 0, 1) := by decide +kernel
theorem dX0_init_1 : decode cX0_init 1 = .ok (.invokespecial 3, 3) := by decide +kernel
theorem dX0_init_4 : decode cX0_init 4 = .ok (.aload_n 0, 1) := by decide +kernel
theorem dX0_init_5 : decode cX0_init 5 = .ok (.bipush 10, 2) := by decide +kernel
theorem dX0_init_7 : decode cX0_init 7 = .ok (.newarray .int, 2) := by decide +kernel
theorem dX0_init_9 : decode cX0_init 9 = .ok (.putfield 9, 3) := by decide +kernel
theorem dX0_init_12 : decode cX0_init 12 = .ok (.aload_n 0, 1) := by decide +kernel
theorem dX0_init_13 : decode cX0_init 13 = .ok (.aload_n 1, 1) := by decide +kernel
theorem dX0_init_14 : decode cX0_init 14 = .ok (.putfield 15, 3) := by decide +kernel
theorem dX0_init_17 : decode cX0_init 17 = .ok (.aload_n 0, 1) := by decide +kernel
theorem dX0_init_18 : decode cX0_init 18 = .ok (.aload_n 2, 1) := by decide +kernel
theorem dX0_init_19 : decode cX0_init 19 = .ok (.putfield 19, 3) := by decide +kernel
theorem dX0_init_22 : decode cX0_init 22 = .ok (.aload_n 0, 1) := by decide +kernel
theorem dX0_init_23 : decode cX0_init 23 = .ok (.aload_n 3, 1) := by decide +kernel
theorem dX0_init_24 : decode cX0_init 24 = .ok (.putfield 23, 3) := by decide +kernel
theorem dX0_init_27 : decode cX0_init 27 = .ok (.aload_n 0, 1) := by decide +kernel
theorem dX0_init_28 : decode cX0_init 28 = .ok (.aload 4, 2) := by decide +kernel
theorem dX0_init_30 : decode cX0_init 30 = .ok (.putfield 27, 3) := by decide +kernel
theorem dX0_init_33 : decode cX0_init 33 = .ok (.return_, 1) := by decide +kernel
def dfX0 : List Value := [.null, .null, .null, .null, .null]
theorem dfX0_ok : ∀ j, j < 5 → defaultValue (tyX0 j) = vp_V dfX0 j := by decide +kernel
theorem n_X0 (l : Launch) (D : va_G) (A : Nat → Prop) (x : ClassId × ClassId × ClassId) (X : va_W) (q g0 g1 g2 g3 : Nat) : zN l yX0_init w_yX0_init ({ frames := 1, cells := 1, slots := 10, locals := 12 } : Room) D A (tyz x) 1 10 [.ref q, .ref g0, .ref g1, .ref g2, .ref g3] (X ++ [(q, .inr (0, dfX0))]) (fun ws' => ∃ (b0 : Nat), ws' = X ++ (q, .inr (0, [.ref g0, .ref g1, .ref g2, .ref g3, .ref b0])) :: [(b0, .inl (x.1, 10, .inl (fun _ => 0)))]) := by
  refine zN_start [.ref q, .ref g0, .ref g1, .ref g2, .ref g3] (lv := [(0, .ref q), (1, .ref g0), (2, .ref g1), (3, .ref g2), (4, .ref g3)]) (by decide) rfl (Nat.le_of_ble_eq_true rfl) rfl ?_
  intro p e s m args below meth c C hr hlk hin hO hA
  refine z_aload_n C 0 rfl dX0_init_0 ?_
  refine z_objI C ml_RX0_3 (by decide) (by decide) dX0_init_1 ?_
  refine z_aload_n C 0 rfl dX0_init_4 ?_
  refine z_bipush C (v := 10) dX0_init_5 (by decide) ?_
  refine z_newI C hA rfl 10 (by decide) (by decide) (by decide) (by decide) (by decide) dX0_init_7 (fun b0 => ?_)
  rw [ax_asc]
  refine z_putF C hin iRX0 tyX0 tyX0_ok nmX0 X.length (ax_get _ _ _) rfl 4 (by decide) rfl fl_RX0_9 rfl (ty := .array .int) (by decide +kernel) ⟨rfl, rfl⟩ (Nat.le_of_ble_eq_true rfl) (ax_set _ _ _ _) dX0_init_9 ?_
  refine z_aload_n C 0 rfl dX0_init_12 ?_
  refine z_aload_n C 1 rfl dX0_init_13 ?_
  refine z_putF C hin iRX0 tyX0 tyX0_ok nmX0 X.length (ax_get _ _ _) rfl 0 (by decide) rfl fl_RX0_15 rfl (ty := .object "RouteWatch$Houses") (by decide +kernel) ⟨rfl, rfl⟩ (Nat.le_of_ble_eq_true rfl) (ax_set _ _ _ _) dX0_init_14 ?_
  refine z_aload_n C 0 rfl dX0_init_17 ?_
  refine z_aload_n C 2 rfl dX0_init_18 ?_
  refine z_putF C hin iRX0 tyX0 tyX0_ok nmX0 X.length (ax_get _ _ _) rfl 1 (by decide) rfl fl_RX0_19 rfl (ty := .object "RouteWatch$Rights") (by decide +kernel) ⟨rfl, rfl⟩ (Nat.le_of_ble_eq_true rfl) (ax_set _ _ _ _) dX0_init_19 ?_
  refine z_aload_n C 0 rfl dX0_init_22 ?_
  refine z_aload_n C 3 rfl dX0_init_23 ?_
  refine z_putF C hin iRX0 tyX0 tyX0_ok nmX0 X.length (ax_get _ _ _) rfl 2 (by decide) rfl fl_RX0_23 rfl (ty := .object "RouteWatch$Sayings") (by decide +kernel) ⟨rfl, rfl⟩ (Nat.le_of_ble_eq_true rfl) (ax_set _ _ _ _) dX0_init_24 ?_
  refine z_aload_n C 0 rfl dX0_init_27 ?_
  refine z_aload C 4 rfl dX0_init_28 ?_
  refine z_putF C hin iRX0 tyX0 tyX0_ok nmX0 X.length (ax_get _ _ _) rfl 3 (by decide) rfl fl_RX0_27 rfl (ty := .object "RouteWatch$Settling") (by decide +kernel) ⟨rfl, rfl⟩ (Nat.le_of_ble_eq_true rfl) (ax_set _ _ _ _) dX0_init_30 ?_
  exact zN_ret C hr hlk ⟨b0, rfl⟩ dX0_init_33
theorem dX6_init_0 : decode cX6_init 0 = .ok (.aload_n 0, 1) := by decide +kernel
theorem dX6_init_1 : decode cX6_init 1 = .ok (.invokespecial 3, 3) := by decide +kernel
theorem dX6_init_4 : decode cX6_init 4 = .ok (.aload_n 0, 1) := by decide +kernel
theorem dX6_init_5 : decode cX6_init 5 = .ok (.new 9, 3) := by decide +kernel
theorem dX6_init_8 : decode cX6_init 8 = .ok (.dup, 1) := by decide +kernel
theorem dX6_init_9 : decode cX6_init 9 = .ok (.invokespecial 11, 3) := by decide +kernel
theorem dX6_init_12 : decode cX6_init 12 = .ok (.putfield 12, 3) := by decide +kernel
theorem dX6_init_15 : decode cX6_init 15 = .ok (.aload_n 0, 1) := by decide +kernel
theorem dX6_init_16 : decode cX6_init 16 = .ok (.new 16, 3) := by decide +kernel
theorem dX6_init_19 : decode cX6_init 19 = .ok (.dup, 1) := by decide +kernel
theorem dX6_init_20 : decode cX6_init 20 = .ok (.invokespecial 18, 3) := by decide +kernel
theorem dX6_init_23 : decode cX6_init 23 = .ok (.putfield 19, 3) := by decide +kernel
theorem dX6_init_26 : decode cX6_init 26 = .ok (.aload_n 0, 1) := by decide +kernel
theorem dX6_init_27 : decode cX6_init 27 = .ok (.new 23, 3) := by decide +kernel
theorem dX6_init_30 : decode cX6_init 30 = .ok (.dup, 1) := by decide +kernel
theorem dX6_init_31 : decode cX6_init 31 = .ok (.invokespecial 25, 3) := by decide +kernel
theorem dX6_init_34 : decode cX6_init 34 = .ok (.putfield 26, 3) := by decide +kernel
theorem dX6_init_37 : decode cX6_init 37 = .ok (.aload_n 0, 1) := by decide +kernel
theorem dX6_init_38 : decode cX6_init 38 = .ok (.new 30, 3) := by decide +kernel
theorem dX6_init_41 : decode cX6_init 41 = .ok (.dup, 1) := by decide +kernel
theorem dX6_init_42 : decode cX6_init 42 = .ok (.aload_n 0, 1) := by decide +kernel
theorem dX6_init_43 : decode cX6_init 43 = .ok (.getfield 12, 3) := by decide +kernel
theorem dX6_init_46 : decode cX6_init 46 = .ok (.aload_n 0, 1) := by decide +kernel
theorem dX6_init_47 : decode cX6_init 47 = .ok (.getfield 19, 3) := by decide +kernel
theorem dX6_init_50 : decode cX6_init 50 = .ok (.aload_n 0, 1) := by decide +kernel
theorem dX6_init_51 : decode cX6_init 51 = .ok (.getfield 26, 3) := by decide +kernel
theorem dX6_init_54 : decode cX6_init 54 = .ok (.invokespecial 32, 3) := by decide +kernel
theorem dX6_init_57 : decode cX6_init 57 = .ok (.putfield 35, 3) := by decide +kernel
theorem dX6_init_60 : decode cX6_init 60 = .ok (.aload_n 0, 1) := by decide +kernel
theorem dX6_init_61 : decode cX6_init 61 = .ok (.new 39, 3) := by decide +kernel
theorem dX6_init_64 : decode cX6_init 64 = .ok (.dup, 1) := by decide +kernel
theorem dX6_init_65 : decode cX6_init 65 = .ok (.aload_n 0, 1) := by decide +kernel
theorem dX6_init_66 : decode cX6_init 66 = .ok (.getfield 12, 3) := by decide +kernel
theorem dX6_init_69 : decode cX6_init 69 = .ok (.aload_n 0, 1) := by decide +kernel
theorem dX6_init_70 : decode cX6_init 70 = .ok (.getfield 19, 3) := by decide +kernel
theorem dX6_init_73 : decode cX6_init 73 = .ok (.aload_n 0, 1) := by decide +kernel
theorem dX6_init_74 : decode cX6_init 74 = .ok (.getfield 26, 3) := by decide +kernel
theorem dX6_init_77 : decode cX6_init 77 = .ok (.aload_n 0, 1) := by decide +kernel
theorem dX6_init_78 : decode cX6_init 78 = .ok (.getfield 35, 3) := by decide +kernel
theorem dX6_init_81 : decode cX6_init 81 = .ok (.invokespecial 41, 3) := by decide +kernel
theorem dX6_init_84 : decode cX6_init 84 = .ok (.putfield 44, 3) := by decide +kernel
theorem dX6_init_87 : decode cX6_init 87 = .ok (.aload_n 0, 1) := by decide +kernel
theorem dX6_init_88 : decode cX6_init 88 = .ok (.bipush 16, 2) := by decide +kernel
theorem dX6_init_90 : decode cX6_init 90 = .ok (.newarray .int, 2) := by decide +kernel
theorem dX6_init_92 : decode cX6_init 92 = .ok (.putfield 48, 3) := by decide +kernel
theorem dX6_init_95 : decode cX6_init 95 = .ok (.return_, 1) := by decide +kernel
def dfX6 : List Value := [.null, .null, .null, .null, .null, .null]
theorem dfX6_ok : ∀ j, j < 6 → defaultValue (tyX6 j) = vp_V dfX6 j := by decide +kernel
theorem n_X6 (l : Launch) (D : va_G) (A : Nat → Prop) (x : ClassId × ClassId × ClassId) (X : va_W) (q : Nat) : zN l yX6_init w_yX6_init ({ frames := 3, cells := 32, slots := 534, locals := 55 } : Room) D A (tyz x) 32 534 [.ref q] (X ++ [(q, .inr (6, dfX6))]) (fun ws' => ∃ (b0 : Nat) (b1 : Nat) (r2 : Nat → Nat) (b3 : Nat) (b4 : Nat) (f5 : Nat → Int32) (b7 : Nat) (b8 : Nat) (b9 : Nat) (b10 : Nat) (b11 : Nat) (b12 : Nat) (b13 : Nat) (b14 : Nat) (b15 : Nat) (b16 : Nat) (b17 : Nat) (b18 : Nat) (b19 : Nat) (b20 : Nat) (b21 : Nat) (b22 : Nat) (b23 : Nat) (b24 : Nat), (∀ j, j < 128 → f5 j = -1) ∧ ws' = X ++ (q, .inr (6, [.ref b0, .ref b3, .ref b7, .ref b11, .ref b22, .ref b24])) :: [(b0, .inr (1, [.int 0, .int 0, .int 0, .int 0, .ref b1])), (b1, .inl (x.2.2, 10, .inr (.inr (.inr (.inr (fun i => if i < 10 then some (r2 i) else none)))))), (r2 0, .inl (x.1, 10, .inl (fun _ => 0))), (r2 1, .inl (x.1, 10, .inl (fun _ => 0))), (r2 2, .inl (x.1, 10, .inl (fun _ => 0))), (r2 3, .inl (x.1, 10, .inl (fun _ => 0))), (r2 4, .inl (x.1, 10, .inl (fun _ => 0))), (r2 5, .inl (x.1, 10, .inl (fun _ => 0))), (r2 6, .inl (x.1, 10, .inl (fun _ => 0))), (r2 7, .inl (x.1, 10, .inl (fun _ => 0))), (r2 8, .inl (x.1, 10, .inl (fun _ => 0))), (r2 9, .inl (x.1, 10, .inl (fun _ => 0))), (b3, .inr (2, [.int 0, .ref b4])), (b4, .inl (x.1, 128, .inl f5)), (b7, .inr (3, [.int 0, .ref b8, .ref b9, .ref b10])), (b8, .inl (x.1, 16, .inl (fun _ => 0))), (b9, .inl (x.1, 16, .inl (fun _ => 0))), (b10, .inl (x.1, 128, .inl (fun _ => 0))), (b11, .inr (4, [.ref b0, .ref b3, .ref b7, .ref b12, .ref b17, .int 0])), (b12, .inr (5, [.ref b13, .ref b14, .ref b15, .ref b16])), (b13, .inl (x.2.1, 10, .inr (.inl (fun _ => 0)))), (b14, .inl (x.1, 10, .inl (fun _ => 0))), (b15, .inl (x.1, 10, .inl (fun _ => 0))), (b16, .inl (x.1, 10, .inl (fun _ => 0))), (b17, .inr (5, [.ref b18, .ref b19, .ref b20, .ref b21])), (b18, .inl (x.2.1, 10, .inr (.inl (fun _ => 0)))), (b19, .inl (x.1, 10, .inl (fun _ => 0))), (b20, .inl (x.1, 10, .inl (fun _ => 0))), (b21, .inl (x.1, 10, .inl (fun _ => 0))), (b22, .inr (0, [.ref b0, .ref b3, .ref b7, .ref b11, .ref b23])), (b23, .inl (x.1, 10, .inl (fun _ => 0))), (b24, .inl (x.1, 16, .inl (fun _ => 0)))]) := by
  refine zN_start [.ref q] (lv := [(0, .ref q)]) (by decide) rfl (Nat.le_of_ble_eq_true rfl) rfl ?_
  intro p e s m args below meth c C hr hlk hin hO hA
  refine z_aload_n C 0 rfl dX6_init_0 ?_
  refine z_objI C ml_RX6_3 (by decide) (by decide) dX6_init_1 ?_
  refine z_aload_n C 0 rfl dX6_init_4 ?_
  refine z_new C hA (ci := 1) iRX1 tyX1 tyX1_ok kl_RX6_9 it_RX1 in_RX1 rfl dfX1 (fun j hj => dfX1_ok j hj) (by decide) (by decide) dX6_init_5 (fun b0 => ?_)
  rw [ax_asc]
  refine z_dup C rfl dX6_init_8 ?_
  rw [← ax_asc]
  refine z_callIN C hO hA [] [.ref b0, .ref q] 0 rfl (n_X1 l D A x _ b0) rfl cd_yX1_init in_RX1 rfl im_yX1_init (n := 0) ⟨by decide +kernel, by decide +kernel, by decide +kernel⟩ (by decide) rfl (Nat.le_of_ble_eq_true rfl) (by decide) dX6_init_9 (fun w hw => ?_)
  obtain ⟨b1, r2, rfl⟩ := hw
  rw [ax_asc]
  refine z_putF C hin iRX6 tyX6 tyX6_ok nmX6 X.length (ax_get _ _ _) rfl 0 (by decide) rfl fl_RX6_12 rfl (ty := .object "RouteWatch$Houses") (by decide +kernel) ⟨rfl, rfl⟩ (Nat.le_of_ble_eq_true rfl) (ax_set _ _ _ _) dX6_init_12 ?_
  refine z_aload_n C 0 rfl dX6_init_15 ?_
  refine z_new C hA (ci := 2) iRX2 tyX2 tyX2_ok kl_RX6_16 it_RX2 in_RX2 rfl dfX2 (fun j hj => dfX2_ok j hj) (by decide) (by decide) dX6_init_16 (fun b3 => ?_)
  rw [ax_asc]
  refine z_dup C rfl dX6_init_19 ?_
  rw [← ax_asc]
  refine z_callI C hO hA [] [.ref b3, .ref q] rfl (n_X2 l D A x _ b3) rfl cd_yX2_init in_RX2 ml_RX6_18 im_yX2_init (n := 0) ⟨by decide +kernel, by decide +kernel, by decide +kernel⟩ (by decide) rfl (Nat.le_of_ble_eq_true rfl) (by decide) dX6_init_20 (fun w hw => ?_)
  obtain ⟨b4, f5, hf6, rfl⟩ := hw
  rw [ax_asc]
  refine z_putF C hin iRX6 tyX6 tyX6_ok nmX6 X.length (ax_get _ _ _) rfl 1 (by decide) rfl fl_RX6_19 rfl (ty := .object "RouteWatch$Rights") (by decide +kernel) ⟨rfl, rfl⟩ (Nat.le_of_ble_eq_true rfl) (ax_set _ _ _ _) dX6_init_23 ?_
  refine z_aload_n C 0 rfl dX6_init_26 ?_
  refine z_new C hA (ci := 3) iRX3 tyX3 tyX3_ok kl_RX6_23 it_RX3 in_RX3 rfl dfX3 (fun j hj => dfX3_ok j hj) (by decide) (by decide) dX6_init_27 (fun b7 => ?_)
  rw [ax_asc]
  refine z_dup C rfl dX6_init_30 ?_
  rw [← ax_asc]
  refine z_callIN C hO hA [] [.ref b7, .ref q] 1 rfl (n_X3 l D A x _ b7) rfl cd_yX3_init in_RX3 rfl im_yX3_init (n := 0) ⟨by decide +kernel, by decide +kernel, by decide +kernel⟩ (by decide) rfl (Nat.le_of_ble_eq_true rfl) (by decide) dX6_init_31 (fun w hw => ?_)
  obtain ⟨b8, b9, b10, rfl⟩ := hw
  rw [ax_asc]
  refine z_putF C hin iRX6 tyX6 tyX6_ok nmX6 X.length (ax_get _ _ _) rfl 2 (by decide) rfl fl_RX6_26 rfl (ty := .object "RouteWatch$Sayings") (by decide +kernel) ⟨rfl, rfl⟩ (Nat.le_of_ble_eq_true rfl) (ax_set _ _ _ _) dX6_init_34 ?_
  refine z_aload_n C 0 rfl dX6_init_37 ?_
  refine z_new C hA (ci := 4) iRX4 tyX4 tyX4_ok kl_RX6_30 it_RX4 in_RX4 rfl dfX4 (fun j hj => dfX4_ok j hj) (by decide) (by decide) dX6_init_38 (fun b11 => ?_)
  rw [ax_asc]
  refine z_dup C rfl dX6_init_41 ?_
  refine z_aload_n C 0 rfl dX6_init_42 ?_
  refine z_get C iRX6 X.length (ax_get _ _ _) rfl 0 (by decide) fl_RX6_12 rfl dX6_init_43 ?_
  refine z_aload_n C 0 rfl dX6_init_46 ?_
  refine z_get C iRX6 X.length (ax_get _ _ _) rfl 1 (by decide) fl_RX6_19 rfl dX6_init_47 ?_
  refine z_aload_n C 0 rfl dX6_init_50 ?_
  refine z_get C iRX6 X.length (ax_get _ _ _) rfl 2 (by decide) fl_RX6_26 rfl dX6_init_51 ?_
  rw [← ax_asc]
  refine z_callI C hO hA [.ref b0, .ref b3, .ref b7] [.ref b11, .ref q] rfl (n_X4 l D A x _ b11 b0 b3 b7) rfl cd_yX4_init in_RX4 ml_RX6_32 im_yX4_init (n := 3) ⟨by decide +kernel, by decide +kernel, by decide +kernel⟩ (by decide) rfl (Nat.le_of_ble_eq_true rfl) (by decide) dX6_init_54 (fun w hw => ?_)
  obtain ⟨b12, b13, b14, b15, b16, b17, b18, b19, b20, b21, rfl⟩ := hw
  rw [ax_asc]
  refine z_putF C hin iRX6 tyX6 tyX6_ok nmX6 X.length (ax_get _ _ _) rfl 3 (by decide) rfl fl_RX6_35 rfl (ty := .object "RouteWatch$Settling") (by decide +kernel) ⟨rfl, rfl⟩ (Nat.le_of_ble_eq_true rfl) (ax_set _ _ _ _) dX6_init_57 ?_
  refine z_aload_n C 0 rfl dX6_init_60 ?_
  refine z_new C hA (ci := 0) iRX0 tyX0 tyX0_ok kl_RX6_39 it_RX0 in_RX0 rfl dfX0 (fun j hj => dfX0_ok j hj) (by decide) (by decide) dX6_init_61 (fun b22 => ?_)
  rw [ax_asc]
  refine z_dup C rfl dX6_init_64 ?_
  refine z_aload_n C 0 rfl dX6_init_65 ?_
  refine z_get C iRX6 X.length (ax_get _ _ _) rfl 0 (by decide) fl_RX6_12 rfl dX6_init_66 ?_
  refine z_aload_n C 0 rfl dX6_init_69 ?_
  refine z_get C iRX6 X.length (ax_get _ _ _) rfl 1 (by decide) fl_RX6_19 rfl dX6_init_70 ?_
  refine z_aload_n C 0 rfl dX6_init_73 ?_
  refine z_get C iRX6 X.length (ax_get _ _ _) rfl 2 (by decide) fl_RX6_26 rfl dX6_init_74 ?_
  refine z_aload_n C 0 rfl dX6_init_77 ?_
  refine z_get C iRX6 X.length (ax_get _ _ _) rfl 3 (by decide) fl_RX6_35 rfl dX6_init_78 ?_
  rw [← ax_asc]
  refine z_callI C hO hA [.ref b0, .ref b3, .ref b7, .ref b11] [.ref b22, .ref q] rfl (n_X0 l D A x _ b22 b0 b3 b7 b11) rfl cd_yX0_init in_RX0 ml_RX6_41 im_yX0_init (n := 4) ⟨by decide +kernel, by decide +kernel, by decide +kernel⟩ (by decide) rfl (Nat.le_of_ble_eq_true rfl) (by decide) dX6_init_81 (fun w hw => ?_)
  obtain ⟨b23, rfl⟩ := hw
  rw [ax_asc]
  refine z_putF C hin iRX6 tyX6 tyX6_ok nmX6 X.length (ax_get _ _ _) rfl 4 (by decide) rfl fl_RX6_44 rfl (ty := .object "RouteWatch$Goings") (by decide +kernel) ⟨rfl, rfl⟩ (Nat.le_of_ble_eq_true rfl) (ax_set _ _ _ _) dX6_init_84 ?_
  refine z_aload_n C 0 rfl dX6_init_87 ?_
  refine z_bipush C (v := 16) dX6_init_88 (by decide) ?_
  refine z_newI C hA rfl 16 (by decide) (by decide) (by decide) (by decide) (by decide) dX6_init_90 (fun b24 => ?_)
  rw [ax_asc]
  refine z_putF C hin iRX6 tyX6 tyX6_ok nmX6 X.length (ax_get _ _ _) rfl 5 (by decide) rfl fl_RX6_48 rfl (ty := .array .int) (by decide +kernel) ⟨rfl, rfl⟩ (Nat.le_of_ble_eq_true rfl) (ax_set _ _ _ _) dX6_init_92 ?_
  exact zN_ret C hr hlk ⟨b0, b1, r2, b3, b4, f5, b7, b8, b9, b10, b11, b12, b13, b14, b15, b16, b17, b18, b19, b20, b21, b22, b23, b24, hf6, rfl⟩ dX6_init_95
theorem dX7_init_0 : decode cX7_init 0 = .ok (.aload_n 0, 1) := by decide +kernel
theorem dX7_init_1 : decode cX7_init 1 = .ok (.invokespecial 1, 3) := by decide +kernel
theorem dX7_init_4 : decode cX7_init 4 = .ok (.aload_n 0, 1) := by decide +kernel
theorem dX7_init_5 : decode cX7_init 5 = .ok (.bipush 100, 2) := by decide +kernel
theorem dX7_init_7 : decode cX7_init 7 = .ok (.newarray .int, 2) := by decide +kernel
theorem dX7_init_9 : decode cX7_init 9 = .ok (.putfield 7, 3) := by decide +kernel
theorem dX7_init_12 : decode cX7_init 12 = .ok (.aload_n 0, 1) := by decide +kernel
theorem dX7_init_13 : decode cX7_init 13 = .ok (.bipush 12, 2) := by decide +kernel
theorem dX7_init_15 : decode cX7_init 15 = .ok (.newarray .int, 2) := by decide +kernel
theorem dX7_init_17 : decode cX7_init 17 = .ok (.putfield 13, 3) := by decide +kernel
theorem dX7_init_20 : decode cX7_init 20 = .ok (.aload_n 0, 1) := by decide +kernel
theorem dX7_init_21 : decode cX7_init 21 = .ok (.bipush 12, 2) := by decide +kernel
theorem dX7_init_23 : decode cX7_init 23 = .ok (.newarray .int, 2) := by decide +kernel
theorem dX7_init_25 : decode cX7_init 25 = .ok (.putfield 16, 3) := by decide +kernel
theorem dX7_init_28 : decode cX7_init 28 = .ok (.aload_n 0, 1) := by decide +kernel
theorem dX7_init_29 : decode cX7_init 29 = .ok (.bipush 12, 2) := by decide +kernel
theorem dX7_init_31 : decode cX7_init 31 = .ok (.newarray .int, 2) := by decide +kernel
theorem dX7_init_33 : decode cX7_init 33 = .ok (.putfield 19, 3) := by decide +kernel
theorem dX7_init_36 : decode cX7_init 36 = .ok (.aload_n 0, 1) := by decide +kernel
theorem dX7_init_37 : decode cX7_init 37 = .ok (.bipush 18, 2) := by decide +kernel
theorem dX7_init_39 : decode cX7_init 39 = .ok (.newarray .int, 2) := by decide +kernel
theorem dX7_init_41 : decode cX7_init 41 = .ok (.putfield 22, 3) := by decide +kernel
theorem dX7_init_44 : decode cX7_init 44 = .ok (.aload_n 0, 1) := by decide +kernel
theorem dX7_init_45 : decode cX7_init 45 = .ok (.bipush 18, 2) := by decide +kernel
theorem dX7_init_47 : decode cX7_init 47 = .ok (.newarray .int, 2) := by decide +kernel
theorem dX7_init_49 : decode cX7_init 49 = .ok (.putfield 25, 3) := by decide +kernel
theorem dX7_init_52 : decode cX7_init 52 = .ok (.aload_n 0, 1) := by decide +kernel
theorem dX7_init_53 : decode cX7_init 53 = .ok (.bipush 18, 2) := by decide +kernel
theorem dX7_init_55 : decode cX7_init 55 = .ok (.newarray .int, 2) := by decide +kernel
theorem dX7_init_57 : decode cX7_init 57 = .ok (.putfield 28, 3) := by decide +kernel
theorem dX7_init_60 : decode cX7_init 60 = .ok (.aload_n 0, 1) := by decide +kernel
theorem dX7_init_61 : decode cX7_init 61 = .ok (.bipush 100, 2) := by decide +kernel
theorem dX7_init_63 : decode cX7_init 63 = .ok (.newarray .int, 2) := by decide +kernel
theorem dX7_init_65 : decode cX7_init 65 = .ok (.putfield 31, 3) := by decide +kernel
theorem dX7_init_68 : decode cX7_init 68 = .ok (.aload_n 0, 1) := by decide +kernel
theorem dX7_init_69 : decode cX7_init 69 = .ok (.bipush 10, 2) := by decide +kernel
theorem dX7_init_71 : decode cX7_init 71 = .ok (.newarray .int, 2) := by decide +kernel
theorem dX7_init_73 : decode cX7_init 73 = .ok (.putfield 34, 3) := by decide +kernel
theorem dX7_init_76 : decode cX7_init 76 = .ok (.aload_n 0, 1) := by decide +kernel
theorem dX7_init_77 : decode cX7_init 77 = .ok (.bipush 100, 2) := by decide +kernel
theorem dX7_init_79 : decode cX7_init 79 = .ok (.newarray .int, 2) := by decide +kernel
theorem dX7_init_81 : decode cX7_init 81 = .ok (.putfield 37, 3) := by decide +kernel
theorem dX7_init_84 : decode cX7_init 84 = .ok (.aload_n 0, 1) := by decide +kernel
theorem dX7_init_85 : decode cX7_init 85 = .ok (.bipush 10, 2) := by decide +kernel
theorem dX7_init_87 : decode cX7_init 87 = .ok (.newarray .int, 2) := by decide +kernel
theorem dX7_init_89 : decode cX7_init 89 = .ok (.putfield 40, 3) := by decide +kernel
theorem dX7_init_92 : decode cX7_init 92 = .ok (.aload_n 0, 1) := by decide +kernel
theorem dX7_init_93 : decode cX7_init 93 = .ok (.bipush 70, 2) := by decide +kernel
theorem dX7_init_95 : decode cX7_init 95 = .ok (.newarray .int, 2) := by decide +kernel
theorem dX7_init_97 : decode cX7_init 97 = .ok (.putfield 43, 3) := by decide +kernel
theorem dX7_init_100 : decode cX7_init 100 = .ok (.aload_n 0, 1) := by decide +kernel
theorem dX7_init_101 : decode cX7_init 101 = .ok (.bipush 16, 2) := by decide +kernel
theorem dX7_init_103 : decode cX7_init 103 = .ok (.newarray .int, 2) := by decide +kernel
theorem dX7_init_105 : decode cX7_init 105 = .ok (.putfield 46, 3) := by decide +kernel
theorem dX7_init_108 : decode cX7_init 108 = .ok (.return_, 1) := by decide +kernel
def dfX7 : List Value := [.int 0, .null, .int 0, .null, .null, .null, .int 0, .null, .null, .null, .int 0, .int 0, .null, .null, .null, .null, .int 0, .int 0, .null, .null]
theorem dfX7_ok : ∀ j, j < 20 → defaultValue (tyX7 j) = vp_V dfX7 j := by decide +kernel
theorem n_X7 (l : Launch) (D : va_G) (A : Nat → Prop) (x : ClassId × ClassId × ClassId) (X : va_W) (q : Nat) : zN l yX7_init w_yX7_init ({ frames := 1, cells := 13, slots := 496, locals := 12 } : Room) D A (tyz x) 13 496 [.ref q] (X ++ [(q, .inr (7, dfX7))]) (fun ws' => ∃ (b0 : Nat) (b1 : Nat) (b2 : Nat) (b3 : Nat) (b4 : Nat) (b5 : Nat) (b6 : Nat) (b7 : Nat) (b8 : Nat) (b9 : Nat) (b10 : Nat) (b11 : Nat) (b12 : Nat), ws' = X ++ (q, .inr (7, [.int 0, .ref b0, .int 0, .ref b1, .ref b2, .ref b3, .int 0, .ref b4, .ref b5, .ref b6, .int 0, .int 0, .ref b7, .ref b8, .ref b9, .ref b10, .int 0, .int 0, .ref b11, .ref b12])) :: [(b0, .inl (x.1, 100, .inl (fun _ => 0))), (b1, .inl (x.1, 12, .inl (fun _ => 0))), (b2, .inl (x.1, 12, .inl (fun _ => 0))), (b3, .inl (x.1, 12, .inl (fun _ => 0))), (b4, .inl (x.1, 18, .inl (fun _ => 0))), (b5, .inl (x.1, 18, .inl (fun _ => 0))), (b6, .inl (x.1, 18, .inl (fun _ => 0))), (b7, .inl (x.1, 100, .inl (fun _ => 0))), (b8, .inl (x.1, 10, .inl (fun _ => 0))), (b9, .inl (x.1, 100, .inl (fun _ => 0))), (b10, .inl (x.1, 10, .inl (fun _ => 0))), (b11, .inl (x.1, 70, .inl (fun _ => 0))), (b12, .inl (x.1, 16, .inl (fun _ => 0)))]) := by
  refine zN_start [.ref q] (lv := [(0, .ref q)]) (by decide) rfl (Nat.le_of_ble_eq_true rfl) rfl ?_
  intro p e s m args below meth c C hr hlk hin hO hA
  refine z_aload_n C 0 rfl dX7_init_0 ?_
  refine z_objI C ml_RX7_1 (by decide) (by decide) dX7_init_1 ?_
  refine z_aload_n C 0 rfl dX7_init_4 ?_
  refine z_bipush C (v := 100) dX7_init_5 (by decide) ?_
  refine z_newI C hA rfl 100 (by decide) (by decide) (by decide) (by decide) (by decide) dX7_init_7 (fun b0 => ?_)
  rw [ax_asc]
  refine z_putF C hin iRX7 tyX7 tyX7_ok nmX7 X.length (ax_get _ _ _) rfl 1 (by decide) rfl fl_RX7_7 rfl (ty := .array .int) (by decide +kernel) ⟨rfl, rfl⟩ (Nat.le_of_ble_eq_true rfl) (ax_set _ _ _ _) dX7_init_9 ?_
  refine z_aload_n C 0 rfl dX7_init_12 ?_
  refine z_bipush C (v := 12) dX7_init_13 (by decide) ?_
  refine z_newI C hA rfl 12 (by decide) (by decide) (by decide) (by decide) (by decide) dX7_init_15 (fun b1 => ?_)
  rw [ax_asc]
  refine z_putF C hin iRX7 tyX7 tyX7_ok nmX7 X.length (ax_get _ _ _) rfl 3 (by decide) rfl fl_RX7_13 rfl (ty := .array .int) (by decide +kernel) ⟨rfl, rfl⟩ (Nat.le_of_ble_eq_true rfl) (ax_set _ _ _ _) dX7_init_17 ?_
  refine z_aload_n C 0 rfl dX7_init_20 ?_
  refine z_bipush C (v := 12) dX7_init_21 (by decide) ?_
  refine z_newI C hA rfl 12 (by decide) (by decide) (by decide) (by decide) (by decide) dX7_init_23 (fun b2 => ?_)
  rw [ax_asc]
  refine z_putF C hin iRX7 tyX7 tyX7_ok nmX7 X.length (ax_get _ _ _) rfl 4 (by decide) rfl fl_RX7_16 rfl (ty := .array .int) (by decide +kernel) ⟨rfl, rfl⟩ (Nat.le_of_ble_eq_true rfl) (ax_set _ _ _ _) dX7_init_25 ?_
  refine z_aload_n C 0 rfl dX7_init_28 ?_
  refine z_bipush C (v := 12) dX7_init_29 (by decide) ?_
  refine z_newI C hA rfl 12 (by decide) (by decide) (by decide) (by decide) (by decide) dX7_init_31 (fun b3 => ?_)
  rw [ax_asc]
  refine z_putF C hin iRX7 tyX7 tyX7_ok nmX7 X.length (ax_get _ _ _) rfl 5 (by decide) rfl fl_RX7_19 rfl (ty := .array .int) (by decide +kernel) ⟨rfl, rfl⟩ (Nat.le_of_ble_eq_true rfl) (ax_set _ _ _ _) dX7_init_33 ?_
  refine z_aload_n C 0 rfl dX7_init_36 ?_
  refine z_bipush C (v := 18) dX7_init_37 (by decide) ?_
  refine z_newI C hA rfl 18 (by decide) (by decide) (by decide) (by decide) (by decide) dX7_init_39 (fun b4 => ?_)
  rw [ax_asc]
  refine z_putF C hin iRX7 tyX7 tyX7_ok nmX7 X.length (ax_get _ _ _) rfl 7 (by decide) rfl fl_RX7_22 rfl (ty := .array .int) (by decide +kernel) ⟨rfl, rfl⟩ (Nat.le_of_ble_eq_true rfl) (ax_set _ _ _ _) dX7_init_41 ?_
  refine z_aload_n C 0 rfl dX7_init_44 ?_
  refine z_bipush C (v := 18) dX7_init_45 (by decide) ?_
  refine z_newI C hA rfl 18 (by decide) (by decide) (by decide) (by decide) (by decide) dX7_init_47 (fun b5 => ?_)
  rw [ax_asc]
  refine z_putF C hin iRX7 tyX7 tyX7_ok nmX7 X.length (ax_get _ _ _) rfl 8 (by decide) rfl fl_RX7_25 rfl (ty := .array .int) (by decide +kernel) ⟨rfl, rfl⟩ (Nat.le_of_ble_eq_true rfl) (ax_set _ _ _ _) dX7_init_49 ?_
  refine z_aload_n C 0 rfl dX7_init_52 ?_
  refine z_bipush C (v := 18) dX7_init_53 (by decide) ?_
  refine z_newI C hA rfl 18 (by decide) (by decide) (by decide) (by decide) (by decide) dX7_init_55 (fun b6 => ?_)
  rw [ax_asc]
  refine z_putF C hin iRX7 tyX7 tyX7_ok nmX7 X.length (ax_get _ _ _) rfl 9 (by decide) rfl fl_RX7_28 rfl (ty := .array .int) (by decide +kernel) ⟨rfl, rfl⟩ (Nat.le_of_ble_eq_true rfl) (ax_set _ _ _ _) dX7_init_57 ?_
  refine z_aload_n C 0 rfl dX7_init_60 ?_
  refine z_bipush C (v := 100) dX7_init_61 (by decide) ?_
  refine z_newI C hA rfl 100 (by decide) (by decide) (by decide) (by decide) (by decide) dX7_init_63 (fun b7 => ?_)
  rw [ax_asc]
  refine z_putF C hin iRX7 tyX7 tyX7_ok nmX7 X.length (ax_get _ _ _) rfl 12 (by decide) rfl fl_RX7_31 rfl (ty := .array .int) (by decide +kernel) ⟨rfl, rfl⟩ (Nat.le_of_ble_eq_true rfl) (ax_set _ _ _ _) dX7_init_65 ?_
  refine z_aload_n C 0 rfl dX7_init_68 ?_
  refine z_bipush C (v := 10) dX7_init_69 (by decide) ?_
  refine z_newI C hA rfl 10 (by decide) (by decide) (by decide) (by decide) (by decide) dX7_init_71 (fun b8 => ?_)
  rw [ax_asc]
  refine z_putF C hin iRX7 tyX7 tyX7_ok nmX7 X.length (ax_get _ _ _) rfl 13 (by decide) rfl fl_RX7_34 rfl (ty := .array .int) (by decide +kernel) ⟨rfl, rfl⟩ (Nat.le_of_ble_eq_true rfl) (ax_set _ _ _ _) dX7_init_73 ?_
  refine z_aload_n C 0 rfl dX7_init_76 ?_
  refine z_bipush C (v := 100) dX7_init_77 (by decide) ?_
  refine z_newI C hA rfl 100 (by decide) (by decide) (by decide) (by decide) (by decide) dX7_init_79 (fun b9 => ?_)
  rw [ax_asc]
  refine z_putF C hin iRX7 tyX7 tyX7_ok nmX7 X.length (ax_get _ _ _) rfl 14 (by decide) rfl fl_RX7_37 rfl (ty := .array .int) (by decide +kernel) ⟨rfl, rfl⟩ (Nat.le_of_ble_eq_true rfl) (ax_set _ _ _ _) dX7_init_81 ?_
  refine z_aload_n C 0 rfl dX7_init_84 ?_
  refine z_bipush C (v := 10) dX7_init_85 (by decide) ?_
  refine z_newI C hA rfl 10 (by decide) (by decide) (by decide) (by decide) (by decide) dX7_init_87 (fun b10 => ?_)
  rw [ax_asc]
  refine z_putF C hin iRX7 tyX7 tyX7_ok nmX7 X.length (ax_get _ _ _) rfl 15 (by decide) rfl fl_RX7_40 rfl (ty := .array .int) (by decide +kernel) ⟨rfl, rfl⟩ (Nat.le_of_ble_eq_true rfl) (ax_set _ _ _ _) dX7_init_89 ?_
  refine z_aload_n C 0 rfl dX7_init_92 ?_
  refine z_bipush C (v := 70) dX7_init_93 (by decide) ?_
  refine z_newI C hA rfl 70 (by decide) (by decide) (by decide) (by decide) (by decide) dX7_init_95 (fun b11 => ?_)
  rw [ax_asc]
  refine z_putF C hin iRX7 tyX7 tyX7_ok nmX7 X.length (ax_get _ _ _) rfl 18 (by decide) rfl fl_RX7_43 rfl (ty := .array .int) (by decide +kernel) ⟨rfl, rfl⟩ (Nat.le_of_ble_eq_true rfl) (ax_set _ _ _ _) dX7_init_97 ?_
  refine z_aload_n C 0 rfl dX7_init_100 ?_
  refine z_bipush C (v := 16) dX7_init_101 (by decide) ?_
  refine z_newI C hA rfl 16 (by decide) (by decide) (by decide) (by decide) (by decide) dX7_init_103 (fun b12 => ?_)
  rw [ax_asc]
  refine z_putF C hin iRX7 tyX7 tyX7_ok nmX7 X.length (ax_get _ _ _) rfl 19 (by decide) rfl fl_RX7_46 rfl (ty := .array .int) (by decide +kernel) ⟨rfl, rfl⟩ (Nat.le_of_ble_eq_true rfl) (ax_set _ _ _ _) dX7_init_105 ?_
  exact zN_ret C hr hlk ⟨b0, b1, b2, b3, b4, b5, b6, b7, b8, b9, b10, b11, b12, rfl⟩ dX7_init_108
