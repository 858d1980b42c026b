/-! The law, call by call -/
section LW
variable {p : Program} {l : Launch} {e : Env} {s : State} {m : MethodId} {below : List Frame} {meth : Method} {c : Code} {cells slots : Nat} {D : va_G} {b L : Nat} {xs : Nat → Int32} {a bb : Nat → Nat} {x : ClassId × ClassId × ClassId} {σ τ : ZS}
theorem law_0 (C : zx_C p s m #[Value.ref b] c D (tyz x) RL code 4) (hcs : cells ≤ room_1.cells ∧ slots ≤ room_1.slots) (hX : va_X b L xs s s.heap) (hbl : b < s.heap.size) (hbA : ¬ s.heap.size ≤ b) (hL : L ≤ 2560) {i : Nat} (hi : i + 5 ≤ L) (hR : Rel σ τ) (hn : ∀ σ' τ', Rel σ' τ' → zV p l e room_1 s m #[Value.ref b] below meth c cells slots (lw_Z below #[Value.ref b] s) D (fun q => s.heap.size ≤ q) 4 (wC a x σ' ++ wM bb x τ') 800 [(3, .int (nI i)), (2, .ref (bb 0)), (1, .ref (a 0)), (0, .ref b)] []) : zV p l e room_1 s m #[Value.ref b] below meth c cells slots (lw_Z below #[Value.ref b] s) D (fun q => s.heap.size ≤ q) 4 (wC a x σ ++ wM bb x τ) 128 [(3, .int (nI i)), (2, .ref (bb 0)), (1, .ref (a 0)), (0, .ref b)] [] := by
  obtain ⟨_, _, _, _, _, _, _, _, _, _, R0⟩ := id hR
  obtain ⟨v, σ', τ', e1, e2, R1⟩ := house_same R0
  refine z_aload_n C 2 rfl dL_128 ?_
  refine z_callC C [] [] (q0 := 0) (n := 0) rfl (c_X6_house l D _ a x σ (v, σ') e1) rfl cd_yX6_house in_RX6 ml_RL_13 im_yX6_house sl_yX6_house rfl rfl ⟨by decide +kernel, by decide +kernel, by decide +kernel⟩ (by decide) rfl (Nat.le_of_ble_eq_true rfl) hcs dL_129 ?_
  refine z_aload_n C 1 rfl dL_132 ?_
  refine z_callM C [] [.int v] (q0 := 0) (n := 0) rfl (c_X7_house l D _ bb x τ (v, τ') e2) rfl cd_yX7_house in_RX7 ml_RL_17 im_yX7_house sl_yX7_house rfl rfl ⟨by decide +kernel, by decide +kernel, by decide +kernel⟩ (by decide) rfl (Nat.le_of_ble_eq_true rfl) hcs dL_133 ?_
  refine z_icmp_eq C 800 (by decide) dL_136 (X := some ()) (Y := none) (r := ()) (if_pos rfl) (fun _ => ?_) (fun h => by cases h)
  exact hn _ _ R1
theorem law_1 (C : zx_C p s m #[Value.ref b] c D (tyz x) RL code 4) (hcs : cells ≤ room_1.cells ∧ slots ≤ room_1.slots) (hX : va_X b L xs s s.heap) (hbl : b < s.heap.size) (hbA : ¬ s.heap.size ≤ b) (hL : L ≤ 2560) {i : Nat} (hi : i + 5 ≤ L) (hR : Rel σ τ) (hn : ∀ σ' τ', Rel σ' τ' → zV p l e room_1 s m #[Value.ref b] below meth c cells slots (lw_Z below #[Value.ref b] s) D (fun q => s.heap.size ≤ q) 4 (wC a x σ' ++ wM bb x τ') 800 [(3, .int (nI i)), (2, .ref (bb 0)), (1, .ref (a 0)), (0, .ref b)] []) : zV p l e room_1 s m #[Value.ref b] below meth c cells slots (lw_Z below #[Value.ref b] s) D (fun q => s.heap.size ≤ q) 4 (wC a x σ ++ wM bb x τ) 141 [(3, .int (nI i)), (2, .ref (bb 0)), (1, .ref (a 0)), (0, .ref b)] [] := by
  obtain ⟨_, _, _, _, _, _, _, _, _, _, R0⟩ := id hR
  by_cases hb0 : xs (i + 3) = 0
  · obtain ⟨v, σ', τ', e1, e2, R1⟩ := tie_same R0 (xs (i + 1)) (xs (i + 2)) 0
    refine z_aload_n C 2 rfl dL_141 ?_
    refine z_aload_n C 3 rfl dL_142 ?_
    refine z_iload_n C 0 rfl dL_143 ?_
    refine z_iconst C (v := 1) dL_144 (by decide) ?_
    refine z_iadd C dL_145 ?_
    refine z_sld C hX hbl hbA (j := i + 1) (nI_add i 1) (by omega) hL dL_146 ?_
    refine z_aload_n C 3 rfl dL_147 ?_
    refine z_iload_n C 0 rfl dL_148 ?_
    refine z_iconst C (v := 2) dL_149 (by decide) ?_
    refine z_iadd C dL_150 ?_
    refine z_sld C hX hbl hbA (j := i + 2) (nI_add i 2) (by omega) hL dL_151 ?_
    refine z_aload_n C 3 rfl dL_152 ?_
    refine z_iload_n C 0 rfl dL_153 ?_
    refine z_iconst C (v := 3) dL_154 (by decide) ?_
    refine z_iadd C dL_155 ?_
    refine z_sld C hX hbl hbA (j := i + 3) (nI_add i 3) (by omega) hL dL_156 ?_
    refine z_if_eq C 164 (by decide) dL_157 (X := some ()) (Y := none) (r := ()) (if_pos hb0) (fun _ => ?_) (fun h => by cases h)
    refine z_iconst C (v := 0) dL_164 (by decide) ?_
    refine z_callC C [.int (xs (i + 1)), .int (xs (i + 2)), .int 0] [] (q0 := 0) (n := 3) rfl (c_X6_tie l D _ a x σ (xs (i + 1)) (xs (i + 2)) 0 (v, σ') e1) rfl cd_yX6_tie in_RX6 ml_RL_18 im_yX6_tie sl_yX6_tie rfl rfl ⟨by decide +kernel, by decide +kernel, by decide +kernel⟩ (by decide) rfl (Nat.le_of_ble_eq_true rfl) hcs dL_165 ?_
    refine z_aload_n C 1 rfl dL_168 ?_
    refine z_aload_n C 3 rfl dL_169 ?_
    refine z_iload_n C 0 rfl dL_170 ?_
    refine z_iconst C (v := 1) dL_171 (by decide) ?_
    refine z_iadd C dL_172 ?_
    refine z_sld C hX hbl hbA (j := i + 1) (nI_add i 1) (by omega) hL dL_173 ?_
    refine z_aload_n C 3 rfl dL_174 ?_
    refine z_iload_n C 0 rfl dL_175 ?_
    refine z_iconst C (v := 2) dL_176 (by decide) ?_
    refine z_iadd C dL_177 ?_
    refine z_sld C hX hbl hbA (j := i + 2) (nI_add i 2) (by omega) hL dL_178 ?_
    refine z_aload_n C 3 rfl dL_179 ?_
    refine z_iload_n C 0 rfl dL_180 ?_
    refine z_iconst C (v := 3) dL_181 (by decide) ?_
    refine z_iadd C dL_182 ?_
    refine z_sld C hX hbl hbA (j := i + 3) (nI_add i 3) (by omega) hL dL_183 ?_
    refine z_if_eq C 191 (by decide) dL_184 (X := some ()) (Y := none) (r := ()) (if_pos hb0) (fun _ => ?_) (fun h => by cases h)
    refine z_iconst C (v := 0) dL_191 (by decide) ?_
    refine z_callM C [.int (xs (i + 1)), .int (xs (i + 2)), .int 0] [.int v] (q0 := 0) (n := 3) rfl (c_X7_tie l D _ bb x τ (xs (i + 1)) (xs (i + 2)) 0 (v, τ') e2) rfl cd_yX7_tie in_RX7 ml_RL_22 im_yX7_tie sl_yX7_tie rfl rfl ⟨by decide +kernel, by decide +kernel, by decide +kernel⟩ (by decide) rfl (Nat.le_of_ble_eq_true rfl) hcs dL_192 ?_
    refine z_icmp_eq C 800 (by decide) dL_195 (X := some ()) (Y := none) (r := ()) (if_pos rfl) (fun _ => ?_) (fun h => by cases h)
    exact hn _ _ R1
  · obtain ⟨v, σ', τ', e1, e2, R1⟩ := tie_same R0 (xs (i + 1)) (xs (i + 2)) 1
    refine z_aload_n C 2 rfl dL_141 ?_
    refine z_aload_n C 3 rfl dL_142 ?_
    refine z_iload_n C 0 rfl dL_143 ?_
    refine z_iconst C (v := 1) dL_144 (by decide) ?_
    refine z_iadd C dL_145 ?_
    refine z_sld C hX hbl hbA (j := i + 1) (nI_add i 1) (by omega) hL dL_146 ?_
    refine z_aload_n C 3 rfl dL_147 ?_
    refine z_iload_n C 0 rfl dL_148 ?_
    refine z_iconst C (v := 2) dL_149 (by decide) ?_
    refine z_iadd C dL_150 ?_
    refine z_sld C hX hbl hbA (j := i + 2) (nI_add i 2) (by omega) hL dL_151 ?_
    refine z_aload_n C 3 rfl dL_152 ?_
    refine z_iload_n C 0 rfl dL_153 ?_
    refine z_iconst C (v := 3) dL_154 (by decide) ?_
    refine z_iadd C dL_155 ?_
    refine z_sld C hX hbl hbA (j := i + 3) (nI_add i 3) (by omega) hL dL_156 ?_
    refine z_if_eq C 164 (by decide) dL_157 (X := none) (Y := some ()) (r := ()) (if_neg hb0) (fun h => by cases h) (fun _ => ?_)
    refine z_iconst C (v := 1) dL_160 (by decide) ?_
    refine z_goto C 165 (by decide) dL_161 ?_
    refine z_callC C [.int (xs (i + 1)), .int (xs (i + 2)), .int 1] [] (q0 := 0) (n := 3) rfl (c_X6_tie l D _ a x σ (xs (i + 1)) (xs (i + 2)) 1 (v, σ') e1) rfl cd_yX6_tie in_RX6 ml_RL_18 im_yX6_tie sl_yX6_tie rfl rfl ⟨by decide +kernel, by decide +kernel, by decide +kernel⟩ (by decide) rfl (Nat.le_of_ble_eq_true rfl) hcs dL_165 ?_
    refine z_aload_n C 1 rfl dL_168 ?_
    refine z_aload_n C 3 rfl dL_169 ?_
    refine z_iload_n C 0 rfl dL_170 ?_
    refine z_iconst C (v := 1) dL_171 (by decide) ?_
    refine z_iadd C dL_172 ?_
    refine z_sld C hX hbl hbA (j := i + 1) (nI_add i 1) (by omega) hL dL_173 ?_
    refine z_aload_n C 3 rfl dL_174 ?_
    refine z_iload_n C 0 rfl dL_175 ?_
    refine z_iconst C (v := 2) dL_176 (by decide) ?_
    refine z_iadd C dL_177 ?_
    refine z_sld C hX hbl hbA (j := i + 2) (nI_add i 2) (by omega) hL dL_178 ?_
    refine z_aload_n C 3 rfl dL_179 ?_
    refine z_iload_n C 0 rfl dL_180 ?_
    refine z_iconst C (v := 3) dL_181 (by decide) ?_
    refine z_iadd C dL_182 ?_
    refine z_sld C hX hbl hbA (j := i + 3) (nI_add i 3) (by omega) hL dL_183 ?_
    refine z_if_eq C 191 (by decide) dL_184 (X := none) (Y := some ()) (r := ()) (if_neg hb0) (fun h => by cases h) (fun _ => ?_)
    refine z_iconst C (v := 1) dL_187 (by decide) ?_
    refine z_goto C 192 (by decide) dL_188 ?_
    refine z_callM C [.int (xs (i + 1)), .int (xs (i + 2)), .int 1] [.int v] (q0 := 0) (n := 3) rfl (c_X7_tie l D _ bb x τ (xs (i + 1)) (xs (i + 2)) 1 (v, τ') e2) rfl cd_yX7_tie in_RX7 ml_RL_22 im_yX7_tie sl_yX7_tie rfl rfl ⟨by decide +kernel, by decide +kernel, by decide +kernel⟩ (by decide) rfl (Nat.le_of_ble_eq_true rfl) hcs dL_192 ?_
    refine z_icmp_eq C 800 (by decide) dL_195 (X := some ()) (Y := none) (r := ()) (if_pos rfl) (fun _ => ?_) (fun h => by cases h)
    exact hn _ _ R1
theorem law_2 (C : zx_C p s m #[Value.ref b] c D (tyz x) RL code 4) (hcs : cells ≤ room_1.cells ∧ slots ≤ room_1.slots) (hX : va_X b L xs s s.heap) (hbl : b < s.heap.size) (hbA : ¬ s.heap.size ≤ b) (hL : L ≤ 2560) {i : Nat} (hi : i + 5 ≤ L) (hR : Rel σ τ) (hn : ∀ σ' τ', Rel σ' τ' → zV p l e room_1 s m #[Value.ref b] below meth c cells slots (lw_Z below #[Value.ref b] s) D (fun q => s.heap.size ≤ q) 4 (wC a x σ' ++ wM bb x τ') 800 [(3, .int (nI i)), (2, .ref (bb 0)), (1, .ref (a 0)), (0, .ref b)] []) : zV p l e room_1 s m #[Value.ref b] below meth c cells slots (lw_Z below #[Value.ref b] s) D (fun q => s.heap.size ≤ q) 4 (wC a x σ ++ wM bb x τ) 200 [(3, .int (nI i)), (2, .ref (bb 0)), (1, .ref (a 0)), (0, .ref b)] [] := by
  obtain ⟨_, _, _, _, _, _, _, _, _, _, R0⟩ := id hR
  obtain ⟨v, σ', τ', e1, e2, R1⟩ := untie_same R0 (xs (i + 1)) (xs (i + 2))
  refine z_aload_n C 2 rfl dL_200 ?_
  refine z_aload_n C 3 rfl dL_201 ?_
  refine z_iload_n C 0 rfl dL_202 ?_
  refine z_iconst C (v := 1) dL_203 (by decide) ?_
  refine z_iadd C dL_204 ?_
  refine z_sld C hX hbl hbA (j := i + 1) (nI_add i 1) (by omega) hL dL_205 ?_
  refine z_aload_n C 3 rfl dL_206 ?_
  refine z_iload_n C 0 rfl dL_207 ?_
  refine z_iconst C (v := 2) dL_208 (by decide) ?_
  refine z_iadd C dL_209 ?_
  refine z_sld C hX hbl hbA (j := i + 2) (nI_add i 2) (by omega) hL dL_210 ?_
  refine z_callC C [.int (xs (i + 1)), .int (xs (i + 2))] [] (q0 := 0) (n := 2) rfl (c_X6_untie l D _ a x σ (xs (i + 1)) (xs (i + 2)) (v, σ') e1) rfl cd_yX6_untie in_RX6 ml_RL_23 im_yX6_untie sl_yX6_untie rfl rfl ⟨by decide +kernel, by decide +kernel, by decide +kernel⟩ (by decide) rfl (Nat.le_of_ble_eq_true rfl) hcs dL_211 ?_
  refine z_aload_n C 1 rfl dL_214 ?_
  refine z_aload_n C 3 rfl dL_215 ?_
  refine z_iload_n C 0 rfl dL_216 ?_
  refine z_iconst C (v := 1) dL_217 (by decide) ?_
  refine z_iadd C dL_218 ?_
  refine z_sld C hX hbl hbA (j := i + 1) (nI_add i 1) (by omega) hL dL_219 ?_
  refine z_aload_n C 3 rfl dL_220 ?_
  refine z_iload_n C 0 rfl dL_221 ?_
  refine z_iconst C (v := 2) dL_222 (by decide) ?_
  refine z_iadd C dL_223 ?_
  refine z_sld C hX hbl hbA (j := i + 2) (nI_add i 2) (by omega) hL dL_224 ?_
  refine z_callM C [.int (xs (i + 1)), .int (xs (i + 2))] [.int v] (q0 := 0) (n := 2) rfl (c_X7_untie l D _ bb x τ (xs (i + 1)) (xs (i + 2)) (v, τ') e2) rfl cd_yX7_untie in_RX7 ml_RL_27 im_yX7_untie sl_yX7_untie rfl rfl ⟨by decide +kernel, by decide +kernel, by decide +kernel⟩ (by decide) rfl (Nat.le_of_ble_eq_true rfl) hcs dL_225 ?_
  refine z_icmp_eq C 800 (by decide) dL_228 (X := some ()) (Y := none) (r := ()) (if_pos rfl) (fun _ => ?_) (fun h => by cases h)
  exact hn _ _ R1
theorem law_3 (C : zx_C p s m #[Value.ref b] c D (tyz x) RL code 4) (hcs : cells ≤ room_1.cells ∧ slots ≤ room_1.slots) (hX : va_X b L xs s s.heap) (hbl : b < s.heap.size) (hbA : ¬ s.heap.size ≤ b) (hL : L ≤ 2560) {i : Nat} (hi : i + 5 ≤ L) (hR : Rel σ τ) (hn : ∀ σ' τ', Rel σ' τ' → zV p l e room_1 s m #[Value.ref b] below meth c cells slots (lw_Z below #[Value.ref b] s) D (fun q => s.heap.size ≤ q) 4 (wC a x σ' ++ wM bb x τ') 800 [(3, .int (nI i)), (2, .ref (bb 0)), (1, .ref (a 0)), (0, .ref b)] []) : zV p l e room_1 s m #[Value.ref b] below meth c cells slots (lw_Z below #[Value.ref b] s) D (fun q => s.heap.size ≤ q) 4 (wC a x σ ++ wM bb x τ) 233 [(3, .int (nI i)), (2, .ref (bb 0)), (1, .ref (a 0)), (0, .ref b)] [] := by
  obtain ⟨_, _, _, _, _, _, _, _, _, _, R0⟩ := id hR
  obtain ⟨v, σ', τ', e1, e2, R1⟩ := right_same R0 (xs (i + 1)) (xs (i + 2)) (xs (i + 3))
  refine z_aload_n C 2 rfl dL_233 ?_
  refine z_aload_n C 3 rfl dL_234 ?_
  refine z_iload_n C 0 rfl dL_235 ?_
  refine z_iconst C (v := 1) dL_236 (by decide) ?_
  refine z_iadd C dL_237 ?_
  refine z_sld C hX hbl hbA (j := i + 1) (nI_add i 1) (by omega) hL dL_238 ?_
  refine z_aload_n C 3 rfl dL_239 ?_
  refine z_iload_n C 0 rfl dL_240 ?_
  refine z_iconst C (v := 2) dL_241 (by decide) ?_
  refine z_iadd C dL_242 ?_
  refine z_sld C hX hbl hbA (j := i + 2) (nI_add i 2) (by omega) hL dL_243 ?_
  refine z_aload_n C 3 rfl dL_244 ?_
  refine z_iload_n C 0 rfl dL_245 ?_
  refine z_iconst C (v := 3) dL_246 (by decide) ?_
  refine z_iadd C dL_247 ?_
  refine z_sld C hX hbl hbA (j := i + 3) (nI_add i 3) (by omega) hL dL_248 ?_
  refine z_callC C [.int (xs (i + 1)), .int (xs (i + 2)), .int (xs (i + 3))] [] (q0 := 0) (n := 3) rfl (c_X6_right l D _ a x σ (xs (i + 1)) (xs (i + 2)) (xs (i + 3)) (v, σ') e1) rfl cd_yX6_right in_RX6 ml_RL_28 im_yX6_right sl_yX6_right rfl rfl ⟨by decide +kernel, by decide +kernel, by decide +kernel⟩ (by decide) rfl (Nat.le_of_ble_eq_true rfl) hcs dL_249 ?_
  refine z_aload_n C 1 rfl dL_252 ?_
  refine z_aload_n C 3 rfl dL_253 ?_
  refine z_iload_n C 0 rfl dL_254 ?_
  refine z_iconst C (v := 1) dL_255 (by decide) ?_
  refine z_iadd C dL_256 ?_
  refine z_sld C hX hbl hbA (j := i + 1) (nI_add i 1) (by omega) hL dL_257 ?_
  refine z_aload_n C 3 rfl dL_258 ?_
  refine z_iload_n C 0 rfl dL_259 ?_
  refine z_iconst C (v := 2) dL_260 (by decide) ?_
  refine z_iadd C dL_261 ?_
  refine z_sld C hX hbl hbA (j := i + 2) (nI_add i 2) (by omega) hL dL_262 ?_
  refine z_aload_n C 3 rfl dL_263 ?_
  refine z_iload_n C 0 rfl dL_264 ?_
  refine z_iconst C (v := 3) dL_265 (by decide) ?_
  refine z_iadd C dL_266 ?_
  refine z_sld C hX hbl hbA (j := i + 3) (nI_add i 3) (by omega) hL dL_267 ?_
  refine z_callM C [.int (xs (i + 1)), .int (xs (i + 2)), .int (xs (i + 3))] [.int v] (q0 := 0) (n := 3) rfl (c_X7_right l D _ bb x τ (xs (i + 1)) (xs (i + 2)) (xs (i + 3)) (v, τ') e2) rfl cd_yX7_right in_RX7 ml_RL_32 im_yX7_right sl_yX7_right rfl rfl ⟨by decide +kernel, by decide +kernel, by decide +kernel⟩ (by decide) rfl (Nat.le_of_ble_eq_true rfl) hcs dL_268 ?_
  refine z_icmp_eq C 800 (by decide) dL_271 (X := some ()) (Y := none) (r := ()) (if_pos rfl) (fun _ => ?_) (fun h => by cases h)
  exact hn _ _ R1
theorem law_4 (C : zx_C p s m #[Value.ref b] c D (tyz x) RL code 4) (hcs : cells ≤ room_1.cells ∧ slots ≤ room_1.slots) (hX : va_X b L xs s s.heap) (hbl : b < s.heap.size) (hbA : ¬ s.heap.size ≤ b) (hL : L ≤ 2560) {i : Nat} (hi : i + 5 ≤ L) (hR : Rel σ τ) (hn : ∀ σ' τ', Rel σ' τ' → zV p l e room_1 s m #[Value.ref b] below meth c cells slots (lw_Z below #[Value.ref b] s) D (fun q => s.heap.size ≤ q) 4 (wC a x σ' ++ wM bb x τ') 800 [(3, .int (nI i)), (2, .ref (bb 0)), (1, .ref (a 0)), (0, .ref b)] []) : zV p l e room_1 s m #[Value.ref b] below meth c cells slots (lw_Z below #[Value.ref b] s) D (fun q => s.heap.size ≤ q) 4 (wC a x σ ++ wM bb x τ) 276 [(3, .int (nI i)), (2, .ref (bb 0)), (1, .ref (a 0)), (0, .ref b)] [] := by
  obtain ⟨_, _, _, _, _, _, _, _, _, _, R0⟩ := id hR
  obtain ⟨v, σ', τ', e1, e2, R1⟩ := free_same R0 (xs (i + 1)) (xs (i + 2))
  refine z_aload_n C 2 rfl dL_276 ?_
  refine z_aload_n C 3 rfl dL_277 ?_
  refine z_iload_n C 0 rfl dL_278 ?_
  refine z_iconst C (v := 1) dL_279 (by decide) ?_
  refine z_iadd C dL_280 ?_
  refine z_sld C hX hbl hbA (j := i + 1) (nI_add i 1) (by omega) hL dL_281 ?_
  refine z_aload_n C 3 rfl dL_282 ?_
  refine z_iload_n C 0 rfl dL_283 ?_
  refine z_iconst C (v := 2) dL_284 (by decide) ?_
  refine z_iadd C dL_285 ?_
  refine z_sld C hX hbl hbA (j := i + 2) (nI_add i 2) (by omega) hL dL_286 ?_
  refine z_callC C [.int (xs (i + 1)), .int (xs (i + 2))] [] (q0 := 0) (n := 2) rfl (c_X6_free l D _ a x σ (xs (i + 1)) (xs (i + 2)) (v, σ') e1) rfl cd_yX6_free in_RX6 ml_RL_33 im_yX6_free sl_yX6_free rfl rfl ⟨by decide +kernel, by decide +kernel, by decide +kernel⟩ (by decide) rfl (Nat.le_of_ble_eq_true rfl) hcs dL_287 ?_
  refine z_aload_n C 1 rfl dL_290 ?_
  refine z_aload_n C 3 rfl dL_291 ?_
  refine z_iload_n C 0 rfl dL_292 ?_
  refine z_iconst C (v := 1) dL_293 (by decide) ?_
  refine z_iadd C dL_294 ?_
  refine z_sld C hX hbl hbA (j := i + 1) (nI_add i 1) (by omega) hL dL_295 ?_
  refine z_aload_n C 3 rfl dL_296 ?_
  refine z_iload_n C 0 rfl dL_297 ?_
  refine z_iconst C (v := 2) dL_298 (by decide) ?_
  refine z_iadd C dL_299 ?_
  refine z_sld C hX hbl hbA (j := i + 2) (nI_add i 2) (by omega) hL dL_300 ?_
  refine z_callM C [.int (xs (i + 1)), .int (xs (i + 2))] [.int v] (q0 := 0) (n := 2) rfl (c_X7_free l D _ bb x τ (xs (i + 1)) (xs (i + 2)) (v, τ') e2) rfl cd_yX7_free in_RX7 ml_RL_36 im_yX7_free sl_yX7_free rfl rfl ⟨by decide +kernel, by decide +kernel, by decide +kernel⟩ (by decide) rfl (Nat.le_of_ble_eq_true rfl) hcs dL_301 ?_
  refine z_icmp_eq C 800 (by decide) dL_304 (X := some ()) (Y := none) (r := ()) (if_pos rfl) (fun _ => ?_) (fun h => by cases h)
  exact hn _ _ R1
theorem law_5 (C : zx_C p s m #[Value.ref b] c D (tyz x) RL code 4) (hcs : cells ≤ room_1.cells ∧ slots ≤ room_1.slots) (hX : va_X b L xs s s.heap) (hbl : b < s.heap.size) (hbA : ¬ s.heap.size ≤ b) (hL : L ≤ 2560) {i : Nat} (hi : i + 5 ≤ L) (hR : Rel σ τ) (hn : ∀ σ' τ', Rel σ' τ' → zV p l e room_1 s m #[Value.ref b] below meth c cells slots (lw_Z below #[Value.ref b] s) D (fun q => s.heap.size ≤ q) 4 (wC a x σ' ++ wM bb x τ') 800 [(3, .int (nI i)), (2, .ref (bb 0)), (1, .ref (a 0)), (0, .ref b)] []) : zV p l e room_1 s m #[Value.ref b] below meth c cells slots (lw_Z below #[Value.ref b] s) D (fun q => s.heap.size ≤ q) 4 (wC a x σ ++ wM bb x τ) 309 [(3, .int (nI i)), (2, .ref (bb 0)), (1, .ref (a 0)), (0, .ref b)] [] := by
  obtain ⟨_, _, _, _, _, _, _, _, _, _, R0⟩ := id hR
  obtain ⟨v, e1, e2⟩ := rightful_same R0 (xs (i + 1)) (xs (i + 2))
  refine z_aload_n C 2 rfl dL_309 ?_
  refine z_aload_n C 3 rfl dL_310 ?_
  refine z_iload_n C 0 rfl dL_311 ?_
  refine z_iconst C (v := 1) dL_312 (by decide) ?_
  refine z_iadd C dL_313 ?_
  refine z_sld C hX hbl hbA (j := i + 1) (nI_add i 1) (by omega) hL dL_314 ?_
  refine z_aload_n C 3 rfl dL_315 ?_
  refine z_iload_n C 0 rfl dL_316 ?_
  refine z_iconst C (v := 2) dL_317 (by decide) ?_
  refine z_iadd C dL_318 ?_
  refine z_sld C hX hbl hbA (j := i + 2) (nI_add i 2) (by omega) hL dL_319 ?_
  refine z_callC C [.int (xs (i + 1)), .int (xs (i + 2))] [] (q0 := 0) (n := 2) rfl (c_X6_rightful l D _ a x σ (xs (i + 1)) (xs (i + 2)) v e1) rfl cd_yX6_rightful in_RX6 ml_RL_37 im_yX6_rightful sl_yX6_rightful rfl rfl ⟨by decide +kernel, by decide +kernel, by decide +kernel⟩ (by decide) rfl (Nat.le_of_ble_eq_true rfl) hcs dL_320 ?_
  refine z_aload_n C 1 rfl dL_323 ?_
  refine z_aload_n C 3 rfl dL_324 ?_
  refine z_iload_n C 0 rfl dL_325 ?_
  refine z_iconst C (v := 1) dL_326 (by decide) ?_
  refine z_iadd C dL_327 ?_
  refine z_sld C hX hbl hbA (j := i + 1) (nI_add i 1) (by omega) hL dL_328 ?_
  refine z_aload_n C 3 rfl dL_329 ?_
  refine z_iload_n C 0 rfl dL_330 ?_
  refine z_iconst C (v := 2) dL_331 (by decide) ?_
  refine z_iadd C dL_332 ?_
  refine z_sld C hX hbl hbA (j := i + 2) (nI_add i 2) (by omega) hL dL_333 ?_
  refine z_callM C [.int (xs (i + 1)), .int (xs (i + 2))] [.int v] (q0 := 0) (n := 2) rfl (c_X7_rightful l D _ bb x τ (xs (i + 1)) (xs (i + 2)) v e2) rfl cd_yX7_rightful in_RX7 ml_RL_40 im_yX7_rightful sl_yX7_rightful rfl rfl ⟨by decide +kernel, by decide +kernel, by decide +kernel⟩ (by decide) rfl (Nat.le_of_ble_eq_true rfl) hcs dL_334 ?_
  refine z_icmp_eq C 800 (by decide) dL_337 (X := some ()) (Y := none) (r := ()) (if_pos rfl) (fun _ => ?_) (fun h => by cases h)
  exact hn _ _ hR
theorem law_6 (C : zx_C p s m #[Value.ref b] c D (tyz x) RL code 4) (hcs : cells ≤ room_1.cells ∧ slots ≤ room_1.slots) (hX : va_X b L xs s s.heap) (hbl : b < s.heap.size) (hbA : ¬ s.heap.size ≤ b) (hL : L ≤ 2560) {i : Nat} (hi : i + 5 ≤ L) (hR : Rel σ τ) (hn : ∀ σ' τ', Rel σ' τ' → zV p l e room_1 s m #[Value.ref b] below meth c cells slots (lw_Z below #[Value.ref b] s) D (fun q => s.heap.size ≤ q) 4 (wC a x σ' ++ wM bb x τ') 800 [(3, .int (nI i)), (2, .ref (bb 0)), (1, .ref (a 0)), (0, .ref b)] []) : zV p l e room_1 s m #[Value.ref b] below meth c cells slots (lw_Z below #[Value.ref b] s) D (fun q => s.heap.size ≤ q) 4 (wC a x σ ++ wM bb x τ) 342 [(3, .int (nI i)), (2, .ref (bb 0)), (1, .ref (a 0)), (0, .ref b)] [] := by
  obtain ⟨_, _, _, _, _, _, _, _, _, _, R0⟩ := id hR
  obtain ⟨v, σ', τ', e1, e2, R1⟩ := say_same R0 (xs (i + 1)) (xs (i + 2)) (xs (i + 3))
  refine z_aload_n C 2 rfl dL_342 ?_
  refine z_aload_n C 3 rfl dL_343 ?_
  refine z_iload_n C 0 rfl dL_344 ?_
  refine z_iconst C (v := 1) dL_345 (by decide) ?_
  refine z_iadd C dL_346 ?_
  refine z_sld C hX hbl hbA (j := i + 1) (nI_add i 1) (by omega) hL dL_347 ?_
  refine z_aload_n C 3 rfl dL_348 ?_
  refine z_iload_n C 0 rfl dL_349 ?_
  refine z_iconst C (v := 2) dL_350 (by decide) ?_
  refine z_iadd C dL_351 ?_
  refine z_sld C hX hbl hbA (j := i + 2) (nI_add i 2) (by omega) hL dL_352 ?_
  refine z_aload_n C 3 rfl dL_353 ?_
  refine z_iload_n C 0 rfl dL_354 ?_
  refine z_iconst C (v := 3) dL_355 (by decide) ?_
  refine z_iadd C dL_356 ?_
  refine z_sld C hX hbl hbA (j := i + 3) (nI_add i 3) (by omega) hL dL_357 ?_
  refine z_callC C [.int (xs (i + 1)), .int (xs (i + 2)), .int (xs (i + 3))] [] (q0 := 0) (n := 3) rfl (c_X6_say l D _ a x σ (xs (i + 1)) (xs (i + 2)) (xs (i + 3)) (v, σ') e1) rfl cd_yX6_say in_RX6 ml_RL_41 im_yX6_say sl_yX6_say rfl rfl ⟨by decide +kernel, by decide +kernel, by decide +kernel⟩ (by decide) rfl (Nat.le_of_ble_eq_true rfl) hcs dL_358 ?_
  refine z_aload_n C 1 rfl dL_361 ?_
  refine z_aload_n C 3 rfl dL_362 ?_
  refine z_iload_n C 0 rfl dL_363 ?_
  refine z_iconst C (v := 1) dL_364 (by decide) ?_
  refine z_iadd C dL_365 ?_
  refine z_sld C hX hbl hbA (j := i + 1) (nI_add i 1) (by omega) hL dL_366 ?_
  refine z_aload_n C 3 rfl dL_367 ?_
  refine z_iload_n C 0 rfl dL_368 ?_
  refine z_iconst C (v := 2) dL_369 (by decide) ?_
  refine z_iadd C dL_370 ?_
  refine z_sld C hX hbl hbA (j := i + 2) (nI_add i 2) (by omega) hL dL_371 ?_
  refine z_aload_n C 3 rfl dL_372 ?_
  refine z_iload_n C 0 rfl dL_373 ?_
  refine z_iconst C (v := 3) dL_374 (by decide) ?_
  refine z_iadd C dL_375 ?_
  refine z_sld C hX hbl hbA (j := i + 3) (nI_add i 3) (by omega) hL dL_376 ?_
  refine z_callM C [.int (xs (i + 1)), .int (xs (i + 2)), .int (xs (i + 3))] [.int v] (q0 := 0) (n := 3) rfl (c_X7_say l D _ bb x τ (xs (i + 1)) (xs (i + 2)) (xs (i + 3)) (v, τ') e2) rfl cd_yX7_say in_RX7 ml_RL_44 im_yX7_say sl_yX7_say rfl rfl ⟨by decide +kernel, by decide +kernel, by decide +kernel⟩ (by decide) rfl (Nat.le_of_ble_eq_true rfl) hcs dL_377 ?_
  refine z_icmp_eq C 800 (by decide) dL_380 (X := some ()) (Y := none) (r := ()) (if_pos rfl) (fun _ => ?_) (fun h => by cases h)
  exact hn _ _ R1
theorem law_7 (C : zx_C p s m #[Value.ref b] c D (tyz x) RL code 4) (hcs : cells ≤ room_1.cells ∧ slots ≤ room_1.slots) (hX : va_X b L xs s s.heap) (hbl : b < s.heap.size) (hbA : ¬ s.heap.size ≤ b) (hL : L ≤ 2560) {i : Nat} (hi : i + 5 ≤ L) (hR : Rel σ τ) (hn : ∀ σ' τ', Rel σ' τ' → zV p l e room_1 s m #[Value.ref b] below meth c cells slots (lw_Z below #[Value.ref b] s) D (fun q => s.heap.size ≤ q) 4 (wC a x σ' ++ wM bb x τ') 800 [(3, .int (nI i)), (2, .ref (bb 0)), (1, .ref (a 0)), (0, .ref b)] []) : zV p l e room_1 s m #[Value.ref b] below meth c cells slots (lw_Z below #[Value.ref b] s) D (fun q => s.heap.size ≤ q) 4 (wC a x σ ++ wM bb x τ) 385 [(3, .int (nI i)), (2, .ref (bb 0)), (1, .ref (a 0)), (0, .ref b)] [] := by
  obtain ⟨_, _, _, _, _, _, _, _, _, _, R0⟩ := id hR
  obtain ⟨v, σ', τ', e1, e2, R1⟩ := unsay_same R0 (xs (i + 1))
  refine z_aload_n C 2 rfl dL_385 ?_
  refine z_aload_n C 3 rfl dL_386 ?_
  refine z_iload_n C 0 rfl dL_387 ?_
  refine z_iconst C (v := 1) dL_388 (by decide) ?_
  refine z_iadd C dL_389 ?_
  refine z_sld C hX hbl hbA (j := i + 1) (nI_add i 1) (by omega) hL dL_390 ?_
  refine z_callC C [.int (xs (i + 1))] [] (q0 := 0) (n := 1) rfl (c_X6_unsay l D _ a x σ (xs (i + 1)) (v, σ') e1) rfl cd_yX6_unsay in_RX6 ml_RL_45 im_yX6_unsay sl_yX6_unsay rfl rfl ⟨by decide +kernel, by decide +kernel, by decide +kernel⟩ (by decide) rfl (Nat.le_of_ble_eq_true rfl) hcs dL_391 ?_
  refine z_aload_n C 1 rfl dL_394 ?_
  refine z_aload_n C 3 rfl dL_395 ?_
  refine z_iload_n C 0 rfl dL_396 ?_
  refine z_iconst C (v := 1) dL_397 (by decide) ?_
  refine z_iadd C dL_398 ?_
  refine z_sld C hX hbl hbA (j := i + 1) (nI_add i 1) (by omega) hL dL_399 ?_
  refine z_callM C [.int (xs (i + 1))] [.int v] (q0 := 0) (n := 1) rfl (c_X7_unsay l D _ bb x τ (xs (i + 1)) (v, τ') e2) rfl cd_yX7_unsay in_RX7 ml_RL_49 im_yX7_unsay sl_yX7_unsay rfl rfl ⟨by decide +kernel, by decide +kernel, by decide +kernel⟩ (by decide) rfl (Nat.le_of_ble_eq_true rfl) hcs dL_400 ?_
  refine z_icmp_eq C 800 (by decide) dL_403 (X := some ()) (Y := none) (r := ()) (if_pos rfl) (fun _ => ?_) (fun h => by cases h)
  exact hn _ _ R1
theorem law_8 (C : zx_C p s m #[Value.ref b] c D (tyz x) RL code 4) (hcs : cells ≤ room_1.cells ∧ slots ≤ room_1.slots) (hX : va_X b L xs s s.heap) (hbl : b < s.heap.size) (hbA : ¬ s.heap.size ≤ b) (hL : L ≤ 2560) {i : Nat} (hi : i + 5 ≤ L) (hR : Rel σ τ) (hn : ∀ σ' τ', Rel σ' τ' → zV p l e room_1 s m #[Value.ref b] below meth c cells slots (lw_Z below #[Value.ref b] s) D (fun q => s.heap.size ≤ q) 4 (wC a x σ' ++ wM bb x τ') 800 [(3, .int (nI i)), (2, .ref (bb 0)), (1, .ref (a 0)), (0, .ref b)] []) : zV p l e room_1 s m #[Value.ref b] below meth c cells slots (lw_Z below #[Value.ref b] s) D (fun q => s.heap.size ≤ q) 4 (wC a x σ ++ wM bb x τ) 408 [(3, .int (nI i)), (2, .ref (bb 0)), (1, .ref (a 0)), (0, .ref b)] [] := by
  obtain ⟨_, _, _, _, _, _, _, _, _, _, R0⟩ := id hR
  by_cases hb0 : xs (i + 3) = 0
  · obtain ⟨v, σ', τ', e1, e2, R1⟩ := set_same R0 (xs (i + 1)) (xs (i + 2)) 0
    refine z_aload_n C 2 rfl dL_408 ?_
    refine z_aload_n C 3 rfl dL_409 ?_
    refine z_iload_n C 0 rfl dL_410 ?_
    refine z_iconst C (v := 1) dL_411 (by decide) ?_
    refine z_iadd C dL_412 ?_
    refine z_sld C hX hbl hbA (j := i + 1) (nI_add i 1) (by omega) hL dL_413 ?_
    refine z_aload_n C 3 rfl dL_414 ?_
    refine z_iload_n C 0 rfl dL_415 ?_
    refine z_iconst C (v := 2) dL_416 (by decide) ?_
    refine z_iadd C dL_417 ?_
    refine z_sld C hX hbl hbA (j := i + 2) (nI_add i 2) (by omega) hL dL_418 ?_
    refine z_aload_n C 3 rfl dL_419 ?_
    refine z_iload_n C 0 rfl dL_420 ?_
    refine z_iconst C (v := 3) dL_421 (by decide) ?_
    refine z_iadd C dL_422 ?_
    refine z_sld C hX hbl hbA (j := i + 3) (nI_add i 3) (by omega) hL dL_423 ?_
    refine z_if_eq C 431 (by decide) dL_424 (X := some ()) (Y := none) (r := ()) (if_pos hb0) (fun _ => ?_) (fun h => by cases h)
    refine z_iconst C (v := 0) dL_431 (by decide) ?_
    refine z_callC C [.int (xs (i + 1)), .int (xs (i + 2)), .int 0] [] (q0 := 0) (n := 3) rfl (c_X6_set l D _ a x σ (xs (i + 1)) (xs (i + 2)) 0 (v, σ') e1) rfl cd_yX6_set in_RX6 ml_RL_50 im_yX6_set sl_yX6_set rfl rfl ⟨by decide +kernel, by decide +kernel, by decide +kernel⟩ (by decide) rfl (Nat.le_of_ble_eq_true rfl) hcs dL_432 ?_
    refine z_aload_n C 1 rfl dL_435 ?_
    refine z_aload_n C 3 rfl dL_436 ?_
    refine z_iload_n C 0 rfl dL_437 ?_
    refine z_iconst C (v := 1) dL_438 (by decide) ?_
    refine z_iadd C dL_439 ?_
    refine z_sld C hX hbl hbA (j := i + 1) (nI_add i 1) (by omega) hL dL_440 ?_
    refine z_aload_n C 3 rfl dL_441 ?_
    refine z_iload_n C 0 rfl dL_442 ?_
    refine z_iconst C (v := 2) dL_443 (by decide) ?_
    refine z_iadd C dL_444 ?_
    refine z_sld C hX hbl hbA (j := i + 2) (nI_add i 2) (by omega) hL dL_445 ?_
    refine z_aload_n C 3 rfl dL_446 ?_
    refine z_iload_n C 0 rfl dL_447 ?_
    refine z_iconst C (v := 3) dL_448 (by decide) ?_
    refine z_iadd C dL_449 ?_
    refine z_sld C hX hbl hbA (j := i + 3) (nI_add i 3) (by omega) hL dL_450 ?_
    refine z_if_eq C 458 (by decide) dL_451 (X := some ()) (Y := none) (r := ()) (if_pos hb0) (fun _ => ?_) (fun h => by cases h)
    refine z_iconst C (v := 0) dL_458 (by decide) ?_
    refine z_callM C [.int (xs (i + 1)), .int (xs (i + 2)), .int 0] [.int v] (q0 := 0) (n := 3) rfl (c_X7_set l D _ bb x τ (xs (i + 1)) (xs (i + 2)) 0 (v, τ') e2) rfl cd_yX7_set in_RX7 ml_RL_53 im_yX7_set sl_yX7_set rfl rfl ⟨by decide +kernel, by decide +kernel, by decide +kernel⟩ (by decide) rfl (Nat.le_of_ble_eq_true rfl) hcs dL_459 ?_
    refine z_icmp_eq C 800 (by decide) dL_462 (X := some ()) (Y := none) (r := ()) (if_pos rfl) (fun _ => ?_) (fun h => by cases h)
    exact hn _ _ R1
  · obtain ⟨v, σ', τ', e1, e2, R1⟩ := set_same R0 (xs (i + 1)) (xs (i + 2)) 1
    refine z_aload_n C 2 rfl dL_408 ?_
    refine z_aload_n C 3 rfl dL_409 ?_
    refine z_iload_n C 0 rfl dL_410 ?_
    refine z_iconst C (v := 1) dL_411 (by decide) ?_
    refine z_iadd C dL_412 ?_
    refine z_sld C hX hbl hbA (j := i + 1) (nI_add i 1) (by omega) hL dL_413 ?_
    refine z_aload_n C 3 rfl dL_414 ?_
    refine z_iload_n C 0 rfl dL_415 ?_
    refine z_iconst C (v := 2) dL_416 (by decide) ?_
    refine z_iadd C dL_417 ?_
    refine z_sld C hX hbl hbA (j := i + 2) (nI_add i 2) (by omega) hL dL_418 ?_
    refine z_aload_n C 3 rfl dL_419 ?_
    refine z_iload_n C 0 rfl dL_420 ?_
    refine z_iconst C (v := 3) dL_421 (by decide) ?_
    refine z_iadd C dL_422 ?_
    refine z_sld C hX hbl hbA (j := i + 3) (nI_add i 3) (by omega) hL dL_423 ?_
    refine z_if_eq C 431 (by decide) dL_424 (X := none) (Y := some ()) (r := ()) (if_neg hb0) (fun h => by cases h) (fun _ => ?_)
    refine z_iconst C (v := 1) dL_427 (by decide) ?_
    refine z_goto C 432 (by decide) dL_428 ?_
    refine z_callC C [.int (xs (i + 1)), .int (xs (i + 2)), .int 1] [] (q0 := 0) (n := 3) rfl (c_X6_set l D _ a x σ (xs (i + 1)) (xs (i + 2)) 1 (v, σ') e1) rfl cd_yX6_set in_RX6 ml_RL_50 im_yX6_set sl_yX6_set rfl rfl ⟨by decide +kernel, by decide +kernel, by decide +kernel⟩ (by decide) rfl (Nat.le_of_ble_eq_true rfl) hcs dL_432 ?_
    refine z_aload_n C 1 rfl dL_435 ?_
    refine z_aload_n C 3 rfl dL_436 ?_
    refine z_iload_n C 0 rfl dL_437 ?_
    refine z_iconst C (v := 1) dL_438 (by decide) ?_
    refine z_iadd C dL_439 ?_
    refine z_sld C hX hbl hbA (j := i + 1) (nI_add i 1) (by omega) hL dL_440 ?_
    refine z_aload_n C 3 rfl dL_441 ?_
    refine z_iload_n C 0 rfl dL_442 ?_
    refine z_iconst C (v := 2) dL_443 (by decide) ?_
    refine z_iadd C dL_444 ?_
    refine z_sld C hX hbl hbA (j := i + 2) (nI_add i 2) (by omega) hL dL_445 ?_
    refine z_aload_n C 3 rfl dL_446 ?_
    refine z_iload_n C 0 rfl dL_447 ?_
    refine z_iconst C (v := 3) dL_448 (by decide) ?_
    refine z_iadd C dL_449 ?_
    refine z_sld C hX hbl hbA (j := i + 3) (nI_add i 3) (by omega) hL dL_450 ?_
    refine z_if_eq C 458 (by decide) dL_451 (X := none) (Y := some ()) (r := ()) (if_neg hb0) (fun h => by cases h) (fun _ => ?_)
    refine z_iconst C (v := 1) dL_454 (by decide) ?_
    refine z_goto C 459 (by decide) dL_455 ?_
    refine z_callM C [.int (xs (i + 1)), .int (xs (i + 2)), .int 1] [.int v] (q0 := 0) (n := 3) rfl (c_X7_set l D _ bb x τ (xs (i + 1)) (xs (i + 2)) 1 (v, τ') e2) rfl cd_yX7_set in_RX7 ml_RL_53 im_yX7_set sl_yX7_set rfl rfl ⟨by decide +kernel, by decide +kernel, by decide +kernel⟩ (by decide) rfl (Nat.le_of_ble_eq_true rfl) hcs dL_459 ?_
    refine z_icmp_eq C 800 (by decide) dL_462 (X := some ()) (Y := none) (r := ()) (if_pos rfl) (fun _ => ?_) (fun h => by cases h)
    exact hn _ _ R1
theorem law_9 (C : zx_C p s m #[Value.ref b] c D (tyz x) RL code 4) (hcs : cells ≤ room_1.cells ∧ slots ≤ room_1.slots) (hX : va_X b L xs s s.heap) (hbl : b < s.heap.size) (hbA : ¬ s.heap.size ≤ b) (hL : L ≤ 2560) {i : Nat} (hi : i + 5 ≤ L) (hR : Rel σ τ) (hn : ∀ σ' τ', Rel σ' τ' → zV p l e room_1 s m #[Value.ref b] below meth c cells slots (lw_Z below #[Value.ref b] s) D (fun q => s.heap.size ≤ q) 4 (wC a x σ' ++ wM bb x τ') 800 [(3, .int (nI i)), (2, .ref (bb 0)), (1, .ref (a 0)), (0, .ref b)] []) : zV p l e room_1 s m #[Value.ref b] below meth c cells slots (lw_Z below #[Value.ref b] s) D (fun q => s.heap.size ≤ q) 4 (wC a x σ ++ wM bb x τ) 467 [(3, .int (nI i)), (2, .ref (bb 0)), (1, .ref (a 0)), (0, .ref b)] [] := by
  obtain ⟨_, _, _, _, _, _, _, _, _, _, R0⟩ := id hR
  obtain ⟨v, σ', τ', e1, e2, R1⟩ := rounds_same R0 (xs (i + 1)) (xs (i + 2))
  refine z_aload_n C 2 rfl dL_467 ?_
  refine z_aload_n C 3 rfl dL_468 ?_
  refine z_iload_n C 0 rfl dL_469 ?_
  refine z_iconst C (v := 1) dL_470 (by decide) ?_
  refine z_iadd C dL_471 ?_
  refine z_sld C hX hbl hbA (j := i + 1) (nI_add i 1) (by omega) hL dL_472 ?_
  refine z_aload_n C 3 rfl dL_473 ?_
  refine z_iload_n C 0 rfl dL_474 ?_
  refine z_iconst C (v := 2) dL_475 (by decide) ?_
  refine z_iadd C dL_476 ?_
  refine z_sld C hX hbl hbA (j := i + 2) (nI_add i 2) (by omega) hL dL_477 ?_
  refine z_callC C [.int (xs (i + 1)), .int (xs (i + 2))] [] (q0 := 0) (n := 2) rfl (c_X6_rounds l D _ a x σ (xs (i + 1)) (xs (i + 2)) (v, σ') e1) rfl cd_yX6_rounds in_RX6 ml_RL_54 im_yX6_rounds sl_yX6_rounds rfl rfl ⟨by decide +kernel, by decide +kernel, by decide +kernel⟩ (by decide) rfl (Nat.le_of_ble_eq_true rfl) hcs dL_478 ?_
  refine z_aload_n C 1 rfl dL_481 ?_
  refine z_aload_n C 3 rfl dL_482 ?_
  refine z_iload_n C 0 rfl dL_483 ?_
  refine z_iconst C (v := 1) dL_484 (by decide) ?_
  refine z_iadd C dL_485 ?_
  refine z_sld C hX hbl hbA (j := i + 1) (nI_add i 1) (by omega) hL dL_486 ?_
  refine z_aload_n C 3 rfl dL_487 ?_
  refine z_iload_n C 0 rfl dL_488 ?_
  refine z_iconst C (v := 2) dL_489 (by decide) ?_
  refine z_iadd C dL_490 ?_
  refine z_sld C hX hbl hbA (j := i + 2) (nI_add i 2) (by omega) hL dL_491 ?_
  refine z_callM C [.int (xs (i + 1)), .int (xs (i + 2))] [.int v] (q0 := 0) (n := 2) rfl (c_X7_rounds l D _ bb x τ (xs (i + 1)) (xs (i + 2)) (v, τ') e2) rfl cd_yX7_rounds in_RX7 ml_RL_57 im_yX7_rounds sl_yX7_rounds rfl rfl ⟨by decide +kernel, by decide +kernel, by decide +kernel⟩ (by decide) rfl (Nat.le_of_ble_eq_true rfl) hcs dL_492 ?_
  refine z_icmp_eq C 800 (by decide) dL_495 (X := some ()) (Y := none) (r := ()) (if_pos rfl) (fun _ => ?_) (fun h => by cases h)
  exact hn _ _ R1
theorem law_10 (C : zx_C p s m #[Value.ref b] c D (tyz x) RL code 4) (hcs : cells ≤ room_1.cells ∧ slots ≤ room_1.slots) (hX : va_X b L xs s s.heap) (hbl : b < s.heap.size) (hbA : ¬ s.heap.size ≤ b) (hL : L ≤ 2560) {i : Nat} (hi : i + 5 ≤ L) (hR : Rel σ τ) (hn : ∀ σ' τ', Rel σ' τ' → zV p l e room_1 s m #[Value.ref b] below meth c cells slots (lw_Z below #[Value.ref b] s) D (fun q => s.heap.size ≤ q) 4 (wC a x σ' ++ wM bb x τ') 800 [(3, .int (nI i)), (2, .ref (bb 0)), (1, .ref (a 0)), (0, .ref b)] []) : zV p l e room_1 s m #[Value.ref b] below meth c cells slots (lw_Z below #[Value.ref b] s) D (fun q => s.heap.size ≤ q) 4 (wC a x σ ++ wM bb x τ) 500 [(3, .int (nI i)), (2, .ref (bb 0)), (1, .ref (a 0)), (0, .ref b)] [] := by
  obtain ⟨_, _, _, _, _, _, _, _, _, _, R0⟩ := id hR
  obtain ⟨v, σ', τ', e1, e2, R1⟩ := restless_same R0 (xs (i + 1)) (xs (i + 2))
  refine z_aload_n C 2 rfl dL_500 ?_
  refine z_aload_n C 3 rfl dL_501 ?_
  refine z_iload_n C 0 rfl dL_502 ?_
  refine z_iconst C (v := 1) dL_503 (by decide) ?_
  refine z_iadd C dL_504 ?_
  refine z_sld C hX hbl hbA (j := i + 1) (nI_add i 1) (by omega) hL dL_505 ?_
  refine z_aload_n C 3 rfl dL_506 ?_
  refine z_iload_n C 0 rfl dL_507 ?_
  refine z_iconst C (v := 2) dL_508 (by decide) ?_
  refine z_iadd C dL_509 ?_
  refine z_sld C hX hbl hbA (j := i + 2) (nI_add i 2) (by omega) hL dL_510 ?_
  refine z_callC C [.int (xs (i + 1)), .int (xs (i + 2))] [] (q0 := 0) (n := 2) rfl (c_X6_restless l D _ a x σ (xs (i + 1)) (xs (i + 2)) (v, σ') e1) rfl cd_yX6_restless in_RX6 ml_RL_58 im_yX6_restless sl_yX6_restless rfl rfl ⟨by decide +kernel, by decide +kernel, by decide +kernel⟩ (by decide) rfl (Nat.le_of_ble_eq_true rfl) hcs dL_511 ?_
  refine z_aload_n C 1 rfl dL_514 ?_
  refine z_aload_n C 3 rfl dL_515 ?_
  refine z_iload_n C 0 rfl dL_516 ?_
  refine z_iconst C (v := 1) dL_517 (by decide) ?_
  refine z_iadd C dL_518 ?_
  refine z_sld C hX hbl hbA (j := i + 1) (nI_add i 1) (by omega) hL dL_519 ?_
  refine z_aload_n C 3 rfl dL_520 ?_
  refine z_iload_n C 0 rfl dL_521 ?_
  refine z_iconst C (v := 2) dL_522 (by decide) ?_
  refine z_iadd C dL_523 ?_
  refine z_sld C hX hbl hbA (j := i + 2) (nI_add i 2) (by omega) hL dL_524 ?_
  refine z_callM C [.int (xs (i + 1)), .int (xs (i + 2))] [.int v] (q0 := 0) (n := 2) rfl (c_X7_restless l D _ bb x τ (xs (i + 1)) (xs (i + 2)) (v, τ') e2) rfl cd_yX7_restless in_RX7 ml_RL_61 im_yX7_restless sl_yX7_restless rfl rfl ⟨by decide +kernel, by decide +kernel, by decide +kernel⟩ (by decide) rfl (Nat.le_of_ble_eq_true rfl) hcs dL_525 ?_
  refine z_icmp_eq C 800 (by decide) dL_528 (X := some ()) (Y := none) (r := ()) (if_pos rfl) (fun _ => ?_) (fun h => by cases h)
  exact hn _ _ R1
theorem law_11 (C : zx_C p s m #[Value.ref b] c D (tyz x) RL code 4) (hcs : cells ≤ room_1.cells ∧ slots ≤ room_1.slots) (hX : va_X b L xs s s.heap) (hbl : b < s.heap.size) (hbA : ¬ s.heap.size ≤ b) (hL : L ≤ 2560) {i : Nat} (hi : i + 5 ≤ L) (hR : Rel σ τ) (hn : ∀ σ' τ', Rel σ' τ' → zV p l e room_1 s m #[Value.ref b] below meth c cells slots (lw_Z below #[Value.ref b] s) D (fun q => s.heap.size ≤ q) 4 (wC a x σ' ++ wM bb x τ') 800 [(3, .int (nI i)), (2, .ref (bb 0)), (1, .ref (a 0)), (0, .ref b)] []) : zV p l e room_1 s m #[Value.ref b] below meth c cells slots (lw_Z below #[Value.ref b] s) D (fun q => s.heap.size ≤ q) 4 (wC a x σ ++ wM bb x τ) 533 [(3, .int (nI i)), (2, .ref (bb 0)), (1, .ref (a 0)), (0, .ref b)] [] := by
  obtain ⟨_, _, _, _, _, _, _, _, _, _, R0⟩ := id hR
  obtain ⟨v, σ', τ', e1, e2, R1⟩ := way_same R0 (xs (i + 1)) (xs (i + 2)) (xs (i + 3)) (xs (i + 4))
  refine z_aload_n C 2 rfl dL_533 ?_
  refine z_aload_n C 3 rfl dL_534 ?_
  refine z_iload_n C 0 rfl dL_535 ?_
  refine z_iconst C (v := 1) dL_536 (by decide) ?_
  refine z_iadd C dL_537 ?_
  refine z_sld C hX hbl hbA (j := i + 1) (nI_add i 1) (by omega) hL dL_538 ?_
  refine z_aload_n C 3 rfl dL_539 ?_
  refine z_iload_n C 0 rfl dL_540 ?_
  refine z_iconst C (v := 2) dL_541 (by decide) ?_
  refine z_iadd C dL_542 ?_
  refine z_sld C hX hbl hbA (j := i + 2) (nI_add i 2) (by omega) hL dL_543 ?_
  refine z_aload_n C 3 rfl dL_544 ?_
  refine z_iload_n C 0 rfl dL_545 ?_
  refine z_iconst C (v := 3) dL_546 (by decide) ?_
  refine z_iadd C dL_547 ?_
  refine z_sld C hX hbl hbA (j := i + 3) (nI_add i 3) (by omega) hL dL_548 ?_
  refine z_aload_n C 3 rfl dL_549 ?_
  refine z_iload_n C 0 rfl dL_550 ?_
  refine z_iconst C (v := 4) dL_551 (by decide) ?_
  refine z_iadd C dL_552 ?_
  refine z_sld C hX hbl hbA (j := i + 4) (nI_add i 4) (by omega) hL dL_553 ?_
  refine z_callC C [.int (xs (i + 1)), .int (xs (i + 2)), .int (xs (i + 3)), .int (xs (i + 4))] [] (q0 := 0) (n := 4) rfl (c_X6_way l D _ a x σ (xs (i + 1)) (xs (i + 2)) (xs (i + 3)) (xs (i + 4)) (v, σ') e1) rfl cd_yX6_way in_RX6 ml_RL_62 im_yX6_way sl_yX6_way rfl rfl ⟨by decide +kernel, by decide +kernel, by decide +kernel⟩ (by decide) rfl (Nat.le_of_ble_eq_true rfl) hcs dL_554 ?_
  refine z_aload_n C 1 rfl dL_557 ?_
  refine z_aload_n C 3 rfl dL_558 ?_
  refine z_iload_n C 0 rfl dL_559 ?_
  refine z_iconst C (v := 1) dL_560 (by decide) ?_
  refine z_iadd C dL_561 ?_
  refine z_sld C hX hbl hbA (j := i + 1) (nI_add i 1) (by omega) hL dL_562 ?_
  refine z_aload_n C 3 rfl dL_563 ?_
  refine z_iload_n C 0 rfl dL_564 ?_
  refine z_iconst C (v := 2) dL_565 (by decide) ?_
  refine z_iadd C dL_566 ?_
  refine z_sld C hX hbl hbA (j := i + 2) (nI_add i 2) (by omega) hL dL_567 ?_
  refine z_aload_n C 3 rfl dL_568 ?_
  refine z_iload_n C 0 rfl dL_569 ?_
  refine z_iconst C (v := 3) dL_570 (by decide) ?_
  refine z_iadd C dL_571 ?_
  refine z_sld C hX hbl hbA (j := i + 3) (nI_add i 3) (by omega) hL dL_572 ?_
  refine z_aload_n C 3 rfl dL_573 ?_
  refine z_iload_n C 0 rfl dL_574 ?_
  refine z_iconst C (v := 4) dL_575 (by decide) ?_
  refine z_iadd C dL_576 ?_
  refine z_sld C hX hbl hbA (j := i + 4) (nI_add i 4) (by omega) hL dL_577 ?_
  refine z_callM C [.int (xs (i + 1)), .int (xs (i + 2)), .int (xs (i + 3)), .int (xs (i + 4))] [.int v] (q0 := 0) (n := 4) rfl (c_X7_way l D _ bb x τ (xs (i + 1)) (xs (i + 2)) (xs (i + 3)) (xs (i + 4)) (v, τ') e2) rfl cd_yX7_way in_RX7 ml_RL_66 im_yX7_way sl_yX7_way rfl rfl ⟨by decide +kernel, by decide +kernel, by decide +kernel⟩ (by decide) rfl (Nat.le_of_ble_eq_true rfl) hcs dL_578 ?_
  refine z_icmp_eq C 800 (by decide) dL_581 (X := some ()) (Y := none) (r := ()) (if_pos rfl) (fun _ => ?_) (fun h => by cases h)
  exact hn _ _ R1
theorem law_12 (C : zx_C p s m #[Value.ref b] c D (tyz x) RL code 4) (hcs : cells ≤ room_1.cells ∧ slots ≤ room_1.slots) (hX : va_X b L xs s s.heap) (hbl : b < s.heap.size) (hbA : ¬ s.heap.size ≤ b) (hL : L ≤ 2560) {i : Nat} (hi : i + 5 ≤ L) (hR : Rel σ τ) (hn : ∀ σ' τ', Rel σ' τ' → zV p l e room_1 s m #[Value.ref b] below meth c cells slots (lw_Z below #[Value.ref b] s) D (fun q => s.heap.size ≤ q) 4 (wC a x σ' ++ wM bb x τ') 800 [(3, .int (nI i)), (2, .ref (bb 0)), (1, .ref (a 0)), (0, .ref b)] []) : zV p l e room_1 s m #[Value.ref b] below meth c cells slots (lw_Z below #[Value.ref b] s) D (fun q => s.heap.size ≤ q) 4 (wC a x σ ++ wM bb x τ) 586 [(3, .int (nI i)), (2, .ref (bb 0)), (1, .ref (a 0)), (0, .ref b)] [] := by
  obtain ⟨_, _, _, _, _, _, _, _, _, _, R0⟩ := id hR
  obtain ⟨v, σ', τ', e1, e2, R1⟩ := broken_same R0 (xs (i + 1)) (xs (i + 2)) (xs (i + 3))
  refine z_aload_n C 2 rfl dL_586 ?_
  refine z_aload_n C 3 rfl dL_587 ?_
  refine z_iload_n C 0 rfl dL_588 ?_
  refine z_iconst C (v := 1) dL_589 (by decide) ?_
  refine z_iadd C dL_590 ?_
  refine z_sld C hX hbl hbA (j := i + 1) (nI_add i 1) (by omega) hL dL_591 ?_
  refine z_aload_n C 3 rfl dL_592 ?_
  refine z_iload_n C 0 rfl dL_593 ?_
  refine z_iconst C (v := 2) dL_594 (by decide) ?_
  refine z_iadd C dL_595 ?_
  refine z_sld C hX hbl hbA (j := i + 2) (nI_add i 2) (by omega) hL dL_596 ?_
  refine z_aload_n C 3 rfl dL_597 ?_
  refine z_iload_n C 0 rfl dL_598 ?_
  refine z_iconst C (v := 3) dL_599 (by decide) ?_
  refine z_iadd C dL_600 ?_
  refine z_sld C hX hbl hbA (j := i + 3) (nI_add i 3) (by omega) hL dL_601 ?_
  refine z_callC C [.int (xs (i + 1)), .int (xs (i + 2)), .int (xs (i + 3))] [] (q0 := 0) (n := 3) rfl (c_X6_broken l D _ a x σ (xs (i + 1)) (xs (i + 2)) (xs (i + 3)) (v, σ') e1) rfl cd_yX6_broken in_RX6 ml_RL_67 im_yX6_broken sl_yX6_broken rfl rfl ⟨by decide +kernel, by decide +kernel, by decide +kernel⟩ (by decide) rfl (Nat.le_of_ble_eq_true rfl) hcs dL_602 ?_
  refine z_aload_n C 1 rfl dL_605 ?_
  refine z_aload_n C 3 rfl dL_606 ?_
  refine z_iload_n C 0 rfl dL_607 ?_
  refine z_iconst C (v := 1) dL_608 (by decide) ?_
  refine z_iadd C dL_609 ?_
  refine z_sld C hX hbl hbA (j := i + 1) (nI_add i 1) (by omega) hL dL_610 ?_
  refine z_aload_n C 3 rfl dL_611 ?_
  refine z_iload_n C 0 rfl dL_612 ?_
  refine z_iconst C (v := 2) dL_613 (by decide) ?_
  refine z_iadd C dL_614 ?_
  refine z_sld C hX hbl hbA (j := i + 2) (nI_add i 2) (by omega) hL dL_615 ?_
  refine z_aload_n C 3 rfl dL_616 ?_
  refine z_iload_n C 0 rfl dL_617 ?_
  refine z_iconst C (v := 3) dL_618 (by decide) ?_
  refine z_iadd C dL_619 ?_
  refine z_sld C hX hbl hbA (j := i + 3) (nI_add i 3) (by omega) hL dL_620 ?_
  refine z_callM C [.int (xs (i + 1)), .int (xs (i + 2)), .int (xs (i + 3))] [.int v] (q0 := 0) (n := 3) rfl (c_X7_broken l D _ bb x τ (xs (i + 1)) (xs (i + 2)) (xs (i + 3)) (v, τ') e2) rfl cd_yX7_broken in_RX7 ml_RL_70 im_yX7_broken sl_yX7_broken rfl rfl ⟨by decide +kernel, by decide +kernel, by decide +kernel⟩ (by decide) rfl (Nat.le_of_ble_eq_true rfl) hcs dL_621 ?_
  refine z_icmp_eq C 800 (by decide) dL_624 (X := some ()) (Y := none) (r := ()) (if_pos rfl) (fun _ => ?_) (fun h => by cases h)
  exact hn _ _ R1
theorem law_13 (C : zx_C p s m #[Value.ref b] c D (tyz x) RL code 4) (hcs : cells ≤ room_1.cells ∧ slots ≤ room_1.slots) (hX : va_X b L xs s s.heap) (hbl : b < s.heap.size) (hbA : ¬ s.heap.size ≤ b) (hL : L ≤ 2560) {i : Nat} (hi : i + 5 ≤ L) (hR : Rel σ τ) (hn : ∀ σ' τ', Rel σ' τ' → zV p l e room_1 s m #[Value.ref b] below meth c cells slots (lw_Z below #[Value.ref b] s) D (fun q => s.heap.size ≤ q) 4 (wC a x σ' ++ wM bb x τ') 800 [(3, .int (nI i)), (2, .ref (bb 0)), (1, .ref (a 0)), (0, .ref b)] []) : zV p l e room_1 s m #[Value.ref b] below meth c cells slots (lw_Z below #[Value.ref b] s) D (fun q => s.heap.size ≤ q) 4 (wC a x σ ++ wM bb x τ) 629 [(3, .int (nI i)), (2, .ref (bb 0)), (1, .ref (a 0)), (0, .ref b)] [] := by
  obtain ⟨_, _, _, _, _, _, _, _, _, _, R0⟩ := id hR
  obtain ⟨v, σ', τ', e1, e2, R1⟩ := goes_same R0 (xs (i + 1)) (xs (i + 2))
  refine z_aload_n C 2 rfl dL_629 ?_
  refine z_aload_n C 3 rfl dL_630 ?_
  refine z_iload_n C 0 rfl dL_631 ?_
  refine z_iconst C (v := 1) dL_632 (by decide) ?_
  refine z_iadd C dL_633 ?_
  refine z_sld C hX hbl hbA (j := i + 1) (nI_add i 1) (by omega) hL dL_634 ?_
  refine z_aload_n C 3 rfl dL_635 ?_
  refine z_iload_n C 0 rfl dL_636 ?_
  refine z_iconst C (v := 2) dL_637 (by decide) ?_
  refine z_iadd C dL_638 ?_
  refine z_sld C hX hbl hbA (j := i + 2) (nI_add i 2) (by omega) hL dL_639 ?_
  refine z_callC C [.int (xs (i + 1)), .int (xs (i + 2))] [] (q0 := 0) (n := 2) rfl (c_X6_goes l D _ a x σ (xs (i + 1)) (xs (i + 2)) (v, σ') e1) rfl cd_yX6_goes in_RX6 ml_RL_71 im_yX6_goes sl_yX6_goes rfl rfl ⟨by decide +kernel, by decide +kernel, by decide +kernel⟩ (by decide) rfl (Nat.le_of_ble_eq_true rfl) hcs dL_640 ?_
  refine z_aload_n C 1 rfl dL_643 ?_
  refine z_aload_n C 3 rfl dL_644 ?_
  refine z_iload_n C 0 rfl dL_645 ?_
  refine z_iconst C (v := 1) dL_646 (by decide) ?_
  refine z_iadd C dL_647 ?_
  refine z_sld C hX hbl hbA (j := i + 1) (nI_add i 1) (by omega) hL dL_648 ?_
  refine z_aload_n C 3 rfl dL_649 ?_
  refine z_iload_n C 0 rfl dL_650 ?_
  refine z_iconst C (v := 2) dL_651 (by decide) ?_
  refine z_iadd C dL_652 ?_
  refine z_sld C hX hbl hbA (j := i + 2) (nI_add i 2) (by omega) hL dL_653 ?_
  refine z_callM C [.int (xs (i + 1)), .int (xs (i + 2))] [.int v] (q0 := 0) (n := 2) rfl (c_X7_goes l D _ bb x τ (xs (i + 1)) (xs (i + 2)) (v, τ') e2) rfl cd_yX7_goes in_RX7 ml_RL_74 im_yX7_goes sl_yX7_goes rfl rfl ⟨by decide +kernel, by decide +kernel, by decide +kernel⟩ (by decide) rfl (Nat.le_of_ble_eq_true rfl) hcs dL_654 ?_
  refine z_icmp_eq C 800 (by decide) dL_657 (X := some ()) (Y := none) (r := ()) (if_pos rfl) (fun _ => ?_) (fun h => by cases h)
  exact hn _ _ R1
theorem law_14 (C : zx_C p s m #[Value.ref b] c D (tyz x) RL code 4) (hcs : cells ≤ room_1.cells ∧ slots ≤ room_1.slots) (hX : va_X b L xs s s.heap) (hbl : b < s.heap.size) (hbA : ¬ s.heap.size ≤ b) (hL : L ≤ 2560) {i : Nat} (hi : i + 5 ≤ L) (hR : Rel σ τ) (hn : ∀ σ' τ', Rel σ' τ' → zV p l e room_1 s m #[Value.ref b] below meth c cells slots (lw_Z below #[Value.ref b] s) D (fun q => s.heap.size ≤ q) 4 (wC a x σ' ++ wM bb x τ') 800 [(3, .int (nI i)), (2, .ref (bb 0)), (1, .ref (a 0)), (0, .ref b)] []) : zV p l e room_1 s m #[Value.ref b] below meth c cells slots (lw_Z below #[Value.ref b] s) D (fun q => s.heap.size ≤ q) 4 (wC a x σ ++ wM bb x τ) 662 [(3, .int (nI i)), (2, .ref (bb 0)), (1, .ref (a 0)), (0, .ref b)] [] := by
  obtain ⟨_, _, _, _, _, _, _, _, _, _, R0⟩ := id hR
  obtain ⟨v, σ', τ', e1, e2, R1⟩ := misled_same R0 (xs (i + 1))
  refine z_aload_n C 2 rfl dL_662 ?_
  refine z_aload_n C 3 rfl dL_663 ?_
  refine z_iload_n C 0 rfl dL_664 ?_
  refine z_iconst C (v := 1) dL_665 (by decide) ?_
  refine z_iadd C dL_666 ?_
  refine z_sld C hX hbl hbA (j := i + 1) (nI_add i 1) (by omega) hL dL_667 ?_
  refine z_callC C [.int (xs (i + 1))] [] (q0 := 0) (n := 1) rfl (c_X6_misled l D _ a x σ (xs (i + 1)) (v, σ') e1) rfl cd_yX6_misled in_RX6 ml_RL_75 im_yX6_misled sl_yX6_misled rfl rfl ⟨by decide +kernel, by decide +kernel, by decide +kernel⟩ (by decide) rfl (Nat.le_of_ble_eq_true rfl) hcs dL_668 ?_
  refine z_aload_n C 1 rfl dL_671 ?_
  refine z_aload_n C 3 rfl dL_672 ?_
  refine z_iload_n C 0 rfl dL_673 ?_
  refine z_iconst C (v := 1) dL_674 (by decide) ?_
  refine z_iadd C dL_675 ?_
  refine z_sld C hX hbl hbA (j := i + 1) (nI_add i 1) (by omega) hL dL_676 ?_
  refine z_callM C [.int (xs (i + 1))] [.int v] (q0 := 0) (n := 1) rfl (c_X7_misled l D _ bb x τ (xs (i + 1)) (v, τ') e2) rfl cd_yX7_misled in_RX7 ml_RL_78 im_yX7_misled sl_yX7_misled rfl rfl ⟨by decide +kernel, by decide +kernel, by decide +kernel⟩ (by decide) rfl (Nat.le_of_ble_eq_true rfl) hcs dL_677 ?_
  refine z_icmp_eq C 800 (by decide) dL_680 (X := some ()) (Y := none) (r := ()) (if_pos rfl) (fun _ => ?_) (fun h => by cases h)
  exact hn _ _ R1
theorem law_15 (C : zx_C p s m #[Value.ref b] c D (tyz x) RL code 4) (hcs : cells ≤ room_1.cells ∧ slots ≤ room_1.slots) (hX : va_X b L xs s s.heap) (hbl : b < s.heap.size) (hbA : ¬ s.heap.size ≤ b) (hL : L ≤ 2560) {i : Nat} (hi : i + 5 ≤ L) (hR : Rel σ τ) (hn : ∀ σ' τ', Rel σ' τ' → zV p l e room_1 s m #[Value.ref b] below meth c cells slots (lw_Z below #[Value.ref b] s) D (fun q => s.heap.size ≤ q) 4 (wC a x σ' ++ wM bb x τ') 800 [(3, .int (nI i)), (2, .ref (bb 0)), (1, .ref (a 0)), (0, .ref b)] []) : zV p l e room_1 s m #[Value.ref b] below meth c cells slots (lw_Z below #[Value.ref b] s) D (fun q => s.heap.size ≤ q) 4 (wC a x σ ++ wM bb x τ) 685 [(3, .int (nI i)), (2, .ref (bb 0)), (1, .ref (a 0)), (0, .ref b)] [] := by
  obtain ⟨_, _, _, _, _, _, _, _, _, _, R0⟩ := id hR
  obtain ⟨v, σ', τ', e1, e2, R1⟩ := saying_same R0 (xs (i + 1)) (xs (i + 2))
  refine z_aload_n C 2 rfl dL_685 ?_
  refine z_aload_n C 3 rfl dL_686 ?_
  refine z_iload_n C 0 rfl dL_687 ?_
  refine z_iconst C (v := 1) dL_688 (by decide) ?_
  refine z_iadd C dL_689 ?_
  refine z_sld C hX hbl hbA (j := i + 1) (nI_add i 1) (by omega) hL dL_690 ?_
  refine z_aload_n C 3 rfl dL_691 ?_
  refine z_iload_n C 0 rfl dL_692 ?_
  refine z_iconst C (v := 2) dL_693 (by decide) ?_
  refine z_iadd C dL_694 ?_
  refine z_sld C hX hbl hbA (j := i + 2) (nI_add i 2) (by omega) hL dL_695 ?_
  refine z_callC C [.int (xs (i + 1)), .int (xs (i + 2))] [] (q0 := 0) (n := 2) rfl (c_X6_saying l D _ a x σ (xs (i + 1)) (xs (i + 2)) (v, σ') e1) rfl cd_yX6_saying in_RX6 ml_RL_79 im_yX6_saying sl_yX6_saying rfl rfl ⟨by decide +kernel, by decide +kernel, by decide +kernel⟩ (by decide) rfl (Nat.le_of_ble_eq_true rfl) hcs dL_696 ?_
  refine z_aload_n C 1 rfl dL_699 ?_
  refine z_aload_n C 3 rfl dL_700 ?_
  refine z_iload_n C 0 rfl dL_701 ?_
  refine z_iconst C (v := 1) dL_702 (by decide) ?_
  refine z_iadd C dL_703 ?_
  refine z_sld C hX hbl hbA (j := i + 1) (nI_add i 1) (by omega) hL dL_704 ?_
  refine z_aload_n C 3 rfl dL_705 ?_
  refine z_iload_n C 0 rfl dL_706 ?_
  refine z_iconst C (v := 2) dL_707 (by decide) ?_
  refine z_iadd C dL_708 ?_
  refine z_sld C hX hbl hbA (j := i + 2) (nI_add i 2) (by omega) hL dL_709 ?_
  refine z_callM C [.int (xs (i + 1)), .int (xs (i + 2))] [.int v] (q0 := 0) (n := 2) rfl (c_X7_saying l D _ bb x τ (xs (i + 1)) (xs (i + 2)) (v, τ') e2) rfl cd_yX7_saying in_RX7 ml_RL_82 im_yX7_saying sl_yX7_saying rfl rfl ⟨by decide +kernel, by decide +kernel, by decide +kernel⟩ (by decide) rfl (Nat.le_of_ble_eq_true rfl) hcs dL_710 ?_
  refine z_icmp_eq C 800 (by decide) dL_713 (X := some ()) (Y := none) (r := ()) (if_pos rfl) (fun _ => ?_) (fun h => by cases h)
  exact hn _ _ R1
theorem law_16 (C : zx_C p s m #[Value.ref b] c D (tyz x) RL code 4) (hcs : cells ≤ room_1.cells ∧ slots ≤ room_1.slots) (hX : va_X b L xs s s.heap) (hbl : b < s.heap.size) (hbA : ¬ s.heap.size ≤ b) (hL : L ≤ 2560) {i : Nat} (hi : i + 5 ≤ L) (hR : Rel σ τ) (hn : ∀ σ' τ', Rel σ' τ' → zV p l e room_1 s m #[Value.ref b] below meth c cells slots (lw_Z below #[Value.ref b] s) D (fun q => s.heap.size ≤ q) 4 (wC a x σ' ++ wM bb x τ') 800 [(3, .int (nI i)), (2, .ref (bb 0)), (1, .ref (a 0)), (0, .ref b)] []) : zV p l e room_1 s m #[Value.ref b] below meth c cells slots (lw_Z below #[Value.ref b] s) D (fun q => s.heap.size ≤ q) 4 (wC a x σ ++ wM bb x τ) 718 [(3, .int (nI i)), (2, .ref (bb 0)), (1, .ref (a 0)), (0, .ref b)] [] := by
  obtain ⟨_, _, _, _, _, _, _, _, _, _, R0⟩ := id hR
  obtain ⟨v, σ', τ', e1, e2, R1⟩ := watchers_same R0
  refine z_aload_n C 2 rfl dL_718 ?_
  refine z_callC C [] [] (q0 := 0) (n := 0) rfl (c_X6_watchers l D _ a x σ (v, σ') e1) rfl cd_yX6_watchers in_RX6 ml_RL_83 im_yX6_watchers sl_yX6_watchers rfl rfl ⟨by decide +kernel, by decide +kernel, by decide +kernel⟩ (by decide) rfl (Nat.le_of_ble_eq_true rfl) hcs dL_719 ?_
  refine z_aload_n C 1 rfl dL_722 ?_
  refine z_callM C [] [.int v] (q0 := 0) (n := 0) rfl (c_X7_watchers l D _ bb x τ (v, τ') e2) rfl cd_yX7_watchers in_RX7 ml_RL_86 im_yX7_watchers sl_yX7_watchers rfl rfl ⟨by decide +kernel, by decide +kernel, by decide +kernel⟩ (by decide) rfl (Nat.le_of_ble_eq_true rfl) hcs dL_723 ?_
  refine z_icmp_eq C 800 (by decide) dL_726 (X := some ()) (Y := none) (r := ()) (if_pos rfl) (fun _ => ?_) (fun h => by cases h)
  exact hn _ _ R1
theorem law_17 (C : zx_C p s m #[Value.ref b] c D (tyz x) RL code 4) (hcs : cells ≤ room_1.cells ∧ slots ≤ room_1.slots) (hX : va_X b L xs s s.heap) (hbl : b < s.heap.size) (hbA : ¬ s.heap.size ≤ b) (hL : L ≤ 2560) {i : Nat} (hi : i + 5 ≤ L) (hR : Rel σ τ) (hn : ∀ σ' τ', Rel σ' τ' → zV p l e room_1 s m #[Value.ref b] below meth c cells slots (lw_Z below #[Value.ref b] s) D (fun q => s.heap.size ≤ q) 4 (wC a x σ' ++ wM bb x τ') 800 [(3, .int (nI i)), (2, .ref (bb 0)), (1, .ref (a 0)), (0, .ref b)] []) : zV p l e room_1 s m #[Value.ref b] below meth c cells slots (lw_Z below #[Value.ref b] s) D (fun q => s.heap.size ≤ q) 4 (wC a x σ ++ wM bb x τ) 731 [(3, .int (nI i)), (2, .ref (bb 0)), (1, .ref (a 0)), (0, .ref b)] [] := by
  obtain ⟨_, _, _, _, _, _, _, _, _, _, R0⟩ := id hR
  obtain ⟨v, σ', τ', e1, e2, R1⟩ := cure_same R0 (xs (i + 1))
  refine z_aload_n C 2 rfl dL_731 ?_
  refine z_aload_n C 3 rfl dL_732 ?_
  refine z_iload_n C 0 rfl dL_733 ?_
  refine z_iconst C (v := 1) dL_734 (by decide) ?_
  refine z_iadd C dL_735 ?_
  refine z_sld C hX hbl hbA (j := i + 1) (nI_add i 1) (by omega) hL dL_736 ?_
  refine z_callC C [.int (xs (i + 1))] [] (q0 := 0) (n := 1) rfl (c_X6_cure l D _ a x σ (xs (i + 1)) (v, σ') e1) rfl cd_yX6_cure in_RX6 ml_RL_87 im_yX6_cure sl_yX6_cure rfl rfl ⟨by decide +kernel, by decide +kernel, by decide +kernel⟩ (by decide) rfl (Nat.le_of_ble_eq_true rfl) hcs dL_737 ?_
  refine z_aload_n C 1 rfl dL_740 ?_
  refine z_aload_n C 3 rfl dL_741 ?_
  refine z_iload_n C 0 rfl dL_742 ?_
  refine z_iconst C (v := 1) dL_743 (by decide) ?_
  refine z_iadd C dL_744 ?_
  refine z_sld C hX hbl hbA (j := i + 1) (nI_add i 1) (by omega) hL dL_745 ?_
  refine z_callM C [.int (xs (i + 1))] [.int v] (q0 := 0) (n := 1) rfl (c_X7_cure l D _ bb x τ (xs (i + 1)) (v, τ') e2) rfl cd_yX7_cure in_RX7 ml_RL_90 im_yX7_cure sl_yX7_cure rfl rfl ⟨by decide +kernel, by decide +kernel, by decide +kernel⟩ (by decide) rfl (Nat.le_of_ble_eq_true rfl) hcs dL_746 ?_
  refine z_icmp_eq C 800 (by decide) dL_749 (X := some ()) (Y := none) (r := ()) (if_pos rfl) (fun _ => ?_) (fun h => by cases h)
  exact hn _ _ R1
theorem law_18 (C : zx_C p s m #[Value.ref b] c D (tyz x) RL code 4) (hcs : cells ≤ room_1.cells ∧ slots ≤ room_1.slots) (hX : va_X b L xs s s.heap) (hbl : b < s.heap.size) (hbA : ¬ s.heap.size ≤ b) (hL : L ≤ 2560) {i : Nat} (hi : i + 5 ≤ L) (hR : Rel σ τ) (hn : ∀ σ' τ', Rel σ' τ' → zV p l e room_1 s m #[Value.ref b] below meth c cells slots (lw_Z below #[Value.ref b] s) D (fun q => s.heap.size ≤ q) 4 (wC a x σ' ++ wM bb x τ') 800 [(3, .int (nI i)), (2, .ref (bb 0)), (1, .ref (a 0)), (0, .ref b)] []) : zV p l e room_1 s m #[Value.ref b] below meth c cells slots (lw_Z below #[Value.ref b] s) D (fun q => s.heap.size ≤ q) 4 (wC a x σ ++ wM bb x τ) 754 [(3, .int (nI i)), (2, .ref (bb 0)), (1, .ref (a 0)), (0, .ref b)] [] := by
  obtain ⟨_, _, _, _, _, _, _, _, _, _, R0⟩ := id hR
  obtain ⟨v, σ', τ', e1, e2, R1⟩ := halves_same R0 (xs (i + 1))
  refine z_aload_n C 2 rfl dL_754 ?_
  refine z_aload_n C 3 rfl dL_755 ?_
  refine z_iload_n C 0 rfl dL_756 ?_
  refine z_iconst C (v := 1) dL_757 (by decide) ?_
  refine z_iadd C dL_758 ?_
  refine z_sld C hX hbl hbA (j := i + 1) (nI_add i 1) (by omega) hL dL_759 ?_
  refine z_callC C [.int (xs (i + 1))] [] (q0 := 0) (n := 1) rfl (c_X6_halves l D _ a x σ (xs (i + 1)) (v, σ') e1) rfl cd_yX6_halves in_RX6 ml_RL_91 im_yX6_halves sl_yX6_halves rfl rfl ⟨by decide +kernel, by decide +kernel, by decide +kernel⟩ (by decide) rfl (Nat.le_of_ble_eq_true rfl) hcs dL_760 ?_
  refine z_aload_n C 1 rfl dL_763 ?_
  refine z_aload_n C 3 rfl dL_764 ?_
  refine z_iload_n C 0 rfl dL_765 ?_
  refine z_iconst C (v := 1) dL_766 (by decide) ?_
  refine z_iadd C dL_767 ?_
  refine z_sld C hX hbl hbA (j := i + 1) (nI_add i 1) (by omega) hL dL_768 ?_
  refine z_callM C [.int (xs (i + 1))] [.int v] (q0 := 0) (n := 1) rfl (c_X7_halves l D _ bb x τ (xs (i + 1)) (v, τ') e2) rfl cd_yX7_halves in_RX7 ml_RL_94 im_yX7_halves sl_yX7_halves rfl rfl ⟨by decide +kernel, by decide +kernel, by decide +kernel⟩ (by decide) rfl (Nat.le_of_ble_eq_true rfl) hcs dL_769 ?_
  refine z_icmp_eq C 800 (by decide) dL_772 (X := some ()) (Y := none) (r := ()) (if_pos rfl) (fun _ => ?_) (fun h => by cases h)
  exact hn _ _ R1
theorem law_19 (C : zx_C p s m #[Value.ref b] c D (tyz x) RL code 4) (hcs : cells ≤ room_1.cells ∧ slots ≤ room_1.slots) (hX : va_X b L xs s s.heap) (hbl : b < s.heap.size) (hbA : ¬ s.heap.size ≤ b) (hL : L ≤ 2560) {i : Nat} (hi : i + 5 ≤ L) (hR : Rel σ τ) (hn : ∀ σ' τ', Rel σ' τ' → zV p l e room_1 s m #[Value.ref b] below meth c cells slots (lw_Z below #[Value.ref b] s) D (fun q => s.heap.size ≤ q) 4 (wC a x σ' ++ wM bb x τ') 800 [(3, .int (nI i)), (2, .ref (bb 0)), (1, .ref (a 0)), (0, .ref b)] []) : zV p l e room_1 s m #[Value.ref b] below meth c cells slots (lw_Z below #[Value.ref b] s) D (fun q => s.heap.size ≤ q) 4 (wC a x σ ++ wM bb x τ) 777 [(3, .int (nI i)), (2, .ref (bb 0)), (1, .ref (a 0)), (0, .ref b)] [] := by
  obtain ⟨_, _, _, _, _, _, _, _, _, _, R0⟩ := id hR
  obtain ⟨v, e1, e2⟩ := count_same R0 (xs (i + 1))
  refine z_aload_n C 2 rfl dL_777 ?_
  refine z_aload_n C 3 rfl dL_778 ?_
  refine z_iload_n C 0 rfl dL_779 ?_
  refine z_iconst C (v := 1) dL_780 (by decide) ?_
  refine z_iadd C dL_781 ?_
  refine z_sld C hX hbl hbA (j := i + 1) (nI_add i 1) (by omega) hL dL_782 ?_
  refine z_callC C [.int (xs (i + 1))] [] (q0 := 0) (n := 1) rfl (c_X6_count l D _ a x σ (xs (i + 1)) v e1) rfl cd_yX6_count in_RX6 ml_RL_95 im_yX6_count sl_yX6_count rfl rfl ⟨by decide +kernel, by decide +kernel, by decide +kernel⟩ (by decide) rfl (Nat.le_of_ble_eq_true rfl) hcs dL_783 ?_
  refine z_aload_n C 1 rfl dL_786 ?_
  refine z_aload_n C 3 rfl dL_787 ?_
  refine z_iload_n C 0 rfl dL_788 ?_
  refine z_iconst C (v := 1) dL_789 (by decide) ?_
  refine z_iadd C dL_790 ?_
  refine z_sld C hX hbl hbA (j := i + 1) (nI_add i 1) (by omega) hL dL_791 ?_
  refine z_callM C [.int (xs (i + 1))] [.int v] (q0 := 0) (n := 1) rfl (c_X7_count l D _ bb x τ (xs (i + 1)) v e2) rfl cd_yX7_count in_RX7 ml_RL_98 im_yX7_count sl_yX7_count rfl rfl ⟨by decide +kernel, by decide +kernel, by decide +kernel⟩ (by decide) rfl (Nat.le_of_ble_eq_true rfl) hcs dL_792 ?_
  refine z_icmp_eq C 800 (by decide) dL_795 (X := some ()) (Y := none) (r := ()) (if_pos rfl) (fun _ => ?_) (fun h => by cases h)
  exact hn _ _ hR
end LW
