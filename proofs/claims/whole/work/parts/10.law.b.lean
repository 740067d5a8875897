set_option maxHeartbeats 4000000 in
set_option maxRecDepth 100000 in
theorem law_case_0 {p : Program} {l : Launch} {e : Env} {s : State} {m : MethodId} {below : List Frame} {meth : Method} {c : Code} {H : Heap} {locs : List Loc} {Q : State → Prop} {ls : Array Slot} {D : va_G} {ax am : Nat → Nat} {cx cm : Nat → ClassId} {S : XS} {b L i : Nat} {xs : Nat → Int32} (hL : L ≤ 3584) (hi : i + 7 ≤ L) (S0 : CallFix p m c code 4 s #[Value.ref b] wsL_law RL) (hX : va_X b L xs s s.heap) (hbl : b < s.heap.size) (hI : Inv S) (hg : LG D ax cx am cm (fun q : Nat => s.heap.size ≤ q) s S (toM S) H locs) (hl : lv_has ls 4 [(0, .ref b), (1, .ref (ax 0)), (2, .ref (am 0)), (3, .int (nI i))])
    (k : ∀ (S' : XS) (H : Heap) (locs : List Loc) (ls : Array Slot), Inv S' → LG D ax cx am cm (fun q : Nat => s.heap.size ≤ q) s S' (toM S') H locs → lv_has ls 4 [(0, .ref b), (1, .ref (ax 0)), (2, .ref (am 0)), (3, .int (nI i))] → W p l e room_1 s m #[Value.ref b] below meth c H locs 17 227 Q (F0 m 943 ls [])) : W p l e room_1 s m #[Value.ref b] below meth c H locs 17 227 Q (F0 m 128 ls []) := by
  have hx := S0.1
  have hb := S0.2.1
  have hbA : ¬ (fun q : Nat => s.heap.size ≤ q) b := Nat.not_le.mpr hbl
  refine lv_aload_n hx hb dL_law_128 rfl (lv_at hl 1 rfl) ?_
  refine lv_aload_n hx hb dL_law_129 rfl (lv_at hl 0 rfl) ?_
  refine lv_iload_n hx hb dL_law_130 rfl (lv_at hl 3 rfl) ?_
  refine lv_iconst (v := 1) hx hb dL_law_131 (by decide) ?_
  refine lv_iadd hx hb dL_law_132 ?_
  refine va_sld hx hb hX hbl hbA hg.2.2.2.2.2 (zscr 1 (by decide) hi hL) dL_law_133 ?_
  refine lv_aload_n hx hb dL_law_134 rfl (lv_at hl 0 rfl) ?_
  refine lv_iload_n hx hb dL_law_135 rfl (lv_at hl 3 rfl) ?_
  refine lv_iconst (v := 2) hx hb dL_law_136 (by decide) ?_
  refine lv_iadd hx hb dL_law_137 ?_
  refine va_sld hx hb hX hbl hbA hg.2.2.2.2.2 (zscr 2 (by decide) hi hL) dL_law_138 ?_
  refine lv_aload_n hx hb dL_law_139 rfl (lv_at hl 0 rfl) ?_
  refine lv_iload_n hx hb dL_law_140 rfl (lv_at hl 3 rfl) ?_
  refine lv_iconst (v := 3) hx hb dL_law_141 (by decide) ?_
  refine lv_iadd hx hb dL_law_142 ?_
  refine va_sld hx hb hX hbl hbA hg.2.2.2.2.2 (zscr 3 (by decide) hi hL) dL_law_143 ?_
  refine lv_i2l (v := Int32.toInt64 (xs (Int32.toNatClampNeg ((nI i) + 3)))) hx hb dL_law_144 rfl ?_
  refine lv_bipush (v := 32) hx hb dL_law_145 (by decide) ?_
  refine lv_lshl (v := jshl (Int32.toInt64 (xs (Int32.toNatClampNeg ((nI i) + 3)))) 32) hx hb dL_law_147 rfl ?_
  refine lv_aload_n hx hb dL_law_148 rfl (lv_at hl 0 rfl) ?_
  refine lv_iload_n hx hb dL_law_149 rfl (lv_at hl 3 rfl) ?_
  refine lv_iconst (v := 4) hx hb dL_law_150 (by decide) ?_
  refine lv_iadd hx hb dL_law_151 ?_
  refine va_sld hx hb hX hbl hbA hg.2.2.2.2.2 (zscr 4 (by decide) hi hL) dL_law_152 ?_
  refine lv_i2l (v := Int32.toInt64 (xs (Int32.toNatClampNeg ((nI i) + 4)))) hx hb dL_law_153 rfl ?_
  refine lv_ldc2 hx hb S0.2.2.2.1 (S0.2.2.2.2 (.constantLong RL 13 (4294967295)) (by decide +kernel)) dL_law_154 ?_
  refine lv_land hx hb dL_law_157 ?_
  refine lv_lor hx hb dL_law_158 ?_
  refine lv_aload_n hx hb dL_law_159 rfl (lv_at hl 0 rfl) ?_
  refine lv_iload_n hx hb dL_law_160 rfl (lv_at hl 3 rfl) ?_
  refine lv_iconst (v := 5) hx hb dL_law_161 (by decide) ?_
  refine lv_iadd hx hb dL_law_162 ?_
  refine va_sld hx hb hX hbl hbA hg.2.2.2.2.2 (zscr 5 (by decide) hi hL) dL_law_163 ?_
  refine lv_i2l (v := Int32.toInt64 (xs (Int32.toNatClampNeg ((nI i) + 5)))) hx hb dL_law_164 rfl ?_
  refine lv_bipush (v := 32) hx hb dL_law_165 (by decide) ?_
  refine lv_lshl (v := jshl (Int32.toInt64 (xs (Int32.toNatClampNeg ((nI i) + 5)))) 32) hx hb dL_law_167 rfl ?_
  refine lv_aload_n hx hb dL_law_168 rfl (lv_at hl 0 rfl) ?_
  refine lv_iload_n hx hb dL_law_169 rfl (lv_at hl 3 rfl) ?_
  refine lv_bipush (v := 6) hx hb dL_law_170 (by decide) ?_
  refine lv_iadd hx hb dL_law_172 ?_
  refine va_sld hx hb hX hbl hbA hg.2.2.2.2.2 (zscr 6 (by decide) hi hL) dL_law_173 ?_
  refine lv_i2l (v := Int32.toInt64 (xs (Int32.toNatClampNeg ((nI i) + 6)))) hx hb dL_law_174 rfl ?_
  refine lv_ldc2 hx hb S0.2.2.2.1 (S0.2.2.2.2 (.constantLong RL 13 (4294967295)) (by decide +kernel)) dL_law_175 ?_
  refine lv_land hx hb dL_law_178 ?_
  refine lv_lor hx hb dL_law_179 ?_
  refine lx_call (rest := []) (S' := (xN (xPlaced (xs (Int32.toNatClampNeg ((nI i) + 1))) (xs (Int32.toNatClampNeg ((nI i) + 2))) ((jshl (Int32.toInt64 (xs (Int32.toNatClampNeg ((nI i) + 3)))) 32) ||| ((Int32.toInt64 (xs (Int32.toNatClampNeg ((nI i) + 4)))) &&& 4294967295)) ((jshl (Int32.toInt64 (xs (Int32.toNatClampNeg ((nI i) + 5)))) 32) ||| ((Int32.toInt64 (xs (Int32.toNatClampNeg ((nI i) + 6)))) &&& 4294967295)) S)).2) S0 (fun A' => c_X1_set l D ax cx A' S (xs (Int32.toNatClampNeg ((nI i) + 1))) (xs (Int32.toNatClampNeg ((nI i) + 2))) ((jshl (Int32.toInt64 (xs (Int32.toNatClampNeg ((nI i) + 3)))) 32) ||| ((Int32.toInt64 (xs (Int32.toNatClampNeg ((nI i) + 4)))) &&& 4294967295)) ((jshl (Int32.toInt64 (xs (Int32.toNatClampNeg ((nI i) + 5)))) 32) ||| ((Int32.toInt64 (xs (Int32.toNatClampNeg ((nI i) + 6)))) &&& 4294967295))) gL_law_X1_set hg rfl qX1_set ⟨Nat.le_of_ble_eq_true rfl, Nat.le_of_ble_eq_true rfl⟩ ⟨Nat.le_of_ble_eq_true rfl, Nat.le_of_ble_eq_true rfl⟩ hl.1 rfl (Nat.le_of_ble_eq_true rfl) dL_law_180 (fun H locs hg => ?_)
  refine lv_aload_n hx hb dL_law_183 rfl (lv_at hl 2 rfl) ?_
  refine lv_aload_n hx hb dL_law_184 rfl (lv_at hl 0 rfl) ?_
  refine lv_iload_n hx hb dL_law_185 rfl (lv_at hl 3 rfl) ?_
  refine lv_iconst (v := 1) hx hb dL_law_186 (by decide) ?_
  refine lv_iadd hx hb dL_law_187 ?_
  refine va_sld hx hb hX hbl hbA hg.2.2.2.2.2 (zscr 1 (by decide) hi hL) dL_law_188 ?_
  refine lv_aload_n hx hb dL_law_189 rfl (lv_at hl 0 rfl) ?_
  refine lv_iload_n hx hb dL_law_190 rfl (lv_at hl 3 rfl) ?_
  refine lv_iconst (v := 2) hx hb dL_law_191 (by decide) ?_
  refine lv_iadd hx hb dL_law_192 ?_
  refine va_sld hx hb hX hbl hbA hg.2.2.2.2.2 (zscr 2 (by decide) hi hL) dL_law_193 ?_
  refine lv_aload_n hx hb dL_law_194 rfl (lv_at hl 0 rfl) ?_
  refine lv_iload_n hx hb dL_law_195 rfl (lv_at hl 3 rfl) ?_
  refine lv_iconst (v := 3) hx hb dL_law_196 (by decide) ?_
  refine lv_iadd hx hb dL_law_197 ?_
  refine va_sld hx hb hX hbl hbA hg.2.2.2.2.2 (zscr 3 (by decide) hi hL) dL_law_198 ?_
  refine lv_i2l (v := Int32.toInt64 (xs (Int32.toNatClampNeg ((nI i) + 3)))) hx hb dL_law_199 rfl ?_
  refine lv_bipush (v := 32) hx hb dL_law_200 (by decide) ?_
  refine lv_lshl (v := jshl (Int32.toInt64 (xs (Int32.toNatClampNeg ((nI i) + 3)))) 32) hx hb dL_law_202 rfl ?_
  refine lv_aload_n hx hb dL_law_203 rfl (lv_at hl 0 rfl) ?_
  refine lv_iload_n hx hb dL_law_204 rfl (lv_at hl 3 rfl) ?_
  refine lv_iconst (v := 4) hx hb dL_law_205 (by decide) ?_
  refine lv_iadd hx hb dL_law_206 ?_
  refine va_sld hx hb hX hbl hbA hg.2.2.2.2.2 (zscr 4 (by decide) hi hL) dL_law_207 ?_
  refine lv_i2l (v := Int32.toInt64 (xs (Int32.toNatClampNeg ((nI i) + 4)))) hx hb dL_law_208 rfl ?_
  refine lv_ldc2 hx hb S0.2.2.2.1 (S0.2.2.2.2 (.constantLong RL 13 (4294967295)) (by decide +kernel)) dL_law_209 ?_
  refine lv_land hx hb dL_law_212 ?_
  refine lv_lor hx hb dL_law_213 ?_
  refine lv_aload_n hx hb dL_law_214 rfl (lv_at hl 0 rfl) ?_
  refine lv_iload_n hx hb dL_law_215 rfl (lv_at hl 3 rfl) ?_
  refine lv_iconst (v := 5) hx hb dL_law_216 (by decide) ?_
  refine lv_iadd hx hb dL_law_217 ?_
  refine va_sld hx hb hX hbl hbA hg.2.2.2.2.2 (zscr 5 (by decide) hi hL) dL_law_218 ?_
  refine lv_i2l (v := Int32.toInt64 (xs (Int32.toNatClampNeg ((nI i) + 5)))) hx hb dL_law_219 rfl ?_
  refine lv_bipush (v := 32) hx hb dL_law_220 (by decide) ?_
  refine lv_lshl (v := jshl (Int32.toInt64 (xs (Int32.toNatClampNeg ((nI i) + 5)))) 32) hx hb dL_law_222 rfl ?_
  refine lv_aload_n hx hb dL_law_223 rfl (lv_at hl 0 rfl) ?_
  refine lv_iload_n hx hb dL_law_224 rfl (lv_at hl 3 rfl) ?_
  refine lv_bipush (v := 6) hx hb dL_law_225 (by decide) ?_
  refine lv_iadd hx hb dL_law_227 ?_
  refine va_sld hx hb hX hbl hbA hg.2.2.2.2.2 (zscr 6 (by decide) hi hL) dL_law_228 ?_
  refine lv_i2l (v := Int32.toInt64 (xs (Int32.toNatClampNeg ((nI i) + 6)))) hx hb dL_law_229 rfl ?_
  refine lv_ldc2 hx hb S0.2.2.2.1 (S0.2.2.2.2 (.constantLong RL 13 (4294967295)) (by decide +kernel)) dL_law_230 ?_
  refine lv_land hx hb dL_law_233 ?_
  refine lv_lor hx hb dL_law_234 ?_
  obtain ⟨hag, hinv⟩ := ag_set (xs (Int32.toNatClampNeg ((nI i) + 1))) (xs (Int32.toNatClampNeg ((nI i) + 2))) ((jshl (Int32.toInt64 (xs (Int32.toNatClampNeg ((nI i) + 3)))) 32) ||| ((Int32.toInt64 (xs (Int32.toNatClampNeg ((nI i) + 4)))) &&& 4294967295)) ((jshl (Int32.toInt64 (xs (Int32.toNatClampNeg ((nI i) + 5)))) 32) ||| ((Int32.toInt64 (xs (Int32.toNatClampNeg ((nI i) + 6)))) &&& 4294967295)) S hI
  refine lm_call (rest := [.int ((xN (xPlaced (xs (Int32.toNatClampNeg ((nI i) + 1))) (xs (Int32.toNatClampNeg ((nI i) + 2))) ((jshl (Int32.toInt64 (xs (Int32.toNatClampNeg ((nI i) + 3)))) 32) ||| ((Int32.toInt64 (xs (Int32.toNatClampNeg ((nI i) + 4)))) &&& 4294967295)) ((jshl (Int32.toInt64 (xs (Int32.toNatClampNeg ((nI i) + 5)))) 32) ||| ((Int32.toInt64 (xs (Int32.toNatClampNeg ((nI i) + 6)))) &&& 4294967295)) S)).1)]) (T' := (mSet (xs (Int32.toNatClampNeg ((nI i) + 1))) (xs (Int32.toNatClampNeg ((nI i) + 2))) ((jshl (Int32.toInt64 (xs (Int32.toNatClampNeg ((nI i) + 3)))) 32) ||| ((Int32.toInt64 (xs (Int32.toNatClampNeg ((nI i) + 4)))) &&& 4294967295)) ((jshl (Int32.toInt64 (xs (Int32.toNatClampNeg ((nI i) + 5)))) 32) ||| ((Int32.toInt64 (xs (Int32.toNatClampNeg ((nI i) + 6)))) &&& 4294967295)) (toM S)).2) S0 (fun A' => c_X2_set l D am cm A' (toM S) (xs (Int32.toNatClampNeg ((nI i) + 1))) (xs (Int32.toNatClampNeg ((nI i) + 2))) ((jshl (Int32.toInt64 (xs (Int32.toNatClampNeg ((nI i) + 3)))) 32) ||| ((Int32.toInt64 (xs (Int32.toNatClampNeg ((nI i) + 4)))) &&& 4294967295)) ((jshl (Int32.toInt64 (xs (Int32.toNatClampNeg ((nI i) + 5)))) 32) ||| ((Int32.toInt64 (xs (Int32.toNatClampNeg ((nI i) + 6)))) &&& 4294967295))) gL_law_X2_set hg rfl qX2_set ⟨Nat.le_of_ble_eq_true rfl, Nat.le_of_ble_eq_true rfl⟩ ⟨Nat.le_of_ble_eq_true rfl, Nat.le_of_ble_eq_true rfl⟩ hl.1 rfl (Nat.le_of_ble_eq_true rfl) dL_law_235 (fun H locs hg => ?_)
  refine zc_eq (tgt := 943) hx hb dL_law_238 (by decide) (fun _ => ?_) (fun q => absurd (by rw [hag]) q)
  exact k _ H locs ls hinv (by rw [hag] at hg; exact hg) (lv_sub hl [0, 1, 2, 3] rfl)
set_option maxHeartbeats 4000000 in
set_option maxRecDepth 100000 in
theorem law_case_1 {p : Program} {l : Launch} {e : Env} {s : State} {m : MethodId} {below : List Frame} {meth : Method} {c : Code} {H : Heap} {locs : List Loc} {Q : State → Prop} {ls : Array Slot} {D : va_G} {ax am : Nat → Nat} {cx cm : Nat → ClassId} {S : XS} {b L i : Nat} {xs : Nat → Int32} (hL : L ≤ 3584) (hi : i + 7 ≤ L) (S0 : CallFix p m c code 4 s #[Value.ref b] wsL_law RL) (hX : va_X b L xs s s.heap) (hbl : b < s.heap.size) (hI : Inv S) (hg : LG D ax cx am cm (fun q : Nat => s.heap.size ≤ q) s S (toM S) H locs) (hl : lv_has ls 4 [(0, .ref b), (1, .ref (ax 0)), (2, .ref (am 0)), (3, .int (nI i))])
    (k : ∀ (S' : XS) (H : Heap) (locs : List Loc) (ls : Array Slot), Inv S' → LG D ax cx am cm (fun q : Nat => s.heap.size ≤ q) s S' (toM S') H locs → lv_has ls 4 [(0, .ref b), (1, .ref (ax 0)), (2, .ref (am 0)), (3, .int (nI i))] → W p l e room_1 s m #[Value.ref b] below meth c H locs 17 227 Q (F0 m 943 ls [])) : W p l e room_1 s m #[Value.ref b] below meth c H locs 17 227 Q (F0 m 243 ls []) := by
  have hx := S0.1
  have hb := S0.2.1
  have hbA : ¬ (fun q : Nat => s.heap.size ≤ q) b := Nat.not_le.mpr hbl
  refine lv_aload_n hx hb dL_law_243 rfl (lv_at hl 1 rfl) ?_
  refine lv_aload_n hx hb dL_law_244 rfl (lv_at hl 0 rfl) ?_
  refine lv_iload_n hx hb dL_law_245 rfl (lv_at hl 3 rfl) ?_
  refine lv_iconst (v := 1) hx hb dL_law_246 (by decide) ?_
  refine lv_iadd hx hb dL_law_247 ?_
  refine va_sld hx hb hX hbl hbA hg.2.2.2.2.2 (zscr 1 (by decide) hi hL) dL_law_248 ?_
  refine lx_call (rest := []) (S' := (xClear (xs (Int32.toNatClampNeg ((nI i) + 1))) S).2) S0 (fun A' => c_X1_clear l D ax cx A' S (xs (Int32.toNatClampNeg ((nI i) + 1)))) gL_law_X1_clear hg rfl qX1_clear ⟨Nat.le_of_ble_eq_true rfl, Nat.le_of_ble_eq_true rfl⟩ ⟨Nat.le_of_ble_eq_true rfl, Nat.le_of_ble_eq_true rfl⟩ hl.1 rfl (Nat.le_of_ble_eq_true rfl) dL_law_249 (fun H locs hg => ?_)
  refine lv_aload_n hx hb dL_law_252 rfl (lv_at hl 2 rfl) ?_
  refine lv_aload_n hx hb dL_law_253 rfl (lv_at hl 0 rfl) ?_
  refine lv_iload_n hx hb dL_law_254 rfl (lv_at hl 3 rfl) ?_
  refine lv_iconst (v := 1) hx hb dL_law_255 (by decide) ?_
  refine lv_iadd hx hb dL_law_256 ?_
  refine va_sld hx hb hX hbl hbA hg.2.2.2.2.2 (zscr 1 (by decide) hi hL) dL_law_257 ?_
  obtain ⟨hag, hinv⟩ := ag_clear (xs (Int32.toNatClampNeg ((nI i) + 1))) S hI
  refine lm_call (rest := [.int ((xClear (xs (Int32.toNatClampNeg ((nI i) + 1))) S).1)]) (T' := (mClear (xs (Int32.toNatClampNeg ((nI i) + 1))) (toM S)).2) S0 (fun A' => c_X2_clear l D am cm A' (toM S) (xs (Int32.toNatClampNeg ((nI i) + 1)))) gL_law_X2_clear hg rfl qX2_clear ⟨Nat.le_of_ble_eq_true rfl, Nat.le_of_ble_eq_true rfl⟩ ⟨Nat.le_of_ble_eq_true rfl, Nat.le_of_ble_eq_true rfl⟩ hl.1 rfl (Nat.le_of_ble_eq_true rfl) dL_law_258 (fun H locs hg => ?_)
  refine zc_eq (tgt := 943) hx hb dL_law_261 (by decide) (fun _ => ?_) (fun q => absurd (by rw [hag]) q)
  exact k _ H locs ls hinv (by rw [hag] at hg; exact hg) (lv_sub hl [0, 1, 2, 3] rfl)
set_option maxHeartbeats 4000000 in
set_option maxRecDepth 100000 in
theorem law_case_2 {p : Program} {l : Launch} {e : Env} {s : State} {m : MethodId} {below : List Frame} {meth : Method} {c : Code} {H : Heap} {locs : List Loc} {Q : State → Prop} {ls : Array Slot} {D : va_G} {ax am : Nat → Nat} {cx cm : Nat → ClassId} {S : XS} {b L i : Nat} {xs : Nat → Int32} (hL : L ≤ 3584) (hi : i + 7 ≤ L) (S0 : CallFix p m c code 4 s #[Value.ref b] wsL_law RL) (hX : va_X b L xs s s.heap) (hbl : b < s.heap.size) (hI : Inv S) (hg : LG D ax cx am cm (fun q : Nat => s.heap.size ≤ q) s S (toM S) H locs) (hl : lv_has ls 4 [(0, .ref b), (1, .ref (ax 0)), (2, .ref (am 0)), (3, .int (nI i))])
    (k : ∀ (S' : XS) (H : Heap) (locs : List Loc) (ls : Array Slot), Inv S' → LG D ax cx am cm (fun q : Nat => s.heap.size ≤ q) s S' (toM S') H locs → lv_has ls 4 [(0, .ref b), (1, .ref (ax 0)), (2, .ref (am 0)), (3, .int (nI i))] → W p l e room_1 s m #[Value.ref b] below meth c H locs 17 227 Q (F0 m 943 ls [])) : W p l e room_1 s m #[Value.ref b] below meth c H locs 17 227 Q (F0 m 266 ls []) := by
  have hx := S0.1
  have hb := S0.2.1
  have hbA : ¬ (fun q : Nat => s.heap.size ≤ q) b := Nat.not_le.mpr hbl
  refine lv_aload_n hx hb dL_law_266 rfl (lv_at hl 1 rfl) ?_
  refine lv_aload_n hx hb dL_law_267 rfl (lv_at hl 0 rfl) ?_
  refine lv_iload_n hx hb dL_law_268 rfl (lv_at hl 3 rfl) ?_
  refine lv_iconst (v := 1) hx hb dL_law_269 (by decide) ?_
  refine lv_iadd hx hb dL_law_270 ?_
  refine va_sld hx hb hX hbl hbA hg.2.2.2.2.2 (zscr 1 (by decide) hi hL) dL_law_271 ?_
  refine lx_call (rest := []) (S' := (xSort (xs (Int32.toNatClampNeg ((nI i) + 1))) S).2) S0 (fun A' => c_X1_sort l D ax cx A' S (xs (Int32.toNatClampNeg ((nI i) + 1)))) gL_law_X1_sort hg rfl qX1_sort ⟨Nat.le_of_ble_eq_true rfl, Nat.le_of_ble_eq_true rfl⟩ ⟨Nat.le_of_ble_eq_true rfl, Nat.le_of_ble_eq_true rfl⟩ hl.1 rfl (Nat.le_of_ble_eq_true rfl) dL_law_272 (fun H locs hg => ?_)
  refine lv_aload_n hx hb dL_law_275 rfl (lv_at hl 2 rfl) ?_
  refine lv_aload_n hx hb dL_law_276 rfl (lv_at hl 0 rfl) ?_
  refine lv_iload_n hx hb dL_law_277 rfl (lv_at hl 3 rfl) ?_
  refine lv_iconst (v := 1) hx hb dL_law_278 (by decide) ?_
  refine lv_iadd hx hb dL_law_279 ?_
  refine va_sld hx hb hX hbl hbA hg.2.2.2.2.2 (zscr 1 (by decide) hi hL) dL_law_280 ?_
  obtain ⟨hag, hinv⟩ := ag_sort (xs (Int32.toNatClampNeg ((nI i) + 1))) S hI
  refine lm_call (rest := [.int ((xSort (xs (Int32.toNatClampNeg ((nI i) + 1))) S).1)]) (T' := (mSort (xs (Int32.toNatClampNeg ((nI i) + 1))) (toM S)).2) S0 (fun A' => c_X2_sort l D am cm A' (toM S) (xs (Int32.toNatClampNeg ((nI i) + 1)))) gL_law_X2_sort hg rfl qX2_sort ⟨Nat.le_of_ble_eq_true rfl, Nat.le_of_ble_eq_true rfl⟩ ⟨Nat.le_of_ble_eq_true rfl, Nat.le_of_ble_eq_true rfl⟩ hl.1 rfl (Nat.le_of_ble_eq_true rfl) dL_law_281 (fun H locs hg => ?_)
  refine zc_eq (tgt := 943) hx hb dL_law_284 (by decide) (fun _ => ?_) (fun q => absurd (by rw [hag]) q)
  exact k _ H locs ls hinv (by rw [hag] at hg; exact hg) (lv_sub hl [0, 1, 2, 3] rfl)
set_option maxHeartbeats 4000000 in
set_option maxRecDepth 100000 in
theorem law_case_3 {p : Program} {l : Launch} {e : Env} {s : State} {m : MethodId} {below : List Frame} {meth : Method} {c : Code} {H : Heap} {locs : List Loc} {Q : State → Prop} {ls : Array Slot} {D : va_G} {ax am : Nat → Nat} {cx cm : Nat → ClassId} {S : XS} {b L i : Nat} {xs : Nat → Int32} (hL : L ≤ 3584) (hi : i + 7 ≤ L) (S0 : CallFix p m c code 4 s #[Value.ref b] wsL_law RL) (hX : va_X b L xs s s.heap) (hbl : b < s.heap.size) (hI : Inv S) (hg : LG D ax cx am cm (fun q : Nat => s.heap.size ≤ q) s S (toM S) H locs) (hl : lv_has ls 4 [(0, .ref b), (1, .ref (ax 0)), (2, .ref (am 0)), (3, .int (nI i))])
    (k : ∀ (S' : XS) (H : Heap) (locs : List Loc) (ls : Array Slot), Inv S' → LG D ax cx am cm (fun q : Nat => s.heap.size ≤ q) s S' (toM S') H locs → lv_has ls 4 [(0, .ref b), (1, .ref (ax 0)), (2, .ref (am 0)), (3, .int (nI i))] → W p l e room_1 s m #[Value.ref b] below meth c H locs 17 227 Q (F0 m 943 ls [])) : W p l e room_1 s m #[Value.ref b] below meth c H locs 17 227 Q (F0 m 289 ls []) := by
  have hx := S0.1
  have hb := S0.2.1
  have hbA : ¬ (fun q : Nat => s.heap.size ≤ q) b := Nat.not_le.mpr hbl
  refine lv_aload_n hx hb dL_law_289 rfl (lv_at hl 1 rfl) ?_
  refine lv_aload_n hx hb dL_law_290 rfl (lv_at hl 0 rfl) ?_
  refine lv_iload_n hx hb dL_law_291 rfl (lv_at hl 3 rfl) ?_
  refine lv_iconst (v := 1) hx hb dL_law_292 (by decide) ?_
  refine lv_iadd hx hb dL_law_293 ?_
  refine va_sld hx hb hX hbl hbA hg.2.2.2.2.2 (zscr 1 (by decide) hi hL) dL_law_294 ?_
  refine lx_call (rest := []) (S' := (xLow (xs (Int32.toNatClampNeg ((nI i) + 1))) S).2) S0 (fun A' => c_X1_low l D ax cx A' S (xs (Int32.toNatClampNeg ((nI i) + 1)))) gL_law_X1_low hg rfl qX1_low ⟨Nat.le_of_ble_eq_true rfl, Nat.le_of_ble_eq_true rfl⟩ ⟨Nat.le_of_ble_eq_true rfl, Nat.le_of_ble_eq_true rfl⟩ hl.1 rfl (Nat.le_of_ble_eq_true rfl) dL_law_295 (fun H locs hg => ?_)
  refine lv_aload_n hx hb dL_law_298 rfl (lv_at hl 2 rfl) ?_
  refine lv_aload_n hx hb dL_law_299 rfl (lv_at hl 0 rfl) ?_
  refine lv_iload_n hx hb dL_law_300 rfl (lv_at hl 3 rfl) ?_
  refine lv_iconst (v := 1) hx hb dL_law_301 (by decide) ?_
  refine lv_iadd hx hb dL_law_302 ?_
  refine va_sld hx hb hX hbl hbA hg.2.2.2.2.2 (zscr 1 (by decide) hi hL) dL_law_303 ?_
  obtain ⟨hag, hinv⟩ := ag_low (xs (Int32.toNatClampNeg ((nI i) + 1))) S hI
  refine lm_call (rest := [.long ((xLow (xs (Int32.toNatClampNeg ((nI i) + 1))) S).1)]) (T' := (mEnd (xs (Int32.toNatClampNeg ((nI i) + 1))) 0 (toM S)).2) S0 (fun A' => c_X2_low l D am cm A' (toM S) (xs (Int32.toNatClampNeg ((nI i) + 1)))) gL_law_X2_low hg rfl qX2_low ⟨Nat.le_of_ble_eq_true rfl, Nat.le_of_ble_eq_true rfl⟩ ⟨Nat.le_of_ble_eq_true rfl, Nat.le_of_ble_eq_true rfl⟩ hl.1 rfl (Nat.le_of_ble_eq_true rfl) dL_law_304 (fun H locs hg => ?_)
  refine zl_eq (tgt := 943) hx hb dL_law_307 dL_law_308 (by decide) (fun _ => ?_) (fun q => absurd (by rw [hag]) q)
  exact k _ H locs ls hinv (by rw [hag] at hg; exact hg) (lv_sub hl [0, 1, 2, 3] rfl)
set_option maxHeartbeats 4000000 in
set_option maxRecDepth 100000 in
theorem law_case_4 {p : Program} {l : Launch} {e : Env} {s : State} {m : MethodId} {below : List Frame} {meth : Method} {c : Code} {H : Heap} {locs : List Loc} {Q : State → Prop} {ls : Array Slot} {D : va_G} {ax am : Nat → Nat} {cx cm : Nat → ClassId} {S : XS} {b L i : Nat} {xs : Nat → Int32} (hL : L ≤ 3584) (hi : i + 7 ≤ L) (S0 : CallFix p m c code 4 s #[Value.ref b] wsL_law RL) (hX : va_X b L xs s s.heap) (hbl : b < s.heap.size) (hI : Inv S) (hg : LG D ax cx am cm (fun q : Nat => s.heap.size ≤ q) s S (toM S) H locs) (hl : lv_has ls 4 [(0, .ref b), (1, .ref (ax 0)), (2, .ref (am 0)), (3, .int (nI i))])
    (k : ∀ (S' : XS) (H : Heap) (locs : List Loc) (ls : Array Slot), Inv S' → LG D ax cx am cm (fun q : Nat => s.heap.size ≤ q) s S' (toM S') H locs → lv_has ls 4 [(0, .ref b), (1, .ref (ax 0)), (2, .ref (am 0)), (3, .int (nI i))] → W p l e room_1 s m #[Value.ref b] below meth c H locs 17 227 Q (F0 m 943 ls [])) : W p l e room_1 s m #[Value.ref b] below meth c H locs 17 227 Q (F0 m 313 ls []) := by
  have hx := S0.1
  have hb := S0.2.1
  have hbA : ¬ (fun q : Nat => s.heap.size ≤ q) b := Nat.not_le.mpr hbl
  refine lv_aload_n hx hb dL_law_313 rfl (lv_at hl 1 rfl) ?_
  refine lv_aload_n hx hb dL_law_314 rfl (lv_at hl 0 rfl) ?_
  refine lv_iload_n hx hb dL_law_315 rfl (lv_at hl 3 rfl) ?_
  refine lv_iconst (v := 1) hx hb dL_law_316 (by decide) ?_
  refine lv_iadd hx hb dL_law_317 ?_
  refine va_sld hx hb hX hbl hbA hg.2.2.2.2.2 (zscr 1 (by decide) hi hL) dL_law_318 ?_
  refine lx_call (rest := []) (S' := (xHigh (xs (Int32.toNatClampNeg ((nI i) + 1))) S).2) S0 (fun A' => c_X1_high l D ax cx A' S (xs (Int32.toNatClampNeg ((nI i) + 1)))) gL_law_X1_high hg rfl qX1_high ⟨Nat.le_of_ble_eq_true rfl, Nat.le_of_ble_eq_true rfl⟩ ⟨Nat.le_of_ble_eq_true rfl, Nat.le_of_ble_eq_true rfl⟩ hl.1 rfl (Nat.le_of_ble_eq_true rfl) dL_law_319 (fun H locs hg => ?_)
  refine lv_aload_n hx hb dL_law_322 rfl (lv_at hl 2 rfl) ?_
  refine lv_aload_n hx hb dL_law_323 rfl (lv_at hl 0 rfl) ?_
  refine lv_iload_n hx hb dL_law_324 rfl (lv_at hl 3 rfl) ?_
  refine lv_iconst (v := 1) hx hb dL_law_325 (by decide) ?_
  refine lv_iadd hx hb dL_law_326 ?_
  refine va_sld hx hb hX hbl hbA hg.2.2.2.2.2 (zscr 1 (by decide) hi hL) dL_law_327 ?_
  obtain ⟨hag, hinv⟩ := ag_high (xs (Int32.toNatClampNeg ((nI i) + 1))) S hI
  refine lm_call (rest := [.long ((xHigh (xs (Int32.toNatClampNeg ((nI i) + 1))) S).1)]) (T' := (mEnd (xs (Int32.toNatClampNeg ((nI i) + 1))) 1 (toM S)).2) S0 (fun A' => c_X2_high l D am cm A' (toM S) (xs (Int32.toNatClampNeg ((nI i) + 1)))) gL_law_X2_high hg rfl qX2_high ⟨Nat.le_of_ble_eq_true rfl, Nat.le_of_ble_eq_true rfl⟩ ⟨Nat.le_of_ble_eq_true rfl, Nat.le_of_ble_eq_true rfl⟩ hl.1 rfl (Nat.le_of_ble_eq_true rfl) dL_law_328 (fun H locs hg => ?_)
  refine zl_eq (tgt := 943) hx hb dL_law_331 dL_law_332 (by decide) (fun _ => ?_) (fun q => absurd (by rw [hag]) q)
  exact k _ H locs ls hinv (by rw [hag] at hg; exact hg) (lv_sub hl [0, 1, 2, 3] rfl)
set_option maxHeartbeats 4000000 in
set_option maxRecDepth 100000 in
theorem law_case_5 {p : Program} {l : Launch} {e : Env} {s : State} {m : MethodId} {below : List Frame} {meth : Method} {c : Code} {H : Heap} {locs : List Loc} {Q : State → Prop} {ls : Array Slot} {D : va_G} {ax am : Nat → Nat} {cx cm : Nat → ClassId} {S : XS} {b L i : Nat} {xs : Nat → Int32} (hL : L ≤ 3584) (hi : i + 7 ≤ L) (S0 : CallFix p m c code 4 s #[Value.ref b] wsL_law RL) (hX : va_X b L xs s s.heap) (hbl : b < s.heap.size) (hI : Inv S) (hg : LG D ax cx am cm (fun q : Nat => s.heap.size ≤ q) s S (toM S) H locs) (hl : lv_has ls 4 [(0, .ref b), (1, .ref (ax 0)), (2, .ref (am 0)), (3, .int (nI i))])
    (k : ∀ (S' : XS) (H : Heap) (locs : List Loc) (ls : Array Slot), Inv S' → LG D ax cx am cm (fun q : Nat => s.heap.size ≤ q) s S' (toM S') H locs → lv_has ls 4 [(0, .ref b), (1, .ref (ax 0)), (2, .ref (am 0)), (3, .int (nI i))] → W p l e room_1 s m #[Value.ref b] below meth c H locs 17 227 Q (F0 m 943 ls [])) : W p l e room_1 s m #[Value.ref b] below meth c H locs 17 227 Q (F0 m 337 ls []) := by
  have hx := S0.1
  have hb := S0.2.1
  have hbA : ¬ (fun q : Nat => s.heap.size ≤ q) b := Nat.not_le.mpr hbl
  refine lv_aload_n hx hb dL_law_337 rfl (lv_at hl 1 rfl) ?_
  refine lv_aload_n hx hb dL_law_338 rfl (lv_at hl 0 rfl) ?_
  refine lv_iload_n hx hb dL_law_339 rfl (lv_at hl 3 rfl) ?_
  refine lv_iconst (v := 1) hx hb dL_law_340 (by decide) ?_
  refine lv_iadd hx hb dL_law_341 ?_
  refine va_sld hx hb hX hbl hbA hg.2.2.2.2.2 (zscr 1 (by decide) hi hL) dL_law_342 ?_
  refine lv_aload_n hx hb dL_law_343 rfl (lv_at hl 0 rfl) ?_
  refine lv_iload_n hx hb dL_law_344 rfl (lv_at hl 3 rfl) ?_
  refine lv_iconst (v := 2) hx hb dL_law_345 (by decide) ?_
  refine lv_iadd hx hb dL_law_346 ?_
  refine va_sld hx hb hX hbl hbA hg.2.2.2.2.2 (zscr 2 (by decide) hi hL) dL_law_347 ?_
  refine lv_aload_n hx hb dL_law_348 rfl (lv_at hl 0 rfl) ?_
  refine lv_iload_n hx hb dL_law_349 rfl (lv_at hl 3 rfl) ?_
  refine lv_iconst (v := 3) hx hb dL_law_350 (by decide) ?_
  refine lv_iadd hx hb dL_law_351 ?_
  refine va_sld hx hb hX hbl hbA hg.2.2.2.2.2 (zscr 3 (by decide) hi hL) dL_law_352 ?_
  refine lx_call (rest := []) (S' := (xN (xPerf 0 (xs (Int32.toNatClampNeg ((nI i) + 1))) (xs (Int32.toNatClampNeg ((nI i) + 2))) (xs (Int32.toNatClampNeg ((nI i) + 3))) S)).2) S0 (fun A' => c_X1_hull l D ax cx A' S (xs (Int32.toNatClampNeg ((nI i) + 1))) (xs (Int32.toNatClampNeg ((nI i) + 2))) (xs (Int32.toNatClampNeg ((nI i) + 3)))) gL_law_X1_hull hg rfl qX1_hull ⟨Nat.le_of_ble_eq_true rfl, Nat.le_of_ble_eq_true rfl⟩ ⟨Nat.le_of_ble_eq_true rfl, Nat.le_of_ble_eq_true rfl⟩ hl.1 rfl (Nat.le_of_ble_eq_true rfl) dL_law_353 (fun H locs hg => ?_)
  refine lv_aload_n hx hb dL_law_356 rfl (lv_at hl 2 rfl) ?_
  refine lv_aload_n hx hb dL_law_357 rfl (lv_at hl 0 rfl) ?_
  refine lv_iload_n hx hb dL_law_358 rfl (lv_at hl 3 rfl) ?_
  refine lv_iconst (v := 1) hx hb dL_law_359 (by decide) ?_
  refine lv_iadd hx hb dL_law_360 ?_
  refine va_sld hx hb hX hbl hbA hg.2.2.2.2.2 (zscr 1 (by decide) hi hL) dL_law_361 ?_
  refine lv_aload_n hx hb dL_law_362 rfl (lv_at hl 0 rfl) ?_
  refine lv_iload_n hx hb dL_law_363 rfl (lv_at hl 3 rfl) ?_
  refine lv_iconst (v := 2) hx hb dL_law_364 (by decide) ?_
  refine lv_iadd hx hb dL_law_365 ?_
  refine va_sld hx hb hX hbl hbA hg.2.2.2.2.2 (zscr 2 (by decide) hi hL) dL_law_366 ?_
  refine lv_aload_n hx hb dL_law_367 rfl (lv_at hl 0 rfl) ?_
  refine lv_iload_n hx hb dL_law_368 rfl (lv_at hl 3 rfl) ?_
  refine lv_iconst (v := 3) hx hb dL_law_369 (by decide) ?_
  refine lv_iadd hx hb dL_law_370 ?_
  refine va_sld hx hb hX hbl hbA hg.2.2.2.2.2 (zscr 3 (by decide) hi hL) dL_law_371 ?_
  obtain ⟨hag, hinv⟩ := ag_hull (xs (Int32.toNatClampNeg ((nI i) + 1))) (xs (Int32.toNatClampNeg ((nI i) + 2))) (xs (Int32.toNatClampNeg ((nI i) + 3))) S hI
  refine lm_call (rest := [.int ((xN (xPerf 0 (xs (Int32.toNatClampNeg ((nI i) + 1))) (xs (Int32.toNatClampNeg ((nI i) + 2))) (xs (Int32.toNatClampNeg ((nI i) + 3))) S)).1)]) (T' := (mHull (xs (Int32.toNatClampNeg ((nI i) + 1))) (xs (Int32.toNatClampNeg ((nI i) + 2))) (xs (Int32.toNatClampNeg ((nI i) + 3))) (toM S)).2) S0 (fun A' => c_X2_hull l D am cm A' (toM S) (xs (Int32.toNatClampNeg ((nI i) + 1))) (xs (Int32.toNatClampNeg ((nI i) + 2))) (xs (Int32.toNatClampNeg ((nI i) + 3)))) gL_law_X2_hull hg rfl qX2_hull ⟨Nat.le_of_ble_eq_true rfl, Nat.le_of_ble_eq_true rfl⟩ ⟨Nat.le_of_ble_eq_true rfl, Nat.le_of_ble_eq_true rfl⟩ hl.1 rfl (Nat.le_of_ble_eq_true rfl) dL_law_372 (fun H locs hg => ?_)
  refine zc_eq (tgt := 943) hx hb dL_law_375 (by decide) (fun _ => ?_) (fun q => absurd (by rw [hag]) q)
  exact k _ H locs ls hinv (by rw [hag] at hg; exact hg) (lv_sub hl [0, 1, 2, 3] rfl)
set_option maxHeartbeats 4000000 in
set_option maxRecDepth 100000 in
theorem law_case_6 {p : Program} {l : Launch} {e : Env} {s : State} {m : MethodId} {below : List Frame} {meth : Method} {c : Code} {H : Heap} {locs : List Loc} {Q : State → Prop} {ls : Array Slot} {D : va_G} {ax am : Nat → Nat} {cx cm : Nat → ClassId} {S : XS} {b L i : Nat} {xs : Nat → Int32} (hL : L ≤ 3584) (hi : i + 7 ≤ L) (S0 : CallFix p m c code 4 s #[Value.ref b] wsL_law RL) (hX : va_X b L xs s s.heap) (hbl : b < s.heap.size) (hI : Inv S) (hg : LG D ax cx am cm (fun q : Nat => s.heap.size ≤ q) s S (toM S) H locs) (hl : lv_has ls 4 [(0, .ref b), (1, .ref (ax 0)), (2, .ref (am 0)), (3, .int (nI i))])
    (k : ∀ (S' : XS) (H : Heap) (locs : List Loc) (ls : Array Slot), Inv S' → LG D ax cx am cm (fun q : Nat => s.heap.size ≤ q) s S' (toM S') H locs → lv_has ls 4 [(0, .ref b), (1, .ref (ax 0)), (2, .ref (am 0)), (3, .int (nI i))] → W p l e room_1 s m #[Value.ref b] below meth c H locs 17 227 Q (F0 m 943 ls [])) : W p l e room_1 s m #[Value.ref b] below meth c H locs 17 227 Q (F0 m 380 ls []) := by
  have hx := S0.1
  have hb := S0.2.1
  have hbA : ¬ (fun q : Nat => s.heap.size ≤ q) b := Nat.not_le.mpr hbl
  refine lv_aload_n hx hb dL_law_380 rfl (lv_at hl 1 rfl) ?_
  refine lv_aload_n hx hb dL_law_381 rfl (lv_at hl 0 rfl) ?_
  refine lv_iload_n hx hb dL_law_382 rfl (lv_at hl 3 rfl) ?_
  refine lv_iconst (v := 1) hx hb dL_law_383 (by decide) ?_
  refine lv_iadd hx hb dL_law_384 ?_
  refine va_sld hx hb hX hbl hbA hg.2.2.2.2.2 (zscr 1 (by decide) hi hL) dL_law_385 ?_
  refine lv_aload_n hx hb dL_law_386 rfl (lv_at hl 0 rfl) ?_
  refine lv_iload_n hx hb dL_law_387 rfl (lv_at hl 3 rfl) ?_
  refine lv_iconst (v := 2) hx hb dL_law_388 (by decide) ?_
  refine lv_iadd hx hb dL_law_389 ?_
  refine va_sld hx hb hX hbl hbA hg.2.2.2.2.2 (zscr 2 (by decide) hi hL) dL_law_390 ?_
  refine lv_aload_n hx hb dL_law_391 rfl (lv_at hl 0 rfl) ?_
  refine lv_iload_n hx hb dL_law_392 rfl (lv_at hl 3 rfl) ?_
  refine lv_iconst (v := 3) hx hb dL_law_393 (by decide) ?_
  refine lv_iadd hx hb dL_law_394 ?_
  refine va_sld hx hb hX hbl hbA hg.2.2.2.2.2 (zscr 3 (by decide) hi hL) dL_law_395 ?_
  refine lx_call (rest := []) (S' := (xN (xPerf 1 (xs (Int32.toNatClampNeg ((nI i) + 1))) (xs (Int32.toNatClampNeg ((nI i) + 2))) (xs (Int32.toNatClampNeg ((nI i) + 3))) S)).2) S0 (fun A' => c_X1_meet l D ax cx A' S (xs (Int32.toNatClampNeg ((nI i) + 1))) (xs (Int32.toNatClampNeg ((nI i) + 2))) (xs (Int32.toNatClampNeg ((nI i) + 3)))) gL_law_X1_meet hg rfl qX1_meet ⟨Nat.le_of_ble_eq_true rfl, Nat.le_of_ble_eq_true rfl⟩ ⟨Nat.le_of_ble_eq_true rfl, Nat.le_of_ble_eq_true rfl⟩ hl.1 rfl (Nat.le_of_ble_eq_true rfl) dL_law_396 (fun H locs hg => ?_)
  refine lv_aload_n hx hb dL_law_399 rfl (lv_at hl 2 rfl) ?_
  refine lv_aload_n hx hb dL_law_400 rfl (lv_at hl 0 rfl) ?_
  refine lv_iload_n hx hb dL_law_401 rfl (lv_at hl 3 rfl) ?_
  refine lv_iconst (v := 1) hx hb dL_law_402 (by decide) ?_
  refine lv_iadd hx hb dL_law_403 ?_
  refine va_sld hx hb hX hbl hbA hg.2.2.2.2.2 (zscr 1 (by decide) hi hL) dL_law_404 ?_
  refine lv_aload_n hx hb dL_law_405 rfl (lv_at hl 0 rfl) ?_
  refine lv_iload_n hx hb dL_law_406 rfl (lv_at hl 3 rfl) ?_
  refine lv_iconst (v := 2) hx hb dL_law_407 (by decide) ?_
  refine lv_iadd hx hb dL_law_408 ?_
  refine va_sld hx hb hX hbl hbA hg.2.2.2.2.2 (zscr 2 (by decide) hi hL) dL_law_409 ?_
  refine lv_aload_n hx hb dL_law_410 rfl (lv_at hl 0 rfl) ?_
  refine lv_iload_n hx hb dL_law_411 rfl (lv_at hl 3 rfl) ?_
  refine lv_iconst (v := 3) hx hb dL_law_412 (by decide) ?_
  refine lv_iadd hx hb dL_law_413 ?_
  refine va_sld hx hb hX hbl hbA hg.2.2.2.2.2 (zscr 3 (by decide) hi hL) dL_law_414 ?_
  obtain ⟨hag, hinv⟩ := ag_meet (xs (Int32.toNatClampNeg ((nI i) + 1))) (xs (Int32.toNatClampNeg ((nI i) + 2))) (xs (Int32.toNatClampNeg ((nI i) + 3))) S hI
  refine lm_call (rest := [.int ((xN (xPerf 1 (xs (Int32.toNatClampNeg ((nI i) + 1))) (xs (Int32.toNatClampNeg ((nI i) + 2))) (xs (Int32.toNatClampNeg ((nI i) + 3))) S)).1)]) (T' := (mMeet (xs (Int32.toNatClampNeg ((nI i) + 1))) (xs (Int32.toNatClampNeg ((nI i) + 2))) (xs (Int32.toNatClampNeg ((nI i) + 3))) (toM S)).2) S0 (fun A' => c_X2_meet l D am cm A' (toM S) (xs (Int32.toNatClampNeg ((nI i) + 1))) (xs (Int32.toNatClampNeg ((nI i) + 2))) (xs (Int32.toNatClampNeg ((nI i) + 3)))) gL_law_X2_meet hg rfl qX2_meet ⟨Nat.le_of_ble_eq_true rfl, Nat.le_of_ble_eq_true rfl⟩ ⟨Nat.le_of_ble_eq_true rfl, Nat.le_of_ble_eq_true rfl⟩ hl.1 rfl (Nat.le_of_ble_eq_true rfl) dL_law_415 (fun H locs hg => ?_)
  refine zc_eq (tgt := 943) hx hb dL_law_418 (by decide) (fun _ => ?_) (fun q => absurd (by rw [hag]) q)
  exact k _ H locs ls hinv (by rw [hag] at hg; exact hg) (lv_sub hl [0, 1, 2, 3] rfl)
set_option maxHeartbeats 4000000 in
set_option maxRecDepth 100000 in
theorem law_case_7 {p : Program} {l : Launch} {e : Env} {s : State} {m : MethodId} {below : List Frame} {meth : Method} {c : Code} {H : Heap} {locs : List Loc} {Q : State → Prop} {ls : Array Slot} {D : va_G} {ax am : Nat → Nat} {cx cm : Nat → ClassId} {S : XS} {b L i : Nat} {xs : Nat → Int32} (hL : L ≤ 3584) (hi : i + 7 ≤ L) (S0 : CallFix p m c code 4 s #[Value.ref b] wsL_law RL) (hX : va_X b L xs s s.heap) (hbl : b < s.heap.size) (hI : Inv S) (hg : LG D ax cx am cm (fun q : Nat => s.heap.size ≤ q) s S (toM S) H locs) (hl : lv_has ls 4 [(0, .ref b), (1, .ref (ax 0)), (2, .ref (am 0)), (3, .int (nI i))])
    (k : ∀ (S' : XS) (H : Heap) (locs : List Loc) (ls : Array Slot), Inv S' → LG D ax cx am cm (fun q : Nat => s.heap.size ≤ q) s S' (toM S') H locs → lv_has ls 4 [(0, .ref b), (1, .ref (ax 0)), (2, .ref (am 0)), (3, .int (nI i))] → W p l e room_1 s m #[Value.ref b] below meth c H locs 17 227 Q (F0 m 943 ls [])) : W p l e room_1 s m #[Value.ref b] below meth c H locs 17 227 Q (F0 m 423 ls []) := by
  have hx := S0.1
  have hb := S0.2.1
  have hbA : ¬ (fun q : Nat => s.heap.size ≤ q) b := Nat.not_le.mpr hbl
  refine lv_aload_n hx hb dL_law_423 rfl (lv_at hl 1 rfl) ?_
  refine lv_aload_n hx hb dL_law_424 rfl (lv_at hl 0 rfl) ?_
  refine lv_iload_n hx hb dL_law_425 rfl (lv_at hl 3 rfl) ?_
  refine lv_iconst (v := 1) hx hb dL_law_426 (by decide) ?_
  refine lv_iadd hx hb dL_law_427 ?_
  refine va_sld hx hb hX hbl hbA hg.2.2.2.2.2 (zscr 1 (by decide) hi hL) dL_law_428 ?_
  refine lv_aload_n hx hb dL_law_429 rfl (lv_at hl 0 rfl) ?_
  refine lv_iload_n hx hb dL_law_430 rfl (lv_at hl 3 rfl) ?_
  refine lv_iconst (v := 2) hx hb dL_law_431 (by decide) ?_
  refine lv_iadd hx hb dL_law_432 ?_
  refine va_sld hx hb hX hbl hbA hg.2.2.2.2.2 (zscr 2 (by decide) hi hL) dL_law_433 ?_
  refine lx_call (rest := []) (S' := (xN (xPerf 2 (xs (Int32.toNatClampNeg ((nI i) + 1))) 0 (xs (Int32.toNatClampNeg ((nI i) + 2))) S)).2) S0 (fun A' => c_X1_size l D ax cx A' S (xs (Int32.toNatClampNeg ((nI i) + 1))) (xs (Int32.toNatClampNeg ((nI i) + 2)))) gL_law_X1_size hg rfl qX1_size ⟨Nat.le_of_ble_eq_true rfl, Nat.le_of_ble_eq_true rfl⟩ ⟨Nat.le_of_ble_eq_true rfl, Nat.le_of_ble_eq_true rfl⟩ hl.1 rfl (Nat.le_of_ble_eq_true rfl) dL_law_434 (fun H locs hg => ?_)
  refine lv_aload_n hx hb dL_law_437 rfl (lv_at hl 2 rfl) ?_
  refine lv_aload_n hx hb dL_law_438 rfl (lv_at hl 0 rfl) ?_
  refine lv_iload_n hx hb dL_law_439 rfl (lv_at hl 3 rfl) ?_
  refine lv_iconst (v := 1) hx hb dL_law_440 (by decide) ?_
  refine lv_iadd hx hb dL_law_441 ?_
  refine va_sld hx hb hX hbl hbA hg.2.2.2.2.2 (zscr 1 (by decide) hi hL) dL_law_442 ?_
  refine lv_aload_n hx hb dL_law_443 rfl (lv_at hl 0 rfl) ?_
  refine lv_iload_n hx hb dL_law_444 rfl (lv_at hl 3 rfl) ?_
  refine lv_iconst (v := 2) hx hb dL_law_445 (by decide) ?_
  refine lv_iadd hx hb dL_law_446 ?_
  refine va_sld hx hb hX hbl hbA hg.2.2.2.2.2 (zscr 2 (by decide) hi hL) dL_law_447 ?_
  obtain ⟨hag, hinv⟩ := ag_size (xs (Int32.toNatClampNeg ((nI i) + 1))) (xs (Int32.toNatClampNeg ((nI i) + 2))) S hI
  refine lm_call (rest := [.int ((xN (xPerf 2 (xs (Int32.toNatClampNeg ((nI i) + 1))) 0 (xs (Int32.toNatClampNeg ((nI i) + 2))) S)).1)]) (T' := (mSize (xs (Int32.toNatClampNeg ((nI i) + 1))) (xs (Int32.toNatClampNeg ((nI i) + 2))) (toM S)).2) S0 (fun A' => c_X2_size l D am cm A' (toM S) (xs (Int32.toNatClampNeg ((nI i) + 1))) (xs (Int32.toNatClampNeg ((nI i) + 2)))) gL_law_X2_size hg rfl qX2_size ⟨Nat.le_of_ble_eq_true rfl, Nat.le_of_ble_eq_true rfl⟩ ⟨Nat.le_of_ble_eq_true rfl, Nat.le_of_ble_eq_true rfl⟩ hl.1 rfl (Nat.le_of_ble_eq_true rfl) dL_law_448 (fun H locs hg => ?_)
  refine zc_eq (tgt := 943) hx hb dL_law_451 (by decide) (fun _ => ?_) (fun q => absurd (by rw [hag]) q)
  exact k _ H locs ls hinv (by rw [hag] at hg; exact hg) (lv_sub hl [0, 1, 2, 3] rfl)
set_option maxHeartbeats 4000000 in
set_option maxRecDepth 100000 in
theorem law_case_8 {p : Program} {l : Launch} {e : Env} {s : State} {m : MethodId} {below : List Frame} {meth : Method} {c : Code} {H : Heap} {locs : List Loc} {Q : State → Prop} {ls : Array Slot} {D : va_G} {ax am : Nat → Nat} {cx cm : Nat → ClassId} {S : XS} {b L i : Nat} {xs : Nat → Int32} (hL : L ≤ 3584) (hi : i + 7 ≤ L) (S0 : CallFix p m c code 4 s #[Value.ref b] wsL_law RL) (hX : va_X b L xs s s.heap) (hbl : b < s.heap.size) (hI : Inv S) (hg : LG D ax cx am cm (fun q : Nat => s.heap.size ≤ q) s S (toM S) H locs) (hl : lv_has ls 4 [(0, .ref b), (1, .ref (ax 0)), (2, .ref (am 0)), (3, .int (nI i))])
    (k : ∀ (S' : XS) (H : Heap) (locs : List Loc) (ls : Array Slot), Inv S' → LG D ax cx am cm (fun q : Nat => s.heap.size ≤ q) s S' (toM S') H locs → lv_has ls 4 [(0, .ref b), (1, .ref (ax 0)), (2, .ref (am 0)), (3, .int (nI i))] → W p l e room_1 s m #[Value.ref b] below meth c H locs 17 227 Q (F0 m 943 ls [])) : W p l e room_1 s m #[Value.ref b] below meth c H locs 17 227 Q (F0 m 456 ls []) := by
  have hx := S0.1
  have hb := S0.2.1
  have hbA : ¬ (fun q : Nat => s.heap.size ≤ q) b := Nat.not_le.mpr hbl
  refine lv_aload_n hx hb dL_law_456 rfl (lv_at hl 1 rfl) ?_
  refine lv_aload_n hx hb dL_law_457 rfl (lv_at hl 0 rfl) ?_
  refine lv_iload_n hx hb dL_law_458 rfl (lv_at hl 3 rfl) ?_
  refine lv_iconst (v := 1) hx hb dL_law_459 (by decide) ?_
  refine lv_iadd hx hb dL_law_460 ?_
  refine va_sld hx hb hX hbl hbA hg.2.2.2.2.2 (zscr 1 (by decide) hi hL) dL_law_461 ?_
  refine lv_aload_n hx hb dL_law_462 rfl (lv_at hl 0 rfl) ?_
  refine lv_iload_n hx hb dL_law_463 rfl (lv_at hl 3 rfl) ?_
  refine lv_iconst (v := 2) hx hb dL_law_464 (by decide) ?_
  refine lv_iadd hx hb dL_law_465 ?_
  refine va_sld hx hb hX hbl hbA hg.2.2.2.2.2 (zscr 2 (by decide) hi hL) dL_law_466 ?_
  refine lv_aload_n hx hb dL_law_467 rfl (lv_at hl 0 rfl) ?_
  refine lv_iload_n hx hb dL_law_468 rfl (lv_at hl 3 rfl) ?_
  refine lv_iconst (v := 3) hx hb dL_law_469 (by decide) ?_
  refine lv_iadd hx hb dL_law_470 ?_
  refine va_sld hx hb hX hbl hbA hg.2.2.2.2.2 (zscr 3 (by decide) hi hL) dL_law_471 ?_
  refine lx_call (rest := []) (S' := (xN (xPerf 3 (xs (Int32.toNatClampNeg ((nI i) + 1))) (xs (Int32.toNatClampNeg ((nI i) + 2))) (xs (Int32.toNatClampNeg ((nI i) + 3))) S)).2) S0 (fun A' => c_X1_round l D ax cx A' S (xs (Int32.toNatClampNeg ((nI i) + 1))) (xs (Int32.toNatClampNeg ((nI i) + 2))) (xs (Int32.toNatClampNeg ((nI i) + 3)))) gL_law_X1_round hg rfl qX1_round ⟨Nat.le_of_ble_eq_true rfl, Nat.le_of_ble_eq_true rfl⟩ ⟨Nat.le_of_ble_eq_true rfl, Nat.le_of_ble_eq_true rfl⟩ hl.1 rfl (Nat.le_of_ble_eq_true rfl) dL_law_472 (fun H locs hg => ?_)
  refine lv_aload_n hx hb dL_law_475 rfl (lv_at hl 2 rfl) ?_
  refine lv_aload_n hx hb dL_law_476 rfl (lv_at hl 0 rfl) ?_
  refine lv_iload_n hx hb dL_law_477 rfl (lv_at hl 3 rfl) ?_
  refine lv_iconst (v := 1) hx hb dL_law_478 (by decide) ?_
  refine lv_iadd hx hb dL_law_479 ?_
  refine va_sld hx hb hX hbl hbA hg.2.2.2.2.2 (zscr 1 (by decide) hi hL) dL_law_480 ?_
  refine lv_aload_n hx hb dL_law_481 rfl (lv_at hl 0 rfl) ?_
  refine lv_iload_n hx hb dL_law_482 rfl (lv_at hl 3 rfl) ?_
  refine lv_iconst (v := 2) hx hb dL_law_483 (by decide) ?_
  refine lv_iadd hx hb dL_law_484 ?_
  refine va_sld hx hb hX hbl hbA hg.2.2.2.2.2 (zscr 2 (by decide) hi hL) dL_law_485 ?_
  refine lv_aload_n hx hb dL_law_486 rfl (lv_at hl 0 rfl) ?_
  refine lv_iload_n hx hb dL_law_487 rfl (lv_at hl 3 rfl) ?_
  refine lv_iconst (v := 3) hx hb dL_law_488 (by decide) ?_
  refine lv_iadd hx hb dL_law_489 ?_
  refine va_sld hx hb hX hbl hbA hg.2.2.2.2.2 (zscr 3 (by decide) hi hL) dL_law_490 ?_
  obtain ⟨hag, hinv⟩ := ag_round (xs (Int32.toNatClampNeg ((nI i) + 1))) (xs (Int32.toNatClampNeg ((nI i) + 2))) (xs (Int32.toNatClampNeg ((nI i) + 3))) S hI
  refine lm_call (rest := [.int ((xN (xPerf 3 (xs (Int32.toNatClampNeg ((nI i) + 1))) (xs (Int32.toNatClampNeg ((nI i) + 2))) (xs (Int32.toNatClampNeg ((nI i) + 3))) S)).1)]) (T' := (mRound (xs (Int32.toNatClampNeg ((nI i) + 1))) (xs (Int32.toNatClampNeg ((nI i) + 2))) (xs (Int32.toNatClampNeg ((nI i) + 3))) (toM S)).2) S0 (fun A' => c_X2_round l D am cm A' (toM S) (xs (Int32.toNatClampNeg ((nI i) + 1))) (xs (Int32.toNatClampNeg ((nI i) + 2))) (xs (Int32.toNatClampNeg ((nI i) + 3)))) gL_law_X2_round hg rfl qX2_round ⟨Nat.le_of_ble_eq_true rfl, Nat.le_of_ble_eq_true rfl⟩ ⟨Nat.le_of_ble_eq_true rfl, Nat.le_of_ble_eq_true rfl⟩ hl.1 rfl (Nat.le_of_ble_eq_true rfl) dL_law_491 (fun H locs hg => ?_)
  refine zc_eq (tgt := 943) hx hb dL_law_494 (by decide) (fun _ => ?_) (fun q => absurd (by rw [hag]) q)
  exact k _ H locs ls hinv (by rw [hag] at hg; exact hg) (lv_sub hl [0, 1, 2, 3] rfl)
set_option maxHeartbeats 4000000 in
set_option maxRecDepth 100000 in
theorem law_case_9 {p : Program} {l : Launch} {e : Env} {s : State} {m : MethodId} {below : List Frame} {meth : Method} {c : Code} {H : Heap} {locs : List Loc} {Q : State → Prop} {ls : Array Slot} {D : va_G} {ax am : Nat → Nat} {cx cm : Nat → ClassId} {S : XS} {b L i : Nat} {xs : Nat → Int32} (hL : L ≤ 3584) (hi : i + 7 ≤ L) (S0 : CallFix p m c code 4 s #[Value.ref b] wsL_law RL) (hX : va_X b L xs s s.heap) (hbl : b < s.heap.size) (hI : Inv S) (hg : LG D ax cx am cm (fun q : Nat => s.heap.size ≤ q) s S (toM S) H locs) (hl : lv_has ls 4 [(0, .ref b), (1, .ref (ax 0)), (2, .ref (am 0)), (3, .int (nI i))])
    (k : ∀ (S' : XS) (H : Heap) (locs : List Loc) (ls : Array Slot), Inv S' → LG D ax cx am cm (fun q : Nat => s.heap.size ≤ q) s S' (toM S') H locs → lv_has ls 4 [(0, .ref b), (1, .ref (ax 0)), (2, .ref (am 0)), (3, .int (nI i))] → W p l e room_1 s m #[Value.ref b] below meth c H locs 17 227 Q (F0 m 943 ls [])) : W p l e room_1 s m #[Value.ref b] below meth c H locs 17 227 Q (F0 m 499 ls []) := by
  have hx := S0.1
  have hb := S0.2.1
  have hbA : ¬ (fun q : Nat => s.heap.size ≤ q) b := Nat.not_le.mpr hbl
  refine lv_aload_n hx hb dL_law_499 rfl (lv_at hl 1 rfl) ?_
  refine lv_aload_n hx hb dL_law_500 rfl (lv_at hl 0 rfl) ?_
  refine lv_iload_n hx hb dL_law_501 rfl (lv_at hl 3 rfl) ?_
  refine lv_iconst (v := 1) hx hb dL_law_502 (by decide) ?_
  refine lv_iadd hx hb dL_law_503 ?_
  refine va_sld hx hb hX hbl hbA hg.2.2.2.2.2 (zscr 1 (by decide) hi hL) dL_law_504 ?_
  refine lv_aload_n hx hb dL_law_505 rfl (lv_at hl 0 rfl) ?_
  refine lv_iload_n hx hb dL_law_506 rfl (lv_at hl 3 rfl) ?_
  refine lv_iconst (v := 2) hx hb dL_law_507 (by decide) ?_
  refine lv_iadd hx hb dL_law_508 ?_
  refine va_sld hx hb hX hbl hbA hg.2.2.2.2.2 (zscr 2 (by decide) hi hL) dL_law_509 ?_
  refine lx_call (rest := []) (S' := (xN (xPerf 4 (xs (Int32.toNatClampNeg ((nI i) + 1))) 0 (xs (Int32.toNatClampNeg ((nI i) + 2))) S)).2) S0 (fun A' => c_X1_sign l D ax cx A' S (xs (Int32.toNatClampNeg ((nI i) + 1))) (xs (Int32.toNatClampNeg ((nI i) + 2)))) gL_law_X1_sign hg rfl qX1_sign ⟨Nat.le_of_ble_eq_true rfl, Nat.le_of_ble_eq_true rfl⟩ ⟨Nat.le_of_ble_eq_true rfl, Nat.le_of_ble_eq_true rfl⟩ hl.1 rfl (Nat.le_of_ble_eq_true rfl) dL_law_510 (fun H locs hg => ?_)
  refine lv_aload_n hx hb dL_law_513 rfl (lv_at hl 2 rfl) ?_
  refine lv_aload_n hx hb dL_law_514 rfl (lv_at hl 0 rfl) ?_
  refine lv_iload_n hx hb dL_law_515 rfl (lv_at hl 3 rfl) ?_
  refine lv_iconst (v := 1) hx hb dL_law_516 (by decide) ?_
  refine lv_iadd hx hb dL_law_517 ?_
  refine va_sld hx hb hX hbl hbA hg.2.2.2.2.2 (zscr 1 (by decide) hi hL) dL_law_518 ?_
  refine lv_aload_n hx hb dL_law_519 rfl (lv_at hl 0 rfl) ?_
  refine lv_iload_n hx hb dL_law_520 rfl (lv_at hl 3 rfl) ?_
  refine lv_iconst (v := 2) hx hb dL_law_521 (by decide) ?_
  refine lv_iadd hx hb dL_law_522 ?_
  refine va_sld hx hb hX hbl hbA hg.2.2.2.2.2 (zscr 2 (by decide) hi hL) dL_law_523 ?_
  obtain ⟨hag, hinv⟩ := ag_sign (xs (Int32.toNatClampNeg ((nI i) + 1))) (xs (Int32.toNatClampNeg ((nI i) + 2))) S hI
  refine lm_call (rest := [.int ((xN (xPerf 4 (xs (Int32.toNatClampNeg ((nI i) + 1))) 0 (xs (Int32.toNatClampNeg ((nI i) + 2))) S)).1)]) (T' := (mSign (xs (Int32.toNatClampNeg ((nI i) + 1))) (xs (Int32.toNatClampNeg ((nI i) + 2))) (toM S)).2) S0 (fun A' => c_X2_sign l D am cm A' (toM S) (xs (Int32.toNatClampNeg ((nI i) + 1))) (xs (Int32.toNatClampNeg ((nI i) + 2)))) gL_law_X2_sign hg rfl qX2_sign ⟨Nat.le_of_ble_eq_true rfl, Nat.le_of_ble_eq_true rfl⟩ ⟨Nat.le_of_ble_eq_true rfl, Nat.le_of_ble_eq_true rfl⟩ hl.1 rfl (Nat.le_of_ble_eq_true rfl) dL_law_524 (fun H locs hg => ?_)
  refine zc_eq (tgt := 943) hx hb dL_law_527 (by decide) (fun _ => ?_) (fun q => absurd (by rw [hag]) q)
  exact k _ H locs ls hinv (by rw [hag] at hg; exact hg) (lv_sub hl [0, 1, 2, 3] rfl)
set_option maxHeartbeats 4000000 in
set_option maxRecDepth 100000 in
theorem law_case_10 {p : Program} {l : Launch} {e : Env} {s : State} {m : MethodId} {below : List Frame} {meth : Method} {c : Code} {H : Heap} {locs : List Loc} {Q : State → Prop} {ls : Array Slot} {D : va_G} {ax am : Nat → Nat} {cx cm : Nat → ClassId} {S : XS} {b L i : Nat} {xs : Nat → Int32} (hL : L ≤ 3584) (hi : i + 7 ≤ L) (S0 : CallFix p m c code 4 s #[Value.ref b] wsL_law RL) (hX : va_X b L xs s s.heap) (hbl : b < s.heap.size) (hI : Inv S) (hg : LG D ax cx am cm (fun q : Nat => s.heap.size ≤ q) s S (toM S) H locs) (hl : lv_has ls 4 [(0, .ref b), (1, .ref (ax 0)), (2, .ref (am 0)), (3, .int (nI i))])
    (k : ∀ (S' : XS) (H : Heap) (locs : List Loc) (ls : Array Slot), Inv S' → LG D ax cx am cm (fun q : Nat => s.heap.size ≤ q) s S' (toM S') H locs → lv_has ls 4 [(0, .ref b), (1, .ref (ax 0)), (2, .ref (am 0)), (3, .int (nI i))] → W p l e room_1 s m #[Value.ref b] below meth c H locs 17 227 Q (F0 m 943 ls [])) : W p l e room_1 s m #[Value.ref b] below meth c H locs 17 227 Q (F0 m 532 ls []) := by
  have hx := S0.1
  have hb := S0.2.1
  have hbA : ¬ (fun q : Nat => s.heap.size ≤ q) b := Nat.not_le.mpr hbl
  refine lv_aload_n hx hb dL_law_532 rfl (lv_at hl 1 rfl) ?_
  refine lv_aload_n hx hb dL_law_533 rfl (lv_at hl 0 rfl) ?_
  refine lv_iload_n hx hb dL_law_534 rfl (lv_at hl 3 rfl) ?_
  refine lv_iconst (v := 1) hx hb dL_law_535 (by decide) ?_
  refine lv_iadd hx hb dL_law_536 ?_
  refine va_sld hx hb hX hbl hbA hg.2.2.2.2.2 (zscr 1 (by decide) hi hL) dL_law_537 ?_
  refine lv_aload_n hx hb dL_law_538 rfl (lv_at hl 0 rfl) ?_
  refine lv_iload_n hx hb dL_law_539 rfl (lv_at hl 3 rfl) ?_
  refine lv_iconst (v := 2) hx hb dL_law_540 (by decide) ?_
  refine lv_iadd hx hb dL_law_541 ?_
  refine va_sld hx hb hX hbl hbA hg.2.2.2.2.2 (zscr 2 (by decide) hi hL) dL_law_542 ?_
  refine lv_aload_n hx hb dL_law_543 rfl (lv_at hl 0 rfl) ?_
  refine lv_iload_n hx hb dL_law_544 rfl (lv_at hl 3 rfl) ?_
  refine lv_iconst (v := 3) hx hb dL_law_545 (by decide) ?_
  refine lv_iadd hx hb dL_law_546 ?_
  refine va_sld hx hb hX hbl hbA hg.2.2.2.2.2 (zscr 3 (by decide) hi hL) dL_law_547 ?_
  refine lx_call (rest := []) (S' := (xN (xPerf 5 (xs (Int32.toNatClampNeg ((nI i) + 1))) (xs (Int32.toNatClampNeg ((nI i) + 2))) (xs (Int32.toNatClampNeg ((nI i) + 3))) S)).2) S0 (fun A' => c_X1_lend l D ax cx A' S (xs (Int32.toNatClampNeg ((nI i) + 1))) (xs (Int32.toNatClampNeg ((nI i) + 2))) (xs (Int32.toNatClampNeg ((nI i) + 3)))) gL_law_X1_lend hg rfl qX1_lend ⟨Nat.le_of_ble_eq_true rfl, Nat.le_of_ble_eq_true rfl⟩ ⟨Nat.le_of_ble_eq_true rfl, Nat.le_of_ble_eq_true rfl⟩ hl.1 rfl (Nat.le_of_ble_eq_true rfl) dL_law_548 (fun H locs hg => ?_)
  refine lv_aload_n hx hb dL_law_551 rfl (lv_at hl 2 rfl) ?_
  refine lv_aload_n hx hb dL_law_552 rfl (lv_at hl 0 rfl) ?_
  refine lv_iload_n hx hb dL_law_553 rfl (lv_at hl 3 rfl) ?_
  refine lv_iconst (v := 1) hx hb dL_law_554 (by decide) ?_
  refine lv_iadd hx hb dL_law_555 ?_
  refine va_sld hx hb hX hbl hbA hg.2.2.2.2.2 (zscr 1 (by decide) hi hL) dL_law_556 ?_
  refine lv_aload_n hx hb dL_law_557 rfl (lv_at hl 0 rfl) ?_
  refine lv_iload_n hx hb dL_law_558 rfl (lv_at hl 3 rfl) ?_
  refine lv_iconst (v := 2) hx hb dL_law_559 (by decide) ?_
  refine lv_iadd hx hb dL_law_560 ?_
  refine va_sld hx hb hX hbl hbA hg.2.2.2.2.2 (zscr 2 (by decide) hi hL) dL_law_561 ?_
  refine lv_aload_n hx hb dL_law_562 rfl (lv_at hl 0 rfl) ?_
  refine lv_iload_n hx hb dL_law_563 rfl (lv_at hl 3 rfl) ?_
  refine lv_iconst (v := 3) hx hb dL_law_564 (by decide) ?_
  refine lv_iadd hx hb dL_law_565 ?_
  refine va_sld hx hb hX hbl hbA hg.2.2.2.2.2 (zscr 3 (by decide) hi hL) dL_law_566 ?_
  obtain ⟨hag, hinv⟩ := ag_lend (xs (Int32.toNatClampNeg ((nI i) + 1))) (xs (Int32.toNatClampNeg ((nI i) + 2))) (xs (Int32.toNatClampNeg ((nI i) + 3))) S hI
  refine lm_call (rest := [.int ((xN (xPerf 5 (xs (Int32.toNatClampNeg ((nI i) + 1))) (xs (Int32.toNatClampNeg ((nI i) + 2))) (xs (Int32.toNatClampNeg ((nI i) + 3))) S)).1)]) (T' := (mLend (xs (Int32.toNatClampNeg ((nI i) + 1))) (xs (Int32.toNatClampNeg ((nI i) + 2))) (xs (Int32.toNatClampNeg ((nI i) + 3))) (toM S)).2) S0 (fun A' => c_X2_lend l D am cm A' (toM S) (xs (Int32.toNatClampNeg ((nI i) + 1))) (xs (Int32.toNatClampNeg ((nI i) + 2))) (xs (Int32.toNatClampNeg ((nI i) + 3)))) gL_law_X2_lend hg rfl qX2_lend ⟨Nat.le_of_ble_eq_true rfl, Nat.le_of_ble_eq_true rfl⟩ ⟨Nat.le_of_ble_eq_true rfl, Nat.le_of_ble_eq_true rfl⟩ hl.1 rfl (Nat.le_of_ble_eq_true rfl) dL_law_567 (fun H locs hg => ?_)
  refine zc_eq (tgt := 943) hx hb dL_law_570 (by decide) (fun _ => ?_) (fun q => absurd (by rw [hag]) q)
  exact k _ H locs ls hinv (by rw [hag] at hg; exact hg) (lv_sub hl [0, 1, 2, 3] rfl)
set_option maxHeartbeats 4000000 in
set_option maxRecDepth 100000 in
theorem law_case_11 {p : Program} {l : Launch} {e : Env} {s : State} {m : MethodId} {below : List Frame} {meth : Method} {c : Code} {H : Heap} {locs : List Loc} {Q : State → Prop} {ls : Array Slot} {D : va_G} {ax am : Nat → Nat} {cx cm : Nat → ClassId} {S : XS} {b L i : Nat} {xs : Nat → Int32} (hL : L ≤ 3584) (hi : i + 7 ≤ L) (S0 : CallFix p m c code 4 s #[Value.ref b] wsL_law RL) (hX : va_X b L xs s s.heap) (hbl : b < s.heap.size) (hI : Inv S) (hg : LG D ax cx am cm (fun q : Nat => s.heap.size ≤ q) s S (toM S) H locs) (hl : lv_has ls 4 [(0, .ref b), (1, .ref (ax 0)), (2, .ref (am 0)), (3, .int (nI i))])
    (k : ∀ (S' : XS) (H : Heap) (locs : List Loc) (ls : Array Slot), Inv S' → LG D ax cx am cm (fun q : Nat => s.heap.size ≤ q) s S' (toM S') H locs → lv_has ls 4 [(0, .ref b), (1, .ref (ax 0)), (2, .ref (am 0)), (3, .int (nI i))] → W p l e room_1 s m #[Value.ref b] below meth c H locs 17 227 Q (F0 m 943 ls [])) : W p l e room_1 s m #[Value.ref b] below meth c H locs 17 227 Q (F0 m 575 ls []) := by
  have hx := S0.1
  have hb := S0.2.1
  have hbA : ¬ (fun q : Nat => s.heap.size ≤ q) b := Nat.not_le.mpr hbl
  refine lv_aload_n hx hb dL_law_575 rfl (lv_at hl 1 rfl) ?_
  refine lv_aload_n hx hb dL_law_576 rfl (lv_at hl 0 rfl) ?_
  refine lv_iload_n hx hb dL_law_577 rfl (lv_at hl 3 rfl) ?_
  refine lv_iconst (v := 1) hx hb dL_law_578 (by decide) ?_
  refine lv_iadd hx hb dL_law_579 ?_
  refine va_sld hx hb hX hbl hbA hg.2.2.2.2.2 (zscr 1 (by decide) hi hL) dL_law_580 ?_
  refine lv_aload_n hx hb dL_law_581 rfl (lv_at hl 0 rfl) ?_
  refine lv_iload_n hx hb dL_law_582 rfl (lv_at hl 3 rfl) ?_
  refine lv_iconst (v := 2) hx hb dL_law_583 (by decide) ?_
  refine lv_iadd hx hb dL_law_584 ?_
  refine va_sld hx hb hX hbl hbA hg.2.2.2.2.2 (zscr 2 (by decide) hi hL) dL_law_585 ?_
  refine lx_call (rest := []) (S' := (xN (xPerf 6 (xs (Int32.toNatClampNeg ((nI i) + 1))) 0 (xs (Int32.toNatClampNeg ((nI i) + 2))) S)).2) S0 (fun A' => c_X1_turn l D ax cx A' S (xs (Int32.toNatClampNeg ((nI i) + 1))) (xs (Int32.toNatClampNeg ((nI i) + 2)))) gL_law_X1_turn hg rfl qX1_turn ⟨Nat.le_of_ble_eq_true rfl, Nat.le_of_ble_eq_true rfl⟩ ⟨Nat.le_of_ble_eq_true rfl, Nat.le_of_ble_eq_true rfl⟩ hl.1 rfl (Nat.le_of_ble_eq_true rfl) dL_law_586 (fun H locs hg => ?_)
  refine lv_aload_n hx hb dL_law_589 rfl (lv_at hl 2 rfl) ?_
  refine lv_aload_n hx hb dL_law_590 rfl (lv_at hl 0 rfl) ?_
  refine lv_iload_n hx hb dL_law_591 rfl (lv_at hl 3 rfl) ?_
  refine lv_iconst (v := 1) hx hb dL_law_592 (by decide) ?_
  refine lv_iadd hx hb dL_law_593 ?_
  refine va_sld hx hb hX hbl hbA hg.2.2.2.2.2 (zscr 1 (by decide) hi hL) dL_law_594 ?_
  refine lv_aload_n hx hb dL_law_595 rfl (lv_at hl 0 rfl) ?_
  refine lv_iload_n hx hb dL_law_596 rfl (lv_at hl 3 rfl) ?_
  refine lv_iconst (v := 2) hx hb dL_law_597 (by decide) ?_
  refine lv_iadd hx hb dL_law_598 ?_
  refine va_sld hx hb hX hbl hbA hg.2.2.2.2.2 (zscr 2 (by decide) hi hL) dL_law_599 ?_
  obtain ⟨hag, hinv⟩ := ag_turn (xs (Int32.toNatClampNeg ((nI i) + 1))) (xs (Int32.toNatClampNeg ((nI i) + 2))) S hI
  refine lm_call (rest := [.int ((xN (xPerf 6 (xs (Int32.toNatClampNeg ((nI i) + 1))) 0 (xs (Int32.toNatClampNeg ((nI i) + 2))) S)).1)]) (T' := (mTurn (xs (Int32.toNatClampNeg ((nI i) + 1))) (xs (Int32.toNatClampNeg ((nI i) + 2))) (toM S)).2) S0 (fun A' => c_X2_turn l D am cm A' (toM S) (xs (Int32.toNatClampNeg ((nI i) + 1))) (xs (Int32.toNatClampNeg ((nI i) + 2)))) gL_law_X2_turn hg rfl qX2_turn ⟨Nat.le_of_ble_eq_true rfl, Nat.le_of_ble_eq_true rfl⟩ ⟨Nat.le_of_ble_eq_true rfl, Nat.le_of_ble_eq_true rfl⟩ hl.1 rfl (Nat.le_of_ble_eq_true rfl) dL_law_600 (fun H locs hg => ?_)
  refine zc_eq (tgt := 943) hx hb dL_law_603 (by decide) (fun _ => ?_) (fun q => absurd (by rw [hag]) q)
  exact k _ H locs ls hinv (by rw [hag] at hg; exact hg) (lv_sub hl [0, 1, 2, 3] rfl)
set_option maxHeartbeats 4000000 in
set_option maxRecDepth 100000 in
theorem law_case_12 {p : Program} {l : Launch} {e : Env} {s : State} {m : MethodId} {below : List Frame} {meth : Method} {c : Code} {H : Heap} {locs : List Loc} {Q : State → Prop} {ls : Array Slot} {D : va_G} {ax am : Nat → Nat} {cx cm : Nat → ClassId} {S : XS} {b L i : Nat} {xs : Nat → Int32} (hL : L ≤ 3584) (hi : i + 7 ≤ L) (S0 : CallFix p m c code 4 s #[Value.ref b] wsL_law RL) (hX : va_X b L xs s s.heap) (hbl : b < s.heap.size) (hI : Inv S) (hg : LG D ax cx am cm (fun q : Nat => s.heap.size ≤ q) s S (toM S) H locs) (hl : lv_has ls 4 [(0, .ref b), (1, .ref (ax 0)), (2, .ref (am 0)), (3, .int (nI i))])
    (k : ∀ (S' : XS) (H : Heap) (locs : List Loc) (ls : Array Slot), Inv S' → LG D ax cx am cm (fun q : Nat => s.heap.size ≤ q) s S' (toM S') H locs → lv_has ls 4 [(0, .ref b), (1, .ref (ax 0)), (2, .ref (am 0)), (3, .int (nI i))] → W p l e room_1 s m #[Value.ref b] below meth c H locs 17 227 Q (F0 m 943 ls [])) : W p l e room_1 s m #[Value.ref b] below meth c H locs 17 227 Q (F0 m 608 ls []) := by
  have hx := S0.1
  have hb := S0.2.1
  have hbA : ¬ (fun q : Nat => s.heap.size ≤ q) b := Nat.not_le.mpr hbl
  refine lv_aload_n hx hb dL_law_608 rfl (lv_at hl 1 rfl) ?_
  refine lv_aload_n hx hb dL_law_609 rfl (lv_at hl 0 rfl) ?_
  refine lv_iload_n hx hb dL_law_610 rfl (lv_at hl 3 rfl) ?_
  refine lv_iconst (v := 1) hx hb dL_law_611 (by decide) ?_
  refine lv_iadd hx hb dL_law_612 ?_
  refine va_sld hx hb hX hbl hbA hg.2.2.2.2.2 (zscr 1 (by decide) hi hL) dL_law_613 ?_
  refine lv_aload_n hx hb dL_law_614 rfl (lv_at hl 0 rfl) ?_
  refine lv_iload_n hx hb dL_law_615 rfl (lv_at hl 3 rfl) ?_
  refine lv_iconst (v := 2) hx hb dL_law_616 (by decide) ?_
  refine lv_iadd hx hb dL_law_617 ?_
  refine va_sld hx hb hX hbl hbA hg.2.2.2.2.2 (zscr 2 (by decide) hi hL) dL_law_618 ?_
  refine lv_aload_n hx hb dL_law_619 rfl (lv_at hl 0 rfl) ?_
  refine lv_iload_n hx hb dL_law_620 rfl (lv_at hl 3 rfl) ?_
  refine lv_iconst (v := 3) hx hb dL_law_621 (by decide) ?_
  refine lv_iadd hx hb dL_law_622 ?_
  refine va_sld hx hb hX hbl hbA hg.2.2.2.2.2 (zscr 3 (by decide) hi hL) dL_law_623 ?_
  refine lx_call (rest := []) (S' := (xN (xPerf 7 (xs (Int32.toNatClampNeg ((nI i) + 1))) (xs (Int32.toNatClampNeg ((nI i) + 2))) (xs (Int32.toNatClampNeg ((nI i) + 3))) S)).2) S0 (fun A' => c_X1_as l D ax cx A' S (xs (Int32.toNatClampNeg ((nI i) + 1))) (xs (Int32.toNatClampNeg ((nI i) + 2))) (xs (Int32.toNatClampNeg ((nI i) + 3)))) gL_law_X1_as hg rfl qX1_as ⟨Nat.le_of_ble_eq_true rfl, Nat.le_of_ble_eq_true rfl⟩ ⟨Nat.le_of_ble_eq_true rfl, Nat.le_of_ble_eq_true rfl⟩ hl.1 rfl (Nat.le_of_ble_eq_true rfl) dL_law_624 (fun H locs hg => ?_)
  refine lv_aload_n hx hb dL_law_627 rfl (lv_at hl 2 rfl) ?_
  refine lv_aload_n hx hb dL_law_628 rfl (lv_at hl 0 rfl) ?_
  refine lv_iload_n hx hb dL_law_629 rfl (lv_at hl 3 rfl) ?_
  refine lv_iconst (v := 1) hx hb dL_law_630 (by decide) ?_
  refine lv_iadd hx hb dL_law_631 ?_
  refine va_sld hx hb hX hbl hbA hg.2.2.2.2.2 (zscr 1 (by decide) hi hL) dL_law_632 ?_
  refine lv_aload_n hx hb dL_law_633 rfl (lv_at hl 0 rfl) ?_
  refine lv_iload_n hx hb dL_law_634 rfl (lv_at hl 3 rfl) ?_
  refine lv_iconst (v := 2) hx hb dL_law_635 (by decide) ?_
  refine lv_iadd hx hb dL_law_636 ?_
  refine va_sld hx hb hX hbl hbA hg.2.2.2.2.2 (zscr 2 (by decide) hi hL) dL_law_637 ?_
  refine lv_aload_n hx hb dL_law_638 rfl (lv_at hl 0 rfl) ?_
  refine lv_iload_n hx hb dL_law_639 rfl (lv_at hl 3 rfl) ?_
  refine lv_iconst (v := 3) hx hb dL_law_640 (by decide) ?_
  refine lv_iadd hx hb dL_law_641 ?_
  refine va_sld hx hb hX hbl hbA hg.2.2.2.2.2 (zscr 3 (by decide) hi hL) dL_law_642 ?_
  obtain ⟨hag, hinv⟩ := ag_as (xs (Int32.toNatClampNeg ((nI i) + 1))) (xs (Int32.toNatClampNeg ((nI i) + 2))) (xs (Int32.toNatClampNeg ((nI i) + 3))) S hI
  refine lm_call (rest := [.int ((xN (xPerf 7 (xs (Int32.toNatClampNeg ((nI i) + 1))) (xs (Int32.toNatClampNeg ((nI i) + 2))) (xs (Int32.toNatClampNeg ((nI i) + 3))) S)).1)]) (T' := (mAs (xs (Int32.toNatClampNeg ((nI i) + 1))) (xs (Int32.toNatClampNeg ((nI i) + 2))) (xs (Int32.toNatClampNeg ((nI i) + 3))) (toM S)).2) S0 (fun A' => c_X2_as l D am cm A' (toM S) (xs (Int32.toNatClampNeg ((nI i) + 1))) (xs (Int32.toNatClampNeg ((nI i) + 2))) (xs (Int32.toNatClampNeg ((nI i) + 3))) (fine_as hI)) gL_law_X2_as hg rfl qX2_as ⟨Nat.le_of_ble_eq_true rfl, Nat.le_of_ble_eq_true rfl⟩ ⟨Nat.le_of_ble_eq_true rfl, Nat.le_of_ble_eq_true rfl⟩ hl.1 rfl (Nat.le_of_ble_eq_true rfl) dL_law_643 (fun H locs hg => ?_)
  refine zc_eq (tgt := 943) hx hb dL_law_646 (by decide) (fun _ => ?_) (fun q => absurd (by rw [hag]) q)
  exact k _ H locs ls hinv (by rw [hag] at hg; exact hg) (lv_sub hl [0, 1, 2, 3] rfl)
set_option maxHeartbeats 4000000 in
set_option maxRecDepth 100000 in
theorem law_case_13 {p : Program} {l : Launch} {e : Env} {s : State} {m : MethodId} {below : List Frame} {meth : Method} {c : Code} {H : Heap} {locs : List Loc} {Q : State → Prop} {ls : Array Slot} {D : va_G} {ax am : Nat → Nat} {cx cm : Nat → ClassId} {S : XS} {b L i : Nat} {xs : Nat → Int32} (hL : L ≤ 3584) (hi : i + 7 ≤ L) (S0 : CallFix p m c code 4 s #[Value.ref b] wsL_law RL) (hX : va_X b L xs s s.heap) (hbl : b < s.heap.size) (hI : Inv S) (hg : LG D ax cx am cm (fun q : Nat => s.heap.size ≤ q) s S (toM S) H locs) (hl : lv_has ls 4 [(0, .ref b), (1, .ref (ax 0)), (2, .ref (am 0)), (3, .int (nI i))])
    (k : ∀ (S' : XS) (H : Heap) (locs : List Loc) (ls : Array Slot), Inv S' → LG D ax cx am cm (fun q : Nat => s.heap.size ≤ q) s S' (toM S') H locs → lv_has ls 4 [(0, .ref b), (1, .ref (ax 0)), (2, .ref (am 0)), (3, .int (nI i))] → W p l e room_1 s m #[Value.ref b] below meth c H locs 17 227 Q (F0 m 943 ls [])) : W p l e room_1 s m #[Value.ref b] below meth c H locs 17 227 Q (F0 m 651 ls []) := by
  have hx := S0.1
  have hb := S0.2.1
  have hbA : ¬ (fun q : Nat => s.heap.size ≤ q) b := Nat.not_le.mpr hbl
  refine lv_aload_n hx hb dL_law_651 rfl (lv_at hl 1 rfl) ?_
  refine lv_aload_n hx hb dL_law_652 rfl (lv_at hl 0 rfl) ?_
  refine lv_iload_n hx hb dL_law_653 rfl (lv_at hl 3 rfl) ?_
  refine lv_iconst (v := 1) hx hb dL_law_654 (by decide) ?_
  refine lv_iadd hx hb dL_law_655 ?_
  refine va_sld hx hb hX hbl hbA hg.2.2.2.2.2 (zscr 1 (by decide) hi hL) dL_law_656 ?_
  refine lv_aload_n hx hb dL_law_657 rfl (lv_at hl 0 rfl) ?_
  refine lv_iload_n hx hb dL_law_658 rfl (lv_at hl 3 rfl) ?_
  refine lv_iconst (v := 2) hx hb dL_law_659 (by decide) ?_
  refine lv_iadd hx hb dL_law_660 ?_
  refine va_sld hx hb hX hbl hbA hg.2.2.2.2.2 (zscr 2 (by decide) hi hL) dL_law_661 ?_
  refine lv_i2l (v := Int32.toInt64 (xs (Int32.toNatClampNeg ((nI i) + 2)))) hx hb dL_law_662 rfl ?_
  refine lv_bipush (v := 32) hx hb dL_law_663 (by decide) ?_
  refine lv_lshl (v := jshl (Int32.toInt64 (xs (Int32.toNatClampNeg ((nI i) + 2)))) 32) hx hb dL_law_665 rfl ?_
  refine lv_aload_n hx hb dL_law_666 rfl (lv_at hl 0 rfl) ?_
  refine lv_iload_n hx hb dL_law_667 rfl (lv_at hl 3 rfl) ?_
  refine lv_iconst (v := 3) hx hb dL_law_668 (by decide) ?_
  refine lv_iadd hx hb dL_law_669 ?_
  refine va_sld hx hb hX hbl hbA hg.2.2.2.2.2 (zscr 3 (by decide) hi hL) dL_law_670 ?_
  refine lv_i2l (v := Int32.toInt64 (xs (Int32.toNatClampNeg ((nI i) + 3)))) hx hb dL_law_671 rfl ?_
  refine lv_ldc2 hx hb S0.2.2.2.1 (S0.2.2.2.2 (.constantLong RL 13 (4294967295)) (by decide +kernel)) dL_law_672 ?_
  refine lv_land hx hb dL_law_675 ?_
  refine lv_lor hx hb dL_law_676 ?_
  refine lx_call (rest := []) (S' := (xNear (xs (Int32.toNatClampNeg ((nI i) + 1))) ((jshl (Int32.toInt64 (xs (Int32.toNatClampNeg ((nI i) + 2)))) 32) ||| ((Int32.toInt64 (xs (Int32.toNatClampNeg ((nI i) + 3)))) &&& 4294967295)) S).2) S0 (fun A' => c_X1_near l D ax cx A' S (xs (Int32.toNatClampNeg ((nI i) + 1))) ((jshl (Int32.toInt64 (xs (Int32.toNatClampNeg ((nI i) + 2)))) 32) ||| ((Int32.toInt64 (xs (Int32.toNatClampNeg ((nI i) + 3)))) &&& 4294967295))) gL_law_X1_near hg rfl qX1_near ⟨Nat.le_of_ble_eq_true rfl, Nat.le_of_ble_eq_true rfl⟩ ⟨Nat.le_of_ble_eq_true rfl, Nat.le_of_ble_eq_true rfl⟩ hl.1 rfl (Nat.le_of_ble_eq_true rfl) dL_law_677 (fun H locs hg => ?_)
  refine lv_aload_n hx hb dL_law_680 rfl (lv_at hl 2 rfl) ?_
  refine lv_aload_n hx hb dL_law_681 rfl (lv_at hl 0 rfl) ?_
  refine lv_iload_n hx hb dL_law_682 rfl (lv_at hl 3 rfl) ?_
  refine lv_iconst (v := 1) hx hb dL_law_683 (by decide) ?_
  refine lv_iadd hx hb dL_law_684 ?_
  refine va_sld hx hb hX hbl hbA hg.2.2.2.2.2 (zscr 1 (by decide) hi hL) dL_law_685 ?_
  refine lv_aload_n hx hb dL_law_686 rfl (lv_at hl 0 rfl) ?_
  refine lv_iload_n hx hb dL_law_687 rfl (lv_at hl 3 rfl) ?_
  refine lv_iconst (v := 2) hx hb dL_law_688 (by decide) ?_
  refine lv_iadd hx hb dL_law_689 ?_
  refine va_sld hx hb hX hbl hbA hg.2.2.2.2.2 (zscr 2 (by decide) hi hL) dL_law_690 ?_
  refine lv_i2l (v := Int32.toInt64 (xs (Int32.toNatClampNeg ((nI i) + 2)))) hx hb dL_law_691 rfl ?_
  refine lv_bipush (v := 32) hx hb dL_law_692 (by decide) ?_
  refine lv_lshl (v := jshl (Int32.toInt64 (xs (Int32.toNatClampNeg ((nI i) + 2)))) 32) hx hb dL_law_694 rfl ?_
  refine lv_aload_n hx hb dL_law_695 rfl (lv_at hl 0 rfl) ?_
  refine lv_iload_n hx hb dL_law_696 rfl (lv_at hl 3 rfl) ?_
  refine lv_iconst (v := 3) hx hb dL_law_697 (by decide) ?_
  refine lv_iadd hx hb dL_law_698 ?_
  refine va_sld hx hb hX hbl hbA hg.2.2.2.2.2 (zscr 3 (by decide) hi hL) dL_law_699 ?_
  refine lv_i2l (v := Int32.toInt64 (xs (Int32.toNatClampNeg ((nI i) + 3)))) hx hb dL_law_700 rfl ?_
  refine lv_ldc2 hx hb S0.2.2.2.1 (S0.2.2.2.2 (.constantLong RL 13 (4294967295)) (by decide +kernel)) dL_law_701 ?_
  refine lv_land hx hb dL_law_704 ?_
  refine lv_lor hx hb dL_law_705 ?_
  obtain ⟨hag, hinv⟩ := ag_near (xs (Int32.toNatClampNeg ((nI i) + 1))) ((jshl (Int32.toInt64 (xs (Int32.toNatClampNeg ((nI i) + 2)))) 32) ||| ((Int32.toInt64 (xs (Int32.toNatClampNeg ((nI i) + 3)))) &&& 4294967295)) S hI
  refine lm_call (rest := [.long ((xNear (xs (Int32.toNatClampNeg ((nI i) + 1))) ((jshl (Int32.toInt64 (xs (Int32.toNatClampNeg ((nI i) + 2)))) 32) ||| ((Int32.toInt64 (xs (Int32.toNatClampNeg ((nI i) + 3)))) &&& 4294967295)) S).1)]) (T' := (mNear (xs (Int32.toNatClampNeg ((nI i) + 1))) ((jshl (Int32.toInt64 (xs (Int32.toNatClampNeg ((nI i) + 2)))) 32) ||| ((Int32.toInt64 (xs (Int32.toNatClampNeg ((nI i) + 3)))) &&& 4294967295)) (toM S)).2) S0 (fun A' => c_X2_near l D am cm A' (toM S) (xs (Int32.toNatClampNeg ((nI i) + 1))) ((jshl (Int32.toInt64 (xs (Int32.toNatClampNeg ((nI i) + 2)))) 32) ||| ((Int32.toInt64 (xs (Int32.toNatClampNeg ((nI i) + 3)))) &&& 4294967295))) gL_law_X2_near hg rfl qX2_near ⟨Nat.le_of_ble_eq_true rfl, Nat.le_of_ble_eq_true rfl⟩ ⟨Nat.le_of_ble_eq_true rfl, Nat.le_of_ble_eq_true rfl⟩ hl.1 rfl (Nat.le_of_ble_eq_true rfl) dL_law_706 (fun H locs hg => ?_)
  refine zl_eq (tgt := 943) hx hb dL_law_709 dL_law_710 (by decide) (fun _ => ?_) (fun q => absurd (by rw [hag]) q)
  exact k _ H locs ls hinv (by rw [hag] at hg; exact hg) (lv_sub hl [0, 1, 2, 3] rfl)
set_option maxHeartbeats 4000000 in
set_option maxRecDepth 100000 in
theorem law_case_14 {p : Program} {l : Launch} {e : Env} {s : State} {m : MethodId} {below : List Frame} {meth : Method} {c : Code} {H : Heap} {locs : List Loc} {Q : State → Prop} {ls : Array Slot} {D : va_G} {ax am : Nat → Nat} {cx cm : Nat → ClassId} {S : XS} {b L i : Nat} {xs : Nat → Int32} (hL : L ≤ 3584) (hi : i + 7 ≤ L) (S0 : CallFix p m c code 4 s #[Value.ref b] wsL_law RL) (hX : va_X b L xs s s.heap) (hbl : b < s.heap.size) (hI : Inv S) (hg : LG D ax cx am cm (fun q : Nat => s.heap.size ≤ q) s S (toM S) H locs) (hl : lv_has ls 4 [(0, .ref b), (1, .ref (ax 0)), (2, .ref (am 0)), (3, .int (nI i))])
    (k : ∀ (S' : XS) (H : Heap) (locs : List Loc) (ls : Array Slot), Inv S' → LG D ax cx am cm (fun q : Nat => s.heap.size ≤ q) s S' (toM S') H locs → lv_has ls 4 [(0, .ref b), (1, .ref (ax 0)), (2, .ref (am 0)), (3, .int (nI i))] → W p l e room_1 s m #[Value.ref b] below meth c H locs 17 227 Q (F0 m 943 ls [])) : W p l e room_1 s m #[Value.ref b] below meth c H locs 17 227 Q (F0 m 715 ls []) := by
  have hx := S0.1
  have hb := S0.2.1
  have hbA : ¬ (fun q : Nat => s.heap.size ≤ q) b := Nat.not_le.mpr hbl
  refine lv_aload_n hx hb dL_law_715 rfl (lv_at hl 1 rfl) ?_
  refine lv_aload_n hx hb dL_law_716 rfl (lv_at hl 0 rfl) ?_
  refine lv_iload_n hx hb dL_law_717 rfl (lv_at hl 3 rfl) ?_
  refine lv_iconst (v := 1) hx hb dL_law_718 (by decide) ?_
  refine lv_iadd hx hb dL_law_719 ?_
  refine va_sld hx hb hX hbl hbA hg.2.2.2.2.2 (zscr 1 (by decide) hi hL) dL_law_720 ?_
  refine lv_aload_n hx hb dL_law_721 rfl (lv_at hl 0 rfl) ?_
  refine lv_iload_n hx hb dL_law_722 rfl (lv_at hl 3 rfl) ?_
  refine lv_iconst (v := 2) hx hb dL_law_723 (by decide) ?_
  refine lv_iadd hx hb dL_law_724 ?_
  refine va_sld hx hb hX hbl hbA hg.2.2.2.2.2 (zscr 2 (by decide) hi hL) dL_law_725 ?_
  refine lv_i2l (v := Int32.toInt64 (xs (Int32.toNatClampNeg ((nI i) + 2)))) hx hb dL_law_726 rfl ?_
  refine lv_bipush (v := 32) hx hb dL_law_727 (by decide) ?_
  refine lv_lshl (v := jshl (Int32.toInt64 (xs (Int32.toNatClampNeg ((nI i) + 2)))) 32) hx hb dL_law_729 rfl ?_
  refine lv_aload_n hx hb dL_law_730 rfl (lv_at hl 0 rfl) ?_
  refine lv_iload_n hx hb dL_law_731 rfl (lv_at hl 3 rfl) ?_
  refine lv_iconst (v := 3) hx hb dL_law_732 (by decide) ?_
  refine lv_iadd hx hb dL_law_733 ?_
  refine va_sld hx hb hX hbl hbA hg.2.2.2.2.2 (zscr 3 (by decide) hi hL) dL_law_734 ?_
  refine lv_i2l (v := Int32.toInt64 (xs (Int32.toNatClampNeg ((nI i) + 3)))) hx hb dL_law_735 rfl ?_
  refine lv_ldc2 hx hb S0.2.2.2.1 (S0.2.2.2.2 (.constantLong RL 13 (4294967295)) (by decide +kernel)) dL_law_736 ?_
  refine lv_land hx hb dL_law_739 ?_
  refine lv_lor hx hb dL_law_740 ?_
  refine lx_call (rest := []) (S' := (xHas (xs (Int32.toNatClampNeg ((nI i) + 1))) ((jshl (Int32.toInt64 (xs (Int32.toNatClampNeg ((nI i) + 2)))) 32) ||| ((Int32.toInt64 (xs (Int32.toNatClampNeg ((nI i) + 3)))) &&& 4294967295)) S).2) S0 (fun A' => c_X1_has l D ax cx A' S (xs (Int32.toNatClampNeg ((nI i) + 1))) ((jshl (Int32.toInt64 (xs (Int32.toNatClampNeg ((nI i) + 2)))) 32) ||| ((Int32.toInt64 (xs (Int32.toNatClampNeg ((nI i) + 3)))) &&& 4294967295))) gL_law_X1_has hg rfl qX1_has ⟨Nat.le_of_ble_eq_true rfl, Nat.le_of_ble_eq_true rfl⟩ ⟨Nat.le_of_ble_eq_true rfl, Nat.le_of_ble_eq_true rfl⟩ hl.1 rfl (Nat.le_of_ble_eq_true rfl) dL_law_741 (fun H locs hg => ?_)
  refine lv_aload_n hx hb dL_law_744 rfl (lv_at hl 2 rfl) ?_
  refine lv_aload_n hx hb dL_law_745 rfl (lv_at hl 0 rfl) ?_
  refine lv_iload_n hx hb dL_law_746 rfl (lv_at hl 3 rfl) ?_
  refine lv_iconst (v := 1) hx hb dL_law_747 (by decide) ?_
  refine lv_iadd hx hb dL_law_748 ?_
  refine va_sld hx hb hX hbl hbA hg.2.2.2.2.2 (zscr 1 (by decide) hi hL) dL_law_749 ?_
  refine lv_aload_n hx hb dL_law_750 rfl (lv_at hl 0 rfl) ?_
  refine lv_iload_n hx hb dL_law_751 rfl (lv_at hl 3 rfl) ?_
  refine lv_iconst (v := 2) hx hb dL_law_752 (by decide) ?_
  refine lv_iadd hx hb dL_law_753 ?_
  refine va_sld hx hb hX hbl hbA hg.2.2.2.2.2 (zscr 2 (by decide) hi hL) dL_law_754 ?_
  refine lv_i2l (v := Int32.toInt64 (xs (Int32.toNatClampNeg ((nI i) + 2)))) hx hb dL_law_755 rfl ?_
  refine lv_bipush (v := 32) hx hb dL_law_756 (by decide) ?_
  refine lv_lshl (v := jshl (Int32.toInt64 (xs (Int32.toNatClampNeg ((nI i) + 2)))) 32) hx hb dL_law_758 rfl ?_
  refine lv_aload_n hx hb dL_law_759 rfl (lv_at hl 0 rfl) ?_
  refine lv_iload_n hx hb dL_law_760 rfl (lv_at hl 3 rfl) ?_
  refine lv_iconst (v := 3) hx hb dL_law_761 (by decide) ?_
  refine lv_iadd hx hb dL_law_762 ?_
  refine va_sld hx hb hX hbl hbA hg.2.2.2.2.2 (zscr 3 (by decide) hi hL) dL_law_763 ?_
  refine lv_i2l (v := Int32.toInt64 (xs (Int32.toNatClampNeg ((nI i) + 3)))) hx hb dL_law_764 rfl ?_
  refine lv_ldc2 hx hb S0.2.2.2.1 (S0.2.2.2.2 (.constantLong RL 13 (4294967295)) (by decide +kernel)) dL_law_765 ?_
  refine lv_land hx hb dL_law_768 ?_
  refine lv_lor hx hb dL_law_769 ?_
  obtain ⟨hag, hinv⟩ := ag_has (xs (Int32.toNatClampNeg ((nI i) + 1))) ((jshl (Int32.toInt64 (xs (Int32.toNatClampNeg ((nI i) + 2)))) 32) ||| ((Int32.toInt64 (xs (Int32.toNatClampNeg ((nI i) + 3)))) &&& 4294967295)) S hI
  refine lm_call (rest := [.int ((xHas (xs (Int32.toNatClampNeg ((nI i) + 1))) ((jshl (Int32.toInt64 (xs (Int32.toNatClampNeg ((nI i) + 2)))) 32) ||| ((Int32.toInt64 (xs (Int32.toNatClampNeg ((nI i) + 3)))) &&& 4294967295)) S).1)]) (T' := (mHas (xs (Int32.toNatClampNeg ((nI i) + 1))) ((jshl (Int32.toInt64 (xs (Int32.toNatClampNeg ((nI i) + 2)))) 32) ||| ((Int32.toInt64 (xs (Int32.toNatClampNeg ((nI i) + 3)))) &&& 4294967295)) (toM S)).2) S0 (fun A' => c_X2_has l D am cm A' (toM S) (xs (Int32.toNatClampNeg ((nI i) + 1))) ((jshl (Int32.toInt64 (xs (Int32.toNatClampNeg ((nI i) + 2)))) 32) ||| ((Int32.toInt64 (xs (Int32.toNatClampNeg ((nI i) + 3)))) &&& 4294967295))) gL_law_X2_has hg rfl qX2_has ⟨Nat.le_of_ble_eq_true rfl, Nat.le_of_ble_eq_true rfl⟩ ⟨Nat.le_of_ble_eq_true rfl, Nat.le_of_ble_eq_true rfl⟩ hl.1 rfl (Nat.le_of_ble_eq_true rfl) dL_law_770 (fun H locs hg => ?_)
  refine zc_eq (tgt := 943) hx hb dL_law_773 (by decide) (fun _ => ?_) (fun q => absurd (by rw [hag]) q)
  exact k _ H locs ls hinv (by rw [hag] at hg; exact hg) (lv_sub hl [0, 1, 2, 3] rfl)
set_option maxHeartbeats 4000000 in
set_option maxRecDepth 100000 in
theorem law_case_15 {p : Program} {l : Launch} {e : Env} {s : State} {m : MethodId} {below : List Frame} {meth : Method} {c : Code} {H : Heap} {locs : List Loc} {Q : State → Prop} {ls : Array Slot} {D : va_G} {ax am : Nat → Nat} {cx cm : Nat → ClassId} {S : XS} {b L i : Nat} {xs : Nat → Int32} (hL : L ≤ 3584) (hi : i + 7 ≤ L) (S0 : CallFix p m c code 4 s #[Value.ref b] wsL_law RL) (hX : va_X b L xs s s.heap) (hbl : b < s.heap.size) (hI : Inv S) (hg : LG D ax cx am cm (fun q : Nat => s.heap.size ≤ q) s S (toM S) H locs) (hl : lv_has ls 4 [(0, .ref b), (1, .ref (ax 0)), (2, .ref (am 0)), (3, .int (nI i))])
    (k : ∀ (S' : XS) (H : Heap) (locs : List Loc) (ls : Array Slot), Inv S' → LG D ax cx am cm (fun q : Nat => s.heap.size ≤ q) s S' (toM S') H locs → lv_has ls 4 [(0, .ref b), (1, .ref (ax 0)), (2, .ref (am 0)), (3, .int (nI i))] → W p l e room_1 s m #[Value.ref b] below meth c H locs 17 227 Q (F0 m 943 ls [])) : W p l e room_1 s m #[Value.ref b] below meth c H locs 17 227 Q (F0 m 778 ls []) := by
  have hx := S0.1
  have hb := S0.2.1
  have hbA : ¬ (fun q : Nat => s.heap.size ≤ q) b := Nat.not_le.mpr hbl
  refine lv_aload_n hx hb dL_law_778 rfl (lv_at hl 1 rfl) ?_
  refine lv_aload_n hx hb dL_law_779 rfl (lv_at hl 0 rfl) ?_
  refine lv_iload_n hx hb dL_law_780 rfl (lv_at hl 3 rfl) ?_
  refine lv_iconst (v := 1) hx hb dL_law_781 (by decide) ?_
  refine lv_iadd hx hb dL_law_782 ?_
  refine va_sld hx hb hX hbl hbA hg.2.2.2.2.2 (zscr 1 (by decide) hi hL) dL_law_783 ?_
  refine lv_aload_n hx hb dL_law_784 rfl (lv_at hl 0 rfl) ?_
  refine lv_iload_n hx hb dL_law_785 rfl (lv_at hl 3 rfl) ?_
  refine lv_iconst (v := 2) hx hb dL_law_786 (by decide) ?_
  refine lv_iadd hx hb dL_law_787 ?_
  refine va_sld hx hb hX hbl hbA hg.2.2.2.2.2 (zscr 2 (by decide) hi hL) dL_law_788 ?_
  refine lx_call (rest := []) (S' := (xAlike (xs (Int32.toNatClampNeg ((nI i) + 1))) (xs (Int32.toNatClampNeg ((nI i) + 2))) S).2) S0 (fun A' => c_X1_alike l D ax cx A' S (xs (Int32.toNatClampNeg ((nI i) + 1))) (xs (Int32.toNatClampNeg ((nI i) + 2)))) gL_law_X1_alike hg rfl qX1_alike ⟨Nat.le_of_ble_eq_true rfl, Nat.le_of_ble_eq_true rfl⟩ ⟨Nat.le_of_ble_eq_true rfl, Nat.le_of_ble_eq_true rfl⟩ hl.1 rfl (Nat.le_of_ble_eq_true rfl) dL_law_789 (fun H locs hg => ?_)
  refine lv_aload_n hx hb dL_law_792 rfl (lv_at hl 2 rfl) ?_
  refine lv_aload_n hx hb dL_law_793 rfl (lv_at hl 0 rfl) ?_
  refine lv_iload_n hx hb dL_law_794 rfl (lv_at hl 3 rfl) ?_
  refine lv_iconst (v := 1) hx hb dL_law_795 (by decide) ?_
  refine lv_iadd hx hb dL_law_796 ?_
  refine va_sld hx hb hX hbl hbA hg.2.2.2.2.2 (zscr 1 (by decide) hi hL) dL_law_797 ?_
  refine lv_aload_n hx hb dL_law_798 rfl (lv_at hl 0 rfl) ?_
  refine lv_iload_n hx hb dL_law_799 rfl (lv_at hl 3 rfl) ?_
  refine lv_iconst (v := 2) hx hb dL_law_800 (by decide) ?_
  refine lv_iadd hx hb dL_law_801 ?_
  refine va_sld hx hb hX hbl hbA hg.2.2.2.2.2 (zscr 2 (by decide) hi hL) dL_law_802 ?_
  obtain ⟨hag, hinv⟩ := ag_alike (xs (Int32.toNatClampNeg ((nI i) + 1))) (xs (Int32.toNatClampNeg ((nI i) + 2))) S hI
  refine lm_call (rest := [.int ((xAlike (xs (Int32.toNatClampNeg ((nI i) + 1))) (xs (Int32.toNatClampNeg ((nI i) + 2))) S).1)]) (T' := (mAlike (xs (Int32.toNatClampNeg ((nI i) + 1))) (xs (Int32.toNatClampNeg ((nI i) + 2))) (toM S)).2) S0 (fun A' => c_X2_alike l D am cm A' (toM S) (xs (Int32.toNatClampNeg ((nI i) + 1))) (xs (Int32.toNatClampNeg ((nI i) + 2)))) gL_law_X2_alike hg rfl qX2_alike ⟨Nat.le_of_ble_eq_true rfl, Nat.le_of_ble_eq_true rfl⟩ ⟨Nat.le_of_ble_eq_true rfl, Nat.le_of_ble_eq_true rfl⟩ hl.1 rfl (Nat.le_of_ble_eq_true rfl) dL_law_803 (fun H locs hg => ?_)
  refine zc_eq (tgt := 943) hx hb dL_law_806 (by decide) (fun _ => ?_) (fun q => absurd (by rw [hag]) q)
  exact k _ H locs ls hinv (by rw [hag] at hg; exact hg) (lv_sub hl [0, 1, 2, 3] rfl)
set_option maxHeartbeats 4000000 in
set_option maxRecDepth 100000 in
theorem law_case_16 {p : Program} {l : Launch} {e : Env} {s : State} {m : MethodId} {below : List Frame} {meth : Method} {c : Code} {H : Heap} {locs : List Loc} {Q : State → Prop} {ls : Array Slot} {D : va_G} {ax am : Nat → Nat} {cx cm : Nat → ClassId} {S : XS} {b L i : Nat} {xs : Nat → Int32} (hL : L ≤ 3584) (hi : i + 7 ≤ L) (S0 : CallFix p m c code 4 s #[Value.ref b] wsL_law RL) (hX : va_X b L xs s s.heap) (hbl : b < s.heap.size) (hI : Inv S) (hg : LG D ax cx am cm (fun q : Nat => s.heap.size ≤ q) s S (toM S) H locs) (hl : lv_has ls 4 [(0, .ref b), (1, .ref (ax 0)), (2, .ref (am 0)), (3, .int (nI i))])
    (k : ∀ (S' : XS) (H : Heap) (locs : List Loc) (ls : Array Slot), Inv S' → LG D ax cx am cm (fun q : Nat => s.heap.size ≤ q) s S' (toM S') H locs → lv_has ls 4 [(0, .ref b), (1, .ref (ax 0)), (2, .ref (am 0)), (3, .int (nI i))] → W p l e room_1 s m #[Value.ref b] below meth c H locs 17 227 Q (F0 m 943 ls [])) : W p l e room_1 s m #[Value.ref b] below meth c H locs 17 227 Q (F0 m 811 ls []) := by
  have hx := S0.1
  have hb := S0.2.1
  have hbA : ¬ (fun q : Nat => s.heap.size ≤ q) b := Nat.not_le.mpr hbl
  refine lv_aload_n hx hb dL_law_811 rfl (lv_at hl 1 rfl) ?_
  refine lv_aload_n hx hb dL_law_812 rfl (lv_at hl 0 rfl) ?_
  refine lv_iload_n hx hb dL_law_813 rfl (lv_at hl 3 rfl) ?_
  refine lv_iconst (v := 1) hx hb dL_law_814 (by decide) ?_
  refine lv_iadd hx hb dL_law_815 ?_
  refine va_sld hx hb hX hbl hbA hg.2.2.2.2.2 (zscr 1 (by decide) hi hL) dL_law_816 ?_
  refine lv_aload_n hx hb dL_law_817 rfl (lv_at hl 0 rfl) ?_
  refine lv_iload_n hx hb dL_law_818 rfl (lv_at hl 3 rfl) ?_
  refine lv_iconst (v := 2) hx hb dL_law_819 (by decide) ?_
  refine lv_iadd hx hb dL_law_820 ?_
  refine va_sld hx hb hX hbl hbA hg.2.2.2.2.2 (zscr 2 (by decide) hi hL) dL_law_821 ?_
  refine lv_aload_n hx hb dL_law_822 rfl (lv_at hl 0 rfl) ?_
  refine lv_iload_n hx hb dL_law_823 rfl (lv_at hl 3 rfl) ?_
  refine lv_iconst (v := 3) hx hb dL_law_824 (by decide) ?_
  refine lv_iadd hx hb dL_law_825 ?_
  refine va_sld hx hb hX hbl hbA hg.2.2.2.2.2 (zscr 3 (by decide) hi hL) dL_law_826 ?_
  refine lv_aload_n hx hb dL_law_827 rfl (lv_at hl 0 rfl) ?_
  refine lv_iload_n hx hb dL_law_828 rfl (lv_at hl 3 rfl) ?_
  refine lv_iconst (v := 4) hx hb dL_law_829 (by decide) ?_
  refine lv_iadd hx hb dL_law_830 ?_
  refine va_sld hx hb hX hbl hbA hg.2.2.2.2.2 (zscr 4 (by decide) hi hL) dL_law_831 ?_
  refine lv_aload_n hx hb dL_law_832 rfl (lv_at hl 0 rfl) ?_
  refine lv_iload_n hx hb dL_law_833 rfl (lv_at hl 3 rfl) ?_
  refine lv_iconst (v := 5) hx hb dL_law_834 (by decide) ?_
  refine lv_iadd hx hb dL_law_835 ?_
  refine va_sld hx hb hX hbl hbA hg.2.2.2.2.2 (zscr 5 (by decide) hi hL) dL_law_836 ?_
  refine lx_call (rest := []) (S' := (xStep (xs (Int32.toNatClampNeg ((nI i) + 1))) (xs (Int32.toNatClampNeg ((nI i) + 2))) (xs (Int32.toNatClampNeg ((nI i) + 3))) (xs (Int32.toNatClampNeg ((nI i) + 4))) (xs (Int32.toNatClampNeg ((nI i) + 5))) S).2) S0 (fun A' => c_X1_step l D ax cx A' S (xs (Int32.toNatClampNeg ((nI i) + 1))) (xs (Int32.toNatClampNeg ((nI i) + 2))) (xs (Int32.toNatClampNeg ((nI i) + 3))) (xs (Int32.toNatClampNeg ((nI i) + 4))) (xs (Int32.toNatClampNeg ((nI i) + 5)))) gL_law_X1_step hg rfl qX1_step ⟨Nat.le_of_ble_eq_true rfl, Nat.le_of_ble_eq_true rfl⟩ ⟨Nat.le_of_ble_eq_true rfl, Nat.le_of_ble_eq_true rfl⟩ hl.1 rfl (Nat.le_of_ble_eq_true rfl) dL_law_837 (fun H locs hg => ?_)
  refine lv_aload_n hx hb dL_law_840 rfl (lv_at hl 2 rfl) ?_
  refine lv_aload_n hx hb dL_law_841 rfl (lv_at hl 0 rfl) ?_
  refine lv_iload_n hx hb dL_law_842 rfl (lv_at hl 3 rfl) ?_
  refine lv_iconst (v := 1) hx hb dL_law_843 (by decide) ?_
  refine lv_iadd hx hb dL_law_844 ?_
  refine va_sld hx hb hX hbl hbA hg.2.2.2.2.2 (zscr 1 (by decide) hi hL) dL_law_845 ?_
  refine lv_aload_n hx hb dL_law_846 rfl (lv_at hl 0 rfl) ?_
  refine lv_iload_n hx hb dL_law_847 rfl (lv_at hl 3 rfl) ?_
  refine lv_iconst (v := 2) hx hb dL_law_848 (by decide) ?_
  refine lv_iadd hx hb dL_law_849 ?_
  refine va_sld hx hb hX hbl hbA hg.2.2.2.2.2 (zscr 2 (by decide) hi hL) dL_law_850 ?_
  refine lv_aload_n hx hb dL_law_851 rfl (lv_at hl 0 rfl) ?_
  refine lv_iload_n hx hb dL_law_852 rfl (lv_at hl 3 rfl) ?_
  refine lv_iconst (v := 3) hx hb dL_law_853 (by decide) ?_
  refine lv_iadd hx hb dL_law_854 ?_
  refine va_sld hx hb hX hbl hbA hg.2.2.2.2.2 (zscr 3 (by decide) hi hL) dL_law_855 ?_
  refine lv_aload_n hx hb dL_law_856 rfl (lv_at hl 0 rfl) ?_
  refine lv_iload_n hx hb dL_law_857 rfl (lv_at hl 3 rfl) ?_
  refine lv_iconst (v := 4) hx hb dL_law_858 (by decide) ?_
  refine lv_iadd hx hb dL_law_859 ?_
  refine va_sld hx hb hX hbl hbA hg.2.2.2.2.2 (zscr 4 (by decide) hi hL) dL_law_860 ?_
  refine lv_aload_n hx hb dL_law_861 rfl (lv_at hl 0 rfl) ?_
  refine lv_iload_n hx hb dL_law_862 rfl (lv_at hl 3 rfl) ?_
  refine lv_iconst (v := 5) hx hb dL_law_863 (by decide) ?_
  refine lv_iadd hx hb dL_law_864 ?_
  refine va_sld hx hb hX hbl hbA hg.2.2.2.2.2 (zscr 5 (by decide) hi hL) dL_law_865 ?_
  obtain ⟨hag, hinv⟩ := ag_step (xs (Int32.toNatClampNeg ((nI i) + 1))) (xs (Int32.toNatClampNeg ((nI i) + 2))) (xs (Int32.toNatClampNeg ((nI i) + 3))) (xs (Int32.toNatClampNeg ((nI i) + 4))) (xs (Int32.toNatClampNeg ((nI i) + 5))) S hI
  refine lm_call (rest := [.int ((xStep (xs (Int32.toNatClampNeg ((nI i) + 1))) (xs (Int32.toNatClampNeg ((nI i) + 2))) (xs (Int32.toNatClampNeg ((nI i) + 3))) (xs (Int32.toNatClampNeg ((nI i) + 4))) (xs (Int32.toNatClampNeg ((nI i) + 5))) S).1)]) (T' := (mStep (xs (Int32.toNatClampNeg ((nI i) + 1))) (xs (Int32.toNatClampNeg ((nI i) + 2))) (xs (Int32.toNatClampNeg ((nI i) + 3))) (xs (Int32.toNatClampNeg ((nI i) + 4))) (xs (Int32.toNatClampNeg ((nI i) + 5))) (toM S)).2) S0 (fun A' => c_X2_step l D am cm A' (toM S) (xs (Int32.toNatClampNeg ((nI i) + 1))) (xs (Int32.toNatClampNeg ((nI i) + 2))) (xs (Int32.toNatClampNeg ((nI i) + 3))) (xs (Int32.toNatClampNeg ((nI i) + 4))) (xs (Int32.toNatClampNeg ((nI i) + 5)))) gL_law_X2_step hg rfl qX2_step ⟨Nat.le_of_ble_eq_true rfl, Nat.le_of_ble_eq_true rfl⟩ ⟨Nat.le_of_ble_eq_true rfl, Nat.le_of_ble_eq_true rfl⟩ hl.1 rfl (Nat.le_of_ble_eq_true rfl) dL_law_866 (fun H locs hg => ?_)
  refine zc_eq (tgt := 943) hx hb dL_law_869 (by decide) (fun _ => ?_) (fun q => absurd (by rw [hag]) q)
  exact k _ H locs ls hinv (by rw [hag] at hg; exact hg) (lv_sub hl [0, 1, 2, 3] rfl)
set_option maxHeartbeats 4000000 in
set_option maxRecDepth 100000 in
theorem law_case_17 {p : Program} {l : Launch} {e : Env} {s : State} {m : MethodId} {below : List Frame} {meth : Method} {c : Code} {H : Heap} {locs : List Loc} {Q : State → Prop} {ls : Array Slot} {D : va_G} {ax am : Nat → Nat} {cx cm : Nat → ClassId} {S : XS} {b L i : Nat} {xs : Nat → Int32} (hL : L ≤ 3584) (hi : i + 7 ≤ L) (S0 : CallFix p m c code 4 s #[Value.ref b] wsL_law RL) (hX : va_X b L xs s s.heap) (hbl : b < s.heap.size) (hI : Inv S) (hg : LG D ax cx am cm (fun q : Nat => s.heap.size ≤ q) s S (toM S) H locs) (hl : lv_has ls 4 [(0, .ref b), (1, .ref (ax 0)), (2, .ref (am 0)), (3, .int (nI i))])
    (k : ∀ (S' : XS) (H : Heap) (locs : List Loc) (ls : Array Slot), Inv S' → LG D ax cx am cm (fun q : Nat => s.heap.size ≤ q) s S' (toM S') H locs → lv_has ls 4 [(0, .ref b), (1, .ref (ax 0)), (2, .ref (am 0)), (3, .int (nI i))] → W p l e room_1 s m #[Value.ref b] below meth c H locs 17 227 Q (F0 m 943 ls [])) : W p l e room_1 s m #[Value.ref b] below meth c H locs 17 227 Q (F0 m 874 ls []) := by
  have hx := S0.1
  have hb := S0.2.1
  have hbA : ¬ (fun q : Nat => s.heap.size ≤ q) b := Nat.not_le.mpr hbl
  refine lv_aload_n hx hb dL_law_874 rfl (lv_at hl 1 rfl) ?_
  refine lv_aload_n hx hb dL_law_875 rfl (lv_at hl 0 rfl) ?_
  refine lv_iload_n hx hb dL_law_876 rfl (lv_at hl 3 rfl) ?_
  refine lv_iconst (v := 1) hx hb dL_law_877 (by decide) ?_
  refine lv_iadd hx hb dL_law_878 ?_
  refine va_sld hx hb hX hbl hbA hg.2.2.2.2.2 (zscr 1 (by decide) hi hL) dL_law_879 ?_
  refine lv_aload_n hx hb dL_law_880 rfl (lv_at hl 0 rfl) ?_
  refine lv_iload_n hx hb dL_law_881 rfl (lv_at hl 3 rfl) ?_
  refine lv_iconst (v := 2) hx hb dL_law_882 (by decide) ?_
  refine lv_iadd hx hb dL_law_883 ?_
  refine va_sld hx hb hX hbl hbA hg.2.2.2.2.2 (zscr 2 (by decide) hi hL) dL_law_884 ?_
  refine lx_call (rest := []) (S' := (xRun (xs (Int32.toNatClampNeg ((nI i) + 1))) (xs (Int32.toNatClampNeg ((nI i) + 2))) S).2) S0 (fun A' => c_X1_run l D ax cx A' S (xs (Int32.toNatClampNeg ((nI i) + 1))) (xs (Int32.toNatClampNeg ((nI i) + 2)))) gL_law_X1_run hg rfl qX1_run ⟨Nat.le_of_ble_eq_true rfl, Nat.le_of_ble_eq_true rfl⟩ ⟨Nat.le_of_ble_eq_true rfl, Nat.le_of_ble_eq_true rfl⟩ hl.1 rfl (Nat.le_of_ble_eq_true rfl) dL_law_885 (fun H locs hg => ?_)
  refine lv_aload_n hx hb dL_law_888 rfl (lv_at hl 2 rfl) ?_
  refine lv_aload_n hx hb dL_law_889 rfl (lv_at hl 0 rfl) ?_
  refine lv_iload_n hx hb dL_law_890 rfl (lv_at hl 3 rfl) ?_
  refine lv_iconst (v := 1) hx hb dL_law_891 (by decide) ?_
  refine lv_iadd hx hb dL_law_892 ?_
  refine va_sld hx hb hX hbl hbA hg.2.2.2.2.2 (zscr 1 (by decide) hi hL) dL_law_893 ?_
  refine lv_aload_n hx hb dL_law_894 rfl (lv_at hl 0 rfl) ?_
  refine lv_iload_n hx hb dL_law_895 rfl (lv_at hl 3 rfl) ?_
  refine lv_iconst (v := 2) hx hb dL_law_896 (by decide) ?_
  refine lv_iadd hx hb dL_law_897 ?_
  refine va_sld hx hb hX hbl hbA hg.2.2.2.2.2 (zscr 2 (by decide) hi hL) dL_law_898 ?_
  obtain ⟨hag, hinv⟩ := ag_run (xs (Int32.toNatClampNeg ((nI i) + 1))) (xs (Int32.toNatClampNeg ((nI i) + 2))) S hI
  refine lm_call (rest := [.int ((xRun (xs (Int32.toNatClampNeg ((nI i) + 1))) (xs (Int32.toNatClampNeg ((nI i) + 2))) S).1)]) (T' := (mRun (xs (Int32.toNatClampNeg ((nI i) + 1))) (xs (Int32.toNatClampNeg ((nI i) + 2))) (toM S)).2) S0 (fun A' => c_X2_run l D am cm A' (toM S) (xs (Int32.toNatClampNeg ((nI i) + 1))) (xs (Int32.toNatClampNeg ((nI i) + 2))) (fun T => ∃ S1, Inv S1 ∧ T = toM S1) ⟨xCalm S, inv_calm hI, rfl⟩ run_ask run_nx) gL_law_X2_run hg rfl qX2_run ⟨Nat.le_of_ble_eq_true rfl, Nat.le_of_ble_eq_true rfl⟩ ⟨Nat.le_of_ble_eq_true rfl, Nat.le_of_ble_eq_true rfl⟩ hl.1 rfl (Nat.le_of_ble_eq_true rfl) dL_law_899 (fun H locs hg => ?_)
  refine zc_eq (tgt := 943) hx hb dL_law_902 (by decide) (fun _ => ?_) (fun q => absurd (by rw [hag]) q)
  exact k _ H locs ls hinv (by rw [hag] at hg; exact hg) (lv_sub hl [0, 1, 2, 3] rfl)
set_option maxHeartbeats 4000000 in
set_option maxRecDepth 100000 in
theorem law_case_18 {p : Program} {l : Launch} {e : Env} {s : State} {m : MethodId} {below : List Frame} {meth : Method} {c : Code} {H : Heap} {locs : List Loc} {Q : State → Prop} {ls : Array Slot} {D : va_G} {ax am : Nat → Nat} {cx cm : Nat → ClassId} {S : XS} {b L i : Nat} {xs : Nat → Int32} (hL : L ≤ 3584) (hi : i + 7 ≤ L) (S0 : CallFix p m c code 4 s #[Value.ref b] wsL_law RL) (hX : va_X b L xs s s.heap) (hbl : b < s.heap.size) (hI : Inv S) (hg : LG D ax cx am cm (fun q : Nat => s.heap.size ≤ q) s S (toM S) H locs) (hl : lv_has ls 4 [(0, .ref b), (1, .ref (ax 0)), (2, .ref (am 0)), (3, .int (nI i))])
    (k : ∀ (S' : XS) (H : Heap) (locs : List Loc) (ls : Array Slot), Inv S' → LG D ax cx am cm (fun q : Nat => s.heap.size ≤ q) s S' (toM S') H locs → lv_has ls 4 [(0, .ref b), (1, .ref (ax 0)), (2, .ref (am 0)), (3, .int (nI i))] → W p l e room_1 s m #[Value.ref b] below meth c H locs 17 227 Q (F0 m 943 ls [])) : W p l e room_1 s m #[Value.ref b] below meth c H locs 17 227 Q (F0 m 907 ls []) := by
  have hx := S0.1
  have hb := S0.2.1
  have hbA : ¬ (fun q : Nat => s.heap.size ≤ q) b := Nat.not_le.mpr hbl
  refine lv_aload_n hx hb dL_law_907 rfl (lv_at hl 1 rfl) ?_
  refine lx_call (rest := []) (S' := S) S0 (fun A' => c_X1_state l D ax cx A' S ) gL_law_X1_state hg rfl qX1_state ⟨Nat.le_of_ble_eq_true rfl, Nat.le_of_ble_eq_true rfl⟩ ⟨Nat.le_of_ble_eq_true rfl, Nat.le_of_ble_eq_true rfl⟩ hl.1 rfl (Nat.le_of_ble_eq_true rfl) dL_law_908 (fun H locs hg => ?_)
  refine lv_aload_n hx hb dL_law_911 rfl (lv_at hl 2 rfl) ?_
  have hag := ag_state S
  have hinv := hI
  refine lm_call (rest := [.int (xst S)]) (T' := (toM S)) S0 (fun A' => c_X2_state l D am cm A' (toM S)) gL_law_X2_state hg rfl qX2_state ⟨Nat.le_of_ble_eq_true rfl, Nat.le_of_ble_eq_true rfl⟩ ⟨Nat.le_of_ble_eq_true rfl, Nat.le_of_ble_eq_true rfl⟩ hl.1 rfl (Nat.le_of_ble_eq_true rfl) dL_law_912 (fun H locs hg => ?_)
  refine zc_eq (tgt := 943) hx hb dL_law_915 (by decide) (fun _ => ?_) (fun q => absurd (by rw [hag]) q)
  exact k _ H locs ls hinv hg (lv_sub hl [0, 1, 2, 3] rfl)
set_option maxHeartbeats 4000000 in
set_option maxRecDepth 100000 in
theorem law_case_19 {p : Program} {l : Launch} {e : Env} {s : State} {m : MethodId} {below : List Frame} {meth : Method} {c : Code} {H : Heap} {locs : List Loc} {Q : State → Prop} {ls : Array Slot} {D : va_G} {ax am : Nat → Nat} {cx cm : Nat → ClassId} {S : XS} {b L i : Nat} {xs : Nat → Int32} (hL : L ≤ 3584) (hi : i + 7 ≤ L) (S0 : CallFix p m c code 4 s #[Value.ref b] wsL_law RL) (hX : va_X b L xs s s.heap) (hbl : b < s.heap.size) (hI : Inv S) (hg : LG D ax cx am cm (fun q : Nat => s.heap.size ≤ q) s S (toM S) H locs) (hl : lv_has ls 4 [(0, .ref b), (1, .ref (ax 0)), (2, .ref (am 0)), (3, .int (nI i))])
    (k : ∀ (S' : XS) (H : Heap) (locs : List Loc) (ls : Array Slot), Inv S' → LG D ax cx am cm (fun q : Nat => s.heap.size ≤ q) s S' (toM S') H locs → lv_has ls 4 [(0, .ref b), (1, .ref (ax 0)), (2, .ref (am 0)), (3, .int (nI i))] → W p l e room_1 s m #[Value.ref b] below meth c H locs 17 227 Q (F0 m 943 ls [])) : W p l e room_1 s m #[Value.ref b] below meth c H locs 17 227 Q (F0 m 920 ls []) := by
  have hx := S0.1
  have hb := S0.2.1
  have hbA : ¬ (fun q : Nat => s.heap.size ≤ q) b := Nat.not_le.mpr hbl
  refine lv_aload_n hx hb dL_law_920 rfl (lv_at hl 1 rfl) ?_
  refine lv_aload_n hx hb dL_law_921 rfl (lv_at hl 0 rfl) ?_
  refine lv_iload_n hx hb dL_law_922 rfl (lv_at hl 3 rfl) ?_
  refine lv_iconst (v := 1) hx hb dL_law_923 (by decide) ?_
  refine lv_iadd hx hb dL_law_924 ?_
  refine va_sld hx hb hX hbl hbA hg.2.2.2.2.2 (zscr 1 (by decide) hi hL) dL_law_925 ?_
  refine lx_call (rest := []) (S' := S) S0 (fun A' => c_X1_about l D ax cx A' S (xs (Int32.toNatClampNeg ((nI i) + 1)))) gL_law_X1_about hg rfl qX1_about ⟨Nat.le_of_ble_eq_true rfl, Nat.le_of_ble_eq_true rfl⟩ ⟨Nat.le_of_ble_eq_true rfl, Nat.le_of_ble_eq_true rfl⟩ hl.1 rfl (Nat.le_of_ble_eq_true rfl) dL_law_926 (fun H locs hg => ?_)
  refine lv_aload_n hx hb dL_law_929 rfl (lv_at hl 2 rfl) ?_
  refine lv_aload_n hx hb dL_law_930 rfl (lv_at hl 0 rfl) ?_
  refine lv_iload_n hx hb dL_law_931 rfl (lv_at hl 3 rfl) ?_
  refine lv_iconst (v := 1) hx hb dL_law_932 (by decide) ?_
  refine lv_iadd hx hb dL_law_933 ?_
  refine va_sld hx hb hX hbl hbA hg.2.2.2.2.2 (zscr 1 (by decide) hi hL) dL_law_934 ?_
  have hag := ag_about (xs (Int32.toNatClampNeg ((nI i) + 1))) S
  have hinv := hI
  refine lm_call (rest := [.int (xAbout (xs (Int32.toNatClampNeg ((nI i) + 1))) S)]) (T' := (toM S)) S0 (fun A' => c_X2_about l D am cm A' (toM S) (xs (Int32.toNatClampNeg ((nI i) + 1)))) gL_law_X2_about hg rfl qX2_about ⟨Nat.le_of_ble_eq_true rfl, Nat.le_of_ble_eq_true rfl⟩ ⟨Nat.le_of_ble_eq_true rfl, Nat.le_of_ble_eq_true rfl⟩ hl.1 rfl (Nat.le_of_ble_eq_true rfl) dL_law_935 (fun H locs hg => ?_)
  refine zc_eq (tgt := 943) hx hb dL_law_938 (by decide) (fun _ => ?_) (fun q => absurd (by rw [hag]) q)
  exact k _ H locs ls hinv hg (lv_sub hl [0, 1, 2, 3] rfl)
