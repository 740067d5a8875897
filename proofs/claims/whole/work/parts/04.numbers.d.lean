theorem PS.ofF {l : Launch} {y : MethodName} {ws ws' : List Cond} {fr lo : Nat} {As : List Value} {r : Value} {cc : ByteArray} {maxL : Nat} {ret : Option FieldType} {own : String} (hy : plainFor y = true) (hw : ws = .code y cc maxL ret :: ws') (ho : y.cls = own) (hs : (lg_sl As).length ≤ maxL)
    (body : ∀ (p : Program) (e : Env) (s : State) (m : MethodId) (below : List Frame) (meth : Method) (c : Code) (ls : Array Slot), CallFix p m c cc maxL s As.toArray ws own → meth.sig.returnType = ret → meth.locks = false → lv_has ls maxL (lv_args 0 As) →
      W p l e { frames := fr, cells := 0, slots := 0, locals := lo } s m As.toArray below meth c s.heap [] 0 0 (MQ below (k2_QcV r) As.toArray s 0 0 (fun _ => False)) (F0 m 0 ls [])) : PS l y ws fr lo As r := by
  subst ho
  refine va_MetF (cc := cc) (maxL := maxL) (ret := ret) hy hw ?_
  intro p e s m args below meth c s₁ B hml hv
  have hv : args = As.toArray := hv
  subst hv
  have hl := lv_entry As (n := maxL) hs
  rw [lg_entry_eq]
  exact body p e s m below meth c _ ⟨B.exec, B.bytes, hml, findClass_of_methodNamed B.named, atoms_spec (ws := ws) B.pre⟩ B.returns B.notSynchronized hl
theorem zthree {f : Int32} (h : zSort f) (h2 : kBroken f) (h3 : ¬ f = 2) : f = 3 := by
  obtain ⟨a, b⟩ := h
  simp only [kBroken, Int32.lt_iff_toInt_lt, ← Int32.toInt_inj] at a b h2 h3 ⊢
  simp at a b h2 h3 ⊢
  omega
theorem qX2_whole : yX2_whole.cls ≠ "java/lang/invoke/MethodHandle" ∧ yX2_whole.cls ≠ "java/lang/invoke/VarHandle" ∧ (parseMethodDescriptor yX2_whole.desc).map (fun d => d.parameters.length) = some 3 := by decide +kernel
set_option maxHeartbeats 4000000 in
set_option maxRecDepth 100000 in
theorem c_X2_whole (l : Launch) (t : Int32) (v : Int64) (how : Int32) : PS l yX2_whole wsX2_whole 1 23 [.int t, .long v, .int how] (.long (kWhole t v how)) := by
  refine PS.of (cc := cX2_whole) (maxL := 17) (ret := some .long) (own := RX2) (by decide) rfl rfl (Nat.le_of_ble_eq_true rfl) ?_
  intro p e s m below meth c ls S hr hlk hl
  have hx := S.1
  have hb := S.2.1
  have hl : lv_has ls 17 [(0, .int t), (1, .long v), (3, .int how)] := hl
  refine zj1 (α := Int32) 17 (fun x => [(0, .int t), (1, .long v), (3, .int how)]) 12 (fun x => [.int x]) (nFrac t) (fun ls hl => ?_) (fun J_12 => ?_)
  · have hl : lv_has ls 17 [(0, .int t), (1, .long v), (3, .int how)] := hl
    refine W.eq (g2 := F0 m 12 ls [.int (nFrac t)]) rfl ?_
    refine lv_istore (lv' := [(4, .int (nFrac t)), (0, .int t), (1, .long v), (3, .int how)]) hx hb dX2_whole_12 hl (by decide) rfl (fun ls hl => ?_)
    refine zj1 (α := Int32) 17 (fun x => [(4, .int (nFrac t)), (0, .int t), (1, .long v), (3, .int how)]) 27 (fun x => [.int x]) (nBias t) (fun ls hl => ?_) (fun J_27 => ?_)
    · have hl : lv_has ls 17 [(4, .int (nFrac t)), (0, .int t), (1, .long v), (3, .int how)] := hl
      refine W.eq (g2 := F0 m 27 ls [.int (nBias t)]) rfl ?_
      refine lv_istore (lv' := [(5, .int (nBias t)), (4, .int (nFrac t)), (0, .int t), (1, .long v), (3, .int how)]) hx hb dX2_whole_27 hl (by decide) rfl (fun ls hl => ?_)
      refine lv_iload_n hx hb dX2_whole_29 rfl (lv_at hl 2 rfl) ?_
      refine lv_lload_n hx hb dX2_whole_30 rfl (lv_at hl 3 rfl) ?_
      refine ps_call (rest := []) S (c_X2_magnitude l t v) gX2_whole_X2_magnitude rfl qX2_magnitude ⟨Nat.le_of_ble_eq_true rfl, Nat.le_of_ble_eq_true rfl⟩ ⟨Nat.le_of_ble_eq_true rfl, Nat.le_of_ble_eq_true rfl⟩ hl.1 rfl (Nat.le_of_ble_eq_true rfl) dX2_whole_31 ?_
      refine lv_lstore (lv' := [(6, .long (kMag t v)), (5, .int (nBias t)), (4, .int (nFrac t)), (0, .int t), (1, .long v), (3, .int how)]) hx hb dX2_whole_34 hl (by decide) rfl (fun ls hl => ?_)
      refine zj1 (α := Int32) 17 (fun x => [(6, .long (kMag t v)), (5, .int (nBias t)), (4, .int (nFrac t)), (0, .int t), (1, .long v), (3, .int how)]) 47 (fun x => [.int x]) (if v < 0 then 1 else 0) (fun ls hl => ?_) (fun J_47 => ?_)
      · have hl : lv_has ls 17 [(6, .long (kMag t v)), (5, .int (nBias t)), (4, .int (nFrac t)), (0, .int t), (1, .long v), (3, .int how)] := hl
        refine W.eq (g2 := F0 m 47 ls [.int (if v < 0 then 1 else 0)]) rfl ?_
        refine lv_istore (lv' := [(8, .int (if v < 0 then 1 else 0)), (6, .long (kMag t v)), (5, .int (nBias t)), (4, .int (nFrac t)), (0, .int t), (1, .long v), (3, .int how)]) hx hb dX2_whole_47 hl (by decide) rfl (fun ls hl => ?_)
        refine lv_lload hx hb dX2_whole_49 (lv_at hl 1 rfl) ?_
        refine lv_iload hx hb dX2_whole_51 (lv_at hl 3 rfl) ?_
        refine lv_lshr (v := jshr (kMag t v) (nFrac t)) hx hb dX2_whole_53 rfl ?_
        refine lv_l2i (v := Int64.toInt32 (jshr (kMag t v) (nFrac t))) hx hb dX2_whole_54 rfl ?_
        refine lv_iload hx hb dX2_whole_55 (lv_at hl 2 rfl) ?_
        refine lv_isub hx hb dX2_whole_57 ?_
        refine lv_istore (lv' := [(9, .int ((Int64.toInt32 (jshr (kMag t v) (nFrac t))) - (nBias t))), (8, .int (if v < 0 then 1 else 0)), (6, .long (kMag t v)), (5, .int (nBias t)), (4, .int (nFrac t)), (0, .int t), (1, .long v), (3, .int how)]) hx hb dX2_whole_58 hl (by decide) rfl (fun ls hl => ?_)
        have hl : lv_has ls 17 [(9, .int (kPow t (kMag t v))), (8, .int (if v < 0 then 1 else 0)), (6, .long (kMag t v)), (5, .int (nBias t)), (4, .int (nFrac t)), (0, .int t), (1, .long v), (3, .int how)] := hl
        refine lv_iload hx hb dX2_whole_60 (lv_at hl 0 rfl) ?_
        refine lv_iload hx hb dX2_whole_62 (lv_at hl 4 rfl) ?_
        refine zc_ge (tgt := 74) hx hb dX2_whole_64 (by decide) (fun c_1 => ?_) (fun c_1 => ?_)
        · refine lv_lload_n hx hb dX2_whole_74 rfl (lv_at hl 6 rfl) ?_
          exact ps_lret S hr hlk dX2_whole_75 (by first | (simp [kWhole, eq_false c_1]; done) | (simp [kWhole, c_1]; done) | contradiction | rfl)
        · refine lv_lload hx hb dX2_whole_67 (lv_at hl 2 rfl) ?_
          refine lv_lconst (v := 0) hx hb dX2_whole_69 (by decide) ?_
          refine zl_ne (tgt := 76) hx hb dX2_whole_70 dX2_whole_71 (by decide) (fun c_2 => ?_) (fun c_2 => ?_)
          · refine zj1 (α := Int32) 17 (fun x => [(9, .int (kPow t (kMag t v))), (8, .int (if v < 0 then 1 else 0)), (6, .long (kMag t v)), (5, .int (nBias t)), (4, .int (nFrac t)), (0, .int t), (1, .long v), (3, .int how)]) 100 (fun x => [.int x]) (if kMore v how then 1 else 0) (fun ls hl => ?_) (fun J_100 => ?_)
            · have hl : lv_has ls 17 [(9, .int (kPow t (kMag t v))), (8, .int (if v < 0 then 1 else 0)), (6, .long (kMag t v)), (5, .int (nBias t)), (4, .int (nFrac t)), (0, .int t), (1, .long v), (3, .int how)] := hl
              refine W.eq (g2 := F0 m 100 ls [.int (if kMore v how then 1 else 0)]) rfl ?_
              refine lv_istore (lv' := [(10, .int (if kMore v how then 1 else 0)), (9, .int (kPow t (kMag t v))), (8, .int (if v < 0 then 1 else 0)), (6, .long (kMag t v)), (5, .int (nBias t)), (4, .int (nFrac t)), (0, .int t), (1, .long v), (3, .int how)]) hx hb dX2_whole_100 hl (by decide) rfl (fun ls hl => ?_)
              refine lv_iload hx hb dX2_whole_102 (lv_at hl 1 rfl) ?_
              refine zi_ge (tgt := 153) hx hb dX2_whole_104 (by decide) (fun c_3 => ?_) (fun c_3 => ?_)
              · refine lv_lconst (v := 1) hx hb dX2_whole_153 (by decide) ?_
                refine lv_iload hx hb dX2_whole_154 (lv_at hl 5 rfl) ?_
                refine lv_iload hx hb dX2_whole_156 (lv_at hl 1 rfl) ?_
                refine lv_isub hx hb dX2_whole_158 ?_
                refine lv_lshl (v := jshl 1 ((nFrac t) - (kPow t (kMag t v)))) hx hb dX2_whole_159 rfl ?_
                refine lv_lstore (lv' := [(11, .long (jshl 1 ((nFrac t) - (kPow t (kMag t v))))), (10, .int (if kMore v how then 1 else 0)), (9, .int (kPow t (kMag t v))), (8, .int (if v < 0 then 1 else 0)), (6, .long (kMag t v)), (5, .int (nBias t)), (4, .int (nFrac t)), (0, .int t), (1, .long v), (3, .int how)]) hx hb dX2_whole_160 hl (by decide) rfl (fun ls hl => ?_)
                have hl : lv_has ls 17 [(11, .long (kUnit t (kMag t v))), (10, .int (if kMore v how then 1 else 0)), (9, .int (kPow t (kMag t v))), (8, .int (if v < 0 then 1 else 0)), (6, .long (kMag t v)), (5, .int (nBias t)), (4, .int (nFrac t)), (0, .int t), (1, .long v), (3, .int how)] := hl
                refine lv_lload hx hb dX2_whole_162 (lv_at hl 4 rfl) ?_
                refine lv_lload hx hb dX2_whole_164 (lv_at hl 0 rfl) ?_
                refine lv_lconst (v := 1) hx hb dX2_whole_166 (by decide) ?_
                refine lv_lsub hx hb dX2_whole_167 ?_
                refine lv_land hx hb dX2_whole_168 ?_
                refine lv_lstore (lv' := [(13, .long ((kMag t v) &&& ((kUnit t (kMag t v)) - 1))), (11, .long (kUnit t (kMag t v))), (10, .int (if kMore v how then 1 else 0)), (9, .int (kPow t (kMag t v))), (8, .int (if v < 0 then 1 else 0)), (6, .long (kMag t v)), (5, .int (nBias t)), (4, .int (nFrac t)), (0, .int t), (1, .long v), (3, .int how)]) hx hb dX2_whole_169 hl (by decide) rfl (fun ls hl => ?_)
                have hl : lv_has ls 17 [(13, .long (kRest t (kMag t v))), (11, .long (kUnit t (kMag t v))), (10, .int (if kMore v how then 1 else 0)), (9, .int (kPow t (kMag t v))), (8, .int (if v < 0 then 1 else 0)), (6, .long (kMag t v)), (5, .int (nBias t)), (4, .int (nFrac t)), (0, .int t), (1, .long v), (3, .int how)] := hl
                refine lv_lload hx hb dX2_whole_171 (lv_at hl 5 rfl) ?_
                refine lv_lload hx hb dX2_whole_173 (lv_at hl 0 rfl) ?_
                refine lv_lsub hx hb dX2_whole_175 ?_
                refine lv_lstore (lv' := [(15, .long ((kMag t v) - (kRest t (kMag t v)))), (13, .long (kRest t (kMag t v))), (11, .long (kUnit t (kMag t v))), (10, .int (if kMore v how then 1 else 0)), (9, .int (kPow t (kMag t v))), (8, .int (if v < 0 then 1 else 0)), (6, .long (kMag t v)), (5, .int (nBias t)), (4, .int (nFrac t)), (0, .int t), (1, .long v), (3, .int how)]) hx hb dX2_whole_176 hl (by decide) rfl (fun ls hl => ?_)
                refine lv_lload hx hb dX2_whole_178 (lv_at hl 1 rfl) ?_
                refine lv_lconst (v := 0) hx hb dX2_whole_180 (by decide) ?_
                refine zl_ne (tgt := 187) hx hb dX2_whole_181 dX2_whole_182 (by decide) (fun c_4 => ?_) (fun c_4 => ?_)
                · refine zj1 (α := Int32) 17 (fun x => [(10, .int x), (15, .long ((kMag t v) - (kRest t (kMag t v)))), (13, .long (kRest t (kMag t v))), (11, .long (kUnit t (kMag t v))), (9, .int (kPow t (kMag t v))), (8, .int (if v < 0 then 1 else 0)), (6, .long (kMag t v)), (5, .int (nBias t)), (4, .int (nFrac t)), (0, .int t), (1, .long v), (3, .int how)]) 233 (fun x => []) (if kMoreL t v (kMag t v) how then 1 else 0) (fun ls hl => ?_) (fun J_233 => ?_)
                  · have hl : lv_has ls 17 [(10, .int (if kMoreL t v (kMag t v) how then 1 else 0)), (15, .long ((kMag t v) - (kRest t (kMag t v)))), (13, .long (kRest t (kMag t v))), (11, .long (kUnit t (kMag t v))), (9, .int (kPow t (kMag t v))), (8, .int (if v < 0 then 1 else 0)), (6, .long (kMag t v)), (5, .int (nBias t)), (4, .int (nFrac t)), (0, .int t), (1, .long v), (3, .int how)] := hl
                    refine W.eq (g2 := F0 m 233 ls []) rfl ?_
                    refine lv_iload_n hx hb dX2_whole_233 rfl (lv_at hl 9 rfl) ?_
                    refine zj1 (α := Int64) 17 (fun x => [(10, .int (if kMoreL t v (kMag t v) how then 1 else 0)), (15, .long ((kMag t v) - (kRest t (kMag t v)))), (13, .long (kRest t (kMag t v))), (11, .long (kUnit t (kMag t v))), (9, .int (kPow t (kMag t v))), (8, .int (if v < 0 then 1 else 0)), (6, .long (kMag t v)), (5, .int (nBias t)), (4, .int (nFrac t)), (0, .int t), (1, .long v), (3, .int how)]) 249 (fun x => [.long x, .int t]) (if kMoreL t v (kMag t v) how then (kMag t v) - kRest t (kMag t v) + kUnit t (kMag t v) else (kMag t v) - kRest t (kMag t v)) (fun ls hl => ?_) (fun J_249 => ?_)
                    · have hl : lv_has ls 17 [(10, .int (if kMoreL t v (kMag t v) how then 1 else 0)), (15, .long ((kMag t v) - (kRest t (kMag t v)))), (13, .long (kRest t (kMag t v))), (11, .long (kUnit t (kMag t v))), (9, .int (kPow t (kMag t v))), (8, .int (if v < 0 then 1 else 0)), (6, .long (kMag t v)), (5, .int (nBias t)), (4, .int (nFrac t)), (0, .int t), (1, .long v), (3, .int how)] := hl
                      refine W.eq (g2 := F0 m 249 ls [.long (if kMoreL t v (kMag t v) how then (kMag t v) - kRest t (kMag t v) + kUnit t (kMag t v) else (kMag t v) - kRest t (kMag t v)), .int t]) rfl ?_
                      refine lv_iload hx hb dX2_whole_249 (lv_at hl 5 rfl) ?_
                      refine ps_call (rest := []) S (c_X2_signed l t (if kMoreL t v (kMag t v) how then (kMag t v) - kRest t (kMag t v) + kUnit t (kMag t v) else (kMag t v) - kRest t (kMag t v)) (if v < 0 then 1 else 0)) gX2_whole_X2_signed rfl qX2_signed ⟨Nat.le_of_ble_eq_true rfl, Nat.le_of_ble_eq_true rfl⟩ ⟨Nat.le_of_ble_eq_true rfl, Nat.le_of_ble_eq_true rfl⟩ hl.1 rfl (Nat.le_of_ble_eq_true rfl) dX2_whole_251 ?_
                      exact ps_lret S hr hlk dX2_whole_254 (by first | (simp [kWhole, eq_true c_1, eq_false c_2, eq_false c_3, eq_false c_4]; done) | (simp [kWhole, c_1, c_2, c_3, c_4]; done) | contradiction | rfl)
                    · skip
                      refine lv_iload hx hb dX2_whole_234 (lv_at hl 0 rfl) ?_
                      refine zb_eq (P := kMoreL t v (kMag t v) how) (tgt := 247) hx hb dX2_whole_236 (by decide) (fun c_5 => ?_) (fun c_5 => ?_)
                      · refine lv_lload hx hb dX2_whole_247 (lv_at hl 1 rfl) ?_
                        exact J_249 ls ((kMag t v) - (kRest t (kMag t v))) (by first | (simp [eq_true c_1, eq_false c_2, eq_false c_3, eq_false c_4, eq_false c_5]; done) | (simp [c_1, c_2, c_3, c_4, c_5]; done) | contradiction | rfl) (lv_sub hl [0, 1, 2, 3, 4, 5, 6, 7, 8, 9, 10, 11] rfl)
                      · refine lv_lload hx hb dX2_whole_239 (lv_at hl 1 rfl) ?_
                        refine lv_lload hx hb dX2_whole_241 (lv_at hl 3 rfl) ?_
                        refine lv_ladd hx hb dX2_whole_243 ?_
                        refine lv_goto (tgt := 249) hx hb dX2_whole_244 (by decide) ?_
                        exact J_249 ls (((kMag t v) - (kRest t (kMag t v))) + (kUnit t (kMag t v))) (by first | (simp [eq_true c_1, eq_false c_2, eq_false c_3, eq_false c_4, eq_true c_5]; done) | (simp [c_1, c_2, c_3, c_4, c_5]; done) | contradiction | rfl) (lv_sub hl [0, 1, 2, 3, 4, 5, 6, 7, 8, 9, 10, 11] rfl)
                  · skip
                    refine lv_iload_n hx hb dX2_whole_187 rfl (lv_at hl 11 rfl) ?_
                    refine lv_iconst (v := 2) hx hb dX2_whole_188 (by decide) ?_
                    refine zc_ne (tgt := 233) hx hb dX2_whole_189 (by decide) (fun c_6 => ?_) (fun c_6 => ?_)
                    · exact J_233 ls (if kMore v how then 1 else 0) (by first | (simp [kMoreL, eq_true c_1, eq_false c_2, eq_false c_3, eq_false c_4, eq_false c_6]; done) | (simp [kMoreL, c_1, c_2, c_3, c_4, c_6]; done) | contradiction | rfl) (lv_sub hl [3, 0, 1, 2, 4, 5, 6, 7, 8, 9, 10, 11] rfl)
                    · refine lv_lload hx hb dX2_whole_192 (lv_at hl 1 rfl) ?_
                      refine lv_lload hx hb dX2_whole_194 (lv_at hl 2 rfl) ?_
                      refine lv_ldc2 hx hb S.2.2.2.1 (S.2.2.2.2 (.constantLong RX2 91 (2)) (by decide +kernel)) dX2_whole_196 ?_
                      refine lv_ldiv hx hb dX2_whole_199 (by decide) ?_
                      refine zl_gt (tgt := 226) hx hb dX2_whole_200 dX2_whole_201 (by decide) (fun c_7 => ?_) (fun c_7 => ?_)
                      · refine lv_iconst (v := 1) hx hb dX2_whole_226 (by decide) ?_
                        refine lv_goto (tgt := 231) hx hb dX2_whole_227 (by decide) ?_
                        refine lv_istore (lv' := [(10, .int 1), (15, .long ((kMag t v) - (kRest t (kMag t v)))), (13, .long (kRest t (kMag t v))), (11, .long (kUnit t (kMag t v))), (9, .int (kPow t (kMag t v))), (8, .int (if v < 0 then 1 else 0)), (6, .long (kMag t v)), (5, .int (nBias t)), (4, .int (nFrac t)), (0, .int t), (1, .long v), (3, .int how)]) hx hb dX2_whole_231 hl (by decide) rfl (fun ls hl => ?_)
                        exact J_233 ls (1) (by first | (simp [kMoreL, eq_true c_1, eq_false c_2, eq_false c_3, eq_false c_4, eq_true c_6, eq_true c_7]; done) | (simp [kMoreL, c_1, c_2, c_3, c_4, c_6, c_7]; done) | contradiction | rfl) (lv_sub hl [0, 1, 2, 3, 4, 5, 6, 7, 8, 9, 10, 11] rfl)
                      · refine lv_lload hx hb dX2_whole_204 (lv_at hl 1 rfl) ?_
                        refine lv_lload hx hb dX2_whole_206 (lv_at hl 2 rfl) ?_
                        refine lv_ldc2 hx hb S.2.2.2.1 (S.2.2.2.2 (.constantLong RX2 91 (2)) (by decide +kernel)) dX2_whole_208 ?_
                        refine lv_ldiv hx hb dX2_whole_211 (by decide) ?_
                        refine zl_ne (tgt := 230) hx hb dX2_whole_212 dX2_whole_213 (by decide) (fun c_8 => ?_) (fun c_8 => ?_)
                        · refine lv_iconst (v := 0) hx hb dX2_whole_230 (by decide) ?_
                          refine lv_istore (lv' := [(10, .int 0), (15, .long ((kMag t v) - (kRest t (kMag t v)))), (13, .long (kRest t (kMag t v))), (11, .long (kUnit t (kMag t v))), (9, .int (kPow t (kMag t v))), (8, .int (if v < 0 then 1 else 0)), (6, .long (kMag t v)), (5, .int (nBias t)), (4, .int (nFrac t)), (0, .int t), (1, .long v), (3, .int how)]) hx hb dX2_whole_231 hl (by decide) rfl (fun ls hl => ?_)
                          exact J_233 ls (0) (by first | (simp [kMoreL, eq_true c_1, eq_false c_2, eq_false c_3, eq_false c_4, eq_true c_6, eq_false c_7, eq_false c_8]; done) | (simp [kMoreL, c_1, c_2, c_3, c_4, c_6, c_7, c_8]; done) | contradiction | rfl) (lv_sub hl [0, 1, 2, 3, 4, 5, 6, 7, 8, 9, 10, 11] rfl)
                        · refine lv_lload hx hb dX2_whole_216 (lv_at hl 0 rfl) ?_
                          refine lv_lload hx hb dX2_whole_218 (lv_at hl 2 rfl) ?_
                          refine lv_land hx hb dX2_whole_220 ?_
                          refine lv_lconst (v := 0) hx hb dX2_whole_221 (by decide) ?_
                          refine zl_eq (tgt := 230) hx hb dX2_whole_222 dX2_whole_223 (by decide) (fun c_9 => ?_) (fun c_9 => ?_)
                          · refine lv_iconst (v := 0) hx hb dX2_whole_230 (by decide) ?_
                            refine lv_istore (lv' := [(10, .int 0), (15, .long ((kMag t v) - (kRest t (kMag t v)))), (13, .long (kRest t (kMag t v))), (11, .long (kUnit t (kMag t v))), (9, .int (kPow t (kMag t v))), (8, .int (if v < 0 then 1 else 0)), (6, .long (kMag t v)), (5, .int (nBias t)), (4, .int (nFrac t)), (0, .int t), (1, .long v), (3, .int how)]) hx hb dX2_whole_231 hl (by decide) rfl (fun ls hl => ?_)
                            exact J_233 ls (0) (by first | (simp [kMoreL, eq_true c_1, eq_false c_2, eq_false c_3, eq_false c_4, eq_true c_6, eq_false c_7, eq_true c_8, eq_true c_9]; done) | (simp [kMoreL, c_1, c_2, c_3, c_4, c_6, c_7, c_8, c_9]; done) | contradiction | rfl) (lv_sub hl [0, 1, 2, 3, 4, 5, 6, 7, 8, 9, 10, 11] rfl)
                          · refine lv_iconst (v := 1) hx hb dX2_whole_226 (by decide) ?_
                            refine lv_goto (tgt := 231) hx hb dX2_whole_227 (by decide) ?_
                            refine lv_istore (lv' := [(10, .int 1), (15, .long ((kMag t v) - (kRest t (kMag t v)))), (13, .long (kRest t (kMag t v))), (11, .long (kUnit t (kMag t v))), (9, .int (kPow t (kMag t v))), (8, .int (if v < 0 then 1 else 0)), (6, .long (kMag t v)), (5, .int (nBias t)), (4, .int (nFrac t)), (0, .int t), (1, .long v), (3, .int how)]) hx hb dX2_whole_231 hl (by decide) rfl (fun ls hl => ?_)
                            exact J_233 ls (1) (by first | (simp [kMoreL, eq_true c_1, eq_false c_2, eq_false c_3, eq_false c_4, eq_true c_6, eq_false c_7, eq_true c_8, eq_false c_9]; done) | (simp [kMoreL, c_1, c_2, c_3, c_4, c_6, c_7, c_8, c_9]; done) | contradiction | rfl) (lv_sub hl [0, 1, 2, 3, 4, 5, 6, 7, 8, 9, 10, 11] rfl)
                · refine lv_lload_n hx hb dX2_whole_185 rfl (lv_at hl 10 rfl) ?_
                  exact ps_lret S hr hlk dX2_whole_186 (by first | (simp [kWhole, eq_true c_1, eq_false c_2, eq_false c_3, eq_true c_4]; done) | (simp [kWhole, c_1, c_2, c_3, c_4]; done) | contradiction | rfl)
              · refine zj1 (α := Int32) 17 (fun x => [(10, .int x), (9, .int (kPow t (kMag t v))), (8, .int (if v < 0 then 1 else 0)), (6, .long (kMag t v)), (5, .int (nBias t)), (4, .int (nFrac t)), (0, .int t), (1, .long v), (3, .int how)]) 133 (fun x => []) (if kMoreS t v (kMag t v) how then 1 else 0) (fun ls hl => ?_) (fun J_133 => ?_)
                · have hl : lv_has ls 17 [(10, .int (if kMoreS t v (kMag t v) how then 1 else 0)), (9, .int (kPow t (kMag t v))), (8, .int (if v < 0 then 1 else 0)), (6, .long (kMag t v)), (5, .int (nBias t)), (4, .int (nFrac t)), (0, .int t), (1, .long v), (3, .int how)] := hl
                  refine W.eq (g2 := F0 m 133 ls []) rfl ?_
                  refine lv_iload_n hx hb dX2_whole_133 rfl (lv_at hl 6 rfl) ?_
                  refine zj1 (α := Int64) 17 (fun x => [(10, .int (if kMoreS t v (kMag t v) how then 1 else 0)), (9, .int (kPow t (kMag t v))), (8, .int (if v < 0 then 1 else 0)), (6, .long (kMag t v)), (5, .int (nBias t)), (4, .int (nFrac t)), (0, .int t), (1, .long v), (3, .int how)]) 147 (fun x => [.long x, .int t]) (if kMoreS t v (kMag t v) how then kOne t else 0) (fun ls hl => ?_) (fun J_147 => ?_)
                  · have hl : lv_has ls 17 [(10, .int (if kMoreS t v (kMag t v) how then 1 else 0)), (9, .int (kPow t (kMag t v))), (8, .int (if v < 0 then 1 else 0)), (6, .long (kMag t v)), (5, .int (nBias t)), (4, .int (nFrac t)), (0, .int t), (1, .long v), (3, .int how)] := hl
                    refine W.eq (g2 := F0 m 147 ls [.long (if kMoreS t v (kMag t v) how then kOne t else 0), .int t]) rfl ?_
                    refine lv_iload hx hb dX2_whole_147 (lv_at hl 2 rfl) ?_
                    refine ps_call (rest := []) S (c_X2_signed l t (if kMoreS t v (kMag t v) how then kOne t else 0) (if v < 0 then 1 else 0)) gX2_whole_X2_signed rfl qX2_signed ⟨Nat.le_of_ble_eq_true rfl, Nat.le_of_ble_eq_true rfl⟩ ⟨Nat.le_of_ble_eq_true rfl, Nat.le_of_ble_eq_true rfl⟩ hl.1 rfl (Nat.le_of_ble_eq_true rfl) dX2_whole_149 ?_
                    exact ps_lret S hr hlk dX2_whole_152 (by first | (simp [kWhole, eq_true c_1, eq_false c_2, eq_true c_3]; done) | (simp [kWhole, c_1, c_2, c_3]; done) | contradiction | rfl)
                  · skip
                    refine lv_iload hx hb dX2_whole_134 (lv_at hl 0 rfl) ?_
                    refine zb_eq (P := kMoreS t v (kMag t v) how) (tgt := 146) hx hb dX2_whole_136 (by decide) (fun c_10 => ?_) (fun c_10 => ?_)
                    · refine lv_lconst (v := 0) hx hb dX2_whole_146 (by decide) ?_
                      exact J_147 ls (0) (by first | (simp [eq_true c_1, eq_false c_2, eq_true c_3, eq_false c_10]; done) | (simp [c_1, c_2, c_3, c_10]; done) | contradiction | rfl) (lv_sub hl [0, 1, 2, 3, 4, 5, 6, 7, 8] rfl)
                    · refine lv_iload_n hx hb dX2_whole_139 rfl (lv_at hl 6 rfl) ?_
                      refine ps_call (rest := [.int t]) S (c_X2_one l t) gX2_whole_X2_one rfl qX2_one ⟨Nat.le_of_ble_eq_true rfl, Nat.le_of_ble_eq_true rfl⟩ ⟨Nat.le_of_ble_eq_true rfl, Nat.le_of_ble_eq_true rfl⟩ hl.1 rfl (Nat.le_of_ble_eq_true rfl) dX2_whole_140 ?_
                      refine lv_goto (tgt := 147) hx hb dX2_whole_143 (by decide) ?_
                      exact J_147 ls (kOne t) (by first | (simp [eq_true c_1, eq_false c_2, eq_true c_3, eq_true c_10]; done) | (simp [c_1, c_2, c_3, c_10]; done) | contradiction | rfl) (lv_sub hl [0, 1, 2, 3, 4, 5, 6, 7, 8] rfl)
                · skip
                  refine lv_iload_n hx hb dX2_whole_107 rfl (lv_at hl 8 rfl) ?_
                  refine lv_iconst (v := 2) hx hb dX2_whole_108 (by decide) ?_
                  refine zc_ne (tgt := 133) hx hb dX2_whole_109 (by decide) (fun c_11 => ?_) (fun c_11 => ?_)
                  · exact J_133 ls (if kMore v how then 1 else 0) (by first | (simp [kMoreS, eq_true c_1, eq_false c_2, eq_true c_3, eq_false c_11]; done) | (simp [kMoreS, c_1, c_2, c_3, c_11]; done) | contradiction | rfl) (lv_sub hl [0, 1, 2, 3, 4, 5, 6, 7, 8] rfl)
                  · refine lv_lload hx hb dX2_whole_112 (lv_at hl 3 rfl) ?_
                    refine lv_iload hx hb dX2_whole_114 (lv_at hl 4 rfl) ?_
                    refine lv_i2l (v := Int32.toInt64 (nBias t)) hx hb dX2_whole_116 rfl ?_
                    refine lv_lconst (v := 1) hx hb dX2_whole_117 (by decide) ?_
                    refine lv_lsub hx hb dX2_whole_118 ?_
                    refine lv_iload hx hb dX2_whole_119 (lv_at hl 5 rfl) ?_
                    refine lv_lshl (v := jshl ((Int32.toInt64 (nBias t)) - 1) (nFrac t)) hx hb dX2_whole_121 rfl ?_
                    refine zl_le (tgt := 130) hx hb dX2_whole_122 dX2_whole_123 (by decide) (fun c_12 => ?_) (fun c_12 => ?_)
                    · refine lv_iconst (v := 0) hx hb dX2_whole_130 (by decide) ?_
                      refine lv_istore (lv' := [(10, .int 0), (9, .int (kPow t (kMag t v))), (8, .int (if v < 0 then 1 else 0)), (6, .long (kMag t v)), (5, .int (nBias t)), (4, .int (nFrac t)), (0, .int t), (1, .long v), (3, .int how)]) hx hb dX2_whole_131 hl (by decide) rfl (fun ls hl => ?_)
                      exact J_133 ls (0) (by first | (simp [kMoreS, eq_true c_1, eq_false c_2, eq_true c_3, eq_true c_11, eq_false c_12]; done) | (simp [kMoreS, c_1, c_2, c_3, c_11, c_12]; done) | contradiction | rfl) (lv_sub hl [0, 1, 2, 3, 4, 5, 6, 7, 8] rfl)
                    · refine lv_iconst (v := 1) hx hb dX2_whole_126 (by decide) ?_
                      refine lv_goto (tgt := 131) hx hb dX2_whole_127 (by decide) ?_
                      refine lv_istore (lv' := [(10, .int 1), (9, .int (kPow t (kMag t v))), (8, .int (if v < 0 then 1 else 0)), (6, .long (kMag t v)), (5, .int (nBias t)), (4, .int (nFrac t)), (0, .int t), (1, .long v), (3, .int how)]) hx hb dX2_whole_131 hl (by decide) rfl (fun ls hl => ?_)
                      exact J_133 ls (1) (by first | (simp [kMoreS, eq_true c_1, eq_false c_2, eq_true c_3, eq_true c_11, eq_true c_12]; done) | (simp [kMoreS, c_1, c_2, c_3, c_11, c_12]; done) | contradiction | rfl) (lv_sub hl [0, 1, 2, 3, 4, 5, 6, 7, 8] rfl)
            · skip
              refine lv_iload_n hx hb dX2_whole_76 rfl (lv_at hl 7 rfl) ?_
              refine zi_ne (tgt := 85) hx hb dX2_whole_77 (by decide) (fun c_13 => ?_) (fun c_13 => ?_)
              · refine lv_iload_n hx hb dX2_whole_85 rfl (lv_at hl 7 rfl) ?_
                refine lv_iconst (v := 1) hx hb dX2_whole_86 (by decide) ?_
                refine zc_ne (tgt := 99) hx hb dX2_whole_87 (by decide) (fun c_14 => ?_) (fun c_14 => ?_)
                · refine lv_iconst (v := 0) hx hb dX2_whole_99 (by decide) ?_
                  exact J_100 ls (0) (by first | (simp [kMore, eq_true c_1, eq_false c_2, eq_false c_13, eq_false c_14]; done) | (simp [kMore, c_1, c_2, c_13, c_14]; done) | contradiction | rfl) (lv_sub hl [0, 1, 2, 3, 4, 5, 6, 7] rfl)
                · refine lv_iload hx hb dX2_whole_90 (lv_at hl 1 rfl) ?_
                  refine zb_ne (P := v < 0) (tgt := 99) hx hb dX2_whole_92 (by decide) (fun c_15 => ?_) (fun c_15 => ?_)
                  · refine lv_iconst (v := 0) hx hb dX2_whole_99 (by decide) ?_
                    exact J_100 ls (0) (by first | (simp [kMore, eq_true c_1, eq_false c_2, eq_false c_13, eq_true c_14, eq_true c_15]; done) | (simp [kMore, c_1, c_2, c_13, c_14, c_15]; done) | contradiction | rfl) (lv_sub hl [0, 1, 2, 3, 4, 5, 6, 7] rfl)
                  · refine lv_iconst (v := 1) hx hb dX2_whole_95 (by decide) ?_
                    refine lv_goto (tgt := 100) hx hb dX2_whole_96 (by decide) ?_
                    exact J_100 ls (1) (by first | (simp [kMore, eq_true c_1, eq_false c_2, eq_false c_13, eq_true c_14, eq_false c_15]; done) | (simp [kMore, c_1, c_2, c_13, c_14, c_15]; done) | contradiction | rfl) (lv_sub hl [0, 1, 2, 3, 4, 5, 6, 7] rfl)
              · refine lv_iload hx hb dX2_whole_80 (lv_at hl 1 rfl) ?_
                refine lv_goto (tgt := 100) hx hb dX2_whole_82 (by decide) ?_
                exact J_100 ls (if v < 0 then 1 else 0) (by first | (simp [kMore, eq_true c_1, eq_false c_2, eq_true c_13]; done) | (simp [kMore, c_1, c_2, c_13]; done) | contradiction | rfl) (lv_sub hl [0, 1, 2, 3, 4, 5, 6, 7] rfl)
          · refine lv_lload_n hx hb dX2_whole_74 rfl (lv_at hl 6 rfl) ?_
            exact ps_lret S hr hlk dX2_whole_75 (by first | (simp [kWhole, eq_true c_1, eq_true c_2]; done) | (simp [kWhole, c_1, c_2]; done) | contradiction | rfl)
      · skip
        refine lv_lload_n hx hb dX2_whole_36 rfl (lv_at hl 4 rfl) ?_
        refine lv_lconst (v := 0) hx hb dX2_whole_37 (by decide) ?_
        refine zl_ge (tgt := 46) hx hb dX2_whole_38 dX2_whole_39 (by decide) (fun c_16 => ?_) (fun c_16 => ?_)
        · refine lv_iconst (v := 0) hx hb dX2_whole_46 (by decide) ?_
          exact J_47 ls (0) (by first | (simp [eq_false c_16]; done) | (simp [c_16]; done) | contradiction | rfl) (lv_sub hl [0, 1, 2, 3, 4, 5] rfl)
        · refine lv_iconst (v := 1) hx hb dX2_whole_42 (by decide) ?_
          refine lv_goto (tgt := 47) hx hb dX2_whole_43 (by decide) ?_
          exact J_47 ls (1) (by first | (simp [eq_true c_16]; done) | (simp [c_16]; done) | contradiction | rfl) (lv_sub hl [0, 1, 2, 3, 4, 5] rfl)
    · skip
      refine lv_iload_n hx hb dX2_whole_14 rfl (lv_at hl 1 rfl) ?_
      refine lv_iconst (v := 2) hx hb dX2_whole_15 (by decide) ?_
      refine zc_ne (tgt := 24) hx hb dX2_whole_16 (by decide) (fun c_17 => ?_) (fun c_17 => ?_)
      · refine lv_sipush (v := 1023) hx hb dX2_whole_24 (by decide) ?_
        exact J_27 ls (1023) (by first | (simp [nBias, eq_false c_17]; done) | (simp [nBias, c_17]; done) | contradiction | rfl) (lv_sub hl [0, 1, 2, 3] rfl)
      · refine lv_bipush (v := 127) hx hb dX2_whole_19 (by decide) ?_
        refine lv_goto (tgt := 27) hx hb dX2_whole_21 (by decide) ?_
        exact J_27 ls (127) (by first | (simp [nBias, eq_true c_17]; done) | (simp [nBias, c_17]; done) | contradiction | rfl) (lv_sub hl [0, 1, 2, 3] rfl)
  · skip
    refine lv_iload_n hx hb dX2_whole_0 rfl (lv_at hl 0 rfl) ?_
    refine lv_iconst (v := 2) hx hb dX2_whole_1 (by decide) ?_
    refine zc_ne (tgt := 10) hx hb dX2_whole_2 (by decide) (fun c_18 => ?_) (fun c_18 => ?_)
    · refine lv_bipush (v := 52) hx hb dX2_whole_10 (by decide) ?_
      exact J_12 ls (52) (by first | (simp [nFrac, eq_false c_18]; done) | (simp [nFrac, c_18]; done) | contradiction | rfl) (lv_sub hl [0, 1, 2] rfl)
    · refine lv_bipush (v := 23) hx hb dX2_whole_5 (by decide) ?_
      refine lv_goto (tgt := 12) hx hb dX2_whole_7 (by decide) ?_
      exact J_12 ls (23) (by first | (simp [nFrac, eq_true c_18]; done) | (simp [nFrac, c_18]; done) | contradiction | rfl) (lv_sub hl [0, 1, 2] rfl)
theorem qJxf58ca_isNaN_12338 : yJxf58ca_isNaN_12338.cls ≠ "java/lang/invoke/MethodHandle" ∧ yJxf58ca_isNaN_12338.cls ≠ "java/lang/invoke/VarHandle" ∧ (parseMethodDescriptor yJxf58ca_isNaN_12338.desc).map (fun d => d.parameters.length) = some 1 := by decide +kernel
set_option maxHeartbeats 4000000 in
set_option maxRecDepth 100000 in
theorem c_Jxf58ca_isNaN_12338 (l : Launch) (f : UInt32) : PS l yJxf58ca_isNaN_12338 wsJxf58ca_isNaN_12338 0 0 [.float f] (.int (if ¬ Op.cmpValue (FP.fcmp f f) .l = 0 then 1 else 0)) := by
  refine PS.ofF (cc := cJxf58ca_isNaN_12338) (maxL := 1) (ret := some .boolean) (own := RJxf58ca) (by decide +kernel) rfl rfl (Nat.le_of_ble_eq_true rfl) ?_
  intro p e s m below meth c ls S hr hlk hl
  have hx := S.1
  have hb := S.2.1
  have hl : lv_has ls 1 [(0, .float f)] := hl
  refine lv_fload_n hx hb dJxf58ca_isNaN_12338_0 rfl (lv_at hl 0 rfl) ?_
  refine lv_fload_n hx hb dJxf58ca_isNaN_12338_1 rfl (lv_at hl 0 rfl) ?_
  refine lv_fcmp hx hb dJxf58ca_isNaN_12338_2 ?_
  refine zi_eq (tgt := 10) hx hb dJxf58ca_isNaN_12338_3 (by decide) (fun c_1 => ?_) (fun c_1 => ?_)
  · refine lv_iconst (v := 0) hx hb dJxf58ca_isNaN_12338_10 (by decide) ?_
    exact ps_zret S hr hlk dJxf58ca_isNaN_12338_11 (by decide) (by first | (simp [eq_true c_1]; done) | (simp [c_1]; done) | contradiction | rfl)
  · refine lv_iconst (v := 1) hx hb dJxf58ca_isNaN_12338_6 (by decide) ?_
    refine lv_goto (tgt := 11) hx hb dJxf58ca_isNaN_12338_7 (by decide) ?_
    exact ps_zret S hr hlk dJxf58ca_isNaN_12338_11 (by decide) (by first | (simp [eq_false c_1]; done) | (simp [c_1]; done) | contradiction | rfl)
theorem qJxe99ae_isNaN_b9ae7 : yJxe99ae_isNaN_b9ae7.cls ≠ "java/lang/invoke/MethodHandle" ∧ yJxe99ae_isNaN_b9ae7.cls ≠ "java/lang/invoke/VarHandle" ∧ (parseMethodDescriptor yJxe99ae_isNaN_b9ae7.desc).map (fun d => d.parameters.length) = some 1 := by decide +kernel
set_option maxHeartbeats 4000000 in
set_option maxRecDepth 100000 in
theorem c_Jxe99ae_isNaN_b9ae7 (l : Launch) (f : UInt64) : PS l yJxe99ae_isNaN_b9ae7 wsJxe99ae_isNaN_b9ae7 0 0 [.double f] (.int (if ¬ Op.cmpValue (FP.dcmp f f) .l = 0 then 1 else 0)) := by
  refine PS.of (cc := cJxe99ae_isNaN_b9ae7) (maxL := 2) (ret := some .boolean) (own := RJxe99ae) (by decide) rfl rfl (Nat.le_of_ble_eq_true rfl) ?_
  intro p e s m below meth c ls S hr hlk hl
  have hx := S.1
  have hb := S.2.1
  have hl : lv_has ls 2 [(0, .double f)] := hl
  refine lv_dload_n hx hb dJxe99ae_isNaN_b9ae7_0 rfl (lv_at hl 0 rfl) ?_
  refine lv_dload_n hx hb dJxe99ae_isNaN_b9ae7_1 rfl (lv_at hl 0 rfl) ?_
  refine lv_dcmp hx hb dJxe99ae_isNaN_b9ae7_2 ?_
  refine zi_eq (tgt := 10) hx hb dJxe99ae_isNaN_b9ae7_3 (by decide) (fun c_1 => ?_) (fun c_1 => ?_)
  · refine lv_iconst (v := 0) hx hb dJxe99ae_isNaN_b9ae7_10 (by decide) ?_
    exact ps_zret S hr hlk dJxe99ae_isNaN_b9ae7_11 (by decide) (by first | (simp [eq_true c_1]; done) | (simp [c_1]; done) | contradiction | rfl)
  · refine lv_iconst (v := 1) hx hb dJxe99ae_isNaN_b9ae7_6 (by decide) ?_
    refine lv_goto (tgt := 11) hx hb dJxe99ae_isNaN_b9ae7_7 (by decide) ?_
    exact ps_zret S hr hlk dJxe99ae_isNaN_b9ae7_11 (by decide) (by first | (simp [eq_false c_1]; done) | (simp [c_1]; done) | contradiction | rfl)
theorem qJxf58ca_floatToIntBits_5c35a : yJxf58ca_floatToIntBits_5c35a.cls ≠ "java/lang/invoke/MethodHandle" ∧ yJxf58ca_floatToIntBits_5c35a.cls ≠ "java/lang/invoke/VarHandle" ∧ (parseMethodDescriptor yJxf58ca_floatToIntBits_5c35a.desc).map (fun d => d.parameters.length) = some 1 := by decide +kernel
set_option maxHeartbeats 4000000 in
set_option maxRecDepth 100000 in
theorem c_Jxf58ca_floatToIntBits_5c35a (l : Launch) (f : UInt32) (hf : Op.cmpValue (FP.fcmp f f) .l = 0) : PS l yJxf58ca_floatToIntBits_5c35a wsJxf58ca_floatToIntBits_5c35a 1 20 [.float f] (.int (UInt32.toInt32 f)) := by
  refine PS.ofF (cc := cJxf58ca_floatToIntBits_5c35a) (maxL := 1) (ret := some .int) (own := RJxf58ca) (by decide +kernel) rfl rfl (Nat.le_of_ble_eq_true rfl) ?_
  intro p e s m below meth c ls S hr hlk hl
  have hx := S.1
  have hb := S.2.1
  have hl : lv_has ls 1 [(0, .float f)] := hl
  refine lv_fload_n hx hb dJxf58ca_floatToIntBits_5c35a_0 rfl (lv_at hl 0 rfl) ?_
  refine ps_call (rest := []) S (c_Jxf58ca_isNaN_12338 l f) gJxf58ca_floatToIntBits_5c35a_Jxf58ca_isNaN_12338 rfl qJxf58ca_isNaN_12338 ⟨Nat.le_of_ble_eq_true rfl, Nat.le_of_ble_eq_true rfl⟩ ⟨Nat.le_of_ble_eq_true rfl, Nat.le_of_ble_eq_true rfl⟩ hl.1 rfl (Nat.le_of_ble_eq_true rfl) dJxf58ca_floatToIntBits_5c35a_1 ?_
  refine zb_ne (P := ¬ Op.cmpValue (FP.fcmp f f) .l = 0) (tgt := 12) hx hb dJxf58ca_floatToIntBits_5c35a_4 (by decide) (fun c_1 => ?_) (fun c_1 => ?_)
  · refine lv_ldc hx hb S.2.2.2.1 (S.2.2.2.2 (.constant RJxf58ca 77 (2143289344)) (by decide +kernel)) dJxf58ca_floatToIntBits_5c35a_12 ?_
    exact ps_iret S hr hlk dJxf58ca_floatToIntBits_5c35a_14 (by first | (simp [eq_true c_1]; done) | (simp [c_1]; done) | contradiction | rfl)
  · refine lv_fload_n hx hb dJxf58ca_floatToIntBits_5c35a_7 rfl (lv_at hl 0 rfl) ?_
    refine vn_f2i hx hb (S.2.2.1.trans hl.1.symm) S.2.2.2.1 (S.2.2.2.2 (.methodLink RJxf58ca 74 ⟨"java/lang/Float", "floatToRawIntBits", "(F)I"⟩) (by decide +kernel)) (S.2.2.2.2 (.native ⟨"java/lang/Float", "floatToRawIntBits", "(F)I"⟩) (by decide +kernel)) (S.2.2.2.2 (.static ⟨"java/lang/Float", "floatToRawIntBits", "(F)I"⟩) (by decide +kernel)) (S.2.2.2.2 (.initialized "java/lang/Float") (by decide +kernel)) (Nat.le_of_ble_eq_true rfl) (Nat.le_of_ble_eq_true rfl) dJxf58ca_floatToIntBits_5c35a_8 ?_
    exact ps_iret S hr hlk dJxf58ca_floatToIntBits_5c35a_11 (by first | (simp [eq_false c_1]; done) | (simp [c_1]; done) | contradiction | rfl)
theorem qJxe99ae_doubleToLongBits_ccdee : yJxe99ae_doubleToLongBits_ccdee.cls ≠ "java/lang/invoke/MethodHandle" ∧ yJxe99ae_doubleToLongBits_ccdee.cls ≠ "java/lang/invoke/VarHandle" ∧ (parseMethodDescriptor yJxe99ae_doubleToLongBits_ccdee.desc).map (fun d => d.parameters.length) = some 1 := by decide +kernel
set_option maxHeartbeats 4000000 in
set_option maxRecDepth 100000 in
theorem c_Jxe99ae_doubleToLongBits_ccdee (l : Launch) (f : UInt64) (hf : Op.cmpValue (FP.dcmp f f) .l = 0) : PS l yJxe99ae_doubleToLongBits_ccdee wsJxe99ae_doubleToLongBits_ccdee 1 21 [.double f] (.long (UInt64.toInt64 f)) := by
  refine PS.of (cc := cJxe99ae_doubleToLongBits_ccdee) (maxL := 2) (ret := some .long) (own := RJxe99ae) (by decide) rfl rfl (Nat.le_of_ble_eq_true rfl) ?_
  intro p e s m below meth c ls S hr hlk hl
  have hx := S.1
  have hb := S.2.1
  have hl : lv_has ls 2 [(0, .double f)] := hl
  refine lv_dload_n hx hb dJxe99ae_doubleToLongBits_ccdee_0 rfl (lv_at hl 0 rfl) ?_
  refine ps_call (rest := []) S (c_Jxe99ae_isNaN_b9ae7 l f) gJxe99ae_doubleToLongBits_ccdee_Jxe99ae_isNaN_b9ae7 rfl qJxe99ae_isNaN_b9ae7 ⟨Nat.le_of_ble_eq_true rfl, Nat.le_of_ble_eq_true rfl⟩ ⟨Nat.le_of_ble_eq_true rfl, Nat.le_of_ble_eq_true rfl⟩ hl.1 rfl (Nat.le_of_ble_eq_true rfl) dJxe99ae_doubleToLongBits_ccdee_1 ?_
  refine zb_ne (P := ¬ Op.cmpValue (FP.dcmp f f) .l = 0) (tgt := 12) hx hb dJxe99ae_doubleToLongBits_ccdee_4 (by decide) (fun c_1 => ?_) (fun c_1 => ?_)
  · refine lv_ldc2 hx hb S.2.2.2.1 (S.2.2.2.2 (.constantLong RJxe99ae 137 (9221120237041090560)) (by decide +kernel)) dJxe99ae_doubleToLongBits_ccdee_12 ?_
    exact ps_lret S hr hlk dJxe99ae_doubleToLongBits_ccdee_15 (by first | (simp [eq_true c_1]; done) | (simp [c_1]; done) | contradiction | rfl)
  · refine lv_dload_n hx hb dJxe99ae_doubleToLongBits_ccdee_7 rfl (lv_at hl 0 rfl) ?_
    refine vn_d2l hx hb (S.2.2.1.trans hl.1.symm) S.2.2.2.1 (S.2.2.2.2 (.methodLink RJxe99ae 134 ⟨"java/lang/Double", "doubleToRawLongBits", "(D)J"⟩) (by decide +kernel)) (S.2.2.2.2 (.native ⟨"java/lang/Double", "doubleToRawLongBits", "(D)J"⟩) (by decide +kernel)) (S.2.2.2.2 (.static ⟨"java/lang/Double", "doubleToRawLongBits", "(D)J"⟩) (by decide +kernel)) (S.2.2.2.2 (.initialized "java/lang/Double") (by decide +kernel)) (Nat.le_of_ble_eq_true rfl) (Nat.le_of_ble_eq_true rfl) dJxe99ae_doubleToLongBits_ccdee_8 ?_
    exact ps_lret S hr hlk dJxe99ae_doubleToLongBits_ccdee_11 (by first | (simp [eq_false c_1]; done) | (simp [c_1]; done) | contradiction | rfl)
theorem qX2_made : yX2_made.cls ≠ "java/lang/invoke/MethodHandle" ∧ yX2_made.cls ≠ "java/lang/invoke/VarHandle" ∧ (parseMethodDescriptor yX2_made.desc).map (fun d => d.parameters.length) = some 3 := by decide +kernel
set_option maxHeartbeats 4000000 in
set_option maxRecDepth 100000 in
theorem c_X2_made (l : Launch) (f : Int32) (t : Int32) (v : Int64) (hs : zSort f) (hk : kFine f t v) : PS l yX2_made wsX2_made 2 42 [.int f, .int t, .long v] (.long (kMade f t v)) := by
  refine PS.of (cc := cX2_made) (maxL := 6) (ret := some .long) (own := RX2) (by decide) rfl rfl (Nat.le_of_ble_eq_true rfl) ?_
  intro p e s m below meth c ls S hr hlk hl
  have hx := S.1
  have hb := S.2.1
  have hl : lv_has ls 6 [(0, .int f), (1, .int t), (2, .long v)] := hl
  refine lv_iload_n hx hb dX2_made_0 rfl (lv_at hl 0 rfl) ?_
  refine lv_iload_n hx hb dX2_made_1 rfl (lv_at hl 1 rfl) ?_
  refine zc_ne (tgt := 7) hx hb dX2_made_2 (by decide) (fun c_1 => ?_) (fun c_1 => ?_)
  · refine lv_iload_n hx hb dX2_made_7 rfl (lv_at hl 0 rfl) ?_
    refine ps_call (rest := []) S (c_X2_isBroken l f) gX2_made_X2_isBroken rfl qX2_isBroken ⟨Nat.le_of_ble_eq_true rfl, Nat.le_of_ble_eq_true rfl⟩ ⟨Nat.le_of_ble_eq_true rfl, Nat.le_of_ble_eq_true rfl⟩ hl.1 rfl (Nat.le_of_ble_eq_true rfl) dX2_made_8 ?_
    refine zb_ne (P := kBroken f) (tgt := 27) hx hb dX2_made_11 (by decide) (fun c_2 => ?_) (fun c_2 => ?_)
    · refine lv_iload_n hx hb dX2_made_27 rfl (lv_at hl 0 rfl) ?_
      refine ps_call (rest := []) S (c_X2_isBroken l f) gX2_made_X2_isBroken rfl qX2_isBroken ⟨Nat.le_of_ble_eq_true rfl, Nat.le_of_ble_eq_true rfl⟩ ⟨Nat.le_of_ble_eq_true rfl, Nat.le_of_ble_eq_true rfl⟩ hl.1 rfl (Nat.le_of_ble_eq_true rfl) dX2_made_28 ?_
      refine zb_ne (P := kBroken f) (tgt := 54) hx hb dX2_made_31 (by decide) (fun _ => ?_) (fun q => absurd c_2 q)
      refine lv_iload_n hx hb dX2_made_54 rfl (lv_at hl 0 rfl) ?_
      refine lv_iconst (v := 2) hx hb dX2_made_55 (by decide) ?_
      refine zc_ne (tgt := 68) hx hb dX2_made_56 (by decide) (fun c_3 => ?_) (fun c_3 => ?_)
      · refine lv_lload_n hx hb dX2_made_68 rfl (lv_at hl 2 rfl) ?_
        have h1 := hk.2.1 (zthree hs c_2 c_3)
        refine vn_l2d hx hb (S.2.2.1.trans hl.1.symm) S.2.2.2.1 (S.2.2.2.2 (.methodLink RX2 109 ⟨"java/lang/Double", "longBitsToDouble", "(J)D"⟩) (by decide +kernel)) (S.2.2.2.2 (.native ⟨"java/lang/Double", "longBitsToDouble", "(J)D"⟩) (by decide +kernel)) (S.2.2.2.2 (.static ⟨"java/lang/Double", "longBitsToDouble", "(J)D"⟩) (by decide +kernel)) (S.2.2.2.2 (.initialized "java/lang/Double") (by decide +kernel)) (by assumption) (Nat.le_of_ble_eq_true rfl) (Nat.le_of_ble_eq_true rfl) dX2_made_69 ?_
        have hd : kDbl f v = Int64.toUInt64 v := by simp [kDbl, c_3]
        obtain ⟨h5, h6, h7⟩ := hk.2.2.1 c_2
        rw [hd] at h5 h6 h7
        refine lv_dstore (lv' := [(4, .double (Int64.toUInt64 v)), (0, .int f), (1, .int t), (2, .long v)]) hx hb dX2_made_72 hl (by decide) rfl (fun ls hl => ?_)
        refine lv_iload_n hx hb dX2_made_74 rfl (lv_at hl 2 rfl) ?_
        refine zi_ne (tgt := 83) hx hb dX2_made_75 (by decide) (fun c_4 => ?_) (fun c_4 => ?_)
        · refine lv_iload_n hx hb dX2_made_83 rfl (lv_at hl 2 rfl) ?_
          refine lv_iconst (v := 1) hx hb dX2_made_84 (by decide) ?_
          refine zc_ne (tgt := 92) hx hb dX2_made_85 (by decide) (fun c_5 => ?_) (fun c_5 => ?_)
          · refine lv_iload_n hx hb dX2_made_92 rfl (lv_at hl 2 rfl) ?_
            refine lv_iconst (v := 2) hx hb dX2_made_93 (by decide) ?_
            refine zc_ne (tgt := 107) hx hb dX2_made_94 (by decide) (fun c_6 => ?_) (fun c_6 => ?_)
            · refine lv_dload hx hb dX2_made_107 (lv_at hl 0 rfl) ?_
              refine ps_call (rest := []) S (c_Jxe99ae_doubleToLongBits_ccdee l (Int64.toUInt64 v) (by assumption)) gX2_made_Jxe99ae_doubleToLongBits_ccdee rfl qJxe99ae_doubleToLongBits_ccdee ⟨Nat.le_of_ble_eq_true rfl, Nat.le_of_ble_eq_true rfl⟩ ⟨Nat.le_of_ble_eq_true rfl, Nat.le_of_ble_eq_true rfl⟩ hl.1 rfl (Nat.le_of_ble_eq_true rfl) dX2_made_109 ?_
              exact ps_lret S hr hlk dX2_made_112 (by first | (simp [kMade, kDbl, eq_false c_1, eq_true c_2, eq_false c_3, eq_false c_4, eq_false c_5, eq_false c_6]; done) | (simp [kMade, kDbl, c_1, c_2, c_3, c_4, c_5, c_6]; done) | contradiction | rfl)
            · refine lv_dload hx hb dX2_made_97 (lv_at hl 0 rfl) ?_
              refine lv_d2f hx hb dX2_made_99 (by assumption) ?_
              refine ps_call (rest := []) S (c_Jxf58ca_floatToIntBits_5c35a l (FP.d2f (Int64.toUInt64 v)) (by assumption)) gX2_made_Jxf58ca_floatToIntBits_5c35a rfl qJxf58ca_floatToIntBits_5c35a ⟨Nat.le_of_ble_eq_true rfl, Nat.le_of_ble_eq_true rfl⟩ ⟨Nat.le_of_ble_eq_true rfl, Nat.le_of_ble_eq_true rfl⟩ hl.1 rfl (Nat.le_of_ble_eq_true rfl) dX2_made_100 ?_
              refine lv_i2l (v := Int32.toInt64 (UInt32.toInt32 (FP.d2f (Int64.toUInt64 v)))) hx hb dX2_made_103 rfl ?_
              refine lv_goto (tgt := 112) hx hb dX2_made_104 (by decide) ?_
              exact ps_lret S hr hlk dX2_made_112 (by first | (simp [kMade, kDbl, eq_false c_1, eq_true c_2, eq_false c_3, eq_false c_4, eq_false c_5, eq_true c_6]; done) | (simp [kMade, kDbl, c_1, c_2, c_3, c_4, c_5, c_6]; done) | contradiction | rfl)
          · refine lv_dload hx hb dX2_made_88 (lv_at hl 0 rfl) ?_
            refine lv_d2l hx hb dX2_made_90 ?_
            exact ps_lret S hr hlk dX2_made_91 (by first | (simp [kMade, kDbl, eq_false c_1, eq_true c_2, eq_false c_3, eq_false c_4, eq_true c_5]; done) | (simp [kMade, kDbl, c_1, c_2, c_3, c_4, c_5]; done) | contradiction | rfl)
        · refine lv_dload hx hb dX2_made_78 (lv_at hl 0 rfl) ?_
          refine lv_d2i hx hb dX2_made_80 ?_
          refine lv_i2l (v := Int32.toInt64 (FP.d2i (Int64.toUInt64 v))) hx hb dX2_made_81 rfl ?_
          exact ps_lret S hr hlk dX2_made_82 (by first | (simp [kMade, kDbl, eq_false c_1, eq_true c_2, eq_false c_3, eq_true c_4]; done) | (simp [kMade, kDbl, c_1, c_2, c_3, c_4]; done) | contradiction | rfl)
      · refine lv_lload_n hx hb dX2_made_59 rfl (lv_at hl 2 rfl) ?_
        refine lv_l2i (v := Int64.toInt32 v) hx hb dX2_made_60 rfl ?_
        have h1 := (hk.1 c_3).1
        have h2 := (hk.1 c_3).2
        refine vn_i2f hx hb (S.2.2.1.trans hl.1.symm) S.2.2.2.1 (S.2.2.2.2 (.methodLink RX2 105 ⟨"java/lang/Float", "intBitsToFloat", "(I)F"⟩) (by decide +kernel)) (S.2.2.2.2 (.native ⟨"java/lang/Float", "intBitsToFloat", "(I)F"⟩) (by decide +kernel)) (S.2.2.2.2 (.static ⟨"java/lang/Float", "intBitsToFloat", "(I)F"⟩) (by decide +kernel)) (S.2.2.2.2 (.initialized "java/lang/Float") (by decide +kernel)) (by assumption) (Nat.le_of_ble_eq_true rfl) (Nat.le_of_ble_eq_true rfl) dX2_made_61 ?_
        refine lv_f2d hx hb dX2_made_64 (by assumption) ?_
        refine lv_goto (tgt := 72) hx hb dX2_made_65 (by decide) ?_
        have hd : kDbl f v = FP.f2d (Int32.toUInt32 (Int64.toInt32 v)) := by simp [kDbl, c_3]
        obtain ⟨h5, h6, h7⟩ := hk.2.2.1 c_2
        rw [hd] at h5 h6 h7
        refine lv_dstore (lv' := [(4, .double (FP.f2d (Int32.toUInt32 (Int64.toInt32 v)))), (0, .int f), (1, .int t), (2, .long v)]) hx hb dX2_made_72 hl (by decide) rfl (fun ls hl => ?_)
        refine lv_iload_n hx hb dX2_made_74 rfl (lv_at hl 2 rfl) ?_
        refine zi_ne (tgt := 83) hx hb dX2_made_75 (by decide) (fun c_7 => ?_) (fun c_7 => ?_)
        · refine lv_iload_n hx hb dX2_made_83 rfl (lv_at hl 2 rfl) ?_
          refine lv_iconst (v := 1) hx hb dX2_made_84 (by decide) ?_
          refine zc_ne (tgt := 92) hx hb dX2_made_85 (by decide) (fun c_8 => ?_) (fun c_8 => ?_)
          · refine lv_iload_n hx hb dX2_made_92 rfl (lv_at hl 2 rfl) ?_
            refine lv_iconst (v := 2) hx hb dX2_made_93 (by decide) ?_
            refine zc_ne (tgt := 107) hx hb dX2_made_94 (by decide) (fun c_9 => ?_) (fun c_9 => ?_)
            · refine lv_dload hx hb dX2_made_107 (lv_at hl 0 rfl) ?_
              refine ps_call (rest := []) S (c_Jxe99ae_doubleToLongBits_ccdee l (FP.f2d (Int32.toUInt32 (Int64.toInt32 v))) (by assumption)) gX2_made_Jxe99ae_doubleToLongBits_ccdee rfl qJxe99ae_doubleToLongBits_ccdee ⟨Nat.le_of_ble_eq_true rfl, Nat.le_of_ble_eq_true rfl⟩ ⟨Nat.le_of_ble_eq_true rfl, Nat.le_of_ble_eq_true rfl⟩ hl.1 rfl (Nat.le_of_ble_eq_true rfl) dX2_made_109 ?_
              exact ps_lret S hr hlk dX2_made_112 (by first | (simp [kMade, kDbl, eq_false c_1, eq_true c_2, eq_true c_3, eq_false c_7, eq_false c_8, eq_false c_9]; done) | (simp [kMade, kDbl, c_1, c_2, c_3, c_7, c_8, c_9]; done) | contradiction | rfl)
            · refine lv_dload hx hb dX2_made_97 (lv_at hl 0 rfl) ?_
              refine lv_d2f hx hb dX2_made_99 (by assumption) ?_
              refine ps_call (rest := []) S (c_Jxf58ca_floatToIntBits_5c35a l (FP.d2f (FP.f2d (Int32.toUInt32 (Int64.toInt32 v)))) (by assumption)) gX2_made_Jxf58ca_floatToIntBits_5c35a rfl qJxf58ca_floatToIntBits_5c35a ⟨Nat.le_of_ble_eq_true rfl, Nat.le_of_ble_eq_true rfl⟩ ⟨Nat.le_of_ble_eq_true rfl, Nat.le_of_ble_eq_true rfl⟩ hl.1 rfl (Nat.le_of_ble_eq_true rfl) dX2_made_100 ?_
              refine lv_i2l (v := Int32.toInt64 (UInt32.toInt32 (FP.d2f (FP.f2d (Int32.toUInt32 (Int64.toInt32 v)))))) hx hb dX2_made_103 rfl ?_
              refine lv_goto (tgt := 112) hx hb dX2_made_104 (by decide) ?_
              exact ps_lret S hr hlk dX2_made_112 (by first | (simp [kMade, kDbl, eq_false c_1, eq_true c_2, eq_true c_3, eq_false c_7, eq_false c_8, eq_true c_9]; done) | (simp [kMade, kDbl, c_1, c_2, c_3, c_7, c_8, c_9]; done) | contradiction | rfl)
          · refine lv_dload hx hb dX2_made_88 (lv_at hl 0 rfl) ?_
            refine lv_d2l hx hb dX2_made_90 ?_
            exact ps_lret S hr hlk dX2_made_91 (by first | (simp [kMade, kDbl, eq_false c_1, eq_true c_2, eq_true c_3, eq_false c_7, eq_true c_8]; done) | (simp [kMade, kDbl, c_1, c_2, c_3, c_7, c_8]; done) | contradiction | rfl)
        · refine lv_dload hx hb dX2_made_78 (lv_at hl 0 rfl) ?_
          refine lv_d2i hx hb dX2_made_80 ?_
          refine lv_i2l (v := Int32.toInt64 (FP.d2i (FP.f2d (Int32.toUInt32 (Int64.toInt32 v))))) hx hb dX2_made_81 rfl ?_
          exact ps_lret S hr hlk dX2_made_82 (by first | (simp [kMade, kDbl, eq_false c_1, eq_true c_2, eq_true c_3, eq_true c_7]; done) | (simp [kMade, kDbl, c_1, c_2, c_3, c_7]; done) | contradiction | rfl)
    · refine lv_iload_n hx hb dX2_made_14 rfl (lv_at hl 1 rfl) ?_
      refine ps_call (rest := []) S (c_X2_isBroken l t) gX2_made_X2_isBroken rfl qX2_isBroken ⟨Nat.le_of_ble_eq_true rfl, Nat.le_of_ble_eq_true rfl⟩ ⟨Nat.le_of_ble_eq_true rfl, Nat.le_of_ble_eq_true rfl⟩ hl.1 rfl (Nat.le_of_ble_eq_true rfl) dX2_made_15 ?_
      refine zb_ne (P := kBroken t) (tgt := 27) hx hb dX2_made_18 (by decide) (fun c_10 => ?_) (fun c_10 => ?_)
      · refine lv_iload_n hx hb dX2_made_27 rfl (lv_at hl 0 rfl) ?_
        refine ps_call (rest := []) S (c_X2_isBroken l f) gX2_made_X2_isBroken rfl qX2_isBroken ⟨Nat.le_of_ble_eq_true rfl, Nat.le_of_ble_eq_true rfl⟩ ⟨Nat.le_of_ble_eq_true rfl, Nat.le_of_ble_eq_true rfl⟩ hl.1 rfl (Nat.le_of_ble_eq_true rfl) dX2_made_28 ?_
        refine zb_ne (P := kBroken f) (tgt := 54) hx hb dX2_made_31 (by decide) (fun q => absurd q c_2) (fun _ => ?_)
        refine lv_iload_n hx hb dX2_made_34 rfl (lv_at hl 1 rfl) ?_
        refine lv_iconst (v := 2) hx hb dX2_made_35 (by decide) ?_
        refine zc_ne (tgt := 48) hx hb dX2_made_36 (by decide) (fun c_11 => ?_) (fun c_11 => ?_)
        · refine lv_lload_n hx hb dX2_made_48 rfl (lv_at hl 2 rfl) ?_
          have h3 := hk.2.2.2.1
          have h4 := hk.2.2.2.2
          refine lv_l2d hx hb dX2_made_49 ?_
          refine ps_call (rest := []) S (c_Jxe99ae_doubleToLongBits_ccdee l (FP.l2d v) (by assumption)) gX2_made_Jxe99ae_doubleToLongBits_ccdee rfl qJxe99ae_doubleToLongBits_ccdee ⟨Nat.le_of_ble_eq_true rfl, Nat.le_of_ble_eq_true rfl⟩ ⟨Nat.le_of_ble_eq_true rfl, Nat.le_of_ble_eq_true rfl⟩ hl.1 rfl (Nat.le_of_ble_eq_true rfl) dX2_made_50 ?_
          exact ps_lret S hr hlk dX2_made_53 (by first | (simp [kMade, kDbl, eq_false c_1, eq_false c_2, eq_true c_10, eq_false c_11]; done) | (simp [kMade, kDbl, c_1, c_2, c_10, c_11]; done) | contradiction | rfl)
        · refine lv_lload_n hx hb dX2_made_39 rfl (lv_at hl 2 rfl) ?_
          have h3 := hk.2.2.2.1
          have h4 := hk.2.2.2.2
          refine lv_l2f hx hb dX2_made_40 ?_
          refine ps_call (rest := []) S (c_Jxf58ca_floatToIntBits_5c35a l (FP.l2f v) (by assumption)) gX2_made_Jxf58ca_floatToIntBits_5c35a rfl qJxf58ca_floatToIntBits_5c35a ⟨Nat.le_of_ble_eq_true rfl, Nat.le_of_ble_eq_true rfl⟩ ⟨Nat.le_of_ble_eq_true rfl, Nat.le_of_ble_eq_true rfl⟩ hl.1 rfl (Nat.le_of_ble_eq_true rfl) dX2_made_41 ?_
          refine lv_i2l (v := Int32.toInt64 (UInt32.toInt32 (FP.l2f v))) hx hb dX2_made_44 rfl ?_
          refine lv_goto (tgt := 53) hx hb dX2_made_45 (by decide) ?_
          exact ps_lret S hr hlk dX2_made_53 (by first | (simp [kMade, kDbl, eq_false c_1, eq_false c_2, eq_true c_10, eq_true c_11]; done) | (simp [kMade, kDbl, c_1, c_2, c_10, c_11]; done) | contradiction | rfl)
      · refine lv_iload_n hx hb dX2_made_21 rfl (lv_at hl 1 rfl) ?_
        refine lv_lload_n hx hb dX2_made_22 rfl (lv_at hl 2 rfl) ?_
        refine ps_call (rest := []) S (c_X2_taken l t v) gX2_made_X2_taken rfl qX2_taken ⟨Nat.le_of_ble_eq_true rfl, Nat.le_of_ble_eq_true rfl⟩ ⟨Nat.le_of_ble_eq_true rfl, Nat.le_of_ble_eq_true rfl⟩ hl.1 rfl (Nat.le_of_ble_eq_true rfl) dX2_made_23 ?_
        exact ps_lret S hr hlk dX2_made_26 (by first | (simp [kMade, kDbl, eq_false c_1, eq_false c_2, eq_false c_10]; done) | (simp [kMade, kDbl, c_1, c_2, c_10]; done) | contradiction | rfl)
  · refine lv_lload_n hx hb dX2_made_5 rfl (lv_at hl 2 rfl) ?_
    exact ps_lret S hr hlk dX2_made_6 (by first | (simp [kMade, kDbl, eq_true c_1]; done) | (simp [kMade, kDbl, c_1]; done) | contradiction | rfl)
