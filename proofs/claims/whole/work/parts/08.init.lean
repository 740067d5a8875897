def zFill (i : Nat) : Nat → Int32 := fun j => if j < i then -1 else 0
theorem zFill_up (i : Nat) : upd (zFill i) i (-1) = zFill (i + 1) := by
  funext j
  unfold upd zFill
  by_cases h1 : j = i
  · rw [if_pos h1, if_pos (by omega)]
  · rw [if_neg h1]
    by_cases h2 : j < i
    · rw [if_pos h2, if_pos (by omega)]
    · rw [if_neg h2, if_neg (by omega)]
theorem zFill_0 : zFill 0 = fun _ => 0 := by
  funext j
  unfold zFill
  rw [if_neg (by omega)]
def xBlank (f g : Nat → Int32) : XS := (f, fun _ => 0, fun _ => 0, g, fun _ => 0, fun _ => 0, fun _ => 0, 0, 0, 0, 0)
def xInit : XS := xBlank (zFill 16) (zFill 12)
def mInit : MS := (zFill 16, fun _ => 0, fun _ => 0, fun _ => 0, fun _ => 0, fun _ => 0, fun _ => 0, fun _ => 0, 0, 0, 0, 0)
def at_X (D : va_G) (A : Nat → Prop) (h0 : Nat) (u : XS) (t : State) : Prop := ∃ (ad : Nat → Nat) (cy : Nat → ClassId), ad 0 = h0 ∧ va_P D vwCl (xW ad cy u) t.heap ∧ va_K D vwCl (xT cy) t ∧ va_D A (xW ad cy u)
def at_M (D : va_G) (A : Nat → Prop) (h0 : Nat) (u : MS) (t : State) : Prop := ∃ (ad : Nat → Nat) (cy : Nat → ClassId), ad 0 = h0 ∧ va_P D vwCl (mW ad cy u) t.heap ∧ va_K D vwCl (mT cy) t ∧ va_D A (mW ad cy u)
set_option maxHeartbeats 4000000 in
set_option maxRecDepth 100000 in
theorem x_fill {p : Program} {l : Launch} {e : Env} {R : Room} {s : State} {m : MethodId} {args : Array Value} {below : List Frame} {meth : Method} {c : Code} {H : Heap} {locs : List Loc} {cells slots : Nat} {Q : State → Prop} {ls : Array Slot} {D : va_G} {ad : Nat → Nat} {cy : Nat → ClassId} {A : Nat → Prop} (S0 : CallFix p m c cX1_init 2 s args wsX1_init RX1) (hl : lv_has ls 2 [(0, .ref (ad 0))]) (hw : Gd D (xT cy) A s (xW ad cy (xBlank (fun _ => 0) (fun _ => 0))) H locs)
    (k : ∀ (ls : Array Slot) (H : Heap) (locs : List Loc), Gd D (xT cy) A s (xW ad cy xInit) H locs → W p l e R s m args below meth c H locs cells slots Q (F0 m 102 ls [])) : W p l e R s m args below meth c H locs cells slots Q (F0 m 60 ls []) := by
  have hx := S0.1
  have hb := S0.2.1
  have hin : ∀ w ∈ wsX10, w ∈ wsX1_init := fun w h => List.mem_cons_of_mem _ (List.mem_append_right _ h)
  have K2 : ∀ (n i : Nat), i + n = 12 → ∀ (ls : Array Slot) (H : Heap) (locs : List Loc), lv_has ls 2 [(1, .int (nI i)), (0, .ref (ad 0))] → Gd D (xT cy) A s (xW ad cy (xBlank (zFill 16) (zFill i))) H locs → W p l e R s m args below meth c H locs cells slots Q (F0 m 83 ls []) := by
    intro n
    induction n with
    | zero =>
      intro i hi ls H locs hl hw
      have hi : i = 12 := hi
      subst hi
      refine lv_iload_n hx hb dX1_init_83 rfl (lv_at hl 0 rfl) ?_
      refine lv_bipush (v := 12) hx hb dX1_init_84 (by decide) ?_
      refine zc_ge (tgt := 102) hx hb dX1_init_86 (by decide) (fun _ => ?_) (fun q => absurd q (by decide))
      exact k ls H locs hw
    | succ n ih =>
      intro i hi ls H locs hl hw
      have hst : zSt (nI i) := zst_nI (by omega)
      refine lv_iload_n hx hb dX1_init_83 rfl (lv_at hl 0 rfl) ?_
      refine lv_bipush (v := 12) hx hb dX1_init_84 (by decide) ?_
      refine zc_ge (tgt := 102) hx hb dX1_init_86 (by decide) (fun q => absurd hst.2 q) (fun _ => ?_)
      refine lv_aload_n hx hb dX1_init_89 rfl (lv_at hl 1 rfl) ?_
      refine gd_get S0 hin hw rfl rfl 3 (by decide) (S0.2.2.2.2 (.fieldLink RX1 20 "StretchDesk" "stepWhats" "[I") (by decide +kernel)) rfl (v := .ref (ad 4)) rfl dX1_init_90 ?_
      refine lv_iload_n hx hb dX1_init_93 rfl (lv_at hl 0 rfl) ?_
      refine lv_iconst (v := -1) hx hb dX1_init_94 (by decide) ?_
      refine gd_iast (w1 := xW ad cy (xBlank (zFill 16) (upd (zFill i) (nI i).toNatClampNeg (-1)))) (f := _) S0 hw 4 3 rfl rfl (zIn12 hst) rfl dX1_init_95 (fun H locs hw => ?_)
      rw [nI_clamp (show i < 2 ^ 31 by omega), zFill_up i] at hw
      refine lv_iinc (v := nI (i + 1)) (lv' := [(1, .int (nI (i + 1))), (0, .ref (ad 0))]) hx hb dX1_init_96 hl (k := 0) rfl (zinc i) (by decide) rfl (fun ls hl => ?_)
      refine lv_goto (tgt := 83) hx hb dX1_init_99 (by decide) ?_
      exact ih (i + 1) (by omega) ls H locs hl hw
  have K1 : ∀ (n i : Nat), i + n = 16 → ∀ (ls : Array Slot) (H : Heap) (locs : List Loc), lv_has ls 2 [(1, .int (nI i)), (0, .ref (ad 0))] → Gd D (xT cy) A s (xW ad cy (xBlank (zFill i) (fun _ => 0))) H locs → W p l e R s m args below meth c H locs cells slots Q (F0 m 62 ls []) := by
    intro n
    induction n with
    | zero =>
      intro i hi ls H locs hl hw
      have hi : i = 16 := hi
      subst hi
      refine lv_iload_n hx hb dX1_init_62 rfl (lv_at hl 0 rfl) ?_
      refine lv_bipush (v := 16) hx hb dX1_init_63 (by decide) ?_
      refine zc_ge (tgt := 81) hx hb dX1_init_65 (by decide) (fun _ => ?_) (fun q => absurd q (by decide))
      refine lv_iconst (v := 0) hx hb dX1_init_81 (by decide) ?_
      refine lv_istore_n (lv' := [(1, .int 0), (0, .ref (ad 0))]) hx hb dX1_init_82 rfl hl (by decide) rfl (fun ls hl => ?_)
      rw [← zFill_0] at hw
      exact K2 12 0 (by omega) ls H locs hl hw
    | succ n ih =>
      intro i hi ls H locs hl hw
      have hst : zSl (nI i) := zsl_nI (by omega)
      refine lv_iload_n hx hb dX1_init_62 rfl (lv_at hl 0 rfl) ?_
      refine lv_bipush (v := 16) hx hb dX1_init_63 (by decide) ?_
      refine zc_ge (tgt := 81) hx hb dX1_init_65 (by decide) (fun q => absurd hst.2 q) (fun _ => ?_)
      refine lv_aload_n hx hb dX1_init_68 rfl (lv_at hl 1 rfl) ?_
      refine gd_get S0 hin hw rfl rfl 0 (by decide) (S0.2.2.2.2 (.fieldLink RX1 9 "StretchDesk" "sorts" "[I") (by decide +kernel)) rfl (v := .ref (ad 1)) rfl dX1_init_69 ?_
      refine lv_iload_n hx hb dX1_init_72 rfl (lv_at hl 0 rfl) ?_
      refine lv_iconst (v := -1) hx hb dX1_init_73 (by decide) ?_
      refine gd_iast (w1 := xW ad cy (xBlank (upd (zFill i) (nI i).toNatClampNeg (-1)) (fun _ => 0))) (f := _) S0 hw 1 0 rfl rfl (zIn hst) rfl dX1_init_74 (fun H locs hw => ?_)
      rw [nI_clamp (show i < 2 ^ 31 by omega), zFill_up i] at hw
      refine lv_iinc (v := nI (i + 1)) (lv' := [(1, .int (nI (i + 1))), (0, .ref (ad 0))]) hx hb dX1_init_75 hl (k := 0) rfl (zinc i) (by decide) rfl (fun ls hl => ?_)
      refine lv_goto (tgt := 62) hx hb dX1_init_78 (by decide) ?_
      exact ih (i + 1) (by omega) ls H locs hl hw
  refine lv_iconst (v := 0) hx hb dX1_init_60 (by decide) ?_
  refine lv_istore_n (lv' := [(1, .int 0), (0, .ref (ad 0))]) hx hb dX1_init_61 rfl hl (by decide) rfl (fun ls hl => ?_)
  have hw : Gd D (xT cy) A s (xW ad cy (xBlank (fun _ => 0) (fun _ => 0))) H locs := hw
  rw [show (xBlank (fun _ => 0) (fun _ => 0)) = xBlank (zFill 0) (fun _ => 0) from by rw [zFill_0]] at hw
  exact K1 16 0 (by omega) ls H locs hl hw
set_option maxHeartbeats 4000000 in
set_option maxRecDepth 100000 in
theorem c_X1_init (l : Launch) (D : va_G) (h0 sz : Nat) : Met l yX1_init wsX1_init ({ frames := 1, cells := 7, slots := 96, locals := 12 }) (va_Pc [.ref h0] (fun U => U.heap.size = sz ∧ va_P D vwCl [(h0, .inr (0, [.null, .null, .null, .null, .null, .null, .null, .int 0, .int 0, .int 0, .int 0]))] U.heap ∧ va_K D vwCl [] U ∧ va_D (fun _ => True) [(h0, .inr (0, [.null, .null, .null, .null, .null, .null, .null, .int 0, .int 0, .int 0, .int 0]))])) (va_Qv (fun u : XS => u = xInit) (at_X D (va_A [(h0, .inr (0, [.null, .null, .null, .null, .null, .null, .null, .int 0, .int 0, .int 0, .int 0]))] sz) h0) (va_A [(h0, .inr (0, [.null, .null, .null, .null, .null, .null, .null, .int 0, .int 0, .int 0, .int 0]))] sz)) 7 96 (va_A [(h0, .inr (0, [.null, .null, .null, .null, .null, .null, .null, .int 0, .int 0, .int 0, .int 0]))] sz) := by
  refine Met.ofW (cc := cX1_init) (maxL := 2) (ret := none) (by decide) rfl ?_
  intro p e s m args below meth c s₁ B hml hv
  obtain ⟨rfl, hsz, hP, hK, hD0⟩ := hv
  have hx := B.exec
  have hb := B.bytes
  have hr := B.returns
  have hts := atoms_spec (ws := wsX1_init) B.pre
  have hown : s.vm.findClass RX1 = some m.cls := findClass_of_methodNamed B.named
  have hlocks := B.notSynchronized
  have hin : meth.name = "<init>" := (name_of_methodNamed B.named B.method).1
  have hin2 : ∀ w ∈ wsX10, w ∈ wsX1_init := fun w h => List.mem_cons_of_mem _ (List.mem_append_right _ h)
  subst hsz
  have hD := hD0.self (sz := s.heap.size)
  generalize hAe : va_A [(h0, .inr (0, [.null, .null, .null, .null, .null, .null, .null, .int 0, .int 0, .int 0, .int 0]))] s.heap.size = A at hD ⊢
  have hA : ∀ q : Nat, s.heap.size ≤ q → A q := fun q h => by rw [← hAe]; exact Or.inr h
  have hS : va_S A s.heap s.heap [] := va_S.rf
  have hP : va_P D vwCl [(h0, .inr (0, [.null, .null, .null, .null, .null, .null, .null, .int 0, .int 0, .int 0, .int 0]))] s.heap := hP
  have hl := lv_entry ([.ref h0]) (n := 2) (Nat.le_of_ble_eq_true rfl)
  rw [lg_entry_eq]
  generalize (lg_sl ([.ref h0]) ++ List.replicate (2 - (lg_sl ([.ref h0])).length) Slot.unset).toArray = ls at hl ⊢
  have hl : lv_has ls 2 [(0, .ref h0)] := hl
  refine lv_aload_n hx hb dX1_init_0 rfl (lv_at hl 0 rfl) ?_
  refine W.objInit hx hb hown (hts (.methodLink RX1 1 objectInit) (by decide +kernel)) (hts (.instanceMethod objectInit) (by decide +kernel)) (hts _ (List.mem_cons_of_mem _ (List.mem_append_left _ (List.mem_of_getElem? (i := 2) rfl)))) rfl (by rw [hml]; exact hl.1) rfl dX1_init_1 (Nat.le_of_ble_eq_true rfl) (Nat.le_of_ble_eq_true rfl) ?_
  refine W.eq (g2 := F0 m 4 ls []) rfl ?_
  refine lv_aload_n hx hb dX1_init_4 rfl (lv_at hl 0 rfl) ?_
  refine lv_bipush (v := 16) hx hb dX1_init_5 (by decide) ?_
  refine va_newa (D := D) (atype := .int) (ty := .int) (N' := 16) (a0 := (16, .inl (fun _ => 0))) hx hb (hts (.arrayClass .int) (by decide +kernel)) rfl hK hP hD hS hA (fun _ => rfl) (by decide) (by decide) (by show 16 * 4 ≤ 536870912; omega) (Nat.le_of_ble_eq_true rfl) (Nat.le_of_ble_eq_true rfl) dX1_init_7 (fun q1 c1 H hK hP hD hS => ?_)
  have hP : va_P D vwCl [(h0, .inr (0, [.null, .null, .null, .null, .null, .null, .null, .int 0, .int 0, .int 0, .int 0])), (q1, .inl (c1, 16, .inl (fun _ => 0)))] H := hP
  have hD : va_D A [(h0, .inr (0, [.null, .null, .null, .null, .null, .null, .null, .int 0, .int 0, .int 0, .int 0])), (q1, .inl (c1, 16, .inl (fun _ => 0)))] := hD
  have hK : va_K D vwCl [(c1, .int)] s := hK
  refine va_putF (D := D) (ci := 0) (v := .ref q1) (ty := .array .int) (C := RX1) (T := TX1) (N := 11) hx hb hts hin2 tyX1 tyX1_ok nmX1 hown hK hP hD hS 0 rfl rfl 0 (by decide) (hts (.fieldLink RX1 9 "StretchDesk" "sorts" "[I") (by decide +kernel)) (fun _ h9 => h9) rfl hin rfl (by decide +kernel) rfl rfl (Nat.le_of_ble_eq_true rfl) dX1_init_9 (fun H locs hP hD hS => ?_)
  have hP : va_P D vwCl [(h0, .inr (0, [.ref q1, .null, .null, .null, .null, .null, .null, .int 0, .int 0, .int 0, .int 0])), (q1, .inl (c1, 16, .inl (fun _ => 0)))] H := hP
  have hD : va_D A [(h0, .inr (0, [.ref q1, .null, .null, .null, .null, .null, .null, .int 0, .int 0, .int 0, .int 0])), (q1, .inl (c1, 16, .inl (fun _ => 0)))] := hD
  refine lv_aload_n hx hb dX1_init_12 rfl (lv_at hl 0 rfl) ?_
  refine lv_bipush (v := 16) hx hb dX1_init_13 (by decide) ?_
  refine va_newa (D := D) (atype := .long) (ty := .long) (N' := 16) (a0 := (16, .inr (.inl (fun _ => 0)))) hx hb (hts (.arrayClass .long) (by decide +kernel)) rfl hK hP hD hS hA (fun _ => rfl) (by decide) (by decide) (by show 16 * 8 ≤ 536870912; omega) (Nat.le_of_ble_eq_true rfl) (Nat.le_of_ble_eq_true rfl) dX1_init_15 (fun q2 c2 H hK hP hD hS => ?_)
  have hP : va_P D vwCl [(h0, .inr (0, [.ref q1, .null, .null, .null, .null, .null, .null, .int 0, .int 0, .int 0, .int 0])), (q1, .inl (c1, 16, .inl (fun _ => 0))), (q2, .inl (c2, 16, .inr (.inl (fun _ => 0))))] H := hP
  have hD : va_D A [(h0, .inr (0, [.ref q1, .null, .null, .null, .null, .null, .null, .int 0, .int 0, .int 0, .int 0])), (q1, .inl (c1, 16, .inl (fun _ => 0))), (q2, .inl (c2, 16, .inr (.inl (fun _ => 0))))] := hD
  have hK : va_K D vwCl [(c1, .int), (c2, .long)] s := hK
  refine va_putF (D := D) (ci := 0) (v := .ref q2) (ty := .array .long) (C := RX1) (T := TX1) (N := 11) hx hb hts hin2 tyX1 tyX1_ok nmX1 hown hK hP hD hS 0 rfl rfl 1 (by decide) (hts (.fieldLink RX1 13 "StretchDesk" "lows" "[J") (by decide +kernel)) (fun _ h9 => h9) rfl hin rfl (by decide +kernel) rfl rfl (Nat.le_of_ble_eq_true rfl) dX1_init_17 (fun H locs hP hD hS => ?_)
  have hP : va_P D vwCl [(h0, .inr (0, [.ref q1, .ref q2, .null, .null, .null, .null, .null, .int 0, .int 0, .int 0, .int 0])), (q1, .inl (c1, 16, .inl (fun _ => 0))), (q2, .inl (c2, 16, .inr (.inl (fun _ => 0))))] H := hP
  have hD : va_D A [(h0, .inr (0, [.ref q1, .ref q2, .null, .null, .null, .null, .null, .int 0, .int 0, .int 0, .int 0])), (q1, .inl (c1, 16, .inl (fun _ => 0))), (q2, .inl (c2, 16, .inr (.inl (fun _ => 0))))] := hD
  refine lv_aload_n hx hb dX1_init_20 rfl (lv_at hl 0 rfl) ?_
  refine lv_bipush (v := 16) hx hb dX1_init_21 (by decide) ?_
  refine va_newa (D := D) (atype := .long) (ty := .long) (N' := 16) (a0 := (16, .inr (.inl (fun _ => 0)))) hx hb (hts (.arrayClass .long) (by decide +kernel)) rfl hK hP hD hS hA (fun _ => rfl) (by decide) (by decide) (by show 16 * 8 ≤ 536870912; omega) (Nat.le_of_ble_eq_true rfl) (Nat.le_of_ble_eq_true rfl) dX1_init_23 (fun q3 c3 H hK hP hD hS => ?_)
  have hP : va_P D vwCl [(h0, .inr (0, [.ref q1, .ref q2, .null, .null, .null, .null, .null, .int 0, .int 0, .int 0, .int 0])), (q1, .inl (c1, 16, .inl (fun _ => 0))), (q2, .inl (c2, 16, .inr (.inl (fun _ => 0)))), (q3, .inl (c3, 16, .inr (.inl (fun _ => 0))))] H := hP
  have hD : va_D A [(h0, .inr (0, [.ref q1, .ref q2, .null, .null, .null, .null, .null, .int 0, .int 0, .int 0, .int 0])), (q1, .inl (c1, 16, .inl (fun _ => 0))), (q2, .inl (c2, 16, .inr (.inl (fun _ => 0)))), (q3, .inl (c3, 16, .inr (.inl (fun _ => 0))))] := hD
  have hK : va_K D vwCl [(c1, .int), (c2, .long), (c3, .long)] s := hK
  refine va_putF (D := D) (ci := 0) (v := .ref q3) (ty := .array .long) (C := RX1) (T := TX1) (N := 11) hx hb hts hin2 tyX1 tyX1_ok nmX1 hown hK hP hD hS 0 rfl rfl 2 (by decide) (hts (.fieldLink RX1 17 "StretchDesk" "highs" "[J") (by decide +kernel)) (fun _ h9 => h9) rfl hin rfl (by decide +kernel) rfl rfl (Nat.le_of_ble_eq_true rfl) dX1_init_25 (fun H locs hP hD hS => ?_)
  have hP : va_P D vwCl [(h0, .inr (0, [.ref q1, .ref q2, .ref q3, .null, .null, .null, .null, .int 0, .int 0, .int 0, .int 0])), (q1, .inl (c1, 16, .inl (fun _ => 0))), (q2, .inl (c2, 16, .inr (.inl (fun _ => 0)))), (q3, .inl (c3, 16, .inr (.inl (fun _ => 0))))] H := hP
  have hD : va_D A [(h0, .inr (0, [.ref q1, .ref q2, .ref q3, .null, .null, .null, .null, .int 0, .int 0, .int 0, .int 0])), (q1, .inl (c1, 16, .inl (fun _ => 0))), (q2, .inl (c2, 16, .inr (.inl (fun _ => 0)))), (q3, .inl (c3, 16, .inr (.inl (fun _ => 0))))] := hD
  refine lv_aload_n hx hb dX1_init_28 rfl (lv_at hl 0 rfl) ?_
  refine lv_bipush (v := 12) hx hb dX1_init_29 (by decide) ?_
  refine va_newa (D := D) (atype := .int) (ty := .int) (N' := 12) (a0 := (12, .inl (fun _ => 0))) hx hb (hts (.arrayClass .int) (by decide +kernel)) rfl hK hP hD hS hA (fun _ => rfl) (by decide) (by decide) (by show 12 * 4 ≤ 536870912; omega) (Nat.le_of_ble_eq_true rfl) (Nat.le_of_ble_eq_true rfl) dX1_init_31 (fun q4 c4 H hK hP hD hS => ?_)
  have hP : va_P D vwCl [(h0, .inr (0, [.ref q1, .ref q2, .ref q3, .null, .null, .null, .null, .int 0, .int 0, .int 0, .int 0])), (q1, .inl (c1, 16, .inl (fun _ => 0))), (q2, .inl (c2, 16, .inr (.inl (fun _ => 0)))), (q3, .inl (c3, 16, .inr (.inl (fun _ => 0)))), (q4, .inl (c4, 12, .inl (fun _ => 0)))] H := hP
  have hD : va_D A [(h0, .inr (0, [.ref q1, .ref q2, .ref q3, .null, .null, .null, .null, .int 0, .int 0, .int 0, .int 0])), (q1, .inl (c1, 16, .inl (fun _ => 0))), (q2, .inl (c2, 16, .inr (.inl (fun _ => 0)))), (q3, .inl (c3, 16, .inr (.inl (fun _ => 0)))), (q4, .inl (c4, 12, .inl (fun _ => 0)))] := hD
  have hK : va_K D vwCl [(c1, .int), (c2, .long), (c3, .long), (c4, .int)] s := hK
  refine va_putF (D := D) (ci := 0) (v := .ref q4) (ty := .array .int) (C := RX1) (T := TX1) (N := 11) hx hb hts hin2 tyX1 tyX1_ok nmX1 hown hK hP hD hS 0 rfl rfl 3 (by decide) (hts (.fieldLink RX1 20 "StretchDesk" "stepWhats" "[I") (by decide +kernel)) (fun _ h9 => h9) rfl hin rfl (by decide +kernel) rfl rfl (Nat.le_of_ble_eq_true rfl) dX1_init_33 (fun H locs hP hD hS => ?_)
  have hP : va_P D vwCl [(h0, .inr (0, [.ref q1, .ref q2, .ref q3, .ref q4, .null, .null, .null, .int 0, .int 0, .int 0, .int 0])), (q1, .inl (c1, 16, .inl (fun _ => 0))), (q2, .inl (c2, 16, .inr (.inl (fun _ => 0)))), (q3, .inl (c3, 16, .inr (.inl (fun _ => 0)))), (q4, .inl (c4, 12, .inl (fun _ => 0)))] H := hP
  have hD : va_D A [(h0, .inr (0, [.ref q1, .ref q2, .ref q3, .ref q4, .null, .null, .null, .int 0, .int 0, .int 0, .int 0])), (q1, .inl (c1, 16, .inl (fun _ => 0))), (q2, .inl (c2, 16, .inr (.inl (fun _ => 0)))), (q3, .inl (c3, 16, .inr (.inl (fun _ => 0)))), (q4, .inl (c4, 12, .inl (fun _ => 0)))] := hD
  refine lv_aload_n hx hb dX1_init_36 rfl (lv_at hl 0 rfl) ?_
  refine lv_bipush (v := 12) hx hb dX1_init_37 (by decide) ?_
  refine va_newa (D := D) (atype := .int) (ty := .int) (N' := 12) (a0 := (12, .inl (fun _ => 0))) hx hb (hts (.arrayClass .int) (by decide +kernel)) rfl hK hP hD hS hA (fun _ => rfl) (by decide) (by decide) (by show 12 * 4 ≤ 536870912; omega) (Nat.le_of_ble_eq_true rfl) (Nat.le_of_ble_eq_true rfl) dX1_init_39 (fun q5 c5 H hK hP hD hS => ?_)
  have hP : va_P D vwCl [(h0, .inr (0, [.ref q1, .ref q2, .ref q3, .ref q4, .null, .null, .null, .int 0, .int 0, .int 0, .int 0])), (q1, .inl (c1, 16, .inl (fun _ => 0))), (q2, .inl (c2, 16, .inr (.inl (fun _ => 0)))), (q3, .inl (c3, 16, .inr (.inl (fun _ => 0)))), (q4, .inl (c4, 12, .inl (fun _ => 0))), (q5, .inl (c5, 12, .inl (fun _ => 0)))] H := hP
  have hD : va_D A [(h0, .inr (0, [.ref q1, .ref q2, .ref q3, .ref q4, .null, .null, .null, .int 0, .int 0, .int 0, .int 0])), (q1, .inl (c1, 16, .inl (fun _ => 0))), (q2, .inl (c2, 16, .inr (.inl (fun _ => 0)))), (q3, .inl (c3, 16, .inr (.inl (fun _ => 0)))), (q4, .inl (c4, 12, .inl (fun _ => 0))), (q5, .inl (c5, 12, .inl (fun _ => 0)))] := hD
  have hK : va_K D vwCl [(c1, .int), (c2, .long), (c3, .long), (c4, .int), (c5, .int)] s := hK
  refine va_putF (D := D) (ci := 0) (v := .ref q5) (ty := .array .int) (C := RX1) (T := TX1) (N := 11) hx hb hts hin2 tyX1 tyX1_ok nmX1 hown hK hP hD hS 0 rfl rfl 4 (by decide) (hts (.fieldLink RX1 23 "StretchDesk" "stepAs" "[I") (by decide +kernel)) (fun _ h9 => h9) rfl hin rfl (by decide +kernel) rfl rfl (Nat.le_of_ble_eq_true rfl) dX1_init_41 (fun H locs hP hD hS => ?_)
  have hP : va_P D vwCl [(h0, .inr (0, [.ref q1, .ref q2, .ref q3, .ref q4, .ref q5, .null, .null, .int 0, .int 0, .int 0, .int 0])), (q1, .inl (c1, 16, .inl (fun _ => 0))), (q2, .inl (c2, 16, .inr (.inl (fun _ => 0)))), (q3, .inl (c3, 16, .inr (.inl (fun _ => 0)))), (q4, .inl (c4, 12, .inl (fun _ => 0))), (q5, .inl (c5, 12, .inl (fun _ => 0)))] H := hP
  have hD : va_D A [(h0, .inr (0, [.ref q1, .ref q2, .ref q3, .ref q4, .ref q5, .null, .null, .int 0, .int 0, .int 0, .int 0])), (q1, .inl (c1, 16, .inl (fun _ => 0))), (q2, .inl (c2, 16, .inr (.inl (fun _ => 0)))), (q3, .inl (c3, 16, .inr (.inl (fun _ => 0)))), (q4, .inl (c4, 12, .inl (fun _ => 0))), (q5, .inl (c5, 12, .inl (fun _ => 0)))] := hD
  refine lv_aload_n hx hb dX1_init_44 rfl (lv_at hl 0 rfl) ?_
  refine lv_bipush (v := 12) hx hb dX1_init_45 (by decide) ?_
  refine va_newa (D := D) (atype := .int) (ty := .int) (N' := 12) (a0 := (12, .inl (fun _ => 0))) hx hb (hts (.arrayClass .int) (by decide +kernel)) rfl hK hP hD hS hA (fun _ => rfl) (by decide) (by decide) (by show 12 * 4 ≤ 536870912; omega) (Nat.le_of_ble_eq_true rfl) (Nat.le_of_ble_eq_true rfl) dX1_init_47 (fun q6 c6 H hK hP hD hS => ?_)
  have hP : va_P D vwCl [(h0, .inr (0, [.ref q1, .ref q2, .ref q3, .ref q4, .ref q5, .null, .null, .int 0, .int 0, .int 0, .int 0])), (q1, .inl (c1, 16, .inl (fun _ => 0))), (q2, .inl (c2, 16, .inr (.inl (fun _ => 0)))), (q3, .inl (c3, 16, .inr (.inl (fun _ => 0)))), (q4, .inl (c4, 12, .inl (fun _ => 0))), (q5, .inl (c5, 12, .inl (fun _ => 0))), (q6, .inl (c6, 12, .inl (fun _ => 0)))] H := hP
  have hD : va_D A [(h0, .inr (0, [.ref q1, .ref q2, .ref q3, .ref q4, .ref q5, .null, .null, .int 0, .int 0, .int 0, .int 0])), (q1, .inl (c1, 16, .inl (fun _ => 0))), (q2, .inl (c2, 16, .inr (.inl (fun _ => 0)))), (q3, .inl (c3, 16, .inr (.inl (fun _ => 0)))), (q4, .inl (c4, 12, .inl (fun _ => 0))), (q5, .inl (c5, 12, .inl (fun _ => 0))), (q6, .inl (c6, 12, .inl (fun _ => 0)))] := hD
  have hK : va_K D vwCl [(c1, .int), (c2, .long), (c3, .long), (c4, .int), (c5, .int), (c6, .int)] s := hK
  refine va_putF (D := D) (ci := 0) (v := .ref q6) (ty := .array .int) (C := RX1) (T := TX1) (N := 11) hx hb hts hin2 tyX1 tyX1_ok nmX1 hown hK hP hD hS 0 rfl rfl 5 (by decide) (hts (.fieldLink RX1 26 "StretchDesk" "stepBs" "[I") (by decide +kernel)) (fun _ h9 => h9) rfl hin rfl (by decide +kernel) rfl rfl (Nat.le_of_ble_eq_true rfl) dX1_init_49 (fun H locs hP hD hS => ?_)
  have hP : va_P D vwCl [(h0, .inr (0, [.ref q1, .ref q2, .ref q3, .ref q4, .ref q5, .ref q6, .null, .int 0, .int 0, .int 0, .int 0])), (q1, .inl (c1, 16, .inl (fun _ => 0))), (q2, .inl (c2, 16, .inr (.inl (fun _ => 0)))), (q3, .inl (c3, 16, .inr (.inl (fun _ => 0)))), (q4, .inl (c4, 12, .inl (fun _ => 0))), (q5, .inl (c5, 12, .inl (fun _ => 0))), (q6, .inl (c6, 12, .inl (fun _ => 0)))] H := hP
  have hD : va_D A [(h0, .inr (0, [.ref q1, .ref q2, .ref q3, .ref q4, .ref q5, .ref q6, .null, .int 0, .int 0, .int 0, .int 0])), (q1, .inl (c1, 16, .inl (fun _ => 0))), (q2, .inl (c2, 16, .inr (.inl (fun _ => 0)))), (q3, .inl (c3, 16, .inr (.inl (fun _ => 0)))), (q4, .inl (c4, 12, .inl (fun _ => 0))), (q5, .inl (c5, 12, .inl (fun _ => 0))), (q6, .inl (c6, 12, .inl (fun _ => 0)))] := hD
  refine lv_aload_n hx hb dX1_init_52 rfl (lv_at hl 0 rfl) ?_
  refine lv_bipush (v := 12) hx hb dX1_init_53 (by decide) ?_
  refine va_newa (D := D) (atype := .int) (ty := .int) (N' := 12) (a0 := (12, .inl (fun _ => 0))) hx hb (hts (.arrayClass .int) (by decide +kernel)) rfl hK hP hD hS hA (fun _ => rfl) (by decide) (by decide) (by show 12 * 4 ≤ 536870912; omega) (Nat.le_of_ble_eq_true rfl) (Nat.le_of_ble_eq_true rfl) dX1_init_55 (fun q7 c7 H hK hP hD hS => ?_)
  have hP : va_P D vwCl [(h0, .inr (0, [.ref q1, .ref q2, .ref q3, .ref q4, .ref q5, .ref q6, .null, .int 0, .int 0, .int 0, .int 0])), (q1, .inl (c1, 16, .inl (fun _ => 0))), (q2, .inl (c2, 16, .inr (.inl (fun _ => 0)))), (q3, .inl (c3, 16, .inr (.inl (fun _ => 0)))), (q4, .inl (c4, 12, .inl (fun _ => 0))), (q5, .inl (c5, 12, .inl (fun _ => 0))), (q6, .inl (c6, 12, .inl (fun _ => 0))), (q7, .inl (c7, 12, .inl (fun _ => 0)))] H := hP
  have hD : va_D A [(h0, .inr (0, [.ref q1, .ref q2, .ref q3, .ref q4, .ref q5, .ref q6, .null, .int 0, .int 0, .int 0, .int 0])), (q1, .inl (c1, 16, .inl (fun _ => 0))), (q2, .inl (c2, 16, .inr (.inl (fun _ => 0)))), (q3, .inl (c3, 16, .inr (.inl (fun _ => 0)))), (q4, .inl (c4, 12, .inl (fun _ => 0))), (q5, .inl (c5, 12, .inl (fun _ => 0))), (q6, .inl (c6, 12, .inl (fun _ => 0))), (q7, .inl (c7, 12, .inl (fun _ => 0)))] := hD
  have hK : va_K D vwCl [(c1, .int), (c2, .long), (c3, .long), (c4, .int), (c5, .int), (c6, .int), (c7, .int)] s := hK
  refine va_putF (D := D) (ci := 0) (v := .ref q7) (ty := .array .int) (C := RX1) (T := TX1) (N := 11) hx hb hts hin2 tyX1 tyX1_ok nmX1 hown hK hP hD hS 0 rfl rfl 6 (by decide) (hts (.fieldLink RX1 29 "StretchDesk" "stepTos" "[I") (by decide +kernel)) (fun _ h9 => h9) rfl hin rfl (by decide +kernel) rfl rfl (Nat.le_of_ble_eq_true rfl) dX1_init_57 (fun H locs hP hD hS => ?_)
  have hP : va_P D vwCl [(h0, .inr (0, [.ref q1, .ref q2, .ref q3, .ref q4, .ref q5, .ref q6, .ref q7, .int 0, .int 0, .int 0, .int 0])), (q1, .inl (c1, 16, .inl (fun _ => 0))), (q2, .inl (c2, 16, .inr (.inl (fun _ => 0)))), (q3, .inl (c3, 16, .inr (.inl (fun _ => 0)))), (q4, .inl (c4, 12, .inl (fun _ => 0))), (q5, .inl (c5, 12, .inl (fun _ => 0))), (q6, .inl (c6, 12, .inl (fun _ => 0))), (q7, .inl (c7, 12, .inl (fun _ => 0)))] H := hP
  have hD : va_D A [(h0, .inr (0, [.ref q1, .ref q2, .ref q3, .ref q4, .ref q5, .ref q6, .ref q7, .int 0, .int 0, .int 0, .int 0])), (q1, .inl (c1, 16, .inl (fun _ => 0))), (q2, .inl (c2, 16, .inr (.inl (fun _ => 0)))), (q3, .inl (c3, 16, .inr (.inl (fun _ => 0)))), (q4, .inl (c4, 12, .inl (fun _ => 0))), (q5, .inl (c5, 12, .inl (fun _ => 0))), (q6, .inl (c6, 12, .inl (fun _ => 0))), (q7, .inl (c7, 12, .inl (fun _ => 0)))] := hD
  refine W.widen (k := 7) (n := 96) (Nat.le_of_ble_eq_true rfl) (Nat.le_of_ble_eq_true rfl) ?_
  obtain ⟨ad, ea⟩ : ∃ ad : Nat → Nat, ad = (fun k => match k with | 0 => h0 | 1 => q1 | 2 => q2 | 3 => q3 | 4 => q4 | 5 => q5 | 6 => q6 | _ => q7) := ⟨_, rfl⟩
  obtain ⟨cy, ec⟩ : ∃ cy : Nat → ClassId, cy = (fun k => match k with | 0 => c1 | 1 => c1 | 2 => c2 | 3 => c3 | 4 => c4 | 5 => c5 | 6 => c6 | _ => c7) := ⟨_, rfl⟩
  have hw : Gd D (xT cy) A s (xW ad cy (xBlank (fun _ => 0) (fun _ => 0))) H locs := by subst ea; subst ec; exact ⟨hP, hD, hK, hS⟩
  have h0e : ad 0 = h0 := by subst ea; rfl
  have hl : lv_has ls 2 [(0, .ref (ad 0))] := by rw [h0e]; exact hl
  refine W.eq (g2 := F0 m 60 ls []) rfl ?_
  refine x_fill ⟨hx, hb, hml, hown, hts⟩ hl hw (fun ls H locs hw => ?_)
  exact W.vret hx hb hr (fun t ht hW => ⟨⟨xInit, rfl, rfl, ad, cy, h0e, by rw [ht]; exact hw.1, va_K.moved hW.alike hw.2.2.1, hw.2.1⟩, hw.2.2.2.F ht⟩) hw.2.2.2.2.2 dX1_init_102
set_option maxHeartbeats 4000000 in
set_option maxRecDepth 100000 in
theorem c_X2_init (l : Launch) (D : va_G) (h0 sz : Nat) : Met l yX2_init wsX2_init ({ frames := 1, cells := 8, slots := 108, locals := 12 }) (va_Pc [.ref h0] (fun U => U.heap.size = sz ∧ va_P D vwCl [(h0, .inr (1, [.null, .null, .null, .null, .null, .null, .null, .null, .int 0, .int 0, .int 0, .int 0]))] U.heap ∧ va_K D vwCl [] U ∧ va_D (fun _ => True) [(h0, .inr (1, [.null, .null, .null, .null, .null, .null, .null, .null, .int 0, .int 0, .int 0, .int 0]))])) (va_Qv (fun u : MS => u = mInit) (at_M D (va_A [(h0, .inr (1, [.null, .null, .null, .null, .null, .null, .null, .null, .int 0, .int 0, .int 0, .int 0]))] sz) h0) (va_A [(h0, .inr (1, [.null, .null, .null, .null, .null, .null, .null, .null, .int 0, .int 0, .int 0, .int 0]))] sz)) 8 108 (va_A [(h0, .inr (1, [.null, .null, .null, .null, .null, .null, .null, .null, .int 0, .int 0, .int 0, .int 0]))] sz) := by
  refine Met.ofW (cc := cX2_init) (maxL := 1) (ret := none) (by decide) rfl ?_
  intro p e s m args below meth c s₁ B hml hv
  obtain ⟨rfl, hsz, hP, hK, hD0⟩ := hv
  have hx := B.exec
  have hb := B.bytes
  have hr := B.returns
  have hts := atoms_spec (ws := wsX2_init) B.pre
  have hown : s.vm.findClass RX2 = some m.cls := findClass_of_methodNamed B.named
  have hlocks := B.notSynchronized
  have hin : meth.name = "<init>" := (name_of_methodNamed B.named B.method).1
  have hin2 : ∀ w ∈ wsX20, w ∈ wsX2_init := fun w h => List.mem_cons_of_mem _ (List.mem_append_right _ h)
  subst hsz
  have hD := hD0.self (sz := s.heap.size)
  generalize hAe : va_A [(h0, .inr (1, [.null, .null, .null, .null, .null, .null, .null, .null, .int 0, .int 0, .int 0, .int 0]))] s.heap.size = A at hD ⊢
  have hA : ∀ q : Nat, s.heap.size ≤ q → A q := fun q h => by rw [← hAe]; exact Or.inr h
  have hS : va_S A s.heap s.heap [] := va_S.rf
  have hP : va_P D vwCl [(h0, .inr (1, [.null, .null, .null, .null, .null, .null, .null, .null, .int 0, .int 0, .int 0, .int 0]))] s.heap := hP
  have hl := lv_entry ([.ref h0]) (n := 1) (Nat.le_of_ble_eq_true rfl)
  rw [lg_entry_eq]
  generalize (lg_sl ([.ref h0]) ++ List.replicate (1 - (lg_sl ([.ref h0])).length) Slot.unset).toArray = ls at hl ⊢
  have hl : lv_has ls 1 [(0, .ref h0)] := hl
  refine lv_aload_n hx hb dX2_init_0 rfl (lv_at hl 0 rfl) ?_
  refine W.objInit hx hb hown (hts (.methodLink RX2 1 objectInit) (by decide +kernel)) (hts (.instanceMethod objectInit) (by decide +kernel)) (hts _ (List.mem_cons_of_mem _ (List.mem_append_left _ (List.mem_of_getElem? (i := 2) rfl)))) rfl (by rw [hml]; exact hl.1) rfl dX2_init_1 (Nat.le_of_ble_eq_true rfl) (Nat.le_of_ble_eq_true rfl) ?_
  refine W.eq (g2 := F0 m 4 ls []) rfl ?_
  refine lv_aload_n hx hb dX2_init_4 rfl (lv_at hl 0 rfl) ?_
  refine lv_bipush (v := 16) hx hb dX2_init_5 (by decide) ?_
  refine va_newa (D := D) (atype := .int) (ty := .int) (N' := 16) (a0 := (16, .inl (fun _ => 0))) hx hb (hts (.arrayClass .int) (by decide +kernel)) rfl hK hP hD hS hA (fun _ => rfl) (by decide) (by decide) (by show 16 * 4 ≤ 536870912; omega) (Nat.le_of_ble_eq_true rfl) (Nat.le_of_ble_eq_true rfl) dX2_init_7 (fun q1 c1 H hK hP hD hS => ?_)
  have hP : va_P D vwCl [(h0, .inr (1, [.null, .null, .null, .null, .null, .null, .null, .null, .int 0, .int 0, .int 0, .int 0])), (q1, .inl (c1, 16, .inl (fun _ => 0)))] H := hP
  have hD : va_D A [(h0, .inr (1, [.null, .null, .null, .null, .null, .null, .null, .null, .int 0, .int 0, .int 0, .int 0])), (q1, .inl (c1, 16, .inl (fun _ => 0)))] := hD
  have hK : va_K D vwCl [(c1, .int)] s := hK
  rw [show (fun _ : Nat => (0 : Int32)) = zFill 0 from zFill_0.symm] at hP hD
  refine lv_dup hx hb dX2_init_9 rfl ?_
  refine lv_iconst (v := 0) hx hb dX2_init_10 (by decide) ?_
  refine lv_iconst (v := -1) hx hb dX2_init_11 (by decide) ?_
  refine va_iast hx hb hK hP hD hS 1 0 rfl rfl (zIn (by decide)) dX2_init_12 (fun H locs hP hD hS => ?_)
  have hP : va_P D vwCl [(h0, .inr (1, [.null, .null, .null, .null, .null, .null, .null, .null, .int 0, .int 0, .int 0, .int 0])), (q1, .inl (c1, 16, .inl (upd (zFill 0) 0 (-1))))] H := hP
  have hD : va_D A [(h0, .inr (1, [.null, .null, .null, .null, .null, .null, .null, .null, .int 0, .int 0, .int 0, .int 0])), (q1, .inl (c1, 16, .inl (upd (zFill 0) 0 (-1))))] := hD
  rw [zFill_up 0] at hP hD
  refine lv_dup hx hb dX2_init_13 rfl ?_
  refine lv_iconst (v := 1) hx hb dX2_init_14 (by decide) ?_
  refine lv_iconst (v := -1) hx hb dX2_init_15 (by decide) ?_
  refine va_iast hx hb hK hP hD hS 1 0 rfl rfl (zIn (by decide)) dX2_init_16 (fun H locs hP hD hS => ?_)
  have hP : va_P D vwCl [(h0, .inr (1, [.null, .null, .null, .null, .null, .null, .null, .null, .int 0, .int 0, .int 0, .int 0])), (q1, .inl (c1, 16, .inl (upd (zFill 1) 1 (-1))))] H := hP
  have hD : va_D A [(h0, .inr (1, [.null, .null, .null, .null, .null, .null, .null, .null, .int 0, .int 0, .int 0, .int 0])), (q1, .inl (c1, 16, .inl (upd (zFill 1) 1 (-1))))] := hD
  rw [zFill_up 1] at hP hD
  refine lv_dup hx hb dX2_init_17 rfl ?_
  refine lv_iconst (v := 2) hx hb dX2_init_18 (by decide) ?_
  refine lv_iconst (v := -1) hx hb dX2_init_19 (by decide) ?_
  refine va_iast hx hb hK hP hD hS 1 0 rfl rfl (zIn (by decide)) dX2_init_20 (fun H locs hP hD hS => ?_)
  have hP : va_P D vwCl [(h0, .inr (1, [.null, .null, .null, .null, .null, .null, .null, .null, .int 0, .int 0, .int 0, .int 0])), (q1, .inl (c1, 16, .inl (upd (zFill 2) 2 (-1))))] H := hP
  have hD : va_D A [(h0, .inr (1, [.null, .null, .null, .null, .null, .null, .null, .null, .int 0, .int 0, .int 0, .int 0])), (q1, .inl (c1, 16, .inl (upd (zFill 2) 2 (-1))))] := hD
  rw [zFill_up 2] at hP hD
  refine lv_dup hx hb dX2_init_21 rfl ?_
  refine lv_iconst (v := 3) hx hb dX2_init_22 (by decide) ?_
  refine lv_iconst (v := -1) hx hb dX2_init_23 (by decide) ?_
  refine va_iast hx hb hK hP hD hS 1 0 rfl rfl (zIn (by decide)) dX2_init_24 (fun H locs hP hD hS => ?_)
  have hP : va_P D vwCl [(h0, .inr (1, [.null, .null, .null, .null, .null, .null, .null, .null, .int 0, .int 0, .int 0, .int 0])), (q1, .inl (c1, 16, .inl (upd (zFill 3) 3 (-1))))] H := hP
  have hD : va_D A [(h0, .inr (1, [.null, .null, .null, .null, .null, .null, .null, .null, .int 0, .int 0, .int 0, .int 0])), (q1, .inl (c1, 16, .inl (upd (zFill 3) 3 (-1))))] := hD
  rw [zFill_up 3] at hP hD
  refine lv_dup hx hb dX2_init_25 rfl ?_
  refine lv_iconst (v := 4) hx hb dX2_init_26 (by decide) ?_
  refine lv_iconst (v := -1) hx hb dX2_init_27 (by decide) ?_
  refine va_iast hx hb hK hP hD hS 1 0 rfl rfl (zIn (by decide)) dX2_init_28 (fun H locs hP hD hS => ?_)
  have hP : va_P D vwCl [(h0, .inr (1, [.null, .null, .null, .null, .null, .null, .null, .null, .int 0, .int 0, .int 0, .int 0])), (q1, .inl (c1, 16, .inl (upd (zFill 4) 4 (-1))))] H := hP
  have hD : va_D A [(h0, .inr (1, [.null, .null, .null, .null, .null, .null, .null, .null, .int 0, .int 0, .int 0, .int 0])), (q1, .inl (c1, 16, .inl (upd (zFill 4) 4 (-1))))] := hD
  rw [zFill_up 4] at hP hD
  refine lv_dup hx hb dX2_init_29 rfl ?_
  refine lv_iconst (v := 5) hx hb dX2_init_30 (by decide) ?_
  refine lv_iconst (v := -1) hx hb dX2_init_31 (by decide) ?_
  refine va_iast hx hb hK hP hD hS 1 0 rfl rfl (zIn (by decide)) dX2_init_32 (fun H locs hP hD hS => ?_)
  have hP : va_P D vwCl [(h0, .inr (1, [.null, .null, .null, .null, .null, .null, .null, .null, .int 0, .int 0, .int 0, .int 0])), (q1, .inl (c1, 16, .inl (upd (zFill 5) 5 (-1))))] H := hP
  have hD : va_D A [(h0, .inr (1, [.null, .null, .null, .null, .null, .null, .null, .null, .int 0, .int 0, .int 0, .int 0])), (q1, .inl (c1, 16, .inl (upd (zFill 5) 5 (-1))))] := hD
  rw [zFill_up 5] at hP hD
  refine lv_dup hx hb dX2_init_33 rfl ?_
  refine lv_bipush (v := 6) hx hb dX2_init_34 (by decide) ?_
  refine lv_iconst (v := -1) hx hb dX2_init_36 (by decide) ?_
  refine va_iast hx hb hK hP hD hS 1 0 rfl rfl (zIn (by decide)) dX2_init_37 (fun H locs hP hD hS => ?_)
  have hP : va_P D vwCl [(h0, .inr (1, [.null, .null, .null, .null, .null, .null, .null, .null, .int 0, .int 0, .int 0, .int 0])), (q1, .inl (c1, 16, .inl (upd (zFill 6) 6 (-1))))] H := hP
  have hD : va_D A [(h0, .inr (1, [.null, .null, .null, .null, .null, .null, .null, .null, .int 0, .int 0, .int 0, .int 0])), (q1, .inl (c1, 16, .inl (upd (zFill 6) 6 (-1))))] := hD
  rw [zFill_up 6] at hP hD
  refine lv_dup hx hb dX2_init_38 rfl ?_
  refine lv_bipush (v := 7) hx hb dX2_init_39 (by decide) ?_
  refine lv_iconst (v := -1) hx hb dX2_init_41 (by decide) ?_
  refine va_iast hx hb hK hP hD hS 1 0 rfl rfl (zIn (by decide)) dX2_init_42 (fun H locs hP hD hS => ?_)
  have hP : va_P D vwCl [(h0, .inr (1, [.null, .null, .null, .null, .null, .null, .null, .null, .int 0, .int 0, .int 0, .int 0])), (q1, .inl (c1, 16, .inl (upd (zFill 7) 7 (-1))))] H := hP
  have hD : va_D A [(h0, .inr (1, [.null, .null, .null, .null, .null, .null, .null, .null, .int 0, .int 0, .int 0, .int 0])), (q1, .inl (c1, 16, .inl (upd (zFill 7) 7 (-1))))] := hD
  rw [zFill_up 7] at hP hD
  refine lv_dup hx hb dX2_init_43 rfl ?_
  refine lv_bipush (v := 8) hx hb dX2_init_44 (by decide) ?_
  refine lv_iconst (v := -1) hx hb dX2_init_46 (by decide) ?_
  refine va_iast hx hb hK hP hD hS 1 0 rfl rfl (zIn (by decide)) dX2_init_47 (fun H locs hP hD hS => ?_)
  have hP : va_P D vwCl [(h0, .inr (1, [.null, .null, .null, .null, .null, .null, .null, .null, .int 0, .int 0, .int 0, .int 0])), (q1, .inl (c1, 16, .inl (upd (zFill 8) 8 (-1))))] H := hP
  have hD : va_D A [(h0, .inr (1, [.null, .null, .null, .null, .null, .null, .null, .null, .int 0, .int 0, .int 0, .int 0])), (q1, .inl (c1, 16, .inl (upd (zFill 8) 8 (-1))))] := hD
  rw [zFill_up 8] at hP hD
  refine lv_dup hx hb dX2_init_48 rfl ?_
  refine lv_bipush (v := 9) hx hb dX2_init_49 (by decide) ?_
  refine lv_iconst (v := -1) hx hb dX2_init_51 (by decide) ?_
  refine va_iast hx hb hK hP hD hS 1 0 rfl rfl (zIn (by decide)) dX2_init_52 (fun H locs hP hD hS => ?_)
  have hP : va_P D vwCl [(h0, .inr (1, [.null, .null, .null, .null, .null, .null, .null, .null, .int 0, .int 0, .int 0, .int 0])), (q1, .inl (c1, 16, .inl (upd (zFill 9) 9 (-1))))] H := hP
  have hD : va_D A [(h0, .inr (1, [.null, .null, .null, .null, .null, .null, .null, .null, .int 0, .int 0, .int 0, .int 0])), (q1, .inl (c1, 16, .inl (upd (zFill 9) 9 (-1))))] := hD
  rw [zFill_up 9] at hP hD
  refine lv_dup hx hb dX2_init_53 rfl ?_
  refine lv_bipush (v := 10) hx hb dX2_init_54 (by decide) ?_
  refine lv_iconst (v := -1) hx hb dX2_init_56 (by decide) ?_
  refine va_iast hx hb hK hP hD hS 1 0 rfl rfl (zIn (by decide)) dX2_init_57 (fun H locs hP hD hS => ?_)
  have hP : va_P D vwCl [(h0, .inr (1, [.null, .null, .null, .null, .null, .null, .null, .null, .int 0, .int 0, .int 0, .int 0])), (q1, .inl (c1, 16, .inl (upd (zFill 10) 10 (-1))))] H := hP
  have hD : va_D A [(h0, .inr (1, [.null, .null, .null, .null, .null, .null, .null, .null, .int 0, .int 0, .int 0, .int 0])), (q1, .inl (c1, 16, .inl (upd (zFill 10) 10 (-1))))] := hD
  rw [zFill_up 10] at hP hD
  refine lv_dup hx hb dX2_init_58 rfl ?_
  refine lv_bipush (v := 11) hx hb dX2_init_59 (by decide) ?_
  refine lv_iconst (v := -1) hx hb dX2_init_61 (by decide) ?_
  refine va_iast hx hb hK hP hD hS 1 0 rfl rfl (zIn (by decide)) dX2_init_62 (fun H locs hP hD hS => ?_)
  have hP : va_P D vwCl [(h0, .inr (1, [.null, .null, .null, .null, .null, .null, .null, .null, .int 0, .int 0, .int 0, .int 0])), (q1, .inl (c1, 16, .inl (upd (zFill 11) 11 (-1))))] H := hP
  have hD : va_D A [(h0, .inr (1, [.null, .null, .null, .null, .null, .null, .null, .null, .int 0, .int 0, .int 0, .int 0])), (q1, .inl (c1, 16, .inl (upd (zFill 11) 11 (-1))))] := hD
  rw [zFill_up 11] at hP hD
  refine lv_dup hx hb dX2_init_63 rfl ?_
  refine lv_bipush (v := 12) hx hb dX2_init_64 (by decide) ?_
  refine lv_iconst (v := -1) hx hb dX2_init_66 (by decide) ?_
  refine va_iast hx hb hK hP hD hS 1 0 rfl rfl (zIn (by decide)) dX2_init_67 (fun H locs hP hD hS => ?_)
  have hP : va_P D vwCl [(h0, .inr (1, [.null, .null, .null, .null, .null, .null, .null, .null, .int 0, .int 0, .int 0, .int 0])), (q1, .inl (c1, 16, .inl (upd (zFill 12) 12 (-1))))] H := hP
  have hD : va_D A [(h0, .inr (1, [.null, .null, .null, .null, .null, .null, .null, .null, .int 0, .int 0, .int 0, .int 0])), (q1, .inl (c1, 16, .inl (upd (zFill 12) 12 (-1))))] := hD
  rw [zFill_up 12] at hP hD
  refine lv_dup hx hb dX2_init_68 rfl ?_
  refine lv_bipush (v := 13) hx hb dX2_init_69 (by decide) ?_
  refine lv_iconst (v := -1) hx hb dX2_init_71 (by decide) ?_
  refine va_iast hx hb hK hP hD hS 1 0 rfl rfl (zIn (by decide)) dX2_init_72 (fun H locs hP hD hS => ?_)
  have hP : va_P D vwCl [(h0, .inr (1, [.null, .null, .null, .null, .null, .null, .null, .null, .int 0, .int 0, .int 0, .int 0])), (q1, .inl (c1, 16, .inl (upd (zFill 13) 13 (-1))))] H := hP
  have hD : va_D A [(h0, .inr (1, [.null, .null, .null, .null, .null, .null, .null, .null, .int 0, .int 0, .int 0, .int 0])), (q1, .inl (c1, 16, .inl (upd (zFill 13) 13 (-1))))] := hD
  rw [zFill_up 13] at hP hD
  refine lv_dup hx hb dX2_init_73 rfl ?_
  refine lv_bipush (v := 14) hx hb dX2_init_74 (by decide) ?_
  refine lv_iconst (v := -1) hx hb dX2_init_76 (by decide) ?_
  refine va_iast hx hb hK hP hD hS 1 0 rfl rfl (zIn (by decide)) dX2_init_77 (fun H locs hP hD hS => ?_)
  have hP : va_P D vwCl [(h0, .inr (1, [.null, .null, .null, .null, .null, .null, .null, .null, .int 0, .int 0, .int 0, .int 0])), (q1, .inl (c1, 16, .inl (upd (zFill 14) 14 (-1))))] H := hP
  have hD : va_D A [(h0, .inr (1, [.null, .null, .null, .null, .null, .null, .null, .null, .int 0, .int 0, .int 0, .int 0])), (q1, .inl (c1, 16, .inl (upd (zFill 14) 14 (-1))))] := hD
  rw [zFill_up 14] at hP hD
  refine lv_dup hx hb dX2_init_78 rfl ?_
  refine lv_bipush (v := 15) hx hb dX2_init_79 (by decide) ?_
  refine lv_iconst (v := -1) hx hb dX2_init_81 (by decide) ?_
  refine va_iast hx hb hK hP hD hS 1 0 rfl rfl (zIn (by decide)) dX2_init_82 (fun H locs hP hD hS => ?_)
  have hP : va_P D vwCl [(h0, .inr (1, [.null, .null, .null, .null, .null, .null, .null, .null, .int 0, .int 0, .int 0, .int 0])), (q1, .inl (c1, 16, .inl (upd (zFill 15) 15 (-1))))] H := hP
  have hD : va_D A [(h0, .inr (1, [.null, .null, .null, .null, .null, .null, .null, .null, .int 0, .int 0, .int 0, .int 0])), (q1, .inl (c1, 16, .inl (upd (zFill 15) 15 (-1))))] := hD
  rw [zFill_up 15] at hP hD
  refine va_putF (D := D) (ci := 1) (v := .ref q1) (ty := .array .int) (C := RX2) (T := TX2) (N := 12) hx hb hts hin2 tyX2 tyX2_ok nmX2 hown hK hP hD hS 0 rfl rfl 0 (by decide) (hts (.fieldLink RX2 7 "StretchDeskModel" "sorts" "[I") (by decide +kernel)) (fun _ h9 => h9) rfl hin rfl (by decide +kernel) rfl rfl (Nat.le_of_ble_eq_true rfl) dX2_init_83 (fun H locs hP hD hS => ?_)
  have hP : va_P D vwCl [(h0, .inr (1, [.ref q1, .null, .null, .null, .null, .null, .null, .null, .int 0, .int 0, .int 0, .int 0])), (q1, .inl (c1, 16, .inl (zFill 16)))] H := hP
  have hD : va_D A [(h0, .inr (1, [.ref q1, .null, .null, .null, .null, .null, .null, .null, .int 0, .int 0, .int 0, .int 0])), (q1, .inl (c1, 16, .inl (zFill 16)))] := hD
  refine lv_aload_n hx hb dX2_init_86 rfl (lv_at hl 0 rfl) ?_
  refine lv_bipush (v := 16) hx hb dX2_init_87 (by decide) ?_
  refine va_newa (D := D) (atype := .long) (ty := .long) (N' := 16) (a0 := (16, .inr (.inl (fun _ => 0)))) hx hb (hts (.arrayClass .long) (by decide +kernel)) rfl hK hP hD hS hA (fun _ => rfl) (by decide) (by decide) (by show 16 * 8 ≤ 536870912; omega) (Nat.le_of_ble_eq_true rfl) (Nat.le_of_ble_eq_true rfl) dX2_init_89 (fun q2 c2 H hK hP hD hS => ?_)
  have hP : va_P D vwCl [(h0, .inr (1, [.ref q1, .null, .null, .null, .null, .null, .null, .null, .int 0, .int 0, .int 0, .int 0])), (q1, .inl (c1, 16, .inl (zFill 16))), (q2, .inl (c2, 16, .inr (.inl (fun _ => 0))))] H := hP
  have hD : va_D A [(h0, .inr (1, [.ref q1, .null, .null, .null, .null, .null, .null, .null, .int 0, .int 0, .int 0, .int 0])), (q1, .inl (c1, 16, .inl (zFill 16))), (q2, .inl (c2, 16, .inr (.inl (fun _ => 0))))] := hD
  have hK : va_K D vwCl [(c1, .int), (c2, .long)] s := hK
  refine va_putF (D := D) (ci := 1) (v := .ref q2) (ty := .array .long) (C := RX2) (T := TX2) (N := 12) hx hb hts hin2 tyX2 tyX2_ok nmX2 hown hK hP hD hS 0 rfl rfl 1 (by decide) (hts (.fieldLink RX2 13 "StretchDeskModel" "lows" "[J") (by decide +kernel)) (fun _ h9 => h9) rfl hin rfl (by decide +kernel) rfl rfl (Nat.le_of_ble_eq_true rfl) dX2_init_91 (fun H locs hP hD hS => ?_)
  have hP : va_P D vwCl [(h0, .inr (1, [.ref q1, .ref q2, .null, .null, .null, .null, .null, .null, .int 0, .int 0, .int 0, .int 0])), (q1, .inl (c1, 16, .inl (zFill 16))), (q2, .inl (c2, 16, .inr (.inl (fun _ => 0))))] H := hP
  have hD : va_D A [(h0, .inr (1, [.ref q1, .ref q2, .null, .null, .null, .null, .null, .null, .int 0, .int 0, .int 0, .int 0])), (q1, .inl (c1, 16, .inl (zFill 16))), (q2, .inl (c2, 16, .inr (.inl (fun _ => 0))))] := hD
  refine lv_aload_n hx hb dX2_init_94 rfl (lv_at hl 0 rfl) ?_
  refine lv_bipush (v := 16) hx hb dX2_init_95 (by decide) ?_
  refine va_newa (D := D) (atype := .long) (ty := .long) (N' := 16) (a0 := (16, .inr (.inl (fun _ => 0)))) hx hb (hts (.arrayClass .long) (by decide +kernel)) rfl hK hP hD hS hA (fun _ => rfl) (by decide) (by decide) (by show 16 * 8 ≤ 536870912; omega) (Nat.le_of_ble_eq_true rfl) (Nat.le_of_ble_eq_true rfl) dX2_init_97 (fun q3 c3 H hK hP hD hS => ?_)
  have hP : va_P D vwCl [(h0, .inr (1, [.ref q1, .ref q2, .null, .null, .null, .null, .null, .null, .int 0, .int 0, .int 0, .int 0])), (q1, .inl (c1, 16, .inl (zFill 16))), (q2, .inl (c2, 16, .inr (.inl (fun _ => 0)))), (q3, .inl (c3, 16, .inr (.inl (fun _ => 0))))] H := hP
  have hD : va_D A [(h0, .inr (1, [.ref q1, .ref q2, .null, .null, .null, .null, .null, .null, .int 0, .int 0, .int 0, .int 0])), (q1, .inl (c1, 16, .inl (zFill 16))), (q2, .inl (c2, 16, .inr (.inl (fun _ => 0)))), (q3, .inl (c3, 16, .inr (.inl (fun _ => 0))))] := hD
  have hK : va_K D vwCl [(c1, .int), (c2, .long), (c3, .long)] s := hK
  refine va_putF (D := D) (ci := 1) (v := .ref q3) (ty := .array .long) (C := RX2) (T := TX2) (N := 12) hx hb hts hin2 tyX2 tyX2_ok nmX2 hown hK hP hD hS 0 rfl rfl 2 (by decide) (hts (.fieldLink RX2 17 "StretchDeskModel" "highs" "[J") (by decide +kernel)) (fun _ h9 => h9) rfl hin rfl (by decide +kernel) rfl rfl (Nat.le_of_ble_eq_true rfl) dX2_init_99 (fun H locs hP hD hS => ?_)
  have hP : va_P D vwCl [(h0, .inr (1, [.ref q1, .ref q2, .ref q3, .null, .null, .null, .null, .null, .int 0, .int 0, .int 0, .int 0])), (q1, .inl (c1, 16, .inl (zFill 16))), (q2, .inl (c2, 16, .inr (.inl (fun _ => 0)))), (q3, .inl (c3, 16, .inr (.inl (fun _ => 0))))] H := hP
  have hD : va_D A [(h0, .inr (1, [.ref q1, .ref q2, .ref q3, .null, .null, .null, .null, .null, .int 0, .int 0, .int 0, .int 0])), (q1, .inl (c1, 16, .inl (zFill 16))), (q2, .inl (c2, 16, .inr (.inl (fun _ => 0)))), (q3, .inl (c3, 16, .inr (.inl (fun _ => 0))))] := hD
  refine lv_aload_n hx hb dX2_init_102 rfl (lv_at hl 0 rfl) ?_
  refine lv_bipush (v := 12) hx hb dX2_init_103 (by decide) ?_
  refine va_newa (D := D) (atype := .boolean) (ty := .boolean) (N' := 12) (a0 := (12, .inl (fun _ => 0))) hx hb (hts (.arrayClass .boolean) (by decide +kernel)) rfl hK hP hD hS hA (fun _ => rfl) (by decide) (by decide) (by show 12 * 1 ≤ 536870912; omega) (Nat.le_of_ble_eq_true rfl) (Nat.le_of_ble_eq_true rfl) dX2_init_105 (fun q4 c4 H hK hP hD hS => ?_)
  have hP : va_P D vwCl [(h0, .inr (1, [.ref q1, .ref q2, .ref q3, .null, .null, .null, .null, .null, .int 0, .int 0, .int 0, .int 0])), (q1, .inl (c1, 16, .inl (zFill 16))), (q2, .inl (c2, 16, .inr (.inl (fun _ => 0)))), (q3, .inl (c3, 16, .inr (.inl (fun _ => 0)))), (q4, .inl (c4, 12, .inl (fun _ => 0)))] H := hP
  have hD : va_D A [(h0, .inr (1, [.ref q1, .ref q2, .ref q3, .null, .null, .null, .null, .null, .int 0, .int 0, .int 0, .int 0])), (q1, .inl (c1, 16, .inl (zFill 16))), (q2, .inl (c2, 16, .inr (.inl (fun _ => 0)))), (q3, .inl (c3, 16, .inr (.inl (fun _ => 0)))), (q4, .inl (c4, 12, .inl (fun _ => 0)))] := hD
  have hK : va_K D vwCl [(c1, .int), (c2, .long), (c3, .long), (c4, .boolean)] s := hK
  refine va_putF (D := D) (ci := 1) (v := .ref q4) (ty := .array .boolean) (C := RX2) (T := TX2) (N := 12) hx hb hts hin2 tyX2 tyX2_ok nmX2 hown hK hP hD hS 0 rfl rfl 3 (by decide) (hts (.fieldLink RX2 20 "StretchDeskModel" "there" "[Z") (by decide +kernel)) (fun _ h9 => h9) rfl hin rfl (by decide +kernel) rfl rfl (Nat.le_of_ble_eq_true rfl) dX2_init_107 (fun H locs hP hD hS => ?_)
  have hP : va_P D vwCl [(h0, .inr (1, [.ref q1, .ref q2, .ref q3, .ref q4, .null, .null, .null, .null, .int 0, .int 0, .int 0, .int 0])), (q1, .inl (c1, 16, .inl (zFill 16))), (q2, .inl (c2, 16, .inr (.inl (fun _ => 0)))), (q3, .inl (c3, 16, .inr (.inl (fun _ => 0)))), (q4, .inl (c4, 12, .inl (fun _ => 0)))] H := hP
  have hD : va_D A [(h0, .inr (1, [.ref q1, .ref q2, .ref q3, .ref q4, .null, .null, .null, .null, .int 0, .int 0, .int 0, .int 0])), (q1, .inl (c1, 16, .inl (zFill 16))), (q2, .inl (c2, 16, .inr (.inl (fun _ => 0)))), (q3, .inl (c3, 16, .inr (.inl (fun _ => 0)))), (q4, .inl (c4, 12, .inl (fun _ => 0)))] := hD
  refine lv_aload_n hx hb dX2_init_110 rfl (lv_at hl 0 rfl) ?_
  refine lv_bipush (v := 12) hx hb dX2_init_111 (by decide) ?_
  refine va_newa (D := D) (atype := .int) (ty := .int) (N' := 12) (a0 := (12, .inl (fun _ => 0))) hx hb (hts (.arrayClass .int) (by decide +kernel)) rfl hK hP hD hS hA (fun _ => rfl) (by decide) (by decide) (by show 12 * 4 ≤ 536870912; omega) (Nat.le_of_ble_eq_true rfl) (Nat.le_of_ble_eq_true rfl) dX2_init_113 (fun q5 c5 H hK hP hD hS => ?_)
  have hP : va_P D vwCl [(h0, .inr (1, [.ref q1, .ref q2, .ref q3, .ref q4, .null, .null, .null, .null, .int 0, .int 0, .int 0, .int 0])), (q1, .inl (c1, 16, .inl (zFill 16))), (q2, .inl (c2, 16, .inr (.inl (fun _ => 0)))), (q3, .inl (c3, 16, .inr (.inl (fun _ => 0)))), (q4, .inl (c4, 12, .inl (fun _ => 0))), (q5, .inl (c5, 12, .inl (fun _ => 0)))] H := hP
  have hD : va_D A [(h0, .inr (1, [.ref q1, .ref q2, .ref q3, .ref q4, .null, .null, .null, .null, .int 0, .int 0, .int 0, .int 0])), (q1, .inl (c1, 16, .inl (zFill 16))), (q2, .inl (c2, 16, .inr (.inl (fun _ => 0)))), (q3, .inl (c3, 16, .inr (.inl (fun _ => 0)))), (q4, .inl (c4, 12, .inl (fun _ => 0))), (q5, .inl (c5, 12, .inl (fun _ => 0)))] := hD
  have hK : va_K D vwCl [(c1, .int), (c2, .long), (c3, .long), (c4, .boolean), (c5, .int)] s := hK
  refine va_putF (D := D) (ci := 1) (v := .ref q5) (ty := .array .int) (C := RX2) (T := TX2) (N := 12) hx hb hts hin2 tyX2 tyX2_ok nmX2 hown hK hP hD hS 0 rfl rfl 4 (by decide) (hts (.fieldLink RX2 24 "StretchDeskModel" "what" "[I") (by decide +kernel)) (fun _ h9 => h9) rfl hin rfl (by decide +kernel) rfl rfl (Nat.le_of_ble_eq_true rfl) dX2_init_115 (fun H locs hP hD hS => ?_)
  have hP : va_P D vwCl [(h0, .inr (1, [.ref q1, .ref q2, .ref q3, .ref q4, .ref q5, .null, .null, .null, .int 0, .int 0, .int 0, .int 0])), (q1, .inl (c1, 16, .inl (zFill 16))), (q2, .inl (c2, 16, .inr (.inl (fun _ => 0)))), (q3, .inl (c3, 16, .inr (.inl (fun _ => 0)))), (q4, .inl (c4, 12, .inl (fun _ => 0))), (q5, .inl (c5, 12, .inl (fun _ => 0)))] H := hP
  have hD : va_D A [(h0, .inr (1, [.ref q1, .ref q2, .ref q3, .ref q4, .ref q5, .null, .null, .null, .int 0, .int 0, .int 0, .int 0])), (q1, .inl (c1, 16, .inl (zFill 16))), (q2, .inl (c2, 16, .inr (.inl (fun _ => 0)))), (q3, .inl (c3, 16, .inr (.inl (fun _ => 0)))), (q4, .inl (c4, 12, .inl (fun _ => 0))), (q5, .inl (c5, 12, .inl (fun _ => 0)))] := hD
  refine lv_aload_n hx hb dX2_init_118 rfl (lv_at hl 0 rfl) ?_
  refine lv_bipush (v := 12) hx hb dX2_init_119 (by decide) ?_
  refine va_newa (D := D) (atype := .int) (ty := .int) (N' := 12) (a0 := (12, .inl (fun _ => 0))) hx hb (hts (.arrayClass .int) (by decide +kernel)) rfl hK hP hD hS hA (fun _ => rfl) (by decide) (by decide) (by show 12 * 4 ≤ 536870912; omega) (Nat.le_of_ble_eq_true rfl) (Nat.le_of_ble_eq_true rfl) dX2_init_121 (fun q6 c6 H hK hP hD hS => ?_)
  have hP : va_P D vwCl [(h0, .inr (1, [.ref q1, .ref q2, .ref q3, .ref q4, .ref q5, .null, .null, .null, .int 0, .int 0, .int 0, .int 0])), (q1, .inl (c1, 16, .inl (zFill 16))), (q2, .inl (c2, 16, .inr (.inl (fun _ => 0)))), (q3, .inl (c3, 16, .inr (.inl (fun _ => 0)))), (q4, .inl (c4, 12, .inl (fun _ => 0))), (q5, .inl (c5, 12, .inl (fun _ => 0))), (q6, .inl (c6, 12, .inl (fun _ => 0)))] H := hP
  have hD : va_D A [(h0, .inr (1, [.ref q1, .ref q2, .ref q3, .ref q4, .ref q5, .null, .null, .null, .int 0, .int 0, .int 0, .int 0])), (q1, .inl (c1, 16, .inl (zFill 16))), (q2, .inl (c2, 16, .inr (.inl (fun _ => 0)))), (q3, .inl (c3, 16, .inr (.inl (fun _ => 0)))), (q4, .inl (c4, 12, .inl (fun _ => 0))), (q5, .inl (c5, 12, .inl (fun _ => 0))), (q6, .inl (c6, 12, .inl (fun _ => 0)))] := hD
  have hK : va_K D vwCl [(c1, .int), (c2, .long), (c3, .long), (c4, .boolean), (c5, .int), (c6, .int)] s := hK
  refine va_putF (D := D) (ci := 1) (v := .ref q6) (ty := .array .int) (C := RX2) (T := TX2) (N := 12) hx hb hts hin2 tyX2 tyX2_ok nmX2 hown hK hP hD hS 0 rfl rfl 5 (by decide) (hts (.fieldLink RX2 27 "StretchDeskModel" "first" "[I") (by decide +kernel)) (fun _ h9 => h9) rfl hin rfl (by decide +kernel) rfl rfl (Nat.le_of_ble_eq_true rfl) dX2_init_123 (fun H locs hP hD hS => ?_)
  have hP : va_P D vwCl [(h0, .inr (1, [.ref q1, .ref q2, .ref q3, .ref q4, .ref q5, .ref q6, .null, .null, .int 0, .int 0, .int 0, .int 0])), (q1, .inl (c1, 16, .inl (zFill 16))), (q2, .inl (c2, 16, .inr (.inl (fun _ => 0)))), (q3, .inl (c3, 16, .inr (.inl (fun _ => 0)))), (q4, .inl (c4, 12, .inl (fun _ => 0))), (q5, .inl (c5, 12, .inl (fun _ => 0))), (q6, .inl (c6, 12, .inl (fun _ => 0)))] H := hP
  have hD : va_D A [(h0, .inr (1, [.ref q1, .ref q2, .ref q3, .ref q4, .ref q5, .ref q6, .null, .null, .int 0, .int 0, .int 0, .int 0])), (q1, .inl (c1, 16, .inl (zFill 16))), (q2, .inl (c2, 16, .inr (.inl (fun _ => 0)))), (q3, .inl (c3, 16, .inr (.inl (fun _ => 0)))), (q4, .inl (c4, 12, .inl (fun _ => 0))), (q5, .inl (c5, 12, .inl (fun _ => 0))), (q6, .inl (c6, 12, .inl (fun _ => 0)))] := hD
  refine lv_aload_n hx hb dX2_init_126 rfl (lv_at hl 0 rfl) ?_
  refine lv_bipush (v := 12) hx hb dX2_init_127 (by decide) ?_
  refine va_newa (D := D) (atype := .int) (ty := .int) (N' := 12) (a0 := (12, .inl (fun _ => 0))) hx hb (hts (.arrayClass .int) (by decide +kernel)) rfl hK hP hD hS hA (fun _ => rfl) (by decide) (by decide) (by show 12 * 4 ≤ 536870912; omega) (Nat.le_of_ble_eq_true rfl) (Nat.le_of_ble_eq_true rfl) dX2_init_129 (fun q7 c7 H hK hP hD hS => ?_)
  have hP : va_P D vwCl [(h0, .inr (1, [.ref q1, .ref q2, .ref q3, .ref q4, .ref q5, .ref q6, .null, .null, .int 0, .int 0, .int 0, .int 0])), (q1, .inl (c1, 16, .inl (zFill 16))), (q2, .inl (c2, 16, .inr (.inl (fun _ => 0)))), (q3, .inl (c3, 16, .inr (.inl (fun _ => 0)))), (q4, .inl (c4, 12, .inl (fun _ => 0))), (q5, .inl (c5, 12, .inl (fun _ => 0))), (q6, .inl (c6, 12, .inl (fun _ => 0))), (q7, .inl (c7, 12, .inl (fun _ => 0)))] H := hP
  have hD : va_D A [(h0, .inr (1, [.ref q1, .ref q2, .ref q3, .ref q4, .ref q5, .ref q6, .null, .null, .int 0, .int 0, .int 0, .int 0])), (q1, .inl (c1, 16, .inl (zFill 16))), (q2, .inl (c2, 16, .inr (.inl (fun _ => 0)))), (q3, .inl (c3, 16, .inr (.inl (fun _ => 0)))), (q4, .inl (c4, 12, .inl (fun _ => 0))), (q5, .inl (c5, 12, .inl (fun _ => 0))), (q6, .inl (c6, 12, .inl (fun _ => 0))), (q7, .inl (c7, 12, .inl (fun _ => 0)))] := hD
  have hK : va_K D vwCl [(c1, .int), (c2, .long), (c3, .long), (c4, .boolean), (c5, .int), (c6, .int), (c7, .int)] s := hK
  refine va_putF (D := D) (ci := 1) (v := .ref q7) (ty := .array .int) (C := RX2) (T := TX2) (N := 12) hx hb hts hin2 tyX2 tyX2_ok nmX2 hown hK hP hD hS 0 rfl rfl 6 (by decide) (hts (.fieldLink RX2 30 "StretchDeskModel" "second" "[I") (by decide +kernel)) (fun _ h9 => h9) rfl hin rfl (by decide +kernel) rfl rfl (Nat.le_of_ble_eq_true rfl) dX2_init_131 (fun H locs hP hD hS => ?_)
  have hP : va_P D vwCl [(h0, .inr (1, [.ref q1, .ref q2, .ref q3, .ref q4, .ref q5, .ref q6, .ref q7, .null, .int 0, .int 0, .int 0, .int 0])), (q1, .inl (c1, 16, .inl (zFill 16))), (q2, .inl (c2, 16, .inr (.inl (fun _ => 0)))), (q3, .inl (c3, 16, .inr (.inl (fun _ => 0)))), (q4, .inl (c4, 12, .inl (fun _ => 0))), (q5, .inl (c5, 12, .inl (fun _ => 0))), (q6, .inl (c6, 12, .inl (fun _ => 0))), (q7, .inl (c7, 12, .inl (fun _ => 0)))] H := hP
  have hD : va_D A [(h0, .inr (1, [.ref q1, .ref q2, .ref q3, .ref q4, .ref q5, .ref q6, .ref q7, .null, .int 0, .int 0, .int 0, .int 0])), (q1, .inl (c1, 16, .inl (zFill 16))), (q2, .inl (c2, 16, .inr (.inl (fun _ => 0)))), (q3, .inl (c3, 16, .inr (.inl (fun _ => 0)))), (q4, .inl (c4, 12, .inl (fun _ => 0))), (q5, .inl (c5, 12, .inl (fun _ => 0))), (q6, .inl (c6, 12, .inl (fun _ => 0))), (q7, .inl (c7, 12, .inl (fun _ => 0)))] := hD
  refine lv_aload_n hx hb dX2_init_134 rfl (lv_at hl 0 rfl) ?_
  refine lv_bipush (v := 12) hx hb dX2_init_135 (by decide) ?_
  refine va_newa (D := D) (atype := .int) (ty := .int) (N' := 12) (a0 := (12, .inl (fun _ => 0))) hx hb (hts (.arrayClass .int) (by decide +kernel)) rfl hK hP hD hS hA (fun _ => rfl) (by decide) (by decide) (by show 12 * 4 ≤ 536870912; omega) (Nat.le_of_ble_eq_true rfl) (Nat.le_of_ble_eq_true rfl) dX2_init_137 (fun q8 c8 H hK hP hD hS => ?_)
  have hP : va_P D vwCl [(h0, .inr (1, [.ref q1, .ref q2, .ref q3, .ref q4, .ref q5, .ref q6, .ref q7, .null, .int 0, .int 0, .int 0, .int 0])), (q1, .inl (c1, 16, .inl (zFill 16))), (q2, .inl (c2, 16, .inr (.inl (fun _ => 0)))), (q3, .inl (c3, 16, .inr (.inl (fun _ => 0)))), (q4, .inl (c4, 12, .inl (fun _ => 0))), (q5, .inl (c5, 12, .inl (fun _ => 0))), (q6, .inl (c6, 12, .inl (fun _ => 0))), (q7, .inl (c7, 12, .inl (fun _ => 0))), (q8, .inl (c8, 12, .inl (fun _ => 0)))] H := hP
  have hD : va_D A [(h0, .inr (1, [.ref q1, .ref q2, .ref q3, .ref q4, .ref q5, .ref q6, .ref q7, .null, .int 0, .int 0, .int 0, .int 0])), (q1, .inl (c1, 16, .inl (zFill 16))), (q2, .inl (c2, 16, .inr (.inl (fun _ => 0)))), (q3, .inl (c3, 16, .inr (.inl (fun _ => 0)))), (q4, .inl (c4, 12, .inl (fun _ => 0))), (q5, .inl (c5, 12, .inl (fun _ => 0))), (q6, .inl (c6, 12, .inl (fun _ => 0))), (q7, .inl (c7, 12, .inl (fun _ => 0))), (q8, .inl (c8, 12, .inl (fun _ => 0)))] := hD
  have hK : va_K D vwCl [(c1, .int), (c2, .long), (c3, .long), (c4, .boolean), (c5, .int), (c6, .int), (c7, .int), (c8, .int)] s := hK
  refine va_putF (D := D) (ci := 1) (v := .ref q8) (ty := .array .int) (C := RX2) (T := TX2) (N := 12) hx hb hts hin2 tyX2 tyX2_ok nmX2 hown hK hP hD hS 0 rfl rfl 7 (by decide) (hts (.fieldLink RX2 33 "StretchDeskModel" "goal" "[I") (by decide +kernel)) (fun _ h9 => h9) rfl hin rfl (by decide +kernel) rfl rfl (Nat.le_of_ble_eq_true rfl) dX2_init_139 (fun H locs hP hD hS => ?_)
  have hP : va_P D vwCl [(h0, .inr (1, [.ref q1, .ref q2, .ref q3, .ref q4, .ref q5, .ref q6, .ref q7, .ref q8, .int 0, .int 0, .int 0, .int 0])), (q1, .inl (c1, 16, .inl (zFill 16))), (q2, .inl (c2, 16, .inr (.inl (fun _ => 0)))), (q3, .inl (c3, 16, .inr (.inl (fun _ => 0)))), (q4, .inl (c4, 12, .inl (fun _ => 0))), (q5, .inl (c5, 12, .inl (fun _ => 0))), (q6, .inl (c6, 12, .inl (fun _ => 0))), (q7, .inl (c7, 12, .inl (fun _ => 0))), (q8, .inl (c8, 12, .inl (fun _ => 0)))] H := hP
  have hD : va_D A [(h0, .inr (1, [.ref q1, .ref q2, .ref q3, .ref q4, .ref q5, .ref q6, .ref q7, .ref q8, .int 0, .int 0, .int 0, .int 0])), (q1, .inl (c1, 16, .inl (zFill 16))), (q2, .inl (c2, 16, .inr (.inl (fun _ => 0)))), (q3, .inl (c3, 16, .inr (.inl (fun _ => 0)))), (q4, .inl (c4, 12, .inl (fun _ => 0))), (q5, .inl (c5, 12, .inl (fun _ => 0))), (q6, .inl (c6, 12, .inl (fun _ => 0))), (q7, .inl (c7, 12, .inl (fun _ => 0))), (q8, .inl (c8, 12, .inl (fun _ => 0)))] := hD
  refine W.widen (k := 8) (n := 108) (Nat.le_of_ble_eq_true rfl) (Nat.le_of_ble_eq_true rfl) ?_
  obtain ⟨ad, ea⟩ : ∃ ad : Nat → Nat, ad = (fun k => match k with | 0 => h0 | 1 => q1 | 2 => q2 | 3 => q3 | 4 => q4 | 5 => q5 | 6 => q6 | 7 => q7 | _ => q8) := ⟨_, rfl⟩
  obtain ⟨cy, ec⟩ : ∃ cy : Nat → ClassId, cy = (fun k => match k with | 0 => c1 | 1 => c1 | 2 => c2 | 3 => c3 | 4 => c4 | 5 => c5 | 6 => c6 | 7 => c7 | _ => c8) := ⟨_, rfl⟩
  have hw : Gd D (mT cy) A s (mW ad cy mInit) H locs := by subst ea; subst ec; exact ⟨hP, hD, hK, hS⟩
  have h0e : ad 0 = h0 := by subst ea; rfl
  exact W.vret hx hb hr (fun t ht hW => ⟨⟨mInit, rfl, rfl, ad, cy, h0e, by rw [ht]; exact hw.1, va_K.moved hW.alike hw.2.2.1, hw.2.1⟩, hw.2.2.2.F ht⟩) hw.2.2.2.2.2 dX2_init_142
