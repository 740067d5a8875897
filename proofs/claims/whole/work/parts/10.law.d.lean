theorem zlaw {i L : Nat} (hL : L ≤ 3584) (hi : i ≤ 3584) (q : ¬ (Int32.ofNat L - 7 < nI i)) : i + 7 ≤ L := by
  rcases Nat.lt_or_ge L (i + 7) with h | h
  · refine absurd ?_ q
    rw [Int32.lt_iff_toInt_lt]
    have e : (Int32.ofNat L - 7).toInt = (L : Int) - (7 : Nat) := pk_sub_toInt (a := L) (b := 7) (by omega) (by omega)
    rw [e, nI_toInt (by omega)]
    omega
  · exact h
theorem zlaw2 {i L : Nat} (hL : L ≤ 3584) (hi : i ≤ 3584) (h : L ≤ i) : Int32.ofNat L - 7 < nI i := by
  rw [Int32.lt_iff_toInt_lt]
  have e : (Int32.ofNat L - 7).toInt = (L : Int) - (7 : Nat) := pk_sub_toInt (a := L) (b := 7) (by omega) (by omega)
  rw [e, nI_toInt (by omega)]
  omega
theorem zout20 {x : Int32} (h0 : ¬ x = 0) (h1 : ¬ x = 1) (h2 : ¬ x = 2) (h3 : ¬ x = 3) (h4 : ¬ x = 4) (h5 : ¬ x = 5) (h6 : ¬ x = 6) (h7 : ¬ x = 7) (h8 : ¬ x = 8) (h9 : ¬ x = 9) (h10 : ¬ x = 10) (h11 : ¬ x = 11) (h12 : ¬ x = 12) (h13 : ¬ x = 13) (h14 : ¬ x = 14) (h15 : ¬ x = 15) (h16 : ¬ x = 16) (h17 : ¬ x = 17) (h18 : ¬ x = 18) (h19 : ¬ x = 19) : x.toInt < 0 ∨ 19 < x.toInt := by
  have a0 := lv_neT h0 (a := 0) (by decide)
  have a1 := lv_neT h1 (a := 1) (by decide)
  have a2 := lv_neT h2 (a := 2) (by decide)
  have a3 := lv_neT h3 (a := 3) (by decide)
  have a4 := lv_neT h4 (a := 4) (by decide)
  have a5 := lv_neT h5 (a := 5) (by decide)
  have a6 := lv_neT h6 (a := 6) (by decide)
  have a7 := lv_neT h7 (a := 7) (by decide)
  have a8 := lv_neT h8 (a := 8) (by decide)
  have a9 := lv_neT h9 (a := 9) (by decide)
  have a10 := lv_neT h10 (a := 10) (by decide)
  have a11 := lv_neT h11 (a := 11) (by decide)
  have a12 := lv_neT h12 (a := 12) (by decide)
  have a13 := lv_neT h13 (a := 13) (by decide)
  have a14 := lv_neT h14 (a := 14) (by decide)
  have a15 := lv_neT h15 (a := 15) (by decide)
  have a16 := lv_neT h16 (a := 16) (by decide)
  have a17 := lv_neT h17 (a := 17) (by decide)
  have a18 := lv_neT h18 (a := 18) (by decide)
  have a19 := lv_neT h19 (a := 19) (by decide)
  omega
set_option maxHeartbeats 4000000 in
set_option maxRecDepth 100000 in
theorem law_loop {p : Program} {l : Launch} {e : Env} {s : State} {m : MethodId} {below : List Frame} {meth : Method} {c : Code} {D : va_G} {ax am : Nat → Nat} {cx cm : Nat → ClassId} {b L : Nat} {xs : Nat → Int32} (hL : L ≤ 3584) (C0 : lw_At p s m meth c b L xs) :
    ∀ (n i : Nat), L ≤ i + n → i ≤ 3584 → ∀ (S : XS) (H : Heap) (locs : List Loc) (ls : Array Slot), Inv S → LG D ax cx am cm (fun q : Nat => s.heap.size ≤ q) s S (toM S) H locs → lv_has ls 4 [(0, .ref b), (1, .ref (ax 0)), (2, .ref (am 0)), (3, .int (nI i))] → W p l e room_1 s m #[Value.ref b] below meth c H locs 17 227 (lw_Z below #[Value.ref b] s) (F0 m 18 ls []) := by
  obtain ⟨hx, hb, hr, hml, hown, hts, hX, hbl, hlocks, hgv⟩ := C0
  have S0 : CallFix p m c code 4 s #[Value.ref b] wsL_law RL := ⟨hx, hb, hml, hown, fun w h => hts w (wsL_law_in w h)⟩
  have hbA : ¬ (fun q : Nat => s.heap.size ≤ q) b := Nat.not_le.mpr hbl
  have E : ∀ (S : XS) (H : Heap) (locs : List Loc) (ls : Array Slot), LG D ax cx am cm (fun q : Nat => s.heap.size ≤ q) s S (toM S) H locs → W p l e room_1 s m #[Value.ref b] below meth c H locs 17 227 (lw_Z below #[Value.ref b] s) (F0 m 949 ls []) := by
    intro S H locs ls hg
    refine lv_iconst (v := 1) hx hb dL_law_949 (by decide) ?_
    refine va_forget (fun q hq => hg.2.2.2.2.2.2.2 q hq) ?_
    exact lw_ret (d0 := s.drawn) (Drawn.sameBut.refl s.drawn lw_cs) hx hb hr hlocks dL_law_950
  intro n
  induction n with
  | zero =>
      intro i hLi hi S H locs ls hI hg hl
      refine lv_iload_n hx hb dL_law_18 rfl (lv_at hl 3 rfl) ?_
      refine lv_aload_n hx hb dL_law_19 rfl (lv_at hl 0 rfl) ?_
      refine va_slen hx hb hX hbl hbA hg.2.2.2.2.2 dL_law_20 ?_
      refine lv_bipush (v := 7) hx hb dL_law_21 (by decide) ?_
      refine lv_isub hx hb dL_law_23 ?_
      refine zc_gt (tgt := 949) hx hb dL_law_24 (by decide) (fun _ => E S H locs ls hg) (fun q => absurd (zlaw2 hL hi hLi) q)
  | succ n ih =>
      intro i hLi hi3 S H locs ls hI hg hl
      refine lv_iload_n hx hb dL_law_18 rfl (lv_at hl 3 rfl) ?_
      refine lv_aload_n hx hb dL_law_19 rfl (lv_at hl 0 rfl) ?_
      refine va_slen hx hb hX hbl hbA hg.2.2.2.2.2 dL_law_20 ?_
      refine lv_bipush (v := 7) hx hb dL_law_21 (by decide) ?_
      refine lv_isub hx hb dL_law_23 ?_
      refine zc_gt (tgt := 949) hx hb dL_law_24 (by decide) (fun _ => E S H locs ls hg) (fun q => ?_)
      have hi : i + 7 ≤ L := zlaw hL hi3 q
      have K : ∀ (S' : XS) (H : Heap) (locs : List Loc) (ls : Array Slot), Inv S' → LG D ax cx am cm (fun q : Nat => s.heap.size ≤ q) s S' (toM S') H locs → lv_has ls 4 [(0, .ref b), (1, .ref (ax 0)), (2, .ref (am 0)), (3, .int (nI i))] → W p l e room_1 s m #[Value.ref b] below meth c H locs 17 227 (lw_Z below #[Value.ref b] s) (F0 m 943 ls []) := by
        intro S' H locs ls hI hg hl
        refine lv_iinc (v := nI (i + 7)) (lv' := [(3, .int (nI (i + 7))), (0, .ref b), (1, .ref (ax 0)), (2, .ref (am 0))]) hx hb dL_law_943 hl (k := 3) rfl (by rw [show Int32.ofInt 7 = nI 7 from by decide]; exact nI_add i 7) (by decide) rfl (fun ls hl => ?_)
        refine lv_goto (tgt := 18) hx hb dL_law_946 (by decide) ?_
        exact ih (i + 7) (by omega) (by omega) S' H locs ls hI hg (lv_sub hl [1, 2, 3, 0] rfl)
      refine lv_aload_n hx hb dL_law_27 rfl (lv_at hl 0 rfl) ?_
      refine lv_iload_n hx hb dL_law_28 rfl (lv_at hl 3 rfl) ?_
      refine va_sld hx hb hX hbl hbA hg.2.2.2.2.2 (vp_in_nI (by omega) (by omega)) dL_law_29 ?_
      refine lv_bipush (v := 31) hx hb dL_law_30 (by decide) ?_
      refine lv_iand hx hb dL_law_32 ?_
      generalize (xs (nI i).toNatClampNeg &&& 31) = x
      by_cases c_0 : x = 0
      · refine lv_tableIn (x := x) (off := 95) (tgt := 128) hx hb dL_law_33 (by rw [c_0]; decide) (by rw [c_0]; decide) (by rw [c_0]; decide) (by decide) ?_
        exact law_case_0 hL hi S0 hX hbl hI hg hl K
      by_cases c_1 : x = 1
      · refine lv_tableIn (x := x) (off := 210) (tgt := 243) hx hb dL_law_33 (by rw [c_1]; decide) (by rw [c_1]; decide) (by rw [c_1]; decide) (by decide) ?_
        exact law_case_1 hL hi S0 hX hbl hI hg hl K
      by_cases c_2 : x = 2
      · refine lv_tableIn (x := x) (off := 233) (tgt := 266) hx hb dL_law_33 (by rw [c_2]; decide) (by rw [c_2]; decide) (by rw [c_2]; decide) (by decide) ?_
        exact law_case_2 hL hi S0 hX hbl hI hg hl K
      by_cases c_3 : x = 3
      · refine lv_tableIn (x := x) (off := 256) (tgt := 289) hx hb dL_law_33 (by rw [c_3]; decide) (by rw [c_3]; decide) (by rw [c_3]; decide) (by decide) ?_
        exact law_case_3 hL hi S0 hX hbl hI hg hl K
      by_cases c_4 : x = 4
      · refine lv_tableIn (x := x) (off := 280) (tgt := 313) hx hb dL_law_33 (by rw [c_4]; decide) (by rw [c_4]; decide) (by rw [c_4]; decide) (by decide) ?_
        exact law_case_4 hL hi S0 hX hbl hI hg hl K
      by_cases c_5 : x = 5
      · refine lv_tableIn (x := x) (off := 304) (tgt := 337) hx hb dL_law_33 (by rw [c_5]; decide) (by rw [c_5]; decide) (by rw [c_5]; decide) (by decide) ?_
        exact law_case_5 hL hi S0 hX hbl hI hg hl K
      by_cases c_6 : x = 6
      · refine lv_tableIn (x := x) (off := 347) (tgt := 380) hx hb dL_law_33 (by rw [c_6]; decide) (by rw [c_6]; decide) (by rw [c_6]; decide) (by decide) ?_
        exact law_case_6 hL hi S0 hX hbl hI hg hl K
      by_cases c_7 : x = 7
      · refine lv_tableIn (x := x) (off := 390) (tgt := 423) hx hb dL_law_33 (by rw [c_7]; decide) (by rw [c_7]; decide) (by rw [c_7]; decide) (by decide) ?_
        exact law_case_7 hL hi S0 hX hbl hI hg hl K
      by_cases c_8 : x = 8
      · refine lv_tableIn (x := x) (off := 423) (tgt := 456) hx hb dL_law_33 (by rw [c_8]; decide) (by rw [c_8]; decide) (by rw [c_8]; decide) (by decide) ?_
        exact law_case_8 hL hi S0 hX hbl hI hg hl K
      by_cases c_9 : x = 9
      · refine lv_tableIn (x := x) (off := 466) (tgt := 499) hx hb dL_law_33 (by rw [c_9]; decide) (by rw [c_9]; decide) (by rw [c_9]; decide) (by decide) ?_
        exact law_case_9 hL hi S0 hX hbl hI hg hl K
      by_cases c_10 : x = 10
      · refine lv_tableIn (x := x) (off := 499) (tgt := 532) hx hb dL_law_33 (by rw [c_10]; decide) (by rw [c_10]; decide) (by rw [c_10]; decide) (by decide) ?_
        exact law_case_10 hL hi S0 hX hbl hI hg hl K
      by_cases c_11 : x = 11
      · refine lv_tableIn (x := x) (off := 542) (tgt := 575) hx hb dL_law_33 (by rw [c_11]; decide) (by rw [c_11]; decide) (by rw [c_11]; decide) (by decide) ?_
        exact law_case_11 hL hi S0 hX hbl hI hg hl K
      by_cases c_12 : x = 12
      · refine lv_tableIn (x := x) (off := 575) (tgt := 608) hx hb dL_law_33 (by rw [c_12]; decide) (by rw [c_12]; decide) (by rw [c_12]; decide) (by decide) ?_
        exact law_case_12 hL hi S0 hX hbl hI hg hl K
      by_cases c_13 : x = 13
      · refine lv_tableIn (x := x) (off := 618) (tgt := 651) hx hb dL_law_33 (by rw [c_13]; decide) (by rw [c_13]; decide) (by rw [c_13]; decide) (by decide) ?_
        exact law_case_13 hL hi S0 hX hbl hI hg hl K
      by_cases c_14 : x = 14
      · refine lv_tableIn (x := x) (off := 682) (tgt := 715) hx hb dL_law_33 (by rw [c_14]; decide) (by rw [c_14]; decide) (by rw [c_14]; decide) (by decide) ?_
        exact law_case_14 hL hi S0 hX hbl hI hg hl K
      by_cases c_15 : x = 15
      · refine lv_tableIn (x := x) (off := 745) (tgt := 778) hx hb dL_law_33 (by rw [c_15]; decide) (by rw [c_15]; decide) (by rw [c_15]; decide) (by decide) ?_
        exact law_case_15 hL hi S0 hX hbl hI hg hl K
      by_cases c_16 : x = 16
      · refine lv_tableIn (x := x) (off := 778) (tgt := 811) hx hb dL_law_33 (by rw [c_16]; decide) (by rw [c_16]; decide) (by rw [c_16]; decide) (by decide) ?_
        exact law_case_16 hL hi S0 hX hbl hI hg hl K
      by_cases c_17 : x = 17
      · refine lv_tableIn (x := x) (off := 841) (tgt := 874) hx hb dL_law_33 (by rw [c_17]; decide) (by rw [c_17]; decide) (by rw [c_17]; decide) (by decide) ?_
        exact law_case_17 hL hi S0 hX hbl hI hg hl K
      by_cases c_18 : x = 18
      · refine lv_tableIn (x := x) (off := 874) (tgt := 907) hx hb dL_law_33 (by rw [c_18]; decide) (by rw [c_18]; decide) (by rw [c_18]; decide) (by decide) ?_
        exact law_case_18 hL hi S0 hX hbl hI hg hl K
      by_cases c_19 : x = 19
      · refine lv_tableIn (x := x) (off := 887) (tgt := 920) hx hb dL_law_33 (by rw [c_19]; decide) (by rw [c_19]; decide) (by rw [c_19]; decide) (by decide) ?_
        exact law_case_19 hL hi S0 hX hbl hI hg hl K
      refine lv_tableOut (x := x) (tgt := 943) hx hb dL_law_33 (zout20 c_0 c_1 c_2 c_3 c_4 c_5 c_6 c_7 c_8 c_9 c_10 c_11 c_12 c_13 c_14 c_15 c_16 c_17 c_18 c_19) (by decide) ?_
      exact K S H locs ls hI hg hl
set_option maxHeartbeats 4000000 in
set_option maxRecDepth 100000 in
theorem whole_start {p : Program} {e : Env} {s : State} {m : MethodId} {below : List Frame} {meth : Method} {c : Code} (l : Launch) {b L : Nat} {xs : Nat → Int32} (hL : L ≤ 3584) (C0 : lw_At p s m meth c b L xs) : W p l e room_1 s m #[Value.ref b] below meth c s.heap [] 0 0 (lw_Z below #[Value.ref b] s) (entryFrame m ([Value.ref b] : List Value).toArray 4) := by
  obtain ⟨hx, hb, hr, hml, hown, hts0, hX, hbl, hlocks, hgv⟩ := id C0
  have hown : s.vm.findClass RL = some m.cls := hown
  have hts : ∀ w ∈ wsL_law, w.before #[Value.ref b] s = true := fun w h => hts0 w (wsL_law_in w h)
  have hA : ∀ q : Nat, s.heap.size ≤ q → (fun q : Nat => s.heap.size ≤ q) q := fun _ h => h
  obtain ⟨c0, iS0, hKn0⟩ := u_known (C := RX1) (T := TX1) (N := 11) (n := 11) hts inlX1 (hts (.instantiable RX1 11) (by decide +kernel))
  obtain ⟨c1, iS1, hKn1⟩ := u_known (C := RX2) (T := TX2) (N := 12) (n := 12) hts inlX2 (hts (.instantiable RX2 12) (by decide +kernel))
  obtain ⟨dC, dI, hKc⟩ : ∃ (dC : Nat → ClassId) (dI : Nat → Nat → Nat), ∀ (k : Nat) (q : vw_C), vwCl[k]? = some q → u_Kn s q.1 q.2.1 q.2.2 (dC k) (dI k) := by
    refine ⟨fun k => if k = 0 then c0 else c1, fun k => if k = 0 then iS0 else iS1, ?_⟩
    intro k q hq
    match k, hq with
    | 0, hq => cases hq; exact hKn0
    | 1, hq => cases hq; exact hKn1
    | k + 2, hq => simp [vwCl] at hq
  have hS : va_S (fun q : Nat => s.heap.size ≤ q) s.heap s.heap [] := va_S.rf
  have hK : va_K (dC, dI) vwCl [] s := ⟨hKc, fun k q h => by simp at h⟩
  have hP : va_P (dC, dI) vwCl [] s.heap := fun k q h => by simp at h
  have hD : va_D (fun q : Nat => s.heap.size ≤ q) [] := ⟨fun i j p q h => by simp at h, fun k q h => by simp at h⟩
  have hl := lv_entry ([.ref b]) (n := 4) (Nat.le_of_ble_eq_true rfl)
  rw [lg_entry_eq]
  generalize (lg_sl ([.ref b]) ++ List.replicate (4 - (lg_sl ([.ref b])).length) Slot.unset).toArray = ls at hl ⊢
  have hl : lv_has ls 4 [(0, .ref b)] := hl
  refine va_new (ci := 0) (fs := [.null, .null, .null, .null, .null, .null, .null, .int 0, .int 0, .int 0, .int 0]) (C := RX1) (T := TX1) (N := 11) hx hb hts inlX1 tyX1 tyX1_ok hown (hts (.classLink RL 7 RX1) (by decide +kernel)) (hts (.instantiable RX1 11) (by decide +kernel)) (hts (.initialized RX1) (by decide +kernel)) hK hP hD hS hA rfl (fun j hj => by rcases (show j = 0 ∨ j = 1 ∨ j = 2 ∨ j = 3 ∨ j = 4 ∨ j = 5 ∨ j = 6 ∨ j = 7 ∨ j = 8 ∨ j = 9 ∨ j = 10 by omega) with rfl | rfl | rfl | rfl | rfl | rfl | rfl | rfl | rfl | rfl | rfl <;> rfl) (Nat.le_of_ble_eq_true rfl) (Nat.le_of_ble_eq_true rfl) dL_law_0 (fun q0 H hP hD hS => ?_)
  have hP : va_P (dC, dI) vwCl [(q0, .inr (0, [.null, .null, .null, .null, .null, .null, .null, .int 0, .int 0, .int 0, .int 0]))] H := hP
  have hD : va_D (fun q : Nat => s.heap.size ≤ q) [(q0, .inr (0, [.null, .null, .null, .null, .null, .null, .null, .int 0, .int 0, .int 0, .int 0]))] := hD
  refine W.widen (k := 1) (n := 11) (by omega) (by omega) ?_
  refine lv_dup hx hb dL_law_3 rfl ?_
  have hPc := hP.sub (ws' := [(q0, .inr (0, [.null, .null, .null, .null, .null, .null, .null, .int 0, .int 0, .int 0, .int 0]))]) [0] rfl
  have hDc := hD.sub (ws' := [(q0, .inr (0, [.null, .null, .null, .null, .null, .null, .null, .int 0, .int 0, .int 0, .int 0]))]) [0] (by decide) rfl
  have hKc := hK.sub (tys' := []) [] rfl
  have hFc := va_free (wc := [(q0, .inr (0, [.null, .null, .null, .null, .null, .null, .null, .int 0, .int 0, .int 0, .int 0]))]) hD hS hA [0] rfl
  refine va_callv (va_runI (As := []) (rest := [.ref q0]) ⟨hx, hb, hml, hown, hts⟩ (c_X1_init l (dC, dI) q0 H.size) (cwI 0 hts gL_law_X1_init rfl rfl rfl (hts (.initialized RX1) (by decide +kernel)) (hts (.methodLink RL 9 yX1_init) (by decide +kernel)) (hts (.instanceMethod yX1_init) (by decide +kernel)) rfl (by decide +kernel) ⟨Nat.le_of_ble_eq_true rfl, Nat.le_of_ble_eq_true rfl⟩) ⟨fun a U g mk q => by obtain ⟨q0, q1, qP, qK, qD⟩ := q; exact ⟨q0, q1, qP, va_K.moved (u := U) (U := U.calling g mk a) (Vm.Alike.refl U.vm) qK, qD⟩, fun U hU hW => ⟨rfl, by rw [hU], by rw [hU]; exact hPc, va_K.moved hW.alike hKc, hDc.weaken (fun _ _ _ _ => trivial)⟩⟩ rfl rfl hl.1 rfl (lv_room (Nat.le_of_ble_eq_true rfl)) dL_law_4 ⟨Nat.le_of_ble_eq_true rfl, Nat.le_of_ble_eq_true rfl⟩) hS (fun q _ h => hFc q h) hFc (fun u t H1 locs ht hvm hw hB hz1 hk1 hS => ?_)
  obtain ⟨ax, cx, hax, hP1, hK1, hD1⟩ := hB
  subst hw
  rw [ht] at hP1
  have hK1 := va_K.moved hvm.symm hK1
  obtain ⟨hP, hD⟩ := va_join (wr := []) (w1 := xW ax cx xInit) hP hD [0] [] rfl rfl (by decide) (by decide) hk1 hFc hP1 hD1
  have hK := (hK.sub (tys' := []) [] rfl).app hK1
  generalize H1 = H at hP hS ⊢
  have hP : va_P (dC, dI) vwCl (xW ax cx xInit) H := hP
  have hD : va_D (fun q : Nat => s.heap.size ≤ q) (xW ax cx xInit) := hD
  have hK : va_K (dC, dI) vwCl (xT cx) s := hK
  refine W.widen (k := 8) (n := 107) (by omega) (by omega) ?_
  refine lv_astore_n (lv' := [(1, .ref q0), (0, .ref b)]) hx hb dL_law_7 rfl hl (by decide) rfl (fun ls hl => ?_)
  refine va_new (ci := 1) (fs := [.null, .null, .null, .null, .null, .null, .null, .null, .int 0, .int 0, .int 0, .int 0]) (C := RX2) (T := TX2) (N := 12) hx hb hts inlX2 tyX2 tyX2_ok hown (hts (.classLink RL 10 RX2) (by decide +kernel)) (hts (.instantiable RX2 12) (by decide +kernel)) (hts (.initialized RX2) (by decide +kernel)) hK hP hD hS hA rfl (fun j hj => by rcases (show j = 0 ∨ j = 1 ∨ j = 2 ∨ j = 3 ∨ j = 4 ∨ j = 5 ∨ j = 6 ∨ j = 7 ∨ j = 8 ∨ j = 9 ∨ j = 10 ∨ j = 11 by omega) with rfl | rfl | rfl | rfl | rfl | rfl | rfl | rfl | rfl | rfl | rfl | rfl <;> rfl) (Nat.le_of_ble_eq_true rfl) (Nat.le_of_ble_eq_true rfl) dL_law_8 (fun q1 H hP hD hS => ?_)
  refine W.widen (k := 9) (n := 119) (by omega) (by omega) ?_
  refine lv_dup hx hb dL_law_11 rfl ?_
  have hPc := hP.sub (ws' := [(q1, .inr (1, [.null, .null, .null, .null, .null, .null, .null, .null, .int 0, .int 0, .int 0, .int 0]))]) [8] rfl
  have hDc := hD.sub (ws' := [(q1, .inr (1, [.null, .null, .null, .null, .null, .null, .null, .null, .int 0, .int 0, .int 0, .int 0]))]) [8] (by decide) rfl
  have hKc := hK.sub (tys' := []) [] rfl
  have hFc := va_free (wc := [(q1, .inr (1, [.null, .null, .null, .null, .null, .null, .null, .null, .int 0, .int 0, .int 0, .int 0]))]) hD hS hA [8] rfl
  refine va_callv (va_runI (As := []) (rest := [.ref q1]) ⟨hx, hb, hml, hown, hts⟩ (c_X2_init l (dC, dI) q1 H.size) (cwI 0 hts gL_law_X2_init rfl rfl rfl (hts (.initialized RX2) (by decide +kernel)) (hts (.methodLink RL 12 yX2_init) (by decide +kernel)) (hts (.instanceMethod yX2_init) (by decide +kernel)) rfl (by decide +kernel) ⟨Nat.le_of_ble_eq_true rfl, Nat.le_of_ble_eq_true rfl⟩) ⟨fun a U g mk q => by obtain ⟨q0, q1, qP, qK, qD⟩ := q; exact ⟨q0, q1, qP, va_K.moved (u := U) (U := U.calling g mk a) (Vm.Alike.refl U.vm) qK, qD⟩, fun U hU hW => ⟨rfl, by rw [hU], by rw [hU]; exact hPc, va_K.moved hW.alike hKc, hDc.weaken (fun _ _ _ _ => trivial)⟩⟩ rfl rfl hl.1 rfl (lv_room (Nat.le_of_ble_eq_true rfl)) dL_law_12 ⟨Nat.le_of_ble_eq_true rfl, Nat.le_of_ble_eq_true rfl⟩) hS (fun q _ h => hFc q h) hFc (fun u t H1 locs ht hvm hw hB hz1 hk1 hS => ?_)
  obtain ⟨am, cm, ham, hP1, hK1, hD1⟩ := hB
  subst hw
  rw [ht] at hP1
  have hK1 := va_K.moved hvm.symm hK1
  obtain ⟨hP, hD⟩ := va_join (wr := xW ax cx xInit) (w1 := mW am cm mInit) hP hD [8] [0, 1, 2, 3, 4, 5, 6, 7] rfl rfl (by decide) (by decide) hk1 hFc hP1 hD1
  generalize H1 = H at hP hS ⊢
  refine W.widen (k := 17) (n := 227) (by omega) (by omega) ?_
  refine lv_astore_n (lv' := [(2, .ref q1), (1, .ref q0), (0, .ref b)]) hx hb dL_law_15 rfl hl (by decide) rfl (fun ls hl => ?_)
  refine lv_iconst (v := 0) hx hb dL_law_16 (by decide) ?_
  refine lv_istore_n (lv' := [(3, .int 0), (2, .ref q1), (1, .ref q0), (0, .ref b)]) hx hb dL_law_17 rfl hl (by decide) rfl (fun ls hl => ?_)
  refine law_loop (D := (dC, dI)) (ax := ax) (cx := cx) (am := am) (cm := cm) hL C0 L 0 (by omega) (by omega) xInit H locs ls inv_init ⟨hP.sub [0, 1, 2, 3, 4, 5, 6, 7] rfl, ?_, ?_, hK, hK1, hS⟩ ?_
  · rw [toM_init]
    exact hP.sub [8, 9, 10, 11, 12, 13, 14, 15, 16] rfl
  · rw [toM_init]
    exact hD
  · rw [hax, ham]
    exact lv_sub hl [3, 2, 1, 0] rfl
