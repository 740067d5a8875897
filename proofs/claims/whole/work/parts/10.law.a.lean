def LG (D : va_G) (ax : Nat → Nat) (cx : Nat → ClassId) (am : Nat → Nat) (cm : Nat → ClassId) (A : Nat → Prop) (s : State) (S : XS) (T : MS) (H : Heap) (locs : List Loc) : Prop := va_P D vwCl (xW ax cx S) H ∧ va_P D vwCl (mW am cm T) H ∧ va_D A (xW ax cx S ++ mW am cm T) ∧ va_K D vwCl (xT cx) s ∧ va_K D vwCl (mT cm) s ∧ va_S A s.heap H locs
theorem zDc {A : Nat → Prop} {w w' : va_W} (h : w'.map (fun q => q.1) = w.map (fun q => q.1)) (hD : va_D A w) : va_D A w' := by
  have key : ∀ (i : Nat) (p : Nat × va_E), w'[i]? = some p → ∃ q, w[i]? = some q ∧ q.1 = p.1 := by
    intro i p hp
    have h1 : (w'.map (fun q => q.1))[i]? = some p.1 := by rw [List.getElem?_map, hp]; rfl
    rw [h, List.getElem?_map] at h1
    cases hq : w[i]? with
    | none => rw [hq] at h1; cases h1
    | some q => rw [hq] at h1; exact ⟨q, rfl, Option.some.inj h1⟩
  refine ⟨fun i j p q hp hq e => ?_, fun k q hq => ?_⟩
  · obtain ⟨p', h1, e1⟩ := key i p hp
    obtain ⟨q', h2, e2⟩ := key j q hq
    exact hD.1 i j p' q' h1 h2 (e1.trans (e.trans e2.symm))
  · obtain ⟨q', h2, e2⟩ := key k q hq
    rw [← e2]
    exact hD.2 k q' h2
theorem zDl {A : Nat → Prop} {w1 w2 : va_W} (hD : va_D A (w1 ++ w2)) : va_D A w1 := by
  have key : ∀ (i : Nat) (p : Nat × va_E), w1[i]? = some p → (w1 ++ w2)[i]? = some p := fun i p hp => by
    rw [List.getElem?_append_left (List.getElem?_eq_some_iff.mp hp).1]; exact hp
  exact ⟨fun i j p q hp hq e => hD.1 i j p q (key i p hp) (key j q hq) e, fun k q hq => hD.2 k q (key k q hq)⟩
theorem zDr {A : Nat → Prop} {w1 w2 : va_W} (hD : va_D A (w1 ++ w2)) : va_D A w2 := by
  have key : ∀ (i : Nat) (p : Nat × va_E), w2[i]? = some p → (w1 ++ w2)[w1.length + i]? = some p := fun i p hp => by
    rw [List.getElem?_append_right (by omega), Nat.add_sub_cancel_left]; exact hp
  exact ⟨fun i j p q hp hq e => by have h := hD.1 _ _ p q (key i p hp) (key j q hq) e; omega, fun k q hq => hD.2 _ q (key k q hq)⟩
theorem zDx {A : Nat → Prop} {w1 w2 : va_W} (hD : va_D A (w1 ++ w2)) {i j : Nat} {p q : Nat × va_E} (hp : w1[i]? = some p) (hq : w2[j]? = some q) : p.1 ≠ q.1 := by
  intro e
  have h1 := (List.getElem?_eq_some_iff.mp hp).1
  have h := hD.1 i (w1.length + j) p q (by rw [List.getElem?_append_left h1]; exact hp) (by rw [List.getElem?_append_right (by omega), Nat.add_sub_cancel_left]; exact hq) e
  omega
/-- the addresses of some cells -/
def zAd (w : va_W) : Nat → Prop := fun q => ∃ (k : Nat) (e : va_E), w[k]? = some (q, e)
theorem zAd_D {A : Nat → Prop} {w : va_W} (hD : va_D A w) : va_D (zAd w) w := ⟨hD.1, fun k q hq => ⟨k, q.2, hq⟩⟩
section LR
variable {p : Program} {l : Launch} {e : Env} {R : Room} {s : State} {m : MethodId} {args : Array Value} {below : List Frame} {meth : Method} {c : Code} {H : Heap} {locs : List Loc} {cells slots : Nat} {Q : State → Prop}
variable {cc : ByteArray} {pc nL : Nat} {ls : Array Slot} {rest : List Value} {Ts : List Cond} {own : String}
variable {D : va_G} {A : Nat → Prop} {ax am : Nat → Nat} {cx cm : Nat → ClassId} {S S' : XS} {T T' : MS}
theorem lx_call {y : MethodName} {bytes : ByteArray} {maxL index fr lo : Nat} {ret : Option FieldType} {ws ws' : List Cond} {As : List Value} {r : Value} {st : List Value} (S0 : CallFix p m c cc nL s args Ts own) (hM : ∀ A' : Nat → Prop, OM l D (xT cx) A' y ws fr lo (.ref (ax 0) :: As) (xW ax cx S) (xW ax cx S') (some r)) (hT : GoodIn Ts (wsV own index RX1 y ws)) (hg : LG D ax cx am cm A s S T H locs) (hws : ws = .code y bytes maxL ret :: ws')
    (hd : y.cls = RX1 ∧ y.cls ≠ "java/lang/invoke/MethodHandle" ∧ y.cls ≠ "java/lang/invoke/VarHandle" ∧ (parseMethodDescriptor y.desc).map (fun d => d.parameters.length) = some As.length) (hR : fr + 1 ≤ R.frames ∧ 8 + (maxL + 11) + lo ≤ R.locals) (hcs : cells ≤ R.cells ∧ slots ≤ R.slots) (hsz : ls.size = nL) (hst : st = As.reverse ++ .ref (ax 0) :: rest) (hW : (rest.map fun v => v.category).sum ≤ 8) (hdg : decode cc pc = .ok (.invokevirtual index, 3))
    (k : ∀ (H : Heap) (locs : List Loc), LG D ax cx am cm A s S' T H locs → W p l e R s m args below meth c H locs cells slots Q (F0 m (pc + 3) ls (r :: rest))) : W p l e R s m args below meth c H locs cells slots Q (F0 m pc ls st) := by
  subst hst
  obtain ⟨hPx, hPm, hD, hKx, hKm, hS⟩ := hg
  have hDx := zAd_D (zDl hD)
  have hr := W.runV (R := R) (cells := cells) (slots := slots) (locs := locs) (below := below) (meth := meth) (e := e) (rest := rest) (g := F0 m pc ls (As.reverse ++ .ref (ax 0) :: rest)) S0 (hM (zAd (xW ax cx S))) (cwV As.length S0.2.2.2.2 hT hws rfl rfl hd hR) ⟨io_blind, va_recv hKx hPx (ci := 0) (q0 := 0) rfl rfl, fun U hU hW => ⟨rfl, by rw [hU]; exact hPx, va_K.moved hW.alike hKx, hDx⟩⟩ rfl rfl hsz rfl (lv_room hW) hdg hcs
  intro T0 hT0 X
  obtain ⟨v, st₀, t, T1, L, h0, X', hL, e1, ⟨hv, hP', hD', hz, hk⟩, stp⟩ := hr T0 hT0 X
  cases hv
  rw [h0] at hz hk
  have sub : ∀ q, zAd (xW ax cx S) q → A q := fun q ⟨k, e, h⟩ => (zDl hD).2 k (q, e) h
  obtain ⟨t2, a1, b1⟩ := k T1.heap (locs ++ L) ⟨by rw [e1]; exact hP', hPm.kept (fun k q hq => by
      rw [e1]
      exact hk q.1 (hPm k q hq).lt (fun ⟨j, e, h⟩ => zDx hD h hq rfl)), zDc (w := xW ax cx S ++ mW am cm T) rfl hD, hKx, hKm,
    ⟨Nat.le_trans hS.1 (by rw [e1]; exact hz), fun q h1 h2 => by rw [e1, hk q (Nat.lt_of_lt_of_le h1 hS.1) (fun z => h2 (sub q z))]; exact hS.2.1 q h1 h2, fun q hq => by
      rcases List.mem_append.mp hq with h | h
      · exact hS.2.2 q h
      · exact sub _ (hL q h)⟩⟩ T1 rfl X'
  exact ⟨t2, stp t2 a1, b1⟩
theorem lm_call {y : MethodName} {bytes : ByteArray} {maxL index fr lo : Nat} {ret : Option FieldType} {ws ws' : List Cond} {As : List Value} {r : Value} {st : List Value} (S0 : CallFix p m c cc nL s args Ts own) (hM : ∀ A' : Nat → Prop, OM l D (mT cm) A' y ws fr lo (.ref (am 0) :: As) (mW am cm T) (mW am cm T') (some r)) (hT : GoodIn Ts (wsV own index RX2 y ws)) (hg : LG D ax cx am cm A s S T H locs) (hws : ws = .code y bytes maxL ret :: ws')
    (hd : y.cls = RX2 ∧ y.cls ≠ "java/lang/invoke/MethodHandle" ∧ y.cls ≠ "java/lang/invoke/VarHandle" ∧ (parseMethodDescriptor y.desc).map (fun d => d.parameters.length) = some As.length) (hR : fr + 1 ≤ R.frames ∧ 8 + (maxL + 11) + lo ≤ R.locals) (hcs : cells ≤ R.cells ∧ slots ≤ R.slots) (hsz : ls.size = nL) (hst : st = As.reverse ++ .ref (am 0) :: rest) (hW : (rest.map fun v => v.category).sum ≤ 8) (hdg : decode cc pc = .ok (.invokevirtual index, 3))
    (k : ∀ (H : Heap) (locs : List Loc), LG D ax cx am cm A s S T' H locs → W p l e R s m args below meth c H locs cells slots Q (F0 m (pc + 3) ls (r :: rest))) : W p l e R s m args below meth c H locs cells slots Q (F0 m pc ls st) := by
  subst hst
  obtain ⟨hPx, hPm, hD, hKx, hKm, hS⟩ := hg
  have hDm := zAd_D (zDr hD)
  have hr := W.runV (R := R) (cells := cells) (slots := slots) (locs := locs) (below := below) (meth := meth) (e := e) (rest := rest) (g := F0 m pc ls (As.reverse ++ .ref (am 0) :: rest)) S0 (hM (zAd (mW am cm T))) (cwV As.length S0.2.2.2.2 hT hws rfl rfl hd hR) ⟨io_blind, va_recv hKm hPm (ci := 1) (q0 := 0) rfl rfl, fun U hU hW => ⟨rfl, by rw [hU]; exact hPm, va_K.moved hW.alike hKm, hDm⟩⟩ rfl rfl hsz rfl (lv_room hW) hdg hcs
  intro T0 hT0 X
  obtain ⟨v, st₀, t, T1, L, h0, X', hL, e1, ⟨hv, hP', hD', hz, hk⟩, stp⟩ := hr T0 hT0 X
  cases hv
  rw [h0] at hz hk
  have sub : ∀ q, zAd (mW am cm T) q → A q := fun q ⟨k, e, h⟩ => (zDr hD).2 k (q, e) h
  obtain ⟨t2, a1, b1⟩ := k T1.heap (locs ++ L) ⟨hPx.kept (fun k q hq => by
      rw [e1]
      exact hk q.1 (hPx k q hq).lt (fun ⟨j, e, h⟩ => zDx hD hq h rfl)), by rw [e1]; exact hP', zDc (w := xW ax cx S ++ mW am cm T) rfl hD, hKx, hKm,
    ⟨Nat.le_trans hS.1 (by rw [e1]; exact hz), fun q h1 h2 => by rw [e1, hk q (Nat.lt_of_lt_of_le h1 hS.1) (fun z => h2 (sub q z))]; exact hS.2.1 q h1 h2, fun q hq => by
      rcases List.mem_append.mp hq with h | h
      · exact hS.2.2 q h
      · exact sub _ (hL q h)⟩⟩ T1 rfl X'
  exact ⟨t2, stp t2 a1, b1⟩
end LR
theorem zscr {i L : Nat} (j : Nat) (hj : j ≤ 6) (hi : i + 7 ≤ L) (hL : L ≤ 3584) : vp_in (nI i + OfNat.ofNat j) L := by
  have e : nI i + OfNat.ofNat j = nI (i + j) := by rw [← nI_add]; rfl
  rw [e]
  exact vp_in_nI (by omega) (by omega)
