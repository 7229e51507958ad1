/-! new rows whose array class is the one that the tables know -/
section KROWS
variable {p : Program} {l : Launch} {e : Env} {R : Room} {s : State} {m : MethodId} {args : Array Value} {below : List Frame} {meth : Method} {c : Code} {H : Heap} {locs : List Loc} {cells slots : Nat} {Q : State → Prop}
variable {cc : ByteArray} {pc : Nat} {ls : Array Slot} {rest st0 : List Value} {a0 : Array Value} {D : va_G} {cs : Nat → ClassId} {A : Nat → Prop} {H0 : Heap} {ws : va_W} {q : Nat}
theorem mnewi (hx : p.tables.exec = Jvm.exec) (hb : c.code = cc) (harr : (Cond.arrayClass .int).before args s = true) (hK : KK D cs s) (hP : va_P D vwCl ws H) (hD : va_D A ws) (hS : va_S A H0 H locs) (hA : ∀ q, H0.size ≤ q → A q) {n : Int32} {N' : Nat} (hn : ¬ n < 0) (hN : n.toNatClampNeg = N') (hbytes : N' * componentBytes .int ≤ 536870912) (hcells : cells + 1 ≤ R.cells) (hslots : slots + N' ≤ R.slots) (hdg : decode cc pc = .ok (.newarray .int, 2))
    (kk : ∀ (q : Nat) (H1 : Heap), va_P D vwCl (ws ++ [(q, .inl (cs 0, N', .inl (fun _ => 0)))]) H1 → va_D A (ws ++ [(q, .inl (cs 0, N', .inl (fun _ => 0)))]) → va_S A H0 H1 locs → W p l e R s m args below meth c H1 locs (cells + 1) (slots + N') Q (F0 m (pc + 2) ls (.ref q :: rest))) : W p l e R s m args below meth c H locs cells slots Q (F0 m pc ls (.int n :: rest)) := by
  refine va_newa hx hb (atype := .int) harr rfl hK.1 hP hD hS hA (a0 := (N', .inl (fun _ => 0))) (fun cA => rfl) hn hN hbytes hcells hslots hdg (fun q cA H1 hK2 hP hD hS => ?_)
  have h1 : va_RA s cA .int := (hK2.2 5 _ rfl).2
  have h2 : va_RA s (cs 0) .int := (hK.1.2 0 _ rfl).2
  have e : cA = cs 0 := Option.some.inj (h1.symm.trans h2)
  subst e
  exact kk q H1 hP hD hS
theorem mnewz (hx : p.tables.exec = Jvm.exec) (hb : c.code = cc) (harr : (Cond.arrayClass .boolean).before args s = true) (hK : KK D cs s) (hP : va_P D vwCl ws H) (hD : va_D A ws) (hS : va_S A H0 H locs) (hA : ∀ q, H0.size ≤ q → A q) {n : Int32} {N' : Nat} (hn : ¬ n < 0) (hN : n.toNatClampNeg = N') (hbytes : N' * componentBytes .boolean ≤ 536870912) (hcells : cells + 1 ≤ R.cells) (hslots : slots + N' ≤ R.slots) (hdg : decode cc pc = .ok (.newarray .boolean, 2))
    (kk : ∀ (q : Nat) (H1 : Heap), va_P D vwCl (ws ++ [(q, .inl (cs 1, N', .inl (fun _ => 0)))]) H1 → va_D A (ws ++ [(q, .inl (cs 1, N', .inl (fun _ => 0)))]) → va_S A H0 H1 locs → W p l e R s m args below meth c H1 locs (cells + 1) (slots + N') Q (F0 m (pc + 2) ls (.ref q :: rest))) : W p l e R s m args below meth c H locs cells slots Q (F0 m pc ls (.int n :: rest)) := by
  refine va_newa hx hb (atype := .boolean) harr rfl hK.1 hP hD hS hA (a0 := (N', .inl (fun _ => 0))) (fun cA => rfl) hn hN hbytes hcells hslots hdg (fun q cA H1 hK2 hP hD hS => ?_)
  have h1 : va_RA s cA .boolean := (hK2.2 5 _ rfl).2
  have h2 : va_RA s (cs 1) .boolean := (hK.1.2 1 _ rfl).2
  have e : cA = cs 1 := Option.some.inj (h1.symm.trans h2)
  subst e
  exact kk q H1 hP hD hS
theorem mnewq (C : String) (k : Nat) (hx : p.tables.exec = Jvm.exec) (hb : c.code = cc) {own : String} {index : Nat} (hown : s.vm.findClass own = some m.cls) (hclink : (Cond.classLink own index C).before args s = true) (hover : va_AO C s) (hK : KK D cs s) (hk : (TY cs)[k]? = some (cs k, .object C)) (hP : va_P D vwCl ws H) (hD : va_D A ws) (hS : va_S A H0 H locs) (hA : ∀ q, H0.size ≤ q → A q) {n : Int32} {N' : Nat} (hn : ¬ n < 0) (hN : n.toNatClampNeg = N') (hbytes : N' * 4 ≤ 536870912) (hcells : cells + 1 ≤ R.cells) (hslots : slots + N' ≤ R.slots) (hdg : decode cc pc = .ok (.anewarray index, 3))
    (kk : ∀ (q : Nat) (H1 : Heap), va_P D vwCl (ws ++ [(q, .inl (cs k, N', .inr (.inr (.inr (.inr (fun _ => none))))))]) H1 → va_D A (ws ++ [(q, .inl (cs k, N', .inr (.inr (.inr (.inr (fun _ => none))))))]) → va_S A H0 H1 locs → W p l e R s m args below meth c H1 locs (cells + 1) (slots + N') Q (F0 m (pc + 3) ls (.ref q :: rest))) : W p l e R s m args below meth c H locs cells slots Q (F0 m pc ls (.int n :: rest)) := by
  refine va_newq hx hb hown hclink hover hK.1 hP hD hS hA hn hN hbytes hcells hslots hdg (fun q cA H1 hK2 hP hD hS => ?_)
  have h1 : va_RA s cA (.object C) := (hK2.2 5 _ rfl).2
  have h2 : va_RA s (cs k) (.object C) := (hK.1.2 k _ hk).2
  obtain ⟨_, _, -, -, -, h1⟩ := h1
  obtain ⟨_, _, -, -, -, h2⟩ := h2
  have e : cA = cs k := Option.some.inj (h1.symm.trans h2)
  subst e
  exact kk q H1 hP hD hS
theorem mmna (hx : p.tables.exec = Jvm.exec) (hb : c.code = cc) {own : String} {index : Nat} (hown : s.vm.findClass own = some m.cls) (hclink : (Cond.classLink own index "[[I").before args s = true) (harr : (Cond.arrayClass .int).before args s = true) (hK : KK D cs s) (hP : va_P D vwCl ws H) (hD : va_D A ws) (hS : va_S A H0 H locs) (hA : ∀ q, H0.size ≤ q → A q) (hcells : cells + (1 + 4) ≤ R.cells) (hslots : slots + (4 + 4 * 16) ≤ R.slots) (hdg : decode cc pc = .ok (.multianewarray index 2, 4))
    (kk : ∀ (q r0 r1 r2 r3 : Nat) (H1 : Heap), va_P D vwCl (ws ++ [(q, .inl (cs 4, 4, .inr (.inr (.inr (.inr (fun j => if j = 0 then some r0 else if j = 1 then some r1 else if j = 2 then some r2 else if j = 3 then some r3 else none)))))), (r0, .inl (cs 0, 16, .inl (fun _ => 0))), (r1, .inl (cs 0, 16, .inl (fun _ => 0))), (r2, .inl (cs 0, 16, .inl (fun _ => 0))), (r3, .inl (cs 0, 16, .inl (fun _ => 0)))]) H1 → va_D A (ws ++ [(q, .inl (cs 4, 4, .inr (.inr (.inr (.inr (fun j => if j = 0 then some r0 else if j = 1 then some r1 else if j = 2 then some r2 else if j = 3 then some r3 else none)))))), (r0, .inl (cs 0, 16, .inl (fun _ => 0))), (r1, .inl (cs 0, 16, .inl (fun _ => 0))), (r2, .inl (cs 0, 16, .inl (fun _ => 0))), (r3, .inl (cs 0, 16, .inl (fun _ => 0)))]) → va_S A H0 H1 locs → W p l e R s m args below meth c H1 locs (cells + 1 + 4) (slots + 4 + 4 * 16) Q (F0 m (pc + 4) ls (.ref q :: rest))) : W p l e R s m args below meth c H locs cells slots Q (F0 m pc ls (.int 16 :: .int 4 :: rest)) := by
  have h2 : va_RA s (cs 0) .int := (hK.1.2 0 _ rfl).2
  have hP0 : va_P D vwCl (ws ++ va_pl [] (fun _ => .inr (0, []))) H := by
    show va_P D vwCl (ws ++ []) H
    rw [List.append_nil]; exact hP
  have hD0 : va_D A (ws ++ va_pl [] (fun _ => .inr (0, []))) := by
    show va_D A (ws ++ [])
    rw [List.append_nil]; exact hD
  refine va_mna hx hb (ty := .int) (cy := cs 0) (N' := 4) (K' := 16) (z := (16, .inl (fun _ => 0))) hown hclink hK.2.2.2.2.2.2.2.2 harr h2 hK.1 hP0 hD0 hS hA (by decide) (by decide) (by decide) (by decide) (by decide) (by decide) (by decide) rfl rfl hcells hslots (fun c => rfl) hdg (fun q r cA H1 hinj hnl hK2 hP2 hD2 hS2 => ?_)
  have h1 : va_RA s cA (.array .int) := (hK2.2 5 _ rfl).2
  have h3 : va_RA s (cs 4) (.array .int) := (hK.1.2 4 _ rfl).2
  have e : cA = cs 4 := Option.some.inj (h1.symm.trans h3)
  subst e
  have hf : (fun i => if i < 4 then some (r i) else none) = (fun j => if j = 0 then some (r 0) else if j = 1 then some (r 1) else if j = 2 then some (r 2) else if j = 3 then some (r 3) else none) := by
    funext j
    match j with
    | 0 => rfl
    | 1 => rfl
    | 2 => rfl
    | 3 => rfl
    | j + 4 => rw [if_neg (by omega), if_neg (by omega), if_neg (by omega), if_neg (by omega), if_neg (by omega)]
  have hl : va_pl ([] ++ (List.range 4).map r) (vr_up (fun _ => .inr (0, [])) ((List.range 4).map r) (.inl (cs 0, (16, .inl (fun _ => 0))))) = [(r 0, .inl (cs 0, 16, .inl (fun _ => 0))), (r 1, .inl (cs 0, 16, .inl (fun _ => 0))), (r 2, .inl (cs 0, 16, .inl (fun _ => 0))), (r 3, .inl (cs 0, 16, .inl (fun _ => 0)))] := by
    have hr : (List.range 4).map r = [r 0, r 1, r 2, r 3] := rfl
    rw [hr]
    simp [va_pl, vr_up]
  rw [hl, hf, List.append_assoc] at hP2 hD2
  exact kk q (r 0) (r 1) (r 2) (r 3) H1 hP2 hD2 hS2
/-- a constructor's call on the cell that was made last: its cells come behind the rest, which stays -/
theorem mcallK {S : Type} {post : S → Prop} {w2 : S → va_W} {e1 : va_E} {mc ms : Nat} (hr : va_Run p l e R s m args below meth c H locs cells slots mc ms (F0 m pc ls st0) rest (va_Qv post (qB D w2 (va_A [(q, e1)] H.size)) (va_A [(q, e1)] H.size) a0) (va_A [(q, e1)] H.size)) (hP : va_P D vwCl (ws ++ [(q, e1)]) H) (hD : va_D A (ws ++ [(q, e1)])) (hS : va_S A H0 H locs) (hA : ∀ q, H0.size ≤ q → A q)
    (kk : ∀ (y : S) (H1 : Heap) (locs1 : List Loc), post y → va_P D vwCl (ws ++ w2 y) H1 → va_D A (ws ++ w2 y) → va_S A H0 H1 locs1 → W p l e R s m args below meth c H1 locs1 (cells + mc) (slots + ms) Q (F0 m (pc + 3) ls rest)) : W p l e R s m args below meth c H locs cells slots Q (F0 m pc ls st0) := by
  have hlast : (ws ++ [(q, e1)])[ws.length]? = some (q, e1) := by simp
  have hF : ∀ x, va_A [(q, e1)] H.size x → A x := by
    intro x h
    rcases h with ⟨k, e, h⟩ | h
    · have hk : k = 0 := by
        have := (List.getElem?_eq_some_iff.mp h).1
        simp at this
        exact this
      subst hk
      cases h
      exact hD.2 _ _ hlast
    · exact hA x (Nat.le_trans hS.1 h)
  have hne : ∀ (k : Nat) (x : Nat × va_E), ws[k]? = some x → x.1 ≠ q ∧ x.1 < H.size := fun k x hx => by
    have hkl := (List.getElem?_eq_some_iff.mp hx).1
    have h1 : (ws ++ [(q, e1)])[k]? = some x := by rw [List.getElem?_append_left hkl]; exact hx
    refine ⟨fun e => ?_, (hP k x h1).lt⟩
    have := hD.1 k ws.length x (q, e1) h1 hlast e
    omega
  have hnA : ∀ (k : Nat) (x : Nat × va_E), ws[k]? = some x → ¬ va_A [(q, e1)] H.size x.1 := fun k x hx h => by
    rcases h with ⟨k2, e, h⟩ | h
    · have hk : k2 = 0 := by
        have := (List.getElem?_eq_some_iff.mp h).1
        simp at this
        exact this
      subst hk
      have h9 : (q, e1) = (x.1, e) := Option.some.inj h
      exact (hne k x hx).1 (congrArg Prod.fst h9).symm
    · have := (hne k x hx).2
      omega
  refine va_callv hr hS (fun q _ h => hF q h) hF (fun u2 t H1 locs1 ht hvm hw hB hz hk hS1 => ?_)
  have hB1 := hB.1
  rw [ht] at hB1
  refine kk u2 H1 locs1 hw (va_P.app (fun k x hx => ?_) hB1) (va_D.app ?_ (hB.2.weaken (fun _ x _ h => hF x.1 h)) ?_) hS1
  · have hkl := (List.getElem?_eq_some_iff.mp hx).1
    have h1 : (ws ++ [(q, e1)])[k]? = some x := by rw [List.getElem?_append_left hkl]; exact hx
    exact (hP k x h1).kept (hk x.1 (hne k x hx).2 (hnA k x hx))
  · refine ⟨fun i j x y hi hj hxy => hD.1 i j x y ?_ ?_ hxy, fun k x hx => hD.2 k x ?_⟩
    · rw [List.getElem?_append_left (List.getElem?_eq_some_iff.mp hi).1]; exact hi
    · rw [List.getElem?_append_left (List.getElem?_eq_some_iff.mp hj).1]; exact hj
    · rw [List.getElem?_append_left (List.getElem?_eq_some_iff.mp hx).1]; exact hx
  · intro i j x y hi hj hxy
    exact hnA i x hi (by rw [hxy]; exact hB.2.2 j y hj)
theorem mretK {S : Type} {post : S → Prop} {w2 : S → va_W} (hx : p.tables.exec = Jvm.exec) (hb : c.code = cc) (hr : meth.sig.returnType = none) (hlk : meth.locks = false) (y : S) (hy : post y) (hP : va_P D vwCl (w2 y) H) (hD : va_D A (w2 y)) (hS : va_S A s.heap H locs) (hdg : decode cc pc = .ok (.return_, 1)) : W p l e R s m args below meth c H locs cells slots (MQ below (va_Qv post (qB D w2 A) A) args s cells slots A) (F0 m pc ls []) :=
  W.vret hx hb hr (fun t ht _ => ⟨⟨y, rfl, hy, by rw [ht]; exact hP, hD⟩, hS.F ht⟩) hS.2.2 hdg hlk
end KROWS
def w2X4_init (cs : Nat → ClassId) (q : Nat) (y : Nat → Nat) : va_W := [(q, .inr (4, [.ref (y 0), .ref (y 1), .int 0])), ((y 0), .inl (cs 2, 10, .inr (.inr (.inr (.inr (fun _ => none)))))), ((y 1), .inl (cs 0, 10, .inl (fun _ => 0)))]
abbrev rmX4_init : Room := { frames := 1, cells := 2, slots := 20, locals := 20 }
theorem inX4_X4_init : ∀ w ∈ wsX40, w ∈ wsX4_init := by intro w h; simp only [wsX4_init, List.mem_cons, List.mem_append]; simp only [h, true_or, or_true]
set_option maxHeartbeats 8000000 in
set_option maxRecDepth 100000 in
theorem kX4_init (l : Launch) (D : va_G) (cs : Nat → ClassId) (q sz : Nat) : Met l yX4_init wsX4_init rmX4_init (va_Pc [.ref q] (pQ D cs [(q, .inr (4, [.null, .null, .int 0]))] sz)) (va_Qv (fun _ : Nat → Nat => True) (qB D (w2X4_init cs q) (va_A [(q, .inr (4, [.null, .null, .int 0]))] sz)) (va_A [(q, .inr (4, [.null, .null, .int 0]))] sz)) 2 20 (va_A [(q, .inr (4, [.null, .null, .int 0]))] sz) := by
  refine Met.ofW (cc := cX4_init) (maxL := 1) (ret := none) (by decide) rfl ?_
  intro p e s m args below meth c s₁ B hml hv
  obtain ⟨rfl, hsz, hP, hK, hD0⟩ := hv
  have C : cxt p s m _ meth c cX4_init 1 RX4 wsX4_init none := ⟨B.exec, B.bytes, hml, findClass_of_methodNamed B.named, atoms_spec (ws := wsX4_init) B.pre, B.returns, B.notSynchronized⟩
  obtain ⟨hx, hb, -, hown, hts, hr, hlk⟩ := id C
  have hin : meth.name = "<init>" := (name_of_methodNamed B.named B.method).1
  subst hsz
  have hD := hD0.self (sz := s.heap.size)
  generalize hAe : va_A [(q, .inr (4, [.null, .null, .int 0]))] s.heap.size = A at hD ⊢
  have hA : ∀ q : Nat, s.heap.size ≤ q → A q := fun q h => by rw [← hAe]; exact Or.inr h
  have hS : va_S A s.heap s.heap [] := va_S.rf
  refine entryW [.ref q] (n := 1) (Nat.le_of_ble_eq_true rfl) (fun ls hl => ?_)
  have hl : lv_has ls 1 [(0, .ref q)] := hl
  refine lv_aload_n hx hb dX4_init_0 rfl (lv_at hl 0 rfl) ?_
  refine W.objInit hx hb hown (hts (.methodLink RX4 3 objectInit) (by decide +kernel)) (hts (.instanceMethod objectInit) (by decide +kernel)) (hts _ (List.mem_of_getElem? (l := wsX4_init) (i := 3) rfl)) rfl (by rw [hml]; exact hl.1) rfl dX4_init_1 (Nat.le_of_ble_eq_true rfl) (Nat.le_of_ble_eq_true rfl) ?_
  refine W.eq (g2 := F0 m 4 ls []) rfl ?_
  refine lv_aload_n hx hb dX4_init_4 rfl (lv_at hl 0 rfl) ?_
  refine lv_bipush (v := (10 : Int32)) hx hb dX4_init_5 (by decide) ?_
  refine mnewq "SandPalace$Shape" 2 hx hb hown (hts (.classLink RX4 9 RX6) (by decide +kernel)) hK.2.2.2.2.2.1 hK rfl hP hD hS hA (N' := 10) (by decide) rfl (by decide) (Nat.le_of_ble_eq_true rfl) (Nat.le_of_ble_eq_true rfl) dX4_init_7 (fun q1 H hP hD hS => ?_)
  have hP : va_P D vwCl [(q, .inr (4, [.null, .null, .int 0])), (q1, .inl (cs 2, 10, .inr (.inr (.inr (.inr (fun _ => none))))))] H := hP
  have hD : va_D A [(q, .inr (4, [.null, .null, .int 0])), (q1, .inl (cs 2, 10, .inr (.inr (.inr (.inr (fun _ => none))))))] := hD
  refine W.widen (k := 1) (n := 10) (Nat.le_refl _) (Nat.le_refl _) ?_
  refine va_putF (D := D) (ci := 4) (v := .ref q1) (ty := .array (.object "SandPalace$Shape")) (C := RX4) (T := TX4) (N := 3) hx hb hts inX4_X4_init tyX4 tyX4_ok nmX4 hown hK.1 hP hD hS 0 rfl rfl 0 (by decide) (hts (.fieldLink RX4 11 "SandPalace$Picture" "shapes" "[LSandPalace$Shape;") (by decide +kernel)) (fun _ h9 => h9) rfl hin rfl (by decide +kernel) rfl rfl (Nat.le_of_ble_eq_true rfl) dX4_init_10 (fun H locs hP hD hS => ?_)
  have hP : va_P D vwCl [(q, .inr (4, [.ref q1, .null, .int 0])), (q1, .inl (cs 2, 10, .inr (.inr (.inr (.inr (fun _ => none))))))] H := hP
  have hD : va_D A [(q, .inr (4, [.ref q1, .null, .int 0])), (q1, .inl (cs 2, 10, .inr (.inr (.inr (.inr (fun _ => none))))))] := hD
  refine lv_aload_n hx hb dX4_init_13 rfl (lv_at hl 0 rfl) ?_
  refine lv_bipush (v := (10 : Int32)) hx hb dX4_init_14 (by decide) ?_
  refine mnewi hx hb (hts (.arrayClass .int) (by decide +kernel)) hK hP hD hS hA (N' := 10) (by decide) rfl (by decide) (Nat.le_of_ble_eq_true rfl) (Nat.le_of_ble_eq_true rfl) dX4_init_16 (fun q2 H hP hD hS => ?_)
  have hP : va_P D vwCl [(q, .inr (4, [.ref q1, .null, .int 0])), (q1, .inl (cs 2, 10, .inr (.inr (.inr (.inr (fun _ => none)))))), (q2, .inl (cs 0, 10, .inl (fun _ => 0)))] H := hP
  have hD : va_D A [(q, .inr (4, [.ref q1, .null, .int 0])), (q1, .inl (cs 2, 10, .inr (.inr (.inr (.inr (fun _ => none)))))), (q2, .inl (cs 0, 10, .inl (fun _ => 0)))] := hD
  refine W.widen (k := 2) (n := 20) (Nat.le_refl _) (Nat.le_refl _) ?_
  refine va_putF (D := D) (ci := 4) (v := .ref q2) (ty := .array .int) (C := RX4) (T := TX4) (N := 3) hx hb hts inX4_X4_init tyX4 tyX4_ok nmX4 hown hK.1 hP hD hS 0 rfl rfl 1 (by decide) (hts (.fieldLink RX4 17 "SandPalace$Picture" "hemmed" "[I") (by decide +kernel)) (fun _ h9 => h9) rfl hin rfl (by decide +kernel) rfl rfl (Nat.le_of_ble_eq_true rfl) dX4_init_18 (fun H locs hP hD hS => ?_)
  have hP : va_P D vwCl [(q, .inr (4, [.ref q1, .ref q2, .int 0])), (q1, .inl (cs 2, 10, .inr (.inr (.inr (.inr (fun _ => none)))))), (q2, .inl (cs 0, 10, .inl (fun _ => 0)))] H := hP
  have hD : va_D A [(q, .inr (4, [.ref q1, .ref q2, .int 0])), (q1, .inl (cs 2, 10, .inr (.inr (.inr (.inr (fun _ => none)))))), (q2, .inl (cs 0, 10, .inl (fun _ => 0)))] := hD
  exact mretK (w2 := w2X4_init cs q) hx hb hr hlk (fun j => if j = 0 then q1 else if j = 1 then q2 else 0) trivial hP hD hS dX4_init_21
def w2X10_init (cs : Nat → ClassId) (q : Nat) (y : Nat → Nat) : va_W := [(q, .inr (9, [.int (128 : Int32), .int 0, .int 0, .int 0, .int 0, .ref (y 0), .ref (y 1), .ref (y 2), .ref (y 3), .ref (y 4), .ref (y 5), .ref (y 6), .ref (y 7), .ref (y 8)])), ((y 0), .inl (cs 0, 10, .inl (fun _ => 0))), ((y 1), .inl (cs 0, 10, .inl (fun _ => 0))), ((y 2), .inl (cs 0, 10, .inl (fun _ => 0))), ((y 3), .inl (cs 0, 10, .inl (fun _ => 0))), ((y 4), .inl (cs 0, 1024, .inl (fun _ => 0))), ((y 5), .inl (cs 0, 1024, .inl (fun _ => 0))), ((y 6), .inl (cs 0, 1024, .inl (fun _ => 0))), ((y 7), .inl (cs 0, 10, .inl (fun _ => 0))), ((y 8), .inl (cs 0, 10, .inl (fun _ => 0)))]
abbrev rmX10_init : Room := { frames := 1, cells := 9, slots := 3132, locals := 20 }
theorem inX10_X10_init : ∀ w ∈ wsX100, w ∈ wsX10_init := by intro w h; simp only [wsX10_init, List.mem_cons, List.mem_append]; simp only [h, true_or, or_true]
set_option maxHeartbeats 8000000 in
set_option maxRecDepth 100000 in
theorem kX10_init (l : Launch) (D : va_G) (cs : Nat → ClassId) (q sz : Nat) : Met l yX10_init wsX10_init rmX10_init (va_Pc [.ref q] (pQ D cs [(q, .inr (9, [.int 0, .int 0, .int 0, .int 0, .int 0, .null, .null, .null, .null, .null, .null, .null, .null, .null]))] sz)) (va_Qv (fun _ : Nat → Nat => True) (qB D (w2X10_init cs q) (va_A [(q, .inr (9, [.int 0, .int 0, .int 0, .int 0, .int 0, .null, .null, .null, .null, .null, .null, .null, .null, .null]))] sz)) (va_A [(q, .inr (9, [.int 0, .int 0, .int 0, .int 0, .int 0, .null, .null, .null, .null, .null, .null, .null, .null, .null]))] sz)) 9 3132 (va_A [(q, .inr (9, [.int 0, .int 0, .int 0, .int 0, .int 0, .null, .null, .null, .null, .null, .null, .null, .null, .null]))] sz) := by
  refine Met.ofW (cc := cX10_init) (maxL := 1) (ret := none) (by decide) rfl ?_
  intro p e s m args below meth c s₁ B hml hv
  obtain ⟨rfl, hsz, hP, hK, hD0⟩ := hv
  have C : cxt p s m _ meth c cX10_init 1 RX10 wsX10_init none := ⟨B.exec, B.bytes, hml, findClass_of_methodNamed B.named, atoms_spec (ws := wsX10_init) B.pre, B.returns, B.notSynchronized⟩
  obtain ⟨hx, hb, -, hown, hts, hr, hlk⟩ := id C
  have hin : meth.name = "<init>" := (name_of_methodNamed B.named B.method).1
  subst hsz
  have hD := hD0.self (sz := s.heap.size)
  generalize hAe : va_A [(q, .inr (9, [.int 0, .int 0, .int 0, .int 0, .int 0, .null, .null, .null, .null, .null, .null, .null, .null, .null]))] s.heap.size = A at hD ⊢
  have hA : ∀ q : Nat, s.heap.size ≤ q → A q := fun q h => by rw [← hAe]; exact Or.inr h
  have hS : va_S A s.heap s.heap [] := va_S.rf
  refine entryW [.ref q] (n := 1) (Nat.le_of_ble_eq_true rfl) (fun ls hl => ?_)
  have hl : lv_has ls 1 [(0, .ref q)] := hl
  refine lv_aload_n hx hb dX10_init_0 rfl (lv_at hl 0 rfl) ?_
  refine W.objInit hx hb hown (hts (.methodLink RX10 3 objectInit) (by decide +kernel)) (hts (.instanceMethod objectInit) (by decide +kernel)) (hts _ (List.mem_of_getElem? (l := wsX10_init) (i := 3) rfl)) rfl (by rw [hml]; exact hl.1) rfl dX10_init_1 (Nat.le_of_ble_eq_true rfl) (Nat.le_of_ble_eq_true rfl) ?_
  refine W.eq (g2 := F0 m 4 ls []) rfl ?_
  refine lv_aload_n hx hb dX10_init_4 rfl (lv_at hl 0 rfl) ?_
  refine lv_sipush (v := (128 : Int32)) hx hb dX10_init_5 (by decide) ?_
  refine va_put (D := D) (ci := 9) (v := .int (128 : Int32)) (ty := .int) (C := RX10) (T := TX10) (N := 14) hx hb hts inX10_X10_init tyX10 tyX10_ok nmX10 hown hK.1 hP hD hS 0 rfl rfl 0 (by decide) (hts (.fieldLink RX10 9 "SandPalace$Work" "sandOfDay" "I") (by decide +kernel)) (fun _ h9 => h9) rfl (by decide +kernel) rfl rfl (Nat.le_of_ble_eq_true rfl) dX10_init_8 (fun H locs hP hD hS => ?_)
  have hP : va_P D vwCl [(q, .inr (9, [.int (128 : Int32), .int 0, .int 0, .int 0, .int 0, .null, .null, .null, .null, .null, .null, .null, .null, .null]))] H := hP
  have hD : va_D A [(q, .inr (9, [.int (128 : Int32), .int 0, .int 0, .int 0, .int 0, .null, .null, .null, .null, .null, .null, .null, .null, .null]))] := hD
  refine lv_aload_n hx hb dX10_init_11 rfl (lv_at hl 0 rfl) ?_
  refine lv_bipush (v := (10 : Int32)) hx hb dX10_init_12 (by decide) ?_
  refine mnewi hx hb (hts (.arrayClass .int) (by decide +kernel)) hK hP hD hS hA (N' := 10) (by decide) rfl (by decide) (Nat.le_of_ble_eq_true rfl) (Nat.le_of_ble_eq_true rfl) dX10_init_14 (fun q1 H hP hD hS => ?_)
  have hP : va_P D vwCl [(q, .inr (9, [.int (128 : Int32), .int 0, .int 0, .int 0, .int 0, .null, .null, .null, .null, .null, .null, .null, .null, .null])), (q1, .inl (cs 0, 10, .inl (fun _ => 0)))] H := hP
  have hD : va_D A [(q, .inr (9, [.int (128 : Int32), .int 0, .int 0, .int 0, .int 0, .null, .null, .null, .null, .null, .null, .null, .null, .null])), (q1, .inl (cs 0, 10, .inl (fun _ => 0)))] := hD
  refine W.widen (k := 1) (n := 10) (Nat.le_refl _) (Nat.le_refl _) ?_
  refine va_putF (D := D) (ci := 9) (v := .ref q1) (ty := .array .int) (C := RX10) (T := TX10) (N := 14) hx hb hts inX10_X10_init tyX10 tyX10_ok nmX10 hown hK.1 hP hD hS 0 rfl rfl 5 (by decide) (hts (.fieldLink RX10 15 "SandPalace$Work" "ahead" "[I") (by decide +kernel)) (fun _ h9 => h9) rfl hin rfl (by decide +kernel) rfl rfl (Nat.le_of_ble_eq_true rfl) dX10_init_16 (fun H locs hP hD hS => ?_)
  have hP : va_P D vwCl [(q, .inr (9, [.int (128 : Int32), .int 0, .int 0, .int 0, .int 0, .ref q1, .null, .null, .null, .null, .null, .null, .null, .null])), (q1, .inl (cs 0, 10, .inl (fun _ => 0)))] H := hP
  have hD : va_D A [(q, .inr (9, [.int (128 : Int32), .int 0, .int 0, .int 0, .int 0, .ref q1, .null, .null, .null, .null, .null, .null, .null, .null])), (q1, .inl (cs 0, 10, .inl (fun _ => 0)))] := hD
  refine lv_aload_n hx hb dX10_init_19 rfl (lv_at hl 0 rfl) ?_
  refine lv_bipush (v := (10 : Int32)) hx hb dX10_init_20 (by decide) ?_
  refine mnewi hx hb (hts (.arrayClass .int) (by decide +kernel)) hK hP hD hS hA (N' := 10) (by decide) rfl (by decide) (Nat.le_of_ble_eq_true rfl) (Nat.le_of_ble_eq_true rfl) dX10_init_22 (fun q2 H hP hD hS => ?_)
  have hP : va_P D vwCl [(q, .inr (9, [.int (128 : Int32), .int 0, .int 0, .int 0, .int 0, .ref q1, .null, .null, .null, .null, .null, .null, .null, .null])), (q1, .inl (cs 0, 10, .inl (fun _ => 0))), (q2, .inl (cs 0, 10, .inl (fun _ => 0)))] H := hP
  have hD : va_D A [(q, .inr (9, [.int (128 : Int32), .int 0, .int 0, .int 0, .int 0, .ref q1, .null, .null, .null, .null, .null, .null, .null, .null])), (q1, .inl (cs 0, 10, .inl (fun _ => 0))), (q2, .inl (cs 0, 10, .inl (fun _ => 0)))] := hD
  refine W.widen (k := 2) (n := 20) (Nat.le_refl _) (Nat.le_refl _) ?_
  refine va_putF (D := D) (ci := 9) (v := .ref q2) (ty := .array .int) (C := RX10) (T := TX10) (N := 14) hx hb hts inX10_X10_init tyX10 tyX10_ok nmX10 hown hK.1 hP hD hS 0 rfl rfl 6 (by decide) (hts (.fieldLink RX10 19 "SandPalace$Work" "weight" "[I") (by decide +kernel)) (fun _ h9 => h9) rfl hin rfl (by decide +kernel) rfl rfl (Nat.le_of_ble_eq_true rfl) dX10_init_24 (fun H locs hP hD hS => ?_)
  have hP : va_P D vwCl [(q, .inr (9, [.int (128 : Int32), .int 0, .int 0, .int 0, .int 0, .ref q1, .ref q2, .null, .null, .null, .null, .null, .null, .null])), (q1, .inl (cs 0, 10, .inl (fun _ => 0))), (q2, .inl (cs 0, 10, .inl (fun _ => 0)))] H := hP
  have hD : va_D A [(q, .inr (9, [.int (128 : Int32), .int 0, .int 0, .int 0, .int 0, .ref q1, .ref q2, .null, .null, .null, .null, .null, .null, .null])), (q1, .inl (cs 0, 10, .inl (fun _ => 0))), (q2, .inl (cs 0, 10, .inl (fun _ => 0)))] := hD
  refine lv_aload_n hx hb dX10_init_27 rfl (lv_at hl 0 rfl) ?_
  refine lv_bipush (v := (10 : Int32)) hx hb dX10_init_28 (by decide) ?_
  refine mnewi hx hb (hts (.arrayClass .int) (by decide +kernel)) hK hP hD hS hA (N' := 10) (by decide) rfl (by decide) (Nat.le_of_ble_eq_true rfl) (Nat.le_of_ble_eq_true rfl) dX10_init_30 (fun q3 H hP hD hS => ?_)
  have hP : va_P D vwCl [(q, .inr (9, [.int (128 : Int32), .int 0, .int 0, .int 0, .int 0, .ref q1, .ref q2, .null, .null, .null, .null, .null, .null, .null])), (q1, .inl (cs 0, 10, .inl (fun _ => 0))), (q2, .inl (cs 0, 10, .inl (fun _ => 0))), (q3, .inl (cs 0, 10, .inl (fun _ => 0)))] H := hP
  have hD : va_D A [(q, .inr (9, [.int (128 : Int32), .int 0, .int 0, .int 0, .int 0, .ref q1, .ref q2, .null, .null, .null, .null, .null, .null, .null])), (q1, .inl (cs 0, 10, .inl (fun _ => 0))), (q2, .inl (cs 0, 10, .inl (fun _ => 0))), (q3, .inl (cs 0, 10, .inl (fun _ => 0)))] := hD
  refine W.widen (k := 3) (n := 30) (Nat.le_refl _) (Nat.le_refl _) ?_
  refine va_putF (D := D) (ci := 9) (v := .ref q3) (ty := .array .int) (C := RX10) (T := TX10) (N := 14) hx hb hts inX10_X10_init tyX10 tyX10_ok nmX10 hown hK.1 hP hD hS 0 rfl rfl 7 (by decide) (hts (.fieldLink RX10 22 "SandPalace$Work" "reach" "[I") (by decide +kernel)) (fun _ h9 => h9) rfl hin rfl (by decide +kernel) rfl rfl (Nat.le_of_ble_eq_true rfl) dX10_init_32 (fun H locs hP hD hS => ?_)
  have hP : va_P D vwCl [(q, .inr (9, [.int (128 : Int32), .int 0, .int 0, .int 0, .int 0, .ref q1, .ref q2, .ref q3, .null, .null, .null, .null, .null, .null])), (q1, .inl (cs 0, 10, .inl (fun _ => 0))), (q2, .inl (cs 0, 10, .inl (fun _ => 0))), (q3, .inl (cs 0, 10, .inl (fun _ => 0)))] H := hP
  have hD : va_D A [(q, .inr (9, [.int (128 : Int32), .int 0, .int 0, .int 0, .int 0, .ref q1, .ref q2, .ref q3, .null, .null, .null, .null, .null, .null])), (q1, .inl (cs 0, 10, .inl (fun _ => 0))), (q2, .inl (cs 0, 10, .inl (fun _ => 0))), (q3, .inl (cs 0, 10, .inl (fun _ => 0)))] := hD
  refine lv_aload_n hx hb dX10_init_35 rfl (lv_at hl 0 rfl) ?_
  refine lv_bipush (v := (10 : Int32)) hx hb dX10_init_36 (by decide) ?_
  refine mnewi hx hb (hts (.arrayClass .int) (by decide +kernel)) hK hP hD hS hA (N' := 10) (by decide) rfl (by decide) (Nat.le_of_ble_eq_true rfl) (Nat.le_of_ble_eq_true rfl) dX10_init_38 (fun q4 H hP hD hS => ?_)
  have hP : va_P D vwCl [(q, .inr (9, [.int (128 : Int32), .int 0, .int 0, .int 0, .int 0, .ref q1, .ref q2, .ref q3, .null, .null, .null, .null, .null, .null])), (q1, .inl (cs 0, 10, .inl (fun _ => 0))), (q2, .inl (cs 0, 10, .inl (fun _ => 0))), (q3, .inl (cs 0, 10, .inl (fun _ => 0))), (q4, .inl (cs 0, 10, .inl (fun _ => 0)))] H := hP
  have hD : va_D A [(q, .inr (9, [.int (128 : Int32), .int 0, .int 0, .int 0, .int 0, .ref q1, .ref q2, .ref q3, .null, .null, .null, .null, .null, .null])), (q1, .inl (cs 0, 10, .inl (fun _ => 0))), (q2, .inl (cs 0, 10, .inl (fun _ => 0))), (q3, .inl (cs 0, 10, .inl (fun _ => 0))), (q4, .inl (cs 0, 10, .inl (fun _ => 0)))] := hD
  refine W.widen (k := 4) (n := 40) (Nat.le_refl _) (Nat.le_refl _) ?_
  refine va_putF (D := D) (ci := 9) (v := .ref q4) (ty := .array .int) (C := RX10) (T := TX10) (N := 14) hx hb hts inX10_X10_init tyX10 tyX10_ok nmX10 hown hK.1 hP hD hS 0 rfl rfl 8 (by decide) (hts (.fieldLink RX10 25 "SandPalace$Work" "apart" "[I") (by decide +kernel)) (fun _ h9 => h9) rfl hin rfl (by decide +kernel) rfl rfl (Nat.le_of_ble_eq_true rfl) dX10_init_40 (fun H locs hP hD hS => ?_)
  have hP : va_P D vwCl [(q, .inr (9, [.int (128 : Int32), .int 0, .int 0, .int 0, .int 0, .ref q1, .ref q2, .ref q3, .ref q4, .null, .null, .null, .null, .null])), (q1, .inl (cs 0, 10, .inl (fun _ => 0))), (q2, .inl (cs 0, 10, .inl (fun _ => 0))), (q3, .inl (cs 0, 10, .inl (fun _ => 0))), (q4, .inl (cs 0, 10, .inl (fun _ => 0)))] H := hP
  have hD : va_D A [(q, .inr (9, [.int (128 : Int32), .int 0, .int 0, .int 0, .int 0, .ref q1, .ref q2, .ref q3, .ref q4, .null, .null, .null, .null, .null])), (q1, .inl (cs 0, 10, .inl (fun _ => 0))), (q2, .inl (cs 0, 10, .inl (fun _ => 0))), (q3, .inl (cs 0, 10, .inl (fun _ => 0))), (q4, .inl (cs 0, 10, .inl (fun _ => 0)))] := hD
  refine lv_aload_n hx hb dX10_init_43 rfl (lv_at hl 0 rfl) ?_
  refine lv_sipush (v := (1024 : Int32)) hx hb dX10_init_44 (by decide) ?_
  refine mnewi hx hb (hts (.arrayClass .int) (by decide +kernel)) hK hP hD hS hA (N' := 1024) (by decide) rfl (by decide) (Nat.le_of_ble_eq_true rfl) (Nat.le_of_ble_eq_true rfl) dX10_init_47 (fun q5 H hP hD hS => ?_)
  have hP : va_P D vwCl [(q, .inr (9, [.int (128 : Int32), .int 0, .int 0, .int 0, .int 0, .ref q1, .ref q2, .ref q3, .ref q4, .null, .null, .null, .null, .null])), (q1, .inl (cs 0, 10, .inl (fun _ => 0))), (q2, .inl (cs 0, 10, .inl (fun _ => 0))), (q3, .inl (cs 0, 10, .inl (fun _ => 0))), (q4, .inl (cs 0, 10, .inl (fun _ => 0))), (q5, .inl (cs 0, 1024, .inl (fun _ => 0)))] H := hP
  have hD : va_D A [(q, .inr (9, [.int (128 : Int32), .int 0, .int 0, .int 0, .int 0, .ref q1, .ref q2, .ref q3, .ref q4, .null, .null, .null, .null, .null])), (q1, .inl (cs 0, 10, .inl (fun _ => 0))), (q2, .inl (cs 0, 10, .inl (fun _ => 0))), (q3, .inl (cs 0, 10, .inl (fun _ => 0))), (q4, .inl (cs 0, 10, .inl (fun _ => 0))), (q5, .inl (cs 0, 1024, .inl (fun _ => 0)))] := hD
  refine W.widen (k := 5) (n := 1064) (Nat.le_refl _) (Nat.le_refl _) ?_
  refine va_putF (D := D) (ci := 9) (v := .ref q5) (ty := .array .int) (C := RX10) (T := TX10) (N := 14) hx hb hts inX10_X10_init tyX10 tyX10_ok nmX10 hown hK.1 hP hD hS 0 rfl rfl 9 (by decide) (hts (.fieldLink RX10 28 "SandPalace$Work" "needed" "[I") (by decide +kernel)) (fun _ h9 => h9) rfl hin rfl (by decide +kernel) rfl rfl (Nat.le_of_ble_eq_true rfl) dX10_init_49 (fun H locs hP hD hS => ?_)
  have hP : va_P D vwCl [(q, .inr (9, [.int (128 : Int32), .int 0, .int 0, .int 0, .int 0, .ref q1, .ref q2, .ref q3, .ref q4, .ref q5, .null, .null, .null, .null])), (q1, .inl (cs 0, 10, .inl (fun _ => 0))), (q2, .inl (cs 0, 10, .inl (fun _ => 0))), (q3, .inl (cs 0, 10, .inl (fun _ => 0))), (q4, .inl (cs 0, 10, .inl (fun _ => 0))), (q5, .inl (cs 0, 1024, .inl (fun _ => 0)))] H := hP
  have hD : va_D A [(q, .inr (9, [.int (128 : Int32), .int 0, .int 0, .int 0, .int 0, .ref q1, .ref q2, .ref q3, .ref q4, .ref q5, .null, .null, .null, .null])), (q1, .inl (cs 0, 10, .inl (fun _ => 0))), (q2, .inl (cs 0, 10, .inl (fun _ => 0))), (q3, .inl (cs 0, 10, .inl (fun _ => 0))), (q4, .inl (cs 0, 10, .inl (fun _ => 0))), (q5, .inl (cs 0, 1024, .inl (fun _ => 0)))] := hD
  refine lv_aload_n hx hb dX10_init_52 rfl (lv_at hl 0 rfl) ?_
  refine lv_sipush (v := (1024 : Int32)) hx hb dX10_init_53 (by decide) ?_
  refine mnewi hx hb (hts (.arrayClass .int) (by decide +kernel)) hK hP hD hS hA (N' := 1024) (by decide) rfl (by decide) (Nat.le_of_ble_eq_true rfl) (Nat.le_of_ble_eq_true rfl) dX10_init_56 (fun q6 H hP hD hS => ?_)
  have hP : va_P D vwCl [(q, .inr (9, [.int (128 : Int32), .int 0, .int 0, .int 0, .int 0, .ref q1, .ref q2, .ref q3, .ref q4, .ref q5, .null, .null, .null, .null])), (q1, .inl (cs 0, 10, .inl (fun _ => 0))), (q2, .inl (cs 0, 10, .inl (fun _ => 0))), (q3, .inl (cs 0, 10, .inl (fun _ => 0))), (q4, .inl (cs 0, 10, .inl (fun _ => 0))), (q5, .inl (cs 0, 1024, .inl (fun _ => 0))), (q6, .inl (cs 0, 1024, .inl (fun _ => 0)))] H := hP
  have hD : va_D A [(q, .inr (9, [.int (128 : Int32), .int 0, .int 0, .int 0, .int 0, .ref q1, .ref q2, .ref q3, .ref q4, .ref q5, .null, .null, .null, .null])), (q1, .inl (cs 0, 10, .inl (fun _ => 0))), (q2, .inl (cs 0, 10, .inl (fun _ => 0))), (q3, .inl (cs 0, 10, .inl (fun _ => 0))), (q4, .inl (cs 0, 10, .inl (fun _ => 0))), (q5, .inl (cs 0, 1024, .inl (fun _ => 0))), (q6, .inl (cs 0, 1024, .inl (fun _ => 0)))] := hD
  refine W.widen (k := 6) (n := 2088) (Nat.le_refl _) (Nat.le_refl _) ?_
  refine va_putF (D := D) (ci := 9) (v := .ref q6) (ty := .array .int) (C := RX10) (T := TX10) (N := 14) hx hb hts inX10_X10_init tyX10 tyX10_ok nmX10 hown hK.1 hP hD hS 0 rfl rfl 10 (by decide) (hts (.fieldLink RX10 31 "SandPalace$Work" "load" "[I") (by decide +kernel)) (fun _ h9 => h9) rfl hin rfl (by decide +kernel) rfl rfl (Nat.le_of_ble_eq_true rfl) dX10_init_58 (fun H locs hP hD hS => ?_)
  have hP : va_P D vwCl [(q, .inr (9, [.int (128 : Int32), .int 0, .int 0, .int 0, .int 0, .ref q1, .ref q2, .ref q3, .ref q4, .ref q5, .ref q6, .null, .null, .null])), (q1, .inl (cs 0, 10, .inl (fun _ => 0))), (q2, .inl (cs 0, 10, .inl (fun _ => 0))), (q3, .inl (cs 0, 10, .inl (fun _ => 0))), (q4, .inl (cs 0, 10, .inl (fun _ => 0))), (q5, .inl (cs 0, 1024, .inl (fun _ => 0))), (q6, .inl (cs 0, 1024, .inl (fun _ => 0)))] H := hP
  have hD : va_D A [(q, .inr (9, [.int (128 : Int32), .int 0, .int 0, .int 0, .int 0, .ref q1, .ref q2, .ref q3, .ref q4, .ref q5, .ref q6, .null, .null, .null])), (q1, .inl (cs 0, 10, .inl (fun _ => 0))), (q2, .inl (cs 0, 10, .inl (fun _ => 0))), (q3, .inl (cs 0, 10, .inl (fun _ => 0))), (q4, .inl (cs 0, 10, .inl (fun _ => 0))), (q5, .inl (cs 0, 1024, .inl (fun _ => 0))), (q6, .inl (cs 0, 1024, .inl (fun _ => 0)))] := hD
  refine lv_aload_n hx hb dX10_init_61 rfl (lv_at hl 0 rfl) ?_
  refine lv_sipush (v := (1024 : Int32)) hx hb dX10_init_62 (by decide) ?_
  refine mnewi hx hb (hts (.arrayClass .int) (by decide +kernel)) hK hP hD hS hA (N' := 1024) (by decide) rfl (by decide) (Nat.le_of_ble_eq_true rfl) (Nat.le_of_ble_eq_true rfl) dX10_init_65 (fun q7 H hP hD hS => ?_)
  have hP : va_P D vwCl [(q, .inr (9, [.int (128 : Int32), .int 0, .int 0, .int 0, .int 0, .ref q1, .ref q2, .ref q3, .ref q4, .ref q5, .ref q6, .null, .null, .null])), (q1, .inl (cs 0, 10, .inl (fun _ => 0))), (q2, .inl (cs 0, 10, .inl (fun _ => 0))), (q3, .inl (cs 0, 10, .inl (fun _ => 0))), (q4, .inl (cs 0, 10, .inl (fun _ => 0))), (q5, .inl (cs 0, 1024, .inl (fun _ => 0))), (q6, .inl (cs 0, 1024, .inl (fun _ => 0))), (q7, .inl (cs 0, 1024, .inl (fun _ => 0)))] H := hP
  have hD : va_D A [(q, .inr (9, [.int (128 : Int32), .int 0, .int 0, .int 0, .int 0, .ref q1, .ref q2, .ref q3, .ref q4, .ref q5, .ref q6, .null, .null, .null])), (q1, .inl (cs 0, 10, .inl (fun _ => 0))), (q2, .inl (cs 0, 10, .inl (fun _ => 0))), (q3, .inl (cs 0, 10, .inl (fun _ => 0))), (q4, .inl (cs 0, 10, .inl (fun _ => 0))), (q5, .inl (cs 0, 1024, .inl (fun _ => 0))), (q6, .inl (cs 0, 1024, .inl (fun _ => 0))), (q7, .inl (cs 0, 1024, .inl (fun _ => 0)))] := hD
  refine W.widen (k := 7) (n := 3112) (Nat.le_refl _) (Nat.le_refl _) ?_
  refine va_putF (D := D) (ci := 9) (v := .ref q7) (ty := .array .int) (C := RX10) (T := TX10) (N := 14) hx hb hts inX10_X10_init tyX10 tyX10_ok nmX10 hown hK.1 hP hD hS 0 rfl rfl 11 (by decide) (hts (.fieldLink RX10 34 "SandPalace$Work" "fewest" "[I") (by decide +kernel)) (fun _ h9 => h9) rfl hin rfl (by decide +kernel) rfl rfl (Nat.le_of_ble_eq_true rfl) dX10_init_67 (fun H locs hP hD hS => ?_)
  have hP : va_P D vwCl [(q, .inr (9, [.int (128 : Int32), .int 0, .int 0, .int 0, .int 0, .ref q1, .ref q2, .ref q3, .ref q4, .ref q5, .ref q6, .ref q7, .null, .null])), (q1, .inl (cs 0, 10, .inl (fun _ => 0))), (q2, .inl (cs 0, 10, .inl (fun _ => 0))), (q3, .inl (cs 0, 10, .inl (fun _ => 0))), (q4, .inl (cs 0, 10, .inl (fun _ => 0))), (q5, .inl (cs 0, 1024, .inl (fun _ => 0))), (q6, .inl (cs 0, 1024, .inl (fun _ => 0))), (q7, .inl (cs 0, 1024, .inl (fun _ => 0)))] H := hP
  have hD : va_D A [(q, .inr (9, [.int (128 : Int32), .int 0, .int 0, .int 0, .int 0, .ref q1, .ref q2, .ref q3, .ref q4, .ref q5, .ref q6, .ref q7, .null, .null])), (q1, .inl (cs 0, 10, .inl (fun _ => 0))), (q2, .inl (cs 0, 10, .inl (fun _ => 0))), (q3, .inl (cs 0, 10, .inl (fun _ => 0))), (q4, .inl (cs 0, 10, .inl (fun _ => 0))), (q5, .inl (cs 0, 1024, .inl (fun _ => 0))), (q6, .inl (cs 0, 1024, .inl (fun _ => 0))), (q7, .inl (cs 0, 1024, .inl (fun _ => 0)))] := hD
  refine lv_aload_n hx hb dX10_init_70 rfl (lv_at hl 0 rfl) ?_
  refine lv_bipush (v := (10 : Int32)) hx hb dX10_init_71 (by decide) ?_
  refine mnewi hx hb (hts (.arrayClass .int) (by decide +kernel)) hK hP hD hS hA (N' := 10) (by decide) rfl (by decide) (Nat.le_of_ble_eq_true rfl) (Nat.le_of_ble_eq_true rfl) dX10_init_73 (fun q8 H hP hD hS => ?_)
  have hP : va_P D vwCl [(q, .inr (9, [.int (128 : Int32), .int 0, .int 0, .int 0, .int 0, .ref q1, .ref q2, .ref q3, .ref q4, .ref q5, .ref q6, .ref q7, .null, .null])), (q1, .inl (cs 0, 10, .inl (fun _ => 0))), (q2, .inl (cs 0, 10, .inl (fun _ => 0))), (q3, .inl (cs 0, 10, .inl (fun _ => 0))), (q4, .inl (cs 0, 10, .inl (fun _ => 0))), (q5, .inl (cs 0, 1024, .inl (fun _ => 0))), (q6, .inl (cs 0, 1024, .inl (fun _ => 0))), (q7, .inl (cs 0, 1024, .inl (fun _ => 0))), (q8, .inl (cs 0, 10, .inl (fun _ => 0)))] H := hP
  have hD : va_D A [(q, .inr (9, [.int (128 : Int32), .int 0, .int 0, .int 0, .int 0, .ref q1, .ref q2, .ref q3, .ref q4, .ref q5, .ref q6, .ref q7, .null, .null])), (q1, .inl (cs 0, 10, .inl (fun _ => 0))), (q2, .inl (cs 0, 10, .inl (fun _ => 0))), (q3, .inl (cs 0, 10, .inl (fun _ => 0))), (q4, .inl (cs 0, 10, .inl (fun _ => 0))), (q5, .inl (cs 0, 1024, .inl (fun _ => 0))), (q6, .inl (cs 0, 1024, .inl (fun _ => 0))), (q7, .inl (cs 0, 1024, .inl (fun _ => 0))), (q8, .inl (cs 0, 10, .inl (fun _ => 0)))] := hD
  refine W.widen (k := 8) (n := 3122) (Nat.le_refl _) (Nat.le_refl _) ?_
  refine va_putF (D := D) (ci := 9) (v := .ref q8) (ty := .array .int) (C := RX10) (T := TX10) (N := 14) hx hb hts inX10_X10_init tyX10 tyX10_ok nmX10 hown hK.1 hP hD hS 0 rfl rfl 12 (by decide) (hts (.fieldLink RX10 37 "SandPalace$Work" "dayShapes" "[I") (by decide +kernel)) (fun _ h9 => h9) rfl hin rfl (by decide +kernel) rfl rfl (Nat.le_of_ble_eq_true rfl) dX10_init_75 (fun H locs hP hD hS => ?_)
  have hP : va_P D vwCl [(q, .inr (9, [.int (128 : Int32), .int 0, .int 0, .int 0, .int 0, .ref q1, .ref q2, .ref q3, .ref q4, .ref q5, .ref q6, .ref q7, .ref q8, .null])), (q1, .inl (cs 0, 10, .inl (fun _ => 0))), (q2, .inl (cs 0, 10, .inl (fun _ => 0))), (q3, .inl (cs 0, 10, .inl (fun _ => 0))), (q4, .inl (cs 0, 10, .inl (fun _ => 0))), (q5, .inl (cs 0, 1024, .inl (fun _ => 0))), (q6, .inl (cs 0, 1024, .inl (fun _ => 0))), (q7, .inl (cs 0, 1024, .inl (fun _ => 0))), (q8, .inl (cs 0, 10, .inl (fun _ => 0)))] H := hP
  have hD : va_D A [(q, .inr (9, [.int (128 : Int32), .int 0, .int 0, .int 0, .int 0, .ref q1, .ref q2, .ref q3, .ref q4, .ref q5, .ref q6, .ref q7, .ref q8, .null])), (q1, .inl (cs 0, 10, .inl (fun _ => 0))), (q2, .inl (cs 0, 10, .inl (fun _ => 0))), (q3, .inl (cs 0, 10, .inl (fun _ => 0))), (q4, .inl (cs 0, 10, .inl (fun _ => 0))), (q5, .inl (cs 0, 1024, .inl (fun _ => 0))), (q6, .inl (cs 0, 1024, .inl (fun _ => 0))), (q7, .inl (cs 0, 1024, .inl (fun _ => 0))), (q8, .inl (cs 0, 10, .inl (fun _ => 0)))] := hD
  refine lv_aload_n hx hb dX10_init_78 rfl (lv_at hl 0 rfl) ?_
  refine lv_bipush (v := (10 : Int32)) hx hb dX10_init_79 (by decide) ?_
  refine mnewi hx hb (hts (.arrayClass .int) (by decide +kernel)) hK hP hD hS hA (N' := 10) (by decide) rfl (by decide) (Nat.le_of_ble_eq_true rfl) (Nat.le_of_ble_eq_true rfl) dX10_init_81 (fun q9 H hP hD hS => ?_)
  have hP : va_P D vwCl [(q, .inr (9, [.int (128 : Int32), .int 0, .int 0, .int 0, .int 0, .ref q1, .ref q2, .ref q3, .ref q4, .ref q5, .ref q6, .ref q7, .ref q8, .null])), (q1, .inl (cs 0, 10, .inl (fun _ => 0))), (q2, .inl (cs 0, 10, .inl (fun _ => 0))), (q3, .inl (cs 0, 10, .inl (fun _ => 0))), (q4, .inl (cs 0, 10, .inl (fun _ => 0))), (q5, .inl (cs 0, 1024, .inl (fun _ => 0))), (q6, .inl (cs 0, 1024, .inl (fun _ => 0))), (q7, .inl (cs 0, 1024, .inl (fun _ => 0))), (q8, .inl (cs 0, 10, .inl (fun _ => 0))), (q9, .inl (cs 0, 10, .inl (fun _ => 0)))] H := hP
  have hD : va_D A [(q, .inr (9, [.int (128 : Int32), .int 0, .int 0, .int 0, .int 0, .ref q1, .ref q2, .ref q3, .ref q4, .ref q5, .ref q6, .ref q7, .ref q8, .null])), (q1, .inl (cs 0, 10, .inl (fun _ => 0))), (q2, .inl (cs 0, 10, .inl (fun _ => 0))), (q3, .inl (cs 0, 10, .inl (fun _ => 0))), (q4, .inl (cs 0, 10, .inl (fun _ => 0))), (q5, .inl (cs 0, 1024, .inl (fun _ => 0))), (q6, .inl (cs 0, 1024, .inl (fun _ => 0))), (q7, .inl (cs 0, 1024, .inl (fun _ => 0))), (q8, .inl (cs 0, 10, .inl (fun _ => 0))), (q9, .inl (cs 0, 10, .inl (fun _ => 0)))] := hD
  refine W.widen (k := 9) (n := 3132) (Nat.le_refl _) (Nat.le_refl _) ?_
  refine va_putF (D := D) (ci := 9) (v := .ref q9) (ty := .array .int) (C := RX10) (T := TX10) (N := 14) hx hb hts inX10_X10_init tyX10 tyX10_ok nmX10 hown hK.1 hP hD hS 0 rfl rfl 13 (by decide) (hts (.fieldLink RX10 40 "SandPalace$Work" "order" "[I") (by decide +kernel)) (fun _ h9 => h9) rfl hin rfl (by decide +kernel) rfl rfl (Nat.le_of_ble_eq_true rfl) dX10_init_83 (fun H locs hP hD hS => ?_)
  have hP : va_P D vwCl [(q, .inr (9, [.int (128 : Int32), .int 0, .int 0, .int 0, .int 0, .ref q1, .ref q2, .ref q3, .ref q4, .ref q5, .ref q6, .ref q7, .ref q8, .ref q9])), (q1, .inl (cs 0, 10, .inl (fun _ => 0))), (q2, .inl (cs 0, 10, .inl (fun _ => 0))), (q3, .inl (cs 0, 10, .inl (fun _ => 0))), (q4, .inl (cs 0, 10, .inl (fun _ => 0))), (q5, .inl (cs 0, 1024, .inl (fun _ => 0))), (q6, .inl (cs 0, 1024, .inl (fun _ => 0))), (q7, .inl (cs 0, 1024, .inl (fun _ => 0))), (q8, .inl (cs 0, 10, .inl (fun _ => 0))), (q9, .inl (cs 0, 10, .inl (fun _ => 0)))] H := hP
  have hD : va_D A [(q, .inr (9, [.int (128 : Int32), .int 0, .int 0, .int 0, .int 0, .ref q1, .ref q2, .ref q3, .ref q4, .ref q5, .ref q6, .ref q7, .ref q8, .ref q9])), (q1, .inl (cs 0, 10, .inl (fun _ => 0))), (q2, .inl (cs 0, 10, .inl (fun _ => 0))), (q3, .inl (cs 0, 10, .inl (fun _ => 0))), (q4, .inl (cs 0, 10, .inl (fun _ => 0))), (q5, .inl (cs 0, 1024, .inl (fun _ => 0))), (q6, .inl (cs 0, 1024, .inl (fun _ => 0))), (q7, .inl (cs 0, 1024, .inl (fun _ => 0))), (q8, .inl (cs 0, 10, .inl (fun _ => 0))), (q9, .inl (cs 0, 10, .inl (fun _ => 0)))] := hD
  exact mretK (w2 := w2X10_init cs q) hx hb hr hlk (fun j => if j = 0 then q1 else if j = 1 then q2 else if j = 2 then q3 else if j = 3 then q4 else if j = 4 then q5 else if j = 5 then q6 else if j = 6 then q7 else if j = 7 then q8 else if j = 8 then q9 else 0) trivial hP hD hS dX10_init_86
def w2X3_init (cs : Nat → ClassId) (q : Nat) (y : Nat → Nat) : va_W := [(q, .inr (3, [.ref (y 0), .ref (y 1)])), ((y 0), .inl (cs 0, 256, .inl (fun _ => 0))), ((y 1), .inl (cs 0, 4, .inl (fun _ => 0)))]
abbrev rmX3_init : Room := { frames := 1, cells := 2, slots := 260, locals := 20 }
theorem inX3_X3_init : ∀ w ∈ wsX30, w ∈ wsX3_init := by intro w h; simp only [wsX3_init, List.mem_cons, List.mem_append]; simp only [h, true_or, or_true]
set_option maxHeartbeats 8000000 in
set_option maxRecDepth 100000 in
theorem kX3_init (l : Launch) (D : va_G) (cs : Nat → ClassId) (q sz : Nat) : Met l yX3_init wsX3_init rmX3_init (va_Pc [.ref q] (pQ D cs [(q, .inr (3, [.null, .null]))] sz)) (va_Qv (fun _ : Nat → Nat => True) (qB D (w2X3_init cs q) (va_A [(q, .inr (3, [.null, .null]))] sz)) (va_A [(q, .inr (3, [.null, .null]))] sz)) 2 260 (va_A [(q, .inr (3, [.null, .null]))] sz) := by
  refine Met.ofW (cc := cX3_init) (maxL := 1) (ret := none) (by decide) rfl ?_
  intro p e s m args below meth c s₁ B hml hv
  obtain ⟨rfl, hsz, hP, hK, hD0⟩ := hv
  have C : cxt p s m _ meth c cX3_init 1 RX3 wsX3_init none := ⟨B.exec, B.bytes, hml, findClass_of_methodNamed B.named, atoms_spec (ws := wsX3_init) B.pre, B.returns, B.notSynchronized⟩
  obtain ⟨hx, hb, -, hown, hts, hr, hlk⟩ := id C
  have hin : meth.name = "<init>" := (name_of_methodNamed B.named B.method).1
  subst hsz
  have hD := hD0.self (sz := s.heap.size)
  generalize hAe : va_A [(q, .inr (3, [.null, .null]))] s.heap.size = A at hD ⊢
  have hA : ∀ q : Nat, s.heap.size ≤ q → A q := fun q h => by rw [← hAe]; exact Or.inr h
  have hS : va_S A s.heap s.heap [] := va_S.rf
  refine entryW [.ref q] (n := 1) (Nat.le_of_ble_eq_true rfl) (fun ls hl => ?_)
  have hl : lv_has ls 1 [(0, .ref q)] := hl
  refine lv_aload_n hx hb dX3_init_0 rfl (lv_at hl 0 rfl) ?_
  refine W.objInit hx hb hown (hts (.methodLink RX3 3 objectInit) (by decide +kernel)) (hts (.instanceMethod objectInit) (by decide +kernel)) (hts _ (List.mem_of_getElem? (l := wsX3_init) (i := 3) rfl)) rfl (by rw [hml]; exact hl.1) rfl dX3_init_1 (Nat.le_of_ble_eq_true rfl) (Nat.le_of_ble_eq_true rfl) ?_
  refine W.eq (g2 := F0 m 4 ls []) rfl ?_
  refine lv_aload_n hx hb dX3_init_4 rfl (lv_at hl 0 rfl) ?_
  refine lv_sipush (v := (256 : Int32)) hx hb dX3_init_5 (by decide) ?_
  refine mnewi hx hb (hts (.arrayClass .int) (by decide +kernel)) hK hP hD hS hA (N' := 256) (by decide) rfl (by decide) (Nat.le_of_ble_eq_true rfl) (Nat.le_of_ble_eq_true rfl) dX3_init_8 (fun q1 H hP hD hS => ?_)
  have hP : va_P D vwCl [(q, .inr (3, [.null, .null])), (q1, .inl (cs 0, 256, .inl (fun _ => 0)))] H := hP
  have hD : va_D A [(q, .inr (3, [.null, .null])), (q1, .inl (cs 0, 256, .inl (fun _ => 0)))] := hD
  refine W.widen (k := 1) (n := 256) (Nat.le_refl _) (Nat.le_refl _) ?_
  refine va_putF (D := D) (ci := 3) (v := .ref q1) (ty := .array .int) (C := RX3) (T := TX3) (N := 2) hx hb hts inX3_X3_init tyX3 tyX3_ok nmX3 hown hK.1 hP hD hS 0 rfl rfl 0 (by decide) (hts (.fieldLink RX3 9 "SandPalace$Photo" "colours" "[I") (by decide +kernel)) (fun _ h9 => h9) rfl hin rfl (by decide +kernel) rfl rfl (Nat.le_of_ble_eq_true rfl) dX3_init_10 (fun H locs hP hD hS => ?_)
  have hP : va_P D vwCl [(q, .inr (3, [.ref q1, .null])), (q1, .inl (cs 0, 256, .inl (fun _ => 0)))] H := hP
  have hD : va_D A [(q, .inr (3, [.ref q1, .null])), (q1, .inl (cs 0, 256, .inl (fun _ => 0)))] := hD
  refine lv_aload_n hx hb dX3_init_13 rfl (lv_at hl 0 rfl) ?_
  refine lv_iconst (v := (4 : Int32)) hx hb dX3_init_14 (by decide) ?_
  refine mnewi hx hb (hts (.arrayClass .int) (by decide +kernel)) hK hP hD hS hA (N' := 4) (by decide) rfl (by decide) (Nat.le_of_ble_eq_true rfl) (Nat.le_of_ble_eq_true rfl) dX3_init_15 (fun q2 H hP hD hS => ?_)
  have hP : va_P D vwCl [(q, .inr (3, [.ref q1, .null])), (q1, .inl (cs 0, 256, .inl (fun _ => 0))), (q2, .inl (cs 0, 4, .inl (fun _ => 0)))] H := hP
  have hD : va_D A [(q, .inr (3, [.ref q1, .null])), (q1, .inl (cs 0, 256, .inl (fun _ => 0))), (q2, .inl (cs 0, 4, .inl (fun _ => 0)))] := hD
  refine W.widen (k := 2) (n := 260) (Nat.le_refl _) (Nat.le_refl _) ?_
  refine va_putF (D := D) (ci := 3) (v := .ref q2) (ty := .array .int) (C := RX3) (T := TX3) (N := 2) hx hb hts inX3_X3_init tyX3 tyX3_ok nmX3 hown hK.1 hP hD hS 0 rfl rfl 1 (by decide) (hts (.fieldLink RX3 15 "SandPalace$Photo" "fourBack" "[I") (by decide +kernel)) (fun _ h9 => h9) rfl hin rfl (by decide +kernel) rfl rfl (Nat.le_of_ble_eq_true rfl) dX3_init_17 (fun H locs hP hD hS => ?_)
  have hP : va_P D vwCl [(q, .inr (3, [.ref q1, .ref q2])), (q1, .inl (cs 0, 256, .inl (fun _ => 0))), (q2, .inl (cs 0, 4, .inl (fun _ => 0)))] H := hP
  have hD : va_D A [(q, .inr (3, [.ref q1, .ref q2])), (q1, .inl (cs 0, 256, .inl (fun _ => 0))), (q2, .inl (cs 0, 4, .inl (fun _ => 0)))] := hD
  exact mretK (w2 := w2X3_init cs q) hx hb hr hlk (fun j => if j = 0 then q1 else if j = 1 then q2 else 0) trivial hP hD hS dX3_init_20
def w2X9_init (cs : Nat → ClassId) (q : Nat) (y : Nat → Nat) : va_W := [(q, .inr (8, [.int 0, .ref (y 0), .ref (y 5)])), ((y 0), .inl (cs 4, 4, .inr (.inr (.inr (.inr (fun j => if j = 0 then some (y 1) else if j = 1 then some (y 2) else if j = 2 then some (y 3) else if j = 3 then some (y 4) else none)))))), ((y 1), .inl (cs 0, 16, .inl (fun _ => 0))), ((y 2), .inl (cs 0, 16, .inl (fun _ => 0))), ((y 3), .inl (cs 0, 16, .inl (fun _ => 0))), ((y 4), .inl (cs 0, 16, .inl (fun _ => 0))), ((y 5), .inl (cs 0, 4, .inl (upd (upd (upd (upd (fun _ => 0) 0 ((-9) : Int32)) 1 ((-9) : Int32)) 2 ((-9) : Int32)) 3 ((-9) : Int32))))]
abbrev rmX9_init : Room := { frames := 1, cells := 6, slots := 72, locals := 20 }
theorem inX9_X9_init : ∀ w ∈ wsX90, w ∈ wsX9_init := by intro w h; simp only [wsX9_init, List.mem_cons, List.mem_append]; simp only [h, true_or, or_true]
set_option maxHeartbeats 8000000 in
set_option maxRecDepth 100000 in
theorem kX9_init (l : Launch) (D : va_G) (cs : Nat → ClassId) (q sz : Nat) : Met l yX9_init wsX9_init rmX9_init (va_Pc [.ref q] (pQ D cs [(q, .inr (8, [.int 0, .null, .null]))] sz)) (va_Qv (fun _ : Nat → Nat => True) (qB D (w2X9_init cs q) (va_A [(q, .inr (8, [.int 0, .null, .null]))] sz)) (va_A [(q, .inr (8, [.int 0, .null, .null]))] sz)) 6 72 (va_A [(q, .inr (8, [.int 0, .null, .null]))] sz) := by
  refine Met.ofW (cc := cX9_init) (maxL := 1) (ret := none) (by decide) rfl ?_
  intro p e s m args below meth c s₁ B hml hv
  obtain ⟨rfl, hsz, hP, hK, hD0⟩ := hv
  have C : cxt p s m _ meth c cX9_init 1 RX9 wsX9_init none := ⟨B.exec, B.bytes, hml, findClass_of_methodNamed B.named, atoms_spec (ws := wsX9_init) B.pre, B.returns, B.notSynchronized⟩
  obtain ⟨hx, hb, -, hown, hts, hr, hlk⟩ := id C
  have hin : meth.name = "<init>" := (name_of_methodNamed B.named B.method).1
  subst hsz
  have hD := hD0.self (sz := s.heap.size)
  generalize hAe : va_A [(q, .inr (8, [.int 0, .null, .null]))] s.heap.size = A at hD ⊢
  have hA : ∀ q : Nat, s.heap.size ≤ q → A q := fun q h => by rw [← hAe]; exact Or.inr h
  have hS : va_S A s.heap s.heap [] := va_S.rf
  refine entryW [.ref q] (n := 1) (Nat.le_of_ble_eq_true rfl) (fun ls hl => ?_)
  have hl : lv_has ls 1 [(0, .ref q)] := hl
  refine lv_aload_n hx hb dX9_init_0 rfl (lv_at hl 0 rfl) ?_
  refine W.objInit hx hb hown (hts (.methodLink RX9 3 objectInit) (by decide +kernel)) (hts (.instanceMethod objectInit) (by decide +kernel)) (hts _ (List.mem_of_getElem? (l := wsX9_init) (i := 3) rfl)) rfl (by rw [hml]; exact hl.1) rfl dX9_init_1 (Nat.le_of_ble_eq_true rfl) (Nat.le_of_ble_eq_true rfl) ?_
  refine W.eq (g2 := F0 m 4 ls []) rfl ?_
  refine lv_aload_n hx hb dX9_init_4 rfl (lv_at hl 0 rfl) ?_
  refine lv_iconst (v := (4 : Int32)) hx hb dX9_init_5 (by decide) ?_
  refine lv_bipush (v := (16 : Int32)) hx hb dX9_init_6 (by decide) ?_
  refine mmna hx hb hown (hts (.classLink RX9 9 "[[I") (by decide +kernel)) (hts (.arrayClass .int) (by decide +kernel)) hK hP hD hS hA (Nat.le_of_ble_eq_true rfl) (Nat.le_of_ble_eq_true rfl) dX9_init_8 (fun q1 r2 r3 r4 r5 H hP hD hS => ?_)
  have hP : va_P D vwCl [(q, .inr (8, [.int 0, .null, .null])), (q1, .inl (cs 4, 4, .inr (.inr (.inr (.inr (fun j => if j = 0 then some r2 else if j = 1 then some r3 else if j = 2 then some r4 else if j = 3 then some r5 else none)))))), (r2, .inl (cs 0, 16, .inl (fun _ => 0))), (r3, .inl (cs 0, 16, .inl (fun _ => 0))), (r4, .inl (cs 0, 16, .inl (fun _ => 0))), (r5, .inl (cs 0, 16, .inl (fun _ => 0)))] H := hP
  have hD : va_D A [(q, .inr (8, [.int 0, .null, .null])), (q1, .inl (cs 4, 4, .inr (.inr (.inr (.inr (fun j => if j = 0 then some r2 else if j = 1 then some r3 else if j = 2 then some r4 else if j = 3 then some r5 else none)))))), (r2, .inl (cs 0, 16, .inl (fun _ => 0))), (r3, .inl (cs 0, 16, .inl (fun _ => 0))), (r4, .inl (cs 0, 16, .inl (fun _ => 0))), (r5, .inl (cs 0, 16, .inl (fun _ => 0)))] := hD
  refine W.widen (k := 5) (n := 68) (Nat.le_refl _) (Nat.le_refl _) ?_
  refine va_putF (D := D) (ci := 8) (v := .ref q1) (ty := .array (.array .int)) (C := RX9) (T := TX9) (N := 3) hx hb hts inX9_X9_init tyX9 tyX9_ok nmX9 hown hK.1 hP hD hS 0 rfl rfl 1 (by decide) (hts (.fieldLink RX9 11 "SandPalace$Sweeper" "ways" "[[I") (by decide +kernel)) (fun _ h9 => h9) rfl hin rfl (by decide +kernel) rfl rfl (Nat.le_of_ble_eq_true rfl) dX9_init_12 (fun H locs hP hD hS => ?_)
  have hP : va_P D vwCl [(q, .inr (8, [.int 0, .ref q1, .null])), (q1, .inl (cs 4, 4, .inr (.inr (.inr (.inr (fun j => if j = 0 then some r2 else if j = 1 then some r3 else if j = 2 then some r4 else if j = 3 then some r5 else none)))))), (r2, .inl (cs 0, 16, .inl (fun _ => 0))), (r3, .inl (cs 0, 16, .inl (fun _ => 0))), (r4, .inl (cs 0, 16, .inl (fun _ => 0))), (r5, .inl (cs 0, 16, .inl (fun _ => 0)))] H := hP
  have hD : va_D A [(q, .inr (8, [.int 0, .ref q1, .null])), (q1, .inl (cs 4, 4, .inr (.inr (.inr (.inr (fun j => if j = 0 then some r2 else if j = 1 then some r3 else if j = 2 then some r4 else if j = 3 then some r5 else none)))))), (r2, .inl (cs 0, 16, .inl (fun _ => 0))), (r3, .inl (cs 0, 16, .inl (fun _ => 0))), (r4, .inl (cs 0, 16, .inl (fun _ => 0))), (r5, .inl (cs 0, 16, .inl (fun _ => 0)))] := hD
  refine lv_aload_n hx hb dX9_init_15 rfl (lv_at hl 0 rfl) ?_
  refine lv_iconst (v := (4 : Int32)) hx hb dX9_init_16 (by decide) ?_
  refine mnewi hx hb (hts (.arrayClass .int) (by decide +kernel)) hK hP hD hS hA (N' := 4) (by decide) rfl (by decide) (Nat.le_of_ble_eq_true rfl) (Nat.le_of_ble_eq_true rfl) dX9_init_17 (fun q6 H hP hD hS => ?_)
  have hP : va_P D vwCl [(q, .inr (8, [.int 0, .ref q1, .null])), (q1, .inl (cs 4, 4, .inr (.inr (.inr (.inr (fun j => if j = 0 then some r2 else if j = 1 then some r3 else if j = 2 then some r4 else if j = 3 then some r5 else none)))))), (r2, .inl (cs 0, 16, .inl (fun _ => 0))), (r3, .inl (cs 0, 16, .inl (fun _ => 0))), (r4, .inl (cs 0, 16, .inl (fun _ => 0))), (r5, .inl (cs 0, 16, .inl (fun _ => 0))), (q6, .inl (cs 0, 4, .inl (fun _ => 0)))] H := hP
  have hD : va_D A [(q, .inr (8, [.int 0, .ref q1, .null])), (q1, .inl (cs 4, 4, .inr (.inr (.inr (.inr (fun j => if j = 0 then some r2 else if j = 1 then some r3 else if j = 2 then some r4 else if j = 3 then some r5 else none)))))), (r2, .inl (cs 0, 16, .inl (fun _ => 0))), (r3, .inl (cs 0, 16, .inl (fun _ => 0))), (r4, .inl (cs 0, 16, .inl (fun _ => 0))), (r5, .inl (cs 0, 16, .inl (fun _ => 0))), (q6, .inl (cs 0, 4, .inl (fun _ => 0)))] := hD
  refine W.widen (k := 6) (n := 72) (Nat.le_refl _) (Nat.le_refl _) ?_
  refine lv_dup hx hb dX9_init_19 rfl ?_
  refine lv_iconst (v := (0 : Int32)) hx hb dX9_init_20 (by decide) ?_
  refine lv_bipush (v := ((-9) : Int32)) hx hb dX9_init_21 (by decide) ?_
  refine va_iast hx hb hK.1 hP hD hS 6 0 rfl rfl (show vp_in (0 : Int32) 4 from (by decide : ¬ ((0 : Int32) < 0 ∨ 4 ≤ ((0 : Int32)).toNatClampNeg))) dX9_init_23 (fun H locs hP hD hS => ?_)
  have hP : va_P D vwCl [(q, .inr (8, [.int 0, .ref q1, .null])), (q1, .inl (cs 4, 4, .inr (.inr (.inr (.inr (fun j => if j = 0 then some r2 else if j = 1 then some r3 else if j = 2 then some r4 else if j = 3 then some r5 else none)))))), (r2, .inl (cs 0, 16, .inl (fun _ => 0))), (r3, .inl (cs 0, 16, .inl (fun _ => 0))), (r4, .inl (cs 0, 16, .inl (fun _ => 0))), (r5, .inl (cs 0, 16, .inl (fun _ => 0))), (q6, .inl (cs 0, 4, .inl (upd (fun _ => 0) 0 ((-9) : Int32))))] H := hP
  have hD : va_D A [(q, .inr (8, [.int 0, .ref q1, .null])), (q1, .inl (cs 4, 4, .inr (.inr (.inr (.inr (fun j => if j = 0 then some r2 else if j = 1 then some r3 else if j = 2 then some r4 else if j = 3 then some r5 else none)))))), (r2, .inl (cs 0, 16, .inl (fun _ => 0))), (r3, .inl (cs 0, 16, .inl (fun _ => 0))), (r4, .inl (cs 0, 16, .inl (fun _ => 0))), (r5, .inl (cs 0, 16, .inl (fun _ => 0))), (q6, .inl (cs 0, 4, .inl (upd (fun _ => 0) 0 ((-9) : Int32))))] := hD
  refine lv_dup hx hb dX9_init_24 rfl ?_
  refine lv_iconst (v := (1 : Int32)) hx hb dX9_init_25 (by decide) ?_
  refine lv_bipush (v := ((-9) : Int32)) hx hb dX9_init_26 (by decide) ?_
  refine va_iast hx hb hK.1 hP hD hS 6 0 rfl rfl (show vp_in (1 : Int32) 4 from (by decide : ¬ ((1 : Int32) < 0 ∨ 4 ≤ ((1 : Int32)).toNatClampNeg))) dX9_init_28 (fun H locs hP hD hS => ?_)
  have hP : va_P D vwCl [(q, .inr (8, [.int 0, .ref q1, .null])), (q1, .inl (cs 4, 4, .inr (.inr (.inr (.inr (fun j => if j = 0 then some r2 else if j = 1 then some r3 else if j = 2 then some r4 else if j = 3 then some r5 else none)))))), (r2, .inl (cs 0, 16, .inl (fun _ => 0))), (r3, .inl (cs 0, 16, .inl (fun _ => 0))), (r4, .inl (cs 0, 16, .inl (fun _ => 0))), (r5, .inl (cs 0, 16, .inl (fun _ => 0))), (q6, .inl (cs 0, 4, .inl (upd (upd (fun _ => 0) 0 ((-9) : Int32)) 1 ((-9) : Int32))))] H := hP
  have hD : va_D A [(q, .inr (8, [.int 0, .ref q1, .null])), (q1, .inl (cs 4, 4, .inr (.inr (.inr (.inr (fun j => if j = 0 then some r2 else if j = 1 then some r3 else if j = 2 then some r4 else if j = 3 then some r5 else none)))))), (r2, .inl (cs 0, 16, .inl (fun _ => 0))), (r3, .inl (cs 0, 16, .inl (fun _ => 0))), (r4, .inl (cs 0, 16, .inl (fun _ => 0))), (r5, .inl (cs 0, 16, .inl (fun _ => 0))), (q6, .inl (cs 0, 4, .inl (upd (upd (fun _ => 0) 0 ((-9) : Int32)) 1 ((-9) : Int32))))] := hD
  refine lv_dup hx hb dX9_init_29 rfl ?_
  refine lv_iconst (v := (2 : Int32)) hx hb dX9_init_30 (by decide) ?_
  refine lv_bipush (v := ((-9) : Int32)) hx hb dX9_init_31 (by decide) ?_
  refine va_iast hx hb hK.1 hP hD hS 6 0 rfl rfl (show vp_in (2 : Int32) 4 from (by decide : ¬ ((2 : Int32) < 0 ∨ 4 ≤ ((2 : Int32)).toNatClampNeg))) dX9_init_33 (fun H locs hP hD hS => ?_)
  have hP : va_P D vwCl [(q, .inr (8, [.int 0, .ref q1, .null])), (q1, .inl (cs 4, 4, .inr (.inr (.inr (.inr (fun j => if j = 0 then some r2 else if j = 1 then some r3 else if j = 2 then some r4 else if j = 3 then some r5 else none)))))), (r2, .inl (cs 0, 16, .inl (fun _ => 0))), (r3, .inl (cs 0, 16, .inl (fun _ => 0))), (r4, .inl (cs 0, 16, .inl (fun _ => 0))), (r5, .inl (cs 0, 16, .inl (fun _ => 0))), (q6, .inl (cs 0, 4, .inl (upd (upd (upd (fun _ => 0) 0 ((-9) : Int32)) 1 ((-9) : Int32)) 2 ((-9) : Int32))))] H := hP
  have hD : va_D A [(q, .inr (8, [.int 0, .ref q1, .null])), (q1, .inl (cs 4, 4, .inr (.inr (.inr (.inr (fun j => if j = 0 then some r2 else if j = 1 then some r3 else if j = 2 then some r4 else if j = 3 then some r5 else none)))))), (r2, .inl (cs 0, 16, .inl (fun _ => 0))), (r3, .inl (cs 0, 16, .inl (fun _ => 0))), (r4, .inl (cs 0, 16, .inl (fun _ => 0))), (r5, .inl (cs 0, 16, .inl (fun _ => 0))), (q6, .inl (cs 0, 4, .inl (upd (upd (upd (fun _ => 0) 0 ((-9) : Int32)) 1 ((-9) : Int32)) 2 ((-9) : Int32))))] := hD
  refine lv_dup hx hb dX9_init_34 rfl ?_
  refine lv_iconst (v := (3 : Int32)) hx hb dX9_init_35 (by decide) ?_
  refine lv_bipush (v := ((-9) : Int32)) hx hb dX9_init_36 (by decide) ?_
  refine va_iast hx hb hK.1 hP hD hS 6 0 rfl rfl (show vp_in (3 : Int32) 4 from (by decide : ¬ ((3 : Int32) < 0 ∨ 4 ≤ ((3 : Int32)).toNatClampNeg))) dX9_init_38 (fun H locs hP hD hS => ?_)
  have hP : va_P D vwCl [(q, .inr (8, [.int 0, .ref q1, .null])), (q1, .inl (cs 4, 4, .inr (.inr (.inr (.inr (fun j => if j = 0 then some r2 else if j = 1 then some r3 else if j = 2 then some r4 else if j = 3 then some r5 else none)))))), (r2, .inl (cs 0, 16, .inl (fun _ => 0))), (r3, .inl (cs 0, 16, .inl (fun _ => 0))), (r4, .inl (cs 0, 16, .inl (fun _ => 0))), (r5, .inl (cs 0, 16, .inl (fun _ => 0))), (q6, .inl (cs 0, 4, .inl (upd (upd (upd (upd (fun _ => 0) 0 ((-9) : Int32)) 1 ((-9) : Int32)) 2 ((-9) : Int32)) 3 ((-9) : Int32))))] H := hP
  have hD : va_D A [(q, .inr (8, [.int 0, .ref q1, .null])), (q1, .inl (cs 4, 4, .inr (.inr (.inr (.inr (fun j => if j = 0 then some r2 else if j = 1 then some r3 else if j = 2 then some r4 else if j = 3 then some r5 else none)))))), (r2, .inl (cs 0, 16, .inl (fun _ => 0))), (r3, .inl (cs 0, 16, .inl (fun _ => 0))), (r4, .inl (cs 0, 16, .inl (fun _ => 0))), (r5, .inl (cs 0, 16, .inl (fun _ => 0))), (q6, .inl (cs 0, 4, .inl (upd (upd (upd (upd (fun _ => 0) 0 ((-9) : Int32)) 1 ((-9) : Int32)) 2 ((-9) : Int32)) 3 ((-9) : Int32))))] := hD
  refine va_putF (D := D) (ci := 8) (v := .ref q6) (ty := .array .int) (C := RX9) (T := TX9) (N := 3) hx hb hts inX9_X9_init tyX9 tyX9_ok nmX9 hown hK.1 hP hD hS 0 rfl rfl 2 (by decide) (hts (.fieldLink RX9 16 "SandPalace$Sweeper" "lengths" "[I") (by decide +kernel)) (fun _ h9 => h9) rfl hin rfl (by decide +kernel) rfl rfl (Nat.le_of_ble_eq_true rfl) dX9_init_39 (fun H locs hP hD hS => ?_)
  have hP : va_P D vwCl [(q, .inr (8, [.int 0, .ref q1, .ref q6])), (q1, .inl (cs 4, 4, .inr (.inr (.inr (.inr (fun j => if j = 0 then some r2 else if j = 1 then some r3 else if j = 2 then some r4 else if j = 3 then some r5 else none)))))), (r2, .inl (cs 0, 16, .inl (fun _ => 0))), (r3, .inl (cs 0, 16, .inl (fun _ => 0))), (r4, .inl (cs 0, 16, .inl (fun _ => 0))), (r5, .inl (cs 0, 16, .inl (fun _ => 0))), (q6, .inl (cs 0, 4, .inl (upd (upd (upd (upd (fun _ => 0) 0 ((-9) : Int32)) 1 ((-9) : Int32)) 2 ((-9) : Int32)) 3 ((-9) : Int32))))] H := hP
  have hD : va_D A [(q, .inr (8, [.int 0, .ref q1, .ref q6])), (q1, .inl (cs 4, 4, .inr (.inr (.inr (.inr (fun j => if j = 0 then some r2 else if j = 1 then some r3 else if j = 2 then some r4 else if j = 3 then some r5 else none)))))), (r2, .inl (cs 0, 16, .inl (fun _ => 0))), (r3, .inl (cs 0, 16, .inl (fun _ => 0))), (r4, .inl (cs 0, 16, .inl (fun _ => 0))), (r5, .inl (cs 0, 16, .inl (fun _ => 0))), (q6, .inl (cs 0, 4, .inl (upd (upd (upd (upd (fun _ => 0) 0 ((-9) : Int32)) 1 ((-9) : Int32)) 2 ((-9) : Int32)) 3 ((-9) : Int32))))] := hD
  exact mretK (w2 := w2X9_init cs q) hx hb hr hlk (fun j => if j = 0 then q1 else if j = 1 then r2 else if j = 2 then r3 else if j = 3 then r4 else if j = 4 then r5 else if j = 5 then q6 else 0) trivial hP hD hS dX9_init_42
def w2X7_init (cs : Nat → ClassId) (q : Nat) (y : Nat → Nat) : va_W := [(q, .inr (6, [.ref (y 0), .int ((-1) : Int32), .int 0])), ((y 0), .inl (cs 0, 256, .inl (fun _ => 0)))]
abbrev rmX7_init : Room := { frames := 1, cells := 1, slots := 256, locals := 20 }
theorem inX7_X7_init : ∀ w ∈ wsX70, w ∈ wsX7_init := by intro w h; simp only [wsX7_init, List.mem_cons, List.mem_append]; simp only [h, true_or, or_true]
set_option maxHeartbeats 8000000 in
set_option maxRecDepth 100000 in
theorem kX7_init (l : Launch) (D : va_G) (cs : Nat → ClassId) (q sz : Nat) : Met l yX7_init wsX7_init rmX7_init (va_Pc [.ref q] (pQ D cs [(q, .inr (6, [.null, .int 0, .int 0]))] sz)) (va_Qv (fun _ : Nat → Nat => True) (qB D (w2X7_init cs q) (va_A [(q, .inr (6, [.null, .int 0, .int 0]))] sz)) (va_A [(q, .inr (6, [.null, .int 0, .int 0]))] sz)) 1 256 (va_A [(q, .inr (6, [.null, .int 0, .int 0]))] sz) := by
  refine Met.ofW (cc := cX7_init) (maxL := 1) (ret := none) (by decide) rfl ?_
  intro p e s m args below meth c s₁ B hml hv
  obtain ⟨rfl, hsz, hP, hK, hD0⟩ := hv
  have C : cxt p s m _ meth c cX7_init 1 RX7 wsX7_init none := ⟨B.exec, B.bytes, hml, findClass_of_methodNamed B.named, atoms_spec (ws := wsX7_init) B.pre, B.returns, B.notSynchronized⟩
  obtain ⟨hx, hb, -, hown, hts, hr, hlk⟩ := id C
  have hin : meth.name = "<init>" := (name_of_methodNamed B.named B.method).1
  subst hsz
  have hD := hD0.self (sz := s.heap.size)
  generalize hAe : va_A [(q, .inr (6, [.null, .int 0, .int 0]))] s.heap.size = A at hD ⊢
  have hA : ∀ q : Nat, s.heap.size ≤ q → A q := fun q h => by rw [← hAe]; exact Or.inr h
  have hS : va_S A s.heap s.heap [] := va_S.rf
  refine entryW [.ref q] (n := 1) (Nat.le_of_ble_eq_true rfl) (fun ls hl => ?_)
  have hl : lv_has ls 1 [(0, .ref q)] := hl
  refine lv_aload_n hx hb dX7_init_0 rfl (lv_at hl 0 rfl) ?_
  refine W.objInit hx hb hown (hts (.methodLink RX7 3 objectInit) (by decide +kernel)) (hts (.instanceMethod objectInit) (by decide +kernel)) (hts _ (List.mem_of_getElem? (l := wsX7_init) (i := 3) rfl)) rfl (by rw [hml]; exact hl.1) rfl dX7_init_1 (Nat.le_of_ble_eq_true rfl) (Nat.le_of_ble_eq_true rfl) ?_
  refine W.eq (g2 := F0 m 4 ls []) rfl ?_
  refine lv_aload_n hx hb dX7_init_4 rfl (lv_at hl 0 rfl) ?_
  refine lv_sipush (v := (256 : Int32)) hx hb dX7_init_5 (by decide) ?_
  refine mnewi hx hb (hts (.arrayClass .int) (by decide +kernel)) hK hP hD hS hA (N' := 256) (by decide) rfl (by decide) (Nat.le_of_ble_eq_true rfl) (Nat.le_of_ble_eq_true rfl) dX7_init_8 (fun q1 H hP hD hS => ?_)
  have hP : va_P D vwCl [(q, .inr (6, [.null, .int 0, .int 0])), (q1, .inl (cs 0, 256, .inl (fun _ => 0)))] H := hP
  have hD : va_D A [(q, .inr (6, [.null, .int 0, .int 0])), (q1, .inl (cs 0, 256, .inl (fun _ => 0)))] := hD
  refine W.widen (k := 1) (n := 256) (Nat.le_refl _) (Nat.le_refl _) ?_
  refine va_putF (D := D) (ci := 6) (v := .ref q1) (ty := .array .int) (C := RX7) (T := TX7) (N := 3) hx hb hts inX7_X7_init tyX7 tyX7_ok nmX7 hown hK.1 hP hD hS 0 rfl rfl 0 (by decide) (hts (.fieldLink RX7 9 "SandPalace$Sheet" "items" "[I") (by decide +kernel)) (fun _ h9 => h9) rfl hin rfl (by decide +kernel) rfl rfl (Nat.le_of_ble_eq_true rfl) dX7_init_10 (fun H locs hP hD hS => ?_)
  have hP : va_P D vwCl [(q, .inr (6, [.ref q1, .int 0, .int 0])), (q1, .inl (cs 0, 256, .inl (fun _ => 0)))] H := hP
  have hD : va_D A [(q, .inr (6, [.ref q1, .int 0, .int 0])), (q1, .inl (cs 0, 256, .inl (fun _ => 0)))] := hD
  refine lv_aload_n hx hb dX7_init_13 rfl (lv_at hl 0 rfl) ?_
  refine lv_iconst (v := ((-1) : Int32)) hx hb dX7_init_14 (by decide) ?_
  refine va_put (D := D) (ci := 6) (v := .int ((-1) : Int32)) (ty := .int) (C := RX7) (T := TX7) (N := 3) hx hb hts inX7_X7_init tyX7 tyX7_ok nmX7 hown hK.1 hP hD hS 0 rfl rfl 1 (by decide) (hts (.fieldLink RX7 15 "SandPalace$Sheet" "laneOfRow" "I") (by decide +kernel)) (fun _ h9 => h9) rfl (by decide +kernel) rfl rfl (Nat.le_of_ble_eq_true rfl) dX7_init_15 (fun H locs hP hD hS => ?_)
  have hP : va_P D vwCl [(q, .inr (6, [.ref q1, .int ((-1) : Int32), .int 0])), (q1, .inl (cs 0, 256, .inl (fun _ => 0)))] H := hP
  have hD : va_D A [(q, .inr (6, [.ref q1, .int ((-1) : Int32), .int 0])), (q1, .inl (cs 0, 256, .inl (fun _ => 0)))] := hD
  exact mretK (w2 := w2X7_init cs q) hx hb hr hlk (fun j => if j = 0 then q1 else 0) trivial hP hD hS dX7_init_18
