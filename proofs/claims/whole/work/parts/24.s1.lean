abbrev SS : Type := (Nat → Nat → Int32) × (Nat → Option Nat) × List Nat × ZT
def cWs (a : Nat → Nat) (cs : Nat → ClassId) (u : SS) : va_W := cW a cs u.2.1 u.2.2.1 u.2.2.2 u.1
def aPost (σ : Nat → Nat → Int32) (sh : Nat → Option Nat) (LP : List Nat) (Z : ZT) (k : Nat) (c st r : Int32) (o : Option (Int64 × (Nat → Nat → Int32))) (x : Int32) (y : SS) : Prop := x = r ∧ match o with
  | none => y = (σ, sh, LP, Z)
  | some (pl, σ2) => ∃ q : Nat, q ∉ LP ∧ y = (σ2, shPut σ sh q, LP ++ [q], va_up Z q (k, c, pl, st))
theorem subP {D : va_G} {ws : va_W} {q : Nat} {e : va_E} {H : Heap} (hP : va_P D vwCl (ws ++ [(q, e)]) H) : va_P D vwCl [(q, e)] H := by
  intro k x hx
  have hk := (List.getElem?_eq_some_iff.mp hx).1
  have h1 : (ws ++ [(q, e)])[ws.length + k]? = some x := by rw [List.getElem?_append_right (by omega), Nat.add_sub_cancel_left]; exact hx
  exact hP _ x h1
theorem subD {A : Nat → Prop} {ws : va_W} {q : Nat} {e : va_E} (hD : va_D A (ws ++ [(q, e)])) : va_D A [(q, e)] := by
  refine ⟨fun i j x y hi hj _ => ?_, fun k x hx => ?_⟩
  · have h1 := (List.getElem?_eq_some_iff.mp hi).1
    have h2 := (List.getElem?_eq_some_iff.mp hj).1
    simp at h1 h2
    omega
  · have h1 : (ws ++ [(q, e)])[ws.length + k]? = some x := by rw [List.getElem?_append_right (by omega), Nat.add_sub_cancel_left]; exact hx
    exact hD.2 _ x h1
section AROWS
variable {p : Program} {l : Launch} {e : Env} {R : Room} {s : State} {m : MethodId} {args : Array Value} {below : List Frame} {meth : Method} {c : Code} {H : Heap} {locs : List Loc} {cells slots : Nat} {Q : State → Prop}
variable {cc : ByteArray} {pc : Nat} {ls : Array Slot} {D : va_G} {cs : Nat → ClassId} {a : Nat → Nat} {sh : Nat → Option Nat} {LP : List Nat} {Z : ZT} {σ : Nat → Nat → Int32} {A : Nat → Prop}
theorem mretA0 (hx : p.tables.exec = Jvm.exec) (hb : c.code = cc) (hr : meth.sig.returnType = some .int) (hlk : meth.locks = false) {v r : Int32} {o : Option (Int64 × (Nat → Nat → Int32))} {k : Nat} {x1 st : Int32} (h : some (v, none) = some (r, o)) (hP : va_P D vwCl (cW a cs sh LP Z σ) H) (hD : va_D A (cW a cs sh LP Z σ)) (hS : va_S A s.heap H locs) (hdg : decode cc pc = .ok (.ireturn, 1)) : W p l e R s m args below meth c H locs cells slots (MQ below (va_Qi (aPost σ sh LP Z k x1 st r o) (qB D (cWs a cs) A) A) args s cells slots A) (F0 m pc ls [.int v]) := by
  obtain ⟨h1, h2⟩ := Prod.mk.inj (Option.some.inj h)
  subst h1
  subst h2
  exact W.iret hx hb hr (fun t ht _ => ⟨⟨v, (σ, sh, LP, Z), rfl, ⟨rfl, rfl⟩, by rw [ht]; exact hP, hD⟩, hS.F ht⟩) hS.2.2 hdg hlk
theorem mretA1 (hx : p.tables.exec = Jvm.exec) (hb : c.code = cc) (hr : meth.sig.returnType = some .int) (hlk : meth.locks = false) {v r : Int32} {o : Option (Int64 × (Nat → Nat → Int32))} {k q : Nat} {x1 st : Int32} {pl : Int64} {σ2 : Nat → Nat → Int32} (h : some (v, some (pl, σ2)) = some (r, o)) (hq : q ∉ LP) (hP : va_P D vwCl (cW a cs (shPut σ sh q) (LP ++ [q]) (va_up Z q (k, x1, pl, st)) σ2) H) (hD : va_D A (cW a cs (shPut σ sh q) (LP ++ [q]) (va_up Z q (k, x1, pl, st)) σ2)) (hS : va_S A s.heap H locs) (hdg : decode cc pc = .ok (.ireturn, 1)) : W p l e R s m args below meth c H locs cells slots (MQ below (va_Qi (aPost σ sh LP Z k x1 st r o) (qB D (cWs a cs) A) A) args s cells slots A) (F0 m pc ls [.int v]) := by
  obtain ⟨h1, h2⟩ := Prod.mk.inj (Option.some.inj h)
  subst h1
  subst h2
  exact W.iret hx hb hr (fun t ht _ => ⟨⟨v, (σ2, shPut σ sh q, LP ++ [q], va_up Z q (k, x1, pl, st)), rfl, ⟨rfl, ⟨q, hq, rfl⟩⟩, by rw [ht]; exact hP, hD⟩, hS.F ht⟩) hS.2.2 hdg hlk
end AROWS
def fX11_disc (F : Nat) (sh : Nat → Option Nat) (Z : ZT) (σ : Nat → Nat → Int32) (x1 : Int32) (x2 : Int32) : Option (Int32 × Option (Int64 × (Nat → Nat → Int32))) :=
  bd (fX11_isSand x1) fun v1 => if v1 = 0 then (some (((-1) : Int32), none)) else (bd (fX11_within x2 (1 : Int32) (450 : Int32)) fun v3 => if ¬ v3 = 0 then (bd (fX1_placesOf F x2) fun pl => bd (fX11_put sh Z σ) fun (v9, σ9) => some (v9, some (pl, σ9))) else (some (((-1) : Int32), none)))
abbrev rmX11_disc : Room := { frames := 3, cells := 1, slots := 2, locals := 57 }
theorem inX1_X11_disc : ∀ w ∈ wsX10, w ∈ wsX11_disc := by intro w h; simp only [wsX11_disc, List.mem_cons, List.mem_append]; simp only [h, true_or, or_true]
set_option maxHeartbeats 4000000 in
set_option maxRecDepth 100000 in
theorem kX11_disc (l : Launch) (D : va_G) (cs : Nat → ClassId) (a : Nat → Nat) (sh : Nat → Option Nat) (LP : List Nat) (Z : ZT) (hZ : shOK sh LP Z) (σ : Nat → Nat → Int32) (F : Nat) (x1 : Int32) (x2 : Int32) (r : Int32) (o : Option (Int64 × (Nat → Nat → Int32))) (h : fX11_disc F sh Z σ x1 x2 = some (r, o)) (sz : Nat) : Met l yX11_disc wsX11_disc rmX11_disc (va_Pc [.ref (a 0), .int x1, .int x2] (pQ D cs (cW a cs sh LP Z σ) sz)) (va_Qi (aPost σ sh LP Z 1 x1 0 r o) (qB D (cWs a cs) (va_A (cW a cs sh LP Z σ) sz)) (va_A (cW a cs sh LP Z σ) sz)) 1 2 (va_A (cW a cs sh LP Z σ) sz) := by
  refine Met.ofW (cc := cX11_disc) (maxL := 3) (ret := (some .int)) (by decide) rfl ?_
  intro p e s m args below meth c s₁ B hml hv
  obtain ⟨rfl, hsz, hP, hK, hD0⟩ := hv
  have C : cxt p s m _ meth c cX11_disc 3 RX11 wsX11_disc (some .int) := ⟨B.exec, B.bytes, hml, findClass_of_methodNamed B.named, atoms_spec (ws := wsX11_disc) B.pre, B.returns, B.notSynchronized⟩
  obtain ⟨hx, hb, -, hown, hts, hr, hlk⟩ := id C
  subst hsz
  have hD := hD0.self (sz := s.heap.size)
  generalize hAe : va_A (cW a cs sh LP Z σ) s.heap.size = A at hD ⊢
  have hA : ∀ q : Nat, s.heap.size ≤ q → A q := fun q h => by rw [← hAe]; exact Or.inr h
  have hS : va_S A s.heap s.heap [] := va_S.rf
  refine entryW [.ref (a 0), .int x1, .int x2] (n := 3) (Nat.le_of_ble_eq_true rfl) (fun ls hl => ?_)
  have hl : lv_has ls 3 [(0, .ref (a 0)), (1, .int x1), (2, .int x2)] := hl
  unfold fX11_disc at h
  refine lv_iload_n hx hb dX11_disc_0 rfl (lv_at hl 1 rfl) ?_
  obtain ⟨v1, hc_v1, h⟩ := bd_some h
  refine mcallSZ (va_runS (As := [.int x1]) (rest := []) ⟨hx, hb, hml, hown, hts⟩ (kX11_isSand l x1 v1 hc_v1) (va_cwS 1 hts gX11_disc_X11_isSand rfl rfl rfl (by decide +kernel) ⟨Nat.le_of_ble_eq_true rfl, Nat.le_of_ble_eq_true rfl⟩) p0_s rfl rfl hl.1 rfl (lv_room (Nat.le_of_ble_eq_true rfl)) dX11_disc_1 ⟨Nat.zero_le _, Nat.zero_le _⟩) (fun z_v1 => ?_)
  refine lv_if_eq (tgt := 18) hx hb dX11_disc_4 (by decide) (fun c2 => ?_) (fun c2 => ?_)
  · have h := it_t c2 h
    refine lv_iconst (v := ((-1) : Int32)) hx hb dX11_disc_18 (by decide) ?_
    refine W.widen (k := 1) (n := 2) (Nat.le_of_ble_eq_true rfl) (Nat.le_of_ble_eq_true rfl) ?_
    exact mretA0 hx hb hr hlk h hP hD hS dX11_disc_19
  · have h := it_f c2 h
    refine lv_iload_n hx hb dX11_disc_7 rfl (lv_at hl 2 rfl) ?_
    refine lv_iconst (v := (1 : Int32)) hx hb dX11_disc_8 (by decide) ?_
    refine lv_sipush (v := (450 : Int32)) hx hb dX11_disc_9 (by decide) ?_
    obtain ⟨v3, hc_v3, h⟩ := bd_some h
    refine mcallSZ (va_runS (As := [.int x2, .int (1 : Int32), .int (450 : Int32)]) (rest := []) ⟨hx, hb, hml, hown, hts⟩ (kX11_within l x2 (1 : Int32) (450 : Int32) v3 hc_v3) (va_cwS 3 hts gX11_disc_X11_within rfl rfl rfl (by decide +kernel) ⟨Nat.le_of_ble_eq_true rfl, Nat.le_of_ble_eq_true rfl⟩) p0_s rfl rfl hl.1 rfl (lv_room (Nat.le_of_ble_eq_true rfl)) dX11_disc_12 ⟨Nat.zero_le _, Nat.zero_le _⟩) (fun z_v3 => ?_)
    refine lv_if_ne (tgt := 20) hx hb dX11_disc_15 (by decide) (fun c4 => ?_) (fun c4 => ?_)
    · have h := it_t c4 h
      refine lv_aload_n hx hb dX11_disc_20 rfl (lv_at hl 0 rfl) ?_
      refine va_new (ci := 1) (fs := [.int 0, .long 0]) (C := RX1) (T := TX1) (N := 2) hx hb hts inX1_X11_disc tyX1 tyX1_ok hown (hts (.classLink RX11 52 RX1) (by decide +kernel)) (hts (.instantiable RX1 2) (by decide +kernel)) (hts (.initialized RX1) (by decide +kernel)) hK.1 hP hD hS hA rfl (fun j hj => by rcases (show j = 0 ∨ j = 1 by omega) with rfl | rfl <;> rfl) (Nat.le_of_ble_eq_true rfl) (Nat.le_of_ble_eq_true rfl) dX11_disc_21 (fun q5 H hP hD hS => ?_)
      have nq5 : q5 ∉ LP := va_pl_fresh2 (X := cX a cs sh σ) hD
      refine lv_dup hx hb dX11_disc_24 rfl ?_
      refine lv_iload_n hx hb dX11_disc_25 rfl (lv_at hl 1 rfl) ?_
      refine lv_iload_n hx hb dX11_disc_26 rfl (lv_at hl 2 rfl) ?_
      obtain ⟨pl, hc_pl, h⟩ := bd_some h
      refine mcallI (e2 := .inr (1, [.int x1, .long pl])) (va_runI (As := [.int x1, .int x2]) (rest := [.ref q5, .ref (a 0)]) ⟨hx, hb, hml, hown, hts⟩ (kX1_init l D cs q5 _ 0 0 F x1 x2 pl hc_pl) (cwI 2 hts gX11_disc_X1_init rfl rfl rfl (hts (.initialized RX1) (by decide +kernel)) (hts (.methodLink RX11 54 yX1_init) (by decide +kernel)) (hts (.instanceMethod yX1_init) (by decide +kernel)) rfl (by decide +kernel) ⟨Nat.le_of_ble_eq_true rfl, Nat.le_of_ble_eq_true rfl⟩) (pQ_s (subP hP) hK (subD hD)) rfl rfl hl.1 rfl (lv_room (Nat.le_of_ble_eq_true rfl)) dX11_disc_27 ⟨Nat.le_of_ble_eq_true rfl, Nat.le_of_ble_eq_true rfl⟩) hP hD hS hA (fun H locs hP hD hS => ?_)
      have hP : va_P D vwCl (cW a cs sh (LP ++ [q5]) (va_up Z q5 (1, x1, pl, 0)) σ) H := by rw [← pool_push (1, x1, pl, 0) nq5]; exact hP
      have hD : va_D A (cW a cs sh (LP ++ [q5]) (va_up Z q5 (1, x1, pl, 0)) σ) := by rw [← pool_push (1, x1, pl, 0) nq5]; exact hD
      have hZ2 : shOK sh (LP ++ [q5]) (va_up Z q5 (1, x1, pl, 0)) := shOK_grow hZ nq5
      have fq5 : q5 ∈ LP ++ [q5] ∧ okK ((va_up Z q5 (1, x1, pl, 0)) q5).1 := ⟨List.mem_append_right _ (List.mem_singleton.mpr rfl), by unfold va_up; rw [if_pos rfl]; exact Or.inr (Or.inl rfl)⟩
      obtain ⟨⟨v9, σ9⟩, hc9, h⟩ := bd_some h
      refine mcallQ (wf := (cW a cs (shPut σ sh q5) (LP ++ [q5]) (va_up Z q5 (1, x1, pl, 0)))) (va_runV (As := [.ref q5]) (rest := []) ⟨hx, hb, hml, hown, hts⟩ (kX11_put l D cs a sh (LP ++ [q5]) (va_up Z q5 (1, x1, pl, 0)) hZ2 σ q5 fq5 v9 σ9 hc9 _) (cwV 1 hts gX11_disc_X11_put rfl rfl rfl (by decide +kernel) ⟨Nat.le_of_ble_eq_true rfl, Nat.le_of_ble_eq_true rfl⟩) (pQ_v hP hK hD (va_recv hK.1 hP (ci := 10) (q0 := 0) rfl rfl)) rfl rfl hl.1 rfl (lv_room (Nat.le_of_ble_eq_true rfl)) dX11_disc_30 ⟨Nat.le_of_ble_eq_true rfl, Nat.le_of_ble_eq_true rfl⟩) hD hS hA (fun H locs hP hD hS => ?_)
      exact mretA1 hx hb hr hlk h nq5 hP hD hS dX11_disc_33
    · have h := it_n c4 h
      refine lv_iconst (v := ((-1) : Int32)) hx hb dX11_disc_18 (by decide) ?_
      refine W.widen (k := 1) (n := 2) (Nat.le_of_ble_eq_true rfl) (Nat.le_of_ble_eq_true rfl) ?_
      exact mretA0 hx hb hr hlk h hP hD hS dX11_disc_19
def fX11_rim (F : Nat) (sh : Nat → Option Nat) (Z : ZT) (σ : Nat → Nat → Int32) (x1 : Int32) (x2 : Int32) : Option (Int32 × Option (Int64 × (Nat → Nat → Int32))) :=
  bd (fX11_isSand x1) fun v1 => if v1 = 0 then (some (((-1) : Int32), none)) else (bd (fX11_within x2 (0 : Int32) (7 : Int32)) fun v3 => if ¬ v3 = 0 then (bd (fX5_placesOf F x2) fun pl => bd (fX11_put sh Z σ) fun (v9, σ9) => some (v9, some (pl, σ9))) else (some (((-1) : Int32), none)))
abbrev rmX11_rim : Room := { frames := 3, cells := 1, slots := 2, locals := 66 }
theorem inX5_X11_rim : ∀ w ∈ wsX50, w ∈ wsX11_rim := by intro w h; simp only [wsX11_rim, List.mem_cons, List.mem_append]; simp only [h, true_or, or_true]
set_option maxHeartbeats 4000000 in
set_option maxRecDepth 100000 in
theorem kX11_rim (l : Launch) (D : va_G) (cs : Nat → ClassId) (a : Nat → Nat) (sh : Nat → Option Nat) (LP : List Nat) (Z : ZT) (hZ : shOK sh LP Z) (σ : Nat → Nat → Int32) (F : Nat) (x1 : Int32) (x2 : Int32) (r : Int32) (o : Option (Int64 × (Nat → Nat → Int32))) (h : fX11_rim F sh Z σ x1 x2 = some (r, o)) (sz : Nat) : Met l yX11_rim wsX11_rim rmX11_rim (va_Pc [.ref (a 0), .int x1, .int x2] (pQ D cs (cW a cs sh LP Z σ) sz)) (va_Qi (aPost σ sh LP Z 5 x1 0 r o) (qB D (cWs a cs) (va_A (cW a cs sh LP Z σ) sz)) (va_A (cW a cs sh LP Z σ) sz)) 1 2 (va_A (cW a cs sh LP Z σ) sz) := by
  refine Met.ofW (cc := cX11_rim) (maxL := 3) (ret := (some .int)) (by decide) rfl ?_
  intro p e s m args below meth c s₁ B hml hv
  obtain ⟨rfl, hsz, hP, hK, hD0⟩ := hv
  have C : cxt p s m _ meth c cX11_rim 3 RX11 wsX11_rim (some .int) := ⟨B.exec, B.bytes, hml, findClass_of_methodNamed B.named, atoms_spec (ws := wsX11_rim) B.pre, B.returns, B.notSynchronized⟩
  obtain ⟨hx, hb, -, hown, hts, hr, hlk⟩ := id C
  subst hsz
  have hD := hD0.self (sz := s.heap.size)
  generalize hAe : va_A (cW a cs sh LP Z σ) s.heap.size = A at hD ⊢
  have hA : ∀ q : Nat, s.heap.size ≤ q → A q := fun q h => by rw [← hAe]; exact Or.inr h
  have hS : va_S A s.heap s.heap [] := va_S.rf
  refine entryW [.ref (a 0), .int x1, .int x2] (n := 3) (Nat.le_of_ble_eq_true rfl) (fun ls hl => ?_)
  have hl : lv_has ls 3 [(0, .ref (a 0)), (1, .int x1), (2, .int x2)] := hl
  unfold fX11_rim at h
  refine lv_iload_n hx hb dX11_rim_0 rfl (lv_at hl 1 rfl) ?_
  obtain ⟨v1, hc_v1, h⟩ := bd_some h
  refine mcallSZ (va_runS (As := [.int x1]) (rest := []) ⟨hx, hb, hml, hown, hts⟩ (kX11_isSand l x1 v1 hc_v1) (va_cwS 1 hts gX11_rim_X11_isSand rfl rfl rfl (by decide +kernel) ⟨Nat.le_of_ble_eq_true rfl, Nat.le_of_ble_eq_true rfl⟩) p0_s rfl rfl hl.1 rfl (lv_room (Nat.le_of_ble_eq_true rfl)) dX11_rim_1 ⟨Nat.zero_le _, Nat.zero_le _⟩) (fun z_v1 => ?_)
  refine lv_if_eq (tgt := 17) hx hb dX11_rim_4 (by decide) (fun c2 => ?_) (fun c2 => ?_)
  · have h := it_t c2 h
    refine lv_iconst (v := ((-1) : Int32)) hx hb dX11_rim_17 (by decide) ?_
    refine W.widen (k := 1) (n := 2) (Nat.le_of_ble_eq_true rfl) (Nat.le_of_ble_eq_true rfl) ?_
    exact mretA0 hx hb hr hlk h hP hD hS dX11_rim_18
  · have h := it_f c2 h
    refine lv_iload_n hx hb dX11_rim_7 rfl (lv_at hl 2 rfl) ?_
    refine lv_iconst (v := (0 : Int32)) hx hb dX11_rim_8 (by decide) ?_
    refine lv_bipush (v := (7 : Int32)) hx hb dX11_rim_9 (by decide) ?_
    obtain ⟨v3, hc_v3, h⟩ := bd_some h
    refine mcallSZ (va_runS (As := [.int x2, .int (0 : Int32), .int (7 : Int32)]) (rest := []) ⟨hx, hb, hml, hown, hts⟩ (kX11_within l x2 (0 : Int32) (7 : Int32) v3 hc_v3) (va_cwS 3 hts gX11_rim_X11_within rfl rfl rfl (by decide +kernel) ⟨Nat.le_of_ble_eq_true rfl, Nat.le_of_ble_eq_true rfl⟩) p0_s rfl rfl hl.1 rfl (lv_room (Nat.le_of_ble_eq_true rfl)) dX11_rim_11 ⟨Nat.zero_le _, Nat.zero_le _⟩) (fun z_v3 => ?_)
    refine lv_if_ne (tgt := 19) hx hb dX11_rim_14 (by decide) (fun c4 => ?_) (fun c4 => ?_)
    · have h := it_t c4 h
      refine lv_aload_n hx hb dX11_rim_19 rfl (lv_at hl 0 rfl) ?_
      refine va_new (ci := 5) (fs := [.int 0, .long 0]) (C := RX5) (T := TX5) (N := 2) hx hb hts inX5_X11_rim tyX5 tyX5_ok hown (hts (.classLink RX11 61 RX5) (by decide +kernel)) (hts (.instantiable RX5 2) (by decide +kernel)) (hts (.initialized RX5) (by decide +kernel)) hK.1 hP hD hS hA rfl (fun j hj => by rcases (show j = 0 ∨ j = 1 by omega) with rfl | rfl <;> rfl) (Nat.le_of_ble_eq_true rfl) (Nat.le_of_ble_eq_true rfl) dX11_rim_20 (fun q5 H hP hD hS => ?_)
      have nq5 : q5 ∉ LP := va_pl_fresh2 (X := cX a cs sh σ) hD
      refine lv_dup hx hb dX11_rim_23 rfl ?_
      refine lv_iload_n hx hb dX11_rim_24 rfl (lv_at hl 1 rfl) ?_
      refine lv_iload_n hx hb dX11_rim_25 rfl (lv_at hl 2 rfl) ?_
      obtain ⟨pl, hc_pl, h⟩ := bd_some h
      refine mcallI (e2 := .inr (5, [.int x1, .long pl])) (va_runI (As := [.int x1, .int x2]) (rest := [.ref q5, .ref (a 0)]) ⟨hx, hb, hml, hown, hts⟩ (kX5_init l D cs q5 _ 0 0 F x1 x2 pl hc_pl) (cwI 2 hts gX11_rim_X5_init rfl rfl rfl (hts (.initialized RX5) (by decide +kernel)) (hts (.methodLink RX11 63 yX5_init) (by decide +kernel)) (hts (.instanceMethod yX5_init) (by decide +kernel)) rfl (by decide +kernel) ⟨Nat.le_of_ble_eq_true rfl, Nat.le_of_ble_eq_true rfl⟩) (pQ_s (subP hP) hK (subD hD)) rfl rfl hl.1 rfl (lv_room (Nat.le_of_ble_eq_true rfl)) dX11_rim_26 ⟨Nat.le_of_ble_eq_true rfl, Nat.le_of_ble_eq_true rfl⟩) hP hD hS hA (fun H locs hP hD hS => ?_)
      have hP : va_P D vwCl (cW a cs sh (LP ++ [q5]) (va_up Z q5 (5, x1, pl, 0)) σ) H := by rw [← pool_push (5, x1, pl, 0) nq5]; exact hP
      have hD : va_D A (cW a cs sh (LP ++ [q5]) (va_up Z q5 (5, x1, pl, 0)) σ) := by rw [← pool_push (5, x1, pl, 0) nq5]; exact hD
      have hZ2 : shOK sh (LP ++ [q5]) (va_up Z q5 (5, x1, pl, 0)) := shOK_grow hZ nq5
      have fq5 : q5 ∈ LP ++ [q5] ∧ okK ((va_up Z q5 (5, x1, pl, 0)) q5).1 := ⟨List.mem_append_right _ (List.mem_singleton.mpr rfl), by unfold va_up; rw [if_pos rfl]; exact Or.inr (Or.inr (Or.inr (Or.inl rfl)))⟩
      obtain ⟨⟨v9, σ9⟩, hc9, h⟩ := bd_some h
      refine mcallQ (wf := (cW a cs (shPut σ sh q5) (LP ++ [q5]) (va_up Z q5 (5, x1, pl, 0)))) (va_runV (As := [.ref q5]) (rest := []) ⟨hx, hb, hml, hown, hts⟩ (kX11_put l D cs a sh (LP ++ [q5]) (va_up Z q5 (5, x1, pl, 0)) hZ2 σ q5 fq5 v9 σ9 hc9 _) (cwV 1 hts gX11_rim_X11_put rfl rfl rfl (by decide +kernel) ⟨Nat.le_of_ble_eq_true rfl, Nat.le_of_ble_eq_true rfl⟩) (pQ_v hP hK hD (va_recv hK.1 hP (ci := 10) (q0 := 0) rfl rfl)) rfl rfl hl.1 rfl (lv_room (Nat.le_of_ble_eq_true rfl)) dX11_rim_29 ⟨Nat.le_of_ble_eq_true rfl, Nat.le_of_ble_eq_true rfl⟩) hD hS hA (fun H locs hP hD hS => ?_)
      exact mretA1 hx hb hr hlk h nq5 hP hD hS dX11_rim_32
    · have h := it_n c4 h
      refine lv_iconst (v := ((-1) : Int32)) hx hb dX11_rim_17 (by decide) ?_
      refine W.widen (k := 1) (n := 2) (Nat.le_of_ble_eq_true rfl) (Nat.le_of_ble_eq_true rfl) ?_
      exact mretA0 hx hb hr hlk h hP hD hS dX11_rim_18
def fX11_line (F : Nat) (sh : Nat → Option Nat) (Z : ZT) (σ : Nat → Nat → Int32) (x1 : Int32) (x2 : Int32) (x3 : Int32) (x4 : Int32) (x5 : Int32) : Option (Int32 × Option (Int64 × (Nat → Nat → Int32))) :=
  bd (fX11_isSand x1) fun v1 => if v1 = 0 then (some (((-1) : Int32), none)) else (bd (fX11_arePlaces x2 x3 x4 x5) fun v3 => if ¬ v3 = 0 then (bd (fX2_placesOf F x2 x3 x4 x5) fun pl => bd (fX11_put sh Z σ) fun (v9, σ9) => some (v9, some (pl, σ9))) else (some (((-1) : Int32), none)))
abbrev rmX11_line : Room := { frames := 3, cells := 1, slots := 2, locals := 74 }
theorem inX2_X11_line : ∀ w ∈ wsX20, w ∈ wsX11_line := by intro w h; simp only [wsX11_line, List.mem_cons, List.mem_append]; simp only [h, true_or, or_true]
set_option maxHeartbeats 4000000 in
set_option maxRecDepth 100000 in
theorem kX11_line (l : Launch) (D : va_G) (cs : Nat → ClassId) (a : Nat → Nat) (sh : Nat → Option Nat) (LP : List Nat) (Z : ZT) (hZ : shOK sh LP Z) (σ : Nat → Nat → Int32) (F : Nat) (x1 : Int32) (x2 : Int32) (x3 : Int32) (x4 : Int32) (x5 : Int32) (r : Int32) (o : Option (Int64 × (Nat → Nat → Int32))) (h : fX11_line F sh Z σ x1 x2 x3 x4 x5 = some (r, o)) (sz : Nat) : Met l yX11_line wsX11_line rmX11_line (va_Pc [.ref (a 0), .int x1, .int x2, .int x3, .int x4, .int x5] (pQ D cs (cW a cs sh LP Z σ) sz)) (va_Qi (aPost σ sh LP Z 2 x1 0 r o) (qB D (cWs a cs) (va_A (cW a cs sh LP Z σ) sz)) (va_A (cW a cs sh LP Z σ) sz)) 1 2 (va_A (cW a cs sh LP Z σ) sz) := by
  refine Met.ofW (cc := cX11_line) (maxL := 6) (ret := (some .int)) (by decide) rfl ?_
  intro p e s m args below meth c s₁ B hml hv
  obtain ⟨rfl, hsz, hP, hK, hD0⟩ := hv
  have C : cxt p s m _ meth c cX11_line 6 RX11 wsX11_line (some .int) := ⟨B.exec, B.bytes, hml, findClass_of_methodNamed B.named, atoms_spec (ws := wsX11_line) B.pre, B.returns, B.notSynchronized⟩
  obtain ⟨hx, hb, -, hown, hts, hr, hlk⟩ := id C
  subst hsz
  have hD := hD0.self (sz := s.heap.size)
  generalize hAe : va_A (cW a cs sh LP Z σ) s.heap.size = A at hD ⊢
  have hA : ∀ q : Nat, s.heap.size ≤ q → A q := fun q h => by rw [← hAe]; exact Or.inr h
  have hS : va_S A s.heap s.heap [] := va_S.rf
  refine entryW [.ref (a 0), .int x1, .int x2, .int x3, .int x4, .int x5] (n := 6) (Nat.le_of_ble_eq_true rfl) (fun ls hl => ?_)
  have hl : lv_has ls 6 [(0, .ref (a 0)), (1, .int x1), (2, .int x2), (3, .int x3), (4, .int x4), (5, .int x5)] := hl
  unfold fX11_line at h
  refine lv_iload_n hx hb dX11_line_0 rfl (lv_at hl 1 rfl) ?_
  obtain ⟨v1, hc_v1, h⟩ := bd_some h
  refine mcallSZ (va_runS (As := [.int x1]) (rest := []) ⟨hx, hb, hml, hown, hts⟩ (kX11_isSand l x1 v1 hc_v1) (va_cwS 1 hts gX11_line_X11_isSand rfl rfl rfl (by decide +kernel) ⟨Nat.le_of_ble_eq_true rfl, Nat.le_of_ble_eq_true rfl⟩) p0_s rfl rfl hl.1 rfl (lv_room (Nat.le_of_ble_eq_true rfl)) dX11_line_1 ⟨Nat.zero_le _, Nat.zero_le _⟩) (fun z_v1 => ?_)
  refine lv_if_eq (tgt := 19) hx hb dX11_line_4 (by decide) (fun c2 => ?_) (fun c2 => ?_)
  · have h := it_t c2 h
    refine lv_iconst (v := ((-1) : Int32)) hx hb dX11_line_19 (by decide) ?_
    refine W.widen (k := 1) (n := 2) (Nat.le_of_ble_eq_true rfl) (Nat.le_of_ble_eq_true rfl) ?_
    exact mretA0 hx hb hr hlk h hP hD hS dX11_line_20
  · have h := it_f c2 h
    refine lv_iload_n hx hb dX11_line_7 rfl (lv_at hl 2 rfl) ?_
    refine lv_iload_n hx hb dX11_line_8 rfl (lv_at hl 3 rfl) ?_
    refine lv_iload hx hb dX11_line_9 (lv_at hl 4 rfl) ?_
    refine lv_iload hx hb dX11_line_11 (lv_at hl 5 rfl) ?_
    obtain ⟨v3, hc_v3, h⟩ := bd_some h
    refine mcallSZ (va_runS (As := [.int x2, .int x3, .int x4, .int x5]) (rest := []) ⟨hx, hb, hml, hown, hts⟩ (kX11_arePlaces l x2 x3 x4 x5 v3 hc_v3) (va_cwS 4 hts gX11_line_X11_arePlaces rfl rfl rfl (by decide +kernel) ⟨Nat.le_of_ble_eq_true rfl, Nat.le_of_ble_eq_true rfl⟩) p0_s rfl rfl hl.1 rfl (lv_room (Nat.le_of_ble_eq_true rfl)) dX11_line_13 ⟨Nat.zero_le _, Nat.zero_le _⟩) (fun z_v3 => ?_)
    refine lv_if_ne (tgt := 21) hx hb dX11_line_16 (by decide) (fun c4 => ?_) (fun c4 => ?_)
    · have h := it_t c4 h
      refine lv_aload_n hx hb dX11_line_21 rfl (lv_at hl 0 rfl) ?_
      refine va_new (ci := 2) (fs := [.int 0, .long 0]) (C := RX2) (T := TX2) (N := 2) hx hb hts inX2_X11_line tyX2 tyX2_ok hown (hts (.classLink RX11 68 RX2) (by decide +kernel)) (hts (.instantiable RX2 2) (by decide +kernel)) (hts (.initialized RX2) (by decide +kernel)) hK.1 hP hD hS hA rfl (fun j hj => by rcases (show j = 0 ∨ j = 1 by omega) with rfl | rfl <;> rfl) (Nat.le_of_ble_eq_true rfl) (Nat.le_of_ble_eq_true rfl) dX11_line_22 (fun q5 H hP hD hS => ?_)
      have nq5 : q5 ∉ LP := va_pl_fresh2 (X := cX a cs sh σ) hD
      refine lv_dup hx hb dX11_line_25 rfl ?_
      refine lv_iload_n hx hb dX11_line_26 rfl (lv_at hl 1 rfl) ?_
      refine lv_iload_n hx hb dX11_line_27 rfl (lv_at hl 2 rfl) ?_
      refine lv_iload_n hx hb dX11_line_28 rfl (lv_at hl 3 rfl) ?_
      refine lv_iload hx hb dX11_line_29 (lv_at hl 4 rfl) ?_
      refine lv_iload hx hb dX11_line_31 (lv_at hl 5 rfl) ?_
      obtain ⟨pl, hc_pl, h⟩ := bd_some h
      refine mcallI (e2 := .inr (2, [.int x1, .long pl])) (va_runI (As := [.int x1, .int x2, .int x3, .int x4, .int x5]) (rest := [.ref q5, .ref (a 0)]) ⟨hx, hb, hml, hown, hts⟩ (kX2_init l D cs q5 _ 0 0 F x1 x2 x3 x4 x5 pl hc_pl) (cwI 5 hts gX11_line_X2_init rfl rfl rfl (hts (.initialized RX2) (by decide +kernel)) (hts (.methodLink RX11 70 yX2_init) (by decide +kernel)) (hts (.instanceMethod yX2_init) (by decide +kernel)) rfl (by decide +kernel) ⟨Nat.le_of_ble_eq_true rfl, Nat.le_of_ble_eq_true rfl⟩) (pQ_s (subP hP) hK (subD hD)) rfl rfl hl.1 rfl (lv_room (Nat.le_of_ble_eq_true rfl)) dX11_line_33 ⟨Nat.le_of_ble_eq_true rfl, Nat.le_of_ble_eq_true rfl⟩) hP hD hS hA (fun H locs hP hD hS => ?_)
      have hP : va_P D vwCl (cW a cs sh (LP ++ [q5]) (va_up Z q5 (2, x1, pl, 0)) σ) H := by rw [← pool_push (2, x1, pl, 0) nq5]; exact hP
      have hD : va_D A (cW a cs sh (LP ++ [q5]) (va_up Z q5 (2, x1, pl, 0)) σ) := by rw [← pool_push (2, x1, pl, 0) nq5]; exact hD
      have hZ2 : shOK sh (LP ++ [q5]) (va_up Z q5 (2, x1, pl, 0)) := shOK_grow hZ nq5
      have fq5 : q5 ∈ LP ++ [q5] ∧ okK ((va_up Z q5 (2, x1, pl, 0)) q5).1 := ⟨List.mem_append_right _ (List.mem_singleton.mpr rfl), by unfold va_up; rw [if_pos rfl]; exact Or.inr (Or.inr (Or.inl rfl))⟩
      obtain ⟨⟨v9, σ9⟩, hc9, h⟩ := bd_some h
      refine mcallQ (wf := (cW a cs (shPut σ sh q5) (LP ++ [q5]) (va_up Z q5 (2, x1, pl, 0)))) (va_runV (As := [.ref q5]) (rest := []) ⟨hx, hb, hml, hown, hts⟩ (kX11_put l D cs a sh (LP ++ [q5]) (va_up Z q5 (2, x1, pl, 0)) hZ2 σ q5 fq5 v9 σ9 hc9 _) (cwV 1 hts gX11_line_X11_put rfl rfl rfl (by decide +kernel) ⟨Nat.le_of_ble_eq_true rfl, Nat.le_of_ble_eq_true rfl⟩) (pQ_v hP hK hD (va_recv hK.1 hP (ci := 10) (q0 := 0) rfl rfl)) rfl rfl hl.1 rfl (lv_room (Nat.le_of_ble_eq_true rfl)) dX11_line_36 ⟨Nat.le_of_ble_eq_true rfl, Nat.le_of_ble_eq_true rfl⟩) hD hS hA (fun H locs hP hD hS => ?_)
      exact mretA1 hx hb hr hlk h nq5 hP hD hS dX11_line_39
    · have h := it_n c4 h
      refine lv_iconst (v := ((-1) : Int32)) hx hb dX11_line_19 (by decide) ?_
      refine W.widen (k := 1) (n := 2) (Nat.le_of_ble_eq_true rfl) (Nat.le_of_ble_eq_true rfl) ?_
      exact mretA0 hx hb hr hlk h hP hD hS dX11_line_20
def fX11_block (F : Nat) (sh : Nat → Option Nat) (Z : ZT) (σ : Nat → Nat → Int32) (x1 : Int32) (x2 : Int32) (x3 : Int32) (x4 : Int32) (x5 : Int32) : Option (Int32 × Option (Int64 × (Nat → Nat → Int32))) :=
  bd (fX11_isSand x1) fun v1 => if v1 = 0 then (some (((-1) : Int32), none)) else (bd (fX11_arePlaces x2 x3 x4 x5) fun v3 => if ¬ v3 = 0 then (bd (fX0_placesOf F x2 x3 x4 x5) fun pl => bd (fX11_put sh Z σ) fun (v9, σ9) => some (v9, some (pl, σ9))) else (some (((-1) : Int32), none)))
abbrev rmX11_block : Room := { frames := 3, cells := 1, slots := 2, locals := 73 }
theorem inX0_X11_block : ∀ w ∈ wsX00, w ∈ wsX11_block := by intro w h; simp only [wsX11_block, List.mem_cons, List.mem_append]; simp only [h, true_or, or_true]
set_option maxHeartbeats 4000000 in
set_option maxRecDepth 100000 in
theorem kX11_block (l : Launch) (D : va_G) (cs : Nat → ClassId) (a : Nat → Nat) (sh : Nat → Option Nat) (LP : List Nat) (Z : ZT) (hZ : shOK sh LP Z) (σ : Nat → Nat → Int32) (F : Nat) (x1 : Int32) (x2 : Int32) (x3 : Int32) (x4 : Int32) (x5 : Int32) (r : Int32) (o : Option (Int64 × (Nat → Nat → Int32))) (h : fX11_block F sh Z σ x1 x2 x3 x4 x5 = some (r, o)) (sz : Nat) : Met l yX11_block wsX11_block rmX11_block (va_Pc [.ref (a 0), .int x1, .int x2, .int x3, .int x4, .int x5] (pQ D cs (cW a cs sh LP Z σ) sz)) (va_Qi (aPost σ sh LP Z 0 x1 0 r o) (qB D (cWs a cs) (va_A (cW a cs sh LP Z σ) sz)) (va_A (cW a cs sh LP Z σ) sz)) 1 2 (va_A (cW a cs sh LP Z σ) sz) := by
  refine Met.ofW (cc := cX11_block) (maxL := 6) (ret := (some .int)) (by decide) rfl ?_
  intro p e s m args below meth c s₁ B hml hv
  obtain ⟨rfl, hsz, hP, hK, hD0⟩ := hv
  have C : cxt p s m _ meth c cX11_block 6 RX11 wsX11_block (some .int) := ⟨B.exec, B.bytes, hml, findClass_of_methodNamed B.named, atoms_spec (ws := wsX11_block) B.pre, B.returns, B.notSynchronized⟩
  obtain ⟨hx, hb, -, hown, hts, hr, hlk⟩ := id C
  subst hsz
  have hD := hD0.self (sz := s.heap.size)
  generalize hAe : va_A (cW a cs sh LP Z σ) s.heap.size = A at hD ⊢
  have hA : ∀ q : Nat, s.heap.size ≤ q → A q := fun q h => by rw [← hAe]; exact Or.inr h
  have hS : va_S A s.heap s.heap [] := va_S.rf
  refine entryW [.ref (a 0), .int x1, .int x2, .int x3, .int x4, .int x5] (n := 6) (Nat.le_of_ble_eq_true rfl) (fun ls hl => ?_)
  have hl : lv_has ls 6 [(0, .ref (a 0)), (1, .int x1), (2, .int x2), (3, .int x3), (4, .int x4), (5, .int x5)] := hl
  unfold fX11_block at h
  refine lv_iload_n hx hb dX11_block_0 rfl (lv_at hl 1 rfl) ?_
  obtain ⟨v1, hc_v1, h⟩ := bd_some h
  refine mcallSZ (va_runS (As := [.int x1]) (rest := []) ⟨hx, hb, hml, hown, hts⟩ (kX11_isSand l x1 v1 hc_v1) (va_cwS 1 hts gX11_block_X11_isSand rfl rfl rfl (by decide +kernel) ⟨Nat.le_of_ble_eq_true rfl, Nat.le_of_ble_eq_true rfl⟩) p0_s rfl rfl hl.1 rfl (lv_room (Nat.le_of_ble_eq_true rfl)) dX11_block_1 ⟨Nat.zero_le _, Nat.zero_le _⟩) (fun z_v1 => ?_)
  refine lv_if_eq (tgt := 19) hx hb dX11_block_4 (by decide) (fun c2 => ?_) (fun c2 => ?_)
  · have h := it_t c2 h
    refine lv_iconst (v := ((-1) : Int32)) hx hb dX11_block_19 (by decide) ?_
    refine W.widen (k := 1) (n := 2) (Nat.le_of_ble_eq_true rfl) (Nat.le_of_ble_eq_true rfl) ?_
    exact mretA0 hx hb hr hlk h hP hD hS dX11_block_20
  · have h := it_f c2 h
    refine lv_iload_n hx hb dX11_block_7 rfl (lv_at hl 2 rfl) ?_
    refine lv_iload_n hx hb dX11_block_8 rfl (lv_at hl 3 rfl) ?_
    refine lv_iload hx hb dX11_block_9 (lv_at hl 4 rfl) ?_
    refine lv_iload hx hb dX11_block_11 (lv_at hl 5 rfl) ?_
    obtain ⟨v3, hc_v3, h⟩ := bd_some h
    refine mcallSZ (va_runS (As := [.int x2, .int x3, .int x4, .int x5]) (rest := []) ⟨hx, hb, hml, hown, hts⟩ (kX11_arePlaces l x2 x3 x4 x5 v3 hc_v3) (va_cwS 4 hts gX11_block_X11_arePlaces rfl rfl rfl (by decide +kernel) ⟨Nat.le_of_ble_eq_true rfl, Nat.le_of_ble_eq_true rfl⟩) p0_s rfl rfl hl.1 rfl (lv_room (Nat.le_of_ble_eq_true rfl)) dX11_block_13 ⟨Nat.zero_le _, Nat.zero_le _⟩) (fun z_v3 => ?_)
    refine lv_if_ne (tgt := 21) hx hb dX11_block_16 (by decide) (fun c4 => ?_) (fun c4 => ?_)
    · have h := it_t c4 h
      refine lv_aload_n hx hb dX11_block_21 rfl (lv_at hl 0 rfl) ?_
      refine va_new (ci := 0) (fs := [.int 0, .long 0]) (C := RX0) (T := TX0) (N := 2) hx hb hts inX0_X11_block tyX0 tyX0_ok hown (hts (.classLink RX11 73 RX0) (by decide +kernel)) (hts (.instantiable RX0 2) (by decide +kernel)) (hts (.initialized RX0) (by decide +kernel)) hK.1 hP hD hS hA rfl (fun j hj => by rcases (show j = 0 ∨ j = 1 by omega) with rfl | rfl <;> rfl) (Nat.le_of_ble_eq_true rfl) (Nat.le_of_ble_eq_true rfl) dX11_block_22 (fun q5 H hP hD hS => ?_)
      have nq5 : q5 ∉ LP := va_pl_fresh2 (X := cX a cs sh σ) hD
      refine lv_dup hx hb dX11_block_25 rfl ?_
      refine lv_iload_n hx hb dX11_block_26 rfl (lv_at hl 1 rfl) ?_
      refine lv_iload_n hx hb dX11_block_27 rfl (lv_at hl 2 rfl) ?_
      refine lv_iload_n hx hb dX11_block_28 rfl (lv_at hl 3 rfl) ?_
      refine lv_iload hx hb dX11_block_29 (lv_at hl 4 rfl) ?_
      refine lv_iload hx hb dX11_block_31 (lv_at hl 5 rfl) ?_
      obtain ⟨pl, hc_pl, h⟩ := bd_some h
      refine mcallI (e2 := .inr (0, [.int x1, .long pl])) (va_runI (As := [.int x1, .int x2, .int x3, .int x4, .int x5]) (rest := [.ref q5, .ref (a 0)]) ⟨hx, hb, hml, hown, hts⟩ (kX0_init_0 l D cs q5 _ 0 0 F x1 x2 x3 x4 x5 pl hc_pl) (cwI 5 hts gX11_block_X0_init rfl rfl rfl (hts (.initialized RX0) (by decide +kernel)) (hts (.methodLink RX11 75 yX0_init) (by decide +kernel)) (hts (.instanceMethod yX0_init) (by decide +kernel)) rfl (by decide +kernel) ⟨Nat.le_of_ble_eq_true rfl, Nat.le_of_ble_eq_true rfl⟩) (pQ_s (subP hP) hK (subD hD)) rfl rfl hl.1 rfl (lv_room (Nat.le_of_ble_eq_true rfl)) dX11_block_33 ⟨Nat.le_of_ble_eq_true rfl, Nat.le_of_ble_eq_true rfl⟩) hP hD hS hA (fun H locs hP hD hS => ?_)
      have hP : va_P D vwCl (cW a cs sh (LP ++ [q5]) (va_up Z q5 (0, x1, pl, 0)) σ) H := by rw [← pool_push (0, x1, pl, 0) nq5]; exact hP
      have hD : va_D A (cW a cs sh (LP ++ [q5]) (va_up Z q5 (0, x1, pl, 0)) σ) := by rw [← pool_push (0, x1, pl, 0) nq5]; exact hD
      have hZ2 : shOK sh (LP ++ [q5]) (va_up Z q5 (0, x1, pl, 0)) := shOK_grow hZ nq5
      have fq5 : q5 ∈ LP ++ [q5] ∧ okK ((va_up Z q5 (0, x1, pl, 0)) q5).1 := ⟨List.mem_append_right _ (List.mem_singleton.mpr rfl), by unfold va_up; rw [if_pos rfl]; exact Or.inl rfl⟩
      obtain ⟨⟨v9, σ9⟩, hc9, h⟩ := bd_some h
      refine mcallQ (wf := (cW a cs (shPut σ sh q5) (LP ++ [q5]) (va_up Z q5 (0, x1, pl, 0)))) (va_runV (As := [.ref q5]) (rest := []) ⟨hx, hb, hml, hown, hts⟩ (kX11_put l D cs a sh (LP ++ [q5]) (va_up Z q5 (0, x1, pl, 0)) hZ2 σ q5 fq5 v9 σ9 hc9 _) (cwV 1 hts gX11_block_X11_put rfl rfl rfl (by decide +kernel) ⟨Nat.le_of_ble_eq_true rfl, Nat.le_of_ble_eq_true rfl⟩) (pQ_v hP hK hD (va_recv hK.1 hP (ci := 10) (q0 := 0) rfl rfl)) rfl rfl hl.1 rfl (lv_room (Nat.le_of_ble_eq_true rfl)) dX11_block_36 ⟨Nat.le_of_ble_eq_true rfl, Nat.le_of_ble_eq_true rfl⟩) hD hS hA (fun H locs hP hD hS => ?_)
      exact mretA1 hx hb hr hlk h nq5 hP hD hS dX11_block_39
    · have h := it_n c4 h
      refine lv_iconst (v := ((-1) : Int32)) hx hb dX11_block_19 (by decide) ?_
      refine W.widen (k := 1) (n := 2) (Nat.le_of_ble_eq_true rfl) (Nat.le_of_ble_eq_true rfl) ?_
      exact mretA0 hx hb hr hlk h hP hD hS dX11_block_20
def fX11_sign (F : Nat) (sh : Nat → Option Nat) (Z : ZT) (σ : Nat → Nat → Int32) (x1 : Int32) (x2 : Int32) (x3 : Int32) (x4 : Int32) (x5 : Int32) (x6 : Int32) : Option (Int32 × Option (Int64 × (Nat → Nat → Int32))) :=
  bd (fX11_isSand x1) fun v1 => if v1 = 0 then (some (((-1) : Int32), none)) else (bd (fX11_arePlaces x2 x3 x4 x5) fun v3 => if v3 = 0 then (some (((-1) : Int32), none)) else (bd (fX11_within x6 (0 : Int32) (8 : Int32)) fun v5 => if ¬ v5 = 0 then (bd (fX0_placesOf F x2 x3 x4 x5) fun pl => bd (fX11_put sh Z σ) fun (v9, σ9) => some (v9, some (pl, σ9))) else (some (((-1) : Int32), none))))
abbrev rmX11_sign : Room := { frames := 4, cells := 1, slots := 3, locals := 99 }
theorem inX8_X11_sign : ∀ w ∈ wsX80, w ∈ wsX11_sign := by intro w h; simp only [wsX11_sign, List.mem_cons, List.mem_append]; simp only [h, true_or, or_true]
set_option maxHeartbeats 4000000 in
set_option maxRecDepth 100000 in
theorem kX11_sign (l : Launch) (D : va_G) (cs : Nat → ClassId) (a : Nat → Nat) (sh : Nat → Option Nat) (LP : List Nat) (Z : ZT) (hZ : shOK sh LP Z) (σ : Nat → Nat → Int32) (F : Nat) (x1 : Int32) (x2 : Int32) (x3 : Int32) (x4 : Int32) (x5 : Int32) (x6 : Int32) (r : Int32) (o : Option (Int64 × (Nat → Nat → Int32))) (h : fX11_sign F sh Z σ x1 x2 x3 x4 x5 x6 = some (r, o)) (sz : Nat) : Met l yX11_sign wsX11_sign rmX11_sign (va_Pc [.ref (a 0), .int x1, .int x2, .int x3, .int x4, .int x5, .int x6] (pQ D cs (cW a cs sh LP Z σ) sz)) (va_Qi (aPost σ sh LP Z 7 x1 x6 r o) (qB D (cWs a cs) (va_A (cW a cs sh LP Z σ) sz)) (va_A (cW a cs sh LP Z σ) sz)) 1 3 (va_A (cW a cs sh LP Z σ) sz) := by
  refine Met.ofW (cc := cX11_sign) (maxL := 7) (ret := (some .int)) (by decide) rfl ?_
  intro p e s m args below meth c s₁ B hml hv
  obtain ⟨rfl, hsz, hP, hK, hD0⟩ := hv
  have C : cxt p s m _ meth c cX11_sign 7 RX11 wsX11_sign (some .int) := ⟨B.exec, B.bytes, hml, findClass_of_methodNamed B.named, atoms_spec (ws := wsX11_sign) B.pre, B.returns, B.notSynchronized⟩
  obtain ⟨hx, hb, -, hown, hts, hr, hlk⟩ := id C
  subst hsz
  have hD := hD0.self (sz := s.heap.size)
  generalize hAe : va_A (cW a cs sh LP Z σ) s.heap.size = A at hD ⊢
  have hA : ∀ q : Nat, s.heap.size ≤ q → A q := fun q h => by rw [← hAe]; exact Or.inr h
  have hS : va_S A s.heap s.heap [] := va_S.rf
  refine entryW [.ref (a 0), .int x1, .int x2, .int x3, .int x4, .int x5, .int x6] (n := 7) (Nat.le_of_ble_eq_true rfl) (fun ls hl => ?_)
  have hl : lv_has ls 7 [(0, .ref (a 0)), (1, .int x1), (2, .int x2), (3, .int x3), (4, .int x4), (5, .int x5), (6, .int x6)] := hl
  unfold fX11_sign at h
  refine lv_iload_n hx hb dX11_sign_0 rfl (lv_at hl 1 rfl) ?_
  obtain ⟨v1, hc_v1, h⟩ := bd_some h
  refine mcallSZ (va_runS (As := [.int x1]) (rest := []) ⟨hx, hb, hml, hown, hts⟩ (kX11_isSand l x1 v1 hc_v1) (va_cwS 1 hts gX11_sign_X11_isSand rfl rfl rfl (by decide +kernel) ⟨Nat.le_of_ble_eq_true rfl, Nat.le_of_ble_eq_true rfl⟩) p0_s rfl rfl hl.1 rfl (lv_room (Nat.le_of_ble_eq_true rfl)) dX11_sign_1 ⟨Nat.zero_le _, Nat.zero_le _⟩) (fun z_v1 => ?_)
  refine lv_if_eq (tgt := 30) hx hb dX11_sign_4 (by decide) (fun c2 => ?_) (fun c2 => ?_)
  · have h := it_t c2 h
    refine lv_iconst (v := ((-1) : Int32)) hx hb dX11_sign_30 (by decide) ?_
    refine W.widen (k := 1) (n := 3) (Nat.le_of_ble_eq_true rfl) (Nat.le_of_ble_eq_true rfl) ?_
    exact mretA0 hx hb hr hlk h hP hD hS dX11_sign_31
  · have h := it_f c2 h
    refine lv_iload_n hx hb dX11_sign_7 rfl (lv_at hl 2 rfl) ?_
    refine lv_iload_n hx hb dX11_sign_8 rfl (lv_at hl 3 rfl) ?_
    refine lv_iload hx hb dX11_sign_9 (lv_at hl 4 rfl) ?_
    refine lv_iload hx hb dX11_sign_11 (lv_at hl 5 rfl) ?_
    obtain ⟨v3, hc_v3, h⟩ := bd_some h
    refine mcallSZ (va_runS (As := [.int x2, .int x3, .int x4, .int x5]) (rest := []) ⟨hx, hb, hml, hown, hts⟩ (kX11_arePlaces l x2 x3 x4 x5 v3 hc_v3) (va_cwS 4 hts gX11_sign_X11_arePlaces rfl rfl rfl (by decide +kernel) ⟨Nat.le_of_ble_eq_true rfl, Nat.le_of_ble_eq_true rfl⟩) p0_s rfl rfl hl.1 rfl (lv_room (Nat.le_of_ble_eq_true rfl)) dX11_sign_13 ⟨Nat.zero_le _, Nat.zero_le _⟩) (fun z_v3 => ?_)
    refine lv_if_eq (tgt := 30) hx hb dX11_sign_16 (by decide) (fun c4 => ?_) (fun c4 => ?_)
    · have h := it_t c4 h
      refine lv_iconst (v := ((-1) : Int32)) hx hb dX11_sign_30 (by decide) ?_
      refine W.widen (k := 1) (n := 3) (Nat.le_of_ble_eq_true rfl) (Nat.le_of_ble_eq_true rfl) ?_
      exact mretA0 hx hb hr hlk h hP hD hS dX11_sign_31
    · have h := it_f c4 h
      refine lv_iload hx hb dX11_sign_19 (lv_at hl 6 rfl) ?_
      refine lv_iconst (v := (0 : Int32)) hx hb dX11_sign_21 (by decide) ?_
      refine lv_bipush (v := (8 : Int32)) hx hb dX11_sign_22 (by decide) ?_
      obtain ⟨v5, hc_v5, h⟩ := bd_some h
      refine mcallSZ (va_runS (As := [.int x6, .int (0 : Int32), .int (8 : Int32)]) (rest := []) ⟨hx, hb, hml, hown, hts⟩ (kX11_within l x6 (0 : Int32) (8 : Int32) v5 hc_v5) (va_cwS 3 hts gX11_sign_X11_within rfl rfl rfl (by decide +kernel) ⟨Nat.le_of_ble_eq_true rfl, Nat.le_of_ble_eq_true rfl⟩) p0_s rfl rfl hl.1 rfl (lv_room (Nat.le_of_ble_eq_true rfl)) dX11_sign_24 ⟨Nat.zero_le _, Nat.zero_le _⟩) (fun z_v5 => ?_)
      refine lv_if_ne (tgt := 32) hx hb dX11_sign_27 (by decide) (fun c6 => ?_) (fun c6 => ?_)
      · have h := it_t c6 h
        refine lv_aload_n hx hb dX11_sign_32 rfl (lv_at hl 0 rfl) ?_
        refine va_new (ci := 7) (fs := [.int 0, .long 0, .int 0]) (C := RX8) (T := TX8) (N := 3) hx hb hts inX8_X11_sign tyX8 tyX8_ok hown (hts (.classLink RX11 76 RX8) (by decide +kernel)) (hts (.instantiable RX8 3) (by decide +kernel)) (hts (.initialized RX8) (by decide +kernel)) hK.1 hP hD hS hA rfl (fun j hj => by rcases (show j = 0 ∨ j = 1 ∨ j = 2 by omega) with rfl | rfl | rfl <;> rfl) (Nat.le_of_ble_eq_true rfl) (Nat.le_of_ble_eq_true rfl) dX11_sign_33 (fun q5 H hP hD hS => ?_)
        have nq5 : q5 ∉ LP := va_pl_fresh2 (X := cX a cs sh σ) hD
        refine lv_dup hx hb dX11_sign_36 rfl ?_
        refine lv_iload_n hx hb dX11_sign_37 rfl (lv_at hl 1 rfl) ?_
        refine lv_iload_n hx hb dX11_sign_38 rfl (lv_at hl 2 rfl) ?_
        refine lv_iload_n hx hb dX11_sign_39 rfl (lv_at hl 3 rfl) ?_
        refine lv_iload hx hb dX11_sign_40 (lv_at hl 4 rfl) ?_
        refine lv_iload hx hb dX11_sign_42 (lv_at hl 5 rfl) ?_
        refine lv_iload hx hb dX11_sign_44 (lv_at hl 6 rfl) ?_
        obtain ⟨pl, hc_pl, h⟩ := bd_some h
        refine mcallI (e2 := .inr (7, [.int x1, .long pl, .int x6])) (va_runI (As := [.int x1, .int x2, .int x3, .int x4, .int x5, .int x6]) (rest := [.ref q5, .ref (a 0)]) ⟨hx, hb, hml, hown, hts⟩ (kX8_init l D cs q5 _ 0 0 0 F x1 x2 x3 x4 x5 x6 pl hc_pl) (cwI 6 hts gX11_sign_X8_init rfl rfl rfl (hts (.initialized RX8) (by decide +kernel)) (hts (.methodLink RX11 78 yX8_init) (by decide +kernel)) (hts (.instanceMethod yX8_init) (by decide +kernel)) rfl (by decide +kernel) ⟨Nat.le_of_ble_eq_true rfl, Nat.le_of_ble_eq_true rfl⟩) (pQ_s (subP hP) hK (subD hD)) rfl rfl hl.1 rfl (lv_room (Nat.le_of_ble_eq_true rfl)) dX11_sign_46 ⟨Nat.le_of_ble_eq_true rfl, Nat.le_of_ble_eq_true rfl⟩) hP hD hS hA (fun H locs hP hD hS => ?_)
        have hP : va_P D vwCl (cW a cs sh (LP ++ [q5]) (va_up Z q5 (7, x1, pl, x6)) σ) H := by rw [← pool_push (7, x1, pl, x6) nq5]; exact hP
        have hD : va_D A (cW a cs sh (LP ++ [q5]) (va_up Z q5 (7, x1, pl, x6)) σ) := by rw [← pool_push (7, x1, pl, x6) nq5]; exact hD
        have hZ2 : shOK sh (LP ++ [q5]) (va_up Z q5 (7, x1, pl, x6)) := shOK_grow hZ nq5
        have fq5 : q5 ∈ LP ++ [q5] ∧ okK ((va_up Z q5 (7, x1, pl, x6)) q5).1 := ⟨List.mem_append_right _ (List.mem_singleton.mpr rfl), by unfold va_up; rw [if_pos rfl]; exact okK_7 rfl⟩
        obtain ⟨⟨v9, σ9⟩, hc9, h⟩ := bd_some h
        refine mcallQ (wf := (cW a cs (shPut σ sh q5) (LP ++ [q5]) (va_up Z q5 (7, x1, pl, x6)))) (va_runV (As := [.ref q5]) (rest := []) ⟨hx, hb, hml, hown, hts⟩ (kX11_put l D cs a sh (LP ++ [q5]) (va_up Z q5 (7, x1, pl, x6)) hZ2 σ q5 fq5 v9 σ9 hc9 _) (cwV 1 hts gX11_sign_X11_put rfl rfl rfl (by decide +kernel) ⟨Nat.le_of_ble_eq_true rfl, Nat.le_of_ble_eq_true rfl⟩) (pQ_v hP hK hD (va_recv hK.1 hP (ci := 10) (q0 := 0) rfl rfl)) rfl rfl hl.1 rfl (lv_room (Nat.le_of_ble_eq_true rfl)) dX11_sign_49 ⟨Nat.le_of_ble_eq_true rfl, Nat.le_of_ble_eq_true rfl⟩) hD hS hA (fun H locs hP hD hS => ?_)
        exact mretA1 hx hb hr hlk h nq5 hP hD hS dX11_sign_52
      · have h := it_n c6 h
        refine lv_iconst (v := ((-1) : Int32)) hx hb dX11_sign_30 (by decide) ?_
        refine W.widen (k := 1) (n := 3) (Nat.le_of_ble_eq_true rfl) (Nat.le_of_ble_eq_true rfl) ?_
        exact mretA0 hx hb hr hlk h hP hD hS dX11_sign_31
