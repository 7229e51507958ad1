def fX10_greatestDay_J49 (F : Nat) (sh : Nat → Option Nat) (Z : ZT) (kb : Int32 → Option Int32) (x1 : Int32) (x2 : Int32) (x3 : Int32) (σ : Nat → Nat → Int32) : Option Int32 :=
  nm ((x3 - (1 : Int32)) &&& x2) fun z5 => kb z5
def fX10_greatestDay_L11 (F : Nat) (sh : Nat → Option Nat) (Z : ZT) (σ : Nat → Nat → Int32) (x1 : Int32) (x2 : Int32) (kx : Option Int32) : Nat → Int32 → Option Int32
  | 0, _ => none
  | n+1, x3 =>
    nb ((fun x3 => fX10_greatestDay_L11 F sh Z σ x1 x2 kx n x3)) fun kb =>
    if x3 ≤ 0 then kx else (aI (σ 10) 1024 x3 fun v3 => if (σ 34 0) < v3 then (fX10_greatestDay_J49 F sh Z kb x1 x2 x3 σ) else (aI (σ 11) 1024 (x1 ||| x3) fun v5 => aI (σ 11) 1024 x1 fun v6 => if ¬ v5 = (v6 - (1 : Int32)) then (fX10_greatestDay_J49 F sh Z kb x1 x2 x3 σ) else (some x3)))
def fX10_greatestDay (F : Nat) (sh : Nat → Option Nat) (Z : ZT) (σ : Nat → Nat → Int32) (x1 : Int32) : Option Int32 :=
  nm ((σ 36 0) &&& (x1 ^^^ ((-1) : Int32))) fun z1 => fX10_greatestDay_L11 F sh Z σ x1 z1 (some (0 : Int32)) F z1
abbrev rmX10_greatestDay : Room := { frames := 0, cells := 0, slots := 0, locals := 0 }
theorem inX10_X10_greatestDay : ∀ w ∈ wsX100, w ∈ wsX10_greatestDay := by intro w h; simp only [wsX10_greatestDay, List.mem_cons, List.mem_append]; simp only [h, true_or, or_true]
set_option maxHeartbeats 4000000 in
set_option maxRecDepth 100000 in
theorem wX10_greatestDay_J49 {p : Program} {l : Launch} {e : Env} {s : State} {m : MethodId} {args : Array Value} {below : List Frame} {meth : Method} {c : Code} (C : cxt p s m args meth c cX10_greatestDay 4 RX10 wsX10_greatestDay (some .int)) {D : va_G} {cs : Nat → ClassId} {a : Nat → Nat} {sh : Nat → Option Nat} {LP : List Nat} {Z : ZT} (hZ : shOK sh LP Z) (hK : KK D cs s) {σ : Nat → Nat → Int32} (hP : va_P D vwCl (cW a cs sh LP Z σ) s.heap) (r : Int32) (F : Nat) (kb : Int32 → Option Int32) (x1 : Int32) (x2 : Int32) (x3 : Int32) (hkb : ∀ (x3 : Int32) (ls : Array Slot), lv_has ls 4 [(0, .ref (a 4)), (1, .int x1), (2, .int x2), (3, .int x3)] → kb x3 = some r → W p l e rmX10_greatestDay s m args below meth c s.heap [] 0 0 (MQ below (vp_Si (fun x => x = r)) args s 0 0 (fun _ => False)) (F0 m 11 ls [])) (ls : Array Slot) (hl : lv_has ls 4 [(0, .ref (a 4)), (1, .int x1), (2, .int x2), (3, .int x3)]) (h : fX10_greatestDay_J49 F sh Z kb x1 x2 x3 σ = some r) : W p l e rmX10_greatestDay s m args below meth c s.heap [] 0 0 (MQ below (vp_Si (fun x => x = r)) args s 0 0 (fun _ => False)) (F0 m 49 ls []) := by
  obtain ⟨hx, hb, hml, hown, hts, hr, hlk⟩ := id C
  unfold fX10_greatestDay_J49 at h
  refine lv_iload_n hx hb dX10_greatestDay_49 rfl (lv_at hl 3 rfl) ?_
  refine lv_iconst (v := (1 : Int32)) hx hb dX10_greatestDay_50 (by decide) ?_
  refine lv_isub hx hb dX10_greatestDay_51 ?_
  refine lv_iload_n hx hb dX10_greatestDay_52 rfl (lv_at hl 2 rfl) ?_
  refine lv_iand hx hb dX10_greatestDay_53 ?_
  obtain ⟨z5, e_z5, h⟩ := nm_some h
  refine tpi e_z5 ?_
  refine lv_istore_n (lv' := [(3, .int z5), (0, .ref (a 4)), (1, .int x1), (2, .int x2)]) hx hb dX10_greatestDay_54 rfl hl (by decide) rfl (fun ls hl => ?_)
  refine lv_goto (tgt := 11) hx hb dX10_greatestDay_55 (by decide) ?_
  exact hkb z5 ls (lv_sub hl [1, 2, 3, 0] rfl) h
set_option maxHeartbeats 4000000 in
set_option maxRecDepth 100000 in
theorem wX10_greatestDay_L11 {p : Program} {l : Launch} {e : Env} {s : State} {m : MethodId} {args : Array Value} {below : List Frame} {meth : Method} {c : Code} (C : cxt p s m args meth c cX10_greatestDay 4 RX10 wsX10_greatestDay (some .int)) {D : va_G} {cs : Nat → ClassId} {a : Nat → Nat} {sh : Nat → Option Nat} {LP : List Nat} {Z : ZT} (hZ : shOK sh LP Z) (hK : KK D cs s) {σ : Nat → Nat → Int32} (hP : va_P D vwCl (cW a cs sh LP Z σ) s.heap) (r : Int32) (F : Nat) (x1 : Int32) (x2 : Int32) (kx : Option Int32) (hkx : ∀ (ls : Array Slot), lv_has ls 4 [] → kx = some r → W p l e rmX10_greatestDay s m args below meth c s.heap [] 0 0 (MQ below (vp_Si (fun x => x = r)) args s 0 0 (fun _ => False)) (F0 m 58 ls [])) : ∀ (n : Nat) (x3 : Int32) (ls : Array Slot), lv_has ls 4 [(0, .ref (a 4)), (1, .int x1), (2, .int x2), (3, .int x3)] → fX10_greatestDay_L11 F sh Z σ x1 x2 kx n x3 = some r → W p l e rmX10_greatestDay s m args below meth c s.heap [] 0 0 (MQ below (vp_Si (fun x => x = r)) args s 0 0 (fun _ => False)) (F0 m 11 ls []) := by
  obtain ⟨hx, hb, hml, hown, hts, hr, hlk⟩ := id C
  intro n
  induction n with
  | zero =>
    intros
    rename_i h
    cases h
  | succ n ih =>
    intro x3 ls hl h
    rw [fX10_greatestDay_L11] at h
    obtain ⟨kb, hkb, h⟩ := nb_some (P := fun (kb : Int32 → Option Int32) => ∀ (x3 : Int32) (ls : Array Slot), lv_has ls 4 [(0, .ref (a 4)), (1, .int x1), (2, .int x2), (3, .int x3)] → kb x3 = some r → W p l e rmX10_greatestDay s m args below meth c s.heap [] 0 0 (MQ below (vp_Si (fun x => x = r)) args s 0 0 (fun _ => False)) (F0 m 11 ls [])) h ih
    refine lv_iload_n hx hb dX10_greatestDay_11 rfl (lv_at hl 3 rfl) ?_
    refine lv_if_le (tgt := 58) hx hb dX10_greatestDay_12 (by decide) (fun c2 => ?_) (fun c2 => ?_)
    · have h := it_t c2 h
      exact hkx  ls (lv_sub hl [] rfl) h
    · have h := it_f c2 h
      refine lv_aload_n hx hb dX10_greatestDay_15 rfl (lv_at hl 0 rfl) ?_
      refine va_get (D := D) (ci := 9) (v := .ref (a 10)) (C := RX10) (T := TX10) (N := 14) hx hb hts inX10_X10_greatestDay hown hK.1 hP 4 rfl rfl 10 (by decide) (hts (.fieldLink RX10 31 "SandPalace$Work" "load" "[I") (by decide +kernel)) (fun _ h9 => h9) rfl dX10_greatestDay_16 ?_
      refine lv_iload_n hx hb dX10_greatestDay_19 rfl (lv_at hl 3 rfl) ?_
      obtain ⟨v3, i_v3, e_v3, h⟩ := aI_some h
      refine miald hx hb hK.1 hP 10 0 rfl rfl i_v3 e_v3 dX10_greatestDay_20 ?_
      refine lv_aload_n hx hb dX10_greatestDay_21 rfl (lv_at hl 0 rfl) ?_
      refine va_get (D := D) (ci := 9) (v := .int (σ 34 0)) (C := RX10) (T := TX10) (N := 14) hx hb hts inX10_X10_greatestDay hown hK.1 hP 4 rfl rfl 0 (by decide) (hts (.fieldLink RX10 9 "SandPalace$Work" "sandOfDay" "I") (by decide +kernel)) (fun _ h9 => h9) rfl dX10_greatestDay_22 ?_
      refine lv_icmp_gt (tgt := 49) hx hb dX10_greatestDay_25 (by decide) (fun c4 => ?_) (fun c4 => ?_)
      · have h := it_t c4 h
        exact wX10_greatestDay_J49 C hZ hK hP r F kb x1 x2 x3 hkb ls (lv_sub hl [0, 1, 2, 3] rfl) h
      · have h := it_f c4 h
        refine lv_aload_n hx hb dX10_greatestDay_28 rfl (lv_at hl 0 rfl) ?_
        refine va_get (D := D) (ci := 9) (v := .ref (a 11)) (C := RX10) (T := TX10) (N := 14) hx hb hts inX10_X10_greatestDay hown hK.1 hP 4 rfl rfl 11 (by decide) (hts (.fieldLink RX10 34 "SandPalace$Work" "fewest" "[I") (by decide +kernel)) (fun _ h9 => h9) rfl dX10_greatestDay_29 ?_
        refine lv_iload_n hx hb dX10_greatestDay_32 rfl (lv_at hl 1 rfl) ?_
        refine lv_iload_n hx hb dX10_greatestDay_33 rfl (lv_at hl 3 rfl) ?_
        refine lv_ior hx hb dX10_greatestDay_34 ?_
        obtain ⟨v5, i_v5, e_v5, h⟩ := aI_some h
        refine miald hx hb hK.1 hP 11 0 rfl rfl i_v5 e_v5 dX10_greatestDay_35 ?_
        refine lv_aload_n hx hb dX10_greatestDay_36 rfl (lv_at hl 0 rfl) ?_
        refine va_get (D := D) (ci := 9) (v := .ref (a 11)) (C := RX10) (T := TX10) (N := 14) hx hb hts inX10_X10_greatestDay hown hK.1 hP 4 rfl rfl 11 (by decide) (hts (.fieldLink RX10 34 "SandPalace$Work" "fewest" "[I") (by decide +kernel)) (fun _ h9 => h9) rfl dX10_greatestDay_37 ?_
        refine lv_iload_n hx hb dX10_greatestDay_40 rfl (lv_at hl 1 rfl) ?_
        obtain ⟨v6, i_v6, e_v6, h⟩ := aI_some h
        refine miald hx hb hK.1 hP 11 0 rfl rfl i_v6 e_v6 dX10_greatestDay_41 ?_
        refine lv_iconst (v := (1 : Int32)) hx hb dX10_greatestDay_42 (by decide) ?_
        refine lv_isub hx hb dX10_greatestDay_43 ?_
        refine lv_icmp_ne (tgt := 49) hx hb dX10_greatestDay_44 (by decide) (fun c7 => ?_) (fun c7 => ?_)
        · have h := it_t c7 h
          exact wX10_greatestDay_J49 C hZ hK hP r F kb x1 x2 x3 hkb ls (lv_sub hl [0, 1, 2, 3] rfl) h
        · have h := it_n c7 h
          refine lv_iload_n hx hb dX10_greatestDay_47 rfl (lv_at hl 3 rfl) ?_
          exact mretS hx hb hr hlk h dX10_greatestDay_48
set_option maxHeartbeats 4000000 in
set_option maxRecDepth 100000 in
theorem kX10_greatestDay (l : Launch) (D : va_G) (cs : Nat → ClassId) (a : Nat → Nat) (sh : Nat → Option Nat) (LP : List Nat) (Z : ZT) (hZ : shOK sh LP Z) (σ : Nat → Nat → Int32) (F : Nat) (x1 : Int32) (r : Int32) (h : fX10_greatestDay F sh Z σ x1 = some r) : Met l yX10_greatestDay wsX10_greatestDay rmX10_greatestDay (va_Pc [.ref (a 4), .int x1] (pR D cs (cW a cs sh LP Z σ))) (vp_Si (fun x => x = r)) 0 0 (fun _ => False) := by
  refine Met.ofW (cc := cX10_greatestDay) (maxL := 4) (ret := (some .int)) (by decide) rfl ?_
  intro p e s m args below meth c s₁ B hml hv
  obtain ⟨rfl, hP, hK⟩ := hv
  have C : cxt p s m _ meth c cX10_greatestDay 4 RX10 wsX10_greatestDay (some .int) := ⟨B.exec, B.bytes, hml, findClass_of_methodNamed B.named, atoms_spec (ws := wsX10_greatestDay) B.pre, B.returns, B.notSynchronized⟩
  obtain ⟨hx, hb, -, hown, hts, hr, hlk⟩ := id C
  refine entryW [.ref (a 4), .int x1] (n := 4) (Nat.le_of_ble_eq_true rfl) (fun ls hl => ?_)
  have hl : lv_has ls 4 [(0, .ref (a 4)), (1, .int x1)] := hl
  unfold fX10_greatestDay at h
  refine lv_aload_n hx hb dX10_greatestDay_0 rfl (lv_at hl 0 rfl) ?_
  refine va_get (D := D) (ci := 9) (v := .int (σ 36 0)) (C := RX10) (T := TX10) (N := 14) hx hb hts inX10_X10_greatestDay hown hK.1 hP 4 rfl rfl 2 (by decide) (hts (.fieldLink RX10 70 "SandPalace$Work" "all" "I") (by decide +kernel)) (fun _ h9 => h9) rfl dX10_greatestDay_1 ?_
  refine lv_iload_n hx hb dX10_greatestDay_4 rfl (lv_at hl 1 rfl) ?_
  refine lv_iconst (v := ((-1) : Int32)) hx hb dX10_greatestDay_5 (by decide) ?_
  refine lv_ixor hx hb dX10_greatestDay_6 ?_
  refine lv_iand hx hb dX10_greatestDay_7 ?_
  obtain ⟨z1, e_z1, h⟩ := nm_some h
  refine tpi e_z1 ?_
  refine lv_istore_n (lv' := [(2, .int z1), (0, .ref (a 4)), (1, .int x1)]) hx hb dX10_greatestDay_8 rfl hl (by decide) rfl (fun ls hl => ?_)
  refine lv_iload_n hx hb dX10_greatestDay_9 rfl (lv_at hl 0 rfl) ?_
  refine lv_istore_n (lv' := [(3, .int z1), (2, .int z1), (0, .ref (a 4)), (1, .int x1)]) hx hb dX10_greatestDay_10 rfl hl (by decide) rfl (fun ls hl => ?_)
  refine wX10_greatestDay_L11 C hZ hK hP r F x1 z1 _ ?_ F z1 ls (lv_sub hl [2, 3, 1, 0] rfl) h
  intro  ls hl h
  refine lv_iconst (v := (0 : Int32)) hx hb dX10_greatestDay_58 (by decide) ?_
  exact mretS hx hb hr hlk h dX10_greatestDay_59
def fX10_chooseDays_L4 (F : Nat) (sh : Nat → Option Nat) (Z : ZT) (kx : (Nat → Nat → Int32) → Option ((Nat → Nat → Int32))) : Nat → Int32 → Int32 → (Nat → Nat → Int32) → Option ((Nat → Nat → Int32))
  | 0, _, _, _ => none
  | n+1, x1, x2, σ =>
    nb ((fun x1 x2 σ => fX10_chooseDays_L4 F sh Z kx n x1 x2 σ)) fun kb =>
    if (σ 37 0) ≤ x2 then (kx σ) else (if (10 : Int32) ≤ x2 then (kx σ) else (bd (fX10_greatestDay F sh Z σ x1) fun v3 => aS 10 x2 (nm (sg σ 12 (upd (σ 12) x2.toNatClampNeg v3)) fun σ5 => aI (σ5 12) 10 x2 fun v6 => kb (x1 ||| v6) (x2 + (1 : Int32)) σ5)))
def fX10_chooseDays (F : Nat) (sh : Nat → Option Nat) (Z : ZT) (σ : Nat → Nat → Int32)  : Option ((Nat → Nat → Int32)) :=
  fX10_chooseDays_L4 F sh Z (fun σ1 => some σ1) F (0 : Int32) (0 : Int32) σ
abbrev rmX10_chooseDays : Room := { frames := 1, cells := 0, slots := 0, locals := 23 }
theorem inX10_X10_chooseDays : ∀ w ∈ wsX100, w ∈ wsX10_chooseDays := by intro w h; simp only [wsX10_chooseDays, List.mem_cons, List.mem_append]; simp only [h, true_or, or_true]
set_option maxHeartbeats 4000000 in
set_option maxRecDepth 100000 in
theorem wX10_chooseDays_L4 {p : Program} {l : Launch} {e : Env} {s : State} {m : MethodId} {args : Array Value} {below : List Frame} {meth : Method} {c : Code} (C : cxt p s m args meth c cX10_chooseDays 3 RX10 wsX10_chooseDays none) {D : va_G} {cs : Nat → ClassId} {a : Nat → Nat} {sh : Nat → Option Nat} {LP : List Nat} {Z : ZT} (hZ : shOK sh LP Z) (hK : KK D cs s) {A : Nat → Prop} (hA : ∀ q, s.heap.size ≤ q → A q) (u9 : Nat → Nat → Int32) (F : Nat) (kx : (Nat → Nat → Int32) → Option ((Nat → Nat → Int32))) (hkx : ∀ (σ : Nat → Nat → Int32) (H : Heap) (locs : List Loc) (ls : Array Slot), va_P D vwCl (cW a cs sh LP Z σ) H → va_D A (cW a cs sh LP Z σ) → va_S A s.heap H locs → lv_has ls 3 [] → kx σ = some u9 → W p l e rmX10_chooseDays s m args below meth c H locs 0 0 (MQ below (va_Qv (fun y => y = u9) (qB D (cW a cs sh LP Z) A) A) args s 0 0 A) (F0 m 44 ls [])) : ∀ (n : Nat) (x1 : Int32) (x2 : Int32) (σ : Nat → Nat → Int32) (H : Heap) (locs : List Loc) (ls : Array Slot), va_P D vwCl (cW a cs sh LP Z σ) H → va_D A (cW a cs sh LP Z σ) → va_S A s.heap H locs → lv_has ls 3 [(0, .ref (a 4)), (1, .int x1), (2, .int x2)] → fX10_chooseDays_L4 F sh Z kx n x1 x2 σ = some u9 → W p l e rmX10_chooseDays s m args below meth c H locs 0 0 (MQ below (va_Qv (fun y => y = u9) (qB D (cW a cs sh LP Z) A) A) args s 0 0 A) (F0 m 4 ls []) := by
  obtain ⟨hx, hb, hml, hown, hts, hr, hlk⟩ := id C
  intro n
  induction n with
  | zero =>
    intros
    rename_i h
    cases h
  | succ n ih =>
    intro x1 x2 σ H locs ls hP hD hS hl h
    rw [fX10_chooseDays_L4] at h
    obtain ⟨kb, hkb, h⟩ := nb_some (P := fun (kb : Int32 → Int32 → (Nat → Nat → Int32) → Option ((Nat → Nat → Int32))) => ∀ (x1 : Int32) (x2 : Int32) (σ : Nat → Nat → Int32) (H : Heap) (locs : List Loc) (ls : Array Slot), va_P D vwCl (cW a cs sh LP Z σ) H → va_D A (cW a cs sh LP Z σ) → va_S A s.heap H locs → lv_has ls 3 [(0, .ref (a 4)), (1, .int x1), (2, .int x2)] → kb x1 x2 σ = some u9 → W p l e rmX10_chooseDays s m args below meth c H locs 0 0 (MQ below (va_Qv (fun y => y = u9) (qB D (cW a cs sh LP Z) A) A) args s 0 0 A) (F0 m 4 ls [])) h ih
    refine lv_iload_n hx hb dX10_chooseDays_4 rfl (lv_at hl 2 rfl) ?_
    refine lv_aload_n hx hb dX10_chooseDays_5 rfl (lv_at hl 0 rfl) ?_
    refine va_get (D := D) (ci := 9) (v := .int (σ 37 0)) (C := RX10) (T := TX10) (N := 14) hx hb hts inX10_X10_chooseDays hown hK.1 hP 4 rfl rfl 3 (by decide) (hts (.fieldLink RX10 47 "SandPalace$Work" "days" "I") (by decide +kernel)) (fun _ h9 => h9) rfl dX10_chooseDays_6 ?_
    refine lv_icmp_ge (tgt := 44) hx hb dX10_chooseDays_9 (by decide) (fun c1 => ?_) (fun c1 => ?_)
    · have h := it_t c1 h
      exact hkx σ _ _ ls hP hD hS (lv_sub hl [] rfl) h
    · have h := it_f c1 h
      refine lv_iload_n hx hb dX10_chooseDays_12 rfl (lv_at hl 2 rfl) ?_
      refine lv_bipush (v := (10 : Int32)) hx hb dX10_chooseDays_13 (by decide) ?_
      refine lv_icmp_ge (tgt := 44) hx hb dX10_chooseDays_15 (by decide) (fun c2 => ?_) (fun c2 => ?_)
      · have h := it_t c2 h
        exact hkx σ _ _ ls hP hD hS (lv_sub hl [] rfl) h
      · have h := it_f c2 h
        refine lv_aload_n hx hb dX10_chooseDays_18 rfl (lv_at hl 0 rfl) ?_
        refine va_get (D := D) (ci := 9) (v := .ref (a 12)) (C := RX10) (T := TX10) (N := 14) hx hb hts inX10_X10_chooseDays hown hK.1 hP 4 rfl rfl 12 (by decide) (hts (.fieldLink RX10 37 "SandPalace$Work" "dayShapes" "[I") (by decide +kernel)) (fun _ h9 => h9) rfl dX10_chooseDays_19 ?_
        refine lv_iload_n hx hb dX10_chooseDays_22 rfl (lv_at hl 2 rfl) ?_
        refine lv_aload_n hx hb dX10_chooseDays_23 rfl (lv_at hl 0 rfl) ?_
        refine lv_iload_n hx hb dX10_chooseDays_24 rfl (lv_at hl 1 rfl) ?_
        obtain ⟨v3, hc_v3, h⟩ := bd_some h
        refine mcallS (va_runV (As := [.int x1]) (rest := [.int x2, .ref (a 12)]) ⟨hx, hb, hml, hown, hts⟩ (kX10_greatestDay l D cs a sh LP Z hZ σ F x1 v3 hc_v3) (cwV 1 hts gX10_chooseDays_X10_greatestDay rfl rfl rfl (by decide +kernel) ⟨Nat.le_of_ble_eq_true rfl, Nat.le_of_ble_eq_true rfl⟩) (pR_v hP hK (va_recv hK.1 hP (ci := 9) (q0 := 4) rfl rfl)) rfl rfl hl.1 rfl (lv_room (Nat.le_of_ble_eq_true rfl)) dX10_chooseDays_25 ⟨Nat.zero_le _, Nat.zero_le _⟩) ?_
        obtain ⟨i4, h⟩ := aS_some h
        refine va_iast hx hb hK.1 hP hD hS 12 0 rfl rfl i4 dX10_chooseDays_28 (fun H locs hP hD hS => ?_)
        obtain ⟨σ5, e_σ5, h⟩ := nm_some h
        have hP : va_P D vwCl (cW a cs sh LP Z σ5) H := by rw [← e_σ5]; exact hP
        have hD : va_D A (cW a cs sh LP Z σ5) := by rw [← e_σ5]; exact hD
        refine lv_iload_n hx hb dX10_chooseDays_29 rfl (lv_at hl 1 rfl) ?_
        refine lv_aload_n hx hb dX10_chooseDays_30 rfl (lv_at hl 0 rfl) ?_
        refine va_get (D := D) (ci := 9) (v := .ref (a 12)) (C := RX10) (T := TX10) (N := 14) hx hb hts inX10_X10_chooseDays hown hK.1 hP 4 rfl rfl 12 (by decide) (hts (.fieldLink RX10 37 "SandPalace$Work" "dayShapes" "[I") (by decide +kernel)) (fun _ h9 => h9) rfl dX10_chooseDays_31 ?_
        refine lv_iload_n hx hb dX10_chooseDays_34 rfl (lv_at hl 2 rfl) ?_
        obtain ⟨v6, i_v6, e_v6, h⟩ := aI_some h
        refine miald hx hb hK.1 hP 12 0 rfl rfl i_v6 e_v6 dX10_chooseDays_35 ?_
        refine lv_ior hx hb dX10_chooseDays_36 ?_
        refine lv_istore_n (lv' := [(1, .int (x1 ||| v6)), (0, .ref (a 4)), (2, .int x2)]) hx hb dX10_chooseDays_37 rfl hl (by decide) rfl (fun ls hl => ?_)
        refine lv_iinc (v := x2 + (1 : Int32)) (lv' := [(2, .int (x2 + (1 : Int32))), (1, .int (x1 ||| v6)), (0, .ref (a 4))]) hx hb dX10_chooseDays_38 hl (k := 2) rfl rfl (by decide) rfl (fun ls hl => ?_)
        refine lv_goto (tgt := 4) hx hb dX10_chooseDays_41 (by decide) ?_
        exact hkb (x1 ||| v6) (x2 + (1 : Int32)) σ5 _ _ ls hP hD hS (lv_sub hl [2, 1, 0] rfl) h
set_option maxHeartbeats 4000000 in
set_option maxRecDepth 100000 in
theorem kX10_chooseDays (l : Launch) (D : va_G) (cs : Nat → ClassId) (a : Nat → Nat) (sh : Nat → Option Nat) (LP : List Nat) (Z : ZT) (hZ : shOK sh LP Z) (σ : Nat → Nat → Int32) (F : Nat)  (u9 : Nat → Nat → Int32) (h : fX10_chooseDays F sh Z σ = some u9) (sz : Nat) : Met l yX10_chooseDays wsX10_chooseDays rmX10_chooseDays (va_Pc [.ref (a 4)] (pQ D cs (cW a cs sh LP Z σ) sz)) (va_Qv (fun y => y = u9) (qB D (cW a cs sh LP Z) (va_A (cW a cs sh LP Z σ) sz)) (va_A (cW a cs sh LP Z σ) sz)) 0 0 (va_A (cW a cs sh LP Z σ) sz) := by
  refine Met.ofW (cc := cX10_chooseDays) (maxL := 3) (ret := none) (by decide) rfl ?_
  intro p e s m args below meth c s₁ B hml hv
  obtain ⟨rfl, hsz, hP, hK, hD0⟩ := hv
  have C : cxt p s m _ meth c cX10_chooseDays 3 RX10 wsX10_chooseDays none := ⟨B.exec, B.bytes, hml, findClass_of_methodNamed B.named, atoms_spec (ws := wsX10_chooseDays) B.pre, B.returns, B.notSynchronized⟩
  obtain ⟨hx, hb, -, hown, hts, hr, hlk⟩ := id C
  subst hsz
  have hD := hD0.self (sz := s.heap.size)
  generalize hAe : va_A (cW a cs sh LP Z σ) s.heap.size = A at hD ⊢
  have hA : ∀ q : Nat, s.heap.size ≤ q → A q := fun q h => by rw [← hAe]; exact Or.inr h
  have hS : va_S A s.heap s.heap [] := va_S.rf
  refine entryW [.ref (a 4)] (n := 3) (Nat.le_of_ble_eq_true rfl) (fun ls hl => ?_)
  have hl : lv_has ls 3 [(0, .ref (a 4))] := hl
  unfold fX10_chooseDays at h
  refine lv_iconst (v := (0 : Int32)) hx hb dX10_chooseDays_0 (by decide) ?_
  refine lv_istore_n (lv' := [(1, .int (0 : Int32)), (0, .ref (a 4))]) hx hb dX10_chooseDays_1 rfl hl (by decide) rfl (fun ls hl => ?_)
  refine lv_iconst (v := (0 : Int32)) hx hb dX10_chooseDays_2 (by decide) ?_
  refine lv_istore_n (lv' := [(2, .int (0 : Int32)), (1, .int (0 : Int32)), (0, .ref (a 4))]) hx hb dX10_chooseDays_3 rfl hl (by decide) rfl (fun ls hl => ?_)
  refine wX10_chooseDays_L4 C hZ hK hA  u9 F  _ ?_ F (0 : Int32) (0 : Int32) σ _ _ ls hP hD hS (lv_sub hl [2, 1, 0] rfl) h
  intro σ1 H locs ls hP hD hS hl h
  exact mretV hx hb hr hlk h hP hD hS dX10_chooseDays_44
def fX10_nextOf_J64 (F : Nat) (sh : Nat → Option Nat) (Z : ZT) (kb : Int32 → Int32 → Option Int32) (x1 : Int32) (x2 : Int32) (x3 : Int32) (σ : Nat → Nat → Int32) : Option Int32 :=
  kb x2 (x3 + (1 : Int32))
def fX10_nextOf_J62 (F : Nat) (sh : Nat → Option Nat) (Z : ZT) (kb : Int32 → Int32 → Option Int32) (x1 : Int32) (x3 : Int32) (σ : Nat → Nat → Int32) : Option Int32 :=
  fX10_nextOf_J64 F sh Z kb x1 x3 x3 σ
def fX10_nextOf_J36 (F : Nat) (sh : Nat → Option Nat) (Z : ZT) (kb : Int32 → Int32 → Option Int32) (x1 : Int32) (x2 : Int32) (x3 : Int32) (t0 : Int32) (σ : Nat → Nat → Int32) : Option Int32 :=
  if t0 = 0 then (fX10_nextOf_J64 F sh Z kb x1 x2 x3 σ) else (if x2 < 0 then (fX10_nextOf_J62 F sh Z kb x1 x3 σ) else (aI (σ 7) 10 x3 fun v5 => aI (σ 7) 10 x2 fun v6 => if v6 ≤ v5 then (fX10_nextOf_J64 F sh Z kb x1 x2 x3 σ) else (fX10_nextOf_J62 F sh Z kb x1 x3 σ)))
def fX10_nextOf_J35 (F : Nat) (sh : Nat → Option Nat) (Z : ZT) (kb : Int32 → Int32 → Option Int32) (x1 : Int32) (x2 : Int32) (x3 : Int32) (σ : Nat → Nat → Int32) : Option Int32 :=
  fX10_nextOf_J36 F sh Z kb x1 x2 x3 (0 : Int32) σ
def fX10_nextOf_L4 (F : Nat) (sh : Nat → Option Nat) (Z : ZT) (σ : Nat → Nat → Int32) (x1 : Int32) (kx : Int32 → Option Int32) : Nat → Int32 → Int32 → Option Int32
  | 0, _, _ => none
  | n+1, x2, x3 =>
    nb ((fun x2 x3 => fX10_nextOf_L4 F sh Z σ x1 kx n x2 x3)) fun kb =>
    if (σ 38 0) ≤ x3 then (kx x2) else (if ((x1 >>> (x3 &&& 31)) &&& (1 : Int32)) = 0 then (fX10_nextOf_J35 F sh Z kb x1 x2 x3 σ) else (aI (σ 5) 10 x3 fun v3 => if ¬ (v3 &&& x1) = 0 then (fX10_nextOf_J35 F sh Z kb x1 x2 x3 σ) else (fX10_nextOf_J36 F sh Z kb x1 x2 x3 (1 : Int32) σ)))
def fX10_nextOf (F : Nat) (sh : Nat → Option Nat) (Z : ZT) (σ : Nat → Nat → Int32) (x1 : Int32) : Option Int32 :=
  fX10_nextOf_L4 F sh Z σ x1 (fun y1 => some ((if y1 < (0 : Int32) then (0 : Int32) else y1) : Int32)) F ((-1) : Int32) (0 : Int32)
abbrev rmX10_nextOf : Room := { frames := 1, cells := 0, slots := 0, locals := 21 }
theorem inX10_X10_nextOf : ∀ w ∈ wsX100, w ∈ wsX10_nextOf := by intro w h; simp only [wsX10_nextOf, List.mem_cons, List.mem_append]; simp only [h, true_or, or_true]
set_option maxHeartbeats 4000000 in
set_option maxRecDepth 100000 in
theorem wX10_nextOf_J64 {p : Program} {l : Launch} {e : Env} {s : State} {m : MethodId} {args : Array Value} {below : List Frame} {meth : Method} {c : Code} (C : cxt p s m args meth c cX10_nextOf 5 RX10 wsX10_nextOf (some .int)) {D : va_G} {cs : Nat → ClassId} {a : Nat → Nat} {sh : Nat → Option Nat} {LP : List Nat} {Z : ZT} (hZ : shOK sh LP Z) (hK : KK D cs s) {σ : Nat → Nat → Int32} (hP : va_P D vwCl (cW a cs sh LP Z σ) s.heap) (r : Int32) (F : Nat) (kb : Int32 → Int32 → Option Int32) (x1 : Int32) (x2 : Int32) (x3 : Int32) (hkb : ∀ (x2 : Int32) (x3 : Int32) (ls : Array Slot), lv_has ls 5 [(0, .ref (a 4)), (1, .int x1), (2, .int x2), (3, .int x3)] → kb x2 x3 = some r → W p l e rmX10_nextOf s m args below meth c s.heap [] 0 0 (MQ below (vp_Si (fun x => x = r)) args s 0 0 (fun _ => False)) (F0 m 4 ls [])) (ls : Array Slot) (hl : lv_has ls 5 [(0, .ref (a 4)), (1, .int x1), (2, .int x2), (3, .int x3)]) (h : fX10_nextOf_J64 F sh Z kb x1 x2 x3 σ = some r) : W p l e rmX10_nextOf s m args below meth c s.heap [] 0 0 (MQ below (vp_Si (fun x => x = r)) args s 0 0 (fun _ => False)) (F0 m 64 ls []) := by
  obtain ⟨hx, hb, hml, hown, hts, hr, hlk⟩ := id C
  unfold fX10_nextOf_J64 at h
  refine lv_iinc (v := x3 + (1 : Int32)) (lv' := [(3, .int (x3 + (1 : Int32))), (0, .ref (a 4)), (1, .int x1), (2, .int x2)]) hx hb dX10_nextOf_64 hl (k := 3) rfl rfl (by decide) rfl (fun ls hl => ?_)
  refine lv_goto (tgt := 4) hx hb dX10_nextOf_67 (by decide) ?_
  exact hkb x2 (x3 + (1 : Int32)) ls (lv_sub hl [1, 2, 3, 0] rfl) h
set_option maxHeartbeats 4000000 in
set_option maxRecDepth 100000 in
theorem wX10_nextOf_J62 {p : Program} {l : Launch} {e : Env} {s : State} {m : MethodId} {args : Array Value} {below : List Frame} {meth : Method} {c : Code} (C : cxt p s m args meth c cX10_nextOf 5 RX10 wsX10_nextOf (some .int)) {D : va_G} {cs : Nat → ClassId} {a : Nat → Nat} {sh : Nat → Option Nat} {LP : List Nat} {Z : ZT} (hZ : shOK sh LP Z) (hK : KK D cs s) {σ : Nat → Nat → Int32} (hP : va_P D vwCl (cW a cs sh LP Z σ) s.heap) (r : Int32) (F : Nat) (kb : Int32 → Int32 → Option Int32) (x1 : Int32) (x3 : Int32) (hkb : ∀ (x2 : Int32) (x3 : Int32) (ls : Array Slot), lv_has ls 5 [(0, .ref (a 4)), (1, .int x1), (2, .int x2), (3, .int x3)] → kb x2 x3 = some r → W p l e rmX10_nextOf s m args below meth c s.heap [] 0 0 (MQ below (vp_Si (fun x => x = r)) args s 0 0 (fun _ => False)) (F0 m 4 ls [])) (ls : Array Slot) (hl : lv_has ls 5 [(0, .ref (a 4)), (1, .int x1), (3, .int x3)]) (h : fX10_nextOf_J62 F sh Z kb x1 x3 σ = some r) : W p l e rmX10_nextOf s m args below meth c s.heap [] 0 0 (MQ below (vp_Si (fun x => x = r)) args s 0 0 (fun _ => False)) (F0 m 62 ls []) := by
  obtain ⟨hx, hb, hml, hown, hts, hr, hlk⟩ := id C
  unfold fX10_nextOf_J62 at h
  refine lv_iload_n hx hb dX10_nextOf_62 rfl (lv_at hl 2 rfl) ?_
  refine lv_istore_n (lv' := [(2, .int x3), (0, .ref (a 4)), (1, .int x1), (3, .int x3)]) hx hb dX10_nextOf_63 rfl hl (by decide) rfl (fun ls hl => ?_)
  exact wX10_nextOf_J64 C hZ hK hP r F kb x1 x3 x3 hkb ls (lv_sub hl [1, 2, 0, 3] rfl) h
set_option maxHeartbeats 4000000 in
set_option maxRecDepth 100000 in
theorem wX10_nextOf_J36 {p : Program} {l : Launch} {e : Env} {s : State} {m : MethodId} {args : Array Value} {below : List Frame} {meth : Method} {c : Code} (C : cxt p s m args meth c cX10_nextOf 5 RX10 wsX10_nextOf (some .int)) {D : va_G} {cs : Nat → ClassId} {a : Nat → Nat} {sh : Nat → Option Nat} {LP : List Nat} {Z : ZT} (hZ : shOK sh LP Z) (hK : KK D cs s) {σ : Nat → Nat → Int32} (hP : va_P D vwCl (cW a cs sh LP Z σ) s.heap) (r : Int32) (F : Nat) (kb : Int32 → Int32 → Option Int32) (x1 : Int32) (x2 : Int32) (x3 : Int32) (t0 : Int32) (hkb : ∀ (x2 : Int32) (x3 : Int32) (ls : Array Slot), lv_has ls 5 [(0, .ref (a 4)), (1, .int x1), (2, .int x2), (3, .int x3)] → kb x2 x3 = some r → W p l e rmX10_nextOf s m args below meth c s.heap [] 0 0 (MQ below (vp_Si (fun x => x = r)) args s 0 0 (fun _ => False)) (F0 m 4 ls [])) (ls : Array Slot) (hl : lv_has ls 5 [(0, .ref (a 4)), (1, .int x1), (2, .int x2), (3, .int x3)]) (h : fX10_nextOf_J36 F sh Z kb x1 x2 x3 t0 σ = some r) : W p l e rmX10_nextOf s m args below meth c s.heap [] 0 0 (MQ below (vp_Si (fun x => x = r)) args s 0 0 (fun _ => False)) (F0 m 36 ls [.int t0]) := by
  obtain ⟨hx, hb, hml, hown, hts, hr, hlk⟩ := id C
  unfold fX10_nextOf_J36 at h
  refine lv_istore (lv' := [(4, .int t0), (0, .ref (a 4)), (1, .int x1), (2, .int x2), (3, .int x3)]) hx hb dX10_nextOf_36 hl (by decide) rfl (fun ls hl => ?_)
  refine lv_iload hx hb dX10_nextOf_38 (lv_at hl 0 rfl) ?_
  refine lv_if_eq (tgt := 64) hx hb dX10_nextOf_40 (by decide) (fun c3 => ?_) (fun c3 => ?_)
  · have h := it_t c3 h
    exact wX10_nextOf_J64 C hZ hK hP r F kb x1 x2 x3 hkb ls (lv_sub hl [1, 2, 3, 4] rfl) h
  · have h := it_f c3 h
    refine lv_iload_n hx hb dX10_nextOf_43 rfl (lv_at hl 3 rfl) ?_
    refine lv_if_lt (tgt := 62) hx hb dX10_nextOf_44 (by decide) (fun c4 => ?_) (fun c4 => ?_)
    · have h := it_t c4 h
      exact wX10_nextOf_J62 C hZ hK hP r F kb x1 x3 hkb ls (lv_sub hl [1, 2, 4] rfl) h
    · have h := it_f c4 h
      refine lv_aload_n hx hb dX10_nextOf_47 rfl (lv_at hl 1 rfl) ?_
      refine va_get (D := D) (ci := 9) (v := .ref (a 7)) (C := RX10) (T := TX10) (N := 14) hx hb hts inX10_X10_nextOf hown hK.1 hP 4 rfl rfl 7 (by decide) (hts (.fieldLink RX10 22 "SandPalace$Work" "reach" "[I") (by decide +kernel)) (fun _ h9 => h9) rfl dX10_nextOf_48 ?_
      refine lv_iload_n hx hb dX10_nextOf_51 rfl (lv_at hl 4 rfl) ?_
      obtain ⟨v5, i_v5, e_v5, h⟩ := aI_some h
      refine miald hx hb hK.1 hP 7 0 rfl rfl i_v5 e_v5 dX10_nextOf_52 ?_
      refine lv_aload_n hx hb dX10_nextOf_53 rfl (lv_at hl 1 rfl) ?_
      refine va_get (D := D) (ci := 9) (v := .ref (a 7)) (C := RX10) (T := TX10) (N := 14) hx hb hts inX10_X10_nextOf hown hK.1 hP 4 rfl rfl 7 (by decide) (hts (.fieldLink RX10 22 "SandPalace$Work" "reach" "[I") (by decide +kernel)) (fun _ h9 => h9) rfl dX10_nextOf_54 ?_
      refine lv_iload_n hx hb dX10_nextOf_57 rfl (lv_at hl 3 rfl) ?_
      obtain ⟨v6, i_v6, e_v6, h⟩ := aI_some h
      refine miald hx hb hK.1 hP 7 0 rfl rfl i_v6 e_v6 dX10_nextOf_58 ?_
      refine lv_icmp_ge (tgt := 64) hx hb dX10_nextOf_59 (by decide) (fun c7 => ?_) (fun c7 => ?_)
      · have h := it_t c7 h
        exact wX10_nextOf_J64 C hZ hK hP r F kb x1 x2 x3 hkb ls (lv_sub hl [1, 2, 3, 4] rfl) h
      · have h := it_f c7 h
        exact wX10_nextOf_J62 C hZ hK hP r F kb x1 x3 hkb ls (lv_sub hl [1, 2, 4] rfl) h
set_option maxHeartbeats 4000000 in
set_option maxRecDepth 100000 in
theorem wX10_nextOf_J35 {p : Program} {l : Launch} {e : Env} {s : State} {m : MethodId} {args : Array Value} {below : List Frame} {meth : Method} {c : Code} (C : cxt p s m args meth c cX10_nextOf 5 RX10 wsX10_nextOf (some .int)) {D : va_G} {cs : Nat → ClassId} {a : Nat → Nat} {sh : Nat → Option Nat} {LP : List Nat} {Z : ZT} (hZ : shOK sh LP Z) (hK : KK D cs s) {σ : Nat → Nat → Int32} (hP : va_P D vwCl (cW a cs sh LP Z σ) s.heap) (r : Int32) (F : Nat) (kb : Int32 → Int32 → Option Int32) (x1 : Int32) (x2 : Int32) (x3 : Int32) (hkb : ∀ (x2 : Int32) (x3 : Int32) (ls : Array Slot), lv_has ls 5 [(0, .ref (a 4)), (1, .int x1), (2, .int x2), (3, .int x3)] → kb x2 x3 = some r → W p l e rmX10_nextOf s m args below meth c s.heap [] 0 0 (MQ below (vp_Si (fun x => x = r)) args s 0 0 (fun _ => False)) (F0 m 4 ls [])) (ls : Array Slot) (hl : lv_has ls 5 [(0, .ref (a 4)), (1, .int x1), (2, .int x2), (3, .int x3)]) (h : fX10_nextOf_J35 F sh Z kb x1 x2 x3 σ = some r) : W p l e rmX10_nextOf s m args below meth c s.heap [] 0 0 (MQ below (vp_Si (fun x => x = r)) args s 0 0 (fun _ => False)) (F0 m 35 ls []) := by
  obtain ⟨hx, hb, hml, hown, hts, hr, hlk⟩ := id C
  unfold fX10_nextOf_J35 at h
  refine lv_iconst (v := (0 : Int32)) hx hb dX10_nextOf_35 (by decide) ?_
  exact wX10_nextOf_J36 C hZ hK hP r F kb x1 x2 x3 (0 : Int32) hkb ls (lv_sub hl [0, 1, 2, 3] rfl) h
set_option maxHeartbeats 4000000 in
set_option maxRecDepth 100000 in
theorem wX10_nextOf_L4 {p : Program} {l : Launch} {e : Env} {s : State} {m : MethodId} {args : Array Value} {below : List Frame} {meth : Method} {c : Code} (C : cxt p s m args meth c cX10_nextOf 5 RX10 wsX10_nextOf (some .int)) {D : va_G} {cs : Nat → ClassId} {a : Nat → Nat} {sh : Nat → Option Nat} {LP : List Nat} {Z : ZT} (hZ : shOK sh LP Z) (hK : KK D cs s) {σ : Nat → Nat → Int32} (hP : va_P D vwCl (cW a cs sh LP Z σ) s.heap) (r : Int32) (F : Nat) (x1 : Int32) (kx : Int32 → Option Int32) (hkx : ∀ (x2 : Int32) (ls : Array Slot), lv_has ls 5 [(2, .int x2)] → kx x2 = some r → W p l e rmX10_nextOf s m args below meth c s.heap [] 0 0 (MQ below (vp_Si (fun x => x = r)) args s 0 0 (fun _ => False)) (F0 m 70 ls [])) : ∀ (n : Nat) (x2 : Int32) (x3 : Int32) (ls : Array Slot), lv_has ls 5 [(0, .ref (a 4)), (1, .int x1), (2, .int x2), (3, .int x3)] → fX10_nextOf_L4 F sh Z σ x1 kx n x2 x3 = some r → W p l e rmX10_nextOf s m args below meth c s.heap [] 0 0 (MQ below (vp_Si (fun x => x = r)) args s 0 0 (fun _ => False)) (F0 m 4 ls []) := by
  obtain ⟨hx, hb, hml, hown, hts, hr, hlk⟩ := id C
  intro n
  induction n with
  | zero =>
    intros
    rename_i h
    cases h
  | succ n ih =>
    intro x2 x3 ls hl h
    rw [fX10_nextOf_L4] at h
    obtain ⟨kb, hkb, h⟩ := nb_some (P := fun (kb : Int32 → Int32 → Option Int32) => ∀ (x2 : Int32) (x3 : Int32) (ls : Array Slot), lv_has ls 5 [(0, .ref (a 4)), (1, .int x1), (2, .int x2), (3, .int x3)] → kb x2 x3 = some r → W p l e rmX10_nextOf s m args below meth c s.heap [] 0 0 (MQ below (vp_Si (fun x => x = r)) args s 0 0 (fun _ => False)) (F0 m 4 ls [])) h ih
    refine lv_iload_n hx hb dX10_nextOf_4 rfl (lv_at hl 3 rfl) ?_
    refine lv_aload_n hx hb dX10_nextOf_5 rfl (lv_at hl 0 rfl) ?_
    refine va_get (D := D) (ci := 9) (v := .int (σ 38 0)) (C := RX10) (T := TX10) (N := 14) hx hb hts inX10_X10_nextOf hown hK.1 hP 4 rfl rfl 4 (by decide) (hts (.fieldLink RX10 50 "SandPalace$Work" "count" "I") (by decide +kernel)) (fun _ h9 => h9) rfl dX10_nextOf_6 ?_
    refine lv_icmp_ge (tgt := 70) hx hb dX10_nextOf_9 (by decide) (fun c1 => ?_) (fun c1 => ?_)
    · have h := it_t c1 h
      exact hkx x2 ls (lv_sub hl [2] rfl) h
    · have h := it_f c1 h
      refine lv_iload_n hx hb dX10_nextOf_12 rfl (lv_at hl 1 rfl) ?_
      refine lv_iload_n hx hb dX10_nextOf_13 rfl (lv_at hl 3 rfl) ?_
      refine lv_ishr hx hb dX10_nextOf_14 ?_
      refine lv_iconst (v := (1 : Int32)) hx hb dX10_nextOf_15 (by decide) ?_
      refine lv_iand hx hb dX10_nextOf_16 ?_
      refine lv_if_eq (tgt := 35) hx hb dX10_nextOf_17 (by decide) (fun c2 => ?_) (fun c2 => ?_)
      · have h := it_t c2 h
        exact wX10_nextOf_J35 C hZ hK hP r F kb x1 x2 x3 hkb ls (lv_sub hl [0, 1, 2, 3] rfl) h
      · have h := it_f c2 h
        refine lv_aload_n hx hb dX10_nextOf_20 rfl (lv_at hl 0 rfl) ?_
        refine va_get (D := D) (ci := 9) (v := .ref (a 5)) (C := RX10) (T := TX10) (N := 14) hx hb hts inX10_X10_nextOf hown hK.1 hP 4 rfl rfl 5 (by decide) (hts (.fieldLink RX10 15 "SandPalace$Work" "ahead" "[I") (by decide +kernel)) (fun _ h9 => h9) rfl dX10_nextOf_21 ?_
        refine lv_iload_n hx hb dX10_nextOf_24 rfl (lv_at hl 3 rfl) ?_
        obtain ⟨v3, i_v3, e_v3, h⟩ := aI_some h
        refine miald hx hb hK.1 hP 5 0 rfl rfl i_v3 e_v3 dX10_nextOf_25 ?_
        refine lv_iload_n hx hb dX10_nextOf_26 rfl (lv_at hl 1 rfl) ?_
        refine lv_iand hx hb dX10_nextOf_27 ?_
        refine lv_if_ne (tgt := 35) hx hb dX10_nextOf_28 (by decide) (fun c4 => ?_) (fun c4 => ?_)
        · have h := it_t c4 h
          exact wX10_nextOf_J35 C hZ hK hP r F kb x1 x2 x3 hkb ls (lv_sub hl [0, 1, 2, 3] rfl) h
        · have h := it_n c4 h
          refine lv_iconst (v := (1 : Int32)) hx hb dX10_nextOf_31 (by decide) ?_
          refine lv_goto (tgt := 36) hx hb dX10_nextOf_32 (by decide) ?_
          exact wX10_nextOf_J36 C hZ hK hP r F kb x1 x2 x3 (1 : Int32) hkb ls (lv_sub hl [0, 1, 2, 3] rfl) h
set_option maxHeartbeats 4000000 in
set_option maxRecDepth 100000 in
theorem kX10_nextOf (l : Launch) (D : va_G) (cs : Nat → ClassId) (a : Nat → Nat) (sh : Nat → Option Nat) (LP : List Nat) (Z : ZT) (hZ : shOK sh LP Z) (σ : Nat → Nat → Int32) (F : Nat) (x1 : Int32) (r : Int32) (h : fX10_nextOf F sh Z σ x1 = some r) : Met l yX10_nextOf wsX10_nextOf rmX10_nextOf (va_Pc [.ref (a 4), .int x1] (pR D cs (cW a cs sh LP Z σ))) (vp_Si (fun x => x = r)) 0 0 (fun _ => False) := by
  refine Met.ofW (cc := cX10_nextOf) (maxL := 5) (ret := (some .int)) (by decide) rfl ?_
  intro p e s m args below meth c s₁ B hml hv
  obtain ⟨rfl, hP, hK⟩ := hv
  have C : cxt p s m _ meth c cX10_nextOf 5 RX10 wsX10_nextOf (some .int) := ⟨B.exec, B.bytes, hml, findClass_of_methodNamed B.named, atoms_spec (ws := wsX10_nextOf) B.pre, B.returns, B.notSynchronized⟩
  obtain ⟨hx, hb, -, hown, hts, hr, hlk⟩ := id C
  refine entryW [.ref (a 4), .int x1] (n := 5) (Nat.le_of_ble_eq_true rfl) (fun ls hl => ?_)
  have hl : lv_has ls 5 [(0, .ref (a 4)), (1, .int x1)] := hl
  unfold fX10_nextOf at h
  refine lv_iconst (v := ((-1) : Int32)) hx hb dX10_nextOf_0 (by decide) ?_
  refine lv_istore_n (lv' := [(2, .int ((-1) : Int32)), (0, .ref (a 4)), (1, .int x1)]) hx hb dX10_nextOf_1 rfl hl (by decide) rfl (fun ls hl => ?_)
  refine lv_iconst (v := (0 : Int32)) hx hb dX10_nextOf_2 (by decide) ?_
  refine lv_istore_n (lv' := [(3, .int (0 : Int32)), (2, .int ((-1) : Int32)), (0, .ref (a 4)), (1, .int x1)]) hx hb dX10_nextOf_3 rfl hl (by decide) rfl (fun ls hl => ?_)
  refine wX10_nextOf_L4 C hZ hK hP r F x1 _ ?_ F ((-1) : Int32) (0 : Int32) ls (lv_sub hl [2, 3, 1, 0] rfl) h
  intro y1 ls hl h
  refine lv_iload_n hx hb dX10_nextOf_70 rfl (lv_at hl 0 rfl) ?_
  refine lv_iconst (v := (0 : Int32)) hx hb dX10_nextOf_71 (by decide) ?_
  refine va_mmax hx hb (hml.trans hl.1.symm) hown (hts (.methodLink RX10 117 Lib.Math.max.name) (by decide +kernel)) (hts (.static Lib.Math.max.name) (by decide +kernel)) (hts (.initialized "java/lang/Math") (by decide +kernel)) (hts (.code Lib.Math.max.name Lib.Math.max.code 2 (some .int)) (by decide +kernel)) (Nat.le_of_ble_eq_true rfl) (Nat.le_of_ble_eq_true rfl) (Nat.zero_le _) (Nat.zero_le _) dX10_nextOf_72 ?_
  exact mretS hx hb hr hlk h dX10_nextOf_75
def fX10_orderShapes_L31 (F : Nat) (sh : Nat → Option Nat) (Z : ZT) (x2 : Int32) (kx : Int32 → (Nat → Nat → Int32) → Option ((Nat → Nat → Int32))) : Nat → Int32 → Int32 → Int32 → (Nat → Nat → Int32) → Option ((Nat → Nat → Int32))
  | 0, _, _, _, _ => none
  | n+1, x1, x3, x4, σ =>
    nb ((fun x1 x3 x4 σ => fX10_orderShapes_L31 F sh Z x2 kx n x1 x3 x4 σ)) fun kb =>
    if x4 ≤ 0 then (kx x1 σ) else (if (σ 38 0) ≤ x1 then (kx x1 σ) else (bd (fX10_nextOf F sh Z σ x3) fun v7 => aS 10 x1 (nm (sg σ 13 (upd (σ 13) x1.toNatClampNeg v7)) fun σ9 => nm (x3 &&& (((1 : Int32) <<< (v7 &&& 31)) ^^^ ((-1) : Int32))) fun z10 => kb (x1 + (1 : Int32)) z10 (x4 + ((-1) : Int32)) σ9)))
def fX10_orderShapes_L4 (F : Nat) (sh : Nat → Option Nat) (Z : ZT) (kx : (Nat → Nat → Int32) → Option ((Nat → Nat → Int32))) : Nat → Int32 → Int32 → (Nat → Nat → Int32) → Option ((Nat → Nat → Int32))
  | 0, _, _, _ => none
  | n+1, x1, x2, σ =>
    nb ((fun x1 x2 σ => fX10_orderShapes_L4 F sh Z kx n x1 x2 σ)) fun kb =>
    if (σ 37 0) ≤ x2 then (kx σ) else (if (10 : Int32) ≤ x2 then (kx σ) else (aI (σ 12) 10 x2 fun v3 => bd (fJ6_bitCount_0f7a4 v3) fun v4 => fX10_orderShapes_L31 F sh Z x2 (fun y5 σ6 => kb y5 (x2 + (1 : Int32)) σ6) F x1 v3 v4 σ))
def fX10_orderShapes (F : Nat) (sh : Nat → Option Nat) (Z : ZT) (σ : Nat → Nat → Int32)  : Option ((Nat → Nat → Int32)) :=
  fX10_orderShapes_L4 F sh Z (fun σ1 => some σ1) F (0 : Int32) (0 : Int32) σ
abbrev rmX10_orderShapes : Room := { frames := 2, cells := 0, slots := 0, locals := 45 }
theorem inX10_X10_orderShapes : ∀ w ∈ wsX100, w ∈ wsX10_orderShapes := by intro w h; simp only [wsX10_orderShapes, List.mem_cons, List.mem_append]; simp only [h, true_or, or_true]
set_option maxHeartbeats 4000000 in
set_option maxRecDepth 100000 in
theorem wX10_orderShapes_L31 {p : Program} {l : Launch} {e : Env} {s : State} {m : MethodId} {args : Array Value} {below : List Frame} {meth : Method} {c : Code} (C : cxt p s m args meth c cX10_orderShapes 6 RX10 wsX10_orderShapes none) {D : va_G} {cs : Nat → ClassId} {a : Nat → Nat} {sh : Nat → Option Nat} {LP : List Nat} {Z : ZT} (hZ : shOK sh LP Z) (hK : KK D cs s) {A : Nat → Prop} (hA : ∀ q, s.heap.size ≤ q → A q) (u9 : Nat → Nat → Int32) (F : Nat) (x2 : Int32) (kx : Int32 → (Nat → Nat → Int32) → Option ((Nat → Nat → Int32))) (hkx : ∀ (x1 : Int32) (σ : Nat → Nat → Int32) (H : Heap) (locs : List Loc) (ls : Array Slot), va_P D vwCl (cW a cs sh LP Z σ) H → va_D A (cW a cs sh LP Z σ) → va_S A s.heap H locs → lv_has ls 6 [(0, .ref (a 4)), (1, .int x1), (2, .int x2)] → kx x1 σ = some u9 → W p l e rmX10_orderShapes s m args below meth c H locs 0 0 (MQ below (va_Qv (fun y => y = u9) (qB D (cW a cs sh LP Z) A) A) args s 0 0 A) (F0 m 77 ls [])) : ∀ (n : Nat) (x1 : Int32) (x3 : Int32) (x4 : Int32) (σ : Nat → Nat → Int32) (H : Heap) (locs : List Loc) (ls : Array Slot), va_P D vwCl (cW a cs sh LP Z σ) H → va_D A (cW a cs sh LP Z σ) → va_S A s.heap H locs → lv_has ls 6 [(0, .ref (a 4)), (1, .int x1), (2, .int x2), (3, .int x3), (4, .int x4)] → fX10_orderShapes_L31 F sh Z x2 kx n x1 x3 x4 σ = some u9 → W p l e rmX10_orderShapes s m args below meth c H locs 0 0 (MQ below (va_Qv (fun y => y = u9) (qB D (cW a cs sh LP Z) A) A) args s 0 0 A) (F0 m 31 ls []) := by
  obtain ⟨hx, hb, hml, hown, hts, hr, hlk⟩ := id C
  intro n
  induction n with
  | zero =>
    intros
    rename_i h
    cases h
  | succ n ih =>
    intro x1 x3 x4 σ H locs ls hP hD hS hl h
    rw [fX10_orderShapes_L31] at h
    obtain ⟨kb, hkb, h⟩ := nb_some (P := fun (kb : Int32 → Int32 → Int32 → (Nat → Nat → Int32) → Option ((Nat → Nat → Int32))) => ∀ (x1 : Int32) (x3 : Int32) (x4 : Int32) (σ : Nat → Nat → Int32) (H : Heap) (locs : List Loc) (ls : Array Slot), va_P D vwCl (cW a cs sh LP Z σ) H → va_D A (cW a cs sh LP Z σ) → va_S A s.heap H locs → lv_has ls 6 [(0, .ref (a 4)), (1, .int x1), (2, .int x2), (3, .int x3), (4, .int x4)] → kb x1 x3 x4 σ = some u9 → W p l e rmX10_orderShapes s m args below meth c H locs 0 0 (MQ below (va_Qv (fun y => y = u9) (qB D (cW a cs sh LP Z) A) A) args s 0 0 A) (F0 m 31 ls [])) h ih
    refine lv_iload hx hb dX10_orderShapes_31 (lv_at hl 4 rfl) ?_
    refine lv_if_le (tgt := 77) hx hb dX10_orderShapes_33 (by decide) (fun c5 => ?_) (fun c5 => ?_)
    · have h := it_t c5 h
      exact hkx x1 σ _ _ ls hP hD hS (lv_sub hl [0, 1, 2] rfl) h
    · have h := it_f c5 h
      refine lv_iload_n hx hb dX10_orderShapes_36 rfl (lv_at hl 1 rfl) ?_
      refine lv_aload_n hx hb dX10_orderShapes_37 rfl (lv_at hl 0 rfl) ?_
      refine va_get (D := D) (ci := 9) (v := .int (σ 38 0)) (C := RX10) (T := TX10) (N := 14) hx hb hts inX10_X10_orderShapes hown hK.1 hP 4 rfl rfl 4 (by decide) (hts (.fieldLink RX10 50 "SandPalace$Work" "count" "I") (by decide +kernel)) (fun _ h9 => h9) rfl dX10_orderShapes_38 ?_
      refine lv_icmp_ge (tgt := 77) hx hb dX10_orderShapes_41 (by decide) (fun c6 => ?_) (fun c6 => ?_)
      · have h := it_t c6 h
        exact hkx x1 σ _ _ ls hP hD hS (lv_sub hl [0, 1, 2] rfl) h
      · have h := it_f c6 h
        refine lv_aload_n hx hb dX10_orderShapes_44 rfl (lv_at hl 0 rfl) ?_
        refine lv_iload_n hx hb dX10_orderShapes_45 rfl (lv_at hl 3 rfl) ?_
        obtain ⟨v7, hc_v7, h⟩ := bd_some h
        refine mcallS (va_runV (As := [.int x3]) (rest := []) ⟨hx, hb, hml, hown, hts⟩ (kX10_nextOf l D cs a sh LP Z hZ σ F x3 v7 hc_v7) (cwV 1 hts gX10_orderShapes_X10_nextOf rfl rfl rfl (by decide +kernel) ⟨Nat.le_of_ble_eq_true rfl, Nat.le_of_ble_eq_true rfl⟩) (pR_v hP hK (va_recv hK.1 hP (ci := 9) (q0 := 4) rfl rfl)) rfl rfl hl.1 rfl (lv_room (Nat.le_of_ble_eq_true rfl)) dX10_orderShapes_46 ⟨Nat.zero_le _, Nat.zero_le _⟩) ?_
        refine lv_istore (lv' := [(5, .int v7), (0, .ref (a 4)), (1, .int x1), (2, .int x2), (3, .int x3), (4, .int x4)]) hx hb dX10_orderShapes_49 hl (by decide) rfl (fun ls hl => ?_)
        refine lv_aload_n hx hb dX10_orderShapes_51 rfl (lv_at hl 1 rfl) ?_
        refine va_get (D := D) (ci := 9) (v := .ref (a 13)) (C := RX10) (T := TX10) (N := 14) hx hb hts inX10_X10_orderShapes hown hK.1 hP 4 rfl rfl 13 (by decide) (hts (.fieldLink RX10 40 "SandPalace$Work" "order" "[I") (by decide +kernel)) (fun _ h9 => h9) rfl dX10_orderShapes_52 ?_
        refine lv_iload_n hx hb dX10_orderShapes_55 rfl (lv_at hl 2 rfl) ?_
        refine lv_iinc (v := x1 + (1 : Int32)) (lv' := [(1, .int (x1 + (1 : Int32))), (5, .int v7), (0, .ref (a 4)), (2, .int x2), (3, .int x3), (4, .int x4)]) hx hb dX10_orderShapes_56 hl (k := 2) rfl rfl (by decide) rfl (fun ls hl => ?_)
        refine lv_iload hx hb dX10_orderShapes_59 (lv_at hl 1 rfl) ?_
        obtain ⟨i8, h⟩ := aS_some h
        refine va_iast hx hb hK.1 hP hD hS 13 0 rfl rfl i8 dX10_orderShapes_61 (fun H locs hP hD hS => ?_)
        obtain ⟨σ9, e_σ9, h⟩ := nm_some h
        have hP : va_P D vwCl (cW a cs sh LP Z σ9) H := by rw [← e_σ9]; exact hP
        have hD : va_D A (cW a cs sh LP Z σ9) := by rw [← e_σ9]; exact hD
        refine lv_iload_n hx hb dX10_orderShapes_62 rfl (lv_at hl 4 rfl) ?_
        refine lv_iconst (v := (1 : Int32)) hx hb dX10_orderShapes_63 (by decide) ?_
        refine lv_iload hx hb dX10_orderShapes_64 (lv_at hl 1 rfl) ?_
        refine lv_ishl hx hb dX10_orderShapes_66 ?_
        refine lv_iconst (v := ((-1) : Int32)) hx hb dX10_orderShapes_67 (by decide) ?_
        refine lv_ixor hx hb dX10_orderShapes_68 ?_
        refine lv_iand hx hb dX10_orderShapes_69 ?_
        obtain ⟨z10, e_z10, h⟩ := nm_some h
        refine tpi e_z10 ?_
        refine lv_istore_n (lv' := [(3, .int z10), (1, .int (x1 + (1 : Int32))), (5, .int v7), (0, .ref (a 4)), (2, .int x2), (4, .int x4)]) hx hb dX10_orderShapes_70 rfl hl (by decide) rfl (fun ls hl => ?_)
        refine lv_iinc (v := x4 + ((-1) : Int32)) (lv' := [(4, .int (x4 + ((-1) : Int32))), (3, .int z10), (1, .int (x1 + (1 : Int32))), (5, .int v7), (0, .ref (a 4)), (2, .int x2)]) hx hb dX10_orderShapes_71 hl (k := 5) rfl rfl (by decide) rfl (fun ls hl => ?_)
        refine lv_goto (tgt := 31) hx hb dX10_orderShapes_74 (by decide) ?_
        exact hkb (x1 + (1 : Int32)) z10 (x4 + ((-1) : Int32)) σ9 _ _ ls hP hD hS (lv_sub hl [4, 2, 5, 1, 0] rfl) h
set_option maxHeartbeats 4000000 in
set_option maxRecDepth 100000 in
theorem wX10_orderShapes_L4 {p : Program} {l : Launch} {e : Env} {s : State} {m : MethodId} {args : Array Value} {below : List Frame} {meth : Method} {c : Code} (C : cxt p s m args meth c cX10_orderShapes 6 RX10 wsX10_orderShapes none) {D : va_G} {cs : Nat → ClassId} {a : Nat → Nat} {sh : Nat → Option Nat} {LP : List Nat} {Z : ZT} (hZ : shOK sh LP Z) (hK : KK D cs s) {A : Nat → Prop} (hA : ∀ q, s.heap.size ≤ q → A q) (u9 : Nat → Nat → Int32) (F : Nat) (kx : (Nat → Nat → Int32) → Option ((Nat → Nat → Int32))) (hkx : ∀ (σ : Nat → Nat → Int32) (H : Heap) (locs : List Loc) (ls : Array Slot), va_P D vwCl (cW a cs sh LP Z σ) H → va_D A (cW a cs sh LP Z σ) → va_S A s.heap H locs → lv_has ls 6 [] → kx σ = some u9 → W p l e rmX10_orderShapes s m args below meth c H locs 0 0 (MQ below (va_Qv (fun y => y = u9) (qB D (cW a cs sh LP Z) A) A) args s 0 0 A) (F0 m 83 ls [])) : ∀ (n : Nat) (x1 : Int32) (x2 : Int32) (σ : Nat → Nat → Int32) (H : Heap) (locs : List Loc) (ls : Array Slot), va_P D vwCl (cW a cs sh LP Z σ) H → va_D A (cW a cs sh LP Z σ) → va_S A s.heap H locs → lv_has ls 6 [(0, .ref (a 4)), (1, .int x1), (2, .int x2)] → fX10_orderShapes_L4 F sh Z kx n x1 x2 σ = some u9 → W p l e rmX10_orderShapes s m args below meth c H locs 0 0 (MQ below (va_Qv (fun y => y = u9) (qB D (cW a cs sh LP Z) A) A) args s 0 0 A) (F0 m 4 ls []) := by
  obtain ⟨hx, hb, hml, hown, hts, hr, hlk⟩ := id C
  intro n
  induction n with
  | zero =>
    intros
    rename_i h
    cases h
  | succ n ih =>
    intro x1 x2 σ H locs ls hP hD hS hl h
    rw [fX10_orderShapes_L4] at h
    obtain ⟨kb, hkb, h⟩ := nb_some (P := fun (kb : Int32 → Int32 → (Nat → Nat → Int32) → Option ((Nat → Nat → Int32))) => ∀ (x1 : Int32) (x2 : Int32) (σ : Nat → Nat → Int32) (H : Heap) (locs : List Loc) (ls : Array Slot), va_P D vwCl (cW a cs sh LP Z σ) H → va_D A (cW a cs sh LP Z σ) → va_S A s.heap H locs → lv_has ls 6 [(0, .ref (a 4)), (1, .int x1), (2, .int x2)] → kb x1 x2 σ = some u9 → W p l e rmX10_orderShapes s m args below meth c H locs 0 0 (MQ below (va_Qv (fun y => y = u9) (qB D (cW a cs sh LP Z) A) A) args s 0 0 A) (F0 m 4 ls [])) h ih
    refine lv_iload_n hx hb dX10_orderShapes_4 rfl (lv_at hl 2 rfl) ?_
    refine lv_aload_n hx hb dX10_orderShapes_5 rfl (lv_at hl 0 rfl) ?_
    refine va_get (D := D) (ci := 9) (v := .int (σ 37 0)) (C := RX10) (T := TX10) (N := 14) hx hb hts inX10_X10_orderShapes hown hK.1 hP 4 rfl rfl 3 (by decide) (hts (.fieldLink RX10 47 "SandPalace$Work" "days" "I") (by decide +kernel)) (fun _ h9 => h9) rfl dX10_orderShapes_6 ?_
    refine lv_icmp_ge (tgt := 83) hx hb dX10_orderShapes_9 (by decide) (fun c1 => ?_) (fun c1 => ?_)
    · have h := it_t c1 h
      exact hkx σ _ _ ls hP hD hS (lv_sub hl [] rfl) h
    · have h := it_f c1 h
      refine lv_iload_n hx hb dX10_orderShapes_12 rfl (lv_at hl 2 rfl) ?_
      refine lv_bipush (v := (10 : Int32)) hx hb dX10_orderShapes_13 (by decide) ?_
      refine lv_icmp_ge (tgt := 83) hx hb dX10_orderShapes_15 (by decide) (fun c2 => ?_) (fun c2 => ?_)
      · have h := it_t c2 h
        exact hkx σ _ _ ls hP hD hS (lv_sub hl [] rfl) h
      · have h := it_f c2 h
        refine lv_aload_n hx hb dX10_orderShapes_18 rfl (lv_at hl 0 rfl) ?_
        refine va_get (D := D) (ci := 9) (v := .ref (a 12)) (C := RX10) (T := TX10) (N := 14) hx hb hts inX10_X10_orderShapes hown hK.1 hP 4 rfl rfl 12 (by decide) (hts (.fieldLink RX10 37 "SandPalace$Work" "dayShapes" "[I") (by decide +kernel)) (fun _ h9 => h9) rfl dX10_orderShapes_19 ?_
        refine lv_iload_n hx hb dX10_orderShapes_22 rfl (lv_at hl 2 rfl) ?_
        obtain ⟨v3, i_v3, e_v3, h⟩ := aI_some h
        refine miald hx hb hK.1 hP 12 0 rfl rfl i_v3 e_v3 dX10_orderShapes_23 ?_
        refine lv_istore_n (lv' := [(3, .int v3), (0, .ref (a 4)), (1, .int x1), (2, .int x2)]) hx hb dX10_orderShapes_24 rfl hl (by decide) rfl (fun ls hl => ?_)
        refine lv_iload_n hx hb dX10_orderShapes_25 rfl (lv_at hl 0 rfl) ?_
        obtain ⟨v4, hc_v4, h⟩ := bd_some h
        refine mcallS (va_runS (As := [.int v3]) (rest := []) ⟨hx, hb, hml, hown, hts⟩ (kJ6_bitCount_0f7a4 l v3 v4 hc_v4) (va_cwS 1 hts gX10_orderShapes_J6_bitCount_0f7a4 rfl rfl rfl (by decide +kernel) ⟨Nat.le_of_ble_eq_true rfl, Nat.le_of_ble_eq_true rfl⟩) p0_s rfl rfl hl.1 rfl (lv_room (Nat.le_of_ble_eq_true rfl)) dX10_orderShapes_26 ⟨Nat.zero_le _, Nat.zero_le _⟩) ?_
        refine lv_istore (lv' := [(4, .int v4), (3, .int v3), (0, .ref (a 4)), (1, .int x1), (2, .int x2)]) hx hb dX10_orderShapes_29 hl (by decide) rfl (fun ls hl => ?_)
        refine wX10_orderShapes_L31 C hZ hK hA  u9 F x2 _ ?_ F x1 v3 v4 σ _ _ ls hP hD hS (lv_sub hl [2, 3, 4, 1, 0] rfl) h
        intro y5 σ6 H locs ls hP hD hS hl h
        refine lv_iinc (v := x2 + (1 : Int32)) (lv' := [(2, .int (x2 + (1 : Int32))), (0, .ref (a 4)), (1, .int y5)]) hx hb dX10_orderShapes_77 hl (k := 2) rfl rfl (by decide) rfl (fun ls hl => ?_)
        refine lv_goto (tgt := 4) hx hb dX10_orderShapes_80 (by decide) ?_
        exact hkb y5 (x2 + (1 : Int32)) σ6 _ _ ls hP hD hS (lv_sub hl [1, 2, 0] rfl) h
set_option maxHeartbeats 4000000 in
set_option maxRecDepth 100000 in
theorem kX10_orderShapes (l : Launch) (D : va_G) (cs : Nat → ClassId) (a : Nat → Nat) (sh : Nat → Option Nat) (LP : List Nat) (Z : ZT) (hZ : shOK sh LP Z) (σ : Nat → Nat → Int32) (F : Nat)  (u9 : Nat → Nat → Int32) (h : fX10_orderShapes F sh Z σ = some u9) (sz : Nat) : Met l yX10_orderShapes wsX10_orderShapes rmX10_orderShapes (va_Pc [.ref (a 4)] (pQ D cs (cW a cs sh LP Z σ) sz)) (va_Qv (fun y => y = u9) (qB D (cW a cs sh LP Z) (va_A (cW a cs sh LP Z σ) sz)) (va_A (cW a cs sh LP Z σ) sz)) 0 0 (va_A (cW a cs sh LP Z σ) sz) := by
  refine Met.ofW (cc := cX10_orderShapes) (maxL := 6) (ret := none) (by decide) rfl ?_
  intro p e s m args below meth c s₁ B hml hv
  obtain ⟨rfl, hsz, hP, hK, hD0⟩ := hv
  have C : cxt p s m _ meth c cX10_orderShapes 6 RX10 wsX10_orderShapes none := ⟨B.exec, B.bytes, hml, findClass_of_methodNamed B.named, atoms_spec (ws := wsX10_orderShapes) B.pre, B.returns, B.notSynchronized⟩
  obtain ⟨hx, hb, -, hown, hts, hr, hlk⟩ := id C
  subst hsz
  have hD := hD0.self (sz := s.heap.size)
  generalize hAe : va_A (cW a cs sh LP Z σ) s.heap.size = A at hD ⊢
  have hA : ∀ q : Nat, s.heap.size ≤ q → A q := fun q h => by rw [← hAe]; exact Or.inr h
  have hS : va_S A s.heap s.heap [] := va_S.rf
  refine entryW [.ref (a 4)] (n := 6) (Nat.le_of_ble_eq_true rfl) (fun ls hl => ?_)
  have hl : lv_has ls 6 [(0, .ref (a 4))] := hl
  unfold fX10_orderShapes at h
  refine lv_iconst (v := (0 : Int32)) hx hb dX10_orderShapes_0 (by decide) ?_
  refine lv_istore_n (lv' := [(1, .int (0 : Int32)), (0, .ref (a 4))]) hx hb dX10_orderShapes_1 rfl hl (by decide) rfl (fun ls hl => ?_)
  refine lv_iconst (v := (0 : Int32)) hx hb dX10_orderShapes_2 (by decide) ?_
  refine lv_istore_n (lv' := [(2, .int (0 : Int32)), (1, .int (0 : Int32)), (0, .ref (a 4))]) hx hb dX10_orderShapes_3 rfl hl (by decide) rfl (fun ls hl => ?_)
  refine wX10_orderShapes_L4 C hZ hK hA  u9 F  _ ?_ F (0 : Int32) (0 : Int32) σ _ _ ls hP hD hS (lv_sub hl [2, 1, 0] rfl) h
  intro σ1 H locs ls hP hD hS hl h
  exact mretV hx hb hr hlk h hP hD hS dX10_orderShapes_83
def fX10_plan_L52 (F : Nat) (sh : Nat → Option Nat) (Z : ZT) (kx : (Nat → Nat → Int32) → Option ((Nat → Nat → Int32))) : Nat → Int32 → (Nat → Nat → Int32) → Option ((Nat → Nat → Int32))
  | 0, _, _ => none
  | n+1, x2, σ =>
    nb ((fun x2 σ => fX10_plan_L52 F sh Z kx n x2 σ)) fun kb =>
    if x2 < 0 then (kx σ) else (bd (fX10_fewestFrom F sh Z σ x2) fun v15 => aS 1024 x2 (nm (sg σ 11 (upd (σ 11) x2.toNatClampNeg v15)) fun σ17 => kb (x2 + ((-1) : Int32)) σ17))
def fX10_plan (F : Nat) (sh : Nat → Option Nat) (Z : ZT) (σ : Nat → Nat → Int32)  : Option ((Nat → Nat → Int32)) :=
  if (σ 35 0) = 0 then (nm (sg σ 35 (fun _ => (1 : Int32))) fun σ2 => nm (sg σ2 37 (fun _ => ((-4) : Int32))) fun σ3 => bd (fX10_read F sh Z σ3) fun σ5 => bd (fX10_isOneTooLarge F sh Z σ5) fun v6 => if ¬ v6 = 0 then (some σ5) else (bd (fX10_goesRound F sh Z σ5) fun v8 => if v8 = 0 then (bd (fX10_separate F sh Z σ5) fun σ11 => bd (fX10_weighSets F sh Z σ11) fun σ13 => fX10_plan_L52 F sh Z (fun σ14 => aI (σ14 11) 1024 (0 : Int32) fun v15 => nm (sg σ14 37 (fun _ => v15)) fun σ16 => bd (fX10_chooseDays F sh Z σ16) fun σ18 => bd (fX10_orderShapes F sh Z σ18) fun σ20 => some σ20) F (σ13 36 0) σ13) else (some σ5))) else (some σ)
abbrev rmX10_plan : Room := { frames := 3, cells := 0, slots := 0, locals := 70 }
theorem inX10_X10_plan : ∀ w ∈ wsX100, w ∈ wsX10_plan := by intro w h; simp only [wsX10_plan, List.mem_cons, List.mem_append]; simp only [h, true_or, or_true]
set_option maxHeartbeats 4000000 in
set_option maxRecDepth 100000 in
theorem wX10_plan_L52 {p : Program} {l : Launch} {e : Env} {s : State} {m : MethodId} {args : Array Value} {below : List Frame} {meth : Method} {c : Code} (C : cxt p s m args meth c cX10_plan 3 RX10 wsX10_plan none) {D : va_G} {cs : Nat → ClassId} {a : Nat → Nat} {sh : Nat → Option Nat} {LP : List Nat} {Z : ZT} (hZ : shOK sh LP Z) (hK : KK D cs s) {A : Nat → Prop} (hA : ∀ q, s.heap.size ≤ q → A q) (u9 : Nat → Nat → Int32) (F : Nat) (kx : (Nat → Nat → Int32) → Option ((Nat → Nat → Int32))) (hkx : ∀ (σ : Nat → Nat → Int32) (H : Heap) (locs : List Loc) (ls : Array Slot), va_P D vwCl (cW a cs sh LP Z σ) H → va_D A (cW a cs sh LP Z σ) → va_S A s.heap H locs → lv_has ls 3 [(0, .ref (a 4))] → kx σ = some u9 → W p l e rmX10_plan s m args below meth c H locs 0 0 (MQ below (va_Qv (fun y => y = u9) (qB D (cW a cs sh LP Z) A) A) args s 0 0 A) (F0 m 73 ls [])) : ∀ (n : Nat) (x2 : Int32) (σ : Nat → Nat → Int32) (H : Heap) (locs : List Loc) (ls : Array Slot), va_P D vwCl (cW a cs sh LP Z σ) H → va_D A (cW a cs sh LP Z σ) → va_S A s.heap H locs → lv_has ls 3 [(0, .ref (a 4)), (2, .int x2)] → fX10_plan_L52 F sh Z kx n x2 σ = some u9 → W p l e rmX10_plan s m args below meth c H locs 0 0 (MQ below (va_Qv (fun y => y = u9) (qB D (cW a cs sh LP Z) A) A) args s 0 0 A) (F0 m 52 ls []) := by
  obtain ⟨hx, hb, hml, hown, hts, hr, hlk⟩ := id C
  intro n
  induction n with
  | zero =>
    intros
    rename_i h
    cases h
  | succ n ih =>
    intro x2 σ H locs ls hP hD hS hl h
    rw [fX10_plan_L52] at h
    obtain ⟨kb, hkb, h⟩ := nb_some (P := fun (kb : Int32 → (Nat → Nat → Int32) → Option ((Nat → Nat → Int32))) => ∀ (x2 : Int32) (σ : Nat → Nat → Int32) (H : Heap) (locs : List Loc) (ls : Array Slot), va_P D vwCl (cW a cs sh LP Z σ) H → va_D A (cW a cs sh LP Z σ) → va_S A s.heap H locs → lv_has ls 3 [(0, .ref (a 4)), (2, .int x2)] → kb x2 σ = some u9 → W p l e rmX10_plan s m args below meth c H locs 0 0 (MQ below (va_Qv (fun y => y = u9) (qB D (cW a cs sh LP Z) A) A) args s 0 0 A) (F0 m 52 ls [])) h ih
    refine lv_iload_n hx hb dX10_plan_52 rfl (lv_at hl 1 rfl) ?_
    refine lv_if_lt (tgt := 73) hx hb dX10_plan_53 (by decide) (fun c14 => ?_) (fun c14 => ?_)
    · have h := it_t c14 h
      exact hkx σ _ _ ls hP hD hS (lv_sub hl [0] rfl) h
    · have h := it_f c14 h
      refine lv_aload_n hx hb dX10_plan_56 rfl (lv_at hl 0 rfl) ?_
      refine va_get (D := D) (ci := 9) (v := .ref (a 11)) (C := RX10) (T := TX10) (N := 14) hx hb hts inX10_X10_plan hown hK.1 hP 4 rfl rfl 11 (by decide) (hts (.fieldLink RX10 34 "SandPalace$Work" "fewest" "[I") (by decide +kernel)) (fun _ h9 => h9) rfl dX10_plan_57 ?_
      refine lv_iload_n hx hb dX10_plan_60 rfl (lv_at hl 1 rfl) ?_
      refine lv_aload_n hx hb dX10_plan_61 rfl (lv_at hl 0 rfl) ?_
      refine lv_iload_n hx hb dX10_plan_62 rfl (lv_at hl 1 rfl) ?_
      obtain ⟨v15, hc_v15, h⟩ := bd_some h
      refine mcallS (va_runV (As := [.int x2]) (rest := [.int x2, .ref (a 11)]) ⟨hx, hb, hml, hown, hts⟩ (kX10_fewestFrom l D cs a sh LP Z hZ σ F x2 v15 hc_v15) (cwV 1 hts gX10_plan_X10_fewestFrom rfl rfl rfl (by decide +kernel) ⟨Nat.le_of_ble_eq_true rfl, Nat.le_of_ble_eq_true rfl⟩) (pR_v hP hK (va_recv hK.1 hP (ci := 9) (q0 := 4) rfl rfl)) rfl rfl hl.1 rfl (lv_room (Nat.le_of_ble_eq_true rfl)) dX10_plan_63 ⟨Nat.zero_le _, Nat.zero_le _⟩) ?_
      obtain ⟨i16, h⟩ := aS_some h
      refine va_iast hx hb hK.1 hP hD hS 11 0 rfl rfl i16 dX10_plan_66 (fun H locs hP hD hS => ?_)
      obtain ⟨σ17, e_σ17, h⟩ := nm_some h
      have hP : va_P D vwCl (cW a cs sh LP Z σ17) H := by rw [← e_σ17]; exact hP
      have hD : va_D A (cW a cs sh LP Z σ17) := by rw [← e_σ17]; exact hD
      refine lv_iinc (v := x2 + ((-1) : Int32)) (lv' := [(2, .int (x2 + ((-1) : Int32))), (0, .ref (a 4))]) hx hb dX10_plan_67 hl (k := 1) rfl rfl (by decide) rfl (fun ls hl => ?_)
      refine lv_goto (tgt := 52) hx hb dX10_plan_70 (by decide) ?_
      exact hkb (x2 + ((-1) : Int32)) σ17 _ _ ls hP hD hS (lv_sub hl [1, 0] rfl) h
set_option maxHeartbeats 4000000 in
set_option maxRecDepth 100000 in
theorem kX10_plan (l : Launch) (D : va_G) (cs : Nat → ClassId) (a : Nat → Nat) (sh : Nat → Option Nat) (LP : List Nat) (Z : ZT) (hZ : shOK sh LP Z) (σ : Nat → Nat → Int32) (F : Nat)  (u9 : Nat → Nat → Int32) (h : fX10_plan F sh Z σ = some u9) (sz : Nat) : Met l yX10_plan wsX10_plan rmX10_plan (va_Pc [.ref (a 4), .ref (a 1)] (pQ D cs (cW a cs sh LP Z σ) sz)) (va_Qv (fun y => y = u9) (qB D (cW a cs sh LP Z) (va_A (cW a cs sh LP Z σ) sz)) (va_A (cW a cs sh LP Z σ) sz)) 0 0 (va_A (cW a cs sh LP Z σ) sz) := by
  refine Met.ofW (cc := cX10_plan) (maxL := 3) (ret := none) (by decide) rfl ?_
  intro p e s m args below meth c s₁ B hml hv
  obtain ⟨rfl, hsz, hP, hK, hD0⟩ := hv
  have C : cxt p s m _ meth c cX10_plan 3 RX10 wsX10_plan none := ⟨B.exec, B.bytes, hml, findClass_of_methodNamed B.named, atoms_spec (ws := wsX10_plan) B.pre, B.returns, B.notSynchronized⟩
  obtain ⟨hx, hb, -, hown, hts, hr, hlk⟩ := id C
  subst hsz
  have hD := hD0.self (sz := s.heap.size)
  generalize hAe : va_A (cW a cs sh LP Z σ) s.heap.size = A at hD ⊢
  have hA : ∀ q : Nat, s.heap.size ≤ q → A q := fun q h => by rw [← hAe]; exact Or.inr h
  have hS : va_S A s.heap s.heap [] := va_S.rf
  refine entryW [.ref (a 4), .ref (a 1)] (n := 3) (Nat.le_of_ble_eq_true rfl) (fun ls hl => ?_)
  have hl : lv_has ls 3 [(0, .ref (a 4)), (1, .ref (a 1))] := hl
  unfold fX10_plan at h
  refine lv_aload_n hx hb dX10_plan_0 rfl (lv_at hl 0 rfl) ?_
  refine va_get (D := D) (ci := 9) (v := .int (σ 35 0)) (C := RX10) (T := TX10) (N := 14) hx hb hts inX10_X10_plan hown hK.1 hP 4 rfl rfl 1 (by decide) (hts (.fieldLink RX10 43 "SandPalace$Work" "known" "Z") (by decide +kernel)) (fun _ h9 => h9) rfl dX10_plan_1 ?_
  refine lv_if_eq (tgt := 8) hx hb dX10_plan_4 (by decide) (fun c1 => ?_) (fun c1 => ?_)
  · have h := it_t c1 h
    refine lv_aload_n hx hb dX10_plan_8 rfl (lv_at hl 0 rfl) ?_
    refine lv_iconst (v := (1 : Int32)) hx hb dX10_plan_9 (by decide) ?_
    refine va_put (D := D) (ci := 9) (v := .int (1 : Int32)) (ty := .boolean) (C := RX10) (T := TX10) (N := 14) hx hb hts inX10_X10_plan tyX10 tyX10_ok nmX10 hown hK.1 hP hD hS 4 rfl rfl 1 (by decide) (hts (.fieldLink RX10 43 "SandPalace$Work" "known" "Z") (by decide +kernel)) (fun _ h9 => h9) rfl (by decide +kernel) rfl rfl (Nat.le_of_ble_eq_true rfl) dX10_plan_10 (fun H locs hP hD hS => ?_)
    obtain ⟨σ2, e_σ2, h⟩ := nm_some h
    have hP : va_P D vwCl (cW a cs sh LP Z σ2) H := by rw [← e_σ2]; exact hP
    have hD : va_D A (cW a cs sh LP Z σ2) := by rw [← e_σ2]; exact hD
    refine lv_aload_n hx hb dX10_plan_13 rfl (lv_at hl 0 rfl) ?_
    refine lv_bipush (v := ((-4) : Int32)) hx hb dX10_plan_14 (by decide) ?_
    refine va_put (D := D) (ci := 9) (v := .int ((-4) : Int32)) (ty := .int) (C := RX10) (T := TX10) (N := 14) hx hb hts inX10_X10_plan tyX10 tyX10_ok nmX10 hown hK.1 hP hD hS 4 rfl rfl 3 (by decide) (hts (.fieldLink RX10 47 "SandPalace$Work" "days" "I") (by decide +kernel)) (fun _ h9 => h9) rfl (by decide +kernel) rfl rfl (Nat.le_of_ble_eq_true rfl) dX10_plan_16 (fun H locs hP hD hS => ?_)
    obtain ⟨σ3, e_σ3, h⟩ := nm_some h
    have hP : va_P D vwCl (cW a cs sh LP Z σ3) H := by rw [← e_σ3]; exact hP
    have hD : va_D A (cW a cs sh LP Z σ3) := by rw [← e_σ3]; exact hD
    refine lv_aload_n hx hb dX10_plan_19 rfl (lv_at hl 0 rfl) ?_
    refine lv_aload_n hx hb dX10_plan_20 rfl (lv_at hl 1 rfl) ?_
    obtain ⟨σ5, hc_v4, h⟩ := bd_some h
    refine mcallQV (wf := (cW a cs sh LP Z)) (va_runV (As := [.ref (a 1)]) (rest := []) ⟨hx, hb, hml, hown, hts⟩ (kX10_read l D cs a sh LP Z hZ σ3 F σ5 hc_v4 _) (cwV 1 hts gX10_plan_X10_read rfl rfl rfl (by decide +kernel) ⟨Nat.le_of_ble_eq_true rfl, Nat.le_of_ble_eq_true rfl⟩) (pQ_v hP hK hD (va_recv hK.1 hP (ci := 9) (q0 := 4) rfl rfl)) rfl rfl hl.1 rfl (lv_room (Nat.le_of_ble_eq_true rfl)) dX10_plan_21 ⟨Nat.zero_le _, Nat.zero_le _⟩) hD hS hA (fun H locs hP hD hS => ?_)
    refine lv_aload_n hx hb dX10_plan_24 rfl (lv_at hl 0 rfl) ?_
    obtain ⟨v6, hc_v6, h⟩ := bd_some h
    refine mcallSZ (va_runV (As := []) (rest := []) ⟨hx, hb, hml, hown, hts⟩ (kX10_isOneTooLarge l D cs a sh LP Z hZ σ5 F v6 hc_v6) (cwV 0 hts gX10_plan_X10_isOneTooLarge rfl rfl rfl (by decide +kernel) ⟨Nat.le_of_ble_eq_true rfl, Nat.le_of_ble_eq_true rfl⟩) (pR_v hP hK (va_recv hK.1 hP (ci := 9) (q0 := 4) rfl rfl)) rfl rfl hl.1 rfl (lv_room (Nat.le_of_ble_eq_true rfl)) dX10_plan_25 ⟨Nat.zero_le _, Nat.zero_le _⟩) (fun z_v6 => ?_)
    refine lv_if_ne (tgt := 38) hx hb dX10_plan_28 (by decide) (fun c7 => ?_) (fun c7 => ?_)
    · have h := it_t c7 h
      exact mretV hx hb hr hlk h hP hD hS dX10_plan_38
    · have h := it_n c7 h
      refine lv_aload_n hx hb dX10_plan_31 rfl (lv_at hl 0 rfl) ?_
      obtain ⟨v8, hc_v8, h⟩ := bd_some h
      refine mcallSZ (va_runV (As := []) (rest := []) ⟨hx, hb, hml, hown, hts⟩ (kX10_goesRound l D cs a sh LP Z hZ σ5 F v8 hc_v8) (cwV 0 hts gX10_plan_X10_goesRound rfl rfl rfl (by decide +kernel) ⟨Nat.le_of_ble_eq_true rfl, Nat.le_of_ble_eq_true rfl⟩) (pR_v hP hK (va_recv hK.1 hP (ci := 9) (q0 := 4) rfl rfl)) rfl rfl hl.1 rfl (lv_room (Nat.le_of_ble_eq_true rfl)) dX10_plan_32 ⟨Nat.zero_le _, Nat.zero_le _⟩) (fun z_v8 => ?_)
      refine lv_if_eq (tgt := 39) hx hb dX10_plan_35 (by decide) (fun c9 => ?_) (fun c9 => ?_)
      · have h := it_t c9 h
        refine lv_aload_n hx hb dX10_plan_39 rfl (lv_at hl 0 rfl) ?_
        obtain ⟨σ11, hc_v10, h⟩ := bd_some h
        refine mcallQV (wf := (cW a cs sh LP Z)) (va_runV (As := []) (rest := []) ⟨hx, hb, hml, hown, hts⟩ (kX10_separate l D cs a sh LP Z hZ σ5 F σ11 hc_v10 _) (cwV 0 hts gX10_plan_X10_separate rfl rfl rfl (by decide +kernel) ⟨Nat.le_of_ble_eq_true rfl, Nat.le_of_ble_eq_true rfl⟩) (pQ_v hP hK hD (va_recv hK.1 hP (ci := 9) (q0 := 4) rfl rfl)) rfl rfl hl.1 rfl (lv_room (Nat.le_of_ble_eq_true rfl)) dX10_plan_40 ⟨Nat.zero_le _, Nat.zero_le _⟩) hD hS hA (fun H locs hP hD hS => ?_)
        refine lv_aload_n hx hb dX10_plan_43 rfl (lv_at hl 0 rfl) ?_
        obtain ⟨σ13, hc_v12, h⟩ := bd_some h
        refine mcallQV (wf := (cW a cs sh LP Z)) (va_runV (As := []) (rest := []) ⟨hx, hb, hml, hown, hts⟩ (kX10_weighSets l D cs a sh LP Z hZ σ11 F σ13 hc_v12 _) (cwV 0 hts gX10_plan_X10_weighSets rfl rfl rfl (by decide +kernel) ⟨Nat.le_of_ble_eq_true rfl, Nat.le_of_ble_eq_true rfl⟩) (pQ_v hP hK hD (va_recv hK.1 hP (ci := 9) (q0 := 4) rfl rfl)) rfl rfl hl.1 rfl (lv_room (Nat.le_of_ble_eq_true rfl)) dX10_plan_44 ⟨Nat.zero_le _, Nat.zero_le _⟩) hD hS hA (fun H locs hP hD hS => ?_)
        refine lv_aload_n hx hb dX10_plan_47 rfl (lv_at hl 0 rfl) ?_
        refine va_get (D := D) (ci := 9) (v := .int (σ13 36 0)) (C := RX10) (T := TX10) (N := 14) hx hb hts inX10_X10_plan hown hK.1 hP 4 rfl rfl 2 (by decide) (hts (.fieldLink RX10 70 "SandPalace$Work" "all" "I") (by decide +kernel)) (fun _ h9 => h9) rfl dX10_plan_48 ?_
        refine lv_istore_n (lv' := [(2, .int (σ13 36 0)), (0, .ref (a 4)), (1, .ref (a 1))]) hx hb dX10_plan_51 rfl hl (by decide) rfl (fun ls hl => ?_)
        refine wX10_plan_L52 C hZ hK hA  u9 F  _ ?_ F (σ13 36 0) σ13 _ _ ls hP hD hS (lv_sub hl [1, 0] rfl) h
        intro σ14 H locs ls hP hD hS hl h
        refine lv_aload_n hx hb dX10_plan_73 rfl (lv_at hl 0 rfl) ?_
        refine lv_aload_n hx hb dX10_plan_74 rfl (lv_at hl 0 rfl) ?_
        refine va_get (D := D) (ci := 9) (v := .ref (a 11)) (C := RX10) (T := TX10) (N := 14) hx hb hts inX10_X10_plan hown hK.1 hP 4 rfl rfl 11 (by decide) (hts (.fieldLink RX10 34 "SandPalace$Work" "fewest" "[I") (by decide +kernel)) (fun _ h9 => h9) rfl dX10_plan_75 ?_
        refine lv_iconst (v := (0 : Int32)) hx hb dX10_plan_78 (by decide) ?_
        obtain ⟨v15, i_v15, e_v15, h⟩ := aI_some h
        refine miald hx hb hK.1 hP 11 0 rfl rfl i_v15 e_v15 dX10_plan_79 ?_
        refine va_put (D := D) (ci := 9) (v := .int v15) (ty := .int) (C := RX10) (T := TX10) (N := 14) hx hb hts inX10_X10_plan tyX10 tyX10_ok nmX10 hown hK.1 hP hD hS 4 rfl rfl 3 (by decide) (hts (.fieldLink RX10 47 "SandPalace$Work" "days" "I") (by decide +kernel)) (fun _ h9 => h9) rfl (by decide +kernel) rfl rfl (Nat.le_of_ble_eq_true rfl) dX10_plan_80 (fun H locs hP hD hS => ?_)
        obtain ⟨σ16, e_σ16, h⟩ := nm_some h
        have hP : va_P D vwCl (cW a cs sh LP Z σ16) H := by rw [← e_σ16]; exact hP
        have hD : va_D A (cW a cs sh LP Z σ16) := by rw [← e_σ16]; exact hD
        refine lv_aload_n hx hb dX10_plan_83 rfl (lv_at hl 0 rfl) ?_
        obtain ⟨σ18, hc_v17, h⟩ := bd_some h
        refine mcallQV (wf := (cW a cs sh LP Z)) (va_runV (As := []) (rest := []) ⟨hx, hb, hml, hown, hts⟩ (kX10_chooseDays l D cs a sh LP Z hZ σ16 F σ18 hc_v17 _) (cwV 0 hts gX10_plan_X10_chooseDays rfl rfl rfl (by decide +kernel) ⟨Nat.le_of_ble_eq_true rfl, Nat.le_of_ble_eq_true rfl⟩) (pQ_v hP hK hD (va_recv hK.1 hP (ci := 9) (q0 := 4) rfl rfl)) rfl rfl hl.1 rfl (lv_room (Nat.le_of_ble_eq_true rfl)) dX10_plan_84 ⟨Nat.zero_le _, Nat.zero_le _⟩) hD hS hA (fun H locs hP hD hS => ?_)
        refine lv_aload_n hx hb dX10_plan_87 rfl (lv_at hl 0 rfl) ?_
        obtain ⟨σ20, hc_v19, h⟩ := bd_some h
        refine mcallQV (wf := (cW a cs sh LP Z)) (va_runV (As := []) (rest := []) ⟨hx, hb, hml, hown, hts⟩ (kX10_orderShapes l D cs a sh LP Z hZ σ18 F σ20 hc_v19 _) (cwV 0 hts gX10_plan_X10_orderShapes rfl rfl rfl (by decide +kernel) ⟨Nat.le_of_ble_eq_true rfl, Nat.le_of_ble_eq_true rfl⟩) (pQ_v hP hK hD (va_recv hK.1 hP (ci := 9) (q0 := 4) rfl rfl)) rfl rfl hl.1 rfl (lv_room (Nat.le_of_ble_eq_true rfl)) dX10_plan_88 ⟨Nat.zero_le _, Nat.zero_le _⟩) hD hS hA (fun H locs hP hD hS => ?_)
        exact mretV hx hb hr hlk h hP hD hS dX10_plan_91
      · have h := it_f c9 h
        exact mretV hx hb hr hlk h hP hD hS dX10_plan_38
  · have h := it_f c1 h
    exact mretV hx hb hr hlk h hP hD hS dX10_plan_7
def fX11_told (F : Nat) (sh : Nat → Option Nat) (Z : ZT) (σ : Nat → Nat → Int32) (x1 : Int32) (x2 : Int32) : Option Int32 :=
  bd (fX4_shapeOf sh Z σ x1) fun v1 => oc v1 (some ((-1) : Int32)) fun q2 => if x2 = (0 : Int32) then (bd (fV_kind (Z q2).1) fun v4 => some v4) else if x2 = (1 : Int32) then (some ((Z q2).2.1)) else if x2 = (2 : Int32) then (bd (fX6_cells sh Z q2 σ) fun v7 => some v7) else if x2 = (3 : Int32) then (bd (fX6_reach F sh Z q2 σ) fun v9 => some v9) else if x2 = (4 : Int32) then (bd (fX4_comesAfter F sh Z σ x1) fun v11 => bd (fJ6_bitCount_0f7a4 v11) fun v12 => some v12) else (some ((-1) : Int32))
abbrev rmX11_told : Room := { frames := 2, cells := 0, slots := 0, locals := 43 }
theorem inX0_X11_told : ∀ w ∈ wsX00, w ∈ wsX11_told := by intro w h; simp only [wsX11_told, List.mem_cons, List.mem_append]; simp only [h, true_or, or_true]
theorem inX1_X11_told : ∀ w ∈ wsX10, w ∈ wsX11_told := by intro w h; simp only [wsX11_told, List.mem_cons, List.mem_append]; simp only [h, true_or, or_true]
theorem inX11_X11_told : ∀ w ∈ wsX110, w ∈ wsX11_told := by intro w h; simp only [wsX11_told, List.mem_cons, List.mem_append]; simp only [h, true_or, or_true]
theorem inX2_X11_told : ∀ w ∈ wsX20, w ∈ wsX11_told := by intro w h; simp only [wsX11_told, List.mem_cons, List.mem_append]; simp only [h, true_or, or_true]
theorem inX5_X11_told : ∀ w ∈ wsX50, w ∈ wsX11_told := by intro w h; simp only [wsX11_told, List.mem_cons, List.mem_append]; simp only [h, true_or, or_true]
theorem inX8_X11_told : ∀ w ∈ wsX80, w ∈ wsX11_told := by intro w h; simp only [wsX11_told, List.mem_cons, List.mem_append]; simp only [h, true_or, or_true]
set_option maxHeartbeats 4000000 in
set_option maxRecDepth 100000 in
theorem kX11_told (l : Launch) (D : va_G) (cs : Nat → ClassId) (a : Nat → Nat) (sh : Nat → Option Nat) (LP : List Nat) (Z : ZT) (hZ : shOK sh LP Z) (σ : Nat → Nat → Int32) (F : Nat) (x1 : Int32) (x2 : Int32) (r : Int32) (h : fX11_told F sh Z σ x1 x2 = some r) : Met l yX11_told wsX11_told rmX11_told (va_Pc [.ref (a 0), .int x1, .int x2] (pR D cs (cW a cs sh LP Z σ))) (vp_Si (fun x => x = r)) 0 0 (fun _ => False) := by
  refine Met.ofW (cc := cX11_told) (maxL := 4) (ret := (some .int)) (by decide) rfl ?_
  intro p e s m args below meth c s₁ B hml hv
  obtain ⟨rfl, hP, hK⟩ := hv
  have C : cxt p s m _ meth c cX11_told 4 RX11 wsX11_told (some .int) := ⟨B.exec, B.bytes, hml, findClass_of_methodNamed B.named, atoms_spec (ws := wsX11_told) B.pre, B.returns, B.notSynchronized⟩
  obtain ⟨hx, hb, -, hown, hts, hr, hlk⟩ := id C
  refine entryW [.ref (a 0), .int x1, .int x2] (n := 4) (Nat.le_of_ble_eq_true rfl) (fun ls hl => ?_)
  have hl : lv_has ls 4 [(0, .ref (a 0)), (1, .int x1), (2, .int x2)] := hl
  unfold fX11_told at h
  refine lv_aload_n hx hb dX11_told_0 rfl (lv_at hl 0 rfl) ?_
  refine va_get (D := D) (ci := 10) (v := .ref (a 1)) (C := RX11) (T := TX11) (N := 5) hx hb hts inX11_X11_told hown hK.1 hP 0 rfl rfl 0 (by decide) (hts (.fieldLink RX11 10 "SandPalace" "picture" "LSandPalace$Picture;") (by decide +kernel)) (fun _ h9 => h9) rfl dX11_told_1 ?_
  refine lv_iload_n hx hb dX11_told_4 rfl (lv_at hl 1 rfl) ?_
  obtain ⟨v1, hc_v1, h⟩ := bd_some h
  refine mcallSR (va_runV (As := [.int x1]) (rest := []) ⟨hx, hb, hml, hown, hts⟩ (kX4_shapeOf l D cs a sh LP Z hZ σ x1 v1 hc_v1) (cwV 1 hts gX11_told_X4_shapeOf rfl rfl rfl (by decide +kernel) ⟨Nat.le_of_ble_eq_true rfl, Nat.le_of_ble_eq_true rfl⟩) (pR_v hP hK (va_recv hK.1 hP (ci := 4) (q0 := 1) rfl rfl)) rfl rfl hl.1 rfl (lv_room (Nat.le_of_ble_eq_true rfl)) dX11_told_5 ⟨Nat.zero_le _, Nat.zero_le _⟩) ?_
  rcases ho_v1 : v1 with _ | q2
  · rw [ho_v1] at h
    refine lv_astore_nN (lv' := [(3, .null), (0, .ref (a 0)), (1, .int x1), (2, .int x2)]) hx hb dX11_told_8 rfl hl (by decide) rfl (fun ls hl => ?_)
    refine lv_aload_nN hx hb dX11_told_9 rfl (lv_at hl 0 rfl) ?_
    refine lv_ifnonnullN hx hb dX11_told_10 ?_
    refine lv_iconst (v := ((-1) : Int32)) hx hb dX11_told_13 (by decide) ?_
    exact mretS hx hb hr hlk h dX11_told_14
  · rw [ho_v1] at h hc_v1
    have f_q2 := shapeOf_ok hZ hc_v1
    refine lv_astore_n (lv' := [(3, .ref q2), (0, .ref (a 0)), (1, .int x1), (2, .int x2)]) hx hb dX11_told_8 rfl hl (by decide) rfl (fun ls hl => ?_)
    refine lv_aload_n hx hb dX11_told_9 rfl (lv_at hl 0 rfl) ?_
    refine lv_ifnonnull (tgt := 15) hx hb dX11_told_10 (by decide) ?_
    refine lv_iload_n hx hb dX11_told_15 rfl (lv_at hl 3 rfl) ?_
    by_cases c3 : x2 = (0 : Int32)
    · have h := it_t c3 h
      refine lv_tableIn (off := 36) (tgt := 52) hx hb dX11_told_16 (by rw [c3]; decide) (by rw [c3]; decide) (by rw [c3]; rfl) (by decide) ?_
      refine lv_aload_n hx hb dX11_told_52 rfl (lv_at hl 0 rfl) ?_
      obtain ⟨v4, hc_v4, h⟩ := bd_some h
      refine mcallS (r := v4) (rest := []) (a0 := (Value.ref q2 :: []).toArray) ?_ ?_
      · rcases f_q2.2 with kq | kq | kq | kq | kq
        · exact va_runU (As := []) (rest := []) ⟨hx, hb, hml, hown, hts⟩ (kX0_kind l q2 v4 (by rw [kq] at hc_v4; exact hc_v4)) (va_cwA 0 hts gX11_told_X0_kind_u95X0 rfl rfl rfl hK.2.2.2.2.2.2.2.1 (by decide +kernel) ⟨Nat.le_of_ble_eq_true rfl, Nat.le_of_ble_eq_true rfl⟩) (p0_v (shr0 hK.1 hP f_q2.1 kq)) rfl rfl hl.1 rfl (lv_room (Nat.le_of_ble_eq_true rfl)) dX11_told_53 ⟨Nat.zero_le _, Nat.zero_le _⟩
        · exact va_runU (As := []) (rest := []) ⟨hx, hb, hml, hown, hts⟩ (kX1_kind l q2 v4 (by rw [kq] at hc_v4; exact hc_v4)) (va_cwA 0 hts gX11_told_X1_kind_u95X1 rfl rfl rfl hK.2.2.2.2.2.2.2.1 (by decide +kernel) ⟨Nat.le_of_ble_eq_true rfl, Nat.le_of_ble_eq_true rfl⟩) (p0_v (shr1 hK.1 hP f_q2.1 kq)) rfl rfl hl.1 rfl (lv_room (Nat.le_of_ble_eq_true rfl)) dX11_told_53 ⟨Nat.zero_le _, Nat.zero_le _⟩
        · exact va_runU (As := []) (rest := []) ⟨hx, hb, hml, hown, hts⟩ (kX2_kind l q2 v4 (by rw [kq] at hc_v4; exact hc_v4)) (va_cwA 0 hts gX11_told_X2_kind_u95X2 rfl rfl rfl hK.2.2.2.2.2.2.2.1 (by decide +kernel) ⟨Nat.le_of_ble_eq_true rfl, Nat.le_of_ble_eq_true rfl⟩) (p0_v (shr2 hK.1 hP f_q2.1 kq)) rfl rfl hl.1 rfl (lv_room (Nat.le_of_ble_eq_true rfl)) dX11_told_53 ⟨Nat.zero_le _, Nat.zero_le _⟩
        · exact va_runU (As := []) (rest := []) ⟨hx, hb, hml, hown, hts⟩ (kX5_kind l q2 v4 (by rw [kq] at hc_v4; exact hc_v4)) (va_cwA 0 hts gX11_told_X5_kind_u95X5 rfl rfl rfl hK.2.2.2.2.2.2.2.1 (by decide +kernel) ⟨Nat.le_of_ble_eq_true rfl, Nat.le_of_ble_eq_true rfl⟩) (p0_v (shr5 hK.1 hP f_q2.1 kq)) rfl rfl hl.1 rfl (lv_room (Nat.le_of_ble_eq_true rfl)) dX11_told_53 ⟨Nat.zero_le _, Nat.zero_le _⟩
        · exact va_runU (As := []) (rest := []) ⟨hx, hb, hml, hown, hts⟩ (kX8_kind l q2 v4 (by rw [kq] at hc_v4; exact hc_v4)) (va_cwA 0 hts gX11_told_X8_kind_u95X8 rfl rfl rfl hK.2.2.2.2.2.2.2.1 (by decide +kernel) ⟨Nat.le_of_ble_eq_true rfl, Nat.le_of_ble_eq_true rfl⟩) (p0_v (shr7 hK.1 hP f_q2.1 kq)) rfl rfl hl.1 rfl (lv_room (Nat.le_of_ble_eq_true rfl)) dX11_told_53 ⟨Nat.zero_le _, Nat.zero_le _⟩
      exact mretS hx hb hr hlk h dX11_told_56
    have h := it_f c3 h
    by_cases c5 : x2 = (1 : Int32)
    · have h := it_t c5 h
      refine lv_tableIn (off := 41) (tgt := 57) hx hb dX11_told_16 (by rw [c5]; decide) (by rw [c5]; decide) (by rw [c5]; rfl) (by decide) ?_
      refine lv_aload_n hx hb dX11_told_57 rfl (lv_at hl 0 rfl) ?_
      refine shgetC hx hb hts inX0_X11_told inX1_X11_told inX2_X11_told inX5_X11_told inX8_X11_told hown hK.1 hP f_q2.1 f_q2.2 (hts (.fieldLink RX11 100 "SandPalace$Shape" "colour" "I") (by decide +kernel)) (fun _ h9 => h9) dX11_told_58 ?_
      exact mretS hx hb hr hlk h dX11_told_61
    have h := it_f c5 h
    by_cases c6 : x2 = (2 : Int32)
    · have h := it_t c6 h
      refine lv_tableIn (off := 46) (tgt := 62) hx hb dX11_told_16 (by rw [c6]; decide) (by rw [c6]; decide) (by rw [c6]; rfl) (by decide) ?_
      refine lv_aload_n hx hb dX11_told_62 rfl (lv_at hl 0 rfl) ?_
      obtain ⟨v7, hc_v7, h⟩ := bd_some h
      refine mcallS (r := v7) (rest := []) (a0 := (Value.ref q2 :: []).toArray) ?_ ?_
      · rcases f_q2.2 with kq | kq | kq | kq | kq
        · exact va_runU (As := []) (rest := []) ⟨hx, hb, hml, hown, hts⟩ (kX6_cells l D cs a sh LP Z hZ q2 f_q2.1 f_q2.2 σ  v7 hc_v7) (va_cwU 0 hts gX11_told_X6_cells_u104X0 rfl rfl rfl rfl (by decide +kernel) ⟨Nat.le_of_ble_eq_true rfl, Nat.le_of_ble_eq_true rfl⟩) (pR_v hP hK (shr0 hK.1 hP f_q2.1 kq)) rfl rfl hl.1 rfl (lv_room (Nat.le_of_ble_eq_true rfl)) dX11_told_63 ⟨Nat.zero_le _, Nat.zero_le _⟩
        · exact va_runU (As := []) (rest := []) ⟨hx, hb, hml, hown, hts⟩ (kX6_cells l D cs a sh LP Z hZ q2 f_q2.1 f_q2.2 σ  v7 hc_v7) (va_cwU 0 hts gX11_told_X6_cells_u104X1 rfl rfl rfl rfl (by decide +kernel) ⟨Nat.le_of_ble_eq_true rfl, Nat.le_of_ble_eq_true rfl⟩) (pR_v hP hK (shr1 hK.1 hP f_q2.1 kq)) rfl rfl hl.1 rfl (lv_room (Nat.le_of_ble_eq_true rfl)) dX11_told_63 ⟨Nat.zero_le _, Nat.zero_le _⟩
        · exact va_runU (As := []) (rest := []) ⟨hx, hb, hml, hown, hts⟩ (kX6_cells l D cs a sh LP Z hZ q2 f_q2.1 f_q2.2 σ  v7 hc_v7) (va_cwU 0 hts gX11_told_X6_cells_u104X2 rfl rfl rfl rfl (by decide +kernel) ⟨Nat.le_of_ble_eq_true rfl, Nat.le_of_ble_eq_true rfl⟩) (pR_v hP hK (shr2 hK.1 hP f_q2.1 kq)) rfl rfl hl.1 rfl (lv_room (Nat.le_of_ble_eq_true rfl)) dX11_told_63 ⟨Nat.zero_le _, Nat.zero_le _⟩
        · exact va_runU (As := []) (rest := []) ⟨hx, hb, hml, hown, hts⟩ (kX6_cells l D cs a sh LP Z hZ q2 f_q2.1 f_q2.2 σ  v7 hc_v7) (va_cwU 0 hts gX11_told_X6_cells_u104X5 rfl rfl rfl rfl (by decide +kernel) ⟨Nat.le_of_ble_eq_true rfl, Nat.le_of_ble_eq_true rfl⟩) (pR_v hP hK (shr5 hK.1 hP f_q2.1 kq)) rfl rfl hl.1 rfl (lv_room (Nat.le_of_ble_eq_true rfl)) dX11_told_63 ⟨Nat.zero_le _, Nat.zero_le _⟩
        · exact va_runU (As := []) (rest := []) ⟨hx, hb, hml, hown, hts⟩ (kX6_cells l D cs a sh LP Z hZ q2 f_q2.1 f_q2.2 σ  v7 hc_v7) (va_cwU 0 hts gX11_told_X6_cells_u104X8 rfl rfl rfl rfl (by decide +kernel) ⟨Nat.le_of_ble_eq_true rfl, Nat.le_of_ble_eq_true rfl⟩) (pR_v hP hK (shr7 hK.1 hP f_q2.1 kq)) rfl rfl hl.1 rfl (lv_room (Nat.le_of_ble_eq_true rfl)) dX11_told_63 ⟨Nat.zero_le _, Nat.zero_le _⟩
      exact mretS hx hb hr hlk h dX11_told_66
    have h := it_f c6 h
    by_cases c8 : x2 = (3 : Int32)
    · have h := it_t c8 h
      refine lv_tableIn (off := 51) (tgt := 67) hx hb dX11_told_16 (by rw [c8]; decide) (by rw [c8]; decide) (by rw [c8]; rfl) (by decide) ?_
      refine lv_aload_n hx hb dX11_told_67 rfl (lv_at hl 0 rfl) ?_
      obtain ⟨v9, hc_v9, h⟩ := bd_some h
      refine mcallS (r := v9) (rest := []) (a0 := (Value.ref q2 :: []).toArray) ?_ ?_
      · rcases f_q2.2 with kq | kq | kq | kq | kq
        · exact va_runU (As := []) (rest := []) ⟨hx, hb, hml, hown, hts⟩ (kX6_reach l D cs a sh LP Z hZ q2 f_q2.1 f_q2.2 σ F  v9 hc_v9) (va_cwU 0 hts gX11_told_X6_reach_u107X0 rfl rfl rfl rfl (by decide +kernel) ⟨Nat.le_of_ble_eq_true rfl, Nat.le_of_ble_eq_true rfl⟩) (pR_v hP hK (shr0 hK.1 hP f_q2.1 kq)) rfl rfl hl.1 rfl (lv_room (Nat.le_of_ble_eq_true rfl)) dX11_told_68 ⟨Nat.zero_le _, Nat.zero_le _⟩
        · exact va_runU (As := []) (rest := []) ⟨hx, hb, hml, hown, hts⟩ (kX6_reach l D cs a sh LP Z hZ q2 f_q2.1 f_q2.2 σ F  v9 hc_v9) (va_cwU 0 hts gX11_told_X6_reach_u107X1 rfl rfl rfl rfl (by decide +kernel) ⟨Nat.le_of_ble_eq_true rfl, Nat.le_of_ble_eq_true rfl⟩) (pR_v hP hK (shr1 hK.1 hP f_q2.1 kq)) rfl rfl hl.1 rfl (lv_room (Nat.le_of_ble_eq_true rfl)) dX11_told_68 ⟨Nat.zero_le _, Nat.zero_le _⟩
        · exact va_runU (As := []) (rest := []) ⟨hx, hb, hml, hown, hts⟩ (kX6_reach l D cs a sh LP Z hZ q2 f_q2.1 f_q2.2 σ F  v9 hc_v9) (va_cwU 0 hts gX11_told_X6_reach_u107X2 rfl rfl rfl rfl (by decide +kernel) ⟨Nat.le_of_ble_eq_true rfl, Nat.le_of_ble_eq_true rfl⟩) (pR_v hP hK (shr2 hK.1 hP f_q2.1 kq)) rfl rfl hl.1 rfl (lv_room (Nat.le_of_ble_eq_true rfl)) dX11_told_68 ⟨Nat.zero_le _, Nat.zero_le _⟩
        · exact va_runU (As := []) (rest := []) ⟨hx, hb, hml, hown, hts⟩ (kX6_reach l D cs a sh LP Z hZ q2 f_q2.1 f_q2.2 σ F  v9 hc_v9) (va_cwU 0 hts gX11_told_X6_reach_u107X5 rfl rfl rfl rfl (by decide +kernel) ⟨Nat.le_of_ble_eq_true rfl, Nat.le_of_ble_eq_true rfl⟩) (pR_v hP hK (shr5 hK.1 hP f_q2.1 kq)) rfl rfl hl.1 rfl (lv_room (Nat.le_of_ble_eq_true rfl)) dX11_told_68 ⟨Nat.zero_le _, Nat.zero_le _⟩
        · exact va_runU (As := []) (rest := []) ⟨hx, hb, hml, hown, hts⟩ (kX6_reach l D cs a sh LP Z hZ q2 f_q2.1 f_q2.2 σ F  v9 hc_v9) (va_cwU 0 hts gX11_told_X6_reach_u107X8 rfl rfl rfl rfl (by decide +kernel) ⟨Nat.le_of_ble_eq_true rfl, Nat.le_of_ble_eq_true rfl⟩) (pR_v hP hK (shr7 hK.1 hP f_q2.1 kq)) rfl rfl hl.1 rfl (lv_room (Nat.le_of_ble_eq_true rfl)) dX11_told_68 ⟨Nat.zero_le _, Nat.zero_le _⟩
      exact mretS hx hb hr hlk h dX11_told_71
    have h := it_f c8 h
    by_cases c10 : x2 = (4 : Int32)
    · have h := it_t c10 h
      refine lv_tableIn (off := 56) (tgt := 72) hx hb dX11_told_16 (by rw [c10]; decide) (by rw [c10]; decide) (by rw [c10]; rfl) (by decide) ?_
      refine lv_aload_n hx hb dX11_told_72 rfl (lv_at hl 1 rfl) ?_
      refine va_get (D := D) (ci := 10) (v := .ref (a 1)) (C := RX11) (T := TX11) (N := 5) hx hb hts inX11_X11_told hown hK.1 hP 0 rfl rfl 0 (by decide) (hts (.fieldLink RX11 10 "SandPalace" "picture" "LSandPalace$Picture;") (by decide +kernel)) (fun _ h9 => h9) rfl dX11_told_73 ?_
      refine lv_iload_n hx hb dX11_told_76 rfl (lv_at hl 2 rfl) ?_
      obtain ⟨v11, hc_v11, h⟩ := bd_some h
      refine mcallS (va_runV (As := [.int x1]) (rest := []) ⟨hx, hb, hml, hown, hts⟩ (kX4_comesAfter l D cs a sh LP Z hZ σ F x1 v11 hc_v11) (cwV 1 hts gX11_told_X4_comesAfter rfl rfl rfl (by decide +kernel) ⟨Nat.le_of_ble_eq_true rfl, Nat.le_of_ble_eq_true rfl⟩) (pR_v hP hK (va_recv hK.1 hP (ci := 4) (q0 := 1) rfl rfl)) rfl rfl hl.1 rfl (lv_room (Nat.le_of_ble_eq_true rfl)) dX11_told_77 ⟨Nat.zero_le _, Nat.zero_le _⟩) ?_
      obtain ⟨v12, hc_v12, h⟩ := bd_some h
      refine mcallS (va_runS (As := [.int v11]) (rest := []) ⟨hx, hb, hml, hown, hts⟩ (kJ6_bitCount_0f7a4 l v11 v12 hc_v12) (va_cwS 1 hts gX11_told_J6_bitCount_0f7a4 rfl rfl rfl (by decide +kernel) ⟨Nat.le_of_ble_eq_true rfl, Nat.le_of_ble_eq_true rfl⟩) p0_s rfl rfl hl.1 rfl (lv_room (Nat.le_of_ble_eq_true rfl)) dX11_told_80 ⟨Nat.zero_le _, Nat.zero_le _⟩) ?_
      exact mretS hx hb hr hlk h dX11_told_83
    have h := it_f c10 h
    have ho : ∀ k : Int, 0 ≤ k → k ≤ 4 → ¬ Int32.toInt x2 = k := by
      intro k h1 h2
      rcases (show k = 0 ∨ k = 1 ∨ k = 2 ∨ k = 3 ∨ k = 4 by omega) with rfl | rfl | rfl | rfl | rfl
      · exact lv_neT c3 (by decide)
      · exact lv_neT c5 (by decide)
      · exact lv_neT c6 (by decide)
      · exact lv_neT c8 (by decide)
      · exact lv_neT c10 (by decide)
    refine lv_tableOut (tgt := 84) hx hb dX11_told_16 (tb_out ho) (by decide) ?_
    refine lv_iconst (v := ((-1) : Int32)) hx hb dX11_told_84 (by decide) ?_
    exact mretS hx hb hr hlk h dX11_told_85
def fX11_step (sh : Nat → Option Nat) (Z : ZT) (σ : Nat → Nat → Int32) (x1 : Int32) : Option Int32 :=
  bd (fX4_shapeOf sh Z σ x1) fun v1 => oc v1 (some ((-1) : Int32)) fun q2 => if (Z q2).1 = 7 then (some ((Z q2).2.2.2)) else (some ((-12) : Int32))
abbrev rmX11_step : Room := { frames := 2, cells := 0, slots := 0, locals := 43 }
theorem inX11_X11_step : ∀ w ∈ wsX110, w ∈ wsX11_step := by intro w h; simp only [wsX11_step, List.mem_cons, List.mem_append]; simp only [h, true_or, or_true]
theorem inX8_X11_step : ∀ w ∈ wsX80, w ∈ wsX11_step := by intro w h; simp only [wsX11_step, List.mem_cons, List.mem_append]; simp only [h, true_or, or_true]
set_option maxHeartbeats 4000000 in
set_option maxRecDepth 100000 in
theorem kX11_step (l : Launch) (D : va_G) (cs : Nat → ClassId) (a : Nat → Nat) (sh : Nat → Option Nat) (LP : List Nat) (Z : ZT) (hZ : shOK sh LP Z) (σ : Nat → Nat → Int32) (x1 : Int32) (r : Int32) (h : fX11_step sh Z σ x1 = some r) : Met l yX11_step wsX11_step rmX11_step (va_Pc [.ref (a 0), .int x1] (pR D cs (cW a cs sh LP Z σ))) (vp_Si (fun x => x = r)) 0 0 (fun _ => False) := by
  refine Met.ofW (cc := cX11_step) (maxL := 4) (ret := (some .int)) (by decide) rfl ?_
  intro p e s m args below meth c s₁ B hml hv
  obtain ⟨rfl, hP, hK⟩ := hv
  have C : cxt p s m _ meth c cX11_step 4 RX11 wsX11_step (some .int) := ⟨B.exec, B.bytes, hml, findClass_of_methodNamed B.named, atoms_spec (ws := wsX11_step) B.pre, B.returns, B.notSynchronized⟩
  obtain ⟨hx, hb, -, hown, hts, hr, hlk⟩ := id C
  refine entryW [.ref (a 0), .int x1] (n := 4) (Nat.le_of_ble_eq_true rfl) (fun ls hl => ?_)
  have hl : lv_has ls 4 [(0, .ref (a 0)), (1, .int x1)] := hl
  unfold fX11_step at h
  refine lv_aload_n hx hb dX11_step_0 rfl (lv_at hl 0 rfl) ?_
  refine va_get (D := D) (ci := 10) (v := .ref (a 1)) (C := RX11) (T := TX11) (N := 5) hx hb hts inX11_X11_step hown hK.1 hP 0 rfl rfl 0 (by decide) (hts (.fieldLink RX11 10 "SandPalace" "picture" "LSandPalace$Picture;") (by decide +kernel)) (fun _ h9 => h9) rfl dX11_step_1 ?_
  refine lv_iload_n hx hb dX11_step_4 rfl (lv_at hl 1 rfl) ?_
  obtain ⟨v1, hc_v1, h⟩ := bd_some h
  refine mcallSR (va_runV (As := [.int x1]) (rest := []) ⟨hx, hb, hml, hown, hts⟩ (kX4_shapeOf l D cs a sh LP Z hZ σ x1 v1 hc_v1) (cwV 1 hts gX11_step_X4_shapeOf rfl rfl rfl (by decide +kernel) ⟨Nat.le_of_ble_eq_true rfl, Nat.le_of_ble_eq_true rfl⟩) (pR_v hP hK (va_recv hK.1 hP (ci := 4) (q0 := 1) rfl rfl)) rfl rfl hl.1 rfl (lv_room (Nat.le_of_ble_eq_true rfl)) dX11_step_5 ⟨Nat.zero_le _, Nat.zero_le _⟩) ?_
  rcases ho_v1 : v1 with _ | q2
  · rw [ho_v1] at h
    refine lv_astore_nN (lv' := [(2, .null), (0, .ref (a 0)), (1, .int x1)]) hx hb dX11_step_8 rfl hl (by decide) rfl (fun ls hl => ?_)
    refine lv_aload_nN hx hb dX11_step_9 rfl (lv_at hl 0 rfl) ?_
    refine lv_ifnonnullN hx hb dX11_step_10 ?_
    refine lv_iconst (v := ((-1) : Int32)) hx hb dX11_step_13 (by decide) ?_
    exact mretS hx hb hr hlk h dX11_step_14
  · rw [ho_v1] at h hc_v1
    have f_q2 := shapeOf_ok hZ hc_v1
    refine lv_astore_n (lv' := [(2, .ref q2), (0, .ref (a 0)), (1, .int x1)]) hx hb dX11_step_8 rfl hl (by decide) rfl (fun ls hl => ?_)
    refine lv_aload_n hx hb dX11_step_9 rfl (lv_at hl 0 rfl) ?_
    refine lv_ifnonnull (tgt := 15) hx hb dX11_step_10 (by decide) ?_
    refine lv_aload_n hx hb dX11_step_15 rfl (lv_at hl 0 rfl) ?_
    by_cases c3 : (Z q2).1 = 7
    · have h := it_t c3 h
      refine shInstSign1 hx hb hown (hts (.classLink RX11 76 "SandPalace$Sign") (by decide +kernel)) hK hP f_q2.1 c3 dX11_step_16 ?_
      refine lv_if_eq (tgt := 34) hx hb dX11_step_19 (by decide) (fun c4 => ?_) (fun c4 => ?_)
      · exact absurd c4 (by decide)
      · refine lv_aload_n hx hb dX11_step_22 rfl (lv_at hl 0 rfl) ?_
        refine shCastSign hx hb hown (hts (.classLink RX11 76 "SandPalace$Sign") (by decide +kernel)) hK hP f_q2.1 c3 dX11_step_23 ?_
        refine lv_astore_n (lv' := [(3, .ref q2), (2, .ref q2), (0, .ref (a 0)), (1, .int x1)]) hx hb dX11_step_26 rfl hl (by decide) rfl (fun ls hl => ?_)
        refine lv_aload_n hx hb dX11_step_27 rfl (lv_at hl 0 rfl) ?_
        refine shgetS hx hb hts inX8_X11_step hown hK.1 hP f_q2.1 c3 (hts (.fieldLink RX11 119 "SandPalace$Sign" "step" "I") (by decide +kernel)) (fun _ h9 => h9) dX11_step_28 ?_
        refine lv_goto (tgt := 36) hx hb dX11_step_31 (by decide) ?_
        exact mretS hx hb hr hlk h dX11_step_36
    · have h := it_f c3 h
      refine shInstSign0 hx hb hown (hts (.classLink RX11 76 "SandPalace$Sign") (by decide +kernel)) hK hP f_q2.1 c3 f_q2.2 dX11_step_16 ?_
      refine lv_if_eq (tgt := 34) hx hb dX11_step_19 (by decide) (fun c5 => ?_) (fun c5 => ?_)
      · refine lv_bipush (v := ((-12) : Int32)) hx hb dX11_step_34 (by decide) ?_
        exact mretS hx hb hr hlk h dX11_step_36
      · exact absurd c5 (by decide)
def fX11_quarter (sh : Nat → Option Nat) (Z : ZT) (σ : Nat → Nat → Int32) (x1 : Int32) : Option Int32 :=
  bd (fX4_shapeOf sh Z σ x1) fun v1 => oc v1 (some ((-1) : Int32)) fun q2 => if ((Z q2).1 = 0 ∨ (Z q2).1 = 7) then (bd (fX0_cellsOfQuarter sh Z q2 σ) fun v5 => some v5) else (some ((-12) : Int32))
abbrev rmX11_quarter : Room := { frames := 2, cells := 0, slots := 0, locals := 43 }
theorem inX11_X11_quarter : ∀ w ∈ wsX110, w ∈ wsX11_quarter := by intro w h; simp only [wsX11_quarter, List.mem_cons, List.mem_append]; simp only [h, true_or, or_true]
set_option maxHeartbeats 4000000 in
set_option maxRecDepth 100000 in
theorem kX11_quarter (l : Launch) (D : va_G) (cs : Nat → ClassId) (a : Nat → Nat) (sh : Nat → Option Nat) (LP : List Nat) (Z : ZT) (hZ : shOK sh LP Z) (σ : Nat → Nat → Int32) (x1 : Int32) (r : Int32) (h : fX11_quarter sh Z σ x1 = some r) : Met l yX11_quarter wsX11_quarter rmX11_quarter (va_Pc [.ref (a 0), .int x1] (pR D cs (cW a cs sh LP Z σ))) (vp_Si (fun x => x = r)) 0 0 (fun _ => False) := by
  refine Met.ofW (cc := cX11_quarter) (maxL := 4) (ret := (some .int)) (by decide) rfl ?_
  intro p e s m args below meth c s₁ B hml hv
  obtain ⟨rfl, hP, hK⟩ := hv
  have C : cxt p s m _ meth c cX11_quarter 4 RX11 wsX11_quarter (some .int) := ⟨B.exec, B.bytes, hml, findClass_of_methodNamed B.named, atoms_spec (ws := wsX11_quarter) B.pre, B.returns, B.notSynchronized⟩
  obtain ⟨hx, hb, -, hown, hts, hr, hlk⟩ := id C
  refine entryW [.ref (a 0), .int x1] (n := 4) (Nat.le_of_ble_eq_true rfl) (fun ls hl => ?_)
  have hl : lv_has ls 4 [(0, .ref (a 0)), (1, .int x1)] := hl
  unfold fX11_quarter at h
  refine lv_aload_n hx hb dX11_quarter_0 rfl (lv_at hl 0 rfl) ?_
  refine va_get (D := D) (ci := 10) (v := .ref (a 1)) (C := RX11) (T := TX11) (N := 5) hx hb hts inX11_X11_quarter hown hK.1 hP 0 rfl rfl 0 (by decide) (hts (.fieldLink RX11 10 "SandPalace" "picture" "LSandPalace$Picture;") (by decide +kernel)) (fun _ h9 => h9) rfl dX11_quarter_1 ?_
  refine lv_iload_n hx hb dX11_quarter_4 rfl (lv_at hl 1 rfl) ?_
  obtain ⟨v1, hc_v1, h⟩ := bd_some h
  refine mcallSR (va_runV (As := [.int x1]) (rest := []) ⟨hx, hb, hml, hown, hts⟩ (kX4_shapeOf l D cs a sh LP Z hZ σ x1 v1 hc_v1) (cwV 1 hts gX11_quarter_X4_shapeOf rfl rfl rfl (by decide +kernel) ⟨Nat.le_of_ble_eq_true rfl, Nat.le_of_ble_eq_true rfl⟩) (pR_v hP hK (va_recv hK.1 hP (ci := 4) (q0 := 1) rfl rfl)) rfl rfl hl.1 rfl (lv_room (Nat.le_of_ble_eq_true rfl)) dX11_quarter_5 ⟨Nat.zero_le _, Nat.zero_le _⟩) ?_
  rcases ho_v1 : v1 with _ | q2
  · rw [ho_v1] at h
    refine lv_astore_nN (lv' := [(2, .null), (0, .ref (a 0)), (1, .int x1)]) hx hb dX11_quarter_8 rfl hl (by decide) rfl (fun ls hl => ?_)
    refine lv_aload_nN hx hb dX11_quarter_9 rfl (lv_at hl 0 rfl) ?_
    refine lv_ifnonnullN hx hb dX11_quarter_10 ?_
    refine lv_iconst (v := ((-1) : Int32)) hx hb dX11_quarter_13 (by decide) ?_
    exact mretS hx hb hr hlk h dX11_quarter_14
  · rw [ho_v1] at h hc_v1
    have f_q2 := shapeOf_ok hZ hc_v1
    refine lv_astore_n (lv' := [(2, .ref q2), (0, .ref (a 0)), (1, .int x1)]) hx hb dX11_quarter_8 rfl hl (by decide) rfl (fun ls hl => ?_)
    refine lv_aload_n hx hb dX11_quarter_9 rfl (lv_at hl 0 rfl) ?_
    refine lv_ifnonnull (tgt := 15) hx hb dX11_quarter_10 (by decide) ?_
    refine lv_aload_n hx hb dX11_quarter_15 rfl (lv_at hl 0 rfl) ?_
    by_cases c3 : ((Z q2).1 = 0 ∨ (Z q2).1 = 7)
    · have h := it_t c3 h
      refine shInstBlock1 hx hb hown (hts (.classLink RX11 73 "SandPalace$Block") (by decide +kernel)) hK hP f_q2.1 c3 dX11_quarter_16 ?_
      refine lv_if_eq (tgt := 34) hx hb dX11_quarter_19 (by decide) (fun c4 => ?_) (fun c4 => ?_)
      · exact absurd c4 (by decide)
      · refine lv_aload_n hx hb dX11_quarter_22 rfl (lv_at hl 0 rfl) ?_
        refine shCastBlock hx hb hown (hts (.classLink RX11 73 "SandPalace$Block") (by decide +kernel)) hK hP f_q2.1 c3 dX11_quarter_23 ?_
        refine lv_astore_n (lv' := [(3, .ref q2), (2, .ref q2), (0, .ref (a 0)), (1, .int x1)]) hx hb dX11_quarter_26 rfl hl (by decide) rfl (fun ls hl => ?_)
        refine lv_aload_n hx hb dX11_quarter_27 rfl (lv_at hl 0 rfl) ?_
        obtain ⟨v5, hc_v5, h⟩ := bd_some h
        refine mcallS (r := v5) (rest := []) (a0 := (Value.ref q2 :: []).toArray) ?_ ?_
        · rcases (id c3) with kq | kq
          · exact va_runV (As := []) (rest := []) ⟨hx, hb, hml, hown, hts⟩ (kX0_cellsOfQuarter l D cs a sh LP Z hZ q2 f_q2.1 c3 σ  v5 hc_v5) (cwV 0 hts gX11_quarter_X0_cellsOfQuarter rfl rfl rfl (by decide +kernel) ⟨Nat.le_of_ble_eq_true rfl, Nat.le_of_ble_eq_true rfl⟩) (pR_v hP hK (shr0 hK.1 hP f_q2.1 kq)) rfl rfl hl.1 rfl (lv_room (Nat.le_of_ble_eq_true rfl)) dX11_quarter_28 ⟨Nat.zero_le _, Nat.zero_le _⟩
          · exact va_runU (As := []) (rest := []) ⟨hx, hb, hml, hown, hts⟩ (kX0_cellsOfQuarter l D cs a sh LP Z hZ q2 f_q2.1 c3 σ  v5 hc_v5) (va_cwU 0 hts gX11_quarter_X0_cellsOfQuarter_u122X8 rfl rfl rfl rfl (by decide +kernel) ⟨Nat.le_of_ble_eq_true rfl, Nat.le_of_ble_eq_true rfl⟩) (pR_v hP hK (shr7 hK.1 hP f_q2.1 kq)) rfl rfl hl.1 rfl (lv_room (Nat.le_of_ble_eq_true rfl)) dX11_quarter_28 ⟨Nat.zero_le _, Nat.zero_le _⟩
        refine lv_goto (tgt := 36) hx hb dX11_quarter_31 (by decide) ?_
        exact mretS hx hb hr hlk h dX11_quarter_36
    · have h := it_f c3 h
      refine shInstBlock0 hx hb hown (hts (.classLink RX11 73 "SandPalace$Block") (by decide +kernel)) hK hP f_q2.1 c3 f_q2.2 dX11_quarter_16 ?_
      refine lv_if_eq (tgt := 34) hx hb dX11_quarter_19 (by decide) (fun c6 => ?_) (fun c6 => ?_)
      · refine lv_bipush (v := ((-12) : Int32)) hx hb dX11_quarter_34 (by decide) ?_
        exact mretS hx hb hr hlk h dX11_quarter_36
      · exact absurd c6 (by decide)
def fX11_isCell (x0 : Int32) (x1 : Int32) : Option Int32 :=
  bd (fX11_within x0 (0 : Int32) (15 : Int32)) fun v1 => if v1 = 0 then (some (0 : Int32)) else (bd (fX11_within x1 (0 : Int32) (15 : Int32)) fun v3 => if v3 = 0 then (some (0 : Int32)) else (some (1 : Int32)))
abbrev rmX11_isCell : Room := { frames := 1, cells := 0, slots := 0, locals := 22 }
set_option maxHeartbeats 4000000 in
set_option maxRecDepth 100000 in
theorem kX11_isCell (l : Launch) (x0 : Int32) (x1 : Int32) (r : Int32) (h : fX11_isCell x0 x1 = some r) : Met l yX11_isCell wsX11_isCell rmX11_isCell (va_Pc [.int x0, .int x1] (p0)) (vp_Si (fun x => x = r ∧ (r = 0 ∨ r = 1))) 0 0 (fun _ => False) := by
  refine Met.ofW (cc := cX11_isCell) (maxL := 2) (ret := (some .boolean)) (by decide) rfl ?_
  intro p e s m args below meth c s₁ B hml hv
  obtain ⟨rfl, -⟩ := hv
  have C : cxt p s m _ meth c cX11_isCell 2 RX11 wsX11_isCell (some .boolean) := ⟨B.exec, B.bytes, hml, findClass_of_methodNamed B.named, atoms_spec (ws := wsX11_isCell) B.pre, B.returns, B.notSynchronized⟩
  obtain ⟨hx, hb, -, hown, hts, hr, hlk⟩ := id C
  refine entryW [.int x0, .int x1] (n := 2) (Nat.le_of_ble_eq_true rfl) (fun ls hl => ?_)
  have hl : lv_has ls 2 [(0, .int x0), (1, .int x1)] := hl
  unfold fX11_isCell at h
  refine lv_iload_n hx hb dX11_isCell_0 rfl (lv_at hl 0 rfl) ?_
  refine lv_iconst (v := (0 : Int32)) hx hb dX11_isCell_1 (by decide) ?_
  refine lv_bipush (v := (15 : Int32)) hx hb dX11_isCell_2 (by decide) ?_
  obtain ⟨v1, hc_v1, h⟩ := bd_some h
  refine mcallSZ (va_runS (As := [.int x0, .int (0 : Int32), .int (15 : Int32)]) (rest := []) ⟨hx, hb, hml, hown, hts⟩ (kX11_within l x0 (0 : Int32) (15 : Int32) v1 hc_v1) (va_cwS 3 hts gX11_isCell_X11_within rfl rfl rfl (by decide +kernel) ⟨Nat.le_of_ble_eq_true rfl, Nat.le_of_ble_eq_true rfl⟩) p0_s rfl rfl hl.1 rfl (lv_room (Nat.le_of_ble_eq_true rfl)) dX11_isCell_4 ⟨Nat.zero_le _, Nat.zero_le _⟩) (fun z_v1 => ?_)
  refine lv_if_eq (tgt := 24) hx hb dX11_isCell_7 (by decide) (fun c2 => ?_) (fun c2 => ?_)
  · have h := it_t c2 h
    refine lv_iconst (v := (0 : Int32)) hx hb dX11_isCell_24 (by decide) ?_
    exact mretSZ hx hb hr hlk h (Or.inl rfl) dX11_isCell_25
  · have h := it_f c2 h
    refine lv_iload_n hx hb dX11_isCell_10 rfl (lv_at hl 1 rfl) ?_
    refine lv_iconst (v := (0 : Int32)) hx hb dX11_isCell_11 (by decide) ?_
    refine lv_bipush (v := (15 : Int32)) hx hb dX11_isCell_12 (by decide) ?_
    obtain ⟨v3, hc_v3, h⟩ := bd_some h
    refine mcallSZ (va_runS (As := [.int x1, .int (0 : Int32), .int (15 : Int32)]) (rest := []) ⟨hx, hb, hml, hown, hts⟩ (kX11_within l x1 (0 : Int32) (15 : Int32) v3 hc_v3) (va_cwS 3 hts gX11_isCell_X11_within rfl rfl rfl (by decide +kernel) ⟨Nat.le_of_ble_eq_true rfl, Nat.le_of_ble_eq_true rfl⟩) p0_s rfl rfl hl.1 rfl (lv_room (Nat.le_of_ble_eq_true rfl)) dX11_isCell_14 ⟨Nat.zero_le _, Nat.zero_le _⟩) (fun z_v3 => ?_)
    refine lv_if_eq (tgt := 24) hx hb dX11_isCell_17 (by decide) (fun c4 => ?_) (fun c4 => ?_)
    · have h := it_t c4 h
      refine lv_iconst (v := (0 : Int32)) hx hb dX11_isCell_24 (by decide) ?_
      exact mretSZ hx hb hr hlk h (Or.inl rfl) dX11_isCell_25
    · have h := it_f c4 h
      refine lv_iconst (v := (1 : Int32)) hx hb dX11_isCell_20 (by decide) ?_
      refine lv_goto (tgt := 25) hx hb dX11_isCell_21 (by decide) ?_
      exact mretSZ hx hb hr hlk h (Or.inr rfl) dX11_isCell_25
def fX11_cell (F : Nat) (sh : Nat → Option Nat) (Z : ZT) (σ : Nat → Nat → Int32) (x1 : Int32) (x2 : Int32) (x3 : Int32) : Option Int32 :=
  bd (fX11_isCell x1 x2) fun v1 => if ¬ v1 = 0 then (bd (fX11_placeOf F x1 x2) fun v3 => if x3 = (0 : Int32) then (bd (fX11_quarterOf x1 x2) fun v5 => bd (fX4_look F sh Z σ v3 v5) fun v6 => some v6) else if x3 = (1 : Int32) then (bd (fX4_layers F sh Z σ v3) fun v8 => bd (fJ6_bitCount_0f7a4 v8) fun v9 => some v9) else if x3 = (2 : Int32) then (bd (fX4_layers F sh Z σ v3) fun v11 => some v11) else (some ((-1) : Int32))) else (some ((-1) : Int32))
abbrev rmX11_cell : Room := { frames := 4, cells := 0, slots := 0, locals := 87 }
theorem inX11_X11_cell : ∀ w ∈ wsX110, w ∈ wsX11_cell := by intro w h; simp only [wsX11_cell, List.mem_cons, List.mem_append]; simp only [h, true_or, or_true]
set_option maxHeartbeats 4000000 in
set_option maxRecDepth 100000 in
theorem kX11_cell (l : Launch) (D : va_G) (cs : Nat → ClassId) (a : Nat → Nat) (sh : Nat → Option Nat) (LP : List Nat) (Z : ZT) (hZ : shOK sh LP Z) (σ : Nat → Nat → Int32) (F : Nat) (x1 : Int32) (x2 : Int32) (x3 : Int32) (r : Int32) (h : fX11_cell F sh Z σ x1 x2 x3 = some r) : Met l yX11_cell wsX11_cell rmX11_cell (va_Pc [.ref (a 0), .int x1, .int x2, .int x3] (pR D cs (cW a cs sh LP Z σ))) (vp_Si (fun x => x = r)) 0 0 (fun _ => False) := by
  refine Met.ofW (cc := cX11_cell) (maxL := 5) (ret := (some .int)) (by decide) rfl ?_
  intro p e s m args below meth c s₁ B hml hv
  obtain ⟨rfl, hP, hK⟩ := hv
  have C : cxt p s m _ meth c cX11_cell 5 RX11 wsX11_cell (some .int) := ⟨B.exec, B.bytes, hml, findClass_of_methodNamed B.named, atoms_spec (ws := wsX11_cell) B.pre, B.returns, B.notSynchronized⟩
  obtain ⟨hx, hb, -, hown, hts, hr, hlk⟩ := id C
  refine entryW [.ref (a 0), .int x1, .int x2, .int x3] (n := 5) (Nat.le_of_ble_eq_true rfl) (fun ls hl => ?_)
  have hl : lv_has ls 5 [(0, .ref (a 0)), (1, .int x1), (2, .int x2), (3, .int x3)] := hl
  unfold fX11_cell at h
  refine lv_iload_n hx hb dX11_cell_0 rfl (lv_at hl 1 rfl) ?_
  refine lv_iload_n hx hb dX11_cell_1 rfl (lv_at hl 2 rfl) ?_
  obtain ⟨v1, hc_v1, h⟩ := bd_some h
  refine mcallSZ (va_runS (As := [.int x1, .int x2]) (rest := []) ⟨hx, hb, hml, hown, hts⟩ (kX11_isCell l x1 x2 v1 hc_v1) (va_cwS 2 hts gX11_cell_X11_isCell rfl rfl rfl (by decide +kernel) ⟨Nat.le_of_ble_eq_true rfl, Nat.le_of_ble_eq_true rfl⟩) p0_s rfl rfl hl.1 rfl (lv_room (Nat.le_of_ble_eq_true rfl)) dX11_cell_2 ⟨Nat.zero_le _, Nat.zero_le _⟩) (fun z_v1 => ?_)
  refine lv_if_ne (tgt := 10) hx hb dX11_cell_5 (by decide) (fun c2 => ?_) (fun c2 => ?_)
  · have h := it_t c2 h
    refine lv_iload_n hx hb dX11_cell_10 rfl (lv_at hl 1 rfl) ?_
    refine lv_iload_n hx hb dX11_cell_11 rfl (lv_at hl 2 rfl) ?_
    obtain ⟨v3, hc_v3, h⟩ := bd_some h
    refine mcallS (va_runS (As := [.int x1, .int x2]) (rest := []) ⟨hx, hb, hml, hown, hts⟩ (kX11_placeOf l F x1 x2 v3 hc_v3) (va_cwS 2 hts gX11_cell_X11_placeOf rfl rfl rfl (by decide +kernel) ⟨Nat.le_of_ble_eq_true rfl, Nat.le_of_ble_eq_true rfl⟩) p0_s rfl rfl hl.1 rfl (lv_room (Nat.le_of_ble_eq_true rfl)) dX11_cell_12 ⟨Nat.zero_le _, Nat.zero_le _⟩) ?_
    refine lv_istore (lv' := [(4, .int v3), (0, .ref (a 0)), (1, .int x1), (2, .int x2), (3, .int x3)]) hx hb dX11_cell_15 hl (by decide) rfl (fun ls hl => ?_)
    refine lv_iload_n hx hb dX11_cell_17 rfl (lv_at hl 4 rfl) ?_
    by_cases c4 : x3 = (0 : Int32)
    · have h := it_t c4 h
      refine lv_tableIn (off := 26) (tgt := 44) hx hb dX11_cell_18 (by rw [c4]; decide) (by rw [c4]; decide) (by rw [c4]; rfl) (by decide) ?_
      refine lv_aload_n hx hb dX11_cell_44 rfl (lv_at hl 1 rfl) ?_
      refine va_get (D := D) (ci := 10) (v := .ref (a 1)) (C := RX11) (T := TX11) (N := 5) hx hb hts inX11_X11_cell hown hK.1 hP 0 rfl rfl 0 (by decide) (hts (.fieldLink RX11 10 "SandPalace" "picture" "LSandPalace$Picture;") (by decide +kernel)) (fun _ h9 => h9) rfl dX11_cell_45 ?_
      refine lv_iload hx hb dX11_cell_48 (lv_at hl 0 rfl) ?_
      refine lv_iload_n hx hb dX11_cell_50 rfl (lv_at hl 2 rfl) ?_
      refine lv_iload_n hx hb dX11_cell_51 rfl (lv_at hl 3 rfl) ?_
      obtain ⟨v5, hc_v5, h⟩ := bd_some h
      refine mcallS (va_runS (As := [.int x1, .int x2]) (rest := [.int v3, .ref (a 1)]) ⟨hx, hb, hml, hown, hts⟩ (kX11_quarterOf l x1 x2 v5 hc_v5) (va_cwS 2 hts gX11_cell_X11_quarterOf rfl rfl rfl (by decide +kernel) ⟨Nat.le_of_ble_eq_true rfl, Nat.le_of_ble_eq_true rfl⟩) p0_s rfl rfl hl.1 rfl (lv_room (Nat.le_of_ble_eq_true rfl)) dX11_cell_52 ⟨Nat.zero_le _, Nat.zero_le _⟩) ?_
      obtain ⟨v6, hc_v6, h⟩ := bd_some h
      refine mcallS (va_runV (As := [.int v3, .int v5]) (rest := []) ⟨hx, hb, hml, hown, hts⟩ (kX4_look l D cs a sh LP Z hZ σ F v3 v5 v6 hc_v6) (cwV 2 hts gX11_cell_X4_look rfl rfl rfl (by decide +kernel) ⟨Nat.le_of_ble_eq_true rfl, Nat.le_of_ble_eq_true rfl⟩) (pR_v hP hK (va_recv hK.1 hP (ci := 4) (q0 := 1) rfl rfl)) rfl rfl hl.1 rfl (lv_room (Nat.le_of_ble_eq_true rfl)) dX11_cell_55 ⟨Nat.zero_le _, Nat.zero_le _⟩) ?_
      exact mretS hx hb hr hlk h dX11_cell_58
    have h := it_f c4 h
    by_cases c7 : x3 = (1 : Int32)
    · have h := it_t c7 h
      refine lv_tableIn (off := 41) (tgt := 59) hx hb dX11_cell_18 (by rw [c7]; decide) (by rw [c7]; decide) (by rw [c7]; rfl) (by decide) ?_
      refine lv_aload_n hx hb dX11_cell_59 rfl (lv_at hl 1 rfl) ?_
      refine va_get (D := D) (ci := 10) (v := .ref (a 1)) (C := RX11) (T := TX11) (N := 5) hx hb hts inX11_X11_cell hown hK.1 hP 0 rfl rfl 0 (by decide) (hts (.fieldLink RX11 10 "SandPalace" "picture" "LSandPalace$Picture;") (by decide +kernel)) (fun _ h9 => h9) rfl dX11_cell_60 ?_
      refine lv_iload hx hb dX11_cell_63 (lv_at hl 0 rfl) ?_
      obtain ⟨v8, hc_v8, h⟩ := bd_some h
      refine mcallS (va_runV (As := [.int v3]) (rest := []) ⟨hx, hb, hml, hown, hts⟩ (kX4_layers l D cs a sh LP Z hZ σ F v3 v8 hc_v8) (cwV 1 hts gX11_cell_X4_layers rfl rfl rfl (by decide +kernel) ⟨Nat.le_of_ble_eq_true rfl, Nat.le_of_ble_eq_true rfl⟩) (pR_v hP hK (va_recv hK.1 hP (ci := 4) (q0 := 1) rfl rfl)) rfl rfl hl.1 rfl (lv_room (Nat.le_of_ble_eq_true rfl)) dX11_cell_65 ⟨Nat.zero_le _, Nat.zero_le _⟩) ?_
      obtain ⟨v9, hc_v9, h⟩ := bd_some h
      refine mcallS (va_runS (As := [.int v8]) (rest := []) ⟨hx, hb, hml, hown, hts⟩ (kJ6_bitCount_0f7a4 l v8 v9 hc_v9) (va_cwS 1 hts gX11_cell_J6_bitCount_0f7a4 rfl rfl rfl (by decide +kernel) ⟨Nat.le_of_ble_eq_true rfl, Nat.le_of_ble_eq_true rfl⟩) p0_s rfl rfl hl.1 rfl (lv_room (Nat.le_of_ble_eq_true rfl)) dX11_cell_68 ⟨Nat.zero_le _, Nat.zero_le _⟩) ?_
      exact mretS hx hb hr hlk h dX11_cell_71
    have h := it_f c7 h
    by_cases c10 : x3 = (2 : Int32)
    · have h := it_t c10 h
      refine lv_tableIn (off := 54) (tgt := 72) hx hb dX11_cell_18 (by rw [c10]; decide) (by rw [c10]; decide) (by rw [c10]; rfl) (by decide) ?_
      refine lv_aload_n hx hb dX11_cell_72 rfl (lv_at hl 1 rfl) ?_
      refine va_get (D := D) (ci := 10) (v := .ref (a 1)) (C := RX11) (T := TX11) (N := 5) hx hb hts inX11_X11_cell hown hK.1 hP 0 rfl rfl 0 (by decide) (hts (.fieldLink RX11 10 "SandPalace" "picture" "LSandPalace$Picture;") (by decide +kernel)) (fun _ h9 => h9) rfl dX11_cell_73 ?_
      refine lv_iload hx hb dX11_cell_76 (lv_at hl 0 rfl) ?_
      obtain ⟨v11, hc_v11, h⟩ := bd_some h
      refine mcallS (va_runV (As := [.int v3]) (rest := []) ⟨hx, hb, hml, hown, hts⟩ (kX4_layers l D cs a sh LP Z hZ σ F v3 v11 hc_v11) (cwV 1 hts gX11_cell_X4_layers rfl rfl rfl (by decide +kernel) ⟨Nat.le_of_ble_eq_true rfl, Nat.le_of_ble_eq_true rfl⟩) (pR_v hP hK (va_recv hK.1 hP (ci := 4) (q0 := 1) rfl rfl)) rfl rfl hl.1 rfl (lv_room (Nat.le_of_ble_eq_true rfl)) dX11_cell_78 ⟨Nat.zero_le _, Nat.zero_le _⟩) ?_
      exact mretS hx hb hr hlk h dX11_cell_81
    have h := it_f c10 h
    have ho : ∀ k : Int, 0 ≤ k → k ≤ 2 → ¬ Int32.toInt x3 = k := by
      intro k h1 h2
      rcases (show k = 0 ∨ k = 1 ∨ k = 2 by omega) with rfl | rfl | rfl
      · exact lv_neT c4 (by decide)
      · exact lv_neT c7 (by decide)
      · exact lv_neT c10 (by decide)
    refine lv_tableOut (tgt := 82) hx hb dX11_cell_18 (tb_out ho) (by decide) ?_
    refine lv_iconst (v := ((-1) : Int32)) hx hb dX11_cell_82 (by decide) ?_
    exact mretS hx hb hr hlk h dX11_cell_83
  · have h := it_n c2 h
    refine lv_iconst (v := ((-1) : Int32)) hx hb dX11_cell_8 (by decide) ?_
    exact mretS hx hb hr hlk h dX11_cell_9
def fX11_count (F : Nat) (sh : Nat → Option Nat) (Z : ZT) (σ : Nat → Nat → Int32) (x1 : Int32) : Option Int32 :=
  bd (fX11_within x1 (0 : Int32) (9 : Int32)) fun v1 => if v1 = 0 then (some ((-1) : Int32)) else (bd (fX4_cellsThatLook F sh Z σ x1) fun v3 => some v3)
abbrev rmX11_count : Room := { frames := 5, cells := 0, slots := 0, locals := 111 }
theorem inX11_X11_count : ∀ w ∈ wsX110, w ∈ wsX11_count := by intro w h; simp only [wsX11_count, List.mem_cons, List.mem_append]; simp only [h, true_or, or_true]
set_option maxHeartbeats 4000000 in
set_option maxRecDepth 100000 in
theorem kX11_count (l : Launch) (D : va_G) (cs : Nat → ClassId) (a : Nat → Nat) (sh : Nat → Option Nat) (LP : List Nat) (Z : ZT) (hZ : shOK sh LP Z) (σ : Nat → Nat → Int32) (F : Nat) (x1 : Int32) (r : Int32) (h : fX11_count F sh Z σ x1 = some r) : Met l yX11_count wsX11_count rmX11_count (va_Pc [.ref (a 0), .int x1] (pR D cs (cW a cs sh LP Z σ))) (vp_Si (fun x => x = r)) 0 0 (fun _ => False) := by
  refine Met.ofW (cc := cX11_count) (maxL := 2) (ret := (some .int)) (by decide) rfl ?_
  intro p e s m args below meth c s₁ B hml hv
  obtain ⟨rfl, hP, hK⟩ := hv
  have C : cxt p s m _ meth c cX11_count 2 RX11 wsX11_count (some .int) := ⟨B.exec, B.bytes, hml, findClass_of_methodNamed B.named, atoms_spec (ws := wsX11_count) B.pre, B.returns, B.notSynchronized⟩
  obtain ⟨hx, hb, -, hown, hts, hr, hlk⟩ := id C
  refine entryW [.ref (a 0), .int x1] (n := 2) (Nat.le_of_ble_eq_true rfl) (fun ls hl => ?_)
  have hl : lv_has ls 2 [(0, .ref (a 0)), (1, .int x1)] := hl
  unfold fX11_count at h
  refine lv_iload_n hx hb dX11_count_0 rfl (lv_at hl 1 rfl) ?_
  refine lv_iconst (v := (0 : Int32)) hx hb dX11_count_1 (by decide) ?_
  refine lv_bipush (v := (9 : Int32)) hx hb dX11_count_2 (by decide) ?_
  obtain ⟨v1, hc_v1, h⟩ := bd_some h
  refine mcallSZ (va_runS (As := [.int x1, .int (0 : Int32), .int (9 : Int32)]) (rest := []) ⟨hx, hb, hml, hown, hts⟩ (kX11_within l x1 (0 : Int32) (9 : Int32) v1 hc_v1) (va_cwS 3 hts gX11_count_X11_within rfl rfl rfl (by decide +kernel) ⟨Nat.le_of_ble_eq_true rfl, Nat.le_of_ble_eq_true rfl⟩) p0_s rfl rfl hl.1 rfl (lv_room (Nat.le_of_ble_eq_true rfl)) dX11_count_4 ⟨Nat.zero_le _, Nat.zero_le _⟩) (fun z_v1 => ?_)
  refine lv_if_eq (tgt := 21) hx hb dX11_count_7 (by decide) (fun c2 => ?_) (fun c2 => ?_)
  · have h := it_t c2 h
    refine lv_iconst (v := ((-1) : Int32)) hx hb dX11_count_21 (by decide) ?_
    exact mretS hx hb hr hlk h dX11_count_22
  · have h := it_f c2 h
    refine lv_aload_n hx hb dX11_count_10 rfl (lv_at hl 0 rfl) ?_
    refine va_get (D := D) (ci := 10) (v := .ref (a 1)) (C := RX11) (T := TX11) (N := 5) hx hb hts inX11_X11_count hown hK.1 hP 0 rfl rfl 0 (by decide) (hts (.fieldLink RX11 10 "SandPalace" "picture" "LSandPalace$Picture;") (by decide +kernel)) (fun _ h9 => h9) rfl dX11_count_11 ?_
    refine lv_iload_n hx hb dX11_count_14 rfl (lv_at hl 1 rfl) ?_
    obtain ⟨v3, hc_v3, h⟩ := bd_some h
    refine mcallS (va_runV (As := [.int x1]) (rest := []) ⟨hx, hb, hml, hown, hts⟩ (kX4_cellsThatLook l D cs a sh LP Z hZ σ F x1 v3 hc_v3) (cwV 1 hts gX11_count_X4_cellsThatLook rfl rfl rfl (by decide +kernel) ⟨Nat.le_of_ble_eq_true rfl, Nat.le_of_ble_eq_true rfl⟩) (pR_v hP hK (va_recv hK.1 hP (ci := 4) (q0 := 1) rfl rfl)) rfl rfl hl.1 rfl (lv_room (Nat.le_of_ble_eq_true rfl)) dX11_count_15 ⟨Nat.zero_le _, Nat.zero_le _⟩) ?_
    refine lv_goto (tgt := 22) hx hb dX11_count_18 (by decide) ?_
    exact mretS hx hb hr hlk h dX11_count_22
def fX11_unlike (F : Nat) (sh : Nat → Option Nat) (Z : ZT) (σ : Nat → Nat → Int32)  : Option Int32 :=
  bd (fX4_cellsUnlikeQuarterNought F sh Z σ) fun v1 => some v1
abbrev rmX11_unlike : Room := { frames := 5, cells := 0, slots := 0, locals := 111 }
theorem inX11_X11_unlike : ∀ w ∈ wsX110, w ∈ wsX11_unlike := by intro w h; simp only [wsX11_unlike, List.mem_cons, List.mem_append]; simp only [h, true_or, or_true]
set_option maxHeartbeats 4000000 in
set_option maxRecDepth 100000 in
theorem kX11_unlike (l : Launch) (D : va_G) (cs : Nat → ClassId) (a : Nat → Nat) (sh : Nat → Option Nat) (LP : List Nat) (Z : ZT) (hZ : shOK sh LP Z) (σ : Nat → Nat → Int32) (F : Nat)  (r : Int32) (h : fX11_unlike F sh Z σ = some r) : Met l yX11_unlike wsX11_unlike rmX11_unlike (va_Pc [.ref (a 0)] (pR D cs (cW a cs sh LP Z σ))) (vp_Si (fun x => x = r)) 0 0 (fun _ => False) := by
  refine Met.ofW (cc := cX11_unlike) (maxL := 1) (ret := (some .int)) (by decide) rfl ?_
  intro p e s m args below meth c s₁ B hml hv
  obtain ⟨rfl, hP, hK⟩ := hv
  have C : cxt p s m _ meth c cX11_unlike 1 RX11 wsX11_unlike (some .int) := ⟨B.exec, B.bytes, hml, findClass_of_methodNamed B.named, atoms_spec (ws := wsX11_unlike) B.pre, B.returns, B.notSynchronized⟩
  obtain ⟨hx, hb, -, hown, hts, hr, hlk⟩ := id C
  refine entryW [.ref (a 0)] (n := 1) (Nat.le_of_ble_eq_true rfl) (fun ls hl => ?_)
  have hl : lv_has ls 1 [(0, .ref (a 0))] := hl
  unfold fX11_unlike at h
  refine lv_aload_n hx hb dX11_unlike_0 rfl (lv_at hl 0 rfl) ?_
  refine va_get (D := D) (ci := 10) (v := .ref (a 1)) (C := RX11) (T := TX11) (N := 5) hx hb hts inX11_X11_unlike hown hK.1 hP 0 rfl rfl 0 (by decide) (hts (.fieldLink RX11 10 "SandPalace" "picture" "LSandPalace$Picture;") (by decide +kernel)) (fun _ h9 => h9) rfl dX11_unlike_1 ?_
  obtain ⟨v1, hc_v1, h⟩ := bd_some h
  refine mcallS (va_runV (As := []) (rest := []) ⟨hx, hb, hml, hown, hts⟩ (kX4_cellsUnlikeQuarterNought l D cs a sh LP Z hZ σ F v1 hc_v1) (cwV 0 hts gX11_unlike_X4_cellsUnlikeQuarterNought rfl rfl rfl (by decide +kernel) ⟨Nat.le_of_ble_eq_true rfl, Nat.le_of_ble_eq_true rfl⟩) (pR_v hP hK (va_recv hK.1 hP (ci := 4) (q0 := 1) rfl rfl)) rfl rfl hl.1 rfl (lv_room (Nat.le_of_ble_eq_true rfl)) dX11_unlike_4 ⟨Nat.zero_le _, Nat.zero_le _⟩) ?_
  exact mretS hx hb hr hlk h dX11_unlike_7
def fX11_hem_J31 (sh : Nat → Option Nat) (Z : ZT) (x1 : Int32) (x2 : Int32) (x3 : Int32) (t0 : Int32) (σ : Nat → Nat → Int32) : Option (Int32 × (Nat → Nat → Int32)) :=
  bd (fX4_setHem sh Z σ x1 x2 x3) fun σ6 => bd (fX10_forget sh Z σ6) fun σ8 => some (t0, σ8)
def fX11_hem (sh : Nat → Option Nat) (Z : ZT) (σ : Nat → Nat → Int32) (x1 : Int32) (x2 : Int32) (x3 : Int32) : Option (Int32 × (Nat → Nat → Int32)) :=
  bd (fX4_areTwo sh Z σ x1 x2) fun v1 => if ¬ v1 = 0 then (bd (fX4_hems sh Z σ x1 x2) fun v3 => if v3 = 0 then (fX11_hem_J31 sh Z x1 x2 x3 (0 : Int32) σ) else (fX11_hem_J31 sh Z x1 x2 x3 (1 : Int32) σ)) else (some (((-1) : Int32), σ))
abbrev rmX11_hem : Room := { frames := 2, cells := 0, slots := 0, locals := 44 }
theorem inX11_X11_hem : ∀ w ∈ wsX110, w ∈ wsX11_hem := by intro w h; simp only [wsX11_hem, List.mem_cons, List.mem_append]; simp only [h, true_or, or_true]
set_option maxHeartbeats 4000000 in
set_option maxRecDepth 100000 in
theorem wX11_hem_J31 {p : Program} {l : Launch} {e : Env} {s : State} {m : MethodId} {args : Array Value} {below : List Frame} {meth : Method} {c : Code} (C : cxt p s m args meth c cX11_hem 5 RX11 wsX11_hem (some .int)) {D : va_G} {cs : Nat → ClassId} {a : Nat → Nat} {sh : Nat → Option Nat} {LP : List Nat} {Z : ZT} (hZ : shOK sh LP Z) (hK : KK D cs s) {A : Nat → Prop} (hA : ∀ q, s.heap.size ≤ q → A q) (r : Int32) (u9 : Nat → Nat → Int32) (x1 : Int32) (x2 : Int32) (x3 : Int32) (t0 : Int32) (σ : Nat → Nat → Int32) (H : Heap) (locs : List Loc) (ls : Array Slot) (hP : va_P D vwCl (cW a cs sh LP Z σ) H) (hD : va_D A (cW a cs sh LP Z σ)) (hS : va_S A s.heap H locs) (hl : lv_has ls 5 [(0, .ref (a 0)), (1, .int x1), (2, .int x2), (3, .int x3)]) (h : fX11_hem_J31 sh Z x1 x2 x3 t0 σ = some (r, u9)) : W p l e rmX11_hem s m args below meth c H locs 0 0 (MQ below (va_Qi (fun x y => x = r ∧ y = u9) (qB D (cW a cs sh LP Z) A) A) args s 0 0 A) (F0 m 31 ls [.int t0]) := by
  obtain ⟨hx, hb, hml, hown, hts, hr, hlk⟩ := id C
  unfold fX11_hem_J31 at h
  refine lv_istore (lv' := [(4, .int t0), (0, .ref (a 0)), (1, .int x1), (2, .int x2), (3, .int x3)]) hx hb dX11_hem_31 hl (by decide) rfl (fun ls hl => ?_)
  refine lv_aload_n hx hb dX11_hem_33 rfl (lv_at hl 1 rfl) ?_
  refine va_get (D := D) (ci := 10) (v := .ref (a 1)) (C := RX11) (T := TX11) (N := 5) hx hb hts inX11_X11_hem hown hK.1 hP 0 rfl rfl 0 (by decide) (hts (.fieldLink RX11 10 "SandPalace" "picture" "LSandPalace$Picture;") (by decide +kernel)) (fun _ h9 => h9) rfl dX11_hem_34 ?_
  refine lv_iload_n hx hb dX11_hem_37 rfl (lv_at hl 2 rfl) ?_
  refine lv_iload_n hx hb dX11_hem_38 rfl (lv_at hl 3 rfl) ?_
  refine lv_iload_n hx hb dX11_hem_39 rfl (lv_at hl 4 rfl) ?_
  obtain ⟨σ6, hc_v5, h⟩ := bd_some h
  refine mcallQV (wf := (cW a cs sh LP Z)) (va_runV (As := [.int x1, .int x2, .int x3]) (rest := []) ⟨hx, hb, hml, hown, hts⟩ (kX4_setHem l D cs a sh LP Z hZ σ x1 x2 x3 σ6 hc_v5 _) (cwV 3 hts gX11_hem_X4_setHem rfl rfl rfl (by decide +kernel) ⟨Nat.le_of_ble_eq_true rfl, Nat.le_of_ble_eq_true rfl⟩) (pQ_v hP hK hD (va_recv hK.1 hP (ci := 4) (q0 := 1) rfl rfl)) rfl rfl hl.1 rfl (lv_room (Nat.le_of_ble_eq_true rfl)) dX11_hem_40 ⟨Nat.zero_le _, Nat.zero_le _⟩) hD hS hA (fun H locs hP hD hS => ?_)
  refine lv_aload_n hx hb dX11_hem_43 rfl (lv_at hl 1 rfl) ?_
  refine va_get (D := D) (ci := 10) (v := .ref (a 4)) (C := RX11) (T := TX11) (N := 5) hx hb hts inX11_X11_hem hown hK.1 hP 0 rfl rfl 1 (by decide) (hts (.fieldLink RX11 19 "SandPalace" "work" "LSandPalace$Work;") (by decide +kernel)) (fun _ h9 => h9) rfl dX11_hem_44 ?_
  obtain ⟨σ8, hc_v7, h⟩ := bd_some h
  refine mcallQV (wf := (cW a cs sh LP Z)) (va_runV (As := []) (rest := []) ⟨hx, hb, hml, hown, hts⟩ (kX10_forget l D cs a sh LP Z hZ σ6 σ8 hc_v7 _) (cwV 0 hts gX11_hem_X10_forget rfl rfl rfl (by decide +kernel) ⟨Nat.le_of_ble_eq_true rfl, Nat.le_of_ble_eq_true rfl⟩) (pQ_v hP hK hD (va_recv hK.1 hP (ci := 9) (q0 := 4) rfl rfl)) rfl rfl hl.1 rfl (lv_room (Nat.le_of_ble_eq_true rfl)) dX11_hem_47 ⟨Nat.zero_le _, Nat.zero_le _⟩) hD hS hA (fun H locs hP hD hS => ?_)
  refine lv_iload hx hb dX11_hem_50 (lv_at hl 0 rfl) ?_
  exact mretQ hx hb hr hlk h hP hD hS dX11_hem_52
set_option maxHeartbeats 4000000 in
set_option maxRecDepth 100000 in
theorem kX11_hem (l : Launch) (D : va_G) (cs : Nat → ClassId) (a : Nat → Nat) (sh : Nat → Option Nat) (LP : List Nat) (Z : ZT) (hZ : shOK sh LP Z) (σ : Nat → Nat → Int32) (x1 : Int32) (x2 : Int32) (x3 : Int32) (r : Int32) (u9 : Nat → Nat → Int32) (h : fX11_hem sh Z σ x1 x2 x3 = some (r, u9)) (sz : Nat) : Met l yX11_hem wsX11_hem rmX11_hem (va_Pc [.ref (a 0), .int x1, .int x2, .int x3] (pQ D cs (cW a cs sh LP Z σ) sz)) (va_Qi (fun x y => x = r ∧ y = u9) (qB D (cW a cs sh LP Z) (va_A (cW a cs sh LP Z σ) sz)) (va_A (cW a cs sh LP Z σ) sz)) 0 0 (va_A (cW a cs sh LP Z σ) sz) := by
  refine Met.ofW (cc := cX11_hem) (maxL := 5) (ret := (some .int)) (by decide) rfl ?_
  intro p e s m args below meth c s₁ B hml hv
  obtain ⟨rfl, hsz, hP, hK, hD0⟩ := hv
  have C : cxt p s m _ meth c cX11_hem 5 RX11 wsX11_hem (some .int) := ⟨B.exec, B.bytes, hml, findClass_of_methodNamed B.named, atoms_spec (ws := wsX11_hem) B.pre, B.returns, B.notSynchronized⟩
  obtain ⟨hx, hb, -, hown, hts, hr, hlk⟩ := id C
  subst hsz
  have hD := hD0.self (sz := s.heap.size)
  generalize hAe : va_A (cW a cs sh LP Z σ) s.heap.size = A at hD ⊢
  have hA : ∀ q : Nat, s.heap.size ≤ q → A q := fun q h => by rw [← hAe]; exact Or.inr h
  have hS : va_S A s.heap s.heap [] := va_S.rf
  refine entryW [.ref (a 0), .int x1, .int x2, .int x3] (n := 5) (Nat.le_of_ble_eq_true rfl) (fun ls hl => ?_)
  have hl : lv_has ls 5 [(0, .ref (a 0)), (1, .int x1), (2, .int x2), (3, .int x3)] := hl
  unfold fX11_hem at h
  refine lv_aload_n hx hb dX11_hem_0 rfl (lv_at hl 0 rfl) ?_
  refine va_get (D := D) (ci := 10) (v := .ref (a 1)) (C := RX11) (T := TX11) (N := 5) hx hb hts inX11_X11_hem hown hK.1 hP 0 rfl rfl 0 (by decide) (hts (.fieldLink RX11 10 "SandPalace" "picture" "LSandPalace$Picture;") (by decide +kernel)) (fun _ h9 => h9) rfl dX11_hem_1 ?_
  refine lv_iload_n hx hb dX11_hem_4 rfl (lv_at hl 1 rfl) ?_
  refine lv_iload_n hx hb dX11_hem_5 rfl (lv_at hl 2 rfl) ?_
  obtain ⟨v1, hc_v1, h⟩ := bd_some h
  refine mcallSZ (va_runV (As := [.int x1, .int x2]) (rest := []) ⟨hx, hb, hml, hown, hts⟩ (kX4_areTwo l D cs a sh LP Z hZ σ x1 x2 v1 hc_v1) (cwV 2 hts gX11_hem_X4_areTwo rfl rfl rfl (by decide +kernel) ⟨Nat.le_of_ble_eq_true rfl, Nat.le_of_ble_eq_true rfl⟩) (pR_v hP hK (va_recv hK.1 hP (ci := 4) (q0 := 1) rfl rfl)) rfl rfl hl.1 rfl (lv_room (Nat.le_of_ble_eq_true rfl)) dX11_hem_6 ⟨Nat.zero_le _, Nat.zero_le _⟩) (fun z_v1 => ?_)
  refine lv_if_ne (tgt := 14) hx hb dX11_hem_9 (by decide) (fun c2 => ?_) (fun c2 => ?_)
  · have h := it_t c2 h
    refine lv_aload_n hx hb dX11_hem_14 rfl (lv_at hl 0 rfl) ?_
    refine va_get (D := D) (ci := 10) (v := .ref (a 1)) (C := RX11) (T := TX11) (N := 5) hx hb hts inX11_X11_hem hown hK.1 hP 0 rfl rfl 0 (by decide) (hts (.fieldLink RX11 10 "SandPalace" "picture" "LSandPalace$Picture;") (by decide +kernel)) (fun _ h9 => h9) rfl dX11_hem_15 ?_
    refine lv_iload_n hx hb dX11_hem_18 rfl (lv_at hl 1 rfl) ?_
    refine lv_iload_n hx hb dX11_hem_19 rfl (lv_at hl 2 rfl) ?_
    obtain ⟨v3, hc_v3, h⟩ := bd_some h
    refine mcallSZ (va_runV (As := [.int x1, .int x2]) (rest := []) ⟨hx, hb, hml, hown, hts⟩ (kX4_hems l D cs a sh LP Z hZ σ x1 x2 v3 hc_v3) (cwV 2 hts gX11_hem_X4_hems rfl rfl rfl (by decide +kernel) ⟨Nat.le_of_ble_eq_true rfl, Nat.le_of_ble_eq_true rfl⟩) (pR_v hP hK (va_recv hK.1 hP (ci := 4) (q0 := 1) rfl rfl)) rfl rfl hl.1 rfl (lv_room (Nat.le_of_ble_eq_true rfl)) dX11_hem_20 ⟨Nat.zero_le _, Nat.zero_le _⟩) (fun z_v3 => ?_)
    refine lv_if_eq (tgt := 30) hx hb dX11_hem_23 (by decide) (fun c4 => ?_) (fun c4 => ?_)
    · have h := it_t c4 h
      refine lv_iconst (v := (0 : Int32)) hx hb dX11_hem_30 (by decide) ?_
      exact wX11_hem_J31 C hZ hK hA r u9 x1 x2 x3 (0 : Int32) σ _ _ ls hP hD hS (lv_sub hl [0, 1, 2, 3] rfl) h
    · have h := it_f c4 h
      refine lv_iconst (v := (1 : Int32)) hx hb dX11_hem_26 (by decide) ?_
      refine lv_goto (tgt := 31) hx hb dX11_hem_27 (by decide) ?_
      exact wX11_hem_J31 C hZ hK hA r u9 x1 x2 x3 (1 : Int32) σ _ _ ls hP hD hS (lv_sub hl [0, 1, 2, 3] rfl) h
  · have h := it_n c2 h
    refine lv_iconst (v := ((-1) : Int32)) hx hb dX11_hem_12 (by decide) ?_
    exact mretQ hx hb hr hlk h hP hD hS dX11_hem_13
def fX11_after (F : Nat) (sh : Nat → Option Nat) (Z : ZT) (σ : Nat → Nat → Int32) (x1 : Int32) (x2 : Int32) : Option Int32 :=
  bd (fX4_areTwo sh Z σ x1 x2) fun v1 => if ¬ v1 = 0 then (bd (fX4_comesAfter F sh Z σ x1) fun v3 => some ((v3 >>> (x2 &&& 31)) &&& (1 : Int32))) else (some ((-1) : Int32))
abbrev rmX11_after : Room := { frames := 2, cells := 0, slots := 0, locals := 44 }
theorem inX11_X11_after : ∀ w ∈ wsX110, w ∈ wsX11_after := by intro w h; simp only [wsX11_after, List.mem_cons, List.mem_append]; simp only [h, true_or, or_true]
set_option maxHeartbeats 4000000 in
set_option maxRecDepth 100000 in
theorem kX11_after (l : Launch) (D : va_G) (cs : Nat → ClassId) (a : Nat → Nat) (sh : Nat → Option Nat) (LP : List Nat) (Z : ZT) (hZ : shOK sh LP Z) (σ : Nat → Nat → Int32) (F : Nat) (x1 : Int32) (x2 : Int32) (r : Int32) (h : fX11_after F sh Z σ x1 x2 = some r) : Met l yX11_after wsX11_after rmX11_after (va_Pc [.ref (a 0), .int x1, .int x2] (pR D cs (cW a cs sh LP Z σ))) (vp_Si (fun x => x = r)) 0 0 (fun _ => False) := by
  refine Met.ofW (cc := cX11_after) (maxL := 3) (ret := (some .int)) (by decide) rfl ?_
  intro p e s m args below meth c s₁ B hml hv
  obtain ⟨rfl, hP, hK⟩ := hv
  have C : cxt p s m _ meth c cX11_after 3 RX11 wsX11_after (some .int) := ⟨B.exec, B.bytes, hml, findClass_of_methodNamed B.named, atoms_spec (ws := wsX11_after) B.pre, B.returns, B.notSynchronized⟩
  obtain ⟨hx, hb, -, hown, hts, hr, hlk⟩ := id C
  refine entryW [.ref (a 0), .int x1, .int x2] (n := 3) (Nat.le_of_ble_eq_true rfl) (fun ls hl => ?_)
  have hl : lv_has ls 3 [(0, .ref (a 0)), (1, .int x1), (2, .int x2)] := hl
  unfold fX11_after at h
  refine lv_aload_n hx hb dX11_after_0 rfl (lv_at hl 0 rfl) ?_
  refine va_get (D := D) (ci := 10) (v := .ref (a 1)) (C := RX11) (T := TX11) (N := 5) hx hb hts inX11_X11_after hown hK.1 hP 0 rfl rfl 0 (by decide) (hts (.fieldLink RX11 10 "SandPalace" "picture" "LSandPalace$Picture;") (by decide +kernel)) (fun _ h9 => h9) rfl dX11_after_1 ?_
  refine lv_iload_n hx hb dX11_after_4 rfl (lv_at hl 1 rfl) ?_
  refine lv_iload_n hx hb dX11_after_5 rfl (lv_at hl 2 rfl) ?_
  obtain ⟨v1, hc_v1, h⟩ := bd_some h
  refine mcallSZ (va_runV (As := [.int x1, .int x2]) (rest := []) ⟨hx, hb, hml, hown, hts⟩ (kX4_areTwo l D cs a sh LP Z hZ σ x1 x2 v1 hc_v1) (cwV 2 hts gX11_after_X4_areTwo rfl rfl rfl (by decide +kernel) ⟨Nat.le_of_ble_eq_true rfl, Nat.le_of_ble_eq_true rfl⟩) (pR_v hP hK (va_recv hK.1 hP (ci := 4) (q0 := 1) rfl rfl)) rfl rfl hl.1 rfl (lv_room (Nat.le_of_ble_eq_true rfl)) dX11_after_6 ⟨Nat.zero_le _, Nat.zero_le _⟩) (fun z_v1 => ?_)
  refine lv_if_ne (tgt := 14) hx hb dX11_after_9 (by decide) (fun c2 => ?_) (fun c2 => ?_)
  · have h := it_t c2 h
    refine lv_aload_n hx hb dX11_after_14 rfl (lv_at hl 0 rfl) ?_
    refine va_get (D := D) (ci := 10) (v := .ref (a 1)) (C := RX11) (T := TX11) (N := 5) hx hb hts inX11_X11_after hown hK.1 hP 0 rfl rfl 0 (by decide) (hts (.fieldLink RX11 10 "SandPalace" "picture" "LSandPalace$Picture;") (by decide +kernel)) (fun _ h9 => h9) rfl dX11_after_15 ?_
    refine lv_iload_n hx hb dX11_after_18 rfl (lv_at hl 1 rfl) ?_
    obtain ⟨v3, hc_v3, h⟩ := bd_some h
    refine mcallS (va_runV (As := [.int x1]) (rest := []) ⟨hx, hb, hml, hown, hts⟩ (kX4_comesAfter l D cs a sh LP Z hZ σ F x1 v3 hc_v3) (cwV 1 hts gX11_after_X4_comesAfter rfl rfl rfl (by decide +kernel) ⟨Nat.le_of_ble_eq_true rfl, Nat.le_of_ble_eq_true rfl⟩) (pR_v hP hK (va_recv hK.1 hP (ci := 4) (q0 := 1) rfl rfl)) rfl rfl hl.1 rfl (lv_room (Nat.le_of_ble_eq_true rfl)) dX11_after_19 ⟨Nat.zero_le _, Nat.zero_le _⟩) ?_
    refine lv_iload_n hx hb dX11_after_22 rfl (lv_at hl 2 rfl) ?_
    refine lv_ishr hx hb dX11_after_23 ?_
    refine lv_iconst (v := (1 : Int32)) hx hb dX11_after_24 (by decide) ?_
    refine lv_iand hx hb dX11_after_25 ?_
    exact mretS hx hb hr hlk h dX11_after_26
  · have h := it_n c2 h
    refine lv_iconst (v := ((-1) : Int32)) hx hb dX11_after_12 (by decide) ?_
    exact mretS hx hb hr hlk h dX11_after_13
def fX11_sand (sh : Nat → Option Nat) (Z : ZT) (σ : Nat → Nat → Int32) (x1 : Int32) : Option (Int32 × (Nat → Nat → Int32)) :=
  bd (fX11_within x1 (1 : Int32) (256 : Int32)) fun v1 => if ¬ v1 = 0 then (bd (fX10_changeSand sh Z σ x1) fun (v3, σ4) => some (v3, σ4)) else (some (((-1) : Int32), σ))
abbrev rmX11_sand : Room := { frames := 1, cells := 0, slots := 0, locals := 22 }
theorem inX11_X11_sand : ∀ w ∈ wsX110, w ∈ wsX11_sand := by intro w h; simp only [wsX11_sand, List.mem_cons, List.mem_append]; simp only [h, true_or, or_true]
set_option maxHeartbeats 4000000 in
set_option maxRecDepth 100000 in
theorem kX11_sand (l : Launch) (D : va_G) (cs : Nat → ClassId) (a : Nat → Nat) (sh : Nat → Option Nat) (LP : List Nat) (Z : ZT) (hZ : shOK sh LP Z) (σ : Nat → Nat → Int32) (x1 : Int32) (r : Int32) (u9 : Nat → Nat → Int32) (h : fX11_sand sh Z σ x1 = some (r, u9)) (sz : Nat) : Met l yX11_sand wsX11_sand rmX11_sand (va_Pc [.ref (a 0), .int x1] (pQ D cs (cW a cs sh LP Z σ) sz)) (va_Qi (fun x y => x = r ∧ y = u9) (qB D (cW a cs sh LP Z) (va_A (cW a cs sh LP Z σ) sz)) (va_A (cW a cs sh LP Z σ) sz)) 0 0 (va_A (cW a cs sh LP Z σ) sz) := by
  refine Met.ofW (cc := cX11_sand) (maxL := 2) (ret := (some .int)) (by decide) rfl ?_
  intro p e s m args below meth c s₁ B hml hv
  obtain ⟨rfl, hsz, hP, hK, hD0⟩ := hv
  have C : cxt p s m _ meth c cX11_sand 2 RX11 wsX11_sand (some .int) := ⟨B.exec, B.bytes, hml, findClass_of_methodNamed B.named, atoms_spec (ws := wsX11_sand) B.pre, B.returns, B.notSynchronized⟩
  obtain ⟨hx, hb, -, hown, hts, hr, hlk⟩ := id C
  subst hsz
  have hD := hD0.self (sz := s.heap.size)
  generalize hAe : va_A (cW a cs sh LP Z σ) s.heap.size = A at hD ⊢
  have hA : ∀ q : Nat, s.heap.size ≤ q → A q := fun q h => by rw [← hAe]; exact Or.inr h
  have hS : va_S A s.heap s.heap [] := va_S.rf
  refine entryW [.ref (a 0), .int x1] (n := 2) (Nat.le_of_ble_eq_true rfl) (fun ls hl => ?_)
  have hl : lv_has ls 2 [(0, .ref (a 0)), (1, .int x1)] := hl
  unfold fX11_sand at h
  refine lv_iload_n hx hb dX11_sand_0 rfl (lv_at hl 1 rfl) ?_
  refine lv_iconst (v := (1 : Int32)) hx hb dX11_sand_1 (by decide) ?_
  refine lv_sipush (v := (256 : Int32)) hx hb dX11_sand_2 (by decide) ?_
  obtain ⟨v1, hc_v1, h⟩ := bd_some h
  refine mcallSZ (va_runS (As := [.int x1, .int (1 : Int32), .int (256 : Int32)]) (rest := []) ⟨hx, hb, hml, hown, hts⟩ (kX11_within l x1 (1 : Int32) (256 : Int32) v1 hc_v1) (va_cwS 3 hts gX11_sand_X11_within rfl rfl rfl (by decide +kernel) ⟨Nat.le_of_ble_eq_true rfl, Nat.le_of_ble_eq_true rfl⟩) p0_s rfl rfl hl.1 rfl (lv_room (Nat.le_of_ble_eq_true rfl)) dX11_sand_5 ⟨Nat.zero_le _, Nat.zero_le _⟩) (fun z_v1 => ?_)
  refine lv_if_ne (tgt := 13) hx hb dX11_sand_8 (by decide) (fun c2 => ?_) (fun c2 => ?_)
  · have h := it_t c2 h
    refine lv_aload_n hx hb dX11_sand_13 rfl (lv_at hl 0 rfl) ?_
    refine va_get (D := D) (ci := 10) (v := .ref (a 4)) (C := RX11) (T := TX11) (N := 5) hx hb hts inX11_X11_sand hown hK.1 hP 0 rfl rfl 1 (by decide) (hts (.fieldLink RX11 19 "SandPalace" "work" "LSandPalace$Work;") (by decide +kernel)) (fun _ h9 => h9) rfl dX11_sand_14 ?_
    refine lv_iload_n hx hb dX11_sand_17 rfl (lv_at hl 1 rfl) ?_
    obtain ⟨⟨v3, σ4⟩, hc_v3, h⟩ := bd_some h
    refine mcallQ (wf := (cW a cs sh LP Z)) (va_runV (As := [.int x1]) (rest := []) ⟨hx, hb, hml, hown, hts⟩ (kX10_changeSand l D cs a sh LP Z hZ σ x1 v3 σ4 hc_v3 _) (cwV 1 hts gX11_sand_X10_changeSand rfl rfl rfl (by decide +kernel) ⟨Nat.le_of_ble_eq_true rfl, Nat.le_of_ble_eq_true rfl⟩) (pQ_v hP hK hD (va_recv hK.1 hP (ci := 9) (q0 := 4) rfl rfl)) rfl rfl hl.1 rfl (lv_room (Nat.le_of_ble_eq_true rfl)) dX11_sand_18 ⟨Nat.zero_le _, Nat.zero_le _⟩) hD hS hA (fun H locs hP hD hS => ?_)
    exact mretQ hx hb hr hlk h hP hD hS dX11_sand_21
  · have h := it_n c2 h
    refine lv_iconst (v := ((-1) : Int32)) hx hb dX11_sand_11 (by decide) ?_
    exact mretQ hx hb hr hlk h hP hD hS dX11_sand_12
def fX11_days (F : Nat) (sh : Nat → Option Nat) (Z : ZT) (σ : Nat → Nat → Int32)  : Option (Int32 × (Nat → Nat → Int32)) :=
  bd (fX10_plan F sh Z σ) fun σ2 => bd (fX10_daysOfPlan sh Z σ2) fun v3 => some (v3, σ2)
abbrev rmX11_days : Room := { frames := 4, cells := 0, slots := 0, locals := 92 }
theorem inX11_X11_days : ∀ w ∈ wsX110, w ∈ wsX11_days := by intro w h; simp only [wsX11_days, List.mem_cons, List.mem_append]; simp only [h, true_or, or_true]
set_option maxHeartbeats 4000000 in
set_option maxRecDepth 100000 in
theorem kX11_days (l : Launch) (D : va_G) (cs : Nat → ClassId) (a : Nat → Nat) (sh : Nat → Option Nat) (LP : List Nat) (Z : ZT) (hZ : shOK sh LP Z) (σ : Nat → Nat → Int32) (F : Nat)  (r : Int32) (u9 : Nat → Nat → Int32) (h : fX11_days F sh Z σ = some (r, u9)) (sz : Nat) : Met l yX11_days wsX11_days rmX11_days (va_Pc [.ref (a 0)] (pQ D cs (cW a cs sh LP Z σ) sz)) (va_Qi (fun x y => x = r ∧ y = u9) (qB D (cW a cs sh LP Z) (va_A (cW a cs sh LP Z σ) sz)) (va_A (cW a cs sh LP Z σ) sz)) 0 0 (va_A (cW a cs sh LP Z σ) sz) := by
  refine Met.ofW (cc := cX11_days) (maxL := 1) (ret := (some .int)) (by decide) rfl ?_
  intro p e s m args below meth c s₁ B hml hv
  obtain ⟨rfl, hsz, hP, hK, hD0⟩ := hv
  have C : cxt p s m _ meth c cX11_days 1 RX11 wsX11_days (some .int) := ⟨B.exec, B.bytes, hml, findClass_of_methodNamed B.named, atoms_spec (ws := wsX11_days) B.pre, B.returns, B.notSynchronized⟩
  obtain ⟨hx, hb, -, hown, hts, hr, hlk⟩ := id C
  subst hsz
  have hD := hD0.self (sz := s.heap.size)
  generalize hAe : va_A (cW a cs sh LP Z σ) s.heap.size = A at hD ⊢
  have hA : ∀ q : Nat, s.heap.size ≤ q → A q := fun q h => by rw [← hAe]; exact Or.inr h
  have hS : va_S A s.heap s.heap [] := va_S.rf
  refine entryW [.ref (a 0)] (n := 1) (Nat.le_of_ble_eq_true rfl) (fun ls hl => ?_)
  have hl : lv_has ls 1 [(0, .ref (a 0))] := hl
  unfold fX11_days at h
  refine lv_aload_n hx hb dX11_days_0 rfl (lv_at hl 0 rfl) ?_
  refine va_get (D := D) (ci := 10) (v := .ref (a 4)) (C := RX11) (T := TX11) (N := 5) hx hb hts inX11_X11_days hown hK.1 hP 0 rfl rfl 1 (by decide) (hts (.fieldLink RX11 19 "SandPalace" "work" "LSandPalace$Work;") (by decide +kernel)) (fun _ h9 => h9) rfl dX11_days_1 ?_
  refine lv_aload_n hx hb dX11_days_4 rfl (lv_at hl 0 rfl) ?_
  refine va_get (D := D) (ci := 10) (v := .ref (a 1)) (C := RX11) (T := TX11) (N := 5) hx hb hts inX11_X11_days hown hK.1 hP 0 rfl rfl 0 (by decide) (hts (.fieldLink RX11 10 "SandPalace" "picture" "LSandPalace$Picture;") (by decide +kernel)) (fun _ h9 => h9) rfl dX11_days_5 ?_
  obtain ⟨σ2, hc_v1, h⟩ := bd_some h
  refine mcallQV (wf := (cW a cs sh LP Z)) (va_runV (As := [.ref (a 1)]) (rest := []) ⟨hx, hb, hml, hown, hts⟩ (kX10_plan l D cs a sh LP Z hZ σ F σ2 hc_v1 _) (cwV 1 hts gX11_days_X10_plan rfl rfl rfl (by decide +kernel) ⟨Nat.le_of_ble_eq_true rfl, Nat.le_of_ble_eq_true rfl⟩) (pQ_v hP hK hD (va_recv hK.1 hP (ci := 9) (q0 := 4) rfl rfl)) rfl rfl hl.1 rfl (lv_room (Nat.le_of_ble_eq_true rfl)) dX11_days_8 ⟨Nat.zero_le _, Nat.zero_le _⟩) hD hS hA (fun H locs hP hD hS => ?_)
  refine lv_aload_n hx hb dX11_days_11 rfl (lv_at hl 0 rfl) ?_
  refine va_get (D := D) (ci := 10) (v := .ref (a 4)) (C := RX11) (T := TX11) (N := 5) hx hb hts inX11_X11_days hown hK.1 hP 0 rfl rfl 1 (by decide) (hts (.fieldLink RX11 19 "SandPalace" "work" "LSandPalace$Work;") (by decide +kernel)) (fun _ h9 => h9) rfl dX11_days_12 ?_
  obtain ⟨v3, hc_v3, h⟩ := bd_some h
  refine mcallS (va_runV (As := []) (rest := []) ⟨hx, hb, hml, hown, hts⟩ (kX10_daysOfPlan l D cs a sh LP Z hZ σ2 v3 hc_v3) (cwV 0 hts gX11_days_X10_daysOfPlan rfl rfl rfl (by decide +kernel) ⟨Nat.le_of_ble_eq_true rfl, Nat.le_of_ble_eq_true rfl⟩) (pR_v hP hK (va_recv hK.1 hP (ci := 9) (q0 := 4) rfl rfl)) rfl rfl hl.1 rfl (lv_room (Nat.le_of_ble_eq_true rfl)) dX11_days_15 ⟨Nat.zero_le _, Nat.zero_le _⟩) ?_
  exact mretQ hx hb hr hlk h hP hD hS dX11_days_18
