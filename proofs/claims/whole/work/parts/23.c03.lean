def fX4_withAllAfter_J42 (F : Nat) (sh : Nat → Option Nat) (Z : ZT) (kb : Int32 → Int32 → Option Int32) (x2 : Int32) (x3 : Int32) (x4 : Int32) (σ : Nat → Nat → Int32) : Option Int32 :=
  kb x2 (x4 + (1 : Int32))
def fX4_withAllAfter_L15 (F : Nat) (sh : Nat → Option Nat) (Z : ZT) (σ : Nat → Nat → Int32) (x3 : Int32) (kx : Int32 → Option Int32) : Nat → Int32 → Int32 → Option Int32
  | 0, _, _ => none
  | n+1, x2, x4 =>
    nb ((fun x2 x4 => fX4_withAllAfter_L15 F sh Z σ x3 kx n x2 x4)) fun kb =>
    if (σ 33 0) ≤ x4 then (kx x2) else (bd (fX4_comesAfter F sh Z σ x4) fun v3 => if (v3 &&& x2) = 0 then (fX4_withAllAfter_J42 F sh Z kb x2 x3 x4 σ) else (nm (x2 ||| ((1 : Int32) <<< (x4 &&& 31))) fun z5 => fX4_withAllAfter_J42 F sh Z kb z5 x3 x4 σ))
def fX4_withAllAfter_L4 (F : Nat) (sh : Nat → Option Nat) (Z : ZT) (σ : Nat → Nat → Int32) (kx : Int32 → Option Int32) : Nat → Int32 → Int32 → Option Int32
  | 0, _, _ => none
  | n+1, x2, x3 =>
    nb ((fun x2 x3 => fX4_withAllAfter_L4 F sh Z σ kx n x2 x3)) fun kb =>
    if (σ 33 0) ≤ x3 then (kx x2) else (fX4_withAllAfter_L15 F sh Z σ x3 (fun y2 => kb y2 (x3 + (1 : Int32))) F x2 (0 : Int32))
def fX4_withAllAfter (F : Nat) (sh : Nat → Option Nat) (Z : ZT) (σ : Nat → Nat → Int32) (x1 : Int32) : Option Int32 :=
  fX4_withAllAfter_L4 F sh Z σ (fun y1 => some y1) F x1 (0 : Int32)
abbrev rmX4_withAllAfter : Room := { frames := 1, cells := 0, slots := 0, locals := 23 }
theorem inX4_X4_withAllAfter : ∀ w ∈ wsX40, w ∈ wsX4_withAllAfter := by intro w h; simp only [wsX4_withAllAfter, List.mem_cons, List.mem_append]; simp only [h, true_or, or_true]
set_option maxHeartbeats 4000000 in
set_option maxRecDepth 100000 in
theorem wX4_withAllAfter_J42 {p : Program} {l : Launch} {e : Env} {s : State} {m : MethodId} {args : Array Value} {below : List Frame} {meth : Method} {c : Code} (C : cxt p s m args meth c cX4_withAllAfter 5 RX4 wsX4_withAllAfter (some .int)) {D : va_G} {cs : Nat → ClassId} {a : Nat → Nat} {sh : Nat → Option Nat} {LP : List Nat} {Z : ZT} (hZ : shOK sh LP Z) (hK : KK D cs s) {σ : Nat → Nat → Int32} (hP : va_P D vwCl (cW a cs sh LP Z σ) s.heap) (r : Int32) (F : Nat) (kb : Int32 → Int32 → Option Int32) (x2 : Int32) (x3 : Int32) (x4 : Int32) (hkb : ∀ (x2 : Int32) (x4 : Int32) (ls : Array Slot), lv_has ls 5 [(0, .ref (a 1)), (2, .int x2), (3, .int x3), (4, .int x4)] → kb x2 x4 = some r → W p l e rmX4_withAllAfter s m args below meth c s.heap [] 0 0 (MQ below (vp_Si (fun x => x = r)) args s 0 0 (fun _ => False)) (F0 m 15 ls [])) (ls : Array Slot) (hl : lv_has ls 5 [(0, .ref (a 1)), (2, .int x2), (3, .int x3), (4, .int x4)]) (h : fX4_withAllAfter_J42 F sh Z kb x2 x3 x4 σ = some r) : W p l e rmX4_withAllAfter s m args below meth c s.heap [] 0 0 (MQ below (vp_Si (fun x => x = r)) args s 0 0 (fun _ => False)) (F0 m 42 ls []) := by
  obtain ⟨hx, hb, hml, hown, hts, hr, hlk⟩ := id C
  unfold fX4_withAllAfter_J42 at h
  refine lv_iinc (v := x4 + (1 : Int32)) (lv' := [(4, .int (x4 + (1 : Int32))), (0, .ref (a 1)), (2, .int x2), (3, .int x3)]) hx hb dX4_withAllAfter_42 hl (k := 3) rfl rfl (by decide) rfl (fun ls hl => ?_)
  refine lv_goto (tgt := 15) hx hb dX4_withAllAfter_45 (by decide) ?_
  exact hkb x2 (x4 + (1 : Int32)) ls (lv_sub hl [1, 2, 3, 0] rfl) h
set_option maxHeartbeats 4000000 in
set_option maxRecDepth 100000 in
theorem wX4_withAllAfter_L15 {p : Program} {l : Launch} {e : Env} {s : State} {m : MethodId} {args : Array Value} {below : List Frame} {meth : Method} {c : Code} (C : cxt p s m args meth c cX4_withAllAfter 5 RX4 wsX4_withAllAfter (some .int)) {D : va_G} {cs : Nat → ClassId} {a : Nat → Nat} {sh : Nat → Option Nat} {LP : List Nat} {Z : ZT} (hZ : shOK sh LP Z) (hK : KK D cs s) {σ : Nat → Nat → Int32} (hP : va_P D vwCl (cW a cs sh LP Z σ) s.heap) (r : Int32) (F : Nat) (x3 : Int32) (kx : Int32 → Option Int32) (hkx : ∀ (x2 : Int32) (ls : Array Slot), lv_has ls 5 [(0, .ref (a 1)), (2, .int x2), (3, .int x3)] → kx x2 = some r → W p l e rmX4_withAllAfter s m args below meth c s.heap [] 0 0 (MQ below (vp_Si (fun x => x = r)) args s 0 0 (fun _ => False)) (F0 m 48 ls [])) : ∀ (n : Nat) (x2 : Int32) (x4 : Int32) (ls : Array Slot), lv_has ls 5 [(0, .ref (a 1)), (2, .int x2), (3, .int x3), (4, .int x4)] → fX4_withAllAfter_L15 F sh Z σ x3 kx n x2 x4 = some r → W p l e rmX4_withAllAfter s m args below meth c s.heap [] 0 0 (MQ below (vp_Si (fun x => x = r)) args s 0 0 (fun _ => False)) (F0 m 15 ls []) := by
  obtain ⟨hx, hb, hml, hown, hts, hr, hlk⟩ := id C
  intro n
  induction n with
  | zero =>
    intros
    rename_i h
    cases h
  | succ n ih =>
    intro x2 x4 ls hl h
    rw [fX4_withAllAfter_L15] at h
    obtain ⟨kb, hkb, h⟩ := nb_some (P := fun (kb : Int32 → Int32 → Option Int32) => ∀ (x2 : Int32) (x4 : Int32) (ls : Array Slot), lv_has ls 5 [(0, .ref (a 1)), (2, .int x2), (3, .int x3), (4, .int x4)] → kb x2 x4 = some r → W p l e rmX4_withAllAfter s m args below meth c s.heap [] 0 0 (MQ below (vp_Si (fun x => x = r)) args s 0 0 (fun _ => False)) (F0 m 15 ls [])) h ih
    refine lv_iload hx hb dX4_withAllAfter_15 (lv_at hl 3 rfl) ?_
    refine lv_aload_n hx hb dX4_withAllAfter_17 rfl (lv_at hl 0 rfl) ?_
    refine va_get (D := D) (ci := 4) (v := .int (σ 33 0)) (C := RX4) (T := TX4) (N := 3) hx hb hts inX4_X4_withAllAfter hown hK.1 hP 1 rfl rfl 2 (by decide) (hts (.fieldLink RX4 21 "SandPalace$Picture" "size" "I") (by decide +kernel)) (fun _ h9 => h9) rfl dX4_withAllAfter_18 ?_
    refine lv_icmp_ge (tgt := 48) hx hb dX4_withAllAfter_21 (by decide) (fun c2 => ?_) (fun c2 => ?_)
    · have h := it_t c2 h
      exact hkx x2 ls (lv_sub hl [0, 1, 2] rfl) h
    · have h := it_f c2 h
      refine lv_aload_n hx hb dX4_withAllAfter_24 rfl (lv_at hl 0 rfl) ?_
      refine lv_iload hx hb dX4_withAllAfter_25 (lv_at hl 3 rfl) ?_
      obtain ⟨v3, hc_v3, h⟩ := bd_some h
      refine mcallS (va_runV (As := [.int x4]) (rest := []) ⟨hx, hb, hml, hown, hts⟩ (kX4_comesAfter l D cs a sh LP Z hZ σ F x4 v3 hc_v3) (cwV 1 hts gX4_withAllAfter_X4_comesAfter rfl rfl rfl (by decide +kernel) ⟨Nat.le_of_ble_eq_true rfl, Nat.le_of_ble_eq_true rfl⟩) (pR_v hP hK (va_recv hK.1 hP (ci := 4) (q0 := 1) rfl rfl)) rfl rfl hl.1 rfl (lv_room (Nat.le_of_ble_eq_true rfl)) dX4_withAllAfter_27 ⟨Nat.zero_le _, Nat.zero_le _⟩) ?_
      refine lv_iload_n hx hb dX4_withAllAfter_30 rfl (lv_at hl 1 rfl) ?_
      refine lv_iand hx hb dX4_withAllAfter_31 ?_
      refine lv_if_eq (tgt := 42) hx hb dX4_withAllAfter_32 (by decide) (fun c4 => ?_) (fun c4 => ?_)
      · have h := it_t c4 h
        exact wX4_withAllAfter_J42 C hZ hK hP r F kb x2 x3 x4 hkb ls (lv_sub hl [0, 1, 2, 3] rfl) h
      · have h := it_f c4 h
        refine lv_iload_n hx hb dX4_withAllAfter_35 rfl (lv_at hl 1 rfl) ?_
        refine lv_iconst (v := (1 : Int32)) hx hb dX4_withAllAfter_36 (by decide) ?_
        refine lv_iload hx hb dX4_withAllAfter_37 (lv_at hl 3 rfl) ?_
        refine lv_ishl hx hb dX4_withAllAfter_39 ?_
        refine lv_ior hx hb dX4_withAllAfter_40 ?_
        obtain ⟨z5, e_z5, h⟩ := nm_some h
        refine tpi e_z5 ?_
        refine lv_istore_n (lv' := [(2, .int z5), (0, .ref (a 1)), (3, .int x3), (4, .int x4)]) hx hb dX4_withAllAfter_41 rfl hl (by decide) rfl (fun ls hl => ?_)
        exact wX4_withAllAfter_J42 C hZ hK hP r F kb z5 x3 x4 hkb ls (lv_sub hl [1, 0, 2, 3] rfl) h
set_option maxHeartbeats 4000000 in
set_option maxRecDepth 100000 in
theorem wX4_withAllAfter_L4 {p : Program} {l : Launch} {e : Env} {s : State} {m : MethodId} {args : Array Value} {below : List Frame} {meth : Method} {c : Code} (C : cxt p s m args meth c cX4_withAllAfter 5 RX4 wsX4_withAllAfter (some .int)) {D : va_G} {cs : Nat → ClassId} {a : Nat → Nat} {sh : Nat → Option Nat} {LP : List Nat} {Z : ZT} (hZ : shOK sh LP Z) (hK : KK D cs s) {σ : Nat → Nat → Int32} (hP : va_P D vwCl (cW a cs sh LP Z σ) s.heap) (r : Int32) (F : Nat) (kx : Int32 → Option Int32) (hkx : ∀ (x2 : Int32) (ls : Array Slot), lv_has ls 5 [(2, .int x2)] → kx x2 = some r → W p l e rmX4_withAllAfter s m args below meth c s.heap [] 0 0 (MQ below (vp_Si (fun x => x = r)) args s 0 0 (fun _ => False)) (F0 m 54 ls [])) : ∀ (n : Nat) (x2 : Int32) (x3 : Int32) (ls : Array Slot), lv_has ls 5 [(0, .ref (a 1)), (2, .int x2), (3, .int x3)] → fX4_withAllAfter_L4 F sh Z σ kx n x2 x3 = some r → W p l e rmX4_withAllAfter s m args below meth c s.heap [] 0 0 (MQ below (vp_Si (fun x => x = r)) args s 0 0 (fun _ => False)) (F0 m 4 ls []) := by
  obtain ⟨hx, hb, hml, hown, hts, hr, hlk⟩ := id C
  intro n
  induction n with
  | zero =>
    intros
    rename_i h
    cases h
  | succ n ih =>
    intro x2 x3 ls hl h
    rw [fX4_withAllAfter_L4] at h
    obtain ⟨kb, hkb, h⟩ := nb_some (P := fun (kb : Int32 → Int32 → Option Int32) => ∀ (x2 : Int32) (x3 : Int32) (ls : Array Slot), lv_has ls 5 [(0, .ref (a 1)), (2, .int x2), (3, .int x3)] → kb x2 x3 = some r → W p l e rmX4_withAllAfter s m args below meth c s.heap [] 0 0 (MQ below (vp_Si (fun x => x = r)) args s 0 0 (fun _ => False)) (F0 m 4 ls [])) h ih
    refine lv_iload_n hx hb dX4_withAllAfter_4 rfl (lv_at hl 2 rfl) ?_
    refine lv_aload_n hx hb dX4_withAllAfter_5 rfl (lv_at hl 0 rfl) ?_
    refine va_get (D := D) (ci := 4) (v := .int (σ 33 0)) (C := RX4) (T := TX4) (N := 3) hx hb hts inX4_X4_withAllAfter hown hK.1 hP 1 rfl rfl 2 (by decide) (hts (.fieldLink RX4 21 "SandPalace$Picture" "size" "I") (by decide +kernel)) (fun _ h9 => h9) rfl dX4_withAllAfter_6 ?_
    refine lv_icmp_ge (tgt := 54) hx hb dX4_withAllAfter_9 (by decide) (fun c1 => ?_) (fun c1 => ?_)
    · have h := it_t c1 h
      exact hkx x2 ls (lv_sub hl [1] rfl) h
    · have h := it_f c1 h
      refine lv_iconst (v := (0 : Int32)) hx hb dX4_withAllAfter_12 (by decide) ?_
      refine lv_istore (lv' := [(4, .int (0 : Int32)), (0, .ref (a 1)), (2, .int x2), (3, .int x3)]) hx hb dX4_withAllAfter_13 hl (by decide) rfl (fun ls hl => ?_)
      refine wX4_withAllAfter_L15 C hZ hK hP r F x3 _ ?_ F x2 (0 : Int32) ls (lv_sub hl [1, 2, 3, 0] rfl) h
      intro y2 ls hl h
      refine lv_iinc (v := x3 + (1 : Int32)) (lv' := [(3, .int (x3 + (1 : Int32))), (0, .ref (a 1)), (2, .int y2)]) hx hb dX4_withAllAfter_48 hl (k := 2) rfl rfl (by decide) rfl (fun ls hl => ?_)
      refine lv_goto (tgt := 4) hx hb dX4_withAllAfter_51 (by decide) ?_
      exact hkb y2 (x3 + (1 : Int32)) ls (lv_sub hl [1, 2, 0] rfl) h
set_option maxHeartbeats 4000000 in
set_option maxRecDepth 100000 in
theorem kX4_withAllAfter (l : Launch) (D : va_G) (cs : Nat → ClassId) (a : Nat → Nat) (sh : Nat → Option Nat) (LP : List Nat) (Z : ZT) (hZ : shOK sh LP Z) (σ : Nat → Nat → Int32) (F : Nat) (x1 : Int32) (r : Int32) (h : fX4_withAllAfter F sh Z σ x1 = some r) : Met l yX4_withAllAfter wsX4_withAllAfter rmX4_withAllAfter (va_Pc [.ref (a 1), .int x1] (pR D cs (cW a cs sh LP Z σ))) (vp_Si (fun x => x = r)) 0 0 (fun _ => False) := by
  refine Met.ofW (cc := cX4_withAllAfter) (maxL := 5) (ret := (some .int)) (by decide) rfl ?_
  intro p e s m args below meth c s₁ B hml hv
  obtain ⟨rfl, hP, hK⟩ := hv
  have C : cxt p s m _ meth c cX4_withAllAfter 5 RX4 wsX4_withAllAfter (some .int) := ⟨B.exec, B.bytes, hml, findClass_of_methodNamed B.named, atoms_spec (ws := wsX4_withAllAfter) B.pre, B.returns, B.notSynchronized⟩
  obtain ⟨hx, hb, -, hown, hts, hr, hlk⟩ := id C
  refine entryW [.ref (a 1), .int x1] (n := 5) (Nat.le_of_ble_eq_true rfl) (fun ls hl => ?_)
  have hl : lv_has ls 5 [(0, .ref (a 1)), (1, .int x1)] := hl
  unfold fX4_withAllAfter at h
  refine lv_iload_n hx hb dX4_withAllAfter_0 rfl (lv_at hl 1 rfl) ?_
  refine lv_istore_n (lv' := [(2, .int x1), (0, .ref (a 1)), (1, .int x1)]) hx hb dX4_withAllAfter_1 rfl hl (by decide) rfl (fun ls hl => ?_)
  refine lv_iconst (v := (0 : Int32)) hx hb dX4_withAllAfter_2 (by decide) ?_
  refine lv_istore_n (lv' := [(3, .int (0 : Int32)), (2, .int x1), (0, .ref (a 1)), (1, .int x1)]) hx hb dX4_withAllAfter_3 rfl hl (by decide) rfl (fun ls hl => ?_)
  refine wX4_withAllAfter_L4 C hZ hK hP r F  _ ?_ F x1 (0 : Int32) ls (lv_sub hl [2, 1, 0] rfl) h
  intro y1 ls hl h
  refine lv_iload_n hx hb dX4_withAllAfter_54 rfl (lv_at hl 0 rfl) ?_
  exact mretS hx hb hr hlk h dX4_withAllAfter_55
def fX5_placesOf_J31 (F : Nat) (kb : Int64 → Int32 → Option Int64) (x0 : Int32) (x1 : Int64) (x3 : Int32) : Option Int64 :=
  kb x1 (x3 + (1 : Int32))
def fX5_placesOf_L4 (F : Nat) (x0 : Int32) (kx : Int64 → Option Int64) : Nat → Int64 → Int32 → Option Int64
  | 0, _, _ => none
  | n+1, x1, x3 =>
    nb ((fun x1 x3 => fX5_placesOf_L4 F x0 kx n x1 x3)) fun kb =>
    if (64 : Int32) ≤ x3 then (kx x1) else (if ¬ ((if (x3 - x3 / (8 : Int32) * (8 : Int32)) < (x3 / (8 : Int32)) then (x3 / (8 : Int32)) else (x3 - x3 / (8 : Int32) * (8 : Int32))) : Int32) = x0 then (fX5_placesOf_J31 F kb x0 x1 x3) else (nm (x1 ||| ((1 : Int64) <<< (x3.toInt64 &&& 63))) fun z3 => fX5_placesOf_J31 F kb x0 z3 x3))
def fX5_placesOf (F : Nat) (x0 : Int32) : Option Int64 :=
  fX5_placesOf_L4 F x0 (fun y1 => some y1) F (0 : Int64) (0 : Int32)
abbrev rmX5_placesOf : Room := { frames := 1, cells := 0, slots := 0, locals := 21 }
set_option maxHeartbeats 4000000 in
set_option maxRecDepth 100000 in
theorem wX5_placesOf_J31 {p : Program} {l : Launch} {e : Env} {s : State} {m : MethodId} {args : Array Value} {below : List Frame} {meth : Method} {c : Code} (C : cxt p s m args meth c cX5_placesOf 4 RX5 wsX5_placesOf (some .long)) (r : Int64) (F : Nat) (kb : Int64 → Int32 → Option Int64) (x0 : Int32) (x1 : Int64) (x3 : Int32) (hkb : ∀ (x1 : Int64) (x3 : Int32) (ls : Array Slot), lv_has ls 4 [(0, .int x0), (1, .long x1), (3, .int x3)] → kb x1 x3 = some r → W p l e rmX5_placesOf s m args below meth c s.heap [] 0 0 (MQ below (vp_Sl (fun x => x = r)) args s 0 0 (fun _ => False)) (F0 m 4 ls [])) (ls : Array Slot) (hl : lv_has ls 4 [(0, .int x0), (1, .long x1), (3, .int x3)]) (h : fX5_placesOf_J31 F kb x0 x1 x3 = some r) : W p l e rmX5_placesOf s m args below meth c s.heap [] 0 0 (MQ below (vp_Sl (fun x => x = r)) args s 0 0 (fun _ => False)) (F0 m 31 ls []) := by
  obtain ⟨hx, hb, hml, hown, hts, hr, hlk⟩ := id C
  unfold fX5_placesOf_J31 at h
  refine lv_iinc (v := x3 + (1 : Int32)) (lv' := [(3, .int (x3 + (1 : Int32))), (0, .int x0), (1, .long x1)]) hx hb dX5_placesOf_31 hl (k := 2) rfl rfl (by decide) rfl (fun ls hl => ?_)
  refine lv_goto (tgt := 4) hx hb dX5_placesOf_34 (by decide) ?_
  exact hkb x1 (x3 + (1 : Int32)) ls (lv_sub hl [1, 2, 0] rfl) h
set_option maxHeartbeats 4000000 in
set_option maxRecDepth 100000 in
theorem wX5_placesOf_L4 {p : Program} {l : Launch} {e : Env} {s : State} {m : MethodId} {args : Array Value} {below : List Frame} {meth : Method} {c : Code} (C : cxt p s m args meth c cX5_placesOf 4 RX5 wsX5_placesOf (some .long)) (r : Int64) (F : Nat) (x0 : Int32) (kx : Int64 → Option Int64) (hkx : ∀ (x1 : Int64) (ls : Array Slot), lv_has ls 4 [(1, .long x1)] → kx x1 = some r → W p l e rmX5_placesOf s m args below meth c s.heap [] 0 0 (MQ below (vp_Sl (fun x => x = r)) args s 0 0 (fun _ => False)) (F0 m 37 ls [])) : ∀ (n : Nat) (x1 : Int64) (x3 : Int32) (ls : Array Slot), lv_has ls 4 [(0, .int x0), (1, .long x1), (3, .int x3)] → fX5_placesOf_L4 F x0 kx n x1 x3 = some r → W p l e rmX5_placesOf s m args below meth c s.heap [] 0 0 (MQ below (vp_Sl (fun x => x = r)) args s 0 0 (fun _ => False)) (F0 m 4 ls []) := by
  obtain ⟨hx, hb, hml, hown, hts, hr, hlk⟩ := id C
  intro n
  induction n with
  | zero =>
    intros
    rename_i h
    cases h
  | succ n ih =>
    intro x1 x3 ls hl h
    rw [fX5_placesOf_L4] at h
    obtain ⟨kb, hkb, h⟩ := nb_some (P := fun (kb : Int64 → Int32 → Option Int64) => ∀ (x1 : Int64) (x3 : Int32) (ls : Array Slot), lv_has ls 4 [(0, .int x0), (1, .long x1), (3, .int x3)] → kb x1 x3 = some r → W p l e rmX5_placesOf s m args below meth c s.heap [] 0 0 (MQ below (vp_Sl (fun x => x = r)) args s 0 0 (fun _ => False)) (F0 m 4 ls [])) h ih
    refine lv_iload_n hx hb dX5_placesOf_4 rfl (lv_at hl 2 rfl) ?_
    refine lv_bipush (v := (64 : Int32)) hx hb dX5_placesOf_5 (by decide) ?_
    refine lv_icmp_ge (tgt := 37) hx hb dX5_placesOf_7 (by decide) (fun c1 => ?_) (fun c1 => ?_)
    · have h := it_t c1 h
      exact hkx x1 ls (lv_sub hl [1] rfl) h
    · have h := it_f c1 h
      refine lv_iload_n hx hb dX5_placesOf_10 rfl (lv_at hl 2 rfl) ?_
      refine lv_bipush (v := (8 : Int32)) hx hb dX5_placesOf_11 (by decide) ?_
      refine lv_irem hx hb dX5_placesOf_13 (by decide) ?_
      refine lv_iload_n hx hb dX5_placesOf_14 rfl (lv_at hl 2 rfl) ?_
      refine lv_bipush (v := (8 : Int32)) hx hb dX5_placesOf_15 (by decide) ?_
      refine lv_idiv hx hb dX5_placesOf_17 (by decide) ?_
      refine va_mmax hx hb (hml.trans hl.1.symm) hown (hts (.methodLink RX5 15 Lib.Math.max.name) (by decide +kernel)) (hts (.static Lib.Math.max.name) (by decide +kernel)) (hts (.initialized "java/lang/Math") (by decide +kernel)) (hts (.code Lib.Math.max.name Lib.Math.max.code 2 (some .int)) (by decide +kernel)) (Nat.le_of_ble_eq_true rfl) (Nat.le_of_ble_eq_true rfl) (Nat.zero_le _) (Nat.zero_le _) dX5_placesOf_18 ?_
      refine lv_iload_n hx hb dX5_placesOf_21 rfl (lv_at hl 0 rfl) ?_
      refine lv_icmp_ne (tgt := 31) hx hb dX5_placesOf_22 (by decide) (fun c2 => ?_) (fun c2 => ?_)
      · have h := it_t c2 h
        exact wX5_placesOf_J31 C  r F kb x0 x1 x3 hkb ls (lv_sub hl [0, 1, 2] rfl) h
      · have h := it_n c2 h
        refine lv_lload_n hx hb dX5_placesOf_25 rfl (lv_at hl 1 rfl) ?_
        refine lv_lconst (v := (1 : Int64)) hx hb dX5_placesOf_26 (by decide) ?_
        refine lv_iload_n hx hb dX5_placesOf_27 rfl (lv_at hl 2 rfl) ?_
        refine lv_lshl hx hb dX5_placesOf_28 rfl ?_
        refine lv_lor hx hb dX5_placesOf_29 ?_
        obtain ⟨z3, e_z3, h⟩ := nm_some h
        refine tpl e_z3 ?_
        refine lv_lstore_n (lv' := [(1, .long z3), (0, .int x0), (3, .int x3)]) hx hb dX5_placesOf_30 rfl hl (by decide) rfl (fun ls hl => ?_)
        exact wX5_placesOf_J31 C  r F kb x0 z3 x3 hkb ls (lv_sub hl [1, 0, 2] rfl) h
set_option maxHeartbeats 4000000 in
set_option maxRecDepth 100000 in
theorem kX5_placesOf (l : Launch) (F : Nat) (x0 : Int32) (r : Int64) (h : fX5_placesOf F x0 = some r) : Met l yX5_placesOf wsX5_placesOf rmX5_placesOf (va_Pc [.int x0] (p0)) (vp_Sl (fun x => x = r)) 0 0 (fun _ => False) := by
  refine Met.ofW (cc := cX5_placesOf) (maxL := 4) (ret := (some .long)) (by decide) rfl ?_
  intro p e s m args below meth c s₁ B hml hv
  obtain ⟨rfl, -⟩ := hv
  have C : cxt p s m _ meth c cX5_placesOf 4 RX5 wsX5_placesOf (some .long) := ⟨B.exec, B.bytes, hml, findClass_of_methodNamed B.named, atoms_spec (ws := wsX5_placesOf) B.pre, B.returns, B.notSynchronized⟩
  obtain ⟨hx, hb, -, hown, hts, hr, hlk⟩ := id C
  refine entryW [.int x0] (n := 4) (Nat.le_of_ble_eq_true rfl) (fun ls hl => ?_)
  have hl : lv_has ls 4 [(0, .int x0)] := hl
  unfold fX5_placesOf at h
  refine lv_lconst (v := (0 : Int64)) hx hb dX5_placesOf_0 (by decide) ?_
  refine lv_lstore_n (lv' := [(1, .long (0 : Int64)), (0, .int x0)]) hx hb dX5_placesOf_1 rfl hl (by decide) rfl (fun ls hl => ?_)
  refine lv_iconst (v := (0 : Int32)) hx hb dX5_placesOf_2 (by decide) ?_
  refine lv_istore_n (lv' := [(3, .int (0 : Int32)), (1, .long (0 : Int64)), (0, .int x0)]) hx hb dX5_placesOf_3 rfl hl (by decide) rfl (fun ls hl => ?_)
  refine wX5_placesOf_L4 C  r F x0 _ ?_ F (0 : Int64) (0 : Int32) ls (lv_sub hl [2, 1, 0] rfl) h
  intro y1 ls hl h
  refine lv_lload_n hx hb dX5_placesOf_37 rfl (lv_at hl 0 rfl) ?_
  exact mretSL hx hb hr hlk h dX5_placesOf_38
def fX6_cells (sh : Nat → Option Nat) (Z : ZT) (q : Nat) (σ : Nat → Nat → Int32)  : Option Int32 :=
  bd (fJ13_bitCount_95d88 ((Z q).2.2.1)) fun v1 => some ((4 : Int32) * v1)
abbrev rmX6_cells : Room := { frames := 1, cells := 0, slots := 0, locals := 21 }
theorem inX0_X6_cells : ∀ w ∈ wsX00, w ∈ wsX6_cells := by intro w h; simp only [wsX6_cells, List.mem_cons, List.mem_append]; simp only [h, true_or, or_true]
theorem inX1_X6_cells : ∀ w ∈ wsX10, w ∈ wsX6_cells := by intro w h; simp only [wsX6_cells, List.mem_cons, List.mem_append]; simp only [h, true_or, or_true]
theorem inX2_X6_cells : ∀ w ∈ wsX20, w ∈ wsX6_cells := by intro w h; simp only [wsX6_cells, List.mem_cons, List.mem_append]; simp only [h, true_or, or_true]
theorem inX5_X6_cells : ∀ w ∈ wsX50, w ∈ wsX6_cells := by intro w h; simp only [wsX6_cells, List.mem_cons, List.mem_append]; simp only [h, true_or, or_true]
theorem inX8_X6_cells : ∀ w ∈ wsX80, w ∈ wsX6_cells := by intro w h; simp only [wsX6_cells, List.mem_cons, List.mem_append]; simp only [h, true_or, or_true]
set_option maxHeartbeats 4000000 in
set_option maxRecDepth 100000 in
theorem kX6_cells (l : Launch) (D : va_G) (cs : Nat → ClassId) (a : Nat → Nat) (sh : Nat → Option Nat) (LP : List Nat) (Z : ZT) (hZ : shOK sh LP Z) (q : Nat) (hq : q ∈ LP) (hk : okK (Z q).1) (σ : Nat → Nat → Int32)  (r : Int32) (h : fX6_cells sh Z q σ = some r) : Met l yX6_cells wsX6_cells rmX6_cells (va_Pc [.ref q] (pR D cs (cW a cs sh LP Z σ))) (vp_Si (fun x => x = r)) 0 0 (fun _ => False) := by
  refine Met.ofW (cc := cX6_cells) (maxL := 1) (ret := (some .int)) (by decide) rfl ?_
  intro p e s m args below meth c s₁ B hml hv
  obtain ⟨rfl, hP, hK⟩ := hv
  have C : cxt p s m _ meth c cX6_cells 1 RX6 wsX6_cells (some .int) := ⟨B.exec, B.bytes, hml, findClass_of_methodNamed B.named, atoms_spec (ws := wsX6_cells) B.pre, B.returns, B.notSynchronized⟩
  obtain ⟨hx, hb, -, hown, hts, hr, hlk⟩ := id C
  refine entryW [.ref q] (n := 1) (Nat.le_of_ble_eq_true rfl) (fun ls hl => ?_)
  have hl : lv_has ls 1 [(0, .ref q)] := hl
  have fq : q ∈ LP ∧ okK (Z q).1 := ⟨hq, hk⟩
  unfold fX6_cells at h
  refine lv_iconst (v := (4 : Int32)) hx hb dX6_cells_0 (by decide) ?_
  refine lv_aload_n hx hb dX6_cells_1 rfl (lv_at hl 0 rfl) ?_
  refine shgetP hx hb hts inX0_X6_cells inX1_X6_cells inX2_X6_cells inX5_X6_cells inX8_X6_cells hown hK.1 hP fq.1 fq.2 (hts (.fieldLink RX6 15 "SandPalace$Shape" "places" "J") (by decide +kernel)) (fun _ h9 => h9) dX6_cells_2 ?_
  obtain ⟨v1, hc_v1, h⟩ := bd_some h
  refine mcallS (va_runS (As := [.long ((Z q).2.2.1)]) (rest := [.int (4 : Int32)]) ⟨hx, hb, hml, hown, hts⟩ (kJ13_bitCount_95d88 l ((Z q).2.2.1) v1 hc_v1) (va_cwS 1 hts gX6_cells_J13_bitCount_95d88 rfl rfl rfl (by decide +kernel) ⟨Nat.le_of_ble_eq_true rfl, Nat.le_of_ble_eq_true rfl⟩) p0_s rfl rfl hl.1 rfl (lv_room (Nat.le_of_ble_eq_true rfl)) dX6_cells_5 ⟨Nat.zero_le _, Nat.zero_le _⟩) ?_
  refine lv_imul hx hb dX6_cells_8 ?_
  exact mretS hx hb hr hlk h dX6_cells_9
def fX6_reach_J34 (F : Nat) (sh : Nat → Option Nat) (Z : ZT) (q : Nat) (kb : Int32 → Int32 → Option Int32) (x1 : Int32) (x2 : Int32) (σ : Nat → Nat → Int32) : Option Int32 :=
  kb x1 (x2 + (1 : Int32))
def fX6_reach_L4 (F : Nat) (sh : Nat → Option Nat) (Z : ZT) (q : Nat) (σ : Nat → Nat → Int32) (kx : Int32 → Option Int32) : Nat → Int32 → Int32 → Option Int32
  | 0, _, _ => none
  | n+1, x1, x2 =>
    nb ((fun x1 x2 => fX6_reach_L4 F sh Z q σ kx n x1 x2)) fun kb =>
    if (64 : Int32) ≤ x2 then (kx x1) else (bd (fX6_isAt sh Z q σ x2) fun v2 => if v2 = 0 then (fX6_reach_J34 F sh Z q kb x1 x2 σ) else (nm ((if x1 < ((if (x2 - x2 / (8 : Int32) * (8 : Int32)) < (x2 / (8 : Int32)) then (x2 / (8 : Int32)) else (x2 - x2 / (8 : Int32) * (8 : Int32))) : Int32) then ((if (x2 - x2 / (8 : Int32) * (8 : Int32)) < (x2 / (8 : Int32)) then (x2 / (8 : Int32)) else (x2 - x2 / (8 : Int32) * (8 : Int32))) : Int32) else x1) : Int32) fun z4 => fX6_reach_J34 F sh Z q kb z4 x2 σ))
def fX6_reach (F : Nat) (sh : Nat → Option Nat) (Z : ZT) (q : Nat) (σ : Nat → Nat → Int32)  : Option Int32 :=
  fX6_reach_L4 F sh Z q σ (fun y1 => some y1) F (0 : Int32) (0 : Int32)
abbrev rmX6_reach : Room := { frames := 1, cells := 0, slots := 0, locals := 21 }
set_option maxHeartbeats 4000000 in
set_option maxRecDepth 100000 in
theorem wX6_reach_J34 {p : Program} {l : Launch} {e : Env} {s : State} {m : MethodId} {args : Array Value} {below : List Frame} {meth : Method} {c : Code} (C : cxt p s m args meth c cX6_reach 3 RX6 wsX6_reach (some .int)) {D : va_G} {cs : Nat → ClassId} {a : Nat → Nat} {sh : Nat → Option Nat} {LP : List Nat} {Z : ZT} (hZ : shOK sh LP Z) {q : Nat} (hq : q ∈ LP) (hk : okK (Z q).1) (hK : KK D cs s) {σ : Nat → Nat → Int32} (hP : va_P D vwCl (cW a cs sh LP Z σ) s.heap) (r : Int32) (F : Nat) (kb : Int32 → Int32 → Option Int32) (x1 : Int32) (x2 : Int32) (hkb : ∀ (x1 : Int32) (x2 : Int32) (ls : Array Slot), lv_has ls 3 [(0, .ref q), (1, .int x1), (2, .int x2)] → kb x1 x2 = some r → W p l e rmX6_reach s m args below meth c s.heap [] 0 0 (MQ below (vp_Si (fun x => x = r)) args s 0 0 (fun _ => False)) (F0 m 4 ls [])) (ls : Array Slot) (hl : lv_has ls 3 [(0, .ref q), (1, .int x1), (2, .int x2)]) (h : fX6_reach_J34 F sh Z q kb x1 x2 σ = some r) : W p l e rmX6_reach s m args below meth c s.heap [] 0 0 (MQ below (vp_Si (fun x => x = r)) args s 0 0 (fun _ => False)) (F0 m 34 ls []) := by
  obtain ⟨hx, hb, hml, hown, hts, hr, hlk⟩ := id C
  have fq : q ∈ LP ∧ okK (Z q).1 := ⟨hq, hk⟩
  unfold fX6_reach_J34 at h
  refine lv_iinc (v := x2 + (1 : Int32)) (lv' := [(2, .int (x2 + (1 : Int32))), (0, .ref q), (1, .int x1)]) hx hb dX6_reach_34 hl (k := 2) rfl rfl (by decide) rfl (fun ls hl => ?_)
  refine lv_goto (tgt := 4) hx hb dX6_reach_37 (by decide) ?_
  exact hkb x1 (x2 + (1 : Int32)) ls (lv_sub hl [1, 2, 0] rfl) h
set_option maxHeartbeats 4000000 in
set_option maxRecDepth 100000 in
theorem wX6_reach_L4 {p : Program} {l : Launch} {e : Env} {s : State} {m : MethodId} {args : Array Value} {below : List Frame} {meth : Method} {c : Code} (C : cxt p s m args meth c cX6_reach 3 RX6 wsX6_reach (some .int)) {D : va_G} {cs : Nat → ClassId} {a : Nat → Nat} {sh : Nat → Option Nat} {LP : List Nat} {Z : ZT} (hZ : shOK sh LP Z) {q : Nat} (hq : q ∈ LP) (hk : okK (Z q).1) (hK : KK D cs s) {σ : Nat → Nat → Int32} (hP : va_P D vwCl (cW a cs sh LP Z σ) s.heap) (r : Int32) (F : Nat) (kx : Int32 → Option Int32) (hkx : ∀ (x1 : Int32) (ls : Array Slot), lv_has ls 3 [(1, .int x1)] → kx x1 = some r → W p l e rmX6_reach s m args below meth c s.heap [] 0 0 (MQ below (vp_Si (fun x => x = r)) args s 0 0 (fun _ => False)) (F0 m 40 ls [])) : ∀ (n : Nat) (x1 : Int32) (x2 : Int32) (ls : Array Slot), lv_has ls 3 [(0, .ref q), (1, .int x1), (2, .int x2)] → fX6_reach_L4 F sh Z q σ kx n x1 x2 = some r → W p l e rmX6_reach s m args below meth c s.heap [] 0 0 (MQ below (vp_Si (fun x => x = r)) args s 0 0 (fun _ => False)) (F0 m 4 ls []) := by
  obtain ⟨hx, hb, hml, hown, hts, hr, hlk⟩ := id C
  have fq : q ∈ LP ∧ okK (Z q).1 := ⟨hq, hk⟩
  intro n
  induction n with
  | zero =>
    intros
    rename_i h
    cases h
  | succ n ih =>
    intro x1 x2 ls hl h
    rw [fX6_reach_L4] at h
    obtain ⟨kb, hkb, h⟩ := nb_some (P := fun (kb : Int32 → Int32 → Option Int32) => ∀ (x1 : Int32) (x2 : Int32) (ls : Array Slot), lv_has ls 3 [(0, .ref q), (1, .int x1), (2, .int x2)] → kb x1 x2 = some r → W p l e rmX6_reach s m args below meth c s.heap [] 0 0 (MQ below (vp_Si (fun x => x = r)) args s 0 0 (fun _ => False)) (F0 m 4 ls [])) h ih
    refine lv_iload_n hx hb dX6_reach_4 rfl (lv_at hl 2 rfl) ?_
    refine lv_bipush (v := (64 : Int32)) hx hb dX6_reach_5 (by decide) ?_
    refine lv_icmp_ge (tgt := 40) hx hb dX6_reach_7 (by decide) (fun c1 => ?_) (fun c1 => ?_)
    · have h := it_t c1 h
      exact hkx x1 ls (lv_sub hl [1] rfl) h
    · have h := it_f c1 h
      refine lv_aload_n hx hb dX6_reach_10 rfl (lv_at hl 0 rfl) ?_
      refine lv_iload_n hx hb dX6_reach_11 rfl (lv_at hl 2 rfl) ?_
      obtain ⟨v2, hc_v2, h⟩ := bd_some h
      refine mcallSZ (r := v2) (rest := []) (a0 := (Value.ref q :: [.int x2]).toArray) ?_ (fun z_v2 => ?_)
      · rcases fq.2 with kq | kq | kq | kq | kq
        · exact va_runU (As := [.int x2]) (rest := []) ⟨hx, hb, hml, hown, hts⟩ (kX6_isAt l D cs a sh LP Z hZ q fq.1 fq.2 σ x2 v2 hc_v2) (va_cwU 1 hts gX6_reach_X6_isAt_u25X0 rfl rfl rfl rfl (by decide +kernel) ⟨Nat.le_of_ble_eq_true rfl, Nat.le_of_ble_eq_true rfl⟩) (pR_v hP hK (shr0 hK.1 hP fq.1 kq)) rfl rfl hl.1 rfl (lv_room (Nat.le_of_ble_eq_true rfl)) dX6_reach_12 ⟨Nat.zero_le _, Nat.zero_le _⟩
        · exact va_runU (As := [.int x2]) (rest := []) ⟨hx, hb, hml, hown, hts⟩ (kX6_isAt l D cs a sh LP Z hZ q fq.1 fq.2 σ x2 v2 hc_v2) (va_cwU 1 hts gX6_reach_X6_isAt_u25X1 rfl rfl rfl rfl (by decide +kernel) ⟨Nat.le_of_ble_eq_true rfl, Nat.le_of_ble_eq_true rfl⟩) (pR_v hP hK (shr1 hK.1 hP fq.1 kq)) rfl rfl hl.1 rfl (lv_room (Nat.le_of_ble_eq_true rfl)) dX6_reach_12 ⟨Nat.zero_le _, Nat.zero_le _⟩
        · exact va_runU (As := [.int x2]) (rest := []) ⟨hx, hb, hml, hown, hts⟩ (kX6_isAt l D cs a sh LP Z hZ q fq.1 fq.2 σ x2 v2 hc_v2) (va_cwU 1 hts gX6_reach_X6_isAt_u25X2 rfl rfl rfl rfl (by decide +kernel) ⟨Nat.le_of_ble_eq_true rfl, Nat.le_of_ble_eq_true rfl⟩) (pR_v hP hK (shr2 hK.1 hP fq.1 kq)) rfl rfl hl.1 rfl (lv_room (Nat.le_of_ble_eq_true rfl)) dX6_reach_12 ⟨Nat.zero_le _, Nat.zero_le _⟩
        · exact va_runU (As := [.int x2]) (rest := []) ⟨hx, hb, hml, hown, hts⟩ (kX6_isAt l D cs a sh LP Z hZ q fq.1 fq.2 σ x2 v2 hc_v2) (va_cwU 1 hts gX6_reach_X6_isAt_u25X5 rfl rfl rfl rfl (by decide +kernel) ⟨Nat.le_of_ble_eq_true rfl, Nat.le_of_ble_eq_true rfl⟩) (pR_v hP hK (shr5 hK.1 hP fq.1 kq)) rfl rfl hl.1 rfl (lv_room (Nat.le_of_ble_eq_true rfl)) dX6_reach_12 ⟨Nat.zero_le _, Nat.zero_le _⟩
        · exact va_runU (As := [.int x2]) (rest := []) ⟨hx, hb, hml, hown, hts⟩ (kX6_isAt l D cs a sh LP Z hZ q fq.1 fq.2 σ x2 v2 hc_v2) (va_cwU 1 hts gX6_reach_X6_isAt_u25X8 rfl rfl rfl rfl (by decide +kernel) ⟨Nat.le_of_ble_eq_true rfl, Nat.le_of_ble_eq_true rfl⟩) (pR_v hP hK (shr7 hK.1 hP fq.1 kq)) rfl rfl hl.1 rfl (lv_room (Nat.le_of_ble_eq_true rfl)) dX6_reach_12 ⟨Nat.zero_le _, Nat.zero_le _⟩
      refine lv_if_eq (tgt := 34) hx hb dX6_reach_15 (by decide) (fun c3 => ?_) (fun c3 => ?_)
      · have h := it_t c3 h
        exact wX6_reach_J34 C hZ hq hk hK hP r F kb x1 x2 hkb ls (lv_sub hl [0, 1, 2] rfl) h
      · have h := it_f c3 h
        refine lv_iload_n hx hb dX6_reach_18 rfl (lv_at hl 1 rfl) ?_
        refine lv_iload_n hx hb dX6_reach_19 rfl (lv_at hl 2 rfl) ?_
        refine lv_bipush (v := (8 : Int32)) hx hb dX6_reach_20 (by decide) ?_
        refine lv_irem hx hb dX6_reach_22 (by decide) ?_
        refine lv_iload_n hx hb dX6_reach_23 rfl (lv_at hl 2 rfl) ?_
        refine lv_bipush (v := (8 : Int32)) hx hb dX6_reach_24 (by decide) ?_
        refine lv_idiv hx hb dX6_reach_26 (by decide) ?_
        refine va_mmax hx hb (hml.trans hl.1.symm) hown (hts (.methodLink RX6 29 Lib.Math.max.name) (by decide +kernel)) (hts (.static Lib.Math.max.name) (by decide +kernel)) (hts (.initialized "java/lang/Math") (by decide +kernel)) (hts (.code Lib.Math.max.name Lib.Math.max.code 2 (some .int)) (by decide +kernel)) (Nat.le_of_ble_eq_true rfl) (Nat.le_of_ble_eq_true rfl) (Nat.zero_le _) (Nat.zero_le _) dX6_reach_27 ?_
        refine va_mmax hx hb (hml.trans hl.1.symm) hown (hts (.methodLink RX6 29 Lib.Math.max.name) (by decide +kernel)) (hts (.static Lib.Math.max.name) (by decide +kernel)) (hts (.initialized "java/lang/Math") (by decide +kernel)) (hts (.code Lib.Math.max.name Lib.Math.max.code 2 (some .int)) (by decide +kernel)) (Nat.le_of_ble_eq_true rfl) (Nat.le_of_ble_eq_true rfl) (Nat.zero_le _) (Nat.zero_le _) dX6_reach_30 ?_
        obtain ⟨z4, e_z4, h⟩ := nm_some h
        refine tpi e_z4 ?_
        refine lv_istore_n (lv' := [(1, .int z4), (0, .ref q), (2, .int x2)]) hx hb dX6_reach_33 rfl hl (by decide) rfl (fun ls hl => ?_)
        exact wX6_reach_J34 C hZ hq hk hK hP r F kb z4 x2 hkb ls (lv_sub hl [1, 0, 2] rfl) h
set_option maxHeartbeats 4000000 in
set_option maxRecDepth 100000 in
theorem kX6_reach (l : Launch) (D : va_G) (cs : Nat → ClassId) (a : Nat → Nat) (sh : Nat → Option Nat) (LP : List Nat) (Z : ZT) (hZ : shOK sh LP Z) (q : Nat) (hq : q ∈ LP) (hk : okK (Z q).1) (σ : Nat → Nat → Int32) (F : Nat)  (r : Int32) (h : fX6_reach F sh Z q σ = some r) : Met l yX6_reach wsX6_reach rmX6_reach (va_Pc [.ref q] (pR D cs (cW a cs sh LP Z σ))) (vp_Si (fun x => x = r)) 0 0 (fun _ => False) := by
  refine Met.ofW (cc := cX6_reach) (maxL := 3) (ret := (some .int)) (by decide) rfl ?_
  intro p e s m args below meth c s₁ B hml hv
  obtain ⟨rfl, hP, hK⟩ := hv
  have C : cxt p s m _ meth c cX6_reach 3 RX6 wsX6_reach (some .int) := ⟨B.exec, B.bytes, hml, findClass_of_methodNamed B.named, atoms_spec (ws := wsX6_reach) B.pre, B.returns, B.notSynchronized⟩
  obtain ⟨hx, hb, -, hown, hts, hr, hlk⟩ := id C
  refine entryW [.ref q] (n := 3) (Nat.le_of_ble_eq_true rfl) (fun ls hl => ?_)
  have hl : lv_has ls 3 [(0, .ref q)] := hl
  have fq : q ∈ LP ∧ okK (Z q).1 := ⟨hq, hk⟩
  unfold fX6_reach at h
  refine lv_iconst (v := (0 : Int32)) hx hb dX6_reach_0 (by decide) ?_
  refine lv_istore_n (lv' := [(1, .int (0 : Int32)), (0, .ref q)]) hx hb dX6_reach_1 rfl hl (by decide) rfl (fun ls hl => ?_)
  refine lv_iconst (v := (0 : Int32)) hx hb dX6_reach_2 (by decide) ?_
  refine lv_istore_n (lv' := [(2, .int (0 : Int32)), (1, .int (0 : Int32)), (0, .ref q)]) hx hb dX6_reach_3 rfl hl (by decide) rfl (fun ls hl => ?_)
  refine wX6_reach_L4 C hZ hq hk hK hP r F  _ ?_ F (0 : Int32) (0 : Int32) ls (lv_sub hl [2, 1, 0] rfl) h
  intro y1 ls hl h
  refine lv_iload_n hx hb dX6_reach_40 rfl (lv_at hl 0 rfl) ?_
  exact mretS hx hb hr hlk h dX6_reach_41
def fX7_isMissing (KI : Nat) (KL : Nat) (KN : Nat) (sh : Nat → Option Nat) (Z : ZT) (σ : Nat → Nat → Int32)  : Option Int32 :=
  if ¬ (σ KL 0) = ((-1) : Int32) then (some (0 : Int32)) else (some (1 : Int32))
abbrev rmX7_isMissing : Room := { frames := 0, cells := 0, slots := 0, locals := 0 }
theorem inX7_X7_isMissing : ∀ w ∈ wsX70, w ∈ wsX7_isMissing := by intro w h; simp only [wsX7_isMissing, List.mem_cons, List.mem_append]; simp only [h, true_or, or_true]
set_option maxHeartbeats 4000000 in
set_option maxRecDepth 100000 in
theorem kX7_isMissing_29 (l : Launch) (D : va_G) (cs : Nat → ClassId) (a : Nat → Nat) (sh : Nat → Option Nat) (LP : List Nat) (Z : ZT) (hZ : shOK sh LP Z) (σ : Nat → Nat → Int32)  (r : Int32) (h : fX7_isMissing 29 40 44 sh Z σ = some r) : Met l yX7_isMissing wsX7_isMissing rmX7_isMissing (va_Pc [.ref (a 25)] (pR D cs (cW a cs sh LP Z σ))) (vp_Si (fun x => x = r ∧ (r = 0 ∨ r = 1))) 0 0 (fun _ => False) := by
  refine Met.ofW (cc := cX7_isMissing) (maxL := 1) (ret := (some .boolean)) (by decide) rfl ?_
  intro p e s m args below meth c s₁ B hml hv
  obtain ⟨rfl, hP, hK⟩ := hv
  have C : cxt p s m _ meth c cX7_isMissing 1 RX7 wsX7_isMissing (some .boolean) := ⟨B.exec, B.bytes, hml, findClass_of_methodNamed B.named, atoms_spec (ws := wsX7_isMissing) B.pre, B.returns, B.notSynchronized⟩
  obtain ⟨hx, hb, -, hown, hts, hr, hlk⟩ := id C
  refine entryW [.ref (a 25)] (n := 1) (Nat.le_of_ble_eq_true rfl) (fun ls hl => ?_)
  have hl : lv_has ls 1 [(0, .ref (a 25))] := hl
  unfold fX7_isMissing at h
  refine lv_aload_n hx hb dX7_isMissing_0 rfl (lv_at hl 0 rfl) ?_
  refine va_get (D := D) (ci := 6) (v := .int (σ 40 0)) (C := RX7) (T := TX7) (N := 3) hx hb hts inX7_X7_isMissing hown hK.1 hP 25 rfl rfl 1 (by decide) (hts (.fieldLink RX7 15 "SandPalace$Sheet" "laneOfRow" "I") (by decide +kernel)) (fun _ h9 => h9) rfl dX7_isMissing_1 ?_
  refine lv_iconst (v := ((-1) : Int32)) hx hb dX7_isMissing_4 (by decide) ?_
  refine lv_icmp_ne (tgt := 12) hx hb dX7_isMissing_5 (by decide) (fun c1 => ?_) (fun c1 => ?_)
  · have h := it_t c1 h
    refine lv_iconst (v := (0 : Int32)) hx hb dX7_isMissing_12 (by decide) ?_
    exact mretSZ hx hb hr hlk h (Or.inl rfl) dX7_isMissing_13
  · have h := it_n c1 h
    refine lv_iconst (v := (1 : Int32)) hx hb dX7_isMissing_8 (by decide) ?_
    refine lv_goto (tgt := 13) hx hb dX7_isMissing_9 (by decide) ?_
    exact mretSZ hx hb hr hlk h (Or.inr rfl) dX7_isMissing_13
set_option maxHeartbeats 4000000 in
set_option maxRecDepth 100000 in
theorem kX7_isMissing_30 (l : Launch) (D : va_G) (cs : Nat → ClassId) (a : Nat → Nat) (sh : Nat → Option Nat) (LP : List Nat) (Z : ZT) (hZ : shOK sh LP Z) (σ : Nat → Nat → Int32)  (r : Int32) (h : fX7_isMissing 30 41 45 sh Z σ = some r) : Met l yX7_isMissing wsX7_isMissing rmX7_isMissing (va_Pc [.ref (a 26)] (pR D cs (cW a cs sh LP Z σ))) (vp_Si (fun x => x = r ∧ (r = 0 ∨ r = 1))) 0 0 (fun _ => False) := by
  refine Met.ofW (cc := cX7_isMissing) (maxL := 1) (ret := (some .boolean)) (by decide) rfl ?_
  intro p e s m args below meth c s₁ B hml hv
  obtain ⟨rfl, hP, hK⟩ := hv
  have C : cxt p s m _ meth c cX7_isMissing 1 RX7 wsX7_isMissing (some .boolean) := ⟨B.exec, B.bytes, hml, findClass_of_methodNamed B.named, atoms_spec (ws := wsX7_isMissing) B.pre, B.returns, B.notSynchronized⟩
  obtain ⟨hx, hb, -, hown, hts, hr, hlk⟩ := id C
  refine entryW [.ref (a 26)] (n := 1) (Nat.le_of_ble_eq_true rfl) (fun ls hl => ?_)
  have hl : lv_has ls 1 [(0, .ref (a 26))] := hl
  unfold fX7_isMissing at h
  refine lv_aload_n hx hb dX7_isMissing_0 rfl (lv_at hl 0 rfl) ?_
  refine va_get (D := D) (ci := 6) (v := .int (σ 41 0)) (C := RX7) (T := TX7) (N := 3) hx hb hts inX7_X7_isMissing hown hK.1 hP 26 rfl rfl 1 (by decide) (hts (.fieldLink RX7 15 "SandPalace$Sheet" "laneOfRow" "I") (by decide +kernel)) (fun _ h9 => h9) rfl dX7_isMissing_1 ?_
  refine lv_iconst (v := ((-1) : Int32)) hx hb dX7_isMissing_4 (by decide) ?_
  refine lv_icmp_ne (tgt := 12) hx hb dX7_isMissing_5 (by decide) (fun c1 => ?_) (fun c1 => ?_)
  · have h := it_t c1 h
    refine lv_iconst (v := (0 : Int32)) hx hb dX7_isMissing_12 (by decide) ?_
    exact mretSZ hx hb hr hlk h (Or.inl rfl) dX7_isMissing_13
  · have h := it_n c1 h
    refine lv_iconst (v := (1 : Int32)) hx hb dX7_isMissing_8 (by decide) ?_
    refine lv_goto (tgt := 13) hx hb dX7_isMissing_9 (by decide) ?_
    exact mretSZ hx hb hr hlk h (Or.inr rfl) dX7_isMissing_13
set_option maxHeartbeats 4000000 in
set_option maxRecDepth 100000 in
theorem kX7_isMissing_31 (l : Launch) (D : va_G) (cs : Nat → ClassId) (a : Nat → Nat) (sh : Nat → Option Nat) (LP : List Nat) (Z : ZT) (hZ : shOK sh LP Z) (σ : Nat → Nat → Int32)  (r : Int32) (h : fX7_isMissing 31 42 46 sh Z σ = some r) : Met l yX7_isMissing wsX7_isMissing rmX7_isMissing (va_Pc [.ref (a 27)] (pR D cs (cW a cs sh LP Z σ))) (vp_Si (fun x => x = r ∧ (r = 0 ∨ r = 1))) 0 0 (fun _ => False) := by
  refine Met.ofW (cc := cX7_isMissing) (maxL := 1) (ret := (some .boolean)) (by decide) rfl ?_
  intro p e s m args below meth c s₁ B hml hv
  obtain ⟨rfl, hP, hK⟩ := hv
  have C : cxt p s m _ meth c cX7_isMissing 1 RX7 wsX7_isMissing (some .boolean) := ⟨B.exec, B.bytes, hml, findClass_of_methodNamed B.named, atoms_spec (ws := wsX7_isMissing) B.pre, B.returns, B.notSynchronized⟩
  obtain ⟨hx, hb, -, hown, hts, hr, hlk⟩ := id C
  refine entryW [.ref (a 27)] (n := 1) (Nat.le_of_ble_eq_true rfl) (fun ls hl => ?_)
  have hl : lv_has ls 1 [(0, .ref (a 27))] := hl
  unfold fX7_isMissing at h
  refine lv_aload_n hx hb dX7_isMissing_0 rfl (lv_at hl 0 rfl) ?_
  refine va_get (D := D) (ci := 6) (v := .int (σ 42 0)) (C := RX7) (T := TX7) (N := 3) hx hb hts inX7_X7_isMissing hown hK.1 hP 27 rfl rfl 1 (by decide) (hts (.fieldLink RX7 15 "SandPalace$Sheet" "laneOfRow" "I") (by decide +kernel)) (fun _ h9 => h9) rfl dX7_isMissing_1 ?_
  refine lv_iconst (v := ((-1) : Int32)) hx hb dX7_isMissing_4 (by decide) ?_
  refine lv_icmp_ne (tgt := 12) hx hb dX7_isMissing_5 (by decide) (fun c1 => ?_) (fun c1 => ?_)
  · have h := it_t c1 h
    refine lv_iconst (v := (0 : Int32)) hx hb dX7_isMissing_12 (by decide) ?_
    exact mretSZ hx hb hr hlk h (Or.inl rfl) dX7_isMissing_13
  · have h := it_n c1 h
    refine lv_iconst (v := (1 : Int32)) hx hb dX7_isMissing_8 (by decide) ?_
    refine lv_goto (tgt := 13) hx hb dX7_isMissing_9 (by decide) ?_
    exact mretSZ hx hb hr hlk h (Or.inr rfl) dX7_isMissing_13
set_option maxHeartbeats 4000000 in
set_option maxRecDepth 100000 in
theorem kX7_isMissing_32 (l : Launch) (D : va_G) (cs : Nat → ClassId) (a : Nat → Nat) (sh : Nat → Option Nat) (LP : List Nat) (Z : ZT) (hZ : shOK sh LP Z) (σ : Nat → Nat → Int32)  (r : Int32) (h : fX7_isMissing 32 43 47 sh Z σ = some r) : Met l yX7_isMissing wsX7_isMissing rmX7_isMissing (va_Pc [.ref (a 28)] (pR D cs (cW a cs sh LP Z σ))) (vp_Si (fun x => x = r ∧ (r = 0 ∨ r = 1))) 0 0 (fun _ => False) := by
  refine Met.ofW (cc := cX7_isMissing) (maxL := 1) (ret := (some .boolean)) (by decide) rfl ?_
  intro p e s m args below meth c s₁ B hml hv
  obtain ⟨rfl, hP, hK⟩ := hv
  have C : cxt p s m _ meth c cX7_isMissing 1 RX7 wsX7_isMissing (some .boolean) := ⟨B.exec, B.bytes, hml, findClass_of_methodNamed B.named, atoms_spec (ws := wsX7_isMissing) B.pre, B.returns, B.notSynchronized⟩
  obtain ⟨hx, hb, -, hown, hts, hr, hlk⟩ := id C
  refine entryW [.ref (a 28)] (n := 1) (Nat.le_of_ble_eq_true rfl) (fun ls hl => ?_)
  have hl : lv_has ls 1 [(0, .ref (a 28))] := hl
  unfold fX7_isMissing at h
  refine lv_aload_n hx hb dX7_isMissing_0 rfl (lv_at hl 0 rfl) ?_
  refine va_get (D := D) (ci := 6) (v := .int (σ 43 0)) (C := RX7) (T := TX7) (N := 3) hx hb hts inX7_X7_isMissing hown hK.1 hP 28 rfl rfl 1 (by decide) (hts (.fieldLink RX7 15 "SandPalace$Sheet" "laneOfRow" "I") (by decide +kernel)) (fun _ h9 => h9) rfl dX7_isMissing_1 ?_
  refine lv_iconst (v := ((-1) : Int32)) hx hb dX7_isMissing_4 (by decide) ?_
  refine lv_icmp_ne (tgt := 12) hx hb dX7_isMissing_5 (by decide) (fun c1 => ?_) (fun c1 => ?_)
  · have h := it_t c1 h
    refine lv_iconst (v := (0 : Int32)) hx hb dX7_isMissing_12 (by decide) ?_
    exact mretSZ hx hb hr hlk h (Or.inl rfl) dX7_isMissing_13
  · have h := it_n c1 h
    refine lv_iconst (v := (1 : Int32)) hx hb dX7_isMissing_8 (by decide) ?_
    refine lv_goto (tgt := 13) hx hb dX7_isMissing_9 (by decide) ?_
    exact mretSZ hx hb hr hlk h (Or.inr rfl) dX7_isMissing_13
def fX7_begin_L12 (KI : Nat) (KL : Nat) (KN : Nat) (F : Nat) (sh : Nat → Option Nat) (Z : ZT) (x2 : Int32) (kx : (Nat → Nat → Int32) → Option ((Nat → Nat → Int32))) : Nat → Int32 → (Nat → Nat → Int32) → Option ((Nat → Nat → Int32))
  | 0, _, _ => none
  | n+1, x3, σ =>
    nb ((fun x3 σ => fX7_begin_L12 KI KL KN F sh Z x2 kx n x3 σ)) fun kb =>
    if x2 ≤ x3 then (kx σ) else (aS 256 x3 (nm (sg σ KI (upd (σ KI) x3.toNatClampNeg (0 : Int32))) fun σ5 => kb (x3 + (1 : Int32)) σ5))
def fX7_begin (KI : Nat) (KL : Nat) (KN : Nat) (F : Nat) (sh : Nat → Option Nat) (Z : ZT) (σ : Nat → Nat → Int32) (x1 : Int32) (x2 : Int32) : Option ((Nat → Nat → Int32)) :=
  nm (sg σ KL (fun _ => x1)) fun σ1 => nm (sg σ1 KN (fun _ => x2)) fun σ2 => fX7_begin_L12 KI KL KN F sh Z x2 (fun σ3 => some σ3) F (0 : Int32) σ2
abbrev rmX7_begin : Room := { frames := 0, cells := 0, slots := 0, locals := 0 }
theorem inX7_X7_begin : ∀ w ∈ wsX70, w ∈ wsX7_begin := by intro w h; simp only [wsX7_begin, List.mem_cons, List.mem_append]; simp only [h, true_or, or_true]
set_option maxHeartbeats 4000000 in
set_option maxRecDepth 100000 in
theorem wX7_begin_29_L12 {p : Program} {l : Launch} {e : Env} {s : State} {m : MethodId} {args : Array Value} {below : List Frame} {meth : Method} {c : Code} (C : cxt p s m args meth c cX7_begin 4 RX7 wsX7_begin none) {D : va_G} {cs : Nat → ClassId} {a : Nat → Nat} {sh : Nat → Option Nat} {LP : List Nat} {Z : ZT} (hZ : shOK sh LP Z) (hK : KK D cs s) {A : Nat → Prop} (hA : ∀ q, s.heap.size ≤ q → A q) (u9 : Nat → Nat → Int32) (F : Nat) (x2 : Int32) (kx : (Nat → Nat → Int32) → Option ((Nat → Nat → Int32))) (hkx : ∀ (σ : Nat → Nat → Int32) (H : Heap) (locs : List Loc) (ls : Array Slot), va_P D vwCl (cW a cs sh LP Z σ) H → va_D A (cW a cs sh LP Z σ) → va_S A s.heap H locs → lv_has ls 4 [] → kx σ = some u9 → W p l e rmX7_begin s m args below meth c H locs 0 0 (MQ below (va_Qv (fun y => y = u9) (qB D (cW a cs sh LP Z) A) A) args s 0 0 A) (F0 m 30 ls [])) : ∀ (n : Nat) (x3 : Int32) (σ : Nat → Nat → Int32) (H : Heap) (locs : List Loc) (ls : Array Slot), va_P D vwCl (cW a cs sh LP Z σ) H → va_D A (cW a cs sh LP Z σ) → va_S A s.heap H locs → lv_has ls 4 [(0, .ref (a 25)), (2, .int x2), (3, .int x3)] → fX7_begin_L12 29 40 44 F sh Z x2 kx n x3 σ = some u9 → W p l e rmX7_begin s m args below meth c H locs 0 0 (MQ below (va_Qv (fun y => y = u9) (qB D (cW a cs sh LP Z) A) A) args s 0 0 A) (F0 m 12 ls []) := by
  obtain ⟨hx, hb, hml, hown, hts, hr, hlk⟩ := id C
  intro n
  induction n with
  | zero =>
    intros
    rename_i h
    cases h
  | succ n ih =>
    intro x3 σ H locs ls hP hD hS hl h
    rw [fX7_begin_L12] at h
    obtain ⟨kb, hkb, h⟩ := nb_some (P := fun (kb : Int32 → (Nat → Nat → Int32) → Option ((Nat → Nat → Int32))) => ∀ (x3 : Int32) (σ : Nat → Nat → Int32) (H : Heap) (locs : List Loc) (ls : Array Slot), va_P D vwCl (cW a cs sh LP Z σ) H → va_D A (cW a cs sh LP Z σ) → va_S A s.heap H locs → lv_has ls 4 [(0, .ref (a 25)), (2, .int x2), (3, .int x3)] → kb x3 σ = some u9 → W p l e rmX7_begin s m args below meth c H locs 0 0 (MQ below (va_Qv (fun y => y = u9) (qB D (cW a cs sh LP Z) A) A) args s 0 0 A) (F0 m 12 ls [])) h ih
    refine lv_iload_n hx hb dX7_begin_12 rfl (lv_at hl 2 rfl) ?_
    refine lv_iload_n hx hb dX7_begin_13 rfl (lv_at hl 1 rfl) ?_
    refine lv_icmp_ge (tgt := 30) hx hb dX7_begin_14 (by decide) (fun c3 => ?_) (fun c3 => ?_)
    · have h := it_t c3 h
      exact hkx σ _ _ ls hP hD hS (lv_sub hl [] rfl) h
    · have h := it_f c3 h
      refine lv_aload_n hx hb dX7_begin_17 rfl (lv_at hl 0 rfl) ?_
      refine va_get (D := D) (ci := 6) (v := .ref (a 29)) (C := RX7) (T := TX7) (N := 3) hx hb hts inX7_X7_begin hown hK.1 hP 25 rfl rfl 0 (by decide) (hts (.fieldLink RX7 9 "SandPalace$Sheet" "items" "[I") (by decide +kernel)) (fun _ h9 => h9) rfl dX7_begin_18 ?_
      refine lv_iload_n hx hb dX7_begin_21 rfl (lv_at hl 2 rfl) ?_
      refine lv_iconst (v := (0 : Int32)) hx hb dX7_begin_22 (by decide) ?_
      obtain ⟨i4, h⟩ := aS_some h
      refine va_iast hx hb hK.1 hP hD hS 29 0 rfl rfl i4 dX7_begin_23 (fun H locs hP hD hS => ?_)
      obtain ⟨σ5, e_σ5, h⟩ := nm_some h
      have hP : va_P D vwCl (cW a cs sh LP Z σ5) H := by rw [← e_σ5]; exact hP
      have hD : va_D A (cW a cs sh LP Z σ5) := by rw [← e_σ5]; exact hD
      refine lv_iinc (v := x3 + (1 : Int32)) (lv' := [(3, .int (x3 + (1 : Int32))), (0, .ref (a 25)), (2, .int x2)]) hx hb dX7_begin_24 hl (k := 2) rfl rfl (by decide) rfl (fun ls hl => ?_)
      refine lv_goto (tgt := 12) hx hb dX7_begin_27 (by decide) ?_
      exact hkb (x3 + (1 : Int32)) σ5 _ _ ls hP hD hS (lv_sub hl [1, 2, 0] rfl) h
set_option maxHeartbeats 4000000 in
set_option maxRecDepth 100000 in
theorem kX7_begin_29 (l : Launch) (D : va_G) (cs : Nat → ClassId) (a : Nat → Nat) (sh : Nat → Option Nat) (LP : List Nat) (Z : ZT) (hZ : shOK sh LP Z) (σ : Nat → Nat → Int32) (F : Nat) (x1 : Int32) (x2 : Int32) (u9 : Nat → Nat → Int32) (h : fX7_begin 29 40 44 F sh Z σ x1 x2 = some u9) (sz : Nat) : Met l yX7_begin wsX7_begin rmX7_begin (va_Pc [.ref (a 25), .int x1, .int x2] (pQ D cs (cW a cs sh LP Z σ) sz)) (va_Qv (fun y => y = u9) (qB D (cW a cs sh LP Z) (va_A (cW a cs sh LP Z σ) sz)) (va_A (cW a cs sh LP Z σ) sz)) 0 0 (va_A (cW a cs sh LP Z σ) sz) := by
  refine Met.ofW (cc := cX7_begin) (maxL := 4) (ret := none) (by decide) rfl ?_
  intro p e s m args below meth c s₁ B hml hv
  obtain ⟨rfl, hsz, hP, hK, hD0⟩ := hv
  have C : cxt p s m _ meth c cX7_begin 4 RX7 wsX7_begin none := ⟨B.exec, B.bytes, hml, findClass_of_methodNamed B.named, atoms_spec (ws := wsX7_begin) B.pre, B.returns, B.notSynchronized⟩
  obtain ⟨hx, hb, -, hown, hts, hr, hlk⟩ := id C
  subst hsz
  have hD := hD0.self (sz := s.heap.size)
  generalize hAe : va_A (cW a cs sh LP Z σ) s.heap.size = A at hD ⊢
  have hA : ∀ q : Nat, s.heap.size ≤ q → A q := fun q h => by rw [← hAe]; exact Or.inr h
  have hS : va_S A s.heap s.heap [] := va_S.rf
  refine entryW [.ref (a 25), .int x1, .int x2] (n := 4) (Nat.le_of_ble_eq_true rfl) (fun ls hl => ?_)
  have hl : lv_has ls 4 [(0, .ref (a 25)), (1, .int x1), (2, .int x2)] := hl
  unfold fX7_begin at h
  refine lv_aload_n hx hb dX7_begin_0 rfl (lv_at hl 0 rfl) ?_
  refine lv_iload_n hx hb dX7_begin_1 rfl (lv_at hl 1 rfl) ?_
  refine va_put (D := D) (ci := 6) (v := .int x1) (ty := .int) (C := RX7) (T := TX7) (N := 3) hx hb hts inX7_X7_begin tyX7 tyX7_ok nmX7 hown hK.1 hP hD hS 25 rfl rfl 1 (by decide) (hts (.fieldLink RX7 15 "SandPalace$Sheet" "laneOfRow" "I") (by decide +kernel)) (fun _ h9 => h9) rfl (by decide +kernel) rfl rfl (Nat.le_of_ble_eq_true rfl) dX7_begin_2 (fun H locs hP hD hS => ?_)
  obtain ⟨σ1, e_σ1, h⟩ := nm_some h
  have hP : va_P D vwCl (cW a cs sh LP Z σ1) H := by rw [← e_σ1]; exact hP
  have hD : va_D A (cW a cs sh LP Z σ1) := by rw [← e_σ1]; exact hD
  refine lv_aload_n hx hb dX7_begin_5 rfl (lv_at hl 0 rfl) ?_
  refine lv_iload_n hx hb dX7_begin_6 rfl (lv_at hl 2 rfl) ?_
  refine va_put (D := D) (ci := 6) (v := .int x2) (ty := .int) (C := RX7) (T := TX7) (N := 3) hx hb hts inX7_X7_begin tyX7 tyX7_ok nmX7 hown hK.1 hP hD hS 25 rfl rfl 2 (by decide) (hts (.fieldLink RX7 19 "SandPalace$Sheet" "length" "I") (by decide +kernel)) (fun _ h9 => h9) rfl (by decide +kernel) rfl rfl (Nat.le_of_ble_eq_true rfl) dX7_begin_7 (fun H locs hP hD hS => ?_)
  obtain ⟨σ2, e_σ2, h⟩ := nm_some h
  have hP : va_P D vwCl (cW a cs sh LP Z σ2) H := by rw [← e_σ2]; exact hP
  have hD : va_D A (cW a cs sh LP Z σ2) := by rw [← e_σ2]; exact hD
  refine lv_iconst (v := (0 : Int32)) hx hb dX7_begin_10 (by decide) ?_
  refine lv_istore_n (lv' := [(3, .int (0 : Int32)), (0, .ref (a 25)), (1, .int x1), (2, .int x2)]) hx hb dX7_begin_11 rfl hl (by decide) rfl (fun ls hl => ?_)
  refine wX7_begin_29_L12 C hZ hK hA  u9 F x2 _ ?_ F (0 : Int32) σ2 _ _ ls hP hD hS (lv_sub hl [1, 3, 0] rfl) h
  intro σ3 H locs ls hP hD hS hl h
  exact mretV hx hb hr hlk h hP hD hS dX7_begin_30
set_option maxHeartbeats 4000000 in
set_option maxRecDepth 100000 in
theorem wX7_begin_30_L12 {p : Program} {l : Launch} {e : Env} {s : State} {m : MethodId} {args : Array Value} {below : List Frame} {meth : Method} {c : Code} (C : cxt p s m args meth c cX7_begin 4 RX7 wsX7_begin none) {D : va_G} {cs : Nat → ClassId} {a : Nat → Nat} {sh : Nat → Option Nat} {LP : List Nat} {Z : ZT} (hZ : shOK sh LP Z) (hK : KK D cs s) {A : Nat → Prop} (hA : ∀ q, s.heap.size ≤ q → A q) (u9 : Nat → Nat → Int32) (F : Nat) (x2 : Int32) (kx : (Nat → Nat → Int32) → Option ((Nat → Nat → Int32))) (hkx : ∀ (σ : Nat → Nat → Int32) (H : Heap) (locs : List Loc) (ls : Array Slot), va_P D vwCl (cW a cs sh LP Z σ) H → va_D A (cW a cs sh LP Z σ) → va_S A s.heap H locs → lv_has ls 4 [] → kx σ = some u9 → W p l e rmX7_begin s m args below meth c H locs 0 0 (MQ below (va_Qv (fun y => y = u9) (qB D (cW a cs sh LP Z) A) A) args s 0 0 A) (F0 m 30 ls [])) : ∀ (n : Nat) (x3 : Int32) (σ : Nat → Nat → Int32) (H : Heap) (locs : List Loc) (ls : Array Slot), va_P D vwCl (cW a cs sh LP Z σ) H → va_D A (cW a cs sh LP Z σ) → va_S A s.heap H locs → lv_has ls 4 [(0, .ref (a 26)), (2, .int x2), (3, .int x3)] → fX7_begin_L12 30 41 45 F sh Z x2 kx n x3 σ = some u9 → W p l e rmX7_begin s m args below meth c H locs 0 0 (MQ below (va_Qv (fun y => y = u9) (qB D (cW a cs sh LP Z) A) A) args s 0 0 A) (F0 m 12 ls []) := by
  obtain ⟨hx, hb, hml, hown, hts, hr, hlk⟩ := id C
  intro n
  induction n with
  | zero =>
    intros
    rename_i h
    cases h
  | succ n ih =>
    intro x3 σ H locs ls hP hD hS hl h
    rw [fX7_begin_L12] at h
    obtain ⟨kb, hkb, h⟩ := nb_some (P := fun (kb : Int32 → (Nat → Nat → Int32) → Option ((Nat → Nat → Int32))) => ∀ (x3 : Int32) (σ : Nat → Nat → Int32) (H : Heap) (locs : List Loc) (ls : Array Slot), va_P D vwCl (cW a cs sh LP Z σ) H → va_D A (cW a cs sh LP Z σ) → va_S A s.heap H locs → lv_has ls 4 [(0, .ref (a 26)), (2, .int x2), (3, .int x3)] → kb x3 σ = some u9 → W p l e rmX7_begin s m args below meth c H locs 0 0 (MQ below (va_Qv (fun y => y = u9) (qB D (cW a cs sh LP Z) A) A) args s 0 0 A) (F0 m 12 ls [])) h ih
    refine lv_iload_n hx hb dX7_begin_12 rfl (lv_at hl 2 rfl) ?_
    refine lv_iload_n hx hb dX7_begin_13 rfl (lv_at hl 1 rfl) ?_
    refine lv_icmp_ge (tgt := 30) hx hb dX7_begin_14 (by decide) (fun c3 => ?_) (fun c3 => ?_)
    · have h := it_t c3 h
      exact hkx σ _ _ ls hP hD hS (lv_sub hl [] rfl) h
    · have h := it_f c3 h
      refine lv_aload_n hx hb dX7_begin_17 rfl (lv_at hl 0 rfl) ?_
      refine va_get (D := D) (ci := 6) (v := .ref (a 30)) (C := RX7) (T := TX7) (N := 3) hx hb hts inX7_X7_begin hown hK.1 hP 26 rfl rfl 0 (by decide) (hts (.fieldLink RX7 9 "SandPalace$Sheet" "items" "[I") (by decide +kernel)) (fun _ h9 => h9) rfl dX7_begin_18 ?_
      refine lv_iload_n hx hb dX7_begin_21 rfl (lv_at hl 2 rfl) ?_
      refine lv_iconst (v := (0 : Int32)) hx hb dX7_begin_22 (by decide) ?_
      obtain ⟨i4, h⟩ := aS_some h
      refine va_iast hx hb hK.1 hP hD hS 30 0 rfl rfl i4 dX7_begin_23 (fun H locs hP hD hS => ?_)
      obtain ⟨σ5, e_σ5, h⟩ := nm_some h
      have hP : va_P D vwCl (cW a cs sh LP Z σ5) H := by rw [← e_σ5]; exact hP
      have hD : va_D A (cW a cs sh LP Z σ5) := by rw [← e_σ5]; exact hD
      refine lv_iinc (v := x3 + (1 : Int32)) (lv' := [(3, .int (x3 + (1 : Int32))), (0, .ref (a 26)), (2, .int x2)]) hx hb dX7_begin_24 hl (k := 2) rfl rfl (by decide) rfl (fun ls hl => ?_)
      refine lv_goto (tgt := 12) hx hb dX7_begin_27 (by decide) ?_
      exact hkb (x3 + (1 : Int32)) σ5 _ _ ls hP hD hS (lv_sub hl [1, 2, 0] rfl) h
set_option maxHeartbeats 4000000 in
set_option maxRecDepth 100000 in
theorem kX7_begin_30 (l : Launch) (D : va_G) (cs : Nat → ClassId) (a : Nat → Nat) (sh : Nat → Option Nat) (LP : List Nat) (Z : ZT) (hZ : shOK sh LP Z) (σ : Nat → Nat → Int32) (F : Nat) (x1 : Int32) (x2 : Int32) (u9 : Nat → Nat → Int32) (h : fX7_begin 30 41 45 F sh Z σ x1 x2 = some u9) (sz : Nat) : Met l yX7_begin wsX7_begin rmX7_begin (va_Pc [.ref (a 26), .int x1, .int x2] (pQ D cs (cW a cs sh LP Z σ) sz)) (va_Qv (fun y => y = u9) (qB D (cW a cs sh LP Z) (va_A (cW a cs sh LP Z σ) sz)) (va_A (cW a cs sh LP Z σ) sz)) 0 0 (va_A (cW a cs sh LP Z σ) sz) := by
  refine Met.ofW (cc := cX7_begin) (maxL := 4) (ret := none) (by decide) rfl ?_
  intro p e s m args below meth c s₁ B hml hv
  obtain ⟨rfl, hsz, hP, hK, hD0⟩ := hv
  have C : cxt p s m _ meth c cX7_begin 4 RX7 wsX7_begin none := ⟨B.exec, B.bytes, hml, findClass_of_methodNamed B.named, atoms_spec (ws := wsX7_begin) B.pre, B.returns, B.notSynchronized⟩
  obtain ⟨hx, hb, -, hown, hts, hr, hlk⟩ := id C
  subst hsz
  have hD := hD0.self (sz := s.heap.size)
  generalize hAe : va_A (cW a cs sh LP Z σ) s.heap.size = A at hD ⊢
  have hA : ∀ q : Nat, s.heap.size ≤ q → A q := fun q h => by rw [← hAe]; exact Or.inr h
  have hS : va_S A s.heap s.heap [] := va_S.rf
  refine entryW [.ref (a 26), .int x1, .int x2] (n := 4) (Nat.le_of_ble_eq_true rfl) (fun ls hl => ?_)
  have hl : lv_has ls 4 [(0, .ref (a 26)), (1, .int x1), (2, .int x2)] := hl
  unfold fX7_begin at h
  refine lv_aload_n hx hb dX7_begin_0 rfl (lv_at hl 0 rfl) ?_
  refine lv_iload_n hx hb dX7_begin_1 rfl (lv_at hl 1 rfl) ?_
  refine va_put (D := D) (ci := 6) (v := .int x1) (ty := .int) (C := RX7) (T := TX7) (N := 3) hx hb hts inX7_X7_begin tyX7 tyX7_ok nmX7 hown hK.1 hP hD hS 26 rfl rfl 1 (by decide) (hts (.fieldLink RX7 15 "SandPalace$Sheet" "laneOfRow" "I") (by decide +kernel)) (fun _ h9 => h9) rfl (by decide +kernel) rfl rfl (Nat.le_of_ble_eq_true rfl) dX7_begin_2 (fun H locs hP hD hS => ?_)
  obtain ⟨σ1, e_σ1, h⟩ := nm_some h
  have hP : va_P D vwCl (cW a cs sh LP Z σ1) H := by rw [← e_σ1]; exact hP
  have hD : va_D A (cW a cs sh LP Z σ1) := by rw [← e_σ1]; exact hD
  refine lv_aload_n hx hb dX7_begin_5 rfl (lv_at hl 0 rfl) ?_
  refine lv_iload_n hx hb dX7_begin_6 rfl (lv_at hl 2 rfl) ?_
  refine va_put (D := D) (ci := 6) (v := .int x2) (ty := .int) (C := RX7) (T := TX7) (N := 3) hx hb hts inX7_X7_begin tyX7 tyX7_ok nmX7 hown hK.1 hP hD hS 26 rfl rfl 2 (by decide) (hts (.fieldLink RX7 19 "SandPalace$Sheet" "length" "I") (by decide +kernel)) (fun _ h9 => h9) rfl (by decide +kernel) rfl rfl (Nat.le_of_ble_eq_true rfl) dX7_begin_7 (fun H locs hP hD hS => ?_)
  obtain ⟨σ2, e_σ2, h⟩ := nm_some h
  have hP : va_P D vwCl (cW a cs sh LP Z σ2) H := by rw [← e_σ2]; exact hP
  have hD : va_D A (cW a cs sh LP Z σ2) := by rw [← e_σ2]; exact hD
  refine lv_iconst (v := (0 : Int32)) hx hb dX7_begin_10 (by decide) ?_
  refine lv_istore_n (lv' := [(3, .int (0 : Int32)), (0, .ref (a 26)), (1, .int x1), (2, .int x2)]) hx hb dX7_begin_11 rfl hl (by decide) rfl (fun ls hl => ?_)
  refine wX7_begin_30_L12 C hZ hK hA  u9 F x2 _ ?_ F (0 : Int32) σ2 _ _ ls hP hD hS (lv_sub hl [1, 3, 0] rfl) h
  intro σ3 H locs ls hP hD hS hl h
  exact mretV hx hb hr hlk h hP hD hS dX7_begin_30
set_option maxHeartbeats 4000000 in
set_option maxRecDepth 100000 in
theorem wX7_begin_31_L12 {p : Program} {l : Launch} {e : Env} {s : State} {m : MethodId} {args : Array Value} {below : List Frame} {meth : Method} {c : Code} (C : cxt p s m args meth c cX7_begin 4 RX7 wsX7_begin none) {D : va_G} {cs : Nat → ClassId} {a : Nat → Nat} {sh : Nat → Option Nat} {LP : List Nat} {Z : ZT} (hZ : shOK sh LP Z) (hK : KK D cs s) {A : Nat → Prop} (hA : ∀ q, s.heap.size ≤ q → A q) (u9 : Nat → Nat → Int32) (F : Nat) (x2 : Int32) (kx : (Nat → Nat → Int32) → Option ((Nat → Nat → Int32))) (hkx : ∀ (σ : Nat → Nat → Int32) (H : Heap) (locs : List Loc) (ls : Array Slot), va_P D vwCl (cW a cs sh LP Z σ) H → va_D A (cW a cs sh LP Z σ) → va_S A s.heap H locs → lv_has ls 4 [] → kx σ = some u9 → W p l e rmX7_begin s m args below meth c H locs 0 0 (MQ below (va_Qv (fun y => y = u9) (qB D (cW a cs sh LP Z) A) A) args s 0 0 A) (F0 m 30 ls [])) : ∀ (n : Nat) (x3 : Int32) (σ : Nat → Nat → Int32) (H : Heap) (locs : List Loc) (ls : Array Slot), va_P D vwCl (cW a cs sh LP Z σ) H → va_D A (cW a cs sh LP Z σ) → va_S A s.heap H locs → lv_has ls 4 [(0, .ref (a 27)), (2, .int x2), (3, .int x3)] → fX7_begin_L12 31 42 46 F sh Z x2 kx n x3 σ = some u9 → W p l e rmX7_begin s m args below meth c H locs 0 0 (MQ below (va_Qv (fun y => y = u9) (qB D (cW a cs sh LP Z) A) A) args s 0 0 A) (F0 m 12 ls []) := by
  obtain ⟨hx, hb, hml, hown, hts, hr, hlk⟩ := id C
  intro n
  induction n with
  | zero =>
    intros
    rename_i h
    cases h
  | succ n ih =>
    intro x3 σ H locs ls hP hD hS hl h
    rw [fX7_begin_L12] at h
    obtain ⟨kb, hkb, h⟩ := nb_some (P := fun (kb : Int32 → (Nat → Nat → Int32) → Option ((Nat → Nat → Int32))) => ∀ (x3 : Int32) (σ : Nat → Nat → Int32) (H : Heap) (locs : List Loc) (ls : Array Slot), va_P D vwCl (cW a cs sh LP Z σ) H → va_D A (cW a cs sh LP Z σ) → va_S A s.heap H locs → lv_has ls 4 [(0, .ref (a 27)), (2, .int x2), (3, .int x3)] → kb x3 σ = some u9 → W p l e rmX7_begin s m args below meth c H locs 0 0 (MQ below (va_Qv (fun y => y = u9) (qB D (cW a cs sh LP Z) A) A) args s 0 0 A) (F0 m 12 ls [])) h ih
    refine lv_iload_n hx hb dX7_begin_12 rfl (lv_at hl 2 rfl) ?_
    refine lv_iload_n hx hb dX7_begin_13 rfl (lv_at hl 1 rfl) ?_
    refine lv_icmp_ge (tgt := 30) hx hb dX7_begin_14 (by decide) (fun c3 => ?_) (fun c3 => ?_)
    · have h := it_t c3 h
      exact hkx σ _ _ ls hP hD hS (lv_sub hl [] rfl) h
    · have h := it_f c3 h
      refine lv_aload_n hx hb dX7_begin_17 rfl (lv_at hl 0 rfl) ?_
      refine va_get (D := D) (ci := 6) (v := .ref (a 31)) (C := RX7) (T := TX7) (N := 3) hx hb hts inX7_X7_begin hown hK.1 hP 27 rfl rfl 0 (by decide) (hts (.fieldLink RX7 9 "SandPalace$Sheet" "items" "[I") (by decide +kernel)) (fun _ h9 => h9) rfl dX7_begin_18 ?_
      refine lv_iload_n hx hb dX7_begin_21 rfl (lv_at hl 2 rfl) ?_
      refine lv_iconst (v := (0 : Int32)) hx hb dX7_begin_22 (by decide) ?_
      obtain ⟨i4, h⟩ := aS_some h
      refine va_iast hx hb hK.1 hP hD hS 31 0 rfl rfl i4 dX7_begin_23 (fun H locs hP hD hS => ?_)
      obtain ⟨σ5, e_σ5, h⟩ := nm_some h
      have hP : va_P D vwCl (cW a cs sh LP Z σ5) H := by rw [← e_σ5]; exact hP
      have hD : va_D A (cW a cs sh LP Z σ5) := by rw [← e_σ5]; exact hD
      refine lv_iinc (v := x3 + (1 : Int32)) (lv' := [(3, .int (x3 + (1 : Int32))), (0, .ref (a 27)), (2, .int x2)]) hx hb dX7_begin_24 hl (k := 2) rfl rfl (by decide) rfl (fun ls hl => ?_)
      refine lv_goto (tgt := 12) hx hb dX7_begin_27 (by decide) ?_
      exact hkb (x3 + (1 : Int32)) σ5 _ _ ls hP hD hS (lv_sub hl [1, 2, 0] rfl) h
set_option maxHeartbeats 4000000 in
set_option maxRecDepth 100000 in
theorem kX7_begin_31 (l : Launch) (D : va_G) (cs : Nat → ClassId) (a : Nat → Nat) (sh : Nat → Option Nat) (LP : List Nat) (Z : ZT) (hZ : shOK sh LP Z) (σ : Nat → Nat → Int32) (F : Nat) (x1 : Int32) (x2 : Int32) (u9 : Nat → Nat → Int32) (h : fX7_begin 31 42 46 F sh Z σ x1 x2 = some u9) (sz : Nat) : Met l yX7_begin wsX7_begin rmX7_begin (va_Pc [.ref (a 27), .int x1, .int x2] (pQ D cs (cW a cs sh LP Z σ) sz)) (va_Qv (fun y => y = u9) (qB D (cW a cs sh LP Z) (va_A (cW a cs sh LP Z σ) sz)) (va_A (cW a cs sh LP Z σ) sz)) 0 0 (va_A (cW a cs sh LP Z σ) sz) := by
  refine Met.ofW (cc := cX7_begin) (maxL := 4) (ret := none) (by decide) rfl ?_
  intro p e s m args below meth c s₁ B hml hv
  obtain ⟨rfl, hsz, hP, hK, hD0⟩ := hv
  have C : cxt p s m _ meth c cX7_begin 4 RX7 wsX7_begin none := ⟨B.exec, B.bytes, hml, findClass_of_methodNamed B.named, atoms_spec (ws := wsX7_begin) B.pre, B.returns, B.notSynchronized⟩
  obtain ⟨hx, hb, -, hown, hts, hr, hlk⟩ := id C
  subst hsz
  have hD := hD0.self (sz := s.heap.size)
  generalize hAe : va_A (cW a cs sh LP Z σ) s.heap.size = A at hD ⊢
  have hA : ∀ q : Nat, s.heap.size ≤ q → A q := fun q h => by rw [← hAe]; exact Or.inr h
  have hS : va_S A s.heap s.heap [] := va_S.rf
  refine entryW [.ref (a 27), .int x1, .int x2] (n := 4) (Nat.le_of_ble_eq_true rfl) (fun ls hl => ?_)
  have hl : lv_has ls 4 [(0, .ref (a 27)), (1, .int x1), (2, .int x2)] := hl
  unfold fX7_begin at h
  refine lv_aload_n hx hb dX7_begin_0 rfl (lv_at hl 0 rfl) ?_
  refine lv_iload_n hx hb dX7_begin_1 rfl (lv_at hl 1 rfl) ?_
  refine va_put (D := D) (ci := 6) (v := .int x1) (ty := .int) (C := RX7) (T := TX7) (N := 3) hx hb hts inX7_X7_begin tyX7 tyX7_ok nmX7 hown hK.1 hP hD hS 27 rfl rfl 1 (by decide) (hts (.fieldLink RX7 15 "SandPalace$Sheet" "laneOfRow" "I") (by decide +kernel)) (fun _ h9 => h9) rfl (by decide +kernel) rfl rfl (Nat.le_of_ble_eq_true rfl) dX7_begin_2 (fun H locs hP hD hS => ?_)
  obtain ⟨σ1, e_σ1, h⟩ := nm_some h
  have hP : va_P D vwCl (cW a cs sh LP Z σ1) H := by rw [← e_σ1]; exact hP
  have hD : va_D A (cW a cs sh LP Z σ1) := by rw [← e_σ1]; exact hD
  refine lv_aload_n hx hb dX7_begin_5 rfl (lv_at hl 0 rfl) ?_
  refine lv_iload_n hx hb dX7_begin_6 rfl (lv_at hl 2 rfl) ?_
  refine va_put (D := D) (ci := 6) (v := .int x2) (ty := .int) (C := RX7) (T := TX7) (N := 3) hx hb hts inX7_X7_begin tyX7 tyX7_ok nmX7 hown hK.1 hP hD hS 27 rfl rfl 2 (by decide) (hts (.fieldLink RX7 19 "SandPalace$Sheet" "length" "I") (by decide +kernel)) (fun _ h9 => h9) rfl (by decide +kernel) rfl rfl (Nat.le_of_ble_eq_true rfl) dX7_begin_7 (fun H locs hP hD hS => ?_)
  obtain ⟨σ2, e_σ2, h⟩ := nm_some h
  have hP : va_P D vwCl (cW a cs sh LP Z σ2) H := by rw [← e_σ2]; exact hP
  have hD : va_D A (cW a cs sh LP Z σ2) := by rw [← e_σ2]; exact hD
  refine lv_iconst (v := (0 : Int32)) hx hb dX7_begin_10 (by decide) ?_
  refine lv_istore_n (lv' := [(3, .int (0 : Int32)), (0, .ref (a 27)), (1, .int x1), (2, .int x2)]) hx hb dX7_begin_11 rfl hl (by decide) rfl (fun ls hl => ?_)
  refine wX7_begin_31_L12 C hZ hK hA  u9 F x2 _ ?_ F (0 : Int32) σ2 _ _ ls hP hD hS (lv_sub hl [1, 3, 0] rfl) h
  intro σ3 H locs ls hP hD hS hl h
  exact mretV hx hb hr hlk h hP hD hS dX7_begin_30
set_option maxHeartbeats 4000000 in
set_option maxRecDepth 100000 in
theorem wX7_begin_32_L12 {p : Program} {l : Launch} {e : Env} {s : State} {m : MethodId} {args : Array Value} {below : List Frame} {meth : Method} {c : Code} (C : cxt p s m args meth c cX7_begin 4 RX7 wsX7_begin none) {D : va_G} {cs : Nat → ClassId} {a : Nat → Nat} {sh : Nat → Option Nat} {LP : List Nat} {Z : ZT} (hZ : shOK sh LP Z) (hK : KK D cs s) {A : Nat → Prop} (hA : ∀ q, s.heap.size ≤ q → A q) (u9 : Nat → Nat → Int32) (F : Nat) (x2 : Int32) (kx : (Nat → Nat → Int32) → Option ((Nat → Nat → Int32))) (hkx : ∀ (σ : Nat → Nat → Int32) (H : Heap) (locs : List Loc) (ls : Array Slot), va_P D vwCl (cW a cs sh LP Z σ) H → va_D A (cW a cs sh LP Z σ) → va_S A s.heap H locs → lv_has ls 4 [] → kx σ = some u9 → W p l e rmX7_begin s m args below meth c H locs 0 0 (MQ below (va_Qv (fun y => y = u9) (qB D (cW a cs sh LP Z) A) A) args s 0 0 A) (F0 m 30 ls [])) : ∀ (n : Nat) (x3 : Int32) (σ : Nat → Nat → Int32) (H : Heap) (locs : List Loc) (ls : Array Slot), va_P D vwCl (cW a cs sh LP Z σ) H → va_D A (cW a cs sh LP Z σ) → va_S A s.heap H locs → lv_has ls 4 [(0, .ref (a 28)), (2, .int x2), (3, .int x3)] → fX7_begin_L12 32 43 47 F sh Z x2 kx n x3 σ = some u9 → W p l e rmX7_begin s m args below meth c H locs 0 0 (MQ below (va_Qv (fun y => y = u9) (qB D (cW a cs sh LP Z) A) A) args s 0 0 A) (F0 m 12 ls []) := by
  obtain ⟨hx, hb, hml, hown, hts, hr, hlk⟩ := id C
  intro n
  induction n with
  | zero =>
    intros
    rename_i h
    cases h
  | succ n ih =>
    intro x3 σ H locs ls hP hD hS hl h
    rw [fX7_begin_L12] at h
    obtain ⟨kb, hkb, h⟩ := nb_some (P := fun (kb : Int32 → (Nat → Nat → Int32) → Option ((Nat → Nat → Int32))) => ∀ (x3 : Int32) (σ : Nat → Nat → Int32) (H : Heap) (locs : List Loc) (ls : Array Slot), va_P D vwCl (cW a cs sh LP Z σ) H → va_D A (cW a cs sh LP Z σ) → va_S A s.heap H locs → lv_has ls 4 [(0, .ref (a 28)), (2, .int x2), (3, .int x3)] → kb x3 σ = some u9 → W p l e rmX7_begin s m args below meth c H locs 0 0 (MQ below (va_Qv (fun y => y = u9) (qB D (cW a cs sh LP Z) A) A) args s 0 0 A) (F0 m 12 ls [])) h ih
    refine lv_iload_n hx hb dX7_begin_12 rfl (lv_at hl 2 rfl) ?_
    refine lv_iload_n hx hb dX7_begin_13 rfl (lv_at hl 1 rfl) ?_
    refine lv_icmp_ge (tgt := 30) hx hb dX7_begin_14 (by decide) (fun c3 => ?_) (fun c3 => ?_)
    · have h := it_t c3 h
      exact hkx σ _ _ ls hP hD hS (lv_sub hl [] rfl) h
    · have h := it_f c3 h
      refine lv_aload_n hx hb dX7_begin_17 rfl (lv_at hl 0 rfl) ?_
      refine va_get (D := D) (ci := 6) (v := .ref (a 32)) (C := RX7) (T := TX7) (N := 3) hx hb hts inX7_X7_begin hown hK.1 hP 28 rfl rfl 0 (by decide) (hts (.fieldLink RX7 9 "SandPalace$Sheet" "items" "[I") (by decide +kernel)) (fun _ h9 => h9) rfl dX7_begin_18 ?_
      refine lv_iload_n hx hb dX7_begin_21 rfl (lv_at hl 2 rfl) ?_
      refine lv_iconst (v := (0 : Int32)) hx hb dX7_begin_22 (by decide) ?_
      obtain ⟨i4, h⟩ := aS_some h
      refine va_iast hx hb hK.1 hP hD hS 32 0 rfl rfl i4 dX7_begin_23 (fun H locs hP hD hS => ?_)
      obtain ⟨σ5, e_σ5, h⟩ := nm_some h
      have hP : va_P D vwCl (cW a cs sh LP Z σ5) H := by rw [← e_σ5]; exact hP
      have hD : va_D A (cW a cs sh LP Z σ5) := by rw [← e_σ5]; exact hD
      refine lv_iinc (v := x3 + (1 : Int32)) (lv' := [(3, .int (x3 + (1 : Int32))), (0, .ref (a 28)), (2, .int x2)]) hx hb dX7_begin_24 hl (k := 2) rfl rfl (by decide) rfl (fun ls hl => ?_)
      refine lv_goto (tgt := 12) hx hb dX7_begin_27 (by decide) ?_
      exact hkb (x3 + (1 : Int32)) σ5 _ _ ls hP hD hS (lv_sub hl [1, 2, 0] rfl) h
set_option maxHeartbeats 4000000 in
set_option maxRecDepth 100000 in
theorem kX7_begin_32 (l : Launch) (D : va_G) (cs : Nat → ClassId) (a : Nat → Nat) (sh : Nat → Option Nat) (LP : List Nat) (Z : ZT) (hZ : shOK sh LP Z) (σ : Nat → Nat → Int32) (F : Nat) (x1 : Int32) (x2 : Int32) (u9 : Nat → Nat → Int32) (h : fX7_begin 32 43 47 F sh Z σ x1 x2 = some u9) (sz : Nat) : Met l yX7_begin wsX7_begin rmX7_begin (va_Pc [.ref (a 28), .int x1, .int x2] (pQ D cs (cW a cs sh LP Z σ) sz)) (va_Qv (fun y => y = u9) (qB D (cW a cs sh LP Z) (va_A (cW a cs sh LP Z σ) sz)) (va_A (cW a cs sh LP Z σ) sz)) 0 0 (va_A (cW a cs sh LP Z σ) sz) := by
  refine Met.ofW (cc := cX7_begin) (maxL := 4) (ret := none) (by decide) rfl ?_
  intro p e s m args below meth c s₁ B hml hv
  obtain ⟨rfl, hsz, hP, hK, hD0⟩ := hv
  have C : cxt p s m _ meth c cX7_begin 4 RX7 wsX7_begin none := ⟨B.exec, B.bytes, hml, findClass_of_methodNamed B.named, atoms_spec (ws := wsX7_begin) B.pre, B.returns, B.notSynchronized⟩
  obtain ⟨hx, hb, -, hown, hts, hr, hlk⟩ := id C
  subst hsz
  have hD := hD0.self (sz := s.heap.size)
  generalize hAe : va_A (cW a cs sh LP Z σ) s.heap.size = A at hD ⊢
  have hA : ∀ q : Nat, s.heap.size ≤ q → A q := fun q h => by rw [← hAe]; exact Or.inr h
  have hS : va_S A s.heap s.heap [] := va_S.rf
  refine entryW [.ref (a 28), .int x1, .int x2] (n := 4) (Nat.le_of_ble_eq_true rfl) (fun ls hl => ?_)
  have hl : lv_has ls 4 [(0, .ref (a 28)), (1, .int x1), (2, .int x2)] := hl
  unfold fX7_begin at h
  refine lv_aload_n hx hb dX7_begin_0 rfl (lv_at hl 0 rfl) ?_
  refine lv_iload_n hx hb dX7_begin_1 rfl (lv_at hl 1 rfl) ?_
  refine va_put (D := D) (ci := 6) (v := .int x1) (ty := .int) (C := RX7) (T := TX7) (N := 3) hx hb hts inX7_X7_begin tyX7 tyX7_ok nmX7 hown hK.1 hP hD hS 28 rfl rfl 1 (by decide) (hts (.fieldLink RX7 15 "SandPalace$Sheet" "laneOfRow" "I") (by decide +kernel)) (fun _ h9 => h9) rfl (by decide +kernel) rfl rfl (Nat.le_of_ble_eq_true rfl) dX7_begin_2 (fun H locs hP hD hS => ?_)
  obtain ⟨σ1, e_σ1, h⟩ := nm_some h
  have hP : va_P D vwCl (cW a cs sh LP Z σ1) H := by rw [← e_σ1]; exact hP
  have hD : va_D A (cW a cs sh LP Z σ1) := by rw [← e_σ1]; exact hD
  refine lv_aload_n hx hb dX7_begin_5 rfl (lv_at hl 0 rfl) ?_
  refine lv_iload_n hx hb dX7_begin_6 rfl (lv_at hl 2 rfl) ?_
  refine va_put (D := D) (ci := 6) (v := .int x2) (ty := .int) (C := RX7) (T := TX7) (N := 3) hx hb hts inX7_X7_begin tyX7 tyX7_ok nmX7 hown hK.1 hP hD hS 28 rfl rfl 2 (by decide) (hts (.fieldLink RX7 19 "SandPalace$Sheet" "length" "I") (by decide +kernel)) (fun _ h9 => h9) rfl (by decide +kernel) rfl rfl (Nat.le_of_ble_eq_true rfl) dX7_begin_7 (fun H locs hP hD hS => ?_)
  obtain ⟨σ2, e_σ2, h⟩ := nm_some h
  have hP : va_P D vwCl (cW a cs sh LP Z σ2) H := by rw [← e_σ2]; exact hP
  have hD : va_D A (cW a cs sh LP Z σ2) := by rw [← e_σ2]; exact hD
  refine lv_iconst (v := (0 : Int32)) hx hb dX7_begin_10 (by decide) ?_
  refine lv_istore_n (lv' := [(3, .int (0 : Int32)), (0, .ref (a 28)), (1, .int x1), (2, .int x2)]) hx hb dX7_begin_11 rfl hl (by decide) rfl (fun ls hl => ?_)
  refine wX7_begin_32_L12 C hZ hK hA  u9 F x2 _ ?_ F (0 : Int32) σ2 _ _ ls hP hD hS (lv_sub hl [1, 3, 0] rfl) h
  intro σ3 H locs ls hP hD hS hl h
  exact mretV hx hb hr hlk h hP hD hS dX7_begin_30
def fX7_clearAway (KI : Nat) (KL : Nat) (KN : Nat) (sh : Nat → Option Nat) (Z : ZT) (σ : Nat → Nat → Int32)  : Option (Int32 × (Nat → Nat → Int32)) :=
  nm (sg σ KL (fun _ => ((-1) : Int32))) fun σ1 => nm (sg σ1 KN (fun _ => (0 : Int32))) fun σ2 => some (σ KN 0, σ2)
abbrev rmX7_clearAway : Room := { frames := 0, cells := 0, slots := 0, locals := 0 }
theorem inX7_X7_clearAway : ∀ w ∈ wsX70, w ∈ wsX7_clearAway := by intro w h; simp only [wsX7_clearAway, List.mem_cons, List.mem_append]; simp only [h, true_or, or_true]
set_option maxHeartbeats 4000000 in
set_option maxRecDepth 100000 in
theorem kX7_clearAway_29 (l : Launch) (D : va_G) (cs : Nat → ClassId) (a : Nat → Nat) (sh : Nat → Option Nat) (LP : List Nat) (Z : ZT) (hZ : shOK sh LP Z) (σ : Nat → Nat → Int32)  (r : Int32) (u9 : Nat → Nat → Int32) (h : fX7_clearAway 29 40 44 sh Z σ = some (r, u9)) (sz : Nat) : Met l yX7_clearAway wsX7_clearAway rmX7_clearAway (va_Pc [.ref (a 25)] (pQ D cs (cW a cs sh LP Z σ) sz)) (va_Qi (fun x y => x = r ∧ y = u9) (qB D (cW a cs sh LP Z) (va_A (cW a cs sh LP Z σ) sz)) (va_A (cW a cs sh LP Z σ) sz)) 0 0 (va_A (cW a cs sh LP Z σ) sz) := by
  refine Met.ofW (cc := cX7_clearAway) (maxL := 2) (ret := (some .int)) (by decide) rfl ?_
  intro p e s m args below meth c s₁ B hml hv
  obtain ⟨rfl, hsz, hP, hK, hD0⟩ := hv
  have C : cxt p s m _ meth c cX7_clearAway 2 RX7 wsX7_clearAway (some .int) := ⟨B.exec, B.bytes, hml, findClass_of_methodNamed B.named, atoms_spec (ws := wsX7_clearAway) B.pre, B.returns, B.notSynchronized⟩
  obtain ⟨hx, hb, -, hown, hts, hr, hlk⟩ := id C
  subst hsz
  have hD := hD0.self (sz := s.heap.size)
  generalize hAe : va_A (cW a cs sh LP Z σ) s.heap.size = A at hD ⊢
  have hA : ∀ q : Nat, s.heap.size ≤ q → A q := fun q h => by rw [← hAe]; exact Or.inr h
  have hS : va_S A s.heap s.heap [] := va_S.rf
  refine entryW [.ref (a 25)] (n := 2) (Nat.le_of_ble_eq_true rfl) (fun ls hl => ?_)
  have hl : lv_has ls 2 [(0, .ref (a 25))] := hl
  unfold fX7_clearAway at h
  refine lv_aload_n hx hb dX7_clearAway_0 rfl (lv_at hl 0 rfl) ?_
  refine va_get (D := D) (ci := 6) (v := .int (σ 44 0)) (C := RX7) (T := TX7) (N := 3) hx hb hts inX7_X7_clearAway hown hK.1 hP 25 rfl rfl 2 (by decide) (hts (.fieldLink RX7 19 "SandPalace$Sheet" "length" "I") (by decide +kernel)) (fun _ h9 => h9) rfl dX7_clearAway_1 ?_
  refine lv_istore_n (lv' := [(1, .int (σ 44 0)), (0, .ref (a 25))]) hx hb dX7_clearAway_4 rfl hl (by decide) rfl (fun ls hl => ?_)
  refine lv_aload_n hx hb dX7_clearAway_5 rfl (lv_at hl 1 rfl) ?_
  refine lv_iconst (v := ((-1) : Int32)) hx hb dX7_clearAway_6 (by decide) ?_
  refine va_put (D := D) (ci := 6) (v := .int ((-1) : Int32)) (ty := .int) (C := RX7) (T := TX7) (N := 3) hx hb hts inX7_X7_clearAway tyX7 tyX7_ok nmX7 hown hK.1 hP hD hS 25 rfl rfl 1 (by decide) (hts (.fieldLink RX7 15 "SandPalace$Sheet" "laneOfRow" "I") (by decide +kernel)) (fun _ h9 => h9) rfl (by decide +kernel) rfl rfl (Nat.le_of_ble_eq_true rfl) dX7_clearAway_7 (fun H locs hP hD hS => ?_)
  obtain ⟨σ1, e_σ1, h⟩ := nm_some h
  have hP : va_P D vwCl (cW a cs sh LP Z σ1) H := by rw [← e_σ1]; exact hP
  have hD : va_D A (cW a cs sh LP Z σ1) := by rw [← e_σ1]; exact hD
  refine lv_aload_n hx hb dX7_clearAway_10 rfl (lv_at hl 1 rfl) ?_
  refine lv_iconst (v := (0 : Int32)) hx hb dX7_clearAway_11 (by decide) ?_
  refine va_put (D := D) (ci := 6) (v := .int (0 : Int32)) (ty := .int) (C := RX7) (T := TX7) (N := 3) hx hb hts inX7_X7_clearAway tyX7 tyX7_ok nmX7 hown hK.1 hP hD hS 25 rfl rfl 2 (by decide) (hts (.fieldLink RX7 19 "SandPalace$Sheet" "length" "I") (by decide +kernel)) (fun _ h9 => h9) rfl (by decide +kernel) rfl rfl (Nat.le_of_ble_eq_true rfl) dX7_clearAway_12 (fun H locs hP hD hS => ?_)
  obtain ⟨σ2, e_σ2, h⟩ := nm_some h
  have hP : va_P D vwCl (cW a cs sh LP Z σ2) H := by rw [← e_σ2]; exact hP
  have hD : va_D A (cW a cs sh LP Z σ2) := by rw [← e_σ2]; exact hD
  refine lv_iload_n hx hb dX7_clearAway_15 rfl (lv_at hl 0 rfl) ?_
  exact mretQ hx hb hr hlk h hP hD hS dX7_clearAway_16
set_option maxHeartbeats 4000000 in
set_option maxRecDepth 100000 in
theorem kX7_clearAway_30 (l : Launch) (D : va_G) (cs : Nat → ClassId) (a : Nat → Nat) (sh : Nat → Option Nat) (LP : List Nat) (Z : ZT) (hZ : shOK sh LP Z) (σ : Nat → Nat → Int32)  (r : Int32) (u9 : Nat → Nat → Int32) (h : fX7_clearAway 30 41 45 sh Z σ = some (r, u9)) (sz : Nat) : Met l yX7_clearAway wsX7_clearAway rmX7_clearAway (va_Pc [.ref (a 26)] (pQ D cs (cW a cs sh LP Z σ) sz)) (va_Qi (fun x y => x = r ∧ y = u9) (qB D (cW a cs sh LP Z) (va_A (cW a cs sh LP Z σ) sz)) (va_A (cW a cs sh LP Z σ) sz)) 0 0 (va_A (cW a cs sh LP Z σ) sz) := by
  refine Met.ofW (cc := cX7_clearAway) (maxL := 2) (ret := (some .int)) (by decide) rfl ?_
  intro p e s m args below meth c s₁ B hml hv
  obtain ⟨rfl, hsz, hP, hK, hD0⟩ := hv
  have C : cxt p s m _ meth c cX7_clearAway 2 RX7 wsX7_clearAway (some .int) := ⟨B.exec, B.bytes, hml, findClass_of_methodNamed B.named, atoms_spec (ws := wsX7_clearAway) B.pre, B.returns, B.notSynchronized⟩
  obtain ⟨hx, hb, -, hown, hts, hr, hlk⟩ := id C
  subst hsz
  have hD := hD0.self (sz := s.heap.size)
  generalize hAe : va_A (cW a cs sh LP Z σ) s.heap.size = A at hD ⊢
  have hA : ∀ q : Nat, s.heap.size ≤ q → A q := fun q h => by rw [← hAe]; exact Or.inr h
  have hS : va_S A s.heap s.heap [] := va_S.rf
  refine entryW [.ref (a 26)] (n := 2) (Nat.le_of_ble_eq_true rfl) (fun ls hl => ?_)
  have hl : lv_has ls 2 [(0, .ref (a 26))] := hl
  unfold fX7_clearAway at h
  refine lv_aload_n hx hb dX7_clearAway_0 rfl (lv_at hl 0 rfl) ?_
  refine va_get (D := D) (ci := 6) (v := .int (σ 45 0)) (C := RX7) (T := TX7) (N := 3) hx hb hts inX7_X7_clearAway hown hK.1 hP 26 rfl rfl 2 (by decide) (hts (.fieldLink RX7 19 "SandPalace$Sheet" "length" "I") (by decide +kernel)) (fun _ h9 => h9) rfl dX7_clearAway_1 ?_
  refine lv_istore_n (lv' := [(1, .int (σ 45 0)), (0, .ref (a 26))]) hx hb dX7_clearAway_4 rfl hl (by decide) rfl (fun ls hl => ?_)
  refine lv_aload_n hx hb dX7_clearAway_5 rfl (lv_at hl 1 rfl) ?_
  refine lv_iconst (v := ((-1) : Int32)) hx hb dX7_clearAway_6 (by decide) ?_
  refine va_put (D := D) (ci := 6) (v := .int ((-1) : Int32)) (ty := .int) (C := RX7) (T := TX7) (N := 3) hx hb hts inX7_X7_clearAway tyX7 tyX7_ok nmX7 hown hK.1 hP hD hS 26 rfl rfl 1 (by decide) (hts (.fieldLink RX7 15 "SandPalace$Sheet" "laneOfRow" "I") (by decide +kernel)) (fun _ h9 => h9) rfl (by decide +kernel) rfl rfl (Nat.le_of_ble_eq_true rfl) dX7_clearAway_7 (fun H locs hP hD hS => ?_)
  obtain ⟨σ1, e_σ1, h⟩ := nm_some h
  have hP : va_P D vwCl (cW a cs sh LP Z σ1) H := by rw [← e_σ1]; exact hP
  have hD : va_D A (cW a cs sh LP Z σ1) := by rw [← e_σ1]; exact hD
  refine lv_aload_n hx hb dX7_clearAway_10 rfl (lv_at hl 1 rfl) ?_
  refine lv_iconst (v := (0 : Int32)) hx hb dX7_clearAway_11 (by decide) ?_
  refine va_put (D := D) (ci := 6) (v := .int (0 : Int32)) (ty := .int) (C := RX7) (T := TX7) (N := 3) hx hb hts inX7_X7_clearAway tyX7 tyX7_ok nmX7 hown hK.1 hP hD hS 26 rfl rfl 2 (by decide) (hts (.fieldLink RX7 19 "SandPalace$Sheet" "length" "I") (by decide +kernel)) (fun _ h9 => h9) rfl (by decide +kernel) rfl rfl (Nat.le_of_ble_eq_true rfl) dX7_clearAway_12 (fun H locs hP hD hS => ?_)
  obtain ⟨σ2, e_σ2, h⟩ := nm_some h
  have hP : va_P D vwCl (cW a cs sh LP Z σ2) H := by rw [← e_σ2]; exact hP
  have hD : va_D A (cW a cs sh LP Z σ2) := by rw [← e_σ2]; exact hD
  refine lv_iload_n hx hb dX7_clearAway_15 rfl (lv_at hl 0 rfl) ?_
  exact mretQ hx hb hr hlk h hP hD hS dX7_clearAway_16
set_option maxHeartbeats 4000000 in
set_option maxRecDepth 100000 in
theorem kX7_clearAway_31 (l : Launch) (D : va_G) (cs : Nat → ClassId) (a : Nat → Nat) (sh : Nat → Option Nat) (LP : List Nat) (Z : ZT) (hZ : shOK sh LP Z) (σ : Nat → Nat → Int32)  (r : Int32) (u9 : Nat → Nat → Int32) (h : fX7_clearAway 31 42 46 sh Z σ = some (r, u9)) (sz : Nat) : Met l yX7_clearAway wsX7_clearAway rmX7_clearAway (va_Pc [.ref (a 27)] (pQ D cs (cW a cs sh LP Z σ) sz)) (va_Qi (fun x y => x = r ∧ y = u9) (qB D (cW a cs sh LP Z) (va_A (cW a cs sh LP Z σ) sz)) (va_A (cW a cs sh LP Z σ) sz)) 0 0 (va_A (cW a cs sh LP Z σ) sz) := by
  refine Met.ofW (cc := cX7_clearAway) (maxL := 2) (ret := (some .int)) (by decide) rfl ?_
  intro p e s m args below meth c s₁ B hml hv
  obtain ⟨rfl, hsz, hP, hK, hD0⟩ := hv
  have C : cxt p s m _ meth c cX7_clearAway 2 RX7 wsX7_clearAway (some .int) := ⟨B.exec, B.bytes, hml, findClass_of_methodNamed B.named, atoms_spec (ws := wsX7_clearAway) B.pre, B.returns, B.notSynchronized⟩
  obtain ⟨hx, hb, -, hown, hts, hr, hlk⟩ := id C
  subst hsz
  have hD := hD0.self (sz := s.heap.size)
  generalize hAe : va_A (cW a cs sh LP Z σ) s.heap.size = A at hD ⊢
  have hA : ∀ q : Nat, s.heap.size ≤ q → A q := fun q h => by rw [← hAe]; exact Or.inr h
  have hS : va_S A s.heap s.heap [] := va_S.rf
  refine entryW [.ref (a 27)] (n := 2) (Nat.le_of_ble_eq_true rfl) (fun ls hl => ?_)
  have hl : lv_has ls 2 [(0, .ref (a 27))] := hl
  unfold fX7_clearAway at h
  refine lv_aload_n hx hb dX7_clearAway_0 rfl (lv_at hl 0 rfl) ?_
  refine va_get (D := D) (ci := 6) (v := .int (σ 46 0)) (C := RX7) (T := TX7) (N := 3) hx hb hts inX7_X7_clearAway hown hK.1 hP 27 rfl rfl 2 (by decide) (hts (.fieldLink RX7 19 "SandPalace$Sheet" "length" "I") (by decide +kernel)) (fun _ h9 => h9) rfl dX7_clearAway_1 ?_
  refine lv_istore_n (lv' := [(1, .int (σ 46 0)), (0, .ref (a 27))]) hx hb dX7_clearAway_4 rfl hl (by decide) rfl (fun ls hl => ?_)
  refine lv_aload_n hx hb dX7_clearAway_5 rfl (lv_at hl 1 rfl) ?_
  refine lv_iconst (v := ((-1) : Int32)) hx hb dX7_clearAway_6 (by decide) ?_
  refine va_put (D := D) (ci := 6) (v := .int ((-1) : Int32)) (ty := .int) (C := RX7) (T := TX7) (N := 3) hx hb hts inX7_X7_clearAway tyX7 tyX7_ok nmX7 hown hK.1 hP hD hS 27 rfl rfl 1 (by decide) (hts (.fieldLink RX7 15 "SandPalace$Sheet" "laneOfRow" "I") (by decide +kernel)) (fun _ h9 => h9) rfl (by decide +kernel) rfl rfl (Nat.le_of_ble_eq_true rfl) dX7_clearAway_7 (fun H locs hP hD hS => ?_)
  obtain ⟨σ1, e_σ1, h⟩ := nm_some h
  have hP : va_P D vwCl (cW a cs sh LP Z σ1) H := by rw [← e_σ1]; exact hP
  have hD : va_D A (cW a cs sh LP Z σ1) := by rw [← e_σ1]; exact hD
  refine lv_aload_n hx hb dX7_clearAway_10 rfl (lv_at hl 1 rfl) ?_
  refine lv_iconst (v := (0 : Int32)) hx hb dX7_clearAway_11 (by decide) ?_
  refine va_put (D := D) (ci := 6) (v := .int (0 : Int32)) (ty := .int) (C := RX7) (T := TX7) (N := 3) hx hb hts inX7_X7_clearAway tyX7 tyX7_ok nmX7 hown hK.1 hP hD hS 27 rfl rfl 2 (by decide) (hts (.fieldLink RX7 19 "SandPalace$Sheet" "length" "I") (by decide +kernel)) (fun _ h9 => h9) rfl (by decide +kernel) rfl rfl (Nat.le_of_ble_eq_true rfl) dX7_clearAway_12 (fun H locs hP hD hS => ?_)
  obtain ⟨σ2, e_σ2, h⟩ := nm_some h
  have hP : va_P D vwCl (cW a cs sh LP Z σ2) H := by rw [← e_σ2]; exact hP
  have hD : va_D A (cW a cs sh LP Z σ2) := by rw [← e_σ2]; exact hD
  refine lv_iload_n hx hb dX7_clearAway_15 rfl (lv_at hl 0 rfl) ?_
  exact mretQ hx hb hr hlk h hP hD hS dX7_clearAway_16
set_option maxHeartbeats 4000000 in
set_option maxRecDepth 100000 in
theorem kX7_clearAway_32 (l : Launch) (D : va_G) (cs : Nat → ClassId) (a : Nat → Nat) (sh : Nat → Option Nat) (LP : List Nat) (Z : ZT) (hZ : shOK sh LP Z) (σ : Nat → Nat → Int32)  (r : Int32) (u9 : Nat → Nat → Int32) (h : fX7_clearAway 32 43 47 sh Z σ = some (r, u9)) (sz : Nat) : Met l yX7_clearAway wsX7_clearAway rmX7_clearAway (va_Pc [.ref (a 28)] (pQ D cs (cW a cs sh LP Z σ) sz)) (va_Qi (fun x y => x = r ∧ y = u9) (qB D (cW a cs sh LP Z) (va_A (cW a cs sh LP Z σ) sz)) (va_A (cW a cs sh LP Z σ) sz)) 0 0 (va_A (cW a cs sh LP Z σ) sz) := by
  refine Met.ofW (cc := cX7_clearAway) (maxL := 2) (ret := (some .int)) (by decide) rfl ?_
  intro p e s m args below meth c s₁ B hml hv
  obtain ⟨rfl, hsz, hP, hK, hD0⟩ := hv
  have C : cxt p s m _ meth c cX7_clearAway 2 RX7 wsX7_clearAway (some .int) := ⟨B.exec, B.bytes, hml, findClass_of_methodNamed B.named, atoms_spec (ws := wsX7_clearAway) B.pre, B.returns, B.notSynchronized⟩
  obtain ⟨hx, hb, -, hown, hts, hr, hlk⟩ := id C
  subst hsz
  have hD := hD0.self (sz := s.heap.size)
  generalize hAe : va_A (cW a cs sh LP Z σ) s.heap.size = A at hD ⊢
  have hA : ∀ q : Nat, s.heap.size ≤ q → A q := fun q h => by rw [← hAe]; exact Or.inr h
  have hS : va_S A s.heap s.heap [] := va_S.rf
  refine entryW [.ref (a 28)] (n := 2) (Nat.le_of_ble_eq_true rfl) (fun ls hl => ?_)
  have hl : lv_has ls 2 [(0, .ref (a 28))] := hl
  unfold fX7_clearAway at h
  refine lv_aload_n hx hb dX7_clearAway_0 rfl (lv_at hl 0 rfl) ?_
  refine va_get (D := D) (ci := 6) (v := .int (σ 47 0)) (C := RX7) (T := TX7) (N := 3) hx hb hts inX7_X7_clearAway hown hK.1 hP 28 rfl rfl 2 (by decide) (hts (.fieldLink RX7 19 "SandPalace$Sheet" "length" "I") (by decide +kernel)) (fun _ h9 => h9) rfl dX7_clearAway_1 ?_
  refine lv_istore_n (lv' := [(1, .int (σ 47 0)), (0, .ref (a 28))]) hx hb dX7_clearAway_4 rfl hl (by decide) rfl (fun ls hl => ?_)
  refine lv_aload_n hx hb dX7_clearAway_5 rfl (lv_at hl 1 rfl) ?_
  refine lv_iconst (v := ((-1) : Int32)) hx hb dX7_clearAway_6 (by decide) ?_
  refine va_put (D := D) (ci := 6) (v := .int ((-1) : Int32)) (ty := .int) (C := RX7) (T := TX7) (N := 3) hx hb hts inX7_X7_clearAway tyX7 tyX7_ok nmX7 hown hK.1 hP hD hS 28 rfl rfl 1 (by decide) (hts (.fieldLink RX7 15 "SandPalace$Sheet" "laneOfRow" "I") (by decide +kernel)) (fun _ h9 => h9) rfl (by decide +kernel) rfl rfl (Nat.le_of_ble_eq_true rfl) dX7_clearAway_7 (fun H locs hP hD hS => ?_)
  obtain ⟨σ1, e_σ1, h⟩ := nm_some h
  have hP : va_P D vwCl (cW a cs sh LP Z σ1) H := by rw [← e_σ1]; exact hP
  have hD : va_D A (cW a cs sh LP Z σ1) := by rw [← e_σ1]; exact hD
  refine lv_aload_n hx hb dX7_clearAway_10 rfl (lv_at hl 1 rfl) ?_
  refine lv_iconst (v := (0 : Int32)) hx hb dX7_clearAway_11 (by decide) ?_
  refine va_put (D := D) (ci := 6) (v := .int (0 : Int32)) (ty := .int) (C := RX7) (T := TX7) (N := 3) hx hb hts inX7_X7_clearAway tyX7 tyX7_ok nmX7 hown hK.1 hP hD hS 28 rfl rfl 2 (by decide) (hts (.fieldLink RX7 19 "SandPalace$Sheet" "length" "I") (by decide +kernel)) (fun _ h9 => h9) rfl (by decide +kernel) rfl rfl (Nat.le_of_ble_eq_true rfl) dX7_clearAway_12 (fun H locs hP hD hS => ?_)
  obtain ⟨σ2, e_σ2, h⟩ := nm_some h
  have hP : va_P D vwCl (cW a cs sh LP Z σ2) H := by rw [← e_σ2]; exact hP
  have hD : va_D A (cW a cs sh LP Z σ2) := by rw [← e_σ2]; exact hD
  refine lv_iload_n hx hb dX7_clearAway_15 rfl (lv_at hl 0 rfl) ?_
  exact mretQ hx hb hr hlk h hP hD hS dX7_clearAway_16
def fX7_refusal (KI : Nat) (KL : Nat) (KN : Nat) (sh : Nat → Option Nat) (Z : ZT) (σ : Nat → Nat → Int32) (x1 : Int32) (x2 : Int32) (x3 : Int32) : Option Int32 :=
  bd (fX7_isMissing KI KL KN sh Z σ) fun v1 => if v1 = 0 then (if (σ KL 0) = x1 then (if x2 < 0 then (some ((-13) : Int32)) else (if x2 ≤ ((σ KN 0) - x3) then (some (0 : Int32)) else (some ((-13) : Int32)))) else (some ((-12) : Int32))) else (some ((-11) : Int32))
abbrev rmX7_refusal : Room := { frames := 1, cells := 0, slots := 0, locals := 20 }
theorem inX7_X7_refusal : ∀ w ∈ wsX70, w ∈ wsX7_refusal := by intro w h; simp only [wsX7_refusal, List.mem_cons, List.mem_append]; simp only [h, true_or, or_true]
set_option maxHeartbeats 4000000 in
set_option maxRecDepth 100000 in
theorem kX7_refusal_29 (l : Launch) (D : va_G) (cs : Nat → ClassId) (a : Nat → Nat) (sh : Nat → Option Nat) (LP : List Nat) (Z : ZT) (hZ : shOK sh LP Z) (σ : Nat → Nat → Int32) (x1 : Int32) (x2 : Int32) (x3 : Int32) (r : Int32) (h : fX7_refusal 29 40 44 sh Z σ x1 x2 x3 = some r) : Met l yX7_refusal wsX7_refusal rmX7_refusal (va_Pc [.ref (a 25), .int x1, .int x2, .int x3] (pR D cs (cW a cs sh LP Z σ))) (vp_Si (fun x => x = r)) 0 0 (fun _ => False) := by
  refine Met.ofW (cc := cX7_refusal) (maxL := 4) (ret := (some .int)) (by decide) rfl ?_
  intro p e s m args below meth c s₁ B hml hv
  obtain ⟨rfl, hP, hK⟩ := hv
  have C : cxt p s m _ meth c cX7_refusal 4 RX7 wsX7_refusal (some .int) := ⟨B.exec, B.bytes, hml, findClass_of_methodNamed B.named, atoms_spec (ws := wsX7_refusal) B.pre, B.returns, B.notSynchronized⟩
  obtain ⟨hx, hb, -, hown, hts, hr, hlk⟩ := id C
  refine entryW [.ref (a 25), .int x1, .int x2, .int x3] (n := 4) (Nat.le_of_ble_eq_true rfl) (fun ls hl => ?_)
  have hl : lv_has ls 4 [(0, .ref (a 25)), (1, .int x1), (2, .int x2), (3, .int x3)] := hl
  unfold fX7_refusal at h
  refine lv_aload_n hx hb dX7_refusal_0 rfl (lv_at hl 0 rfl) ?_
  obtain ⟨v1, hc_v1, h⟩ := bd_some h
  refine mcallSZ (va_runV (As := []) (rest := []) ⟨hx, hb, hml, hown, hts⟩ (kX7_isMissing_29 l D cs a sh LP Z hZ σ v1 hc_v1) (cwV 0 hts gX7_refusal_X7_isMissing rfl rfl rfl (by decide +kernel) ⟨Nat.le_of_ble_eq_true rfl, Nat.le_of_ble_eq_true rfl⟩) (pR_v hP hK (va_recv hK.1 hP (ci := 6) (q0 := 25) rfl rfl)) rfl rfl hl.1 rfl (lv_room (Nat.le_of_ble_eq_true rfl)) dX7_refusal_1 ⟨Nat.zero_le _, Nat.zero_le _⟩) (fun z_v1 => ?_)
  refine lv_if_eq (tgt := 10) hx hb dX7_refusal_4 (by decide) (fun c2 => ?_) (fun c2 => ?_)
  · have h := it_t c2 h
    refine lv_aload_n hx hb dX7_refusal_10 rfl (lv_at hl 0 rfl) ?_
    refine va_get (D := D) (ci := 6) (v := .int (σ 40 0)) (C := RX7) (T := TX7) (N := 3) hx hb hts inX7_X7_refusal hown hK.1 hP 25 rfl rfl 1 (by decide) (hts (.fieldLink RX7 15 "SandPalace$Sheet" "laneOfRow" "I") (by decide +kernel)) (fun _ h9 => h9) rfl dX7_refusal_11 ?_
    refine lv_iload_n hx hb dX7_refusal_14 rfl (lv_at hl 1 rfl) ?_
    refine lv_icmp_eq (tgt := 21) hx hb dX7_refusal_15 (by decide) (fun c3 => ?_) (fun c3 => ?_)
    · have h := it_t c3 h
      refine lv_iload_n hx hb dX7_refusal_21 rfl (lv_at hl 2 rfl) ?_
      refine lv_if_lt (tgt := 35) hx hb dX7_refusal_22 (by decide) (fun c4 => ?_) (fun c4 => ?_)
      · have h := it_t c4 h
        refine lv_bipush (v := ((-13) : Int32)) hx hb dX7_refusal_35 (by decide) ?_
        refine lv_goto (tgt := 41) hx hb dX7_refusal_37 (by decide) ?_
        exact mretS hx hb hr hlk h dX7_refusal_41
      · have h := it_f c4 h
        refine lv_iload_n hx hb dX7_refusal_25 rfl (lv_at hl 2 rfl) ?_
        refine lv_aload_n hx hb dX7_refusal_26 rfl (lv_at hl 0 rfl) ?_
        refine va_get (D := D) (ci := 6) (v := .int (σ 44 0)) (C := RX7) (T := TX7) (N := 3) hx hb hts inX7_X7_refusal hown hK.1 hP 25 rfl rfl 2 (by decide) (hts (.fieldLink RX7 19 "SandPalace$Sheet" "length" "I") (by decide +kernel)) (fun _ h9 => h9) rfl dX7_refusal_27 ?_
        refine lv_iload_n hx hb dX7_refusal_30 rfl (lv_at hl 3 rfl) ?_
        refine lv_isub hx hb dX7_refusal_31 ?_
        refine lv_icmp_le (tgt := 40) hx hb dX7_refusal_32 (by decide) (fun c5 => ?_) (fun c5 => ?_)
        · have h := it_t c5 h
          refine lv_iconst (v := (0 : Int32)) hx hb dX7_refusal_40 (by decide) ?_
          exact mretS hx hb hr hlk h dX7_refusal_41
        · have h := it_f c5 h
          refine lv_bipush (v := ((-13) : Int32)) hx hb dX7_refusal_35 (by decide) ?_
          refine lv_goto (tgt := 41) hx hb dX7_refusal_37 (by decide) ?_
          exact mretS hx hb hr hlk h dX7_refusal_41
    · have h := it_f c3 h
      refine lv_bipush (v := ((-12) : Int32)) hx hb dX7_refusal_18 (by decide) ?_
      exact mretS hx hb hr hlk h dX7_refusal_20
  · have h := it_f c2 h
    refine lv_bipush (v := ((-11) : Int32)) hx hb dX7_refusal_7 (by decide) ?_
    exact mretS hx hb hr hlk h dX7_refusal_9
set_option maxHeartbeats 4000000 in
set_option maxRecDepth 100000 in
theorem kX7_refusal_30 (l : Launch) (D : va_G) (cs : Nat → ClassId) (a : Nat → Nat) (sh : Nat → Option Nat) (LP : List Nat) (Z : ZT) (hZ : shOK sh LP Z) (σ : Nat → Nat → Int32) (x1 : Int32) (x2 : Int32) (x3 : Int32) (r : Int32) (h : fX7_refusal 30 41 45 sh Z σ x1 x2 x3 = some r) : Met l yX7_refusal wsX7_refusal rmX7_refusal (va_Pc [.ref (a 26), .int x1, .int x2, .int x3] (pR D cs (cW a cs sh LP Z σ))) (vp_Si (fun x => x = r)) 0 0 (fun _ => False) := by
  refine Met.ofW (cc := cX7_refusal) (maxL := 4) (ret := (some .int)) (by decide) rfl ?_
  intro p e s m args below meth c s₁ B hml hv
  obtain ⟨rfl, hP, hK⟩ := hv
  have C : cxt p s m _ meth c cX7_refusal 4 RX7 wsX7_refusal (some .int) := ⟨B.exec, B.bytes, hml, findClass_of_methodNamed B.named, atoms_spec (ws := wsX7_refusal) B.pre, B.returns, B.notSynchronized⟩
  obtain ⟨hx, hb, -, hown, hts, hr, hlk⟩ := id C
  refine entryW [.ref (a 26), .int x1, .int x2, .int x3] (n := 4) (Nat.le_of_ble_eq_true rfl) (fun ls hl => ?_)
  have hl : lv_has ls 4 [(0, .ref (a 26)), (1, .int x1), (2, .int x2), (3, .int x3)] := hl
  unfold fX7_refusal at h
  refine lv_aload_n hx hb dX7_refusal_0 rfl (lv_at hl 0 rfl) ?_
  obtain ⟨v1, hc_v1, h⟩ := bd_some h
  refine mcallSZ (va_runV (As := []) (rest := []) ⟨hx, hb, hml, hown, hts⟩ (kX7_isMissing_30 l D cs a sh LP Z hZ σ v1 hc_v1) (cwV 0 hts gX7_refusal_X7_isMissing rfl rfl rfl (by decide +kernel) ⟨Nat.le_of_ble_eq_true rfl, Nat.le_of_ble_eq_true rfl⟩) (pR_v hP hK (va_recv hK.1 hP (ci := 6) (q0 := 26) rfl rfl)) rfl rfl hl.1 rfl (lv_room (Nat.le_of_ble_eq_true rfl)) dX7_refusal_1 ⟨Nat.zero_le _, Nat.zero_le _⟩) (fun z_v1 => ?_)
  refine lv_if_eq (tgt := 10) hx hb dX7_refusal_4 (by decide) (fun c2 => ?_) (fun c2 => ?_)
  · have h := it_t c2 h
    refine lv_aload_n hx hb dX7_refusal_10 rfl (lv_at hl 0 rfl) ?_
    refine va_get (D := D) (ci := 6) (v := .int (σ 41 0)) (C := RX7) (T := TX7) (N := 3) hx hb hts inX7_X7_refusal hown hK.1 hP 26 rfl rfl 1 (by decide) (hts (.fieldLink RX7 15 "SandPalace$Sheet" "laneOfRow" "I") (by decide +kernel)) (fun _ h9 => h9) rfl dX7_refusal_11 ?_
    refine lv_iload_n hx hb dX7_refusal_14 rfl (lv_at hl 1 rfl) ?_
    refine lv_icmp_eq (tgt := 21) hx hb dX7_refusal_15 (by decide) (fun c3 => ?_) (fun c3 => ?_)
    · have h := it_t c3 h
      refine lv_iload_n hx hb dX7_refusal_21 rfl (lv_at hl 2 rfl) ?_
      refine lv_if_lt (tgt := 35) hx hb dX7_refusal_22 (by decide) (fun c4 => ?_) (fun c4 => ?_)
      · have h := it_t c4 h
        refine lv_bipush (v := ((-13) : Int32)) hx hb dX7_refusal_35 (by decide) ?_
        refine lv_goto (tgt := 41) hx hb dX7_refusal_37 (by decide) ?_
        exact mretS hx hb hr hlk h dX7_refusal_41
      · have h := it_f c4 h
        refine lv_iload_n hx hb dX7_refusal_25 rfl (lv_at hl 2 rfl) ?_
        refine lv_aload_n hx hb dX7_refusal_26 rfl (lv_at hl 0 rfl) ?_
        refine va_get (D := D) (ci := 6) (v := .int (σ 45 0)) (C := RX7) (T := TX7) (N := 3) hx hb hts inX7_X7_refusal hown hK.1 hP 26 rfl rfl 2 (by decide) (hts (.fieldLink RX7 19 "SandPalace$Sheet" "length" "I") (by decide +kernel)) (fun _ h9 => h9) rfl dX7_refusal_27 ?_
        refine lv_iload_n hx hb dX7_refusal_30 rfl (lv_at hl 3 rfl) ?_
        refine lv_isub hx hb dX7_refusal_31 ?_
        refine lv_icmp_le (tgt := 40) hx hb dX7_refusal_32 (by decide) (fun c5 => ?_) (fun c5 => ?_)
        · have h := it_t c5 h
          refine lv_iconst (v := (0 : Int32)) hx hb dX7_refusal_40 (by decide) ?_
          exact mretS hx hb hr hlk h dX7_refusal_41
        · have h := it_f c5 h
          refine lv_bipush (v := ((-13) : Int32)) hx hb dX7_refusal_35 (by decide) ?_
          refine lv_goto (tgt := 41) hx hb dX7_refusal_37 (by decide) ?_
          exact mretS hx hb hr hlk h dX7_refusal_41
    · have h := it_f c3 h
      refine lv_bipush (v := ((-12) : Int32)) hx hb dX7_refusal_18 (by decide) ?_
      exact mretS hx hb hr hlk h dX7_refusal_20
  · have h := it_f c2 h
    refine lv_bipush (v := ((-11) : Int32)) hx hb dX7_refusal_7 (by decide) ?_
    exact mretS hx hb hr hlk h dX7_refusal_9
set_option maxHeartbeats 4000000 in
set_option maxRecDepth 100000 in
theorem kX7_refusal_31 (l : Launch) (D : va_G) (cs : Nat → ClassId) (a : Nat → Nat) (sh : Nat → Option Nat) (LP : List Nat) (Z : ZT) (hZ : shOK sh LP Z) (σ : Nat → Nat → Int32) (x1 : Int32) (x2 : Int32) (x3 : Int32) (r : Int32) (h : fX7_refusal 31 42 46 sh Z σ x1 x2 x3 = some r) : Met l yX7_refusal wsX7_refusal rmX7_refusal (va_Pc [.ref (a 27), .int x1, .int x2, .int x3] (pR D cs (cW a cs sh LP Z σ))) (vp_Si (fun x => x = r)) 0 0 (fun _ => False) := by
  refine Met.ofW (cc := cX7_refusal) (maxL := 4) (ret := (some .int)) (by decide) rfl ?_
  intro p e s m args below meth c s₁ B hml hv
  obtain ⟨rfl, hP, hK⟩ := hv
  have C : cxt p s m _ meth c cX7_refusal 4 RX7 wsX7_refusal (some .int) := ⟨B.exec, B.bytes, hml, findClass_of_methodNamed B.named, atoms_spec (ws := wsX7_refusal) B.pre, B.returns, B.notSynchronized⟩
  obtain ⟨hx, hb, -, hown, hts, hr, hlk⟩ := id C
  refine entryW [.ref (a 27), .int x1, .int x2, .int x3] (n := 4) (Nat.le_of_ble_eq_true rfl) (fun ls hl => ?_)
  have hl : lv_has ls 4 [(0, .ref (a 27)), (1, .int x1), (2, .int x2), (3, .int x3)] := hl
  unfold fX7_refusal at h
  refine lv_aload_n hx hb dX7_refusal_0 rfl (lv_at hl 0 rfl) ?_
  obtain ⟨v1, hc_v1, h⟩ := bd_some h
  refine mcallSZ (va_runV (As := []) (rest := []) ⟨hx, hb, hml, hown, hts⟩ (kX7_isMissing_31 l D cs a sh LP Z hZ σ v1 hc_v1) (cwV 0 hts gX7_refusal_X7_isMissing rfl rfl rfl (by decide +kernel) ⟨Nat.le_of_ble_eq_true rfl, Nat.le_of_ble_eq_true rfl⟩) (pR_v hP hK (va_recv hK.1 hP (ci := 6) (q0 := 27) rfl rfl)) rfl rfl hl.1 rfl (lv_room (Nat.le_of_ble_eq_true rfl)) dX7_refusal_1 ⟨Nat.zero_le _, Nat.zero_le _⟩) (fun z_v1 => ?_)
  refine lv_if_eq (tgt := 10) hx hb dX7_refusal_4 (by decide) (fun c2 => ?_) (fun c2 => ?_)
  · have h := it_t c2 h
    refine lv_aload_n hx hb dX7_refusal_10 rfl (lv_at hl 0 rfl) ?_
    refine va_get (D := D) (ci := 6) (v := .int (σ 42 0)) (C := RX7) (T := TX7) (N := 3) hx hb hts inX7_X7_refusal hown hK.1 hP 27 rfl rfl 1 (by decide) (hts (.fieldLink RX7 15 "SandPalace$Sheet" "laneOfRow" "I") (by decide +kernel)) (fun _ h9 => h9) rfl dX7_refusal_11 ?_
    refine lv_iload_n hx hb dX7_refusal_14 rfl (lv_at hl 1 rfl) ?_
    refine lv_icmp_eq (tgt := 21) hx hb dX7_refusal_15 (by decide) (fun c3 => ?_) (fun c3 => ?_)
    · have h := it_t c3 h
      refine lv_iload_n hx hb dX7_refusal_21 rfl (lv_at hl 2 rfl) ?_
      refine lv_if_lt (tgt := 35) hx hb dX7_refusal_22 (by decide) (fun c4 => ?_) (fun c4 => ?_)
      · have h := it_t c4 h
        refine lv_bipush (v := ((-13) : Int32)) hx hb dX7_refusal_35 (by decide) ?_
        refine lv_goto (tgt := 41) hx hb dX7_refusal_37 (by decide) ?_
        exact mretS hx hb hr hlk h dX7_refusal_41
      · have h := it_f c4 h
        refine lv_iload_n hx hb dX7_refusal_25 rfl (lv_at hl 2 rfl) ?_
        refine lv_aload_n hx hb dX7_refusal_26 rfl (lv_at hl 0 rfl) ?_
        refine va_get (D := D) (ci := 6) (v := .int (σ 46 0)) (C := RX7) (T := TX7) (N := 3) hx hb hts inX7_X7_refusal hown hK.1 hP 27 rfl rfl 2 (by decide) (hts (.fieldLink RX7 19 "SandPalace$Sheet" "length" "I") (by decide +kernel)) (fun _ h9 => h9) rfl dX7_refusal_27 ?_
        refine lv_iload_n hx hb dX7_refusal_30 rfl (lv_at hl 3 rfl) ?_
        refine lv_isub hx hb dX7_refusal_31 ?_
        refine lv_icmp_le (tgt := 40) hx hb dX7_refusal_32 (by decide) (fun c5 => ?_) (fun c5 => ?_)
        · have h := it_t c5 h
          refine lv_iconst (v := (0 : Int32)) hx hb dX7_refusal_40 (by decide) ?_
          exact mretS hx hb hr hlk h dX7_refusal_41
        · have h := it_f c5 h
          refine lv_bipush (v := ((-13) : Int32)) hx hb dX7_refusal_35 (by decide) ?_
          refine lv_goto (tgt := 41) hx hb dX7_refusal_37 (by decide) ?_
          exact mretS hx hb hr hlk h dX7_refusal_41
    · have h := it_f c3 h
      refine lv_bipush (v := ((-12) : Int32)) hx hb dX7_refusal_18 (by decide) ?_
      exact mretS hx hb hr hlk h dX7_refusal_20
  · have h := it_f c2 h
    refine lv_bipush (v := ((-11) : Int32)) hx hb dX7_refusal_7 (by decide) ?_
    exact mretS hx hb hr hlk h dX7_refusal_9
set_option maxHeartbeats 4000000 in
set_option maxRecDepth 100000 in
theorem kX7_refusal_32 (l : Launch) (D : va_G) (cs : Nat → ClassId) (a : Nat → Nat) (sh : Nat → Option Nat) (LP : List Nat) (Z : ZT) (hZ : shOK sh LP Z) (σ : Nat → Nat → Int32) (x1 : Int32) (x2 : Int32) (x3 : Int32) (r : Int32) (h : fX7_refusal 32 43 47 sh Z σ x1 x2 x3 = some r) : Met l yX7_refusal wsX7_refusal rmX7_refusal (va_Pc [.ref (a 28), .int x1, .int x2, .int x3] (pR D cs (cW a cs sh LP Z σ))) (vp_Si (fun x => x = r)) 0 0 (fun _ => False) := by
  refine Met.ofW (cc := cX7_refusal) (maxL := 4) (ret := (some .int)) (by decide) rfl ?_
  intro p e s m args below meth c s₁ B hml hv
  obtain ⟨rfl, hP, hK⟩ := hv
  have C : cxt p s m _ meth c cX7_refusal 4 RX7 wsX7_refusal (some .int) := ⟨B.exec, B.bytes, hml, findClass_of_methodNamed B.named, atoms_spec (ws := wsX7_refusal) B.pre, B.returns, B.notSynchronized⟩
  obtain ⟨hx, hb, -, hown, hts, hr, hlk⟩ := id C
  refine entryW [.ref (a 28), .int x1, .int x2, .int x3] (n := 4) (Nat.le_of_ble_eq_true rfl) (fun ls hl => ?_)
  have hl : lv_has ls 4 [(0, .ref (a 28)), (1, .int x1), (2, .int x2), (3, .int x3)] := hl
  unfold fX7_refusal at h
  refine lv_aload_n hx hb dX7_refusal_0 rfl (lv_at hl 0 rfl) ?_
  obtain ⟨v1, hc_v1, h⟩ := bd_some h
  refine mcallSZ (va_runV (As := []) (rest := []) ⟨hx, hb, hml, hown, hts⟩ (kX7_isMissing_32 l D cs a sh LP Z hZ σ v1 hc_v1) (cwV 0 hts gX7_refusal_X7_isMissing rfl rfl rfl (by decide +kernel) ⟨Nat.le_of_ble_eq_true rfl, Nat.le_of_ble_eq_true rfl⟩) (pR_v hP hK (va_recv hK.1 hP (ci := 6) (q0 := 28) rfl rfl)) rfl rfl hl.1 rfl (lv_room (Nat.le_of_ble_eq_true rfl)) dX7_refusal_1 ⟨Nat.zero_le _, Nat.zero_le _⟩) (fun z_v1 => ?_)
  refine lv_if_eq (tgt := 10) hx hb dX7_refusal_4 (by decide) (fun c2 => ?_) (fun c2 => ?_)
  · have h := it_t c2 h
    refine lv_aload_n hx hb dX7_refusal_10 rfl (lv_at hl 0 rfl) ?_
    refine va_get (D := D) (ci := 6) (v := .int (σ 43 0)) (C := RX7) (T := TX7) (N := 3) hx hb hts inX7_X7_refusal hown hK.1 hP 28 rfl rfl 1 (by decide) (hts (.fieldLink RX7 15 "SandPalace$Sheet" "laneOfRow" "I") (by decide +kernel)) (fun _ h9 => h9) rfl dX7_refusal_11 ?_
    refine lv_iload_n hx hb dX7_refusal_14 rfl (lv_at hl 1 rfl) ?_
    refine lv_icmp_eq (tgt := 21) hx hb dX7_refusal_15 (by decide) (fun c3 => ?_) (fun c3 => ?_)
    · have h := it_t c3 h
      refine lv_iload_n hx hb dX7_refusal_21 rfl (lv_at hl 2 rfl) ?_
      refine lv_if_lt (tgt := 35) hx hb dX7_refusal_22 (by decide) (fun c4 => ?_) (fun c4 => ?_)
      · have h := it_t c4 h
        refine lv_bipush (v := ((-13) : Int32)) hx hb dX7_refusal_35 (by decide) ?_
        refine lv_goto (tgt := 41) hx hb dX7_refusal_37 (by decide) ?_
        exact mretS hx hb hr hlk h dX7_refusal_41
      · have h := it_f c4 h
        refine lv_iload_n hx hb dX7_refusal_25 rfl (lv_at hl 2 rfl) ?_
        refine lv_aload_n hx hb dX7_refusal_26 rfl (lv_at hl 0 rfl) ?_
        refine va_get (D := D) (ci := 6) (v := .int (σ 47 0)) (C := RX7) (T := TX7) (N := 3) hx hb hts inX7_X7_refusal hown hK.1 hP 28 rfl rfl 2 (by decide) (hts (.fieldLink RX7 19 "SandPalace$Sheet" "length" "I") (by decide +kernel)) (fun _ h9 => h9) rfl dX7_refusal_27 ?_
        refine lv_iload_n hx hb dX7_refusal_30 rfl (lv_at hl 3 rfl) ?_
        refine lv_isub hx hb dX7_refusal_31 ?_
        refine lv_icmp_le (tgt := 40) hx hb dX7_refusal_32 (by decide) (fun c5 => ?_) (fun c5 => ?_)
        · have h := it_t c5 h
          refine lv_iconst (v := (0 : Int32)) hx hb dX7_refusal_40 (by decide) ?_
          exact mretS hx hb hr hlk h dX7_refusal_41
        · have h := it_f c5 h
          refine lv_bipush (v := ((-13) : Int32)) hx hb dX7_refusal_35 (by decide) ?_
          refine lv_goto (tgt := 41) hx hb dX7_refusal_37 (by decide) ?_
          exact mretS hx hb hr hlk h dX7_refusal_41
    · have h := it_f c3 h
      refine lv_bipush (v := ((-12) : Int32)) hx hb dX7_refusal_18 (by decide) ?_
      exact mretS hx hb hr hlk h dX7_refusal_20
  · have h := it_f c2 h
    refine lv_bipush (v := ((-11) : Int32)) hx hb dX7_refusal_7 (by decide) ?_
    exact mretS hx hb hr hlk h dX7_refusal_9
def fX7_write (KI : Nat) (KL : Nat) (KN : Nat) (sh : Nat → Option Nat) (Z : ZT) (σ : Nat → Nat → Int32) (x1 : Int32) (x2 : Int32) : Option ((Nat → Nat → Int32)) :=
  if ¬ (σ KL 0) = 0 then (if ¬ (σ KL 0) = (1 : Int32) then (aS 256 x1 (nm (sg σ KI (upd (σ KI) x1.toNatClampNeg x2)) fun σ4 => some σ4)) else (aS 256 x1 (nm (sg σ KI (upd (σ KI) x1.toNatClampNeg x2.toInt16.toInt32)) fun σ6 => some σ6))) else (aS 256 x1 (nm (sg σ KI (upd (σ KI) x1.toNatClampNeg x2.toInt8.toInt32)) fun σ8 => some σ8))
abbrev rmX7_write : Room := { frames := 0, cells := 0, slots := 0, locals := 0 }
theorem inX7_X7_write : ∀ w ∈ wsX70, w ∈ wsX7_write := by intro w h; simp only [wsX7_write, List.mem_cons, List.mem_append]; simp only [h, true_or, or_true]
set_option maxHeartbeats 4000000 in
set_option maxRecDepth 100000 in
theorem kX7_write_29 (l : Launch) (D : va_G) (cs : Nat → ClassId) (a : Nat → Nat) (sh : Nat → Option Nat) (LP : List Nat) (Z : ZT) (hZ : shOK sh LP Z) (σ : Nat → Nat → Int32) (x1 : Int32) (x2 : Int32) (u9 : Nat → Nat → Int32) (h : fX7_write 29 40 44 sh Z σ x1 x2 = some u9) (sz : Nat) : Met l yX7_write wsX7_write rmX7_write (va_Pc [.ref (a 25), .int x1, .int x2] (pQ D cs (cW a cs sh LP Z σ) sz)) (va_Qv (fun y => y = u9) (qB D (cW a cs sh LP Z) (va_A (cW a cs sh LP Z σ) sz)) (va_A (cW a cs sh LP Z σ) sz)) 0 0 (va_A (cW a cs sh LP Z σ) sz) := by
  refine Met.ofW (cc := cX7_write) (maxL := 3) (ret := none) (by decide) rfl ?_
  intro p e s m args below meth c s₁ B hml hv
  obtain ⟨rfl, hsz, hP, hK, hD0⟩ := hv
  have C : cxt p s m _ meth c cX7_write 3 RX7 wsX7_write none := ⟨B.exec, B.bytes, hml, findClass_of_methodNamed B.named, atoms_spec (ws := wsX7_write) B.pre, B.returns, B.notSynchronized⟩
  obtain ⟨hx, hb, -, hown, hts, hr, hlk⟩ := id C
  subst hsz
  have hD := hD0.self (sz := s.heap.size)
  generalize hAe : va_A (cW a cs sh LP Z σ) s.heap.size = A at hD ⊢
  have hA : ∀ q : Nat, s.heap.size ≤ q → A q := fun q h => by rw [← hAe]; exact Or.inr h
  have hS : va_S A s.heap s.heap [] := va_S.rf
  refine entryW [.ref (a 25), .int x1, .int x2] (n := 3) (Nat.le_of_ble_eq_true rfl) (fun ls hl => ?_)
  have hl : lv_has ls 3 [(0, .ref (a 25)), (1, .int x1), (2, .int x2)] := hl
  unfold fX7_write at h
  refine lv_aload_n hx hb dX7_write_0 rfl (lv_at hl 0 rfl) ?_
  refine va_get (D := D) (ci := 6) (v := .int (σ 40 0)) (C := RX7) (T := TX7) (N := 3) hx hb hts inX7_X7_write hown hK.1 hP 25 rfl rfl 1 (by decide) (hts (.fieldLink RX7 15 "SandPalace$Sheet" "laneOfRow" "I") (by decide +kernel)) (fun _ h9 => h9) rfl dX7_write_1 ?_
  refine lv_if_ne (tgt := 18) hx hb dX7_write_4 (by decide) (fun c1 => ?_) (fun c1 => ?_)
  · have h := it_t c1 h
    refine lv_aload_n hx hb dX7_write_18 rfl (lv_at hl 0 rfl) ?_
    refine va_get (D := D) (ci := 6) (v := .int (σ 40 0)) (C := RX7) (T := TX7) (N := 3) hx hb hts inX7_X7_write hown hK.1 hP 25 rfl rfl 1 (by decide) (hts (.fieldLink RX7 15 "SandPalace$Sheet" "laneOfRow" "I") (by decide +kernel)) (fun _ h9 => h9) rfl dX7_write_19 ?_
    refine lv_iconst (v := (1 : Int32)) hx hb dX7_write_22 (by decide) ?_
    refine lv_icmp_ne (tgt := 37) hx hb dX7_write_23 (by decide) (fun c2 => ?_) (fun c2 => ?_)
    · have h := it_t c2 h
      refine lv_aload_n hx hb dX7_write_37 rfl (lv_at hl 0 rfl) ?_
      refine va_get (D := D) (ci := 6) (v := .ref (a 29)) (C := RX7) (T := TX7) (N := 3) hx hb hts inX7_X7_write hown hK.1 hP 25 rfl rfl 0 (by decide) (hts (.fieldLink RX7 9 "SandPalace$Sheet" "items" "[I") (by decide +kernel)) (fun _ h9 => h9) rfl dX7_write_38 ?_
      refine lv_iload_n hx hb dX7_write_41 rfl (lv_at hl 1 rfl) ?_
      refine lv_iload_n hx hb dX7_write_42 rfl (lv_at hl 2 rfl) ?_
      obtain ⟨i3, h⟩ := aS_some h
      refine va_iast hx hb hK.1 hP hD hS 29 0 rfl rfl i3 dX7_write_43 (fun H locs hP hD hS => ?_)
      obtain ⟨σ4, e_σ4, h⟩ := nm_some h
      have hP : va_P D vwCl (cW a cs sh LP Z σ4) H := by rw [← e_σ4]; exact hP
      have hD : va_D A (cW a cs sh LP Z σ4) := by rw [← e_σ4]; exact hD
      exact mretV hx hb hr hlk h hP hD hS dX7_write_44
    · have h := it_n c2 h
      refine lv_aload_n hx hb dX7_write_26 rfl (lv_at hl 0 rfl) ?_
      refine va_get (D := D) (ci := 6) (v := .ref (a 29)) (C := RX7) (T := TX7) (N := 3) hx hb hts inX7_X7_write hown hK.1 hP 25 rfl rfl 0 (by decide) (hts (.fieldLink RX7 9 "SandPalace$Sheet" "items" "[I") (by decide +kernel)) (fun _ h9 => h9) rfl dX7_write_27 ?_
      refine lv_iload_n hx hb dX7_write_30 rfl (lv_at hl 1 rfl) ?_
      refine lv_iload_n hx hb dX7_write_31 rfl (lv_at hl 2 rfl) ?_
      refine lv_i2s hx hb dX7_write_32 rfl ?_
      obtain ⟨i5, h⟩ := aS_some h
      refine va_iast hx hb hK.1 hP hD hS 29 0 rfl rfl i5 dX7_write_33 (fun H locs hP hD hS => ?_)
      obtain ⟨σ6, e_σ6, h⟩ := nm_some h
      have hP : va_P D vwCl (cW a cs sh LP Z σ6) H := by rw [← e_σ6]; exact hP
      have hD : va_D A (cW a cs sh LP Z σ6) := by rw [← e_σ6]; exact hD
      refine lv_goto (tgt := 44) hx hb dX7_write_34 (by decide) ?_
      exact mretV hx hb hr hlk h hP hD hS dX7_write_44
  · have h := it_n c1 h
    refine lv_aload_n hx hb dX7_write_7 rfl (lv_at hl 0 rfl) ?_
    refine va_get (D := D) (ci := 6) (v := .ref (a 29)) (C := RX7) (T := TX7) (N := 3) hx hb hts inX7_X7_write hown hK.1 hP 25 rfl rfl 0 (by decide) (hts (.fieldLink RX7 9 "SandPalace$Sheet" "items" "[I") (by decide +kernel)) (fun _ h9 => h9) rfl dX7_write_8 ?_
    refine lv_iload_n hx hb dX7_write_11 rfl (lv_at hl 1 rfl) ?_
    refine lv_iload_n hx hb dX7_write_12 rfl (lv_at hl 2 rfl) ?_
    refine lv_i2b hx hb dX7_write_13 rfl ?_
    obtain ⟨i7, h⟩ := aS_some h
    refine va_iast hx hb hK.1 hP hD hS 29 0 rfl rfl i7 dX7_write_14 (fun H locs hP hD hS => ?_)
    obtain ⟨σ8, e_σ8, h⟩ := nm_some h
    have hP : va_P D vwCl (cW a cs sh LP Z σ8) H := by rw [← e_σ8]; exact hP
    have hD : va_D A (cW a cs sh LP Z σ8) := by rw [← e_σ8]; exact hD
    refine lv_goto (tgt := 44) hx hb dX7_write_15 (by decide) ?_
    exact mretV hx hb hr hlk h hP hD hS dX7_write_44
set_option maxHeartbeats 4000000 in
set_option maxRecDepth 100000 in
theorem kX7_write_30 (l : Launch) (D : va_G) (cs : Nat → ClassId) (a : Nat → Nat) (sh : Nat → Option Nat) (LP : List Nat) (Z : ZT) (hZ : shOK sh LP Z) (σ : Nat → Nat → Int32) (x1 : Int32) (x2 : Int32) (u9 : Nat → Nat → Int32) (h : fX7_write 30 41 45 sh Z σ x1 x2 = some u9) (sz : Nat) : Met l yX7_write wsX7_write rmX7_write (va_Pc [.ref (a 26), .int x1, .int x2] (pQ D cs (cW a cs sh LP Z σ) sz)) (va_Qv (fun y => y = u9) (qB D (cW a cs sh LP Z) (va_A (cW a cs sh LP Z σ) sz)) (va_A (cW a cs sh LP Z σ) sz)) 0 0 (va_A (cW a cs sh LP Z σ) sz) := by
  refine Met.ofW (cc := cX7_write) (maxL := 3) (ret := none) (by decide) rfl ?_
  intro p e s m args below meth c s₁ B hml hv
  obtain ⟨rfl, hsz, hP, hK, hD0⟩ := hv
  have C : cxt p s m _ meth c cX7_write 3 RX7 wsX7_write none := ⟨B.exec, B.bytes, hml, findClass_of_methodNamed B.named, atoms_spec (ws := wsX7_write) B.pre, B.returns, B.notSynchronized⟩
  obtain ⟨hx, hb, -, hown, hts, hr, hlk⟩ := id C
  subst hsz
  have hD := hD0.self (sz := s.heap.size)
  generalize hAe : va_A (cW a cs sh LP Z σ) s.heap.size = A at hD ⊢
  have hA : ∀ q : Nat, s.heap.size ≤ q → A q := fun q h => by rw [← hAe]; exact Or.inr h
  have hS : va_S A s.heap s.heap [] := va_S.rf
  refine entryW [.ref (a 26), .int x1, .int x2] (n := 3) (Nat.le_of_ble_eq_true rfl) (fun ls hl => ?_)
  have hl : lv_has ls 3 [(0, .ref (a 26)), (1, .int x1), (2, .int x2)] := hl
  unfold fX7_write at h
  refine lv_aload_n hx hb dX7_write_0 rfl (lv_at hl 0 rfl) ?_
  refine va_get (D := D) (ci := 6) (v := .int (σ 41 0)) (C := RX7) (T := TX7) (N := 3) hx hb hts inX7_X7_write hown hK.1 hP 26 rfl rfl 1 (by decide) (hts (.fieldLink RX7 15 "SandPalace$Sheet" "laneOfRow" "I") (by decide +kernel)) (fun _ h9 => h9) rfl dX7_write_1 ?_
  refine lv_if_ne (tgt := 18) hx hb dX7_write_4 (by decide) (fun c1 => ?_) (fun c1 => ?_)
  · have h := it_t c1 h
    refine lv_aload_n hx hb dX7_write_18 rfl (lv_at hl 0 rfl) ?_
    refine va_get (D := D) (ci := 6) (v := .int (σ 41 0)) (C := RX7) (T := TX7) (N := 3) hx hb hts inX7_X7_write hown hK.1 hP 26 rfl rfl 1 (by decide) (hts (.fieldLink RX7 15 "SandPalace$Sheet" "laneOfRow" "I") (by decide +kernel)) (fun _ h9 => h9) rfl dX7_write_19 ?_
    refine lv_iconst (v := (1 : Int32)) hx hb dX7_write_22 (by decide) ?_
    refine lv_icmp_ne (tgt := 37) hx hb dX7_write_23 (by decide) (fun c2 => ?_) (fun c2 => ?_)
    · have h := it_t c2 h
      refine lv_aload_n hx hb dX7_write_37 rfl (lv_at hl 0 rfl) ?_
      refine va_get (D := D) (ci := 6) (v := .ref (a 30)) (C := RX7) (T := TX7) (N := 3) hx hb hts inX7_X7_write hown hK.1 hP 26 rfl rfl 0 (by decide) (hts (.fieldLink RX7 9 "SandPalace$Sheet" "items" "[I") (by decide +kernel)) (fun _ h9 => h9) rfl dX7_write_38 ?_
      refine lv_iload_n hx hb dX7_write_41 rfl (lv_at hl 1 rfl) ?_
      refine lv_iload_n hx hb dX7_write_42 rfl (lv_at hl 2 rfl) ?_
      obtain ⟨i3, h⟩ := aS_some h
      refine va_iast hx hb hK.1 hP hD hS 30 0 rfl rfl i3 dX7_write_43 (fun H locs hP hD hS => ?_)
      obtain ⟨σ4, e_σ4, h⟩ := nm_some h
      have hP : va_P D vwCl (cW a cs sh LP Z σ4) H := by rw [← e_σ4]; exact hP
      have hD : va_D A (cW a cs sh LP Z σ4) := by rw [← e_σ4]; exact hD
      exact mretV hx hb hr hlk h hP hD hS dX7_write_44
    · have h := it_n c2 h
      refine lv_aload_n hx hb dX7_write_26 rfl (lv_at hl 0 rfl) ?_
      refine va_get (D := D) (ci := 6) (v := .ref (a 30)) (C := RX7) (T := TX7) (N := 3) hx hb hts inX7_X7_write hown hK.1 hP 26 rfl rfl 0 (by decide) (hts (.fieldLink RX7 9 "SandPalace$Sheet" "items" "[I") (by decide +kernel)) (fun _ h9 => h9) rfl dX7_write_27 ?_
      refine lv_iload_n hx hb dX7_write_30 rfl (lv_at hl 1 rfl) ?_
      refine lv_iload_n hx hb dX7_write_31 rfl (lv_at hl 2 rfl) ?_
      refine lv_i2s hx hb dX7_write_32 rfl ?_
      obtain ⟨i5, h⟩ := aS_some h
      refine va_iast hx hb hK.1 hP hD hS 30 0 rfl rfl i5 dX7_write_33 (fun H locs hP hD hS => ?_)
      obtain ⟨σ6, e_σ6, h⟩ := nm_some h
      have hP : va_P D vwCl (cW a cs sh LP Z σ6) H := by rw [← e_σ6]; exact hP
      have hD : va_D A (cW a cs sh LP Z σ6) := by rw [← e_σ6]; exact hD
      refine lv_goto (tgt := 44) hx hb dX7_write_34 (by decide) ?_
      exact mretV hx hb hr hlk h hP hD hS dX7_write_44
  · have h := it_n c1 h
    refine lv_aload_n hx hb dX7_write_7 rfl (lv_at hl 0 rfl) ?_
    refine va_get (D := D) (ci := 6) (v := .ref (a 30)) (C := RX7) (T := TX7) (N := 3) hx hb hts inX7_X7_write hown hK.1 hP 26 rfl rfl 0 (by decide) (hts (.fieldLink RX7 9 "SandPalace$Sheet" "items" "[I") (by decide +kernel)) (fun _ h9 => h9) rfl dX7_write_8 ?_
    refine lv_iload_n hx hb dX7_write_11 rfl (lv_at hl 1 rfl) ?_
    refine lv_iload_n hx hb dX7_write_12 rfl (lv_at hl 2 rfl) ?_
    refine lv_i2b hx hb dX7_write_13 rfl ?_
    obtain ⟨i7, h⟩ := aS_some h
    refine va_iast hx hb hK.1 hP hD hS 30 0 rfl rfl i7 dX7_write_14 (fun H locs hP hD hS => ?_)
    obtain ⟨σ8, e_σ8, h⟩ := nm_some h
    have hP : va_P D vwCl (cW a cs sh LP Z σ8) H := by rw [← e_σ8]; exact hP
    have hD : va_D A (cW a cs sh LP Z σ8) := by rw [← e_σ8]; exact hD
    refine lv_goto (tgt := 44) hx hb dX7_write_15 (by decide) ?_
    exact mretV hx hb hr hlk h hP hD hS dX7_write_44
set_option maxHeartbeats 4000000 in
set_option maxRecDepth 100000 in
theorem kX7_write_31 (l : Launch) (D : va_G) (cs : Nat → ClassId) (a : Nat → Nat) (sh : Nat → Option Nat) (LP : List Nat) (Z : ZT) (hZ : shOK sh LP Z) (σ : Nat → Nat → Int32) (x1 : Int32) (x2 : Int32) (u9 : Nat → Nat → Int32) (h : fX7_write 31 42 46 sh Z σ x1 x2 = some u9) (sz : Nat) : Met l yX7_write wsX7_write rmX7_write (va_Pc [.ref (a 27), .int x1, .int x2] (pQ D cs (cW a cs sh LP Z σ) sz)) (va_Qv (fun y => y = u9) (qB D (cW a cs sh LP Z) (va_A (cW a cs sh LP Z σ) sz)) (va_A (cW a cs sh LP Z σ) sz)) 0 0 (va_A (cW a cs sh LP Z σ) sz) := by
  refine Met.ofW (cc := cX7_write) (maxL := 3) (ret := none) (by decide) rfl ?_
  intro p e s m args below meth c s₁ B hml hv
  obtain ⟨rfl, hsz, hP, hK, hD0⟩ := hv
  have C : cxt p s m _ meth c cX7_write 3 RX7 wsX7_write none := ⟨B.exec, B.bytes, hml, findClass_of_methodNamed B.named, atoms_spec (ws := wsX7_write) B.pre, B.returns, B.notSynchronized⟩
  obtain ⟨hx, hb, -, hown, hts, hr, hlk⟩ := id C
  subst hsz
  have hD := hD0.self (sz := s.heap.size)
  generalize hAe : va_A (cW a cs sh LP Z σ) s.heap.size = A at hD ⊢
  have hA : ∀ q : Nat, s.heap.size ≤ q → A q := fun q h => by rw [← hAe]; exact Or.inr h
  have hS : va_S A s.heap s.heap [] := va_S.rf
  refine entryW [.ref (a 27), .int x1, .int x2] (n := 3) (Nat.le_of_ble_eq_true rfl) (fun ls hl => ?_)
  have hl : lv_has ls 3 [(0, .ref (a 27)), (1, .int x1), (2, .int x2)] := hl
  unfold fX7_write at h
  refine lv_aload_n hx hb dX7_write_0 rfl (lv_at hl 0 rfl) ?_
  refine va_get (D := D) (ci := 6) (v := .int (σ 42 0)) (C := RX7) (T := TX7) (N := 3) hx hb hts inX7_X7_write hown hK.1 hP 27 rfl rfl 1 (by decide) (hts (.fieldLink RX7 15 "SandPalace$Sheet" "laneOfRow" "I") (by decide +kernel)) (fun _ h9 => h9) rfl dX7_write_1 ?_
  refine lv_if_ne (tgt := 18) hx hb dX7_write_4 (by decide) (fun c1 => ?_) (fun c1 => ?_)
  · have h := it_t c1 h
    refine lv_aload_n hx hb dX7_write_18 rfl (lv_at hl 0 rfl) ?_
    refine va_get (D := D) (ci := 6) (v := .int (σ 42 0)) (C := RX7) (T := TX7) (N := 3) hx hb hts inX7_X7_write hown hK.1 hP 27 rfl rfl 1 (by decide) (hts (.fieldLink RX7 15 "SandPalace$Sheet" "laneOfRow" "I") (by decide +kernel)) (fun _ h9 => h9) rfl dX7_write_19 ?_
    refine lv_iconst (v := (1 : Int32)) hx hb dX7_write_22 (by decide) ?_
    refine lv_icmp_ne (tgt := 37) hx hb dX7_write_23 (by decide) (fun c2 => ?_) (fun c2 => ?_)
    · have h := it_t c2 h
      refine lv_aload_n hx hb dX7_write_37 rfl (lv_at hl 0 rfl) ?_
      refine va_get (D := D) (ci := 6) (v := .ref (a 31)) (C := RX7) (T := TX7) (N := 3) hx hb hts inX7_X7_write hown hK.1 hP 27 rfl rfl 0 (by decide) (hts (.fieldLink RX7 9 "SandPalace$Sheet" "items" "[I") (by decide +kernel)) (fun _ h9 => h9) rfl dX7_write_38 ?_
      refine lv_iload_n hx hb dX7_write_41 rfl (lv_at hl 1 rfl) ?_
      refine lv_iload_n hx hb dX7_write_42 rfl (lv_at hl 2 rfl) ?_
      obtain ⟨i3, h⟩ := aS_some h
      refine va_iast hx hb hK.1 hP hD hS 31 0 rfl rfl i3 dX7_write_43 (fun H locs hP hD hS => ?_)
      obtain ⟨σ4, e_σ4, h⟩ := nm_some h
      have hP : va_P D vwCl (cW a cs sh LP Z σ4) H := by rw [← e_σ4]; exact hP
      have hD : va_D A (cW a cs sh LP Z σ4) := by rw [← e_σ4]; exact hD
      exact mretV hx hb hr hlk h hP hD hS dX7_write_44
    · have h := it_n c2 h
      refine lv_aload_n hx hb dX7_write_26 rfl (lv_at hl 0 rfl) ?_
      refine va_get (D := D) (ci := 6) (v := .ref (a 31)) (C := RX7) (T := TX7) (N := 3) hx hb hts inX7_X7_write hown hK.1 hP 27 rfl rfl 0 (by decide) (hts (.fieldLink RX7 9 "SandPalace$Sheet" "items" "[I") (by decide +kernel)) (fun _ h9 => h9) rfl dX7_write_27 ?_
      refine lv_iload_n hx hb dX7_write_30 rfl (lv_at hl 1 rfl) ?_
      refine lv_iload_n hx hb dX7_write_31 rfl (lv_at hl 2 rfl) ?_
      refine lv_i2s hx hb dX7_write_32 rfl ?_
      obtain ⟨i5, h⟩ := aS_some h
      refine va_iast hx hb hK.1 hP hD hS 31 0 rfl rfl i5 dX7_write_33 (fun H locs hP hD hS => ?_)
      obtain ⟨σ6, e_σ6, h⟩ := nm_some h
      have hP : va_P D vwCl (cW a cs sh LP Z σ6) H := by rw [← e_σ6]; exact hP
      have hD : va_D A (cW a cs sh LP Z σ6) := by rw [← e_σ6]; exact hD
      refine lv_goto (tgt := 44) hx hb dX7_write_34 (by decide) ?_
      exact mretV hx hb hr hlk h hP hD hS dX7_write_44
  · have h := it_n c1 h
    refine lv_aload_n hx hb dX7_write_7 rfl (lv_at hl 0 rfl) ?_
    refine va_get (D := D) (ci := 6) (v := .ref (a 31)) (C := RX7) (T := TX7) (N := 3) hx hb hts inX7_X7_write hown hK.1 hP 27 rfl rfl 0 (by decide) (hts (.fieldLink RX7 9 "SandPalace$Sheet" "items" "[I") (by decide +kernel)) (fun _ h9 => h9) rfl dX7_write_8 ?_
    refine lv_iload_n hx hb dX7_write_11 rfl (lv_at hl 1 rfl) ?_
    refine lv_iload_n hx hb dX7_write_12 rfl (lv_at hl 2 rfl) ?_
    refine lv_i2b hx hb dX7_write_13 rfl ?_
    obtain ⟨i7, h⟩ := aS_some h
    refine va_iast hx hb hK.1 hP hD hS 31 0 rfl rfl i7 dX7_write_14 (fun H locs hP hD hS => ?_)
    obtain ⟨σ8, e_σ8, h⟩ := nm_some h
    have hP : va_P D vwCl (cW a cs sh LP Z σ8) H := by rw [← e_σ8]; exact hP
    have hD : va_D A (cW a cs sh LP Z σ8) := by rw [← e_σ8]; exact hD
    refine lv_goto (tgt := 44) hx hb dX7_write_15 (by decide) ?_
    exact mretV hx hb hr hlk h hP hD hS dX7_write_44
set_option maxHeartbeats 4000000 in
set_option maxRecDepth 100000 in
theorem kX7_write_32 (l : Launch) (D : va_G) (cs : Nat → ClassId) (a : Nat → Nat) (sh : Nat → Option Nat) (LP : List Nat) (Z : ZT) (hZ : shOK sh LP Z) (σ : Nat → Nat → Int32) (x1 : Int32) (x2 : Int32) (u9 : Nat → Nat → Int32) (h : fX7_write 32 43 47 sh Z σ x1 x2 = some u9) (sz : Nat) : Met l yX7_write wsX7_write rmX7_write (va_Pc [.ref (a 28), .int x1, .int x2] (pQ D cs (cW a cs sh LP Z σ) sz)) (va_Qv (fun y => y = u9) (qB D (cW a cs sh LP Z) (va_A (cW a cs sh LP Z σ) sz)) (va_A (cW a cs sh LP Z σ) sz)) 0 0 (va_A (cW a cs sh LP Z σ) sz) := by
  refine Met.ofW (cc := cX7_write) (maxL := 3) (ret := none) (by decide) rfl ?_
  intro p e s m args below meth c s₁ B hml hv
  obtain ⟨rfl, hsz, hP, hK, hD0⟩ := hv
  have C : cxt p s m _ meth c cX7_write 3 RX7 wsX7_write none := ⟨B.exec, B.bytes, hml, findClass_of_methodNamed B.named, atoms_spec (ws := wsX7_write) B.pre, B.returns, B.notSynchronized⟩
  obtain ⟨hx, hb, -, hown, hts, hr, hlk⟩ := id C
  subst hsz
  have hD := hD0.self (sz := s.heap.size)
  generalize hAe : va_A (cW a cs sh LP Z σ) s.heap.size = A at hD ⊢
  have hA : ∀ q : Nat, s.heap.size ≤ q → A q := fun q h => by rw [← hAe]; exact Or.inr h
  have hS : va_S A s.heap s.heap [] := va_S.rf
  refine entryW [.ref (a 28), .int x1, .int x2] (n := 3) (Nat.le_of_ble_eq_true rfl) (fun ls hl => ?_)
  have hl : lv_has ls 3 [(0, .ref (a 28)), (1, .int x1), (2, .int x2)] := hl
  unfold fX7_write at h
  refine lv_aload_n hx hb dX7_write_0 rfl (lv_at hl 0 rfl) ?_
  refine va_get (D := D) (ci := 6) (v := .int (σ 43 0)) (C := RX7) (T := TX7) (N := 3) hx hb hts inX7_X7_write hown hK.1 hP 28 rfl rfl 1 (by decide) (hts (.fieldLink RX7 15 "SandPalace$Sheet" "laneOfRow" "I") (by decide +kernel)) (fun _ h9 => h9) rfl dX7_write_1 ?_
  refine lv_if_ne (tgt := 18) hx hb dX7_write_4 (by decide) (fun c1 => ?_) (fun c1 => ?_)
  · have h := it_t c1 h
    refine lv_aload_n hx hb dX7_write_18 rfl (lv_at hl 0 rfl) ?_
    refine va_get (D := D) (ci := 6) (v := .int (σ 43 0)) (C := RX7) (T := TX7) (N := 3) hx hb hts inX7_X7_write hown hK.1 hP 28 rfl rfl 1 (by decide) (hts (.fieldLink RX7 15 "SandPalace$Sheet" "laneOfRow" "I") (by decide +kernel)) (fun _ h9 => h9) rfl dX7_write_19 ?_
    refine lv_iconst (v := (1 : Int32)) hx hb dX7_write_22 (by decide) ?_
    refine lv_icmp_ne (tgt := 37) hx hb dX7_write_23 (by decide) (fun c2 => ?_) (fun c2 => ?_)
    · have h := it_t c2 h
      refine lv_aload_n hx hb dX7_write_37 rfl (lv_at hl 0 rfl) ?_
      refine va_get (D := D) (ci := 6) (v := .ref (a 32)) (C := RX7) (T := TX7) (N := 3) hx hb hts inX7_X7_write hown hK.1 hP 28 rfl rfl 0 (by decide) (hts (.fieldLink RX7 9 "SandPalace$Sheet" "items" "[I") (by decide +kernel)) (fun _ h9 => h9) rfl dX7_write_38 ?_
      refine lv_iload_n hx hb dX7_write_41 rfl (lv_at hl 1 rfl) ?_
      refine lv_iload_n hx hb dX7_write_42 rfl (lv_at hl 2 rfl) ?_
      obtain ⟨i3, h⟩ := aS_some h
      refine va_iast hx hb hK.1 hP hD hS 32 0 rfl rfl i3 dX7_write_43 (fun H locs hP hD hS => ?_)
      obtain ⟨σ4, e_σ4, h⟩ := nm_some h
      have hP : va_P D vwCl (cW a cs sh LP Z σ4) H := by rw [← e_σ4]; exact hP
      have hD : va_D A (cW a cs sh LP Z σ4) := by rw [← e_σ4]; exact hD
      exact mretV hx hb hr hlk h hP hD hS dX7_write_44
    · have h := it_n c2 h
      refine lv_aload_n hx hb dX7_write_26 rfl (lv_at hl 0 rfl) ?_
      refine va_get (D := D) (ci := 6) (v := .ref (a 32)) (C := RX7) (T := TX7) (N := 3) hx hb hts inX7_X7_write hown hK.1 hP 28 rfl rfl 0 (by decide) (hts (.fieldLink RX7 9 "SandPalace$Sheet" "items" "[I") (by decide +kernel)) (fun _ h9 => h9) rfl dX7_write_27 ?_
      refine lv_iload_n hx hb dX7_write_30 rfl (lv_at hl 1 rfl) ?_
      refine lv_iload_n hx hb dX7_write_31 rfl (lv_at hl 2 rfl) ?_
      refine lv_i2s hx hb dX7_write_32 rfl ?_
      obtain ⟨i5, h⟩ := aS_some h
      refine va_iast hx hb hK.1 hP hD hS 32 0 rfl rfl i5 dX7_write_33 (fun H locs hP hD hS => ?_)
      obtain ⟨σ6, e_σ6, h⟩ := nm_some h
      have hP : va_P D vwCl (cW a cs sh LP Z σ6) H := by rw [← e_σ6]; exact hP
      have hD : va_D A (cW a cs sh LP Z σ6) := by rw [← e_σ6]; exact hD
      refine lv_goto (tgt := 44) hx hb dX7_write_34 (by decide) ?_
      exact mretV hx hb hr hlk h hP hD hS dX7_write_44
  · have h := it_n c1 h
    refine lv_aload_n hx hb dX7_write_7 rfl (lv_at hl 0 rfl) ?_
    refine va_get (D := D) (ci := 6) (v := .ref (a 32)) (C := RX7) (T := TX7) (N := 3) hx hb hts inX7_X7_write hown hK.1 hP 28 rfl rfl 0 (by decide) (hts (.fieldLink RX7 9 "SandPalace$Sheet" "items" "[I") (by decide +kernel)) (fun _ h9 => h9) rfl dX7_write_8 ?_
    refine lv_iload_n hx hb dX7_write_11 rfl (lv_at hl 1 rfl) ?_
    refine lv_iload_n hx hb dX7_write_12 rfl (lv_at hl 2 rfl) ?_
    refine lv_i2b hx hb dX7_write_13 rfl ?_
    obtain ⟨i7, h⟩ := aS_some h
    refine va_iast hx hb hK.1 hP hD hS 32 0 rfl rfl i7 dX7_write_14 (fun H locs hP hD hS => ?_)
    obtain ⟨σ8, e_σ8, h⟩ := nm_some h
    have hP : va_P D vwCl (cW a cs sh LP Z σ8) H := by rw [← e_σ8]; exact hP
    have hD : va_D A (cW a cs sh LP Z σ8) := by rw [← e_σ8]; exact hD
    refine lv_goto (tgt := 44) hx hb dX7_write_15 (by decide) ?_
    exact mretV hx hb hr hlk h hP hD hS dX7_write_44
