def fX3_colourOf (sh : Nat → Option Nat) (Z : ZT) (σ : Nat → Nat → Int32) (x1 : Int32) : Option Int32 :=
  aI (σ 15) 256 x1 fun v1 => some v1
abbrev rmX3_colourOf : Room := { frames := 0, cells := 0, slots := 0, locals := 0 }
theorem inX3_X3_colourOf : ∀ w ∈ wsX30, w ∈ wsX3_colourOf := by intro w h; simp only [wsX3_colourOf, List.mem_cons, List.mem_append]; simp only [h, true_or, or_true]
set_option maxHeartbeats 4000000 in
set_option maxRecDepth 100000 in
theorem kX3_colourOf (l : Launch) (D : va_G) (cs : Nat → ClassId) (a : Nat → Nat) (sh : Nat → Option Nat) (LP : List Nat) (Z : ZT) (hZ : shOK sh LP Z) (σ : Nat → Nat → Int32) (x1 : Int32) (r : Int32) (h : fX3_colourOf sh Z σ x1 = some r) : Met l yX3_colourOf wsX3_colourOf rmX3_colourOf (va_Pc [.ref (a 14), .int x1] (pR D cs (cW a cs sh LP Z σ))) (vp_Si (fun x => x = r)) 0 0 (fun _ => False) := by
  refine Met.ofW (cc := cX3_colourOf) (maxL := 2) (ret := (some .int)) (by decide) rfl ?_
  intro p e s m args below meth c s₁ B hml hv
  obtain ⟨rfl, hP, hK⟩ := hv
  have C : cxt p s m _ meth c cX3_colourOf 2 RX3 wsX3_colourOf (some .int) := ⟨B.exec, B.bytes, hml, findClass_of_methodNamed B.named, atoms_spec (ws := wsX3_colourOf) B.pre, B.returns, B.notSynchronized⟩
  obtain ⟨hx, hb, -, hown, hts, hr, hlk⟩ := id C
  refine entryW [.ref (a 14), .int x1] (n := 2) (Nat.le_of_ble_eq_true rfl) (fun ls hl => ?_)
  have hl : lv_has ls 2 [(0, .ref (a 14)), (1, .int x1)] := hl
  unfold fX3_colourOf at h
  refine lv_aload_n hx hb dX3_colourOf_0 rfl (lv_at hl 0 rfl) ?_
  refine va_get (D := D) (ci := 3) (v := .ref (a 15)) (C := RX3) (T := TX3) (N := 2) hx hb hts inX3_X3_colourOf hown hK.1 hP 14 rfl rfl 0 (by decide) (hts (.fieldLink RX3 9 "SandPalace$Photo" "colours" "[I") (by decide +kernel)) (fun _ h9 => h9) rfl dX3_colourOf_1 ?_
  refine lv_iload_n hx hb dX3_colourOf_4 rfl (lv_at hl 1 rfl) ?_
  obtain ⟨v1, i_v1, e_v1, h⟩ := aI_some h
  refine miald hx hb hK.1 hP 15 0 rfl rfl i_v1 e_v1 dX3_colourOf_5 ?_
  exact mretS hx hb hr hlk h dX3_colourOf_6
def fX3_smearCell (sh : Nat → Option Nat) (Z : ZT) (σ : Nat → Nat → Int32) (x1 : Int32) : Option (Int32 × (Nat → Nat → Int32)) :=
  aI (σ 15) 256 x1 fun v1 => aS 256 x1 (nm (sg σ 15 (upd (σ 15) x1.toNatClampNeg ((-5) : Int32))) fun σ3 => some (v1, σ3))
abbrev rmX3_smearCell : Room := { frames := 0, cells := 0, slots := 0, locals := 0 }
theorem inX3_X3_smearCell : ∀ w ∈ wsX30, w ∈ wsX3_smearCell := by intro w h; simp only [wsX3_smearCell, List.mem_cons, List.mem_append]; simp only [h, true_or, or_true]
set_option maxHeartbeats 4000000 in
set_option maxRecDepth 100000 in
theorem kX3_smearCell (l : Launch) (D : va_G) (cs : Nat → ClassId) (a : Nat → Nat) (sh : Nat → Option Nat) (LP : List Nat) (Z : ZT) (hZ : shOK sh LP Z) (σ : Nat → Nat → Int32) (x1 : Int32) (r : Int32) (u9 : Nat → Nat → Int32) (h : fX3_smearCell sh Z σ x1 = some (r, u9)) (sz : Nat) : Met l yX3_smearCell wsX3_smearCell rmX3_smearCell (va_Pc [.ref (a 14), .int x1] (pQ D cs (cW a cs sh LP Z σ) sz)) (va_Qi (fun x y => x = r ∧ y = u9) (qB D (cW a cs sh LP Z) (va_A (cW a cs sh LP Z σ) sz)) (va_A (cW a cs sh LP Z σ) sz)) 0 0 (va_A (cW a cs sh LP Z σ) sz) := by
  refine Met.ofW (cc := cX3_smearCell) (maxL := 3) (ret := (some .int)) (by decide) rfl ?_
  intro p e s m args below meth c s₁ B hml hv
  obtain ⟨rfl, hsz, hP, hK, hD0⟩ := hv
  have C : cxt p s m _ meth c cX3_smearCell 3 RX3 wsX3_smearCell (some .int) := ⟨B.exec, B.bytes, hml, findClass_of_methodNamed B.named, atoms_spec (ws := wsX3_smearCell) B.pre, B.returns, B.notSynchronized⟩
  obtain ⟨hx, hb, -, hown, hts, hr, hlk⟩ := id C
  subst hsz
  have hD := hD0.self (sz := s.heap.size)
  generalize hAe : va_A (cW a cs sh LP Z σ) s.heap.size = A at hD ⊢
  have hA : ∀ q : Nat, s.heap.size ≤ q → A q := fun q h => by rw [← hAe]; exact Or.inr h
  have hS : va_S A s.heap s.heap [] := va_S.rf
  refine entryW [.ref (a 14), .int x1] (n := 3) (Nat.le_of_ble_eq_true rfl) (fun ls hl => ?_)
  have hl : lv_has ls 3 [(0, .ref (a 14)), (1, .int x1)] := hl
  unfold fX3_smearCell at h
  refine lv_aload_n hx hb dX3_smearCell_0 rfl (lv_at hl 0 rfl) ?_
  refine va_get (D := D) (ci := 3) (v := .ref (a 15)) (C := RX3) (T := TX3) (N := 2) hx hb hts inX3_X3_smearCell hown hK.1 hP 14 rfl rfl 0 (by decide) (hts (.fieldLink RX3 9 "SandPalace$Photo" "colours" "[I") (by decide +kernel)) (fun _ h9 => h9) rfl dX3_smearCell_1 ?_
  refine lv_iload_n hx hb dX3_smearCell_4 rfl (lv_at hl 1 rfl) ?_
  obtain ⟨v1, i_v1, e_v1, h⟩ := aI_some h
  refine miald hx hb hK.1 hP 15 0 rfl rfl i_v1 e_v1 dX3_smearCell_5 ?_
  refine lv_istore_n (lv' := [(2, .int v1), (0, .ref (a 14)), (1, .int x1)]) hx hb dX3_smearCell_6 rfl hl (by decide) rfl (fun ls hl => ?_)
  refine lv_aload_n hx hb dX3_smearCell_7 rfl (lv_at hl 1 rfl) ?_
  refine va_get (D := D) (ci := 3) (v := .ref (a 15)) (C := RX3) (T := TX3) (N := 2) hx hb hts inX3_X3_smearCell hown hK.1 hP 14 rfl rfl 0 (by decide) (hts (.fieldLink RX3 9 "SandPalace$Photo" "colours" "[I") (by decide +kernel)) (fun _ h9 => h9) rfl dX3_smearCell_8 ?_
  refine lv_iload_n hx hb dX3_smearCell_11 rfl (lv_at hl 2 rfl) ?_
  refine lv_bipush (v := ((-5) : Int32)) hx hb dX3_smearCell_12 (by decide) ?_
  obtain ⟨i2, h⟩ := aS_some h
  refine va_iast hx hb hK.1 hP hD hS 15 0 rfl rfl i2 dX3_smearCell_14 (fun H locs hP hD hS => ?_)
  obtain ⟨σ3, e_σ3, h⟩ := nm_some h
  have hP : va_P D vwCl (cW a cs sh LP Z σ3) H := by rw [← e_σ3]; exact hP
  have hD : va_D A (cW a cs sh LP Z σ3) := by rw [← e_σ3]; exact hD
  refine lv_iload_n hx hb dX3_smearCell_15 rfl (lv_at hl 0 rfl) ?_
  exact mretQ hx hb hr hlk h hP hD hS dX3_smearCell_16
def fX3_isSmeared (F : Nat) (sh : Nat → Option Nat) (Z : ZT) (σ : Nat → Nat → Int32) (x1 : Int32) (x2 : Int32) : Option Int32 :=
  bd (fX11_cellOf F x1 x2) fun v1 => aI (σ 15) 256 v1 fun v2 => if ¬ v2 = ((-5) : Int32) then (some (0 : Int32)) else (some (1 : Int32))
abbrev rmX3_isSmeared : Room := { frames := 1, cells := 0, slots := 0, locals := 25 }
theorem inX3_X3_isSmeared : ∀ w ∈ wsX30, w ∈ wsX3_isSmeared := by intro w h; simp only [wsX3_isSmeared, List.mem_cons, List.mem_append]; simp only [h, true_or, or_true]
set_option maxHeartbeats 4000000 in
set_option maxRecDepth 100000 in
theorem kX3_isSmeared (l : Launch) (D : va_G) (cs : Nat → ClassId) (a : Nat → Nat) (sh : Nat → Option Nat) (LP : List Nat) (Z : ZT) (hZ : shOK sh LP Z) (σ : Nat → Nat → Int32) (F : Nat) (x1 : Int32) (x2 : Int32) (r : Int32) (h : fX3_isSmeared F sh Z σ x1 x2 = some r) : Met l yX3_isSmeared wsX3_isSmeared rmX3_isSmeared (va_Pc [.ref (a 14), .int x1, .int x2] (pR D cs (cW a cs sh LP Z σ))) (vp_Si (fun x => x = r ∧ (r = 0 ∨ r = 1))) 0 0 (fun _ => False) := by
  refine Met.ofW (cc := cX3_isSmeared) (maxL := 3) (ret := (some .boolean)) (by decide) rfl ?_
  intro p e s m args below meth c s₁ B hml hv
  obtain ⟨rfl, hP, hK⟩ := hv
  have C : cxt p s m _ meth c cX3_isSmeared 3 RX3 wsX3_isSmeared (some .boolean) := ⟨B.exec, B.bytes, hml, findClass_of_methodNamed B.named, atoms_spec (ws := wsX3_isSmeared) B.pre, B.returns, B.notSynchronized⟩
  obtain ⟨hx, hb, -, hown, hts, hr, hlk⟩ := id C
  refine entryW [.ref (a 14), .int x1, .int x2] (n := 3) (Nat.le_of_ble_eq_true rfl) (fun ls hl => ?_)
  have hl : lv_has ls 3 [(0, .ref (a 14)), (1, .int x1), (2, .int x2)] := hl
  unfold fX3_isSmeared at h
  refine lv_aload_n hx hb dX3_isSmeared_0 rfl (lv_at hl 0 rfl) ?_
  refine va_get (D := D) (ci := 3) (v := .ref (a 15)) (C := RX3) (T := TX3) (N := 2) hx hb hts inX3_X3_isSmeared hown hK.1 hP 14 rfl rfl 0 (by decide) (hts (.fieldLink RX3 9 "SandPalace$Photo" "colours" "[I") (by decide +kernel)) (fun _ h9 => h9) rfl dX3_isSmeared_1 ?_
  refine lv_iload_n hx hb dX3_isSmeared_4 rfl (lv_at hl 1 rfl) ?_
  refine lv_iload_n hx hb dX3_isSmeared_5 rfl (lv_at hl 2 rfl) ?_
  obtain ⟨v1, hc_v1, h⟩ := bd_some h
  refine mcallS (va_runSN (As := [.int x1, .int x2]) (rest := [.ref (a 15)]) ⟨hx, hb, hml, hown, hts⟩ (kX11_cellOf l F x1 x2 v1 hc_v1) ⟨va_cnB (own := RX3) (host := "SandPalace") (index := 18) 2 hts gX3_isSmeared_X11_cellOf_n18 rfl rfl rfl (hK.2.1 ("SandPalace$Photo", 18, yX11_cellOf, "SandPalace") (by decide +kernel)) (hts (.initialized RX11) (by decide +kernel)) (by decide +kernel) ⟨Nat.le_of_ble_eq_true rfl, Nat.le_of_ble_eq_true rfl⟩, hts (.static yX11_cellOf) (by decide +kernel), trivial⟩ p0_s rfl rfl hl.1 rfl (lv_room (Nat.le_of_ble_eq_true rfl)) dX3_isSmeared_6 ⟨Nat.zero_le _, Nat.zero_le _⟩) ?_
  obtain ⟨v2, i_v2, e_v2, h⟩ := aI_some h
  refine miald hx hb hK.1 hP 15 0 rfl rfl i_v2 e_v2 dX3_isSmeared_9 ?_
  refine lv_bipush (v := ((-5) : Int32)) hx hb dX3_isSmeared_10 (by decide) ?_
  refine lv_icmp_ne (tgt := 19) hx hb dX3_isSmeared_12 (by decide) (fun c3 => ?_) (fun c3 => ?_)
  · have h := it_t c3 h
    refine lv_iconst (v := (0 : Int32)) hx hb dX3_isSmeared_19 (by decide) ?_
    exact mretSZ hx hb hr hlk h (Or.inl rfl) dX3_isSmeared_20
  · have h := it_n c3 h
    refine lv_iconst (v := (1 : Int32)) hx hb dX3_isSmeared_15 (by decide) ?_
    refine lv_goto (tgt := 20) hx hb dX3_isSmeared_16 (by decide) ?_
    exact mretSZ hx hb hr hlk h (Or.inr rfl) dX3_isSmeared_20
def fX3_toldBack_J75 (F : Nat) (sh : Nat → Option Nat) (Z : ZT) (kb : Int32 → Int32 → Option Int32) (x1 : Int32) (x2 : Int32) (x3 : Int32) (x4 : Int32) (x5 : Int32) (σ : Nat → Nat → Int32) : Option Int32 :=
  kb x4 (x5 + (1 : Int32))
def fX3_toldBack_J71 (F : Nat) (sh : Nat → Option Nat) (Z : ZT) (kb : Int32 → Int32 → Option Int32) (x1 : Int32) (x2 : Int32) (x3 : Int32) (x5 : Int32) (x6 : Int32) (σ : Nat → Nat → Int32) : Option Int32 :=
  fX3_toldBack_J75 F sh Z kb x1 x2 x3 x6 x5 σ
def fX3_toldBack_L7 (F : Nat) (sh : Nat → Option Nat) (Z : ZT) (σ : Nat → Nat → Int32) (x1 : Int32) (x2 : Int32) (x3 : Int32) (kx : Int32 → Option Int32) : Nat → Int32 → Int32 → Option Int32
  | 0, _, _ => none
  | n+1, x4, x5 =>
    nb ((fun x4 x5 => fX3_toldBack_L7 F sh Z σ x1 x2 x3 kx n x4 x5)) fun kb =>
    if (4 : Int32) ≤ x5 then (kx x4) else (if x5 = x2 then (fX3_toldBack_J75 F sh Z kb x1 x2 x3 x4 x5 σ) else (bd (fX3_isSmeared F sh Z σ x1 x5) fun v3 => if v3 = 0 then (bd (fX11_cellOf F x1 x5) fun v5 => aI (σ 15) 256 v5 fun v6 => bd (fX11_shifted v6 (x3 * (x2 - x5))) fun v7 => if x4 = ((-5) : Int32) then (fX3_toldBack_J71 F sh Z kb x1 x2 x3 x5 v7 σ) else (if x4 = v7 then (fX3_toldBack_J71 F sh Z kb x1 x2 x3 x5 v7 σ) else (some ((-6) : Int32)))) else (fX3_toldBack_J75 F sh Z kb x1 x2 x3 x4 x5 σ)))
def fX3_toldBack (F : Nat) (sh : Nat → Option Nat) (Z : ZT) (σ : Nat → Nat → Int32) (x1 : Int32) (x2 : Int32) (x3 : Int32) : Option Int32 :=
  fX3_toldBack_L7 F sh Z σ x1 x2 x3 (fun y1 => some y1) F ((-5) : Int32) (0 : Int32)
abbrev rmX3_toldBack : Room := { frames := 2, cells := 0, slots := 0, locals := 47 }
theorem inX3_X3_toldBack : ∀ w ∈ wsX30, w ∈ wsX3_toldBack := by intro w h; simp only [wsX3_toldBack, List.mem_cons, List.mem_append]; simp only [h, true_or, or_true]
set_option maxHeartbeats 4000000 in
set_option maxRecDepth 100000 in
theorem wX3_toldBack_J75 {p : Program} {l : Launch} {e : Env} {s : State} {m : MethodId} {args : Array Value} {below : List Frame} {meth : Method} {c : Code} (C : cxt p s m args meth c cX3_toldBack 7 RX3 wsX3_toldBack (some .int)) {D : va_G} {cs : Nat → ClassId} {a : Nat → Nat} {sh : Nat → Option Nat} {LP : List Nat} {Z : ZT} (hZ : shOK sh LP Z) (hK : KK D cs s) {σ : Nat → Nat → Int32} (hP : va_P D vwCl (cW a cs sh LP Z σ) s.heap) (r : Int32) (F : Nat) (kb : Int32 → Int32 → Option Int32) (x1 : Int32) (x2 : Int32) (x3 : Int32) (x4 : Int32) (x5 : Int32) (hkb : ∀ (x4 : Int32) (x5 : Int32) (ls : Array Slot), lv_has ls 7 [(0, .ref (a 14)), (1, .int x1), (2, .int x2), (3, .int x3), (4, .int x4), (5, .int x5)] → kb x4 x5 = some r → W p l e rmX3_toldBack s m args below meth c s.heap [] 0 0 (MQ below (vp_Si (fun x => x = r)) args s 0 0 (fun _ => False)) (F0 m 7 ls [])) (ls : Array Slot) (hl : lv_has ls 7 [(0, .ref (a 14)), (1, .int x1), (2, .int x2), (3, .int x3), (4, .int x4), (5, .int x5)]) (h : fX3_toldBack_J75 F sh Z kb x1 x2 x3 x4 x5 σ = some r) : W p l e rmX3_toldBack s m args below meth c s.heap [] 0 0 (MQ below (vp_Si (fun x => x = r)) args s 0 0 (fun _ => False)) (F0 m 75 ls []) := by
  obtain ⟨hx, hb, hml, hown, hts, hr, hlk⟩ := id C
  unfold fX3_toldBack_J75 at h
  refine lv_iinc (v := x5 + (1 : Int32)) (lv' := [(5, .int (x5 + (1 : Int32))), (0, .ref (a 14)), (1, .int x1), (2, .int x2), (3, .int x3), (4, .int x4)]) hx hb dX3_toldBack_75 hl (k := 5) rfl rfl (by decide) rfl (fun ls hl => ?_)
  refine lv_goto (tgt := 7) hx hb dX3_toldBack_78 (by decide) ?_
  exact hkb x4 (x5 + (1 : Int32)) ls (lv_sub hl [1, 2, 3, 4, 5, 0] rfl) h
set_option maxHeartbeats 4000000 in
set_option maxRecDepth 100000 in
theorem wX3_toldBack_J71 {p : Program} {l : Launch} {e : Env} {s : State} {m : MethodId} {args : Array Value} {below : List Frame} {meth : Method} {c : Code} (C : cxt p s m args meth c cX3_toldBack 7 RX3 wsX3_toldBack (some .int)) {D : va_G} {cs : Nat → ClassId} {a : Nat → Nat} {sh : Nat → Option Nat} {LP : List Nat} {Z : ZT} (hZ : shOK sh LP Z) (hK : KK D cs s) {σ : Nat → Nat → Int32} (hP : va_P D vwCl (cW a cs sh LP Z σ) s.heap) (r : Int32) (F : Nat) (kb : Int32 → Int32 → Option Int32) (x1 : Int32) (x2 : Int32) (x3 : Int32) (x5 : Int32) (x6 : Int32) (hkb : ∀ (x4 : Int32) (x5 : Int32) (ls : Array Slot), lv_has ls 7 [(0, .ref (a 14)), (1, .int x1), (2, .int x2), (3, .int x3), (4, .int x4), (5, .int x5)] → kb x4 x5 = some r → W p l e rmX3_toldBack s m args below meth c s.heap [] 0 0 (MQ below (vp_Si (fun x => x = r)) args s 0 0 (fun _ => False)) (F0 m 7 ls [])) (ls : Array Slot) (hl : lv_has ls 7 [(0, .ref (a 14)), (1, .int x1), (2, .int x2), (3, .int x3), (5, .int x5), (6, .int x6)]) (h : fX3_toldBack_J71 F sh Z kb x1 x2 x3 x5 x6 σ = some r) : W p l e rmX3_toldBack s m args below meth c s.heap [] 0 0 (MQ below (vp_Si (fun x => x = r)) args s 0 0 (fun _ => False)) (F0 m 71 ls []) := by
  obtain ⟨hx, hb, hml, hown, hts, hr, hlk⟩ := id C
  unfold fX3_toldBack_J71 at h
  refine lv_iload hx hb dX3_toldBack_71 (lv_at hl 5 rfl) ?_
  refine lv_istore (lv' := [(4, .int x6), (0, .ref (a 14)), (1, .int x1), (2, .int x2), (3, .int x3), (5, .int x5), (6, .int x6)]) hx hb dX3_toldBack_73 hl (by decide) rfl (fun ls hl => ?_)
  exact wX3_toldBack_J75 C hZ hK hP r F kb x1 x2 x3 x6 x5 hkb ls (lv_sub hl [1, 2, 3, 4, 0, 5] rfl) h
set_option maxHeartbeats 4000000 in
set_option maxRecDepth 100000 in
theorem wX3_toldBack_L7 {p : Program} {l : Launch} {e : Env} {s : State} {m : MethodId} {args : Array Value} {below : List Frame} {meth : Method} {c : Code} (C : cxt p s m args meth c cX3_toldBack 7 RX3 wsX3_toldBack (some .int)) {D : va_G} {cs : Nat → ClassId} {a : Nat → Nat} {sh : Nat → Option Nat} {LP : List Nat} {Z : ZT} (hZ : shOK sh LP Z) (hK : KK D cs s) {σ : Nat → Nat → Int32} (hP : va_P D vwCl (cW a cs sh LP Z σ) s.heap) (r : Int32) (F : Nat) (x1 : Int32) (x2 : Int32) (x3 : Int32) (kx : Int32 → Option Int32) (hkx : ∀ (x4 : Int32) (ls : Array Slot), lv_has ls 7 [(4, .int x4)] → kx x4 = some r → W p l e rmX3_toldBack s m args below meth c s.heap [] 0 0 (MQ below (vp_Si (fun x => x = r)) args s 0 0 (fun _ => False)) (F0 m 81 ls [])) : ∀ (n : Nat) (x4 : Int32) (x5 : Int32) (ls : Array Slot), lv_has ls 7 [(0, .ref (a 14)), (1, .int x1), (2, .int x2), (3, .int x3), (4, .int x4), (5, .int x5)] → fX3_toldBack_L7 F sh Z σ x1 x2 x3 kx n x4 x5 = some r → W p l e rmX3_toldBack s m args below meth c s.heap [] 0 0 (MQ below (vp_Si (fun x => x = r)) args s 0 0 (fun _ => False)) (F0 m 7 ls []) := by
  obtain ⟨hx, hb, hml, hown, hts, hr, hlk⟩ := id C
  intro n
  induction n with
  | zero =>
    intros
    rename_i h
    cases h
  | succ n ih =>
    intro x4 x5 ls hl h
    rw [fX3_toldBack_L7] at h
    obtain ⟨kb, hkb, h⟩ := nb_some (P := fun (kb : Int32 → Int32 → Option Int32) => ∀ (x4 : Int32) (x5 : Int32) (ls : Array Slot), lv_has ls 7 [(0, .ref (a 14)), (1, .int x1), (2, .int x2), (3, .int x3), (4, .int x4), (5, .int x5)] → kb x4 x5 = some r → W p l e rmX3_toldBack s m args below meth c s.heap [] 0 0 (MQ below (vp_Si (fun x => x = r)) args s 0 0 (fun _ => False)) (F0 m 7 ls [])) h ih
    refine lv_iload hx hb dX3_toldBack_7 (lv_at hl 5 rfl) ?_
    refine lv_iconst (v := (4 : Int32)) hx hb dX3_toldBack_9 (by decide) ?_
    refine lv_icmp_ge (tgt := 81) hx hb dX3_toldBack_10 (by decide) (fun c1 => ?_) (fun c1 => ?_)
    · have h := it_t c1 h
      exact hkx x4 ls (lv_sub hl [4] rfl) h
    · have h := it_f c1 h
      refine lv_iload hx hb dX3_toldBack_13 (lv_at hl 5 rfl) ?_
      refine lv_iload_n hx hb dX3_toldBack_15 rfl (lv_at hl 2 rfl) ?_
      refine lv_icmp_eq (tgt := 75) hx hb dX3_toldBack_16 (by decide) (fun c2 => ?_) (fun c2 => ?_)
      · have h := it_t c2 h
        exact wX3_toldBack_J75 C hZ hK hP r F kb x1 x2 x3 x4 x5 hkb ls (lv_sub hl [0, 1, 2, 3, 4, 5] rfl) h
      · have h := it_f c2 h
        refine lv_aload_n hx hb dX3_toldBack_19 rfl (lv_at hl 0 rfl) ?_
        refine lv_iload_n hx hb dX3_toldBack_20 rfl (lv_at hl 1 rfl) ?_
        refine lv_iload hx hb dX3_toldBack_21 (lv_at hl 5 rfl) ?_
        obtain ⟨v3, hc_v3, h⟩ := bd_some h
        refine mcallSZ (va_runV (As := [.int x1, .int x5]) (rest := []) ⟨hx, hb, hml, hown, hts⟩ (kX3_isSmeared l D cs a sh LP Z hZ σ F x1 x5 v3 hc_v3) (cwV 2 hts gX3_toldBack_X3_isSmeared rfl rfl rfl (by decide +kernel) ⟨Nat.le_of_ble_eq_true rfl, Nat.le_of_ble_eq_true rfl⟩) (pR_v hP hK (va_recv hK.1 hP (ci := 3) (q0 := 14) rfl rfl)) rfl rfl hl.1 rfl (lv_room (Nat.le_of_ble_eq_true rfl)) dX3_toldBack_23 ⟨Nat.zero_le _, Nat.zero_le _⟩) (fun z_v3 => ?_)
        refine lv_if_eq (tgt := 32) hx hb dX3_toldBack_26 (by decide) (fun c4 => ?_) (fun c4 => ?_)
        · have h := it_t c4 h
          refine lv_aload_n hx hb dX3_toldBack_32 rfl (lv_at hl 0 rfl) ?_
          refine va_get (D := D) (ci := 3) (v := .ref (a 15)) (C := RX3) (T := TX3) (N := 2) hx hb hts inX3_X3_toldBack hown hK.1 hP 14 rfl rfl 0 (by decide) (hts (.fieldLink RX3 9 "SandPalace$Photo" "colours" "[I") (by decide +kernel)) (fun _ h9 => h9) rfl dX3_toldBack_33 ?_
          refine lv_iload_n hx hb dX3_toldBack_36 rfl (lv_at hl 1 rfl) ?_
          refine lv_iload hx hb dX3_toldBack_37 (lv_at hl 5 rfl) ?_
          obtain ⟨v5, hc_v5, h⟩ := bd_some h
          refine mcallS (va_runSN (As := [.int x1, .int x5]) (rest := [.ref (a 15)]) ⟨hx, hb, hml, hown, hts⟩ (kX11_cellOf l F x1 x5 v5 hc_v5) ⟨va_cnB (own := RX3) (host := "SandPalace") (index := 18) 2 hts gX3_toldBack_X11_cellOf_n18 rfl rfl rfl (hK.2.1 ("SandPalace$Photo", 18, yX11_cellOf, "SandPalace") (by decide +kernel)) (hts (.initialized RX11) (by decide +kernel)) (by decide +kernel) ⟨Nat.le_of_ble_eq_true rfl, Nat.le_of_ble_eq_true rfl⟩, hts (.static yX11_cellOf) (by decide +kernel), trivial⟩ p0_s rfl rfl hl.1 rfl (lv_room (Nat.le_of_ble_eq_true rfl)) dX3_toldBack_39 ⟨Nat.zero_le _, Nat.zero_le _⟩) ?_
          obtain ⟨v6, i_v6, e_v6, h⟩ := aI_some h
          refine miald hx hb hK.1 hP 15 0 rfl rfl i_v6 e_v6 dX3_toldBack_42 ?_
          refine lv_iload_n hx hb dX3_toldBack_43 rfl (lv_at hl 3 rfl) ?_
          refine lv_iload_n hx hb dX3_toldBack_44 rfl (lv_at hl 2 rfl) ?_
          refine lv_iload hx hb dX3_toldBack_45 (lv_at hl 5 rfl) ?_
          refine lv_isub hx hb dX3_toldBack_47 ?_
          refine lv_imul hx hb dX3_toldBack_48 ?_
          obtain ⟨v7, hc_v7, h⟩ := bd_some h
          refine mcallS (va_runSN (As := [.int v6, .int (x3 * (x2 - x5))]) (rest := []) ⟨hx, hb, hml, hown, hts⟩ (kX11_shifted l v6 (x3 * (x2 - x5)) v7 hc_v7) ⟨va_cnB (own := RX3) (host := "SandPalace") (index := 31) 2 hts gX3_toldBack_X11_shifted_n31 rfl rfl rfl (hK.2.1 ("SandPalace$Photo", 31, yX11_shifted, "SandPalace") (by decide +kernel)) (hts (.initialized RX11) (by decide +kernel)) (by decide +kernel) ⟨Nat.le_of_ble_eq_true rfl, Nat.le_of_ble_eq_true rfl⟩, hts (.static yX11_shifted) (by decide +kernel), trivial⟩ p0_s rfl rfl hl.1 rfl (lv_room (Nat.le_of_ble_eq_true rfl)) dX3_toldBack_49 ⟨Nat.zero_le _, Nat.zero_le _⟩) ?_
          refine lv_istore (lv' := [(6, .int v7), (0, .ref (a 14)), (1, .int x1), (2, .int x2), (3, .int x3), (4, .int x4), (5, .int x5)]) hx hb dX3_toldBack_52 hl (by decide) rfl (fun ls hl => ?_)
          refine lv_iload hx hb dX3_toldBack_54 (lv_at hl 5 rfl) ?_
          refine lv_bipush (v := ((-5) : Int32)) hx hb dX3_toldBack_56 (by decide) ?_
          refine lv_icmp_eq (tgt := 71) hx hb dX3_toldBack_58 (by decide) (fun c8 => ?_) (fun c8 => ?_)
          · have h := it_t c8 h
            exact wX3_toldBack_J71 C hZ hK hP r F kb x1 x2 x3 x5 v7 hkb ls (lv_sub hl [1, 2, 3, 4, 6, 0] rfl) h
          · have h := it_f c8 h
            refine lv_iload hx hb dX3_toldBack_61 (lv_at hl 5 rfl) ?_
            refine lv_iload hx hb dX3_toldBack_63 (lv_at hl 0 rfl) ?_
            refine lv_icmp_eq (tgt := 71) hx hb dX3_toldBack_65 (by decide) (fun c9 => ?_) (fun c9 => ?_)
            · have h := it_t c9 h
              exact wX3_toldBack_J71 C hZ hK hP r F kb x1 x2 x3 x5 v7 hkb ls (lv_sub hl [1, 2, 3, 4, 6, 0] rfl) h
            · have h := it_f c9 h
              refine lv_bipush (v := ((-6) : Int32)) hx hb dX3_toldBack_68 (by decide) ?_
              exact mretS hx hb hr hlk h dX3_toldBack_70
        · have h := it_f c4 h
          refine lv_goto (tgt := 75) hx hb dX3_toldBack_29 (by decide) ?_
          exact wX3_toldBack_J75 C hZ hK hP r F kb x1 x2 x3 x4 x5 hkb ls (lv_sub hl [0, 1, 2, 3, 4, 5] rfl) h
set_option maxHeartbeats 4000000 in
set_option maxRecDepth 100000 in
theorem kX3_toldBack (l : Launch) (D : va_G) (cs : Nat → ClassId) (a : Nat → Nat) (sh : Nat → Option Nat) (LP : List Nat) (Z : ZT) (hZ : shOK sh LP Z) (σ : Nat → Nat → Int32) (F : Nat) (x1 : Int32) (x2 : Int32) (x3 : Int32) (r : Int32) (h : fX3_toldBack F sh Z σ x1 x2 x3 = some r) : Met l yX3_toldBack wsX3_toldBack rmX3_toldBack (va_Pc [.ref (a 14), .int x1, .int x2, .int x3] (pR D cs (cW a cs sh LP Z σ))) (vp_Si (fun x => x = r)) 0 0 (fun _ => False) := by
  refine Met.ofW (cc := cX3_toldBack) (maxL := 7) (ret := (some .int)) (by decide) rfl ?_
  intro p e s m args below meth c s₁ B hml hv
  obtain ⟨rfl, hP, hK⟩ := hv
  have C : cxt p s m _ meth c cX3_toldBack 7 RX3 wsX3_toldBack (some .int) := ⟨B.exec, B.bytes, hml, findClass_of_methodNamed B.named, atoms_spec (ws := wsX3_toldBack) B.pre, B.returns, B.notSynchronized⟩
  obtain ⟨hx, hb, -, hown, hts, hr, hlk⟩ := id C
  refine entryW [.ref (a 14), .int x1, .int x2, .int x3] (n := 7) (Nat.le_of_ble_eq_true rfl) (fun ls hl => ?_)
  have hl : lv_has ls 7 [(0, .ref (a 14)), (1, .int x1), (2, .int x2), (3, .int x3)] := hl
  unfold fX3_toldBack at h
  refine lv_bipush (v := ((-5) : Int32)) hx hb dX3_toldBack_0 (by decide) ?_
  refine lv_istore (lv' := [(4, .int ((-5) : Int32)), (0, .ref (a 14)), (1, .int x1), (2, .int x2), (3, .int x3)]) hx hb dX3_toldBack_2 hl (by decide) rfl (fun ls hl => ?_)
  refine lv_iconst (v := (0 : Int32)) hx hb dX3_toldBack_4 (by decide) ?_
  refine lv_istore (lv' := [(5, .int (0 : Int32)), (4, .int ((-5) : Int32)), (0, .ref (a 14)), (1, .int x1), (2, .int x2), (3, .int x3)]) hx hb dX3_toldBack_5 hl (by decide) rfl (fun ls hl => ?_)
  refine wX3_toldBack_L7 C hZ hK hP r F x1 x2 x3 _ ?_ F ((-5) : Int32) (0 : Int32) ls (lv_sub hl [2, 3, 4, 5, 1, 0] rfl) h
  intro y1 ls hl h
  refine lv_iload hx hb dX3_toldBack_81 (lv_at hl 0 rfl) ?_
  exact mretS hx hb hr hlk h dX3_toldBack_83
def fX4_stepOfPlace_J46 (F : Nat) (sh : Nat → Option Nat) (Z : ZT) (kb : Int32 → Option Int32) (x1 : Int32) (x2 : Int32) (σ : Nat → Nat → Int32) : Option Int32 :=
  kb (x2 + ((-1) : Int32))
def fX4_stepOfPlace_L7 (F : Nat) (sh : Nat → Option Nat) (Z : ZT) (σ : Nat → Nat → Int32) (x1 : Int32) (kx : Option Int32) : Nat → Int32 → Option Int32
  | 0, _ => none
  | n+1, x2 =>
    nb ((fun x2 => fX4_stepOfPlace_L7 F sh Z σ x1 kx n x2)) fun kb =>
    if x2 < 0 then kx else (aO sh 10 x2 fun q2 => if (Z q2).1 = 7 then (bd (fX6_isAt sh Z q2 σ x1) fun v5 => if v5 = 0 then (fX4_stepOfPlace_J46 F sh Z kb x1 x2 σ) else (some ((Z q2).2.2.2))) else (fX4_stepOfPlace_J46 F sh Z kb x1 x2 σ))
def fX4_stepOfPlace (F : Nat) (sh : Nat → Option Nat) (Z : ZT) (σ : Nat → Nat → Int32) (x1 : Int32) : Option Int32 :=
  fX4_stepOfPlace_L7 F sh Z σ x1 (some (0 : Int32)) F ((σ 33 0) - (1 : Int32))
abbrev rmX4_stepOfPlace : Room := { frames := 1, cells := 0, slots := 0, locals := 21 }
theorem inX4_X4_stepOfPlace : ∀ w ∈ wsX40, w ∈ wsX4_stepOfPlace := by intro w h; simp only [wsX4_stepOfPlace, List.mem_cons, List.mem_append]; simp only [h, true_or, or_true]
theorem inX8_X4_stepOfPlace : ∀ w ∈ wsX80, w ∈ wsX4_stepOfPlace := by intro w h; simp only [wsX4_stepOfPlace, List.mem_cons, List.mem_append]; simp only [h, true_or, or_true]
set_option maxHeartbeats 4000000 in
set_option maxRecDepth 100000 in
theorem wX4_stepOfPlace_J46 {p : Program} {l : Launch} {e : Env} {s : State} {m : MethodId} {args : Array Value} {below : List Frame} {meth : Method} {c : Code} (C : cxt p s m args meth c cX4_stepOfPlace 5 RX4 wsX4_stepOfPlace (some .int)) {D : va_G} {cs : Nat → ClassId} {a : Nat → Nat} {sh : Nat → Option Nat} {LP : List Nat} {Z : ZT} (hZ : shOK sh LP Z) (hK : KK D cs s) {σ : Nat → Nat → Int32} (hP : va_P D vwCl (cW a cs sh LP Z σ) s.heap) (r : Int32) (F : Nat) (kb : Int32 → Option Int32) (x1 : Int32) (x2 : Int32) (hkb : ∀ (x2 : Int32) (ls : Array Slot), lv_has ls 5 [(0, .ref (a 1)), (1, .int x1), (2, .int x2)] → kb x2 = some r → W p l e rmX4_stepOfPlace s m args below meth c s.heap [] 0 0 (MQ below (vp_Si (fun x => x = r)) args s 0 0 (fun _ => False)) (F0 m 7 ls [])) (ls : Array Slot) (hl : lv_has ls 5 [(0, .ref (a 1)), (1, .int x1), (2, .int x2)]) (h : fX4_stepOfPlace_J46 F sh Z kb x1 x2 σ = some r) : W p l e rmX4_stepOfPlace s m args below meth c s.heap [] 0 0 (MQ below (vp_Si (fun x => x = r)) args s 0 0 (fun _ => False)) (F0 m 46 ls []) := by
  obtain ⟨hx, hb, hml, hown, hts, hr, hlk⟩ := id C
  unfold fX4_stepOfPlace_J46 at h
  refine lv_iinc (v := x2 + ((-1) : Int32)) (lv' := [(2, .int (x2 + ((-1) : Int32))), (0, .ref (a 1)), (1, .int x1)]) hx hb dX4_stepOfPlace_46 hl (k := 2) rfl rfl (by decide) rfl (fun ls hl => ?_)
  refine lv_goto (tgt := 7) hx hb dX4_stepOfPlace_49 (by decide) ?_
  exact hkb (x2 + ((-1) : Int32)) ls (lv_sub hl [1, 2, 0] rfl) h
set_option maxHeartbeats 4000000 in
set_option maxRecDepth 100000 in
theorem wX4_stepOfPlace_L7 {p : Program} {l : Launch} {e : Env} {s : State} {m : MethodId} {args : Array Value} {below : List Frame} {meth : Method} {c : Code} (C : cxt p s m args meth c cX4_stepOfPlace 5 RX4 wsX4_stepOfPlace (some .int)) {D : va_G} {cs : Nat → ClassId} {a : Nat → Nat} {sh : Nat → Option Nat} {LP : List Nat} {Z : ZT} (hZ : shOK sh LP Z) (hK : KK D cs s) {σ : Nat → Nat → Int32} (hP : va_P D vwCl (cW a cs sh LP Z σ) s.heap) (r : Int32) (F : Nat) (x1 : Int32) (kx : Option Int32) (hkx : ∀ (ls : Array Slot), lv_has ls 5 [] → kx = some r → W p l e rmX4_stepOfPlace s m args below meth c s.heap [] 0 0 (MQ below (vp_Si (fun x => x = r)) args s 0 0 (fun _ => False)) (F0 m 52 ls [])) : ∀ (n : Nat) (x2 : Int32) (ls : Array Slot), lv_has ls 5 [(0, .ref (a 1)), (1, .int x1), (2, .int x2)] → fX4_stepOfPlace_L7 F sh Z σ x1 kx n x2 = some r → W p l e rmX4_stepOfPlace s m args below meth c s.heap [] 0 0 (MQ below (vp_Si (fun x => x = r)) args s 0 0 (fun _ => False)) (F0 m 7 ls []) := by
  obtain ⟨hx, hb, hml, hown, hts, hr, hlk⟩ := id C
  intro n
  induction n with
  | zero =>
    intros
    rename_i h
    cases h
  | succ n ih =>
    intro x2 ls hl h
    rw [fX4_stepOfPlace_L7] at h
    obtain ⟨kb, hkb, h⟩ := nb_some (P := fun (kb : Int32 → Option Int32) => ∀ (x2 : Int32) (ls : Array Slot), lv_has ls 5 [(0, .ref (a 1)), (1, .int x1), (2, .int x2)] → kb x2 = some r → W p l e rmX4_stepOfPlace s m args below meth c s.heap [] 0 0 (MQ below (vp_Si (fun x => x = r)) args s 0 0 (fun _ => False)) (F0 m 7 ls [])) h ih
    refine lv_iload_n hx hb dX4_stepOfPlace_7 rfl (lv_at hl 2 rfl) ?_
    refine lv_if_lt (tgt := 52) hx hb dX4_stepOfPlace_8 (by decide) (fun c1 => ?_) (fun c1 => ?_)
    · have h := it_t c1 h
      exact hkx  ls (lv_sub hl [] rfl) h
    · have h := it_f c1 h
      refine lv_aload_n hx hb dX4_stepOfPlace_11 rfl (lv_at hl 0 rfl) ?_
      refine va_get (D := D) (ci := 4) (v := .ref (a 2)) (C := RX4) (T := TX4) (N := 3) hx hb hts inX4_X4_stepOfPlace hown hK.1 hP 1 rfl rfl 0 (by decide) (hts (.fieldLink RX4 11 "SandPalace$Picture" "shapes" "[LSandPalace$Shape;") (by decide +kernel)) (fun _ h9 => h9) rfl dX4_stepOfPlace_12 ?_
      refine lv_iload_n hx hb dX4_stepOfPlace_15 rfl (lv_at hl 2 rfl) ?_
      obtain ⟨q2, i_q2, e_q2, h⟩ := aO_some h
      have f_q2 := hZ _ _ e_q2
      refine msald hx hb hK.1 hP 2 2 rfl rfl i_q2 e_q2 dX4_stepOfPlace_16 ?_
      refine lv_astore (lv' := [(4, .ref q2), (0, .ref (a 1)), (1, .int x1), (2, .int x2)]) hx hb dX4_stepOfPlace_17 hl (by decide) rfl (fun ls hl => ?_)
      refine lv_aload hx hb dX4_stepOfPlace_19 (lv_at hl 0 rfl) ?_
      by_cases c3 : (Z q2).1 = 7
      · have h := it_t c3 h
        refine shInstSign1 hx hb hown (hts (.classLink RX4 41 "SandPalace$Sign") (by decide +kernel)) hK hP f_q2.1 c3 dX4_stepOfPlace_21 ?_
        refine lv_if_eq (tgt := 46) hx hb dX4_stepOfPlace_24 (by decide) (fun c4 => ?_) (fun c4 => ?_)
        · exact absurd c4 (by decide)
        · refine lv_aload hx hb dX4_stepOfPlace_27 (lv_at hl 0 rfl) ?_
          refine shCastSign hx hb hown (hts (.classLink RX4 41 "SandPalace$Sign") (by decide +kernel)) hK hP f_q2.1 c3 dX4_stepOfPlace_29 ?_
          refine lv_astore_n (lv' := [(3, .ref q2), (4, .ref q2), (0, .ref (a 1)), (1, .int x1), (2, .int x2)]) hx hb dX4_stepOfPlace_32 rfl hl (by decide) rfl (fun ls hl => ?_)
          refine lv_aload_n hx hb dX4_stepOfPlace_33 rfl (lv_at hl 0 rfl) ?_
          refine lv_iload_n hx hb dX4_stepOfPlace_34 rfl (lv_at hl 3 rfl) ?_
          obtain ⟨v5, hc_v5, h⟩ := bd_some h
          refine mcallSZ (r := v5) (rest := []) (a0 := (Value.ref q2 :: [.int x1]).toArray) ?_ (fun z_v5 => ?_)
          · exact va_runU (As := [.int x1]) (rest := []) ⟨hx, hb, hml, hown, hts⟩ (kX6_isAt l D cs a sh LP Z hZ q2 f_q2.1 f_q2.2 σ x1 v5 hc_v5) (va_cwU 1 hts gX4_stepOfPlace_X6_isAt_u43X8 rfl rfl rfl rfl (by decide +kernel) ⟨Nat.le_of_ble_eq_true rfl, Nat.le_of_ble_eq_true rfl⟩) (pR_v hP hK (shr7 hK.1 hP f_q2.1 c3)) rfl rfl hl.1 rfl (lv_room (Nat.le_of_ble_eq_true rfl)) dX4_stepOfPlace_35 ⟨Nat.zero_le _, Nat.zero_le _⟩
          refine lv_if_eq (tgt := 46) hx hb dX4_stepOfPlace_38 (by decide) (fun c6 => ?_) (fun c6 => ?_)
          · have h := it_t c6 h
            exact wX4_stepOfPlace_J46 C hZ hK hP r F kb x1 x2 hkb ls (lv_sub hl [2, 3, 4] rfl) h
          · have h := it_f c6 h
            refine lv_aload_n hx hb dX4_stepOfPlace_41 rfl (lv_at hl 0 rfl) ?_
            refine shgetS hx hb hts inX8_X4_stepOfPlace hown hK.1 hP f_q2.1 c3 (hts (.fieldLink RX4 44 "SandPalace$Sign" "step" "I") (by decide +kernel)) (fun _ h9 => h9) dX4_stepOfPlace_42 ?_
            exact mretS hx hb hr hlk h dX4_stepOfPlace_45
      · have h := it_f c3 h
        refine shInstSign0 hx hb hown (hts (.classLink RX4 41 "SandPalace$Sign") (by decide +kernel)) hK hP f_q2.1 c3 f_q2.2 dX4_stepOfPlace_21 ?_
        refine lv_if_eq (tgt := 46) hx hb dX4_stepOfPlace_24 (by decide) (fun c7 => ?_) (fun c7 => ?_)
        · exact wX4_stepOfPlace_J46 C hZ hK hP r F kb x1 x2 hkb ls (lv_sub hl [1, 2, 3] rfl) h
        · exact absurd c7 (by decide)
set_option maxHeartbeats 4000000 in
set_option maxRecDepth 100000 in
theorem kX4_stepOfPlace (l : Launch) (D : va_G) (cs : Nat → ClassId) (a : Nat → Nat) (sh : Nat → Option Nat) (LP : List Nat) (Z : ZT) (hZ : shOK sh LP Z) (σ : Nat → Nat → Int32) (F : Nat) (x1 : Int32) (r : Int32) (h : fX4_stepOfPlace F sh Z σ x1 = some r) : Met l yX4_stepOfPlace wsX4_stepOfPlace rmX4_stepOfPlace (va_Pc [.ref (a 1), .int x1] (pR D cs (cW a cs sh LP Z σ))) (vp_Si (fun x => x = r)) 0 0 (fun _ => False) := by
  refine Met.ofW (cc := cX4_stepOfPlace) (maxL := 5) (ret := (some .int)) (by decide) rfl ?_
  intro p e s m args below meth c s₁ B hml hv
  obtain ⟨rfl, hP, hK⟩ := hv
  have C : cxt p s m _ meth c cX4_stepOfPlace 5 RX4 wsX4_stepOfPlace (some .int) := ⟨B.exec, B.bytes, hml, findClass_of_methodNamed B.named, atoms_spec (ws := wsX4_stepOfPlace) B.pre, B.returns, B.notSynchronized⟩
  obtain ⟨hx, hb, -, hown, hts, hr, hlk⟩ := id C
  refine entryW [.ref (a 1), .int x1] (n := 5) (Nat.le_of_ble_eq_true rfl) (fun ls hl => ?_)
  have hl : lv_has ls 5 [(0, .ref (a 1)), (1, .int x1)] := hl
  unfold fX4_stepOfPlace at h
  refine lv_aload_n hx hb dX4_stepOfPlace_0 rfl (lv_at hl 0 rfl) ?_
  refine va_get (D := D) (ci := 4) (v := .int (σ 33 0)) (C := RX4) (T := TX4) (N := 3) hx hb hts inX4_X4_stepOfPlace hown hK.1 hP 1 rfl rfl 2 (by decide) (hts (.fieldLink RX4 21 "SandPalace$Picture" "size" "I") (by decide +kernel)) (fun _ h9 => h9) rfl dX4_stepOfPlace_1 ?_
  refine lv_iconst (v := (1 : Int32)) hx hb dX4_stepOfPlace_4 (by decide) ?_
  refine lv_isub hx hb dX4_stepOfPlace_5 ?_
  refine lv_istore_n (lv' := [(2, .int ((σ 33 0) - (1 : Int32))), (0, .ref (a 1)), (1, .int x1)]) hx hb dX4_stepOfPlace_6 rfl hl (by decide) rfl (fun ls hl => ?_)
  refine wX4_stepOfPlace_L7 C hZ hK hP r F x1 _ ?_ F ((σ 33 0) - (1 : Int32)) ls (lv_sub hl [1, 2, 0] rfl) h
  intro  ls hl h
  refine lv_iconst (v := (0 : Int32)) hx hb dX4_stepOfPlace_52 (by decide) ?_
  exact mretS hx hb hr hlk h dX4_stepOfPlace_53
def fX3_mendPlace_J33 (F : Nat) (sh : Nat → Option Nat) (Z : ZT) (kb : Int32 → (Nat → Nat → Int32) → Option (Int32 × (Nat → Nat → Int32))) (x1 : Int32) (x2 : Int32) (x3 : Int32) (t0 : Int32) (t1 : Int32) (σ : Nat → Nat → Int32) : Option (Int32 × (Nat → Nat → Int32)) :=
  aS 4 t1 (nm (sg σ 16 (upd (σ 16) t1.toNatClampNeg t0)) fun σ5 => kb (x3 + (1 : Int32)) σ5)
def fX3_mendPlace_L2 (F : Nat) (sh : Nat → Option Nat) (Z : ZT) (x1 : Int32) (x2 : Int32) (kx : (Nat → Nat → Int32) → Option (Int32 × (Nat → Nat → Int32))) : Nat → Int32 → (Nat → Nat → Int32) → Option (Int32 × (Nat → Nat → Int32))
  | 0, _, _ => none
  | n+1, x3, σ =>
    nb ((fun x3 σ => fX3_mendPlace_L2 F sh Z x1 x2 kx n x3 σ)) fun kb =>
    if (4 : Int32) ≤ x3 then (kx σ) else (bd (fX3_isSmeared F sh Z σ x1 x3) fun v2 => if v2 = 0 then (fX3_mendPlace_J33 F sh Z kb x1 x2 x3 ((-2) : Int32) x3 σ) else (bd (fX3_toldBack F sh Z σ x1 x3 x2) fun v4 => fX3_mendPlace_J33 F sh Z kb x1 x2 x3 v4 x3 σ))
def fX3_mendPlace_J82 (F : Nat) (sh : Nat → Option Nat) (Z : ZT) (kb : Int32 → Int32 → (Nat → Nat → Int32) → Option (Int32 × (Nat → Nat → Int32))) (x1 : Int32) (x3 : Int32) (x4 : Int32) (σ : Nat → Nat → Int32) : Option (Int32 × (Nat → Nat → Int32)) :=
  kb x3 (x4 + (1 : Int32)) σ
def fX3_mendPlace_L45 (F : Nat) (sh : Nat → Option Nat) (Z : ZT) (x1 : Int32) (kx : Int32 → (Nat → Nat → Int32) → Option (Int32 × (Nat → Nat → Int32))) : Nat → Int32 → Int32 → (Nat → Nat → Int32) → Option (Int32 × (Nat → Nat → Int32))
  | 0, _, _, _ => none
  | n+1, x3, x4, σ =>
    nb ((fun x3 x4 σ => fX3_mendPlace_L45 F sh Z x1 kx n x3 x4 σ)) fun kb =>
    if (4 : Int32) ≤ x4 then (kx x3 σ) else (aI (σ 16) 4 x4 fun v3 => if v3 < 0 then (fX3_mendPlace_J82 F sh Z kb x1 x3 x4 σ) else (bd (fX11_cellOf F x1 x4) fun v5 => aI (σ 16) 4 x4 fun v6 => aS 256 v5 (nm (sg σ 15 (upd (σ 15) v5.toNatClampNeg v6)) fun σ8 => fX3_mendPlace_J82 F sh Z kb x1 (x3 + (1 : Int32)) x4 σ8)))
def fX3_mendPlace (F : Nat) (sh : Nat → Option Nat) (Z : ZT) (σ : Nat → Nat → Int32) (x1 : Int32) (x2 : Int32) : Option (Int32 × (Nat → Nat → Int32)) :=
  fX3_mendPlace_L2 F sh Z x1 x2 (fun σ1 => fX3_mendPlace_L45 F sh Z x1 (fun y2 σ3 => some (y2, σ3)) F (0 : Int32) (0 : Int32) σ1) F (0 : Int32) σ
abbrev rmX3_mendPlace : Room := { frames := 3, cells := 0, slots := 0, locals := 73 }
theorem inX3_X3_mendPlace : ∀ w ∈ wsX30, w ∈ wsX3_mendPlace := by intro w h; simp only [wsX3_mendPlace, List.mem_cons, List.mem_append]; simp only [h, true_or, or_true]
set_option maxHeartbeats 4000000 in
set_option maxRecDepth 100000 in
theorem wX3_mendPlace_J33 {p : Program} {l : Launch} {e : Env} {s : State} {m : MethodId} {args : Array Value} {below : List Frame} {meth : Method} {c : Code} (C : cxt p s m args meth c cX3_mendPlace 5 RX3 wsX3_mendPlace (some .int)) {D : va_G} {cs : Nat → ClassId} {a : Nat → Nat} {sh : Nat → Option Nat} {LP : List Nat} {Z : ZT} (hZ : shOK sh LP Z) (hK : KK D cs s) {A : Nat → Prop} (hA : ∀ q, s.heap.size ≤ q → A q) (r : Int32) (u9 : Nat → Nat → Int32) (F : Nat) (kb : Int32 → (Nat → Nat → Int32) → Option (Int32 × (Nat → Nat → Int32))) (x1 : Int32) (x2 : Int32) (x3 : Int32) (t0 : Int32) (t1 : Int32) (hkb : ∀ (x3 : Int32) (σ : Nat → Nat → Int32) (H : Heap) (locs : List Loc) (ls : Array Slot), va_P D vwCl (cW a cs sh LP Z σ) H → va_D A (cW a cs sh LP Z σ) → va_S A s.heap H locs → lv_has ls 5 [(0, .ref (a 14)), (1, .int x1), (2, .int x2), (3, .int x3)] → kb x3 σ = some (r, u9) → W p l e rmX3_mendPlace s m args below meth c H locs 0 0 (MQ below (va_Qi (fun x y => x = r ∧ y = u9) (qB D (cW a cs sh LP Z) A) A) args s 0 0 A) (F0 m 2 ls [])) (σ : Nat → Nat → Int32) (H : Heap) (locs : List Loc) (ls : Array Slot) (hP : va_P D vwCl (cW a cs sh LP Z σ) H) (hD : va_D A (cW a cs sh LP Z σ)) (hS : va_S A s.heap H locs) (hl : lv_has ls 5 [(0, .ref (a 14)), (1, .int x1), (2, .int x2), (3, .int x3)]) (h : fX3_mendPlace_J33 F sh Z kb x1 x2 x3 t0 t1 σ = some (r, u9)) : W p l e rmX3_mendPlace s m args below meth c H locs 0 0 (MQ below (va_Qi (fun x y => x = r ∧ y = u9) (qB D (cW a cs sh LP Z) A) A) args s 0 0 A) (F0 m 33 ls [.int t0, .int t1, .ref (a 16)]) := by
  obtain ⟨hx, hb, hml, hown, hts, hr, hlk⟩ := id C
  unfold fX3_mendPlace_J33 at h
  obtain ⟨i4, h⟩ := aS_some h
  refine va_iast hx hb hK.1 hP hD hS 16 0 rfl rfl i4 dX3_mendPlace_33 (fun H locs hP hD hS => ?_)
  obtain ⟨σ5, e_σ5, h⟩ := nm_some h
  have hP : va_P D vwCl (cW a cs sh LP Z σ5) H := by rw [← e_σ5]; exact hP
  have hD : va_D A (cW a cs sh LP Z σ5) := by rw [← e_σ5]; exact hD
  refine lv_iinc (v := x3 + (1 : Int32)) (lv' := [(3, .int (x3 + (1 : Int32))), (0, .ref (a 14)), (1, .int x1), (2, .int x2)]) hx hb dX3_mendPlace_34 hl (k := 3) rfl rfl (by decide) rfl (fun ls hl => ?_)
  refine lv_goto (tgt := 2) hx hb dX3_mendPlace_37 (by decide) ?_
  exact hkb (x3 + (1 : Int32)) σ5 _ _ ls hP hD hS (lv_sub hl [1, 2, 3, 0] rfl) h
set_option maxHeartbeats 4000000 in
set_option maxRecDepth 100000 in
theorem wX3_mendPlace_L2 {p : Program} {l : Launch} {e : Env} {s : State} {m : MethodId} {args : Array Value} {below : List Frame} {meth : Method} {c : Code} (C : cxt p s m args meth c cX3_mendPlace 5 RX3 wsX3_mendPlace (some .int)) {D : va_G} {cs : Nat → ClassId} {a : Nat → Nat} {sh : Nat → Option Nat} {LP : List Nat} {Z : ZT} (hZ : shOK sh LP Z) (hK : KK D cs s) {A : Nat → Prop} (hA : ∀ q, s.heap.size ≤ q → A q) (r : Int32) (u9 : Nat → Nat → Int32) (F : Nat) (x1 : Int32) (x2 : Int32) (kx : (Nat → Nat → Int32) → Option (Int32 × (Nat → Nat → Int32))) (hkx : ∀ (σ : Nat → Nat → Int32) (H : Heap) (locs : List Loc) (ls : Array Slot), va_P D vwCl (cW a cs sh LP Z σ) H → va_D A (cW a cs sh LP Z σ) → va_S A s.heap H locs → lv_has ls 5 [(0, .ref (a 14)), (1, .int x1)] → kx σ = some (r, u9) → W p l e rmX3_mendPlace s m args below meth c H locs 0 0 (MQ below (va_Qi (fun x y => x = r ∧ y = u9) (qB D (cW a cs sh LP Z) A) A) args s 0 0 A) (F0 m 40 ls [])) : ∀ (n : Nat) (x3 : Int32) (σ : Nat → Nat → Int32) (H : Heap) (locs : List Loc) (ls : Array Slot), va_P D vwCl (cW a cs sh LP Z σ) H → va_D A (cW a cs sh LP Z σ) → va_S A s.heap H locs → lv_has ls 5 [(0, .ref (a 14)), (1, .int x1), (2, .int x2), (3, .int x3)] → fX3_mendPlace_L2 F sh Z x1 x2 kx n x3 σ = some (r, u9) → W p l e rmX3_mendPlace s m args below meth c H locs 0 0 (MQ below (va_Qi (fun x y => x = r ∧ y = u9) (qB D (cW a cs sh LP Z) A) A) args s 0 0 A) (F0 m 2 ls []) := by
  obtain ⟨hx, hb, hml, hown, hts, hr, hlk⟩ := id C
  intro n
  induction n with
  | zero =>
    intros
    rename_i h
    cases h
  | succ n ih =>
    intro x3 σ H locs ls hP hD hS hl h
    rw [fX3_mendPlace_L2] at h
    obtain ⟨kb, hkb, h⟩ := nb_some (P := fun (kb : Int32 → (Nat → Nat → Int32) → Option (Int32 × (Nat → Nat → Int32))) => ∀ (x3 : Int32) (σ : Nat → Nat → Int32) (H : Heap) (locs : List Loc) (ls : Array Slot), va_P D vwCl (cW a cs sh LP Z σ) H → va_D A (cW a cs sh LP Z σ) → va_S A s.heap H locs → lv_has ls 5 [(0, .ref (a 14)), (1, .int x1), (2, .int x2), (3, .int x3)] → kb x3 σ = some (r, u9) → W p l e rmX3_mendPlace s m args below meth c H locs 0 0 (MQ below (va_Qi (fun x y => x = r ∧ y = u9) (qB D (cW a cs sh LP Z) A) A) args s 0 0 A) (F0 m 2 ls [])) h ih
    refine lv_iload_n hx hb dX3_mendPlace_2 rfl (lv_at hl 3 rfl) ?_
    refine lv_iconst (v := (4 : Int32)) hx hb dX3_mendPlace_3 (by decide) ?_
    refine lv_icmp_ge (tgt := 40) hx hb dX3_mendPlace_4 (by decide) (fun c1 => ?_) (fun c1 => ?_)
    · have h := it_t c1 h
      exact hkx σ _ _ ls hP hD hS (lv_sub hl [0, 1] rfl) h
    · have h := it_f c1 h
      refine lv_aload_n hx hb dX3_mendPlace_7 rfl (lv_at hl 0 rfl) ?_
      refine va_get (D := D) (ci := 3) (v := .ref (a 16)) (C := RX3) (T := TX3) (N := 2) hx hb hts inX3_X3_mendPlace hown hK.1 hP 14 rfl rfl 1 (by decide) (hts (.fieldLink RX3 15 "SandPalace$Photo" "fourBack" "[I") (by decide +kernel)) (fun _ h9 => h9) rfl dX3_mendPlace_8 ?_
      refine lv_iload_n hx hb dX3_mendPlace_11 rfl (lv_at hl 3 rfl) ?_
      refine lv_aload_n hx hb dX3_mendPlace_12 rfl (lv_at hl 0 rfl) ?_
      refine lv_iload_n hx hb dX3_mendPlace_13 rfl (lv_at hl 1 rfl) ?_
      refine lv_iload_n hx hb dX3_mendPlace_14 rfl (lv_at hl 3 rfl) ?_
      obtain ⟨v2, hc_v2, h⟩ := bd_some h
      refine mcallSZ (va_runV (As := [.int x1, .int x3]) (rest := [.int x3, .ref (a 16)]) ⟨hx, hb, hml, hown, hts⟩ (kX3_isSmeared l D cs a sh LP Z hZ σ F x1 x3 v2 hc_v2) (cwV 2 hts gX3_mendPlace_X3_isSmeared rfl rfl rfl (by decide +kernel) ⟨Nat.le_of_ble_eq_true rfl, Nat.le_of_ble_eq_true rfl⟩) (pR_v hP hK (va_recv hK.1 hP (ci := 3) (q0 := 14) rfl rfl)) rfl rfl hl.1 rfl (lv_room (Nat.le_of_ble_eq_true rfl)) dX3_mendPlace_15 ⟨Nat.zero_le _, Nat.zero_le _⟩) (fun z_v2 => ?_)
      refine lv_if_eq (tgt := 31) hx hb dX3_mendPlace_18 (by decide) (fun c3 => ?_) (fun c3 => ?_)
      · have h := it_t c3 h
        refine lv_bipush (v := ((-2) : Int32)) hx hb dX3_mendPlace_31 (by decide) ?_
        exact wX3_mendPlace_J33 C hZ hK hA r u9 F kb x1 x2 x3 ((-2) : Int32) x3 hkb σ _ _ ls hP hD hS (lv_sub hl [0, 1, 2, 3] rfl) h
      · have h := it_f c3 h
        refine lv_aload_n hx hb dX3_mendPlace_21 rfl (lv_at hl 0 rfl) ?_
        refine lv_iload_n hx hb dX3_mendPlace_22 rfl (lv_at hl 1 rfl) ?_
        refine lv_iload_n hx hb dX3_mendPlace_23 rfl (lv_at hl 3 rfl) ?_
        refine lv_iload_n hx hb dX3_mendPlace_24 rfl (lv_at hl 2 rfl) ?_
        obtain ⟨v4, hc_v4, h⟩ := bd_some h
        refine mcallS (va_runV (As := [.int x1, .int x3, .int x2]) (rest := [.int x3, .ref (a 16)]) ⟨hx, hb, hml, hown, hts⟩ (kX3_toldBack l D cs a sh LP Z hZ σ F x1 x3 x2 v4 hc_v4) (cwV 3 hts gX3_mendPlace_X3_toldBack rfl rfl rfl (by decide +kernel) ⟨Nat.le_of_ble_eq_true rfl, Nat.le_of_ble_eq_true rfl⟩) (pR_v hP hK (va_recv hK.1 hP (ci := 3) (q0 := 14) rfl rfl)) rfl rfl hl.1 rfl (lv_room (Nat.le_of_ble_eq_true rfl)) dX3_mendPlace_25 ⟨Nat.zero_le _, Nat.zero_le _⟩) ?_
        refine lv_goto (tgt := 33) hx hb dX3_mendPlace_28 (by decide) ?_
        exact wX3_mendPlace_J33 C hZ hK hA r u9 F kb x1 x2 x3 v4 x3 hkb σ _ _ ls hP hD hS (lv_sub hl [0, 1, 2, 3] rfl) h
set_option maxHeartbeats 4000000 in
set_option maxRecDepth 100000 in
theorem wX3_mendPlace_J82 {p : Program} {l : Launch} {e : Env} {s : State} {m : MethodId} {args : Array Value} {below : List Frame} {meth : Method} {c : Code} (C : cxt p s m args meth c cX3_mendPlace 5 RX3 wsX3_mendPlace (some .int)) {D : va_G} {cs : Nat → ClassId} {a : Nat → Nat} {sh : Nat → Option Nat} {LP : List Nat} {Z : ZT} (hZ : shOK sh LP Z) (hK : KK D cs s) {A : Nat → Prop} (hA : ∀ q, s.heap.size ≤ q → A q) (r : Int32) (u9 : Nat → Nat → Int32) (F : Nat) (kb : Int32 → Int32 → (Nat → Nat → Int32) → Option (Int32 × (Nat → Nat → Int32))) (x1 : Int32) (x3 : Int32) (x4 : Int32) (hkb : ∀ (x3 : Int32) (x4 : Int32) (σ : Nat → Nat → Int32) (H : Heap) (locs : List Loc) (ls : Array Slot), va_P D vwCl (cW a cs sh LP Z σ) H → va_D A (cW a cs sh LP Z σ) → va_S A s.heap H locs → lv_has ls 5 [(0, .ref (a 14)), (1, .int x1), (3, .int x3), (4, .int x4)] → kb x3 x4 σ = some (r, u9) → W p l e rmX3_mendPlace s m args below meth c H locs 0 0 (MQ below (va_Qi (fun x y => x = r ∧ y = u9) (qB D (cW a cs sh LP Z) A) A) args s 0 0 A) (F0 m 45 ls [])) (σ : Nat → Nat → Int32) (H : Heap) (locs : List Loc) (ls : Array Slot) (hP : va_P D vwCl (cW a cs sh LP Z σ) H) (hD : va_D A (cW a cs sh LP Z σ)) (hS : va_S A s.heap H locs) (hl : lv_has ls 5 [(0, .ref (a 14)), (1, .int x1), (3, .int x3), (4, .int x4)]) (h : fX3_mendPlace_J82 F sh Z kb x1 x3 x4 σ = some (r, u9)) : W p l e rmX3_mendPlace s m args below meth c H locs 0 0 (MQ below (va_Qi (fun x y => x = r ∧ y = u9) (qB D (cW a cs sh LP Z) A) A) args s 0 0 A) (F0 m 82 ls []) := by
  obtain ⟨hx, hb, hml, hown, hts, hr, hlk⟩ := id C
  unfold fX3_mendPlace_J82 at h
  refine lv_iinc (v := x4 + (1 : Int32)) (lv' := [(4, .int (x4 + (1 : Int32))), (0, .ref (a 14)), (1, .int x1), (3, .int x3)]) hx hb dX3_mendPlace_82 hl (k := 3) rfl rfl (by decide) rfl (fun ls hl => ?_)
  refine lv_goto (tgt := 45) hx hb dX3_mendPlace_85 (by decide) ?_
  exact hkb x3 (x4 + (1 : Int32)) σ _ _ ls hP hD hS (lv_sub hl [1, 2, 3, 0] rfl) h
set_option maxHeartbeats 4000000 in
set_option maxRecDepth 100000 in
theorem wX3_mendPlace_L45 {p : Program} {l : Launch} {e : Env} {s : State} {m : MethodId} {args : Array Value} {below : List Frame} {meth : Method} {c : Code} (C : cxt p s m args meth c cX3_mendPlace 5 RX3 wsX3_mendPlace (some .int)) {D : va_G} {cs : Nat → ClassId} {a : Nat → Nat} {sh : Nat → Option Nat} {LP : List Nat} {Z : ZT} (hZ : shOK sh LP Z) (hK : KK D cs s) {A : Nat → Prop} (hA : ∀ q, s.heap.size ≤ q → A q) (r : Int32) (u9 : Nat → Nat → Int32) (F : Nat) (x1 : Int32) (kx : Int32 → (Nat → Nat → Int32) → Option (Int32 × (Nat → Nat → Int32))) (hkx : ∀ (x3 : Int32) (σ : Nat → Nat → Int32) (H : Heap) (locs : List Loc) (ls : Array Slot), va_P D vwCl (cW a cs sh LP Z σ) H → va_D A (cW a cs sh LP Z σ) → va_S A s.heap H locs → lv_has ls 5 [(3, .int x3)] → kx x3 σ = some (r, u9) → W p l e rmX3_mendPlace s m args below meth c H locs 0 0 (MQ below (va_Qi (fun x y => x = r ∧ y = u9) (qB D (cW a cs sh LP Z) A) A) args s 0 0 A) (F0 m 88 ls [])) : ∀ (n : Nat) (x3 : Int32) (x4 : Int32) (σ : Nat → Nat → Int32) (H : Heap) (locs : List Loc) (ls : Array Slot), va_P D vwCl (cW a cs sh LP Z σ) H → va_D A (cW a cs sh LP Z σ) → va_S A s.heap H locs → lv_has ls 5 [(0, .ref (a 14)), (1, .int x1), (3, .int x3), (4, .int x4)] → fX3_mendPlace_L45 F sh Z x1 kx n x3 x4 σ = some (r, u9) → W p l e rmX3_mendPlace s m args below meth c H locs 0 0 (MQ below (va_Qi (fun x y => x = r ∧ y = u9) (qB D (cW a cs sh LP Z) A) A) args s 0 0 A) (F0 m 45 ls []) := by
  obtain ⟨hx, hb, hml, hown, hts, hr, hlk⟩ := id C
  intro n
  induction n with
  | zero =>
    intros
    rename_i h
    cases h
  | succ n ih =>
    intro x3 x4 σ H locs ls hP hD hS hl h
    rw [fX3_mendPlace_L45] at h
    obtain ⟨kb, hkb, h⟩ := nb_some (P := fun (kb : Int32 → Int32 → (Nat → Nat → Int32) → Option (Int32 × (Nat → Nat → Int32))) => ∀ (x3 : Int32) (x4 : Int32) (σ : Nat → Nat → Int32) (H : Heap) (locs : List Loc) (ls : Array Slot), va_P D vwCl (cW a cs sh LP Z σ) H → va_D A (cW a cs sh LP Z σ) → va_S A s.heap H locs → lv_has ls 5 [(0, .ref (a 14)), (1, .int x1), (3, .int x3), (4, .int x4)] → kb x3 x4 σ = some (r, u9) → W p l e rmX3_mendPlace s m args below meth c H locs 0 0 (MQ below (va_Qi (fun x y => x = r ∧ y = u9) (qB D (cW a cs sh LP Z) A) A) args s 0 0 A) (F0 m 45 ls [])) h ih
    refine lv_iload hx hb dX3_mendPlace_45 (lv_at hl 3 rfl) ?_
    refine lv_iconst (v := (4 : Int32)) hx hb dX3_mendPlace_47 (by decide) ?_
    refine lv_icmp_ge (tgt := 88) hx hb dX3_mendPlace_48 (by decide) (fun c2 => ?_) (fun c2 => ?_)
    · have h := it_t c2 h
      exact hkx x3 σ _ _ ls hP hD hS (lv_sub hl [2] rfl) h
    · have h := it_f c2 h
      refine lv_aload_n hx hb dX3_mendPlace_51 rfl (lv_at hl 0 rfl) ?_
      refine va_get (D := D) (ci := 3) (v := .ref (a 16)) (C := RX3) (T := TX3) (N := 2) hx hb hts inX3_X3_mendPlace hown hK.1 hP 14 rfl rfl 1 (by decide) (hts (.fieldLink RX3 15 "SandPalace$Photo" "fourBack" "[I") (by decide +kernel)) (fun _ h9 => h9) rfl dX3_mendPlace_52 ?_
      refine lv_iload hx hb dX3_mendPlace_55 (lv_at hl 3 rfl) ?_
      obtain ⟨v3, i_v3, e_v3, h⟩ := aI_some h
      refine miald hx hb hK.1 hP 16 0 rfl rfl i_v3 e_v3 dX3_mendPlace_57 ?_
      refine lv_if_lt (tgt := 82) hx hb dX3_mendPlace_58 (by decide) (fun c4 => ?_) (fun c4 => ?_)
      · have h := it_t c4 h
        exact wX3_mendPlace_J82 C hZ hK hA r u9 F kb x1 x3 x4 hkb σ _ _ ls hP hD hS (lv_sub hl [0, 1, 2, 3] rfl) h
      · have h := it_f c4 h
        refine lv_aload_n hx hb dX3_mendPlace_61 rfl (lv_at hl 0 rfl) ?_
        refine va_get (D := D) (ci := 3) (v := .ref (a 15)) (C := RX3) (T := TX3) (N := 2) hx hb hts inX3_X3_mendPlace hown hK.1 hP 14 rfl rfl 0 (by decide) (hts (.fieldLink RX3 9 "SandPalace$Photo" "colours" "[I") (by decide +kernel)) (fun _ h9 => h9) rfl dX3_mendPlace_62 ?_
        refine lv_iload_n hx hb dX3_mendPlace_65 rfl (lv_at hl 1 rfl) ?_
        refine lv_iload hx hb dX3_mendPlace_66 (lv_at hl 3 rfl) ?_
        obtain ⟨v5, hc_v5, h⟩ := bd_some h
        refine mcallS (va_runSN (As := [.int x1, .int x4]) (rest := [.ref (a 15)]) ⟨hx, hb, hml, hown, hts⟩ (kX11_cellOf l F x1 x4 v5 hc_v5) ⟨va_cnB (own := RX3) (host := "SandPalace") (index := 18) 2 hts gX3_mendPlace_X11_cellOf_n18 rfl rfl rfl (hK.2.1 ("SandPalace$Photo", 18, yX11_cellOf, "SandPalace") (by decide +kernel)) (hts (.initialized RX11) (by decide +kernel)) (by decide +kernel) ⟨Nat.le_of_ble_eq_true rfl, Nat.le_of_ble_eq_true rfl⟩, hts (.static yX11_cellOf) (by decide +kernel), trivial⟩ p0_s rfl rfl hl.1 rfl (lv_room (Nat.le_of_ble_eq_true rfl)) dX3_mendPlace_68 ⟨Nat.zero_le _, Nat.zero_le _⟩) ?_
        refine lv_aload_n hx hb dX3_mendPlace_71 rfl (lv_at hl 0 rfl) ?_
        refine va_get (D := D) (ci := 3) (v := .ref (a 16)) (C := RX3) (T := TX3) (N := 2) hx hb hts inX3_X3_mendPlace hown hK.1 hP 14 rfl rfl 1 (by decide) (hts (.fieldLink RX3 15 "SandPalace$Photo" "fourBack" "[I") (by decide +kernel)) (fun _ h9 => h9) rfl dX3_mendPlace_72 ?_
        refine lv_iload hx hb dX3_mendPlace_75 (lv_at hl 3 rfl) ?_
        obtain ⟨v6, i_v6, e_v6, h⟩ := aI_some h
        refine miald hx hb hK.1 hP 16 0 rfl rfl i_v6 e_v6 dX3_mendPlace_77 ?_
        obtain ⟨i7, h⟩ := aS_some h
        refine va_iast hx hb hK.1 hP hD hS 15 0 rfl rfl i7 dX3_mendPlace_78 (fun H locs hP hD hS => ?_)
        obtain ⟨σ8, e_σ8, h⟩ := nm_some h
        have hP : va_P D vwCl (cW a cs sh LP Z σ8) H := by rw [← e_σ8]; exact hP
        have hD : va_D A (cW a cs sh LP Z σ8) := by rw [← e_σ8]; exact hD
        refine lv_iinc (v := x3 + (1 : Int32)) (lv' := [(3, .int (x3 + (1 : Int32))), (0, .ref (a 14)), (1, .int x1), (4, .int x4)]) hx hb dX3_mendPlace_79 hl (k := 2) rfl rfl (by decide) rfl (fun ls hl => ?_)
        exact wX3_mendPlace_J82 C hZ hK hA r u9 F kb x1 (x3 + (1 : Int32)) x4 hkb σ8 _ _ ls hP hD hS (lv_sub hl [1, 2, 0, 3] rfl) h
set_option maxHeartbeats 4000000 in
set_option maxRecDepth 100000 in
theorem kX3_mendPlace (l : Launch) (D : va_G) (cs : Nat → ClassId) (a : Nat → Nat) (sh : Nat → Option Nat) (LP : List Nat) (Z : ZT) (hZ : shOK sh LP Z) (σ : Nat → Nat → Int32) (F : Nat) (x1 : Int32) (x2 : Int32) (r : Int32) (u9 : Nat → Nat → Int32) (h : fX3_mendPlace F sh Z σ x1 x2 = some (r, u9)) (sz : Nat) : Met l yX3_mendPlace wsX3_mendPlace rmX3_mendPlace (va_Pc [.ref (a 14), .int x1, .int x2] (pQ D cs (cW a cs sh LP Z σ) sz)) (va_Qi (fun x y => x = r ∧ y = u9) (qB D (cW a cs sh LP Z) (va_A (cW a cs sh LP Z σ) sz)) (va_A (cW a cs sh LP Z σ) sz)) 0 0 (va_A (cW a cs sh LP Z σ) sz) := by
  refine Met.ofW (cc := cX3_mendPlace) (maxL := 5) (ret := (some .int)) (by decide) rfl ?_
  intro p e s m args below meth c s₁ B hml hv
  obtain ⟨rfl, hsz, hP, hK, hD0⟩ := hv
  have C : cxt p s m _ meth c cX3_mendPlace 5 RX3 wsX3_mendPlace (some .int) := ⟨B.exec, B.bytes, hml, findClass_of_methodNamed B.named, atoms_spec (ws := wsX3_mendPlace) B.pre, B.returns, B.notSynchronized⟩
  obtain ⟨hx, hb, -, hown, hts, hr, hlk⟩ := id C
  subst hsz
  have hD := hD0.self (sz := s.heap.size)
  generalize hAe : va_A (cW a cs sh LP Z σ) s.heap.size = A at hD ⊢
  have hA : ∀ q : Nat, s.heap.size ≤ q → A q := fun q h => by rw [← hAe]; exact Or.inr h
  have hS : va_S A s.heap s.heap [] := va_S.rf
  refine entryW [.ref (a 14), .int x1, .int x2] (n := 5) (Nat.le_of_ble_eq_true rfl) (fun ls hl => ?_)
  have hl : lv_has ls 5 [(0, .ref (a 14)), (1, .int x1), (2, .int x2)] := hl
  unfold fX3_mendPlace at h
  refine lv_iconst (v := (0 : Int32)) hx hb dX3_mendPlace_0 (by decide) ?_
  refine lv_istore_n (lv' := [(3, .int (0 : Int32)), (0, .ref (a 14)), (1, .int x1), (2, .int x2)]) hx hb dX3_mendPlace_1 rfl hl (by decide) rfl (fun ls hl => ?_)
  refine wX3_mendPlace_L2 C hZ hK hA r u9 F x1 x2 _ ?_ F (0 : Int32) σ _ _ ls hP hD hS (lv_sub hl [1, 2, 3, 0] rfl) h
  intro σ1 H locs ls hP hD hS hl h
  refine lv_iconst (v := (0 : Int32)) hx hb dX3_mendPlace_40 (by decide) ?_
  refine lv_istore_n (lv' := [(3, .int (0 : Int32)), (0, .ref (a 14)), (1, .int x1)]) hx hb dX3_mendPlace_41 rfl hl (by decide) rfl (fun ls hl => ?_)
  refine lv_iconst (v := (0 : Int32)) hx hb dX3_mendPlace_42 (by decide) ?_
  refine lv_istore (lv' := [(4, .int (0 : Int32)), (3, .int (0 : Int32)), (0, .ref (a 14)), (1, .int x1)]) hx hb dX3_mendPlace_43 hl (by decide) rfl (fun ls hl => ?_)
  refine wX3_mendPlace_L45 C hZ hK hA r u9 F x1 _ ?_ F (0 : Int32) (0 : Int32) σ1 _ _ ls hP hD hS (lv_sub hl [2, 3, 1, 0] rfl) h
  intro y2 σ3 H locs ls hP hD hS hl h
  refine lv_iload_n hx hb dX3_mendPlace_88 rfl (lv_at hl 0 rfl) ?_
  exact mretQ hx hb hr hlk h hP hD hS dX3_mendPlace_89
def fX3_mendAll_L4 (F : Nat) (sh : Nat → Option Nat) (Z : ZT) (kx : Int32 → (Nat → Nat → Int32) → Option (Int32 × (Nat → Nat → Int32))) : Nat → Int32 → Int32 → (Nat → Nat → Int32) → Option (Int32 × (Nat → Nat → Int32))
  | 0, _, _, _ => none
  | n+1, x2, x3, σ =>
    nb ((fun x2 x3 σ => fX3_mendAll_L4 F sh Z kx n x2 x3 σ)) fun kb =>
    if (64 : Int32) ≤ x3 then (kx x2 σ) else (bd (fX4_stepOfPlace F sh Z σ x3) fun v2 => bd (fX3_mendPlace F sh Z σ x3 v2) fun (v3, σ4) => kb (x2 + v3) (x3 + (1 : Int32)) σ4)
def fX3_mendAll (F : Nat) (sh : Nat → Option Nat) (Z : ZT) (σ : Nat → Nat → Int32)  : Option (Int32 × (Nat → Nat → Int32)) :=
  fX3_mendAll_L4 F sh Z (fun y1 σ2 => some (y1, σ2)) F (0 : Int32) (0 : Int32) σ
abbrev rmX3_mendAll : Room := { frames := 4, cells := 0, slots := 0, locals := 97 }
set_option maxHeartbeats 4000000 in
set_option maxRecDepth 100000 in
theorem wX3_mendAll_L4 {p : Program} {l : Launch} {e : Env} {s : State} {m : MethodId} {args : Array Value} {below : List Frame} {meth : Method} {c : Code} (C : cxt p s m args meth c cX3_mendAll 4 RX3 wsX3_mendAll (some .int)) {D : va_G} {cs : Nat → ClassId} {a : Nat → Nat} {sh : Nat → Option Nat} {LP : List Nat} {Z : ZT} (hZ : shOK sh LP Z) (hK : KK D cs s) {A : Nat → Prop} (hA : ∀ q, s.heap.size ≤ q → A q) (r : Int32) (u9 : Nat → Nat → Int32) (F : Nat) (kx : Int32 → (Nat → Nat → Int32) → Option (Int32 × (Nat → Nat → Int32))) (hkx : ∀ (x2 : Int32) (σ : Nat → Nat → Int32) (H : Heap) (locs : List Loc) (ls : Array Slot), va_P D vwCl (cW a cs sh LP Z σ) H → va_D A (cW a cs sh LP Z σ) → va_S A s.heap H locs → lv_has ls 4 [(2, .int x2)] → kx x2 σ = some (r, u9) → W p l e rmX3_mendAll s m args below meth c H locs 0 0 (MQ below (va_Qi (fun x y => x = r ∧ y = u9) (qB D (cW a cs sh LP Z) A) A) args s 0 0 A) (F0 m 29 ls [])) : ∀ (n : Nat) (x2 : Int32) (x3 : Int32) (σ : Nat → Nat → Int32) (H : Heap) (locs : List Loc) (ls : Array Slot), va_P D vwCl (cW a cs sh LP Z σ) H → va_D A (cW a cs sh LP Z σ) → va_S A s.heap H locs → lv_has ls 4 [(0, .ref (a 14)), (1, .ref (a 1)), (2, .int x2), (3, .int x3)] → fX3_mendAll_L4 F sh Z kx n x2 x3 σ = some (r, u9) → W p l e rmX3_mendAll s m args below meth c H locs 0 0 (MQ below (va_Qi (fun x y => x = r ∧ y = u9) (qB D (cW a cs sh LP Z) A) A) args s 0 0 A) (F0 m 4 ls []) := by
  obtain ⟨hx, hb, hml, hown, hts, hr, hlk⟩ := id C
  intro n
  induction n with
  | zero =>
    intros
    rename_i h
    cases h
  | succ n ih =>
    intro x2 x3 σ H locs ls hP hD hS hl h
    rw [fX3_mendAll_L4] at h
    obtain ⟨kb, hkb, h⟩ := nb_some (P := fun (kb : Int32 → Int32 → (Nat → Nat → Int32) → Option (Int32 × (Nat → Nat → Int32))) => ∀ (x2 : Int32) (x3 : Int32) (σ : Nat → Nat → Int32) (H : Heap) (locs : List Loc) (ls : Array Slot), va_P D vwCl (cW a cs sh LP Z σ) H → va_D A (cW a cs sh LP Z σ) → va_S A s.heap H locs → lv_has ls 4 [(0, .ref (a 14)), (1, .ref (a 1)), (2, .int x2), (3, .int x3)] → kb x2 x3 σ = some (r, u9) → W p l e rmX3_mendAll s m args below meth c H locs 0 0 (MQ below (va_Qi (fun x y => x = r ∧ y = u9) (qB D (cW a cs sh LP Z) A) A) args s 0 0 A) (F0 m 4 ls [])) h ih
    refine lv_iload_n hx hb dX3_mendAll_4 rfl (lv_at hl 3 rfl) ?_
    refine lv_bipush (v := (64 : Int32)) hx hb dX3_mendAll_5 (by decide) ?_
    refine lv_icmp_ge (tgt := 29) hx hb dX3_mendAll_7 (by decide) (fun c1 => ?_) (fun c1 => ?_)
    · have h := it_t c1 h
      exact hkx x2 σ _ _ ls hP hD hS (lv_sub hl [2] rfl) h
    · have h := it_f c1 h
      refine lv_iload_n hx hb dX3_mendAll_10 rfl (lv_at hl 2 rfl) ?_
      refine lv_aload_n hx hb dX3_mendAll_11 rfl (lv_at hl 0 rfl) ?_
      refine lv_iload_n hx hb dX3_mendAll_12 rfl (lv_at hl 3 rfl) ?_
      refine lv_aload_n hx hb dX3_mendAll_13 rfl (lv_at hl 1 rfl) ?_
      refine lv_iload_n hx hb dX3_mendAll_14 rfl (lv_at hl 3 rfl) ?_
      obtain ⟨v2, hc_v2, h⟩ := bd_some h
      refine mcallS (va_runV (As := [.int x3]) (rest := [.int x3, .ref (a 14), .int x2]) ⟨hx, hb, hml, hown, hts⟩ (kX4_stepOfPlace l D cs a sh LP Z hZ σ F x3 v2 hc_v2) (cwV 1 hts gX3_mendAll_X4_stepOfPlace rfl rfl rfl (by decide +kernel) ⟨Nat.le_of_ble_eq_true rfl, Nat.le_of_ble_eq_true rfl⟩) (pR_v hP hK (va_recv hK.1 hP (ci := 4) (q0 := 1) rfl rfl)) rfl rfl hl.1 rfl (lv_room (Nat.le_of_ble_eq_true rfl)) dX3_mendAll_15 ⟨Nat.zero_le _, Nat.zero_le _⟩) ?_
      obtain ⟨⟨v3, σ4⟩, hc_v3, h⟩ := bd_some h
      refine mcallQ (wf := (cW a cs sh LP Z)) (va_runV (As := [.int x3, .int v2]) (rest := [.int x2]) ⟨hx, hb, hml, hown, hts⟩ (kX3_mendPlace l D cs a sh LP Z hZ σ F x3 v2 v3 σ4 hc_v3 _) (cwV 2 hts gX3_mendAll_X3_mendPlace rfl rfl rfl (by decide +kernel) ⟨Nat.le_of_ble_eq_true rfl, Nat.le_of_ble_eq_true rfl⟩) (pQ_v hP hK hD (va_recv hK.1 hP (ci := 3) (q0 := 14) rfl rfl)) rfl rfl hl.1 rfl (lv_room (Nat.le_of_ble_eq_true rfl)) dX3_mendAll_18 ⟨Nat.zero_le _, Nat.zero_le _⟩) hD hS hA (fun H locs hP hD hS => ?_)
      refine lv_iadd hx hb dX3_mendAll_21 ?_
      refine lv_istore_n (lv' := [(2, .int (x2 + v3)), (0, .ref (a 14)), (1, .ref (a 1)), (3, .int x3)]) hx hb dX3_mendAll_22 rfl hl (by decide) rfl (fun ls hl => ?_)
      refine lv_iinc (v := x3 + (1 : Int32)) (lv' := [(3, .int (x3 + (1 : Int32))), (2, .int (x2 + v3)), (0, .ref (a 14)), (1, .ref (a 1))]) hx hb dX3_mendAll_23 hl (k := 3) rfl rfl (by decide) rfl (fun ls hl => ?_)
      refine lv_goto (tgt := 4) hx hb dX3_mendAll_26 (by decide) ?_
      exact hkb (x2 + v3) (x3 + (1 : Int32)) σ4 _ _ ls hP hD hS (lv_sub hl [2, 3, 1, 0] rfl) h
set_option maxHeartbeats 4000000 in
set_option maxRecDepth 100000 in
theorem kX3_mendAll (l : Launch) (D : va_G) (cs : Nat → ClassId) (a : Nat → Nat) (sh : Nat → Option Nat) (LP : List Nat) (Z : ZT) (hZ : shOK sh LP Z) (σ : Nat → Nat → Int32) (F : Nat)  (r : Int32) (u9 : Nat → Nat → Int32) (h : fX3_mendAll F sh Z σ = some (r, u9)) (sz : Nat) : Met l yX3_mendAll wsX3_mendAll rmX3_mendAll (va_Pc [.ref (a 14), .ref (a 1)] (pQ D cs (cW a cs sh LP Z σ) sz)) (va_Qi (fun x y => x = r ∧ y = u9) (qB D (cW a cs sh LP Z) (va_A (cW a cs sh LP Z σ) sz)) (va_A (cW a cs sh LP Z σ) sz)) 0 0 (va_A (cW a cs sh LP Z σ) sz) := by
  refine Met.ofW (cc := cX3_mendAll) (maxL := 4) (ret := (some .int)) (by decide) rfl ?_
  intro p e s m args below meth c s₁ B hml hv
  obtain ⟨rfl, hsz, hP, hK, hD0⟩ := hv
  have C : cxt p s m _ meth c cX3_mendAll 4 RX3 wsX3_mendAll (some .int) := ⟨B.exec, B.bytes, hml, findClass_of_methodNamed B.named, atoms_spec (ws := wsX3_mendAll) B.pre, B.returns, B.notSynchronized⟩
  obtain ⟨hx, hb, -, hown, hts, hr, hlk⟩ := id C
  subst hsz
  have hD := hD0.self (sz := s.heap.size)
  generalize hAe : va_A (cW a cs sh LP Z σ) s.heap.size = A at hD ⊢
  have hA : ∀ q : Nat, s.heap.size ≤ q → A q := fun q h => by rw [← hAe]; exact Or.inr h
  have hS : va_S A s.heap s.heap [] := va_S.rf
  refine entryW [.ref (a 14), .ref (a 1)] (n := 4) (Nat.le_of_ble_eq_true rfl) (fun ls hl => ?_)
  have hl : lv_has ls 4 [(0, .ref (a 14)), (1, .ref (a 1))] := hl
  unfold fX3_mendAll at h
  refine lv_iconst (v := (0 : Int32)) hx hb dX3_mendAll_0 (by decide) ?_
  refine lv_istore_n (lv' := [(2, .int (0 : Int32)), (0, .ref (a 14)), (1, .ref (a 1))]) hx hb dX3_mendAll_1 rfl hl (by decide) rfl (fun ls hl => ?_)
  refine lv_iconst (v := (0 : Int32)) hx hb dX3_mendAll_2 (by decide) ?_
  refine lv_istore_n (lv' := [(3, .int (0 : Int32)), (2, .int (0 : Int32)), (0, .ref (a 14)), (1, .ref (a 1))]) hx hb dX3_mendAll_3 rfl hl (by decide) rfl (fun ls hl => ?_)
  refine wX3_mendAll_L4 C hZ hK hA r u9 F  _ ?_ F (0 : Int32) (0 : Int32) σ _ _ ls hP hD hS (lv_sub hl [2, 3, 1, 0] rfl) h
  intro y1 σ2 H locs ls hP hD hS hl h
  refine lv_iload_n hx hb dX3_mendAll_29 rfl (lv_at hl 0 rfl) ?_
  exact mretQ hx hb hr hlk h hP hD hS dX3_mendAll_30
def fX3_cellsSmeared_J25 (F : Nat) (sh : Nat → Option Nat) (Z : ZT) (kb : Int32 → Int32 → Option Int32) (x1 : Int32) (x2 : Int32) (σ : Nat → Nat → Int32) : Option Int32 :=
  kb x1 (x2 + (1 : Int32))
def fX3_cellsSmeared_L4 (F : Nat) (sh : Nat → Option Nat) (Z : ZT) (σ : Nat → Nat → Int32) (kx : Int32 → Option Int32) : Nat → Int32 → Int32 → Option Int32
  | 0, _, _ => none
  | n+1, x1, x2 =>
    nb ((fun x1 x2 => fX3_cellsSmeared_L4 F sh Z σ kx n x1 x2)) fun kb =>
    if (256 : Int32) ≤ x2 then (kx x1) else (aI (σ 15) 256 x2 fun v2 => if ¬ v2 = ((-5) : Int32) then (fX3_cellsSmeared_J25 F sh Z kb x1 x2 σ) else (fX3_cellsSmeared_J25 F sh Z kb (x1 + (1 : Int32)) x2 σ))
def fX3_cellsSmeared (F : Nat) (sh : Nat → Option Nat) (Z : ZT) (σ : Nat → Nat → Int32)  : Option Int32 :=
  fX3_cellsSmeared_L4 F sh Z σ (fun y1 => some y1) F (0 : Int32) (0 : Int32)
abbrev rmX3_cellsSmeared : Room := { frames := 0, cells := 0, slots := 0, locals := 0 }
theorem inX3_X3_cellsSmeared : ∀ w ∈ wsX30, w ∈ wsX3_cellsSmeared := by intro w h; simp only [wsX3_cellsSmeared, List.mem_cons, List.mem_append]; simp only [h, true_or, or_true]
set_option maxHeartbeats 4000000 in
set_option maxRecDepth 100000 in
theorem wX3_cellsSmeared_J25 {p : Program} {l : Launch} {e : Env} {s : State} {m : MethodId} {args : Array Value} {below : List Frame} {meth : Method} {c : Code} (C : cxt p s m args meth c cX3_cellsSmeared 3 RX3 wsX3_cellsSmeared (some .int)) {D : va_G} {cs : Nat → ClassId} {a : Nat → Nat} {sh : Nat → Option Nat} {LP : List Nat} {Z : ZT} (hZ : shOK sh LP Z) (hK : KK D cs s) {σ : Nat → Nat → Int32} (hP : va_P D vwCl (cW a cs sh LP Z σ) s.heap) (r : Int32) (F : Nat) (kb : Int32 → Int32 → Option Int32) (x1 : Int32) (x2 : Int32) (hkb : ∀ (x1 : Int32) (x2 : Int32) (ls : Array Slot), lv_has ls 3 [(0, .ref (a 14)), (1, .int x1), (2, .int x2)] → kb x1 x2 = some r → W p l e rmX3_cellsSmeared s m args below meth c s.heap [] 0 0 (MQ below (vp_Si (fun x => x = r)) args s 0 0 (fun _ => False)) (F0 m 4 ls [])) (ls : Array Slot) (hl : lv_has ls 3 [(0, .ref (a 14)), (1, .int x1), (2, .int x2)]) (h : fX3_cellsSmeared_J25 F sh Z kb x1 x2 σ = some r) : W p l e rmX3_cellsSmeared s m args below meth c s.heap [] 0 0 (MQ below (vp_Si (fun x => x = r)) args s 0 0 (fun _ => False)) (F0 m 25 ls []) := by
  obtain ⟨hx, hb, hml, hown, hts, hr, hlk⟩ := id C
  unfold fX3_cellsSmeared_J25 at h
  refine lv_iinc (v := x2 + (1 : Int32)) (lv' := [(2, .int (x2 + (1 : Int32))), (0, .ref (a 14)), (1, .int x1)]) hx hb dX3_cellsSmeared_25 hl (k := 2) rfl rfl (by decide) rfl (fun ls hl => ?_)
  refine lv_goto (tgt := 4) hx hb dX3_cellsSmeared_28 (by decide) ?_
  exact hkb x1 (x2 + (1 : Int32)) ls (lv_sub hl [1, 2, 0] rfl) h
set_option maxHeartbeats 4000000 in
set_option maxRecDepth 100000 in
theorem wX3_cellsSmeared_L4 {p : Program} {l : Launch} {e : Env} {s : State} {m : MethodId} {args : Array Value} {below : List Frame} {meth : Method} {c : Code} (C : cxt p s m args meth c cX3_cellsSmeared 3 RX3 wsX3_cellsSmeared (some .int)) {D : va_G} {cs : Nat → ClassId} {a : Nat → Nat} {sh : Nat → Option Nat} {LP : List Nat} {Z : ZT} (hZ : shOK sh LP Z) (hK : KK D cs s) {σ : Nat → Nat → Int32} (hP : va_P D vwCl (cW a cs sh LP Z σ) s.heap) (r : Int32) (F : Nat) (kx : Int32 → Option Int32) (hkx : ∀ (x1 : Int32) (ls : Array Slot), lv_has ls 3 [(1, .int x1)] → kx x1 = some r → W p l e rmX3_cellsSmeared s m args below meth c s.heap [] 0 0 (MQ below (vp_Si (fun x => x = r)) args s 0 0 (fun _ => False)) (F0 m 31 ls [])) : ∀ (n : Nat) (x1 : Int32) (x2 : Int32) (ls : Array Slot), lv_has ls 3 [(0, .ref (a 14)), (1, .int x1), (2, .int x2)] → fX3_cellsSmeared_L4 F sh Z σ kx n x1 x2 = some r → W p l e rmX3_cellsSmeared s m args below meth c s.heap [] 0 0 (MQ below (vp_Si (fun x => x = r)) args s 0 0 (fun _ => False)) (F0 m 4 ls []) := by
  obtain ⟨hx, hb, hml, hown, hts, hr, hlk⟩ := id C
  intro n
  induction n with
  | zero =>
    intros
    rename_i h
    cases h
  | succ n ih =>
    intro x1 x2 ls hl h
    rw [fX3_cellsSmeared_L4] at h
    obtain ⟨kb, hkb, h⟩ := nb_some (P := fun (kb : Int32 → Int32 → Option Int32) => ∀ (x1 : Int32) (x2 : Int32) (ls : Array Slot), lv_has ls 3 [(0, .ref (a 14)), (1, .int x1), (2, .int x2)] → kb x1 x2 = some r → W p l e rmX3_cellsSmeared s m args below meth c s.heap [] 0 0 (MQ below (vp_Si (fun x => x = r)) args s 0 0 (fun _ => False)) (F0 m 4 ls [])) h ih
    refine lv_iload_n hx hb dX3_cellsSmeared_4 rfl (lv_at hl 2 rfl) ?_
    refine lv_sipush (v := (256 : Int32)) hx hb dX3_cellsSmeared_5 (by decide) ?_
    refine lv_icmp_ge (tgt := 31) hx hb dX3_cellsSmeared_8 (by decide) (fun c1 => ?_) (fun c1 => ?_)
    · have h := it_t c1 h
      exact hkx x1 ls (lv_sub hl [1] rfl) h
    · have h := it_f c1 h
      refine lv_aload_n hx hb dX3_cellsSmeared_11 rfl (lv_at hl 0 rfl) ?_
      refine va_get (D := D) (ci := 3) (v := .ref (a 15)) (C := RX3) (T := TX3) (N := 2) hx hb hts inX3_X3_cellsSmeared hown hK.1 hP 14 rfl rfl 0 (by decide) (hts (.fieldLink RX3 9 "SandPalace$Photo" "colours" "[I") (by decide +kernel)) (fun _ h9 => h9) rfl dX3_cellsSmeared_12 ?_
      refine lv_iload_n hx hb dX3_cellsSmeared_15 rfl (lv_at hl 2 rfl) ?_
      obtain ⟨v2, i_v2, e_v2, h⟩ := aI_some h
      refine miald hx hb hK.1 hP 15 0 rfl rfl i_v2 e_v2 dX3_cellsSmeared_16 ?_
      refine lv_bipush (v := ((-5) : Int32)) hx hb dX3_cellsSmeared_17 (by decide) ?_
      refine lv_icmp_ne (tgt := 25) hx hb dX3_cellsSmeared_19 (by decide) (fun c3 => ?_) (fun c3 => ?_)
      · have h := it_t c3 h
        exact wX3_cellsSmeared_J25 C hZ hK hP r F kb x1 x2 hkb ls (lv_sub hl [0, 1, 2] rfl) h
      · have h := it_n c3 h
        refine lv_iinc (v := x1 + (1 : Int32)) (lv' := [(1, .int (x1 + (1 : Int32))), (0, .ref (a 14)), (2, .int x2)]) hx hb dX3_cellsSmeared_22 hl (k := 1) rfl rfl (by decide) rfl (fun ls hl => ?_)
        exact wX3_cellsSmeared_J25 C hZ hK hP r F kb (x1 + (1 : Int32)) x2 hkb ls (lv_sub hl [1, 0, 2] rfl) h
set_option maxHeartbeats 4000000 in
set_option maxRecDepth 100000 in
theorem kX3_cellsSmeared (l : Launch) (D : va_G) (cs : Nat → ClassId) (a : Nat → Nat) (sh : Nat → Option Nat) (LP : List Nat) (Z : ZT) (hZ : shOK sh LP Z) (σ : Nat → Nat → Int32) (F : Nat)  (r : Int32) (h : fX3_cellsSmeared F sh Z σ = some r) : Met l yX3_cellsSmeared wsX3_cellsSmeared rmX3_cellsSmeared (va_Pc [.ref (a 14)] (pR D cs (cW a cs sh LP Z σ))) (vp_Si (fun x => x = r)) 0 0 (fun _ => False) := by
  refine Met.ofW (cc := cX3_cellsSmeared) (maxL := 3) (ret := (some .int)) (by decide) rfl ?_
  intro p e s m args below meth c s₁ B hml hv
  obtain ⟨rfl, hP, hK⟩ := hv
  have C : cxt p s m _ meth c cX3_cellsSmeared 3 RX3 wsX3_cellsSmeared (some .int) := ⟨B.exec, B.bytes, hml, findClass_of_methodNamed B.named, atoms_spec (ws := wsX3_cellsSmeared) B.pre, B.returns, B.notSynchronized⟩
  obtain ⟨hx, hb, -, hown, hts, hr, hlk⟩ := id C
  refine entryW [.ref (a 14)] (n := 3) (Nat.le_of_ble_eq_true rfl) (fun ls hl => ?_)
  have hl : lv_has ls 3 [(0, .ref (a 14))] := hl
  unfold fX3_cellsSmeared at h
  refine lv_iconst (v := (0 : Int32)) hx hb dX3_cellsSmeared_0 (by decide) ?_
  refine lv_istore_n (lv' := [(1, .int (0 : Int32)), (0, .ref (a 14))]) hx hb dX3_cellsSmeared_1 rfl hl (by decide) rfl (fun ls hl => ?_)
  refine lv_iconst (v := (0 : Int32)) hx hb dX3_cellsSmeared_2 (by decide) ?_
  refine lv_istore_n (lv' := [(2, .int (0 : Int32)), (1, .int (0 : Int32)), (0, .ref (a 14))]) hx hb dX3_cellsSmeared_3 rfl hl (by decide) rfl (fun ls hl => ?_)
  refine wX3_cellsSmeared_L4 C hZ hK hP r F  _ ?_ F (0 : Int32) (0 : Int32) ls (lv_sub hl [2, 1, 0] rfl) h
  intro y1 ls hl h
  refine lv_iload_n hx hb dX3_cellsSmeared_31 rfl (lv_at hl 0 rfl) ?_
  exact mretS hx hb hr hlk h dX3_cellsSmeared_32
def fX3_cellsOff_J53 (F : Nat) (sh : Nat → Option Nat) (Z : ZT) (kb : Int32 → Int32 → Option Int32) (x2 : Int32) (x3 : Int32) (x4 : Int32) (σ : Nat → Nat → Int32) : Option Int32 :=
  kb x2 (x4 + (1 : Int32))
def fX3_cellsOff_L13 (F : Nat) (sh : Nat → Option Nat) (Z : ZT) (σ : Nat → Nat → Int32) (x3 : Int32) (kx : Int32 → Option Int32) : Nat → Int32 → Int32 → Option Int32
  | 0, _, _ => none
  | n+1, x2, x4 =>
    nb ((fun x2 x4 => fX3_cellsOff_L13 F sh Z σ x3 kx n x2 x4)) fun kb =>
    if (4 : Int32) ≤ x4 then (kx x2) else (bd (fX3_isSmeared F sh Z σ x3 x4) fun v3 => if ¬ v3 = 0 then (fX3_cellsOff_J53 F sh Z kb x2 x3 x4 σ) else (bd (fX11_cellOf F x3 x4) fun v5 => aI (σ 15) 256 v5 fun v6 => bd (fX4_look F sh Z σ x3 x4) fun v7 => if v6 = v7 then (fX3_cellsOff_J53 F sh Z kb x2 x3 x4 σ) else (fX3_cellsOff_J53 F sh Z kb (x2 + (1 : Int32)) x3 x4 σ)))
def fX3_cellsOff_L4 (F : Nat) (sh : Nat → Option Nat) (Z : ZT) (σ : Nat → Nat → Int32) (kx : Int32 → Option Int32) : Nat → Int32 → Int32 → Option Int32
  | 0, _, _ => none
  | n+1, x2, x3 =>
    nb ((fun x2 x3 => fX3_cellsOff_L4 F sh Z σ kx n x2 x3)) fun kb =>
    if (64 : Int32) ≤ x3 then (kx x2) else (fX3_cellsOff_L13 F sh Z σ x3 (fun y2 => kb y2 (x3 + (1 : Int32))) F x2 (0 : Int32))
def fX3_cellsOff (F : Nat) (sh : Nat → Option Nat) (Z : ZT) (σ : Nat → Nat → Int32)  : Option Int32 :=
  fX3_cellsOff_L4 F sh Z σ (fun y1 => some y1) F (0 : Int32) (0 : Int32)
abbrev rmX3_cellsOff : Room := { frames := 4, cells := 0, slots := 0, locals := 87 }
theorem inX3_X3_cellsOff : ∀ w ∈ wsX30, w ∈ wsX3_cellsOff := by intro w h; simp only [wsX3_cellsOff, List.mem_cons, List.mem_append]; simp only [h, true_or, or_true]
set_option maxHeartbeats 4000000 in
set_option maxRecDepth 100000 in
theorem wX3_cellsOff_J53 {p : Program} {l : Launch} {e : Env} {s : State} {m : MethodId} {args : Array Value} {below : List Frame} {meth : Method} {c : Code} (C : cxt p s m args meth c cX3_cellsOff 5 RX3 wsX3_cellsOff (some .int)) {D : va_G} {cs : Nat → ClassId} {a : Nat → Nat} {sh : Nat → Option Nat} {LP : List Nat} {Z : ZT} (hZ : shOK sh LP Z) (hK : KK D cs s) {σ : Nat → Nat → Int32} (hP : va_P D vwCl (cW a cs sh LP Z σ) s.heap) (r : Int32) (F : Nat) (kb : Int32 → Int32 → Option Int32) (x2 : Int32) (x3 : Int32) (x4 : Int32) (hkb : ∀ (x2 : Int32) (x4 : Int32) (ls : Array Slot), lv_has ls 5 [(0, .ref (a 14)), (1, .ref (a 1)), (2, .int x2), (3, .int x3), (4, .int x4)] → kb x2 x4 = some r → W p l e rmX3_cellsOff s m args below meth c s.heap [] 0 0 (MQ below (vp_Si (fun x => x = r)) args s 0 0 (fun _ => False)) (F0 m 13 ls [])) (ls : Array Slot) (hl : lv_has ls 5 [(0, .ref (a 14)), (1, .ref (a 1)), (2, .int x2), (3, .int x3), (4, .int x4)]) (h : fX3_cellsOff_J53 F sh Z kb x2 x3 x4 σ = some r) : W p l e rmX3_cellsOff s m args below meth c s.heap [] 0 0 (MQ below (vp_Si (fun x => x = r)) args s 0 0 (fun _ => False)) (F0 m 53 ls []) := by
  obtain ⟨hx, hb, hml, hown, hts, hr, hlk⟩ := id C
  unfold fX3_cellsOff_J53 at h
  refine lv_iinc (v := x4 + (1 : Int32)) (lv' := [(4, .int (x4 + (1 : Int32))), (0, .ref (a 14)), (1, .ref (a 1)), (2, .int x2), (3, .int x3)]) hx hb dX3_cellsOff_53 hl (k := 4) rfl rfl (by decide) rfl (fun ls hl => ?_)
  refine lv_goto (tgt := 13) hx hb dX3_cellsOff_56 (by decide) ?_
  exact hkb x2 (x4 + (1 : Int32)) ls (lv_sub hl [1, 2, 3, 4, 0] rfl) h
set_option maxHeartbeats 4000000 in
set_option maxRecDepth 100000 in
theorem wX3_cellsOff_L13 {p : Program} {l : Launch} {e : Env} {s : State} {m : MethodId} {args : Array Value} {below : List Frame} {meth : Method} {c : Code} (C : cxt p s m args meth c cX3_cellsOff 5 RX3 wsX3_cellsOff (some .int)) {D : va_G} {cs : Nat → ClassId} {a : Nat → Nat} {sh : Nat → Option Nat} {LP : List Nat} {Z : ZT} (hZ : shOK sh LP Z) (hK : KK D cs s) {σ : Nat → Nat → Int32} (hP : va_P D vwCl (cW a cs sh LP Z σ) s.heap) (r : Int32) (F : Nat) (x3 : Int32) (kx : Int32 → Option Int32) (hkx : ∀ (x2 : Int32) (ls : Array Slot), lv_has ls 5 [(0, .ref (a 14)), (1, .ref (a 1)), (2, .int x2), (3, .int x3)] → kx x2 = some r → W p l e rmX3_cellsOff s m args below meth c s.heap [] 0 0 (MQ below (vp_Si (fun x => x = r)) args s 0 0 (fun _ => False)) (F0 m 59 ls [])) : ∀ (n : Nat) (x2 : Int32) (x4 : Int32) (ls : Array Slot), lv_has ls 5 [(0, .ref (a 14)), (1, .ref (a 1)), (2, .int x2), (3, .int x3), (4, .int x4)] → fX3_cellsOff_L13 F sh Z σ x3 kx n x2 x4 = some r → W p l e rmX3_cellsOff s m args below meth c s.heap [] 0 0 (MQ below (vp_Si (fun x => x = r)) args s 0 0 (fun _ => False)) (F0 m 13 ls []) := by
  obtain ⟨hx, hb, hml, hown, hts, hr, hlk⟩ := id C
  intro n
  induction n with
  | zero =>
    intros
    rename_i h
    cases h
  | succ n ih =>
    intro x2 x4 ls hl h
    rw [fX3_cellsOff_L13] at h
    obtain ⟨kb, hkb, h⟩ := nb_some (P := fun (kb : Int32 → Int32 → Option Int32) => ∀ (x2 : Int32) (x4 : Int32) (ls : Array Slot), lv_has ls 5 [(0, .ref (a 14)), (1, .ref (a 1)), (2, .int x2), (3, .int x3), (4, .int x4)] → kb x2 x4 = some r → W p l e rmX3_cellsOff s m args below meth c s.heap [] 0 0 (MQ below (vp_Si (fun x => x = r)) args s 0 0 (fun _ => False)) (F0 m 13 ls [])) h ih
    refine lv_iload hx hb dX3_cellsOff_13 (lv_at hl 4 rfl) ?_
    refine lv_iconst (v := (4 : Int32)) hx hb dX3_cellsOff_15 (by decide) ?_
    refine lv_icmp_ge (tgt := 59) hx hb dX3_cellsOff_16 (by decide) (fun c2 => ?_) (fun c2 => ?_)
    · have h := it_t c2 h
      exact hkx x2 ls (lv_sub hl [0, 1, 2, 3] rfl) h
    · have h := it_f c2 h
      refine lv_aload_n hx hb dX3_cellsOff_19 rfl (lv_at hl 0 rfl) ?_
      refine lv_iload_n hx hb dX3_cellsOff_20 rfl (lv_at hl 3 rfl) ?_
      refine lv_iload hx hb dX3_cellsOff_21 (lv_at hl 4 rfl) ?_
      obtain ⟨v3, hc_v3, h⟩ := bd_some h
      refine mcallSZ (va_runV (As := [.int x3, .int x4]) (rest := []) ⟨hx, hb, hml, hown, hts⟩ (kX3_isSmeared l D cs a sh LP Z hZ σ F x3 x4 v3 hc_v3) (cwV 2 hts gX3_cellsOff_X3_isSmeared rfl rfl rfl (by decide +kernel) ⟨Nat.le_of_ble_eq_true rfl, Nat.le_of_ble_eq_true rfl⟩) (pR_v hP hK (va_recv hK.1 hP (ci := 3) (q0 := 14) rfl rfl)) rfl rfl hl.1 rfl (lv_room (Nat.le_of_ble_eq_true rfl)) dX3_cellsOff_23 ⟨Nat.zero_le _, Nat.zero_le _⟩) (fun z_v3 => ?_)
      refine lv_if_ne (tgt := 53) hx hb dX3_cellsOff_26 (by decide) (fun c4 => ?_) (fun c4 => ?_)
      · have h := it_t c4 h
        exact wX3_cellsOff_J53 C hZ hK hP r F kb x2 x3 x4 hkb ls (lv_sub hl [0, 1, 2, 3, 4] rfl) h
      · have h := it_n c4 h
        refine lv_aload_n hx hb dX3_cellsOff_29 rfl (lv_at hl 0 rfl) ?_
        refine va_get (D := D) (ci := 3) (v := .ref (a 15)) (C := RX3) (T := TX3) (N := 2) hx hb hts inX3_X3_cellsOff hown hK.1 hP 14 rfl rfl 0 (by decide) (hts (.fieldLink RX3 9 "SandPalace$Photo" "colours" "[I") (by decide +kernel)) (fun _ h9 => h9) rfl dX3_cellsOff_30 ?_
        refine lv_iload_n hx hb dX3_cellsOff_33 rfl (lv_at hl 3 rfl) ?_
        refine lv_iload hx hb dX3_cellsOff_34 (lv_at hl 4 rfl) ?_
        obtain ⟨v5, hc_v5, h⟩ := bd_some h
        refine mcallS (va_runSN (As := [.int x3, .int x4]) (rest := [.ref (a 15)]) ⟨hx, hb, hml, hown, hts⟩ (kX11_cellOf l F x3 x4 v5 hc_v5) ⟨va_cnB (own := RX3) (host := "SandPalace") (index := 18) 2 hts gX3_cellsOff_X11_cellOf_n18 rfl rfl rfl (hK.2.1 ("SandPalace$Photo", 18, yX11_cellOf, "SandPalace") (by decide +kernel)) (hts (.initialized RX11) (by decide +kernel)) (by decide +kernel) ⟨Nat.le_of_ble_eq_true rfl, Nat.le_of_ble_eq_true rfl⟩, hts (.static yX11_cellOf) (by decide +kernel), trivial⟩ p0_s rfl rfl hl.1 rfl (lv_room (Nat.le_of_ble_eq_true rfl)) dX3_cellsOff_36 ⟨Nat.zero_le _, Nat.zero_le _⟩) ?_
        obtain ⟨v6, i_v6, e_v6, h⟩ := aI_some h
        refine miald hx hb hK.1 hP 15 0 rfl rfl i_v6 e_v6 dX3_cellsOff_39 ?_
        refine lv_aload_n hx hb dX3_cellsOff_40 rfl (lv_at hl 1 rfl) ?_
        refine lv_iload_n hx hb dX3_cellsOff_41 rfl (lv_at hl 3 rfl) ?_
        refine lv_iload hx hb dX3_cellsOff_42 (lv_at hl 4 rfl) ?_
        obtain ⟨v7, hc_v7, h⟩ := bd_some h
        refine mcallS (va_runV (As := [.int x3, .int x4]) (rest := [.int v6]) ⟨hx, hb, hml, hown, hts⟩ (kX4_look l D cs a sh LP Z hZ σ F x3 x4 v7 hc_v7) (cwV 2 hts gX3_cellsOff_X4_look rfl rfl rfl (by decide +kernel) ⟨Nat.le_of_ble_eq_true rfl, Nat.le_of_ble_eq_true rfl⟩) (pR_v hP hK (va_recv hK.1 hP (ci := 4) (q0 := 1) rfl rfl)) rfl rfl hl.1 rfl (lv_room (Nat.le_of_ble_eq_true rfl)) dX3_cellsOff_44 ⟨Nat.zero_le _, Nat.zero_le _⟩) ?_
        refine lv_icmp_eq (tgt := 53) hx hb dX3_cellsOff_47 (by decide) (fun c8 => ?_) (fun c8 => ?_)
        · have h := it_t c8 h
          exact wX3_cellsOff_J53 C hZ hK hP r F kb x2 x3 x4 hkb ls (lv_sub hl [0, 1, 2, 3, 4] rfl) h
        · have h := it_f c8 h
          refine lv_iinc (v := x2 + (1 : Int32)) (lv' := [(2, .int (x2 + (1 : Int32))), (0, .ref (a 14)), (1, .ref (a 1)), (3, .int x3), (4, .int x4)]) hx hb dX3_cellsOff_50 hl (k := 2) rfl rfl (by decide) rfl (fun ls hl => ?_)
          exact wX3_cellsOff_J53 C hZ hK hP r F kb (x2 + (1 : Int32)) x3 x4 hkb ls (lv_sub hl [1, 2, 0, 3, 4] rfl) h
set_option maxHeartbeats 4000000 in
set_option maxRecDepth 100000 in
theorem wX3_cellsOff_L4 {p : Program} {l : Launch} {e : Env} {s : State} {m : MethodId} {args : Array Value} {below : List Frame} {meth : Method} {c : Code} (C : cxt p s m args meth c cX3_cellsOff 5 RX3 wsX3_cellsOff (some .int)) {D : va_G} {cs : Nat → ClassId} {a : Nat → Nat} {sh : Nat → Option Nat} {LP : List Nat} {Z : ZT} (hZ : shOK sh LP Z) (hK : KK D cs s) {σ : Nat → Nat → Int32} (hP : va_P D vwCl (cW a cs sh LP Z σ) s.heap) (r : Int32) (F : Nat) (kx : Int32 → Option Int32) (hkx : ∀ (x2 : Int32) (ls : Array Slot), lv_has ls 5 [(2, .int x2)] → kx x2 = some r → W p l e rmX3_cellsOff s m args below meth c s.heap [] 0 0 (MQ below (vp_Si (fun x => x = r)) args s 0 0 (fun _ => False)) (F0 m 65 ls [])) : ∀ (n : Nat) (x2 : Int32) (x3 : Int32) (ls : Array Slot), lv_has ls 5 [(0, .ref (a 14)), (1, .ref (a 1)), (2, .int x2), (3, .int x3)] → fX3_cellsOff_L4 F sh Z σ kx n x2 x3 = some r → W p l e rmX3_cellsOff s m args below meth c s.heap [] 0 0 (MQ below (vp_Si (fun x => x = r)) args s 0 0 (fun _ => False)) (F0 m 4 ls []) := by
  obtain ⟨hx, hb, hml, hown, hts, hr, hlk⟩ := id C
  intro n
  induction n with
  | zero =>
    intros
    rename_i h
    cases h
  | succ n ih =>
    intro x2 x3 ls hl h
    rw [fX3_cellsOff_L4] at h
    obtain ⟨kb, hkb, h⟩ := nb_some (P := fun (kb : Int32 → Int32 → Option Int32) => ∀ (x2 : Int32) (x3 : Int32) (ls : Array Slot), lv_has ls 5 [(0, .ref (a 14)), (1, .ref (a 1)), (2, .int x2), (3, .int x3)] → kb x2 x3 = some r → W p l e rmX3_cellsOff s m args below meth c s.heap [] 0 0 (MQ below (vp_Si (fun x => x = r)) args s 0 0 (fun _ => False)) (F0 m 4 ls [])) h ih
    refine lv_iload_n hx hb dX3_cellsOff_4 rfl (lv_at hl 3 rfl) ?_
    refine lv_bipush (v := (64 : Int32)) hx hb dX3_cellsOff_5 (by decide) ?_
    refine lv_icmp_ge (tgt := 65) hx hb dX3_cellsOff_7 (by decide) (fun c1 => ?_) (fun c1 => ?_)
    · have h := it_t c1 h
      exact hkx x2 ls (lv_sub hl [2] rfl) h
    · have h := it_f c1 h
      refine lv_iconst (v := (0 : Int32)) hx hb dX3_cellsOff_10 (by decide) ?_
      refine lv_istore (lv' := [(4, .int (0 : Int32)), (0, .ref (a 14)), (1, .ref (a 1)), (2, .int x2), (3, .int x3)]) hx hb dX3_cellsOff_11 hl (by decide) rfl (fun ls hl => ?_)
      refine wX3_cellsOff_L13 C hZ hK hP r F x3 _ ?_ F x2 (0 : Int32) ls (lv_sub hl [1, 2, 3, 4, 0] rfl) h
      intro y2 ls hl h
      refine lv_iinc (v := x3 + (1 : Int32)) (lv' := [(3, .int (x3 + (1 : Int32))), (0, .ref (a 14)), (1, .ref (a 1)), (2, .int y2)]) hx hb dX3_cellsOff_59 hl (k := 3) rfl rfl (by decide) rfl (fun ls hl => ?_)
      refine lv_goto (tgt := 4) hx hb dX3_cellsOff_62 (by decide) ?_
      exact hkb y2 (x3 + (1 : Int32)) ls (lv_sub hl [1, 2, 3, 0] rfl) h
set_option maxHeartbeats 4000000 in
set_option maxRecDepth 100000 in
theorem kX3_cellsOff (l : Launch) (D : va_G) (cs : Nat → ClassId) (a : Nat → Nat) (sh : Nat → Option Nat) (LP : List Nat) (Z : ZT) (hZ : shOK sh LP Z) (σ : Nat → Nat → Int32) (F : Nat)  (r : Int32) (h : fX3_cellsOff F sh Z σ = some r) : Met l yX3_cellsOff wsX3_cellsOff rmX3_cellsOff (va_Pc [.ref (a 14), .ref (a 1)] (pR D cs (cW a cs sh LP Z σ))) (vp_Si (fun x => x = r)) 0 0 (fun _ => False) := by
  refine Met.ofW (cc := cX3_cellsOff) (maxL := 5) (ret := (some .int)) (by decide) rfl ?_
  intro p e s m args below meth c s₁ B hml hv
  obtain ⟨rfl, hP, hK⟩ := hv
  have C : cxt p s m _ meth c cX3_cellsOff 5 RX3 wsX3_cellsOff (some .int) := ⟨B.exec, B.bytes, hml, findClass_of_methodNamed B.named, atoms_spec (ws := wsX3_cellsOff) B.pre, B.returns, B.notSynchronized⟩
  obtain ⟨hx, hb, -, hown, hts, hr, hlk⟩ := id C
  refine entryW [.ref (a 14), .ref (a 1)] (n := 5) (Nat.le_of_ble_eq_true rfl) (fun ls hl => ?_)
  have hl : lv_has ls 5 [(0, .ref (a 14)), (1, .ref (a 1))] := hl
  unfold fX3_cellsOff at h
  refine lv_iconst (v := (0 : Int32)) hx hb dX3_cellsOff_0 (by decide) ?_
  refine lv_istore_n (lv' := [(2, .int (0 : Int32)), (0, .ref (a 14)), (1, .ref (a 1))]) hx hb dX3_cellsOff_1 rfl hl (by decide) rfl (fun ls hl => ?_)
  refine lv_iconst (v := (0 : Int32)) hx hb dX3_cellsOff_2 (by decide) ?_
  refine lv_istore_n (lv' := [(3, .int (0 : Int32)), (2, .int (0 : Int32)), (0, .ref (a 14)), (1, .ref (a 1))]) hx hb dX3_cellsOff_3 rfl hl (by decide) rfl (fun ls hl => ?_)
  refine wX3_cellsOff_L4 C hZ hK hP r F  _ ?_ F (0 : Int32) (0 : Int32) ls (lv_sub hl [2, 3, 1, 0] rfl) h
  intro y1 ls hl h
  refine lv_iload_n hx hb dX3_cellsOff_65 rfl (lv_at hl 0 rfl) ?_
  exact mretS hx hb hr hlk h dX3_cellsOff_66
def fX3_cellsToldBackAs_J57 (F : Nat) (sh : Nat → Option Nat) (Z : ZT) (kb : Int32 → Int32 → Option Int32) (x1 : Int32) (x3 : Int32) (x4 : Int32) (x5 : Int32) (x6 : Int32) (σ : Nat → Nat → Int32) : Option Int32 :=
  kb x3 (x6 + (1 : Int32))
def fX3_cellsToldBackAs_L23 (F : Nat) (sh : Nat → Option Nat) (Z : ZT) (σ : Nat → Nat → Int32) (x1 : Int32) (x4 : Int32) (x5 : Int32) (kx : Int32 → Option Int32) : Nat → Int32 → Int32 → Option Int32
  | 0, _, _ => none
  | n+1, x3, x6 =>
    nb ((fun x3 x6 => fX3_cellsToldBackAs_L23 F sh Z σ x1 x4 x5 kx n x3 x6)) fun kb =>
    if (4 : Int32) ≤ x6 then (kx x3) else (bd (fX3_isSmeared F sh Z σ x4 x6) fun v4 => if v4 = 0 then (fX3_cellsToldBackAs_J57 F sh Z kb x1 x3 x4 x5 x6 σ) else (bd (fX3_toldBack F sh Z σ x4 x6 x5) fun v6 => if ¬ v6 = x1 then (fX3_cellsToldBackAs_J57 F sh Z kb x1 x3 x4 x5 x6 σ) else (fX3_cellsToldBackAs_J57 F sh Z kb x1 (x3 + (1 : Int32)) x4 x5 x6 σ)))
def fX3_cellsToldBackAs_L5 (F : Nat) (sh : Nat → Option Nat) (Z : ZT) (σ : Nat → Nat → Int32) (x1 : Int32) (kx : Int32 → Option Int32) : Nat → Int32 → Int32 → Option Int32
  | 0, _, _ => none
  | n+1, x3, x4 =>
    nb ((fun x3 x4 => fX3_cellsToldBackAs_L5 F sh Z σ x1 kx n x3 x4)) fun kb =>
    if (64 : Int32) ≤ x4 then (kx x3) else (bd (fX4_stepOfPlace F sh Z σ x4) fun v2 => fX3_cellsToldBackAs_L23 F sh Z σ x1 x4 v2 (fun y3 => kb y3 (x4 + (1 : Int32))) F x3 (0 : Int32))
def fX3_cellsToldBackAs (F : Nat) (sh : Nat → Option Nat) (Z : ZT) (σ : Nat → Nat → Int32) (x1 : Int32) : Option Int32 :=
  fX3_cellsToldBackAs_L5 F sh Z σ x1 (fun y1 => some y1) F (0 : Int32) (0 : Int32)
abbrev rmX3_cellsToldBackAs : Room := { frames := 3, cells := 0, slots := 0, locals := 73 }
set_option maxHeartbeats 4000000 in
set_option maxRecDepth 100000 in
theorem wX3_cellsToldBackAs_J57 {p : Program} {l : Launch} {e : Env} {s : State} {m : MethodId} {args : Array Value} {below : List Frame} {meth : Method} {c : Code} (C : cxt p s m args meth c cX3_cellsToldBackAs 7 RX3 wsX3_cellsToldBackAs (some .int)) {D : va_G} {cs : Nat → ClassId} {a : Nat → Nat} {sh : Nat → Option Nat} {LP : List Nat} {Z : ZT} (hZ : shOK sh LP Z) (hK : KK D cs s) {σ : Nat → Nat → Int32} (hP : va_P D vwCl (cW a cs sh LP Z σ) s.heap) (r : Int32) (F : Nat) (kb : Int32 → Int32 → Option Int32) (x1 : Int32) (x3 : Int32) (x4 : Int32) (x5 : Int32) (x6 : Int32) (hkb : ∀ (x3 : Int32) (x6 : Int32) (ls : Array Slot), lv_has ls 7 [(0, .ref (a 14)), (1, .int x1), (2, .ref (a 1)), (3, .int x3), (4, .int x4), (5, .int x5), (6, .int x6)] → kb x3 x6 = some r → W p l e rmX3_cellsToldBackAs s m args below meth c s.heap [] 0 0 (MQ below (vp_Si (fun x => x = r)) args s 0 0 (fun _ => False)) (F0 m 23 ls [])) (ls : Array Slot) (hl : lv_has ls 7 [(0, .ref (a 14)), (1, .int x1), (2, .ref (a 1)), (3, .int x3), (4, .int x4), (5, .int x5), (6, .int x6)]) (h : fX3_cellsToldBackAs_J57 F sh Z kb x1 x3 x4 x5 x6 σ = some r) : W p l e rmX3_cellsToldBackAs s m args below meth c s.heap [] 0 0 (MQ below (vp_Si (fun x => x = r)) args s 0 0 (fun _ => False)) (F0 m 57 ls []) := by
  obtain ⟨hx, hb, hml, hown, hts, hr, hlk⟩ := id C
  unfold fX3_cellsToldBackAs_J57 at h
  refine lv_iinc (v := x6 + (1 : Int32)) (lv' := [(6, .int (x6 + (1 : Int32))), (0, .ref (a 14)), (1, .int x1), (2, .ref (a 1)), (3, .int x3), (4, .int x4), (5, .int x5)]) hx hb dX3_cellsToldBackAs_57 hl (k := 6) rfl rfl (by decide) rfl (fun ls hl => ?_)
  refine lv_goto (tgt := 23) hx hb dX3_cellsToldBackAs_60 (by decide) ?_
  exact hkb x3 (x6 + (1 : Int32)) ls (lv_sub hl [1, 2, 3, 4, 5, 6, 0] rfl) h
set_option maxHeartbeats 4000000 in
set_option maxRecDepth 100000 in
theorem wX3_cellsToldBackAs_L23 {p : Program} {l : Launch} {e : Env} {s : State} {m : MethodId} {args : Array Value} {below : List Frame} {meth : Method} {c : Code} (C : cxt p s m args meth c cX3_cellsToldBackAs 7 RX3 wsX3_cellsToldBackAs (some .int)) {D : va_G} {cs : Nat → ClassId} {a : Nat → Nat} {sh : Nat → Option Nat} {LP : List Nat} {Z : ZT} (hZ : shOK sh LP Z) (hK : KK D cs s) {σ : Nat → Nat → Int32} (hP : va_P D vwCl (cW a cs sh LP Z σ) s.heap) (r : Int32) (F : Nat) (x1 : Int32) (x4 : Int32) (x5 : Int32) (kx : Int32 → Option Int32) (hkx : ∀ (x3 : Int32) (ls : Array Slot), lv_has ls 7 [(0, .ref (a 14)), (1, .int x1), (2, .ref (a 1)), (3, .int x3), (4, .int x4)] → kx x3 = some r → W p l e rmX3_cellsToldBackAs s m args below meth c s.heap [] 0 0 (MQ below (vp_Si (fun x => x = r)) args s 0 0 (fun _ => False)) (F0 m 63 ls [])) : ∀ (n : Nat) (x3 : Int32) (x6 : Int32) (ls : Array Slot), lv_has ls 7 [(0, .ref (a 14)), (1, .int x1), (2, .ref (a 1)), (3, .int x3), (4, .int x4), (5, .int x5), (6, .int x6)] → fX3_cellsToldBackAs_L23 F sh Z σ x1 x4 x5 kx n x3 x6 = some r → W p l e rmX3_cellsToldBackAs s m args below meth c s.heap [] 0 0 (MQ below (vp_Si (fun x => x = r)) args s 0 0 (fun _ => False)) (F0 m 23 ls []) := by
  obtain ⟨hx, hb, hml, hown, hts, hr, hlk⟩ := id C
  intro n
  induction n with
  | zero =>
    intros
    rename_i h
    cases h
  | succ n ih =>
    intro x3 x6 ls hl h
    rw [fX3_cellsToldBackAs_L23] at h
    obtain ⟨kb, hkb, h⟩ := nb_some (P := fun (kb : Int32 → Int32 → Option Int32) => ∀ (x3 : Int32) (x6 : Int32) (ls : Array Slot), lv_has ls 7 [(0, .ref (a 14)), (1, .int x1), (2, .ref (a 1)), (3, .int x3), (4, .int x4), (5, .int x5), (6, .int x6)] → kb x3 x6 = some r → W p l e rmX3_cellsToldBackAs s m args below meth c s.heap [] 0 0 (MQ below (vp_Si (fun x => x = r)) args s 0 0 (fun _ => False)) (F0 m 23 ls [])) h ih
    refine lv_iload hx hb dX3_cellsToldBackAs_23 (lv_at hl 6 rfl) ?_
    refine lv_iconst (v := (4 : Int32)) hx hb dX3_cellsToldBackAs_25 (by decide) ?_
    refine lv_icmp_ge (tgt := 63) hx hb dX3_cellsToldBackAs_26 (by decide) (fun c3 => ?_) (fun c3 => ?_)
    · have h := it_t c3 h
      exact hkx x3 ls (lv_sub hl [0, 1, 2, 3, 4] rfl) h
    · have h := it_f c3 h
      refine lv_aload_n hx hb dX3_cellsToldBackAs_29 rfl (lv_at hl 0 rfl) ?_
      refine lv_iload hx hb dX3_cellsToldBackAs_30 (lv_at hl 4 rfl) ?_
      refine lv_iload hx hb dX3_cellsToldBackAs_32 (lv_at hl 6 rfl) ?_
      obtain ⟨v4, hc_v4, h⟩ := bd_some h
      refine mcallSZ (va_runV (As := [.int x4, .int x6]) (rest := []) ⟨hx, hb, hml, hown, hts⟩ (kX3_isSmeared l D cs a sh LP Z hZ σ F x4 x6 v4 hc_v4) (cwV 2 hts gX3_cellsToldBackAs_X3_isSmeared rfl rfl rfl (by decide +kernel) ⟨Nat.le_of_ble_eq_true rfl, Nat.le_of_ble_eq_true rfl⟩) (pR_v hP hK (va_recv hK.1 hP (ci := 3) (q0 := 14) rfl rfl)) rfl rfl hl.1 rfl (lv_room (Nat.le_of_ble_eq_true rfl)) dX3_cellsToldBackAs_34 ⟨Nat.zero_le _, Nat.zero_le _⟩) (fun z_v4 => ?_)
      refine lv_if_eq (tgt := 57) hx hb dX3_cellsToldBackAs_37 (by decide) (fun c5 => ?_) (fun c5 => ?_)
      · have h := it_t c5 h
        exact wX3_cellsToldBackAs_J57 C hZ hK hP r F kb x1 x3 x4 x5 x6 hkb ls (lv_sub hl [0, 1, 2, 3, 4, 5, 6] rfl) h
      · have h := it_f c5 h
        refine lv_aload_n hx hb dX3_cellsToldBackAs_40 rfl (lv_at hl 0 rfl) ?_
        refine lv_iload hx hb dX3_cellsToldBackAs_41 (lv_at hl 4 rfl) ?_
        refine lv_iload hx hb dX3_cellsToldBackAs_43 (lv_at hl 6 rfl) ?_
        refine lv_iload hx hb dX3_cellsToldBackAs_45 (lv_at hl 5 rfl) ?_
        obtain ⟨v6, hc_v6, h⟩ := bd_some h
        refine mcallS (va_runV (As := [.int x4, .int x6, .int x5]) (rest := []) ⟨hx, hb, hml, hown, hts⟩ (kX3_toldBack l D cs a sh LP Z hZ σ F x4 x6 x5 v6 hc_v6) (cwV 3 hts gX3_cellsToldBackAs_X3_toldBack rfl rfl rfl (by decide +kernel) ⟨Nat.le_of_ble_eq_true rfl, Nat.le_of_ble_eq_true rfl⟩) (pR_v hP hK (va_recv hK.1 hP (ci := 3) (q0 := 14) rfl rfl)) rfl rfl hl.1 rfl (lv_room (Nat.le_of_ble_eq_true rfl)) dX3_cellsToldBackAs_47 ⟨Nat.zero_le _, Nat.zero_le _⟩) ?_
        refine lv_iload_n hx hb dX3_cellsToldBackAs_50 rfl (lv_at hl 1 rfl) ?_
        refine lv_icmp_ne (tgt := 57) hx hb dX3_cellsToldBackAs_51 (by decide) (fun c7 => ?_) (fun c7 => ?_)
        · have h := it_t c7 h
          exact wX3_cellsToldBackAs_J57 C hZ hK hP r F kb x1 x3 x4 x5 x6 hkb ls (lv_sub hl [0, 1, 2, 3, 4, 5, 6] rfl) h
        · have h := it_n c7 h
          refine lv_iinc (v := x3 + (1 : Int32)) (lv' := [(3, .int (x3 + (1 : Int32))), (0, .ref (a 14)), (1, .int x1), (2, .ref (a 1)), (4, .int x4), (5, .int x5), (6, .int x6)]) hx hb dX3_cellsToldBackAs_54 hl (k := 3) rfl rfl (by decide) rfl (fun ls hl => ?_)
          exact wX3_cellsToldBackAs_J57 C hZ hK hP r F kb x1 (x3 + (1 : Int32)) x4 x5 x6 hkb ls (lv_sub hl [1, 2, 3, 0, 4, 5, 6] rfl) h
set_option maxHeartbeats 4000000 in
set_option maxRecDepth 100000 in
theorem wX3_cellsToldBackAs_L5 {p : Program} {l : Launch} {e : Env} {s : State} {m : MethodId} {args : Array Value} {below : List Frame} {meth : Method} {c : Code} (C : cxt p s m args meth c cX3_cellsToldBackAs 7 RX3 wsX3_cellsToldBackAs (some .int)) {D : va_G} {cs : Nat → ClassId} {a : Nat → Nat} {sh : Nat → Option Nat} {LP : List Nat} {Z : ZT} (hZ : shOK sh LP Z) (hK : KK D cs s) {σ : Nat → Nat → Int32} (hP : va_P D vwCl (cW a cs sh LP Z σ) s.heap) (r : Int32) (F : Nat) (x1 : Int32) (kx : Int32 → Option Int32) (hkx : ∀ (x3 : Int32) (ls : Array Slot), lv_has ls 7 [(3, .int x3)] → kx x3 = some r → W p l e rmX3_cellsToldBackAs s m args below meth c s.heap [] 0 0 (MQ below (vp_Si (fun x => x = r)) args s 0 0 (fun _ => False)) (F0 m 69 ls [])) : ∀ (n : Nat) (x3 : Int32) (x4 : Int32) (ls : Array Slot), lv_has ls 7 [(0, .ref (a 14)), (1, .int x1), (2, .ref (a 1)), (3, .int x3), (4, .int x4)] → fX3_cellsToldBackAs_L5 F sh Z σ x1 kx n x3 x4 = some r → W p l e rmX3_cellsToldBackAs s m args below meth c s.heap [] 0 0 (MQ below (vp_Si (fun x => x = r)) args s 0 0 (fun _ => False)) (F0 m 5 ls []) := by
  obtain ⟨hx, hb, hml, hown, hts, hr, hlk⟩ := id C
  intro n
  induction n with
  | zero =>
    intros
    rename_i h
    cases h
  | succ n ih =>
    intro x3 x4 ls hl h
    rw [fX3_cellsToldBackAs_L5] at h
    obtain ⟨kb, hkb, h⟩ := nb_some (P := fun (kb : Int32 → Int32 → Option Int32) => ∀ (x3 : Int32) (x4 : Int32) (ls : Array Slot), lv_has ls 7 [(0, .ref (a 14)), (1, .int x1), (2, .ref (a 1)), (3, .int x3), (4, .int x4)] → kb x3 x4 = some r → W p l e rmX3_cellsToldBackAs s m args below meth c s.heap [] 0 0 (MQ below (vp_Si (fun x => x = r)) args s 0 0 (fun _ => False)) (F0 m 5 ls [])) h ih
    refine lv_iload hx hb dX3_cellsToldBackAs_5 (lv_at hl 4 rfl) ?_
    refine lv_bipush (v := (64 : Int32)) hx hb dX3_cellsToldBackAs_7 (by decide) ?_
    refine lv_icmp_ge (tgt := 69) hx hb dX3_cellsToldBackAs_9 (by decide) (fun c1 => ?_) (fun c1 => ?_)
    · have h := it_t c1 h
      exact hkx x3 ls (lv_sub hl [3] rfl) h
    · have h := it_f c1 h
      refine lv_aload_n hx hb dX3_cellsToldBackAs_12 rfl (lv_at hl 2 rfl) ?_
      refine lv_iload hx hb dX3_cellsToldBackAs_13 (lv_at hl 4 rfl) ?_
      obtain ⟨v2, hc_v2, h⟩ := bd_some h
      refine mcallS (va_runV (As := [.int x4]) (rest := []) ⟨hx, hb, hml, hown, hts⟩ (kX4_stepOfPlace l D cs a sh LP Z hZ σ F x4 v2 hc_v2) (cwV 1 hts gX3_cellsToldBackAs_X4_stepOfPlace rfl rfl rfl (by decide +kernel) ⟨Nat.le_of_ble_eq_true rfl, Nat.le_of_ble_eq_true rfl⟩) (pR_v hP hK (va_recv hK.1 hP (ci := 4) (q0 := 1) rfl rfl)) rfl rfl hl.1 rfl (lv_room (Nat.le_of_ble_eq_true rfl)) dX3_cellsToldBackAs_15 ⟨Nat.zero_le _, Nat.zero_le _⟩) ?_
      refine lv_istore (lv' := [(5, .int v2), (0, .ref (a 14)), (1, .int x1), (2, .ref (a 1)), (3, .int x3), (4, .int x4)]) hx hb dX3_cellsToldBackAs_18 hl (by decide) rfl (fun ls hl => ?_)
      refine lv_iconst (v := (0 : Int32)) hx hb dX3_cellsToldBackAs_20 (by decide) ?_
      refine lv_istore (lv' := [(6, .int (0 : Int32)), (5, .int v2), (0, .ref (a 14)), (1, .int x1), (2, .ref (a 1)), (3, .int x3), (4, .int x4)]) hx hb dX3_cellsToldBackAs_21 hl (by decide) rfl (fun ls hl => ?_)
      refine wX3_cellsToldBackAs_L23 C hZ hK hP r F x1 x4 v2 _ ?_ F x3 (0 : Int32) ls (lv_sub hl [2, 3, 4, 5, 6, 1, 0] rfl) h
      intro y3 ls hl h
      refine lv_iinc (v := x4 + (1 : Int32)) (lv' := [(4, .int (x4 + (1 : Int32))), (0, .ref (a 14)), (1, .int x1), (2, .ref (a 1)), (3, .int y3)]) hx hb dX3_cellsToldBackAs_63 hl (k := 4) rfl rfl (by decide) rfl (fun ls hl => ?_)
      refine lv_goto (tgt := 5) hx hb dX3_cellsToldBackAs_66 (by decide) ?_
      exact hkb y3 (x4 + (1 : Int32)) ls (lv_sub hl [1, 2, 3, 4, 0] rfl) h
set_option maxHeartbeats 4000000 in
set_option maxRecDepth 100000 in
theorem kX3_cellsToldBackAs (l : Launch) (D : va_G) (cs : Nat → ClassId) (a : Nat → Nat) (sh : Nat → Option Nat) (LP : List Nat) (Z : ZT) (hZ : shOK sh LP Z) (σ : Nat → Nat → Int32) (F : Nat) (x1 : Int32) (r : Int32) (h : fX3_cellsToldBackAs F sh Z σ x1 = some r) : Met l yX3_cellsToldBackAs wsX3_cellsToldBackAs rmX3_cellsToldBackAs (va_Pc [.ref (a 14), .int x1, .ref (a 1)] (pR D cs (cW a cs sh LP Z σ))) (vp_Si (fun x => x = r)) 0 0 (fun _ => False) := by
  refine Met.ofW (cc := cX3_cellsToldBackAs) (maxL := 7) (ret := (some .int)) (by decide) rfl ?_
  intro p e s m args below meth c s₁ B hml hv
  obtain ⟨rfl, hP, hK⟩ := hv
  have C : cxt p s m _ meth c cX3_cellsToldBackAs 7 RX3 wsX3_cellsToldBackAs (some .int) := ⟨B.exec, B.bytes, hml, findClass_of_methodNamed B.named, atoms_spec (ws := wsX3_cellsToldBackAs) B.pre, B.returns, B.notSynchronized⟩
  obtain ⟨hx, hb, -, hown, hts, hr, hlk⟩ := id C
  refine entryW [.ref (a 14), .int x1, .ref (a 1)] (n := 7) (Nat.le_of_ble_eq_true rfl) (fun ls hl => ?_)
  have hl : lv_has ls 7 [(0, .ref (a 14)), (1, .int x1), (2, .ref (a 1))] := hl
  unfold fX3_cellsToldBackAs at h
  refine lv_iconst (v := (0 : Int32)) hx hb dX3_cellsToldBackAs_0 (by decide) ?_
  refine lv_istore_n (lv' := [(3, .int (0 : Int32)), (0, .ref (a 14)), (1, .int x1), (2, .ref (a 1))]) hx hb dX3_cellsToldBackAs_1 rfl hl (by decide) rfl (fun ls hl => ?_)
  refine lv_iconst (v := (0 : Int32)) hx hb dX3_cellsToldBackAs_2 (by decide) ?_
  refine lv_istore (lv' := [(4, .int (0 : Int32)), (3, .int (0 : Int32)), (0, .ref (a 14)), (1, .int x1), (2, .ref (a 1))]) hx hb dX3_cellsToldBackAs_3 hl (by decide) rfl (fun ls hl => ?_)
  refine wX3_cellsToldBackAs_L5 C hZ hK hP r F x1 _ ?_ F (0 : Int32) (0 : Int32) ls (lv_sub hl [2, 3, 4, 1, 0] rfl) h
  intro y1 ls hl h
  refine lv_iload_n hx hb dX3_cellsToldBackAs_69 rfl (lv_at hl 0 rfl) ?_
  exact mretS hx hb hr hlk h dX3_cellsToldBackAs_70
def fX11_quarterOf (x0 : Int32) (x1 : Int32) : Option Int32 :=
  if x1 < (8 : Int32) then (if x0 < (8 : Int32) then (some (2 : Int32)) else (some (3 : Int32))) else (if x0 < (8 : Int32) then (some (1 : Int32)) else (some (0 : Int32)))
abbrev rmX11_quarterOf : Room := { frames := 0, cells := 0, slots := 0, locals := 0 }
set_option maxHeartbeats 4000000 in
set_option maxRecDepth 100000 in
theorem kX11_quarterOf (l : Launch) (x0 : Int32) (x1 : Int32) (r : Int32) (h : fX11_quarterOf x0 x1 = some r) : Met l yX11_quarterOf wsX11_quarterOf rmX11_quarterOf (va_Pc [.int x0, .int x1] (p0)) (vp_Si (fun x => x = r)) 0 0 (fun _ => False) := by
  refine Met.ofW (cc := cX11_quarterOf) (maxL := 2) (ret := (some .int)) (by decide) rfl ?_
  intro p e s m args below meth c s₁ B hml hv
  obtain ⟨rfl, -⟩ := hv
  have C : cxt p s m _ meth c cX11_quarterOf 2 RX11 wsX11_quarterOf (some .int) := ⟨B.exec, B.bytes, hml, findClass_of_methodNamed B.named, atoms_spec (ws := wsX11_quarterOf) B.pre, B.returns, B.notSynchronized⟩
  obtain ⟨hx, hb, -, hown, hts, hr, hlk⟩ := id C
  refine entryW [.int x0, .int x1] (n := 2) (Nat.le_of_ble_eq_true rfl) (fun ls hl => ?_)
  have hl : lv_has ls 2 [(0, .int x0), (1, .int x1)] := hl
  unfold fX11_quarterOf at h
  refine lv_iload_n hx hb dX11_quarterOf_0 rfl (lv_at hl 1 rfl) ?_
  refine lv_bipush (v := (8 : Int32)) hx hb dX11_quarterOf_1 (by decide) ?_
  refine lv_icmp_lt (tgt := 18) hx hb dX11_quarterOf_3 (by decide) (fun c1 => ?_) (fun c1 => ?_)
  · have h := it_t c1 h
    refine lv_iload_n hx hb dX11_quarterOf_18 rfl (lv_at hl 0 rfl) ?_
    refine lv_bipush (v := (8 : Int32)) hx hb dX11_quarterOf_19 (by decide) ?_
    refine lv_icmp_lt (tgt := 28) hx hb dX11_quarterOf_21 (by decide) (fun c2 => ?_) (fun c2 => ?_)
    · have h := it_t c2 h
      refine lv_iconst (v := (2 : Int32)) hx hb dX11_quarterOf_28 (by decide) ?_
      exact mretS hx hb hr hlk h dX11_quarterOf_29
    · have h := it_f c2 h
      refine lv_iconst (v := (3 : Int32)) hx hb dX11_quarterOf_24 (by decide) ?_
      refine lv_goto (tgt := 29) hx hb dX11_quarterOf_25 (by decide) ?_
      exact mretS hx hb hr hlk h dX11_quarterOf_29
  · have h := it_f c1 h
    refine lv_iload_n hx hb dX11_quarterOf_6 rfl (lv_at hl 0 rfl) ?_
    refine lv_bipush (v := (8 : Int32)) hx hb dX11_quarterOf_7 (by decide) ?_
    refine lv_icmp_lt (tgt := 16) hx hb dX11_quarterOf_9 (by decide) (fun c3 => ?_) (fun c3 => ?_)
    · have h := it_t c3 h
      refine lv_iconst (v := (1 : Int32)) hx hb dX11_quarterOf_16 (by decide) ?_
      exact mretS hx hb hr hlk h dX11_quarterOf_17
    · have h := it_f c3 h
      refine lv_iconst (v := (0 : Int32)) hx hb dX11_quarterOf_12 (by decide) ?_
      refine lv_goto (tgt := 17) hx hb dX11_quarterOf_13 (by decide) ?_
      exact mretS hx hb hr hlk h dX11_quarterOf_17
def fX11_placeOf_L11 (F : Nat) (kx : Int32 → Int32 → Option Int32) : Nat → Int32 → Int32 → Int32 → Option Int32
  | 0, _, _, _ => none
  | n+1, x2, x3, x4 =>
    nb ((fun x2 x3 x4 => fX11_placeOf_L11 F kx n x2 x3 x4)) fun kb =>
    if x4 ≤ 0 then (kx x2 x3) else (kb x3 ((15 : Int32) - x2) (x4 + ((-1) : Int32)))
def fX11_placeOf (F : Nat) (x0 : Int32) (x1 : Int32) : Option Int32 :=
  bd (fX11_quarterOf x0 x1) fun v1 => fX11_placeOf_L11 F (fun y2 y3 => some ((((8 : Int32) * (y3 - (8 : Int32))) + y2) - (8 : Int32))) F x0 x1 v1
abbrev rmX11_placeOf : Room := { frames := 1, cells := 0, slots := 0, locals := 21 }
set_option maxHeartbeats 4000000 in
set_option maxRecDepth 100000 in
theorem wX11_placeOf_L11 {p : Program} {l : Launch} {e : Env} {s : State} {m : MethodId} {args : Array Value} {below : List Frame} {meth : Method} {c : Code} (C : cxt p s m args meth c cX11_placeOf 6 RX11 wsX11_placeOf (some .int)) (r : Int32) (F : Nat) (kx : Int32 → Int32 → Option Int32) (hkx : ∀ (x2 : Int32) (x3 : Int32) (ls : Array Slot), lv_has ls 6 [(2, .int x2), (3, .int x3)] → kx x2 x3 = some r → W p l e rmX11_placeOf s m args below meth c s.heap [] 0 0 (MQ below (vp_Si (fun x => x = r)) args s 0 0 (fun _ => False)) (F0 m 33 ls [])) : ∀ (n : Nat) (x2 : Int32) (x3 : Int32) (x4 : Int32) (ls : Array Slot), lv_has ls 6 [(2, .int x2), (3, .int x3), (4, .int x4)] → fX11_placeOf_L11 F kx n x2 x3 x4 = some r → W p l e rmX11_placeOf s m args below meth c s.heap [] 0 0 (MQ below (vp_Si (fun x => x = r)) args s 0 0 (fun _ => False)) (F0 m 11 ls []) := by
  obtain ⟨hx, hb, hml, hown, hts, hr, hlk⟩ := id C
  intro n
  induction n with
  | zero =>
    intros
    rename_i h
    cases h
  | succ n ih =>
    intro x2 x3 x4 ls hl h
    rw [fX11_placeOf_L11] at h
    obtain ⟨kb, hkb, h⟩ := nb_some (P := fun (kb : Int32 → Int32 → Int32 → Option Int32) => ∀ (x2 : Int32) (x3 : Int32) (x4 : Int32) (ls : Array Slot), lv_has ls 6 [(2, .int x2), (3, .int x3), (4, .int x4)] → kb x2 x3 x4 = some r → W p l e rmX11_placeOf s m args below meth c s.heap [] 0 0 (MQ below (vp_Si (fun x => x = r)) args s 0 0 (fun _ => False)) (F0 m 11 ls [])) h ih
    refine lv_iload hx hb dX11_placeOf_11 (lv_at hl 2 rfl) ?_
    refine lv_if_le (tgt := 33) hx hb dX11_placeOf_13 (by decide) (fun c2 => ?_) (fun c2 => ?_)
    · have h := it_t c2 h
      exact hkx x2 x3 ls (lv_sub hl [0, 1] rfl) h
    · have h := it_f c2 h
      refine lv_bipush (v := (15 : Int32)) hx hb dX11_placeOf_16 (by decide) ?_
      refine lv_iload_n hx hb dX11_placeOf_18 rfl (lv_at hl 0 rfl) ?_
      refine lv_isub hx hb dX11_placeOf_19 ?_
      refine lv_istore (lv' := [(5, .int ((15 : Int32) - x2)), (2, .int x2), (3, .int x3), (4, .int x4)]) hx hb dX11_placeOf_20 hl (by decide) rfl (fun ls hl => ?_)
      refine lv_iload_n hx hb dX11_placeOf_22 rfl (lv_at hl 2 rfl) ?_
      refine lv_istore_n (lv' := [(2, .int x3), (5, .int ((15 : Int32) - x2)), (3, .int x3), (4, .int x4)]) hx hb dX11_placeOf_23 rfl hl (by decide) rfl (fun ls hl => ?_)
      refine lv_iload hx hb dX11_placeOf_24 (lv_at hl 1 rfl) ?_
      refine lv_istore_n (lv' := [(3, .int ((15 : Int32) - x2)), (2, .int x3), (5, .int ((15 : Int32) - x2)), (4, .int x4)]) hx hb dX11_placeOf_26 rfl hl (by decide) rfl (fun ls hl => ?_)
      refine lv_iinc (v := x4 + ((-1) : Int32)) (lv' := [(4, .int (x4 + ((-1) : Int32))), (3, .int ((15 : Int32) - x2)), (2, .int x3), (5, .int ((15 : Int32) - x2))]) hx hb dX11_placeOf_27 hl (k := 3) rfl rfl (by decide) rfl (fun ls hl => ?_)
      refine lv_goto (tgt := 11) hx hb dX11_placeOf_30 (by decide) ?_
      exact hkb x3 ((15 : Int32) - x2) (x4 + ((-1) : Int32)) ls (lv_sub hl [2, 1, 0] rfl) h
set_option maxHeartbeats 4000000 in
set_option maxRecDepth 100000 in
theorem kX11_placeOf (l : Launch) (F : Nat) (x0 : Int32) (x1 : Int32) (r : Int32) (h : fX11_placeOf F x0 x1 = some r) : Met l yX11_placeOf wsX11_placeOf rmX11_placeOf (va_Pc [.int x0, .int x1] (p0)) (vp_Si (fun x => x = r)) 0 0 (fun _ => False) := by
  refine Met.ofW (cc := cX11_placeOf) (maxL := 6) (ret := (some .int)) (by decide) rfl ?_
  intro p e s m args below meth c s₁ B hml hv
  obtain ⟨rfl, -⟩ := hv
  have C : cxt p s m _ meth c cX11_placeOf 6 RX11 wsX11_placeOf (some .int) := ⟨B.exec, B.bytes, hml, findClass_of_methodNamed B.named, atoms_spec (ws := wsX11_placeOf) B.pre, B.returns, B.notSynchronized⟩
  obtain ⟨hx, hb, -, hown, hts, hr, hlk⟩ := id C
  refine entryW [.int x0, .int x1] (n := 6) (Nat.le_of_ble_eq_true rfl) (fun ls hl => ?_)
  have hl : lv_has ls 6 [(0, .int x0), (1, .int x1)] := hl
  unfold fX11_placeOf at h
  refine lv_iload_n hx hb dX11_placeOf_0 rfl (lv_at hl 0 rfl) ?_
  refine lv_istore_n (lv' := [(2, .int x0), (0, .int x0), (1, .int x1)]) hx hb dX11_placeOf_1 rfl hl (by decide) rfl (fun ls hl => ?_)
  refine lv_iload_n hx hb dX11_placeOf_2 rfl (lv_at hl 2 rfl) ?_
  refine lv_istore_n (lv' := [(3, .int x1), (2, .int x0), (0, .int x0), (1, .int x1)]) hx hb dX11_placeOf_3 rfl hl (by decide) rfl (fun ls hl => ?_)
  refine lv_iload_n hx hb dX11_placeOf_4 rfl (lv_at hl 2 rfl) ?_
  refine lv_iload_n hx hb dX11_placeOf_5 rfl (lv_at hl 3 rfl) ?_
  obtain ⟨v1, hc_v1, h⟩ := bd_some h
  refine mcallS (va_runS (As := [.int x0, .int x1]) (rest := []) ⟨hx, hb, hml, hown, hts⟩ (kX11_quarterOf l x0 x1 v1 hc_v1) (va_cwS 2 hts gX11_placeOf_X11_quarterOf rfl rfl rfl (by decide +kernel) ⟨Nat.le_of_ble_eq_true rfl, Nat.le_of_ble_eq_true rfl⟩) p0_s rfl rfl hl.1 rfl (lv_room (Nat.le_of_ble_eq_true rfl)) dX11_placeOf_6 ⟨Nat.zero_le _, Nat.zero_le _⟩) ?_
  refine lv_istore (lv' := [(4, .int v1), (3, .int x1), (2, .int x0), (0, .int x0), (1, .int x1)]) hx hb dX11_placeOf_9 hl (by decide) rfl (fun ls hl => ?_)
  refine wX11_placeOf_L11 C  r F  _ ?_ F x0 x1 v1 ls (lv_sub hl [2, 1, 0] rfl) h
  intro y2 y3 ls hl h
  refine lv_bipush (v := (8 : Int32)) hx hb dX11_placeOf_33 (by decide) ?_
  refine lv_iload_n hx hb dX11_placeOf_35 rfl (lv_at hl 1 rfl) ?_
  refine lv_bipush (v := (8 : Int32)) hx hb dX11_placeOf_36 (by decide) ?_
  refine lv_isub hx hb dX11_placeOf_38 ?_
  refine lv_imul hx hb dX11_placeOf_39 ?_
  refine lv_iload_n hx hb dX11_placeOf_40 rfl (lv_at hl 0 rfl) ?_
  refine lv_iadd hx hb dX11_placeOf_41 ?_
  refine lv_bipush (v := (8 : Int32)) hx hb dX11_placeOf_42 (by decide) ?_
  refine lv_isub hx hb dX11_placeOf_44 ?_
  exact mretS hx hb hr hlk h dX11_placeOf_45
def fX3_smearedPlaces_J38 (F : Nat) (sh : Nat → Option Nat) (Z : ZT) (kb : Int64 → Int32 → Option Int64) (x1 : Int64) (x3 : Int32) (σ : Nat → Nat → Int32) : Option Int64 :=
  kb x1 (x3 + (1 : Int32))
def fX3_smearedPlaces_L4 (F : Nat) (sh : Nat → Option Nat) (Z : ZT) (σ : Nat → Nat → Int32) (kx : Int64 → Option Int64) : Nat → Int64 → Int32 → Option Int64
  | 0, _, _ => none
  | n+1, x1, x3 =>
    nb ((fun x1 x3 => fX3_smearedPlaces_L4 F sh Z σ kx n x1 x3)) fun kb =>
    if (256 : Int32) ≤ x3 then (kx x1) else (aI (σ 15) 256 x3 fun v2 => if ¬ v2 = ((-5) : Int32) then (fX3_smearedPlaces_J38 F sh Z kb x1 x3 σ) else (bd (fX11_placeOf F (x3 - x3 / (16 : Int32) * (16 : Int32)) (x3 / (16 : Int32))) fun v4 => nm (x1 ||| ((1 : Int64) <<< (v4.toInt64 &&& 63))) fun z5 => fX3_smearedPlaces_J38 F sh Z kb z5 x3 σ))
def fX3_smearedPlaces (F : Nat) (sh : Nat → Option Nat) (Z : ZT) (σ : Nat → Nat → Int32)  : Option Int64 :=
  fX3_smearedPlaces_L4 F sh Z σ (fun y1 => some y1) F (0 : Int64) (0 : Int32)
abbrev rmX3_smearedPlaces : Room := { frames := 2, cells := 0, slots := 0, locals := 46 }
theorem inX3_X3_smearedPlaces : ∀ w ∈ wsX30, w ∈ wsX3_smearedPlaces := by intro w h; simp only [wsX3_smearedPlaces, List.mem_cons, List.mem_append]; simp only [h, true_or, or_true]
set_option maxHeartbeats 4000000 in
set_option maxRecDepth 100000 in
theorem wX3_smearedPlaces_J38 {p : Program} {l : Launch} {e : Env} {s : State} {m : MethodId} {args : Array Value} {below : List Frame} {meth : Method} {c : Code} (C : cxt p s m args meth c cX3_smearedPlaces 4 RX3 wsX3_smearedPlaces (some .long)) {D : va_G} {cs : Nat → ClassId} {a : Nat → Nat} {sh : Nat → Option Nat} {LP : List Nat} {Z : ZT} (hZ : shOK sh LP Z) (hK : KK D cs s) {σ : Nat → Nat → Int32} (hP : va_P D vwCl (cW a cs sh LP Z σ) s.heap) (r : Int64) (F : Nat) (kb : Int64 → Int32 → Option Int64) (x1 : Int64) (x3 : Int32) (hkb : ∀ (x1 : Int64) (x3 : Int32) (ls : Array Slot), lv_has ls 4 [(0, .ref (a 14)), (1, .long x1), (3, .int x3)] → kb x1 x3 = some r → W p l e rmX3_smearedPlaces s m args below meth c s.heap [] 0 0 (MQ below (vp_Sl (fun x => x = r)) args s 0 0 (fun _ => False)) (F0 m 4 ls [])) (ls : Array Slot) (hl : lv_has ls 4 [(0, .ref (a 14)), (1, .long x1), (3, .int x3)]) (h : fX3_smearedPlaces_J38 F sh Z kb x1 x3 σ = some r) : W p l e rmX3_smearedPlaces s m args below meth c s.heap [] 0 0 (MQ below (vp_Sl (fun x => x = r)) args s 0 0 (fun _ => False)) (F0 m 38 ls []) := by
  obtain ⟨hx, hb, hml, hown, hts, hr, hlk⟩ := id C
  unfold fX3_smearedPlaces_J38 at h
  refine lv_iinc (v := x3 + (1 : Int32)) (lv' := [(3, .int (x3 + (1 : Int32))), (0, .ref (a 14)), (1, .long x1)]) hx hb dX3_smearedPlaces_38 hl (k := 2) rfl rfl (by decide) rfl (fun ls hl => ?_)
  refine lv_goto (tgt := 4) hx hb dX3_smearedPlaces_41 (by decide) ?_
  exact hkb x1 (x3 + (1 : Int32)) ls (lv_sub hl [1, 2, 0] rfl) h
set_option maxHeartbeats 4000000 in
set_option maxRecDepth 100000 in
theorem wX3_smearedPlaces_L4 {p : Program} {l : Launch} {e : Env} {s : State} {m : MethodId} {args : Array Value} {below : List Frame} {meth : Method} {c : Code} (C : cxt p s m args meth c cX3_smearedPlaces 4 RX3 wsX3_smearedPlaces (some .long)) {D : va_G} {cs : Nat → ClassId} {a : Nat → Nat} {sh : Nat → Option Nat} {LP : List Nat} {Z : ZT} (hZ : shOK sh LP Z) (hK : KK D cs s) {σ : Nat → Nat → Int32} (hP : va_P D vwCl (cW a cs sh LP Z σ) s.heap) (r : Int64) (F : Nat) (kx : Int64 → Option Int64) (hkx : ∀ (x1 : Int64) (ls : Array Slot), lv_has ls 4 [(1, .long x1)] → kx x1 = some r → W p l e rmX3_smearedPlaces s m args below meth c s.heap [] 0 0 (MQ below (vp_Sl (fun x => x = r)) args s 0 0 (fun _ => False)) (F0 m 44 ls [])) : ∀ (n : Nat) (x1 : Int64) (x3 : Int32) (ls : Array Slot), lv_has ls 4 [(0, .ref (a 14)), (1, .long x1), (3, .int x3)] → fX3_smearedPlaces_L4 F sh Z σ kx n x1 x3 = some r → W p l e rmX3_smearedPlaces s m args below meth c s.heap [] 0 0 (MQ below (vp_Sl (fun x => x = r)) args s 0 0 (fun _ => False)) (F0 m 4 ls []) := by
  obtain ⟨hx, hb, hml, hown, hts, hr, hlk⟩ := id C
  intro n
  induction n with
  | zero =>
    intros
    rename_i h
    cases h
  | succ n ih =>
    intro x1 x3 ls hl h
    rw [fX3_smearedPlaces_L4] at h
    obtain ⟨kb, hkb, h⟩ := nb_some (P := fun (kb : Int64 → Int32 → Option Int64) => ∀ (x1 : Int64) (x3 : Int32) (ls : Array Slot), lv_has ls 4 [(0, .ref (a 14)), (1, .long x1), (3, .int x3)] → kb x1 x3 = some r → W p l e rmX3_smearedPlaces s m args below meth c s.heap [] 0 0 (MQ below (vp_Sl (fun x => x = r)) args s 0 0 (fun _ => False)) (F0 m 4 ls [])) h ih
    refine lv_iload_n hx hb dX3_smearedPlaces_4 rfl (lv_at hl 2 rfl) ?_
    refine lv_sipush (v := (256 : Int32)) hx hb dX3_smearedPlaces_5 (by decide) ?_
    refine lv_icmp_ge (tgt := 44) hx hb dX3_smearedPlaces_8 (by decide) (fun c1 => ?_) (fun c1 => ?_)
    · have h := it_t c1 h
      exact hkx x1 ls (lv_sub hl [1] rfl) h
    · have h := it_f c1 h
      refine lv_aload_n hx hb dX3_smearedPlaces_11 rfl (lv_at hl 0 rfl) ?_
      refine va_get (D := D) (ci := 3) (v := .ref (a 15)) (C := RX3) (T := TX3) (N := 2) hx hb hts inX3_X3_smearedPlaces hown hK.1 hP 14 rfl rfl 0 (by decide) (hts (.fieldLink RX3 9 "SandPalace$Photo" "colours" "[I") (by decide +kernel)) (fun _ h9 => h9) rfl dX3_smearedPlaces_12 ?_
      refine lv_iload_n hx hb dX3_smearedPlaces_15 rfl (lv_at hl 2 rfl) ?_
      obtain ⟨v2, i_v2, e_v2, h⟩ := aI_some h
      refine miald hx hb hK.1 hP 15 0 rfl rfl i_v2 e_v2 dX3_smearedPlaces_16 ?_
      refine lv_bipush (v := ((-5) : Int32)) hx hb dX3_smearedPlaces_17 (by decide) ?_
      refine lv_icmp_ne (tgt := 38) hx hb dX3_smearedPlaces_19 (by decide) (fun c3 => ?_) (fun c3 => ?_)
      · have h := it_t c3 h
        exact wX3_smearedPlaces_J38 C hZ hK hP r F kb x1 x3 hkb ls (lv_sub hl [0, 1, 2] rfl) h
      · have h := it_n c3 h
        refine lv_lload_n hx hb dX3_smearedPlaces_22 rfl (lv_at hl 1 rfl) ?_
        refine lv_lconst (v := (1 : Int64)) hx hb dX3_smearedPlaces_23 (by decide) ?_
        refine lv_iload_n hx hb dX3_smearedPlaces_24 rfl (lv_at hl 2 rfl) ?_
        refine lv_bipush (v := (16 : Int32)) hx hb dX3_smearedPlaces_25 (by decide) ?_
        refine lv_irem hx hb dX3_smearedPlaces_27 (by decide) ?_
        refine lv_iload_n hx hb dX3_smearedPlaces_28 rfl (lv_at hl 2 rfl) ?_
        refine lv_bipush (v := (16 : Int32)) hx hb dX3_smearedPlaces_29 (by decide) ?_
        refine lv_idiv hx hb dX3_smearedPlaces_31 (by decide) ?_
        obtain ⟨v4, hc_v4, h⟩ := bd_some h
        refine mcallS (va_runSN (As := [.int (x3 - x3 / (16 : Int32) * (16 : Int32)), .int (x3 / (16 : Int32))]) (rest := [.long (1 : Int64), .long x1]) ⟨hx, hb, hml, hown, hts⟩ (kX11_placeOf l F (x3 - x3 / (16 : Int32) * (16 : Int32)) (x3 / (16 : Int32)) v4 hc_v4) ⟨va_cnB (own := RX3) (host := "SandPalace") (index := 45) 2 hts gX3_smearedPlaces_X11_placeOf_n45 rfl rfl rfl (hK.2.1 ("SandPalace$Photo", 45, yX11_placeOf, "SandPalace") (by decide +kernel)) (hts (.initialized RX11) (by decide +kernel)) (by decide +kernel) ⟨Nat.le_of_ble_eq_true rfl, Nat.le_of_ble_eq_true rfl⟩, hts (.static yX11_placeOf) (by decide +kernel), trivial⟩ p0_s rfl rfl hl.1 rfl (lv_room (Nat.le_of_ble_eq_true rfl)) dX3_smearedPlaces_32 ⟨Nat.zero_le _, Nat.zero_le _⟩) ?_
        refine lv_lshl hx hb dX3_smearedPlaces_35 rfl ?_
        refine lv_lor hx hb dX3_smearedPlaces_36 ?_
        obtain ⟨z5, e_z5, h⟩ := nm_some h
        refine tpl e_z5 ?_
        refine lv_lstore_n (lv' := [(1, .long z5), (0, .ref (a 14)), (3, .int x3)]) hx hb dX3_smearedPlaces_37 rfl hl (by decide) rfl (fun ls hl => ?_)
        exact wX3_smearedPlaces_J38 C hZ hK hP r F kb z5 x3 hkb ls (lv_sub hl [1, 0, 2] rfl) h
set_option maxHeartbeats 4000000 in
set_option maxRecDepth 100000 in
theorem kX3_smearedPlaces (l : Launch) (D : va_G) (cs : Nat → ClassId) (a : Nat → Nat) (sh : Nat → Option Nat) (LP : List Nat) (Z : ZT) (hZ : shOK sh LP Z) (σ : Nat → Nat → Int32) (F : Nat)  (r : Int64) (h : fX3_smearedPlaces F sh Z σ = some r) : Met l yX3_smearedPlaces wsX3_smearedPlaces rmX3_smearedPlaces (va_Pc [.ref (a 14)] (pR D cs (cW a cs sh LP Z σ))) (vp_Sl (fun x => x = r)) 0 0 (fun _ => False) := by
  refine Met.ofW (cc := cX3_smearedPlaces) (maxL := 4) (ret := (some .long)) (by decide) rfl ?_
  intro p e s m args below meth c s₁ B hml hv
  obtain ⟨rfl, hP, hK⟩ := hv
  have C : cxt p s m _ meth c cX3_smearedPlaces 4 RX3 wsX3_smearedPlaces (some .long) := ⟨B.exec, B.bytes, hml, findClass_of_methodNamed B.named, atoms_spec (ws := wsX3_smearedPlaces) B.pre, B.returns, B.notSynchronized⟩
  obtain ⟨hx, hb, -, hown, hts, hr, hlk⟩ := id C
  refine entryW [.ref (a 14)] (n := 4) (Nat.le_of_ble_eq_true rfl) (fun ls hl => ?_)
  have hl : lv_has ls 4 [(0, .ref (a 14))] := hl
  unfold fX3_smearedPlaces at h
  refine lv_lconst (v := (0 : Int64)) hx hb dX3_smearedPlaces_0 (by decide) ?_
  refine lv_lstore_n (lv' := [(1, .long (0 : Int64)), (0, .ref (a 14))]) hx hb dX3_smearedPlaces_1 rfl hl (by decide) rfl (fun ls hl => ?_)
  refine lv_iconst (v := (0 : Int32)) hx hb dX3_smearedPlaces_2 (by decide) ?_
  refine lv_istore_n (lv' := [(3, .int (0 : Int32)), (1, .long (0 : Int64)), (0, .ref (a 14))]) hx hb dX3_smearedPlaces_3 rfl hl (by decide) rfl (fun ls hl => ?_)
  refine wX3_smearedPlaces_L4 C hZ hK hP r F  _ ?_ F (0 : Int64) (0 : Int32) ls (lv_sub hl [2, 1, 0] rfl) h
  intro y1 ls hl h
  refine lv_lload_n hx hb dX3_smearedPlaces_44 rfl (lv_at hl 0 rfl) ?_
  exact mretSL hx hb hr hlk h dX3_smearedPlaces_45
def fX7_read (KI : Nat) (KL : Nat) (KN : Nat) (sh : Nat → Option Nat) (Z : ZT) (σ : Nat → Nat → Int32) (x1 : Int32) : Option Int32 :=
  aI (σ KI) 256 x1 fun v1 => some v1
abbrev rmX7_read : Room := { frames := 0, cells := 0, slots := 0, locals := 0 }
theorem inX7_X7_read : ∀ w ∈ wsX70, w ∈ wsX7_read := by intro w h; simp only [wsX7_read, List.mem_cons, List.mem_append]; simp only [h, true_or, or_true]
set_option maxHeartbeats 4000000 in
set_option maxRecDepth 100000 in
theorem kX7_read_29 (l : Launch) (D : va_G) (cs : Nat → ClassId) (a : Nat → Nat) (sh : Nat → Option Nat) (LP : List Nat) (Z : ZT) (hZ : shOK sh LP Z) (σ : Nat → Nat → Int32) (x1 : Int32) (r : Int32) (h : fX7_read 29 40 44 sh Z σ x1 = some r) : Met l yX7_read wsX7_read rmX7_read (va_Pc [.ref (a 25), .int x1] (pR D cs (cW a cs sh LP Z σ))) (vp_Si (fun x => x = r)) 0 0 (fun _ => False) := by
  refine Met.ofW (cc := cX7_read) (maxL := 2) (ret := (some .int)) (by decide) rfl ?_
  intro p e s m args below meth c s₁ B hml hv
  obtain ⟨rfl, hP, hK⟩ := hv
  have C : cxt p s m _ meth c cX7_read 2 RX7 wsX7_read (some .int) := ⟨B.exec, B.bytes, hml, findClass_of_methodNamed B.named, atoms_spec (ws := wsX7_read) B.pre, B.returns, B.notSynchronized⟩
  obtain ⟨hx, hb, -, hown, hts, hr, hlk⟩ := id C
  refine entryW [.ref (a 25), .int x1] (n := 2) (Nat.le_of_ble_eq_true rfl) (fun ls hl => ?_)
  have hl : lv_has ls 2 [(0, .ref (a 25)), (1, .int x1)] := hl
  unfold fX7_read at h
  refine lv_aload_n hx hb dX7_read_0 rfl (lv_at hl 0 rfl) ?_
  refine va_get (D := D) (ci := 6) (v := .ref (a 29)) (C := RX7) (T := TX7) (N := 3) hx hb hts inX7_X7_read hown hK.1 hP 25 rfl rfl 0 (by decide) (hts (.fieldLink RX7 9 "SandPalace$Sheet" "items" "[I") (by decide +kernel)) (fun _ h9 => h9) rfl dX7_read_1 ?_
  refine lv_iload_n hx hb dX7_read_4 rfl (lv_at hl 1 rfl) ?_
  obtain ⟨v1, i_v1, e_v1, h⟩ := aI_some h
  refine miald hx hb hK.1 hP 29 0 rfl rfl i_v1 e_v1 dX7_read_5 ?_
  exact mretS hx hb hr hlk h dX7_read_6
set_option maxHeartbeats 4000000 in
set_option maxRecDepth 100000 in
theorem kX7_read_30 (l : Launch) (D : va_G) (cs : Nat → ClassId) (a : Nat → Nat) (sh : Nat → Option Nat) (LP : List Nat) (Z : ZT) (hZ : shOK sh LP Z) (σ : Nat → Nat → Int32) (x1 : Int32) (r : Int32) (h : fX7_read 30 41 45 sh Z σ x1 = some r) : Met l yX7_read wsX7_read rmX7_read (va_Pc [.ref (a 26), .int x1] (pR D cs (cW a cs sh LP Z σ))) (vp_Si (fun x => x = r)) 0 0 (fun _ => False) := by
  refine Met.ofW (cc := cX7_read) (maxL := 2) (ret := (some .int)) (by decide) rfl ?_
  intro p e s m args below meth c s₁ B hml hv
  obtain ⟨rfl, hP, hK⟩ := hv
  have C : cxt p s m _ meth c cX7_read 2 RX7 wsX7_read (some .int) := ⟨B.exec, B.bytes, hml, findClass_of_methodNamed B.named, atoms_spec (ws := wsX7_read) B.pre, B.returns, B.notSynchronized⟩
  obtain ⟨hx, hb, -, hown, hts, hr, hlk⟩ := id C
  refine entryW [.ref (a 26), .int x1] (n := 2) (Nat.le_of_ble_eq_true rfl) (fun ls hl => ?_)
  have hl : lv_has ls 2 [(0, .ref (a 26)), (1, .int x1)] := hl
  unfold fX7_read at h
  refine lv_aload_n hx hb dX7_read_0 rfl (lv_at hl 0 rfl) ?_
  refine va_get (D := D) (ci := 6) (v := .ref (a 30)) (C := RX7) (T := TX7) (N := 3) hx hb hts inX7_X7_read hown hK.1 hP 26 rfl rfl 0 (by decide) (hts (.fieldLink RX7 9 "SandPalace$Sheet" "items" "[I") (by decide +kernel)) (fun _ h9 => h9) rfl dX7_read_1 ?_
  refine lv_iload_n hx hb dX7_read_4 rfl (lv_at hl 1 rfl) ?_
  obtain ⟨v1, i_v1, e_v1, h⟩ := aI_some h
  refine miald hx hb hK.1 hP 30 0 rfl rfl i_v1 e_v1 dX7_read_5 ?_
  exact mretS hx hb hr hlk h dX7_read_6
set_option maxHeartbeats 4000000 in
set_option maxRecDepth 100000 in
theorem kX7_read_31 (l : Launch) (D : va_G) (cs : Nat → ClassId) (a : Nat → Nat) (sh : Nat → Option Nat) (LP : List Nat) (Z : ZT) (hZ : shOK sh LP Z) (σ : Nat → Nat → Int32) (x1 : Int32) (r : Int32) (h : fX7_read 31 42 46 sh Z σ x1 = some r) : Met l yX7_read wsX7_read rmX7_read (va_Pc [.ref (a 27), .int x1] (pR D cs (cW a cs sh LP Z σ))) (vp_Si (fun x => x = r)) 0 0 (fun _ => False) := by
  refine Met.ofW (cc := cX7_read) (maxL := 2) (ret := (some .int)) (by decide) rfl ?_
  intro p e s m args below meth c s₁ B hml hv
  obtain ⟨rfl, hP, hK⟩ := hv
  have C : cxt p s m _ meth c cX7_read 2 RX7 wsX7_read (some .int) := ⟨B.exec, B.bytes, hml, findClass_of_methodNamed B.named, atoms_spec (ws := wsX7_read) B.pre, B.returns, B.notSynchronized⟩
  obtain ⟨hx, hb, -, hown, hts, hr, hlk⟩ := id C
  refine entryW [.ref (a 27), .int x1] (n := 2) (Nat.le_of_ble_eq_true rfl) (fun ls hl => ?_)
  have hl : lv_has ls 2 [(0, .ref (a 27)), (1, .int x1)] := hl
  unfold fX7_read at h
  refine lv_aload_n hx hb dX7_read_0 rfl (lv_at hl 0 rfl) ?_
  refine va_get (D := D) (ci := 6) (v := .ref (a 31)) (C := RX7) (T := TX7) (N := 3) hx hb hts inX7_X7_read hown hK.1 hP 27 rfl rfl 0 (by decide) (hts (.fieldLink RX7 9 "SandPalace$Sheet" "items" "[I") (by decide +kernel)) (fun _ h9 => h9) rfl dX7_read_1 ?_
  refine lv_iload_n hx hb dX7_read_4 rfl (lv_at hl 1 rfl) ?_
  obtain ⟨v1, i_v1, e_v1, h⟩ := aI_some h
  refine miald hx hb hK.1 hP 31 0 rfl rfl i_v1 e_v1 dX7_read_5 ?_
  exact mretS hx hb hr hlk h dX7_read_6
set_option maxHeartbeats 4000000 in
set_option maxRecDepth 100000 in
theorem kX7_read_32 (l : Launch) (D : va_G) (cs : Nat → ClassId) (a : Nat → Nat) (sh : Nat → Option Nat) (LP : List Nat) (Z : ZT) (hZ : shOK sh LP Z) (σ : Nat → Nat → Int32) (x1 : Int32) (r : Int32) (h : fX7_read 32 43 47 sh Z σ x1 = some r) : Met l yX7_read wsX7_read rmX7_read (va_Pc [.ref (a 28), .int x1] (pR D cs (cW a cs sh LP Z σ))) (vp_Si (fun x => x = r)) 0 0 (fun _ => False) := by
  refine Met.ofW (cc := cX7_read) (maxL := 2) (ret := (some .int)) (by decide) rfl ?_
  intro p e s m args below meth c s₁ B hml hv
  obtain ⟨rfl, hP, hK⟩ := hv
  have C : cxt p s m _ meth c cX7_read 2 RX7 wsX7_read (some .int) := ⟨B.exec, B.bytes, hml, findClass_of_methodNamed B.named, atoms_spec (ws := wsX7_read) B.pre, B.returns, B.notSynchronized⟩
  obtain ⟨hx, hb, -, hown, hts, hr, hlk⟩ := id C
  refine entryW [.ref (a 28), .int x1] (n := 2) (Nat.le_of_ble_eq_true rfl) (fun ls hl => ?_)
  have hl : lv_has ls 2 [(0, .ref (a 28)), (1, .int x1)] := hl
  unfold fX7_read at h
  refine lv_aload_n hx hb dX7_read_0 rfl (lv_at hl 0 rfl) ?_
  refine va_get (D := D) (ci := 6) (v := .ref (a 32)) (C := RX7) (T := TX7) (N := 3) hx hb hts inX7_X7_read hown hK.1 hP 28 rfl rfl 0 (by decide) (hts (.fieldLink RX7 9 "SandPalace$Sheet" "items" "[I") (by decide +kernel)) (fun _ h9 => h9) rfl dX7_read_1 ?_
  refine lv_iload_n hx hb dX7_read_4 rfl (lv_at hl 1 rfl) ?_
  obtain ⟨v1, i_v1, e_v1, h⟩ := aI_some h
  refine miald hx hb hK.1 hP 32 0 rfl rfl i_v1 e_v1 dX7_read_5 ?_
  exact mretS hx hb hr hlk h dX7_read_6
def fX11_within (x0 : Int32) (x1 : Int32) (x2 : Int32) : Option Int32 :=
  if x0 < x1 then (some (0 : Int32)) else (if x2 < x0 then (some (0 : Int32)) else (some (1 : Int32)))
abbrev rmX11_within : Room := { frames := 0, cells := 0, slots := 0, locals := 0 }
set_option maxHeartbeats 4000000 in
set_option maxRecDepth 100000 in
theorem kX11_within (l : Launch) (x0 : Int32) (x1 : Int32) (x2 : Int32) (r : Int32) (h : fX11_within x0 x1 x2 = some r) : Met l yX11_within wsX11_within rmX11_within (va_Pc [.int x0, .int x1, .int x2] (p0)) (vp_Si (fun x => x = r ∧ (r = 0 ∨ r = 1))) 0 0 (fun _ => False) := by
  refine Met.ofW (cc := cX11_within) (maxL := 3) (ret := (some .boolean)) (by decide) rfl ?_
  intro p e s m args below meth c s₁ B hml hv
  obtain ⟨rfl, -⟩ := hv
  have C : cxt p s m _ meth c cX11_within 3 RX11 wsX11_within (some .boolean) := ⟨B.exec, B.bytes, hml, findClass_of_methodNamed B.named, atoms_spec (ws := wsX11_within) B.pre, B.returns, B.notSynchronized⟩
  obtain ⟨hx, hb, -, hown, hts, hr, hlk⟩ := id C
  refine entryW [.int x0, .int x1, .int x2] (n := 3) (Nat.le_of_ble_eq_true rfl) (fun ls hl => ?_)
  have hl : lv_has ls 3 [(0, .int x0), (1, .int x1), (2, .int x2)] := hl
  unfold fX11_within at h
  refine lv_iload_n hx hb dX11_within_0 rfl (lv_at hl 0 rfl) ?_
  refine lv_iload_n hx hb dX11_within_1 rfl (lv_at hl 1 rfl) ?_
  refine lv_icmp_lt (tgt := 14) hx hb dX11_within_2 (by decide) (fun c1 => ?_) (fun c1 => ?_)
  · have h := it_t c1 h
    refine lv_iconst (v := (0 : Int32)) hx hb dX11_within_14 (by decide) ?_
    exact mretSZ hx hb hr hlk h (Or.inl rfl) dX11_within_15
  · have h := it_f c1 h
    refine lv_iload_n hx hb dX11_within_5 rfl (lv_at hl 0 rfl) ?_
    refine lv_iload_n hx hb dX11_within_6 rfl (lv_at hl 2 rfl) ?_
    refine lv_icmp_gt (tgt := 14) hx hb dX11_within_7 (by decide) (fun c2 => ?_) (fun c2 => ?_)
    · have h := it_t c2 h
      refine lv_iconst (v := (0 : Int32)) hx hb dX11_within_14 (by decide) ?_
      exact mretSZ hx hb hr hlk h (Or.inl rfl) dX11_within_15
    · have h := it_f c2 h
      refine lv_iconst (v := (1 : Int32)) hx hb dX11_within_10 (by decide) ?_
      refine lv_goto (tgt := 15) hx hb dX11_within_11 (by decide) ?_
      exact mretSZ hx hb hr hlk h (Or.inr rfl) dX11_within_15
