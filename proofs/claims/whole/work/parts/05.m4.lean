def fX12_bar (σ : Nat → Nat → Int32) (x1 : Int32) : Option (Int32 × (Nat → Nat → Int32)) :=
  bd (fX12_in x1.toInt64 (0 : Int64) (65535 : Int64)) fun v1 => if ¬ v1 = 0 then (nm (sg σ 21 (fun _ => x1)) fun σ3 => some (σ 21 0, σ3)) else (some (((-1) : Int32), σ))
abbrev rmX12_bar : Room := { frames := 1, cells := 0, slots := 0, locals := 25 }
theorem inX12_X12_bar : ∀ w ∈ wsX120, w ∈ wsX12_bar := by intro w h; simp only [wsX12_bar, List.mem_cons, List.mem_append]; simp only [h, true_or, or_true]
set_option maxHeartbeats 4000000 in
set_option maxRecDepth 100000 in
theorem kX12_bar (l : Launch) (D : va_G) (cs : Nat → ClassId) (a : Nat → Nat) (σ : Nat → Nat → Int32) (x1 : Int32) (r : Int32) (u9 : Nat → Nat → Int32) (h : fX12_bar σ x1 = some (r, u9)) (sz : Nat) : Met l yX12_bar wsX12_bar rmX12_bar (va_Pc [.ref (a 0), .int x1] (pQ D cs (mW a cs σ) sz)) (va_Qi (fun x y => x = r ∧ y = u9) (qB D (mW a cs) (va_A (mW a cs σ) sz)) (va_A (mW a cs σ) sz)) 0 0 (va_A (mW a cs σ) sz) := by
  refine Met.ofW (cc := cX12_bar) (maxL := 3) (ret := (some .int)) (by decide) rfl ?_
  intro p e s m args below meth c s₁ B hml hv
  obtain ⟨rfl, hsz, hP, hK, hD0⟩ := hv
  have C : cxt p s m _ meth c cX12_bar 3 RX12 wsX12_bar (some .int) := ⟨B.exec, B.bytes, hml, findClass_of_methodNamed B.named, atoms_spec (ws := wsX12_bar) B.pre, B.returns, B.notSynchronized⟩
  obtain ⟨hx, hb, -, hown, hts, hr, hlk⟩ := id C
  subst hsz
  have hD := hD0.self (sz := s.heap.size)
  generalize hAe : va_A (mW a cs σ) s.heap.size = A at hD ⊢
  have hA : ∀ q : Nat, s.heap.size ≤ q → A q := fun q h => by rw [← hAe]; exact Or.inr h
  have hS : va_S A s.heap s.heap [] := va_S.rf
  refine entryW [.ref (a 0), .int x1] (n := 3) (Nat.le_of_ble_eq_true rfl) (fun ls hl => ?_)
  have hl : lv_has ls 3 [(0, .ref (a 0)), (1, .int x1)] := hl
  unfold fX12_bar at h
  refine lv_iload_n hx hb dX12_bar_0 rfl (lv_at hl 1 rfl) ?_
  refine lv_i2l hx hb dX12_bar_1 rfl ?_
  refine lv_lconst (v := (0 : Int64)) hx hb dX12_bar_2 (by decide) ?_
  refine lv_ldc2 hx hb hown (hts (.constantLong RX12 186 (65535)) (by decide +kernel)) dX12_bar_3 ?_
  obtain ⟨v1, hc_v1, h⟩ := bd_some h
  refine mcallSZ (va_runS (As := [.long x1.toInt64, .long (0 : Int64), .long (65535 : Int64)]) (rest := []) ⟨hx, hb, hml, hown, hts⟩ (kX12_in l x1.toInt64 (0 : Int64) (65535 : Int64) v1 hc_v1) (va_cwS 3 hts gX12_bar_X12_in rfl rfl rfl (by decide +kernel) ⟨Nat.le_of_ble_eq_true rfl, Nat.le_of_ble_eq_true rfl⟩) p0_s rfl rfl hl.1 rfl (lv_room (Nat.le_of_ble_eq_true rfl)) dX12_bar_6 ⟨Nat.zero_le _, Nat.zero_le _⟩) (fun z_v1 => ?_)
  refine lv_if_ne (tgt := 14) hx hb dX12_bar_9 (by decide) (fun c2 => ?_) (fun c2 => ?_)
  · have h := it_t c2 h
    refine lv_aload_n hx hb dX12_bar_14 rfl (lv_at hl 0 rfl) ?_
    refine va_get (D := D) (ci := 11) (v := .int (σ 21 0)) (C := RX12) (T := TX12) (N := 27) hx hb hts inX12_X12_bar hown hK.1 hP 0 rfl rfl 21 (by decide) (hts (.fieldLink RX12 188 "SandPalaceModel" "barred" "I") (by decide +kernel)) (fun _ h9 => h9) rfl dX12_bar_15 ?_
    refine lv_istore_n (lv' := [(2, .int (σ 21 0)), (0, .ref (a 0)), (1, .int x1)]) hx hb dX12_bar_18 rfl hl (by decide) rfl (fun ls hl => ?_)
    refine lv_aload_n hx hb dX12_bar_19 rfl (lv_at hl 1 rfl) ?_
    refine lv_iload_n hx hb dX12_bar_20 rfl (lv_at hl 2 rfl) ?_
    refine va_put (D := D) (ci := 11) (v := .int x1) (ty := .int) (C := RX12) (T := TX12) (N := 27) hx hb hts inX12_X12_bar tyX12 tyX12_ok nmX12 hown hK.1 hP hD hS 0 rfl rfl 21 (by decide) (hts (.fieldLink RX12 188 "SandPalaceModel" "barred" "I") (by decide +kernel)) (fun _ h9 => h9) rfl (by decide +kernel) rfl rfl (Nat.le_of_ble_eq_true rfl) dX12_bar_21 (fun H locs hP hD hS => ?_)
    obtain ⟨σ3, e_σ3, h⟩ := nm_some h
    have hP : va_P D vwCl (mW a cs σ3) H := by rw [← e_σ3]; exact hP
    have hD : va_D A (mW a cs σ3) := by rw [← e_σ3]; exact hD
    refine lv_iload_n hx hb dX12_bar_24 rfl (lv_at hl 0 rfl) ?_
    exact mretQ hx hb hr hlk h hP hD hS dX12_bar_25
  · have h := it_n c2 h
    refine lv_iconst (v := ((-1) : Int32)) hx hb dX12_bar_12 (by decide) ?_
    exact mretQ hx hb hr hlk h hP hD hS dX12_bar_13
def fX12_areBeside (x0 : Int32) (x1 : Int32) : Option Int32 :=
  bd (fX12_size ((x0 - x0 / (4 : Int32) * (4 : Int32)) - (x1 - x1 / (4 : Int32) * (4 : Int32)))) fun v1 => bd (fX12_size ((x0 / (4 : Int32)) - (x1 / (4 : Int32)))) fun v2 => if ¬ (v1 + v2) = (1 : Int32) then (some (0 : Int32)) else (some (1 : Int32))
abbrev rmX12_areBeside : Room := { frames := 1, cells := 0, slots := 0, locals := 20 }
set_option maxHeartbeats 4000000 in
set_option maxRecDepth 100000 in
theorem kX12_areBeside (l : Launch) (x0 : Int32) (x1 : Int32) (r : Int32) (h : fX12_areBeside x0 x1 = some r) : Met l yX12_areBeside wsX12_areBeside rmX12_areBeside (va_Pc [.int x0, .int x1] (p0)) (vp_Si (fun x => x = r ∧ (r = 0 ∨ r = 1))) 0 0 (fun _ => False) := by
  refine Met.ofW (cc := cX12_areBeside) (maxL := 4) (ret := (some .boolean)) (by decide) rfl ?_
  intro p e s m args below meth c s₁ B hml hv
  obtain ⟨rfl, -⟩ := hv
  have C : cxt p s m _ meth c cX12_areBeside 4 RX12 wsX12_areBeside (some .boolean) := ⟨B.exec, B.bytes, hml, findClass_of_methodNamed B.named, atoms_spec (ws := wsX12_areBeside) B.pre, B.returns, B.notSynchronized⟩
  obtain ⟨hx, hb, -, hown, hts, hr, hlk⟩ := id C
  refine entryW [.int x0, .int x1] (n := 4) (Nat.le_of_ble_eq_true rfl) (fun ls hl => ?_)
  have hl : lv_has ls 4 [(0, .int x0), (1, .int x1)] := hl
  unfold fX12_areBeside at h
  refine lv_iload_n hx hb dX12_areBeside_0 rfl (lv_at hl 0 rfl) ?_
  refine lv_iconst (v := (4 : Int32)) hx hb dX12_areBeside_1 (by decide) ?_
  refine lv_irem hx hb dX12_areBeside_2 (by decide) ?_
  refine lv_iload_n hx hb dX12_areBeside_3 rfl (lv_at hl 1 rfl) ?_
  refine lv_iconst (v := (4 : Int32)) hx hb dX12_areBeside_4 (by decide) ?_
  refine lv_irem hx hb dX12_areBeside_5 (by decide) ?_
  refine lv_isub hx hb dX12_areBeside_6 ?_
  obtain ⟨v1, hc_v1, h⟩ := bd_some h
  refine mcallS (va_runS (As := [.int ((x0 - x0 / (4 : Int32) * (4 : Int32)) - (x1 - x1 / (4 : Int32) * (4 : Int32)))]) (rest := []) ⟨hx, hb, hml, hown, hts⟩ (kX12_size l ((x0 - x0 / (4 : Int32) * (4 : Int32)) - (x1 - x1 / (4 : Int32) * (4 : Int32))) v1 hc_v1) (va_cwS 1 hts gX12_areBeside_X12_size rfl rfl rfl (by decide +kernel) ⟨Nat.le_of_ble_eq_true rfl, Nat.le_of_ble_eq_true rfl⟩) p0_s rfl rfl hl.1 rfl (lv_room (Nat.le_of_ble_eq_true rfl)) dX12_areBeside_7 ⟨Nat.zero_le _, Nat.zero_le _⟩) ?_
  refine lv_istore_n (lv' := [(2, .int v1), (0, .int x0), (1, .int x1)]) hx hb dX12_areBeside_10 rfl hl (by decide) rfl (fun ls hl => ?_)
  refine lv_iload_n hx hb dX12_areBeside_11 rfl (lv_at hl 1 rfl) ?_
  refine lv_iconst (v := (4 : Int32)) hx hb dX12_areBeside_12 (by decide) ?_
  refine lv_idiv hx hb dX12_areBeside_13 (by decide) ?_
  refine lv_iload_n hx hb dX12_areBeside_14 rfl (lv_at hl 2 rfl) ?_
  refine lv_iconst (v := (4 : Int32)) hx hb dX12_areBeside_15 (by decide) ?_
  refine lv_idiv hx hb dX12_areBeside_16 (by decide) ?_
  refine lv_isub hx hb dX12_areBeside_17 ?_
  obtain ⟨v2, hc_v2, h⟩ := bd_some h
  refine mcallS (va_runS (As := [.int ((x0 / (4 : Int32)) - (x1 / (4 : Int32)))]) (rest := []) ⟨hx, hb, hml, hown, hts⟩ (kX12_size l ((x0 / (4 : Int32)) - (x1 / (4 : Int32))) v2 hc_v2) (va_cwS 1 hts gX12_areBeside_X12_size rfl rfl rfl (by decide +kernel) ⟨Nat.le_of_ble_eq_true rfl, Nat.le_of_ble_eq_true rfl⟩) p0_s rfl rfl hl.1 rfl (lv_room (Nat.le_of_ble_eq_true rfl)) dX12_areBeside_18 ⟨Nat.zero_le _, Nat.zero_le _⟩) ?_
  refine lv_istore_n (lv' := [(3, .int v2), (2, .int v1), (0, .int x0), (1, .int x1)]) hx hb dX12_areBeside_21 rfl hl (by decide) rfl (fun ls hl => ?_)
  refine lv_iload_n hx hb dX12_areBeside_22 rfl (lv_at hl 1 rfl) ?_
  refine lv_iload_n hx hb dX12_areBeside_23 rfl (lv_at hl 0 rfl) ?_
  refine lv_iadd hx hb dX12_areBeside_24 ?_
  refine lv_iconst (v := (1 : Int32)) hx hb dX12_areBeside_25 (by decide) ?_
  refine lv_icmp_ne (tgt := 33) hx hb dX12_areBeside_26 (by decide) (fun c3 => ?_) (fun c3 => ?_)
  · have h := it_t c3 h
    refine lv_iconst (v := (0 : Int32)) hx hb dX12_areBeside_33 (by decide) ?_
    exact mretSZ hx hb hr hlk h (Or.inl rfl) dX12_areBeside_34
  · have h := it_n c3 h
    refine lv_iconst (v := (1 : Int32)) hx hb dX12_areBeside_29 (by decide) ?_
    refine lv_goto (tgt := 34) hx hb dX12_areBeside_30 (by decide) ?_
    exact mretSZ hx hb hr hlk h (Or.inr rfl) dX12_areBeside_34
def fX12_gateField (x0 : Int32) : Option Int32 :=
  if ¬ x0 = 0 then (if ¬ x0 = (1 : Int32) then (if ¬ x0 = (2 : Int32) then (some (8 : Int32)) else (some (14 : Int32))) else (some (7 : Int32))) else (some (1 : Int32))
abbrev rmX12_gateField : Room := { frames := 0, cells := 0, slots := 0, locals := 0 }
set_option maxHeartbeats 4000000 in
set_option maxRecDepth 100000 in
theorem kX12_gateField (l : Launch) (x0 : Int32) (r : Int32) (h : fX12_gateField x0 = some r) : Met l yX12_gateField wsX12_gateField rmX12_gateField (va_Pc [.int x0] (p0)) (vp_Si (fun x => x = r)) 0 0 (fun _ => False) := by
  refine Met.ofW (cc := cX12_gateField) (maxL := 1) (ret := (some .int)) (by decide) rfl ?_
  intro p e s m args below meth c s₁ B hml hv
  obtain ⟨rfl, -⟩ := hv
  have C : cxt p s m _ meth c cX12_gateField 1 RX12 wsX12_gateField (some .int) := ⟨B.exec, B.bytes, hml, findClass_of_methodNamed B.named, atoms_spec (ws := wsX12_gateField) B.pre, B.returns, B.notSynchronized⟩
  obtain ⟨hx, hb, -, hown, hts, hr, hlk⟩ := id C
  refine entryW [.int x0] (n := 1) (Nat.le_of_ble_eq_true rfl) (fun ls hl => ?_)
  have hl : lv_has ls 1 [(0, .int x0)] := hl
  unfold fX12_gateField at h
  refine lv_iload_n hx hb dX12_gateField_0 rfl (lv_at hl 0 rfl) ?_
  refine lv_if_ne (tgt := 8) hx hb dX12_gateField_1 (by decide) (fun c1 => ?_) (fun c1 => ?_)
  · have h := it_t c1 h
    refine lv_iload_n hx hb dX12_gateField_8 rfl (lv_at hl 0 rfl) ?_
    refine lv_iconst (v := (1 : Int32)) hx hb dX12_gateField_9 (by decide) ?_
    refine lv_icmp_ne (tgt := 18) hx hb dX12_gateField_10 (by decide) (fun c2 => ?_) (fun c2 => ?_)
    · have h := it_t c2 h
      refine lv_iload_n hx hb dX12_gateField_18 rfl (lv_at hl 0 rfl) ?_
      refine lv_iconst (v := (2 : Int32)) hx hb dX12_gateField_19 (by decide) ?_
      refine lv_icmp_ne (tgt := 28) hx hb dX12_gateField_20 (by decide) (fun c3 => ?_) (fun c3 => ?_)
      · have h := it_t c3 h
        refine lv_bipush (v := (8 : Int32)) hx hb dX12_gateField_28 (by decide) ?_
        exact mretS hx hb hr hlk h dX12_gateField_30
      · have h := it_n c3 h
        refine lv_bipush (v := (14 : Int32)) hx hb dX12_gateField_23 (by decide) ?_
        refine lv_goto (tgt := 30) hx hb dX12_gateField_25 (by decide) ?_
        exact mretS hx hb hr hlk h dX12_gateField_30
    · have h := it_n c2 h
      refine lv_bipush (v := (7 : Int32)) hx hb dX12_gateField_13 (by decide) ?_
      refine lv_goto (tgt := 30) hx hb dX12_gateField_15 (by decide) ?_
      exact mretS hx hb hr hlk h dX12_gateField_30
  · have h := it_n c1 h
    refine lv_iconst (v := (1 : Int32)) hx hb dX12_gateField_4 (by decide) ?_
    refine lv_goto (tgt := 30) hx hb dX12_gateField_5 (by decide) ?_
    exact mretS hx hb hr hlk h dX12_gateField_30
def fX12_findWay_J112 (F : Nat) (kb : Int32 → (Nat → Nat → Int32) → Option (Int32 × (Nat → Nat → Int32))) (x2 : Int32) (x3 : Int32) (x5 : Int32) (x6 : Int32) (x8 : Int32) (σ : Nat → Nat → Int32) : Option (Int32 × (Nat → Nat → Int32)) :=
  kb (x8 + (1 : Int32)) σ
def fX12_findWay_L68 (F : Nat) (x2 : Int32) (x3 : Int32) (x5 : Int32) (x6 : Int32) (kx : Int32 → (Nat → Nat → Int32) → Option (Int32 × (Nat → Nat → Int32))) : Nat → Int32 → (Nat → Nat → Int32) → Option (Int32 × (Nat → Nat → Int32))
  | 0, _, _ => none
  | n+1, x8, σ =>
    nb ((fun x8 σ => fX12_findWay_L68 F x2 x3 x5 x6 kx n x8 σ)) fun kb =>
    if (16 : Int32) ≤ x8 then (kx x8 σ) else (if ((x5 >>> (x8 &&& 31)) &&& (1 : Int32)) = (1 : Int32) then (fX12_findWay_J112 F kb x2 x3 x5 x6 x8 σ) else (if ((x2 >>> (x8 &&& 31)) &&& (1 : Int32)) = 0 then (fX12_findWay_J112 F kb x2 x3 x5 x6 x8 σ) else (aI (σ 23) 16 (x6 - (1 : Int32)) fun v13 => bd (fX12_areBeside v13 x8) fun v14 => if ¬ v14 = 0 then (kx x8 σ) else (fX12_findWay_J112 F kb x2 x3 x5 x6 x8 σ))))
def fX12_findWay_J182 (F : Nat) (kb : Int32 → Int32 → Int32 → (Nat → Nat → Int32) → Option (Int32 × (Nat → Nat → Int32))) (x2 : Int32) (x3 : Int32) (x5 : Int32) (x6 : Int32) (x7 : Int32) (σ : Nat → Nat → Int32) : Option (Int32 × (Nat → Nat → Int32)) :=
  kb x5 x6 x7 σ
def fX12_findWay_L53 (F : Nat) (x2 : Int32) (x3 : Int32) (kx : Int32 → (Nat → Nat → Int32) → Option (Int32 × (Nat → Nat → Int32))) : Nat → Int32 → Int32 → Int32 → (Nat → Nat → Int32) → Option (Int32 × (Nat → Nat → Int32))
  | 0, _, _, _, _ => none
  | n+1, x5, x6, x7, σ =>
    nb ((fun x5 x6 x7 σ => fX12_findWay_L53 F x2 x3 kx n x5 x6 x7 σ)) fun kb =>
    if x6 ≤ 0 then (kx x6 σ) else (if x3 ≤ x6 then (kx x6 σ) else (fX12_findWay_L68 F x2 x3 x5 x6 (fun y10 σ11 => if (16 : Int32) ≤ y10 then (aI (σ11 23) 16 (x6 + ((-1) : Int32)) fun v13 => nm (x5 &&& (((1 : Int32) <<< (v13 &&& 31)) ^^^ ((-1) : Int32))) fun z14 => aI (σ11 23) 16 (x6 + ((-1) : Int32)) fun v15 => fX12_findWay_J182 F kb x2 x3 z14 (x6 + ((-1) : Int32)) (v15 + (1 : Int32)) σ11) else (aS 16 x6 (nm (sg σ11 23 (upd (σ11 23) x6.toNatClampNeg y10)) fun σ17 => nm (x5 ||| ((1 : Int32) <<< (y10 &&& 31))) fun z18 => fX12_findWay_J182 F kb x2 x3 z18 (x6 + (1 : Int32)) (0 : Int32) σ17))) F x7 σ))
def fX12_findWay (F : Nat) (σ : Nat → Nat → Int32) (x1 : Int32) : Option (Int32 × (Nat → Nat → Int32)) :=
  nm ((65535 : Int32) &&& ((σ 21 0) ^^^ ((-1) : Int32))) fun z1 => bd (fX12_ones F z1) fun v2 => bd (fX12_gateField x1) fun v3 => if ¬ ((z1 >>> (v3 &&& 31)) &&& (1 : Int32)) = 0 then (aS 16 (0 : Int32) (nm (sg σ 23 (upd (σ 23) (0 : Int32).toNatClampNeg v3)) fun σ6 => nm ((1 : Int32) <<< (v3 &&& 31)) fun z7 => fX12_findWay_L53 F z1 v2 (fun y8 σ9 => if ¬ y8 = 0 then (some (v2, σ9)) else (some (((-4) : Int32), σ9))) F z7 (1 : Int32) (0 : Int32) σ6)) else (some (((-4) : Int32), σ))
abbrev rmX12_findWay : Room := { frames := 2, cells := 0, slots := 0, locals := 43 }
theorem inX12_X12_findWay : ∀ w ∈ wsX120, w ∈ wsX12_findWay := by intro w h; simp only [wsX12_findWay, List.mem_cons, List.mem_append]; simp only [h, true_or, or_true]
set_option maxHeartbeats 4000000 in
set_option maxRecDepth 100000 in
theorem wX12_findWay_J112 {p : Program} {l : Launch} {e : Env} {s : State} {m : MethodId} {args : Array Value} {below : List Frame} {meth : Method} {c : Code} (C : cxt p s m args meth c cX12_findWay 9 RX12 wsX12_findWay (some .int)) {D : va_G} {cs : Nat → ClassId} {a : Nat → Nat} (hK : KK D cs s) {A : Nat → Prop} (hA : ∀ q, s.heap.size ≤ q → A q) (r : Int32) (u9 : Nat → Nat → Int32) (F : Nat) (kb : Int32 → (Nat → Nat → Int32) → Option (Int32 × (Nat → Nat → Int32))) (x2 : Int32) (x3 : Int32) (x5 : Int32) (x6 : Int32) (x8 : Int32) (hkb : ∀ (x8 : Int32) (σ : Nat → Nat → Int32) (H : Heap) (locs : List Loc) (ls : Array Slot), va_P D vwCl (mW a cs σ) H → va_D A (mW a cs σ) → va_S A s.heap H locs → lv_has ls 9 [(0, .ref (a 0)), (2, .int x2), (3, .int x3), (5, .int x5), (6, .int x6), (8, .int x8)] → kb x8 σ = some (r, u9) → W p l e rmX12_findWay s m args below meth c H locs 0 0 (MQ below (va_Qi (fun x y => x = r ∧ y = u9) (qB D (mW a cs) A) A) args s 0 0 A) (F0 m 68 ls [])) (σ : Nat → Nat → Int32) (H : Heap) (locs : List Loc) (ls : Array Slot) (hP : va_P D vwCl (mW a cs σ) H) (hD : va_D A (mW a cs σ)) (hS : va_S A s.heap H locs) (hl : lv_has ls 9 [(0, .ref (a 0)), (2, .int x2), (3, .int x3), (5, .int x5), (6, .int x6), (8, .int x8)]) (h : fX12_findWay_J112 F kb x2 x3 x5 x6 x8 σ = some (r, u9)) : W p l e rmX12_findWay s m args below meth c H locs 0 0 (MQ below (va_Qi (fun x y => x = r ∧ y = u9) (qB D (mW a cs) A) A) args s 0 0 A) (F0 m 112 ls []) := by
  obtain ⟨hx, hb, hml, hown, hts, hr, hlk⟩ := id C
  unfold fX12_findWay_J112 at h
  refine lv_iinc (v := x8 + (1 : Int32)) (lv' := [(8, .int (x8 + (1 : Int32))), (0, .ref (a 0)), (2, .int x2), (3, .int x3), (5, .int x5), (6, .int x6)]) hx hb dX12_findWay_112 hl (k := 5) rfl rfl (by decide) rfl (fun ls hl => ?_)
  refine lv_goto (tgt := 68) hx hb dX12_findWay_115 (by decide) ?_
  exact hkb (x8 + (1 : Int32)) σ _ _ ls hP hD hS (lv_sub hl [1, 2, 3, 4, 5, 0] rfl) h
set_option maxHeartbeats 4000000 in
set_option maxRecDepth 100000 in
theorem wX12_findWay_L68 {p : Program} {l : Launch} {e : Env} {s : State} {m : MethodId} {args : Array Value} {below : List Frame} {meth : Method} {c : Code} (C : cxt p s m args meth c cX12_findWay 9 RX12 wsX12_findWay (some .int)) {D : va_G} {cs : Nat → ClassId} {a : Nat → Nat} (hK : KK D cs s) {A : Nat → Prop} (hA : ∀ q, s.heap.size ≤ q → A q) (r : Int32) (u9 : Nat → Nat → Int32) (F : Nat) (x2 : Int32) (x3 : Int32) (x5 : Int32) (x6 : Int32) (kx : Int32 → (Nat → Nat → Int32) → Option (Int32 × (Nat → Nat → Int32))) (hkx : ∀ (x8 : Int32) (σ : Nat → Nat → Int32) (H : Heap) (locs : List Loc) (ls : Array Slot), va_P D vwCl (mW a cs σ) H → va_D A (mW a cs σ) → va_S A s.heap H locs → lv_has ls 9 [(0, .ref (a 0)), (2, .int x2), (3, .int x3), (5, .int x5), (6, .int x6), (8, .int x8)] → kx x8 σ = some (r, u9) → W p l e rmX12_findWay s m args below meth c H locs 0 0 (MQ below (va_Qi (fun x y => x = r ∧ y = u9) (qB D (mW a cs) A) A) args s 0 0 A) (F0 m 118 ls [])) : ∀ (n : Nat) (x8 : Int32) (σ : Nat → Nat → Int32) (H : Heap) (locs : List Loc) (ls : Array Slot), va_P D vwCl (mW a cs σ) H → va_D A (mW a cs σ) → va_S A s.heap H locs → lv_has ls 9 [(0, .ref (a 0)), (2, .int x2), (3, .int x3), (5, .int x5), (6, .int x6), (8, .int x8)] → fX12_findWay_L68 F x2 x3 x5 x6 kx n x8 σ = some (r, u9) → W p l e rmX12_findWay s m args below meth c H locs 0 0 (MQ below (va_Qi (fun x y => x = r ∧ y = u9) (qB D (mW a cs) A) A) args s 0 0 A) (F0 m 68 ls []) := by
  obtain ⟨hx, hb, hml, hown, hts, hr, hlk⟩ := id C
  intro n
  induction n with
  | zero =>
    intros
    rename_i h
    cases h
  | succ n ih =>
    intro x8 σ H locs ls hP hD hS hl h
    rw [fX12_findWay_L68] at h
    obtain ⟨kb, hkb, h⟩ := nb_some (P := fun (kb : Int32 → (Nat → Nat → Int32) → Option (Int32 × (Nat → Nat → Int32))) => ∀ (x8 : Int32) (σ : Nat → Nat → Int32) (H : Heap) (locs : List Loc) (ls : Array Slot), va_P D vwCl (mW a cs σ) H → va_D A (mW a cs σ) → va_S A s.heap H locs → lv_has ls 9 [(0, .ref (a 0)), (2, .int x2), (3, .int x3), (5, .int x5), (6, .int x6), (8, .int x8)] → kb x8 σ = some (r, u9) → W p l e rmX12_findWay s m args below meth c H locs 0 0 (MQ below (va_Qi (fun x y => x = r ∧ y = u9) (qB D (mW a cs) A) A) args s 0 0 A) (F0 m 68 ls [])) h ih
    refine lv_iload hx hb dX12_findWay_68 (lv_at hl 5 rfl) ?_
    refine lv_bipush (v := (16 : Int32)) hx hb dX12_findWay_70 (by decide) ?_
    refine lv_icmp_ge (tgt := 118) hx hb dX12_findWay_72 (by decide) (fun c10 => ?_) (fun c10 => ?_)
    · have h := it_t c10 h
      exact hkx x8 σ _ _ ls hP hD hS (lv_sub hl [0, 1, 2, 3, 4, 5] rfl) h
    · have h := it_f c10 h
      refine lv_iload hx hb dX12_findWay_75 (lv_at hl 3 rfl) ?_
      refine lv_iload hx hb dX12_findWay_77 (lv_at hl 5 rfl) ?_
      refine lv_ishr hx hb dX12_findWay_79 ?_
      refine lv_iconst (v := (1 : Int32)) hx hb dX12_findWay_80 (by decide) ?_
      refine lv_iand hx hb dX12_findWay_81 ?_
      refine lv_iconst (v := (1 : Int32)) hx hb dX12_findWay_82 (by decide) ?_
      refine lv_icmp_eq (tgt := 112) hx hb dX12_findWay_83 (by decide) (fun c11 => ?_) (fun c11 => ?_)
      · have h := it_t c11 h
        exact wX12_findWay_J112 C hK hA r u9 F kb x2 x3 x5 x6 x8 hkb σ _ _ ls hP hD hS (lv_sub hl [0, 1, 2, 3, 4, 5] rfl) h
      · have h := it_f c11 h
        refine lv_iload_n hx hb dX12_findWay_86 rfl (lv_at hl 1 rfl) ?_
        refine lv_iload hx hb dX12_findWay_87 (lv_at hl 5 rfl) ?_
        refine lv_ishr hx hb dX12_findWay_89 ?_
        refine lv_iconst (v := (1 : Int32)) hx hb dX12_findWay_90 (by decide) ?_
        refine lv_iand hx hb dX12_findWay_91 ?_
        refine lv_if_eq (tgt := 112) hx hb dX12_findWay_92 (by decide) (fun c12 => ?_) (fun c12 => ?_)
        · have h := it_t c12 h
          exact wX12_findWay_J112 C hK hA r u9 F kb x2 x3 x5 x6 x8 hkb σ _ _ ls hP hD hS (lv_sub hl [0, 1, 2, 3, 4, 5] rfl) h
        · have h := it_f c12 h
          refine lv_aload_n hx hb dX12_findWay_95 rfl (lv_at hl 0 rfl) ?_
          refine va_get (D := D) (ci := 11) (v := .ref (a 23)) (C := RX12) (T := TX12) (N := 27) hx hb hts inX12_X12_findWay hown hK.1 hP 0 rfl rfl 23 (by decide) (hts (.fieldLink RX12 66 "SandPalaceModel" "way" "[I") (by decide +kernel)) (fun _ h9 => h9) rfl dX12_findWay_96 ?_
          refine lv_iload hx hb dX12_findWay_99 (lv_at hl 4 rfl) ?_
          refine lv_iconst (v := (1 : Int32)) hx hb dX12_findWay_101 (by decide) ?_
          refine lv_isub hx hb dX12_findWay_102 ?_
          obtain ⟨v13, i_v13, e_v13, h⟩ := aI_some h
          refine miald hx hb hK.1 hP 18 0 rfl rfl i_v13 e_v13 dX12_findWay_103 ?_
          refine lv_iload hx hb dX12_findWay_104 (lv_at hl 5 rfl) ?_
          obtain ⟨v14, hc_v14, h⟩ := bd_some h
          refine mcallSZ (va_runS (As := [.int v13, .int x8]) (rest := []) ⟨hx, hb, hml, hown, hts⟩ (kX12_areBeside l v13 x8 v14 hc_v14) (va_cwS 2 hts gX12_findWay_X12_areBeside rfl rfl rfl (by decide +kernel) ⟨Nat.le_of_ble_eq_true rfl, Nat.le_of_ble_eq_true rfl⟩) p0_s rfl rfl hl.1 rfl (lv_room (Nat.le_of_ble_eq_true rfl)) dX12_findWay_106 ⟨Nat.zero_le _, Nat.zero_le _⟩) (fun z_v14 => ?_)
          refine lv_if_ne (tgt := 118) hx hb dX12_findWay_109 (by decide) (fun c15 => ?_) (fun c15 => ?_)
          · have h := it_t c15 h
            exact hkx x8 σ _ _ ls hP hD hS (lv_sub hl [0, 1, 2, 3, 4, 5] rfl) h
          · have h := it_n c15 h
            exact wX12_findWay_J112 C hK hA r u9 F kb x2 x3 x5 x6 x8 hkb σ _ _ ls hP hD hS (lv_sub hl [0, 1, 2, 3, 4, 5] rfl) h
set_option maxHeartbeats 4000000 in
set_option maxRecDepth 100000 in
theorem wX12_findWay_J182 {p : Program} {l : Launch} {e : Env} {s : State} {m : MethodId} {args : Array Value} {below : List Frame} {meth : Method} {c : Code} (C : cxt p s m args meth c cX12_findWay 9 RX12 wsX12_findWay (some .int)) {D : va_G} {cs : Nat → ClassId} {a : Nat → Nat} (hK : KK D cs s) {A : Nat → Prop} (hA : ∀ q, s.heap.size ≤ q → A q) (r : Int32) (u9 : Nat → Nat → Int32) (F : Nat) (kb : Int32 → Int32 → Int32 → (Nat → Nat → Int32) → Option (Int32 × (Nat → Nat → Int32))) (x2 : Int32) (x3 : Int32) (x5 : Int32) (x6 : Int32) (x7 : Int32) (hkb : ∀ (x5 : Int32) (x6 : Int32) (x7 : Int32) (σ : Nat → Nat → Int32) (H : Heap) (locs : List Loc) (ls : Array Slot), va_P D vwCl (mW a cs σ) H → va_D A (mW a cs σ) → va_S A s.heap H locs → lv_has ls 9 [(0, .ref (a 0)), (2, .int x2), (3, .int x3), (5, .int x5), (6, .int x6), (7, .int x7)] → kb x5 x6 x7 σ = some (r, u9) → W p l e rmX12_findWay s m args below meth c H locs 0 0 (MQ below (va_Qi (fun x y => x = r ∧ y = u9) (qB D (mW a cs) A) A) args s 0 0 A) (F0 m 53 ls [])) (σ : Nat → Nat → Int32) (H : Heap) (locs : List Loc) (ls : Array Slot) (hP : va_P D vwCl (mW a cs σ) H) (hD : va_D A (mW a cs σ)) (hS : va_S A s.heap H locs) (hl : lv_has ls 9 [(0, .ref (a 0)), (2, .int x2), (3, .int x3), (5, .int x5), (6, .int x6), (7, .int x7)]) (h : fX12_findWay_J182 F kb x2 x3 x5 x6 x7 σ = some (r, u9)) : W p l e rmX12_findWay s m args below meth c H locs 0 0 (MQ below (va_Qi (fun x y => x = r ∧ y = u9) (qB D (mW a cs) A) A) args s 0 0 A) (F0 m 182 ls []) := by
  obtain ⟨hx, hb, hml, hown, hts, hr, hlk⟩ := id C
  unfold fX12_findWay_J182 at h
  refine lv_goto (tgt := 53) hx hb dX12_findWay_182 (by decide) ?_
  exact hkb x5 x6 x7 σ _ _ ls hP hD hS (lv_sub hl [0, 1, 2, 3, 4, 5] rfl) h
set_option maxHeartbeats 4000000 in
set_option maxRecDepth 100000 in
theorem wX12_findWay_L53 {p : Program} {l : Launch} {e : Env} {s : State} {m : MethodId} {args : Array Value} {below : List Frame} {meth : Method} {c : Code} (C : cxt p s m args meth c cX12_findWay 9 RX12 wsX12_findWay (some .int)) {D : va_G} {cs : Nat → ClassId} {a : Nat → Nat} (hK : KK D cs s) {A : Nat → Prop} (hA : ∀ q, s.heap.size ≤ q → A q) (r : Int32) (u9 : Nat → Nat → Int32) (F : Nat) (x2 : Int32) (x3 : Int32) (kx : Int32 → (Nat → Nat → Int32) → Option (Int32 × (Nat → Nat → Int32))) (hkx : ∀ (x6 : Int32) (σ : Nat → Nat → Int32) (H : Heap) (locs : List Loc) (ls : Array Slot), va_P D vwCl (mW a cs σ) H → va_D A (mW a cs σ) → va_S A s.heap H locs → lv_has ls 9 [(3, .int x3), (6, .int x6)] → kx x6 σ = some (r, u9) → W p l e rmX12_findWay s m args below meth c H locs 0 0 (MQ below (va_Qi (fun x y => x = r ∧ y = u9) (qB D (mW a cs) A) A) args s 0 0 A) (F0 m 185 ls [])) : ∀ (n : Nat) (x5 : Int32) (x6 : Int32) (x7 : Int32) (σ : Nat → Nat → Int32) (H : Heap) (locs : List Loc) (ls : Array Slot), va_P D vwCl (mW a cs σ) H → va_D A (mW a cs σ) → va_S A s.heap H locs → lv_has ls 9 [(0, .ref (a 0)), (2, .int x2), (3, .int x3), (5, .int x5), (6, .int x6), (7, .int x7)] → fX12_findWay_L53 F x2 x3 kx n x5 x6 x7 σ = some (r, u9) → W p l e rmX12_findWay s m args below meth c H locs 0 0 (MQ below (va_Qi (fun x y => x = r ∧ y = u9) (qB D (mW a cs) A) A) args s 0 0 A) (F0 m 53 ls []) := by
  obtain ⟨hx, hb, hml, hown, hts, hr, hlk⟩ := id C
  intro n
  induction n with
  | zero =>
    intros
    rename_i h
    cases h
  | succ n ih =>
    intro x5 x6 x7 σ H locs ls hP hD hS hl h
    rw [fX12_findWay_L53] at h
    obtain ⟨kb, hkb, h⟩ := nb_some (P := fun (kb : Int32 → Int32 → Int32 → (Nat → Nat → Int32) → Option (Int32 × (Nat → Nat → Int32))) => ∀ (x5 : Int32) (x6 : Int32) (x7 : Int32) (σ : Nat → Nat → Int32) (H : Heap) (locs : List Loc) (ls : Array Slot), va_P D vwCl (mW a cs σ) H → va_D A (mW a cs σ) → va_S A s.heap H locs → lv_has ls 9 [(0, .ref (a 0)), (2, .int x2), (3, .int x3), (5, .int x5), (6, .int x6), (7, .int x7)] → kb x5 x6 x7 σ = some (r, u9) → W p l e rmX12_findWay s m args below meth c H locs 0 0 (MQ below (va_Qi (fun x y => x = r ∧ y = u9) (qB D (mW a cs) A) A) args s 0 0 A) (F0 m 53 ls [])) h ih
    refine lv_iload hx hb dX12_findWay_53 (lv_at hl 4 rfl) ?_
    refine lv_if_le (tgt := 185) hx hb dX12_findWay_55 (by decide) (fun c8 => ?_) (fun c8 => ?_)
    · have h := it_t c8 h
      exact hkx x6 σ _ _ ls hP hD hS (lv_sub hl [2, 4] rfl) h
    · have h := it_f c8 h
      refine lv_iload hx hb dX12_findWay_58 (lv_at hl 4 rfl) ?_
      refine lv_iload_n hx hb dX12_findWay_60 rfl (lv_at hl 2 rfl) ?_
      refine lv_icmp_ge (tgt := 185) hx hb dX12_findWay_61 (by decide) (fun c9 => ?_) (fun c9 => ?_)
      · have h := it_t c9 h
        exact hkx x6 σ _ _ ls hP hD hS (lv_sub hl [2, 4] rfl) h
      · have h := it_f c9 h
        refine lv_iload hx hb dX12_findWay_64 (lv_at hl 5 rfl) ?_
        refine lv_istore (lv' := [(8, .int x7), (0, .ref (a 0)), (2, .int x2), (3, .int x3), (5, .int x5), (6, .int x6), (7, .int x7)]) hx hb dX12_findWay_66 hl (by decide) rfl (fun ls hl => ?_)
        refine wX12_findWay_L68 C hK hA r u9 F x2 x3 x5 x6 _ ?_ F x7 σ _ _ ls hP hD hS (lv_sub hl [1, 2, 3, 4, 5, 0] rfl) h
        intro y10 σ11 H locs ls hP hD hS hl h
        refine lv_iload hx hb dX12_findWay_118 (lv_at hl 5 rfl) ?_
        refine lv_bipush (v := (16 : Int32)) hx hb dX12_findWay_120 (by decide) ?_
        refine lv_icmp_ge (tgt := 152) hx hb dX12_findWay_122 (by decide) (fun c12 => ?_) (fun c12 => ?_)
        · have h := it_t c12 h
          refine lv_iinc (v := x6 + ((-1) : Int32)) (lv' := [(6, .int (x6 + ((-1) : Int32))), (0, .ref (a 0)), (2, .int x2), (3, .int x3), (5, .int x5), (8, .int y10)]) hx hb dX12_findWay_152 hl (k := 4) rfl rfl (by decide) rfl (fun ls hl => ?_)
          refine lv_iload hx hb dX12_findWay_155 (lv_at hl 4 rfl) ?_
          refine lv_iconst (v := (1 : Int32)) hx hb dX12_findWay_157 (by decide) ?_
          refine lv_aload_n hx hb dX12_findWay_158 rfl (lv_at hl 1 rfl) ?_
          refine va_get (D := D) (ci := 11) (v := .ref (a 23)) (C := RX12) (T := TX12) (N := 27) hx hb hts inX12_X12_findWay hown hK.1 hP 0 rfl rfl 23 (by decide) (hts (.fieldLink RX12 66 "SandPalaceModel" "way" "[I") (by decide +kernel)) (fun _ h9 => h9) rfl dX12_findWay_159 ?_
          refine lv_iload hx hb dX12_findWay_162 (lv_at hl 0 rfl) ?_
          obtain ⟨v13, i_v13, e_v13, h⟩ := aI_some h
          refine miald hx hb hK.1 hP 18 0 rfl rfl i_v13 e_v13 dX12_findWay_164 ?_
          refine lv_ishl hx hb dX12_findWay_165 ?_
          refine lv_iconst (v := ((-1) : Int32)) hx hb dX12_findWay_166 (by decide) ?_
          refine lv_ixor hx hb dX12_findWay_167 ?_
          refine lv_iand hx hb dX12_findWay_168 ?_
          obtain ⟨z14, e_z14, h⟩ := nm_some h
          refine tpi e_z14 ?_
          refine lv_istore (lv' := [(5, .int z14), (6, .int (x6 + ((-1) : Int32))), (0, .ref (a 0)), (2, .int x2), (3, .int x3), (8, .int y10)]) hx hb dX12_findWay_169 hl (by decide) rfl (fun ls hl => ?_)
          refine lv_aload_n hx hb dX12_findWay_171 rfl (lv_at hl 2 rfl) ?_
          refine va_get (D := D) (ci := 11) (v := .ref (a 23)) (C := RX12) (T := TX12) (N := 27) hx hb hts inX12_X12_findWay hown hK.1 hP 0 rfl rfl 23 (by decide) (hts (.fieldLink RX12 66 "SandPalaceModel" "way" "[I") (by decide +kernel)) (fun _ h9 => h9) rfl dX12_findWay_172 ?_
          refine lv_iload hx hb dX12_findWay_175 (lv_at hl 1 rfl) ?_
          obtain ⟨v15, i_v15, e_v15, h⟩ := aI_some h
          refine miald hx hb hK.1 hP 18 0 rfl rfl i_v15 e_v15 dX12_findWay_177 ?_
          refine lv_iconst (v := (1 : Int32)) hx hb dX12_findWay_178 (by decide) ?_
          refine lv_iadd hx hb dX12_findWay_179 ?_
          refine lv_istore (lv' := [(7, .int (v15 + (1 : Int32))), (5, .int z14), (6, .int (x6 + ((-1) : Int32))), (0, .ref (a 0)), (2, .int x2), (3, .int x3), (8, .int y10)]) hx hb dX12_findWay_180 hl (by decide) rfl (fun ls hl => ?_)
          exact wX12_findWay_J182 C hK hA r u9 F kb x2 x3 z14 (x6 + ((-1) : Int32)) (v15 + (1 : Int32)) hkb σ11 _ _ ls hP hD hS (lv_sub hl [3, 4, 5, 1, 2, 0] rfl) h
        · have h := it_f c12 h
          refine lv_aload_n hx hb dX12_findWay_125 rfl (lv_at hl 0 rfl) ?_
          refine va_get (D := D) (ci := 11) (v := .ref (a 23)) (C := RX12) (T := TX12) (N := 27) hx hb hts inX12_X12_findWay hown hK.1 hP 0 rfl rfl 23 (by decide) (hts (.fieldLink RX12 66 "SandPalaceModel" "way" "[I") (by decide +kernel)) (fun _ h9 => h9) rfl dX12_findWay_126 ?_
          refine lv_iload hx hb dX12_findWay_129 (lv_at hl 4 rfl) ?_
          refine lv_iload hx hb dX12_findWay_131 (lv_at hl 5 rfl) ?_
          obtain ⟨i16, h⟩ := aS_some h
          refine va_iast hx hb hK.1 hP hD hS 18 0 rfl rfl i16 dX12_findWay_133 (fun H locs hP hD hS => ?_)
          obtain ⟨σ17, e_σ17, h⟩ := nm_some h
          have hP : va_P D vwCl (mW a cs σ17) H := by rw [← e_σ17]; exact hP
          have hD : va_D A (mW a cs σ17) := by rw [← e_σ17]; exact hD
          refine lv_iinc (v := x6 + (1 : Int32)) (lv' := [(6, .int (x6 + (1 : Int32))), (0, .ref (a 0)), (2, .int x2), (3, .int x3), (5, .int x5), (8, .int y10)]) hx hb dX12_findWay_134 hl (k := 4) rfl rfl (by decide) rfl (fun ls hl => ?_)
          refine lv_iload hx hb dX12_findWay_137 (lv_at hl 4 rfl) ?_
          refine lv_iconst (v := (1 : Int32)) hx hb dX12_findWay_139 (by decide) ?_
          refine lv_iload hx hb dX12_findWay_140 (lv_at hl 5 rfl) ?_
          refine lv_ishl hx hb dX12_findWay_142 ?_
          refine lv_ior hx hb dX12_findWay_143 ?_
          obtain ⟨z18, e_z18, h⟩ := nm_some h
          refine tpi e_z18 ?_
          refine lv_istore (lv' := [(5, .int z18), (6, .int (x6 + (1 : Int32))), (0, .ref (a 0)), (2, .int x2), (3, .int x3), (8, .int y10)]) hx hb dX12_findWay_144 hl (by decide) rfl (fun ls hl => ?_)
          refine lv_iconst (v := (0 : Int32)) hx hb dX12_findWay_146 (by decide) ?_
          refine lv_istore (lv' := [(7, .int (0 : Int32)), (5, .int z18), (6, .int (x6 + (1 : Int32))), (0, .ref (a 0)), (2, .int x2), (3, .int x3), (8, .int y10)]) hx hb dX12_findWay_147 hl (by decide) rfl (fun ls hl => ?_)
          refine lv_goto (tgt := 182) hx hb dX12_findWay_149 (by decide) ?_
          exact wX12_findWay_J182 C hK hA r u9 F kb x2 x3 z18 (x6 + (1 : Int32)) (0 : Int32) hkb σ17 _ _ ls hP hD hS (lv_sub hl [3, 4, 5, 1, 2, 0] rfl) h
set_option maxHeartbeats 4000000 in
set_option maxRecDepth 100000 in
theorem kX12_findWay (l : Launch) (D : va_G) (cs : Nat → ClassId) (a : Nat → Nat) (σ : Nat → Nat → Int32) (F : Nat) (x1 : Int32) (r : Int32) (u9 : Nat → Nat → Int32) (h : fX12_findWay F σ x1 = some (r, u9)) (sz : Nat) : Met l yX12_findWay wsX12_findWay rmX12_findWay (va_Pc [.ref (a 0), .int x1] (pQ D cs (mW a cs σ) sz)) (va_Qi (fun x y => x = r ∧ y = u9) (qB D (mW a cs) (va_A (mW a cs σ) sz)) (va_A (mW a cs σ) sz)) 0 0 (va_A (mW a cs σ) sz) := by
  refine Met.ofW (cc := cX12_findWay) (maxL := 9) (ret := (some .int)) (by decide) rfl ?_
  intro p e s m args below meth c s₁ B hml hv
  obtain ⟨rfl, hsz, hP, hK, hD0⟩ := hv
  have C : cxt p s m _ meth c cX12_findWay 9 RX12 wsX12_findWay (some .int) := ⟨B.exec, B.bytes, hml, findClass_of_methodNamed B.named, atoms_spec (ws := wsX12_findWay) B.pre, B.returns, B.notSynchronized⟩
  obtain ⟨hx, hb, -, hown, hts, hr, hlk⟩ := id C
  subst hsz
  have hD := hD0.self (sz := s.heap.size)
  generalize hAe : va_A (mW a cs σ) s.heap.size = A at hD ⊢
  have hA : ∀ q : Nat, s.heap.size ≤ q → A q := fun q h => by rw [← hAe]; exact Or.inr h
  have hS : va_S A s.heap s.heap [] := va_S.rf
  refine entryW [.ref (a 0), .int x1] (n := 9) (Nat.le_of_ble_eq_true rfl) (fun ls hl => ?_)
  have hl : lv_has ls 9 [(0, .ref (a 0)), (1, .int x1)] := hl
  unfold fX12_findWay at h
  refine lv_ldc hx hb hown (hts (.constant RX12 191 (65535)) (by decide +kernel)) dX12_findWay_0 ?_
  refine lv_aload_n hx hb dX12_findWay_2 rfl (lv_at hl 0 rfl) ?_
  refine va_get (D := D) (ci := 11) (v := .int (σ 21 0)) (C := RX12) (T := TX12) (N := 27) hx hb hts inX12_X12_findWay hown hK.1 hP 0 rfl rfl 21 (by decide) (hts (.fieldLink RX12 188 "SandPalaceModel" "barred" "I") (by decide +kernel)) (fun _ h9 => h9) rfl dX12_findWay_3 ?_
  refine lv_iconst (v := ((-1) : Int32)) hx hb dX12_findWay_6 (by decide) ?_
  refine lv_ixor hx hb dX12_findWay_7 ?_
  refine lv_iand hx hb dX12_findWay_8 ?_
  obtain ⟨z1, e_z1, h⟩ := nm_some h
  refine tpi e_z1 ?_
  refine lv_istore_n (lv' := [(2, .int z1), (0, .ref (a 0)), (1, .int x1)]) hx hb dX12_findWay_9 rfl hl (by decide) rfl (fun ls hl => ?_)
  refine lv_iload_n hx hb dX12_findWay_10 rfl (lv_at hl 0 rfl) ?_
  obtain ⟨v2, hc_v2, h⟩ := bd_some h
  refine mcallS (va_runS (As := [.int z1]) (rest := []) ⟨hx, hb, hml, hown, hts⟩ (kX12_ones l F z1 v2 hc_v2) (va_cwS 1 hts gX12_findWay_X12_ones rfl rfl rfl (by decide +kernel) ⟨Nat.le_of_ble_eq_true rfl, Nat.le_of_ble_eq_true rfl⟩) p0_s rfl rfl hl.1 rfl (lv_room (Nat.le_of_ble_eq_true rfl)) dX12_findWay_11 ⟨Nat.zero_le _, Nat.zero_le _⟩) ?_
  refine lv_istore_n (lv' := [(3, .int v2), (2, .int z1), (0, .ref (a 0)), (1, .int x1)]) hx hb dX12_findWay_14 rfl hl (by decide) rfl (fun ls hl => ?_)
  refine lv_iload_n hx hb dX12_findWay_15 rfl (lv_at hl 3 rfl) ?_
  obtain ⟨v3, hc_v3, h⟩ := bd_some h
  refine mcallS (va_runS (As := [.int x1]) (rest := []) ⟨hx, hb, hml, hown, hts⟩ (kX12_gateField l x1 v3 hc_v3) (va_cwS 1 hts gX12_findWay_X12_gateField rfl rfl rfl (by decide +kernel) ⟨Nat.le_of_ble_eq_true rfl, Nat.le_of_ble_eq_true rfl⟩) p0_s rfl rfl hl.1 rfl (lv_room (Nat.le_of_ble_eq_true rfl)) dX12_findWay_16 ⟨Nat.zero_le _, Nat.zero_le _⟩) ?_
  refine lv_istore (lv' := [(4, .int v3), (3, .int v2), (2, .int z1), (0, .ref (a 0)), (1, .int x1)]) hx hb dX12_findWay_19 hl (by decide) rfl (fun ls hl => ?_)
  refine lv_iload_n hx hb dX12_findWay_21 rfl (lv_at hl 2 rfl) ?_
  refine lv_iload hx hb dX12_findWay_22 (lv_at hl 0 rfl) ?_
  refine lv_ishr hx hb dX12_findWay_24 ?_
  refine lv_iconst (v := (1 : Int32)) hx hb dX12_findWay_25 (by decide) ?_
  refine lv_iand hx hb dX12_findWay_26 ?_
  refine lv_if_ne (tgt := 33) hx hb dX12_findWay_27 (by decide) (fun c4 => ?_) (fun c4 => ?_)
  · have h := it_t c4 h
    refine lv_aload_n hx hb dX12_findWay_33 rfl (lv_at hl 3 rfl) ?_
    refine va_get (D := D) (ci := 11) (v := .ref (a 23)) (C := RX12) (T := TX12) (N := 27) hx hb hts inX12_X12_findWay hown hK.1 hP 0 rfl rfl 23 (by decide) (hts (.fieldLink RX12 66 "SandPalaceModel" "way" "[I") (by decide +kernel)) (fun _ h9 => h9) rfl dX12_findWay_34 ?_
    refine lv_iconst (v := (0 : Int32)) hx hb dX12_findWay_37 (by decide) ?_
    refine lv_iload hx hb dX12_findWay_38 (lv_at hl 0 rfl) ?_
    obtain ⟨i5, h⟩ := aS_some h
    refine va_iast hx hb hK.1 hP hD hS 18 0 rfl rfl i5 dX12_findWay_40 (fun H locs hP hD hS => ?_)
    obtain ⟨σ6, e_σ6, h⟩ := nm_some h
    have hP : va_P D vwCl (mW a cs σ6) H := by rw [← e_σ6]; exact hP
    have hD : va_D A (mW a cs σ6) := by rw [← e_σ6]; exact hD
    refine lv_iconst (v := (1 : Int32)) hx hb dX12_findWay_41 (by decide) ?_
    refine lv_iload hx hb dX12_findWay_42 (lv_at hl 0 rfl) ?_
    refine lv_ishl hx hb dX12_findWay_44 ?_
    obtain ⟨z7, e_z7, h⟩ := nm_some h
    refine tpi e_z7 ?_
    refine lv_istore (lv' := [(5, .int z7), (4, .int v3), (3, .int v2), (2, .int z1), (0, .ref (a 0)), (1, .int x1)]) hx hb dX12_findWay_45 hl (by decide) rfl (fun ls hl => ?_)
    refine lv_iconst (v := (1 : Int32)) hx hb dX12_findWay_47 (by decide) ?_
    refine lv_istore (lv' := [(6, .int (1 : Int32)), (5, .int z7), (4, .int v3), (3, .int v2), (2, .int z1), (0, .ref (a 0)), (1, .int x1)]) hx hb dX12_findWay_48 hl (by decide) rfl (fun ls hl => ?_)
    refine lv_iconst (v := (0 : Int32)) hx hb dX12_findWay_50 (by decide) ?_
    refine lv_istore (lv' := [(7, .int (0 : Int32)), (6, .int (1 : Int32)), (5, .int z7), (4, .int v3), (3, .int v2), (2, .int z1), (0, .ref (a 0)), (1, .int x1)]) hx hb dX12_findWay_51 hl (by decide) rfl (fun ls hl => ?_)
    refine wX12_findWay_L53 C hK hA r u9 F z1 v2 _ ?_ F z7 (1 : Int32) (0 : Int32) σ6 _ _ ls hP hD hS (lv_sub hl [6, 5, 4, 2, 1, 0] rfl) h
    intro y8 σ9 H locs ls hP hD hS hl h
    refine lv_iload hx hb dX12_findWay_185 (lv_at hl 1 rfl) ?_
    refine lv_if_ne (tgt := 195) hx hb dX12_findWay_187 (by decide) (fun c10 => ?_) (fun c10 => ?_)
    · have h := it_t c10 h
      refine lv_iload_n hx hb dX12_findWay_195 rfl (lv_at hl 0 rfl) ?_
      exact mretQ hx hb hr hlk h hP hD hS dX12_findWay_196
    · have h := it_n c10 h
      refine lv_bipush (v := ((-4) : Int32)) hx hb dX12_findWay_190 (by decide) ?_
      refine lv_goto (tgt := 196) hx hb dX12_findWay_192 (by decide) ?_
      exact mretQ hx hb hr hlk h hP hD hS dX12_findWay_196
  · have h := it_n c4 h
    refine lv_bipush (v := ((-4) : Int32)) hx hb dX12_findWay_30 (by decide) ?_
    exact mretQ hx hb hr hlk h hP hD hS dX12_findWay_32
def fX12_way (F : Nat) (σ : Nat → Nat → Int32) (x1 : Int32) : Option (Int32 × (Nat → Nat → Int32)) :=
  bd (fX12_in x1.toInt64 (0 : Int64) (3 : Int64)) fun v1 => if v1 = 0 then (some (((-1) : Int32), σ)) else (bd (fX12_findWay F σ x1) fun (v3, σ4) => some (v3, σ4))
abbrev rmX12_way : Room := { frames := 3, cells := 0, slots := 0, locals := 71 }
set_option maxHeartbeats 4000000 in
set_option maxRecDepth 100000 in
theorem kX12_way (l : Launch) (D : va_G) (cs : Nat → ClassId) (a : Nat → Nat) (σ : Nat → Nat → Int32) (F : Nat) (x1 : Int32) (r : Int32) (u9 : Nat → Nat → Int32) (h : fX12_way F σ x1 = some (r, u9)) (sz : Nat) : Met l yX12_way wsX12_way rmX12_way (va_Pc [.ref (a 0), .int x1] (pQ D cs (mW a cs σ) sz)) (va_Qi (fun x y => x = r ∧ y = u9) (qB D (mW a cs) (va_A (mW a cs σ) sz)) (va_A (mW a cs σ) sz)) 0 0 (va_A (mW a cs σ) sz) := by
  refine Met.ofW (cc := cX12_way) (maxL := 2) (ret := (some .int)) (by decide) rfl ?_
  intro p e s m args below meth c s₁ B hml hv
  obtain ⟨rfl, hsz, hP, hK, hD0⟩ := hv
  have C : cxt p s m _ meth c cX12_way 2 RX12 wsX12_way (some .int) := ⟨B.exec, B.bytes, hml, findClass_of_methodNamed B.named, atoms_spec (ws := wsX12_way) B.pre, B.returns, B.notSynchronized⟩
  obtain ⟨hx, hb, -, hown, hts, hr, hlk⟩ := id C
  subst hsz
  have hD := hD0.self (sz := s.heap.size)
  generalize hAe : va_A (mW a cs σ) s.heap.size = A at hD ⊢
  have hA : ∀ q : Nat, s.heap.size ≤ q → A q := fun q h => by rw [← hAe]; exact Or.inr h
  have hS : va_S A s.heap s.heap [] := va_S.rf
  refine entryW [.ref (a 0), .int x1] (n := 2) (Nat.le_of_ble_eq_true rfl) (fun ls hl => ?_)
  have hl : lv_has ls 2 [(0, .ref (a 0)), (1, .int x1)] := hl
  unfold fX12_way at h
  refine lv_iload_n hx hb dX12_way_0 rfl (lv_at hl 1 rfl) ?_
  refine lv_i2l hx hb dX12_way_1 rfl ?_
  refine lv_lconst (v := (0 : Int64)) hx hb dX12_way_2 (by decide) ?_
  refine lv_ldc2 hx hb hown (hts (.constantLong RX12 184 (3)) (by decide +kernel)) dX12_way_3 ?_
  obtain ⟨v1, hc_v1, h⟩ := bd_some h
  refine mcallSZ (va_runS (As := [.long x1.toInt64, .long (0 : Int64), .long (3 : Int64)]) (rest := []) ⟨hx, hb, hml, hown, hts⟩ (kX12_in l x1.toInt64 (0 : Int64) (3 : Int64) v1 hc_v1) (va_cwS 3 hts gX12_way_X12_in rfl rfl rfl (by decide +kernel) ⟨Nat.le_of_ble_eq_true rfl, Nat.le_of_ble_eq_true rfl⟩) p0_s rfl rfl hl.1 rfl (lv_room (Nat.le_of_ble_eq_true rfl)) dX12_way_6 ⟨Nat.zero_le _, Nat.zero_le _⟩) (fun z_v1 => ?_)
  refine lv_if_eq (tgt := 20) hx hb dX12_way_9 (by decide) (fun c2 => ?_) (fun c2 => ?_)
  · have h := it_t c2 h
    refine lv_iconst (v := ((-1) : Int32)) hx hb dX12_way_20 (by decide) ?_
    exact mretQ hx hb hr hlk h hP hD hS dX12_way_21
  · have h := it_f c2 h
    refine lv_aload_n hx hb dX12_way_12 rfl (lv_at hl 0 rfl) ?_
    refine lv_iload_n hx hb dX12_way_13 rfl (lv_at hl 1 rfl) ?_
    obtain ⟨⟨v3, σ4⟩, hc_v3, h⟩ := bd_some h
    refine mcallQ (wf := (mW a cs)) (va_runV (As := [.int x1]) (rest := []) ⟨hx, hb, hml, hown, hts⟩ (kX12_findWay l D cs a σ F x1 v3 σ4 hc_v3 _) (cwV 1 hts gX12_way_X12_findWay rfl rfl rfl (by decide +kernel) ⟨Nat.le_of_ble_eq_true rfl, Nat.le_of_ble_eq_true rfl⟩) (pQ_v hP hK hD (va_recv hK.1 hP (ci := 11) (q0 := 0) rfl rfl)) rfl rfl hl.1 rfl (lv_room (Nat.le_of_ble_eq_true rfl)) dX12_way_14 ⟨Nat.zero_le _, Nat.zero_le _⟩) hD hS hA (fun H locs hP hD hS => ?_)
    refine lv_goto (tgt := 21) hx hb dX12_way_17 (by decide) ?_
    exact mretQ hx hb hr hlk h hP hD hS dX12_way_21
def fX12_wayAt (F : Nat) (σ : Nat → Nat → Int32) (x1 : Int32) (x2 : Int32) : Option (Int32 × (Nat → Nat → Int32)) :=
  bd (fX12_in x1.toInt64 (0 : Int64) (3 : Int64)) fun v1 => if v1 = 0 then (some (((-1) : Int32), σ)) else (if 0 ≤ x2 then (bd (fX12_findWay F σ x1) fun (v4, σ5) => if 0 ≤ v4 then (if v4 ≤ x2 then (some (((-1) : Int32), σ5)) else (aI (σ5 23) 16 x2 fun v8 => some (v8, σ5))) else (some (((-4) : Int32), σ5))) else (some (((-1) : Int32), σ)))
abbrev rmX12_wayAt : Room := { frames := 3, cells := 0, slots := 0, locals := 71 }
theorem inX12_X12_wayAt : ∀ w ∈ wsX120, w ∈ wsX12_wayAt := by intro w h; simp only [wsX12_wayAt, List.mem_cons, List.mem_append]; simp only [h, true_or, or_true]
set_option maxHeartbeats 4000000 in
set_option maxRecDepth 100000 in
theorem kX12_wayAt (l : Launch) (D : va_G) (cs : Nat → ClassId) (a : Nat → Nat) (σ : Nat → Nat → Int32) (F : Nat) (x1 : Int32) (x2 : Int32) (r : Int32) (u9 : Nat → Nat → Int32) (h : fX12_wayAt F σ x1 x2 = some (r, u9)) (sz : Nat) : Met l yX12_wayAt wsX12_wayAt rmX12_wayAt (va_Pc [.ref (a 0), .int x1, .int x2] (pQ D cs (mW a cs σ) sz)) (va_Qi (fun x y => x = r ∧ y = u9) (qB D (mW a cs) (va_A (mW a cs σ) sz)) (va_A (mW a cs σ) sz)) 0 0 (va_A (mW a cs σ) sz) := by
  refine Met.ofW (cc := cX12_wayAt) (maxL := 4) (ret := (some .int)) (by decide) rfl ?_
  intro p e s m args below meth c s₁ B hml hv
  obtain ⟨rfl, hsz, hP, hK, hD0⟩ := hv
  have C : cxt p s m _ meth c cX12_wayAt 4 RX12 wsX12_wayAt (some .int) := ⟨B.exec, B.bytes, hml, findClass_of_methodNamed B.named, atoms_spec (ws := wsX12_wayAt) B.pre, B.returns, B.notSynchronized⟩
  obtain ⟨hx, hb, -, hown, hts, hr, hlk⟩ := id C
  subst hsz
  have hD := hD0.self (sz := s.heap.size)
  generalize hAe : va_A (mW a cs σ) s.heap.size = A at hD ⊢
  have hA : ∀ q : Nat, s.heap.size ≤ q → A q := fun q h => by rw [← hAe]; exact Or.inr h
  have hS : va_S A s.heap s.heap [] := va_S.rf
  refine entryW [.ref (a 0), .int x1, .int x2] (n := 4) (Nat.le_of_ble_eq_true rfl) (fun ls hl => ?_)
  have hl : lv_has ls 4 [(0, .ref (a 0)), (1, .int x1), (2, .int x2)] := hl
  unfold fX12_wayAt at h
  refine lv_iload_n hx hb dX12_wayAt_0 rfl (lv_at hl 1 rfl) ?_
  refine lv_i2l hx hb dX12_wayAt_1 rfl ?_
  refine lv_lconst (v := (0 : Int64)) hx hb dX12_wayAt_2 (by decide) ?_
  refine lv_ldc2 hx hb hown (hts (.constantLong RX12 184 (3)) (by decide +kernel)) dX12_wayAt_3 ?_
  obtain ⟨v1, hc_v1, h⟩ := bd_some h
  refine mcallSZ (va_runS (As := [.long x1.toInt64, .long (0 : Int64), .long (3 : Int64)]) (rest := []) ⟨hx, hb, hml, hown, hts⟩ (kX12_in l x1.toInt64 (0 : Int64) (3 : Int64) v1 hc_v1) (va_cwS 3 hts gX12_wayAt_X12_in rfl rfl rfl (by decide +kernel) ⟨Nat.le_of_ble_eq_true rfl, Nat.le_of_ble_eq_true rfl⟩) p0_s rfl rfl hl.1 rfl (lv_room (Nat.le_of_ble_eq_true rfl)) dX12_wayAt_6 ⟨Nat.zero_le _, Nat.zero_le _⟩) (fun z_v1 => ?_)
  refine lv_if_eq (tgt := 16) hx hb dX12_wayAt_9 (by decide) (fun c2 => ?_) (fun c2 => ?_)
  · have h := it_t c2 h
    refine lv_iconst (v := ((-1) : Int32)) hx hb dX12_wayAt_16 (by decide) ?_
    exact mretQ hx hb hr hlk h hP hD hS dX12_wayAt_17
  · have h := it_f c2 h
    refine lv_iload_n hx hb dX12_wayAt_12 rfl (lv_at hl 2 rfl) ?_
    refine lv_if_ge (tgt := 18) hx hb dX12_wayAt_13 (by decide) (fun c3 => ?_) (fun c3 => ?_)
    · have h := it_t c3 h
      refine lv_aload_n hx hb dX12_wayAt_18 rfl (lv_at hl 0 rfl) ?_
      refine lv_iload_n hx hb dX12_wayAt_19 rfl (lv_at hl 1 rfl) ?_
      obtain ⟨⟨v4, σ5⟩, hc_v4, h⟩ := bd_some h
      refine mcallQ (wf := (mW a cs)) (va_runV (As := [.int x1]) (rest := []) ⟨hx, hb, hml, hown, hts⟩ (kX12_findWay l D cs a σ F x1 v4 σ5 hc_v4 _) (cwV 1 hts gX12_wayAt_X12_findWay rfl rfl rfl (by decide +kernel) ⟨Nat.le_of_ble_eq_true rfl, Nat.le_of_ble_eq_true rfl⟩) (pQ_v hP hK hD (va_recv hK.1 hP (ci := 11) (q0 := 0) rfl rfl)) rfl rfl hl.1 rfl (lv_room (Nat.le_of_ble_eq_true rfl)) dX12_wayAt_20 ⟨Nat.zero_le _, Nat.zero_le _⟩) hD hS hA (fun H locs hP hD hS => ?_)
      refine lv_istore_n (lv' := [(3, .int v4), (0, .ref (a 0)), (1, .int x1), (2, .int x2)]) hx hb dX12_wayAt_23 rfl hl (by decide) rfl (fun ls hl => ?_)
      refine lv_iload_n hx hb dX12_wayAt_24 rfl (lv_at hl 0 rfl) ?_
      refine lv_if_ge (tgt := 33) hx hb dX12_wayAt_25 (by decide) (fun c6 => ?_) (fun c6 => ?_)
      · have h := it_t c6 h
        refine lv_iload_n hx hb dX12_wayAt_33 rfl (lv_at hl 3 rfl) ?_
        refine lv_iload_n hx hb dX12_wayAt_34 rfl (lv_at hl 0 rfl) ?_
        refine lv_icmp_ge (tgt := 47) hx hb dX12_wayAt_35 (by decide) (fun c7 => ?_) (fun c7 => ?_)
        · have h := it_t c7 h
          refine lv_iconst (v := ((-1) : Int32)) hx hb dX12_wayAt_47 (by decide) ?_
          exact mretQ hx hb hr hlk h hP hD hS dX12_wayAt_48
        · have h := it_f c7 h
          refine lv_aload_n hx hb dX12_wayAt_38 rfl (lv_at hl 1 rfl) ?_
          refine va_get (D := D) (ci := 11) (v := .ref (a 23)) (C := RX12) (T := TX12) (N := 27) hx hb hts inX12_X12_wayAt hown hK.1 hP 0 rfl rfl 23 (by decide) (hts (.fieldLink RX12 66 "SandPalaceModel" "way" "[I") (by decide +kernel)) (fun _ h9 => h9) rfl dX12_wayAt_39 ?_
          refine lv_iload_n hx hb dX12_wayAt_42 rfl (lv_at hl 3 rfl) ?_
          obtain ⟨v8, i_v8, e_v8, h⟩ := aI_some h
          refine miald hx hb hK.1 hP 18 0 rfl rfl i_v8 e_v8 dX12_wayAt_43 ?_
          refine lv_goto (tgt := 48) hx hb dX12_wayAt_44 (by decide) ?_
          exact mretQ hx hb hr hlk h hP hD hS dX12_wayAt_48
      · have h := it_f c6 h
        refine lv_bipush (v := ((-4) : Int32)) hx hb dX12_wayAt_28 (by decide) ?_
        refine lv_goto (tgt := 48) hx hb dX12_wayAt_30 (by decide) ?_
        exact mretQ hx hb hr hlk h hP hD hS dX12_wayAt_48
    · have h := it_f c3 h
      refine lv_iconst (v := ((-1) : Int32)) hx hb dX12_wayAt_16 (by decide) ?_
      exact mretQ hx hb hr hlk h hP hD hS dX12_wayAt_17
def fX12_heap_J74 (F : Nat) (kb : Int32 → Int32 → Option Int32) (x1 : Int32) (x3 : Int32) (t0 : Int32) (t1 : Int32) (σ : Nat → Nat → Int32) : Option Int32 :=
  kb (t1 + t0) (x3 + (1 : Int32))
def fX12_heap_J54 (F : Nat) (kb : Int32 → Int32 → Option Int32) (x1 : Int32) (x2 : Int32) (x3 : Int32) (t0 : Int32) (σ : Nat → Nat → Int32) : Option Int32 :=
  if t0 = 0 then (fX12_heap_J74 F kb x1 x3 (0 : Int32) x2 σ) else (bd (fX12_layersOf F σ x3) fun v6 => bd (fX12_ones F v6) fun v7 => fX12_heap_J74 F kb x1 x3 v7 x2 σ)
def fX12_heap_J53 (F : Nat) (kb : Int32 → Int32 → Option Int32) (x1 : Int32) (x2 : Int32) (x3 : Int32) (σ : Nat → Nat → Int32) : Option Int32 :=
  fX12_heap_J54 F kb x1 x2 x3 (0 : Int32) σ
def fX12_heap_L18 (F : Nat) (σ : Nat → Nat → Int32) (x1 : Int32) (kx : Int32 → Option Int32) : Nat → Int32 → Int32 → Option Int32
  | 0, _, _ => none
  | n+1, x2, x3 =>
    nb ((fun x2 x3 => fX12_heap_L18 F σ x1 kx n x2 x3)) fun kb =>
    if (256 : Int32) ≤ x3 then (kx x2) else (if ¬ ((x3 - x3 / (16 : Int32) * (16 : Int32)) / (4 : Int32)) = (x1 - x1 / (4 : Int32) * (4 : Int32)) then (fX12_heap_J53 F kb x1 x2 x3 σ) else (if ¬ ((x3 / (16 : Int32)) / (4 : Int32)) = (x1 / (4 : Int32)) then (fX12_heap_J53 F kb x1 x2 x3 σ) else (fX12_heap_J54 F kb x1 x2 x3 (1 : Int32) σ)))
def fX12_heap (F : Nat) (σ : Nat → Nat → Int32) (x1 : Int32) : Option Int32 :=
  bd (fX12_in x1.toInt64 (0 : Int64) (15 : Int64)) fun v1 => if ¬ v1 = 0 then (fX12_heap_L18 F σ x1 (fun y3 => some y3) F (0 : Int32) (0 : Int32)) else (some ((-1) : Int32))
abbrev rmX12_heap : Room := { frames := 1, cells := 0, slots := 0, locals := 25 }
set_option maxHeartbeats 4000000 in
set_option maxRecDepth 100000 in
theorem wX12_heap_J74 {p : Program} {l : Launch} {e : Env} {s : State} {m : MethodId} {args : Array Value} {below : List Frame} {meth : Method} {c : Code} (C : cxt p s m args meth c cX12_heap 5 RX12 wsX12_heap (some .int)) {D : va_G} {cs : Nat → ClassId} {a : Nat → Nat} (hK : KK D cs s) {σ : Nat → Nat → Int32} (hP : va_P D vwCl (mW a cs σ) s.heap) (r : Int32) (F : Nat) (kb : Int32 → Int32 → Option Int32) (x1 : Int32) (x3 : Int32) (t0 : Int32) (t1 : Int32) (hkb : ∀ (x2 : Int32) (x3 : Int32) (ls : Array Slot), lv_has ls 5 [(0, .ref (a 0)), (1, .int x1), (2, .int x2), (3, .int x3)] → kb x2 x3 = some r → W p l e rmX12_heap s m args below meth c s.heap [] 0 0 (MQ below (vp_Si (fun x => x = r)) args s 0 0 (fun _ => False)) (F0 m 18 ls [])) (ls : Array Slot) (hl : lv_has ls 5 [(0, .ref (a 0)), (1, .int x1), (3, .int x3)]) (h : fX12_heap_J74 F kb x1 x3 t0 t1 σ = some r) : W p l e rmX12_heap s m args below meth c s.heap [] 0 0 (MQ below (vp_Si (fun x => x = r)) args s 0 0 (fun _ => False)) (F0 m 74 ls [.int t0, .int t1]) := by
  obtain ⟨hx, hb, hml, hown, hts, hr, hlk⟩ := id C
  unfold fX12_heap_J74 at h
  refine lv_iadd hx hb dX12_heap_74 ?_
  refine lv_istore_n (lv' := [(2, .int (t1 + t0)), (0, .ref (a 0)), (1, .int x1), (3, .int x3)]) hx hb dX12_heap_75 rfl hl (by decide) rfl (fun ls hl => ?_)
  refine lv_iinc (v := x3 + (1 : Int32)) (lv' := [(3, .int (x3 + (1 : Int32))), (2, .int (t1 + t0)), (0, .ref (a 0)), (1, .int x1)]) hx hb dX12_heap_76 hl (k := 3) rfl rfl (by decide) rfl (fun ls hl => ?_)
  refine lv_goto (tgt := 18) hx hb dX12_heap_79 (by decide) ?_
  exact hkb (t1 + t0) (x3 + (1 : Int32)) ls (lv_sub hl [2, 3, 1, 0] rfl) h
set_option maxHeartbeats 4000000 in
set_option maxRecDepth 100000 in
theorem wX12_heap_J54 {p : Program} {l : Launch} {e : Env} {s : State} {m : MethodId} {args : Array Value} {below : List Frame} {meth : Method} {c : Code} (C : cxt p s m args meth c cX12_heap 5 RX12 wsX12_heap (some .int)) {D : va_G} {cs : Nat → ClassId} {a : Nat → Nat} (hK : KK D cs s) {σ : Nat → Nat → Int32} (hP : va_P D vwCl (mW a cs σ) s.heap) (r : Int32) (F : Nat) (kb : Int32 → Int32 → Option Int32) (x1 : Int32) (x2 : Int32) (x3 : Int32) (t0 : Int32) (hkb : ∀ (x2 : Int32) (x3 : Int32) (ls : Array Slot), lv_has ls 5 [(0, .ref (a 0)), (1, .int x1), (2, .int x2), (3, .int x3)] → kb x2 x3 = some r → W p l e rmX12_heap s m args below meth c s.heap [] 0 0 (MQ below (vp_Si (fun x => x = r)) args s 0 0 (fun _ => False)) (F0 m 18 ls [])) (ls : Array Slot) (hl : lv_has ls 5 [(0, .ref (a 0)), (1, .int x1), (2, .int x2), (3, .int x3)]) (h : fX12_heap_J54 F kb x1 x2 x3 t0 σ = some r) : W p l e rmX12_heap s m args below meth c s.heap [] 0 0 (MQ below (vp_Si (fun x => x = r)) args s 0 0 (fun _ => False)) (F0 m 54 ls [.int t0]) := by
  obtain ⟨hx, hb, hml, hown, hts, hr, hlk⟩ := id C
  unfold fX12_heap_J54 at h
  refine lv_istore (lv' := [(4, .int t0), (0, .ref (a 0)), (1, .int x1), (2, .int x2), (3, .int x3)]) hx hb dX12_heap_54 hl (by decide) rfl (fun ls hl => ?_)
  refine lv_iload_n hx hb dX12_heap_56 rfl (lv_at hl 3 rfl) ?_
  refine lv_iload hx hb dX12_heap_57 (lv_at hl 0 rfl) ?_
  refine lv_if_eq (tgt := 73) hx hb dX12_heap_59 (by decide) (fun c5 => ?_) (fun c5 => ?_)
  · have h := it_t c5 h
    refine lv_iconst (v := (0 : Int32)) hx hb dX12_heap_73 (by decide) ?_
    exact wX12_heap_J74 C hK hP r F kb x1 x3 (0 : Int32) x2 hkb ls (lv_sub hl [1, 2, 4] rfl) h
  · have h := it_f c5 h
    refine lv_aload_n hx hb dX12_heap_62 rfl (lv_at hl 1 rfl) ?_
    refine lv_iload_n hx hb dX12_heap_63 rfl (lv_at hl 4 rfl) ?_
    obtain ⟨v6, hc_v6, h⟩ := bd_some h
    refine mcallS (va_runV (As := [.int x3]) (rest := [.int x2]) ⟨hx, hb, hml, hown, hts⟩ (kX12_layersOf l D cs a σ F x3 v6 hc_v6) (cwV 1 hts gX12_heap_X12_layersOf rfl rfl rfl (by decide +kernel) ⟨Nat.le_of_ble_eq_true rfl, Nat.le_of_ble_eq_true rfl⟩) (pR_v hP hK (va_recv hK.1 hP (ci := 11) (q0 := 0) rfl rfl)) rfl rfl hl.1 rfl (lv_room (Nat.le_of_ble_eq_true rfl)) dX12_heap_64 ⟨Nat.zero_le _, Nat.zero_le _⟩) ?_
    obtain ⟨v7, hc_v7, h⟩ := bd_some h
    refine mcallS (va_runS (As := [.int v6]) (rest := [.int x2]) ⟨hx, hb, hml, hown, hts⟩ (kX12_ones l F v6 v7 hc_v7) (va_cwS 1 hts gX12_heap_X12_ones rfl rfl rfl (by decide +kernel) ⟨Nat.le_of_ble_eq_true rfl, Nat.le_of_ble_eq_true rfl⟩) p0_s rfl rfl hl.1 rfl (lv_room (Nat.le_of_ble_eq_true rfl)) dX12_heap_67 ⟨Nat.zero_le _, Nat.zero_le _⟩) ?_
    refine lv_goto (tgt := 74) hx hb dX12_heap_70 (by decide) ?_
    exact wX12_heap_J74 C hK hP r F kb x1 x3 v7 x2 hkb ls (lv_sub hl [1, 2, 4] rfl) h
set_option maxHeartbeats 4000000 in
set_option maxRecDepth 100000 in
theorem wX12_heap_J53 {p : Program} {l : Launch} {e : Env} {s : State} {m : MethodId} {args : Array Value} {below : List Frame} {meth : Method} {c : Code} (C : cxt p s m args meth c cX12_heap 5 RX12 wsX12_heap (some .int)) {D : va_G} {cs : Nat → ClassId} {a : Nat → Nat} (hK : KK D cs s) {σ : Nat → Nat → Int32} (hP : va_P D vwCl (mW a cs σ) s.heap) (r : Int32) (F : Nat) (kb : Int32 → Int32 → Option Int32) (x1 : Int32) (x2 : Int32) (x3 : Int32) (hkb : ∀ (x2 : Int32) (x3 : Int32) (ls : Array Slot), lv_has ls 5 [(0, .ref (a 0)), (1, .int x1), (2, .int x2), (3, .int x3)] → kb x2 x3 = some r → W p l e rmX12_heap s m args below meth c s.heap [] 0 0 (MQ below (vp_Si (fun x => x = r)) args s 0 0 (fun _ => False)) (F0 m 18 ls [])) (ls : Array Slot) (hl : lv_has ls 5 [(0, .ref (a 0)), (1, .int x1), (2, .int x2), (3, .int x3)]) (h : fX12_heap_J53 F kb x1 x2 x3 σ = some r) : W p l e rmX12_heap s m args below meth c s.heap [] 0 0 (MQ below (vp_Si (fun x => x = r)) args s 0 0 (fun _ => False)) (F0 m 53 ls []) := by
  obtain ⟨hx, hb, hml, hown, hts, hr, hlk⟩ := id C
  unfold fX12_heap_J53 at h
  refine lv_iconst (v := (0 : Int32)) hx hb dX12_heap_53 (by decide) ?_
  exact wX12_heap_J54 C hK hP r F kb x1 x2 x3 (0 : Int32) hkb ls (lv_sub hl [0, 1, 2, 3] rfl) h
set_option maxHeartbeats 4000000 in
set_option maxRecDepth 100000 in
theorem wX12_heap_L18 {p : Program} {l : Launch} {e : Env} {s : State} {m : MethodId} {args : Array Value} {below : List Frame} {meth : Method} {c : Code} (C : cxt p s m args meth c cX12_heap 5 RX12 wsX12_heap (some .int)) {D : va_G} {cs : Nat → ClassId} {a : Nat → Nat} (hK : KK D cs s) {σ : Nat → Nat → Int32} (hP : va_P D vwCl (mW a cs σ) s.heap) (r : Int32) (F : Nat) (x1 : Int32) (kx : Int32 → Option Int32) (hkx : ∀ (x2 : Int32) (ls : Array Slot), lv_has ls 5 [(2, .int x2)] → kx x2 = some r → W p l e rmX12_heap s m args below meth c s.heap [] 0 0 (MQ below (vp_Si (fun x => x = r)) args s 0 0 (fun _ => False)) (F0 m 82 ls [])) : ∀ (n : Nat) (x2 : Int32) (x3 : Int32) (ls : Array Slot), lv_has ls 5 [(0, .ref (a 0)), (1, .int x1), (2, .int x2), (3, .int x3)] → fX12_heap_L18 F σ x1 kx n x2 x3 = some r → W p l e rmX12_heap s m args below meth c s.heap [] 0 0 (MQ below (vp_Si (fun x => x = r)) args s 0 0 (fun _ => False)) (F0 m 18 ls []) := by
  obtain ⟨hx, hb, hml, hown, hts, hr, hlk⟩ := id C
  intro n
  induction n with
  | zero =>
    intros
    rename_i h
    cases h
  | succ n ih =>
    intro x2 x3 ls hl h
    rw [fX12_heap_L18] at h
    obtain ⟨kb, hkb, h⟩ := nb_some (P := fun (kb : Int32 → Int32 → Option Int32) => ∀ (x2 : Int32) (x3 : Int32) (ls : Array Slot), lv_has ls 5 [(0, .ref (a 0)), (1, .int x1), (2, .int x2), (3, .int x3)] → kb x2 x3 = some r → W p l e rmX12_heap s m args below meth c s.heap [] 0 0 (MQ below (vp_Si (fun x => x = r)) args s 0 0 (fun _ => False)) (F0 m 18 ls [])) h ih
    refine lv_iload_n hx hb dX12_heap_18 rfl (lv_at hl 3 rfl) ?_
    refine lv_sipush (v := (256 : Int32)) hx hb dX12_heap_19 (by decide) ?_
    refine lv_icmp_ge (tgt := 82) hx hb dX12_heap_22 (by decide) (fun c3 => ?_) (fun c3 => ?_)
    · have h := it_t c3 h
      exact hkx x2 ls (lv_sub hl [2] rfl) h
    · have h := it_f c3 h
      refine lv_iload_n hx hb dX12_heap_25 rfl (lv_at hl 3 rfl) ?_
      refine lv_bipush (v := (16 : Int32)) hx hb dX12_heap_26 (by decide) ?_
      refine lv_irem hx hb dX12_heap_28 (by decide) ?_
      refine lv_iconst (v := (4 : Int32)) hx hb dX12_heap_29 (by decide) ?_
      refine lv_idiv hx hb dX12_heap_30 (by decide) ?_
      refine lv_iload_n hx hb dX12_heap_31 rfl (lv_at hl 1 rfl) ?_
      refine lv_iconst (v := (4 : Int32)) hx hb dX12_heap_32 (by decide) ?_
      refine lv_irem hx hb dX12_heap_33 (by decide) ?_
      refine lv_icmp_ne (tgt := 53) hx hb dX12_heap_34 (by decide) (fun c4 => ?_) (fun c4 => ?_)
      · have h := it_t c4 h
        exact wX12_heap_J53 C hK hP r F kb x1 x2 x3 hkb ls (lv_sub hl [0, 1, 2, 3] rfl) h
      · have h := it_n c4 h
        refine lv_iload_n hx hb dX12_heap_37 rfl (lv_at hl 3 rfl) ?_
        refine lv_bipush (v := (16 : Int32)) hx hb dX12_heap_38 (by decide) ?_
        refine lv_idiv hx hb dX12_heap_40 (by decide) ?_
        refine lv_iconst (v := (4 : Int32)) hx hb dX12_heap_41 (by decide) ?_
        refine lv_idiv hx hb dX12_heap_42 (by decide) ?_
        refine lv_iload_n hx hb dX12_heap_43 rfl (lv_at hl 1 rfl) ?_
        refine lv_iconst (v := (4 : Int32)) hx hb dX12_heap_44 (by decide) ?_
        refine lv_idiv hx hb dX12_heap_45 (by decide) ?_
        refine lv_icmp_ne (tgt := 53) hx hb dX12_heap_46 (by decide) (fun c5 => ?_) (fun c5 => ?_)
        · have h := it_t c5 h
          exact wX12_heap_J53 C hK hP r F kb x1 x2 x3 hkb ls (lv_sub hl [0, 1, 2, 3] rfl) h
        · have h := it_n c5 h
          refine lv_iconst (v := (1 : Int32)) hx hb dX12_heap_49 (by decide) ?_
          refine lv_goto (tgt := 54) hx hb dX12_heap_50 (by decide) ?_
          exact wX12_heap_J54 C hK hP r F kb x1 x2 x3 (1 : Int32) hkb ls (lv_sub hl [0, 1, 2, 3] rfl) h
set_option maxHeartbeats 4000000 in
set_option maxRecDepth 100000 in
theorem kX12_heap (l : Launch) (D : va_G) (cs : Nat → ClassId) (a : Nat → Nat) (σ : Nat → Nat → Int32) (F : Nat) (x1 : Int32) (r : Int32) (h : fX12_heap F σ x1 = some r) : Met l yX12_heap wsX12_heap rmX12_heap (va_Pc [.ref (a 0), .int x1] (pR D cs (mW a cs σ))) (vp_Si (fun x => x = r)) 0 0 (fun _ => False) := by
  refine Met.ofW (cc := cX12_heap) (maxL := 5) (ret := (some .int)) (by decide) rfl ?_
  intro p e s m args below meth c s₁ B hml hv
  obtain ⟨rfl, hP, hK⟩ := hv
  have C : cxt p s m _ meth c cX12_heap 5 RX12 wsX12_heap (some .int) := ⟨B.exec, B.bytes, hml, findClass_of_methodNamed B.named, atoms_spec (ws := wsX12_heap) B.pre, B.returns, B.notSynchronized⟩
  obtain ⟨hx, hb, -, hown, hts, hr, hlk⟩ := id C
  refine entryW [.ref (a 0), .int x1] (n := 5) (Nat.le_of_ble_eq_true rfl) (fun ls hl => ?_)
  have hl : lv_has ls 5 [(0, .ref (a 0)), (1, .int x1)] := hl
  unfold fX12_heap at h
  refine lv_iload_n hx hb dX12_heap_0 rfl (lv_at hl 1 rfl) ?_
  refine lv_i2l hx hb dX12_heap_1 rfl ?_
  refine lv_lconst (v := (0 : Int64)) hx hb dX12_heap_2 (by decide) ?_
  refine lv_ldc2 hx hb hown (hts (.constantLong RX12 149 (15)) (by decide +kernel)) dX12_heap_3 ?_
  obtain ⟨v1, hc_v1, h⟩ := bd_some h
  refine mcallSZ (va_runS (As := [.long x1.toInt64, .long (0 : Int64), .long (15 : Int64)]) (rest := []) ⟨hx, hb, hml, hown, hts⟩ (kX12_in l x1.toInt64 (0 : Int64) (15 : Int64) v1 hc_v1) (va_cwS 3 hts gX12_heap_X12_in rfl rfl rfl (by decide +kernel) ⟨Nat.le_of_ble_eq_true rfl, Nat.le_of_ble_eq_true rfl⟩) p0_s rfl rfl hl.1 rfl (lv_room (Nat.le_of_ble_eq_true rfl)) dX12_heap_6 ⟨Nat.zero_le _, Nat.zero_le _⟩) (fun z_v1 => ?_)
  refine lv_if_ne (tgt := 14) hx hb dX12_heap_9 (by decide) (fun c2 => ?_) (fun c2 => ?_)
  · have h := it_t c2 h
    refine lv_iconst (v := (0 : Int32)) hx hb dX12_heap_14 (by decide) ?_
    refine lv_istore_n (lv' := [(2, .int (0 : Int32)), (0, .ref (a 0)), (1, .int x1)]) hx hb dX12_heap_15 rfl hl (by decide) rfl (fun ls hl => ?_)
    refine lv_iconst (v := (0 : Int32)) hx hb dX12_heap_16 (by decide) ?_
    refine lv_istore_n (lv' := [(3, .int (0 : Int32)), (2, .int (0 : Int32)), (0, .ref (a 0)), (1, .int x1)]) hx hb dX12_heap_17 rfl hl (by decide) rfl (fun ls hl => ?_)
    refine wX12_heap_L18 C hK hP r F x1 _ ?_ F (0 : Int32) (0 : Int32) ls (lv_sub hl [2, 3, 1, 0] rfl) h
    intro y3 ls hl h
    refine lv_iload_n hx hb dX12_heap_82 rfl (lv_at hl 0 rfl) ?_
    exact mretS hx hb hr hlk h dX12_heap_83
  · have h := it_n c2 h
    refine lv_iconst (v := ((-1) : Int32)) hx hb dX12_heap_12 (by decide) ?_
    exact mretS hx hb hr hlk h dX12_heap_13
def fX12_isSheet (x0 : Int32) (x1 : Int32) : Option Int32 :=
  bd (fX12_in x0.toInt64 (0 : Int64) (3 : Int64)) fun v1 => if v1 = 0 then (some (0 : Int32)) else (bd (fX12_in x1.toInt64 (0 : Int64) (2 : Int64)) fun v3 => if v3 = 0 then (some (0 : Int32)) else (some (1 : Int32)))
abbrev rmX12_isSheet : Room := { frames := 1, cells := 0, slots := 0, locals := 25 }
set_option maxHeartbeats 4000000 in
set_option maxRecDepth 100000 in
theorem kX12_isSheet (l : Launch) (x0 : Int32) (x1 : Int32) (r : Int32) (h : fX12_isSheet x0 x1 = some r) : Met l yX12_isSheet wsX12_isSheet rmX12_isSheet (va_Pc [.int x0, .int x1] (p0)) (vp_Si (fun x => x = r ∧ (r = 0 ∨ r = 1))) 0 0 (fun _ => False) := by
  refine Met.ofW (cc := cX12_isSheet) (maxL := 2) (ret := (some .boolean)) (by decide) rfl ?_
  intro p e s m args below meth c s₁ B hml hv
  obtain ⟨rfl, -⟩ := hv
  have C : cxt p s m _ meth c cX12_isSheet 2 RX12 wsX12_isSheet (some .boolean) := ⟨B.exec, B.bytes, hml, findClass_of_methodNamed B.named, atoms_spec (ws := wsX12_isSheet) B.pre, B.returns, B.notSynchronized⟩
  obtain ⟨hx, hb, -, hown, hts, hr, hlk⟩ := id C
  refine entryW [.int x0, .int x1] (n := 2) (Nat.le_of_ble_eq_true rfl) (fun ls hl => ?_)
  have hl : lv_has ls 2 [(0, .int x0), (1, .int x1)] := hl
  unfold fX12_isSheet at h
  refine lv_iload_n hx hb dX12_isSheet_0 rfl (lv_at hl 0 rfl) ?_
  refine lv_i2l hx hb dX12_isSheet_1 rfl ?_
  refine lv_lconst (v := (0 : Int64)) hx hb dX12_isSheet_2 (by decide) ?_
  refine lv_ldc2 hx hb hown (hts (.constantLong RX12 184 (3)) (by decide +kernel)) dX12_isSheet_3 ?_
  obtain ⟨v1, hc_v1, h⟩ := bd_some h
  refine mcallSZ (va_runS (As := [.long x0.toInt64, .long (0 : Int64), .long (3 : Int64)]) (rest := []) ⟨hx, hb, hml, hown, hts⟩ (kX12_in l x0.toInt64 (0 : Int64) (3 : Int64) v1 hc_v1) (va_cwS 3 hts gX12_isSheet_X12_in rfl rfl rfl (by decide +kernel) ⟨Nat.le_of_ble_eq_true rfl, Nat.le_of_ble_eq_true rfl⟩) p0_s rfl rfl hl.1 rfl (lv_room (Nat.le_of_ble_eq_true rfl)) dX12_isSheet_6 ⟨Nat.zero_le _, Nat.zero_le _⟩) (fun z_v1 => ?_)
  refine lv_if_eq (tgt := 28) hx hb dX12_isSheet_9 (by decide) (fun c2 => ?_) (fun c2 => ?_)
  · have h := it_t c2 h
    refine lv_iconst (v := (0 : Int32)) hx hb dX12_isSheet_28 (by decide) ?_
    exact mretSZ hx hb hr hlk h (Or.inl rfl) dX12_isSheet_29
  · have h := it_f c2 h
    refine lv_iload_n hx hb dX12_isSheet_12 rfl (lv_at hl 1 rfl) ?_
    refine lv_i2l hx hb dX12_isSheet_13 rfl ?_
    refine lv_lconst (v := (0 : Int64)) hx hb dX12_isSheet_14 (by decide) ?_
    refine lv_ldc2 hx hb hown (hts (.constantLong RX12 154 (2)) (by decide +kernel)) dX12_isSheet_15 ?_
    obtain ⟨v3, hc_v3, h⟩ := bd_some h
    refine mcallSZ (va_runS (As := [.long x1.toInt64, .long (0 : Int64), .long (2 : Int64)]) (rest := []) ⟨hx, hb, hml, hown, hts⟩ (kX12_in l x1.toInt64 (0 : Int64) (2 : Int64) v3 hc_v3) (va_cwS 3 hts gX12_isSheet_X12_in rfl rfl rfl (by decide +kernel) ⟨Nat.le_of_ble_eq_true rfl, Nat.le_of_ble_eq_true rfl⟩) p0_s rfl rfl hl.1 rfl (lv_room (Nat.le_of_ble_eq_true rfl)) dX12_isSheet_18 ⟨Nat.zero_le _, Nat.zero_le _⟩) (fun z_v3 => ?_)
    refine lv_if_eq (tgt := 28) hx hb dX12_isSheet_21 (by decide) (fun c4 => ?_) (fun c4 => ?_)
    · have h := it_t c4 h
      refine lv_iconst (v := (0 : Int32)) hx hb dX12_isSheet_28 (by decide) ?_
      exact mretSZ hx hb hr hlk h (Or.inl rfl) dX12_isSheet_29
    · have h := it_f c4 h
      refine lv_iconst (v := (1 : Int32)) hx hb dX12_isSheet_24 (by decide) ?_
      refine lv_goto (tgt := 29) hx hb dX12_isSheet_25 (by decide) ?_
      exact mretSZ hx hb hr hlk h (Or.inr rfl) dX12_isSheet_29
def fX12_sheet_L41 (F : Nat) (x1 : Int32) (x3 : Int32) (kx : (Nat → Nat → Int32) → Option (Int32 × (Nat → Nat → Int32))) : Nat → Int32 → (Nat → Nat → Int32) → Option (Int32 × (Nat → Nat → Int32))
  | 0, _, _ => none
  | n+1, x4, σ =>
    nb ((fun x4 σ => fX12_sheet_L41 F x1 x3 kx n x4 σ)) fun kb =>
    if (256 : Int32) ≤ x4 then (kx σ) else (aS 1024 (((256 : Int32) * x1) + x4) (nm (sg σ 26 (upd (σ 26) (((256 : Int32) * x1) + x4).toNatClampNeg (0 : Int32))) fun σ11 => kb (x4 + (1 : Int32)) σ11))
def fX12_sheet (F : Nat) (σ : Nat → Nat → Int32) (x1 : Int32) (x2 : Int32) (x3 : Int32) : Option (Int32 × (Nat → Nat → Int32)) :=
  bd (fX12_isSheet x1 x2) fun v1 => if v1 = 0 then (some (((-1) : Int32), σ)) else (if x3 ≤ (256 : Int32) then (if 0 ≤ x3 then (aS 4 x1 (nm (sg σ 24 (upd (σ 24) x1.toNatClampNeg x2)) fun σ6 => aS 4 x1 (nm (sg σ6 25 (upd (σ6 25) x1.toNatClampNeg x3)) fun σ8 => fX12_sheet_L41 F x1 x3 (fun σ9 => some (x3, σ9)) F (0 : Int32) σ8))) else (some (((-14) : Int32), σ))) else (some (((-1) : Int32), σ)))
abbrev rmX12_sheet : Room := { frames := 2, cells := 0, slots := 0, locals := 46 }
theorem inX12_X12_sheet : ∀ w ∈ wsX120, w ∈ wsX12_sheet := by intro w h; simp only [wsX12_sheet, List.mem_cons, List.mem_append]; simp only [h, true_or, or_true]
set_option maxHeartbeats 4000000 in
set_option maxRecDepth 100000 in
theorem wX12_sheet_L41 {p : Program} {l : Launch} {e : Env} {s : State} {m : MethodId} {args : Array Value} {below : List Frame} {meth : Method} {c : Code} (C : cxt p s m args meth c cX12_sheet 5 RX12 wsX12_sheet (some .int)) {D : va_G} {cs : Nat → ClassId} {a : Nat → Nat} (hK : KK D cs s) {A : Nat → Prop} (hA : ∀ q, s.heap.size ≤ q → A q) (r : Int32) (u9 : Nat → Nat → Int32) (F : Nat) (x1 : Int32) (x3 : Int32) (kx : (Nat → Nat → Int32) → Option (Int32 × (Nat → Nat → Int32))) (hkx : ∀ (σ : Nat → Nat → Int32) (H : Heap) (locs : List Loc) (ls : Array Slot), va_P D vwCl (mW a cs σ) H → va_D A (mW a cs σ) → va_S A s.heap H locs → lv_has ls 5 [(3, .int x3)] → kx σ = some (r, u9) → W p l e rmX12_sheet s m args below meth c H locs 0 0 (MQ below (va_Qi (fun x y => x = r ∧ y = u9) (qB D (mW a cs) A) A) args s 0 0 A) (F0 m 69 ls [])) : ∀ (n : Nat) (x4 : Int32) (σ : Nat → Nat → Int32) (H : Heap) (locs : List Loc) (ls : Array Slot), va_P D vwCl (mW a cs σ) H → va_D A (mW a cs σ) → va_S A s.heap H locs → lv_has ls 5 [(0, .ref (a 0)), (1, .int x1), (3, .int x3), (4, .int x4)] → fX12_sheet_L41 F x1 x3 kx n x4 σ = some (r, u9) → W p l e rmX12_sheet s m args below meth c H locs 0 0 (MQ below (va_Qi (fun x y => x = r ∧ y = u9) (qB D (mW a cs) A) A) args s 0 0 A) (F0 m 41 ls []) := by
  obtain ⟨hx, hb, hml, hown, hts, hr, hlk⟩ := id C
  intro n
  induction n with
  | zero =>
    intros
    rename_i h
    cases h
  | succ n ih =>
    intro x4 σ H locs ls hP hD hS hl h
    rw [fX12_sheet_L41] at h
    obtain ⟨kb, hkb, h⟩ := nb_some (P := fun (kb : Int32 → (Nat → Nat → Int32) → Option (Int32 × (Nat → Nat → Int32))) => ∀ (x4 : Int32) (σ : Nat → Nat → Int32) (H : Heap) (locs : List Loc) (ls : Array Slot), va_P D vwCl (mW a cs σ) H → va_D A (mW a cs σ) → va_S A s.heap H locs → lv_has ls 5 [(0, .ref (a 0)), (1, .int x1), (3, .int x3), (4, .int x4)] → kb x4 σ = some (r, u9) → W p l e rmX12_sheet s m args below meth c H locs 0 0 (MQ below (va_Qi (fun x y => x = r ∧ y = u9) (qB D (mW a cs) A) A) args s 0 0 A) (F0 m 41 ls [])) h ih
    refine lv_iload hx hb dX12_sheet_41 (lv_at hl 3 rfl) ?_
    refine lv_sipush (v := (256 : Int32)) hx hb dX12_sheet_43 (by decide) ?_
    refine lv_icmp_ge (tgt := 69) hx hb dX12_sheet_46 (by decide) (fun c9 => ?_) (fun c9 => ?_)
    · have h := it_t c9 h
      exact hkx σ _ _ ls hP hD hS (lv_sub hl [2] rfl) h
    · have h := it_f c9 h
      refine lv_aload_n hx hb dX12_sheet_49 rfl (lv_at hl 0 rfl) ?_
      refine va_get (D := D) (ci := 11) (v := .ref (a 26)) (C := RX12) (T := TX12) (N := 27) hx hb hts inX12_X12_sheet hown hK.1 hP 0 rfl rfl 26 (by decide) (hts (.fieldLink RX12 75 "SandPalaceModel" "items" "[I") (by decide +kernel)) (fun _ h9 => h9) rfl dX12_sheet_50 ?_
      refine lv_sipush (v := (256 : Int32)) hx hb dX12_sheet_53 (by decide) ?_
      refine lv_iload_n hx hb dX12_sheet_56 rfl (lv_at hl 1 rfl) ?_
      refine lv_imul hx hb dX12_sheet_57 ?_
      refine lv_iload hx hb dX12_sheet_58 (lv_at hl 3 rfl) ?_
      refine lv_iadd hx hb dX12_sheet_60 ?_
      refine lv_iconst (v := (0 : Int32)) hx hb dX12_sheet_61 (by decide) ?_
      obtain ⟨i10, h⟩ := aS_some h
      refine va_iast hx hb hK.1 hP hD hS 21 0 rfl rfl i10 dX12_sheet_62 (fun H locs hP hD hS => ?_)
      obtain ⟨σ11, e_σ11, h⟩ := nm_some h
      have hP : va_P D vwCl (mW a cs σ11) H := by rw [← e_σ11]; exact hP
      have hD : va_D A (mW a cs σ11) := by rw [← e_σ11]; exact hD
      refine lv_iinc (v := x4 + (1 : Int32)) (lv' := [(4, .int (x4 + (1 : Int32))), (0, .ref (a 0)), (1, .int x1), (3, .int x3)]) hx hb dX12_sheet_63 hl (k := 3) rfl rfl (by decide) rfl (fun ls hl => ?_)
      refine lv_goto (tgt := 41) hx hb dX12_sheet_66 (by decide) ?_
      exact hkb (x4 + (1 : Int32)) σ11 _ _ ls hP hD hS (lv_sub hl [1, 2, 3, 0] rfl) h
set_option maxHeartbeats 4000000 in
set_option maxRecDepth 100000 in
theorem kX12_sheet (l : Launch) (D : va_G) (cs : Nat → ClassId) (a : Nat → Nat) (σ : Nat → Nat → Int32) (F : Nat) (x1 : Int32) (x2 : Int32) (x3 : Int32) (r : Int32) (u9 : Nat → Nat → Int32) (h : fX12_sheet F σ x1 x2 x3 = some (r, u9)) (sz : Nat) : Met l yX12_sheet wsX12_sheet rmX12_sheet (va_Pc [.ref (a 0), .int x1, .int x2, .int x3] (pQ D cs (mW a cs σ) sz)) (va_Qi (fun x y => x = r ∧ y = u9) (qB D (mW a cs) (va_A (mW a cs σ) sz)) (va_A (mW a cs σ) sz)) 0 0 (va_A (mW a cs σ) sz) := by
  refine Met.ofW (cc := cX12_sheet) (maxL := 5) (ret := (some .int)) (by decide) rfl ?_
  intro p e s m args below meth c s₁ B hml hv
  obtain ⟨rfl, hsz, hP, hK, hD0⟩ := hv
  have C : cxt p s m _ meth c cX12_sheet 5 RX12 wsX12_sheet (some .int) := ⟨B.exec, B.bytes, hml, findClass_of_methodNamed B.named, atoms_spec (ws := wsX12_sheet) B.pre, B.returns, B.notSynchronized⟩
  obtain ⟨hx, hb, -, hown, hts, hr, hlk⟩ := id C
  subst hsz
  have hD := hD0.self (sz := s.heap.size)
  generalize hAe : va_A (mW a cs σ) s.heap.size = A at hD ⊢
  have hA : ∀ q : Nat, s.heap.size ≤ q → A q := fun q h => by rw [← hAe]; exact Or.inr h
  have hS : va_S A s.heap s.heap [] := va_S.rf
  refine entryW [.ref (a 0), .int x1, .int x2, .int x3] (n := 5) (Nat.le_of_ble_eq_true rfl) (fun ls hl => ?_)
  have hl : lv_has ls 5 [(0, .ref (a 0)), (1, .int x1), (2, .int x2), (3, .int x3)] := hl
  unfold fX12_sheet at h
  refine lv_iload_n hx hb dX12_sheet_0 rfl (lv_at hl 1 rfl) ?_
  refine lv_iload_n hx hb dX12_sheet_1 rfl (lv_at hl 2 rfl) ?_
  obtain ⟨v1, hc_v1, h⟩ := bd_some h
  refine mcallSZ (va_runS (As := [.int x1, .int x2]) (rest := []) ⟨hx, hb, hml, hown, hts⟩ (kX12_isSheet l x1 x2 v1 hc_v1) (va_cwS 2 hts gX12_sheet_X12_isSheet rfl rfl rfl (by decide +kernel) ⟨Nat.le_of_ble_eq_true rfl, Nat.le_of_ble_eq_true rfl⟩) p0_s rfl rfl hl.1 rfl (lv_room (Nat.le_of_ble_eq_true rfl)) dX12_sheet_2 ⟨Nat.zero_le _, Nat.zero_le _⟩) (fun z_v1 => ?_)
  refine lv_if_eq (tgt := 15) hx hb dX12_sheet_5 (by decide) (fun c2 => ?_) (fun c2 => ?_)
  · have h := it_t c2 h
    refine lv_iconst (v := ((-1) : Int32)) hx hb dX12_sheet_15 (by decide) ?_
    exact mretQ hx hb hr hlk h hP hD hS dX12_sheet_16
  · have h := it_f c2 h
    refine lv_iload_n hx hb dX12_sheet_8 rfl (lv_at hl 3 rfl) ?_
    refine lv_sipush (v := (256 : Int32)) hx hb dX12_sheet_9 (by decide) ?_
    refine lv_icmp_le (tgt := 17) hx hb dX12_sheet_12 (by decide) (fun c3 => ?_) (fun c3 => ?_)
    · have h := it_t c3 h
      refine lv_iload_n hx hb dX12_sheet_17 rfl (lv_at hl 3 rfl) ?_
      refine lv_if_ge (tgt := 24) hx hb dX12_sheet_18 (by decide) (fun c4 => ?_) (fun c4 => ?_)
      · have h := it_t c4 h
        refine lv_aload_n hx hb dX12_sheet_24 rfl (lv_at hl 0 rfl) ?_
        refine va_get (D := D) (ci := 11) (v := .ref (a 24)) (C := RX12) (T := TX12) (N := 27) hx hb hts inX12_X12_sheet hown hK.1 hP 0 rfl rfl 24 (by decide) (hts (.fieldLink RX12 69 "SandPalaceModel" "lanes" "[I") (by decide +kernel)) (fun _ h9 => h9) rfl dX12_sheet_25 ?_
        refine lv_iload_n hx hb dX12_sheet_28 rfl (lv_at hl 1 rfl) ?_
        refine lv_iload_n hx hb dX12_sheet_29 rfl (lv_at hl 2 rfl) ?_
        obtain ⟨i5, h⟩ := aS_some h
        refine va_iast hx hb hK.1 hP hD hS 19 0 rfl rfl i5 dX12_sheet_30 (fun H locs hP hD hS => ?_)
        obtain ⟨σ6, e_σ6, h⟩ := nm_some h
        have hP : va_P D vwCl (mW a cs σ6) H := by rw [← e_σ6]; exact hP
        have hD : va_D A (mW a cs σ6) := by rw [← e_σ6]; exact hD
        refine lv_aload_n hx hb dX12_sheet_31 rfl (lv_at hl 0 rfl) ?_
        refine va_get (D := D) (ci := 11) (v := .ref (a 25)) (C := RX12) (T := TX12) (N := 27) hx hb hts inX12_X12_sheet hown hK.1 hP 0 rfl rfl 25 (by decide) (hts (.fieldLink RX12 72 "SandPalaceModel" "lengths" "[I") (by decide +kernel)) (fun _ h9 => h9) rfl dX12_sheet_32 ?_
        refine lv_iload_n hx hb dX12_sheet_35 rfl (lv_at hl 1 rfl) ?_
        refine lv_iload_n hx hb dX12_sheet_36 rfl (lv_at hl 3 rfl) ?_
        obtain ⟨i7, h⟩ := aS_some h
        refine va_iast hx hb hK.1 hP hD hS 20 0 rfl rfl i7 dX12_sheet_37 (fun H locs hP hD hS => ?_)
        obtain ⟨σ8, e_σ8, h⟩ := nm_some h
        have hP : va_P D vwCl (mW a cs σ8) H := by rw [← e_σ8]; exact hP
        have hD : va_D A (mW a cs σ8) := by rw [← e_σ8]; exact hD
        refine lv_iconst (v := (0 : Int32)) hx hb dX12_sheet_38 (by decide) ?_
        refine lv_istore (lv' := [(4, .int (0 : Int32)), (0, .ref (a 0)), (1, .int x1), (2, .int x2), (3, .int x3)]) hx hb dX12_sheet_39 hl (by decide) rfl (fun ls hl => ?_)
        refine wX12_sheet_L41 C hK hA r u9 F x1 x3 _ ?_ F (0 : Int32) σ8 _ _ ls hP hD hS (lv_sub hl [1, 2, 4, 0] rfl) h
        intro σ9 H locs ls hP hD hS hl h
        refine lv_iload_n hx hb dX12_sheet_69 rfl (lv_at hl 0 rfl) ?_
        exact mretQ hx hb hr hlk h hP hD hS dX12_sheet_70
      · have h := it_f c4 h
        refine lv_bipush (v := ((-14) : Int32)) hx hb dX12_sheet_21 (by decide) ?_
        exact mretQ hx hb hr hlk h hP hD hS dX12_sheet_23
    · have h := it_f c3 h
      refine lv_iconst (v := ((-1) : Int32)) hx hb dX12_sheet_15 (by decide) ?_
      exact mretQ hx hb hr hlk h hP hD hS dX12_sheet_16
def fX12_drop (σ : Nat → Nat → Int32) (x1 : Int32) : Option (Int32 × (Nat → Nat → Int32)) :=
  bd (fX12_in x1.toInt64 (0 : Int64) (3 : Int64)) fun v1 => if ¬ v1 = 0 then (aI (σ 24) 4 x1 fun v3 => if 0 ≤ v3 then (aS 4 x1 (nm (sg σ 24 (upd (σ 24) x1.toNatClampNeg ((-1) : Int32))) fun σ6 => aI (σ6 25) 4 x1 fun v7 => some (v7, σ6))) else (some (((-11) : Int32), σ))) else (some (((-1) : Int32), σ))
abbrev rmX12_drop : Room := { frames := 1, cells := 0, slots := 0, locals := 25 }
theorem inX12_X12_drop : ∀ w ∈ wsX120, w ∈ wsX12_drop := by intro w h; simp only [wsX12_drop, List.mem_cons, List.mem_append]; simp only [h, true_or, or_true]
set_option maxHeartbeats 4000000 in
set_option maxRecDepth 100000 in
theorem kX12_drop (l : Launch) (D : va_G) (cs : Nat → ClassId) (a : Nat → Nat) (σ : Nat → Nat → Int32) (x1 : Int32) (r : Int32) (u9 : Nat → Nat → Int32) (h : fX12_drop σ x1 = some (r, u9)) (sz : Nat) : Met l yX12_drop wsX12_drop rmX12_drop (va_Pc [.ref (a 0), .int x1] (pQ D cs (mW a cs σ) sz)) (va_Qi (fun x y => x = r ∧ y = u9) (qB D (mW a cs) (va_A (mW a cs σ) sz)) (va_A (mW a cs σ) sz)) 0 0 (va_A (mW a cs σ) sz) := by
  refine Met.ofW (cc := cX12_drop) (maxL := 2) (ret := (some .int)) (by decide) rfl ?_
  intro p e s m args below meth c s₁ B hml hv
  obtain ⟨rfl, hsz, hP, hK, hD0⟩ := hv
  have C : cxt p s m _ meth c cX12_drop 2 RX12 wsX12_drop (some .int) := ⟨B.exec, B.bytes, hml, findClass_of_methodNamed B.named, atoms_spec (ws := wsX12_drop) B.pre, B.returns, B.notSynchronized⟩
  obtain ⟨hx, hb, -, hown, hts, hr, hlk⟩ := id C
  subst hsz
  have hD := hD0.self (sz := s.heap.size)
  generalize hAe : va_A (mW a cs σ) s.heap.size = A at hD ⊢
  have hA : ∀ q : Nat, s.heap.size ≤ q → A q := fun q h => by rw [← hAe]; exact Or.inr h
  have hS : va_S A s.heap s.heap [] := va_S.rf
  refine entryW [.ref (a 0), .int x1] (n := 2) (Nat.le_of_ble_eq_true rfl) (fun ls hl => ?_)
  have hl : lv_has ls 2 [(0, .ref (a 0)), (1, .int x1)] := hl
  unfold fX12_drop at h
  refine lv_iload_n hx hb dX12_drop_0 rfl (lv_at hl 1 rfl) ?_
  refine lv_i2l hx hb dX12_drop_1 rfl ?_
  refine lv_lconst (v := (0 : Int64)) hx hb dX12_drop_2 (by decide) ?_
  refine lv_ldc2 hx hb hown (hts (.constantLong RX12 184 (3)) (by decide +kernel)) dX12_drop_3 ?_
  obtain ⟨v1, hc_v1, h⟩ := bd_some h
  refine mcallSZ (va_runS (As := [.long x1.toInt64, .long (0 : Int64), .long (3 : Int64)]) (rest := []) ⟨hx, hb, hml, hown, hts⟩ (kX12_in l x1.toInt64 (0 : Int64) (3 : Int64) v1 hc_v1) (va_cwS 3 hts gX12_drop_X12_in rfl rfl rfl (by decide +kernel) ⟨Nat.le_of_ble_eq_true rfl, Nat.le_of_ble_eq_true rfl⟩) p0_s rfl rfl hl.1 rfl (lv_room (Nat.le_of_ble_eq_true rfl)) dX12_drop_6 ⟨Nat.zero_le _, Nat.zero_le _⟩) (fun z_v1 => ?_)
  refine lv_if_ne (tgt := 14) hx hb dX12_drop_9 (by decide) (fun c2 => ?_) (fun c2 => ?_)
  · have h := it_t c2 h
    refine lv_aload_n hx hb dX12_drop_14 rfl (lv_at hl 0 rfl) ?_
    refine va_get (D := D) (ci := 11) (v := .ref (a 24)) (C := RX12) (T := TX12) (N := 27) hx hb hts inX12_X12_drop hown hK.1 hP 0 rfl rfl 24 (by decide) (hts (.fieldLink RX12 69 "SandPalaceModel" "lanes" "[I") (by decide +kernel)) (fun _ h9 => h9) rfl dX12_drop_15 ?_
    refine lv_iload_n hx hb dX12_drop_18 rfl (lv_at hl 1 rfl) ?_
    obtain ⟨v3, i_v3, e_v3, h⟩ := aI_some h
    refine miald hx hb hK.1 hP 19 0 rfl rfl i_v3 e_v3 dX12_drop_19 ?_
    refine lv_if_ge (tgt := 26) hx hb dX12_drop_20 (by decide) (fun c4 => ?_) (fun c4 => ?_)
    · have h := it_t c4 h
      refine lv_aload_n hx hb dX12_drop_26 rfl (lv_at hl 0 rfl) ?_
      refine va_get (D := D) (ci := 11) (v := .ref (a 24)) (C := RX12) (T := TX12) (N := 27) hx hb hts inX12_X12_drop hown hK.1 hP 0 rfl rfl 24 (by decide) (hts (.fieldLink RX12 69 "SandPalaceModel" "lanes" "[I") (by decide +kernel)) (fun _ h9 => h9) rfl dX12_drop_27 ?_
      refine lv_iload_n hx hb dX12_drop_30 rfl (lv_at hl 1 rfl) ?_
      refine lv_iconst (v := ((-1) : Int32)) hx hb dX12_drop_31 (by decide) ?_
      obtain ⟨i5, h⟩ := aS_some h
      refine va_iast hx hb hK.1 hP hD hS 19 0 rfl rfl i5 dX12_drop_32 (fun H locs hP hD hS => ?_)
      obtain ⟨σ6, e_σ6, h⟩ := nm_some h
      have hP : va_P D vwCl (mW a cs σ6) H := by rw [← e_σ6]; exact hP
      have hD : va_D A (mW a cs σ6) := by rw [← e_σ6]; exact hD
      refine lv_aload_n hx hb dX12_drop_33 rfl (lv_at hl 0 rfl) ?_
      refine va_get (D := D) (ci := 11) (v := .ref (a 25)) (C := RX12) (T := TX12) (N := 27) hx hb hts inX12_X12_drop hown hK.1 hP 0 rfl rfl 25 (by decide) (hts (.fieldLink RX12 72 "SandPalaceModel" "lengths" "[I") (by decide +kernel)) (fun _ h9 => h9) rfl dX12_drop_34 ?_
      refine lv_iload_n hx hb dX12_drop_37 rfl (lv_at hl 1 rfl) ?_
      obtain ⟨v7, i_v7, e_v7, h⟩ := aI_some h
      refine miald hx hb hK.1 hP 20 0 rfl rfl i_v7 e_v7 dX12_drop_38 ?_
      exact mretQ hx hb hr hlk h hP hD hS dX12_drop_39
    · have h := it_f c4 h
      refine lv_bipush (v := ((-11) : Int32)) hx hb dX12_drop_23 (by decide) ?_
      exact mretQ hx hb hr hlk h hP hD hS dX12_drop_25
  · have h := it_n c2 h
    refine lv_iconst (v := ((-1) : Int32)) hx hb dX12_drop_12 (by decide) ?_
    exact mretQ hx hb hr hlk h hP hD hS dX12_drop_13
def fX12_against (σ : Nat → Nat → Int32) (x1 : Int32) (x2 : Int32) (x3 : Int32) (x4 : Int32) : Option Int32 :=
  aI (σ 24) 4 x1 fun v1 => if v1 = x2 then (aI (σ 25) 4 x1 fun v3 => bd (fX12_in x3.toInt64 (0 : Int64) ((v3 - x4).toInt64)) fun v4 => if v4 = 0 then (some ((-13) : Int32)) else (some (0 : Int32))) else (aI (σ 24) 4 x1 fun v6 => if 0 ≤ v6 then (some ((-12) : Int32)) else (some ((-11) : Int32)))
abbrev rmX12_against : Room := { frames := 1, cells := 0, slots := 0, locals := 25 }
theorem inX12_X12_against : ∀ w ∈ wsX120, w ∈ wsX12_against := by intro w h; simp only [wsX12_against, List.mem_cons, List.mem_append]; simp only [h, true_or, or_true]
set_option maxHeartbeats 4000000 in
set_option maxRecDepth 100000 in
theorem kX12_against (l : Launch) (D : va_G) (cs : Nat → ClassId) (a : Nat → Nat) (σ : Nat → Nat → Int32) (x1 : Int32) (x2 : Int32) (x3 : Int32) (x4 : Int32) (r : Int32) (h : fX12_against σ x1 x2 x3 x4 = some r) : Met l yX12_against wsX12_against rmX12_against (va_Pc [.ref (a 0), .int x1, .int x2, .int x3, .int x4] (pR D cs (mW a cs σ))) (vp_Si (fun x => x = r)) 0 0 (fun _ => False) := by
  refine Met.ofW (cc := cX12_against) (maxL := 5) (ret := (some .int)) (by decide) rfl ?_
  intro p e s m args below meth c s₁ B hml hv
  obtain ⟨rfl, hP, hK⟩ := hv
  have C : cxt p s m _ meth c cX12_against 5 RX12 wsX12_against (some .int) := ⟨B.exec, B.bytes, hml, findClass_of_methodNamed B.named, atoms_spec (ws := wsX12_against) B.pre, B.returns, B.notSynchronized⟩
  obtain ⟨hx, hb, -, hown, hts, hr, hlk⟩ := id C
  refine entryW [.ref (a 0), .int x1, .int x2, .int x3, .int x4] (n := 5) (Nat.le_of_ble_eq_true rfl) (fun ls hl => ?_)
  have hl : lv_has ls 5 [(0, .ref (a 0)), (1, .int x1), (2, .int x2), (3, .int x3), (4, .int x4)] := hl
  unfold fX12_against at h
  refine lv_aload_n hx hb dX12_against_0 rfl (lv_at hl 0 rfl) ?_
  refine va_get (D := D) (ci := 11) (v := .ref (a 24)) (C := RX12) (T := TX12) (N := 27) hx hb hts inX12_X12_against hown hK.1 hP 0 rfl rfl 24 (by decide) (hts (.fieldLink RX12 69 "SandPalaceModel" "lanes" "[I") (by decide +kernel)) (fun _ h9 => h9) rfl dX12_against_1 ?_
  refine lv_iload_n hx hb dX12_against_4 rfl (lv_at hl 1 rfl) ?_
  obtain ⟨v1, i_v1, e_v1, h⟩ := aI_some h
  refine miald hx hb hK.1 hP 19 0 rfl rfl i_v1 e_v1 dX12_against_5 ?_
  refine lv_iload_n hx hb dX12_against_6 rfl (lv_at hl 2 rfl) ?_
  refine lv_icmp_eq (tgt := 27) hx hb dX12_against_7 (by decide) (fun c2 => ?_) (fun c2 => ?_)
  · have h := it_t c2 h
    refine lv_iload_n hx hb dX12_against_27 rfl (lv_at hl 3 rfl) ?_
    refine lv_i2l hx hb dX12_against_28 rfl ?_
    refine lv_lconst (v := (0 : Int64)) hx hb dX12_against_29 (by decide) ?_
    refine lv_aload_n hx hb dX12_against_30 rfl (lv_at hl 0 rfl) ?_
    refine va_get (D := D) (ci := 11) (v := .ref (a 25)) (C := RX12) (T := TX12) (N := 27) hx hb hts inX12_X12_against hown hK.1 hP 0 rfl rfl 25 (by decide) (hts (.fieldLink RX12 72 "SandPalaceModel" "lengths" "[I") (by decide +kernel)) (fun _ h9 => h9) rfl dX12_against_31 ?_
    refine lv_iload_n hx hb dX12_against_34 rfl (lv_at hl 1 rfl) ?_
    obtain ⟨v3, i_v3, e_v3, h⟩ := aI_some h
    refine miald hx hb hK.1 hP 20 0 rfl rfl i_v3 e_v3 dX12_against_35 ?_
    refine lv_iload hx hb dX12_against_36 (lv_at hl 4 rfl) ?_
    refine lv_isub hx hb dX12_against_38 ?_
    refine lv_i2l hx hb dX12_against_39 rfl ?_
    obtain ⟨v4, hc_v4, h⟩ := bd_some h
    refine mcallSZ (va_runS (As := [.long x3.toInt64, .long (0 : Int64), .long ((v3 - x4).toInt64)]) (rest := []) ⟨hx, hb, hml, hown, hts⟩ (kX12_in l x3.toInt64 (0 : Int64) ((v3 - x4).toInt64) v4 hc_v4) (va_cwS 3 hts gX12_against_X12_in rfl rfl rfl (by decide +kernel) ⟨Nat.le_of_ble_eq_true rfl, Nat.le_of_ble_eq_true rfl⟩) p0_s rfl rfl hl.1 rfl (lv_room (Nat.le_of_ble_eq_true rfl)) dX12_against_40 ⟨Nat.zero_le _, Nat.zero_le _⟩) (fun z_v4 => ?_)
    refine lv_if_eq (tgt := 50) hx hb dX12_against_43 (by decide) (fun c5 => ?_) (fun c5 => ?_)
    · have h := it_t c5 h
      refine lv_bipush (v := ((-13) : Int32)) hx hb dX12_against_50 (by decide) ?_
      exact mretS hx hb hr hlk h dX12_against_52
    · have h := it_f c5 h
      refine lv_iconst (v := (0 : Int32)) hx hb dX12_against_46 (by decide) ?_
      refine lv_goto (tgt := 52) hx hb dX12_against_47 (by decide) ?_
      exact mretS hx hb hr hlk h dX12_against_52
  · have h := it_f c2 h
    refine lv_aload_n hx hb dX12_against_10 rfl (lv_at hl 0 rfl) ?_
    refine va_get (D := D) (ci := 11) (v := .ref (a 24)) (C := RX12) (T := TX12) (N := 27) hx hb hts inX12_X12_against hown hK.1 hP 0 rfl rfl 24 (by decide) (hts (.fieldLink RX12 69 "SandPalaceModel" "lanes" "[I") (by decide +kernel)) (fun _ h9 => h9) rfl dX12_against_11 ?_
    refine lv_iload_n hx hb dX12_against_14 rfl (lv_at hl 1 rfl) ?_
    obtain ⟨v6, i_v6, e_v6, h⟩ := aI_some h
    refine miald hx hb hK.1 hP 19 0 rfl rfl i_v6 e_v6 dX12_against_15 ?_
    refine lv_if_ge (tgt := 24) hx hb dX12_against_16 (by decide) (fun c7 => ?_) (fun c7 => ?_)
    · have h := it_t c7 h
      refine lv_bipush (v := ((-12) : Int32)) hx hb dX12_against_24 (by decide) ?_
      exact mretS hx hb hr hlk h dX12_against_26
    · have h := it_f c7 h
      refine lv_bipush (v := ((-11) : Int32)) hx hb dX12_against_19 (by decide) ?_
      refine lv_goto (tgt := 26) hx hb dX12_against_21 (by decide) ?_
      exact mretS hx hb hr hlk h dX12_against_26
def fX12_item_J72 (t0 : Int32) (t1 : Int32) (σ : Nat → Nat → Int32) : Option (Int32 × (Nat → Nat → Int32)) :=
  aS 1024 t1 (nm (sg σ 26 (upd (σ 26) t1.toNatClampNeg t0)) fun σ8 => some ((1 : Int32), σ8))
def fX12_item (σ : Nat → Nat → Int32) (x1 : Int32) (x2 : Int32) (x3 : Int32) (x4 : Int32) : Option (Int32 × (Nat → Nat → Int32)) :=
  bd (fX12_isSheet x1 x2) fun v1 => if ¬ v1 = 0 then (bd (fX12_against σ x1 x2 x3 (1 : Int32)) fun v3 => if 0 ≤ v3 then (if ¬ x2 = 0 then (if ¬ x2 = (1 : Int32) then (fX12_item_J72 x4 (((256 : Int32) * x1) + x3) σ) else (fX12_item_J72 ((x4 <<< ((16 : Int32) &&& 31)) >>> ((16 : Int32) &&& 31)) (((256 : Int32) * x1) + x3) σ)) else (fX12_item_J72 ((x4 <<< ((24 : Int32) &&& 31)) >>> ((24 : Int32) &&& 31)) (((256 : Int32) * x1) + x3) σ)) else (some (v3, σ))) else (some (((-1) : Int32), σ))
abbrev rmX12_item : Room := { frames := 2, cells := 0, slots := 0, locals := 49 }
theorem inX12_X12_item : ∀ w ∈ wsX120, w ∈ wsX12_item := by intro w h; simp only [wsX12_item, List.mem_cons, List.mem_append]; simp only [h, true_or, or_true]
set_option maxHeartbeats 4000000 in
set_option maxRecDepth 100000 in
theorem wX12_item_J72 {p : Program} {l : Launch} {e : Env} {s : State} {m : MethodId} {args : Array Value} {below : List Frame} {meth : Method} {c : Code} (C : cxt p s m args meth c cX12_item 6 RX12 wsX12_item (some .int)) {D : va_G} {cs : Nat → ClassId} {a : Nat → Nat} (hK : KK D cs s) {A : Nat → Prop} (hA : ∀ q, s.heap.size ≤ q → A q) (r : Int32) (u9 : Nat → Nat → Int32) (t0 : Int32) (t1 : Int32) (σ : Nat → Nat → Int32) (H : Heap) (locs : List Loc) (ls : Array Slot) (hP : va_P D vwCl (mW a cs σ) H) (hD : va_D A (mW a cs σ)) (hS : va_S A s.heap H locs) (hl : lv_has ls 6 []) (h : fX12_item_J72 t0 t1 σ = some (r, u9)) : W p l e rmX12_item s m args below meth c H locs 0 0 (MQ below (va_Qi (fun x y => x = r ∧ y = u9) (qB D (mW a cs) A) A) args s 0 0 A) (F0 m 72 ls [.int t0, .int t1, .ref (a 26)]) := by
  obtain ⟨hx, hb, hml, hown, hts, hr, hlk⟩ := id C
  unfold fX12_item_J72 at h
  obtain ⟨i7, h⟩ := aS_some h
  refine va_iast hx hb hK.1 hP hD hS 21 0 rfl rfl i7 dX12_item_72 (fun H locs hP hD hS => ?_)
  obtain ⟨σ8, e_σ8, h⟩ := nm_some h
  have hP : va_P D vwCl (mW a cs σ8) H := by rw [← e_σ8]; exact hP
  have hD : va_D A (mW a cs σ8) := by rw [← e_σ8]; exact hD
  refine lv_iconst (v := (1 : Int32)) hx hb dX12_item_73 (by decide) ?_
  exact mretQ hx hb hr hlk h hP hD hS dX12_item_74
set_option maxHeartbeats 4000000 in
set_option maxRecDepth 100000 in
theorem kX12_item (l : Launch) (D : va_G) (cs : Nat → ClassId) (a : Nat → Nat) (σ : Nat → Nat → Int32) (x1 : Int32) (x2 : Int32) (x3 : Int32) (x4 : Int32) (r : Int32) (u9 : Nat → Nat → Int32) (h : fX12_item σ x1 x2 x3 x4 = some (r, u9)) (sz : Nat) : Met l yX12_item wsX12_item rmX12_item (va_Pc [.ref (a 0), .int x1, .int x2, .int x3, .int x4] (pQ D cs (mW a cs σ) sz)) (va_Qi (fun x y => x = r ∧ y = u9) (qB D (mW a cs) (va_A (mW a cs σ) sz)) (va_A (mW a cs σ) sz)) 0 0 (va_A (mW a cs σ) sz) := by
  refine Met.ofW (cc := cX12_item) (maxL := 6) (ret := (some .int)) (by decide) rfl ?_
  intro p e s m args below meth c s₁ B hml hv
  obtain ⟨rfl, hsz, hP, hK, hD0⟩ := hv
  have C : cxt p s m _ meth c cX12_item 6 RX12 wsX12_item (some .int) := ⟨B.exec, B.bytes, hml, findClass_of_methodNamed B.named, atoms_spec (ws := wsX12_item) B.pre, B.returns, B.notSynchronized⟩
  obtain ⟨hx, hb, -, hown, hts, hr, hlk⟩ := id C
  subst hsz
  have hD := hD0.self (sz := s.heap.size)
  generalize hAe : va_A (mW a cs σ) s.heap.size = A at hD ⊢
  have hA : ∀ q : Nat, s.heap.size ≤ q → A q := fun q h => by rw [← hAe]; exact Or.inr h
  have hS : va_S A s.heap s.heap [] := va_S.rf
  refine entryW [.ref (a 0), .int x1, .int x2, .int x3, .int x4] (n := 6) (Nat.le_of_ble_eq_true rfl) (fun ls hl => ?_)
  have hl : lv_has ls 6 [(0, .ref (a 0)), (1, .int x1), (2, .int x2), (3, .int x3), (4, .int x4)] := hl
  unfold fX12_item at h
  refine lv_iload_n hx hb dX12_item_0 rfl (lv_at hl 1 rfl) ?_
  refine lv_iload_n hx hb dX12_item_1 rfl (lv_at hl 2 rfl) ?_
  obtain ⟨v1, hc_v1, h⟩ := bd_some h
  refine mcallSZ (va_runS (As := [.int x1, .int x2]) (rest := []) ⟨hx, hb, hml, hown, hts⟩ (kX12_isSheet l x1 x2 v1 hc_v1) (va_cwS 2 hts gX12_item_X12_isSheet rfl rfl rfl (by decide +kernel) ⟨Nat.le_of_ble_eq_true rfl, Nat.le_of_ble_eq_true rfl⟩) p0_s rfl rfl hl.1 rfl (lv_room (Nat.le_of_ble_eq_true rfl)) dX12_item_2 ⟨Nat.zero_le _, Nat.zero_le _⟩) (fun z_v1 => ?_)
  refine lv_if_ne (tgt := 10) hx hb dX12_item_5 (by decide) (fun c2 => ?_) (fun c2 => ?_)
  · have h := it_t c2 h
    refine lv_aload_n hx hb dX12_item_10 rfl (lv_at hl 0 rfl) ?_
    refine lv_iload_n hx hb dX12_item_11 rfl (lv_at hl 1 rfl) ?_
    refine lv_iload_n hx hb dX12_item_12 rfl (lv_at hl 2 rfl) ?_
    refine lv_iload_n hx hb dX12_item_13 rfl (lv_at hl 3 rfl) ?_
    refine lv_iconst (v := (1 : Int32)) hx hb dX12_item_14 (by decide) ?_
    obtain ⟨v3, hc_v3, h⟩ := bd_some h
    refine mcallS (va_runV (As := [.int x1, .int x2, .int x3, .int (1 : Int32)]) (rest := []) ⟨hx, hb, hml, hown, hts⟩ (kX12_against l D cs a σ x1 x2 x3 (1 : Int32) v3 hc_v3) (cwV 4 hts gX12_item_X12_against rfl rfl rfl (by decide +kernel) ⟨Nat.le_of_ble_eq_true rfl, Nat.le_of_ble_eq_true rfl⟩) (pR_v hP hK (va_recv hK.1 hP (ci := 11) (q0 := 0) rfl rfl)) rfl rfl hl.1 rfl (lv_room (Nat.le_of_ble_eq_true rfl)) dX12_item_15 ⟨Nat.zero_le _, Nat.zero_le _⟩) ?_
    refine lv_istore (lv' := [(5, .int v3), (0, .ref (a 0)), (1, .int x1), (2, .int x2), (3, .int x3), (4, .int x4)]) hx hb dX12_item_18 hl (by decide) rfl (fun ls hl => ?_)
    refine lv_iload hx hb dX12_item_20 (lv_at hl 0 rfl) ?_
    refine lv_if_ge (tgt := 28) hx hb dX12_item_22 (by decide) (fun c4 => ?_) (fun c4 => ?_)
    · have h := it_t c4 h
      refine lv_aload_n hx hb dX12_item_28 rfl (lv_at hl 1 rfl) ?_
      refine va_get (D := D) (ci := 11) (v := .ref (a 26)) (C := RX12) (T := TX12) (N := 27) hx hb hts inX12_X12_item hown hK.1 hP 0 rfl rfl 26 (by decide) (hts (.fieldLink RX12 75 "SandPalaceModel" "items" "[I") (by decide +kernel)) (fun _ h9 => h9) rfl dX12_item_29 ?_
      refine lv_sipush (v := (256 : Int32)) hx hb dX12_item_32 (by decide) ?_
      refine lv_iload_n hx hb dX12_item_35 rfl (lv_at hl 2 rfl) ?_
      refine lv_imul hx hb dX12_item_36 ?_
      refine lv_iload_n hx hb dX12_item_37 rfl (lv_at hl 4 rfl) ?_
      refine lv_iadd hx hb dX12_item_38 ?_
      refine lv_iload_n hx hb dX12_item_39 rfl (lv_at hl 3 rfl) ?_
      refine lv_if_ne (tgt := 54) hx hb dX12_item_40 (by decide) (fun c5 => ?_) (fun c5 => ?_)
      · have h := it_t c5 h
        refine lv_iload_n hx hb dX12_item_54 rfl (lv_at hl 3 rfl) ?_
        refine lv_iconst (v := (1 : Int32)) hx hb dX12_item_55 (by decide) ?_
        refine lv_icmp_ne (tgt := 70) hx hb dX12_item_56 (by decide) (fun c6 => ?_) (fun c6 => ?_)
        · have h := it_t c6 h
          refine lv_iload hx hb dX12_item_70 (lv_at hl 5 rfl) ?_
          exact wX12_item_J72 C hK hA r u9 x4 (((256 : Int32) * x1) + x3) σ _ _ ls hP hD hS (lv_sub hl [] rfl) h
        · have h := it_n c6 h
          refine lv_iload hx hb dX12_item_59 (lv_at hl 5 rfl) ?_
          refine lv_bipush (v := (16 : Int32)) hx hb dX12_item_61 (by decide) ?_
          refine lv_ishl hx hb dX12_item_63 ?_
          refine lv_bipush (v := (16 : Int32)) hx hb dX12_item_64 (by decide) ?_
          refine lv_ishr hx hb dX12_item_66 ?_
          refine lv_goto (tgt := 72) hx hb dX12_item_67 (by decide) ?_
          exact wX12_item_J72 C hK hA r u9 ((x4 <<< ((16 : Int32) &&& 31)) >>> ((16 : Int32) &&& 31)) (((256 : Int32) * x1) + x3) σ _ _ ls hP hD hS (lv_sub hl [] rfl) h
      · have h := it_n c5 h
        refine lv_iload hx hb dX12_item_43 (lv_at hl 5 rfl) ?_
        refine lv_bipush (v := (24 : Int32)) hx hb dX12_item_45 (by decide) ?_
        refine lv_ishl hx hb dX12_item_47 ?_
        refine lv_bipush (v := (24 : Int32)) hx hb dX12_item_48 (by decide) ?_
        refine lv_ishr hx hb dX12_item_50 ?_
        refine lv_goto (tgt := 72) hx hb dX12_item_51 (by decide) ?_
        exact wX12_item_J72 C hK hA r u9 ((x4 <<< ((24 : Int32) &&& 31)) >>> ((24 : Int32) &&& 31)) (((256 : Int32) * x1) + x3) σ _ _ ls hP hD hS (lv_sub hl [] rfl) h
    · have h := it_f c4 h
      refine lv_iload hx hb dX12_item_25 (lv_at hl 0 rfl) ?_
      exact mretQ hx hb hr hlk h hP hD hS dX12_item_27
  · have h := it_n c2 h
    refine lv_iconst (v := ((-1) : Int32)) hx hb dX12_item_8 (by decide) ?_
    exact mretQ hx hb hr hlk h hP hD hS dX12_item_9
def fX12_isCells (x0 : Int32) (x1 : Int32) : Option Int32 :=
  bd (fX12_in x1.toInt64 (0 : Int64) (256 : Int64)) fun v1 => if v1 = 0 then (some (0 : Int32)) else (bd (fX12_in x0.toInt64 (0 : Int64) (((256 : Int32) - x1).toInt64)) fun v3 => if v3 = 0 then (some (0 : Int32)) else (some (1 : Int32)))
abbrev rmX12_isCells : Room := { frames := 1, cells := 0, slots := 0, locals := 25 }
set_option maxHeartbeats 4000000 in
set_option maxRecDepth 100000 in
theorem kX12_isCells (l : Launch) (x0 : Int32) (x1 : Int32) (r : Int32) (h : fX12_isCells x0 x1 = some r) : Met l yX12_isCells wsX12_isCells rmX12_isCells (va_Pc [.int x0, .int x1] (p0)) (vp_Si (fun x => x = r ∧ (r = 0 ∨ r = 1))) 0 0 (fun _ => False) := by
  refine Met.ofW (cc := cX12_isCells) (maxL := 2) (ret := (some .boolean)) (by decide) rfl ?_
  intro p e s m args below meth c s₁ B hml hv
  obtain ⟨rfl, -⟩ := hv
  have C : cxt p s m _ meth c cX12_isCells 2 RX12 wsX12_isCells (some .boolean) := ⟨B.exec, B.bytes, hml, findClass_of_methodNamed B.named, atoms_spec (ws := wsX12_isCells) B.pre, B.returns, B.notSynchronized⟩
  obtain ⟨hx, hb, -, hown, hts, hr, hlk⟩ := id C
  refine entryW [.int x0, .int x1] (n := 2) (Nat.le_of_ble_eq_true rfl) (fun ls hl => ?_)
  have hl : lv_has ls 2 [(0, .int x0), (1, .int x1)] := hl
  unfold fX12_isCells at h
  refine lv_iload_n hx hb dX12_isCells_0 rfl (lv_at hl 1 rfl) ?_
  refine lv_i2l hx hb dX12_isCells_1 rfl ?_
  refine lv_lconst (v := (0 : Int64)) hx hb dX12_isCells_2 (by decide) ?_
  refine lv_ldc2 hx hb hown (hts (.constantLong RX12 162 (256)) (by decide +kernel)) dX12_isCells_3 ?_
  obtain ⟨v1, hc_v1, h⟩ := bd_some h
  refine mcallSZ (va_runS (As := [.long x1.toInt64, .long (0 : Int64), .long (256 : Int64)]) (rest := []) ⟨hx, hb, hml, hown, hts⟩ (kX12_in l x1.toInt64 (0 : Int64) (256 : Int64) v1 hc_v1) (va_cwS 3 hts gX12_isCells_X12_in rfl rfl rfl (by decide +kernel) ⟨Nat.le_of_ble_eq_true rfl, Nat.le_of_ble_eq_true rfl⟩) p0_s rfl rfl hl.1 rfl (lv_room (Nat.le_of_ble_eq_true rfl)) dX12_isCells_6 ⟨Nat.zero_le _, Nat.zero_le _⟩) (fun z_v1 => ?_)
  refine lv_if_eq (tgt := 31) hx hb dX12_isCells_9 (by decide) (fun c2 => ?_) (fun c2 => ?_)
  · have h := it_t c2 h
    refine lv_iconst (v := (0 : Int32)) hx hb dX12_isCells_31 (by decide) ?_
    exact mretSZ hx hb hr hlk h (Or.inl rfl) dX12_isCells_32
  · have h := it_f c2 h
    refine lv_iload_n hx hb dX12_isCells_12 rfl (lv_at hl 0 rfl) ?_
    refine lv_i2l hx hb dX12_isCells_13 rfl ?_
    refine lv_lconst (v := (0 : Int64)) hx hb dX12_isCells_14 (by decide) ?_
    refine lv_sipush (v := (256 : Int32)) hx hb dX12_isCells_15 (by decide) ?_
    refine lv_iload_n hx hb dX12_isCells_18 rfl (lv_at hl 1 rfl) ?_
    refine lv_isub hx hb dX12_isCells_19 ?_
    refine lv_i2l hx hb dX12_isCells_20 rfl ?_
    obtain ⟨v3, hc_v3, h⟩ := bd_some h
    refine mcallSZ (va_runS (As := [.long x0.toInt64, .long (0 : Int64), .long (((256 : Int32) - x1).toInt64)]) (rest := []) ⟨hx, hb, hml, hown, hts⟩ (kX12_in l x0.toInt64 (0 : Int64) (((256 : Int32) - x1).toInt64) v3 hc_v3) (va_cwS 3 hts gX12_isCells_X12_in rfl rfl rfl (by decide +kernel) ⟨Nat.le_of_ble_eq_true rfl, Nat.le_of_ble_eq_true rfl⟩) p0_s rfl rfl hl.1 rfl (lv_room (Nat.le_of_ble_eq_true rfl)) dX12_isCells_21 ⟨Nat.zero_le _, Nat.zero_le _⟩) (fun z_v3 => ?_)
    refine lv_if_eq (tgt := 31) hx hb dX12_isCells_24 (by decide) (fun c4 => ?_) (fun c4 => ?_)
    · have h := it_t c4 h
      refine lv_iconst (v := (0 : Int32)) hx hb dX12_isCells_31 (by decide) ?_
      exact mretSZ hx hb hr hlk h (Or.inl rfl) dX12_isCells_32
    · have h := it_f c4 h
      refine lv_iconst (v := (1 : Int32)) hx hb dX12_isCells_27 (by decide) ?_
      refine lv_goto (tgt := 32) hx hb dX12_isCells_28 (by decide) ?_
      exact mretSZ hx hb hr hlk h (Or.inr rfl) dX12_isCells_32
def fX12_show_J97 (F : Nat) (kb : Int32 → (Nat → Nat → Int32) → Option (Int32 × (Nat → Nat → Int32))) (x4 : Int32) (x5 : Int32) (x7 : Int32) (x8 : Int32) (σ : Nat → Nat → Int32) : Option (Int32 × (Nat → Nat → Int32)) :=
  kb (x8 + (1 : Int32)) σ
def fX12_show_L51 (F : Nat) (x4 : Int32) (x5 : Int32) (x7 : Int32) (kx : (Nat → Nat → Int32) → Option (Int32 × (Nat → Nat → Int32))) : Nat → Int32 → (Nat → Nat → Int32) → Option (Int32 × (Nat → Nat → Int32))
  | 0, _, _ => none
  | n+1, x8, σ =>
    nb ((fun x8 σ => fX12_show_L51 F x4 x5 x7 kx n x8 σ)) fun kb =>
    if x5 ≤ x8 then (kx σ) else (aI (σ 26) 1024 (x7 + x8) fun v9 => if v9 = ((-5) : Int32) then (fX12_show_J97 F kb x4 x5 x7 x8 σ) else (aI (σ 26) 1024 (x7 + x8) fun v11 => bd (fX12_in v11.toInt64 (0 : Int64) (9 : Int64)) fun v12 => if ¬ v12 = 0 then (fX12_show_J97 F kb x4 x5 x7 x8 σ) else (some (((-2) : Int32), σ))))
def fX12_show_L106 (F : Nat) (x4 : Int32) (x5 : Int32) (x7 : Int32) (kx : (Nat → Nat → Int32) → Option (Int32 × (Nat → Nat → Int32))) : Nat → Int32 → (Nat → Nat → Int32) → Option (Int32 × (Nat → Nat → Int32))
  | 0, _, _ => none
  | n+1, x8, σ =>
    nb ((fun x8 σ => fX12_show_L106 F x4 x5 x7 kx n x8 σ)) fun kb =>
    if x5 ≤ x8 then (kx σ) else (aI (σ 26) 1024 (x7 + x8) fun v10 => aS 256 (x4 + x8) (nm (sg σ 19 (upd (σ 19) (x4 + x8).toNatClampNeg v10)) fun σ12 => kb (x8 + (1 : Int32)) σ12))
def fX12_show (F : Nat) (σ : Nat → Nat → Int32) (x1 : Int32) (x2 : Int32) (x3 : Int32) (x4 : Int32) (x5 : Int32) : Option (Int32 × (Nat → Nat → Int32)) :=
  bd (fX12_isSheet x1 x2) fun v1 => if v1 = 0 then (some (((-1) : Int32), σ)) else (bd (fX12_isCells x4 x5) fun v3 => if ¬ v3 = 0 then (bd (fX12_against σ x1 x2 x3 x5) fun v5 => if 0 ≤ v5 then (nm (((256 : Int32) * x1) + x3) fun z7 => fX12_show_L51 F x4 x5 z7 (fun σ8 => fX12_show_L106 F x4 x5 z7 (fun σ9 => some (x5, σ9)) F (0 : Int32) σ8) F (0 : Int32) σ) else (some (v5, σ))) else (some (((-1) : Int32), σ)))
abbrev rmX12_show : Room := { frames := 2, cells := 0, slots := 0, locals := 49 }
theorem inX12_X12_show : ∀ w ∈ wsX120, w ∈ wsX12_show := by intro w h; simp only [wsX12_show, List.mem_cons, List.mem_append]; simp only [h, true_or, or_true]
set_option maxHeartbeats 4000000 in
set_option maxRecDepth 100000 in
theorem wX12_show_J97 {p : Program} {l : Launch} {e : Env} {s : State} {m : MethodId} {args : Array Value} {below : List Frame} {meth : Method} {c : Code} (C : cxt p s m args meth c cX12_show 9 RX12 wsX12_show (some .int)) {D : va_G} {cs : Nat → ClassId} {a : Nat → Nat} (hK : KK D cs s) {A : Nat → Prop} (hA : ∀ q, s.heap.size ≤ q → A q) (r : Int32) (u9 : Nat → Nat → Int32) (F : Nat) (kb : Int32 → (Nat → Nat → Int32) → Option (Int32 × (Nat → Nat → Int32))) (x4 : Int32) (x5 : Int32) (x7 : Int32) (x8 : Int32) (hkb : ∀ (x8 : Int32) (σ : Nat → Nat → Int32) (H : Heap) (locs : List Loc) (ls : Array Slot), va_P D vwCl (mW a cs σ) H → va_D A (mW a cs σ) → va_S A s.heap H locs → lv_has ls 9 [(0, .ref (a 0)), (4, .int x4), (5, .int x5), (7, .int x7), (8, .int x8)] → kb x8 σ = some (r, u9) → W p l e rmX12_show s m args below meth c H locs 0 0 (MQ below (va_Qi (fun x y => x = r ∧ y = u9) (qB D (mW a cs) A) A) args s 0 0 A) (F0 m 51 ls [])) (σ : Nat → Nat → Int32) (H : Heap) (locs : List Loc) (ls : Array Slot) (hP : va_P D vwCl (mW a cs σ) H) (hD : va_D A (mW a cs σ)) (hS : va_S A s.heap H locs) (hl : lv_has ls 9 [(0, .ref (a 0)), (4, .int x4), (5, .int x5), (7, .int x7), (8, .int x8)]) (h : fX12_show_J97 F kb x4 x5 x7 x8 σ = some (r, u9)) : W p l e rmX12_show s m args below meth c H locs 0 0 (MQ below (va_Qi (fun x y => x = r ∧ y = u9) (qB D (mW a cs) A) A) args s 0 0 A) (F0 m 97 ls []) := by
  obtain ⟨hx, hb, hml, hown, hts, hr, hlk⟩ := id C
  unfold fX12_show_J97 at h
  refine lv_iinc (v := x8 + (1 : Int32)) (lv' := [(8, .int (x8 + (1 : Int32))), (0, .ref (a 0)), (4, .int x4), (5, .int x5), (7, .int x7)]) hx hb dX12_show_97 hl (k := 4) rfl rfl (by decide) rfl (fun ls hl => ?_)
  refine lv_goto (tgt := 51) hx hb dX12_show_100 (by decide) ?_
  exact hkb (x8 + (1 : Int32)) σ _ _ ls hP hD hS (lv_sub hl [1, 2, 3, 4, 0] rfl) h
set_option maxHeartbeats 4000000 in
set_option maxRecDepth 100000 in
theorem wX12_show_L51 {p : Program} {l : Launch} {e : Env} {s : State} {m : MethodId} {args : Array Value} {below : List Frame} {meth : Method} {c : Code} (C : cxt p s m args meth c cX12_show 9 RX12 wsX12_show (some .int)) {D : va_G} {cs : Nat → ClassId} {a : Nat → Nat} (hK : KK D cs s) {A : Nat → Prop} (hA : ∀ q, s.heap.size ≤ q → A q) (r : Int32) (u9 : Nat → Nat → Int32) (F : Nat) (x4 : Int32) (x5 : Int32) (x7 : Int32) (kx : (Nat → Nat → Int32) → Option (Int32 × (Nat → Nat → Int32))) (hkx : ∀ (σ : Nat → Nat → Int32) (H : Heap) (locs : List Loc) (ls : Array Slot), va_P D vwCl (mW a cs σ) H → va_D A (mW a cs σ) → va_S A s.heap H locs → lv_has ls 9 [(0, .ref (a 0)), (4, .int x4), (5, .int x5), (7, .int x7)] → kx σ = some (r, u9) → W p l e rmX12_show s m args below meth c H locs 0 0 (MQ below (va_Qi (fun x y => x = r ∧ y = u9) (qB D (mW a cs) A) A) args s 0 0 A) (F0 m 103 ls [])) : ∀ (n : Nat) (x8 : Int32) (σ : Nat → Nat → Int32) (H : Heap) (locs : List Loc) (ls : Array Slot), va_P D vwCl (mW a cs σ) H → va_D A (mW a cs σ) → va_S A s.heap H locs → lv_has ls 9 [(0, .ref (a 0)), (4, .int x4), (5, .int x5), (7, .int x7), (8, .int x8)] → fX12_show_L51 F x4 x5 x7 kx n x8 σ = some (r, u9) → W p l e rmX12_show s m args below meth c H locs 0 0 (MQ below (va_Qi (fun x y => x = r ∧ y = u9) (qB D (mW a cs) A) A) args s 0 0 A) (F0 m 51 ls []) := by
  obtain ⟨hx, hb, hml, hown, hts, hr, hlk⟩ := id C
  intro n
  induction n with
  | zero =>
    intros
    rename_i h
    cases h
  | succ n ih =>
    intro x8 σ H locs ls hP hD hS hl h
    rw [fX12_show_L51] at h
    obtain ⟨kb, hkb, h⟩ := nb_some (P := fun (kb : Int32 → (Nat → Nat → Int32) → Option (Int32 × (Nat → Nat → Int32))) => ∀ (x8 : Int32) (σ : Nat → Nat → Int32) (H : Heap) (locs : List Loc) (ls : Array Slot), va_P D vwCl (mW a cs σ) H → va_D A (mW a cs σ) → va_S A s.heap H locs → lv_has ls 9 [(0, .ref (a 0)), (4, .int x4), (5, .int x5), (7, .int x7), (8, .int x8)] → kb x8 σ = some (r, u9) → W p l e rmX12_show s m args below meth c H locs 0 0 (MQ below (va_Qi (fun x y => x = r ∧ y = u9) (qB D (mW a cs) A) A) args s 0 0 A) (F0 m 51 ls [])) h ih
    refine lv_iload hx hb dX12_show_51 (lv_at hl 4 rfl) ?_
    refine lv_iload hx hb dX12_show_53 (lv_at hl 2 rfl) ?_
    refine lv_icmp_ge (tgt := 103) hx hb dX12_show_55 (by decide) (fun c8 => ?_) (fun c8 => ?_)
    · have h := it_t c8 h
      exact hkx σ _ _ ls hP hD hS (lv_sub hl [0, 1, 2, 3] rfl) h
    · have h := it_f c8 h
      refine lv_aload_n hx hb dX12_show_58 rfl (lv_at hl 0 rfl) ?_
      refine va_get (D := D) (ci := 11) (v := .ref (a 26)) (C := RX12) (T := TX12) (N := 27) hx hb hts inX12_X12_show hown hK.1 hP 0 rfl rfl 26 (by decide) (hts (.fieldLink RX12 75 "SandPalaceModel" "items" "[I") (by decide +kernel)) (fun _ h9 => h9) rfl dX12_show_59 ?_
      refine lv_iload hx hb dX12_show_62 (lv_at hl 3 rfl) ?_
      refine lv_iload hx hb dX12_show_64 (lv_at hl 4 rfl) ?_
      refine lv_iadd hx hb dX12_show_66 ?_
      obtain ⟨v9, i_v9, e_v9, h⟩ := aI_some h
      refine miald hx hb hK.1 hP 21 0 rfl rfl i_v9 e_v9 dX12_show_67 ?_
      refine lv_bipush (v := ((-5) : Int32)) hx hb dX12_show_68 (by decide) ?_
      refine lv_icmp_eq (tgt := 97) hx hb dX12_show_70 (by decide) (fun c10 => ?_) (fun c10 => ?_)
      · have h := it_t c10 h
        exact wX12_show_J97 C hK hA r u9 F kb x4 x5 x7 x8 hkb σ _ _ ls hP hD hS (lv_sub hl [0, 1, 2, 3, 4] rfl) h
      · have h := it_f c10 h
        refine lv_aload_n hx hb dX12_show_73 rfl (lv_at hl 0 rfl) ?_
        refine va_get (D := D) (ci := 11) (v := .ref (a 26)) (C := RX12) (T := TX12) (N := 27) hx hb hts inX12_X12_show hown hK.1 hP 0 rfl rfl 26 (by decide) (hts (.fieldLink RX12 75 "SandPalaceModel" "items" "[I") (by decide +kernel)) (fun _ h9 => h9) rfl dX12_show_74 ?_
        refine lv_iload hx hb dX12_show_77 (lv_at hl 3 rfl) ?_
        refine lv_iload hx hb dX12_show_79 (lv_at hl 4 rfl) ?_
        refine lv_iadd hx hb dX12_show_81 ?_
        obtain ⟨v11, i_v11, e_v11, h⟩ := aI_some h
        refine miald hx hb hK.1 hP 21 0 rfl rfl i_v11 e_v11 dX12_show_82 ?_
        refine lv_i2l hx hb dX12_show_83 rfl ?_
        refine lv_lconst (v := (0 : Int64)) hx hb dX12_show_84 (by decide) ?_
        refine lv_ldc2 hx hb hown (hts (.constantLong RX12 114 (9)) (by decide +kernel)) dX12_show_85 ?_
        obtain ⟨v12, hc_v12, h⟩ := bd_some h
        refine mcallSZ (va_runS (As := [.long v11.toInt64, .long (0 : Int64), .long (9 : Int64)]) (rest := []) ⟨hx, hb, hml, hown, hts⟩ (kX12_in l v11.toInt64 (0 : Int64) (9 : Int64) v12 hc_v12) (va_cwS 3 hts gX12_show_X12_in rfl rfl rfl (by decide +kernel) ⟨Nat.le_of_ble_eq_true rfl, Nat.le_of_ble_eq_true rfl⟩) p0_s rfl rfl hl.1 rfl (lv_room (Nat.le_of_ble_eq_true rfl)) dX12_show_88 ⟨Nat.zero_le _, Nat.zero_le _⟩) (fun z_v12 => ?_)
        refine lv_if_ne (tgt := 97) hx hb dX12_show_91 (by decide) (fun c13 => ?_) (fun c13 => ?_)
        · have h := it_t c13 h
          exact wX12_show_J97 C hK hA r u9 F kb x4 x5 x7 x8 hkb σ _ _ ls hP hD hS (lv_sub hl [0, 1, 2, 3, 4] rfl) h
        · have h := it_n c13 h
          refine lv_bipush (v := ((-2) : Int32)) hx hb dX12_show_94 (by decide) ?_
          exact mretQ hx hb hr hlk h hP hD hS dX12_show_96
set_option maxHeartbeats 4000000 in
set_option maxRecDepth 100000 in
theorem wX12_show_L106 {p : Program} {l : Launch} {e : Env} {s : State} {m : MethodId} {args : Array Value} {below : List Frame} {meth : Method} {c : Code} (C : cxt p s m args meth c cX12_show 9 RX12 wsX12_show (some .int)) {D : va_G} {cs : Nat → ClassId} {a : Nat → Nat} (hK : KK D cs s) {A : Nat → Prop} (hA : ∀ q, s.heap.size ≤ q → A q) (r : Int32) (u9 : Nat → Nat → Int32) (F : Nat) (x4 : Int32) (x5 : Int32) (x7 : Int32) (kx : (Nat → Nat → Int32) → Option (Int32 × (Nat → Nat → Int32))) (hkx : ∀ (σ : Nat → Nat → Int32) (H : Heap) (locs : List Loc) (ls : Array Slot), va_P D vwCl (mW a cs σ) H → va_D A (mW a cs σ) → va_S A s.heap H locs → lv_has ls 9 [(5, .int x5)] → kx σ = some (r, u9) → W p l e rmX12_show s m args below meth c H locs 0 0 (MQ below (va_Qi (fun x y => x = r ∧ y = u9) (qB D (mW a cs) A) A) args s 0 0 A) (F0 m 139 ls [])) : ∀ (n : Nat) (x8 : Int32) (σ : Nat → Nat → Int32) (H : Heap) (locs : List Loc) (ls : Array Slot), va_P D vwCl (mW a cs σ) H → va_D A (mW a cs σ) → va_S A s.heap H locs → lv_has ls 9 [(0, .ref (a 0)), (4, .int x4), (5, .int x5), (7, .int x7), (8, .int x8)] → fX12_show_L106 F x4 x5 x7 kx n x8 σ = some (r, u9) → W p l e rmX12_show s m args below meth c H locs 0 0 (MQ below (va_Qi (fun x y => x = r ∧ y = u9) (qB D (mW a cs) A) A) args s 0 0 A) (F0 m 106 ls []) := by
  obtain ⟨hx, hb, hml, hown, hts, hr, hlk⟩ := id C
  intro n
  induction n with
  | zero =>
    intros
    rename_i h
    cases h
  | succ n ih =>
    intro x8 σ H locs ls hP hD hS hl h
    rw [fX12_show_L106] at h
    obtain ⟨kb, hkb, h⟩ := nb_some (P := fun (kb : Int32 → (Nat → Nat → Int32) → Option (Int32 × (Nat → Nat → Int32))) => ∀ (x8 : Int32) (σ : Nat → Nat → Int32) (H : Heap) (locs : List Loc) (ls : Array Slot), va_P D vwCl (mW a cs σ) H → va_D A (mW a cs σ) → va_S A s.heap H locs → lv_has ls 9 [(0, .ref (a 0)), (4, .int x4), (5, .int x5), (7, .int x7), (8, .int x8)] → kb x8 σ = some (r, u9) → W p l e rmX12_show s m args below meth c H locs 0 0 (MQ below (va_Qi (fun x y => x = r ∧ y = u9) (qB D (mW a cs) A) A) args s 0 0 A) (F0 m 106 ls [])) h ih
    refine lv_iload hx hb dX12_show_106 (lv_at hl 4 rfl) ?_
    refine lv_iload hx hb dX12_show_108 (lv_at hl 2 rfl) ?_
    refine lv_icmp_ge (tgt := 139) hx hb dX12_show_110 (by decide) (fun c9 => ?_) (fun c9 => ?_)
    · have h := it_t c9 h
      exact hkx σ _ _ ls hP hD hS (lv_sub hl [2] rfl) h
    · have h := it_f c9 h
      refine lv_aload_n hx hb dX12_show_113 rfl (lv_at hl 0 rfl) ?_
      refine va_get (D := D) (ci := 11) (v := .ref (a 19)) (C := RX12) (T := TX12) (N := 27) hx hb hts inX12_X12_show hown hK.1 hP 0 rfl rfl 19 (by decide) (hts (.fieldLink RX12 60 "SandPalaceModel" "photo" "[I") (by decide +kernel)) (fun _ h9 => h9) rfl dX12_show_114 ?_
      refine lv_iload hx hb dX12_show_117 (lv_at hl 1 rfl) ?_
      refine lv_iload hx hb dX12_show_119 (lv_at hl 4 rfl) ?_
      refine lv_iadd hx hb dX12_show_121 ?_
      refine lv_aload_n hx hb dX12_show_122 rfl (lv_at hl 0 rfl) ?_
      refine va_get (D := D) (ci := 11) (v := .ref (a 26)) (C := RX12) (T := TX12) (N := 27) hx hb hts inX12_X12_show hown hK.1 hP 0 rfl rfl 26 (by decide) (hts (.fieldLink RX12 75 "SandPalaceModel" "items" "[I") (by decide +kernel)) (fun _ h9 => h9) rfl dX12_show_123 ?_
      refine lv_iload hx hb dX12_show_126 (lv_at hl 3 rfl) ?_
      refine lv_iload hx hb dX12_show_128 (lv_at hl 4 rfl) ?_
      refine lv_iadd hx hb dX12_show_130 ?_
      obtain ⟨v10, i_v10, e_v10, h⟩ := aI_some h
      refine miald hx hb hK.1 hP 21 0 rfl rfl i_v10 e_v10 dX12_show_131 ?_
      obtain ⟨i11, h⟩ := aS_some h
      refine va_iast hx hb hK.1 hP hD hS 16 0 rfl rfl i11 dX12_show_132 (fun H locs hP hD hS => ?_)
      obtain ⟨σ12, e_σ12, h⟩ := nm_some h
      have hP : va_P D vwCl (mW a cs σ12) H := by rw [← e_σ12]; exact hP
      have hD : va_D A (mW a cs σ12) := by rw [← e_σ12]; exact hD
      refine lv_iinc (v := x8 + (1 : Int32)) (lv' := [(8, .int (x8 + (1 : Int32))), (0, .ref (a 0)), (4, .int x4), (5, .int x5), (7, .int x7)]) hx hb dX12_show_133 hl (k := 4) rfl rfl (by decide) rfl (fun ls hl => ?_)
      refine lv_goto (tgt := 106) hx hb dX12_show_136 (by decide) ?_
      exact hkb (x8 + (1 : Int32)) σ12 _ _ ls hP hD hS (lv_sub hl [1, 2, 3, 4, 0] rfl) h
set_option maxHeartbeats 4000000 in
set_option maxRecDepth 100000 in
theorem kX12_show (l : Launch) (D : va_G) (cs : Nat → ClassId) (a : Nat → Nat) (σ : Nat → Nat → Int32) (F : Nat) (x1 : Int32) (x2 : Int32) (x3 : Int32) (x4 : Int32) (x5 : Int32) (r : Int32) (u9 : Nat → Nat → Int32) (h : fX12_show F σ x1 x2 x3 x4 x5 = some (r, u9)) (sz : Nat) : Met l yX12_show wsX12_show rmX12_show (va_Pc [.ref (a 0), .int x1, .int x2, .int x3, .int x4, .int x5] (pQ D cs (mW a cs σ) sz)) (va_Qi (fun x y => x = r ∧ y = u9) (qB D (mW a cs) (va_A (mW a cs σ) sz)) (va_A (mW a cs σ) sz)) 0 0 (va_A (mW a cs σ) sz) := by
  refine Met.ofW (cc := cX12_show) (maxL := 9) (ret := (some .int)) (by decide) rfl ?_
  intro p e s m args below meth c s₁ B hml hv
  obtain ⟨rfl, hsz, hP, hK, hD0⟩ := hv
  have C : cxt p s m _ meth c cX12_show 9 RX12 wsX12_show (some .int) := ⟨B.exec, B.bytes, hml, findClass_of_methodNamed B.named, atoms_spec (ws := wsX12_show) B.pre, B.returns, B.notSynchronized⟩
  obtain ⟨hx, hb, -, hown, hts, hr, hlk⟩ := id C
  subst hsz
  have hD := hD0.self (sz := s.heap.size)
  generalize hAe : va_A (mW a cs σ) s.heap.size = A at hD ⊢
  have hA : ∀ q : Nat, s.heap.size ≤ q → A q := fun q h => by rw [← hAe]; exact Or.inr h
  have hS : va_S A s.heap s.heap [] := va_S.rf
  refine entryW [.ref (a 0), .int x1, .int x2, .int x3, .int x4, .int x5] (n := 9) (Nat.le_of_ble_eq_true rfl) (fun ls hl => ?_)
  have hl : lv_has ls 9 [(0, .ref (a 0)), (1, .int x1), (2, .int x2), (3, .int x3), (4, .int x4), (5, .int x5)] := hl
  unfold fX12_show at h
  refine lv_iload_n hx hb dX12_show_0 rfl (lv_at hl 1 rfl) ?_
  refine lv_iload_n hx hb dX12_show_1 rfl (lv_at hl 2 rfl) ?_
  obtain ⟨v1, hc_v1, h⟩ := bd_some h
  refine mcallSZ (va_runS (As := [.int x1, .int x2]) (rest := []) ⟨hx, hb, hml, hown, hts⟩ (kX12_isSheet l x1 x2 v1 hc_v1) (va_cwS 2 hts gX12_show_X12_isSheet rfl rfl rfl (by decide +kernel) ⟨Nat.le_of_ble_eq_true rfl, Nat.le_of_ble_eq_true rfl⟩) p0_s rfl rfl hl.1 rfl (lv_room (Nat.le_of_ble_eq_true rfl)) dX12_show_2 ⟨Nat.zero_le _, Nat.zero_le _⟩) (fun z_v1 => ?_)
  refine lv_if_eq (tgt := 18) hx hb dX12_show_5 (by decide) (fun c2 => ?_) (fun c2 => ?_)
  · have h := it_t c2 h
    refine lv_iconst (v := ((-1) : Int32)) hx hb dX12_show_18 (by decide) ?_
    exact mretQ hx hb hr hlk h hP hD hS dX12_show_19
  · have h := it_f c2 h
    refine lv_iload hx hb dX12_show_8 (lv_at hl 4 rfl) ?_
    refine lv_iload hx hb dX12_show_10 (lv_at hl 5 rfl) ?_
    obtain ⟨v3, hc_v3, h⟩ := bd_some h
    refine mcallSZ (va_runS (As := [.int x4, .int x5]) (rest := []) ⟨hx, hb, hml, hown, hts⟩ (kX12_isCells l x4 x5 v3 hc_v3) (va_cwS 2 hts gX12_show_X12_isCells rfl rfl rfl (by decide +kernel) ⟨Nat.le_of_ble_eq_true rfl, Nat.le_of_ble_eq_true rfl⟩) p0_s rfl rfl hl.1 rfl (lv_room (Nat.le_of_ble_eq_true rfl)) dX12_show_12 ⟨Nat.zero_le _, Nat.zero_le _⟩) (fun z_v3 => ?_)
    refine lv_if_ne (tgt := 20) hx hb dX12_show_15 (by decide) (fun c4 => ?_) (fun c4 => ?_)
    · have h := it_t c4 h
      refine lv_aload_n hx hb dX12_show_20 rfl (lv_at hl 0 rfl) ?_
      refine lv_iload_n hx hb dX12_show_21 rfl (lv_at hl 1 rfl) ?_
      refine lv_iload_n hx hb dX12_show_22 rfl (lv_at hl 2 rfl) ?_
      refine lv_iload_n hx hb dX12_show_23 rfl (lv_at hl 3 rfl) ?_
      refine lv_iload hx hb dX12_show_24 (lv_at hl 5 rfl) ?_
      obtain ⟨v5, hc_v5, h⟩ := bd_some h
      refine mcallS (va_runV (As := [.int x1, .int x2, .int x3, .int x5]) (rest := []) ⟨hx, hb, hml, hown, hts⟩ (kX12_against l D cs a σ x1 x2 x3 x5 v5 hc_v5) (cwV 4 hts gX12_show_X12_against rfl rfl rfl (by decide +kernel) ⟨Nat.le_of_ble_eq_true rfl, Nat.le_of_ble_eq_true rfl⟩) (pR_v hP hK (va_recv hK.1 hP (ci := 11) (q0 := 0) rfl rfl)) rfl rfl hl.1 rfl (lv_room (Nat.le_of_ble_eq_true rfl)) dX12_show_26 ⟨Nat.zero_le _, Nat.zero_le _⟩) ?_
      refine lv_istore (lv' := [(6, .int v5), (0, .ref (a 0)), (1, .int x1), (2, .int x2), (3, .int x3), (4, .int x4), (5, .int x5)]) hx hb dX12_show_29 hl (by decide) rfl (fun ls hl => ?_)
      refine lv_iload hx hb dX12_show_31 (lv_at hl 0 rfl) ?_
      refine lv_if_ge (tgt := 39) hx hb dX12_show_33 (by decide) (fun c6 => ?_) (fun c6 => ?_)
      · have h := it_t c6 h
        refine lv_sipush (v := (256 : Int32)) hx hb dX12_show_39 (by decide) ?_
        refine lv_iload_n hx hb dX12_show_42 rfl (lv_at hl 2 rfl) ?_
        refine lv_imul hx hb dX12_show_43 ?_
        refine lv_iload_n hx hb dX12_show_44 rfl (lv_at hl 4 rfl) ?_
        refine lv_iadd hx hb dX12_show_45 ?_
        obtain ⟨z7, e_z7, h⟩ := nm_some h
        refine tpi e_z7 ?_
        refine lv_istore (lv' := [(7, .int z7), (6, .int v5), (0, .ref (a 0)), (1, .int x1), (2, .int x2), (3, .int x3), (4, .int x4), (5, .int x5)]) hx hb dX12_show_46 hl (by decide) rfl (fun ls hl => ?_)
        refine lv_iconst (v := (0 : Int32)) hx hb dX12_show_48 (by decide) ?_
        refine lv_istore (lv' := [(8, .int (0 : Int32)), (7, .int z7), (6, .int v5), (0, .ref (a 0)), (1, .int x1), (2, .int x2), (3, .int x3), (4, .int x4), (5, .int x5)]) hx hb dX12_show_49 hl (by decide) rfl (fun ls hl => ?_)
        refine wX12_show_L51 C hK hA r u9 F x4 x5 z7 _ ?_ F (0 : Int32) σ _ _ ls hP hD hS (lv_sub hl [3, 7, 8, 1, 0] rfl) h
        intro σ8 H locs ls hP hD hS hl h
        refine lv_iconst (v := (0 : Int32)) hx hb dX12_show_103 (by decide) ?_
        refine lv_istore (lv' := [(8, .int (0 : Int32)), (0, .ref (a 0)), (4, .int x4), (5, .int x5), (7, .int z7)]) hx hb dX12_show_104 hl (by decide) rfl (fun ls hl => ?_)
        refine wX12_show_L106 C hK hA r u9 F x4 x5 z7 _ ?_ F (0 : Int32) σ8 _ _ ls hP hD hS (lv_sub hl [1, 2, 3, 4, 0] rfl) h
        intro σ9 H locs ls hP hD hS hl h
        refine lv_iload hx hb dX12_show_139 (lv_at hl 0 rfl) ?_
        exact mretQ hx hb hr hlk h hP hD hS dX12_show_141
      · have h := it_f c6 h
        refine lv_iload hx hb dX12_show_36 (lv_at hl 0 rfl) ?_
        exact mretQ hx hb hr hlk h hP hD hS dX12_show_38
    · have h := it_n c4 h
      refine lv_iconst (v := ((-1) : Int32)) hx hb dX12_show_18 (by decide) ?_
      exact mretQ hx hb hr hlk h hP hD hS dX12_show_19
