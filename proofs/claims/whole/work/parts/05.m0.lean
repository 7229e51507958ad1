def mW (a : Nat → Nat) (cs : Nat → ClassId) (σ : Nat → Nat → Int32) : va_W := [(a 0, .inr (11, [.int (σ 0 0), .ref (a 1), .ref (a 2), .ref (a 3), .ref (a 4), .ref (a 5), .ref (a 6), .ref (a 7), .ref (a 8), .ref (a 9), .ref (a 10), .ref (a 11), .int (σ 12 0), .int (σ 13 0), .ref (a 14), .ref (a 15), .int (σ 16 0), .ref (a 17), .ref (a 18), .ref (a 19), .ref (a 20), .int (σ 21 0), .int (σ 22 0), .ref (a 23), .ref (a 24), .ref (a 25), .ref (a 26)])), (a 1, .inl (cs 0, 10, .inl (σ 1))), (a 2, .inl (cs 0, 10, .inl (σ 2))), (a 3, .inl (cs 0, 10, .inl (σ 3))), (a 4, .inl (cs 0, 10, .inl (σ 4))), (a 5, .inl (cs 0, 10, .inl (σ 5))), (a 6, .inl (cs 0, 10, .inl (σ 6))), (a 7, .inl (cs 0, 10, .inl (σ 7))), (a 8, .inl (cs 1, 2560, .inl (σ 8))), (a 9, .inl (cs 0, 10, .inl (σ 9))), (a 10, .inl (cs 0, 10, .inl (σ 10))), (a 11, .inl (cs 0, 10, .inl (σ 11))), (a 14, .inl (cs 0, 10, .inl (σ 14))), (a 15, .inl (cs 0, 1024, .inl (σ 15))), (a 17, .inl (cs 0, 10, .inl (σ 17))), (a 18, .inl (cs 0, 10, .inl (σ 18))), (a 19, .inl (cs 0, 256, .inl (σ 19))), (a 20, .inl (cs 0, 256, .inl (σ 20))), (a 23, .inl (cs 0, 16, .inl (σ 23))), (a 24, .inl (cs 0, 4, .inl (σ 24))), (a 25, .inl (cs 0, 4, .inl (σ 25))), (a 26, .inl (cs 0, 1024, .inl (σ 26)))]
def fX12_in (x0 : Int64) (x2 : Int64) (x4 : Int64) : Option Int32 :=
  if (lg_cmp x0 x2) < 0 then (some (0 : Int32)) else (if 0 < (lg_cmp x0 x4) then (some (0 : Int32)) else (some (1 : Int32)))
abbrev rmX12_in : Room := { frames := 0, cells := 0, slots := 0, locals := 0 }
set_option maxHeartbeats 4000000 in
set_option maxRecDepth 100000 in
theorem kX12_in (l : Launch) (x0 : Int64) (x2 : Int64) (x4 : Int64) (r : Int32) (h : fX12_in x0 x2 x4 = some r) : Met l yX12_in wsX12_in rmX12_in (va_Pc [.long x0, .long x2, .long x4] (p0)) (vp_Si (fun x => x = r ∧ (r = 0 ∨ r = 1))) 0 0 (fun _ => False) := by
  refine Met.ofW (cc := cX12_in) (maxL := 6) (ret := (some .boolean)) (by decide) rfl ?_
  intro p e s m args below meth c s₁ B hml hv
  obtain ⟨rfl, -⟩ := hv
  have C : cxt p s m _ meth c cX12_in 6 RX12 wsX12_in (some .boolean) := ⟨B.exec, B.bytes, hml, findClass_of_methodNamed B.named, atoms_spec (ws := wsX12_in) B.pre, B.returns, B.notSynchronized⟩
  obtain ⟨hx, hb, -, hown, hts, hr, hlk⟩ := id C
  refine entryW [.long x0, .long x2, .long x4] (n := 6) (Nat.le_of_ble_eq_true rfl) (fun ls hl => ?_)
  have hl : lv_has ls 6 [(0, .long x0), (2, .long x2), (4, .long x4)] := hl
  unfold fX12_in at h
  refine lv_lload_n hx hb dX12_in_0 rfl (lv_at hl 0 rfl) ?_
  refine lv_lload_n hx hb dX12_in_1 rfl (lv_at hl 1 rfl) ?_
  refine W.lcmp hx hb dX12_in_2 ?_
  refine lv_if_lt (tgt := 17) hx hb dX12_in_3 (by decide) (fun c1 => ?_) (fun c1 => ?_)
  · have h := it_t c1 h
    refine lv_iconst (v := (0 : Int32)) hx hb dX12_in_17 (by decide) ?_
    exact mretSZ hx hb hr hlk h (Or.inl rfl) dX12_in_18
  · have h := it_f c1 h
    refine lv_lload_n hx hb dX12_in_6 rfl (lv_at hl 0 rfl) ?_
    refine lv_lload hx hb dX12_in_7 (lv_at hl 2 rfl) ?_
    refine W.lcmp hx hb dX12_in_9 ?_
    refine lv_if_gt (tgt := 17) hx hb dX12_in_10 (by decide) (fun c2 => ?_) (fun c2 => ?_)
    · have h := it_t c2 h
      refine lv_iconst (v := (0 : Int32)) hx hb dX12_in_17 (by decide) ?_
      exact mretSZ hx hb hr hlk h (Or.inl rfl) dX12_in_18
    · have h := it_f c2 h
      refine lv_iconst (v := (1 : Int32)) hx hb dX12_in_13 (by decide) ?_
      refine lv_goto (tgt := 18) hx hb dX12_in_14 (by decide) ?_
      exact mretSZ hx hb hr hlk h (Or.inr rfl) dX12_in_18
def fX12_size (x0 : Int32) : Option Int32 :=
  if 0 ≤ x0 then (some x0) else (some (-x0))
abbrev rmX12_size : Room := { frames := 0, cells := 0, slots := 0, locals := 0 }
set_option maxHeartbeats 4000000 in
set_option maxRecDepth 100000 in
theorem kX12_size (l : Launch) (x0 : Int32) (r : Int32) (h : fX12_size x0 = some r) : Met l yX12_size wsX12_size rmX12_size (va_Pc [.int x0] (p0)) (vp_Si (fun x => x = r)) 0 0 (fun _ => False) := by
  refine Met.ofW (cc := cX12_size) (maxL := 1) (ret := (some .int)) (by decide) rfl ?_
  intro p e s m args below meth c s₁ B hml hv
  obtain ⟨rfl, -⟩ := hv
  have C : cxt p s m _ meth c cX12_size 1 RX12 wsX12_size (some .int) := ⟨B.exec, B.bytes, hml, findClass_of_methodNamed B.named, atoms_spec (ws := wsX12_size) B.pre, B.returns, B.notSynchronized⟩
  obtain ⟨hx, hb, -, hown, hts, hr, hlk⟩ := id C
  refine entryW [.int x0] (n := 1) (Nat.le_of_ble_eq_true rfl) (fun ls hl => ?_)
  have hl : lv_has ls 1 [(0, .int x0)] := hl
  unfold fX12_size at h
  refine lv_iload_n hx hb dX12_size_0 rfl (lv_at hl 0 rfl) ?_
  refine lv_if_ge (tgt := 9) hx hb dX12_size_1 (by decide) (fun c1 => ?_) (fun c1 => ?_)
  · have h := it_t c1 h
    refine lv_iload_n hx hb dX12_size_9 rfl (lv_at hl 0 rfl) ?_
    exact mretS hx hb hr hlk h dX12_size_10
  · have h := it_f c1 h
    refine lv_iload_n hx hb dX12_size_4 rfl (lv_at hl 0 rfl) ?_
    refine lv_ineg hx hb dX12_size_5 ?_
    refine lv_goto (tgt := 10) hx hb dX12_size_6 (by decide) ?_
    exact mretS hx hb hr hlk h dX12_size_10
def fX12_quarterOf (x0 : Int32) (x1 : Int32) : Option Int32 :=
  if x0 ≤ (7 : Int32) then (if x1 ≤ (7 : Int32) then (some (2 : Int32)) else (some (1 : Int32))) else (if x1 ≤ (7 : Int32) then (some (3 : Int32)) else (some (0 : Int32)))
abbrev rmX12_quarterOf : Room := { frames := 0, cells := 0, slots := 0, locals := 0 }
set_option maxHeartbeats 4000000 in
set_option maxRecDepth 100000 in
theorem kX12_quarterOf (l : Launch) (x0 : Int32) (x1 : Int32) (r : Int32) (h : fX12_quarterOf x0 x1 = some r) : Met l yX12_quarterOf wsX12_quarterOf rmX12_quarterOf (va_Pc [.int x0, .int x1] (p0)) (vp_Si (fun x => x = r)) 0 0 (fun _ => False) := by
  refine Met.ofW (cc := cX12_quarterOf) (maxL := 2) (ret := (some .int)) (by decide) rfl ?_
  intro p e s m args below meth c s₁ B hml hv
  obtain ⟨rfl, -⟩ := hv
  have C : cxt p s m _ meth c cX12_quarterOf 2 RX12 wsX12_quarterOf (some .int) := ⟨B.exec, B.bytes, hml, findClass_of_methodNamed B.named, atoms_spec (ws := wsX12_quarterOf) B.pre, B.returns, B.notSynchronized⟩
  obtain ⟨hx, hb, -, hown, hts, hr, hlk⟩ := id C
  refine entryW [.int x0, .int x1] (n := 2) (Nat.le_of_ble_eq_true rfl) (fun ls hl => ?_)
  have hl : lv_has ls 2 [(0, .int x0), (1, .int x1)] := hl
  unfold fX12_quarterOf at h
  refine lv_iload_n hx hb dX12_quarterOf_0 rfl (lv_at hl 0 rfl) ?_
  refine lv_bipush (v := (7 : Int32)) hx hb dX12_quarterOf_1 (by decide) ?_
  refine lv_icmp_le (tgt := 20) hx hb dX12_quarterOf_3 (by decide) (fun c1 => ?_) (fun c1 => ?_)
  · have h := it_t c1 h
    refine lv_iload_n hx hb dX12_quarterOf_20 rfl (lv_at hl 1 rfl) ?_
    refine lv_bipush (v := (7 : Int32)) hx hb dX12_quarterOf_21 (by decide) ?_
    refine lv_icmp_le (tgt := 30) hx hb dX12_quarterOf_23 (by decide) (fun c2 => ?_) (fun c2 => ?_)
    · have h := it_t c2 h
      refine lv_iconst (v := (2 : Int32)) hx hb dX12_quarterOf_30 (by decide) ?_
      exact mretS hx hb hr hlk h dX12_quarterOf_31
    · have h := it_f c2 h
      refine lv_iconst (v := (1 : Int32)) hx hb dX12_quarterOf_26 (by decide) ?_
      refine lv_goto (tgt := 31) hx hb dX12_quarterOf_27 (by decide) ?_
      exact mretS hx hb hr hlk h dX12_quarterOf_31
  · have h := it_f c1 h
    refine lv_iload_n hx hb dX12_quarterOf_6 rfl (lv_at hl 1 rfl) ?_
    refine lv_bipush (v := (7 : Int32)) hx hb dX12_quarterOf_7 (by decide) ?_
    refine lv_icmp_le (tgt := 16) hx hb dX12_quarterOf_9 (by decide) (fun c3 => ?_) (fun c3 => ?_)
    · have h := it_t c3 h
      refine lv_iconst (v := (3 : Int32)) hx hb dX12_quarterOf_16 (by decide) ?_
      refine lv_goto (tgt := 31) hx hb dX12_quarterOf_17 (by decide) ?_
      exact mretS hx hb hr hlk h dX12_quarterOf_31
    · have h := it_f c3 h
      refine lv_iconst (v := (0 : Int32)) hx hb dX12_quarterOf_12 (by decide) ?_
      refine lv_goto (tgt := 31) hx hb dX12_quarterOf_13 (by decide) ?_
      exact mretS hx hb hr hlk h dX12_quarterOf_31
def fX12_turned_L13 (F : Nat) (x1 : Int32) (kx : Int32 → Int32 → Option Int32) : Nat → Int32 → Int32 → Int32 → Option Int32
  | 0, _, _, _ => none
  | n+1, x2, x3, x4 =>
    nb ((fun x2 x3 x4 => fX12_turned_L13 F x1 kx n x2 x3 x4)) fun kb =>
    if x1 ≤ x4 then (kx x2 x3) else (kb ((15 : Int32) - x3) x2 (x4 + (1 : Int32)))
def fX12_turned (F : Nat) (x0 : Int32) (x1 : Int32) : Option Int32 :=
  nm (x0 - x0 / (16 : Int32) * (16 : Int32)) fun z1 => fX12_turned_L13 F x1 (fun y2 y3 => some (((16 : Int32) * y3) + y2)) F z1 (x0 / (16 : Int32)) (0 : Int32)
abbrev rmX12_turned : Room := { frames := 0, cells := 0, slots := 0, locals := 0 }
set_option maxHeartbeats 4000000 in
set_option maxRecDepth 100000 in
theorem wX12_turned_L13 {p : Program} {l : Launch} {e : Env} {s : State} {m : MethodId} {args : Array Value} {below : List Frame} {meth : Method} {c : Code} (C : cxt p s m args meth c cX12_turned 6 RX12 wsX12_turned (some .int)) (r : Int32) (F : Nat) (x1 : Int32) (kx : Int32 → Int32 → Option Int32) (hkx : ∀ (x2 : Int32) (x3 : Int32) (ls : Array Slot), lv_has ls 6 [(2, .int x2), (3, .int x3)] → kx x2 x3 = some r → W p l e rmX12_turned s m args below meth c s.heap [] 0 0 (MQ below (vp_Si (fun x => x = r)) args s 0 0 (fun _ => False)) (F0 m 36 ls [])) : ∀ (n : Nat) (x2 : Int32) (x3 : Int32) (x4 : Int32) (ls : Array Slot), lv_has ls 6 [(1, .int x1), (2, .int x2), (3, .int x3), (4, .int x4)] → fX12_turned_L13 F x1 kx n x2 x3 x4 = some r → W p l e rmX12_turned s m args below meth c s.heap [] 0 0 (MQ below (vp_Si (fun x => x = r)) args s 0 0 (fun _ => False)) (F0 m 13 ls []) := by
  obtain ⟨hx, hb, hml, hown, hts, hr, hlk⟩ := id C
  intro n
  induction n with
  | zero =>
    intros
    rename_i h
    cases h
  | succ n ih =>
    intro x2 x3 x4 ls hl h
    rw [fX12_turned_L13] at h
    obtain ⟨kb, hkb, h⟩ := nb_some (P := fun (kb : Int32 → Int32 → Int32 → Option Int32) => ∀ (x2 : Int32) (x3 : Int32) (x4 : Int32) (ls : Array Slot), lv_has ls 6 [(1, .int x1), (2, .int x2), (3, .int x3), (4, .int x4)] → kb x2 x3 x4 = some r → W p l e rmX12_turned s m args below meth c s.heap [] 0 0 (MQ below (vp_Si (fun x => x = r)) args s 0 0 (fun _ => False)) (F0 m 13 ls [])) h ih
    refine lv_iload hx hb dX12_turned_13 (lv_at hl 3 rfl) ?_
    refine lv_iload_n hx hb dX12_turned_15 rfl (lv_at hl 0 rfl) ?_
    refine lv_icmp_ge (tgt := 36) hx hb dX12_turned_16 (by decide) (fun c2 => ?_) (fun c2 => ?_)
    · have h := it_t c2 h
      exact hkx x2 x3 ls (lv_sub hl [1, 2] rfl) h
    · have h := it_f c2 h
      refine lv_iload_n hx hb dX12_turned_19 rfl (lv_at hl 1 rfl) ?_
      refine lv_istore (lv' := [(5, .int x2), (1, .int x1), (2, .int x2), (3, .int x3), (4, .int x4)]) hx hb dX12_turned_20 hl (by decide) rfl (fun ls hl => ?_)
      refine lv_bipush (v := (15 : Int32)) hx hb dX12_turned_22 (by decide) ?_
      refine lv_iload_n hx hb dX12_turned_24 rfl (lv_at hl 3 rfl) ?_
      refine lv_isub hx hb dX12_turned_25 ?_
      refine lv_istore_n (lv' := [(2, .int ((15 : Int32) - x3)), (5, .int x2), (1, .int x1), (3, .int x3), (4, .int x4)]) hx hb dX12_turned_26 rfl hl (by decide) rfl (fun ls hl => ?_)
      refine lv_iload hx hb dX12_turned_27 (lv_at hl 1 rfl) ?_
      refine lv_istore_n (lv' := [(3, .int x2), (2, .int ((15 : Int32) - x3)), (5, .int x2), (1, .int x1), (4, .int x4)]) hx hb dX12_turned_29 rfl hl (by decide) rfl (fun ls hl => ?_)
      refine lv_iinc (v := x4 + (1 : Int32)) (lv' := [(4, .int (x4 + (1 : Int32))), (3, .int x2), (2, .int ((15 : Int32) - x3)), (5, .int x2), (1, .int x1)]) hx hb dX12_turned_30 hl (k := 4) rfl rfl (by decide) rfl (fun ls hl => ?_)
      refine lv_goto (tgt := 13) hx hb dX12_turned_33 (by decide) ?_
      exact hkb ((15 : Int32) - x3) x2 (x4 + (1 : Int32)) ls (lv_sub hl [4, 2, 1, 0] rfl) h
set_option maxHeartbeats 4000000 in
set_option maxRecDepth 100000 in
theorem kX12_turned (l : Launch) (F : Nat) (x0 : Int32) (x1 : Int32) (r : Int32) (h : fX12_turned F x0 x1 = some r) : Met l yX12_turned wsX12_turned rmX12_turned (va_Pc [.int x0, .int x1] (p0)) (vp_Si (fun x => x = r)) 0 0 (fun _ => False) := by
  refine Met.ofW (cc := cX12_turned) (maxL := 6) (ret := (some .int)) (by decide) rfl ?_
  intro p e s m args below meth c s₁ B hml hv
  obtain ⟨rfl, -⟩ := hv
  have C : cxt p s m _ meth c cX12_turned 6 RX12 wsX12_turned (some .int) := ⟨B.exec, B.bytes, hml, findClass_of_methodNamed B.named, atoms_spec (ws := wsX12_turned) B.pre, B.returns, B.notSynchronized⟩
  obtain ⟨hx, hb, -, hown, hts, hr, hlk⟩ := id C
  refine entryW [.int x0, .int x1] (n := 6) (Nat.le_of_ble_eq_true rfl) (fun ls hl => ?_)
  have hl : lv_has ls 6 [(0, .int x0), (1, .int x1)] := hl
  unfold fX12_turned at h
  refine lv_iload_n hx hb dX12_turned_0 rfl (lv_at hl 0 rfl) ?_
  refine lv_bipush (v := (16 : Int32)) hx hb dX12_turned_1 (by decide) ?_
  refine lv_irem hx hb dX12_turned_3 (by decide) ?_
  obtain ⟨z1, e_z1, h⟩ := nm_some h
  refine tpi e_z1 ?_
  refine lv_istore_n (lv' := [(2, .int z1), (0, .int x0), (1, .int x1)]) hx hb dX12_turned_4 rfl hl (by decide) rfl (fun ls hl => ?_)
  refine lv_iload_n hx hb dX12_turned_5 rfl (lv_at hl 1 rfl) ?_
  refine lv_bipush (v := (16 : Int32)) hx hb dX12_turned_6 (by decide) ?_
  refine lv_idiv hx hb dX12_turned_8 (by decide) ?_
  refine lv_istore_n (lv' := [(3, .int (x0 / (16 : Int32))), (2, .int z1), (0, .int x0), (1, .int x1)]) hx hb dX12_turned_9 rfl hl (by decide) rfl (fun ls hl => ?_)
  refine lv_iconst (v := (0 : Int32)) hx hb dX12_turned_10 (by decide) ?_
  refine lv_istore (lv' := [(4, .int (0 : Int32)), (3, .int (x0 / (16 : Int32))), (2, .int z1), (0, .int x0), (1, .int x1)]) hx hb dX12_turned_11 hl (by decide) rfl (fun ls hl => ?_)
  refine wX12_turned_L13 C  r F x1 _ ?_ F z1 (x0 / (16 : Int32)) (0 : Int32) ls (lv_sub hl [4, 2, 1, 0] rfl) h
  intro y2 y3 ls hl h
  refine lv_bipush (v := (16 : Int32)) hx hb dX12_turned_36 (by decide) ?_
  refine lv_iload_n hx hb dX12_turned_38 rfl (lv_at hl 1 rfl) ?_
  refine lv_imul hx hb dX12_turned_39 ?_
  refine lv_iload_n hx hb dX12_turned_40 rfl (lv_at hl 0 rfl) ?_
  refine lv_iadd hx hb dX12_turned_41 ?_
  exact mretS hx hb hr hlk h dX12_turned_42
def fX12_placeOf (F : Nat) (x0 : Int32) : Option Int32 :=
  bd (fX12_quarterOf (x0 - x0 / (16 : Int32) * (16 : Int32)) (x0 / (16 : Int32))) fun v1 => bd (fX12_turned F x0 (((4 : Int32) - v1) - ((4 : Int32) - v1) / (4 : Int32) * (4 : Int32))) fun v2 => some v2
abbrev rmX12_placeOf : Room := { frames := 1, cells := 0, slots := 0, locals := 25 }
set_option maxHeartbeats 4000000 in
set_option maxRecDepth 100000 in
theorem kX12_placeOf (l : Launch) (F : Nat) (x0 : Int32) (r : Int32) (h : fX12_placeOf F x0 = some r) : Met l yX12_placeOf wsX12_placeOf rmX12_placeOf (va_Pc [.int x0] (p0)) (vp_Si (fun x => x = r)) 0 0 (fun _ => False) := by
  refine Met.ofW (cc := cX12_placeOf) (maxL := 1) (ret := (some .int)) (by decide) rfl ?_
  intro p e s m args below meth c s₁ B hml hv
  obtain ⟨rfl, -⟩ := hv
  have C : cxt p s m _ meth c cX12_placeOf 1 RX12 wsX12_placeOf (some .int) := ⟨B.exec, B.bytes, hml, findClass_of_methodNamed B.named, atoms_spec (ws := wsX12_placeOf) B.pre, B.returns, B.notSynchronized⟩
  obtain ⟨hx, hb, -, hown, hts, hr, hlk⟩ := id C
  refine entryW [.int x0] (n := 1) (Nat.le_of_ble_eq_true rfl) (fun ls hl => ?_)
  have hl : lv_has ls 1 [(0, .int x0)] := hl
  unfold fX12_placeOf at h
  refine lv_iload_n hx hb dX12_placeOf_0 rfl (lv_at hl 0 rfl) ?_
  refine lv_iconst (v := (4 : Int32)) hx hb dX12_placeOf_1 (by decide) ?_
  refine lv_iload_n hx hb dX12_placeOf_2 rfl (lv_at hl 0 rfl) ?_
  refine lv_bipush (v := (16 : Int32)) hx hb dX12_placeOf_3 (by decide) ?_
  refine lv_irem hx hb dX12_placeOf_5 (by decide) ?_
  refine lv_iload_n hx hb dX12_placeOf_6 rfl (lv_at hl 0 rfl) ?_
  refine lv_bipush (v := (16 : Int32)) hx hb dX12_placeOf_7 (by decide) ?_
  refine lv_idiv hx hb dX12_placeOf_9 (by decide) ?_
  obtain ⟨v1, hc_v1, h⟩ := bd_some h
  refine mcallS (va_runS (As := [.int (x0 - x0 / (16 : Int32) * (16 : Int32)), .int (x0 / (16 : Int32))]) (rest := [.int (4 : Int32), .int x0]) ⟨hx, hb, hml, hown, hts⟩ (kX12_quarterOf l (x0 - x0 / (16 : Int32) * (16 : Int32)) (x0 / (16 : Int32)) v1 hc_v1) (va_cwS 2 hts gX12_placeOf_X12_quarterOf rfl rfl rfl (by decide +kernel) ⟨Nat.le_of_ble_eq_true rfl, Nat.le_of_ble_eq_true rfl⟩) p0_s rfl rfl hl.1 rfl (lv_room (Nat.le_of_ble_eq_true rfl)) dX12_placeOf_10 ⟨Nat.zero_le _, Nat.zero_le _⟩) ?_
  refine lv_isub hx hb dX12_placeOf_13 ?_
  refine lv_iconst (v := (4 : Int32)) hx hb dX12_placeOf_14 (by decide) ?_
  refine lv_irem hx hb dX12_placeOf_15 (by decide) ?_
  obtain ⟨v2, hc_v2, h⟩ := bd_some h
  refine mcallS (va_runS (As := [.int x0, .int (((4 : Int32) - v1) - ((4 : Int32) - v1) / (4 : Int32) * (4 : Int32))]) (rest := []) ⟨hx, hb, hml, hown, hts⟩ (kX12_turned l F x0 (((4 : Int32) - v1) - ((4 : Int32) - v1) / (4 : Int32) * (4 : Int32)) v2 hc_v2) (va_cwS 2 hts gX12_placeOf_X12_turned rfl rfl rfl (by decide +kernel) ⟨Nat.le_of_ble_eq_true rfl, Nat.le_of_ble_eq_true rfl⟩) p0_s rfl rfl hl.1 rfl (lv_room (Nat.le_of_ble_eq_true rfl)) dX12_placeOf_16 ⟨Nat.zero_le _, Nat.zero_le _⟩) ?_
  exact mretS hx hb hr hlk h dX12_placeOf_19
def fX12_rimOf_J36 (t0 : Int32) : Option Int32 :=
  some ((t0 - (1 : Int32)) / (2 : Int32))
def fX12_rimOf (x0 : Int32) : Option Int32 :=
  bd (fX12_size (((2 : Int32) * (x0 - x0 / (16 : Int32) * (16 : Int32))) - (15 : Int32))) fun v1 => bd (fX12_size (((2 : Int32) * (x0 / (16 : Int32))) - (15 : Int32))) fun v2 => if v1 ≤ v2 then (fX12_rimOf_J36 v2) else (fX12_rimOf_J36 v1)
abbrev rmX12_rimOf : Room := { frames := 1, cells := 0, slots := 0, locals := 20 }
set_option maxHeartbeats 4000000 in
set_option maxRecDepth 100000 in
theorem wX12_rimOf_J36 {p : Program} {l : Launch} {e : Env} {s : State} {m : MethodId} {args : Array Value} {below : List Frame} {meth : Method} {c : Code} (C : cxt p s m args meth c cX12_rimOf 3 RX12 wsX12_rimOf (some .int)) (r : Int32) (t0 : Int32) (ls : Array Slot) (hl : lv_has ls 3 []) (h : fX12_rimOf_J36 t0 = some r) : W p l e rmX12_rimOf s m args below meth c s.heap [] 0 0 (MQ below (vp_Si (fun x => x = r)) args s 0 0 (fun _ => False)) (F0 m 36 ls [.int t0]) := by
  obtain ⟨hx, hb, hml, hown, hts, hr, hlk⟩ := id C
  unfold fX12_rimOf_J36 at h
  refine lv_iconst (v := (1 : Int32)) hx hb dX12_rimOf_36 (by decide) ?_
  refine lv_isub hx hb dX12_rimOf_37 ?_
  refine lv_iconst (v := (2 : Int32)) hx hb dX12_rimOf_38 (by decide) ?_
  refine lv_idiv hx hb dX12_rimOf_39 (by decide) ?_
  exact mretS hx hb hr hlk h dX12_rimOf_40
set_option maxHeartbeats 4000000 in
set_option maxRecDepth 100000 in
theorem kX12_rimOf (l : Launch) (x0 : Int32) (r : Int32) (h : fX12_rimOf x0 = some r) : Met l yX12_rimOf wsX12_rimOf rmX12_rimOf (va_Pc [.int x0] (p0)) (vp_Si (fun x => x = r)) 0 0 (fun _ => False) := by
  refine Met.ofW (cc := cX12_rimOf) (maxL := 3) (ret := (some .int)) (by decide) rfl ?_
  intro p e s m args below meth c s₁ B hml hv
  obtain ⟨rfl, -⟩ := hv
  have C : cxt p s m _ meth c cX12_rimOf 3 RX12 wsX12_rimOf (some .int) := ⟨B.exec, B.bytes, hml, findClass_of_methodNamed B.named, atoms_spec (ws := wsX12_rimOf) B.pre, B.returns, B.notSynchronized⟩
  obtain ⟨hx, hb, -, hown, hts, hr, hlk⟩ := id C
  refine entryW [.int x0] (n := 3) (Nat.le_of_ble_eq_true rfl) (fun ls hl => ?_)
  have hl : lv_has ls 3 [(0, .int x0)] := hl
  unfold fX12_rimOf at h
  refine lv_iconst (v := (2 : Int32)) hx hb dX12_rimOf_0 (by decide) ?_
  refine lv_iload_n hx hb dX12_rimOf_1 rfl (lv_at hl 0 rfl) ?_
  refine lv_bipush (v := (16 : Int32)) hx hb dX12_rimOf_2 (by decide) ?_
  refine lv_irem hx hb dX12_rimOf_4 (by decide) ?_
  refine lv_imul hx hb dX12_rimOf_5 ?_
  refine lv_bipush (v := (15 : Int32)) hx hb dX12_rimOf_6 (by decide) ?_
  refine lv_isub hx hb dX12_rimOf_8 ?_
  obtain ⟨v1, hc_v1, h⟩ := bd_some h
  refine mcallS (va_runS (As := [.int (((2 : Int32) * (x0 - x0 / (16 : Int32) * (16 : Int32))) - (15 : Int32))]) (rest := []) ⟨hx, hb, hml, hown, hts⟩ (kX12_size l (((2 : Int32) * (x0 - x0 / (16 : Int32) * (16 : Int32))) - (15 : Int32)) v1 hc_v1) (va_cwS 1 hts gX12_rimOf_X12_size rfl rfl rfl (by decide +kernel) ⟨Nat.le_of_ble_eq_true rfl, Nat.le_of_ble_eq_true rfl⟩) p0_s rfl rfl hl.1 rfl (lv_room (Nat.le_of_ble_eq_true rfl)) dX12_rimOf_9 ⟨Nat.zero_le _, Nat.zero_le _⟩) ?_
  refine lv_istore_n (lv' := [(1, .int v1), (0, .int x0)]) hx hb dX12_rimOf_12 rfl hl (by decide) rfl (fun ls hl => ?_)
  refine lv_iconst (v := (2 : Int32)) hx hb dX12_rimOf_13 (by decide) ?_
  refine lv_iload_n hx hb dX12_rimOf_14 rfl (lv_at hl 1 rfl) ?_
  refine lv_bipush (v := (16 : Int32)) hx hb dX12_rimOf_15 (by decide) ?_
  refine lv_idiv hx hb dX12_rimOf_17 (by decide) ?_
  refine lv_imul hx hb dX12_rimOf_18 ?_
  refine lv_bipush (v := (15 : Int32)) hx hb dX12_rimOf_19 (by decide) ?_
  refine lv_isub hx hb dX12_rimOf_21 ?_
  obtain ⟨v2, hc_v2, h⟩ := bd_some h
  refine mcallS (va_runS (As := [.int (((2 : Int32) * (x0 / (16 : Int32))) - (15 : Int32))]) (rest := []) ⟨hx, hb, hml, hown, hts⟩ (kX12_size l (((2 : Int32) * (x0 / (16 : Int32))) - (15 : Int32)) v2 hc_v2) (va_cwS 1 hts gX12_rimOf_X12_size rfl rfl rfl (by decide +kernel) ⟨Nat.le_of_ble_eq_true rfl, Nat.le_of_ble_eq_true rfl⟩) p0_s rfl rfl hl.1 rfl (lv_room (Nat.le_of_ble_eq_true rfl)) dX12_rimOf_22 ⟨Nat.zero_le _, Nat.zero_le _⟩) ?_
  refine lv_istore_n (lv' := [(2, .int v2), (1, .int v1), (0, .int x0)]) hx hb dX12_rimOf_25 rfl hl (by decide) rfl (fun ls hl => ?_)
  refine lv_iload_n hx hb dX12_rimOf_26 rfl (lv_at hl 1 rfl) ?_
  refine lv_iload_n hx hb dX12_rimOf_27 rfl (lv_at hl 0 rfl) ?_
  refine lv_icmp_le (tgt := 35) hx hb dX12_rimOf_28 (by decide) (fun c3 => ?_) (fun c3 => ?_)
  · have h := it_t c3 h
    refine lv_iload_n hx hb dX12_rimOf_35 rfl (lv_at hl 0 rfl) ?_
    exact wX12_rimOf_J36 C  r v2 ls (lv_sub hl [] rfl) h
  · have h := it_f c3 h
    refine lv_iload_n hx hb dX12_rimOf_31 rfl (lv_at hl 1 rfl) ?_
    refine lv_goto (tgt := 36) hx hb dX12_rimOf_32 (by decide) ?_
    exact wX12_rimOf_J36 C  r v1 ls (lv_sub hl [] rfl) h
def fX12_isBetween (x0 : Int32) (x1 : Int32) (x2 : Int32) : Option Int32 :=
  if x2 < x1 then (bd (fX12_in x0.toInt64 x2.toInt64 x1.toInt64) fun v2 => some v2) else (bd (fX12_in x0.toInt64 x1.toInt64 x2.toInt64) fun v3 => some v3)
abbrev rmX12_isBetween : Room := { frames := 1, cells := 0, slots := 0, locals := 25 }
set_option maxHeartbeats 4000000 in
set_option maxRecDepth 100000 in
theorem kX12_isBetween (l : Launch) (x0 : Int32) (x1 : Int32) (x2 : Int32) (r : Int32) (h : fX12_isBetween x0 x1 x2 = some r) : Met l yX12_isBetween wsX12_isBetween rmX12_isBetween (va_Pc [.int x0, .int x1, .int x2] (p0)) (vp_Si (fun x => x = r ∧ (r = 0 ∨ r = 1))) 0 0 (fun _ => False) := by
  refine Met.ofW (cc := cX12_isBetween) (maxL := 3) (ret := (some .boolean)) (by decide) rfl ?_
  intro p e s m args below meth c s₁ B hml hv
  obtain ⟨rfl, -⟩ := hv
  have C : cxt p s m _ meth c cX12_isBetween 3 RX12 wsX12_isBetween (some .boolean) := ⟨B.exec, B.bytes, hml, findClass_of_methodNamed B.named, atoms_spec (ws := wsX12_isBetween) B.pre, B.returns, B.notSynchronized⟩
  obtain ⟨hx, hb, -, hown, hts, hr, hlk⟩ := id C
  refine entryW [.int x0, .int x1, .int x2] (n := 3) (Nat.le_of_ble_eq_true rfl) (fun ls hl => ?_)
  have hl : lv_has ls 3 [(0, .int x0), (1, .int x1), (2, .int x2)] := hl
  unfold fX12_isBetween at h
  refine lv_iload_n hx hb dX12_isBetween_0 rfl (lv_at hl 1 rfl) ?_
  refine lv_iload_n hx hb dX12_isBetween_1 rfl (lv_at hl 2 rfl) ?_
  refine lv_icmp_gt (tgt := 17) hx hb dX12_isBetween_2 (by decide) (fun c1 => ?_) (fun c1 => ?_)
  · have h := it_t c1 h
    refine lv_iload_n hx hb dX12_isBetween_17 rfl (lv_at hl 0 rfl) ?_
    refine lv_i2l hx hb dX12_isBetween_18 rfl ?_
    refine lv_iload_n hx hb dX12_isBetween_19 rfl (lv_at hl 2 rfl) ?_
    refine lv_i2l hx hb dX12_isBetween_20 rfl ?_
    refine lv_iload_n hx hb dX12_isBetween_21 rfl (lv_at hl 1 rfl) ?_
    refine lv_i2l hx hb dX12_isBetween_22 rfl ?_
    obtain ⟨v2, hc_v2, h⟩ := bd_some h
    refine mcallSZ (va_runS (As := [.long x0.toInt64, .long x2.toInt64, .long x1.toInt64]) (rest := []) ⟨hx, hb, hml, hown, hts⟩ (kX12_in l x0.toInt64 x2.toInt64 x1.toInt64 v2 hc_v2) (va_cwS 3 hts gX12_isBetween_X12_in rfl rfl rfl (by decide +kernel) ⟨Nat.le_of_ble_eq_true rfl, Nat.le_of_ble_eq_true rfl⟩) p0_s rfl rfl hl.1 rfl (lv_room (Nat.le_of_ble_eq_true rfl)) dX12_isBetween_23 ⟨Nat.zero_le _, Nat.zero_le _⟩) (fun z_v2 => ?_)
    exact mretSZ hx hb hr hlk h z_v2 dX12_isBetween_26
  · have h := it_f c1 h
    refine lv_iload_n hx hb dX12_isBetween_5 rfl (lv_at hl 0 rfl) ?_
    refine lv_i2l hx hb dX12_isBetween_6 rfl ?_
    refine lv_iload_n hx hb dX12_isBetween_7 rfl (lv_at hl 1 rfl) ?_
    refine lv_i2l hx hb dX12_isBetween_8 rfl ?_
    refine lv_iload_n hx hb dX12_isBetween_9 rfl (lv_at hl 2 rfl) ?_
    refine lv_i2l hx hb dX12_isBetween_10 rfl ?_
    obtain ⟨v3, hc_v3, h⟩ := bd_some h
    refine mcallSZ (va_runS (As := [.long x0.toInt64, .long x1.toInt64, .long x2.toInt64]) (rest := []) ⟨hx, hb, hml, hown, hts⟩ (kX12_in l x0.toInt64 x1.toInt64 x2.toInt64 v3 hc_v3) (va_cwS 3 hts gX12_isBetween_X12_in rfl rfl rfl (by decide +kernel) ⟨Nat.le_of_ble_eq_true rfl, Nat.le_of_ble_eq_true rfl⟩) p0_s rfl rfl hl.1 rfl (lv_room (Nat.le_of_ble_eq_true rfl)) dX12_isBetween_11 ⟨Nat.zero_le _, Nat.zero_le _⟩) (fun z_v3 => ?_)
    refine lv_goto (tgt := 26) hx hb dX12_isBetween_14 (by decide) ?_
    exact mretSZ hx hb hr hlk h z_v3 dX12_isBetween_26
def fX12_isOf_J280 (F : Nat) (t0 : Int32) (t1 : Int32) (σ : Nat → Nat → Int32) : Option Int32 :=
  if t0 < t1 then (some (0 : Int32)) else (some (1 : Int32))
def fX12_isOf_J154 (F : Nat) (x1 : Int32) (x6 : Int32) (x7 : Int32) (t0 : Int32) (σ : Nat → Nat → Int32) : Option Int32 :=
  aI (σ 1) 10 x1 fun v14 => if ¬ v14 = (2 : Int32) then (some t0) else (if ¬ t0 = 0 then (aI (σ 5) 10 x1 fun v17 => aI (σ 3) 10 x1 fun v18 => bd (fX12_size (v17 - v18)) fun v19 => aI (σ 6) 10 x1 fun v20 => aI (σ 4) 10 x1 fun v21 => bd (fX12_size (v20 - v21)) fun v22 => aI (σ 3) 10 x1 fun v23 => aI (σ 6) 10 x1 fun v24 => aI (σ 4) 10 x1 fun v25 => aI (σ 4) 10 x1 fun v26 => aI (σ 5) 10 x1 fun v27 => aI (σ 3) 10 x1 fun v28 => nm (((x6 - v23) * (v24 - v25)) - ((x7 - v26) * (v27 - v28))) fun z29 => bd (fX12_size z29) fun v30 => if v19 ≤ v22 then (fX12_isOf_J280 F v22 ((2 : Int32) * v30) σ) else (fX12_isOf_J280 F v19 ((2 : Int32) * v30) σ)) else (some t0))
def fX12_isOf_J153 (F : Nat) (x1 : Int32) (x6 : Int32) (x7 : Int32) (σ : Nat → Nat → Int32) : Option Int32 :=
  fX12_isOf_J154 F x1 x6 x7 (0 : Int32) σ
def fX12_isOf (F : Nat) (σ : Nat → Nat → Int32) (x1 : Int32) (x2 : Int32) : Option Int32 :=
  nm (((2 : Int32) * (x2 - x2 / (16 : Int32) * (16 : Int32))) - (15 : Int32)) fun z1 => nm (((2 : Int32) * (x2 / (16 : Int32))) - (15 : Int32)) fun z2 => aI (σ 1) 10 x1 fun v3 => if ¬ v3 = 0 then (aI (σ 1) 10 x1 fun v5 => if ¬ v5 = (1 : Int32) then (bd (fX12_placeOf F x2) fun v7 => nm ((v7 - v7 / (16 : Int32) * (16 : Int32)) - (8 : Int32)) fun z8 => nm ((v7 / (16 : Int32)) - (8 : Int32)) fun z9 => aI (σ 3) 10 x1 fun v10 => aI (σ 5) 10 x1 fun v11 => bd (fX12_isBetween z8 v10 v11) fun v12 => if v12 = 0 then (fX12_isOf_J153 F x1 z8 z9 σ) else (aI (σ 4) 10 x1 fun v14 => aI (σ 6) 10 x1 fun v15 => bd (fX12_isBetween z9 v14 v15) fun v16 => if v16 = 0 then (fX12_isOf_J153 F x1 z8 z9 σ) else (fX12_isOf_J154 F x1 z8 z9 (1 : Int32) σ))) else (bd (fX12_rimOf x2) fun v18 => aI (σ 3) 10 x1 fun v19 => if ¬ v18 = v19 then (some (0 : Int32)) else (some (1 : Int32)))) else (aI (σ 3) 10 x1 fun v21 => if v21 < ((z1 * z1) + (z2 * z2)) then (some (0 : Int32)) else (some (1 : Int32)))
abbrev rmX12_isOf : Room := { frames := 2, cells := 0, slots := 0, locals := 47 }
theorem inX12_X12_isOf : ∀ w ∈ wsX120, w ∈ wsX12_isOf := by intro w h; simp only [wsX12_isOf, List.mem_cons, List.mem_append]; simp only [h, true_or, or_true]
set_option maxHeartbeats 4000000 in
set_option maxRecDepth 100000 in
theorem wX12_isOf_J280 {p : Program} {l : Launch} {e : Env} {s : State} {m : MethodId} {args : Array Value} {below : List Frame} {meth : Method} {c : Code} (C : cxt p s m args meth c cX12_isOf 12 RX12 wsX12_isOf (some .boolean)) {D : va_G} {cs : Nat → ClassId} {a : Nat → Nat} (hK : KK D cs s) {σ : Nat → Nat → Int32} (hP : va_P D vwCl (mW a cs σ) s.heap) (r : Int32) (F : Nat) (t0 : Int32) (t1 : Int32) (ls : Array Slot) (hl : lv_has ls 12 []) (h : fX12_isOf_J280 F t0 t1 σ = some r) : W p l e rmX12_isOf s m args below meth c s.heap [] 0 0 (MQ below (vp_Si (fun x => x = r ∧ (r = 0 ∨ r = 1))) args s 0 0 (fun _ => False)) (F0 m 280 ls [.int t0, .int t1]) := by
  obtain ⟨hx, hb, hml, hown, hts, hr, hlk⟩ := id C
  unfold fX12_isOf_J280 at h
  refine lv_icmp_gt (tgt := 287) hx hb dX12_isOf_280 (by decide) (fun c32 => ?_) (fun c32 => ?_)
  · have h := it_t c32 h
    refine lv_iconst (v := (0 : Int32)) hx hb dX12_isOf_287 (by decide) ?_
    exact mretSZ hx hb hr hlk h (Or.inl rfl) dX12_isOf_288
  · have h := it_f c32 h
    refine lv_iconst (v := (1 : Int32)) hx hb dX12_isOf_283 (by decide) ?_
    refine lv_goto (tgt := 288) hx hb dX12_isOf_284 (by decide) ?_
    exact mretSZ hx hb hr hlk h (Or.inr rfl) dX12_isOf_288
set_option maxHeartbeats 4000000 in
set_option maxRecDepth 100000 in
theorem wX12_isOf_J154 {p : Program} {l : Launch} {e : Env} {s : State} {m : MethodId} {args : Array Value} {below : List Frame} {meth : Method} {c : Code} (C : cxt p s m args meth c cX12_isOf 12 RX12 wsX12_isOf (some .boolean)) {D : va_G} {cs : Nat → ClassId} {a : Nat → Nat} (hK : KK D cs s) {σ : Nat → Nat → Int32} (hP : va_P D vwCl (mW a cs σ) s.heap) (r : Int32) (F : Nat) (x1 : Int32) (x6 : Int32) (x7 : Int32) (t0 : Int32) (z_t0 : t0 = 0 ∨ t0 = 1) (ls : Array Slot) (hl : lv_has ls 12 [(0, .ref (a 0)), (1, .int x1), (6, .int x6), (7, .int x7)]) (h : fX12_isOf_J154 F x1 x6 x7 t0 σ = some r) : W p l e rmX12_isOf s m args below meth c s.heap [] 0 0 (MQ below (vp_Si (fun x => x = r ∧ (r = 0 ∨ r = 1))) args s 0 0 (fun _ => False)) (F0 m 154 ls [.int t0]) := by
  obtain ⟨hx, hb, hml, hown, hts, hr, hlk⟩ := id C
  unfold fX12_isOf_J154 at h
  refine lv_istore (lv' := [(8, .int t0), (0, .ref (a 0)), (1, .int x1), (6, .int x6), (7, .int x7)]) hx hb dX12_isOf_154 hl (by decide) rfl (fun ls hl => ?_)
  refine lv_aload_n hx hb dX12_isOf_156 rfl (lv_at hl 1 rfl) ?_
  refine va_get (D := D) (ci := 11) (v := .ref (a 1)) (C := RX12) (T := TX12) (N := 27) hx hb hts inX12_X12_isOf hown hK.1 hP 0 rfl rfl 1 (by decide) (hts (.fieldLink RX12 7 "SandPalaceModel" "kinds" "[I") (by decide +kernel)) (fun _ h9 => h9) rfl dX12_isOf_157 ?_
  refine lv_iload_n hx hb dX12_isOf_160 rfl (lv_at hl 2 rfl) ?_
  obtain ⟨v14, i_v14, e_v14, h⟩ := aI_some h
  refine miald hx hb hK.1 hP 1 0 rfl rfl i_v14 e_v14 dX12_isOf_161 ?_
  refine lv_iconst (v := (2 : Int32)) hx hb dX12_isOf_162 (by decide) ?_
  refine lv_icmp_ne (tgt := 171) hx hb dX12_isOf_163 (by decide) (fun c15 => ?_) (fun c15 => ?_)
  · have h := it_t c15 h
    refine lv_iload hx hb dX12_isOf_171 (lv_at hl 0 rfl) ?_
    exact mretSZ hx hb hr hlk h z_t0 dX12_isOf_173
  · have h := it_n c15 h
    refine lv_iload hx hb dX12_isOf_166 (lv_at hl 0 rfl) ?_
    refine lv_if_ne (tgt := 174) hx hb dX12_isOf_168 (by decide) (fun c16 => ?_) (fun c16 => ?_)
    · have h := it_t c16 h
      refine lv_aload_n hx hb dX12_isOf_174 rfl (lv_at hl 1 rfl) ?_
      refine va_get (D := D) (ci := 11) (v := .ref (a 5)) (C := RX12) (T := TX12) (N := 27) hx hb hts inX12_X12_isOf hown hK.1 hP 0 rfl rfl 5 (by decide) (hts (.fieldLink RX12 22 "SandPalaceModel" "partC" "[I") (by decide +kernel)) (fun _ h9 => h9) rfl dX12_isOf_175 ?_
      refine lv_iload_n hx hb dX12_isOf_178 rfl (lv_at hl 2 rfl) ?_
      obtain ⟨v17, i_v17, e_v17, h⟩ := aI_some h
      refine miald hx hb hK.1 hP 5 0 rfl rfl i_v17 e_v17 dX12_isOf_179 ?_
      refine lv_aload_n hx hb dX12_isOf_180 rfl (lv_at hl 1 rfl) ?_
      refine va_get (D := D) (ci := 11) (v := .ref (a 3)) (C := RX12) (T := TX12) (N := 27) hx hb hts inX12_X12_isOf hown hK.1 hP 0 rfl rfl 3 (by decide) (hts (.fieldLink RX12 16 "SandPalaceModel" "partA" "[I") (by decide +kernel)) (fun _ h9 => h9) rfl dX12_isOf_181 ?_
      refine lv_iload_n hx hb dX12_isOf_184 rfl (lv_at hl 2 rfl) ?_
      obtain ⟨v18, i_v18, e_v18, h⟩ := aI_some h
      refine miald hx hb hK.1 hP 3 0 rfl rfl i_v18 e_v18 dX12_isOf_185 ?_
      refine lv_isub hx hb dX12_isOf_186 ?_
      obtain ⟨v19, hc_v19, h⟩ := bd_some h
      refine mcallS (va_runS (As := [.int (v17 - v18)]) (rest := []) ⟨hx, hb, hml, hown, hts⟩ (kX12_size l (v17 - v18) v19 hc_v19) (va_cwS 1 hts gX12_isOf_X12_size rfl rfl rfl (by decide +kernel) ⟨Nat.le_of_ble_eq_true rfl, Nat.le_of_ble_eq_true rfl⟩) p0_s rfl rfl hl.1 rfl (lv_room (Nat.le_of_ble_eq_true rfl)) dX12_isOf_187 ⟨Nat.zero_le _, Nat.zero_le _⟩) ?_
      refine lv_istore (lv' := [(9, .int v19), (8, .int t0), (0, .ref (a 0)), (1, .int x1), (6, .int x6), (7, .int x7)]) hx hb dX12_isOf_190 hl (by decide) rfl (fun ls hl => ?_)
      refine lv_aload_n hx hb dX12_isOf_192 rfl (lv_at hl 2 rfl) ?_
      refine va_get (D := D) (ci := 11) (v := .ref (a 6)) (C := RX12) (T := TX12) (N := 27) hx hb hts inX12_X12_isOf hown hK.1 hP 0 rfl rfl 6 (by decide) (hts (.fieldLink RX12 25 "SandPalaceModel" "partD" "[I") (by decide +kernel)) (fun _ h9 => h9) rfl dX12_isOf_193 ?_
      refine lv_iload_n hx hb dX12_isOf_196 rfl (lv_at hl 3 rfl) ?_
      obtain ⟨v20, i_v20, e_v20, h⟩ := aI_some h
      refine miald hx hb hK.1 hP 6 0 rfl rfl i_v20 e_v20 dX12_isOf_197 ?_
      refine lv_aload_n hx hb dX12_isOf_198 rfl (lv_at hl 2 rfl) ?_
      refine va_get (D := D) (ci := 11) (v := .ref (a 4)) (C := RX12) (T := TX12) (N := 27) hx hb hts inX12_X12_isOf hown hK.1 hP 0 rfl rfl 4 (by decide) (hts (.fieldLink RX12 19 "SandPalaceModel" "partB" "[I") (by decide +kernel)) (fun _ h9 => h9) rfl dX12_isOf_199 ?_
      refine lv_iload_n hx hb dX12_isOf_202 rfl (lv_at hl 3 rfl) ?_
      obtain ⟨v21, i_v21, e_v21, h⟩ := aI_some h
      refine miald hx hb hK.1 hP 4 0 rfl rfl i_v21 e_v21 dX12_isOf_203 ?_
      refine lv_isub hx hb dX12_isOf_204 ?_
      obtain ⟨v22, hc_v22, h⟩ := bd_some h
      refine mcallS (va_runS (As := [.int (v20 - v21)]) (rest := []) ⟨hx, hb, hml, hown, hts⟩ (kX12_size l (v20 - v21) v22 hc_v22) (va_cwS 1 hts gX12_isOf_X12_size rfl rfl rfl (by decide +kernel) ⟨Nat.le_of_ble_eq_true rfl, Nat.le_of_ble_eq_true rfl⟩) p0_s rfl rfl hl.1 rfl (lv_room (Nat.le_of_ble_eq_true rfl)) dX12_isOf_205 ⟨Nat.zero_le _, Nat.zero_le _⟩) ?_
      refine lv_istore (lv' := [(10, .int v22), (9, .int v19), (8, .int t0), (0, .ref (a 0)), (1, .int x1), (6, .int x6), (7, .int x7)]) hx hb dX12_isOf_208 hl (by decide) rfl (fun ls hl => ?_)
      refine lv_iload hx hb dX12_isOf_210 (lv_at hl 5 rfl) ?_
      refine lv_aload_n hx hb dX12_isOf_212 rfl (lv_at hl 3 rfl) ?_
      refine va_get (D := D) (ci := 11) (v := .ref (a 3)) (C := RX12) (T := TX12) (N := 27) hx hb hts inX12_X12_isOf hown hK.1 hP 0 rfl rfl 3 (by decide) (hts (.fieldLink RX12 16 "SandPalaceModel" "partA" "[I") (by decide +kernel)) (fun _ h9 => h9) rfl dX12_isOf_213 ?_
      refine lv_iload_n hx hb dX12_isOf_216 rfl (lv_at hl 4 rfl) ?_
      obtain ⟨v23, i_v23, e_v23, h⟩ := aI_some h
      refine miald hx hb hK.1 hP 3 0 rfl rfl i_v23 e_v23 dX12_isOf_217 ?_
      refine lv_isub hx hb dX12_isOf_218 ?_
      refine lv_aload_n hx hb dX12_isOf_219 rfl (lv_at hl 3 rfl) ?_
      refine va_get (D := D) (ci := 11) (v := .ref (a 6)) (C := RX12) (T := TX12) (N := 27) hx hb hts inX12_X12_isOf hown hK.1 hP 0 rfl rfl 6 (by decide) (hts (.fieldLink RX12 25 "SandPalaceModel" "partD" "[I") (by decide +kernel)) (fun _ h9 => h9) rfl dX12_isOf_220 ?_
      refine lv_iload_n hx hb dX12_isOf_223 rfl (lv_at hl 4 rfl) ?_
      obtain ⟨v24, i_v24, e_v24, h⟩ := aI_some h
      refine miald hx hb hK.1 hP 6 0 rfl rfl i_v24 e_v24 dX12_isOf_224 ?_
      refine lv_aload_n hx hb dX12_isOf_225 rfl (lv_at hl 3 rfl) ?_
      refine va_get (D := D) (ci := 11) (v := .ref (a 4)) (C := RX12) (T := TX12) (N := 27) hx hb hts inX12_X12_isOf hown hK.1 hP 0 rfl rfl 4 (by decide) (hts (.fieldLink RX12 19 "SandPalaceModel" "partB" "[I") (by decide +kernel)) (fun _ h9 => h9) rfl dX12_isOf_226 ?_
      refine lv_iload_n hx hb dX12_isOf_229 rfl (lv_at hl 4 rfl) ?_
      obtain ⟨v25, i_v25, e_v25, h⟩ := aI_some h
      refine miald hx hb hK.1 hP 4 0 rfl rfl i_v25 e_v25 dX12_isOf_230 ?_
      refine lv_isub hx hb dX12_isOf_231 ?_
      refine lv_imul hx hb dX12_isOf_232 ?_
      refine lv_iload hx hb dX12_isOf_233 (lv_at hl 6 rfl) ?_
      refine lv_aload_n hx hb dX12_isOf_235 rfl (lv_at hl 3 rfl) ?_
      refine va_get (D := D) (ci := 11) (v := .ref (a 4)) (C := RX12) (T := TX12) (N := 27) hx hb hts inX12_X12_isOf hown hK.1 hP 0 rfl rfl 4 (by decide) (hts (.fieldLink RX12 19 "SandPalaceModel" "partB" "[I") (by decide +kernel)) (fun _ h9 => h9) rfl dX12_isOf_236 ?_
      refine lv_iload_n hx hb dX12_isOf_239 rfl (lv_at hl 4 rfl) ?_
      obtain ⟨v26, i_v26, e_v26, h⟩ := aI_some h
      refine miald hx hb hK.1 hP 4 0 rfl rfl i_v26 e_v26 dX12_isOf_240 ?_
      refine lv_isub hx hb dX12_isOf_241 ?_
      refine lv_aload_n hx hb dX12_isOf_242 rfl (lv_at hl 3 rfl) ?_
      refine va_get (D := D) (ci := 11) (v := .ref (a 5)) (C := RX12) (T := TX12) (N := 27) hx hb hts inX12_X12_isOf hown hK.1 hP 0 rfl rfl 5 (by decide) (hts (.fieldLink RX12 22 "SandPalaceModel" "partC" "[I") (by decide +kernel)) (fun _ h9 => h9) rfl dX12_isOf_243 ?_
      refine lv_iload_n hx hb dX12_isOf_246 rfl (lv_at hl 4 rfl) ?_
      obtain ⟨v27, i_v27, e_v27, h⟩ := aI_some h
      refine miald hx hb hK.1 hP 5 0 rfl rfl i_v27 e_v27 dX12_isOf_247 ?_
      refine lv_aload_n hx hb dX12_isOf_248 rfl (lv_at hl 3 rfl) ?_
      refine va_get (D := D) (ci := 11) (v := .ref (a 3)) (C := RX12) (T := TX12) (N := 27) hx hb hts inX12_X12_isOf hown hK.1 hP 0 rfl rfl 3 (by decide) (hts (.fieldLink RX12 16 "SandPalaceModel" "partA" "[I") (by decide +kernel)) (fun _ h9 => h9) rfl dX12_isOf_249 ?_
      refine lv_iload_n hx hb dX12_isOf_252 rfl (lv_at hl 4 rfl) ?_
      obtain ⟨v28, i_v28, e_v28, h⟩ := aI_some h
      refine miald hx hb hK.1 hP 3 0 rfl rfl i_v28 e_v28 dX12_isOf_253 ?_
      refine lv_isub hx hb dX12_isOf_254 ?_
      refine lv_imul hx hb dX12_isOf_255 ?_
      refine lv_isub hx hb dX12_isOf_256 ?_
      obtain ⟨z29, e_z29, h⟩ := nm_some h
      refine tpi e_z29 ?_
      refine lv_istore (lv' := [(11, .int z29), (10, .int v22), (9, .int v19), (8, .int t0), (0, .ref (a 0)), (1, .int x1), (6, .int x6), (7, .int x7)]) hx hb dX12_isOf_257 hl (by decide) rfl (fun ls hl => ?_)
      refine lv_iconst (v := (2 : Int32)) hx hb dX12_isOf_259 (by decide) ?_
      refine lv_iload hx hb dX12_isOf_260 (lv_at hl 0 rfl) ?_
      obtain ⟨v30, hc_v30, h⟩ := bd_some h
      refine mcallS (va_runS (As := [.int z29]) (rest := [.int (2 : Int32)]) ⟨hx, hb, hml, hown, hts⟩ (kX12_size l z29 v30 hc_v30) (va_cwS 1 hts gX12_isOf_X12_size rfl rfl rfl (by decide +kernel) ⟨Nat.le_of_ble_eq_true rfl, Nat.le_of_ble_eq_true rfl⟩) p0_s rfl rfl hl.1 rfl (lv_room (Nat.le_of_ble_eq_true rfl)) dX12_isOf_262 ⟨Nat.zero_le _, Nat.zero_le _⟩) ?_
      refine lv_imul hx hb dX12_isOf_265 ?_
      refine lv_iload hx hb dX12_isOf_266 (lv_at hl 2 rfl) ?_
      refine lv_iload hx hb dX12_isOf_268 (lv_at hl 1 rfl) ?_
      refine lv_icmp_le (tgt := 278) hx hb dX12_isOf_270 (by decide) (fun c31 => ?_) (fun c31 => ?_)
      · have h := it_t c31 h
        refine lv_iload hx hb dX12_isOf_278 (lv_at hl 1 rfl) ?_
        exact wX12_isOf_J280 C hK hP r F v22 ((2 : Int32) * v30) ls (lv_sub hl [] rfl) h
      · have h := it_f c31 h
        refine lv_iload hx hb dX12_isOf_273 (lv_at hl 2 rfl) ?_
        refine lv_goto (tgt := 280) hx hb dX12_isOf_275 (by decide) ?_
        exact wX12_isOf_J280 C hK hP r F v19 ((2 : Int32) * v30) ls (lv_sub hl [] rfl) h
    · have h := it_n c16 h
      refine lv_iload hx hb dX12_isOf_171 (lv_at hl 0 rfl) ?_
      exact mretSZ hx hb hr hlk h z_t0 dX12_isOf_173
set_option maxHeartbeats 4000000 in
set_option maxRecDepth 100000 in
theorem wX12_isOf_J153 {p : Program} {l : Launch} {e : Env} {s : State} {m : MethodId} {args : Array Value} {below : List Frame} {meth : Method} {c : Code} (C : cxt p s m args meth c cX12_isOf 12 RX12 wsX12_isOf (some .boolean)) {D : va_G} {cs : Nat → ClassId} {a : Nat → Nat} (hK : KK D cs s) {σ : Nat → Nat → Int32} (hP : va_P D vwCl (mW a cs σ) s.heap) (r : Int32) (F : Nat) (x1 : Int32) (x6 : Int32) (x7 : Int32) (ls : Array Slot) (hl : lv_has ls 12 [(0, .ref (a 0)), (1, .int x1), (6, .int x6), (7, .int x7)]) (h : fX12_isOf_J153 F x1 x6 x7 σ = some r) : W p l e rmX12_isOf s m args below meth c s.heap [] 0 0 (MQ below (vp_Si (fun x => x = r ∧ (r = 0 ∨ r = 1))) args s 0 0 (fun _ => False)) (F0 m 153 ls []) := by
  obtain ⟨hx, hb, hml, hown, hts, hr, hlk⟩ := id C
  unfold fX12_isOf_J153 at h
  refine lv_iconst (v := (0 : Int32)) hx hb dX12_isOf_153 (by decide) ?_
  exact wX12_isOf_J154 C hK hP r F x1 x6 x7 (0 : Int32) (Or.inl rfl) ls (lv_sub hl [0, 1, 2, 3] rfl) h
set_option maxHeartbeats 4000000 in
set_option maxRecDepth 100000 in
theorem kX12_isOf (l : Launch) (D : va_G) (cs : Nat → ClassId) (a : Nat → Nat) (σ : Nat → Nat → Int32) (F : Nat) (x1 : Int32) (x2 : Int32) (r : Int32) (h : fX12_isOf F σ x1 x2 = some r) : Met l yX12_isOf wsX12_isOf rmX12_isOf (va_Pc [.ref (a 0), .int x1, .int x2] (pR D cs (mW a cs σ))) (vp_Si (fun x => x = r ∧ (r = 0 ∨ r = 1))) 0 0 (fun _ => False) := by
  refine Met.ofW (cc := cX12_isOf) (maxL := 12) (ret := (some .boolean)) (by decide) rfl ?_
  intro p e s m args below meth c s₁ B hml hv
  obtain ⟨rfl, hP, hK⟩ := hv
  have C : cxt p s m _ meth c cX12_isOf 12 RX12 wsX12_isOf (some .boolean) := ⟨B.exec, B.bytes, hml, findClass_of_methodNamed B.named, atoms_spec (ws := wsX12_isOf) B.pre, B.returns, B.notSynchronized⟩
  obtain ⟨hx, hb, -, hown, hts, hr, hlk⟩ := id C
  refine entryW [.ref (a 0), .int x1, .int x2] (n := 12) (Nat.le_of_ble_eq_true rfl) (fun ls hl => ?_)
  have hl : lv_has ls 12 [(0, .ref (a 0)), (1, .int x1), (2, .int x2)] := hl
  unfold fX12_isOf at h
  refine lv_iconst (v := (2 : Int32)) hx hb dX12_isOf_0 (by decide) ?_
  refine lv_iload_n hx hb dX12_isOf_1 rfl (lv_at hl 2 rfl) ?_
  refine lv_bipush (v := (16 : Int32)) hx hb dX12_isOf_2 (by decide) ?_
  refine lv_irem hx hb dX12_isOf_4 (by decide) ?_
  refine lv_imul hx hb dX12_isOf_5 ?_
  refine lv_bipush (v := (15 : Int32)) hx hb dX12_isOf_6 (by decide) ?_
  refine lv_isub hx hb dX12_isOf_8 ?_
  obtain ⟨z1, e_z1, h⟩ := nm_some h
  refine tpi e_z1 ?_
  refine lv_istore_n (lv' := [(3, .int z1), (0, .ref (a 0)), (1, .int x1), (2, .int x2)]) hx hb dX12_isOf_9 rfl hl (by decide) rfl (fun ls hl => ?_)
  refine lv_iconst (v := (2 : Int32)) hx hb dX12_isOf_10 (by decide) ?_
  refine lv_iload_n hx hb dX12_isOf_11 rfl (lv_at hl 3 rfl) ?_
  refine lv_bipush (v := (16 : Int32)) hx hb dX12_isOf_12 (by decide) ?_
  refine lv_idiv hx hb dX12_isOf_14 (by decide) ?_
  refine lv_imul hx hb dX12_isOf_15 ?_
  refine lv_bipush (v := (15 : Int32)) hx hb dX12_isOf_16 (by decide) ?_
  refine lv_isub hx hb dX12_isOf_18 ?_
  obtain ⟨z2, e_z2, h⟩ := nm_some h
  refine tpi e_z2 ?_
  refine lv_istore (lv' := [(4, .int z2), (3, .int z1), (0, .ref (a 0)), (1, .int x1), (2, .int x2)]) hx hb dX12_isOf_19 hl (by decide) rfl (fun ls hl => ?_)
  refine lv_aload_n hx hb dX12_isOf_21 rfl (lv_at hl 2 rfl) ?_
  refine va_get (D := D) (ci := 11) (v := .ref (a 1)) (C := RX12) (T := TX12) (N := 27) hx hb hts inX12_X12_isOf hown hK.1 hP 0 rfl rfl 1 (by decide) (hts (.fieldLink RX12 7 "SandPalaceModel" "kinds" "[I") (by decide +kernel)) (fun _ h9 => h9) rfl dX12_isOf_22 ?_
  refine lv_iload_n hx hb dX12_isOf_25 rfl (lv_at hl 3 rfl) ?_
  obtain ⟨v3, i_v3, e_v3, h⟩ := aI_some h
  refine miald hx hb hK.1 hP 1 0 rfl rfl i_v3 e_v3 dX12_isOf_26 ?_
  refine lv_if_ne (tgt := 54) hx hb dX12_isOf_27 (by decide) (fun c4 => ?_) (fun c4 => ?_)
  · have h := it_t c4 h
    refine lv_aload_n hx hb dX12_isOf_54 rfl (lv_at hl 2 rfl) ?_
    refine va_get (D := D) (ci := 11) (v := .ref (a 1)) (C := RX12) (T := TX12) (N := 27) hx hb hts inX12_X12_isOf hown hK.1 hP 0 rfl rfl 1 (by decide) (hts (.fieldLink RX12 7 "SandPalaceModel" "kinds" "[I") (by decide +kernel)) (fun _ h9 => h9) rfl dX12_isOf_55 ?_
    refine lv_iload_n hx hb dX12_isOf_58 rfl (lv_at hl 3 rfl) ?_
    obtain ⟨v5, i_v5, e_v5, h⟩ := aI_some h
    refine miald hx hb hK.1 hP 1 0 rfl rfl i_v5 e_v5 dX12_isOf_59 ?_
    refine lv_iconst (v := (1 : Int32)) hx hb dX12_isOf_60 (by decide) ?_
    refine lv_icmp_ne (tgt := 83) hx hb dX12_isOf_61 (by decide) (fun c6 => ?_) (fun c6 => ?_)
    · have h := it_t c6 h
      refine lv_iload_n hx hb dX12_isOf_83 rfl (lv_at hl 4 rfl) ?_
      obtain ⟨v7, hc_v7, h⟩ := bd_some h
      refine mcallS (va_runS (As := [.int x2]) (rest := []) ⟨hx, hb, hml, hown, hts⟩ (kX12_placeOf l F x2 v7 hc_v7) (va_cwS 1 hts gX12_isOf_X12_placeOf rfl rfl rfl (by decide +kernel) ⟨Nat.le_of_ble_eq_true rfl, Nat.le_of_ble_eq_true rfl⟩) p0_s rfl rfl hl.1 rfl (lv_room (Nat.le_of_ble_eq_true rfl)) dX12_isOf_84 ⟨Nat.zero_le _, Nat.zero_le _⟩) ?_
      refine lv_istore (lv' := [(5, .int v7), (4, .int z2), (3, .int z1), (0, .ref (a 0)), (1, .int x1), (2, .int x2)]) hx hb dX12_isOf_87 hl (by decide) rfl (fun ls hl => ?_)
      refine lv_iload hx hb dX12_isOf_89 (lv_at hl 0 rfl) ?_
      refine lv_bipush (v := (16 : Int32)) hx hb dX12_isOf_91 (by decide) ?_
      refine lv_irem hx hb dX12_isOf_93 (by decide) ?_
      refine lv_bipush (v := (8 : Int32)) hx hb dX12_isOf_94 (by decide) ?_
      refine lv_isub hx hb dX12_isOf_96 ?_
      obtain ⟨z8, e_z8, h⟩ := nm_some h
      refine tpi e_z8 ?_
      refine lv_istore (lv' := [(6, .int z8), (5, .int v7), (4, .int z2), (3, .int z1), (0, .ref (a 0)), (1, .int x1), (2, .int x2)]) hx hb dX12_isOf_97 hl (by decide) rfl (fun ls hl => ?_)
      refine lv_iload hx hb dX12_isOf_99 (lv_at hl 1 rfl) ?_
      refine lv_bipush (v := (16 : Int32)) hx hb dX12_isOf_101 (by decide) ?_
      refine lv_idiv hx hb dX12_isOf_103 (by decide) ?_
      refine lv_bipush (v := (8 : Int32)) hx hb dX12_isOf_104 (by decide) ?_
      refine lv_isub hx hb dX12_isOf_106 ?_
      obtain ⟨z9, e_z9, h⟩ := nm_some h
      refine tpi e_z9 ?_
      refine lv_istore (lv' := [(7, .int z9), (6, .int z8), (5, .int v7), (4, .int z2), (3, .int z1), (0, .ref (a 0)), (1, .int x1), (2, .int x2)]) hx hb dX12_isOf_107 hl (by decide) rfl (fun ls hl => ?_)
      refine lv_iload hx hb dX12_isOf_109 (lv_at hl 1 rfl) ?_
      refine lv_aload_n hx hb dX12_isOf_111 rfl (lv_at hl 5 rfl) ?_
      refine va_get (D := D) (ci := 11) (v := .ref (a 3)) (C := RX12) (T := TX12) (N := 27) hx hb hts inX12_X12_isOf hown hK.1 hP 0 rfl rfl 3 (by decide) (hts (.fieldLink RX12 16 "SandPalaceModel" "partA" "[I") (by decide +kernel)) (fun _ h9 => h9) rfl dX12_isOf_112 ?_
      refine lv_iload_n hx hb dX12_isOf_115 rfl (lv_at hl 6 rfl) ?_
      obtain ⟨v10, i_v10, e_v10, h⟩ := aI_some h
      refine miald hx hb hK.1 hP 3 0 rfl rfl i_v10 e_v10 dX12_isOf_116 ?_
      refine lv_aload_n hx hb dX12_isOf_117 rfl (lv_at hl 5 rfl) ?_
      refine va_get (D := D) (ci := 11) (v := .ref (a 5)) (C := RX12) (T := TX12) (N := 27) hx hb hts inX12_X12_isOf hown hK.1 hP 0 rfl rfl 5 (by decide) (hts (.fieldLink RX12 22 "SandPalaceModel" "partC" "[I") (by decide +kernel)) (fun _ h9 => h9) rfl dX12_isOf_118 ?_
      refine lv_iload_n hx hb dX12_isOf_121 rfl (lv_at hl 6 rfl) ?_
      obtain ⟨v11, i_v11, e_v11, h⟩ := aI_some h
      refine miald hx hb hK.1 hP 5 0 rfl rfl i_v11 e_v11 dX12_isOf_122 ?_
      obtain ⟨v12, hc_v12, h⟩ := bd_some h
      refine mcallSZ (va_runS (As := [.int z8, .int v10, .int v11]) (rest := []) ⟨hx, hb, hml, hown, hts⟩ (kX12_isBetween l z8 v10 v11 v12 hc_v12) (va_cwS 3 hts gX12_isOf_X12_isBetween rfl rfl rfl (by decide +kernel) ⟨Nat.le_of_ble_eq_true rfl, Nat.le_of_ble_eq_true rfl⟩) p0_s rfl rfl hl.1 rfl (lv_room (Nat.le_of_ble_eq_true rfl)) dX12_isOf_123 ⟨Nat.zero_le _, Nat.zero_le _⟩) (fun z_v12 => ?_)
      refine lv_if_eq (tgt := 153) hx hb dX12_isOf_126 (by decide) (fun c13 => ?_) (fun c13 => ?_)
      · have h := it_t c13 h
        exact wX12_isOf_J153 C hK hP r F x1 z8 z9 ls (lv_sub hl [5, 6, 1, 0] rfl) h
      · have h := it_f c13 h
        refine lv_iload hx hb dX12_isOf_129 (lv_at hl 0 rfl) ?_
        refine lv_aload_n hx hb dX12_isOf_131 rfl (lv_at hl 5 rfl) ?_
        refine va_get (D := D) (ci := 11) (v := .ref (a 4)) (C := RX12) (T := TX12) (N := 27) hx hb hts inX12_X12_isOf hown hK.1 hP 0 rfl rfl 4 (by decide) (hts (.fieldLink RX12 19 "SandPalaceModel" "partB" "[I") (by decide +kernel)) (fun _ h9 => h9) rfl dX12_isOf_132 ?_
        refine lv_iload_n hx hb dX12_isOf_135 rfl (lv_at hl 6 rfl) ?_
        obtain ⟨v14, i_v14, e_v14, h⟩ := aI_some h
        refine miald hx hb hK.1 hP 4 0 rfl rfl i_v14 e_v14 dX12_isOf_136 ?_
        refine lv_aload_n hx hb dX12_isOf_137 rfl (lv_at hl 5 rfl) ?_
        refine va_get (D := D) (ci := 11) (v := .ref (a 6)) (C := RX12) (T := TX12) (N := 27) hx hb hts inX12_X12_isOf hown hK.1 hP 0 rfl rfl 6 (by decide) (hts (.fieldLink RX12 25 "SandPalaceModel" "partD" "[I") (by decide +kernel)) (fun _ h9 => h9) rfl dX12_isOf_138 ?_
        refine lv_iload_n hx hb dX12_isOf_141 rfl (lv_at hl 6 rfl) ?_
        obtain ⟨v15, i_v15, e_v15, h⟩ := aI_some h
        refine miald hx hb hK.1 hP 6 0 rfl rfl i_v15 e_v15 dX12_isOf_142 ?_
        obtain ⟨v16, hc_v16, h⟩ := bd_some h
        refine mcallSZ (va_runS (As := [.int z9, .int v14, .int v15]) (rest := []) ⟨hx, hb, hml, hown, hts⟩ (kX12_isBetween l z9 v14 v15 v16 hc_v16) (va_cwS 3 hts gX12_isOf_X12_isBetween rfl rfl rfl (by decide +kernel) ⟨Nat.le_of_ble_eq_true rfl, Nat.le_of_ble_eq_true rfl⟩) p0_s rfl rfl hl.1 rfl (lv_room (Nat.le_of_ble_eq_true rfl)) dX12_isOf_143 ⟨Nat.zero_le _, Nat.zero_le _⟩) (fun z_v16 => ?_)
        refine lv_if_eq (tgt := 153) hx hb dX12_isOf_146 (by decide) (fun c17 => ?_) (fun c17 => ?_)
        · have h := it_t c17 h
          exact wX12_isOf_J153 C hK hP r F x1 z8 z9 ls (lv_sub hl [5, 6, 1, 0] rfl) h
        · have h := it_f c17 h
          refine lv_iconst (v := (1 : Int32)) hx hb dX12_isOf_149 (by decide) ?_
          refine lv_goto (tgt := 154) hx hb dX12_isOf_150 (by decide) ?_
          exact wX12_isOf_J154 C hK hP r F x1 z8 z9 (1 : Int32) (Or.inr rfl) ls (lv_sub hl [5, 6, 1, 0] rfl) h
    · have h := it_n c6 h
      refine lv_iload_n hx hb dX12_isOf_64 rfl (lv_at hl 4 rfl) ?_
      obtain ⟨v18, hc_v18, h⟩ := bd_some h
      refine mcallS (va_runS (As := [.int x2]) (rest := []) ⟨hx, hb, hml, hown, hts⟩ (kX12_rimOf l x2 v18 hc_v18) (va_cwS 1 hts gX12_isOf_X12_rimOf rfl rfl rfl (by decide +kernel) ⟨Nat.le_of_ble_eq_true rfl, Nat.le_of_ble_eq_true rfl⟩) p0_s rfl rfl hl.1 rfl (lv_room (Nat.le_of_ble_eq_true rfl)) dX12_isOf_65 ⟨Nat.zero_le _, Nat.zero_le _⟩) ?_
      refine lv_aload_n hx hb dX12_isOf_68 rfl (lv_at hl 2 rfl) ?_
      refine va_get (D := D) (ci := 11) (v := .ref (a 3)) (C := RX12) (T := TX12) (N := 27) hx hb hts inX12_X12_isOf hown hK.1 hP 0 rfl rfl 3 (by decide) (hts (.fieldLink RX12 16 "SandPalaceModel" "partA" "[I") (by decide +kernel)) (fun _ h9 => h9) rfl dX12_isOf_69 ?_
      refine lv_iload_n hx hb dX12_isOf_72 rfl (lv_at hl 3 rfl) ?_
      obtain ⟨v19, i_v19, e_v19, h⟩ := aI_some h
      refine miald hx hb hK.1 hP 3 0 rfl rfl i_v19 e_v19 dX12_isOf_73 ?_
      refine lv_icmp_ne (tgt := 81) hx hb dX12_isOf_74 (by decide) (fun c20 => ?_) (fun c20 => ?_)
      · have h := it_t c20 h
        refine lv_iconst (v := (0 : Int32)) hx hb dX12_isOf_81 (by decide) ?_
        exact mretSZ hx hb hr hlk h (Or.inl rfl) dX12_isOf_82
      · have h := it_n c20 h
        refine lv_iconst (v := (1 : Int32)) hx hb dX12_isOf_77 (by decide) ?_
        refine lv_goto (tgt := 82) hx hb dX12_isOf_78 (by decide) ?_
        exact mretSZ hx hb hr hlk h (Or.inr rfl) dX12_isOf_82
  · have h := it_n c4 h
    refine lv_iload_n hx hb dX12_isOf_30 rfl (lv_at hl 1 rfl) ?_
    refine lv_iload_n hx hb dX12_isOf_31 rfl (lv_at hl 1 rfl) ?_
    refine lv_imul hx hb dX12_isOf_32 ?_
    refine lv_iload hx hb dX12_isOf_33 (lv_at hl 0 rfl) ?_
    refine lv_iload hx hb dX12_isOf_35 (lv_at hl 0 rfl) ?_
    refine lv_imul hx hb dX12_isOf_37 ?_
    refine lv_iadd hx hb dX12_isOf_38 ?_
    refine lv_aload_n hx hb dX12_isOf_39 rfl (lv_at hl 2 rfl) ?_
    refine va_get (D := D) (ci := 11) (v := .ref (a 3)) (C := RX12) (T := TX12) (N := 27) hx hb hts inX12_X12_isOf hown hK.1 hP 0 rfl rfl 3 (by decide) (hts (.fieldLink RX12 16 "SandPalaceModel" "partA" "[I") (by decide +kernel)) (fun _ h9 => h9) rfl dX12_isOf_40 ?_
    refine lv_iload_n hx hb dX12_isOf_43 rfl (lv_at hl 3 rfl) ?_
    obtain ⟨v21, i_v21, e_v21, h⟩ := aI_some h
    refine miald hx hb hK.1 hP 3 0 rfl rfl i_v21 e_v21 dX12_isOf_44 ?_
    refine lv_icmp_gt (tgt := 52) hx hb dX12_isOf_45 (by decide) (fun c22 => ?_) (fun c22 => ?_)
    · have h := it_t c22 h
      refine lv_iconst (v := (0 : Int32)) hx hb dX12_isOf_52 (by decide) ?_
      exact mretSZ hx hb hr hlk h (Or.inl rfl) dX12_isOf_53
    · have h := it_f c22 h
      refine lv_iconst (v := (1 : Int32)) hx hb dX12_isOf_48 (by decide) ?_
      refine lv_goto (tgt := 53) hx hb dX12_isOf_49 (by decide) ?_
      exact mretSZ hx hb hr hlk h (Or.inr rfl) dX12_isOf_53
def fX12_add_J200 (F : Nat) (kb : Int32 → (Nat → Nat → Int32) → Option (Int32 × (Nat → Nat → Int32))) (x8 : Int32) (x9 : Int32) (t0 : Int32) (t1 : Int32) (σ : Nat → Nat → Int32) : Option (Int32 × (Nat → Nat → Int32)) :=
  aS 10 t1 (nm (sg σ 10 (upd (σ 10) t1.toNatClampNeg t0)) fun σ33 => kb (x9 + (1 : Int32)) σ33)
def fX12_add_J193 (F : Nat) (kb : Int32 → (Nat → Nat → Int32) → Option (Int32 × (Nat → Nat → Int32))) (x8 : Int32) (x9 : Int32) (t0 : Int32) (σ : Nat → Nat → Int32) : Option (Int32 × (Nat → Nat → Int32)) :=
  aI (σ 10) 10 x8 fun v31 => fX12_add_J200 F kb x8 x9 v31 t0 σ
def fX12_add_J157 (F : Nat) (kb : Int32 → (Nat → Nat → Int32) → Option (Int32 × (Nat → Nat → Int32))) (x8 : Int32) (x9 : Int32) (x10 : Int32) (t0 : Int32) (t1 : Int32) (t2 : Int32) (σ : Nat → Nat → Int32) : Option (Int32 × (Nat → Nat → Int32)) :=
  aS 10 t2 (nm (sg σ 9 (upd (σ 9) t2.toNatClampNeg (t1 + t0))) fun σ29 => if x10 = 0 then (fX12_add_J193 F kb x8 x9 x8 σ29) else (bd (fX12_rimOf x9) fun v31 => aI (σ29 10) 10 x8 fun v32 => if v31 ≤ v32 then (fX12_add_J193 F kb x8 x9 x8 σ29) else (bd (fX12_rimOf x9) fun v34 => fX12_add_J200 F kb x8 x9 v34 x8 σ29)))
def fX12_add_L105 (F : Nat) (x8 : Int32) (kx : (Nat → Nat → Int32) → Option (Int32 × (Nat → Nat → Int32))) : Nat → Int32 → (Nat → Nat → Int32) → Option (Int32 × (Nat → Nat → Int32))
  | 0, _, _ => none
  | n+1, x9, σ =>
    nb ((fun x9 σ => fX12_add_L105 F x8 kx n x9 σ)) fun kb =>
    if (256 : Int32) ≤ x9 then (kx σ) else (bd (fX12_isOf F σ x8 x9) fun v23 => aS 2560 (((256 : Int32) * x8) + x9) (nm (sg σ 8 (upd (σ 8) (((256 : Int32) * x8) + x9).toNatClampNeg (vp_nar .boolean v23))) fun σ25 => aI (σ25 9) 10 x8 fun v26 => if v23 = 0 then (fX12_add_J157 F kb x8 x9 v23 (0 : Int32) v26 x8 σ25) else (fX12_add_J157 F kb x8 x9 v23 (1 : Int32) v26 x8 σ25)))
def fX12_add (F : Nat) (σ : Nat → Nat → Int32) (x1 : Int32) (x2 : Int32) (x3 : Int32) (x4 : Int32) (x5 : Int32) (x6 : Int32) (x7 : Int32) : Option (Int32 × (Nat → Nat → Int32)) :=
  if ¬ (σ 0 0) = (10 : Int32) then (aS 10 (σ 0 0) (nm (sg σ 1 (upd (σ 1) (σ 0 0).toNatClampNeg x1)) fun σ3 => aS 10 (σ 0 0) (nm (sg σ3 2 (upd (σ3 2) (σ 0 0).toNatClampNeg x2)) fun σ5 => aS 10 (σ 0 0) (nm (sg σ5 3 (upd (σ5 3) (σ 0 0).toNatClampNeg x3)) fun σ7 => aS 10 (σ 0 0) (nm (sg σ7 4 (upd (σ7 4) (σ 0 0).toNatClampNeg x4)) fun σ9 => aS 10 (σ 0 0) (nm (sg σ9 5 (upd (σ9 5) (σ 0 0).toNatClampNeg x5)) fun σ11 => aS 10 (σ 0 0) (nm (sg σ11 6 (upd (σ11 6) (σ 0 0).toNatClampNeg x6)) fun σ13 => aS 10 (σ 0 0) (nm (sg σ13 7 (upd (σ13 7) (σ 0 0).toNatClampNeg x7)) fun σ15 => aS 10 (σ 0 0) (nm (sg σ15 11 (upd (σ15 11) (σ 0 0).toNatClampNeg (0 : Int32))) fun σ17 => aS 10 (σ 0 0) (nm (sg σ17 9 (upd (σ17 9) (σ 0 0).toNatClampNeg (0 : Int32))) fun σ19 => aS 10 (σ 0 0) (nm (sg σ19 10 (upd (σ19 10) (σ 0 0).toNatClampNeg (0 : Int32))) fun σ21 => fX12_add_L105 F (σ 0 0) (fun σ22 => nm (sg σ22 0 (fun _ => (σ22 0 0) + (1 : Int32))) fun σ23 => nm (sg σ23 13 (fun _ => (0 : Int32))) fun σ24 => some (σ 0 0, σ24)) F (0 : Int32) σ21))))))))))) else (some (((-3) : Int32), σ))
abbrev rmX12_add : Room := { frames := 3, cells := 0, slots := 0, locals := 78 }
theorem inX12_X12_add : ∀ w ∈ wsX120, w ∈ wsX12_add := by intro w h; simp only [wsX12_add, List.mem_cons, List.mem_append]; simp only [h, true_or, or_true]
set_option maxHeartbeats 4000000 in
set_option maxRecDepth 100000 in
theorem wX12_add_J200 {p : Program} {l : Launch} {e : Env} {s : State} {m : MethodId} {args : Array Value} {below : List Frame} {meth : Method} {c : Code} (C : cxt p s m args meth c cX12_add 11 RX12 wsX12_add (some .int)) {D : va_G} {cs : Nat → ClassId} {a : Nat → Nat} (hK : KK D cs s) {A : Nat → Prop} (hA : ∀ q, s.heap.size ≤ q → A q) (r : Int32) (u9 : Nat → Nat → Int32) (F : Nat) (kb : Int32 → (Nat → Nat → Int32) → Option (Int32 × (Nat → Nat → Int32))) (x8 : Int32) (x9 : Int32) (t0 : Int32) (t1 : Int32) (hkb : ∀ (x9 : Int32) (σ : Nat → Nat → Int32) (H : Heap) (locs : List Loc) (ls : Array Slot), va_P D vwCl (mW a cs σ) H → va_D A (mW a cs σ) → va_S A s.heap H locs → lv_has ls 11 [(0, .ref (a 0)), (8, .int x8), (9, .int x9)] → kb x9 σ = some (r, u9) → W p l e rmX12_add s m args below meth c H locs 0 0 (MQ below (va_Qi (fun x y => x = r ∧ y = u9) (qB D (mW a cs) A) A) args s 0 0 A) (F0 m 105 ls [])) (σ : Nat → Nat → Int32) (H : Heap) (locs : List Loc) (ls : Array Slot) (hP : va_P D vwCl (mW a cs σ) H) (hD : va_D A (mW a cs σ)) (hS : va_S A s.heap H locs) (hl : lv_has ls 11 [(0, .ref (a 0)), (8, .int x8), (9, .int x9)]) (h : fX12_add_J200 F kb x8 x9 t0 t1 σ = some (r, u9)) : W p l e rmX12_add s m args below meth c H locs 0 0 (MQ below (va_Qi (fun x y => x = r ∧ y = u9) (qB D (mW a cs) A) A) args s 0 0 A) (F0 m 200 ls [.int t0, .int t1, .ref (a 10)]) := by
  obtain ⟨hx, hb, hml, hown, hts, hr, hlk⟩ := id C
  unfold fX12_add_J200 at h
  obtain ⟨i32, h⟩ := aS_some h
  refine va_iast hx hb hK.1 hP hD hS 10 0 rfl rfl i32 dX12_add_200 (fun H locs hP hD hS => ?_)
  obtain ⟨σ33, e_σ33, h⟩ := nm_some h
  have hP : va_P D vwCl (mW a cs σ33) H := by rw [← e_σ33]; exact hP
  have hD : va_D A (mW a cs σ33) := by rw [← e_σ33]; exact hD
  refine lv_iinc (v := x9 + (1 : Int32)) (lv' := [(9, .int (x9 + (1 : Int32))), (0, .ref (a 0)), (8, .int x8)]) hx hb dX12_add_201 hl (k := 2) rfl rfl (by decide) rfl (fun ls hl => ?_)
  refine lv_goto (tgt := 105) hx hb dX12_add_204 (by decide) ?_
  exact hkb (x9 + (1 : Int32)) σ33 _ _ ls hP hD hS (lv_sub hl [1, 2, 0] rfl) h
set_option maxHeartbeats 4000000 in
set_option maxRecDepth 100000 in
theorem wX12_add_J193 {p : Program} {l : Launch} {e : Env} {s : State} {m : MethodId} {args : Array Value} {below : List Frame} {meth : Method} {c : Code} (C : cxt p s m args meth c cX12_add 11 RX12 wsX12_add (some .int)) {D : va_G} {cs : Nat → ClassId} {a : Nat → Nat} (hK : KK D cs s) {A : Nat → Prop} (hA : ∀ q, s.heap.size ≤ q → A q) (r : Int32) (u9 : Nat → Nat → Int32) (F : Nat) (kb : Int32 → (Nat → Nat → Int32) → Option (Int32 × (Nat → Nat → Int32))) (x8 : Int32) (x9 : Int32) (t0 : Int32) (hkb : ∀ (x9 : Int32) (σ : Nat → Nat → Int32) (H : Heap) (locs : List Loc) (ls : Array Slot), va_P D vwCl (mW a cs σ) H → va_D A (mW a cs σ) → va_S A s.heap H locs → lv_has ls 11 [(0, .ref (a 0)), (8, .int x8), (9, .int x9)] → kb x9 σ = some (r, u9) → W p l e rmX12_add s m args below meth c H locs 0 0 (MQ below (va_Qi (fun x y => x = r ∧ y = u9) (qB D (mW a cs) A) A) args s 0 0 A) (F0 m 105 ls [])) (σ : Nat → Nat → Int32) (H : Heap) (locs : List Loc) (ls : Array Slot) (hP : va_P D vwCl (mW a cs σ) H) (hD : va_D A (mW a cs σ)) (hS : va_S A s.heap H locs) (hl : lv_has ls 11 [(0, .ref (a 0)), (8, .int x8), (9, .int x9)]) (h : fX12_add_J193 F kb x8 x9 t0 σ = some (r, u9)) : W p l e rmX12_add s m args below meth c H locs 0 0 (MQ below (va_Qi (fun x y => x = r ∧ y = u9) (qB D (mW a cs) A) A) args s 0 0 A) (F0 m 193 ls [.int t0, .ref (a 10)]) := by
  obtain ⟨hx, hb, hml, hown, hts, hr, hlk⟩ := id C
  unfold fX12_add_J193 at h
  refine lv_aload_n hx hb dX12_add_193 rfl (lv_at hl 0 rfl) ?_
  refine va_get (D := D) (ci := 11) (v := .ref (a 10)) (C := RX12) (T := TX12) (N := 27) hx hb hts inX12_X12_add hown hK.1 hP 0 rfl rfl 10 (by decide) (hts (.fieldLink RX12 38 "SandPalaceModel" "reaches" "[I") (by decide +kernel)) (fun _ h9 => h9) rfl dX12_add_194 ?_
  refine lv_iload hx hb dX12_add_197 (lv_at hl 1 rfl) ?_
  obtain ⟨v31, i_v31, e_v31, h⟩ := aI_some h
  refine miald hx hb hK.1 hP 10 0 rfl rfl i_v31 e_v31 dX12_add_199 ?_
  exact wX12_add_J200 C hK hA r u9 F kb x8 x9 v31 t0 hkb σ _ _ ls hP hD hS (lv_sub hl [0, 1, 2] rfl) h
set_option maxHeartbeats 4000000 in
set_option maxRecDepth 100000 in
theorem wX12_add_J157 {p : Program} {l : Launch} {e : Env} {s : State} {m : MethodId} {args : Array Value} {below : List Frame} {meth : Method} {c : Code} (C : cxt p s m args meth c cX12_add 11 RX12 wsX12_add (some .int)) {D : va_G} {cs : Nat → ClassId} {a : Nat → Nat} (hK : KK D cs s) {A : Nat → Prop} (hA : ∀ q, s.heap.size ≤ q → A q) (r : Int32) (u9 : Nat → Nat → Int32) (F : Nat) (kb : Int32 → (Nat → Nat → Int32) → Option (Int32 × (Nat → Nat → Int32))) (x8 : Int32) (x9 : Int32) (x10 : Int32) (t0 : Int32) (t1 : Int32) (t2 : Int32) (hkb : ∀ (x9 : Int32) (σ : Nat → Nat → Int32) (H : Heap) (locs : List Loc) (ls : Array Slot), va_P D vwCl (mW a cs σ) H → va_D A (mW a cs σ) → va_S A s.heap H locs → lv_has ls 11 [(0, .ref (a 0)), (8, .int x8), (9, .int x9)] → kb x9 σ = some (r, u9) → W p l e rmX12_add s m args below meth c H locs 0 0 (MQ below (va_Qi (fun x y => x = r ∧ y = u9) (qB D (mW a cs) A) A) args s 0 0 A) (F0 m 105 ls [])) (σ : Nat → Nat → Int32) (H : Heap) (locs : List Loc) (ls : Array Slot) (hP : va_P D vwCl (mW a cs σ) H) (hD : va_D A (mW a cs σ)) (hS : va_S A s.heap H locs) (hl : lv_has ls 11 [(0, .ref (a 0)), (8, .int x8), (9, .int x9), (10, .int x10)]) (h : fX12_add_J157 F kb x8 x9 x10 t0 t1 t2 σ = some (r, u9)) : W p l e rmX12_add s m args below meth c H locs 0 0 (MQ below (va_Qi (fun x y => x = r ∧ y = u9) (qB D (mW a cs) A) A) args s 0 0 A) (F0 m 157 ls [.int t0, .int t1, .int t2, .ref (a 9)]) := by
  obtain ⟨hx, hb, hml, hown, hts, hr, hlk⟩ := id C
  unfold fX12_add_J157 at h
  refine lv_iadd hx hb dX12_add_157 ?_
  obtain ⟨i28, h⟩ := aS_some h
  refine va_iast hx hb hK.1 hP hD hS 9 0 rfl rfl i28 dX12_add_158 (fun H locs hP hD hS => ?_)
  obtain ⟨σ29, e_σ29, h⟩ := nm_some h
  have hP : va_P D vwCl (mW a cs σ29) H := by rw [← e_σ29]; exact hP
  have hD : va_D A (mW a cs σ29) := by rw [← e_σ29]; exact hD
  refine lv_aload_n hx hb dX12_add_159 rfl (lv_at hl 0 rfl) ?_
  refine va_get (D := D) (ci := 11) (v := .ref (a 10)) (C := RX12) (T := TX12) (N := 27) hx hb hts inX12_X12_add hown hK.1 hP 0 rfl rfl 10 (by decide) (hts (.fieldLink RX12 38 "SandPalaceModel" "reaches" "[I") (by decide +kernel)) (fun _ h9 => h9) rfl dX12_add_160 ?_
  refine lv_iload hx hb dX12_add_163 (lv_at hl 1 rfl) ?_
  refine lv_iload hx hb dX12_add_165 (lv_at hl 3 rfl) ?_
  refine lv_if_eq (tgt := 193) hx hb dX12_add_167 (by decide) (fun c30 => ?_) (fun c30 => ?_)
  · have h := it_t c30 h
    exact wX12_add_J193 C hK hA r u9 F kb x8 x9 x8 hkb σ29 _ _ ls hP hD hS (lv_sub hl [0, 1, 2] rfl) h
  · have h := it_f c30 h
    refine lv_iload hx hb dX12_add_170 (lv_at hl 2 rfl) ?_
    obtain ⟨v31, hc_v31, h⟩ := bd_some h
    refine mcallS (va_runS (As := [.int x9]) (rest := [.int x8, .ref (a 10)]) ⟨hx, hb, hml, hown, hts⟩ (kX12_rimOf l x9 v31 hc_v31) (va_cwS 1 hts gX12_add_X12_rimOf rfl rfl rfl (by decide +kernel) ⟨Nat.le_of_ble_eq_true rfl, Nat.le_of_ble_eq_true rfl⟩) p0_s rfl rfl hl.1 rfl (lv_room (Nat.le_of_ble_eq_true rfl)) dX12_add_172 ⟨Nat.zero_le _, Nat.zero_le _⟩) ?_
    refine lv_aload_n hx hb dX12_add_175 rfl (lv_at hl 0 rfl) ?_
    refine va_get (D := D) (ci := 11) (v := .ref (a 10)) (C := RX12) (T := TX12) (N := 27) hx hb hts inX12_X12_add hown hK.1 hP 0 rfl rfl 10 (by decide) (hts (.fieldLink RX12 38 "SandPalaceModel" "reaches" "[I") (by decide +kernel)) (fun _ h9 => h9) rfl dX12_add_176 ?_
    refine lv_iload hx hb dX12_add_179 (lv_at hl 1 rfl) ?_
    obtain ⟨v32, i_v32, e_v32, h⟩ := aI_some h
    refine miald hx hb hK.1 hP 10 0 rfl rfl i_v32 e_v32 dX12_add_181 ?_
    refine lv_icmp_le (tgt := 193) hx hb dX12_add_182 (by decide) (fun c33 => ?_) (fun c33 => ?_)
    · have h := it_t c33 h
      exact wX12_add_J193 C hK hA r u9 F kb x8 x9 x8 hkb σ29 _ _ ls hP hD hS (lv_sub hl [0, 1, 2] rfl) h
    · have h := it_f c33 h
      refine lv_iload hx hb dX12_add_185 (lv_at hl 2 rfl) ?_
      obtain ⟨v34, hc_v34, h⟩ := bd_some h
      refine mcallS (va_runS (As := [.int x9]) (rest := [.int x8, .ref (a 10)]) ⟨hx, hb, hml, hown, hts⟩ (kX12_rimOf l x9 v34 hc_v34) (va_cwS 1 hts gX12_add_X12_rimOf rfl rfl rfl (by decide +kernel) ⟨Nat.le_of_ble_eq_true rfl, Nat.le_of_ble_eq_true rfl⟩) p0_s rfl rfl hl.1 rfl (lv_room (Nat.le_of_ble_eq_true rfl)) dX12_add_187 ⟨Nat.zero_le _, Nat.zero_le _⟩) ?_
      refine lv_goto (tgt := 200) hx hb dX12_add_190 (by decide) ?_
      exact wX12_add_J200 C hK hA r u9 F kb x8 x9 v34 x8 hkb σ29 _ _ ls hP hD hS (lv_sub hl [0, 1, 2] rfl) h
set_option maxHeartbeats 4000000 in
set_option maxRecDepth 100000 in
theorem wX12_add_L105 {p : Program} {l : Launch} {e : Env} {s : State} {m : MethodId} {args : Array Value} {below : List Frame} {meth : Method} {c : Code} (C : cxt p s m args meth c cX12_add 11 RX12 wsX12_add (some .int)) {D : va_G} {cs : Nat → ClassId} {a : Nat → Nat} (hK : KK D cs s) {A : Nat → Prop} (hA : ∀ q, s.heap.size ≤ q → A q) (r : Int32) (u9 : Nat → Nat → Int32) (F : Nat) (x8 : Int32) (kx : (Nat → Nat → Int32) → Option (Int32 × (Nat → Nat → Int32))) (hkx : ∀ (σ : Nat → Nat → Int32) (H : Heap) (locs : List Loc) (ls : Array Slot), va_P D vwCl (mW a cs σ) H → va_D A (mW a cs σ) → va_S A s.heap H locs → lv_has ls 11 [(0, .ref (a 0)), (8, .int x8)] → kx σ = some (r, u9) → W p l e rmX12_add s m args below meth c H locs 0 0 (MQ below (va_Qi (fun x y => x = r ∧ y = u9) (qB D (mW a cs) A) A) args s 0 0 A) (F0 m 207 ls [])) : ∀ (n : Nat) (x9 : Int32) (σ : Nat → Nat → Int32) (H : Heap) (locs : List Loc) (ls : Array Slot), va_P D vwCl (mW a cs σ) H → va_D A (mW a cs σ) → va_S A s.heap H locs → lv_has ls 11 [(0, .ref (a 0)), (8, .int x8), (9, .int x9)] → fX12_add_L105 F x8 kx n x9 σ = some (r, u9) → W p l e rmX12_add s m args below meth c H locs 0 0 (MQ below (va_Qi (fun x y => x = r ∧ y = u9) (qB D (mW a cs) A) A) args s 0 0 A) (F0 m 105 ls []) := by
  obtain ⟨hx, hb, hml, hown, hts, hr, hlk⟩ := id C
  intro n
  induction n with
  | zero =>
    intros
    rename_i h
    cases h
  | succ n ih =>
    intro x9 σ H locs ls hP hD hS hl h
    rw [fX12_add_L105] at h
    obtain ⟨kb, hkb, h⟩ := nb_some (P := fun (kb : Int32 → (Nat → Nat → Int32) → Option (Int32 × (Nat → Nat → Int32))) => ∀ (x9 : Int32) (σ : Nat → Nat → Int32) (H : Heap) (locs : List Loc) (ls : Array Slot), va_P D vwCl (mW a cs σ) H → va_D A (mW a cs σ) → va_S A s.heap H locs → lv_has ls 11 [(0, .ref (a 0)), (8, .int x8), (9, .int x9)] → kb x9 σ = some (r, u9) → W p l e rmX12_add s m args below meth c H locs 0 0 (MQ below (va_Qi (fun x y => x = r ∧ y = u9) (qB D (mW a cs) A) A) args s 0 0 A) (F0 m 105 ls [])) h ih
    refine lv_iload hx hb dX12_add_105 (lv_at hl 2 rfl) ?_
    refine lv_sipush (v := (256 : Int32)) hx hb dX12_add_107 (by decide) ?_
    refine lv_icmp_ge (tgt := 207) hx hb dX12_add_110 (by decide) (fun c22 => ?_) (fun c22 => ?_)
    · have h := it_t c22 h
      exact hkx σ _ _ ls hP hD hS (lv_sub hl [0, 1] rfl) h
    · have h := it_f c22 h
      refine lv_aload_n hx hb dX12_add_113 rfl (lv_at hl 0 rfl) ?_
      refine lv_iload hx hb dX12_add_114 (lv_at hl 1 rfl) ?_
      refine lv_iload hx hb dX12_add_116 (lv_at hl 2 rfl) ?_
      obtain ⟨v23, hc_v23, h⟩ := bd_some h
      refine mcallSZ (va_runV (As := [.int x8, .int x9]) (rest := []) ⟨hx, hb, hml, hown, hts⟩ (kX12_isOf l D cs a σ F x8 x9 v23 hc_v23) (cwV 2 hts gX12_add_X12_isOf rfl rfl rfl (by decide +kernel) ⟨Nat.le_of_ble_eq_true rfl, Nat.le_of_ble_eq_true rfl⟩) (pR_v hP hK (va_recv hK.1 hP (ci := 11) (q0 := 0) rfl rfl)) rfl rfl hl.1 rfl (lv_room (Nat.le_of_ble_eq_true rfl)) dX12_add_118 ⟨Nat.zero_le _, Nat.zero_le _⟩) (fun z_v23 => ?_)
      refine lv_istore (lv' := [(10, .int v23), (0, .ref (a 0)), (8, .int x8), (9, .int x9)]) hx hb dX12_add_121 hl (by decide) rfl (fun ls hl => ?_)
      refine lv_aload_n hx hb dX12_add_123 rfl (lv_at hl 1 rfl) ?_
      refine va_get (D := D) (ci := 11) (v := .ref (a 8)) (C := RX12) (T := TX12) (N := 27) hx hb hts inX12_X12_add hown hK.1 hP 0 rfl rfl 8 (by decide) (hts (.fieldLink RX12 31 "SandPalaceModel" "has" "[Z") (by decide +kernel)) (fun _ h9 => h9) rfl dX12_add_124 ?_
      refine lv_sipush (v := (256 : Int32)) hx hb dX12_add_127 (by decide) ?_
      refine lv_iload hx hb dX12_add_130 (lv_at hl 2 rfl) ?_
      refine lv_imul hx hb dX12_add_132 ?_
      refine lv_iload hx hb dX12_add_133 (lv_at hl 3 rfl) ?_
      refine lv_iadd hx hb dX12_add_135 ?_
      refine lv_iload hx hb dX12_add_136 (lv_at hl 0 rfl) ?_
      obtain ⟨i24, h⟩ := aS_some h
      refine va_zast hx hb hK.1 hP hD hS 8 1 rfl rfl i24 dX12_add_138 (fun H locs hP hD hS => ?_)
      obtain ⟨σ25, e_σ25, h⟩ := nm_some h
      have hP : va_P D vwCl (mW a cs σ25) H := by rw [← e_σ25]; exact hP
      have hD : va_D A (mW a cs σ25) := by rw [← e_σ25]; exact hD
      refine lv_aload_n hx hb dX12_add_139 rfl (lv_at hl 1 rfl) ?_
      refine va_get (D := D) (ci := 11) (v := .ref (a 9)) (C := RX12) (T := TX12) (N := 27) hx hb hts inX12_X12_add hown hK.1 hP 0 rfl rfl 9 (by decide) (hts (.fieldLink RX12 35 "SandPalaceModel" "sizes" "[I") (by decide +kernel)) (fun _ h9 => h9) rfl dX12_add_140 ?_
      refine lv_iload hx hb dX12_add_143 (lv_at hl 2 rfl) ?_
      refine lv_dup2_11 hx hb dX12_add_145 rfl rfl ?_
      obtain ⟨v26, i_v26, e_v26, h⟩ := aI_some h
      refine miald hx hb hK.1 hP 9 0 rfl rfl i_v26 e_v26 dX12_add_146 ?_
      refine lv_iload hx hb dX12_add_147 (lv_at hl 0 rfl) ?_
      refine lv_if_eq (tgt := 156) hx hb dX12_add_149 (by decide) (fun c27 => ?_) (fun c27 => ?_)
      · have h := it_t c27 h
        refine lv_iconst (v := (0 : Int32)) hx hb dX12_add_156 (by decide) ?_
        exact wX12_add_J157 C hK hA r u9 F kb x8 x9 v23 (0 : Int32) v26 x8 hkb σ25 _ _ ls hP hD hS (lv_sub hl [1, 2, 3, 0] rfl) h
      · have h := it_f c27 h
        refine lv_iconst (v := (1 : Int32)) hx hb dX12_add_152 (by decide) ?_
        refine lv_goto (tgt := 157) hx hb dX12_add_153 (by decide) ?_
        exact wX12_add_J157 C hK hA r u9 F kb x8 x9 v23 (1 : Int32) v26 x8 hkb σ25 _ _ ls hP hD hS (lv_sub hl [1, 2, 3, 0] rfl) h
set_option maxHeartbeats 4000000 in
set_option maxRecDepth 100000 in
theorem kX12_add (l : Launch) (D : va_G) (cs : Nat → ClassId) (a : Nat → Nat) (σ : Nat → Nat → Int32) (F : Nat) (x1 : Int32) (x2 : Int32) (x3 : Int32) (x4 : Int32) (x5 : Int32) (x6 : Int32) (x7 : Int32) (r : Int32) (u9 : Nat → Nat → Int32) (h : fX12_add F σ x1 x2 x3 x4 x5 x6 x7 = some (r, u9)) (sz : Nat) : Met l yX12_add wsX12_add rmX12_add (va_Pc [.ref (a 0), .int x1, .int x2, .int x3, .int x4, .int x5, .int x6, .int x7] (pQ D cs (mW a cs σ) sz)) (va_Qi (fun x y => x = r ∧ y = u9) (qB D (mW a cs) (va_A (mW a cs σ) sz)) (va_A (mW a cs σ) sz)) 0 0 (va_A (mW a cs σ) sz) := by
  refine Met.ofW (cc := cX12_add) (maxL := 11) (ret := (some .int)) (by decide) rfl ?_
  intro p e s m args below meth c s₁ B hml hv
  obtain ⟨rfl, hsz, hP, hK, hD0⟩ := hv
  have C : cxt p s m _ meth c cX12_add 11 RX12 wsX12_add (some .int) := ⟨B.exec, B.bytes, hml, findClass_of_methodNamed B.named, atoms_spec (ws := wsX12_add) B.pre, B.returns, B.notSynchronized⟩
  obtain ⟨hx, hb, -, hown, hts, hr, hlk⟩ := id C
  subst hsz
  have hD := hD0.self (sz := s.heap.size)
  generalize hAe : va_A (mW a cs σ) s.heap.size = A at hD ⊢
  have hA : ∀ q : Nat, s.heap.size ≤ q → A q := fun q h => by rw [← hAe]; exact Or.inr h
  have hS : va_S A s.heap s.heap [] := va_S.rf
  refine entryW [.ref (a 0), .int x1, .int x2, .int x3, .int x4, .int x5, .int x6, .int x7] (n := 11) (Nat.le_of_ble_eq_true rfl) (fun ls hl => ?_)
  have hl : lv_has ls 11 [(0, .ref (a 0)), (1, .int x1), (2, .int x2), (3, .int x3), (4, .int x4), (5, .int x5), (6, .int x6), (7, .int x7)] := hl
  unfold fX12_add at h
  refine lv_aload_n hx hb dX12_add_0 rfl (lv_at hl 0 rfl) ?_
  refine va_get (D := D) (ci := 11) (v := .int (σ 0 0)) (C := RX12) (T := TX12) (N := 27) hx hb hts inX12_X12_add hown hK.1 hP 0 rfl rfl 0 (by decide) (hts (.fieldLink RX12 103 "SandPalaceModel" "shapes" "I") (by decide +kernel)) (fun _ h9 => h9) rfl dX12_add_1 ?_
  refine lv_bipush (v := (10 : Int32)) hx hb dX12_add_4 (by decide) ?_
  refine lv_icmp_ne (tgt := 12) hx hb dX12_add_6 (by decide) (fun c1 => ?_) (fun c1 => ?_)
  · have h := it_t c1 h
    refine lv_aload_n hx hb dX12_add_12 rfl (lv_at hl 0 rfl) ?_
    refine va_get (D := D) (ci := 11) (v := .int (σ 0 0)) (C := RX12) (T := TX12) (N := 27) hx hb hts inX12_X12_add hown hK.1 hP 0 rfl rfl 0 (by decide) (hts (.fieldLink RX12 103 "SandPalaceModel" "shapes" "I") (by decide +kernel)) (fun _ h9 => h9) rfl dX12_add_13 ?_
    refine lv_istore (lv' := [(8, .int (σ 0 0)), (0, .ref (a 0)), (1, .int x1), (2, .int x2), (3, .int x3), (4, .int x4), (5, .int x5), (6, .int x6), (7, .int x7)]) hx hb dX12_add_16 hl (by decide) rfl (fun ls hl => ?_)
    refine lv_aload_n hx hb dX12_add_18 rfl (lv_at hl 1 rfl) ?_
    refine va_get (D := D) (ci := 11) (v := .ref (a 1)) (C := RX12) (T := TX12) (N := 27) hx hb hts inX12_X12_add hown hK.1 hP 0 rfl rfl 1 (by decide) (hts (.fieldLink RX12 7 "SandPalaceModel" "kinds" "[I") (by decide +kernel)) (fun _ h9 => h9) rfl dX12_add_19 ?_
    refine lv_iload hx hb dX12_add_22 (lv_at hl 0 rfl) ?_
    refine lv_iload_n hx hb dX12_add_24 rfl (lv_at hl 2 rfl) ?_
    obtain ⟨i2, h⟩ := aS_some h
    refine va_iast hx hb hK.1 hP hD hS 1 0 rfl rfl i2 dX12_add_25 (fun H locs hP hD hS => ?_)
    obtain ⟨σ3, e_σ3, h⟩ := nm_some h
    have hP : va_P D vwCl (mW a cs σ3) H := by rw [← e_σ3]; exact hP
    have hD : va_D A (mW a cs σ3) := by rw [← e_σ3]; exact hD
    refine lv_aload_n hx hb dX12_add_26 rfl (lv_at hl 1 rfl) ?_
    refine va_get (D := D) (ci := 11) (v := .ref (a 2)) (C := RX12) (T := TX12) (N := 27) hx hb hts inX12_X12_add hown hK.1 hP 0 rfl rfl 2 (by decide) (hts (.fieldLink RX12 13 "SandPalaceModel" "colours" "[I") (by decide +kernel)) (fun _ h9 => h9) rfl dX12_add_27 ?_
    refine lv_iload hx hb dX12_add_30 (lv_at hl 0 rfl) ?_
    refine lv_iload_n hx hb dX12_add_32 rfl (lv_at hl 3 rfl) ?_
    obtain ⟨i4, h⟩ := aS_some h
    refine va_iast hx hb hK.1 hP hD hS 2 0 rfl rfl i4 dX12_add_33 (fun H locs hP hD hS => ?_)
    obtain ⟨σ5, e_σ5, h⟩ := nm_some h
    have hP : va_P D vwCl (mW a cs σ5) H := by rw [← e_σ5]; exact hP
    have hD : va_D A (mW a cs σ5) := by rw [← e_σ5]; exact hD
    refine lv_aload_n hx hb dX12_add_34 rfl (lv_at hl 1 rfl) ?_
    refine va_get (D := D) (ci := 11) (v := .ref (a 3)) (C := RX12) (T := TX12) (N := 27) hx hb hts inX12_X12_add hown hK.1 hP 0 rfl rfl 3 (by decide) (hts (.fieldLink RX12 16 "SandPalaceModel" "partA" "[I") (by decide +kernel)) (fun _ h9 => h9) rfl dX12_add_35 ?_
    refine lv_iload hx hb dX12_add_38 (lv_at hl 0 rfl) ?_
    refine lv_iload_n hx hb dX12_add_40 rfl (lv_at hl 4 rfl) ?_
    obtain ⟨i6, h⟩ := aS_some h
    refine va_iast hx hb hK.1 hP hD hS 3 0 rfl rfl i6 dX12_add_41 (fun H locs hP hD hS => ?_)
    obtain ⟨σ7, e_σ7, h⟩ := nm_some h
    have hP : va_P D vwCl (mW a cs σ7) H := by rw [← e_σ7]; exact hP
    have hD : va_D A (mW a cs σ7) := by rw [← e_σ7]; exact hD
    refine lv_aload_n hx hb dX12_add_42 rfl (lv_at hl 1 rfl) ?_
    refine va_get (D := D) (ci := 11) (v := .ref (a 4)) (C := RX12) (T := TX12) (N := 27) hx hb hts inX12_X12_add hown hK.1 hP 0 rfl rfl 4 (by decide) (hts (.fieldLink RX12 19 "SandPalaceModel" "partB" "[I") (by decide +kernel)) (fun _ h9 => h9) rfl dX12_add_43 ?_
    refine lv_iload hx hb dX12_add_46 (lv_at hl 0 rfl) ?_
    refine lv_iload hx hb dX12_add_48 (lv_at hl 5 rfl) ?_
    obtain ⟨i8, h⟩ := aS_some h
    refine va_iast hx hb hK.1 hP hD hS 4 0 rfl rfl i8 dX12_add_50 (fun H locs hP hD hS => ?_)
    obtain ⟨σ9, e_σ9, h⟩ := nm_some h
    have hP : va_P D vwCl (mW a cs σ9) H := by rw [← e_σ9]; exact hP
    have hD : va_D A (mW a cs σ9) := by rw [← e_σ9]; exact hD
    refine lv_aload_n hx hb dX12_add_51 rfl (lv_at hl 1 rfl) ?_
    refine va_get (D := D) (ci := 11) (v := .ref (a 5)) (C := RX12) (T := TX12) (N := 27) hx hb hts inX12_X12_add hown hK.1 hP 0 rfl rfl 5 (by decide) (hts (.fieldLink RX12 22 "SandPalaceModel" "partC" "[I") (by decide +kernel)) (fun _ h9 => h9) rfl dX12_add_52 ?_
    refine lv_iload hx hb dX12_add_55 (lv_at hl 0 rfl) ?_
    refine lv_iload hx hb dX12_add_57 (lv_at hl 6 rfl) ?_
    obtain ⟨i10, h⟩ := aS_some h
    refine va_iast hx hb hK.1 hP hD hS 5 0 rfl rfl i10 dX12_add_59 (fun H locs hP hD hS => ?_)
    obtain ⟨σ11, e_σ11, h⟩ := nm_some h
    have hP : va_P D vwCl (mW a cs σ11) H := by rw [← e_σ11]; exact hP
    have hD : va_D A (mW a cs σ11) := by rw [← e_σ11]; exact hD
    refine lv_aload_n hx hb dX12_add_60 rfl (lv_at hl 1 rfl) ?_
    refine va_get (D := D) (ci := 11) (v := .ref (a 6)) (C := RX12) (T := TX12) (N := 27) hx hb hts inX12_X12_add hown hK.1 hP 0 rfl rfl 6 (by decide) (hts (.fieldLink RX12 25 "SandPalaceModel" "partD" "[I") (by decide +kernel)) (fun _ h9 => h9) rfl dX12_add_61 ?_
    refine lv_iload hx hb dX12_add_64 (lv_at hl 0 rfl) ?_
    refine lv_iload hx hb dX12_add_66 (lv_at hl 7 rfl) ?_
    obtain ⟨i12, h⟩ := aS_some h
    refine va_iast hx hb hK.1 hP hD hS 6 0 rfl rfl i12 dX12_add_68 (fun H locs hP hD hS => ?_)
    obtain ⟨σ13, e_σ13, h⟩ := nm_some h
    have hP : va_P D vwCl (mW a cs σ13) H := by rw [← e_σ13]; exact hP
    have hD : va_D A (mW a cs σ13) := by rw [← e_σ13]; exact hD
    refine lv_aload_n hx hb dX12_add_69 rfl (lv_at hl 1 rfl) ?_
    refine va_get (D := D) (ci := 11) (v := .ref (a 7)) (C := RX12) (T := TX12) (N := 27) hx hb hts inX12_X12_add hown hK.1 hP 0 rfl rfl 7 (by decide) (hts (.fieldLink RX12 28 "SandPalaceModel" "steps" "[I") (by decide +kernel)) (fun _ h9 => h9) rfl dX12_add_70 ?_
    refine lv_iload hx hb dX12_add_73 (lv_at hl 0 rfl) ?_
    refine lv_iload hx hb dX12_add_75 (lv_at hl 8 rfl) ?_
    obtain ⟨i14, h⟩ := aS_some h
    refine va_iast hx hb hK.1 hP hD hS 7 0 rfl rfl i14 dX12_add_77 (fun H locs hP hD hS => ?_)
    obtain ⟨σ15, e_σ15, h⟩ := nm_some h
    have hP : va_P D vwCl (mW a cs σ15) H := by rw [← e_σ15]; exact hP
    have hD : va_D A (mW a cs σ15) := by rw [← e_σ15]; exact hD
    refine lv_aload_n hx hb dX12_add_78 rfl (lv_at hl 1 rfl) ?_
    refine va_get (D := D) (ci := 11) (v := .ref (a 11)) (C := RX12) (T := TX12) (N := 27) hx hb hts inX12_X12_add hown hK.1 hP 0 rfl rfl 11 (by decide) (hts (.fieldLink RX12 41 "SandPalaceModel" "hems" "[I") (by decide +kernel)) (fun _ h9 => h9) rfl dX12_add_79 ?_
    refine lv_iload hx hb dX12_add_82 (lv_at hl 0 rfl) ?_
    refine lv_iconst (v := (0 : Int32)) hx hb dX12_add_84 (by decide) ?_
    obtain ⟨i16, h⟩ := aS_some h
    refine va_iast hx hb hK.1 hP hD hS 11 0 rfl rfl i16 dX12_add_85 (fun H locs hP hD hS => ?_)
    obtain ⟨σ17, e_σ17, h⟩ := nm_some h
    have hP : va_P D vwCl (mW a cs σ17) H := by rw [← e_σ17]; exact hP
    have hD : va_D A (mW a cs σ17) := by rw [← e_σ17]; exact hD
    refine lv_aload_n hx hb dX12_add_86 rfl (lv_at hl 1 rfl) ?_
    refine va_get (D := D) (ci := 11) (v := .ref (a 9)) (C := RX12) (T := TX12) (N := 27) hx hb hts inX12_X12_add hown hK.1 hP 0 rfl rfl 9 (by decide) (hts (.fieldLink RX12 35 "SandPalaceModel" "sizes" "[I") (by decide +kernel)) (fun _ h9 => h9) rfl dX12_add_87 ?_
    refine lv_iload hx hb dX12_add_90 (lv_at hl 0 rfl) ?_
    refine lv_iconst (v := (0 : Int32)) hx hb dX12_add_92 (by decide) ?_
    obtain ⟨i18, h⟩ := aS_some h
    refine va_iast hx hb hK.1 hP hD hS 9 0 rfl rfl i18 dX12_add_93 (fun H locs hP hD hS => ?_)
    obtain ⟨σ19, e_σ19, h⟩ := nm_some h
    have hP : va_P D vwCl (mW a cs σ19) H := by rw [← e_σ19]; exact hP
    have hD : va_D A (mW a cs σ19) := by rw [← e_σ19]; exact hD
    refine lv_aload_n hx hb dX12_add_94 rfl (lv_at hl 1 rfl) ?_
    refine va_get (D := D) (ci := 11) (v := .ref (a 10)) (C := RX12) (T := TX12) (N := 27) hx hb hts inX12_X12_add hown hK.1 hP 0 rfl rfl 10 (by decide) (hts (.fieldLink RX12 38 "SandPalaceModel" "reaches" "[I") (by decide +kernel)) (fun _ h9 => h9) rfl dX12_add_95 ?_
    refine lv_iload hx hb dX12_add_98 (lv_at hl 0 rfl) ?_
    refine lv_iconst (v := (0 : Int32)) hx hb dX12_add_100 (by decide) ?_
    obtain ⟨i20, h⟩ := aS_some h
    refine va_iast hx hb hK.1 hP hD hS 10 0 rfl rfl i20 dX12_add_101 (fun H locs hP hD hS => ?_)
    obtain ⟨σ21, e_σ21, h⟩ := nm_some h
    have hP : va_P D vwCl (mW a cs σ21) H := by rw [← e_σ21]; exact hP
    have hD : va_D A (mW a cs σ21) := by rw [← e_σ21]; exact hD
    refine lv_iconst (v := (0 : Int32)) hx hb dX12_add_102 (by decide) ?_
    refine lv_istore (lv' := [(9, .int (0 : Int32)), (8, .int (σ 0 0)), (0, .ref (a 0)), (1, .int x1), (2, .int x2), (3, .int x3), (4, .int x4), (5, .int x5), (6, .int x6), (7, .int x7)]) hx hb dX12_add_103 hl (by decide) rfl (fun ls hl => ?_)
    refine wX12_add_L105 C hK hA r u9 F (σ 0 0) _ ?_ F (0 : Int32) σ21 _ _ ls hP hD hS (lv_sub hl [2, 1, 0] rfl) h
    intro σ22 H locs ls hP hD hS hl h
    refine lv_aload_n hx hb dX12_add_207 rfl (lv_at hl 0 rfl) ?_
    refine lv_dup hx hb dX12_add_208 rfl ?_
    refine va_get (D := D) (ci := 11) (v := .int (σ22 0 0)) (C := RX12) (T := TX12) (N := 27) hx hb hts inX12_X12_add hown hK.1 hP 0 rfl rfl 0 (by decide) (hts (.fieldLink RX12 103 "SandPalaceModel" "shapes" "I") (by decide +kernel)) (fun _ h9 => h9) rfl dX12_add_209 ?_
    refine lv_iconst (v := (1 : Int32)) hx hb dX12_add_212 (by decide) ?_
    refine lv_iadd hx hb dX12_add_213 ?_
    refine va_put (D := D) (ci := 11) (v := .int ((σ22 0 0) + (1 : Int32))) (ty := .int) (C := RX12) (T := TX12) (N := 27) hx hb hts inX12_X12_add tyX12 tyX12_ok nmX12 hown hK.1 hP hD hS 0 rfl rfl 0 (by decide) (hts (.fieldLink RX12 103 "SandPalaceModel" "shapes" "I") (by decide +kernel)) (fun _ h9 => h9) rfl (by decide +kernel) rfl rfl (Nat.le_of_ble_eq_true rfl) dX12_add_214 (fun H locs hP hD hS => ?_)
    obtain ⟨σ23, e_σ23, h⟩ := nm_some h
    have hP : va_P D vwCl (mW a cs σ23) H := by rw [← e_σ23]; exact hP
    have hD : va_D A (mW a cs σ23) := by rw [← e_σ23]; exact hD
    refine lv_aload_n hx hb dX12_add_217 rfl (lv_at hl 0 rfl) ?_
    refine lv_iconst (v := (0 : Int32)) hx hb dX12_add_218 (by decide) ?_
    refine va_put (D := D) (ci := 11) (v := .int (0 : Int32)) (ty := .boolean) (C := RX12) (T := TX12) (N := 27) hx hb hts inX12_X12_add tyX12 tyX12_ok nmX12 hown hK.1 hP hD hS 0 rfl rfl 13 (by decide) (hts (.fieldLink RX12 110 "SandPalaceModel" "isPlanned" "Z") (by decide +kernel)) (fun _ h9 => h9) rfl (by decide +kernel) rfl rfl (Nat.le_of_ble_eq_true rfl) dX12_add_219 (fun H locs hP hD hS => ?_)
    obtain ⟨σ24, e_σ24, h⟩ := nm_some h
    have hP : va_P D vwCl (mW a cs σ24) H := by rw [← e_σ24]; exact hP
    have hD : va_D A (mW a cs σ24) := by rw [← e_σ24]; exact hD
    refine lv_iload hx hb dX12_add_222 (lv_at hl 1 rfl) ?_
    exact mretQ hx hb hr hlk h hP hD hS dX12_add_224
  · have h := it_n c1 h
    refine lv_bipush (v := ((-3) : Int32)) hx hb dX12_add_9 (by decide) ?_
    exact mretQ hx hb hr hlk h hP hD hS dX12_add_11
def fX12_isColour (x0 : Int32) : Option Int32 :=
  bd (fX12_in x0.toInt64 (1 : Int64) (9 : Int64)) fun v1 => some v1
abbrev rmX12_isColour : Room := { frames := 1, cells := 0, slots := 0, locals := 25 }
set_option maxHeartbeats 4000000 in
set_option maxRecDepth 100000 in
theorem kX12_isColour (l : Launch) (x0 : Int32) (r : Int32) (h : fX12_isColour x0 = some r) : Met l yX12_isColour wsX12_isColour rmX12_isColour (va_Pc [.int x0] (p0)) (vp_Si (fun x => x = r ∧ (r = 0 ∨ r = 1))) 0 0 (fun _ => False) := by
  refine Met.ofW (cc := cX12_isColour) (maxL := 1) (ret := (some .boolean)) (by decide) rfl ?_
  intro p e s m args below meth c s₁ B hml hv
  obtain ⟨rfl, -⟩ := hv
  have C : cxt p s m _ meth c cX12_isColour 1 RX12 wsX12_isColour (some .boolean) := ⟨B.exec, B.bytes, hml, findClass_of_methodNamed B.named, atoms_spec (ws := wsX12_isColour) B.pre, B.returns, B.notSynchronized⟩
  obtain ⟨hx, hb, -, hown, hts, hr, hlk⟩ := id C
  refine entryW [.int x0] (n := 1) (Nat.le_of_ble_eq_true rfl) (fun ls hl => ?_)
  have hl : lv_has ls 1 [(0, .int x0)] := hl
  unfold fX12_isColour at h
  refine lv_iload_n hx hb dX12_isColour_0 rfl (lv_at hl 0 rfl) ?_
  refine lv_i2l hx hb dX12_isColour_1 rfl ?_
  refine lv_lconst (v := (1 : Int64)) hx hb dX12_isColour_2 (by decide) ?_
  refine lv_ldc2 hx hb hown (hts (.constantLong RX12 114 (9)) (by decide +kernel)) dX12_isColour_3 ?_
  obtain ⟨v1, hc_v1, h⟩ := bd_some h
  refine mcallSZ (va_runS (As := [.long x0.toInt64, .long (1 : Int64), .long (9 : Int64)]) (rest := []) ⟨hx, hb, hml, hown, hts⟩ (kX12_in l x0.toInt64 (1 : Int64) (9 : Int64) v1 hc_v1) (va_cwS 3 hts gX12_isColour_X12_in rfl rfl rfl (by decide +kernel) ⟨Nat.le_of_ble_eq_true rfl, Nat.le_of_ble_eq_true rfl⟩) p0_s rfl rfl hl.1 rfl (lv_room (Nat.le_of_ble_eq_true rfl)) dX12_isColour_6 ⟨Nat.zero_le _, Nat.zero_le _⟩) (fun z_v1 => ?_)
  exact mretSZ hx hb hr hlk h z_v1 dX12_isColour_9
def fX12_isPlaces (x0 : Int32) (x1 : Int32) (x2 : Int32) (x3 : Int32) : Option Int32 :=
  bd (fX12_in x0.toInt64 (0 : Int64) (7 : Int64)) fun v1 => if v1 = 0 then (some (0 : Int32)) else (bd (fX12_in x1.toInt64 (0 : Int64) (7 : Int64)) fun v3 => if v3 = 0 then (some (0 : Int32)) else (bd (fX12_in x2.toInt64 (0 : Int64) (7 : Int64)) fun v5 => if v5 = 0 then (some (0 : Int32)) else (bd (fX12_in x3.toInt64 (0 : Int64) (7 : Int64)) fun v7 => if v7 = 0 then (some (0 : Int32)) else (some (1 : Int32)))))
abbrev rmX12_isPlaces : Room := { frames := 1, cells := 0, slots := 0, locals := 25 }
set_option maxHeartbeats 4000000 in
set_option maxRecDepth 100000 in
theorem kX12_isPlaces (l : Launch) (x0 : Int32) (x1 : Int32) (x2 : Int32) (x3 : Int32) (r : Int32) (h : fX12_isPlaces x0 x1 x2 x3 = some r) : Met l yX12_isPlaces wsX12_isPlaces rmX12_isPlaces (va_Pc [.int x0, .int x1, .int x2, .int x3] (p0)) (vp_Si (fun x => x = r ∧ (r = 0 ∨ r = 1))) 0 0 (fun _ => False) := by
  refine Met.ofW (cc := cX12_isPlaces) (maxL := 4) (ret := (some .boolean)) (by decide) rfl ?_
  intro p e s m args below meth c s₁ B hml hv
  obtain ⟨rfl, -⟩ := hv
  have C : cxt p s m _ meth c cX12_isPlaces 4 RX12 wsX12_isPlaces (some .boolean) := ⟨B.exec, B.bytes, hml, findClass_of_methodNamed B.named, atoms_spec (ws := wsX12_isPlaces) B.pre, B.returns, B.notSynchronized⟩
  obtain ⟨hx, hb, -, hown, hts, hr, hlk⟩ := id C
  refine entryW [.int x0, .int x1, .int x2, .int x3] (n := 4) (Nat.le_of_ble_eq_true rfl) (fun ls hl => ?_)
  have hl : lv_has ls 4 [(0, .int x0), (1, .int x1), (2, .int x2), (3, .int x3)] := hl
  unfold fX12_isPlaces at h
  refine lv_iload_n hx hb dX12_isPlaces_0 rfl (lv_at hl 0 rfl) ?_
  refine lv_i2l hx hb dX12_isPlaces_1 rfl ?_
  refine lv_lconst (v := (0 : Int64)) hx hb dX12_isPlaces_2 (by decide) ?_
  refine lv_ldc2 hx hb hown (hts (.constantLong RX12 116 (7)) (by decide +kernel)) dX12_isPlaces_3 ?_
  obtain ⟨v1, hc_v1, h⟩ := bd_some h
  refine mcallSZ (va_runS (As := [.long x0.toInt64, .long (0 : Int64), .long (7 : Int64)]) (rest := []) ⟨hx, hb, hml, hown, hts⟩ (kX12_in l x0.toInt64 (0 : Int64) (7 : Int64) v1 hc_v1) (va_cwS 3 hts gX12_isPlaces_X12_in rfl rfl rfl (by decide +kernel) ⟨Nat.le_of_ble_eq_true rfl, Nat.le_of_ble_eq_true rfl⟩) p0_s rfl rfl hl.1 rfl (lv_room (Nat.le_of_ble_eq_true rfl)) dX12_isPlaces_6 ⟨Nat.zero_le _, Nat.zero_le _⟩) (fun z_v1 => ?_)
  refine lv_if_eq (tgt := 52) hx hb dX12_isPlaces_9 (by decide) (fun c2 => ?_) (fun c2 => ?_)
  · have h := it_t c2 h
    refine lv_iconst (v := (0 : Int32)) hx hb dX12_isPlaces_52 (by decide) ?_
    exact mretSZ hx hb hr hlk h (Or.inl rfl) dX12_isPlaces_53
  · have h := it_f c2 h
    refine lv_iload_n hx hb dX12_isPlaces_12 rfl (lv_at hl 1 rfl) ?_
    refine lv_i2l hx hb dX12_isPlaces_13 rfl ?_
    refine lv_lconst (v := (0 : Int64)) hx hb dX12_isPlaces_14 (by decide) ?_
    refine lv_ldc2 hx hb hown (hts (.constantLong RX12 116 (7)) (by decide +kernel)) dX12_isPlaces_15 ?_
    obtain ⟨v3, hc_v3, h⟩ := bd_some h
    refine mcallSZ (va_runS (As := [.long x1.toInt64, .long (0 : Int64), .long (7 : Int64)]) (rest := []) ⟨hx, hb, hml, hown, hts⟩ (kX12_in l x1.toInt64 (0 : Int64) (7 : Int64) v3 hc_v3) (va_cwS 3 hts gX12_isPlaces_X12_in rfl rfl rfl (by decide +kernel) ⟨Nat.le_of_ble_eq_true rfl, Nat.le_of_ble_eq_true rfl⟩) p0_s rfl rfl hl.1 rfl (lv_room (Nat.le_of_ble_eq_true rfl)) dX12_isPlaces_18 ⟨Nat.zero_le _, Nat.zero_le _⟩) (fun z_v3 => ?_)
    refine lv_if_eq (tgt := 52) hx hb dX12_isPlaces_21 (by decide) (fun c4 => ?_) (fun c4 => ?_)
    · have h := it_t c4 h
      refine lv_iconst (v := (0 : Int32)) hx hb dX12_isPlaces_52 (by decide) ?_
      exact mretSZ hx hb hr hlk h (Or.inl rfl) dX12_isPlaces_53
    · have h := it_f c4 h
      refine lv_iload_n hx hb dX12_isPlaces_24 rfl (lv_at hl 2 rfl) ?_
      refine lv_i2l hx hb dX12_isPlaces_25 rfl ?_
      refine lv_lconst (v := (0 : Int64)) hx hb dX12_isPlaces_26 (by decide) ?_
      refine lv_ldc2 hx hb hown (hts (.constantLong RX12 116 (7)) (by decide +kernel)) dX12_isPlaces_27 ?_
      obtain ⟨v5, hc_v5, h⟩ := bd_some h
      refine mcallSZ (va_runS (As := [.long x2.toInt64, .long (0 : Int64), .long (7 : Int64)]) (rest := []) ⟨hx, hb, hml, hown, hts⟩ (kX12_in l x2.toInt64 (0 : Int64) (7 : Int64) v5 hc_v5) (va_cwS 3 hts gX12_isPlaces_X12_in rfl rfl rfl (by decide +kernel) ⟨Nat.le_of_ble_eq_true rfl, Nat.le_of_ble_eq_true rfl⟩) p0_s rfl rfl hl.1 rfl (lv_room (Nat.le_of_ble_eq_true rfl)) dX12_isPlaces_30 ⟨Nat.zero_le _, Nat.zero_le _⟩) (fun z_v5 => ?_)
      refine lv_if_eq (tgt := 52) hx hb dX12_isPlaces_33 (by decide) (fun c6 => ?_) (fun c6 => ?_)
      · have h := it_t c6 h
        refine lv_iconst (v := (0 : Int32)) hx hb dX12_isPlaces_52 (by decide) ?_
        exact mretSZ hx hb hr hlk h (Or.inl rfl) dX12_isPlaces_53
      · have h := it_f c6 h
        refine lv_iload_n hx hb dX12_isPlaces_36 rfl (lv_at hl 3 rfl) ?_
        refine lv_i2l hx hb dX12_isPlaces_37 rfl ?_
        refine lv_lconst (v := (0 : Int64)) hx hb dX12_isPlaces_38 (by decide) ?_
        refine lv_ldc2 hx hb hown (hts (.constantLong RX12 116 (7)) (by decide +kernel)) dX12_isPlaces_39 ?_
        obtain ⟨v7, hc_v7, h⟩ := bd_some h
        refine mcallSZ (va_runS (As := [.long x3.toInt64, .long (0 : Int64), .long (7 : Int64)]) (rest := []) ⟨hx, hb, hml, hown, hts⟩ (kX12_in l x3.toInt64 (0 : Int64) (7 : Int64) v7 hc_v7) (va_cwS 3 hts gX12_isPlaces_X12_in rfl rfl rfl (by decide +kernel) ⟨Nat.le_of_ble_eq_true rfl, Nat.le_of_ble_eq_true rfl⟩) p0_s rfl rfl hl.1 rfl (lv_room (Nat.le_of_ble_eq_true rfl)) dX12_isPlaces_42 ⟨Nat.zero_le _, Nat.zero_le _⟩) (fun z_v7 => ?_)
        refine lv_if_eq (tgt := 52) hx hb dX12_isPlaces_45 (by decide) (fun c8 => ?_) (fun c8 => ?_)
        · have h := it_t c8 h
          refine lv_iconst (v := (0 : Int32)) hx hb dX12_isPlaces_52 (by decide) ?_
          exact mretSZ hx hb hr hlk h (Or.inl rfl) dX12_isPlaces_53
        · have h := it_f c8 h
          refine lv_iconst (v := (1 : Int32)) hx hb dX12_isPlaces_48 (by decide) ?_
          refine lv_goto (tgt := 53) hx hb dX12_isPlaces_49 (by decide) ?_
          exact mretSZ hx hb hr hlk h (Or.inr rfl) dX12_isPlaces_53
def fX12_disc (F : Nat) (σ : Nat → Nat → Int32) (x1 : Int32) (x2 : Int32) : Option (Int32 × (Nat → Nat → Int32)) :=
  bd (fX12_isColour x1) fun v1 => if v1 = 0 then (some (((-1) : Int32), σ)) else (bd (fX12_in x2.toInt64 (1 : Int64) (450 : Int64)) fun v3 => if v3 = 0 then (some (((-1) : Int32), σ)) else (bd (fX12_add F σ (0 : Int32) x1 x2 (0 : Int32) (0 : Int32) (0 : Int32) (0 : Int32)) fun (v5, σ6) => some (v5, σ6)))
abbrev rmX12_disc : Room := { frames := 4, cells := 0, slots := 0, locals := 108 }
set_option maxHeartbeats 4000000 in
set_option maxRecDepth 100000 in
theorem kX12_disc (l : Launch) (D : va_G) (cs : Nat → ClassId) (a : Nat → Nat) (σ : Nat → Nat → Int32) (F : Nat) (x1 : Int32) (x2 : Int32) (r : Int32) (u9 : Nat → Nat → Int32) (h : fX12_disc F σ x1 x2 = some (r, u9)) (sz : Nat) : Met l yX12_disc wsX12_disc rmX12_disc (va_Pc [.ref (a 0), .int x1, .int x2] (pQ D cs (mW a cs σ) sz)) (va_Qi (fun x y => x = r ∧ y = u9) (qB D (mW a cs) (va_A (mW a cs σ) sz)) (va_A (mW a cs σ) sz)) 0 0 (va_A (mW a cs σ) sz) := by
  refine Met.ofW (cc := cX12_disc) (maxL := 3) (ret := (some .int)) (by decide) rfl ?_
  intro p e s m args below meth c s₁ B hml hv
  obtain ⟨rfl, hsz, hP, hK, hD0⟩ := hv
  have C : cxt p s m _ meth c cX12_disc 3 RX12 wsX12_disc (some .int) := ⟨B.exec, B.bytes, hml, findClass_of_methodNamed B.named, atoms_spec (ws := wsX12_disc) B.pre, B.returns, B.notSynchronized⟩
  obtain ⟨hx, hb, -, hown, hts, hr, hlk⟩ := id C
  subst hsz
  have hD := hD0.self (sz := s.heap.size)
  generalize hAe : va_A (mW a cs σ) s.heap.size = A at hD ⊢
  have hA : ∀ q : Nat, s.heap.size ≤ q → A q := fun q h => by rw [← hAe]; exact Or.inr h
  have hS : va_S A s.heap s.heap [] := va_S.rf
  refine entryW [.ref (a 0), .int x1, .int x2] (n := 3) (Nat.le_of_ble_eq_true rfl) (fun ls hl => ?_)
  have hl : lv_has ls 3 [(0, .ref (a 0)), (1, .int x1), (2, .int x2)] := hl
  unfold fX12_disc at h
  refine lv_iload_n hx hb dX12_disc_0 rfl (lv_at hl 1 rfl) ?_
  obtain ⟨v1, hc_v1, h⟩ := bd_some h
  refine mcallSZ (va_runS (As := [.int x1]) (rest := []) ⟨hx, hb, hml, hown, hts⟩ (kX12_isColour l x1 v1 hc_v1) (va_cwS 1 hts gX12_disc_X12_isColour rfl rfl rfl (by decide +kernel) ⟨Nat.le_of_ble_eq_true rfl, Nat.le_of_ble_eq_true rfl⟩) p0_s rfl rfl hl.1 rfl (lv_room (Nat.le_of_ble_eq_true rfl)) dX12_disc_1 ⟨Nat.zero_le _, Nat.zero_le _⟩) (fun z_v1 => ?_)
  refine lv_if_eq (tgt := 33) hx hb dX12_disc_4 (by decide) (fun c2 => ?_) (fun c2 => ?_)
  · have h := it_t c2 h
    refine lv_iconst (v := ((-1) : Int32)) hx hb dX12_disc_33 (by decide) ?_
    exact mretQ hx hb hr hlk h hP hD hS dX12_disc_34
  · have h := it_f c2 h
    refine lv_iload_n hx hb dX12_disc_7 rfl (lv_at hl 2 rfl) ?_
    refine lv_i2l hx hb dX12_disc_8 rfl ?_
    refine lv_lconst (v := (1 : Int64)) hx hb dX12_disc_9 (by decide) ?_
    refine lv_ldc2 hx hb hown (hts (.constantLong RX12 122 (450)) (by decide +kernel)) dX12_disc_10 ?_
    obtain ⟨v3, hc_v3, h⟩ := bd_some h
    refine mcallSZ (va_runS (As := [.long x2.toInt64, .long (1 : Int64), .long (450 : Int64)]) (rest := []) ⟨hx, hb, hml, hown, hts⟩ (kX12_in l x2.toInt64 (1 : Int64) (450 : Int64) v3 hc_v3) (va_cwS 3 hts gX12_disc_X12_in rfl rfl rfl (by decide +kernel) ⟨Nat.le_of_ble_eq_true rfl, Nat.le_of_ble_eq_true rfl⟩) p0_s rfl rfl hl.1 rfl (lv_room (Nat.le_of_ble_eq_true rfl)) dX12_disc_13 ⟨Nat.zero_le _, Nat.zero_le _⟩) (fun z_v3 => ?_)
    refine lv_if_eq (tgt := 33) hx hb dX12_disc_16 (by decide) (fun c4 => ?_) (fun c4 => ?_)
    · have h := it_t c4 h
      refine lv_iconst (v := ((-1) : Int32)) hx hb dX12_disc_33 (by decide) ?_
      exact mretQ hx hb hr hlk h hP hD hS dX12_disc_34
    · have h := it_f c4 h
      refine lv_aload_n hx hb dX12_disc_19 rfl (lv_at hl 0 rfl) ?_
      refine lv_iconst (v := (0 : Int32)) hx hb dX12_disc_20 (by decide) ?_
      refine lv_iload_n hx hb dX12_disc_21 rfl (lv_at hl 1 rfl) ?_
      refine lv_iload_n hx hb dX12_disc_22 rfl (lv_at hl 2 rfl) ?_
      refine lv_iconst (v := (0 : Int32)) hx hb dX12_disc_23 (by decide) ?_
      refine lv_iconst (v := (0 : Int32)) hx hb dX12_disc_24 (by decide) ?_
      refine lv_iconst (v := (0 : Int32)) hx hb dX12_disc_25 (by decide) ?_
      refine lv_iconst (v := (0 : Int32)) hx hb dX12_disc_26 (by decide) ?_
      obtain ⟨⟨v5, σ6⟩, hc_v5, h⟩ := bd_some h
      refine mcallQ (wf := (mW a cs)) (va_runV (As := [.int (0 : Int32), .int x1, .int x2, .int (0 : Int32), .int (0 : Int32), .int (0 : Int32), .int (0 : Int32)]) (rest := []) ⟨hx, hb, hml, hown, hts⟩ (kX12_add l D cs a σ F (0 : Int32) x1 x2 (0 : Int32) (0 : Int32) (0 : Int32) (0 : Int32) v5 σ6 hc_v5 _) (cwV 7 hts gX12_disc_X12_add rfl rfl rfl (by decide +kernel) ⟨Nat.le_of_ble_eq_true rfl, Nat.le_of_ble_eq_true rfl⟩) (pQ_v hP hK hD (va_recv hK.1 hP (ci := 11) (q0 := 0) rfl rfl)) rfl rfl hl.1 rfl (lv_room (Nat.le_of_ble_eq_true rfl)) dX12_disc_27 ⟨Nat.zero_le _, Nat.zero_le _⟩) hD hS hA (fun H locs hP hD hS => ?_)
      refine lv_goto (tgt := 34) hx hb dX12_disc_30 (by decide) ?_
      exact mretQ hx hb hr hlk h hP hD hS dX12_disc_34
def fX12_rim (F : Nat) (σ : Nat → Nat → Int32) (x1 : Int32) (x2 : Int32) : Option (Int32 × (Nat → Nat → Int32)) :=
  bd (fX12_isColour x1) fun v1 => if v1 = 0 then (some (((-1) : Int32), σ)) else (bd (fX12_in x2.toInt64 (0 : Int64) (7 : Int64)) fun v3 => if v3 = 0 then (some (((-1) : Int32), σ)) else (bd (fX12_add F σ (1 : Int32) x1 x2 (0 : Int32) (0 : Int32) (0 : Int32) (0 : Int32)) fun (v5, σ6) => some (v5, σ6)))
abbrev rmX12_rim : Room := { frames := 4, cells := 0, slots := 0, locals := 108 }
set_option maxHeartbeats 4000000 in
set_option maxRecDepth 100000 in
theorem kX12_rim (l : Launch) (D : va_G) (cs : Nat → ClassId) (a : Nat → Nat) (σ : Nat → Nat → Int32) (F : Nat) (x1 : Int32) (x2 : Int32) (r : Int32) (u9 : Nat → Nat → Int32) (h : fX12_rim F σ x1 x2 = some (r, u9)) (sz : Nat) : Met l yX12_rim wsX12_rim rmX12_rim (va_Pc [.ref (a 0), .int x1, .int x2] (pQ D cs (mW a cs σ) sz)) (va_Qi (fun x y => x = r ∧ y = u9) (qB D (mW a cs) (va_A (mW a cs σ) sz)) (va_A (mW a cs σ) sz)) 0 0 (va_A (mW a cs σ) sz) := by
  refine Met.ofW (cc := cX12_rim) (maxL := 3) (ret := (some .int)) (by decide) rfl ?_
  intro p e s m args below meth c s₁ B hml hv
  obtain ⟨rfl, hsz, hP, hK, hD0⟩ := hv
  have C : cxt p s m _ meth c cX12_rim 3 RX12 wsX12_rim (some .int) := ⟨B.exec, B.bytes, hml, findClass_of_methodNamed B.named, atoms_spec (ws := wsX12_rim) B.pre, B.returns, B.notSynchronized⟩
  obtain ⟨hx, hb, -, hown, hts, hr, hlk⟩ := id C
  subst hsz
  have hD := hD0.self (sz := s.heap.size)
  generalize hAe : va_A (mW a cs σ) s.heap.size = A at hD ⊢
  have hA : ∀ q : Nat, s.heap.size ≤ q → A q := fun q h => by rw [← hAe]; exact Or.inr h
  have hS : va_S A s.heap s.heap [] := va_S.rf
  refine entryW [.ref (a 0), .int x1, .int x2] (n := 3) (Nat.le_of_ble_eq_true rfl) (fun ls hl => ?_)
  have hl : lv_has ls 3 [(0, .ref (a 0)), (1, .int x1), (2, .int x2)] := hl
  unfold fX12_rim at h
  refine lv_iload_n hx hb dX12_rim_0 rfl (lv_at hl 1 rfl) ?_
  obtain ⟨v1, hc_v1, h⟩ := bd_some h
  refine mcallSZ (va_runS (As := [.int x1]) (rest := []) ⟨hx, hb, hml, hown, hts⟩ (kX12_isColour l x1 v1 hc_v1) (va_cwS 1 hts gX12_rim_X12_isColour rfl rfl rfl (by decide +kernel) ⟨Nat.le_of_ble_eq_true rfl, Nat.le_of_ble_eq_true rfl⟩) p0_s rfl rfl hl.1 rfl (lv_room (Nat.le_of_ble_eq_true rfl)) dX12_rim_1 ⟨Nat.zero_le _, Nat.zero_le _⟩) (fun z_v1 => ?_)
  refine lv_if_eq (tgt := 33) hx hb dX12_rim_4 (by decide) (fun c2 => ?_) (fun c2 => ?_)
  · have h := it_t c2 h
    refine lv_iconst (v := ((-1) : Int32)) hx hb dX12_rim_33 (by decide) ?_
    exact mretQ hx hb hr hlk h hP hD hS dX12_rim_34
  · have h := it_f c2 h
    refine lv_iload_n hx hb dX12_rim_7 rfl (lv_at hl 2 rfl) ?_
    refine lv_i2l hx hb dX12_rim_8 rfl ?_
    refine lv_lconst (v := (0 : Int64)) hx hb dX12_rim_9 (by decide) ?_
    refine lv_ldc2 hx hb hown (hts (.constantLong RX12 116 (7)) (by decide +kernel)) dX12_rim_10 ?_
    obtain ⟨v3, hc_v3, h⟩ := bd_some h
    refine mcallSZ (va_runS (As := [.long x2.toInt64, .long (0 : Int64), .long (7 : Int64)]) (rest := []) ⟨hx, hb, hml, hown, hts⟩ (kX12_in l x2.toInt64 (0 : Int64) (7 : Int64) v3 hc_v3) (va_cwS 3 hts gX12_rim_X12_in rfl rfl rfl (by decide +kernel) ⟨Nat.le_of_ble_eq_true rfl, Nat.le_of_ble_eq_true rfl⟩) p0_s rfl rfl hl.1 rfl (lv_room (Nat.le_of_ble_eq_true rfl)) dX12_rim_13 ⟨Nat.zero_le _, Nat.zero_le _⟩) (fun z_v3 => ?_)
    refine lv_if_eq (tgt := 33) hx hb dX12_rim_16 (by decide) (fun c4 => ?_) (fun c4 => ?_)
    · have h := it_t c4 h
      refine lv_iconst (v := ((-1) : Int32)) hx hb dX12_rim_33 (by decide) ?_
      exact mretQ hx hb hr hlk h hP hD hS dX12_rim_34
    · have h := it_f c4 h
      refine lv_aload_n hx hb dX12_rim_19 rfl (lv_at hl 0 rfl) ?_
      refine lv_iconst (v := (1 : Int32)) hx hb dX12_rim_20 (by decide) ?_
      refine lv_iload_n hx hb dX12_rim_21 rfl (lv_at hl 1 rfl) ?_
      refine lv_iload_n hx hb dX12_rim_22 rfl (lv_at hl 2 rfl) ?_
      refine lv_iconst (v := (0 : Int32)) hx hb dX12_rim_23 (by decide) ?_
      refine lv_iconst (v := (0 : Int32)) hx hb dX12_rim_24 (by decide) ?_
      refine lv_iconst (v := (0 : Int32)) hx hb dX12_rim_25 (by decide) ?_
      refine lv_iconst (v := (0 : Int32)) hx hb dX12_rim_26 (by decide) ?_
      obtain ⟨⟨v5, σ6⟩, hc_v5, h⟩ := bd_some h
      refine mcallQ (wf := (mW a cs)) (va_runV (As := [.int (1 : Int32), .int x1, .int x2, .int (0 : Int32), .int (0 : Int32), .int (0 : Int32), .int (0 : Int32)]) (rest := []) ⟨hx, hb, hml, hown, hts⟩ (kX12_add l D cs a σ F (1 : Int32) x1 x2 (0 : Int32) (0 : Int32) (0 : Int32) (0 : Int32) v5 σ6 hc_v5 _) (cwV 7 hts gX12_rim_X12_add rfl rfl rfl (by decide +kernel) ⟨Nat.le_of_ble_eq_true rfl, Nat.le_of_ble_eq_true rfl⟩) (pQ_v hP hK hD (va_recv hK.1 hP (ci := 11) (q0 := 0) rfl rfl)) rfl rfl hl.1 rfl (lv_room (Nat.le_of_ble_eq_true rfl)) dX12_rim_27 ⟨Nat.zero_le _, Nat.zero_le _⟩) hD hS hA (fun H locs hP hD hS => ?_)
      refine lv_goto (tgt := 34) hx hb dX12_rim_30 (by decide) ?_
      exact mretQ hx hb hr hlk h hP hD hS dX12_rim_34
def fX12_line (F : Nat) (σ : Nat → Nat → Int32) (x1 : Int32) (x2 : Int32) (x3 : Int32) (x4 : Int32) (x5 : Int32) : Option (Int32 × (Nat → Nat → Int32)) :=
  bd (fX12_isColour x1) fun v1 => if v1 = 0 then (some (((-1) : Int32), σ)) else (bd (fX12_isPlaces x2 x3 x4 x5) fun v3 => if v3 = 0 then (some (((-1) : Int32), σ)) else (bd (fX12_add F σ (2 : Int32) x1 x2 x3 x4 x5 (0 : Int32)) fun (v5, σ6) => some (v5, σ6)))
abbrev rmX12_line : Room := { frames := 4, cells := 0, slots := 0, locals := 108 }
set_option maxHeartbeats 4000000 in
set_option maxRecDepth 100000 in
theorem kX12_line (l : Launch) (D : va_G) (cs : Nat → ClassId) (a : Nat → Nat) (σ : Nat → Nat → Int32) (F : Nat) (x1 : Int32) (x2 : Int32) (x3 : Int32) (x4 : Int32) (x5 : Int32) (r : Int32) (u9 : Nat → Nat → Int32) (h : fX12_line F σ x1 x2 x3 x4 x5 = some (r, u9)) (sz : Nat) : Met l yX12_line wsX12_line rmX12_line (va_Pc [.ref (a 0), .int x1, .int x2, .int x3, .int x4, .int x5] (pQ D cs (mW a cs σ) sz)) (va_Qi (fun x y => x = r ∧ y = u9) (qB D (mW a cs) (va_A (mW a cs σ) sz)) (va_A (mW a cs σ) sz)) 0 0 (va_A (mW a cs σ) sz) := by
  refine Met.ofW (cc := cX12_line) (maxL := 6) (ret := (some .int)) (by decide) rfl ?_
  intro p e s m args below meth c s₁ B hml hv
  obtain ⟨rfl, hsz, hP, hK, hD0⟩ := hv
  have C : cxt p s m _ meth c cX12_line 6 RX12 wsX12_line (some .int) := ⟨B.exec, B.bytes, hml, findClass_of_methodNamed B.named, atoms_spec (ws := wsX12_line) B.pre, B.returns, B.notSynchronized⟩
  obtain ⟨hx, hb, -, hown, hts, hr, hlk⟩ := id C
  subst hsz
  have hD := hD0.self (sz := s.heap.size)
  generalize hAe : va_A (mW a cs σ) s.heap.size = A at hD ⊢
  have hA : ∀ q : Nat, s.heap.size ≤ q → A q := fun q h => by rw [← hAe]; exact Or.inr h
  have hS : va_S A s.heap s.heap [] := va_S.rf
  refine entryW [.ref (a 0), .int x1, .int x2, .int x3, .int x4, .int x5] (n := 6) (Nat.le_of_ble_eq_true rfl) (fun ls hl => ?_)
  have hl : lv_has ls 6 [(0, .ref (a 0)), (1, .int x1), (2, .int x2), (3, .int x3), (4, .int x4), (5, .int x5)] := hl
  unfold fX12_line at h
  refine lv_iload_n hx hb dX12_line_0 rfl (lv_at hl 1 rfl) ?_
  obtain ⟨v1, hc_v1, h⟩ := bd_some h
  refine mcallSZ (va_runS (As := [.int x1]) (rest := []) ⟨hx, hb, hml, hown, hts⟩ (kX12_isColour l x1 v1 hc_v1) (va_cwS 1 hts gX12_line_X12_isColour rfl rfl rfl (by decide +kernel) ⟨Nat.le_of_ble_eq_true rfl, Nat.le_of_ble_eq_true rfl⟩) p0_s rfl rfl hl.1 rfl (lv_room (Nat.le_of_ble_eq_true rfl)) dX12_line_1 ⟨Nat.zero_le _, Nat.zero_le _⟩) (fun z_v1 => ?_)
  refine lv_if_eq (tgt := 35) hx hb dX12_line_4 (by decide) (fun c2 => ?_) (fun c2 => ?_)
  · have h := it_t c2 h
    refine lv_iconst (v := ((-1) : Int32)) hx hb dX12_line_35 (by decide) ?_
    exact mretQ hx hb hr hlk h hP hD hS dX12_line_36
  · have h := it_f c2 h
    refine lv_iload_n hx hb dX12_line_7 rfl (lv_at hl 2 rfl) ?_
    refine lv_iload_n hx hb dX12_line_8 rfl (lv_at hl 3 rfl) ?_
    refine lv_iload hx hb dX12_line_9 (lv_at hl 4 rfl) ?_
    refine lv_iload hx hb dX12_line_11 (lv_at hl 5 rfl) ?_
    obtain ⟨v3, hc_v3, h⟩ := bd_some h
    refine mcallSZ (va_runS (As := [.int x2, .int x3, .int x4, .int x5]) (rest := []) ⟨hx, hb, hml, hown, hts⟩ (kX12_isPlaces l x2 x3 x4 x5 v3 hc_v3) (va_cwS 4 hts gX12_line_X12_isPlaces rfl rfl rfl (by decide +kernel) ⟨Nat.le_of_ble_eq_true rfl, Nat.le_of_ble_eq_true rfl⟩) p0_s rfl rfl hl.1 rfl (lv_room (Nat.le_of_ble_eq_true rfl)) dX12_line_13 ⟨Nat.zero_le _, Nat.zero_le _⟩) (fun z_v3 => ?_)
    refine lv_if_eq (tgt := 35) hx hb dX12_line_16 (by decide) (fun c4 => ?_) (fun c4 => ?_)
    · have h := it_t c4 h
      refine lv_iconst (v := ((-1) : Int32)) hx hb dX12_line_35 (by decide) ?_
      exact mretQ hx hb hr hlk h hP hD hS dX12_line_36
    · have h := it_f c4 h
      refine lv_aload_n hx hb dX12_line_19 rfl (lv_at hl 0 rfl) ?_
      refine lv_iconst (v := (2 : Int32)) hx hb dX12_line_20 (by decide) ?_
      refine lv_iload_n hx hb dX12_line_21 rfl (lv_at hl 1 rfl) ?_
      refine lv_iload_n hx hb dX12_line_22 rfl (lv_at hl 2 rfl) ?_
      refine lv_iload_n hx hb dX12_line_23 rfl (lv_at hl 3 rfl) ?_
      refine lv_iload hx hb dX12_line_24 (lv_at hl 4 rfl) ?_
      refine lv_iload hx hb dX12_line_26 (lv_at hl 5 rfl) ?_
      refine lv_iconst (v := (0 : Int32)) hx hb dX12_line_28 (by decide) ?_
      obtain ⟨⟨v5, σ6⟩, hc_v5, h⟩ := bd_some h
      refine mcallQ (wf := (mW a cs)) (va_runV (As := [.int (2 : Int32), .int x1, .int x2, .int x3, .int x4, .int x5, .int (0 : Int32)]) (rest := []) ⟨hx, hb, hml, hown, hts⟩ (kX12_add l D cs a σ F (2 : Int32) x1 x2 x3 x4 x5 (0 : Int32) v5 σ6 hc_v5 _) (cwV 7 hts gX12_line_X12_add rfl rfl rfl (by decide +kernel) ⟨Nat.le_of_ble_eq_true rfl, Nat.le_of_ble_eq_true rfl⟩) (pQ_v hP hK hD (va_recv hK.1 hP (ci := 11) (q0 := 0) rfl rfl)) rfl rfl hl.1 rfl (lv_room (Nat.le_of_ble_eq_true rfl)) dX12_line_29 ⟨Nat.zero_le _, Nat.zero_le _⟩) hD hS hA (fun H locs hP hD hS => ?_)
      refine lv_goto (tgt := 36) hx hb dX12_line_32 (by decide) ?_
      exact mretQ hx hb hr hlk h hP hD hS dX12_line_36
def fX12_block (F : Nat) (σ : Nat → Nat → Int32) (x1 : Int32) (x2 : Int32) (x3 : Int32) (x4 : Int32) (x5 : Int32) : Option (Int32 × (Nat → Nat → Int32)) :=
  bd (fX12_isColour x1) fun v1 => if v1 = 0 then (some (((-1) : Int32), σ)) else (bd (fX12_isPlaces x2 x3 x4 x5) fun v3 => if v3 = 0 then (some (((-1) : Int32), σ)) else (bd (fX12_add F σ (3 : Int32) x1 x2 x3 x4 x5 (0 : Int32)) fun (v5, σ6) => some (v5, σ6)))
abbrev rmX12_block : Room := { frames := 4, cells := 0, slots := 0, locals := 108 }
set_option maxHeartbeats 4000000 in
set_option maxRecDepth 100000 in
theorem kX12_block (l : Launch) (D : va_G) (cs : Nat → ClassId) (a : Nat → Nat) (σ : Nat → Nat → Int32) (F : Nat) (x1 : Int32) (x2 : Int32) (x3 : Int32) (x4 : Int32) (x5 : Int32) (r : Int32) (u9 : Nat → Nat → Int32) (h : fX12_block F σ x1 x2 x3 x4 x5 = some (r, u9)) (sz : Nat) : Met l yX12_block wsX12_block rmX12_block (va_Pc [.ref (a 0), .int x1, .int x2, .int x3, .int x4, .int x5] (pQ D cs (mW a cs σ) sz)) (va_Qi (fun x y => x = r ∧ y = u9) (qB D (mW a cs) (va_A (mW a cs σ) sz)) (va_A (mW a cs σ) sz)) 0 0 (va_A (mW a cs σ) sz) := by
  refine Met.ofW (cc := cX12_block) (maxL := 6) (ret := (some .int)) (by decide) rfl ?_
  intro p e s m args below meth c s₁ B hml hv
  obtain ⟨rfl, hsz, hP, hK, hD0⟩ := hv
  have C : cxt p s m _ meth c cX12_block 6 RX12 wsX12_block (some .int) := ⟨B.exec, B.bytes, hml, findClass_of_methodNamed B.named, atoms_spec (ws := wsX12_block) B.pre, B.returns, B.notSynchronized⟩
  obtain ⟨hx, hb, -, hown, hts, hr, hlk⟩ := id C
  subst hsz
  have hD := hD0.self (sz := s.heap.size)
  generalize hAe : va_A (mW a cs σ) s.heap.size = A at hD ⊢
  have hA : ∀ q : Nat, s.heap.size ≤ q → A q := fun q h => by rw [← hAe]; exact Or.inr h
  have hS : va_S A s.heap s.heap [] := va_S.rf
  refine entryW [.ref (a 0), .int x1, .int x2, .int x3, .int x4, .int x5] (n := 6) (Nat.le_of_ble_eq_true rfl) (fun ls hl => ?_)
  have hl : lv_has ls 6 [(0, .ref (a 0)), (1, .int x1), (2, .int x2), (3, .int x3), (4, .int x4), (5, .int x5)] := hl
  unfold fX12_block at h
  refine lv_iload_n hx hb dX12_block_0 rfl (lv_at hl 1 rfl) ?_
  obtain ⟨v1, hc_v1, h⟩ := bd_some h
  refine mcallSZ (va_runS (As := [.int x1]) (rest := []) ⟨hx, hb, hml, hown, hts⟩ (kX12_isColour l x1 v1 hc_v1) (va_cwS 1 hts gX12_block_X12_isColour rfl rfl rfl (by decide +kernel) ⟨Nat.le_of_ble_eq_true rfl, Nat.le_of_ble_eq_true rfl⟩) p0_s rfl rfl hl.1 rfl (lv_room (Nat.le_of_ble_eq_true rfl)) dX12_block_1 ⟨Nat.zero_le _, Nat.zero_le _⟩) (fun z_v1 => ?_)
  refine lv_if_eq (tgt := 35) hx hb dX12_block_4 (by decide) (fun c2 => ?_) (fun c2 => ?_)
  · have h := it_t c2 h
    refine lv_iconst (v := ((-1) : Int32)) hx hb dX12_block_35 (by decide) ?_
    exact mretQ hx hb hr hlk h hP hD hS dX12_block_36
  · have h := it_f c2 h
    refine lv_iload_n hx hb dX12_block_7 rfl (lv_at hl 2 rfl) ?_
    refine lv_iload_n hx hb dX12_block_8 rfl (lv_at hl 3 rfl) ?_
    refine lv_iload hx hb dX12_block_9 (lv_at hl 4 rfl) ?_
    refine lv_iload hx hb dX12_block_11 (lv_at hl 5 rfl) ?_
    obtain ⟨v3, hc_v3, h⟩ := bd_some h
    refine mcallSZ (va_runS (As := [.int x2, .int x3, .int x4, .int x5]) (rest := []) ⟨hx, hb, hml, hown, hts⟩ (kX12_isPlaces l x2 x3 x4 x5 v3 hc_v3) (va_cwS 4 hts gX12_block_X12_isPlaces rfl rfl rfl (by decide +kernel) ⟨Nat.le_of_ble_eq_true rfl, Nat.le_of_ble_eq_true rfl⟩) p0_s rfl rfl hl.1 rfl (lv_room (Nat.le_of_ble_eq_true rfl)) dX12_block_13 ⟨Nat.zero_le _, Nat.zero_le _⟩) (fun z_v3 => ?_)
    refine lv_if_eq (tgt := 35) hx hb dX12_block_16 (by decide) (fun c4 => ?_) (fun c4 => ?_)
    · have h := it_t c4 h
      refine lv_iconst (v := ((-1) : Int32)) hx hb dX12_block_35 (by decide) ?_
      exact mretQ hx hb hr hlk h hP hD hS dX12_block_36
    · have h := it_f c4 h
      refine lv_aload_n hx hb dX12_block_19 rfl (lv_at hl 0 rfl) ?_
      refine lv_iconst (v := (3 : Int32)) hx hb dX12_block_20 (by decide) ?_
      refine lv_iload_n hx hb dX12_block_21 rfl (lv_at hl 1 rfl) ?_
      refine lv_iload_n hx hb dX12_block_22 rfl (lv_at hl 2 rfl) ?_
      refine lv_iload_n hx hb dX12_block_23 rfl (lv_at hl 3 rfl) ?_
      refine lv_iload hx hb dX12_block_24 (lv_at hl 4 rfl) ?_
      refine lv_iload hx hb dX12_block_26 (lv_at hl 5 rfl) ?_
      refine lv_iconst (v := (0 : Int32)) hx hb dX12_block_28 (by decide) ?_
      obtain ⟨⟨v5, σ6⟩, hc_v5, h⟩ := bd_some h
      refine mcallQ (wf := (mW a cs)) (va_runV (As := [.int (3 : Int32), .int x1, .int x2, .int x3, .int x4, .int x5, .int (0 : Int32)]) (rest := []) ⟨hx, hb, hml, hown, hts⟩ (kX12_add l D cs a σ F (3 : Int32) x1 x2 x3 x4 x5 (0 : Int32) v5 σ6 hc_v5 _) (cwV 7 hts gX12_block_X12_add rfl rfl rfl (by decide +kernel) ⟨Nat.le_of_ble_eq_true rfl, Nat.le_of_ble_eq_true rfl⟩) (pQ_v hP hK hD (va_recv hK.1 hP (ci := 11) (q0 := 0) rfl rfl)) rfl rfl hl.1 rfl (lv_room (Nat.le_of_ble_eq_true rfl)) dX12_block_29 ⟨Nat.zero_le _, Nat.zero_le _⟩) hD hS hA (fun H locs hP hD hS => ?_)
      refine lv_goto (tgt := 36) hx hb dX12_block_32 (by decide) ?_
      exact mretQ hx hb hr hlk h hP hD hS dX12_block_36
