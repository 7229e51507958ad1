def fJ6_numberOfTrailingZeros_0f7a4_J74 (x0 : Int32) (x1 : Int32) : Option Int32 :=
  some (x1 + ((x0.toUInt32 >>> ((1 : Int32).toUInt32 &&& Int32.toUInt32 31)).toInt32))
def fJ6_numberOfTrailingZeros_0f7a4_J62 (x0 : Int32) (x1 : Int32) : Option Int32 :=
  if x0 ≤ (4 : Int32) then (fJ6_numberOfTrailingZeros_0f7a4_J74 x0 x1) else (nm ((x0.toUInt32 >>> ((2 : Int32).toUInt32 &&& Int32.toUInt32 31)).toInt32) fun z7 => fJ6_numberOfTrailingZeros_0f7a4_J74 z7 (x1 + (2 : Int32)))
def fJ6_numberOfTrailingZeros_0f7a4_J49 (x0 : Int32) (x1 : Int32) : Option Int32 :=
  if x0 ≤ (16 : Int32) then (fJ6_numberOfTrailingZeros_0f7a4_J62 x0 x1) else (nm ((x0.toUInt32 >>> ((4 : Int32).toUInt32 &&& Int32.toUInt32 31)).toInt32) fun z6 => fJ6_numberOfTrailingZeros_0f7a4_J62 z6 (x1 + (4 : Int32)))
def fJ6_numberOfTrailingZeros_0f7a4_J34 (x0 : Int32) (x1 : Int32) : Option Int32 :=
  if x0 ≤ (256 : Int32) then (fJ6_numberOfTrailingZeros_0f7a4_J49 x0 x1) else (nm ((x0.toUInt32 >>> ((8 : Int32).toUInt32 &&& Int32.toUInt32 31)).toInt32) fun z5 => fJ6_numberOfTrailingZeros_0f7a4_J49 z5 (x1 + (8 : Int32)))
def fJ6_numberOfTrailingZeros_0f7a4 (x0 : Int32) : Option Int32 :=
  nm ((x0 ^^^ ((-1) : Int32)) &&& (x0 - (1 : Int32))) fun z1 => if 0 < z1 then (if z1 ≤ (65536 : Int32) then (fJ6_numberOfTrailingZeros_0f7a4_J34 z1 (1 : Int32)) else (nm ((z1.toUInt32 >>> ((16 : Int32).toUInt32 &&& Int32.toUInt32 31)).toInt32) fun z4 => fJ6_numberOfTrailingZeros_0f7a4_J34 z4 ((1 : Int32) + (16 : Int32)))) else (some (z1 &&& (32 : Int32)))
abbrev rmJ6_numberOfTrailingZeros_0f7a4 : Room := { frames := 0, cells := 0, slots := 0, locals := 0 }
set_option maxHeartbeats 4000000 in
set_option maxRecDepth 100000 in
theorem wJ6_numberOfTrailingZeros_0f7a4_J74 {p : Program} {l : Launch} {e : Env} {s : State} {m : MethodId} {args : Array Value} {below : List Frame} {meth : Method} {c : Code} (C : cxt p s m args meth c cJ6_numberOfTrailingZeros_0f7a4 2 RJ6 wsJ6_numberOfTrailingZeros_0f7a4 (some .int)) (r : Int32) (x0 : Int32) (x1 : Int32) (ls : Array Slot) (hl : lv_has ls 2 [(0, .int x0), (1, .int x1)]) (h : fJ6_numberOfTrailingZeros_0f7a4_J74 x0 x1 = some r) : W p l e rmJ6_numberOfTrailingZeros_0f7a4 s m args below meth c s.heap [] 0 0 (MQ below (vp_Si (fun x => x = r)) args s 0 0 (fun _ => False)) (F0 m 74 ls []) := by
  obtain ⟨hx, hb, hml, hown, hts, hr, hlk⟩ := id C
  unfold fJ6_numberOfTrailingZeros_0f7a4_J74 at h
  refine lv_iload_n hx hb dJ6_numberOfTrailingZeros_0f7a4_74 rfl (lv_at hl 1 rfl) ?_
  refine lv_iload_n hx hb dJ6_numberOfTrailingZeros_0f7a4_75 rfl (lv_at hl 0 rfl) ?_
  refine lv_iconst (v := (1 : Int32)) hx hb dJ6_numberOfTrailingZeros_0f7a4_76 (by decide) ?_
  refine lv_iushr hx hb dJ6_numberOfTrailingZeros_0f7a4_77 rfl ?_
  refine lv_iadd hx hb dJ6_numberOfTrailingZeros_0f7a4_78 ?_
  exact mretS hx hb hr hlk h dJ6_numberOfTrailingZeros_0f7a4_79
set_option maxHeartbeats 4000000 in
set_option maxRecDepth 100000 in
theorem wJ6_numberOfTrailingZeros_0f7a4_J62 {p : Program} {l : Launch} {e : Env} {s : State} {m : MethodId} {args : Array Value} {below : List Frame} {meth : Method} {c : Code} (C : cxt p s m args meth c cJ6_numberOfTrailingZeros_0f7a4 2 RJ6 wsJ6_numberOfTrailingZeros_0f7a4 (some .int)) (r : Int32) (x0 : Int32) (x1 : Int32) (ls : Array Slot) (hl : lv_has ls 2 [(0, .int x0), (1, .int x1)]) (h : fJ6_numberOfTrailingZeros_0f7a4_J62 x0 x1 = some r) : W p l e rmJ6_numberOfTrailingZeros_0f7a4 s m args below meth c s.heap [] 0 0 (MQ below (vp_Si (fun x => x = r)) args s 0 0 (fun _ => False)) (F0 m 62 ls []) := by
  obtain ⟨hx, hb, hml, hown, hts, hr, hlk⟩ := id C
  unfold fJ6_numberOfTrailingZeros_0f7a4_J62 at h
  refine lv_iload_n hx hb dJ6_numberOfTrailingZeros_0f7a4_62 rfl (lv_at hl 0 rfl) ?_
  refine lv_iconst (v := (4 : Int32)) hx hb dJ6_numberOfTrailingZeros_0f7a4_63 (by decide) ?_
  refine lv_icmp_le (tgt := 74) hx hb dJ6_numberOfTrailingZeros_0f7a4_64 (by decide) (fun c6 => ?_) (fun c6 => ?_)
  · have h := it_t c6 h
    exact wJ6_numberOfTrailingZeros_0f7a4_J74 C  r x0 x1 ls (lv_sub hl [0, 1] rfl) h
  · have h := it_f c6 h
    refine lv_iinc (v := x1 + (2 : Int32)) (lv' := [(1, .int (x1 + (2 : Int32))), (0, .int x0)]) hx hb dJ6_numberOfTrailingZeros_0f7a4_67 hl (k := 1) rfl rfl (by decide) rfl (fun ls hl => ?_)
    refine lv_iload_n hx hb dJ6_numberOfTrailingZeros_0f7a4_70 rfl (lv_at hl 1 rfl) ?_
    refine lv_iconst (v := (2 : Int32)) hx hb dJ6_numberOfTrailingZeros_0f7a4_71 (by decide) ?_
    refine lv_iushr hx hb dJ6_numberOfTrailingZeros_0f7a4_72 rfl ?_
    obtain ⟨z7, e_z7, h⟩ := nm_some h
    refine tpi e_z7 ?_
    refine lv_istore_n (lv' := [(0, .int z7), (1, .int (x1 + (2 : Int32)))]) hx hb dJ6_numberOfTrailingZeros_0f7a4_73 rfl hl (by decide) rfl (fun ls hl => ?_)
    exact wJ6_numberOfTrailingZeros_0f7a4_J74 C  r z7 (x1 + (2 : Int32)) ls (lv_sub hl [0, 1] rfl) h
set_option maxHeartbeats 4000000 in
set_option maxRecDepth 100000 in
theorem wJ6_numberOfTrailingZeros_0f7a4_J49 {p : Program} {l : Launch} {e : Env} {s : State} {m : MethodId} {args : Array Value} {below : List Frame} {meth : Method} {c : Code} (C : cxt p s m args meth c cJ6_numberOfTrailingZeros_0f7a4 2 RJ6 wsJ6_numberOfTrailingZeros_0f7a4 (some .int)) (r : Int32) (x0 : Int32) (x1 : Int32) (ls : Array Slot) (hl : lv_has ls 2 [(0, .int x0), (1, .int x1)]) (h : fJ6_numberOfTrailingZeros_0f7a4_J49 x0 x1 = some r) : W p l e rmJ6_numberOfTrailingZeros_0f7a4 s m args below meth c s.heap [] 0 0 (MQ below (vp_Si (fun x => x = r)) args s 0 0 (fun _ => False)) (F0 m 49 ls []) := by
  obtain ⟨hx, hb, hml, hown, hts, hr, hlk⟩ := id C
  unfold fJ6_numberOfTrailingZeros_0f7a4_J49 at h
  refine lv_iload_n hx hb dJ6_numberOfTrailingZeros_0f7a4_49 rfl (lv_at hl 0 rfl) ?_
  refine lv_bipush (v := (16 : Int32)) hx hb dJ6_numberOfTrailingZeros_0f7a4_50 (by decide) ?_
  refine lv_icmp_le (tgt := 62) hx hb dJ6_numberOfTrailingZeros_0f7a4_52 (by decide) (fun c5 => ?_) (fun c5 => ?_)
  · have h := it_t c5 h
    exact wJ6_numberOfTrailingZeros_0f7a4_J62 C  r x0 x1 ls (lv_sub hl [0, 1] rfl) h
  · have h := it_f c5 h
    refine lv_iinc (v := x1 + (4 : Int32)) (lv' := [(1, .int (x1 + (4 : Int32))), (0, .int x0)]) hx hb dJ6_numberOfTrailingZeros_0f7a4_55 hl (k := 1) rfl rfl (by decide) rfl (fun ls hl => ?_)
    refine lv_iload_n hx hb dJ6_numberOfTrailingZeros_0f7a4_58 rfl (lv_at hl 1 rfl) ?_
    refine lv_iconst (v := (4 : Int32)) hx hb dJ6_numberOfTrailingZeros_0f7a4_59 (by decide) ?_
    refine lv_iushr hx hb dJ6_numberOfTrailingZeros_0f7a4_60 rfl ?_
    obtain ⟨z6, e_z6, h⟩ := nm_some h
    refine tpi e_z6 ?_
    refine lv_istore_n (lv' := [(0, .int z6), (1, .int (x1 + (4 : Int32)))]) hx hb dJ6_numberOfTrailingZeros_0f7a4_61 rfl hl (by decide) rfl (fun ls hl => ?_)
    exact wJ6_numberOfTrailingZeros_0f7a4_J62 C  r z6 (x1 + (4 : Int32)) ls (lv_sub hl [0, 1] rfl) h
set_option maxHeartbeats 4000000 in
set_option maxRecDepth 100000 in
theorem wJ6_numberOfTrailingZeros_0f7a4_J34 {p : Program} {l : Launch} {e : Env} {s : State} {m : MethodId} {args : Array Value} {below : List Frame} {meth : Method} {c : Code} (C : cxt p s m args meth c cJ6_numberOfTrailingZeros_0f7a4 2 RJ6 wsJ6_numberOfTrailingZeros_0f7a4 (some .int)) (r : Int32) (x0 : Int32) (x1 : Int32) (ls : Array Slot) (hl : lv_has ls 2 [(0, .int x0), (1, .int x1)]) (h : fJ6_numberOfTrailingZeros_0f7a4_J34 x0 x1 = some r) : W p l e rmJ6_numberOfTrailingZeros_0f7a4 s m args below meth c s.heap [] 0 0 (MQ below (vp_Si (fun x => x = r)) args s 0 0 (fun _ => False)) (F0 m 34 ls []) := by
  obtain ⟨hx, hb, hml, hown, hts, hr, hlk⟩ := id C
  unfold fJ6_numberOfTrailingZeros_0f7a4_J34 at h
  refine lv_iload_n hx hb dJ6_numberOfTrailingZeros_0f7a4_34 rfl (lv_at hl 0 rfl) ?_
  refine lv_sipush (v := (256 : Int32)) hx hb dJ6_numberOfTrailingZeros_0f7a4_35 (by decide) ?_
  refine lv_icmp_le (tgt := 49) hx hb dJ6_numberOfTrailingZeros_0f7a4_38 (by decide) (fun c4 => ?_) (fun c4 => ?_)
  · have h := it_t c4 h
    exact wJ6_numberOfTrailingZeros_0f7a4_J49 C  r x0 x1 ls (lv_sub hl [0, 1] rfl) h
  · have h := it_f c4 h
    refine lv_iinc (v := x1 + (8 : Int32)) (lv' := [(1, .int (x1 + (8 : Int32))), (0, .int x0)]) hx hb dJ6_numberOfTrailingZeros_0f7a4_41 hl (k := 1) rfl rfl (by decide) rfl (fun ls hl => ?_)
    refine lv_iload_n hx hb dJ6_numberOfTrailingZeros_0f7a4_44 rfl (lv_at hl 1 rfl) ?_
    refine lv_bipush (v := (8 : Int32)) hx hb dJ6_numberOfTrailingZeros_0f7a4_45 (by decide) ?_
    refine lv_iushr hx hb dJ6_numberOfTrailingZeros_0f7a4_47 rfl ?_
    obtain ⟨z5, e_z5, h⟩ := nm_some h
    refine tpi e_z5 ?_
    refine lv_istore_n (lv' := [(0, .int z5), (1, .int (x1 + (8 : Int32)))]) hx hb dJ6_numberOfTrailingZeros_0f7a4_48 rfl hl (by decide) rfl (fun ls hl => ?_)
    exact wJ6_numberOfTrailingZeros_0f7a4_J49 C  r z5 (x1 + (8 : Int32)) ls (lv_sub hl [0, 1] rfl) h
set_option maxHeartbeats 4000000 in
set_option maxRecDepth 100000 in
theorem kJ6_numberOfTrailingZeros_0f7a4 (l : Launch) (x0 : Int32) (r : Int32) (h : fJ6_numberOfTrailingZeros_0f7a4 x0 = some r) : Met l yJ6_numberOfTrailingZeros_0f7a4 wsJ6_numberOfTrailingZeros_0f7a4 rmJ6_numberOfTrailingZeros_0f7a4 (va_Pc [.int x0] (p0)) (vp_Si (fun x => x = r)) 0 0 (fun _ => False) := by
  refine Met.ofW (cc := cJ6_numberOfTrailingZeros_0f7a4) (maxL := 2) (ret := (some .int)) (by decide) rfl ?_
  intro p e s m args below meth c s₁ B hml hv
  obtain ⟨rfl, -⟩ := hv
  have C : cxt p s m _ meth c cJ6_numberOfTrailingZeros_0f7a4 2 RJ6 wsJ6_numberOfTrailingZeros_0f7a4 (some .int) := ⟨B.exec, B.bytes, hml, findClass_of_methodNamed B.named, atoms_spec (ws := wsJ6_numberOfTrailingZeros_0f7a4) B.pre, B.returns, B.notSynchronized⟩
  obtain ⟨hx, hb, -, hown, hts, hr, hlk⟩ := id C
  refine entryW [.int x0] (n := 2) (Nat.le_of_ble_eq_true rfl) (fun ls hl => ?_)
  have hl : lv_has ls 2 [(0, .int x0)] := hl
  unfold fJ6_numberOfTrailingZeros_0f7a4 at h
  refine lv_iload_n hx hb dJ6_numberOfTrailingZeros_0f7a4_0 rfl (lv_at hl 0 rfl) ?_
  refine lv_iconst (v := ((-1) : Int32)) hx hb dJ6_numberOfTrailingZeros_0f7a4_1 (by decide) ?_
  refine lv_ixor hx hb dJ6_numberOfTrailingZeros_0f7a4_2 ?_
  refine lv_iload_n hx hb dJ6_numberOfTrailingZeros_0f7a4_3 rfl (lv_at hl 0 rfl) ?_
  refine lv_iconst (v := (1 : Int32)) hx hb dJ6_numberOfTrailingZeros_0f7a4_4 (by decide) ?_
  refine lv_isub hx hb dJ6_numberOfTrailingZeros_0f7a4_5 ?_
  refine lv_iand hx hb dJ6_numberOfTrailingZeros_0f7a4_6 ?_
  obtain ⟨z1, e_z1, h⟩ := nm_some h
  refine tpi e_z1 ?_
  refine lv_istore_n (lv' := [(0, .int z1)]) hx hb dJ6_numberOfTrailingZeros_0f7a4_7 rfl hl (by decide) rfl (fun ls hl => ?_)
  refine lv_iload_n hx hb dJ6_numberOfTrailingZeros_0f7a4_8 rfl (lv_at hl 0 rfl) ?_
  refine lv_if_gt (tgt := 17) hx hb dJ6_numberOfTrailingZeros_0f7a4_9 (by decide) (fun c2 => ?_) (fun c2 => ?_)
  · have h := it_t c2 h
    refine lv_iconst (v := (1 : Int32)) hx hb dJ6_numberOfTrailingZeros_0f7a4_17 (by decide) ?_
    refine lv_istore_n (lv' := [(1, .int (1 : Int32)), (0, .int z1)]) hx hb dJ6_numberOfTrailingZeros_0f7a4_18 rfl hl (by decide) rfl (fun ls hl => ?_)
    refine lv_iload_n hx hb dJ6_numberOfTrailingZeros_0f7a4_19 rfl (lv_at hl 1 rfl) ?_
    refine lv_ldcw hx hb hown (hts (.constant RJ6 264 (65536)) (by decide +kernel)) dJ6_numberOfTrailingZeros_0f7a4_20 ?_
    refine lv_icmp_le (tgt := 34) hx hb dJ6_numberOfTrailingZeros_0f7a4_23 (by decide) (fun c3 => ?_) (fun c3 => ?_)
    · have h := it_t c3 h
      exact wJ6_numberOfTrailingZeros_0f7a4_J34 C  r z1 (1 : Int32) ls (lv_sub hl [1, 0] rfl) h
    · have h := it_f c3 h
      refine lv_iinc (v := (1 : Int32) + (16 : Int32)) (lv' := [(1, .int ((1 : Int32) + (16 : Int32))), (0, .int z1)]) hx hb dJ6_numberOfTrailingZeros_0f7a4_26 hl (k := 0) rfl rfl (by decide) rfl (fun ls hl => ?_)
      refine lv_iload_n hx hb dJ6_numberOfTrailingZeros_0f7a4_29 rfl (lv_at hl 1 rfl) ?_
      refine lv_bipush (v := (16 : Int32)) hx hb dJ6_numberOfTrailingZeros_0f7a4_30 (by decide) ?_
      refine lv_iushr hx hb dJ6_numberOfTrailingZeros_0f7a4_32 rfl ?_
      obtain ⟨z4, e_z4, h⟩ := nm_some h
      refine tpi e_z4 ?_
      refine lv_istore_n (lv' := [(0, .int z4), (1, .int ((1 : Int32) + (16 : Int32)))]) hx hb dJ6_numberOfTrailingZeros_0f7a4_33 rfl hl (by decide) rfl (fun ls hl => ?_)
      exact wJ6_numberOfTrailingZeros_0f7a4_J34 C  r z4 ((1 : Int32) + (16 : Int32)) ls (lv_sub hl [0, 1] rfl) h
  · have h := it_f c2 h
    refine lv_iload_n hx hb dJ6_numberOfTrailingZeros_0f7a4_12 rfl (lv_at hl 0 rfl) ?_
    refine lv_bipush (v := (32 : Int32)) hx hb dJ6_numberOfTrailingZeros_0f7a4_13 (by decide) ?_
    refine lv_iand hx hb dJ6_numberOfTrailingZeros_0f7a4_15 ?_
    exact mretS hx hb hr hlk h dJ6_numberOfTrailingZeros_0f7a4_16
def fJ6_bitCount_0f7a4 (x0 : Int32) : Option Int32 :=
  nm (x0 - (((x0.toUInt32 >>> ((1 : Int32).toUInt32 &&& Int32.toUInt32 31)).toInt32) &&& (1431655765 : Int32))) fun z1 => nm ((z1 &&& (858993459 : Int32)) + (((z1.toUInt32 >>> ((2 : Int32).toUInt32 &&& Int32.toUInt32 31)).toInt32) &&& (858993459 : Int32))) fun z2 => nm ((z2 + ((z2.toUInt32 >>> ((4 : Int32).toUInt32 &&& Int32.toUInt32 31)).toInt32)) &&& (252645135 : Int32)) fun z3 => nm (z3 + ((z3.toUInt32 >>> ((8 : Int32).toUInt32 &&& Int32.toUInt32 31)).toInt32)) fun z4 => nm (z4 + ((z4.toUInt32 >>> ((16 : Int32).toUInt32 &&& Int32.toUInt32 31)).toInt32)) fun z5 => some (z5 &&& (63 : Int32))
abbrev rmJ6_bitCount_0f7a4 : Room := { frames := 0, cells := 0, slots := 0, locals := 0 }
set_option maxHeartbeats 4000000 in
set_option maxRecDepth 100000 in
theorem kJ6_bitCount_0f7a4 (l : Launch) (x0 : Int32) (r : Int32) (h : fJ6_bitCount_0f7a4 x0 = some r) : Met l yJ6_bitCount_0f7a4 wsJ6_bitCount_0f7a4 rmJ6_bitCount_0f7a4 (va_Pc [.int x0] (p0)) (vp_Si (fun x => x = r)) 0 0 (fun _ => False) := by
  refine Met.ofW (cc := cJ6_bitCount_0f7a4) (maxL := 1) (ret := (some .int)) (by decide) rfl ?_
  intro p e s m args below meth c s₁ B hml hv
  obtain ⟨rfl, -⟩ := hv
  have C : cxt p s m _ meth c cJ6_bitCount_0f7a4 1 RJ6 wsJ6_bitCount_0f7a4 (some .int) := ⟨B.exec, B.bytes, hml, findClass_of_methodNamed B.named, atoms_spec (ws := wsJ6_bitCount_0f7a4) B.pre, B.returns, B.notSynchronized⟩
  obtain ⟨hx, hb, -, hown, hts, hr, hlk⟩ := id C
  refine entryW [.int x0] (n := 1) (Nat.le_of_ble_eq_true rfl) (fun ls hl => ?_)
  have hl : lv_has ls 1 [(0, .int x0)] := hl
  unfold fJ6_bitCount_0f7a4 at h
  refine lv_iload_n hx hb dJ6_bitCount_0f7a4_0 rfl (lv_at hl 0 rfl) ?_
  refine lv_iload_n hx hb dJ6_bitCount_0f7a4_1 rfl (lv_at hl 0 rfl) ?_
  refine lv_iconst (v := (1 : Int32)) hx hb dJ6_bitCount_0f7a4_2 (by decide) ?_
  refine lv_iushr hx hb dJ6_bitCount_0f7a4_3 rfl ?_
  refine lv_ldcw hx hb hown (hts (.constant RJ6 265 (1431655765)) (by decide +kernel)) dJ6_bitCount_0f7a4_4 ?_
  refine lv_iand hx hb dJ6_bitCount_0f7a4_7 ?_
  refine lv_isub hx hb dJ6_bitCount_0f7a4_8 ?_
  obtain ⟨z1, e_z1, h⟩ := nm_some h
  refine tpi e_z1 ?_
  refine lv_istore_n (lv' := [(0, .int z1)]) hx hb dJ6_bitCount_0f7a4_9 rfl hl (by decide) rfl (fun ls hl => ?_)
  refine lv_iload_n hx hb dJ6_bitCount_0f7a4_10 rfl (lv_at hl 0 rfl) ?_
  refine lv_ldcw hx hb hown (hts (.constant RJ6 266 (858993459)) (by decide +kernel)) dJ6_bitCount_0f7a4_11 ?_
  refine lv_iand hx hb dJ6_bitCount_0f7a4_14 ?_
  refine lv_iload_n hx hb dJ6_bitCount_0f7a4_15 rfl (lv_at hl 0 rfl) ?_
  refine lv_iconst (v := (2 : Int32)) hx hb dJ6_bitCount_0f7a4_16 (by decide) ?_
  refine lv_iushr hx hb dJ6_bitCount_0f7a4_17 rfl ?_
  refine lv_ldcw hx hb hown (hts (.constant RJ6 266 (858993459)) (by decide +kernel)) dJ6_bitCount_0f7a4_18 ?_
  refine lv_iand hx hb dJ6_bitCount_0f7a4_21 ?_
  refine lv_iadd hx hb dJ6_bitCount_0f7a4_22 ?_
  obtain ⟨z2, e_z2, h⟩ := nm_some h
  refine tpi e_z2 ?_
  refine lv_istore_n (lv' := [(0, .int z2)]) hx hb dJ6_bitCount_0f7a4_23 rfl hl (by decide) rfl (fun ls hl => ?_)
  refine lv_iload_n hx hb dJ6_bitCount_0f7a4_24 rfl (lv_at hl 0 rfl) ?_
  refine lv_iload_n hx hb dJ6_bitCount_0f7a4_25 rfl (lv_at hl 0 rfl) ?_
  refine lv_iconst (v := (4 : Int32)) hx hb dJ6_bitCount_0f7a4_26 (by decide) ?_
  refine lv_iushr hx hb dJ6_bitCount_0f7a4_27 rfl ?_
  refine lv_iadd hx hb dJ6_bitCount_0f7a4_28 ?_
  refine lv_ldcw hx hb hown (hts (.constant RJ6 267 (252645135)) (by decide +kernel)) dJ6_bitCount_0f7a4_29 ?_
  refine lv_iand hx hb dJ6_bitCount_0f7a4_32 ?_
  obtain ⟨z3, e_z3, h⟩ := nm_some h
  refine tpi e_z3 ?_
  refine lv_istore_n (lv' := [(0, .int z3)]) hx hb dJ6_bitCount_0f7a4_33 rfl hl (by decide) rfl (fun ls hl => ?_)
  refine lv_iload_n hx hb dJ6_bitCount_0f7a4_34 rfl (lv_at hl 0 rfl) ?_
  refine lv_iload_n hx hb dJ6_bitCount_0f7a4_35 rfl (lv_at hl 0 rfl) ?_
  refine lv_bipush (v := (8 : Int32)) hx hb dJ6_bitCount_0f7a4_36 (by decide) ?_
  refine lv_iushr hx hb dJ6_bitCount_0f7a4_38 rfl ?_
  refine lv_iadd hx hb dJ6_bitCount_0f7a4_39 ?_
  obtain ⟨z4, e_z4, h⟩ := nm_some h
  refine tpi e_z4 ?_
  refine lv_istore_n (lv' := [(0, .int z4)]) hx hb dJ6_bitCount_0f7a4_40 rfl hl (by decide) rfl (fun ls hl => ?_)
  refine lv_iload_n hx hb dJ6_bitCount_0f7a4_41 rfl (lv_at hl 0 rfl) ?_
  refine lv_iload_n hx hb dJ6_bitCount_0f7a4_42 rfl (lv_at hl 0 rfl) ?_
  refine lv_bipush (v := (16 : Int32)) hx hb dJ6_bitCount_0f7a4_43 (by decide) ?_
  refine lv_iushr hx hb dJ6_bitCount_0f7a4_45 rfl ?_
  refine lv_iadd hx hb dJ6_bitCount_0f7a4_46 ?_
  obtain ⟨z5, e_z5, h⟩ := nm_some h
  refine tpi e_z5 ?_
  refine lv_istore_n (lv' := [(0, .int z5)]) hx hb dJ6_bitCount_0f7a4_47 rfl hl (by decide) rfl (fun ls hl => ?_)
  refine lv_iload_n hx hb dJ6_bitCount_0f7a4_48 rfl (lv_at hl 0 rfl) ?_
  refine lv_bipush (v := (63 : Int32)) hx hb dJ6_bitCount_0f7a4_49 (by decide) ?_
  refine lv_iand hx hb dJ6_bitCount_0f7a4_51 ?_
  exact mretS hx hb hr hlk h dJ6_bitCount_0f7a4_52
def fJ13_bitCount_95d88 (x0 : Int64) : Option Int32 :=
  nm (x0 - (((x0.toUInt64 >>> ((1 : Int32).toInt64.toUInt64 &&& Int64.toUInt64 63)).toInt64) &&& (6148914691236517205 : Int64))) fun z1 => nm ((z1 &&& (3689348814741910323 : Int64)) + (((z1.toUInt64 >>> ((2 : Int32).toInt64.toUInt64 &&& Int64.toUInt64 63)).toInt64) &&& (3689348814741910323 : Int64))) fun z2 => nm ((z2 + ((z2.toUInt64 >>> ((4 : Int32).toInt64.toUInt64 &&& Int64.toUInt64 63)).toInt64)) &&& (1085102592571150095 : Int64)) fun z3 => nm (z3 + ((z3.toUInt64 >>> ((8 : Int32).toInt64.toUInt64 &&& Int64.toUInt64 63)).toInt64)) fun z4 => nm (z4 + ((z4.toUInt64 >>> ((16 : Int32).toInt64.toUInt64 &&& Int64.toUInt64 63)).toInt64)) fun z5 => nm (z5 + ((z5.toUInt64 >>> ((32 : Int32).toInt64.toUInt64 &&& Int64.toUInt64 63)).toInt64)) fun z6 => some (z6.toInt32 &&& (127 : Int32))
abbrev rmJ13_bitCount_95d88 : Room := { frames := 0, cells := 0, slots := 0, locals := 0 }
set_option maxHeartbeats 4000000 in
set_option maxRecDepth 100000 in
theorem kJ13_bitCount_95d88 (l : Launch) (x0 : Int64) (r : Int32) (h : fJ13_bitCount_95d88 x0 = some r) : Met l yJ13_bitCount_95d88 wsJ13_bitCount_95d88 rmJ13_bitCount_95d88 (va_Pc [.long x0] (p0)) (vp_Si (fun x => x = r)) 0 0 (fun _ => False) := by
  refine Met.ofW (cc := cJ13_bitCount_95d88) (maxL := 2) (ret := (some .int)) (by decide) rfl ?_
  intro p e s m args below meth c s₁ B hml hv
  obtain ⟨rfl, -⟩ := hv
  have C : cxt p s m _ meth c cJ13_bitCount_95d88 2 RJ13 wsJ13_bitCount_95d88 (some .int) := ⟨B.exec, B.bytes, hml, findClass_of_methodNamed B.named, atoms_spec (ws := wsJ13_bitCount_95d88) B.pre, B.returns, B.notSynchronized⟩
  obtain ⟨hx, hb, -, hown, hts, hr, hlk⟩ := id C
  refine entryW [.long x0] (n := 2) (Nat.le_of_ble_eq_true rfl) (fun ls hl => ?_)
  have hl : lv_has ls 2 [(0, .long x0)] := hl
  unfold fJ13_bitCount_95d88 at h
  refine lv_lload_n hx hb dJ13_bitCount_95d88_0 rfl (lv_at hl 0 rfl) ?_
  refine lv_lload_n hx hb dJ13_bitCount_95d88_1 rfl (lv_at hl 0 rfl) ?_
  refine lv_iconst (v := (1 : Int32)) hx hb dJ13_bitCount_95d88_2 (by decide) ?_
  refine lv_lushr hx hb dJ13_bitCount_95d88_3 rfl ?_
  refine lv_ldc2 hx hb hown (hts (.constantLong RJ13 314 (6148914691236517205)) (by decide +kernel)) dJ13_bitCount_95d88_4 ?_
  refine lv_land hx hb dJ13_bitCount_95d88_7 ?_
  refine lv_lsub hx hb dJ13_bitCount_95d88_8 ?_
  obtain ⟨z1, e_z1, h⟩ := nm_some h
  refine tpl e_z1 ?_
  refine lv_lstore_n (lv' := [(0, .long z1)]) hx hb dJ13_bitCount_95d88_9 rfl hl (by decide) rfl (fun ls hl => ?_)
  refine lv_lload_n hx hb dJ13_bitCount_95d88_10 rfl (lv_at hl 0 rfl) ?_
  refine lv_ldc2 hx hb hown (hts (.constantLong RJ13 316 (3689348814741910323)) (by decide +kernel)) dJ13_bitCount_95d88_11 ?_
  refine lv_land hx hb dJ13_bitCount_95d88_14 ?_
  refine lv_lload_n hx hb dJ13_bitCount_95d88_15 rfl (lv_at hl 0 rfl) ?_
  refine lv_iconst (v := (2 : Int32)) hx hb dJ13_bitCount_95d88_16 (by decide) ?_
  refine lv_lushr hx hb dJ13_bitCount_95d88_17 rfl ?_
  refine lv_ldc2 hx hb hown (hts (.constantLong RJ13 316 (3689348814741910323)) (by decide +kernel)) dJ13_bitCount_95d88_18 ?_
  refine lv_land hx hb dJ13_bitCount_95d88_21 ?_
  refine lv_ladd hx hb dJ13_bitCount_95d88_22 ?_
  obtain ⟨z2, e_z2, h⟩ := nm_some h
  refine tpl e_z2 ?_
  refine lv_lstore_n (lv' := [(0, .long z2)]) hx hb dJ13_bitCount_95d88_23 rfl hl (by decide) rfl (fun ls hl => ?_)
  refine lv_lload_n hx hb dJ13_bitCount_95d88_24 rfl (lv_at hl 0 rfl) ?_
  refine lv_lload_n hx hb dJ13_bitCount_95d88_25 rfl (lv_at hl 0 rfl) ?_
  refine lv_iconst (v := (4 : Int32)) hx hb dJ13_bitCount_95d88_26 (by decide) ?_
  refine lv_lushr hx hb dJ13_bitCount_95d88_27 rfl ?_
  refine lv_ladd hx hb dJ13_bitCount_95d88_28 ?_
  refine lv_ldc2 hx hb hown (hts (.constantLong RJ13 318 (1085102592571150095)) (by decide +kernel)) dJ13_bitCount_95d88_29 ?_
  refine lv_land hx hb dJ13_bitCount_95d88_32 ?_
  obtain ⟨z3, e_z3, h⟩ := nm_some h
  refine tpl e_z3 ?_
  refine lv_lstore_n (lv' := [(0, .long z3)]) hx hb dJ13_bitCount_95d88_33 rfl hl (by decide) rfl (fun ls hl => ?_)
  refine lv_lload_n hx hb dJ13_bitCount_95d88_34 rfl (lv_at hl 0 rfl) ?_
  refine lv_lload_n hx hb dJ13_bitCount_95d88_35 rfl (lv_at hl 0 rfl) ?_
  refine lv_bipush (v := (8 : Int32)) hx hb dJ13_bitCount_95d88_36 (by decide) ?_
  refine lv_lushr hx hb dJ13_bitCount_95d88_38 rfl ?_
  refine lv_ladd hx hb dJ13_bitCount_95d88_39 ?_
  obtain ⟨z4, e_z4, h⟩ := nm_some h
  refine tpl e_z4 ?_
  refine lv_lstore_n (lv' := [(0, .long z4)]) hx hb dJ13_bitCount_95d88_40 rfl hl (by decide) rfl (fun ls hl => ?_)
  refine lv_lload_n hx hb dJ13_bitCount_95d88_41 rfl (lv_at hl 0 rfl) ?_
  refine lv_lload_n hx hb dJ13_bitCount_95d88_42 rfl (lv_at hl 0 rfl) ?_
  refine lv_bipush (v := (16 : Int32)) hx hb dJ13_bitCount_95d88_43 (by decide) ?_
  refine lv_lushr hx hb dJ13_bitCount_95d88_45 rfl ?_
  refine lv_ladd hx hb dJ13_bitCount_95d88_46 ?_
  obtain ⟨z5, e_z5, h⟩ := nm_some h
  refine tpl e_z5 ?_
  refine lv_lstore_n (lv' := [(0, .long z5)]) hx hb dJ13_bitCount_95d88_47 rfl hl (by decide) rfl (fun ls hl => ?_)
  refine lv_lload_n hx hb dJ13_bitCount_95d88_48 rfl (lv_at hl 0 rfl) ?_
  refine lv_lload_n hx hb dJ13_bitCount_95d88_49 rfl (lv_at hl 0 rfl) ?_
  refine lv_bipush (v := (32 : Int32)) hx hb dJ13_bitCount_95d88_50 (by decide) ?_
  refine lv_lushr hx hb dJ13_bitCount_95d88_52 rfl ?_
  refine lv_ladd hx hb dJ13_bitCount_95d88_53 ?_
  obtain ⟨z6, e_z6, h⟩ := nm_some h
  refine tpl e_z6 ?_
  refine lv_lstore_n (lv' := [(0, .long z6)]) hx hb dJ13_bitCount_95d88_54 rfl hl (by decide) rfl (fun ls hl => ?_)
  refine lv_lload_n hx hb dJ13_bitCount_95d88_55 rfl (lv_at hl 0 rfl) ?_
  refine lv_l2i hx hb dJ13_bitCount_95d88_56 rfl ?_
  refine lv_bipush (v := (127 : Int32)) hx hb dJ13_bitCount_95d88_57 (by decide) ?_
  refine lv_iand hx hb dJ13_bitCount_95d88_59 ?_
  exact mretS hx hb hr hlk h dJ13_bitCount_95d88_60
def fJ9_floorMod_7cf53 (x0 : Int32) (x1 : Int32) : Option Int32 :=
  dz x1 (if 0 ≤ (x0 ^^^ x1) then (some (x0 - x0 / x1 * x1)) else (if (x0 - x0 / x1 * x1) = 0 then (some (x0 - x0 / x1 * x1)) else (some ((x0 - x0 / x1 * x1) + x1))))
abbrev rmJ9_floorMod_7cf53 : Room := { frames := 0, cells := 0, slots := 0, locals := 0 }
set_option maxHeartbeats 4000000 in
set_option maxRecDepth 100000 in
theorem kJ9_floorMod_7cf53 (l : Launch) (x0 : Int32) (x1 : Int32) (r : Int32) (h : fJ9_floorMod_7cf53 x0 x1 = some r) : Met l yJ9_floorMod_7cf53 wsJ9_floorMod_7cf53 rmJ9_floorMod_7cf53 (va_Pc [.int x0, .int x1] (p0)) (vp_Si (fun x => x = r)) 0 0 (fun _ => False) := by
  refine metOfWF (cc := cJ9_floorMod_7cf53) (maxL := 3) (ret := (some .int)) (by decide +kernel) rfl ?_
  intro p e s m args below meth c s₁ B hml hv
  obtain ⟨rfl, -⟩ := hv
  have C : cxt p s m _ meth c cJ9_floorMod_7cf53 3 RJ9 wsJ9_floorMod_7cf53 (some .int) := ⟨B.exec, B.bytes, hml, findClass_of_methodNamed B.named, atoms_spec (ws := wsJ9_floorMod_7cf53) B.pre, B.returns, B.notSynchronized⟩
  obtain ⟨hx, hb, -, hown, hts, hr, hlk⟩ := id C
  refine entryW [.int x0, .int x1] (n := 3) (Nat.le_of_ble_eq_true rfl) (fun ls hl => ?_)
  have hl : lv_has ls 3 [(0, .int x0), (1, .int x1)] := hl
  unfold fJ9_floorMod_7cf53 at h
  refine lv_iload_n hx hb dJ9_floorMod_7cf53_0 rfl (lv_at hl 0 rfl) ?_
  refine lv_iload_n hx hb dJ9_floorMod_7cf53_1 rfl (lv_at hl 1 rfl) ?_
  obtain ⟨n1, h⟩ := dz_some h
  refine lv_irem hx hb dJ9_floorMod_7cf53_2 n1 ?_
  refine lv_istore_n (lv' := [(2, .int (x0 - x0 / x1 * x1)), (0, .int x0), (1, .int x1)]) hx hb dJ9_floorMod_7cf53_3 rfl hl (by decide) rfl (fun ls hl => ?_)
  refine lv_iload_n hx hb dJ9_floorMod_7cf53_4 rfl (lv_at hl 1 rfl) ?_
  refine lv_iload_n hx hb dJ9_floorMod_7cf53_5 rfl (lv_at hl 2 rfl) ?_
  refine lv_ixor hx hb dJ9_floorMod_7cf53_6 ?_
  refine lv_if_ge (tgt := 18) hx hb dJ9_floorMod_7cf53_7 (by decide) (fun c2 => ?_) (fun c2 => ?_)
  · have h := it_t c2 h
    refine lv_iload_n hx hb dJ9_floorMod_7cf53_18 rfl (lv_at hl 0 rfl) ?_
    exact mretS hx hb hr hlk h dJ9_floorMod_7cf53_19
  · have h := it_f c2 h
    refine lv_iload_n hx hb dJ9_floorMod_7cf53_10 rfl (lv_at hl 0 rfl) ?_
    refine lv_if_eq (tgt := 18) hx hb dJ9_floorMod_7cf53_11 (by decide) (fun c3 => ?_) (fun c3 => ?_)
    · have h := it_t c3 h
      refine lv_iload_n hx hb dJ9_floorMod_7cf53_18 rfl (lv_at hl 0 rfl) ?_
      exact mretS hx hb hr hlk h dJ9_floorMod_7cf53_19
    · have h := it_f c3 h
      refine lv_iload_n hx hb dJ9_floorMod_7cf53_14 rfl (lv_at hl 0 rfl) ?_
      refine lv_iload_n hx hb dJ9_floorMod_7cf53_15 rfl (lv_at hl 2 rfl) ?_
      refine lv_iadd hx hb dJ9_floorMod_7cf53_16 ?_
      exact mretS hx hb hr hlk h dJ9_floorMod_7cf53_17
def fX0_kind  : Option Int32 :=
  some (3 : Int32)
abbrev rmX0_kind : Room := { frames := 0, cells := 0, slots := 0, locals := 0 }
set_option maxHeartbeats 4000000 in
set_option maxRecDepth 100000 in
theorem kX0_kind (l : Launch) (q0 : Nat)  (r : Int32) (h : fX0_kind = some r) : Met l yX0_kind wsX0_kind rmX0_kind (va_Pc [.ref q0] (p0)) (vp_Si (fun x => x = r)) 0 0 (fun _ => False) := by
  refine Met.ofW (cc := cX0_kind) (maxL := 1) (ret := (some .int)) (by decide) rfl ?_
  intro p e s m args below meth c s₁ B hml hv
  obtain ⟨rfl, -⟩ := hv
  have C : cxt p s m _ meth c cX0_kind 1 RX0 wsX0_kind (some .int) := ⟨B.exec, B.bytes, hml, findClass_of_methodNamed B.named, atoms_spec (ws := wsX0_kind) B.pre, B.returns, B.notSynchronized⟩
  obtain ⟨hx, hb, -, hown, hts, hr, hlk⟩ := id C
  refine entryW [.ref q0] (n := 1) (Nat.le_of_ble_eq_true rfl) (fun ls hl => ?_)
  have hl : lv_has ls 1 [(0, .ref q0)] := hl
  unfold fX0_kind at h
  refine lv_iconst (v := (3 : Int32)) hx hb dX0_kind_0 (by decide) ?_
  exact mretS hx hb hr hlk h dX0_kind_1
def fX1_kind  : Option Int32 :=
  some (0 : Int32)
abbrev rmX1_kind : Room := { frames := 0, cells := 0, slots := 0, locals := 0 }
set_option maxHeartbeats 4000000 in
set_option maxRecDepth 100000 in
theorem kX1_kind (l : Launch) (q0 : Nat)  (r : Int32) (h : fX1_kind = some r) : Met l yX1_kind wsX1_kind rmX1_kind (va_Pc [.ref q0] (p0)) (vp_Si (fun x => x = r)) 0 0 (fun _ => False) := by
  refine Met.ofW (cc := cX1_kind) (maxL := 1) (ret := (some .int)) (by decide) rfl ?_
  intro p e s m args below meth c s₁ B hml hv
  obtain ⟨rfl, -⟩ := hv
  have C : cxt p s m _ meth c cX1_kind 1 RX1 wsX1_kind (some .int) := ⟨B.exec, B.bytes, hml, findClass_of_methodNamed B.named, atoms_spec (ws := wsX1_kind) B.pre, B.returns, B.notSynchronized⟩
  obtain ⟨hx, hb, -, hown, hts, hr, hlk⟩ := id C
  refine entryW [.ref q0] (n := 1) (Nat.le_of_ble_eq_true rfl) (fun ls hl => ?_)
  have hl : lv_has ls 1 [(0, .ref q0)] := hl
  unfold fX1_kind at h
  refine lv_iconst (v := (0 : Int32)) hx hb dX1_kind_0 (by decide) ?_
  exact mretS hx hb hr hlk h dX1_kind_1
def fX2_kind  : Option Int32 :=
  some (2 : Int32)
abbrev rmX2_kind : Room := { frames := 0, cells := 0, slots := 0, locals := 0 }
set_option maxHeartbeats 4000000 in
set_option maxRecDepth 100000 in
theorem kX2_kind (l : Launch) (q0 : Nat)  (r : Int32) (h : fX2_kind = some r) : Met l yX2_kind wsX2_kind rmX2_kind (va_Pc [.ref q0] (p0)) (vp_Si (fun x => x = r)) 0 0 (fun _ => False) := by
  refine Met.ofW (cc := cX2_kind) (maxL := 1) (ret := (some .int)) (by decide) rfl ?_
  intro p e s m args below meth c s₁ B hml hv
  obtain ⟨rfl, -⟩ := hv
  have C : cxt p s m _ meth c cX2_kind 1 RX2 wsX2_kind (some .int) := ⟨B.exec, B.bytes, hml, findClass_of_methodNamed B.named, atoms_spec (ws := wsX2_kind) B.pre, B.returns, B.notSynchronized⟩
  obtain ⟨hx, hb, -, hown, hts, hr, hlk⟩ := id C
  refine entryW [.ref q0] (n := 1) (Nat.le_of_ble_eq_true rfl) (fun ls hl => ?_)
  have hl : lv_has ls 1 [(0, .ref q0)] := hl
  unfold fX2_kind at h
  refine lv_iconst (v := (2 : Int32)) hx hb dX2_kind_0 (by decide) ?_
  exact mretS hx hb hr hlk h dX2_kind_1
def fX5_kind  : Option Int32 :=
  some (1 : Int32)
abbrev rmX5_kind : Room := { frames := 0, cells := 0, slots := 0, locals := 0 }
set_option maxHeartbeats 4000000 in
set_option maxRecDepth 100000 in
theorem kX5_kind (l : Launch) (q0 : Nat)  (r : Int32) (h : fX5_kind = some r) : Met l yX5_kind wsX5_kind rmX5_kind (va_Pc [.ref q0] (p0)) (vp_Si (fun x => x = r)) 0 0 (fun _ => False) := by
  refine Met.ofW (cc := cX5_kind) (maxL := 1) (ret := (some .int)) (by decide) rfl ?_
  intro p e s m args below meth c s₁ B hml hv
  obtain ⟨rfl, -⟩ := hv
  have C : cxt p s m _ meth c cX5_kind 1 RX5 wsX5_kind (some .int) := ⟨B.exec, B.bytes, hml, findClass_of_methodNamed B.named, atoms_spec (ws := wsX5_kind) B.pre, B.returns, B.notSynchronized⟩
  obtain ⟨hx, hb, -, hown, hts, hr, hlk⟩ := id C
  refine entryW [.ref q0] (n := 1) (Nat.le_of_ble_eq_true rfl) (fun ls hl => ?_)
  have hl : lv_has ls 1 [(0, .ref q0)] := hl
  unfold fX5_kind at h
  refine lv_iconst (v := (1 : Int32)) hx hb dX5_kind_0 (by decide) ?_
  exact mretS hx hb hr hlk h dX5_kind_1
def fX6_colourIn (sh : Nat → Option Nat) (Z : ZT) (q : Nat) (σ : Nat → Nat → Int32) (x1 : Int32) : Option Int32 :=
  some ((Z q).2.1)
abbrev rmX6_colourIn : Room := { frames := 0, cells := 0, slots := 0, locals := 0 }
theorem inX0_X6_colourIn : ∀ w ∈ wsX00, w ∈ wsX6_colourIn := by intro w h; simp only [wsX6_colourIn, List.mem_cons, List.mem_append]; simp only [h, true_or, or_true]
theorem inX1_X6_colourIn : ∀ w ∈ wsX10, w ∈ wsX6_colourIn := by intro w h; simp only [wsX6_colourIn, List.mem_cons, List.mem_append]; simp only [h, true_or, or_true]
theorem inX2_X6_colourIn : ∀ w ∈ wsX20, w ∈ wsX6_colourIn := by intro w h; simp only [wsX6_colourIn, List.mem_cons, List.mem_append]; simp only [h, true_or, or_true]
theorem inX5_X6_colourIn : ∀ w ∈ wsX50, w ∈ wsX6_colourIn := by intro w h; simp only [wsX6_colourIn, List.mem_cons, List.mem_append]; simp only [h, true_or, or_true]
theorem inX8_X6_colourIn : ∀ w ∈ wsX80, w ∈ wsX6_colourIn := by intro w h; simp only [wsX6_colourIn, List.mem_cons, List.mem_append]; simp only [h, true_or, or_true]
set_option maxHeartbeats 4000000 in
set_option maxRecDepth 100000 in
theorem kX6_colourIn (l : Launch) (D : va_G) (cs : Nat → ClassId) (a : Nat → Nat) (sh : Nat → Option Nat) (LP : List Nat) (Z : ZT) (hZ : shOK sh LP Z) (q : Nat) (hq : q ∈ LP) (hk : okK (Z q).1) (σ : Nat → Nat → Int32) (x1 : Int32) (r : Int32) (h : fX6_colourIn sh Z q σ x1 = some r) : Met l yX6_colourIn wsX6_colourIn rmX6_colourIn (va_Pc [.ref q, .int x1] (pR D cs (cW a cs sh LP Z σ))) (vp_Si (fun x => x = r)) 0 0 (fun _ => False) := by
  refine Met.ofW (cc := cX6_colourIn) (maxL := 2) (ret := (some .int)) (by decide) rfl ?_
  intro p e s m args below meth c s₁ B hml hv
  obtain ⟨rfl, hP, hK⟩ := hv
  have C : cxt p s m _ meth c cX6_colourIn 2 RX6 wsX6_colourIn (some .int) := ⟨B.exec, B.bytes, hml, findClass_of_methodNamed B.named, atoms_spec (ws := wsX6_colourIn) B.pre, B.returns, B.notSynchronized⟩
  obtain ⟨hx, hb, -, hown, hts, hr, hlk⟩ := id C
  refine entryW [.ref q, .int x1] (n := 2) (Nat.le_of_ble_eq_true rfl) (fun ls hl => ?_)
  have hl : lv_has ls 2 [(0, .ref q), (1, .int x1)] := hl
  have fq : q ∈ LP ∧ okK (Z q).1 := ⟨hq, hk⟩
  unfold fX6_colourIn at h
  refine lv_aload_n hx hb dX6_colourIn_0 rfl (lv_at hl 0 rfl) ?_
  refine shgetC hx hb hts inX0_X6_colourIn inX1_X6_colourIn inX2_X6_colourIn inX5_X6_colourIn inX8_X6_colourIn hown hK.1 hP fq.1 fq.2 (hts (.fieldLink RX6 9 "SandPalace$Shape" "colour" "I") (by decide +kernel)) (fun _ h9 => h9) dX6_colourIn_1 ?_
  exact mretS hx hb hr hlk h dX6_colourIn_4
def fX8_kind  : Option Int32 :=
  some (4 : Int32)
abbrev rmX8_kind : Room := { frames := 0, cells := 0, slots := 0, locals := 0 }
set_option maxHeartbeats 4000000 in
set_option maxRecDepth 100000 in
theorem kX8_kind (l : Launch) (q0 : Nat)  (r : Int32) (h : fX8_kind = some r) : Met l yX8_kind wsX8_kind rmX8_kind (va_Pc [.ref q0] (p0)) (vp_Si (fun x => x = r)) 0 0 (fun _ => False) := by
  refine Met.ofW (cc := cX8_kind) (maxL := 1) (ret := (some .int)) (by decide) rfl ?_
  intro p e s m args below meth c s₁ B hml hv
  obtain ⟨rfl, -⟩ := hv
  have C : cxt p s m _ meth c cX8_kind 1 RX8 wsX8_kind (some .int) := ⟨B.exec, B.bytes, hml, findClass_of_methodNamed B.named, atoms_spec (ws := wsX8_kind) B.pre, B.returns, B.notSynchronized⟩
  obtain ⟨hx, hb, -, hown, hts, hr, hlk⟩ := id C
  refine entryW [.ref q0] (n := 1) (Nat.le_of_ble_eq_true rfl) (fun ls hl => ?_)
  have hl : lv_has ls 1 [(0, .ref q0)] := hl
  unfold fX8_kind at h
  refine lv_iconst (v := (4 : Int32)) hx hb dX8_kind_0 (by decide) ?_
  exact mretS hx hb hr hlk h dX8_kind_1
def fX11_shifted (x0 : Int32) (x1 : Int32) : Option Int32 :=
  if ¬ x0 = 0 then (bd (fJ9_floorMod_7cf53 ((x0 - (1 : Int32)) + x1) (9 : Int32)) fun v2 => some (v2 + (1 : Int32))) else (some (0 : Int32))
abbrev rmX11_shifted : Room := { frames := 1, cells := 0, slots := 0, locals := 22 }
set_option maxHeartbeats 4000000 in
set_option maxRecDepth 100000 in
theorem kX11_shifted (l : Launch) (x0 : Int32) (x1 : Int32) (r : Int32) (h : fX11_shifted x0 x1 = some r) : Met l yX11_shifted wsX11_shifted rmX11_shifted (va_Pc [.int x0, .int x1] (p0)) (vp_Si (fun x => x = r)) 0 0 (fun _ => False) := by
  refine Met.ofW (cc := cX11_shifted) (maxL := 2) (ret := (some .int)) (by decide) rfl ?_
  intro p e s m args below meth c s₁ B hml hv
  obtain ⟨rfl, -⟩ := hv
  have C : cxt p s m _ meth c cX11_shifted 2 RX11 wsX11_shifted (some .int) := ⟨B.exec, B.bytes, hml, findClass_of_methodNamed B.named, atoms_spec (ws := wsX11_shifted) B.pre, B.returns, B.notSynchronized⟩
  obtain ⟨hx, hb, -, hown, hts, hr, hlk⟩ := id C
  refine entryW [.int x0, .int x1] (n := 2) (Nat.le_of_ble_eq_true rfl) (fun ls hl => ?_)
  have hl : lv_has ls 2 [(0, .int x0), (1, .int x1)] := hl
  unfold fX11_shifted at h
  refine lv_iload_n hx hb dX11_shifted_0 rfl (lv_at hl 0 rfl) ?_
  refine lv_if_ne (tgt := 8) hx hb dX11_shifted_1 (by decide) (fun c1 => ?_) (fun c1 => ?_)
  · have h := it_t c1 h
    refine lv_iload_n hx hb dX11_shifted_8 rfl (lv_at hl 0 rfl) ?_
    refine lv_iconst (v := (1 : Int32)) hx hb dX11_shifted_9 (by decide) ?_
    refine lv_isub hx hb dX11_shifted_10 ?_
    refine lv_iload_n hx hb dX11_shifted_11 rfl (lv_at hl 1 rfl) ?_
    refine lv_iadd hx hb dX11_shifted_12 ?_
    refine lv_bipush (v := (9 : Int32)) hx hb dX11_shifted_13 (by decide) ?_
    obtain ⟨v2, hc_v2, h⟩ := bd_some h
    refine mcallS (va_runS (As := [.int ((x0 - (1 : Int32)) + x1), .int (9 : Int32)]) (rest := []) ⟨hx, hb, hml, hown, hts⟩ (kJ9_floorMod_7cf53 l ((x0 - (1 : Int32)) + x1) (9 : Int32) v2 hc_v2) (va_cwS 2 hts gX11_shifted_J9_floorMod_7cf53 rfl rfl rfl (by decide +kernel) ⟨Nat.le_of_ble_eq_true rfl, Nat.le_of_ble_eq_true rfl⟩) p0_s rfl rfl hl.1 rfl (lv_room (Nat.le_of_ble_eq_true rfl)) dX11_shifted_15 ⟨Nat.zero_le _, Nat.zero_le _⟩) ?_
    refine lv_iconst (v := (1 : Int32)) hx hb dX11_shifted_18 (by decide) ?_
    refine lv_iadd hx hb dX11_shifted_19 ?_
    exact mretS hx hb hr hlk h dX11_shifted_20
  · have h := it_n c1 h
    refine lv_iconst (v := (0 : Int32)) hx hb dX11_shifted_4 (by decide) ?_
    refine lv_goto (tgt := 20) hx hb dX11_shifted_5 (by decide) ?_
    exact mretS hx hb hr hlk h dX11_shifted_20
def fX8_colourIn (sh : Nat → Option Nat) (Z : ZT) (q : Nat) (σ : Nat → Nat → Int32) (x1 : Int32) : Option Int32 :=
  bd (fX11_shifted ((Z q).2.1) (x1 * ((Z q).2.2.2))) fun v1 => some v1
abbrev rmX8_colourIn : Room := { frames := 2, cells := 0, slots := 0, locals := 43 }
theorem inX0_X8_colourIn : ∀ w ∈ wsX00, w ∈ wsX8_colourIn := by intro w h; simp only [wsX8_colourIn, List.mem_cons, List.mem_append]; simp only [h, true_or, or_true]
theorem inX1_X8_colourIn : ∀ w ∈ wsX10, w ∈ wsX8_colourIn := by intro w h; simp only [wsX8_colourIn, List.mem_cons, List.mem_append]; simp only [h, true_or, or_true]
theorem inX2_X8_colourIn : ∀ w ∈ wsX20, w ∈ wsX8_colourIn := by intro w h; simp only [wsX8_colourIn, List.mem_cons, List.mem_append]; simp only [h, true_or, or_true]
theorem inX5_X8_colourIn : ∀ w ∈ wsX50, w ∈ wsX8_colourIn := by intro w h; simp only [wsX8_colourIn, List.mem_cons, List.mem_append]; simp only [h, true_or, or_true]
theorem inX8_X8_colourIn : ∀ w ∈ wsX80, w ∈ wsX8_colourIn := by intro w h; simp only [wsX8_colourIn, List.mem_cons, List.mem_append]; simp only [h, true_or, or_true]
set_option maxHeartbeats 4000000 in
set_option maxRecDepth 100000 in
theorem kX8_colourIn (l : Launch) (D : va_G) (cs : Nat → ClassId) (a : Nat → Nat) (sh : Nat → Option Nat) (LP : List Nat) (Z : ZT) (hZ : shOK sh LP Z) (q : Nat) (hq : q ∈ LP) (hk : (Z q).1 = 7) (σ : Nat → Nat → Int32) (x1 : Int32) (r : Int32) (h : fX8_colourIn sh Z q σ x1 = some r) : Met l yX8_colourIn wsX8_colourIn rmX8_colourIn (va_Pc [.ref q, .int x1] (pR D cs (cW a cs sh LP Z σ))) (vp_Si (fun x => x = r)) 0 0 (fun _ => False) := by
  refine Met.ofW (cc := cX8_colourIn) (maxL := 2) (ret := (some .int)) (by decide) rfl ?_
  intro p e s m args below meth c s₁ B hml hv
  obtain ⟨rfl, hP, hK⟩ := hv
  have C : cxt p s m _ meth c cX8_colourIn 2 RX8 wsX8_colourIn (some .int) := ⟨B.exec, B.bytes, hml, findClass_of_methodNamed B.named, atoms_spec (ws := wsX8_colourIn) B.pre, B.returns, B.notSynchronized⟩
  obtain ⟨hx, hb, -, hown, hts, hr, hlk⟩ := id C
  refine entryW [.ref q, .int x1] (n := 2) (Nat.le_of_ble_eq_true rfl) (fun ls hl => ?_)
  have hl : lv_has ls 2 [(0, .ref q), (1, .int x1)] := hl
  have fq : q ∈ LP ∧ okK (Z q).1 := ⟨hq, okK_7 hk⟩
  unfold fX8_colourIn at h
  refine lv_aload_n hx hb dX8_colourIn_0 rfl (lv_at hl 0 rfl) ?_
  refine shgetC hx hb hts inX0_X8_colourIn inX1_X8_colourIn inX2_X8_colourIn inX5_X8_colourIn inX8_X8_colourIn hown hK.1 hP fq.1 fq.2 (hts (.fieldLink RX8 13 "SandPalace$Sign" "colour" "I") (by decide +kernel)) (u_same (hts (.sameField "SandPalace$Sign" "SandPalace$Shape" "colour" "I") (by decide +kernel))) dX8_colourIn_1 ?_
  refine lv_iload_n hx hb dX8_colourIn_4 rfl (lv_at hl 1 rfl) ?_
  refine lv_aload_n hx hb dX8_colourIn_5 rfl (lv_at hl 0 rfl) ?_
  refine shgetS hx hb hts inX8_X8_colourIn hown hK.1 hP fq.1 hk (hts (.fieldLink RX8 7 "SandPalace$Sign" "step" "I") (by decide +kernel)) (fun _ h9 => h9) dX8_colourIn_6 ?_
  refine lv_imul hx hb dX8_colourIn_9 ?_
  obtain ⟨v1, hc_v1, h⟩ := bd_some h
  refine mcallS (va_runSN (As := [.int ((Z q).2.1), .int (x1 * ((Z q).2.2.2))]) (rest := []) ⟨hx, hb, hml, hown, hts⟩ (kX11_shifted l ((Z q).2.1) (x1 * ((Z q).2.2.2)) v1 hc_v1) ⟨va_cnB (own := RX8) (host := "SandPalace") (index := 16) 2 hts gX8_colourIn_X11_shifted_n16 rfl rfl rfl (hK.2.1 ("SandPalace$Sign", 16, yX11_shifted, "SandPalace") (by decide +kernel)) (hts (.initialized RX11) (by decide +kernel)) (by decide +kernel) ⟨Nat.le_of_ble_eq_true rfl, Nat.le_of_ble_eq_true rfl⟩, hts (.static yX11_shifted) (by decide +kernel), trivial⟩ p0_s rfl rfl hl.1 rfl (lv_room (Nat.le_of_ble_eq_true rfl)) dX8_colourIn_10 ⟨Nat.zero_le _, Nat.zero_le _⟩) ?_
  exact mretS hx hb hr hlk h dX8_colourIn_13
def fV_kind (k : Nat) : Option Int32 := if k = 0 then fX0_kind else if k = 1 then fX1_kind else if k = 2 then fX2_kind else if k = 5 then fX5_kind else fX8_kind
def fV_colourIn (sh : Nat → Option Nat) (Z : ZT) (q : Nat) (σ : Nat → Nat → Int32) (x : Int32) : Option Int32 := if (Z q).1 = 7 then fX8_colourIn sh Z q σ x else fX6_colourIn sh Z q σ x
def fX0_cellsOfQuarter (sh : Nat → Option Nat) (Z : ZT) (q : Nat) (σ : Nat → Nat → Int32)  : Option Int32 :=
  bd (fJ13_bitCount_95d88 ((Z q).2.2.1)) fun v1 => some v1
abbrev rmX0_cellsOfQuarter : Room := { frames := 1, cells := 0, slots := 0, locals := 21 }
theorem inX0_X0_cellsOfQuarter : ∀ w ∈ wsX00, w ∈ wsX0_cellsOfQuarter := by intro w h; simp only [wsX0_cellsOfQuarter, List.mem_cons, List.mem_append]; simp only [h, true_or, or_true]
theorem inX1_X0_cellsOfQuarter : ∀ w ∈ wsX10, w ∈ wsX0_cellsOfQuarter := by intro w h; simp only [wsX0_cellsOfQuarter, List.mem_cons, List.mem_append]; simp only [h, true_or, or_true]
theorem inX2_X0_cellsOfQuarter : ∀ w ∈ wsX20, w ∈ wsX0_cellsOfQuarter := by intro w h; simp only [wsX0_cellsOfQuarter, List.mem_cons, List.mem_append]; simp only [h, true_or, or_true]
theorem inX5_X0_cellsOfQuarter : ∀ w ∈ wsX50, w ∈ wsX0_cellsOfQuarter := by intro w h; simp only [wsX0_cellsOfQuarter, List.mem_cons, List.mem_append]; simp only [h, true_or, or_true]
theorem inX8_X0_cellsOfQuarter : ∀ w ∈ wsX80, w ∈ wsX0_cellsOfQuarter := by intro w h; simp only [wsX0_cellsOfQuarter, List.mem_cons, List.mem_append]; simp only [h, true_or, or_true]
set_option maxHeartbeats 4000000 in
set_option maxRecDepth 100000 in
theorem kX0_cellsOfQuarter (l : Launch) (D : va_G) (cs : Nat → ClassId) (a : Nat → Nat) (sh : Nat → Option Nat) (LP : List Nat) (Z : ZT) (hZ : shOK sh LP Z) (q : Nat) (hq : q ∈ LP) (hk : (Z q).1 = 0 ∨ (Z q).1 = 7) (σ : Nat → Nat → Int32)  (r : Int32) (h : fX0_cellsOfQuarter sh Z q σ = some r) : Met l yX0_cellsOfQuarter wsX0_cellsOfQuarter rmX0_cellsOfQuarter (va_Pc [.ref q] (pR D cs (cW a cs sh LP Z σ))) (vp_Si (fun x => x = r)) 0 0 (fun _ => False) := by
  refine Met.ofW (cc := cX0_cellsOfQuarter) (maxL := 1) (ret := (some .int)) (by decide) rfl ?_
  intro p e s m args below meth c s₁ B hml hv
  obtain ⟨rfl, hP, hK⟩ := hv
  have C : cxt p s m _ meth c cX0_cellsOfQuarter 1 RX0 wsX0_cellsOfQuarter (some .int) := ⟨B.exec, B.bytes, hml, findClass_of_methodNamed B.named, atoms_spec (ws := wsX0_cellsOfQuarter) B.pre, B.returns, B.notSynchronized⟩
  obtain ⟨hx, hb, -, hown, hts, hr, hlk⟩ := id C
  refine entryW [.ref q] (n := 1) (Nat.le_of_ble_eq_true rfl) (fun ls hl => ?_)
  have hl : lv_has ls 1 [(0, .ref q)] := hl
  have fq : q ∈ LP ∧ okK (Z q).1 := ⟨hq, okK_b hk⟩
  unfold fX0_cellsOfQuarter at h
  refine lv_aload_n hx hb dX0_cellsOfQuarter_0 rfl (lv_at hl 0 rfl) ?_
  refine shgetP hx hb hts inX0_X0_cellsOfQuarter inX1_X0_cellsOfQuarter inX2_X0_cellsOfQuarter inX5_X0_cellsOfQuarter inX8_X0_cellsOfQuarter hown hK.1 hP fq.1 fq.2 (hts (.fieldLink RX0 15 "SandPalace$Block" "places" "J") (by decide +kernel)) (u_same (hts (.sameField "SandPalace$Block" "SandPalace$Shape" "places" "J") (by decide +kernel))) dX0_cellsOfQuarter_1 ?_
  obtain ⟨v1, hc_v1, h⟩ := bd_some h
  refine mcallS (va_runS (As := [.long ((Z q).2.2.1)]) (rest := []) ⟨hx, hb, hml, hown, hts⟩ (kJ13_bitCount_95d88 l ((Z q).2.2.1) v1 hc_v1) (va_cwS 1 hts gX0_cellsOfQuarter_J13_bitCount_95d88 rfl rfl rfl (by decide +kernel) ⟨Nat.le_of_ble_eq_true rfl, Nat.le_of_ble_eq_true rfl⟩) p0_s rfl rfl hl.1 rfl (lv_room (Nat.le_of_ble_eq_true rfl)) dX0_cellsOfQuarter_4 ⟨Nat.zero_le _, Nat.zero_le _⟩) ?_
  exact mretS hx hb hr hlk h dX0_cellsOfQuarter_7
def fX0_placesOf_L27 (F : Nat) (x0 : Int32) (x1 : Int32) (x2 : Int32) (x3 : Int32) (x6 : Int32) (kx : Int64 → Option Int64) : Nat → Int64 → Int32 → Option Int64
  | 0, _, _ => none
  | n+1, x4, x7 =>
    nb ((fun x4 x7 => fX0_placesOf_L27 F x0 x1 x2 x3 x6 kx n x4 x7)) fun kb =>
    if ((if x0 < x2 then x2 else x0) : Int32) < x7 then (kx x4) else (nm (x4 ||| ((1 : Int64) <<< ((((8 : Int32) * x6) + x7).toInt64 &&& 63))) fun z5 => kb z5 (x7 + (1 : Int32)))
def fX0_placesOf_L10 (F : Nat) (x0 : Int32) (x1 : Int32) (x2 : Int32) (x3 : Int32) (kx : Int64 → Option Int64) : Nat → Int64 → Int32 → Option Int64
  | 0, _, _ => none
  | n+1, x4, x6 =>
    nb ((fun x4 x6 => fX0_placesOf_L10 F x0 x1 x2 x3 kx n x4 x6)) fun kb =>
    if ((if x1 < x3 then x3 else x1) : Int32) < x6 then (kx x4) else (nm ((if x2 < x0 then x2 else x0) : Int32) fun z3 => fX0_placesOf_L27 F x0 x1 x2 x3 x6 (fun y4 => kb y4 (x6 + (1 : Int32))) F x4 z3)
def fX0_placesOf (F : Nat) (x0 : Int32) (x1 : Int32) (x2 : Int32) (x3 : Int32) : Option Int64 :=
  nm ((if x3 < x1 then x3 else x1) : Int32) fun z1 => fX0_placesOf_L10 F x0 x1 x2 x3 (fun y2 => some y2) F (0 : Int64) z1
abbrev rmX0_placesOf : Room := { frames := 1, cells := 0, slots := 0, locals := 21 }
set_option maxHeartbeats 4000000 in
set_option maxRecDepth 100000 in
theorem wX0_placesOf_L27 {p : Program} {l : Launch} {e : Env} {s : State} {m : MethodId} {args : Array Value} {below : List Frame} {meth : Method} {c : Code} (C : cxt p s m args meth c cX0_placesOf 8 RX0 wsX0_placesOf (some .long)) (r : Int64) (F : Nat) (x0 : Int32) (x1 : Int32) (x2 : Int32) (x3 : Int32) (x6 : Int32) (kx : Int64 → Option Int64) (hkx : ∀ (x4 : Int64) (ls : Array Slot), lv_has ls 8 [(0, .int x0), (1, .int x1), (2, .int x2), (3, .int x3), (4, .long x4), (6, .int x6)] → kx x4 = some r → W p l e rmX0_placesOf s m args below meth c s.heap [] 0 0 (MQ below (vp_Sl (fun x => x = r)) args s 0 0 (fun _ => False)) (F0 m 58 ls [])) : ∀ (n : Nat) (x4 : Int64) (x7 : Int32) (ls : Array Slot), lv_has ls 8 [(0, .int x0), (1, .int x1), (2, .int x2), (3, .int x3), (4, .long x4), (6, .int x6), (7, .int x7)] → fX0_placesOf_L27 F x0 x1 x2 x3 x6 kx n x4 x7 = some r → W p l e rmX0_placesOf s m args below meth c s.heap [] 0 0 (MQ below (vp_Sl (fun x => x = r)) args s 0 0 (fun _ => False)) (F0 m 27 ls []) := by
  obtain ⟨hx, hb, hml, hown, hts, hr, hlk⟩ := id C
  intro n
  induction n with
  | zero =>
    intros
    rename_i h
    cases h
  | succ n ih =>
    intro x4 x7 ls hl h
    rw [fX0_placesOf_L27] at h
    obtain ⟨kb, hkb, h⟩ := nb_some (P := fun (kb : Int64 → Int32 → Option Int64) => ∀ (x4 : Int64) (x7 : Int32) (ls : Array Slot), lv_has ls 8 [(0, .int x0), (1, .int x1), (2, .int x2), (3, .int x3), (4, .long x4), (6, .int x6), (7, .int x7)] → kb x4 x7 = some r → W p l e rmX0_placesOf s m args below meth c s.heap [] 0 0 (MQ below (vp_Sl (fun x => x = r)) args s 0 0 (fun _ => False)) (F0 m 27 ls [])) h ih
    refine lv_iload hx hb dX0_placesOf_27 (lv_at hl 6 rfl) ?_
    refine lv_iload_n hx hb dX0_placesOf_29 rfl (lv_at hl 0 rfl) ?_
    refine lv_iload_n hx hb dX0_placesOf_30 rfl (lv_at hl 2 rfl) ?_
    refine va_mmax hx hb (hml.trans hl.1.symm) hown (hts (.methodLink RX0 31 Lib.Math.max.name) (by decide +kernel)) (hts (.static Lib.Math.max.name) (by decide +kernel)) (hts (.initialized "java/lang/Math") (by decide +kernel)) (hts (.code Lib.Math.max.name Lib.Math.max.code 2 (some .int)) (by decide +kernel)) (Nat.le_of_ble_eq_true rfl) (Nat.le_of_ble_eq_true rfl) (Nat.zero_le _) (Nat.zero_le _) dX0_placesOf_31 ?_
    refine lv_icmp_gt (tgt := 58) hx hb dX0_placesOf_34 (by decide) (fun c4 => ?_) (fun c4 => ?_)
    · have h := it_t c4 h
      exact hkx x4 ls (lv_sub hl [0, 1, 2, 3, 4, 5] rfl) h
    · have h := it_f c4 h
      refine lv_lload hx hb dX0_placesOf_37 (lv_at hl 4 rfl) ?_
      refine lv_lconst (v := (1 : Int64)) hx hb dX0_placesOf_39 (by decide) ?_
      refine lv_bipush (v := (8 : Int32)) hx hb dX0_placesOf_40 (by decide) ?_
      refine lv_iload hx hb dX0_placesOf_42 (lv_at hl 5 rfl) ?_
      refine lv_imul hx hb dX0_placesOf_44 ?_
      refine lv_iload hx hb dX0_placesOf_45 (lv_at hl 6 rfl) ?_
      refine lv_iadd hx hb dX0_placesOf_47 ?_
      refine lv_lshl hx hb dX0_placesOf_48 rfl ?_
      refine lv_lor hx hb dX0_placesOf_49 ?_
      obtain ⟨z5, e_z5, h⟩ := nm_some h
      refine tpl e_z5 ?_
      refine lv_lstore (lv' := [(4, .long z5), (0, .int x0), (1, .int x1), (2, .int x2), (3, .int x3), (6, .int x6), (7, .int x7)]) hx hb dX0_placesOf_50 hl (by decide) rfl (fun ls hl => ?_)
      refine lv_iinc (v := x7 + (1 : Int32)) (lv' := [(7, .int (x7 + (1 : Int32))), (4, .long z5), (0, .int x0), (1, .int x1), (2, .int x2), (3, .int x3), (6, .int x6)]) hx hb dX0_placesOf_52 hl (k := 6) rfl rfl (by decide) rfl (fun ls hl => ?_)
      refine lv_goto (tgt := 27) hx hb dX0_placesOf_55 (by decide) ?_
      exact hkb z5 (x7 + (1 : Int32)) ls (lv_sub hl [2, 3, 4, 5, 1, 6, 0] rfl) h
set_option maxHeartbeats 4000000 in
set_option maxRecDepth 100000 in
theorem wX0_placesOf_L10 {p : Program} {l : Launch} {e : Env} {s : State} {m : MethodId} {args : Array Value} {below : List Frame} {meth : Method} {c : Code} (C : cxt p s m args meth c cX0_placesOf 8 RX0 wsX0_placesOf (some .long)) (r : Int64) (F : Nat) (x0 : Int32) (x1 : Int32) (x2 : Int32) (x3 : Int32) (kx : Int64 → Option Int64) (hkx : ∀ (x4 : Int64) (ls : Array Slot), lv_has ls 8 [(4, .long x4)] → kx x4 = some r → W p l e rmX0_placesOf s m args below meth c s.heap [] 0 0 (MQ below (vp_Sl (fun x => x = r)) args s 0 0 (fun _ => False)) (F0 m 64 ls [])) : ∀ (n : Nat) (x4 : Int64) (x6 : Int32) (ls : Array Slot), lv_has ls 8 [(0, .int x0), (1, .int x1), (2, .int x2), (3, .int x3), (4, .long x4), (6, .int x6)] → fX0_placesOf_L10 F x0 x1 x2 x3 kx n x4 x6 = some r → W p l e rmX0_placesOf s m args below meth c s.heap [] 0 0 (MQ below (vp_Sl (fun x => x = r)) args s 0 0 (fun _ => False)) (F0 m 10 ls []) := by
  obtain ⟨hx, hb, hml, hown, hts, hr, hlk⟩ := id C
  intro n
  induction n with
  | zero =>
    intros
    rename_i h
    cases h
  | succ n ih =>
    intro x4 x6 ls hl h
    rw [fX0_placesOf_L10] at h
    obtain ⟨kb, hkb, h⟩ := nb_some (P := fun (kb : Int64 → Int32 → Option Int64) => ∀ (x4 : Int64) (x6 : Int32) (ls : Array Slot), lv_has ls 8 [(0, .int x0), (1, .int x1), (2, .int x2), (3, .int x3), (4, .long x4), (6, .int x6)] → kb x4 x6 = some r → W p l e rmX0_placesOf s m args below meth c s.heap [] 0 0 (MQ below (vp_Sl (fun x => x = r)) args s 0 0 (fun _ => False)) (F0 m 10 ls [])) h ih
    refine lv_iload hx hb dX0_placesOf_10 (lv_at hl 5 rfl) ?_
    refine lv_iload_n hx hb dX0_placesOf_12 rfl (lv_at hl 1 rfl) ?_
    refine lv_iload_n hx hb dX0_placesOf_13 rfl (lv_at hl 3 rfl) ?_
    refine va_mmax hx hb (hml.trans hl.1.symm) hown (hts (.methodLink RX0 31 Lib.Math.max.name) (by decide +kernel)) (hts (.static Lib.Math.max.name) (by decide +kernel)) (hts (.initialized "java/lang/Math") (by decide +kernel)) (hts (.code Lib.Math.max.name Lib.Math.max.code 2 (some .int)) (by decide +kernel)) (Nat.le_of_ble_eq_true rfl) (Nat.le_of_ble_eq_true rfl) (Nat.zero_le _) (Nat.zero_le _) dX0_placesOf_14 ?_
    refine lv_icmp_gt (tgt := 64) hx hb dX0_placesOf_17 (by decide) (fun c2 => ?_) (fun c2 => ?_)
    · have h := it_t c2 h
      exact hkx x4 ls (lv_sub hl [4] rfl) h
    · have h := it_f c2 h
      refine lv_iload_n hx hb dX0_placesOf_20 rfl (lv_at hl 0 rfl) ?_
      refine lv_iload_n hx hb dX0_placesOf_21 rfl (lv_at hl 2 rfl) ?_
      refine va_mmin hx hb (hml.trans hl.1.symm) hown (hts (.methodLink RX0 25 Lib.Math.min.name) (by decide +kernel)) (hts (.static Lib.Math.min.name) (by decide +kernel)) (hts (.initialized "java/lang/Math") (by decide +kernel)) (hts (.code Lib.Math.min.name Lib.Math.min.code 2 (some .int)) (by decide +kernel)) (Nat.le_of_ble_eq_true rfl) (Nat.le_of_ble_eq_true rfl) (Nat.zero_le _) (Nat.zero_le _) dX0_placesOf_22 ?_
      obtain ⟨z3, e_z3, h⟩ := nm_some h
      refine tpi e_z3 ?_
      refine lv_istore (lv' := [(7, .int z3), (0, .int x0), (1, .int x1), (2, .int x2), (3, .int x3), (4, .long x4), (6, .int x6)]) hx hb dX0_placesOf_25 hl (by decide) rfl (fun ls hl => ?_)
      refine wX0_placesOf_L27 C  r F x0 x1 x2 x3 x6 _ ?_ F x4 z3 ls (lv_sub hl [1, 2, 3, 4, 5, 6, 0] rfl) h
      intro y4 ls hl h
      refine lv_iinc (v := x6 + (1 : Int32)) (lv' := [(6, .int (x6 + (1 : Int32))), (0, .int x0), (1, .int x1), (2, .int x2), (3, .int x3), (4, .long y4)]) hx hb dX0_placesOf_58 hl (k := 5) rfl rfl (by decide) rfl (fun ls hl => ?_)
      refine lv_goto (tgt := 10) hx hb dX0_placesOf_61 (by decide) ?_
      exact hkb y4 (x6 + (1 : Int32)) ls (lv_sub hl [1, 2, 3, 4, 5, 0] rfl) h
set_option maxHeartbeats 4000000 in
set_option maxRecDepth 100000 in
theorem kX0_placesOf (l : Launch) (F : Nat) (x0 : Int32) (x1 : Int32) (x2 : Int32) (x3 : Int32) (r : Int64) (h : fX0_placesOf F x0 x1 x2 x3 = some r) : Met l yX0_placesOf wsX0_placesOf rmX0_placesOf (va_Pc [.int x0, .int x1, .int x2, .int x3] (p0)) (vp_Sl (fun x => x = r)) 0 0 (fun _ => False) := by
  refine Met.ofW (cc := cX0_placesOf) (maxL := 8) (ret := (some .long)) (by decide) rfl ?_
  intro p e s m args below meth c s₁ B hml hv
  obtain ⟨rfl, -⟩ := hv
  have C : cxt p s m _ meth c cX0_placesOf 8 RX0 wsX0_placesOf (some .long) := ⟨B.exec, B.bytes, hml, findClass_of_methodNamed B.named, atoms_spec (ws := wsX0_placesOf) B.pre, B.returns, B.notSynchronized⟩
  obtain ⟨hx, hb, -, hown, hts, hr, hlk⟩ := id C
  refine entryW [.int x0, .int x1, .int x2, .int x3] (n := 8) (Nat.le_of_ble_eq_true rfl) (fun ls hl => ?_)
  have hl : lv_has ls 8 [(0, .int x0), (1, .int x1), (2, .int x2), (3, .int x3)] := hl
  unfold fX0_placesOf at h
  refine lv_lconst (v := (0 : Int64)) hx hb dX0_placesOf_0 (by decide) ?_
  refine lv_lstore (lv' := [(4, .long (0 : Int64)), (0, .int x0), (1, .int x1), (2, .int x2), (3, .int x3)]) hx hb dX0_placesOf_1 hl (by decide) rfl (fun ls hl => ?_)
  refine lv_iload_n hx hb dX0_placesOf_3 rfl (lv_at hl 2 rfl) ?_
  refine lv_iload_n hx hb dX0_placesOf_4 rfl (lv_at hl 4 rfl) ?_
  refine va_mmin hx hb (hml.trans hl.1.symm) hown (hts (.methodLink RX0 25 Lib.Math.min.name) (by decide +kernel)) (hts (.static Lib.Math.min.name) (by decide +kernel)) (hts (.initialized "java/lang/Math") (by decide +kernel)) (hts (.code Lib.Math.min.name Lib.Math.min.code 2 (some .int)) (by decide +kernel)) (Nat.le_of_ble_eq_true rfl) (Nat.le_of_ble_eq_true rfl) (Nat.zero_le _) (Nat.zero_le _) dX0_placesOf_5 ?_
  obtain ⟨z1, e_z1, h⟩ := nm_some h
  refine tpi e_z1 ?_
  refine lv_istore (lv' := [(6, .int z1), (4, .long (0 : Int64)), (0, .int x0), (1, .int x1), (2, .int x2), (3, .int x3)]) hx hb dX0_placesOf_8 hl (by decide) rfl (fun ls hl => ?_)
  refine wX0_placesOf_L10 C  r F x0 x1 x2 x3 _ ?_ F (0 : Int64) z1 ls (lv_sub hl [2, 3, 4, 5, 1, 0] rfl) h
  intro y2 ls hl h
  refine lv_lload hx hb dX0_placesOf_64 (lv_at hl 0 rfl) ?_
  exact mretSL hx hb hr hlk h dX0_placesOf_66
def fX1_placesOf_J51 (F : Nat) (kb : Int64 → Int32 → Option Int64) (x0 : Int32) (x1 : Int64) (x3 : Int32) : Option Int64 :=
  kb x1 (x3 + (1 : Int32))
def fX1_placesOf_L4 (F : Nat) (x0 : Int32) (kx : Int64 → Option Int64) : Nat → Int64 → Int32 → Option Int64
  | 0, _, _ => none
  | n+1, x1, x3 =>
    nb ((fun x1 x3 => fX1_placesOf_L4 F x0 kx n x1 x3)) fun kb =>
    if (64 : Int32) ≤ x3 then (kx x1) else (nm (((2 : Int32) * (x3 - x3 / (8 : Int32) * (8 : Int32))) + (1 : Int32)) fun z2 => nm (((2 : Int32) * (x3 / (8 : Int32))) + (1 : Int32)) fun z3 => if x0 < ((z2 * z2) + (z3 * z3)) then (fX1_placesOf_J51 F kb x0 x1 x3) else (nm (x1 ||| ((1 : Int64) <<< (x3.toInt64 &&& 63))) fun z5 => fX1_placesOf_J51 F kb x0 z5 x3))
def fX1_placesOf (F : Nat) (x0 : Int32) : Option Int64 :=
  fX1_placesOf_L4 F x0 (fun y1 => some y1) F (0 : Int64) (0 : Int32)
abbrev rmX1_placesOf : Room := { frames := 0, cells := 0, slots := 0, locals := 0 }
set_option maxHeartbeats 4000000 in
set_option maxRecDepth 100000 in
theorem wX1_placesOf_J51 {p : Program} {l : Launch} {e : Env} {s : State} {m : MethodId} {args : Array Value} {below : List Frame} {meth : Method} {c : Code} (C : cxt p s m args meth c cX1_placesOf 6 RX1 wsX1_placesOf (some .long)) (r : Int64) (F : Nat) (kb : Int64 → Int32 → Option Int64) (x0 : Int32) (x1 : Int64) (x3 : Int32) (hkb : ∀ (x1 : Int64) (x3 : Int32) (ls : Array Slot), lv_has ls 6 [(0, .int x0), (1, .long x1), (3, .int x3)] → kb x1 x3 = some r → W p l e rmX1_placesOf s m args below meth c s.heap [] 0 0 (MQ below (vp_Sl (fun x => x = r)) args s 0 0 (fun _ => False)) (F0 m 4 ls [])) (ls : Array Slot) (hl : lv_has ls 6 [(0, .int x0), (1, .long x1), (3, .int x3)]) (h : fX1_placesOf_J51 F kb x0 x1 x3 = some r) : W p l e rmX1_placesOf s m args below meth c s.heap [] 0 0 (MQ below (vp_Sl (fun x => x = r)) args s 0 0 (fun _ => False)) (F0 m 51 ls []) := by
  obtain ⟨hx, hb, hml, hown, hts, hr, hlk⟩ := id C
  unfold fX1_placesOf_J51 at h
  refine lv_iinc (v := x3 + (1 : Int32)) (lv' := [(3, .int (x3 + (1 : Int32))), (0, .int x0), (1, .long x1)]) hx hb dX1_placesOf_51 hl (k := 2) rfl rfl (by decide) rfl (fun ls hl => ?_)
  refine lv_goto (tgt := 4) hx hb dX1_placesOf_54 (by decide) ?_
  exact hkb x1 (x3 + (1 : Int32)) ls (lv_sub hl [1, 2, 0] rfl) h
set_option maxHeartbeats 4000000 in
set_option maxRecDepth 100000 in
theorem wX1_placesOf_L4 {p : Program} {l : Launch} {e : Env} {s : State} {m : MethodId} {args : Array Value} {below : List Frame} {meth : Method} {c : Code} (C : cxt p s m args meth c cX1_placesOf 6 RX1 wsX1_placesOf (some .long)) (r : Int64) (F : Nat) (x0 : Int32) (kx : Int64 → Option Int64) (hkx : ∀ (x1 : Int64) (ls : Array Slot), lv_has ls 6 [(1, .long x1)] → kx x1 = some r → W p l e rmX1_placesOf s m args below meth c s.heap [] 0 0 (MQ below (vp_Sl (fun x => x = r)) args s 0 0 (fun _ => False)) (F0 m 57 ls [])) : ∀ (n : Nat) (x1 : Int64) (x3 : Int32) (ls : Array Slot), lv_has ls 6 [(0, .int x0), (1, .long x1), (3, .int x3)] → fX1_placesOf_L4 F x0 kx n x1 x3 = some r → W p l e rmX1_placesOf s m args below meth c s.heap [] 0 0 (MQ below (vp_Sl (fun x => x = r)) args s 0 0 (fun _ => False)) (F0 m 4 ls []) := by
  obtain ⟨hx, hb, hml, hown, hts, hr, hlk⟩ := id C
  intro n
  induction n with
  | zero =>
    intros
    rename_i h
    cases h
  | succ n ih =>
    intro x1 x3 ls hl h
    rw [fX1_placesOf_L4] at h
    obtain ⟨kb, hkb, h⟩ := nb_some (P := fun (kb : Int64 → Int32 → Option Int64) => ∀ (x1 : Int64) (x3 : Int32) (ls : Array Slot), lv_has ls 6 [(0, .int x0), (1, .long x1), (3, .int x3)] → kb x1 x3 = some r → W p l e rmX1_placesOf s m args below meth c s.heap [] 0 0 (MQ below (vp_Sl (fun x => x = r)) args s 0 0 (fun _ => False)) (F0 m 4 ls [])) h ih
    refine lv_iload_n hx hb dX1_placesOf_4 rfl (lv_at hl 2 rfl) ?_
    refine lv_bipush (v := (64 : Int32)) hx hb dX1_placesOf_5 (by decide) ?_
    refine lv_icmp_ge (tgt := 57) hx hb dX1_placesOf_7 (by decide) (fun c1 => ?_) (fun c1 => ?_)
    · have h := it_t c1 h
      exact hkx x1 ls (lv_sub hl [1] rfl) h
    · have h := it_f c1 h
      refine lv_iconst (v := (2 : Int32)) hx hb dX1_placesOf_10 (by decide) ?_
      refine lv_iload_n hx hb dX1_placesOf_11 rfl (lv_at hl 2 rfl) ?_
      refine lv_bipush (v := (8 : Int32)) hx hb dX1_placesOf_12 (by decide) ?_
      refine lv_irem hx hb dX1_placesOf_14 (by decide) ?_
      refine lv_imul hx hb dX1_placesOf_15 ?_
      refine lv_iconst (v := (1 : Int32)) hx hb dX1_placesOf_16 (by decide) ?_
      refine lv_iadd hx hb dX1_placesOf_17 ?_
      obtain ⟨z2, e_z2, h⟩ := nm_some h
      refine tpi e_z2 ?_
      refine lv_istore (lv' := [(4, .int z2), (0, .int x0), (1, .long x1), (3, .int x3)]) hx hb dX1_placesOf_18 hl (by decide) rfl (fun ls hl => ?_)
      refine lv_iconst (v := (2 : Int32)) hx hb dX1_placesOf_20 (by decide) ?_
      refine lv_iload_n hx hb dX1_placesOf_21 rfl (lv_at hl 3 rfl) ?_
      refine lv_bipush (v := (8 : Int32)) hx hb dX1_placesOf_22 (by decide) ?_
      refine lv_idiv hx hb dX1_placesOf_24 (by decide) ?_
      refine lv_imul hx hb dX1_placesOf_25 ?_
      refine lv_iconst (v := (1 : Int32)) hx hb dX1_placesOf_26 (by decide) ?_
      refine lv_iadd hx hb dX1_placesOf_27 ?_
      obtain ⟨z3, e_z3, h⟩ := nm_some h
      refine tpi e_z3 ?_
      refine lv_istore (lv' := [(5, .int z3), (4, .int z2), (0, .int x0), (1, .long x1), (3, .int x3)]) hx hb dX1_placesOf_28 hl (by decide) rfl (fun ls hl => ?_)
      refine lv_iload hx hb dX1_placesOf_30 (lv_at hl 1 rfl) ?_
      refine lv_iload hx hb dX1_placesOf_32 (lv_at hl 1 rfl) ?_
      refine lv_imul hx hb dX1_placesOf_34 ?_
      refine lv_iload hx hb dX1_placesOf_35 (lv_at hl 0 rfl) ?_
      refine lv_iload hx hb dX1_placesOf_37 (lv_at hl 0 rfl) ?_
      refine lv_imul hx hb dX1_placesOf_39 ?_
      refine lv_iadd hx hb dX1_placesOf_40 ?_
      refine lv_iload_n hx hb dX1_placesOf_41 rfl (lv_at hl 2 rfl) ?_
      refine lv_icmp_gt (tgt := 51) hx hb dX1_placesOf_42 (by decide) (fun c4 => ?_) (fun c4 => ?_)
      · have h := it_t c4 h
        exact wX1_placesOf_J51 C  r F kb x0 x1 x3 hkb ls (lv_sub hl [2, 3, 4] rfl) h
      · have h := it_f c4 h
        refine lv_lload_n hx hb dX1_placesOf_45 rfl (lv_at hl 3 rfl) ?_
        refine lv_lconst (v := (1 : Int64)) hx hb dX1_placesOf_46 (by decide) ?_
        refine lv_iload_n hx hb dX1_placesOf_47 rfl (lv_at hl 4 rfl) ?_
        refine lv_lshl hx hb dX1_placesOf_48 rfl ?_
        refine lv_lor hx hb dX1_placesOf_49 ?_
        obtain ⟨z5, e_z5, h⟩ := nm_some h
        refine tpl e_z5 ?_
        refine lv_lstore_n (lv' := [(1, .long z5), (5, .int z3), (4, .int z2), (0, .int x0), (3, .int x3)]) hx hb dX1_placesOf_50 rfl hl (by decide) rfl (fun ls hl => ?_)
        exact wX1_placesOf_J51 C  r F kb x0 z5 x3 hkb ls (lv_sub hl [3, 0, 4] rfl) h
set_option maxHeartbeats 4000000 in
set_option maxRecDepth 100000 in
theorem kX1_placesOf (l : Launch) (F : Nat) (x0 : Int32) (r : Int64) (h : fX1_placesOf F x0 = some r) : Met l yX1_placesOf wsX1_placesOf rmX1_placesOf (va_Pc [.int x0] (p0)) (vp_Sl (fun x => x = r)) 0 0 (fun _ => False) := by
  refine Met.ofW (cc := cX1_placesOf) (maxL := 6) (ret := (some .long)) (by decide) rfl ?_
  intro p e s m args below meth c s₁ B hml hv
  obtain ⟨rfl, -⟩ := hv
  have C : cxt p s m _ meth c cX1_placesOf 6 RX1 wsX1_placesOf (some .long) := ⟨B.exec, B.bytes, hml, findClass_of_methodNamed B.named, atoms_spec (ws := wsX1_placesOf) B.pre, B.returns, B.notSynchronized⟩
  obtain ⟨hx, hb, -, hown, hts, hr, hlk⟩ := id C
  refine entryW [.int x0] (n := 6) (Nat.le_of_ble_eq_true rfl) (fun ls hl => ?_)
  have hl : lv_has ls 6 [(0, .int x0)] := hl
  unfold fX1_placesOf at h
  refine lv_lconst (v := (0 : Int64)) hx hb dX1_placesOf_0 (by decide) ?_
  refine lv_lstore_n (lv' := [(1, .long (0 : Int64)), (0, .int x0)]) hx hb dX1_placesOf_1 rfl hl (by decide) rfl (fun ls hl => ?_)
  refine lv_iconst (v := (0 : Int32)) hx hb dX1_placesOf_2 (by decide) ?_
  refine lv_istore_n (lv' := [(3, .int (0 : Int32)), (1, .long (0 : Int64)), (0, .int x0)]) hx hb dX1_placesOf_3 rfl hl (by decide) rfl (fun ls hl => ?_)
  refine wX1_placesOf_L4 C  r F x0 _ ?_ F (0 : Int64) (0 : Int32) ls (lv_sub hl [2, 1, 0] rfl) h
  intro y1 ls hl h
  refine lv_lload_n hx hb dX1_placesOf_57 rfl (lv_at hl 0 rfl) ?_
  exact mretSL hx hb hr hlk h dX1_placesOf_58
def fX2_placesOf_J96 (F : Nat) (kb : Int64 → Int32 → Option Int64) (x0 : Int32) (x1 : Int32) (x2 : Int32) (x3 : Int32) (x4 : Int32) (x5 : Int64) (x7 : Int32) (x8 : Int32) : Option Int64 :=
  kb x5 (x8 + (1 : Int32))
def fX2_placesOf_L44 (F : Nat) (x0 : Int32) (x1 : Int32) (x2 : Int32) (x3 : Int32) (x4 : Int32) (x7 : Int32) (kx : Int64 → Option Int64) : Nat → Int64 → Int32 → Option Int64
  | 0, _, _ => none
  | n+1, x5, x8 =>
    nb ((fun x5 x8 => fX2_placesOf_L44 F x0 x1 x2 x3 x4 x7 kx n x5 x8)) fun kb =>
    if ((if x0 < x2 then x2 else x0) : Int32) < x8 then (kx x5) else (if x4 < ((2 : Int32) * ((if 0 ≤ (((x8 - x0) * (x3 - x1)) - ((x7 - x1) * (x2 - x0))) then (((x8 - x0) * (x3 - x1)) - ((x7 - x1) * (x2 - x0))) else 0 - (((x8 - x0) * (x3 - x1)) - ((x7 - x1) * (x2 - x0)))) : Int32)) then (fX2_placesOf_J96 F kb x0 x1 x2 x3 x4 x5 x7 x8) else (nm (x5 ||| ((1 : Int64) <<< ((((8 : Int32) * x7) + x8).toInt64 &&& 63))) fun z7 => fX2_placesOf_J96 F kb x0 x1 x2 x3 x4 z7 x7 x8))
def fX2_placesOf_L27 (F : Nat) (x0 : Int32) (x1 : Int32) (x2 : Int32) (x3 : Int32) (x4 : Int32) (kx : Int64 → Option Int64) : Nat → Int64 → Int32 → Option Int64
  | 0, _, _ => none
  | n+1, x5, x7 =>
    nb ((fun x5 x7 => fX2_placesOf_L27 F x0 x1 x2 x3 x4 kx n x5 x7)) fun kb =>
    if ((if x1 < x3 then x3 else x1) : Int32) < x7 then (kx x5) else (nm ((if x2 < x0 then x2 else x0) : Int32) fun z4 => fX2_placesOf_L44 F x0 x1 x2 x3 x4 x7 (fun y5 => kb y5 (x7 + (1 : Int32))) F x5 z4)
def fX2_placesOf (F : Nat) (x0 : Int32) (x1 : Int32) (x2 : Int32) (x3 : Int32) : Option Int64 :=
  nm ((if ((if 0 ≤ (x2 - x0) then (x2 - x0) else 0 - (x2 - x0)) : Int32) < ((if 0 ≤ (x3 - x1) then (x3 - x1) else 0 - (x3 - x1)) : Int32) then ((if 0 ≤ (x3 - x1) then (x3 - x1) else 0 - (x3 - x1)) : Int32) else ((if 0 ≤ (x2 - x0) then (x2 - x0) else 0 - (x2 - x0)) : Int32)) : Int32) fun z1 => nm ((if x3 < x1 then x3 else x1) : Int32) fun z2 => fX2_placesOf_L27 F x0 x1 x2 x3 z1 (fun y3 => some y3) F (0 : Int64) z2
abbrev rmX2_placesOf : Room := { frames := 1, cells := 0, slots := 0, locals := 21 }
set_option maxHeartbeats 4000000 in
set_option maxRecDepth 100000 in
theorem wX2_placesOf_J96 {p : Program} {l : Launch} {e : Env} {s : State} {m : MethodId} {args : Array Value} {below : List Frame} {meth : Method} {c : Code} (C : cxt p s m args meth c cX2_placesOf 9 RX2 wsX2_placesOf (some .long)) (r : Int64) (F : Nat) (kb : Int64 → Int32 → Option Int64) (x0 : Int32) (x1 : Int32) (x2 : Int32) (x3 : Int32) (x4 : Int32) (x5 : Int64) (x7 : Int32) (x8 : Int32) (hkb : ∀ (x5 : Int64) (x8 : Int32) (ls : Array Slot), lv_has ls 9 [(0, .int x0), (1, .int x1), (2, .int x2), (3, .int x3), (4, .int x4), (5, .long x5), (7, .int x7), (8, .int x8)] → kb x5 x8 = some r → W p l e rmX2_placesOf s m args below meth c s.heap [] 0 0 (MQ below (vp_Sl (fun x => x = r)) args s 0 0 (fun _ => False)) (F0 m 44 ls [])) (ls : Array Slot) (hl : lv_has ls 9 [(0, .int x0), (1, .int x1), (2, .int x2), (3, .int x3), (4, .int x4), (5, .long x5), (7, .int x7), (8, .int x8)]) (h : fX2_placesOf_J96 F kb x0 x1 x2 x3 x4 x5 x7 x8 = some r) : W p l e rmX2_placesOf s m args below meth c s.heap [] 0 0 (MQ below (vp_Sl (fun x => x = r)) args s 0 0 (fun _ => False)) (F0 m 96 ls []) := by
  obtain ⟨hx, hb, hml, hown, hts, hr, hlk⟩ := id C
  unfold fX2_placesOf_J96 at h
  refine lv_iinc (v := x8 + (1 : Int32)) (lv' := [(8, .int (x8 + (1 : Int32))), (0, .int x0), (1, .int x1), (2, .int x2), (3, .int x3), (4, .int x4), (5, .long x5), (7, .int x7)]) hx hb dX2_placesOf_96 hl (k := 7) rfl rfl (by decide) rfl (fun ls hl => ?_)
  refine lv_goto (tgt := 44) hx hb dX2_placesOf_99 (by decide) ?_
  exact hkb x5 (x8 + (1 : Int32)) ls (lv_sub hl [1, 2, 3, 4, 5, 6, 7, 0] rfl) h
set_option maxHeartbeats 4000000 in
set_option maxRecDepth 100000 in
theorem wX2_placesOf_L44 {p : Program} {l : Launch} {e : Env} {s : State} {m : MethodId} {args : Array Value} {below : List Frame} {meth : Method} {c : Code} (C : cxt p s m args meth c cX2_placesOf 9 RX2 wsX2_placesOf (some .long)) (r : Int64) (F : Nat) (x0 : Int32) (x1 : Int32) (x2 : Int32) (x3 : Int32) (x4 : Int32) (x7 : Int32) (kx : Int64 → Option Int64) (hkx : ∀ (x5 : Int64) (ls : Array Slot), lv_has ls 9 [(0, .int x0), (1, .int x1), (2, .int x2), (3, .int x3), (4, .int x4), (5, .long x5), (7, .int x7)] → kx x5 = some r → W p l e rmX2_placesOf s m args below meth c s.heap [] 0 0 (MQ below (vp_Sl (fun x => x = r)) args s 0 0 (fun _ => False)) (F0 m 102 ls [])) : ∀ (n : Nat) (x5 : Int64) (x8 : Int32) (ls : Array Slot), lv_has ls 9 [(0, .int x0), (1, .int x1), (2, .int x2), (3, .int x3), (4, .int x4), (5, .long x5), (7, .int x7), (8, .int x8)] → fX2_placesOf_L44 F x0 x1 x2 x3 x4 x7 kx n x5 x8 = some r → W p l e rmX2_placesOf s m args below meth c s.heap [] 0 0 (MQ below (vp_Sl (fun x => x = r)) args s 0 0 (fun _ => False)) (F0 m 44 ls []) := by
  obtain ⟨hx, hb, hml, hown, hts, hr, hlk⟩ := id C
  intro n
  induction n with
  | zero =>
    intros
    rename_i h
    cases h
  | succ n ih =>
    intro x5 x8 ls hl h
    rw [fX2_placesOf_L44] at h
    obtain ⟨kb, hkb, h⟩ := nb_some (P := fun (kb : Int64 → Int32 → Option Int64) => ∀ (x5 : Int64) (x8 : Int32) (ls : Array Slot), lv_has ls 9 [(0, .int x0), (1, .int x1), (2, .int x2), (3, .int x3), (4, .int x4), (5, .long x5), (7, .int x7), (8, .int x8)] → kb x5 x8 = some r → W p l e rmX2_placesOf s m args below meth c s.heap [] 0 0 (MQ below (vp_Sl (fun x => x = r)) args s 0 0 (fun _ => False)) (F0 m 44 ls [])) h ih
    refine lv_iload hx hb dX2_placesOf_44 (lv_at hl 7 rfl) ?_
    refine lv_iload_n hx hb dX2_placesOf_46 rfl (lv_at hl 0 rfl) ?_
    refine lv_iload_n hx hb dX2_placesOf_47 rfl (lv_at hl 2 rfl) ?_
    refine va_mmax hx hb (hml.trans hl.1.symm) hown (hts (.methodLink RX2 21 Lib.Math.max.name) (by decide +kernel)) (hts (.static Lib.Math.max.name) (by decide +kernel)) (hts (.initialized "java/lang/Math") (by decide +kernel)) (hts (.code Lib.Math.max.name Lib.Math.max.code 2 (some .int)) (by decide +kernel)) (Nat.le_of_ble_eq_true rfl) (Nat.le_of_ble_eq_true rfl) (Nat.zero_le _) (Nat.zero_le _) dX2_placesOf_48 ?_
    refine lv_icmp_gt (tgt := 102) hx hb dX2_placesOf_51 (by decide) (fun c5 => ?_) (fun c5 => ?_)
    · have h := it_t c5 h
      exact hkx x5 ls (lv_sub hl [0, 1, 2, 3, 4, 5, 6] rfl) h
    · have h := it_f c5 h
      refine lv_iconst (v := (2 : Int32)) hx hb dX2_placesOf_54 (by decide) ?_
      refine lv_iload hx hb dX2_placesOf_55 (lv_at hl 7 rfl) ?_
      refine lv_iload_n hx hb dX2_placesOf_57 rfl (lv_at hl 0 rfl) ?_
      refine lv_isub hx hb dX2_placesOf_58 ?_
      refine lv_iload_n hx hb dX2_placesOf_59 rfl (lv_at hl 3 rfl) ?_
      refine lv_iload_n hx hb dX2_placesOf_60 rfl (lv_at hl 1 rfl) ?_
      refine lv_isub hx hb dX2_placesOf_61 ?_
      refine lv_imul hx hb dX2_placesOf_62 ?_
      refine lv_iload hx hb dX2_placesOf_63 (lv_at hl 6 rfl) ?_
      refine lv_iload_n hx hb dX2_placesOf_65 rfl (lv_at hl 1 rfl) ?_
      refine lv_isub hx hb dX2_placesOf_66 ?_
      refine lv_iload_n hx hb dX2_placesOf_67 rfl (lv_at hl 2 rfl) ?_
      refine lv_iload_n hx hb dX2_placesOf_68 rfl (lv_at hl 0 rfl) ?_
      refine lv_isub hx hb dX2_placesOf_69 ?_
      refine lv_imul hx hb dX2_placesOf_70 ?_
      refine lv_isub hx hb dX2_placesOf_71 ?_
      refine va_mabs hx hb (hml.trans hl.1.symm) hown (hts (.methodLink RX2 15 Lib.Math.abs.name) (by decide +kernel)) (hts (.static Lib.Math.abs.name) (by decide +kernel)) (hts (.initialized "java/lang/Math") (by decide +kernel)) (hts (.code Lib.Math.abs.name Lib.Math.abs.code 1 (some .int)) (by decide +kernel)) (Nat.le_of_ble_eq_true rfl) (Nat.le_of_ble_eq_true rfl) (Nat.zero_le _) (Nat.zero_le _) dX2_placesOf_72 ?_
      refine lv_imul hx hb dX2_placesOf_75 ?_
      refine lv_iload hx hb dX2_placesOf_76 (lv_at hl 4 rfl) ?_
      refine lv_icmp_gt (tgt := 96) hx hb dX2_placesOf_78 (by decide) (fun c6 => ?_) (fun c6 => ?_)
      · have h := it_t c6 h
        exact wX2_placesOf_J96 C  r F kb x0 x1 x2 x3 x4 x5 x7 x8 hkb ls (lv_sub hl [0, 1, 2, 3, 4, 5, 6, 7] rfl) h
      · have h := it_f c6 h
        refine lv_lload hx hb dX2_placesOf_81 (lv_at hl 5 rfl) ?_
        refine lv_lconst (v := (1 : Int64)) hx hb dX2_placesOf_83 (by decide) ?_
        refine lv_bipush (v := (8 : Int32)) hx hb dX2_placesOf_84 (by decide) ?_
        refine lv_iload hx hb dX2_placesOf_86 (lv_at hl 6 rfl) ?_
        refine lv_imul hx hb dX2_placesOf_88 ?_
        refine lv_iload hx hb dX2_placesOf_89 (lv_at hl 7 rfl) ?_
        refine lv_iadd hx hb dX2_placesOf_91 ?_
        refine lv_lshl hx hb dX2_placesOf_92 rfl ?_
        refine lv_lor hx hb dX2_placesOf_93 ?_
        obtain ⟨z7, e_z7, h⟩ := nm_some h
        refine tpl e_z7 ?_
        refine lv_lstore (lv' := [(5, .long z7), (0, .int x0), (1, .int x1), (2, .int x2), (3, .int x3), (4, .int x4), (7, .int x7), (8, .int x8)]) hx hb dX2_placesOf_94 hl (by decide) rfl (fun ls hl => ?_)
        exact wX2_placesOf_J96 C  r F kb x0 x1 x2 x3 x4 z7 x7 x8 hkb ls (lv_sub hl [1, 2, 3, 4, 5, 0, 6, 7] rfl) h
set_option maxHeartbeats 4000000 in
set_option maxRecDepth 100000 in
theorem wX2_placesOf_L27 {p : Program} {l : Launch} {e : Env} {s : State} {m : MethodId} {args : Array Value} {below : List Frame} {meth : Method} {c : Code} (C : cxt p s m args meth c cX2_placesOf 9 RX2 wsX2_placesOf (some .long)) (r : Int64) (F : Nat) (x0 : Int32) (x1 : Int32) (x2 : Int32) (x3 : Int32) (x4 : Int32) (kx : Int64 → Option Int64) (hkx : ∀ (x5 : Int64) (ls : Array Slot), lv_has ls 9 [(5, .long x5)] → kx x5 = some r → W p l e rmX2_placesOf s m args below meth c s.heap [] 0 0 (MQ below (vp_Sl (fun x => x = r)) args s 0 0 (fun _ => False)) (F0 m 108 ls [])) : ∀ (n : Nat) (x5 : Int64) (x7 : Int32) (ls : Array Slot), lv_has ls 9 [(0, .int x0), (1, .int x1), (2, .int x2), (3, .int x3), (4, .int x4), (5, .long x5), (7, .int x7)] → fX2_placesOf_L27 F x0 x1 x2 x3 x4 kx n x5 x7 = some r → W p l e rmX2_placesOf s m args below meth c s.heap [] 0 0 (MQ below (vp_Sl (fun x => x = r)) args s 0 0 (fun _ => False)) (F0 m 27 ls []) := by
  obtain ⟨hx, hb, hml, hown, hts, hr, hlk⟩ := id C
  intro n
  induction n with
  | zero =>
    intros
    rename_i h
    cases h
  | succ n ih =>
    intro x5 x7 ls hl h
    rw [fX2_placesOf_L27] at h
    obtain ⟨kb, hkb, h⟩ := nb_some (P := fun (kb : Int64 → Int32 → Option Int64) => ∀ (x5 : Int64) (x7 : Int32) (ls : Array Slot), lv_has ls 9 [(0, .int x0), (1, .int x1), (2, .int x2), (3, .int x3), (4, .int x4), (5, .long x5), (7, .int x7)] → kb x5 x7 = some r → W p l e rmX2_placesOf s m args below meth c s.heap [] 0 0 (MQ below (vp_Sl (fun x => x = r)) args s 0 0 (fun _ => False)) (F0 m 27 ls [])) h ih
    refine lv_iload hx hb dX2_placesOf_27 (lv_at hl 6 rfl) ?_
    refine lv_iload_n hx hb dX2_placesOf_29 rfl (lv_at hl 1 rfl) ?_
    refine lv_iload_n hx hb dX2_placesOf_30 rfl (lv_at hl 3 rfl) ?_
    refine va_mmax hx hb (hml.trans hl.1.symm) hown (hts (.methodLink RX2 21 Lib.Math.max.name) (by decide +kernel)) (hts (.static Lib.Math.max.name) (by decide +kernel)) (hts (.initialized "java/lang/Math") (by decide +kernel)) (hts (.code Lib.Math.max.name Lib.Math.max.code 2 (some .int)) (by decide +kernel)) (Nat.le_of_ble_eq_true rfl) (Nat.le_of_ble_eq_true rfl) (Nat.zero_le _) (Nat.zero_le _) dX2_placesOf_31 ?_
    refine lv_icmp_gt (tgt := 108) hx hb dX2_placesOf_34 (by decide) (fun c3 => ?_) (fun c3 => ?_)
    · have h := it_t c3 h
      exact hkx x5 ls (lv_sub hl [5] rfl) h
    · have h := it_f c3 h
      refine lv_iload_n hx hb dX2_placesOf_37 rfl (lv_at hl 0 rfl) ?_
      refine lv_iload_n hx hb dX2_placesOf_38 rfl (lv_at hl 2 rfl) ?_
      refine va_mmin hx hb (hml.trans hl.1.symm) hown (hts (.methodLink RX2 25 Lib.Math.min.name) (by decide +kernel)) (hts (.static Lib.Math.min.name) (by decide +kernel)) (hts (.initialized "java/lang/Math") (by decide +kernel)) (hts (.code Lib.Math.min.name Lib.Math.min.code 2 (some .int)) (by decide +kernel)) (Nat.le_of_ble_eq_true rfl) (Nat.le_of_ble_eq_true rfl) (Nat.zero_le _) (Nat.zero_le _) dX2_placesOf_39 ?_
      obtain ⟨z4, e_z4, h⟩ := nm_some h
      refine tpi e_z4 ?_
      refine lv_istore (lv' := [(8, .int z4), (0, .int x0), (1, .int x1), (2, .int x2), (3, .int x3), (4, .int x4), (5, .long x5), (7, .int x7)]) hx hb dX2_placesOf_42 hl (by decide) rfl (fun ls hl => ?_)
      refine wX2_placesOf_L44 C  r F x0 x1 x2 x3 x4 x7 _ ?_ F x5 z4 ls (lv_sub hl [1, 2, 3, 4, 5, 6, 7, 0] rfl) h
      intro y5 ls hl h
      refine lv_iinc (v := x7 + (1 : Int32)) (lv' := [(7, .int (x7 + (1 : Int32))), (0, .int x0), (1, .int x1), (2, .int x2), (3, .int x3), (4, .int x4), (5, .long y5)]) hx hb dX2_placesOf_102 hl (k := 6) rfl rfl (by decide) rfl (fun ls hl => ?_)
      refine lv_goto (tgt := 27) hx hb dX2_placesOf_105 (by decide) ?_
      exact hkb y5 (x7 + (1 : Int32)) ls (lv_sub hl [1, 2, 3, 4, 5, 6, 0] rfl) h
set_option maxHeartbeats 4000000 in
set_option maxRecDepth 100000 in
theorem kX2_placesOf (l : Launch) (F : Nat) (x0 : Int32) (x1 : Int32) (x2 : Int32) (x3 : Int32) (r : Int64) (h : fX2_placesOf F x0 x1 x2 x3 = some r) : Met l yX2_placesOf wsX2_placesOf rmX2_placesOf (va_Pc [.int x0, .int x1, .int x2, .int x3] (p0)) (vp_Sl (fun x => x = r)) 0 0 (fun _ => False) := by
  refine Met.ofW (cc := cX2_placesOf) (maxL := 9) (ret := (some .long)) (by decide) rfl ?_
  intro p e s m args below meth c s₁ B hml hv
  obtain ⟨rfl, -⟩ := hv
  have C : cxt p s m _ meth c cX2_placesOf 9 RX2 wsX2_placesOf (some .long) := ⟨B.exec, B.bytes, hml, findClass_of_methodNamed B.named, atoms_spec (ws := wsX2_placesOf) B.pre, B.returns, B.notSynchronized⟩
  obtain ⟨hx, hb, -, hown, hts, hr, hlk⟩ := id C
  refine entryW [.int x0, .int x1, .int x2, .int x3] (n := 9) (Nat.le_of_ble_eq_true rfl) (fun ls hl => ?_)
  have hl : lv_has ls 9 [(0, .int x0), (1, .int x1), (2, .int x2), (3, .int x3)] := hl
  unfold fX2_placesOf at h
  refine lv_iload_n hx hb dX2_placesOf_0 rfl (lv_at hl 2 rfl) ?_
  refine lv_iload_n hx hb dX2_placesOf_1 rfl (lv_at hl 0 rfl) ?_
  refine lv_isub hx hb dX2_placesOf_2 ?_
  refine va_mabs hx hb (hml.trans hl.1.symm) hown (hts (.methodLink RX2 15 Lib.Math.abs.name) (by decide +kernel)) (hts (.static Lib.Math.abs.name) (by decide +kernel)) (hts (.initialized "java/lang/Math") (by decide +kernel)) (hts (.code Lib.Math.abs.name Lib.Math.abs.code 1 (some .int)) (by decide +kernel)) (Nat.le_of_ble_eq_true rfl) (Nat.le_of_ble_eq_true rfl) (Nat.zero_le _) (Nat.zero_le _) dX2_placesOf_3 ?_
  refine lv_iload_n hx hb dX2_placesOf_6 rfl (lv_at hl 3 rfl) ?_
  refine lv_iload_n hx hb dX2_placesOf_7 rfl (lv_at hl 1 rfl) ?_
  refine lv_isub hx hb dX2_placesOf_8 ?_
  refine va_mabs hx hb (hml.trans hl.1.symm) hown (hts (.methodLink RX2 15 Lib.Math.abs.name) (by decide +kernel)) (hts (.static Lib.Math.abs.name) (by decide +kernel)) (hts (.initialized "java/lang/Math") (by decide +kernel)) (hts (.code Lib.Math.abs.name Lib.Math.abs.code 1 (some .int)) (by decide +kernel)) (Nat.le_of_ble_eq_true rfl) (Nat.le_of_ble_eq_true rfl) (Nat.zero_le _) (Nat.zero_le _) dX2_placesOf_9 ?_
  refine va_mmax hx hb (hml.trans hl.1.symm) hown (hts (.methodLink RX2 21 Lib.Math.max.name) (by decide +kernel)) (hts (.static Lib.Math.max.name) (by decide +kernel)) (hts (.initialized "java/lang/Math") (by decide +kernel)) (hts (.code Lib.Math.max.name Lib.Math.max.code 2 (some .int)) (by decide +kernel)) (Nat.le_of_ble_eq_true rfl) (Nat.le_of_ble_eq_true rfl) (Nat.zero_le _) (Nat.zero_le _) dX2_placesOf_12 ?_
  obtain ⟨z1, e_z1, h⟩ := nm_some h
  refine tpi e_z1 ?_
  refine lv_istore (lv' := [(4, .int z1), (0, .int x0), (1, .int x1), (2, .int x2), (3, .int x3)]) hx hb dX2_placesOf_15 hl (by decide) rfl (fun ls hl => ?_)
  refine lv_lconst (v := (0 : Int64)) hx hb dX2_placesOf_17 (by decide) ?_
  refine lv_lstore (lv' := [(5, .long (0 : Int64)), (4, .int z1), (0, .int x0), (1, .int x1), (2, .int x2), (3, .int x3)]) hx hb dX2_placesOf_18 hl (by decide) rfl (fun ls hl => ?_)
  refine lv_iload_n hx hb dX2_placesOf_20 rfl (lv_at hl 3 rfl) ?_
  refine lv_iload_n hx hb dX2_placesOf_21 rfl (lv_at hl 5 rfl) ?_
  refine va_mmin hx hb (hml.trans hl.1.symm) hown (hts (.methodLink RX2 25 Lib.Math.min.name) (by decide +kernel)) (hts (.static Lib.Math.min.name) (by decide +kernel)) (hts (.initialized "java/lang/Math") (by decide +kernel)) (hts (.code Lib.Math.min.name Lib.Math.min.code 2 (some .int)) (by decide +kernel)) (Nat.le_of_ble_eq_true rfl) (Nat.le_of_ble_eq_true rfl) (Nat.zero_le _) (Nat.zero_le _) dX2_placesOf_22 ?_
  obtain ⟨z2, e_z2, h⟩ := nm_some h
  refine tpi e_z2 ?_
  refine lv_istore (lv' := [(7, .int z2), (5, .long (0 : Int64)), (4, .int z1), (0, .int x0), (1, .int x1), (2, .int x2), (3, .int x3)]) hx hb dX2_placesOf_25 hl (by decide) rfl (fun ls hl => ?_)
  refine wX2_placesOf_L27 C  r F x0 x1 x2 x3 z1 _ ?_ F (0 : Int64) z2 ls (lv_sub hl [3, 4, 5, 6, 2, 1, 0] rfl) h
  intro y3 ls hl h
  refine lv_lload hx hb dX2_placesOf_108 (lv_at hl 0 rfl) ?_
  exact mretSL hx hb hr hlk h dX2_placesOf_110
def fX11_cellOf_L19 (F : Nat) (x1 : Int32) (kx : Int32 → Int32 → Option Int32) : Nat → Int32 → Int32 → Int32 → Option Int32
  | 0, _, _, _ => none
  | n+1, x2, x3, x4 =>
    nb ((fun x2 x3 x4 => fX11_cellOf_L19 F x1 kx n x2 x3 x4)) fun kb =>
    if x1 ≤ x4 then (kx x2 x3) else (kb ((15 : Int32) - x3) x2 (x4 + (1 : Int32)))
def fX11_cellOf (F : Nat) (x0 : Int32) (x1 : Int32) : Option Int32 :=
  nm ((8 : Int32) + (x0 - x0 / (8 : Int32) * (8 : Int32))) fun z1 => nm ((8 : Int32) + (x0 / (8 : Int32))) fun z2 => fX11_cellOf_L19 F x1 (fun y3 y4 => some (((16 : Int32) * y4) + y3)) F z1 z2 (0 : Int32)
abbrev rmX11_cellOf : Room := { frames := 0, cells := 0, slots := 0, locals := 0 }
set_option maxHeartbeats 4000000 in
set_option maxRecDepth 100000 in
theorem wX11_cellOf_L19 {p : Program} {l : Launch} {e : Env} {s : State} {m : MethodId} {args : Array Value} {below : List Frame} {meth : Method} {c : Code} (C : cxt p s m args meth c cX11_cellOf 6 RX11 wsX11_cellOf (some .int)) (r : Int32) (F : Nat) (x1 : Int32) (kx : Int32 → Int32 → Option Int32) (hkx : ∀ (x2 : Int32) (x3 : Int32) (ls : Array Slot), lv_has ls 6 [(2, .int x2), (3, .int x3)] → kx x2 x3 = some r → W p l e rmX11_cellOf s m args below meth c s.heap [] 0 0 (MQ below (vp_Si (fun x => x = r)) args s 0 0 (fun _ => False)) (F0 m 42 ls [])) : ∀ (n : Nat) (x2 : Int32) (x3 : Int32) (x4 : Int32) (ls : Array Slot), lv_has ls 6 [(1, .int x1), (2, .int x2), (3, .int x3), (4, .int x4)] → fX11_cellOf_L19 F x1 kx n x2 x3 x4 = some r → W p l e rmX11_cellOf s m args below meth c s.heap [] 0 0 (MQ below (vp_Si (fun x => x = r)) args s 0 0 (fun _ => False)) (F0 m 19 ls []) := by
  obtain ⟨hx, hb, hml, hown, hts, hr, hlk⟩ := id C
  intro n
  induction n with
  | zero =>
    intros
    rename_i h
    cases h
  | succ n ih =>
    intro x2 x3 x4 ls hl h
    rw [fX11_cellOf_L19] at h
    obtain ⟨kb, hkb, h⟩ := nb_some (P := fun (kb : Int32 → Int32 → Int32 → Option Int32) => ∀ (x2 : Int32) (x3 : Int32) (x4 : Int32) (ls : Array Slot), lv_has ls 6 [(1, .int x1), (2, .int x2), (3, .int x3), (4, .int x4)] → kb x2 x3 x4 = some r → W p l e rmX11_cellOf s m args below meth c s.heap [] 0 0 (MQ below (vp_Si (fun x => x = r)) args s 0 0 (fun _ => False)) (F0 m 19 ls [])) h ih
    refine lv_iload hx hb dX11_cellOf_19 (lv_at hl 3 rfl) ?_
    refine lv_iload_n hx hb dX11_cellOf_21 rfl (lv_at hl 0 rfl) ?_
    refine lv_icmp_ge (tgt := 42) hx hb dX11_cellOf_22 (by decide) (fun c3 => ?_) (fun c3 => ?_)
    · have h := it_t c3 h
      exact hkx x2 x3 ls (lv_sub hl [1, 2] rfl) h
    · have h := it_f c3 h
      refine lv_bipush (v := (15 : Int32)) hx hb dX11_cellOf_25 (by decide) ?_
      refine lv_iload_n hx hb dX11_cellOf_27 rfl (lv_at hl 2 rfl) ?_
      refine lv_isub hx hb dX11_cellOf_28 ?_
      refine lv_istore (lv' := [(5, .int ((15 : Int32) - x3)), (1, .int x1), (2, .int x2), (3, .int x3), (4, .int x4)]) hx hb dX11_cellOf_29 hl (by decide) rfl (fun ls hl => ?_)
      refine lv_iload_n hx hb dX11_cellOf_31 rfl (lv_at hl 2 rfl) ?_
      refine lv_istore_n (lv' := [(3, .int x2), (5, .int ((15 : Int32) - x3)), (1, .int x1), (2, .int x2), (4, .int x4)]) hx hb dX11_cellOf_32 rfl hl (by decide) rfl (fun ls hl => ?_)
      refine lv_iload hx hb dX11_cellOf_33 (lv_at hl 1 rfl) ?_
      refine lv_istore_n (lv' := [(2, .int ((15 : Int32) - x3)), (3, .int x2), (5, .int ((15 : Int32) - x3)), (1, .int x1), (4, .int x4)]) hx hb dX11_cellOf_35 rfl hl (by decide) rfl (fun ls hl => ?_)
      refine lv_iinc (v := x4 + (1 : Int32)) (lv' := [(4, .int (x4 + (1 : Int32))), (2, .int ((15 : Int32) - x3)), (3, .int x2), (5, .int ((15 : Int32) - x3)), (1, .int x1)]) hx hb dX11_cellOf_36 hl (k := 4) rfl rfl (by decide) rfl (fun ls hl => ?_)
      refine lv_goto (tgt := 19) hx hb dX11_cellOf_39 (by decide) ?_
      exact hkb ((15 : Int32) - x3) x2 (x4 + (1 : Int32)) ls (lv_sub hl [4, 1, 2, 0] rfl) h
set_option maxHeartbeats 4000000 in
set_option maxRecDepth 100000 in
theorem kX11_cellOf (l : Launch) (F : Nat) (x0 : Int32) (x1 : Int32) (r : Int32) (h : fX11_cellOf F x0 x1 = some r) : Met l yX11_cellOf wsX11_cellOf rmX11_cellOf (va_Pc [.int x0, .int x1] (p0)) (vp_Si (fun x => x = r)) 0 0 (fun _ => False) := by
  refine Met.ofW (cc := cX11_cellOf) (maxL := 6) (ret := (some .int)) (by decide) rfl ?_
  intro p e s m args below meth c s₁ B hml hv
  obtain ⟨rfl, -⟩ := hv
  have C : cxt p s m _ meth c cX11_cellOf 6 RX11 wsX11_cellOf (some .int) := ⟨B.exec, B.bytes, hml, findClass_of_methodNamed B.named, atoms_spec (ws := wsX11_cellOf) B.pre, B.returns, B.notSynchronized⟩
  obtain ⟨hx, hb, -, hown, hts, hr, hlk⟩ := id C
  refine entryW [.int x0, .int x1] (n := 6) (Nat.le_of_ble_eq_true rfl) (fun ls hl => ?_)
  have hl : lv_has ls 6 [(0, .int x0), (1, .int x1)] := hl
  unfold fX11_cellOf at h
  refine lv_bipush (v := (8 : Int32)) hx hb dX11_cellOf_0 (by decide) ?_
  refine lv_iload_n hx hb dX11_cellOf_2 rfl (lv_at hl 0 rfl) ?_
  refine lv_bipush (v := (8 : Int32)) hx hb dX11_cellOf_3 (by decide) ?_
  refine lv_irem hx hb dX11_cellOf_5 (by decide) ?_
  refine lv_iadd hx hb dX11_cellOf_6 ?_
  obtain ⟨z1, e_z1, h⟩ := nm_some h
  refine tpi e_z1 ?_
  refine lv_istore_n (lv' := [(2, .int z1), (0, .int x0), (1, .int x1)]) hx hb dX11_cellOf_7 rfl hl (by decide) rfl (fun ls hl => ?_)
  refine lv_bipush (v := (8 : Int32)) hx hb dX11_cellOf_8 (by decide) ?_
  refine lv_iload_n hx hb dX11_cellOf_10 rfl (lv_at hl 1 rfl) ?_
  refine lv_bipush (v := (8 : Int32)) hx hb dX11_cellOf_11 (by decide) ?_
  refine lv_idiv hx hb dX11_cellOf_13 (by decide) ?_
  refine lv_iadd hx hb dX11_cellOf_14 ?_
  obtain ⟨z2, e_z2, h⟩ := nm_some h
  refine tpi e_z2 ?_
  refine lv_istore_n (lv' := [(3, .int z2), (2, .int z1), (0, .int x0), (1, .int x1)]) hx hb dX11_cellOf_15 rfl hl (by decide) rfl (fun ls hl => ?_)
  refine lv_iconst (v := (0 : Int32)) hx hb dX11_cellOf_16 (by decide) ?_
  refine lv_istore (lv' := [(4, .int (0 : Int32)), (3, .int z2), (2, .int z1), (0, .int x0), (1, .int x1)]) hx hb dX11_cellOf_17 hl (by decide) rfl (fun ls hl => ?_)
  refine wX11_cellOf_L19 C  r F x1 _ ?_ F z1 z2 (0 : Int32) ls (lv_sub hl [4, 2, 1, 0] rfl) h
  intro y3 y4 ls hl h
  refine lv_bipush (v := (16 : Int32)) hx hb dX11_cellOf_42 (by decide) ?_
  refine lv_iload_n hx hb dX11_cellOf_44 rfl (lv_at hl 1 rfl) ?_
  refine lv_imul hx hb dX11_cellOf_45 ?_
  refine lv_iload_n hx hb dX11_cellOf_46 rfl (lv_at hl 0 rfl) ?_
  refine lv_iadd hx hb dX11_cellOf_47 ?_
  exact mretS hx hb hr hlk h dX11_cellOf_48
def fX6_isAt (sh : Nat → Option Nat) (Z : ZT) (q : Nat) (σ : Nat → Nat → Int32) (x1 : Int32) : Option Int32 :=
  if (lg_cmp (((((Z q).2.2.1).toUInt64 >>> (x1.toInt64.toUInt64 &&& Int64.toUInt64 63)).toInt64) &&& (1 : Int64)) (0 : Int64)) = 0 then (some (0 : Int32)) else (some (1 : Int32))
abbrev rmX6_isAt : Room := { frames := 0, cells := 0, slots := 0, locals := 0 }
theorem inX0_X6_isAt : ∀ w ∈ wsX00, w ∈ wsX6_isAt := by intro w h; simp only [wsX6_isAt, List.mem_cons, List.mem_append]; simp only [h, true_or, or_true]
theorem inX1_X6_isAt : ∀ w ∈ wsX10, w ∈ wsX6_isAt := by intro w h; simp only [wsX6_isAt, List.mem_cons, List.mem_append]; simp only [h, true_or, or_true]
theorem inX2_X6_isAt : ∀ w ∈ wsX20, w ∈ wsX6_isAt := by intro w h; simp only [wsX6_isAt, List.mem_cons, List.mem_append]; simp only [h, true_or, or_true]
theorem inX5_X6_isAt : ∀ w ∈ wsX50, w ∈ wsX6_isAt := by intro w h; simp only [wsX6_isAt, List.mem_cons, List.mem_append]; simp only [h, true_or, or_true]
theorem inX8_X6_isAt : ∀ w ∈ wsX80, w ∈ wsX6_isAt := by intro w h; simp only [wsX6_isAt, List.mem_cons, List.mem_append]; simp only [h, true_or, or_true]
set_option maxHeartbeats 4000000 in
set_option maxRecDepth 100000 in
theorem kX6_isAt (l : Launch) (D : va_G) (cs : Nat → ClassId) (a : Nat → Nat) (sh : Nat → Option Nat) (LP : List Nat) (Z : ZT) (hZ : shOK sh LP Z) (q : Nat) (hq : q ∈ LP) (hk : okK (Z q).1) (σ : Nat → Nat → Int32) (x1 : Int32) (r : Int32) (h : fX6_isAt sh Z q σ x1 = some r) : Met l yX6_isAt wsX6_isAt rmX6_isAt (va_Pc [.ref q, .int x1] (pR D cs (cW a cs sh LP Z σ))) (vp_Si (fun x => x = r ∧ (r = 0 ∨ r = 1))) 0 0 (fun _ => False) := by
  refine Met.ofW (cc := cX6_isAt) (maxL := 2) (ret := (some .boolean)) (by decide) rfl ?_
  intro p e s m args below meth c s₁ B hml hv
  obtain ⟨rfl, hP, hK⟩ := hv
  have C : cxt p s m _ meth c cX6_isAt 2 RX6 wsX6_isAt (some .boolean) := ⟨B.exec, B.bytes, hml, findClass_of_methodNamed B.named, atoms_spec (ws := wsX6_isAt) B.pre, B.returns, B.notSynchronized⟩
  obtain ⟨hx, hb, -, hown, hts, hr, hlk⟩ := id C
  refine entryW [.ref q, .int x1] (n := 2) (Nat.le_of_ble_eq_true rfl) (fun ls hl => ?_)
  have hl : lv_has ls 2 [(0, .ref q), (1, .int x1)] := hl
  have fq : q ∈ LP ∧ okK (Z q).1 := ⟨hq, hk⟩
  unfold fX6_isAt at h
  refine lv_aload_n hx hb dX6_isAt_0 rfl (lv_at hl 0 rfl) ?_
  refine shgetP hx hb hts inX0_X6_isAt inX1_X6_isAt inX2_X6_isAt inX5_X6_isAt inX8_X6_isAt hown hK.1 hP fq.1 fq.2 (hts (.fieldLink RX6 15 "SandPalace$Shape" "places" "J") (by decide +kernel)) (fun _ h9 => h9) dX6_isAt_1 ?_
  refine lv_iload_n hx hb dX6_isAt_4 rfl (lv_at hl 1 rfl) ?_
  refine lv_lushr hx hb dX6_isAt_5 rfl ?_
  refine lv_lconst (v := (1 : Int64)) hx hb dX6_isAt_6 (by decide) ?_
  refine lv_land hx hb dX6_isAt_7 ?_
  refine lv_lconst (v := (0 : Int64)) hx hb dX6_isAt_8 (by decide) ?_
  refine W.lcmp hx hb dX6_isAt_9 ?_
  refine lv_if_eq (tgt := 17) hx hb dX6_isAt_10 (by decide) (fun c1 => ?_) (fun c1 => ?_)
  · have h := it_t c1 h
    refine lv_iconst (v := (0 : Int32)) hx hb dX6_isAt_17 (by decide) ?_
    exact mretSZ hx hb hr hlk h (Or.inl rfl) dX6_isAt_18
  · have h := it_f c1 h
    refine lv_iconst (v := (1 : Int32)) hx hb dX6_isAt_13 (by decide) ?_
    refine lv_goto (tgt := 18) hx hb dX6_isAt_14 (by decide) ?_
    exact mretSZ hx hb hr hlk h (Or.inr rfl) dX6_isAt_18
def fX4_look_L7 (F : Nat) (sh : Nat → Option Nat) (Z : ZT) (σ : Nat → Nat → Int32) (x1 : Int32) (x2 : Int32) (kx : Option Int32) : Nat → Int32 → Option Int32
  | 0, _ => none
  | n+1, x3 =>
    nb ((fun x3 => fX4_look_L7 F sh Z σ x1 x2 kx n x3)) fun kb =>
    if x3 < 0 then kx else (aO sh 10 x3 fun q2 => bd (fX6_isAt sh Z q2 σ x1) fun v3 => if v3 = 0 then (kb (x3 + ((-1) : Int32))) else (aO sh 10 x3 fun q5 => bd (fV_colourIn sh Z q5 σ x2) fun v6 => some v6))
def fX4_look (F : Nat) (sh : Nat → Option Nat) (Z : ZT) (σ : Nat → Nat → Int32) (x1 : Int32) (x2 : Int32) : Option Int32 :=
  fX4_look_L7 F sh Z σ x1 x2 (some (0 : Int32)) F ((σ 33 0) - (1 : Int32))
abbrev rmX4_look : Room := { frames := 3, cells := 0, slots := 0, locals := 64 }
theorem inX4_X4_look : ∀ w ∈ wsX40, w ∈ wsX4_look := by intro w h; simp only [wsX4_look, List.mem_cons, List.mem_append]; simp only [h, true_or, or_true]
set_option maxHeartbeats 4000000 in
set_option maxRecDepth 100000 in
theorem wX4_look_L7 {p : Program} {l : Launch} {e : Env} {s : State} {m : MethodId} {args : Array Value} {below : List Frame} {meth : Method} {c : Code} (C : cxt p s m args meth c cX4_look 4 RX4 wsX4_look (some .int)) {D : va_G} {cs : Nat → ClassId} {a : Nat → Nat} {sh : Nat → Option Nat} {LP : List Nat} {Z : ZT} (hZ : shOK sh LP Z) (hK : KK D cs s) {σ : Nat → Nat → Int32} (hP : va_P D vwCl (cW a cs sh LP Z σ) s.heap) (r : Int32) (F : Nat) (x1 : Int32) (x2 : Int32) (kx : Option Int32) (hkx : ∀ (ls : Array Slot), lv_has ls 4 [] → kx = some r → W p l e rmX4_look s m args below meth c s.heap [] 0 0 (MQ below (vp_Si (fun x => x = r)) args s 0 0 (fun _ => False)) (F0 m 41 ls [])) : ∀ (n : Nat) (x3 : Int32) (ls : Array Slot), lv_has ls 4 [(0, .ref (a 1)), (1, .int x1), (2, .int x2), (3, .int x3)] → fX4_look_L7 F sh Z σ x1 x2 kx n x3 = some r → W p l e rmX4_look s m args below meth c s.heap [] 0 0 (MQ below (vp_Si (fun x => x = r)) args s 0 0 (fun _ => False)) (F0 m 7 ls []) := by
  obtain ⟨hx, hb, hml, hown, hts, hr, hlk⟩ := id C
  intro n
  induction n with
  | zero =>
    intros
    rename_i h
    cases h
  | succ n ih =>
    intro x3 ls hl h
    rw [fX4_look_L7] at h
    obtain ⟨kb, hkb, h⟩ := nb_some (P := fun (kb : Int32 → Option Int32) => ∀ (x3 : Int32) (ls : Array Slot), lv_has ls 4 [(0, .ref (a 1)), (1, .int x1), (2, .int x2), (3, .int x3)] → kb x3 = some r → W p l e rmX4_look s m args below meth c s.heap [] 0 0 (MQ below (vp_Si (fun x => x = r)) args s 0 0 (fun _ => False)) (F0 m 7 ls [])) h ih
    refine lv_iload_n hx hb dX4_look_7 rfl (lv_at hl 3 rfl) ?_
    refine lv_if_lt (tgt := 41) hx hb dX4_look_8 (by decide) (fun c1 => ?_) (fun c1 => ?_)
    · have h := it_t c1 h
      exact hkx  ls (lv_sub hl [] rfl) h
    · have h := it_f c1 h
      refine lv_aload_n hx hb dX4_look_11 rfl (lv_at hl 0 rfl) ?_
      refine va_get (D := D) (ci := 4) (v := .ref (a 2)) (C := RX4) (T := TX4) (N := 3) hx hb hts inX4_X4_look hown hK.1 hP 1 rfl rfl 0 (by decide) (hts (.fieldLink RX4 11 "SandPalace$Picture" "shapes" "[LSandPalace$Shape;") (by decide +kernel)) (fun _ h9 => h9) rfl dX4_look_12 ?_
      refine lv_iload_n hx hb dX4_look_15 rfl (lv_at hl 3 rfl) ?_
      obtain ⟨q2, i_q2, e_q2, h⟩ := aO_some h
      have f_q2 := hZ _ _ e_q2
      refine msald hx hb hK.1 hP 2 2 rfl rfl i_q2 e_q2 dX4_look_16 ?_
      refine lv_iload_n hx hb dX4_look_17 rfl (lv_at hl 1 rfl) ?_
      obtain ⟨v3, hc_v3, h⟩ := bd_some h
      refine mcallSZ (r := v3) (rest := []) (a0 := (Value.ref q2 :: [.int x1]).toArray) ?_ (fun z_v3 => ?_)
      · rcases f_q2.2 with kq | kq | kq | kq | kq
        · exact va_runU (As := [.int x1]) (rest := []) ⟨hx, hb, hml, hown, hts⟩ (kX6_isAt l D cs a sh LP Z hZ q2 f_q2.1 f_q2.2 σ x1 v3 hc_v3) (va_cwU 1 hts gX4_look_X6_isAt_u33X0 rfl rfl rfl rfl (by decide +kernel) ⟨Nat.le_of_ble_eq_true rfl, Nat.le_of_ble_eq_true rfl⟩) (pR_v hP hK (shr0 hK.1 hP f_q2.1 kq)) rfl rfl hl.1 rfl (lv_room (Nat.le_of_ble_eq_true rfl)) dX4_look_18 ⟨Nat.zero_le _, Nat.zero_le _⟩
        · exact va_runU (As := [.int x1]) (rest := []) ⟨hx, hb, hml, hown, hts⟩ (kX6_isAt l D cs a sh LP Z hZ q2 f_q2.1 f_q2.2 σ x1 v3 hc_v3) (va_cwU 1 hts gX4_look_X6_isAt_u33X1 rfl rfl rfl rfl (by decide +kernel) ⟨Nat.le_of_ble_eq_true rfl, Nat.le_of_ble_eq_true rfl⟩) (pR_v hP hK (shr1 hK.1 hP f_q2.1 kq)) rfl rfl hl.1 rfl (lv_room (Nat.le_of_ble_eq_true rfl)) dX4_look_18 ⟨Nat.zero_le _, Nat.zero_le _⟩
        · exact va_runU (As := [.int x1]) (rest := []) ⟨hx, hb, hml, hown, hts⟩ (kX6_isAt l D cs a sh LP Z hZ q2 f_q2.1 f_q2.2 σ x1 v3 hc_v3) (va_cwU 1 hts gX4_look_X6_isAt_u33X2 rfl rfl rfl rfl (by decide +kernel) ⟨Nat.le_of_ble_eq_true rfl, Nat.le_of_ble_eq_true rfl⟩) (pR_v hP hK (shr2 hK.1 hP f_q2.1 kq)) rfl rfl hl.1 rfl (lv_room (Nat.le_of_ble_eq_true rfl)) dX4_look_18 ⟨Nat.zero_le _, Nat.zero_le _⟩
        · exact va_runU (As := [.int x1]) (rest := []) ⟨hx, hb, hml, hown, hts⟩ (kX6_isAt l D cs a sh LP Z hZ q2 f_q2.1 f_q2.2 σ x1 v3 hc_v3) (va_cwU 1 hts gX4_look_X6_isAt_u33X5 rfl rfl rfl rfl (by decide +kernel) ⟨Nat.le_of_ble_eq_true rfl, Nat.le_of_ble_eq_true rfl⟩) (pR_v hP hK (shr5 hK.1 hP f_q2.1 kq)) rfl rfl hl.1 rfl (lv_room (Nat.le_of_ble_eq_true rfl)) dX4_look_18 ⟨Nat.zero_le _, Nat.zero_le _⟩
        · exact va_runU (As := [.int x1]) (rest := []) ⟨hx, hb, hml, hown, hts⟩ (kX6_isAt l D cs a sh LP Z hZ q2 f_q2.1 f_q2.2 σ x1 v3 hc_v3) (va_cwU 1 hts gX4_look_X6_isAt_u33X8 rfl rfl rfl rfl (by decide +kernel) ⟨Nat.le_of_ble_eq_true rfl, Nat.le_of_ble_eq_true rfl⟩) (pR_v hP hK (shr7 hK.1 hP f_q2.1 kq)) rfl rfl hl.1 rfl (lv_room (Nat.le_of_ble_eq_true rfl)) dX4_look_18 ⟨Nat.zero_le _, Nat.zero_le _⟩
      refine lv_if_eq (tgt := 35) hx hb dX4_look_21 (by decide) (fun c4 => ?_) (fun c4 => ?_)
      · have h := it_t c4 h
        refine lv_iinc (v := x3 + ((-1) : Int32)) (lv' := [(3, .int (x3 + ((-1) : Int32))), (0, .ref (a 1)), (1, .int x1), (2, .int x2)]) hx hb dX4_look_35 hl (k := 3) rfl rfl (by decide) rfl (fun ls hl => ?_)
        refine lv_goto (tgt := 7) hx hb dX4_look_38 (by decide) ?_
        exact hkb (x3 + ((-1) : Int32)) ls (lv_sub hl [1, 2, 3, 0] rfl) h
      · have h := it_f c4 h
        refine lv_aload_n hx hb dX4_look_24 rfl (lv_at hl 0 rfl) ?_
        refine va_get (D := D) (ci := 4) (v := .ref (a 2)) (C := RX4) (T := TX4) (N := 3) hx hb hts inX4_X4_look hown hK.1 hP 1 rfl rfl 0 (by decide) (hts (.fieldLink RX4 11 "SandPalace$Picture" "shapes" "[LSandPalace$Shape;") (by decide +kernel)) (fun _ h9 => h9) rfl dX4_look_25 ?_
        refine lv_iload_n hx hb dX4_look_28 rfl (lv_at hl 3 rfl) ?_
        obtain ⟨q5, i_q5, e_q5, h⟩ := aO_some h
        have f_q5 := hZ _ _ e_q5
        refine msald hx hb hK.1 hP 2 2 rfl rfl i_q5 e_q5 dX4_look_29 ?_
        refine lv_iload_n hx hb dX4_look_30 rfl (lv_at hl 2 rfl) ?_
        obtain ⟨v6, hc_v6, h⟩ := bd_some h
        refine mcallS (r := v6) (rest := []) (a0 := (Value.ref q5 :: [.int x2]).toArray) ?_ ?_
        · rcases f_q5.2 with kq | kq | kq | kq | kq
          · exact va_runU (As := [.int x2]) (rest := []) ⟨hx, hb, hml, hown, hts⟩ (kX6_colourIn l D cs a sh LP Z hZ q5 f_q5.1 f_q5.2 σ x2 v6 (by unfold fV_colourIn at hc_v6; rw [kq] at hc_v6; exact hc_v6)) (va_cwU 1 hts gX4_look_X6_colourIn_u37X0 rfl rfl rfl rfl (by decide +kernel) ⟨Nat.le_of_ble_eq_true rfl, Nat.le_of_ble_eq_true rfl⟩) (pR_v hP hK (shr0 hK.1 hP f_q5.1 kq)) rfl rfl hl.1 rfl (lv_room (Nat.le_of_ble_eq_true rfl)) dX4_look_31 ⟨Nat.zero_le _, Nat.zero_le _⟩
          · exact va_runU (As := [.int x2]) (rest := []) ⟨hx, hb, hml, hown, hts⟩ (kX6_colourIn l D cs a sh LP Z hZ q5 f_q5.1 f_q5.2 σ x2 v6 (by unfold fV_colourIn at hc_v6; rw [kq] at hc_v6; exact hc_v6)) (va_cwU 1 hts gX4_look_X6_colourIn_u37X1 rfl rfl rfl rfl (by decide +kernel) ⟨Nat.le_of_ble_eq_true rfl, Nat.le_of_ble_eq_true rfl⟩) (pR_v hP hK (shr1 hK.1 hP f_q5.1 kq)) rfl rfl hl.1 rfl (lv_room (Nat.le_of_ble_eq_true rfl)) dX4_look_31 ⟨Nat.zero_le _, Nat.zero_le _⟩
          · exact va_runU (As := [.int x2]) (rest := []) ⟨hx, hb, hml, hown, hts⟩ (kX6_colourIn l D cs a sh LP Z hZ q5 f_q5.1 f_q5.2 σ x2 v6 (by unfold fV_colourIn at hc_v6; rw [kq] at hc_v6; exact hc_v6)) (va_cwU 1 hts gX4_look_X6_colourIn_u37X2 rfl rfl rfl rfl (by decide +kernel) ⟨Nat.le_of_ble_eq_true rfl, Nat.le_of_ble_eq_true rfl⟩) (pR_v hP hK (shr2 hK.1 hP f_q5.1 kq)) rfl rfl hl.1 rfl (lv_room (Nat.le_of_ble_eq_true rfl)) dX4_look_31 ⟨Nat.zero_le _, Nat.zero_le _⟩
          · exact va_runU (As := [.int x2]) (rest := []) ⟨hx, hb, hml, hown, hts⟩ (kX6_colourIn l D cs a sh LP Z hZ q5 f_q5.1 f_q5.2 σ x2 v6 (by unfold fV_colourIn at hc_v6; rw [kq] at hc_v6; exact hc_v6)) (va_cwU 1 hts gX4_look_X6_colourIn_u37X5 rfl rfl rfl rfl (by decide +kernel) ⟨Nat.le_of_ble_eq_true rfl, Nat.le_of_ble_eq_true rfl⟩) (pR_v hP hK (shr5 hK.1 hP f_q5.1 kq)) rfl rfl hl.1 rfl (lv_room (Nat.le_of_ble_eq_true rfl)) dX4_look_31 ⟨Nat.zero_le _, Nat.zero_le _⟩
          · exact va_runU (As := [.int x2]) (rest := []) ⟨hx, hb, hml, hown, hts⟩ (kX8_colourIn l D cs a sh LP Z hZ q5 f_q5.1 kq σ x2 v6 (by unfold fV_colourIn at hc_v6; rw [kq] at hc_v6; exact hc_v6)) (va_cwO 1 hts gX4_look_X8_colourIn_u37X8 rfl rfl rfl (b0 := cX6_colourIn) (m0 := 2) (r0 := some .int) (by decide +kernel) (by decide +kernel) ⟨Nat.le_of_ble_eq_true rfl, Nat.le_of_ble_eq_true rfl⟩) (pR_v hP hK (shr7 hK.1 hP f_q5.1 kq)) rfl rfl hl.1 rfl (lv_room (Nat.le_of_ble_eq_true rfl)) dX4_look_31 ⟨Nat.zero_le _, Nat.zero_le _⟩
        exact mretS hx hb hr hlk h dX4_look_34
set_option maxHeartbeats 4000000 in
set_option maxRecDepth 100000 in
theorem kX4_look (l : Launch) (D : va_G) (cs : Nat → ClassId) (a : Nat → Nat) (sh : Nat → Option Nat) (LP : List Nat) (Z : ZT) (hZ : shOK sh LP Z) (σ : Nat → Nat → Int32) (F : Nat) (x1 : Int32) (x2 : Int32) (r : Int32) (h : fX4_look F sh Z σ x1 x2 = some r) : Met l yX4_look wsX4_look rmX4_look (va_Pc [.ref (a 1), .int x1, .int x2] (pR D cs (cW a cs sh LP Z σ))) (vp_Si (fun x => x = r)) 0 0 (fun _ => False) := by
  refine Met.ofW (cc := cX4_look) (maxL := 4) (ret := (some .int)) (by decide) rfl ?_
  intro p e s m args below meth c s₁ B hml hv
  obtain ⟨rfl, hP, hK⟩ := hv
  have C : cxt p s m _ meth c cX4_look 4 RX4 wsX4_look (some .int) := ⟨B.exec, B.bytes, hml, findClass_of_methodNamed B.named, atoms_spec (ws := wsX4_look) B.pre, B.returns, B.notSynchronized⟩
  obtain ⟨hx, hb, -, hown, hts, hr, hlk⟩ := id C
  refine entryW [.ref (a 1), .int x1, .int x2] (n := 4) (Nat.le_of_ble_eq_true rfl) (fun ls hl => ?_)
  have hl : lv_has ls 4 [(0, .ref (a 1)), (1, .int x1), (2, .int x2)] := hl
  unfold fX4_look at h
  refine lv_aload_n hx hb dX4_look_0 rfl (lv_at hl 0 rfl) ?_
  refine va_get (D := D) (ci := 4) (v := .int (σ 33 0)) (C := RX4) (T := TX4) (N := 3) hx hb hts inX4_X4_look hown hK.1 hP 1 rfl rfl 2 (by decide) (hts (.fieldLink RX4 21 "SandPalace$Picture" "size" "I") (by decide +kernel)) (fun _ h9 => h9) rfl dX4_look_1 ?_
  refine lv_iconst (v := (1 : Int32)) hx hb dX4_look_4 (by decide) ?_
  refine lv_isub hx hb dX4_look_5 ?_
  refine lv_istore_n (lv' := [(3, .int ((σ 33 0) - (1 : Int32))), (0, .ref (a 1)), (1, .int x1), (2, .int x2)]) hx hb dX4_look_6 rfl hl (by decide) rfl (fun ls hl => ?_)
  refine wX4_look_L7 C hZ hK hP r F x1 x2 _ ?_ F ((σ 33 0) - (1 : Int32)) ls (lv_sub hl [1, 2, 3, 0] rfl) h
  intro  ls hl h
  refine lv_iconst (v := (0 : Int32)) hx hb dX4_look_41 (by decide) ?_
  exact mretS hx hb hr hlk h dX4_look_42
def fX3_take_L10 (F : Nat) (sh : Nat → Option Nat) (Z : ZT) (x2 : Int32) (kx : (Nat → Nat → Int32) → Option ((Nat → Nat → Int32))) : Nat → Int32 → (Nat → Nat → Int32) → Option ((Nat → Nat → Int32))
  | 0, _, _ => none
  | n+1, x3, σ =>
    nb ((fun x3 σ => fX3_take_L10 F sh Z x2 kx n x3 σ)) fun kb =>
    if (4 : Int32) ≤ x3 then (kx σ) else (bd (fX11_cellOf F x2 x3) fun v3 => bd (fX4_look F sh Z σ x2 x3) fun v4 => aS 256 v3 (nm (sg σ 15 (upd (σ 15) v3.toNatClampNeg v4)) fun σ6 => kb (x3 + (1 : Int32)) σ6))
def fX3_take_L2 (F : Nat) (sh : Nat → Option Nat) (Z : ZT) (kx : (Nat → Nat → Int32) → Option ((Nat → Nat → Int32))) : Nat → Int32 → (Nat → Nat → Int32) → Option ((Nat → Nat → Int32))
  | 0, _, _ => none
  | n+1, x2, σ =>
    nb ((fun x2 σ => fX3_take_L2 F sh Z kx n x2 σ)) fun kb =>
    if (64 : Int32) ≤ x2 then (kx σ) else (fX3_take_L10 F sh Z x2 (fun σ2 => kb (x2 + (1 : Int32)) σ2) F (0 : Int32) σ)
def fX3_take (F : Nat) (sh : Nat → Option Nat) (Z : ZT) (σ : Nat → Nat → Int32)  : Option ((Nat → Nat → Int32)) :=
  fX3_take_L2 F sh Z (fun σ1 => some σ1) F (0 : Int32) σ
abbrev rmX3_take : Room := { frames := 4, cells := 0, slots := 0, locals := 87 }
theorem inX3_X3_take : ∀ w ∈ wsX30, w ∈ wsX3_take := by intro w h; simp only [wsX3_take, List.mem_cons, List.mem_append]; simp only [h, true_or, or_true]
set_option maxHeartbeats 4000000 in
set_option maxRecDepth 100000 in
theorem wX3_take_L10 {p : Program} {l : Launch} {e : Env} {s : State} {m : MethodId} {args : Array Value} {below : List Frame} {meth : Method} {c : Code} (C : cxt p s m args meth c cX3_take 4 RX3 wsX3_take none) {D : va_G} {cs : Nat → ClassId} {a : Nat → Nat} {sh : Nat → Option Nat} {LP : List Nat} {Z : ZT} (hZ : shOK sh LP Z) (hK : KK D cs s) {A : Nat → Prop} (hA : ∀ q, s.heap.size ≤ q → A q) (u9 : Nat → Nat → Int32) (F : Nat) (x2 : Int32) (kx : (Nat → Nat → Int32) → Option ((Nat → Nat → Int32))) (hkx : ∀ (σ : Nat → Nat → Int32) (H : Heap) (locs : List Loc) (ls : Array Slot), va_P D vwCl (cW a cs sh LP Z σ) H → va_D A (cW a cs sh LP Z σ) → va_S A s.heap H locs → lv_has ls 4 [(0, .ref (a 14)), (1, .ref (a 1)), (2, .int x2)] → kx σ = some u9 → W p l e rmX3_take s m args below meth c H locs 0 0 (MQ below (va_Qv (fun y => y = u9) (qB D (cW a cs sh LP Z) A) A) args s 0 0 A) (F0 m 37 ls [])) : ∀ (n : Nat) (x3 : Int32) (σ : Nat → Nat → Int32) (H : Heap) (locs : List Loc) (ls : Array Slot), va_P D vwCl (cW a cs sh LP Z σ) H → va_D A (cW a cs sh LP Z σ) → va_S A s.heap H locs → lv_has ls 4 [(0, .ref (a 14)), (1, .ref (a 1)), (2, .int x2), (3, .int x3)] → fX3_take_L10 F sh Z x2 kx n x3 σ = some u9 → W p l e rmX3_take s m args below meth c H locs 0 0 (MQ below (va_Qv (fun y => y = u9) (qB D (cW a cs sh LP Z) A) A) args s 0 0 A) (F0 m 10 ls []) := by
  obtain ⟨hx, hb, hml, hown, hts, hr, hlk⟩ := id C
  intro n
  induction n with
  | zero =>
    intros
    rename_i h
    cases h
  | succ n ih =>
    intro x3 σ H locs ls hP hD hS hl h
    rw [fX3_take_L10] at h
    obtain ⟨kb, hkb, h⟩ := nb_some (P := fun (kb : Int32 → (Nat → Nat → Int32) → Option ((Nat → Nat → Int32))) => ∀ (x3 : Int32) (σ : Nat → Nat → Int32) (H : Heap) (locs : List Loc) (ls : Array Slot), va_P D vwCl (cW a cs sh LP Z σ) H → va_D A (cW a cs sh LP Z σ) → va_S A s.heap H locs → lv_has ls 4 [(0, .ref (a 14)), (1, .ref (a 1)), (2, .int x2), (3, .int x3)] → kb x3 σ = some u9 → W p l e rmX3_take s m args below meth c H locs 0 0 (MQ below (va_Qv (fun y => y = u9) (qB D (cW a cs sh LP Z) A) A) args s 0 0 A) (F0 m 10 ls [])) h ih
    refine lv_iload_n hx hb dX3_take_10 rfl (lv_at hl 3 rfl) ?_
    refine lv_iconst (v := (4 : Int32)) hx hb dX3_take_11 (by decide) ?_
    refine lv_icmp_ge (tgt := 37) hx hb dX3_take_12 (by decide) (fun c2 => ?_) (fun c2 => ?_)
    · have h := it_t c2 h
      exact hkx σ _ _ ls hP hD hS (lv_sub hl [0, 1, 2] rfl) h
    · have h := it_f c2 h
      refine lv_aload_n hx hb dX3_take_15 rfl (lv_at hl 0 rfl) ?_
      refine va_get (D := D) (ci := 3) (v := .ref (a 15)) (C := RX3) (T := TX3) (N := 2) hx hb hts inX3_X3_take hown hK.1 hP 14 rfl rfl 0 (by decide) (hts (.fieldLink RX3 9 "SandPalace$Photo" "colours" "[I") (by decide +kernel)) (fun _ h9 => h9) rfl dX3_take_16 ?_
      refine lv_iload_n hx hb dX3_take_19 rfl (lv_at hl 2 rfl) ?_
      refine lv_iload_n hx hb dX3_take_20 rfl (lv_at hl 3 rfl) ?_
      obtain ⟨v3, hc_v3, h⟩ := bd_some h
      refine mcallS (va_runSN (As := [.int x2, .int x3]) (rest := [.ref (a 15)]) ⟨hx, hb, hml, hown, hts⟩ (kX11_cellOf l F x2 x3 v3 hc_v3) ⟨va_cnB (own := RX3) (host := "SandPalace") (index := 18) 2 hts gX3_take_X11_cellOf_n18 rfl rfl rfl (hK.2.1 ("SandPalace$Photo", 18, yX11_cellOf, "SandPalace") (by decide +kernel)) (hts (.initialized RX11) (by decide +kernel)) (by decide +kernel) ⟨Nat.le_of_ble_eq_true rfl, Nat.le_of_ble_eq_true rfl⟩, hts (.static yX11_cellOf) (by decide +kernel), trivial⟩ p0_s rfl rfl hl.1 rfl (lv_room (Nat.le_of_ble_eq_true rfl)) dX3_take_21 ⟨Nat.zero_le _, Nat.zero_le _⟩) ?_
      refine lv_aload_n hx hb dX3_take_24 rfl (lv_at hl 1 rfl) ?_
      refine lv_iload_n hx hb dX3_take_25 rfl (lv_at hl 2 rfl) ?_
      refine lv_iload_n hx hb dX3_take_26 rfl (lv_at hl 3 rfl) ?_
      obtain ⟨v4, hc_v4, h⟩ := bd_some h
      refine mcallS (va_runV (As := [.int x2, .int x3]) (rest := [.int v3, .ref (a 15)]) ⟨hx, hb, hml, hown, hts⟩ (kX4_look l D cs a sh LP Z hZ σ F x2 x3 v4 hc_v4) (cwV 2 hts gX3_take_X4_look rfl rfl rfl (by decide +kernel) ⟨Nat.le_of_ble_eq_true rfl, Nat.le_of_ble_eq_true rfl⟩) (pR_v hP hK (va_recv hK.1 hP (ci := 4) (q0 := 1) rfl rfl)) rfl rfl hl.1 rfl (lv_room (Nat.le_of_ble_eq_true rfl)) dX3_take_27 ⟨Nat.zero_le _, Nat.zero_le _⟩) ?_
      obtain ⟨i5, h⟩ := aS_some h
      refine va_iast hx hb hK.1 hP hD hS 15 0 rfl rfl i5 dX3_take_30 (fun H locs hP hD hS => ?_)
      obtain ⟨σ6, e_σ6, h⟩ := nm_some h
      have hP : va_P D vwCl (cW a cs sh LP Z σ6) H := by rw [← e_σ6]; exact hP
      have hD : va_D A (cW a cs sh LP Z σ6) := by rw [← e_σ6]; exact hD
      refine lv_iinc (v := x3 + (1 : Int32)) (lv' := [(3, .int (x3 + (1 : Int32))), (0, .ref (a 14)), (1, .ref (a 1)), (2, .int x2)]) hx hb dX3_take_31 hl (k := 3) rfl rfl (by decide) rfl (fun ls hl => ?_)
      refine lv_goto (tgt := 10) hx hb dX3_take_34 (by decide) ?_
      exact hkb (x3 + (1 : Int32)) σ6 _ _ ls hP hD hS (lv_sub hl [1, 2, 3, 0] rfl) h
set_option maxHeartbeats 4000000 in
set_option maxRecDepth 100000 in
theorem wX3_take_L2 {p : Program} {l : Launch} {e : Env} {s : State} {m : MethodId} {args : Array Value} {below : List Frame} {meth : Method} {c : Code} (C : cxt p s m args meth c cX3_take 4 RX3 wsX3_take none) {D : va_G} {cs : Nat → ClassId} {a : Nat → Nat} {sh : Nat → Option Nat} {LP : List Nat} {Z : ZT} (hZ : shOK sh LP Z) (hK : KK D cs s) {A : Nat → Prop} (hA : ∀ q, s.heap.size ≤ q → A q) (u9 : Nat → Nat → Int32) (F : Nat) (kx : (Nat → Nat → Int32) → Option ((Nat → Nat → Int32))) (hkx : ∀ (σ : Nat → Nat → Int32) (H : Heap) (locs : List Loc) (ls : Array Slot), va_P D vwCl (cW a cs sh LP Z σ) H → va_D A (cW a cs sh LP Z σ) → va_S A s.heap H locs → lv_has ls 4 [] → kx σ = some u9 → W p l e rmX3_take s m args below meth c H locs 0 0 (MQ below (va_Qv (fun y => y = u9) (qB D (cW a cs sh LP Z) A) A) args s 0 0 A) (F0 m 43 ls [])) : ∀ (n : Nat) (x2 : Int32) (σ : Nat → Nat → Int32) (H : Heap) (locs : List Loc) (ls : Array Slot), va_P D vwCl (cW a cs sh LP Z σ) H → va_D A (cW a cs sh LP Z σ) → va_S A s.heap H locs → lv_has ls 4 [(0, .ref (a 14)), (1, .ref (a 1)), (2, .int x2)] → fX3_take_L2 F sh Z kx n x2 σ = some u9 → W p l e rmX3_take s m args below meth c H locs 0 0 (MQ below (va_Qv (fun y => y = u9) (qB D (cW a cs sh LP Z) A) A) args s 0 0 A) (F0 m 2 ls []) := by
  obtain ⟨hx, hb, hml, hown, hts, hr, hlk⟩ := id C
  intro n
  induction n with
  | zero =>
    intros
    rename_i h
    cases h
  | succ n ih =>
    intro x2 σ H locs ls hP hD hS hl h
    rw [fX3_take_L2] at h
    obtain ⟨kb, hkb, h⟩ := nb_some (P := fun (kb : Int32 → (Nat → Nat → Int32) → Option ((Nat → Nat → Int32))) => ∀ (x2 : Int32) (σ : Nat → Nat → Int32) (H : Heap) (locs : List Loc) (ls : Array Slot), va_P D vwCl (cW a cs sh LP Z σ) H → va_D A (cW a cs sh LP Z σ) → va_S A s.heap H locs → lv_has ls 4 [(0, .ref (a 14)), (1, .ref (a 1)), (2, .int x2)] → kb x2 σ = some u9 → W p l e rmX3_take s m args below meth c H locs 0 0 (MQ below (va_Qv (fun y => y = u9) (qB D (cW a cs sh LP Z) A) A) args s 0 0 A) (F0 m 2 ls [])) h ih
    refine lv_iload_n hx hb dX3_take_2 rfl (lv_at hl 2 rfl) ?_
    refine lv_bipush (v := (64 : Int32)) hx hb dX3_take_3 (by decide) ?_
    refine lv_icmp_ge (tgt := 43) hx hb dX3_take_5 (by decide) (fun c1 => ?_) (fun c1 => ?_)
    · have h := it_t c1 h
      exact hkx σ _ _ ls hP hD hS (lv_sub hl [] rfl) h
    · have h := it_f c1 h
      refine lv_iconst (v := (0 : Int32)) hx hb dX3_take_8 (by decide) ?_
      refine lv_istore_n (lv' := [(3, .int (0 : Int32)), (0, .ref (a 14)), (1, .ref (a 1)), (2, .int x2)]) hx hb dX3_take_9 rfl hl (by decide) rfl (fun ls hl => ?_)
      refine wX3_take_L10 C hZ hK hA  u9 F x2 _ ?_ F (0 : Int32) σ _ _ ls hP hD hS (lv_sub hl [1, 2, 3, 0] rfl) h
      intro σ2 H locs ls hP hD hS hl h
      refine lv_iinc (v := x2 + (1 : Int32)) (lv' := [(2, .int (x2 + (1 : Int32))), (0, .ref (a 14)), (1, .ref (a 1))]) hx hb dX3_take_37 hl (k := 2) rfl rfl (by decide) rfl (fun ls hl => ?_)
      refine lv_goto (tgt := 2) hx hb dX3_take_40 (by decide) ?_
      exact hkb (x2 + (1 : Int32)) σ2 _ _ ls hP hD hS (lv_sub hl [1, 2, 0] rfl) h
set_option maxHeartbeats 4000000 in
set_option maxRecDepth 100000 in
theorem kX3_take (l : Launch) (D : va_G) (cs : Nat → ClassId) (a : Nat → Nat) (sh : Nat → Option Nat) (LP : List Nat) (Z : ZT) (hZ : shOK sh LP Z) (σ : Nat → Nat → Int32) (F : Nat)  (u9 : Nat → Nat → Int32) (h : fX3_take F sh Z σ = some u9) (sz : Nat) : Met l yX3_take wsX3_take rmX3_take (va_Pc [.ref (a 14), .ref (a 1)] (pQ D cs (cW a cs sh LP Z σ) sz)) (va_Qv (fun y => y = u9) (qB D (cW a cs sh LP Z) (va_A (cW a cs sh LP Z σ) sz)) (va_A (cW a cs sh LP Z σ) sz)) 0 0 (va_A (cW a cs sh LP Z σ) sz) := by
  refine Met.ofW (cc := cX3_take) (maxL := 4) (ret := none) (by decide) rfl ?_
  intro p e s m args below meth c s₁ B hml hv
  obtain ⟨rfl, hsz, hP, hK, hD0⟩ := hv
  have C : cxt p s m _ meth c cX3_take 4 RX3 wsX3_take none := ⟨B.exec, B.bytes, hml, findClass_of_methodNamed B.named, atoms_spec (ws := wsX3_take) B.pre, B.returns, B.notSynchronized⟩
  obtain ⟨hx, hb, -, hown, hts, hr, hlk⟩ := id C
  subst hsz
  have hD := hD0.self (sz := s.heap.size)
  generalize hAe : va_A (cW a cs sh LP Z σ) s.heap.size = A at hD ⊢
  have hA : ∀ q : Nat, s.heap.size ≤ q → A q := fun q h => by rw [← hAe]; exact Or.inr h
  have hS : va_S A s.heap s.heap [] := va_S.rf
  refine entryW [.ref (a 14), .ref (a 1)] (n := 4) (Nat.le_of_ble_eq_true rfl) (fun ls hl => ?_)
  have hl : lv_has ls 4 [(0, .ref (a 14)), (1, .ref (a 1))] := hl
  unfold fX3_take at h
  refine lv_iconst (v := (0 : Int32)) hx hb dX3_take_0 (by decide) ?_
  refine lv_istore_n (lv' := [(2, .int (0 : Int32)), (0, .ref (a 14)), (1, .ref (a 1))]) hx hb dX3_take_1 rfl hl (by decide) rfl (fun ls hl => ?_)
  refine wX3_take_L2 C hZ hK hA  u9 F  _ ?_ F (0 : Int32) σ _ _ ls hP hD hS (lv_sub hl [1, 2, 0] rfl) h
  intro σ1 H locs ls hP hD hS hl h
  exact mretV hx hb hr hlk h hP hD hS dX3_take_43
