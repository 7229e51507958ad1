def fX12_hem_J69 (x4 : Int32) (t0 : Int32) (t1 : Int32) (σ : Nat → Nat → Int32) : Option (Int32 × (Nat → Nat → Int32)) :=
  aS 10 t1 (nm (sg σ 11 (upd (σ 11) t1.toNatClampNeg t0)) fun σ11 => nm (sg σ11 13 (fun _ => (0 : Int32))) fun σ12 => some (x4, σ12))
def fX12_hem (σ : Nat → Nat → Int32) (x1 : Int32) (x2 : Int32) (x3 : Int32) : Option (Int32 × (Nat → Nat → Int32)) :=
  bd (fX12_isShape σ x1) fun v1 => if v1 = 0 then (some (((-1) : Int32), σ)) else (bd (fX12_isShape σ x2) fun v3 => if v3 = 0 then (some (((-1) : Int32), σ)) else (if ¬ x1 = x2 then (aI (σ 11) 10 x1 fun v6 => nm ((v6 >>> (x2 &&& 31)) &&& (1 : Int32)) fun z7 => if x3 = 0 then (aI (σ 11) 10 x1 fun v9 => fX12_hem_J69 z7 (v9 &&& (((1 : Int32) <<< (x2 &&& 31)) ^^^ ((-1) : Int32))) x1 σ) else (aI (σ 11) 10 x1 fun v10 => fX12_hem_J69 z7 (v10 ||| ((1 : Int32) <<< (x2 &&& 31))) x1 σ)) else (some (((-1) : Int32), σ))))
abbrev rmX12_hem : Room := { frames := 2, cells := 0, slots := 0, locals := 46 }
theorem inX12_X12_hem : ∀ w ∈ wsX120, w ∈ wsX12_hem := by intro w h; simp only [wsX12_hem, List.mem_cons, List.mem_append]; simp only [h, true_or, or_true]
set_option maxHeartbeats 4000000 in
set_option maxRecDepth 100000 in
theorem wX12_hem_J69 {p : Program} {l : Launch} {e : Env} {s : State} {m : MethodId} {args : Array Value} {below : List Frame} {meth : Method} {c : Code} (C : cxt p s m args meth c cX12_hem 5 RX12 wsX12_hem (some .int)) {D : va_G} {cs : Nat → ClassId} {a : Nat → Nat} (hK : KK D cs s) {A : Nat → Prop} (hA : ∀ q, s.heap.size ≤ q → A q) (r : Int32) (u9 : Nat → Nat → Int32) (x4 : Int32) (t0 : Int32) (t1 : Int32) (σ : Nat → Nat → Int32) (H : Heap) (locs : List Loc) (ls : Array Slot) (hP : va_P D vwCl (mW a cs σ) H) (hD : va_D A (mW a cs σ)) (hS : va_S A s.heap H locs) (hl : lv_has ls 5 [(0, .ref (a 0)), (4, .int x4)]) (h : fX12_hem_J69 x4 t0 t1 σ = some (r, u9)) : W p l e rmX12_hem s m args below meth c H locs 0 0 (MQ below (va_Qi (fun x y => x = r ∧ y = u9) (qB D (mW a cs) A) A) args s 0 0 A) (F0 m 69 ls [.int t0, .int t1, .ref (a 11)]) := by
  obtain ⟨hx, hb, hml, hown, hts, hr, hlk⟩ := id C
  unfold fX12_hem_J69 at h
  obtain ⟨i10, h⟩ := aS_some h
  refine va_iast hx hb hK.1 hP hD hS 11 0 rfl rfl i10 dX12_hem_69 (fun H locs hP hD hS => ?_)
  obtain ⟨σ11, e_σ11, h⟩ := nm_some h
  have hP : va_P D vwCl (mW a cs σ11) H := by rw [← e_σ11]; exact hP
  have hD : va_D A (mW a cs σ11) := by rw [← e_σ11]; exact hD
  refine lv_aload_n hx hb dX12_hem_70 rfl (lv_at hl 0 rfl) ?_
  refine lv_iconst (v := (0 : Int32)) hx hb dX12_hem_71 (by decide) ?_
  refine va_put (D := D) (ci := 11) (v := .int (0 : Int32)) (ty := .boolean) (C := RX12) (T := TX12) (N := 27) hx hb hts inX12_X12_hem tyX12 tyX12_ok nmX12 hown hK.1 hP hD hS 0 rfl rfl 13 (by decide) (hts (.fieldLink RX12 110 "SandPalaceModel" "isPlanned" "Z") (by decide +kernel)) (fun _ h9 => h9) rfl (by decide +kernel) rfl rfl (Nat.le_of_ble_eq_true rfl) dX12_hem_72 (fun H locs hP hD hS => ?_)
  obtain ⟨σ12, e_σ12, h⟩ := nm_some h
  have hP : va_P D vwCl (mW a cs σ12) H := by rw [← e_σ12]; exact hP
  have hD : va_D A (mW a cs σ12) := by rw [← e_σ12]; exact hD
  refine lv_iload hx hb dX12_hem_75 (lv_at hl 1 rfl) ?_
  exact mretQ hx hb hr hlk h hP hD hS dX12_hem_77
set_option maxHeartbeats 4000000 in
set_option maxRecDepth 100000 in
theorem kX12_hem (l : Launch) (D : va_G) (cs : Nat → ClassId) (a : Nat → Nat) (σ : Nat → Nat → Int32) (x1 : Int32) (x2 : Int32) (x3 : Int32) (r : Int32) (u9 : Nat → Nat → Int32) (h : fX12_hem σ x1 x2 x3 = some (r, u9)) (sz : Nat) : Met l yX12_hem wsX12_hem rmX12_hem (va_Pc [.ref (a 0), .int x1, .int x2, .int x3] (pQ D cs (mW a cs σ) sz)) (va_Qi (fun x y => x = r ∧ y = u9) (qB D (mW a cs) (va_A (mW a cs σ) sz)) (va_A (mW a cs σ) sz)) 0 0 (va_A (mW a cs σ) sz) := by
  refine Met.ofW (cc := cX12_hem) (maxL := 5) (ret := (some .int)) (by decide) rfl ?_
  intro p e s m args below meth c s₁ B hml hv
  obtain ⟨rfl, hsz, hP, hK, hD0⟩ := hv
  have C : cxt p s m _ meth c cX12_hem 5 RX12 wsX12_hem (some .int) := ⟨B.exec, B.bytes, hml, findClass_of_methodNamed B.named, atoms_spec (ws := wsX12_hem) B.pre, B.returns, B.notSynchronized⟩
  obtain ⟨hx, hb, -, hown, hts, hr, hlk⟩ := id C
  subst hsz
  have hD := hD0.self (sz := s.heap.size)
  generalize hAe : va_A (mW a cs σ) s.heap.size = A at hD ⊢
  have hA : ∀ q : Nat, s.heap.size ≤ q → A q := fun q h => by rw [← hAe]; exact Or.inr h
  have hS : va_S A s.heap s.heap [] := va_S.rf
  refine entryW [.ref (a 0), .int x1, .int x2, .int x3] (n := 5) (Nat.le_of_ble_eq_true rfl) (fun ls hl => ?_)
  have hl : lv_has ls 5 [(0, .ref (a 0)), (1, .int x1), (2, .int x2), (3, .int x3)] := hl
  unfold fX12_hem at h
  refine lv_aload_n hx hb dX12_hem_0 rfl (lv_at hl 0 rfl) ?_
  refine lv_iload_n hx hb dX12_hem_1 rfl (lv_at hl 1 rfl) ?_
  obtain ⟨v1, hc_v1, h⟩ := bd_some h
  refine mcallSZ (va_runV (As := [.int x1]) (rest := []) ⟨hx, hb, hml, hown, hts⟩ (kX12_isShape l D cs a σ x1 v1 hc_v1) (cwV 1 hts gX12_hem_X12_isShape rfl rfl rfl (by decide +kernel) ⟨Nat.le_of_ble_eq_true rfl, Nat.le_of_ble_eq_true rfl⟩) (pR_v hP hK (va_recv hK.1 hP (ci := 11) (q0 := 0) rfl rfl)) rfl rfl hl.1 rfl (lv_room (Nat.le_of_ble_eq_true rfl)) dX12_hem_2 ⟨Nat.zero_le _, Nat.zero_le _⟩) (fun z_v1 => ?_)
  refine lv_if_eq (tgt := 21) hx hb dX12_hem_5 (by decide) (fun c2 => ?_) (fun c2 => ?_)
  · have h := it_t c2 h
    refine lv_iconst (v := ((-1) : Int32)) hx hb dX12_hem_21 (by decide) ?_
    exact mretQ hx hb hr hlk h hP hD hS dX12_hem_22
  · have h := it_f c2 h
    refine lv_aload_n hx hb dX12_hem_8 rfl (lv_at hl 0 rfl) ?_
    refine lv_iload_n hx hb dX12_hem_9 rfl (lv_at hl 2 rfl) ?_
    obtain ⟨v3, hc_v3, h⟩ := bd_some h
    refine mcallSZ (va_runV (As := [.int x2]) (rest := []) ⟨hx, hb, hml, hown, hts⟩ (kX12_isShape l D cs a σ x2 v3 hc_v3) (cwV 1 hts gX12_hem_X12_isShape rfl rfl rfl (by decide +kernel) ⟨Nat.le_of_ble_eq_true rfl, Nat.le_of_ble_eq_true rfl⟩) (pR_v hP hK (va_recv hK.1 hP (ci := 11) (q0 := 0) rfl rfl)) rfl rfl hl.1 rfl (lv_room (Nat.le_of_ble_eq_true rfl)) dX12_hem_10 ⟨Nat.zero_le _, Nat.zero_le _⟩) (fun z_v3 => ?_)
    refine lv_if_eq (tgt := 21) hx hb dX12_hem_13 (by decide) (fun c4 => ?_) (fun c4 => ?_)
    · have h := it_t c4 h
      refine lv_iconst (v := ((-1) : Int32)) hx hb dX12_hem_21 (by decide) ?_
      exact mretQ hx hb hr hlk h hP hD hS dX12_hem_22
    · have h := it_f c4 h
      refine lv_iload_n hx hb dX12_hem_16 rfl (lv_at hl 1 rfl) ?_
      refine lv_iload_n hx hb dX12_hem_17 rfl (lv_at hl 2 rfl) ?_
      refine lv_icmp_ne (tgt := 23) hx hb dX12_hem_18 (by decide) (fun c5 => ?_) (fun c5 => ?_)
      · have h := it_t c5 h
        refine lv_aload_n hx hb dX12_hem_23 rfl (lv_at hl 0 rfl) ?_
        refine va_get (D := D) (ci := 11) (v := .ref (a 11)) (C := RX12) (T := TX12) (N := 27) hx hb hts inX12_X12_hem hown hK.1 hP 0 rfl rfl 11 (by decide) (hts (.fieldLink RX12 41 "SandPalaceModel" "hems" "[I") (by decide +kernel)) (fun _ h9 => h9) rfl dX12_hem_24 ?_
        refine lv_iload_n hx hb dX12_hem_27 rfl (lv_at hl 1 rfl) ?_
        obtain ⟨v6, i_v6, e_v6, h⟩ := aI_some h
        refine miald hx hb hK.1 hP 11 0 rfl rfl i_v6 e_v6 dX12_hem_28 ?_
        refine lv_iload_n hx hb dX12_hem_29 rfl (lv_at hl 2 rfl) ?_
        refine lv_ishr hx hb dX12_hem_30 ?_
        refine lv_iconst (v := (1 : Int32)) hx hb dX12_hem_31 (by decide) ?_
        refine lv_iand hx hb dX12_hem_32 ?_
        obtain ⟨z7, e_z7, h⟩ := nm_some h
        refine tpi e_z7 ?_
        refine lv_istore (lv' := [(4, .int z7), (0, .ref (a 0)), (1, .int x1), (2, .int x2), (3, .int x3)]) hx hb dX12_hem_33 hl (by decide) rfl (fun ls hl => ?_)
        refine lv_aload_n hx hb dX12_hem_35 rfl (lv_at hl 1 rfl) ?_
        refine va_get (D := D) (ci := 11) (v := .ref (a 11)) (C := RX12) (T := TX12) (N := 27) hx hb hts inX12_X12_hem hown hK.1 hP 0 rfl rfl 11 (by decide) (hts (.fieldLink RX12 41 "SandPalaceModel" "hems" "[I") (by decide +kernel)) (fun _ h9 => h9) rfl dX12_hem_36 ?_
        refine lv_iload_n hx hb dX12_hem_39 rfl (lv_at hl 2 rfl) ?_
        refine lv_iload_n hx hb dX12_hem_40 rfl (lv_at hl 4 rfl) ?_
        refine lv_if_eq (tgt := 57) hx hb dX12_hem_41 (by decide) (fun c8 => ?_) (fun c8 => ?_)
        · have h := it_t c8 h
          refine lv_aload_n hx hb dX12_hem_57 rfl (lv_at hl 1 rfl) ?_
          refine va_get (D := D) (ci := 11) (v := .ref (a 11)) (C := RX12) (T := TX12) (N := 27) hx hb hts inX12_X12_hem hown hK.1 hP 0 rfl rfl 11 (by decide) (hts (.fieldLink RX12 41 "SandPalaceModel" "hems" "[I") (by decide +kernel)) (fun _ h9 => h9) rfl dX12_hem_58 ?_
          refine lv_iload_n hx hb dX12_hem_61 rfl (lv_at hl 2 rfl) ?_
          obtain ⟨v9, i_v9, e_v9, h⟩ := aI_some h
          refine miald hx hb hK.1 hP 11 0 rfl rfl i_v9 e_v9 dX12_hem_62 ?_
          refine lv_iconst (v := (1 : Int32)) hx hb dX12_hem_63 (by decide) ?_
          refine lv_iload_n hx hb dX12_hem_64 rfl (lv_at hl 3 rfl) ?_
          refine lv_ishl hx hb dX12_hem_65 ?_
          refine lv_iconst (v := ((-1) : Int32)) hx hb dX12_hem_66 (by decide) ?_
          refine lv_ixor hx hb dX12_hem_67 ?_
          refine lv_iand hx hb dX12_hem_68 ?_
          exact wX12_hem_J69 C hK hA r u9 z7 (v9 &&& (((1 : Int32) <<< (x2 &&& 31)) ^^^ ((-1) : Int32))) x1 σ _ _ ls hP hD hS (lv_sub hl [1, 0] rfl) h
        · have h := it_f c8 h
          refine lv_aload_n hx hb dX12_hem_44 rfl (lv_at hl 1 rfl) ?_
          refine va_get (D := D) (ci := 11) (v := .ref (a 11)) (C := RX12) (T := TX12) (N := 27) hx hb hts inX12_X12_hem hown hK.1 hP 0 rfl rfl 11 (by decide) (hts (.fieldLink RX12 41 "SandPalaceModel" "hems" "[I") (by decide +kernel)) (fun _ h9 => h9) rfl dX12_hem_45 ?_
          refine lv_iload_n hx hb dX12_hem_48 rfl (lv_at hl 2 rfl) ?_
          obtain ⟨v10, i_v10, e_v10, h⟩ := aI_some h
          refine miald hx hb hK.1 hP 11 0 rfl rfl i_v10 e_v10 dX12_hem_49 ?_
          refine lv_iconst (v := (1 : Int32)) hx hb dX12_hem_50 (by decide) ?_
          refine lv_iload_n hx hb dX12_hem_51 rfl (lv_at hl 3 rfl) ?_
          refine lv_ishl hx hb dX12_hem_52 ?_
          refine lv_ior hx hb dX12_hem_53 ?_
          refine lv_goto (tgt := 69) hx hb dX12_hem_54 (by decide) ?_
          exact wX12_hem_J69 C hK hA r u9 z7 (v10 ||| ((1 : Int32) <<< (x2 &&& 31))) x1 σ _ _ ls hP hD hS (lv_sub hl [1, 0] rfl) h
      · have h := it_n c5 h
        refine lv_iconst (v := ((-1) : Int32)) hx hb dX12_hem_21 (by decide) ?_
        exact mretQ hx hb hr hlk h hP hD hS dX12_hem_22
def fX12_after (F : Nat) (σ : Nat → Nat → Int32) (x1 : Int32) (x2 : Int32) : Option Int32 :=
  bd (fX12_isShape σ x1) fun v1 => if v1 = 0 then (some ((-1) : Int32)) else (bd (fX12_isShape σ x2) fun v3 => if v3 = 0 then (some ((-1) : Int32)) else (if ¬ x1 = x2 then (bd (fX12_comesAfter F σ x1 x2) fun v6 => if v6 = 0 then (some (0 : Int32)) else (some (1 : Int32))) else (some ((-1) : Int32))))
abbrev rmX12_after : Room := { frames := 2, cells := 0, slots := 0, locals := 46 }
set_option maxHeartbeats 4000000 in
set_option maxRecDepth 100000 in
theorem kX12_after (l : Launch) (D : va_G) (cs : Nat → ClassId) (a : Nat → Nat) (σ : Nat → Nat → Int32) (F : Nat) (x1 : Int32) (x2 : Int32) (r : Int32) (h : fX12_after F σ x1 x2 = some r) : Met l yX12_after wsX12_after rmX12_after (va_Pc [.ref (a 0), .int x1, .int x2] (pR D cs (mW a cs σ))) (vp_Si (fun x => x = r)) 0 0 (fun _ => False) := by
  refine Met.ofW (cc := cX12_after) (maxL := 3) (ret := (some .int)) (by decide) rfl ?_
  intro p e s m args below meth c s₁ B hml hv
  obtain ⟨rfl, hP, hK⟩ := hv
  have C : cxt p s m _ meth c cX12_after 3 RX12 wsX12_after (some .int) := ⟨B.exec, B.bytes, hml, findClass_of_methodNamed B.named, atoms_spec (ws := wsX12_after) B.pre, B.returns, B.notSynchronized⟩
  obtain ⟨hx, hb, -, hown, hts, hr, hlk⟩ := id C
  refine entryW [.ref (a 0), .int x1, .int x2] (n := 3) (Nat.le_of_ble_eq_true rfl) (fun ls hl => ?_)
  have hl : lv_has ls 3 [(0, .ref (a 0)), (1, .int x1), (2, .int x2)] := hl
  unfold fX12_after at h
  refine lv_aload_n hx hb dX12_after_0 rfl (lv_at hl 0 rfl) ?_
  refine lv_iload_n hx hb dX12_after_1 rfl (lv_at hl 1 rfl) ?_
  obtain ⟨v1, hc_v1, h⟩ := bd_some h
  refine mcallSZ (va_runV (As := [.int x1]) (rest := []) ⟨hx, hb, hml, hown, hts⟩ (kX12_isShape l D cs a σ x1 v1 hc_v1) (cwV 1 hts gX12_after_X12_isShape rfl rfl rfl (by decide +kernel) ⟨Nat.le_of_ble_eq_true rfl, Nat.le_of_ble_eq_true rfl⟩) (pR_v hP hK (va_recv hK.1 hP (ci := 11) (q0 := 0) rfl rfl)) rfl rfl hl.1 rfl (lv_room (Nat.le_of_ble_eq_true rfl)) dX12_after_2 ⟨Nat.zero_le _, Nat.zero_le _⟩) (fun z_v1 => ?_)
  refine lv_if_eq (tgt := 21) hx hb dX12_after_5 (by decide) (fun c2 => ?_) (fun c2 => ?_)
  · have h := it_t c2 h
    refine lv_iconst (v := ((-1) : Int32)) hx hb dX12_after_21 (by decide) ?_
    refine lv_goto (tgt := 39) hx hb dX12_after_22 (by decide) ?_
    exact mretS hx hb hr hlk h dX12_after_39
  · have h := it_f c2 h
    refine lv_aload_n hx hb dX12_after_8 rfl (lv_at hl 0 rfl) ?_
    refine lv_iload_n hx hb dX12_after_9 rfl (lv_at hl 2 rfl) ?_
    obtain ⟨v3, hc_v3, h⟩ := bd_some h
    refine mcallSZ (va_runV (As := [.int x2]) (rest := []) ⟨hx, hb, hml, hown, hts⟩ (kX12_isShape l D cs a σ x2 v3 hc_v3) (cwV 1 hts gX12_after_X12_isShape rfl rfl rfl (by decide +kernel) ⟨Nat.le_of_ble_eq_true rfl, Nat.le_of_ble_eq_true rfl⟩) (pR_v hP hK (va_recv hK.1 hP (ci := 11) (q0 := 0) rfl rfl)) rfl rfl hl.1 rfl (lv_room (Nat.le_of_ble_eq_true rfl)) dX12_after_10 ⟨Nat.zero_le _, Nat.zero_le _⟩) (fun z_v3 => ?_)
    refine lv_if_eq (tgt := 21) hx hb dX12_after_13 (by decide) (fun c4 => ?_) (fun c4 => ?_)
    · have h := it_t c4 h
      refine lv_iconst (v := ((-1) : Int32)) hx hb dX12_after_21 (by decide) ?_
      refine lv_goto (tgt := 39) hx hb dX12_after_22 (by decide) ?_
      exact mretS hx hb hr hlk h dX12_after_39
    · have h := it_f c4 h
      refine lv_iload_n hx hb dX12_after_16 rfl (lv_at hl 1 rfl) ?_
      refine lv_iload_n hx hb dX12_after_17 rfl (lv_at hl 2 rfl) ?_
      refine lv_icmp_ne (tgt := 25) hx hb dX12_after_18 (by decide) (fun c5 => ?_) (fun c5 => ?_)
      · have h := it_t c5 h
        refine lv_aload_n hx hb dX12_after_25 rfl (lv_at hl 0 rfl) ?_
        refine lv_iload_n hx hb dX12_after_26 rfl (lv_at hl 1 rfl) ?_
        refine lv_iload_n hx hb dX12_after_27 rfl (lv_at hl 2 rfl) ?_
        obtain ⟨v6, hc_v6, h⟩ := bd_some h
        refine mcallSZ (va_runV (As := [.int x1, .int x2]) (rest := []) ⟨hx, hb, hml, hown, hts⟩ (kX12_comesAfter l D cs a σ F x1 x2 v6 hc_v6) (cwV 2 hts gX12_after_X12_comesAfter rfl rfl rfl (by decide +kernel) ⟨Nat.le_of_ble_eq_true rfl, Nat.le_of_ble_eq_true rfl⟩) (pR_v hP hK (va_recv hK.1 hP (ci := 11) (q0 := 0) rfl rfl)) rfl rfl hl.1 rfl (lv_room (Nat.le_of_ble_eq_true rfl)) dX12_after_28 ⟨Nat.zero_le _, Nat.zero_le _⟩) (fun z_v6 => ?_)
        refine lv_if_eq (tgt := 38) hx hb dX12_after_31 (by decide) (fun c7 => ?_) (fun c7 => ?_)
        · have h := it_t c7 h
          refine lv_iconst (v := (0 : Int32)) hx hb dX12_after_38 (by decide) ?_
          exact mretS hx hb hr hlk h dX12_after_39
        · have h := it_f c7 h
          refine lv_iconst (v := (1 : Int32)) hx hb dX12_after_34 (by decide) ?_
          refine lv_goto (tgt := 39) hx hb dX12_after_35 (by decide) ?_
          exact mretS hx hb hr hlk h dX12_after_39
      · have h := it_n c5 h
        refine lv_iconst (v := ((-1) : Int32)) hx hb dX12_after_21 (by decide) ?_
        refine lv_goto (tgt := 39) hx hb dX12_after_22 (by decide) ?_
        exact mretS hx hb hr hlk h dX12_after_39
def fX12_sand (σ : Nat → Nat → Int32) (x1 : Int32) : Option (Int32 × (Nat → Nat → Int32)) :=
  bd (fX12_in x1.toInt64 (1 : Int64) (256 : Int64)) fun v1 => if ¬ v1 = 0 then (nm (sg σ 12 (fun _ => x1)) fun σ3 => nm (sg σ3 13 (fun _ => (0 : Int32))) fun σ4 => some (σ 12 0, σ4)) else (some (((-1) : Int32), σ))
abbrev rmX12_sand : Room := { frames := 1, cells := 0, slots := 0, locals := 25 }
theorem inX12_X12_sand : ∀ w ∈ wsX120, w ∈ wsX12_sand := by intro w h; simp only [wsX12_sand, List.mem_cons, List.mem_append]; simp only [h, true_or, or_true]
set_option maxHeartbeats 4000000 in
set_option maxRecDepth 100000 in
theorem kX12_sand (l : Launch) (D : va_G) (cs : Nat → ClassId) (a : Nat → Nat) (σ : Nat → Nat → Int32) (x1 : Int32) (r : Int32) (u9 : Nat → Nat → Int32) (h : fX12_sand σ x1 = some (r, u9)) (sz : Nat) : Met l yX12_sand wsX12_sand rmX12_sand (va_Pc [.ref (a 0), .int x1] (pQ D cs (mW a cs σ) sz)) (va_Qi (fun x y => x = r ∧ y = u9) (qB D (mW a cs) (va_A (mW a cs σ) sz)) (va_A (mW a cs σ) sz)) 0 0 (va_A (mW a cs σ) sz) := by
  refine Met.ofW (cc := cX12_sand) (maxL := 3) (ret := (some .int)) (by decide) rfl ?_
  intro p e s m args below meth c s₁ B hml hv
  obtain ⟨rfl, hsz, hP, hK, hD0⟩ := hv
  have C : cxt p s m _ meth c cX12_sand 3 RX12 wsX12_sand (some .int) := ⟨B.exec, B.bytes, hml, findClass_of_methodNamed B.named, atoms_spec (ws := wsX12_sand) B.pre, B.returns, B.notSynchronized⟩
  obtain ⟨hx, hb, -, hown, hts, hr, hlk⟩ := id C
  subst hsz
  have hD := hD0.self (sz := s.heap.size)
  generalize hAe : va_A (mW a cs σ) s.heap.size = A at hD ⊢
  have hA : ∀ q : Nat, s.heap.size ≤ q → A q := fun q h => by rw [← hAe]; exact Or.inr h
  have hS : va_S A s.heap s.heap [] := va_S.rf
  refine entryW [.ref (a 0), .int x1] (n := 3) (Nat.le_of_ble_eq_true rfl) (fun ls hl => ?_)
  have hl : lv_has ls 3 [(0, .ref (a 0)), (1, .int x1)] := hl
  unfold fX12_sand at h
  refine lv_iload_n hx hb dX12_sand_0 rfl (lv_at hl 1 rfl) ?_
  refine lv_i2l hx hb dX12_sand_1 rfl ?_
  refine lv_lconst (v := (1 : Int64)) hx hb dX12_sand_2 (by decide) ?_
  refine lv_ldc2 hx hb hown (hts (.constantLong RX12 162 (256)) (by decide +kernel)) dX12_sand_3 ?_
  obtain ⟨v1, hc_v1, h⟩ := bd_some h
  refine mcallSZ (va_runS (As := [.long x1.toInt64, .long (1 : Int64), .long (256 : Int64)]) (rest := []) ⟨hx, hb, hml, hown, hts⟩ (kX12_in l x1.toInt64 (1 : Int64) (256 : Int64) v1 hc_v1) (va_cwS 3 hts gX12_sand_X12_in rfl rfl rfl (by decide +kernel) ⟨Nat.le_of_ble_eq_true rfl, Nat.le_of_ble_eq_true rfl⟩) p0_s rfl rfl hl.1 rfl (lv_room (Nat.le_of_ble_eq_true rfl)) dX12_sand_6 ⟨Nat.zero_le _, Nat.zero_le _⟩) (fun z_v1 => ?_)
  refine lv_if_ne (tgt := 14) hx hb dX12_sand_9 (by decide) (fun c2 => ?_) (fun c2 => ?_)
  · have h := it_t c2 h
    refine lv_aload_n hx hb dX12_sand_14 rfl (lv_at hl 0 rfl) ?_
    refine va_get (D := D) (ci := 11) (v := .int (σ 12 0)) (C := RX12) (T := TX12) (N := 27) hx hb hts inX12_X12_sand hown hK.1 hP 0 rfl rfl 12 (by decide) (hts (.fieldLink RX12 44 "SandPalaceModel" "sand" "I") (by decide +kernel)) (fun _ h9 => h9) rfl dX12_sand_15 ?_
    refine lv_istore_n (lv' := [(2, .int (σ 12 0)), (0, .ref (a 0)), (1, .int x1)]) hx hb dX12_sand_18 rfl hl (by decide) rfl (fun ls hl => ?_)
    refine lv_aload_n hx hb dX12_sand_19 rfl (lv_at hl 1 rfl) ?_
    refine lv_iload_n hx hb dX12_sand_20 rfl (lv_at hl 2 rfl) ?_
    refine va_put (D := D) (ci := 11) (v := .int x1) (ty := .int) (C := RX12) (T := TX12) (N := 27) hx hb hts inX12_X12_sand tyX12 tyX12_ok nmX12 hown hK.1 hP hD hS 0 rfl rfl 12 (by decide) (hts (.fieldLink RX12 44 "SandPalaceModel" "sand" "I") (by decide +kernel)) (fun _ h9 => h9) rfl (by decide +kernel) rfl rfl (Nat.le_of_ble_eq_true rfl) dX12_sand_21 (fun H locs hP hD hS => ?_)
    obtain ⟨σ3, e_σ3, h⟩ := nm_some h
    have hP : va_P D vwCl (mW a cs σ3) H := by rw [← e_σ3]; exact hP
    have hD : va_D A (mW a cs σ3) := by rw [← e_σ3]; exact hD
    refine lv_aload_n hx hb dX12_sand_24 rfl (lv_at hl 1 rfl) ?_
    refine lv_iconst (v := (0 : Int32)) hx hb dX12_sand_25 (by decide) ?_
    refine va_put (D := D) (ci := 11) (v := .int (0 : Int32)) (ty := .boolean) (C := RX12) (T := TX12) (N := 27) hx hb hts inX12_X12_sand tyX12 tyX12_ok nmX12 hown hK.1 hP hD hS 0 rfl rfl 13 (by decide) (hts (.fieldLink RX12 110 "SandPalaceModel" "isPlanned" "Z") (by decide +kernel)) (fun _ h9 => h9) rfl (by decide +kernel) rfl rfl (Nat.le_of_ble_eq_true rfl) dX12_sand_26 (fun H locs hP hD hS => ?_)
    obtain ⟨σ4, e_σ4, h⟩ := nm_some h
    have hP : va_P D vwCl (mW a cs σ4) H := by rw [← e_σ4]; exact hP
    have hD : va_D A (mW a cs σ4) := by rw [← e_σ4]; exact hD
    refine lv_iload_n hx hb dX12_sand_29 rfl (lv_at hl 0 rfl) ?_
    exact mretQ hx hb hr hlk h hP hD hS dX12_sand_30
  · have h := it_n c2 h
    refine lv_iconst (v := ((-1) : Int32)) hx hb dX12_sand_12 (by decide) ?_
    exact mretQ hx hb hr hlk h hP hD hS dX12_sand_13
def fX12_nextOf_J50 (F : Nat) (kb : Int32 → Int32 → Option Int32) (x1 : Int32) (x2 : Int32) (x4 : Int32) (t0 : Int32) (σ : Nat → Nat → Int32) : Option Int32 :=
  kb t0 (x4 + (1 : Int32))
def fX12_nextOf_J49 (F : Nat) (kb : Int32 → Int32 → Option Int32) (x1 : Int32) (x2 : Int32) (x3 : Int32) (x4 : Int32) (σ : Nat → Nat → Int32) : Option Int32 :=
  fX12_nextOf_J50 F kb x1 x2 x4 x3 σ
def fX12_nextOf_J39 (F : Nat) (kb : Int32 → Int32 → Option Int32) (x1 : Int32) (x2 : Int32) (x4 : Int32) (σ : Nat → Nat → Int32) : Option Int32 :=
  aI (σ 10) 10 x4 fun v4 => fX12_nextOf_J50 F kb x1 x2 x4 v4 σ
def fX12_nextOf_L5 (F : Nat) (σ : Nat → Nat → Int32) (x1 : Int32) (x2 : Int32) (kx : Int32 → Option Int32) : Nat → Int32 → Int32 → Option Int32
  | 0, _, _ => none
  | n+1, x3, x4 =>
    nb ((fun x3 x4 => fX12_nextOf_L5 F σ x1 x2 kx n x3 x4)) fun kb =>
    if (σ 0 0) ≤ x4 then (kx x3) else (if ¬ ((x1 >>> (x4 &&& 31)) &&& (1 : Int32)) = (1 : Int32) then (fX12_nextOf_J49 F kb x1 x2 x3 x4 σ) else (if x3 < 0 then (fX12_nextOf_J39 F kb x1 x2 x4 σ) else (aI (σ 10) 10 x4 fun v4 => if x3 ≤ v4 then (fX12_nextOf_J49 F kb x1 x2 x3 x4 σ) else (fX12_nextOf_J39 F kb x1 x2 x4 σ))))
def fX12_nextOf_J107 (F : Nat) (kb : Int32 → Option Int32) (x1 : Int32) (x2 : Int32) (x3 : Int32) (x4 : Int32) (σ : Nat → Nat → Int32) : Option Int32 :=
  kb (x4 + (1 : Int32))
def fX12_nextOf_L60 (F : Nat) (σ : Nat → Nat → Int32) (x1 : Int32) (x2 : Int32) (x3 : Int32) (kx : Option Int32) : Nat → Int32 → Option Int32
  | 0, _ => none
  | n+1, x4 =>
    nb ((fun x4 => fX12_nextOf_L60 F σ x1 x2 x3 kx n x4)) fun kb =>
    if (σ 0 0) ≤ x4 then kx else (if ¬ ((x1 >>> (x4 &&& 31)) &&& (1 : Int32)) = (1 : Int32) then (fX12_nextOf_J107 F kb x1 x2 x3 x4 σ) else (aI (σ 10) 10 x4 fun v4 => if ¬ v4 = x3 then (fX12_nextOf_J107 F kb x1 x2 x3 x4 σ) else (aI (σ 14) 10 x4 fun v6 => if ¬ (v6 &&& (x2 ^^^ ((-1) : Int32))) = 0 then (fX12_nextOf_J107 F kb x1 x2 x3 x4 σ) else (some x4))))
def fX12_nextOf (F : Nat) (σ : Nat → Nat → Int32) (x1 : Int32) (x2 : Int32) : Option Int32 :=
  fX12_nextOf_L5 F σ x1 x2 (fun y1 => fX12_nextOf_L60 F σ x1 x2 y1 (some ((-1) : Int32)) F (0 : Int32)) F ((-1) : Int32) (0 : Int32)
abbrev rmX12_nextOf : Room := { frames := 0, cells := 0, slots := 0, locals := 0 }
theorem inX12_X12_nextOf : ∀ w ∈ wsX120, w ∈ wsX12_nextOf := by intro w h; simp only [wsX12_nextOf, List.mem_cons, List.mem_append]; simp only [h, true_or, or_true]
set_option maxHeartbeats 4000000 in
set_option maxRecDepth 100000 in
theorem wX12_nextOf_J50 {p : Program} {l : Launch} {e : Env} {s : State} {m : MethodId} {args : Array Value} {below : List Frame} {meth : Method} {c : Code} (C : cxt p s m args meth c cX12_nextOf 5 RX12 wsX12_nextOf (some .int)) {D : va_G} {cs : Nat → ClassId} {a : Nat → Nat} (hK : KK D cs s) {σ : Nat → Nat → Int32} (hP : va_P D vwCl (mW a cs σ) s.heap) (r : Int32) (F : Nat) (kb : Int32 → Int32 → Option Int32) (x1 : Int32) (x2 : Int32) (x4 : Int32) (t0 : Int32) (hkb : ∀ (x3 : Int32) (x4 : Int32) (ls : Array Slot), lv_has ls 5 [(0, .ref (a 0)), (1, .int x1), (2, .int x2), (3, .int x3), (4, .int x4)] → kb x3 x4 = some r → W p l e rmX12_nextOf s m args below meth c s.heap [] 0 0 (MQ below (vp_Si (fun x => x = r)) args s 0 0 (fun _ => False)) (F0 m 5 ls [])) (ls : Array Slot) (hl : lv_has ls 5 [(0, .ref (a 0)), (1, .int x1), (2, .int x2), (4, .int x4)]) (h : fX12_nextOf_J50 F kb x1 x2 x4 t0 σ = some r) : W p l e rmX12_nextOf s m args below meth c s.heap [] 0 0 (MQ below (vp_Si (fun x => x = r)) args s 0 0 (fun _ => False)) (F0 m 50 ls [.int t0]) := by
  obtain ⟨hx, hb, hml, hown, hts, hr, hlk⟩ := id C
  unfold fX12_nextOf_J50 at h
  refine lv_istore_n (lv' := [(3, .int t0), (0, .ref (a 0)), (1, .int x1), (2, .int x2), (4, .int x4)]) hx hb dX12_nextOf_50 rfl hl (by decide) rfl (fun ls hl => ?_)
  refine lv_iinc (v := x4 + (1 : Int32)) (lv' := [(4, .int (x4 + (1 : Int32))), (3, .int t0), (0, .ref (a 0)), (1, .int x1), (2, .int x2)]) hx hb dX12_nextOf_51 hl (k := 4) rfl rfl (by decide) rfl (fun ls hl => ?_)
  refine lv_goto (tgt := 5) hx hb dX12_nextOf_54 (by decide) ?_
  exact hkb t0 (x4 + (1 : Int32)) ls (lv_sub hl [2, 3, 4, 1, 0] rfl) h
set_option maxHeartbeats 4000000 in
set_option maxRecDepth 100000 in
theorem wX12_nextOf_J49 {p : Program} {l : Launch} {e : Env} {s : State} {m : MethodId} {args : Array Value} {below : List Frame} {meth : Method} {c : Code} (C : cxt p s m args meth c cX12_nextOf 5 RX12 wsX12_nextOf (some .int)) {D : va_G} {cs : Nat → ClassId} {a : Nat → Nat} (hK : KK D cs s) {σ : Nat → Nat → Int32} (hP : va_P D vwCl (mW a cs σ) s.heap) (r : Int32) (F : Nat) (kb : Int32 → Int32 → Option Int32) (x1 : Int32) (x2 : Int32) (x3 : Int32) (x4 : Int32) (hkb : ∀ (x3 : Int32) (x4 : Int32) (ls : Array Slot), lv_has ls 5 [(0, .ref (a 0)), (1, .int x1), (2, .int x2), (3, .int x3), (4, .int x4)] → kb x3 x4 = some r → W p l e rmX12_nextOf s m args below meth c s.heap [] 0 0 (MQ below (vp_Si (fun x => x = r)) args s 0 0 (fun _ => False)) (F0 m 5 ls [])) (ls : Array Slot) (hl : lv_has ls 5 [(0, .ref (a 0)), (1, .int x1), (2, .int x2), (3, .int x3), (4, .int x4)]) (h : fX12_nextOf_J49 F kb x1 x2 x3 x4 σ = some r) : W p l e rmX12_nextOf s m args below meth c s.heap [] 0 0 (MQ below (vp_Si (fun x => x = r)) args s 0 0 (fun _ => False)) (F0 m 49 ls []) := by
  obtain ⟨hx, hb, hml, hown, hts, hr, hlk⟩ := id C
  unfold fX12_nextOf_J49 at h
  refine lv_iload_n hx hb dX12_nextOf_49 rfl (lv_at hl 3 rfl) ?_
  exact wX12_nextOf_J50 C hK hP r F kb x1 x2 x4 x3 hkb ls (lv_sub hl [0, 1, 2, 4] rfl) h
set_option maxHeartbeats 4000000 in
set_option maxRecDepth 100000 in
theorem wX12_nextOf_J39 {p : Program} {l : Launch} {e : Env} {s : State} {m : MethodId} {args : Array Value} {below : List Frame} {meth : Method} {c : Code} (C : cxt p s m args meth c cX12_nextOf 5 RX12 wsX12_nextOf (some .int)) {D : va_G} {cs : Nat → ClassId} {a : Nat → Nat} (hK : KK D cs s) {σ : Nat → Nat → Int32} (hP : va_P D vwCl (mW a cs σ) s.heap) (r : Int32) (F : Nat) (kb : Int32 → Int32 → Option Int32) (x1 : Int32) (x2 : Int32) (x4 : Int32) (hkb : ∀ (x3 : Int32) (x4 : Int32) (ls : Array Slot), lv_has ls 5 [(0, .ref (a 0)), (1, .int x1), (2, .int x2), (3, .int x3), (4, .int x4)] → kb x3 x4 = some r → W p l e rmX12_nextOf s m args below meth c s.heap [] 0 0 (MQ below (vp_Si (fun x => x = r)) args s 0 0 (fun _ => False)) (F0 m 5 ls [])) (ls : Array Slot) (hl : lv_has ls 5 [(0, .ref (a 0)), (1, .int x1), (2, .int x2), (4, .int x4)]) (h : fX12_nextOf_J39 F kb x1 x2 x4 σ = some r) : W p l e rmX12_nextOf s m args below meth c s.heap [] 0 0 (MQ below (vp_Si (fun x => x = r)) args s 0 0 (fun _ => False)) (F0 m 39 ls []) := by
  obtain ⟨hx, hb, hml, hown, hts, hr, hlk⟩ := id C
  unfold fX12_nextOf_J39 at h
  refine lv_aload_n hx hb dX12_nextOf_39 rfl (lv_at hl 0 rfl) ?_
  refine va_get (D := D) (ci := 11) (v := .ref (a 10)) (C := RX12) (T := TX12) (N := 27) hx hb hts inX12_X12_nextOf hown hK.1 hP 0 rfl rfl 10 (by decide) (hts (.fieldLink RX12 38 "SandPalaceModel" "reaches" "[I") (by decide +kernel)) (fun _ h9 => h9) rfl dX12_nextOf_40 ?_
  refine lv_iload hx hb dX12_nextOf_43 (lv_at hl 3 rfl) ?_
  obtain ⟨v4, i_v4, e_v4, h⟩ := aI_some h
  refine miald hx hb hK.1 hP 10 0 rfl rfl i_v4 e_v4 dX12_nextOf_45 ?_
  refine lv_goto (tgt := 50) hx hb dX12_nextOf_46 (by decide) ?_
  exact wX12_nextOf_J50 C hK hP r F kb x1 x2 x4 v4 hkb ls (lv_sub hl [0, 1, 2, 3] rfl) h
set_option maxHeartbeats 4000000 in
set_option maxRecDepth 100000 in
theorem wX12_nextOf_L5 {p : Program} {l : Launch} {e : Env} {s : State} {m : MethodId} {args : Array Value} {below : List Frame} {meth : Method} {c : Code} (C : cxt p s m args meth c cX12_nextOf 5 RX12 wsX12_nextOf (some .int)) {D : va_G} {cs : Nat → ClassId} {a : Nat → Nat} (hK : KK D cs s) {σ : Nat → Nat → Int32} (hP : va_P D vwCl (mW a cs σ) s.heap) (r : Int32) (F : Nat) (x1 : Int32) (x2 : Int32) (kx : Int32 → Option Int32) (hkx : ∀ (x3 : Int32) (ls : Array Slot), lv_has ls 5 [(0, .ref (a 0)), (1, .int x1), (2, .int x2), (3, .int x3)] → kx x3 = some r → W p l e rmX12_nextOf s m args below meth c s.heap [] 0 0 (MQ below (vp_Si (fun x => x = r)) args s 0 0 (fun _ => False)) (F0 m 57 ls [])) : ∀ (n : Nat) (x3 : Int32) (x4 : Int32) (ls : Array Slot), lv_has ls 5 [(0, .ref (a 0)), (1, .int x1), (2, .int x2), (3, .int x3), (4, .int x4)] → fX12_nextOf_L5 F σ x1 x2 kx n x3 x4 = some r → W p l e rmX12_nextOf s m args below meth c s.heap [] 0 0 (MQ below (vp_Si (fun x => x = r)) args s 0 0 (fun _ => False)) (F0 m 5 ls []) := by
  obtain ⟨hx, hb, hml, hown, hts, hr, hlk⟩ := id C
  intro n
  induction n with
  | zero =>
    intros
    rename_i h
    cases h
  | succ n ih =>
    intro x3 x4 ls hl h
    rw [fX12_nextOf_L5] at h
    obtain ⟨kb, hkb, h⟩ := nb_some (P := fun (kb : Int32 → Int32 → Option Int32) => ∀ (x3 : Int32) (x4 : Int32) (ls : Array Slot), lv_has ls 5 [(0, .ref (a 0)), (1, .int x1), (2, .int x2), (3, .int x3), (4, .int x4)] → kb x3 x4 = some r → W p l e rmX12_nextOf s m args below meth c s.heap [] 0 0 (MQ below (vp_Si (fun x => x = r)) args s 0 0 (fun _ => False)) (F0 m 5 ls [])) h ih
    refine lv_iload hx hb dX12_nextOf_5 (lv_at hl 4 rfl) ?_
    refine lv_aload_n hx hb dX12_nextOf_7 rfl (lv_at hl 0 rfl) ?_
    refine va_get (D := D) (ci := 11) (v := .int (σ 0 0)) (C := RX12) (T := TX12) (N := 27) hx hb hts inX12_X12_nextOf hown hK.1 hP 0 rfl rfl 0 (by decide) (hts (.fieldLink RX12 103 "SandPalaceModel" "shapes" "I") (by decide +kernel)) (fun _ h9 => h9) rfl dX12_nextOf_8 ?_
    refine lv_icmp_ge (tgt := 57) hx hb dX12_nextOf_11 (by decide) (fun c1 => ?_) (fun c1 => ?_)
    · have h := it_t c1 h
      exact hkx x3 ls (lv_sub hl [0, 1, 2, 3] rfl) h
    · have h := it_f c1 h
      refine lv_iload_n hx hb dX12_nextOf_14 rfl (lv_at hl 1 rfl) ?_
      refine lv_iload hx hb dX12_nextOf_15 (lv_at hl 4 rfl) ?_
      refine lv_ishr hx hb dX12_nextOf_17 ?_
      refine lv_iconst (v := (1 : Int32)) hx hb dX12_nextOf_18 (by decide) ?_
      refine lv_iand hx hb dX12_nextOf_19 ?_
      refine lv_iconst (v := (1 : Int32)) hx hb dX12_nextOf_20 (by decide) ?_
      refine lv_icmp_ne (tgt := 49) hx hb dX12_nextOf_21 (by decide) (fun c2 => ?_) (fun c2 => ?_)
      · have h := it_t c2 h
        exact wX12_nextOf_J49 C hK hP r F kb x1 x2 x3 x4 hkb ls (lv_sub hl [0, 1, 2, 3, 4] rfl) h
      · have h := it_n c2 h
        refine lv_iload_n hx hb dX12_nextOf_24 rfl (lv_at hl 3 rfl) ?_
        refine lv_if_lt (tgt := 39) hx hb dX12_nextOf_25 (by decide) (fun c3 => ?_) (fun c3 => ?_)
        · have h := it_t c3 h
          exact wX12_nextOf_J39 C hK hP r F kb x1 x2 x4 hkb ls (lv_sub hl [0, 1, 2, 4] rfl) h
        · have h := it_f c3 h
          refine lv_aload_n hx hb dX12_nextOf_28 rfl (lv_at hl 0 rfl) ?_
          refine va_get (D := D) (ci := 11) (v := .ref (a 10)) (C := RX12) (T := TX12) (N := 27) hx hb hts inX12_X12_nextOf hown hK.1 hP 0 rfl rfl 10 (by decide) (hts (.fieldLink RX12 38 "SandPalaceModel" "reaches" "[I") (by decide +kernel)) (fun _ h9 => h9) rfl dX12_nextOf_29 ?_
          refine lv_iload hx hb dX12_nextOf_32 (lv_at hl 4 rfl) ?_
          obtain ⟨v4, i_v4, e_v4, h⟩ := aI_some h
          refine miald hx hb hK.1 hP 10 0 rfl rfl i_v4 e_v4 dX12_nextOf_34 ?_
          refine lv_iload_n hx hb dX12_nextOf_35 rfl (lv_at hl 3 rfl) ?_
          refine lv_icmp_ge (tgt := 49) hx hb dX12_nextOf_36 (by decide) (fun c5 => ?_) (fun c5 => ?_)
          · have h := it_t c5 h
            exact wX12_nextOf_J49 C hK hP r F kb x1 x2 x3 x4 hkb ls (lv_sub hl [0, 1, 2, 3, 4] rfl) h
          · have h := it_f c5 h
            exact wX12_nextOf_J39 C hK hP r F kb x1 x2 x4 hkb ls (lv_sub hl [0, 1, 2, 4] rfl) h
set_option maxHeartbeats 4000000 in
set_option maxRecDepth 100000 in
theorem wX12_nextOf_J107 {p : Program} {l : Launch} {e : Env} {s : State} {m : MethodId} {args : Array Value} {below : List Frame} {meth : Method} {c : Code} (C : cxt p s m args meth c cX12_nextOf 5 RX12 wsX12_nextOf (some .int)) {D : va_G} {cs : Nat → ClassId} {a : Nat → Nat} (hK : KK D cs s) {σ : Nat → Nat → Int32} (hP : va_P D vwCl (mW a cs σ) s.heap) (r : Int32) (F : Nat) (kb : Int32 → Option Int32) (x1 : Int32) (x2 : Int32) (x3 : Int32) (x4 : Int32) (hkb : ∀ (x4 : Int32) (ls : Array Slot), lv_has ls 5 [(0, .ref (a 0)), (1, .int x1), (2, .int x2), (3, .int x3), (4, .int x4)] → kb x4 = some r → W p l e rmX12_nextOf s m args below meth c s.heap [] 0 0 (MQ below (vp_Si (fun x => x = r)) args s 0 0 (fun _ => False)) (F0 m 60 ls [])) (ls : Array Slot) (hl : lv_has ls 5 [(0, .ref (a 0)), (1, .int x1), (2, .int x2), (3, .int x3), (4, .int x4)]) (h : fX12_nextOf_J107 F kb x1 x2 x3 x4 σ = some r) : W p l e rmX12_nextOf s m args below meth c s.heap [] 0 0 (MQ below (vp_Si (fun x => x = r)) args s 0 0 (fun _ => False)) (F0 m 107 ls []) := by
  obtain ⟨hx, hb, hml, hown, hts, hr, hlk⟩ := id C
  unfold fX12_nextOf_J107 at h
  refine lv_iinc (v := x4 + (1 : Int32)) (lv' := [(4, .int (x4 + (1 : Int32))), (0, .ref (a 0)), (1, .int x1), (2, .int x2), (3, .int x3)]) hx hb dX12_nextOf_107 hl (k := 4) rfl rfl (by decide) rfl (fun ls hl => ?_)
  refine lv_goto (tgt := 60) hx hb dX12_nextOf_110 (by decide) ?_
  exact hkb (x4 + (1 : Int32)) ls (lv_sub hl [1, 2, 3, 4, 0] rfl) h
set_option maxHeartbeats 4000000 in
set_option maxRecDepth 100000 in
theorem wX12_nextOf_L60 {p : Program} {l : Launch} {e : Env} {s : State} {m : MethodId} {args : Array Value} {below : List Frame} {meth : Method} {c : Code} (C : cxt p s m args meth c cX12_nextOf 5 RX12 wsX12_nextOf (some .int)) {D : va_G} {cs : Nat → ClassId} {a : Nat → Nat} (hK : KK D cs s) {σ : Nat → Nat → Int32} (hP : va_P D vwCl (mW a cs σ) s.heap) (r : Int32) (F : Nat) (x1 : Int32) (x2 : Int32) (x3 : Int32) (kx : Option Int32) (hkx : ∀ (ls : Array Slot), lv_has ls 5 [] → kx = some r → W p l e rmX12_nextOf s m args below meth c s.heap [] 0 0 (MQ below (vp_Si (fun x => x = r)) args s 0 0 (fun _ => False)) (F0 m 113 ls [])) : ∀ (n : Nat) (x4 : Int32) (ls : Array Slot), lv_has ls 5 [(0, .ref (a 0)), (1, .int x1), (2, .int x2), (3, .int x3), (4, .int x4)] → fX12_nextOf_L60 F σ x1 x2 x3 kx n x4 = some r → W p l e rmX12_nextOf s m args below meth c s.heap [] 0 0 (MQ below (vp_Si (fun x => x = r)) args s 0 0 (fun _ => False)) (F0 m 60 ls []) := by
  obtain ⟨hx, hb, hml, hown, hts, hr, hlk⟩ := id C
  intro n
  induction n with
  | zero =>
    intros
    rename_i h
    cases h
  | succ n ih =>
    intro x4 ls hl h
    rw [fX12_nextOf_L60] at h
    obtain ⟨kb, hkb, h⟩ := nb_some (P := fun (kb : Int32 → Option Int32) => ∀ (x4 : Int32) (ls : Array Slot), lv_has ls 5 [(0, .ref (a 0)), (1, .int x1), (2, .int x2), (3, .int x3), (4, .int x4)] → kb x4 = some r → W p l e rmX12_nextOf s m args below meth c s.heap [] 0 0 (MQ below (vp_Si (fun x => x = r)) args s 0 0 (fun _ => False)) (F0 m 60 ls [])) h ih
    refine lv_iload hx hb dX12_nextOf_60 (lv_at hl 4 rfl) ?_
    refine lv_aload_n hx hb dX12_nextOf_62 rfl (lv_at hl 0 rfl) ?_
    refine va_get (D := D) (ci := 11) (v := .int (σ 0 0)) (C := RX12) (T := TX12) (N := 27) hx hb hts inX12_X12_nextOf hown hK.1 hP 0 rfl rfl 0 (by decide) (hts (.fieldLink RX12 103 "SandPalaceModel" "shapes" "I") (by decide +kernel)) (fun _ h9 => h9) rfl dX12_nextOf_63 ?_
    refine lv_icmp_ge (tgt := 113) hx hb dX12_nextOf_66 (by decide) (fun c2 => ?_) (fun c2 => ?_)
    · have h := it_t c2 h
      exact hkx  ls (lv_sub hl [] rfl) h
    · have h := it_f c2 h
      refine lv_iload_n hx hb dX12_nextOf_69 rfl (lv_at hl 1 rfl) ?_
      refine lv_iload hx hb dX12_nextOf_70 (lv_at hl 4 rfl) ?_
      refine lv_ishr hx hb dX12_nextOf_72 ?_
      refine lv_iconst (v := (1 : Int32)) hx hb dX12_nextOf_73 (by decide) ?_
      refine lv_iand hx hb dX12_nextOf_74 ?_
      refine lv_iconst (v := (1 : Int32)) hx hb dX12_nextOf_75 (by decide) ?_
      refine lv_icmp_ne (tgt := 107) hx hb dX12_nextOf_76 (by decide) (fun c3 => ?_) (fun c3 => ?_)
      · have h := it_t c3 h
        exact wX12_nextOf_J107 C hK hP r F kb x1 x2 x3 x4 hkb ls (lv_sub hl [0, 1, 2, 3, 4] rfl) h
      · have h := it_n c3 h
        refine lv_aload_n hx hb dX12_nextOf_79 rfl (lv_at hl 0 rfl) ?_
        refine va_get (D := D) (ci := 11) (v := .ref (a 10)) (C := RX12) (T := TX12) (N := 27) hx hb hts inX12_X12_nextOf hown hK.1 hP 0 rfl rfl 10 (by decide) (hts (.fieldLink RX12 38 "SandPalaceModel" "reaches" "[I") (by decide +kernel)) (fun _ h9 => h9) rfl dX12_nextOf_80 ?_
        refine lv_iload hx hb dX12_nextOf_83 (lv_at hl 4 rfl) ?_
        obtain ⟨v4, i_v4, e_v4, h⟩ := aI_some h
        refine miald hx hb hK.1 hP 10 0 rfl rfl i_v4 e_v4 dX12_nextOf_85 ?_
        refine lv_iload_n hx hb dX12_nextOf_86 rfl (lv_at hl 3 rfl) ?_
        refine lv_icmp_ne (tgt := 107) hx hb dX12_nextOf_87 (by decide) (fun c5 => ?_) (fun c5 => ?_)
        · have h := it_t c5 h
          exact wX12_nextOf_J107 C hK hP r F kb x1 x2 x3 x4 hkb ls (lv_sub hl [0, 1, 2, 3, 4] rfl) h
        · have h := it_n c5 h
          refine lv_aload_n hx hb dX12_nextOf_90 rfl (lv_at hl 0 rfl) ?_
          refine va_get (D := D) (ci := 11) (v := .ref (a 14)) (C := RX12) (T := TX12) (N := 27) hx hb hts inX12_X12_nextOf hown hK.1 hP 0 rfl rfl 14 (by decide) (hts (.fieldLink RX12 48 "SandPalaceModel" "ahead" "[I") (by decide +kernel)) (fun _ h9 => h9) rfl dX12_nextOf_91 ?_
          refine lv_iload hx hb dX12_nextOf_94 (lv_at hl 4 rfl) ?_
          obtain ⟨v6, i_v6, e_v6, h⟩ := aI_some h
          refine miald hx hb hK.1 hP 12 0 rfl rfl i_v6 e_v6 dX12_nextOf_96 ?_
          refine lv_iload_n hx hb dX12_nextOf_97 rfl (lv_at hl 2 rfl) ?_
          refine lv_iconst (v := ((-1) : Int32)) hx hb dX12_nextOf_98 (by decide) ?_
          refine lv_ixor hx hb dX12_nextOf_99 ?_
          refine lv_iand hx hb dX12_nextOf_100 ?_
          refine lv_if_ne (tgt := 107) hx hb dX12_nextOf_101 (by decide) (fun c7 => ?_) (fun c7 => ?_)
          · have h := it_t c7 h
            exact wX12_nextOf_J107 C hK hP r F kb x1 x2 x3 x4 hkb ls (lv_sub hl [0, 1, 2, 3, 4] rfl) h
          · have h := it_n c7 h
            refine lv_iload hx hb dX12_nextOf_104 (lv_at hl 4 rfl) ?_
            exact mretS hx hb hr hlk h dX12_nextOf_106
set_option maxHeartbeats 4000000 in
set_option maxRecDepth 100000 in
theorem kX12_nextOf (l : Launch) (D : va_G) (cs : Nat → ClassId) (a : Nat → Nat) (σ : Nat → Nat → Int32) (F : Nat) (x1 : Int32) (x2 : Int32) (r : Int32) (h : fX12_nextOf F σ x1 x2 = some r) : Met l yX12_nextOf wsX12_nextOf rmX12_nextOf (va_Pc [.ref (a 0), .int x1, .int x2] (pR D cs (mW a cs σ))) (vp_Si (fun x => x = r)) 0 0 (fun _ => False) := by
  refine Met.ofW (cc := cX12_nextOf) (maxL := 5) (ret := (some .int)) (by decide) rfl ?_
  intro p e s m args below meth c s₁ B hml hv
  obtain ⟨rfl, hP, hK⟩ := hv
  have C : cxt p s m _ meth c cX12_nextOf 5 RX12 wsX12_nextOf (some .int) := ⟨B.exec, B.bytes, hml, findClass_of_methodNamed B.named, atoms_spec (ws := wsX12_nextOf) B.pre, B.returns, B.notSynchronized⟩
  obtain ⟨hx, hb, -, hown, hts, hr, hlk⟩ := id C
  refine entryW [.ref (a 0), .int x1, .int x2] (n := 5) (Nat.le_of_ble_eq_true rfl) (fun ls hl => ?_)
  have hl : lv_has ls 5 [(0, .ref (a 0)), (1, .int x1), (2, .int x2)] := hl
  unfold fX12_nextOf at h
  refine lv_iconst (v := ((-1) : Int32)) hx hb dX12_nextOf_0 (by decide) ?_
  refine lv_istore_n (lv' := [(3, .int ((-1) : Int32)), (0, .ref (a 0)), (1, .int x1), (2, .int x2)]) hx hb dX12_nextOf_1 rfl hl (by decide) rfl (fun ls hl => ?_)
  refine lv_iconst (v := (0 : Int32)) hx hb dX12_nextOf_2 (by decide) ?_
  refine lv_istore (lv' := [(4, .int (0 : Int32)), (3, .int ((-1) : Int32)), (0, .ref (a 0)), (1, .int x1), (2, .int x2)]) hx hb dX12_nextOf_3 hl (by decide) rfl (fun ls hl => ?_)
  refine wX12_nextOf_L5 C hK hP r F x1 x2 _ ?_ F ((-1) : Int32) (0 : Int32) ls (lv_sub hl [2, 3, 4, 1, 0] rfl) h
  intro y1 ls hl h
  refine lv_iconst (v := (0 : Int32)) hx hb dX12_nextOf_57 (by decide) ?_
  refine lv_istore (lv' := [(4, .int (0 : Int32)), (0, .ref (a 0)), (1, .int x1), (2, .int x2), (3, .int y1)]) hx hb dX12_nextOf_58 hl (by decide) rfl (fun ls hl => ?_)
  refine wX12_nextOf_L60 C hK hP r F x1 x2 y1 _ ?_ F (0 : Int32) ls (lv_sub hl [1, 2, 3, 4, 0] rfl) h
  intro  ls hl h
  refine lv_iconst (v := ((-1) : Int32)) hx hb dX12_nextOf_113 (by decide) ?_
  exact mretS hx hb hr hlk h dX12_nextOf_114
def fX12_canBeDay_J36 (F : Nat) (kb : Int32 → Int32 → (Nat → Nat → Int32) → Option (Int32 × (Nat → Nat → Int32))) (x1 : Int32) (x2 : Int32) (x4 : Int32) (t0 : Int32) (t1 : Int32) (σ : Nat → Nat → Int32) : Option (Int32 × (Nat → Nat → Int32)) :=
  kb (t1 + t0) (x4 + (1 : Int32)) σ
def fX12_canBeDay_L5 (F : Nat) (x1 : Int32) (x2 : Int32) (kx : Int32 → (Nat → Nat → Int32) → Option (Int32 × (Nat → Nat → Int32))) : Nat → Int32 → Int32 → (Nat → Nat → Int32) → Option (Int32 × (Nat → Nat → Int32))
  | 0, _, _, _ => none
  | n+1, x3, x4, σ =>
    nb ((fun x3 x4 σ => fX12_canBeDay_L5 F x1 x2 kx n x3 x4 σ)) fun kb =>
    if (σ 0 0) ≤ x4 then (kx x3 σ) else (if ¬ ((x1 >>> (x4 &&& 31)) &&& (1 : Int32)) = (1 : Int32) then (fX12_canBeDay_J36 F kb x1 x2 x4 (0 : Int32) x3 σ) else (aI (σ 9) 10 x4 fun v3 => fX12_canBeDay_J36 F kb x1 x2 x4 v3 x3 σ))
def fX12_canBeDay_L53 (F : Nat) (x3 : Int32) (kx : (Nat → Nat → Int32) → Option (Int32 × (Nat → Nat → Int32))) : Nat → Int32 → Int32 → Int32 → (Nat → Nat → Int32) → Option (Int32 × (Nat → Nat → Int32))
  | 0, _, _, _, _ => none
  | n+1, x4, x5, x6, σ =>
    nb ((fun x4 x5 x6 σ => fX12_canBeDay_L53 F x3 kx n x4 x5 x6 σ)) fun kb =>
    if x4 = 0 then (kx σ) else (if (σ 12 0) < x3 then (kx σ) else (bd (fX12_nextOf F σ x4 x6) fun v5 => if 0 ≤ v5 then (aS 10 x5 (nm (sg σ 18 (upd (σ 18) x5.toNatClampNeg v5)) fun σ8 => nm (x4 &&& (((1 : Int32) <<< (v5 &&& 31)) ^^^ ((-1) : Int32))) fun z9 => nm (x6 ||| ((1 : Int32) <<< (v5 &&& 31))) fun z10 => kb z9 (x5 + (1 : Int32)) z10 σ8)) else (some ((0 : Int32), σ))))
def fX12_canBeDay (F : Nat) (σ : Nat → Nat → Int32) (x1 : Int32) (x2 : Int32) : Option (Int32 × (Nat → Nat → Int32)) :=
  fX12_canBeDay_L5 F x1 x2 (fun y1 σ2 => fX12_canBeDay_L53 F y1 (fun σ3 => if (σ3 12 0) < y1 then (some ((0 : Int32), σ3)) else (some ((1 : Int32), σ3))) F x1 (0 : Int32) x2 σ2) F (0 : Int32) (0 : Int32) σ
abbrev rmX12_canBeDay : Room := { frames := 1, cells := 0, slots := 0, locals := 24 }
theorem inX12_X12_canBeDay : ∀ w ∈ wsX120, w ∈ wsX12_canBeDay := by intro w h; simp only [wsX12_canBeDay, List.mem_cons, List.mem_append]; simp only [h, true_or, or_true]
set_option maxHeartbeats 4000000 in
set_option maxRecDepth 100000 in
theorem wX12_canBeDay_J36 {p : Program} {l : Launch} {e : Env} {s : State} {m : MethodId} {args : Array Value} {below : List Frame} {meth : Method} {c : Code} (C : cxt p s m args meth c cX12_canBeDay 8 RX12 wsX12_canBeDay (some .boolean)) {D : va_G} {cs : Nat → ClassId} {a : Nat → Nat} (hK : KK D cs s) {A : Nat → Prop} (hA : ∀ q, s.heap.size ≤ q → A q) (r : Int32) (u9 : Nat → Nat → Int32) (F : Nat) (kb : Int32 → Int32 → (Nat → Nat → Int32) → Option (Int32 × (Nat → Nat → Int32))) (x1 : Int32) (x2 : Int32) (x4 : Int32) (t0 : Int32) (t1 : Int32) (hkb : ∀ (x3 : Int32) (x4 : Int32) (σ : Nat → Nat → Int32) (H : Heap) (locs : List Loc) (ls : Array Slot), va_P D vwCl (mW a cs σ) H → va_D A (mW a cs σ) → va_S A s.heap H locs → lv_has ls 8 [(0, .ref (a 0)), (1, .int x1), (2, .int x2), (3, .int x3), (4, .int x4)] → kb x3 x4 σ = some (r, u9) → W p l e rmX12_canBeDay s m args below meth c H locs 0 0 (MQ below (va_Qi (fun x y => (x = r ∧ (r = 0 ∨ r = 1)) ∧ y = u9) (qB D (mW a cs) A) A) args s 0 0 A) (F0 m 5 ls [])) (σ : Nat → Nat → Int32) (H : Heap) (locs : List Loc) (ls : Array Slot) (hP : va_P D vwCl (mW a cs σ) H) (hD : va_D A (mW a cs σ)) (hS : va_S A s.heap H locs) (hl : lv_has ls 8 [(0, .ref (a 0)), (1, .int x1), (2, .int x2), (4, .int x4)]) (h : fX12_canBeDay_J36 F kb x1 x2 x4 t0 t1 σ = some (r, u9)) : W p l e rmX12_canBeDay s m args below meth c H locs 0 0 (MQ below (va_Qi (fun x y => (x = r ∧ (r = 0 ∨ r = 1)) ∧ y = u9) (qB D (mW a cs) A) A) args s 0 0 A) (F0 m 36 ls [.int t0, .int t1]) := by
  obtain ⟨hx, hb, hml, hown, hts, hr, hlk⟩ := id C
  unfold fX12_canBeDay_J36 at h
  refine lv_iadd hx hb dX12_canBeDay_36 ?_
  refine lv_istore_n (lv' := [(3, .int (t1 + t0)), (0, .ref (a 0)), (1, .int x1), (2, .int x2), (4, .int x4)]) hx hb dX12_canBeDay_37 rfl hl (by decide) rfl (fun ls hl => ?_)
  refine lv_iinc (v := x4 + (1 : Int32)) (lv' := [(4, .int (x4 + (1 : Int32))), (3, .int (t1 + t0)), (0, .ref (a 0)), (1, .int x1), (2, .int x2)]) hx hb dX12_canBeDay_38 hl (k := 4) rfl rfl (by decide) rfl (fun ls hl => ?_)
  refine lv_goto (tgt := 5) hx hb dX12_canBeDay_41 (by decide) ?_
  exact hkb (t1 + t0) (x4 + (1 : Int32)) σ _ _ ls hP hD hS (lv_sub hl [2, 3, 4, 1, 0] rfl) h
set_option maxHeartbeats 4000000 in
set_option maxRecDepth 100000 in
theorem wX12_canBeDay_L5 {p : Program} {l : Launch} {e : Env} {s : State} {m : MethodId} {args : Array Value} {below : List Frame} {meth : Method} {c : Code} (C : cxt p s m args meth c cX12_canBeDay 8 RX12 wsX12_canBeDay (some .boolean)) {D : va_G} {cs : Nat → ClassId} {a : Nat → Nat} (hK : KK D cs s) {A : Nat → Prop} (hA : ∀ q, s.heap.size ≤ q → A q) (r : Int32) (u9 : Nat → Nat → Int32) (F : Nat) (x1 : Int32) (x2 : Int32) (kx : Int32 → (Nat → Nat → Int32) → Option (Int32 × (Nat → Nat → Int32))) (hkx : ∀ (x3 : Int32) (σ : Nat → Nat → Int32) (H : Heap) (locs : List Loc) (ls : Array Slot), va_P D vwCl (mW a cs σ) H → va_D A (mW a cs σ) → va_S A s.heap H locs → lv_has ls 8 [(0, .ref (a 0)), (1, .int x1), (2, .int x2), (3, .int x3)] → kx x3 σ = some (r, u9) → W p l e rmX12_canBeDay s m args below meth c H locs 0 0 (MQ below (va_Qi (fun x y => (x = r ∧ (r = 0 ∨ r = 1)) ∧ y = u9) (qB D (mW a cs) A) A) args s 0 0 A) (F0 m 44 ls [])) : ∀ (n : Nat) (x3 : Int32) (x4 : Int32) (σ : Nat → Nat → Int32) (H : Heap) (locs : List Loc) (ls : Array Slot), va_P D vwCl (mW a cs σ) H → va_D A (mW a cs σ) → va_S A s.heap H locs → lv_has ls 8 [(0, .ref (a 0)), (1, .int x1), (2, .int x2), (3, .int x3), (4, .int x4)] → fX12_canBeDay_L5 F x1 x2 kx n x3 x4 σ = some (r, u9) → W p l e rmX12_canBeDay s m args below meth c H locs 0 0 (MQ below (va_Qi (fun x y => (x = r ∧ (r = 0 ∨ r = 1)) ∧ y = u9) (qB D (mW a cs) A) A) args s 0 0 A) (F0 m 5 ls []) := by
  obtain ⟨hx, hb, hml, hown, hts, hr, hlk⟩ := id C
  intro n
  induction n with
  | zero =>
    intros
    rename_i h
    cases h
  | succ n ih =>
    intro x3 x4 σ H locs ls hP hD hS hl h
    rw [fX12_canBeDay_L5] at h
    obtain ⟨kb, hkb, h⟩ := nb_some (P := fun (kb : Int32 → Int32 → (Nat → Nat → Int32) → Option (Int32 × (Nat → Nat → Int32))) => ∀ (x3 : Int32) (x4 : Int32) (σ : Nat → Nat → Int32) (H : Heap) (locs : List Loc) (ls : Array Slot), va_P D vwCl (mW a cs σ) H → va_D A (mW a cs σ) → va_S A s.heap H locs → lv_has ls 8 [(0, .ref (a 0)), (1, .int x1), (2, .int x2), (3, .int x3), (4, .int x4)] → kb x3 x4 σ = some (r, u9) → W p l e rmX12_canBeDay s m args below meth c H locs 0 0 (MQ below (va_Qi (fun x y => (x = r ∧ (r = 0 ∨ r = 1)) ∧ y = u9) (qB D (mW a cs) A) A) args s 0 0 A) (F0 m 5 ls [])) h ih
    refine lv_iload hx hb dX12_canBeDay_5 (lv_at hl 4 rfl) ?_
    refine lv_aload_n hx hb dX12_canBeDay_7 rfl (lv_at hl 0 rfl) ?_
    refine va_get (D := D) (ci := 11) (v := .int (σ 0 0)) (C := RX12) (T := TX12) (N := 27) hx hb hts inX12_X12_canBeDay hown hK.1 hP 0 rfl rfl 0 (by decide) (hts (.fieldLink RX12 103 "SandPalaceModel" "shapes" "I") (by decide +kernel)) (fun _ h9 => h9) rfl dX12_canBeDay_8 ?_
    refine lv_icmp_ge (tgt := 44) hx hb dX12_canBeDay_11 (by decide) (fun c1 => ?_) (fun c1 => ?_)
    · have h := it_t c1 h
      exact hkx x3 σ _ _ ls hP hD hS (lv_sub hl [0, 1, 2, 3] rfl) h
    · have h := it_f c1 h
      refine lv_iload_n hx hb dX12_canBeDay_14 rfl (lv_at hl 3 rfl) ?_
      refine lv_iload_n hx hb dX12_canBeDay_15 rfl (lv_at hl 1 rfl) ?_
      refine lv_iload hx hb dX12_canBeDay_16 (lv_at hl 4 rfl) ?_
      refine lv_ishr hx hb dX12_canBeDay_18 ?_
      refine lv_iconst (v := (1 : Int32)) hx hb dX12_canBeDay_19 (by decide) ?_
      refine lv_iand hx hb dX12_canBeDay_20 ?_
      refine lv_iconst (v := (1 : Int32)) hx hb dX12_canBeDay_21 (by decide) ?_
      refine lv_icmp_ne (tgt := 35) hx hb dX12_canBeDay_22 (by decide) (fun c2 => ?_) (fun c2 => ?_)
      · have h := it_t c2 h
        refine lv_iconst (v := (0 : Int32)) hx hb dX12_canBeDay_35 (by decide) ?_
        exact wX12_canBeDay_J36 C hK hA r u9 F kb x1 x2 x4 (0 : Int32) x3 hkb σ _ _ ls hP hD hS (lv_sub hl [0, 1, 2, 4] rfl) h
      · have h := it_n c2 h
        refine lv_aload_n hx hb dX12_canBeDay_25 rfl (lv_at hl 0 rfl) ?_
        refine va_get (D := D) (ci := 11) (v := .ref (a 9)) (C := RX12) (T := TX12) (N := 27) hx hb hts inX12_X12_canBeDay hown hK.1 hP 0 rfl rfl 9 (by decide) (hts (.fieldLink RX12 35 "SandPalaceModel" "sizes" "[I") (by decide +kernel)) (fun _ h9 => h9) rfl dX12_canBeDay_26 ?_
        refine lv_iload hx hb dX12_canBeDay_29 (lv_at hl 4 rfl) ?_
        obtain ⟨v3, i_v3, e_v3, h⟩ := aI_some h
        refine miald hx hb hK.1 hP 9 0 rfl rfl i_v3 e_v3 dX12_canBeDay_31 ?_
        refine lv_goto (tgt := 36) hx hb dX12_canBeDay_32 (by decide) ?_
        exact wX12_canBeDay_J36 C hK hA r u9 F kb x1 x2 x4 v3 x3 hkb σ _ _ ls hP hD hS (lv_sub hl [0, 1, 2, 4] rfl) h
set_option maxHeartbeats 4000000 in
set_option maxRecDepth 100000 in
theorem wX12_canBeDay_L53 {p : Program} {l : Launch} {e : Env} {s : State} {m : MethodId} {args : Array Value} {below : List Frame} {meth : Method} {c : Code} (C : cxt p s m args meth c cX12_canBeDay 8 RX12 wsX12_canBeDay (some .boolean)) {D : va_G} {cs : Nat → ClassId} {a : Nat → Nat} (hK : KK D cs s) {A : Nat → Prop} (hA : ∀ q, s.heap.size ≤ q → A q) (r : Int32) (u9 : Nat → Nat → Int32) (F : Nat) (x3 : Int32) (kx : (Nat → Nat → Int32) → Option (Int32 × (Nat → Nat → Int32))) (hkx : ∀ (σ : Nat → Nat → Int32) (H : Heap) (locs : List Loc) (ls : Array Slot), va_P D vwCl (mW a cs σ) H → va_D A (mW a cs σ) → va_S A s.heap H locs → lv_has ls 8 [(0, .ref (a 0)), (3, .int x3)] → kx σ = some (r, u9) → W p l e rmX12_canBeDay s m args below meth c H locs 0 0 (MQ below (va_Qi (fun x y => (x = r ∧ (r = 0 ∨ r = 1)) ∧ y = u9) (qB D (mW a cs) A) A) args s 0 0 A) (F0 m 118 ls [])) : ∀ (n : Nat) (x4 : Int32) (x5 : Int32) (x6 : Int32) (σ : Nat → Nat → Int32) (H : Heap) (locs : List Loc) (ls : Array Slot), va_P D vwCl (mW a cs σ) H → va_D A (mW a cs σ) → va_S A s.heap H locs → lv_has ls 8 [(0, .ref (a 0)), (3, .int x3), (4, .int x4), (5, .int x5), (6, .int x6)] → fX12_canBeDay_L53 F x3 kx n x4 x5 x6 σ = some (r, u9) → W p l e rmX12_canBeDay s m args below meth c H locs 0 0 (MQ below (va_Qi (fun x y => (x = r ∧ (r = 0 ∨ r = 1)) ∧ y = u9) (qB D (mW a cs) A) A) args s 0 0 A) (F0 m 53 ls []) := by
  obtain ⟨hx, hb, hml, hown, hts, hr, hlk⟩ := id C
  intro n
  induction n with
  | zero =>
    intros
    rename_i h
    cases h
  | succ n ih =>
    intro x4 x5 x6 σ H locs ls hP hD hS hl h
    rw [fX12_canBeDay_L53] at h
    obtain ⟨kb, hkb, h⟩ := nb_some (P := fun (kb : Int32 → Int32 → Int32 → (Nat → Nat → Int32) → Option (Int32 × (Nat → Nat → Int32))) => ∀ (x4 : Int32) (x5 : Int32) (x6 : Int32) (σ : Nat → Nat → Int32) (H : Heap) (locs : List Loc) (ls : Array Slot), va_P D vwCl (mW a cs σ) H → va_D A (mW a cs σ) → va_S A s.heap H locs → lv_has ls 8 [(0, .ref (a 0)), (3, .int x3), (4, .int x4), (5, .int x5), (6, .int x6)] → kb x4 x5 x6 σ = some (r, u9) → W p l e rmX12_canBeDay s m args below meth c H locs 0 0 (MQ below (va_Qi (fun x y => (x = r ∧ (r = 0 ∨ r = 1)) ∧ y = u9) (qB D (mW a cs) A) A) args s 0 0 A) (F0 m 53 ls [])) h ih
    refine lv_iload hx hb dX12_canBeDay_53 (lv_at hl 2 rfl) ?_
    refine lv_if_eq (tgt := 118) hx hb dX12_canBeDay_55 (by decide) (fun c3 => ?_) (fun c3 => ?_)
    · have h := it_t c3 h
      exact hkx σ _ _ ls hP hD hS (lv_sub hl [0, 1] rfl) h
    · have h := it_f c3 h
      refine lv_iload_n hx hb dX12_canBeDay_58 rfl (lv_at hl 1 rfl) ?_
      refine lv_aload_n hx hb dX12_canBeDay_59 rfl (lv_at hl 0 rfl) ?_
      refine va_get (D := D) (ci := 11) (v := .int (σ 12 0)) (C := RX12) (T := TX12) (N := 27) hx hb hts inX12_X12_canBeDay hown hK.1 hP 0 rfl rfl 12 (by decide) (hts (.fieldLink RX12 44 "SandPalaceModel" "sand" "I") (by decide +kernel)) (fun _ h9 => h9) rfl dX12_canBeDay_60 ?_
      refine lv_icmp_gt (tgt := 118) hx hb dX12_canBeDay_63 (by decide) (fun c4 => ?_) (fun c4 => ?_)
      · have h := it_t c4 h
        exact hkx σ _ _ ls hP hD hS (lv_sub hl [0, 1] rfl) h
      · have h := it_f c4 h
        refine lv_aload_n hx hb dX12_canBeDay_66 rfl (lv_at hl 0 rfl) ?_
        refine lv_iload hx hb dX12_canBeDay_67 (lv_at hl 2 rfl) ?_
        refine lv_iload hx hb dX12_canBeDay_69 (lv_at hl 4 rfl) ?_
        obtain ⟨v5, hc_v5, h⟩ := bd_some h
        refine mcallS (va_runV (As := [.int x4, .int x6]) (rest := []) ⟨hx, hb, hml, hown, hts⟩ (kX12_nextOf l D cs a σ F x4 x6 v5 hc_v5) (cwV 2 hts gX12_canBeDay_X12_nextOf rfl rfl rfl (by decide +kernel) ⟨Nat.le_of_ble_eq_true rfl, Nat.le_of_ble_eq_true rfl⟩) (pR_v hP hK (va_recv hK.1 hP (ci := 11) (q0 := 0) rfl rfl)) rfl rfl hl.1 rfl (lv_room (Nat.le_of_ble_eq_true rfl)) dX12_canBeDay_71 ⟨Nat.zero_le _, Nat.zero_le _⟩) ?_
        refine lv_istore (lv' := [(7, .int v5), (0, .ref (a 0)), (3, .int x3), (4, .int x4), (5, .int x5), (6, .int x6)]) hx hb dX12_canBeDay_74 hl (by decide) rfl (fun ls hl => ?_)
        refine lv_iload hx hb dX12_canBeDay_76 (lv_at hl 0 rfl) ?_
        refine lv_if_ge (tgt := 83) hx hb dX12_canBeDay_78 (by decide) (fun c6 => ?_) (fun c6 => ?_)
        · have h := it_t c6 h
          refine lv_aload_n hx hb dX12_canBeDay_83 rfl (lv_at hl 1 rfl) ?_
          refine va_get (D := D) (ci := 11) (v := .ref (a 18)) (C := RX12) (T := TX12) (N := 27) hx hb hts inX12_X12_canBeDay hown hK.1 hP 0 rfl rfl 18 (by decide) (hts (.fieldLink RX12 57 "SandPalaceModel" "row" "[I") (by decide +kernel)) (fun _ h9 => h9) rfl dX12_canBeDay_84 ?_
          refine lv_iload hx hb dX12_canBeDay_87 (lv_at hl 4 rfl) ?_
          refine lv_iload hx hb dX12_canBeDay_89 (lv_at hl 0 rfl) ?_
          obtain ⟨i7, h⟩ := aS_some h
          refine va_iast hx hb hK.1 hP hD hS 15 0 rfl rfl i7 dX12_canBeDay_91 (fun H locs hP hD hS => ?_)
          obtain ⟨σ8, e_σ8, h⟩ := nm_some h
          have hP : va_P D vwCl (mW a cs σ8) H := by rw [← e_σ8]; exact hP
          have hD : va_D A (mW a cs σ8) := by rw [← e_σ8]; exact hD
          refine lv_iinc (v := x5 + (1 : Int32)) (lv' := [(5, .int (x5 + (1 : Int32))), (7, .int v5), (0, .ref (a 0)), (3, .int x3), (4, .int x4), (6, .int x6)]) hx hb dX12_canBeDay_92 hl (k := 4) rfl rfl (by decide) rfl (fun ls hl => ?_)
          refine lv_iload hx hb dX12_canBeDay_95 (lv_at hl 4 rfl) ?_
          refine lv_iconst (v := (1 : Int32)) hx hb dX12_canBeDay_97 (by decide) ?_
          refine lv_iload hx hb dX12_canBeDay_98 (lv_at hl 1 rfl) ?_
          refine lv_ishl hx hb dX12_canBeDay_100 ?_
          refine lv_iconst (v := ((-1) : Int32)) hx hb dX12_canBeDay_101 (by decide) ?_
          refine lv_ixor hx hb dX12_canBeDay_102 ?_
          refine lv_iand hx hb dX12_canBeDay_103 ?_
          obtain ⟨z9, e_z9, h⟩ := nm_some h
          refine tpi e_z9 ?_
          refine lv_istore (lv' := [(4, .int z9), (5, .int (x5 + (1 : Int32))), (7, .int v5), (0, .ref (a 0)), (3, .int x3), (6, .int x6)]) hx hb dX12_canBeDay_104 hl (by decide) rfl (fun ls hl => ?_)
          refine lv_iload hx hb dX12_canBeDay_106 (lv_at hl 5 rfl) ?_
          refine lv_iconst (v := (1 : Int32)) hx hb dX12_canBeDay_108 (by decide) ?_
          refine lv_iload hx hb dX12_canBeDay_109 (lv_at hl 2 rfl) ?_
          refine lv_ishl hx hb dX12_canBeDay_111 ?_
          refine lv_ior hx hb dX12_canBeDay_112 ?_
          obtain ⟨z10, e_z10, h⟩ := nm_some h
          refine tpi e_z10 ?_
          refine lv_istore (lv' := [(6, .int z10), (4, .int z9), (5, .int (x5 + (1 : Int32))), (7, .int v5), (0, .ref (a 0)), (3, .int x3)]) hx hb dX12_canBeDay_113 hl (by decide) rfl (fun ls hl => ?_)
          refine lv_goto (tgt := 53) hx hb dX12_canBeDay_115 (by decide) ?_
          exact hkb z9 (x5 + (1 : Int32)) z10 σ8 _ _ ls hP hD hS (lv_sub hl [4, 5, 1, 2, 0] rfl) h
        · have h := it_f c6 h
          refine lv_iconst (v := (0 : Int32)) hx hb dX12_canBeDay_81 (by decide) ?_
          exact mretQZ hx hb hr hlk h (Or.inl rfl) hP hD hS dX12_canBeDay_82
set_option maxHeartbeats 4000000 in
set_option maxRecDepth 100000 in
theorem kX12_canBeDay (l : Launch) (D : va_G) (cs : Nat → ClassId) (a : Nat → Nat) (σ : Nat → Nat → Int32) (F : Nat) (x1 : Int32) (x2 : Int32) (r : Int32) (u9 : Nat → Nat → Int32) (h : fX12_canBeDay F σ x1 x2 = some (r, u9)) (sz : Nat) : Met l yX12_canBeDay wsX12_canBeDay rmX12_canBeDay (va_Pc [.ref (a 0), .int x1, .int x2] (pQ D cs (mW a cs σ) sz)) (va_Qi (fun x y => (x = r ∧ (r = 0 ∨ r = 1)) ∧ y = u9) (qB D (mW a cs) (va_A (mW a cs σ) sz)) (va_A (mW a cs σ) sz)) 0 0 (va_A (mW a cs σ) sz) := by
  refine Met.ofW (cc := cX12_canBeDay) (maxL := 8) (ret := (some .boolean)) (by decide) rfl ?_
  intro p e s m args below meth c s₁ B hml hv
  obtain ⟨rfl, hsz, hP, hK, hD0⟩ := hv
  have C : cxt p s m _ meth c cX12_canBeDay 8 RX12 wsX12_canBeDay (some .boolean) := ⟨B.exec, B.bytes, hml, findClass_of_methodNamed B.named, atoms_spec (ws := wsX12_canBeDay) B.pre, B.returns, B.notSynchronized⟩
  obtain ⟨hx, hb, -, hown, hts, hr, hlk⟩ := id C
  subst hsz
  have hD := hD0.self (sz := s.heap.size)
  generalize hAe : va_A (mW a cs σ) s.heap.size = A at hD ⊢
  have hA : ∀ q : Nat, s.heap.size ≤ q → A q := fun q h => by rw [← hAe]; exact Or.inr h
  have hS : va_S A s.heap s.heap [] := va_S.rf
  refine entryW [.ref (a 0), .int x1, .int x2] (n := 8) (Nat.le_of_ble_eq_true rfl) (fun ls hl => ?_)
  have hl : lv_has ls 8 [(0, .ref (a 0)), (1, .int x1), (2, .int x2)] := hl
  unfold fX12_canBeDay at h
  refine lv_iconst (v := (0 : Int32)) hx hb dX12_canBeDay_0 (by decide) ?_
  refine lv_istore_n (lv' := [(3, .int (0 : Int32)), (0, .ref (a 0)), (1, .int x1), (2, .int x2)]) hx hb dX12_canBeDay_1 rfl hl (by decide) rfl (fun ls hl => ?_)
  refine lv_iconst (v := (0 : Int32)) hx hb dX12_canBeDay_2 (by decide) ?_
  refine lv_istore (lv' := [(4, .int (0 : Int32)), (3, .int (0 : Int32)), (0, .ref (a 0)), (1, .int x1), (2, .int x2)]) hx hb dX12_canBeDay_3 hl (by decide) rfl (fun ls hl => ?_)
  refine wX12_canBeDay_L5 C hK hA r u9 F x1 x2 _ ?_ F (0 : Int32) (0 : Int32) σ _ _ ls hP hD hS (lv_sub hl [2, 3, 4, 1, 0] rfl) h
  intro y1 σ2 H locs ls hP hD hS hl h
  refine lv_iload_n hx hb dX12_canBeDay_44 rfl (lv_at hl 1 rfl) ?_
  refine lv_istore (lv' := [(4, .int x1), (0, .ref (a 0)), (1, .int x1), (2, .int x2), (3, .int y1)]) hx hb dX12_canBeDay_45 hl (by decide) rfl (fun ls hl => ?_)
  refine lv_iconst (v := (0 : Int32)) hx hb dX12_canBeDay_47 (by decide) ?_
  refine lv_istore (lv' := [(5, .int (0 : Int32)), (4, .int x1), (0, .ref (a 0)), (1, .int x1), (2, .int x2), (3, .int y1)]) hx hb dX12_canBeDay_48 hl (by decide) rfl (fun ls hl => ?_)
  refine lv_iload_n hx hb dX12_canBeDay_50 rfl (lv_at hl 4 rfl) ?_
  refine lv_istore (lv' := [(6, .int x2), (5, .int (0 : Int32)), (4, .int x1), (0, .ref (a 0)), (1, .int x1), (2, .int x2), (3, .int y1)]) hx hb dX12_canBeDay_51 hl (by decide) rfl (fun ls hl => ?_)
  refine wX12_canBeDay_L53 C hK hA r u9 F y1 _ ?_ F x1 (0 : Int32) x2 σ2 _ _ ls hP hD hS (lv_sub hl [3, 6, 2, 1, 0] rfl) h
  intro σ3 H locs ls hP hD hS hl h
  refine lv_iload_n hx hb dX12_canBeDay_118 rfl (lv_at hl 1 rfl) ?_
  refine lv_aload_n hx hb dX12_canBeDay_119 rfl (lv_at hl 0 rfl) ?_
  refine va_get (D := D) (ci := 11) (v := .int (σ3 12 0)) (C := RX12) (T := TX12) (N := 27) hx hb hts inX12_X12_canBeDay hown hK.1 hP 0 rfl rfl 12 (by decide) (hts (.fieldLink RX12 44 "SandPalaceModel" "sand" "I") (by decide +kernel)) (fun _ h9 => h9) rfl dX12_canBeDay_120 ?_
  refine lv_icmp_gt (tgt := 130) hx hb dX12_canBeDay_123 (by decide) (fun c4 => ?_) (fun c4 => ?_)
  · have h := it_t c4 h
    refine lv_iconst (v := (0 : Int32)) hx hb dX12_canBeDay_130 (by decide) ?_
    exact mretQZ hx hb hr hlk h (Or.inl rfl) hP hD hS dX12_canBeDay_131
  · have h := it_f c4 h
    refine lv_iconst (v := (1 : Int32)) hx hb dX12_canBeDay_126 (by decide) ?_
    refine lv_goto (tgt := 131) hx hb dX12_canBeDay_127 (by decide) ?_
    exact mretQZ hx hb hr hlk h (Or.inr rfl) hP hD hS dX12_canBeDay_131
def fX12_findPlan_L15 (F : Nat) (kx : (Nat → Nat → Int32) → Option ((Nat → Nat → Int32))) : Nat → Int32 → (Nat → Nat → Int32) → Option ((Nat → Nat → Int32))
  | 0, _, _ => none
  | n+1, x1, σ =>
    nb ((fun x1 σ => fX12_findPlan_L15 F kx n x1 σ)) fun kb =>
    if (σ 0 0) ≤ x1 then (kx σ) else (bd (fX12_aheadOf F σ x1) fun v4 => aS 10 x1 (nm (sg σ 14 (upd (σ 14) x1.toNatClampNeg v4)) fun σ6 => kb (x1 + (1 : Int32)) σ6))
def fX12_findPlan_J125 (F : Nat) (kb : Int32 → Int32 → (Nat → Nat → Int32) → Option ((Nat → Nat → Int32))) (x1 : Int32) (x2 : Int32) (x3 : Int32) (x4 : Int32) (x5 : Int32) (σ : Nat → Nat → Int32) : Option ((Nat → Nat → Int32)) :=
  nm ((x5 - (1 : Int32)) &&& x4) fun z12 => kb x3 z12 σ
def fX12_findPlan_J110 (F : Nat) (kb : Int32 → Int32 → (Nat → Nat → Int32) → Option ((Nat → Nat → Int32))) (x1 : Int32) (x2 : Int32) (x3 : Int32) (x4 : Int32) (x5 : Int32) (x6 : Int32) (σ : Nat → Nat → Int32) : Option ((Nat → Nat → Int32)) :=
  bd (fX12_canBeDay F σ x5 x2) fun (v13, σ14) => if v13 = 0 then (fX12_findPlan_J125 F kb x1 x2 x3 x4 x5 σ14) else (fX12_findPlan_J125 F kb x1 x2 (x6 + (1 : Int32)) x4 x5 σ14)
def fX12_findPlan_L77 (F : Nat) (x1 : Int32) (x2 : Int32) (x4 : Int32) (kx : Int32 → (Nat → Nat → Int32) → Option ((Nat → Nat → Int32))) : Nat → Int32 → Int32 → (Nat → Nat → Int32) → Option ((Nat → Nat → Int32))
  | 0, _, _, _ => none
  | n+1, x3, x5, σ =>
    nb ((fun x3 x5 σ => fX12_findPlan_L77 F x1 x2 x4 kx n x3 x5 σ)) fun kb =>
    if x5 ≤ 0 then (kx x3 σ) else (aI (σ 15) 1024 (x2 ||| x5) fun v10 => if v10 < 0 then (fX12_findPlan_J125 F kb x1 x2 x3 x4 x5 σ) else (if x3 < 0 then (fX12_findPlan_J110 F kb x1 x2 x3 x4 x5 v10 σ) else (if x3 ≤ (v10 + (1 : Int32)) then (fX12_findPlan_J125 F kb x1 x2 x3 x4 x5 σ) else (fX12_findPlan_J110 F kb x1 x2 x3 x4 x5 v10 σ))))
def fX12_findPlan_L60 (F : Nat) (x1 : Int32) (kx : (Nat → Nat → Int32) → Option ((Nat → Nat → Int32))) : Nat → Int32 → (Nat → Nat → Int32) → Option ((Nat → Nat → Int32))
  | 0, _, _ => none
  | n+1, x2, σ =>
    nb ((fun x2 σ => fX12_findPlan_L60 F x1 kx n x2 σ)) fun kb =>
    if x2 < 0 then (kx σ) else (nm (x1 &&& (x2 ^^^ ((-1) : Int32))) fun z8 => fX12_findPlan_L77 F x1 x2 z8 (fun y9 σ10 => aS 1024 x2 (nm (sg σ10 15 (upd (σ10 15) x2.toNatClampNeg y9)) fun σ12 => kb (x2 + ((-1) : Int32)) σ12)) F ((-1) : Int32) z8 σ)
def fX12_findPlan_J213 (F : Nat) (kb : Int32 → (Nat → Nat → Int32) → Option ((Nat → Nat → Int32))) (x1 : Int32) (x2 : Int32) (x3 : Int32) (x4 : Int32) (x5 : Int32) (σ : Nat → Nat → Int32) : Option ((Nat → Nat → Int32)) :=
  nm ((x5 - (1 : Int32)) &&& x4) fun z15 => kb z15 σ
def fX12_findPlan_L183 (F : Nat) (x1 : Int32) (x2 : Int32) (x3 : Int32) (x4 : Int32) (kx : Int32 → (Nat → Nat → Int32) → Option ((Nat → Nat → Int32))) : Nat → Int32 → (Nat → Nat → Int32) → Option ((Nat → Nat → Int32))
  | 0, _, _ => none
  | n+1, x5, σ =>
    nb ((fun x5 σ => fX12_findPlan_L183 F x1 x2 x3 x4 kx n x5 σ)) fun kb =>
    aI (σ 15) 1024 (x2 ||| x5) fun v12 => aI (σ 15) 1024 x2 fun v13 => if ¬ v12 = (v13 - (1 : Int32)) then (fX12_findPlan_J213 F kb x1 x2 x3 x4 x5 σ) else (bd (fX12_canBeDay F σ x5 x2) fun (v15, σ16) => if ¬ v15 = 0 then (kx x5 σ16) else (fX12_findPlan_J213 F kb x1 x2 x3 x4 x5 σ16))
def fX12_findPlan_L164 (F : Nat) (x1 : Int32) (kx : (Nat → Nat → Int32) → Option ((Nat → Nat → Int32))) : Nat → Int32 → Int32 → (Nat → Nat → Int32) → Option ((Nat → Nat → Int32))
  | 0, _, _, _ => none
  | n+1, x2, x3, σ =>
    nb ((fun x2 x3 σ => fX12_findPlan_L164 F x1 kx n x2 x3 σ)) fun kb =>
    if (σ 16 0) ≤ x3 then (kx σ) else (nm (x1 &&& (x2 ^^^ ((-1) : Int32))) fun z11 => fX12_findPlan_L183 F x1 x2 x3 z11 (fun y12 σ13 => aS 10 x3 (nm (sg σ13 17 (upd (σ13 17) x3.toNatClampNeg y12)) fun σ15 => kb (x2 ||| y12) (x3 + (1 : Int32)) σ15)) F z11 σ)
def fX12_findPlan (F : Nat) (σ : Nat → Nat → Int32)  : Option ((Nat → Nat → Int32)) :=
  if (σ 13 0) = 0 then (nm (sg σ 13 (fun _ => (1 : Int32))) fun σ2 => fX12_findPlan_L15 F (fun σ3 => nm (((1 : Int32) <<< ((σ3 0 0) &&& 31)) - (1 : Int32)) fun z4 => aS 1024 z4 (nm (sg σ3 15 (upd (σ3 15) z4.toNatClampNeg (0 : Int32))) fun σ6 => fX12_findPlan_L60 F z4 (fun σ7 => aI (σ7 15) 1024 (0 : Int32) fun v8 => nm (sg σ7 16 (fun _ => v8)) fun σ9 => fX12_findPlan_L164 F z4 (fun σ10 => some σ10) F (0 : Int32) (0 : Int32) σ9) F (z4 - (1 : Int32)) σ6)) F (0 : Int32) σ2) else (some σ)
abbrev rmX12_findPlan : Room := { frames := 2, cells := 0, slots := 0, locals := 51 }
theorem inX12_X12_findPlan : ∀ w ∈ wsX120, w ∈ wsX12_findPlan := by intro w h; simp only [wsX12_findPlan, List.mem_cons, List.mem_append]; simp only [h, true_or, or_true]
set_option maxHeartbeats 4000000 in
set_option maxRecDepth 100000 in
theorem wX12_findPlan_L15 {p : Program} {l : Launch} {e : Env} {s : State} {m : MethodId} {args : Array Value} {below : List Frame} {meth : Method} {c : Code} (C : cxt p s m args meth c cX12_findPlan 7 RX12 wsX12_findPlan none) {D : va_G} {cs : Nat → ClassId} {a : Nat → Nat} (hK : KK D cs s) {A : Nat → Prop} (hA : ∀ q, s.heap.size ≤ q → A q) (u9 : Nat → Nat → Int32) (F : Nat) (kx : (Nat → Nat → Int32) → Option ((Nat → Nat → Int32))) (hkx : ∀ (σ : Nat → Nat → Int32) (H : Heap) (locs : List Loc) (ls : Array Slot), va_P D vwCl (mW a cs σ) H → va_D A (mW a cs σ) → va_S A s.heap H locs → lv_has ls 7 [(0, .ref (a 0))] → kx σ = some u9 → W p l e rmX12_findPlan s m args below meth c H locs 0 0 (MQ below (va_Qv (fun y => y = u9) (qB D (mW a cs) A) A) args s 0 0 A) (F0 m 40 ls [])) : ∀ (n : Nat) (x1 : Int32) (σ : Nat → Nat → Int32) (H : Heap) (locs : List Loc) (ls : Array Slot), va_P D vwCl (mW a cs σ) H → va_D A (mW a cs σ) → va_S A s.heap H locs → lv_has ls 7 [(0, .ref (a 0)), (1, .int x1)] → fX12_findPlan_L15 F kx n x1 σ = some u9 → W p l e rmX12_findPlan s m args below meth c H locs 0 0 (MQ below (va_Qv (fun y => y = u9) (qB D (mW a cs) A) A) args s 0 0 A) (F0 m 15 ls []) := by
  obtain ⟨hx, hb, hml, hown, hts, hr, hlk⟩ := id C
  intro n
  induction n with
  | zero =>
    intros
    rename_i h
    cases h
  | succ n ih =>
    intro x1 σ H locs ls hP hD hS hl h
    rw [fX12_findPlan_L15] at h
    obtain ⟨kb, hkb, h⟩ := nb_some (P := fun (kb : Int32 → (Nat → Nat → Int32) → Option ((Nat → Nat → Int32))) => ∀ (x1 : Int32) (σ : Nat → Nat → Int32) (H : Heap) (locs : List Loc) (ls : Array Slot), va_P D vwCl (mW a cs σ) H → va_D A (mW a cs σ) → va_S A s.heap H locs → lv_has ls 7 [(0, .ref (a 0)), (1, .int x1)] → kb x1 σ = some u9 → W p l e rmX12_findPlan s m args below meth c H locs 0 0 (MQ below (va_Qv (fun y => y = u9) (qB D (mW a cs) A) A) args s 0 0 A) (F0 m 15 ls [])) h ih
    refine lv_iload_n hx hb dX12_findPlan_15 rfl (lv_at hl 1 rfl) ?_
    refine lv_aload_n hx hb dX12_findPlan_16 rfl (lv_at hl 0 rfl) ?_
    refine va_get (D := D) (ci := 11) (v := .int (σ 0 0)) (C := RX12) (T := TX12) (N := 27) hx hb hts inX12_X12_findPlan hown hK.1 hP 0 rfl rfl 0 (by decide) (hts (.fieldLink RX12 103 "SandPalaceModel" "shapes" "I") (by decide +kernel)) (fun _ h9 => h9) rfl dX12_findPlan_17 ?_
    refine lv_icmp_ge (tgt := 40) hx hb dX12_findPlan_20 (by decide) (fun c3 => ?_) (fun c3 => ?_)
    · have h := it_t c3 h
      exact hkx σ _ _ ls hP hD hS (lv_sub hl [0] rfl) h
    · have h := it_f c3 h
      refine lv_aload_n hx hb dX12_findPlan_23 rfl (lv_at hl 0 rfl) ?_
      refine va_get (D := D) (ci := 11) (v := .ref (a 14)) (C := RX12) (T := TX12) (N := 27) hx hb hts inX12_X12_findPlan hown hK.1 hP 0 rfl rfl 14 (by decide) (hts (.fieldLink RX12 48 "SandPalaceModel" "ahead" "[I") (by decide +kernel)) (fun _ h9 => h9) rfl dX12_findPlan_24 ?_
      refine lv_iload_n hx hb dX12_findPlan_27 rfl (lv_at hl 1 rfl) ?_
      refine lv_aload_n hx hb dX12_findPlan_28 rfl (lv_at hl 0 rfl) ?_
      refine lv_iload_n hx hb dX12_findPlan_29 rfl (lv_at hl 1 rfl) ?_
      obtain ⟨v4, hc_v4, h⟩ := bd_some h
      refine mcallS (va_runV (As := [.int x1]) (rest := [.int x1, .ref (a 14)]) ⟨hx, hb, hml, hown, hts⟩ (kX12_aheadOf l D cs a σ F x1 v4 hc_v4) (cwV 1 hts gX12_findPlan_X12_aheadOf rfl rfl rfl (by decide +kernel) ⟨Nat.le_of_ble_eq_true rfl, Nat.le_of_ble_eq_true rfl⟩) (pR_v hP hK (va_recv hK.1 hP (ci := 11) (q0 := 0) rfl rfl)) rfl rfl hl.1 rfl (lv_room (Nat.le_of_ble_eq_true rfl)) dX12_findPlan_30 ⟨Nat.zero_le _, Nat.zero_le _⟩) ?_
      obtain ⟨i5, h⟩ := aS_some h
      refine va_iast hx hb hK.1 hP hD hS 12 0 rfl rfl i5 dX12_findPlan_33 (fun H locs hP hD hS => ?_)
      obtain ⟨σ6, e_σ6, h⟩ := nm_some h
      have hP : va_P D vwCl (mW a cs σ6) H := by rw [← e_σ6]; exact hP
      have hD : va_D A (mW a cs σ6) := by rw [← e_σ6]; exact hD
      refine lv_iinc (v := x1 + (1 : Int32)) (lv' := [(1, .int (x1 + (1 : Int32))), (0, .ref (a 0))]) hx hb dX12_findPlan_34 hl (k := 1) rfl rfl (by decide) rfl (fun ls hl => ?_)
      refine lv_goto (tgt := 15) hx hb dX12_findPlan_37 (by decide) ?_
      exact hkb (x1 + (1 : Int32)) σ6 _ _ ls hP hD hS (lv_sub hl [1, 0] rfl) h
set_option maxHeartbeats 4000000 in
set_option maxRecDepth 100000 in
theorem wX12_findPlan_J125 {p : Program} {l : Launch} {e : Env} {s : State} {m : MethodId} {args : Array Value} {below : List Frame} {meth : Method} {c : Code} (C : cxt p s m args meth c cX12_findPlan 7 RX12 wsX12_findPlan none) {D : va_G} {cs : Nat → ClassId} {a : Nat → Nat} (hK : KK D cs s) {A : Nat → Prop} (hA : ∀ q, s.heap.size ≤ q → A q) (u9 : Nat → Nat → Int32) (F : Nat) (kb : Int32 → Int32 → (Nat → Nat → Int32) → Option ((Nat → Nat → Int32))) (x1 : Int32) (x2 : Int32) (x3 : Int32) (x4 : Int32) (x5 : Int32) (hkb : ∀ (x3 : Int32) (x5 : Int32) (σ : Nat → Nat → Int32) (H : Heap) (locs : List Loc) (ls : Array Slot), va_P D vwCl (mW a cs σ) H → va_D A (mW a cs σ) → va_S A s.heap H locs → lv_has ls 7 [(0, .ref (a 0)), (1, .int x1), (2, .int x2), (3, .int x3), (4, .int x4), (5, .int x5)] → kb x3 x5 σ = some u9 → W p l e rmX12_findPlan s m args below meth c H locs 0 0 (MQ below (va_Qv (fun y => y = u9) (qB D (mW a cs) A) A) args s 0 0 A) (F0 m 77 ls [])) (σ : Nat → Nat → Int32) (H : Heap) (locs : List Loc) (ls : Array Slot) (hP : va_P D vwCl (mW a cs σ) H) (hD : va_D A (mW a cs σ)) (hS : va_S A s.heap H locs) (hl : lv_has ls 7 [(0, .ref (a 0)), (1, .int x1), (2, .int x2), (3, .int x3), (4, .int x4), (5, .int x5)]) (h : fX12_findPlan_J125 F kb x1 x2 x3 x4 x5 σ = some u9) : W p l e rmX12_findPlan s m args below meth c H locs 0 0 (MQ below (va_Qv (fun y => y = u9) (qB D (mW a cs) A) A) args s 0 0 A) (F0 m 125 ls []) := by
  obtain ⟨hx, hb, hml, hown, hts, hr, hlk⟩ := id C
  unfold fX12_findPlan_J125 at h
  refine lv_iload hx hb dX12_findPlan_125 (lv_at hl 5 rfl) ?_
  refine lv_iconst (v := (1 : Int32)) hx hb dX12_findPlan_127 (by decide) ?_
  refine lv_isub hx hb dX12_findPlan_128 ?_
  refine lv_iload hx hb dX12_findPlan_129 (lv_at hl 4 rfl) ?_
  refine lv_iand hx hb dX12_findPlan_131 ?_
  obtain ⟨z12, e_z12, h⟩ := nm_some h
  refine tpi e_z12 ?_
  refine lv_istore (lv' := [(5, .int z12), (0, .ref (a 0)), (1, .int x1), (2, .int x2), (3, .int x3), (4, .int x4)]) hx hb dX12_findPlan_132 hl (by decide) rfl (fun ls hl => ?_)
  refine lv_goto (tgt := 77) hx hb dX12_findPlan_134 (by decide) ?_
  exact hkb x3 z12 σ _ _ ls hP hD hS (lv_sub hl [1, 2, 3, 4, 5, 0] rfl) h
set_option maxHeartbeats 4000000 in
set_option maxRecDepth 100000 in
theorem wX12_findPlan_J110 {p : Program} {l : Launch} {e : Env} {s : State} {m : MethodId} {args : Array Value} {below : List Frame} {meth : Method} {c : Code} (C : cxt p s m args meth c cX12_findPlan 7 RX12 wsX12_findPlan none) {D : va_G} {cs : Nat → ClassId} {a : Nat → Nat} (hK : KK D cs s) {A : Nat → Prop} (hA : ∀ q, s.heap.size ≤ q → A q) (u9 : Nat → Nat → Int32) (F : Nat) (kb : Int32 → Int32 → (Nat → Nat → Int32) → Option ((Nat → Nat → Int32))) (x1 : Int32) (x2 : Int32) (x3 : Int32) (x4 : Int32) (x5 : Int32) (x6 : Int32) (hkb : ∀ (x3 : Int32) (x5 : Int32) (σ : Nat → Nat → Int32) (H : Heap) (locs : List Loc) (ls : Array Slot), va_P D vwCl (mW a cs σ) H → va_D A (mW a cs σ) → va_S A s.heap H locs → lv_has ls 7 [(0, .ref (a 0)), (1, .int x1), (2, .int x2), (3, .int x3), (4, .int x4), (5, .int x5)] → kb x3 x5 σ = some u9 → W p l e rmX12_findPlan s m args below meth c H locs 0 0 (MQ below (va_Qv (fun y => y = u9) (qB D (mW a cs) A) A) args s 0 0 A) (F0 m 77 ls [])) (σ : Nat → Nat → Int32) (H : Heap) (locs : List Loc) (ls : Array Slot) (hP : va_P D vwCl (mW a cs σ) H) (hD : va_D A (mW a cs σ)) (hS : va_S A s.heap H locs) (hl : lv_has ls 7 [(0, .ref (a 0)), (1, .int x1), (2, .int x2), (3, .int x3), (4, .int x4), (5, .int x5), (6, .int x6)]) (h : fX12_findPlan_J110 F kb x1 x2 x3 x4 x5 x6 σ = some u9) : W p l e rmX12_findPlan s m args below meth c H locs 0 0 (MQ below (va_Qv (fun y => y = u9) (qB D (mW a cs) A) A) args s 0 0 A) (F0 m 110 ls []) := by
  obtain ⟨hx, hb, hml, hown, hts, hr, hlk⟩ := id C
  unfold fX12_findPlan_J110 at h
  refine lv_aload_n hx hb dX12_findPlan_110 rfl (lv_at hl 0 rfl) ?_
  refine lv_iload hx hb dX12_findPlan_111 (lv_at hl 5 rfl) ?_
  refine lv_iload_n hx hb dX12_findPlan_113 rfl (lv_at hl 2 rfl) ?_
  obtain ⟨⟨v13, σ14⟩, hc_v13, h⟩ := bd_some h
  refine mcallQZ (wf := (mW a cs)) (va_runV (As := [.int x5, .int x2]) (rest := []) ⟨hx, hb, hml, hown, hts⟩ (kX12_canBeDay l D cs a σ F x5 x2 v13 σ14 hc_v13 _) (cwV 2 hts gX12_findPlan_X12_canBeDay rfl rfl rfl (by decide +kernel) ⟨Nat.le_of_ble_eq_true rfl, Nat.le_of_ble_eq_true rfl⟩) (pQ_v hP hK hD (va_recv hK.1 hP (ci := 11) (q0 := 0) rfl rfl)) rfl rfl hl.1 rfl (lv_room (Nat.le_of_ble_eq_true rfl)) dX12_findPlan_114 ⟨Nat.zero_le _, Nat.zero_le _⟩) hD hS hA (fun z_v13 H locs hP hD hS => ?_)
  refine lv_if_eq (tgt := 125) hx hb dX12_findPlan_117 (by decide) (fun c15 => ?_) (fun c15 => ?_)
  · have h := it_t c15 h
    exact wX12_findPlan_J125 C hK hA  u9 F kb x1 x2 x3 x4 x5 hkb σ14 _ _ ls hP hD hS (lv_sub hl [0, 1, 2, 3, 4, 5] rfl) h
  · have h := it_f c15 h
    refine lv_iload hx hb dX12_findPlan_120 (lv_at hl 6 rfl) ?_
    refine lv_iconst (v := (1 : Int32)) hx hb dX12_findPlan_122 (by decide) ?_
    refine lv_iadd hx hb dX12_findPlan_123 ?_
    refine lv_istore_n (lv' := [(3, .int (x6 + (1 : Int32))), (0, .ref (a 0)), (1, .int x1), (2, .int x2), (4, .int x4), (5, .int x5), (6, .int x6)]) hx hb dX12_findPlan_124 rfl hl (by decide) rfl (fun ls hl => ?_)
    exact wX12_findPlan_J125 C hK hA  u9 F kb x1 x2 (x6 + (1 : Int32)) x4 x5 hkb σ14 _ _ ls hP hD hS (lv_sub hl [1, 2, 3, 0, 4, 5] rfl) h
set_option maxHeartbeats 4000000 in
set_option maxRecDepth 100000 in
theorem wX12_findPlan_L77 {p : Program} {l : Launch} {e : Env} {s : State} {m : MethodId} {args : Array Value} {below : List Frame} {meth : Method} {c : Code} (C : cxt p s m args meth c cX12_findPlan 7 RX12 wsX12_findPlan none) {D : va_G} {cs : Nat → ClassId} {a : Nat → Nat} (hK : KK D cs s) {A : Nat → Prop} (hA : ∀ q, s.heap.size ≤ q → A q) (u9 : Nat → Nat → Int32) (F : Nat) (x1 : Int32) (x2 : Int32) (x4 : Int32) (kx : Int32 → (Nat → Nat → Int32) → Option ((Nat → Nat → Int32))) (hkx : ∀ (x3 : Int32) (σ : Nat → Nat → Int32) (H : Heap) (locs : List Loc) (ls : Array Slot), va_P D vwCl (mW a cs σ) H → va_D A (mW a cs σ) → va_S A s.heap H locs → lv_has ls 7 [(0, .ref (a 0)), (1, .int x1), (2, .int x2), (3, .int x3)] → kx x3 σ = some u9 → W p l e rmX12_findPlan s m args below meth c H locs 0 0 (MQ below (va_Qv (fun y => y = u9) (qB D (mW a cs) A) A) args s 0 0 A) (F0 m 137 ls [])) : ∀ (n : Nat) (x3 : Int32) (x5 : Int32) (σ : Nat → Nat → Int32) (H : Heap) (locs : List Loc) (ls : Array Slot), va_P D vwCl (mW a cs σ) H → va_D A (mW a cs σ) → va_S A s.heap H locs → lv_has ls 7 [(0, .ref (a 0)), (1, .int x1), (2, .int x2), (3, .int x3), (4, .int x4), (5, .int x5)] → fX12_findPlan_L77 F x1 x2 x4 kx n x3 x5 σ = some u9 → W p l e rmX12_findPlan s m args below meth c H locs 0 0 (MQ below (va_Qv (fun y => y = u9) (qB D (mW a cs) A) A) args s 0 0 A) (F0 m 77 ls []) := by
  obtain ⟨hx, hb, hml, hown, hts, hr, hlk⟩ := id C
  intro n
  induction n with
  | zero =>
    intros
    rename_i h
    cases h
  | succ n ih =>
    intro x3 x5 σ H locs ls hP hD hS hl h
    rw [fX12_findPlan_L77] at h
    obtain ⟨kb, hkb, h⟩ := nb_some (P := fun (kb : Int32 → Int32 → (Nat → Nat → Int32) → Option ((Nat → Nat → Int32))) => ∀ (x3 : Int32) (x5 : Int32) (σ : Nat → Nat → Int32) (H : Heap) (locs : List Loc) (ls : Array Slot), va_P D vwCl (mW a cs σ) H → va_D A (mW a cs σ) → va_S A s.heap H locs → lv_has ls 7 [(0, .ref (a 0)), (1, .int x1), (2, .int x2), (3, .int x3), (4, .int x4), (5, .int x5)] → kb x3 x5 σ = some u9 → W p l e rmX12_findPlan s m args below meth c H locs 0 0 (MQ below (va_Qv (fun y => y = u9) (qB D (mW a cs) A) A) args s 0 0 A) (F0 m 77 ls [])) h ih
    refine lv_iload hx hb dX12_findPlan_77 (lv_at hl 5 rfl) ?_
    refine lv_if_le (tgt := 137) hx hb dX12_findPlan_79 (by decide) (fun c9 => ?_) (fun c9 => ?_)
    · have h := it_t c9 h
      exact hkx x3 σ _ _ ls hP hD hS (lv_sub hl [0, 1, 2, 3] rfl) h
    · have h := it_f c9 h
      refine lv_aload_n hx hb dX12_findPlan_82 rfl (lv_at hl 0 rfl) ?_
      refine va_get (D := D) (ci := 11) (v := .ref (a 15)) (C := RX12) (T := TX12) (N := 27) hx hb hts inX12_X12_findPlan hown hK.1 hP 0 rfl rfl 15 (by decide) (hts (.fieldLink RX12 51 "SandPalaceModel" "fewest" "[I") (by decide +kernel)) (fun _ h9 => h9) rfl dX12_findPlan_83 ?_
      refine lv_iload_n hx hb dX12_findPlan_86 rfl (lv_at hl 2 rfl) ?_
      refine lv_iload hx hb dX12_findPlan_87 (lv_at hl 5 rfl) ?_
      refine lv_ior hx hb dX12_findPlan_89 ?_
      obtain ⟨v10, i_v10, e_v10, h⟩ := aI_some h
      refine miald hx hb hK.1 hP 13 0 rfl rfl i_v10 e_v10 dX12_findPlan_90 ?_
      refine lv_istore (lv' := [(6, .int v10), (0, .ref (a 0)), (1, .int x1), (2, .int x2), (3, .int x3), (4, .int x4), (5, .int x5)]) hx hb dX12_findPlan_91 hl (by decide) rfl (fun ls hl => ?_)
      refine lv_iload hx hb dX12_findPlan_93 (lv_at hl 0 rfl) ?_
      refine lv_if_lt (tgt := 125) hx hb dX12_findPlan_95 (by decide) (fun c11 => ?_) (fun c11 => ?_)
      · have h := it_t c11 h
        exact wX12_findPlan_J125 C hK hA  u9 F kb x1 x2 x3 x4 x5 hkb σ _ _ ls hP hD hS (lv_sub hl [1, 2, 3, 4, 5, 6] rfl) h
      · have h := it_f c11 h
        refine lv_iload_n hx hb dX12_findPlan_98 rfl (lv_at hl 4 rfl) ?_
        refine lv_if_lt (tgt := 110) hx hb dX12_findPlan_99 (by decide) (fun c12 => ?_) (fun c12 => ?_)
        · have h := it_t c12 h
          exact wX12_findPlan_J110 C hK hA  u9 F kb x1 x2 x3 x4 x5 v10 hkb σ _ _ ls hP hD hS (lv_sub hl [1, 2, 3, 4, 5, 6, 0] rfl) h
        · have h := it_f c12 h
          refine lv_iload hx hb dX12_findPlan_102 (lv_at hl 0 rfl) ?_
          refine lv_iconst (v := (1 : Int32)) hx hb dX12_findPlan_104 (by decide) ?_
          refine lv_iadd hx hb dX12_findPlan_105 ?_
          refine lv_iload_n hx hb dX12_findPlan_106 rfl (lv_at hl 4 rfl) ?_
          refine lv_icmp_ge (tgt := 125) hx hb dX12_findPlan_107 (by decide) (fun c13 => ?_) (fun c13 => ?_)
          · have h := it_t c13 h
            exact wX12_findPlan_J125 C hK hA  u9 F kb x1 x2 x3 x4 x5 hkb σ _ _ ls hP hD hS (lv_sub hl [1, 2, 3, 4, 5, 6] rfl) h
          · have h := it_f c13 h
            exact wX12_findPlan_J110 C hK hA  u9 F kb x1 x2 x3 x4 x5 v10 hkb σ _ _ ls hP hD hS (lv_sub hl [1, 2, 3, 4, 5, 6, 0] rfl) h
set_option maxHeartbeats 4000000 in
set_option maxRecDepth 100000 in
theorem wX12_findPlan_L60 {p : Program} {l : Launch} {e : Env} {s : State} {m : MethodId} {args : Array Value} {below : List Frame} {meth : Method} {c : Code} (C : cxt p s m args meth c cX12_findPlan 7 RX12 wsX12_findPlan none) {D : va_G} {cs : Nat → ClassId} {a : Nat → Nat} (hK : KK D cs s) {A : Nat → Prop} (hA : ∀ q, s.heap.size ≤ q → A q) (u9 : Nat → Nat → Int32) (F : Nat) (x1 : Int32) (kx : (Nat → Nat → Int32) → Option ((Nat → Nat → Int32))) (hkx : ∀ (σ : Nat → Nat → Int32) (H : Heap) (locs : List Loc) (ls : Array Slot), va_P D vwCl (mW a cs σ) H → va_D A (mW a cs σ) → va_S A s.heap H locs → lv_has ls 7 [(0, .ref (a 0)), (1, .int x1)] → kx σ = some u9 → W p l e rmX12_findPlan s m args below meth c H locs 0 0 (MQ below (va_Qv (fun y => y = u9) (qB D (mW a cs) A) A) args s 0 0 A) (F0 m 150 ls [])) : ∀ (n : Nat) (x2 : Int32) (σ : Nat → Nat → Int32) (H : Heap) (locs : List Loc) (ls : Array Slot), va_P D vwCl (mW a cs σ) H → va_D A (mW a cs σ) → va_S A s.heap H locs → lv_has ls 7 [(0, .ref (a 0)), (1, .int x1), (2, .int x2)] → fX12_findPlan_L60 F x1 kx n x2 σ = some u9 → W p l e rmX12_findPlan s m args below meth c H locs 0 0 (MQ below (va_Qv (fun y => y = u9) (qB D (mW a cs) A) A) args s 0 0 A) (F0 m 60 ls []) := by
  obtain ⟨hx, hb, hml, hown, hts, hr, hlk⟩ := id C
  intro n
  induction n with
  | zero =>
    intros
    rename_i h
    cases h
  | succ n ih =>
    intro x2 σ H locs ls hP hD hS hl h
    rw [fX12_findPlan_L60] at h
    obtain ⟨kb, hkb, h⟩ := nb_some (P := fun (kb : Int32 → (Nat → Nat → Int32) → Option ((Nat → Nat → Int32))) => ∀ (x2 : Int32) (σ : Nat → Nat → Int32) (H : Heap) (locs : List Loc) (ls : Array Slot), va_P D vwCl (mW a cs σ) H → va_D A (mW a cs σ) → va_S A s.heap H locs → lv_has ls 7 [(0, .ref (a 0)), (1, .int x1), (2, .int x2)] → kb x2 σ = some u9 → W p l e rmX12_findPlan s m args below meth c H locs 0 0 (MQ below (va_Qv (fun y => y = u9) (qB D (mW a cs) A) A) args s 0 0 A) (F0 m 60 ls [])) h ih
    refine lv_iload_n hx hb dX12_findPlan_60 rfl (lv_at hl 2 rfl) ?_
    refine lv_if_lt (tgt := 150) hx hb dX12_findPlan_61 (by decide) (fun c7 => ?_) (fun c7 => ?_)
    · have h := it_t c7 h
      exact hkx σ _ _ ls hP hD hS (lv_sub hl [0, 1] rfl) h
    · have h := it_f c7 h
      refine lv_iconst (v := ((-1) : Int32)) hx hb dX12_findPlan_64 (by decide) ?_
      refine lv_istore_n (lv' := [(3, .int ((-1) : Int32)), (0, .ref (a 0)), (1, .int x1), (2, .int x2)]) hx hb dX12_findPlan_65 rfl hl (by decide) rfl (fun ls hl => ?_)
      refine lv_iload_n hx hb dX12_findPlan_66 rfl (lv_at hl 2 rfl) ?_
      refine lv_iload_n hx hb dX12_findPlan_67 rfl (lv_at hl 3 rfl) ?_
      refine lv_iconst (v := ((-1) : Int32)) hx hb dX12_findPlan_68 (by decide) ?_
      refine lv_ixor hx hb dX12_findPlan_69 ?_
      refine lv_iand hx hb dX12_findPlan_70 ?_
      obtain ⟨z8, e_z8, h⟩ := nm_some h
      refine tpi e_z8 ?_
      refine lv_istore (lv' := [(4, .int z8), (3, .int ((-1) : Int32)), (0, .ref (a 0)), (1, .int x1), (2, .int x2)]) hx hb dX12_findPlan_71 hl (by decide) rfl (fun ls hl => ?_)
      refine lv_iload hx hb dX12_findPlan_73 (lv_at hl 0 rfl) ?_
      refine lv_istore (lv' := [(5, .int z8), (4, .int z8), (3, .int ((-1) : Int32)), (0, .ref (a 0)), (1, .int x1), (2, .int x2)]) hx hb dX12_findPlan_75 hl (by decide) rfl (fun ls hl => ?_)
      refine wX12_findPlan_L77 C hK hA  u9 F x1 x2 z8 _ ?_ F ((-1) : Int32) z8 σ _ _ ls hP hD hS (lv_sub hl [3, 4, 5, 2, 1, 0] rfl) h
      intro y9 σ10 H locs ls hP hD hS hl h
      refine lv_aload_n hx hb dX12_findPlan_137 rfl (lv_at hl 0 rfl) ?_
      refine va_get (D := D) (ci := 11) (v := .ref (a 15)) (C := RX12) (T := TX12) (N := 27) hx hb hts inX12_X12_findPlan hown hK.1 hP 0 rfl rfl 15 (by decide) (hts (.fieldLink RX12 51 "SandPalaceModel" "fewest" "[I") (by decide +kernel)) (fun _ h9 => h9) rfl dX12_findPlan_138 ?_
      refine lv_iload_n hx hb dX12_findPlan_141 rfl (lv_at hl 2 rfl) ?_
      refine lv_iload_n hx hb dX12_findPlan_142 rfl (lv_at hl 3 rfl) ?_
      obtain ⟨i11, h⟩ := aS_some h
      refine va_iast hx hb hK.1 hP hD hS 13 0 rfl rfl i11 dX12_findPlan_143 (fun H locs hP hD hS => ?_)
      obtain ⟨σ12, e_σ12, h⟩ := nm_some h
      have hP : va_P D vwCl (mW a cs σ12) H := by rw [← e_σ12]; exact hP
      have hD : va_D A (mW a cs σ12) := by rw [← e_σ12]; exact hD
      refine lv_iinc (v := x2 + ((-1) : Int32)) (lv' := [(2, .int (x2 + ((-1) : Int32))), (0, .ref (a 0)), (1, .int x1), (3, .int y9)]) hx hb dX12_findPlan_144 hl (k := 2) rfl rfl (by decide) rfl (fun ls hl => ?_)
      refine lv_goto (tgt := 60) hx hb dX12_findPlan_147 (by decide) ?_
      exact hkb (x2 + ((-1) : Int32)) σ12 _ _ ls hP hD hS (lv_sub hl [1, 2, 0] rfl) h
set_option maxHeartbeats 4000000 in
set_option maxRecDepth 100000 in
theorem wX12_findPlan_J213 {p : Program} {l : Launch} {e : Env} {s : State} {m : MethodId} {args : Array Value} {below : List Frame} {meth : Method} {c : Code} (C : cxt p s m args meth c cX12_findPlan 7 RX12 wsX12_findPlan none) {D : va_G} {cs : Nat → ClassId} {a : Nat → Nat} (hK : KK D cs s) {A : Nat → Prop} (hA : ∀ q, s.heap.size ≤ q → A q) (u9 : Nat → Nat → Int32) (F : Nat) (kb : Int32 → (Nat → Nat → Int32) → Option ((Nat → Nat → Int32))) (x1 : Int32) (x2 : Int32) (x3 : Int32) (x4 : Int32) (x5 : Int32) (hkb : ∀ (x5 : Int32) (σ : Nat → Nat → Int32) (H : Heap) (locs : List Loc) (ls : Array Slot), va_P D vwCl (mW a cs σ) H → va_D A (mW a cs σ) → va_S A s.heap H locs → lv_has ls 7 [(0, .ref (a 0)), (1, .int x1), (2, .int x2), (3, .int x3), (4, .int x4), (5, .int x5)] → kb x5 σ = some u9 → W p l e rmX12_findPlan s m args below meth c H locs 0 0 (MQ below (va_Qv (fun y => y = u9) (qB D (mW a cs) A) A) args s 0 0 A) (F0 m 183 ls [])) (σ : Nat → Nat → Int32) (H : Heap) (locs : List Loc) (ls : Array Slot) (hP : va_P D vwCl (mW a cs σ) H) (hD : va_D A (mW a cs σ)) (hS : va_S A s.heap H locs) (hl : lv_has ls 7 [(0, .ref (a 0)), (1, .int x1), (2, .int x2), (3, .int x3), (4, .int x4), (5, .int x5)]) (h : fX12_findPlan_J213 F kb x1 x2 x3 x4 x5 σ = some u9) : W p l e rmX12_findPlan s m args below meth c H locs 0 0 (MQ below (va_Qv (fun y => y = u9) (qB D (mW a cs) A) A) args s 0 0 A) (F0 m 213 ls []) := by
  obtain ⟨hx, hb, hml, hown, hts, hr, hlk⟩ := id C
  unfold fX12_findPlan_J213 at h
  refine lv_iload hx hb dX12_findPlan_213 (lv_at hl 5 rfl) ?_
  refine lv_iconst (v := (1 : Int32)) hx hb dX12_findPlan_215 (by decide) ?_
  refine lv_isub hx hb dX12_findPlan_216 ?_
  refine lv_iload hx hb dX12_findPlan_217 (lv_at hl 4 rfl) ?_
  refine lv_iand hx hb dX12_findPlan_219 ?_
  obtain ⟨z15, e_z15, h⟩ := nm_some h
  refine tpi e_z15 ?_
  refine lv_istore (lv' := [(5, .int z15), (0, .ref (a 0)), (1, .int x1), (2, .int x2), (3, .int x3), (4, .int x4)]) hx hb dX12_findPlan_220 hl (by decide) rfl (fun ls hl => ?_)
  refine lv_goto (tgt := 183) hx hb dX12_findPlan_222 (by decide) ?_
  exact hkb z15 σ _ _ ls hP hD hS (lv_sub hl [1, 2, 3, 4, 5, 0] rfl) h
set_option maxHeartbeats 4000000 in
set_option maxRecDepth 100000 in
theorem wX12_findPlan_L183 {p : Program} {l : Launch} {e : Env} {s : State} {m : MethodId} {args : Array Value} {below : List Frame} {meth : Method} {c : Code} (C : cxt p s m args meth c cX12_findPlan 7 RX12 wsX12_findPlan none) {D : va_G} {cs : Nat → ClassId} {a : Nat → Nat} (hK : KK D cs s) {A : Nat → Prop} (hA : ∀ q, s.heap.size ≤ q → A q) (u9 : Nat → Nat → Int32) (F : Nat) (x1 : Int32) (x2 : Int32) (x3 : Int32) (x4 : Int32) (kx : Int32 → (Nat → Nat → Int32) → Option ((Nat → Nat → Int32))) (hkx : ∀ (x5 : Int32) (σ : Nat → Nat → Int32) (H : Heap) (locs : List Loc) (ls : Array Slot), va_P D vwCl (mW a cs σ) H → va_D A (mW a cs σ) → va_S A s.heap H locs → lv_has ls 7 [(0, .ref (a 0)), (1, .int x1), (2, .int x2), (3, .int x3), (5, .int x5)] → kx x5 σ = some u9 → W p l e rmX12_findPlan s m args below meth c H locs 0 0 (MQ below (va_Qv (fun y => y = u9) (qB D (mW a cs) A) A) args s 0 0 A) (F0 m 225 ls [])) : ∀ (n : Nat) (x5 : Int32) (σ : Nat → Nat → Int32) (H : Heap) (locs : List Loc) (ls : Array Slot), va_P D vwCl (mW a cs σ) H → va_D A (mW a cs σ) → va_S A s.heap H locs → lv_has ls 7 [(0, .ref (a 0)), (1, .int x1), (2, .int x2), (3, .int x3), (4, .int x4), (5, .int x5)] → fX12_findPlan_L183 F x1 x2 x3 x4 kx n x5 σ = some u9 → W p l e rmX12_findPlan s m args below meth c H locs 0 0 (MQ below (va_Qv (fun y => y = u9) (qB D (mW a cs) A) A) args s 0 0 A) (F0 m 183 ls []) := by
  obtain ⟨hx, hb, hml, hown, hts, hr, hlk⟩ := id C
  intro n
  induction n with
  | zero =>
    intros
    rename_i h
    cases h
  | succ n ih =>
    intro x5 σ H locs ls hP hD hS hl h
    rw [fX12_findPlan_L183] at h
    obtain ⟨kb, hkb, h⟩ := nb_some (P := fun (kb : Int32 → (Nat → Nat → Int32) → Option ((Nat → Nat → Int32))) => ∀ (x5 : Int32) (σ : Nat → Nat → Int32) (H : Heap) (locs : List Loc) (ls : Array Slot), va_P D vwCl (mW a cs σ) H → va_D A (mW a cs σ) → va_S A s.heap H locs → lv_has ls 7 [(0, .ref (a 0)), (1, .int x1), (2, .int x2), (3, .int x3), (4, .int x4), (5, .int x5)] → kb x5 σ = some u9 → W p l e rmX12_findPlan s m args below meth c H locs 0 0 (MQ below (va_Qv (fun y => y = u9) (qB D (mW a cs) A) A) args s 0 0 A) (F0 m 183 ls [])) h ih
    refine lv_aload_n hx hb dX12_findPlan_183 rfl (lv_at hl 0 rfl) ?_
    refine va_get (D := D) (ci := 11) (v := .ref (a 15)) (C := RX12) (T := TX12) (N := 27) hx hb hts inX12_X12_findPlan hown hK.1 hP 0 rfl rfl 15 (by decide) (hts (.fieldLink RX12 51 "SandPalaceModel" "fewest" "[I") (by decide +kernel)) (fun _ h9 => h9) rfl dX12_findPlan_184 ?_
    refine lv_iload_n hx hb dX12_findPlan_187 rfl (lv_at hl 2 rfl) ?_
    refine lv_iload hx hb dX12_findPlan_188 (lv_at hl 5 rfl) ?_
    refine lv_ior hx hb dX12_findPlan_190 ?_
    obtain ⟨v12, i_v12, e_v12, h⟩ := aI_some h
    refine miald hx hb hK.1 hP 13 0 rfl rfl i_v12 e_v12 dX12_findPlan_191 ?_
    refine lv_aload_n hx hb dX12_findPlan_192 rfl (lv_at hl 0 rfl) ?_
    refine va_get (D := D) (ci := 11) (v := .ref (a 15)) (C := RX12) (T := TX12) (N := 27) hx hb hts inX12_X12_findPlan hown hK.1 hP 0 rfl rfl 15 (by decide) (hts (.fieldLink RX12 51 "SandPalaceModel" "fewest" "[I") (by decide +kernel)) (fun _ h9 => h9) rfl dX12_findPlan_193 ?_
    refine lv_iload_n hx hb dX12_findPlan_196 rfl (lv_at hl 2 rfl) ?_
    obtain ⟨v13, i_v13, e_v13, h⟩ := aI_some h
    refine miald hx hb hK.1 hP 13 0 rfl rfl i_v13 e_v13 dX12_findPlan_197 ?_
    refine lv_iconst (v := (1 : Int32)) hx hb dX12_findPlan_198 (by decide) ?_
    refine lv_isub hx hb dX12_findPlan_199 ?_
    refine lv_icmp_ne (tgt := 213) hx hb dX12_findPlan_200 (by decide) (fun c14 => ?_) (fun c14 => ?_)
    · have h := it_t c14 h
      exact wX12_findPlan_J213 C hK hA  u9 F kb x1 x2 x3 x4 x5 hkb σ _ _ ls hP hD hS (lv_sub hl [0, 1, 2, 3, 4, 5] rfl) h
    · have h := it_n c14 h
      refine lv_aload_n hx hb dX12_findPlan_203 rfl (lv_at hl 0 rfl) ?_
      refine lv_iload hx hb dX12_findPlan_204 (lv_at hl 5 rfl) ?_
      refine lv_iload_n hx hb dX12_findPlan_206 rfl (lv_at hl 2 rfl) ?_
      obtain ⟨⟨v15, σ16⟩, hc_v15, h⟩ := bd_some h
      refine mcallQZ (wf := (mW a cs)) (va_runV (As := [.int x5, .int x2]) (rest := []) ⟨hx, hb, hml, hown, hts⟩ (kX12_canBeDay l D cs a σ F x5 x2 v15 σ16 hc_v15 _) (cwV 2 hts gX12_findPlan_X12_canBeDay rfl rfl rfl (by decide +kernel) ⟨Nat.le_of_ble_eq_true rfl, Nat.le_of_ble_eq_true rfl⟩) (pQ_v hP hK hD (va_recv hK.1 hP (ci := 11) (q0 := 0) rfl rfl)) rfl rfl hl.1 rfl (lv_room (Nat.le_of_ble_eq_true rfl)) dX12_findPlan_207 ⟨Nat.zero_le _, Nat.zero_le _⟩) hD hS hA (fun z_v15 H locs hP hD hS => ?_)
      refine lv_if_ne (tgt := 225) hx hb dX12_findPlan_210 (by decide) (fun c17 => ?_) (fun c17 => ?_)
      · have h := it_t c17 h
        exact hkx x5 σ16 _ _ ls hP hD hS (lv_sub hl [0, 1, 2, 3, 5] rfl) h
      · have h := it_n c17 h
        exact wX12_findPlan_J213 C hK hA  u9 F kb x1 x2 x3 x4 x5 hkb σ16 _ _ ls hP hD hS (lv_sub hl [0, 1, 2, 3, 4, 5] rfl) h
set_option maxHeartbeats 4000000 in
set_option maxRecDepth 100000 in
theorem wX12_findPlan_L164 {p : Program} {l : Launch} {e : Env} {s : State} {m : MethodId} {args : Array Value} {below : List Frame} {meth : Method} {c : Code} (C : cxt p s m args meth c cX12_findPlan 7 RX12 wsX12_findPlan none) {D : va_G} {cs : Nat → ClassId} {a : Nat → Nat} (hK : KK D cs s) {A : Nat → Prop} (hA : ∀ q, s.heap.size ≤ q → A q) (u9 : Nat → Nat → Int32) (F : Nat) (x1 : Int32) (kx : (Nat → Nat → Int32) → Option ((Nat → Nat → Int32))) (hkx : ∀ (σ : Nat → Nat → Int32) (H : Heap) (locs : List Loc) (ls : Array Slot), va_P D vwCl (mW a cs σ) H → va_D A (mW a cs σ) → va_S A s.heap H locs → lv_has ls 7 [] → kx σ = some u9 → W p l e rmX12_findPlan s m args below meth c H locs 0 0 (MQ below (va_Qv (fun y => y = u9) (qB D (mW a cs) A) A) args s 0 0 A) (F0 m 244 ls [])) : ∀ (n : Nat) (x2 : Int32) (x3 : Int32) (σ : Nat → Nat → Int32) (H : Heap) (locs : List Loc) (ls : Array Slot), va_P D vwCl (mW a cs σ) H → va_D A (mW a cs σ) → va_S A s.heap H locs → lv_has ls 7 [(0, .ref (a 0)), (1, .int x1), (2, .int x2), (3, .int x3)] → fX12_findPlan_L164 F x1 kx n x2 x3 σ = some u9 → W p l e rmX12_findPlan s m args below meth c H locs 0 0 (MQ below (va_Qv (fun y => y = u9) (qB D (mW a cs) A) A) args s 0 0 A) (F0 m 164 ls []) := by
  obtain ⟨hx, hb, hml, hown, hts, hr, hlk⟩ := id C
  intro n
  induction n with
  | zero =>
    intros
    rename_i h
    cases h
  | succ n ih =>
    intro x2 x3 σ H locs ls hP hD hS hl h
    rw [fX12_findPlan_L164] at h
    obtain ⟨kb, hkb, h⟩ := nb_some (P := fun (kb : Int32 → Int32 → (Nat → Nat → Int32) → Option ((Nat → Nat → Int32))) => ∀ (x2 : Int32) (x3 : Int32) (σ : Nat → Nat → Int32) (H : Heap) (locs : List Loc) (ls : Array Slot), va_P D vwCl (mW a cs σ) H → va_D A (mW a cs σ) → va_S A s.heap H locs → lv_has ls 7 [(0, .ref (a 0)), (1, .int x1), (2, .int x2), (3, .int x3)] → kb x2 x3 σ = some u9 → W p l e rmX12_findPlan s m args below meth c H locs 0 0 (MQ below (va_Qv (fun y => y = u9) (qB D (mW a cs) A) A) args s 0 0 A) (F0 m 164 ls [])) h ih
    refine lv_iload_n hx hb dX12_findPlan_164 rfl (lv_at hl 3 rfl) ?_
    refine lv_aload_n hx hb dX12_findPlan_165 rfl (lv_at hl 0 rfl) ?_
    refine va_get (D := D) (ci := 11) (v := .int (σ 16 0)) (C := RX12) (T := TX12) (N := 27) hx hb hts inX12_X12_findPlan hown hK.1 hP 0 rfl rfl 16 (by decide) (hts (.fieldLink RX12 170 "SandPalaceModel" "dayMany" "I") (by decide +kernel)) (fun _ h9 => h9) rfl dX12_findPlan_166 ?_
    refine lv_icmp_ge (tgt := 244) hx hb dX12_findPlan_169 (by decide) (fun c10 => ?_) (fun c10 => ?_)
    · have h := it_t c10 h
      exact hkx σ _ _ ls hP hD hS (lv_sub hl [] rfl) h
    · have h := it_f c10 h
      refine lv_iload_n hx hb dX12_findPlan_172 rfl (lv_at hl 1 rfl) ?_
      refine lv_iload_n hx hb dX12_findPlan_173 rfl (lv_at hl 2 rfl) ?_
      refine lv_iconst (v := ((-1) : Int32)) hx hb dX12_findPlan_174 (by decide) ?_
      refine lv_ixor hx hb dX12_findPlan_175 ?_
      refine lv_iand hx hb dX12_findPlan_176 ?_
      obtain ⟨z11, e_z11, h⟩ := nm_some h
      refine tpi e_z11 ?_
      refine lv_istore (lv' := [(4, .int z11), (0, .ref (a 0)), (1, .int x1), (2, .int x2), (3, .int x3)]) hx hb dX12_findPlan_177 hl (by decide) rfl (fun ls hl => ?_)
      refine lv_iload hx hb dX12_findPlan_179 (lv_at hl 0 rfl) ?_
      refine lv_istore (lv' := [(5, .int z11), (4, .int z11), (0, .ref (a 0)), (1, .int x1), (2, .int x2), (3, .int x3)]) hx hb dX12_findPlan_181 hl (by decide) rfl (fun ls hl => ?_)
      refine wX12_findPlan_L183 C hK hA  u9 F x1 x2 x3 z11 _ ?_ F z11 σ _ _ ls hP hD hS (lv_sub hl [2, 3, 4, 5, 1, 0] rfl) h
      intro y12 σ13 H locs ls hP hD hS hl h
      refine lv_aload_n hx hb dX12_findPlan_225 rfl (lv_at hl 0 rfl) ?_
      refine va_get (D := D) (ci := 11) (v := .ref (a 17)) (C := RX12) (T := TX12) (N := 27) hx hb hts inX12_X12_findPlan hown hK.1 hP 0 rfl rfl 17 (by decide) (hts (.fieldLink RX12 54 "SandPalaceModel" "planned" "[I") (by decide +kernel)) (fun _ h9 => h9) rfl dX12_findPlan_226 ?_
      refine lv_iload_n hx hb dX12_findPlan_229 rfl (lv_at hl 3 rfl) ?_
      refine lv_iload hx hb dX12_findPlan_230 (lv_at hl 4 rfl) ?_
      obtain ⟨i14, h⟩ := aS_some h
      refine va_iast hx hb hK.1 hP hD hS 14 0 rfl rfl i14 dX12_findPlan_232 (fun H locs hP hD hS => ?_)
      obtain ⟨σ15, e_σ15, h⟩ := nm_some h
      have hP : va_P D vwCl (mW a cs σ15) H := by rw [← e_σ15]; exact hP
      have hD : va_D A (mW a cs σ15) := by rw [← e_σ15]; exact hD
      refine lv_iload_n hx hb dX12_findPlan_233 rfl (lv_at hl 2 rfl) ?_
      refine lv_iload hx hb dX12_findPlan_234 (lv_at hl 4 rfl) ?_
      refine lv_ior hx hb dX12_findPlan_236 ?_
      refine lv_istore_n (lv' := [(2, .int (x2 ||| y12)), (0, .ref (a 0)), (1, .int x1), (3, .int x3), (5, .int y12)]) hx hb dX12_findPlan_237 rfl hl (by decide) rfl (fun ls hl => ?_)
      refine lv_iinc (v := x3 + (1 : Int32)) (lv' := [(3, .int (x3 + (1 : Int32))), (2, .int (x2 ||| y12)), (0, .ref (a 0)), (1, .int x1), (5, .int y12)]) hx hb dX12_findPlan_238 hl (k := 3) rfl rfl (by decide) rfl (fun ls hl => ?_)
      refine lv_goto (tgt := 164) hx hb dX12_findPlan_241 (by decide) ?_
      exact hkb (x2 ||| y12) (x3 + (1 : Int32)) σ15 _ _ ls hP hD hS (lv_sub hl [2, 3, 1, 0] rfl) h
set_option maxHeartbeats 4000000 in
set_option maxRecDepth 100000 in
theorem kX12_findPlan (l : Launch) (D : va_G) (cs : Nat → ClassId) (a : Nat → Nat) (σ : Nat → Nat → Int32) (F : Nat)  (u9 : Nat → Nat → Int32) (h : fX12_findPlan F σ = some u9) (sz : Nat) : Met l yX12_findPlan wsX12_findPlan rmX12_findPlan (va_Pc [.ref (a 0)] (pQ D cs (mW a cs σ) sz)) (va_Qv (fun y => y = u9) (qB D (mW a cs) (va_A (mW a cs σ) sz)) (va_A (mW a cs σ) sz)) 0 0 (va_A (mW a cs σ) sz) := by
  refine Met.ofW (cc := cX12_findPlan) (maxL := 7) (ret := none) (by decide) rfl ?_
  intro p e s m args below meth c s₁ B hml hv
  obtain ⟨rfl, hsz, hP, hK, hD0⟩ := hv
  have C : cxt p s m _ meth c cX12_findPlan 7 RX12 wsX12_findPlan none := ⟨B.exec, B.bytes, hml, findClass_of_methodNamed B.named, atoms_spec (ws := wsX12_findPlan) B.pre, B.returns, B.notSynchronized⟩
  obtain ⟨hx, hb, -, hown, hts, hr, hlk⟩ := id C
  subst hsz
  have hD := hD0.self (sz := s.heap.size)
  generalize hAe : va_A (mW a cs σ) s.heap.size = A at hD ⊢
  have hA : ∀ q : Nat, s.heap.size ≤ q → A q := fun q h => by rw [← hAe]; exact Or.inr h
  have hS : va_S A s.heap s.heap [] := va_S.rf
  refine entryW [.ref (a 0)] (n := 7) (Nat.le_of_ble_eq_true rfl) (fun ls hl => ?_)
  have hl : lv_has ls 7 [(0, .ref (a 0))] := hl
  unfold fX12_findPlan at h
  refine lv_aload_n hx hb dX12_findPlan_0 rfl (lv_at hl 0 rfl) ?_
  refine va_get (D := D) (ci := 11) (v := .int (σ 13 0)) (C := RX12) (T := TX12) (N := 27) hx hb hts inX12_X12_findPlan hown hK.1 hP 0 rfl rfl 13 (by decide) (hts (.fieldLink RX12 110 "SandPalaceModel" "isPlanned" "Z") (by decide +kernel)) (fun _ h9 => h9) rfl dX12_findPlan_1 ?_
  refine lv_if_eq (tgt := 8) hx hb dX12_findPlan_4 (by decide) (fun c1 => ?_) (fun c1 => ?_)
  · have h := it_t c1 h
    refine lv_aload_n hx hb dX12_findPlan_8 rfl (lv_at hl 0 rfl) ?_
    refine lv_iconst (v := (1 : Int32)) hx hb dX12_findPlan_9 (by decide) ?_
    refine va_put (D := D) (ci := 11) (v := .int (1 : Int32)) (ty := .boolean) (C := RX12) (T := TX12) (N := 27) hx hb hts inX12_X12_findPlan tyX12 tyX12_ok nmX12 hown hK.1 hP hD hS 0 rfl rfl 13 (by decide) (hts (.fieldLink RX12 110 "SandPalaceModel" "isPlanned" "Z") (by decide +kernel)) (fun _ h9 => h9) rfl (by decide +kernel) rfl rfl (Nat.le_of_ble_eq_true rfl) dX12_findPlan_10 (fun H locs hP hD hS => ?_)
    obtain ⟨σ2, e_σ2, h⟩ := nm_some h
    have hP : va_P D vwCl (mW a cs σ2) H := by rw [← e_σ2]; exact hP
    have hD : va_D A (mW a cs σ2) := by rw [← e_σ2]; exact hD
    refine lv_iconst (v := (0 : Int32)) hx hb dX12_findPlan_13 (by decide) ?_
    refine lv_istore_n (lv' := [(1, .int (0 : Int32)), (0, .ref (a 0))]) hx hb dX12_findPlan_14 rfl hl (by decide) rfl (fun ls hl => ?_)
    refine wX12_findPlan_L15 C hK hA  u9 F  _ ?_ F (0 : Int32) σ2 _ _ ls hP hD hS (lv_sub hl [1, 0] rfl) h
    intro σ3 H locs ls hP hD hS hl h
    refine lv_iconst (v := (1 : Int32)) hx hb dX12_findPlan_40 (by decide) ?_
    refine lv_aload_n hx hb dX12_findPlan_41 rfl (lv_at hl 0 rfl) ?_
    refine va_get (D := D) (ci := 11) (v := .int (σ3 0 0)) (C := RX12) (T := TX12) (N := 27) hx hb hts inX12_X12_findPlan hown hK.1 hP 0 rfl rfl 0 (by decide) (hts (.fieldLink RX12 103 "SandPalaceModel" "shapes" "I") (by decide +kernel)) (fun _ h9 => h9) rfl dX12_findPlan_42 ?_
    refine lv_ishl hx hb dX12_findPlan_45 ?_
    refine lv_iconst (v := (1 : Int32)) hx hb dX12_findPlan_46 (by decide) ?_
    refine lv_isub hx hb dX12_findPlan_47 ?_
    obtain ⟨z4, e_z4, h⟩ := nm_some h
    refine tpi e_z4 ?_
    refine lv_istore_n (lv' := [(1, .int z4), (0, .ref (a 0))]) hx hb dX12_findPlan_48 rfl hl (by decide) rfl (fun ls hl => ?_)
    refine lv_aload_n hx hb dX12_findPlan_49 rfl (lv_at hl 1 rfl) ?_
    refine va_get (D := D) (ci := 11) (v := .ref (a 15)) (C := RX12) (T := TX12) (N := 27) hx hb hts inX12_X12_findPlan hown hK.1 hP 0 rfl rfl 15 (by decide) (hts (.fieldLink RX12 51 "SandPalaceModel" "fewest" "[I") (by decide +kernel)) (fun _ h9 => h9) rfl dX12_findPlan_50 ?_
    refine lv_iload_n hx hb dX12_findPlan_53 rfl (lv_at hl 0 rfl) ?_
    refine lv_iconst (v := (0 : Int32)) hx hb dX12_findPlan_54 (by decide) ?_
    obtain ⟨i5, h⟩ := aS_some h
    refine va_iast hx hb hK.1 hP hD hS 13 0 rfl rfl i5 dX12_findPlan_55 (fun H locs hP hD hS => ?_)
    obtain ⟨σ6, e_σ6, h⟩ := nm_some h
    have hP : va_P D vwCl (mW a cs σ6) H := by rw [← e_σ6]; exact hP
    have hD : va_D A (mW a cs σ6) := by rw [← e_σ6]; exact hD
    refine lv_iload_n hx hb dX12_findPlan_56 rfl (lv_at hl 0 rfl) ?_
    refine lv_iconst (v := (1 : Int32)) hx hb dX12_findPlan_57 (by decide) ?_
    refine lv_isub hx hb dX12_findPlan_58 ?_
    refine lv_istore_n (lv' := [(2, .int (z4 - (1 : Int32))), (1, .int z4), (0, .ref (a 0))]) hx hb dX12_findPlan_59 rfl hl (by decide) rfl (fun ls hl => ?_)
    refine wX12_findPlan_L60 C hK hA  u9 F z4 _ ?_ F (z4 - (1 : Int32)) σ6 _ _ ls hP hD hS (lv_sub hl [2, 1, 0] rfl) h
    intro σ7 H locs ls hP hD hS hl h
    refine lv_aload_n hx hb dX12_findPlan_150 rfl (lv_at hl 0 rfl) ?_
    refine lv_aload_n hx hb dX12_findPlan_151 rfl (lv_at hl 0 rfl) ?_
    refine va_get (D := D) (ci := 11) (v := .ref (a 15)) (C := RX12) (T := TX12) (N := 27) hx hb hts inX12_X12_findPlan hown hK.1 hP 0 rfl rfl 15 (by decide) (hts (.fieldLink RX12 51 "SandPalaceModel" "fewest" "[I") (by decide +kernel)) (fun _ h9 => h9) rfl dX12_findPlan_152 ?_
    refine lv_iconst (v := (0 : Int32)) hx hb dX12_findPlan_155 (by decide) ?_
    obtain ⟨v8, i_v8, e_v8, h⟩ := aI_some h
    refine miald hx hb hK.1 hP 13 0 rfl rfl i_v8 e_v8 dX12_findPlan_156 ?_
    refine va_put (D := D) (ci := 11) (v := .int v8) (ty := .int) (C := RX12) (T := TX12) (N := 27) hx hb hts inX12_X12_findPlan tyX12 tyX12_ok nmX12 hown hK.1 hP hD hS 0 rfl rfl 16 (by decide) (hts (.fieldLink RX12 170 "SandPalaceModel" "dayMany" "I") (by decide +kernel)) (fun _ h9 => h9) rfl (by decide +kernel) rfl rfl (Nat.le_of_ble_eq_true rfl) dX12_findPlan_157 (fun H locs hP hD hS => ?_)
    obtain ⟨σ9, e_σ9, h⟩ := nm_some h
    have hP : va_P D vwCl (mW a cs σ9) H := by rw [← e_σ9]; exact hP
    have hD : va_D A (mW a cs σ9) := by rw [← e_σ9]; exact hD
    refine lv_iconst (v := (0 : Int32)) hx hb dX12_findPlan_160 (by decide) ?_
    refine lv_istore_n (lv' := [(2, .int (0 : Int32)), (0, .ref (a 0)), (1, .int z4)]) hx hb dX12_findPlan_161 rfl hl (by decide) rfl (fun ls hl => ?_)
    refine lv_iconst (v := (0 : Int32)) hx hb dX12_findPlan_162 (by decide) ?_
    refine lv_istore_n (lv' := [(3, .int (0 : Int32)), (2, .int (0 : Int32)), (0, .ref (a 0)), (1, .int z4)]) hx hb dX12_findPlan_163 rfl hl (by decide) rfl (fun ls hl => ?_)
    refine wX12_findPlan_L164 C hK hA  u9 F z4 _ ?_ F (0 : Int32) (0 : Int32) σ9 _ _ ls hP hD hS (lv_sub hl [2, 3, 1, 0] rfl) h
    intro σ10 H locs ls hP hD hS hl h
    exact mretV hx hb hr hlk h hP hD hS dX12_findPlan_244
  · have h := it_f c1 h
    exact mretV hx hb hr hlk h hP hD hS dX12_findPlan_7
def fX12_days (F : Nat) (σ : Nat → Nat → Int32)  : Option (Int32 × (Nat → Nat → Int32)) :=
  bd (fX12_findPlan F σ) fun σ2 => if 0 ≤ (σ2 16 0) then (some (σ2 16 0, σ2)) else (some (((-4) : Int32), σ2))
abbrev rmX12_days : Room := { frames := 3, cells := 0, slots := 0, locals := 77 }
theorem inX12_X12_days : ∀ w ∈ wsX120, w ∈ wsX12_days := by intro w h; simp only [wsX12_days, List.mem_cons, List.mem_append]; simp only [h, true_or, or_true]
set_option maxHeartbeats 4000000 in
set_option maxRecDepth 100000 in
theorem kX12_days (l : Launch) (D : va_G) (cs : Nat → ClassId) (a : Nat → Nat) (σ : Nat → Nat → Int32) (F : Nat)  (r : Int32) (u9 : Nat → Nat → Int32) (h : fX12_days F σ = some (r, u9)) (sz : Nat) : Met l yX12_days wsX12_days rmX12_days (va_Pc [.ref (a 0)] (pQ D cs (mW a cs σ) sz)) (va_Qi (fun x y => x = r ∧ y = u9) (qB D (mW a cs) (va_A (mW a cs σ) sz)) (va_A (mW a cs σ) sz)) 0 0 (va_A (mW a cs σ) sz) := by
  refine Met.ofW (cc := cX12_days) (maxL := 1) (ret := (some .int)) (by decide) rfl ?_
  intro p e s m args below meth c s₁ B hml hv
  obtain ⟨rfl, hsz, hP, hK, hD0⟩ := hv
  have C : cxt p s m _ meth c cX12_days 1 RX12 wsX12_days (some .int) := ⟨B.exec, B.bytes, hml, findClass_of_methodNamed B.named, atoms_spec (ws := wsX12_days) B.pre, B.returns, B.notSynchronized⟩
  obtain ⟨hx, hb, -, hown, hts, hr, hlk⟩ := id C
  subst hsz
  have hD := hD0.self (sz := s.heap.size)
  generalize hAe : va_A (mW a cs σ) s.heap.size = A at hD ⊢
  have hA : ∀ q : Nat, s.heap.size ≤ q → A q := fun q h => by rw [← hAe]; exact Or.inr h
  have hS : va_S A s.heap s.heap [] := va_S.rf
  refine entryW [.ref (a 0)] (n := 1) (Nat.le_of_ble_eq_true rfl) (fun ls hl => ?_)
  have hl : lv_has ls 1 [(0, .ref (a 0))] := hl
  unfold fX12_days at h
  refine lv_aload_n hx hb dX12_days_0 rfl (lv_at hl 0 rfl) ?_
  obtain ⟨σ2, hc_v1, h⟩ := bd_some h
  refine mcallQV (wf := (mW a cs)) (va_runV (As := []) (rest := []) ⟨hx, hb, hml, hown, hts⟩ (kX12_findPlan l D cs a σ F σ2 hc_v1 _) (cwV 0 hts gX12_days_X12_findPlan rfl rfl rfl (by decide +kernel) ⟨Nat.le_of_ble_eq_true rfl, Nat.le_of_ble_eq_true rfl⟩) (pQ_v hP hK hD (va_recv hK.1 hP (ci := 11) (q0 := 0) rfl rfl)) rfl rfl hl.1 rfl (lv_room (Nat.le_of_ble_eq_true rfl)) dX12_days_1 ⟨Nat.zero_le _, Nat.zero_le _⟩) hD hS hA (fun H locs hP hD hS => ?_)
  refine lv_aload_n hx hb dX12_days_4 rfl (lv_at hl 0 rfl) ?_
  refine va_get (D := D) (ci := 11) (v := .int (σ2 16 0)) (C := RX12) (T := TX12) (N := 27) hx hb hts inX12_X12_days hown hK.1 hP 0 rfl rfl 16 (by decide) (hts (.fieldLink RX12 170 "SandPalaceModel" "dayMany" "I") (by decide +kernel)) (fun _ h9 => h9) rfl dX12_days_5 ?_
  refine lv_if_ge (tgt := 16) hx hb dX12_days_8 (by decide) (fun c3 => ?_) (fun c3 => ?_)
  · have h := it_t c3 h
    refine lv_aload_n hx hb dX12_days_16 rfl (lv_at hl 0 rfl) ?_
    refine va_get (D := D) (ci := 11) (v := .int (σ2 16 0)) (C := RX12) (T := TX12) (N := 27) hx hb hts inX12_X12_days hown hK.1 hP 0 rfl rfl 16 (by decide) (hts (.fieldLink RX12 170 "SandPalaceModel" "dayMany" "I") (by decide +kernel)) (fun _ h9 => h9) rfl dX12_days_17 ?_
    exact mretQ hx hb hr hlk h hP hD hS dX12_days_20
  · have h := it_f c3 h
    refine lv_bipush (v := ((-4) : Int32)) hx hb dX12_days_11 (by decide) ?_
    refine lv_goto (tgt := 20) hx hb dX12_days_13 (by decide) ?_
    exact mretQ hx hb hr hlk h hP hD hS dX12_days_20
def fX12_day (F : Nat) (σ : Nat → Nat → Int32) (x1 : Int32) : Option (Int32 × (Nat → Nat → Int32)) :=
  if 0 ≤ x1 then (bd (fX12_findPlan F σ) fun σ3 => if 0 ≤ (σ3 16 0) then (if (σ3 16 0) ≤ x1 then (some (((-1) : Int32), σ3)) else (aI (σ3 17) 10 x1 fun v6 => some (v6, σ3))) else (some (((-4) : Int32), σ3))) else (some (((-1) : Int32), σ))
abbrev rmX12_day : Room := { frames := 3, cells := 0, slots := 0, locals := 77 }
theorem inX12_X12_day : ∀ w ∈ wsX120, w ∈ wsX12_day := by intro w h; simp only [wsX12_day, List.mem_cons, List.mem_append]; simp only [h, true_or, or_true]
set_option maxHeartbeats 4000000 in
set_option maxRecDepth 100000 in
theorem kX12_day (l : Launch) (D : va_G) (cs : Nat → ClassId) (a : Nat → Nat) (σ : Nat → Nat → Int32) (F : Nat) (x1 : Int32) (r : Int32) (u9 : Nat → Nat → Int32) (h : fX12_day F σ x1 = some (r, u9)) (sz : Nat) : Met l yX12_day wsX12_day rmX12_day (va_Pc [.ref (a 0), .int x1] (pQ D cs (mW a cs σ) sz)) (va_Qi (fun x y => x = r ∧ y = u9) (qB D (mW a cs) (va_A (mW a cs σ) sz)) (va_A (mW a cs σ) sz)) 0 0 (va_A (mW a cs σ) sz) := by
  refine Met.ofW (cc := cX12_day) (maxL := 2) (ret := (some .int)) (by decide) rfl ?_
  intro p e s m args below meth c s₁ B hml hv
  obtain ⟨rfl, hsz, hP, hK, hD0⟩ := hv
  have C : cxt p s m _ meth c cX12_day 2 RX12 wsX12_day (some .int) := ⟨B.exec, B.bytes, hml, findClass_of_methodNamed B.named, atoms_spec (ws := wsX12_day) B.pre, B.returns, B.notSynchronized⟩
  obtain ⟨hx, hb, -, hown, hts, hr, hlk⟩ := id C
  subst hsz
  have hD := hD0.self (sz := s.heap.size)
  generalize hAe : va_A (mW a cs σ) s.heap.size = A at hD ⊢
  have hA : ∀ q : Nat, s.heap.size ≤ q → A q := fun q h => by rw [← hAe]; exact Or.inr h
  have hS : va_S A s.heap s.heap [] := va_S.rf
  refine entryW [.ref (a 0), .int x1] (n := 2) (Nat.le_of_ble_eq_true rfl) (fun ls hl => ?_)
  have hl : lv_has ls 2 [(0, .ref (a 0)), (1, .int x1)] := hl
  unfold fX12_day at h
  refine lv_iload_n hx hb dX12_day_0 rfl (lv_at hl 1 rfl) ?_
  refine lv_if_ge (tgt := 6) hx hb dX12_day_1 (by decide) (fun c1 => ?_) (fun c1 => ?_)
  · have h := it_t c1 h
    refine lv_aload_n hx hb dX12_day_6 rfl (lv_at hl 0 rfl) ?_
    obtain ⟨σ3, hc_v2, h⟩ := bd_some h
    refine mcallQV (wf := (mW a cs)) (va_runV (As := []) (rest := []) ⟨hx, hb, hml, hown, hts⟩ (kX12_findPlan l D cs a σ F σ3 hc_v2 _) (cwV 0 hts gX12_day_X12_findPlan rfl rfl rfl (by decide +kernel) ⟨Nat.le_of_ble_eq_true rfl, Nat.le_of_ble_eq_true rfl⟩) (pQ_v hP hK hD (va_recv hK.1 hP (ci := 11) (q0 := 0) rfl rfl)) rfl rfl hl.1 rfl (lv_room (Nat.le_of_ble_eq_true rfl)) dX12_day_7 ⟨Nat.zero_le _, Nat.zero_le _⟩) hD hS hA (fun H locs hP hD hS => ?_)
    refine lv_aload_n hx hb dX12_day_10 rfl (lv_at hl 0 rfl) ?_
    refine va_get (D := D) (ci := 11) (v := .int (σ3 16 0)) (C := RX12) (T := TX12) (N := 27) hx hb hts inX12_X12_day hown hK.1 hP 0 rfl rfl 16 (by decide) (hts (.fieldLink RX12 170 "SandPalaceModel" "dayMany" "I") (by decide +kernel)) (fun _ h9 => h9) rfl dX12_day_11 ?_
    refine lv_if_ge (tgt := 22) hx hb dX12_day_14 (by decide) (fun c4 => ?_) (fun c4 => ?_)
    · have h := it_t c4 h
      refine lv_iload_n hx hb dX12_day_22 rfl (lv_at hl 1 rfl) ?_
      refine lv_aload_n hx hb dX12_day_23 rfl (lv_at hl 0 rfl) ?_
      refine va_get (D := D) (ci := 11) (v := .int (σ3 16 0)) (C := RX12) (T := TX12) (N := 27) hx hb hts inX12_X12_day hown hK.1 hP 0 rfl rfl 16 (by decide) (hts (.fieldLink RX12 170 "SandPalaceModel" "dayMany" "I") (by decide +kernel)) (fun _ h9 => h9) rfl dX12_day_24 ?_
      refine lv_icmp_ge (tgt := 39) hx hb dX12_day_27 (by decide) (fun c5 => ?_) (fun c5 => ?_)
      · have h := it_t c5 h
        refine lv_iconst (v := ((-1) : Int32)) hx hb dX12_day_39 (by decide) ?_
        exact mretQ hx hb hr hlk h hP hD hS dX12_day_40
      · have h := it_f c5 h
        refine lv_aload_n hx hb dX12_day_30 rfl (lv_at hl 0 rfl) ?_
        refine va_get (D := D) (ci := 11) (v := .ref (a 17)) (C := RX12) (T := TX12) (N := 27) hx hb hts inX12_X12_day hown hK.1 hP 0 rfl rfl 17 (by decide) (hts (.fieldLink RX12 54 "SandPalaceModel" "planned" "[I") (by decide +kernel)) (fun _ h9 => h9) rfl dX12_day_31 ?_
        refine lv_iload_n hx hb dX12_day_34 rfl (lv_at hl 1 rfl) ?_
        obtain ⟨v6, i_v6, e_v6, h⟩ := aI_some h
        refine miald hx hb hK.1 hP 14 0 rfl rfl i_v6 e_v6 dX12_day_35 ?_
        refine lv_goto (tgt := 40) hx hb dX12_day_36 (by decide) ?_
        exact mretQ hx hb hr hlk h hP hD hS dX12_day_40
    · have h := it_f c4 h
      refine lv_bipush (v := ((-4) : Int32)) hx hb dX12_day_17 (by decide) ?_
      refine lv_goto (tgt := 40) hx hb dX12_day_19 (by decide) ?_
      exact mretQ hx hb hr hlk h hP hD hS dX12_day_40
  · have h := it_f c1 h
    refine lv_iconst (v := ((-1) : Int32)) hx hb dX12_day_4 (by decide) ?_
    exact mretQ hx hb hr hlk h hP hD hS dX12_day_5
def fX12_poured_J80 (F : Nat) (kb : Int32 → Int32 → Int32 → (Nat → Nat → Int32) → Option (Int32 × (Nat → Nat → Int32))) (x1 : Int32) (x2 : Int32) (x3 : Int32) (x4 : Int32) (x5 : Int32) (σ : Nat → Nat → Int32) : Option (Int32 × (Nat → Nat → Int32)) :=
  aI (σ 17) 10 x4 fun v12 => kb (x2 ||| v12) (x3 + x5) (x4 + (1 : Int32)) σ
def fX12_poured_L27 (F : Nat) (x1 : Int32) (kx : (Nat → Nat → Int32) → Option (Int32 × (Nat → Nat → Int32))) : Nat → Int32 → Int32 → Int32 → (Nat → Nat → Int32) → Option (Int32 × (Nat → Nat → Int32))
  | 0, _, _, _, _ => none
  | n+1, x2, x3, x4, σ =>
    nb ((fun x2 x3 x4 σ => fX12_poured_L27 F x1 kx n x2 x3 x4 σ)) fun kb =>
    if (σ 16 0) ≤ x4 then (kx σ) else (aI (σ 17) 10 x4 fun v6 => bd (fX12_ones F v6) fun v7 => aI (σ 17) 10 x4 fun v8 => bd (fX12_canBeDay F σ v8 x2) fun (v9, σ10) => if v9 = 0 then (fX12_poured_J80 F kb x1 x2 x3 x4 v7 σ10) else (if (x3 + v7) ≤ x1 then (fX12_poured_J80 F kb x1 x2 x3 x4 v7 σ10) else (aI (σ10 18) 10 (x1 - x3) fun v13 => some (v13, σ10))))
def fX12_poured (F : Nat) (σ : Nat → Nat → Int32) (x1 : Int32) : Option (Int32 × (Nat → Nat → Int32)) :=
  if 0 ≤ x1 then (bd (fX12_findPlan F σ) fun σ3 => if 0 ≤ (σ3 16 0) then (fX12_poured_L27 F x1 (fun σ5 => some (((-1) : Int32), σ5)) F (0 : Int32) (0 : Int32) (0 : Int32) σ3) else (some (((-4) : Int32), σ3))) else (some (((-1) : Int32), σ))
abbrev rmX12_poured : Room := { frames := 3, cells := 0, slots := 0, locals := 77 }
theorem inX12_X12_poured : ∀ w ∈ wsX120, w ∈ wsX12_poured := by intro w h; simp only [wsX12_poured, List.mem_cons, List.mem_append]; simp only [h, true_or, or_true]
set_option maxHeartbeats 4000000 in
set_option maxRecDepth 100000 in
theorem wX12_poured_J80 {p : Program} {l : Launch} {e : Env} {s : State} {m : MethodId} {args : Array Value} {below : List Frame} {meth : Method} {c : Code} (C : cxt p s m args meth c cX12_poured 6 RX12 wsX12_poured (some .int)) {D : va_G} {cs : Nat → ClassId} {a : Nat → Nat} (hK : KK D cs s) {A : Nat → Prop} (hA : ∀ q, s.heap.size ≤ q → A q) (r : Int32) (u9 : Nat → Nat → Int32) (F : Nat) (kb : Int32 → Int32 → Int32 → (Nat → Nat → Int32) → Option (Int32 × (Nat → Nat → Int32))) (x1 : Int32) (x2 : Int32) (x3 : Int32) (x4 : Int32) (x5 : Int32) (hkb : ∀ (x2 : Int32) (x3 : Int32) (x4 : Int32) (σ : Nat → Nat → Int32) (H : Heap) (locs : List Loc) (ls : Array Slot), va_P D vwCl (mW a cs σ) H → va_D A (mW a cs σ) → va_S A s.heap H locs → lv_has ls 6 [(0, .ref (a 0)), (1, .int x1), (2, .int x2), (3, .int x3), (4, .int x4)] → kb x2 x3 x4 σ = some (r, u9) → W p l e rmX12_poured s m args below meth c H locs 0 0 (MQ below (va_Qi (fun x y => x = r ∧ y = u9) (qB D (mW a cs) A) A) args s 0 0 A) (F0 m 27 ls [])) (σ : Nat → Nat → Int32) (H : Heap) (locs : List Loc) (ls : Array Slot) (hP : va_P D vwCl (mW a cs σ) H) (hD : va_D A (mW a cs σ)) (hS : va_S A s.heap H locs) (hl : lv_has ls 6 [(0, .ref (a 0)), (1, .int x1), (2, .int x2), (3, .int x3), (4, .int x4), (5, .int x5)]) (h : fX12_poured_J80 F kb x1 x2 x3 x4 x5 σ = some (r, u9)) : W p l e rmX12_poured s m args below meth c H locs 0 0 (MQ below (va_Qi (fun x y => x = r ∧ y = u9) (qB D (mW a cs) A) A) args s 0 0 A) (F0 m 80 ls []) := by
  obtain ⟨hx, hb, hml, hown, hts, hr, hlk⟩ := id C
  unfold fX12_poured_J80 at h
  refine lv_iload_n hx hb dX12_poured_80 rfl (lv_at hl 3 rfl) ?_
  refine lv_iload hx hb dX12_poured_81 (lv_at hl 5 rfl) ?_
  refine lv_iadd hx hb dX12_poured_83 ?_
  refine lv_istore_n (lv' := [(3, .int (x3 + x5)), (0, .ref (a 0)), (1, .int x1), (2, .int x2), (4, .int x4), (5, .int x5)]) hx hb dX12_poured_84 rfl hl (by decide) rfl (fun ls hl => ?_)
  refine lv_iload_n hx hb dX12_poured_85 rfl (lv_at hl 3 rfl) ?_
  refine lv_aload_n hx hb dX12_poured_86 rfl (lv_at hl 1 rfl) ?_
  refine va_get (D := D) (ci := 11) (v := .ref (a 17)) (C := RX12) (T := TX12) (N := 27) hx hb hts inX12_X12_poured hown hK.1 hP 0 rfl rfl 17 (by decide) (hts (.fieldLink RX12 54 "SandPalaceModel" "planned" "[I") (by decide +kernel)) (fun _ h9 => h9) rfl dX12_poured_87 ?_
  refine lv_iload hx hb dX12_poured_90 (lv_at hl 4 rfl) ?_
  obtain ⟨v12, i_v12, e_v12, h⟩ := aI_some h
  refine miald hx hb hK.1 hP 14 0 rfl rfl i_v12 e_v12 dX12_poured_92 ?_
  refine lv_ior hx hb dX12_poured_93 ?_
  refine lv_istore_n (lv' := [(2, .int (x2 ||| v12)), (3, .int (x3 + x5)), (0, .ref (a 0)), (1, .int x1), (4, .int x4), (5, .int x5)]) hx hb dX12_poured_94 rfl hl (by decide) rfl (fun ls hl => ?_)
  refine lv_iinc (v := x4 + (1 : Int32)) (lv' := [(4, .int (x4 + (1 : Int32))), (2, .int (x2 ||| v12)), (3, .int (x3 + x5)), (0, .ref (a 0)), (1, .int x1), (5, .int x5)]) hx hb dX12_poured_95 hl (k := 4) rfl rfl (by decide) rfl (fun ls hl => ?_)
  refine lv_goto (tgt := 27) hx hb dX12_poured_98 (by decide) ?_
  exact hkb (x2 ||| v12) (x3 + x5) (x4 + (1 : Int32)) σ _ _ ls hP hD hS (lv_sub hl [3, 4, 1, 2, 0] rfl) h
set_option maxHeartbeats 4000000 in
set_option maxRecDepth 100000 in
theorem wX12_poured_L27 {p : Program} {l : Launch} {e : Env} {s : State} {m : MethodId} {args : Array Value} {below : List Frame} {meth : Method} {c : Code} (C : cxt p s m args meth c cX12_poured 6 RX12 wsX12_poured (some .int)) {D : va_G} {cs : Nat → ClassId} {a : Nat → Nat} (hK : KK D cs s) {A : Nat → Prop} (hA : ∀ q, s.heap.size ≤ q → A q) (r : Int32) (u9 : Nat → Nat → Int32) (F : Nat) (x1 : Int32) (kx : (Nat → Nat → Int32) → Option (Int32 × (Nat → Nat → Int32))) (hkx : ∀ (σ : Nat → Nat → Int32) (H : Heap) (locs : List Loc) (ls : Array Slot), va_P D vwCl (mW a cs σ) H → va_D A (mW a cs σ) → va_S A s.heap H locs → lv_has ls 6 [] → kx σ = some (r, u9) → W p l e rmX12_poured s m args below meth c H locs 0 0 (MQ below (va_Qi (fun x y => x = r ∧ y = u9) (qB D (mW a cs) A) A) args s 0 0 A) (F0 m 101 ls [])) : ∀ (n : Nat) (x2 : Int32) (x3 : Int32) (x4 : Int32) (σ : Nat → Nat → Int32) (H : Heap) (locs : List Loc) (ls : Array Slot), va_P D vwCl (mW a cs σ) H → va_D A (mW a cs σ) → va_S A s.heap H locs → lv_has ls 6 [(0, .ref (a 0)), (1, .int x1), (2, .int x2), (3, .int x3), (4, .int x4)] → fX12_poured_L27 F x1 kx n x2 x3 x4 σ = some (r, u9) → W p l e rmX12_poured s m args below meth c H locs 0 0 (MQ below (va_Qi (fun x y => x = r ∧ y = u9) (qB D (mW a cs) A) A) args s 0 0 A) (F0 m 27 ls []) := by
  obtain ⟨hx, hb, hml, hown, hts, hr, hlk⟩ := id C
  intro n
  induction n with
  | zero =>
    intros
    rename_i h
    cases h
  | succ n ih =>
    intro x2 x3 x4 σ H locs ls hP hD hS hl h
    rw [fX12_poured_L27] at h
    obtain ⟨kb, hkb, h⟩ := nb_some (P := fun (kb : Int32 → Int32 → Int32 → (Nat → Nat → Int32) → Option (Int32 × (Nat → Nat → Int32))) => ∀ (x2 : Int32) (x3 : Int32) (x4 : Int32) (σ : Nat → Nat → Int32) (H : Heap) (locs : List Loc) (ls : Array Slot), va_P D vwCl (mW a cs σ) H → va_D A (mW a cs σ) → va_S A s.heap H locs → lv_has ls 6 [(0, .ref (a 0)), (1, .int x1), (2, .int x2), (3, .int x3), (4, .int x4)] → kb x2 x3 x4 σ = some (r, u9) → W p l e rmX12_poured s m args below meth c H locs 0 0 (MQ below (va_Qi (fun x y => x = r ∧ y = u9) (qB D (mW a cs) A) A) args s 0 0 A) (F0 m 27 ls [])) h ih
    refine lv_iload hx hb dX12_poured_27 (lv_at hl 4 rfl) ?_
    refine lv_aload_n hx hb dX12_poured_29 rfl (lv_at hl 0 rfl) ?_
    refine va_get (D := D) (ci := 11) (v := .int (σ 16 0)) (C := RX12) (T := TX12) (N := 27) hx hb hts inX12_X12_poured hown hK.1 hP 0 rfl rfl 16 (by decide) (hts (.fieldLink RX12 170 "SandPalaceModel" "dayMany" "I") (by decide +kernel)) (fun _ h9 => h9) rfl dX12_poured_30 ?_
    refine lv_icmp_ge (tgt := 101) hx hb dX12_poured_33 (by decide) (fun c5 => ?_) (fun c5 => ?_)
    · have h := it_t c5 h
      exact hkx σ _ _ ls hP hD hS (lv_sub hl [] rfl) h
    · have h := it_f c5 h
      refine lv_aload_n hx hb dX12_poured_36 rfl (lv_at hl 0 rfl) ?_
      refine va_get (D := D) (ci := 11) (v := .ref (a 17)) (C := RX12) (T := TX12) (N := 27) hx hb hts inX12_X12_poured hown hK.1 hP 0 rfl rfl 17 (by decide) (hts (.fieldLink RX12 54 "SandPalaceModel" "planned" "[I") (by decide +kernel)) (fun _ h9 => h9) rfl dX12_poured_37 ?_
      refine lv_iload hx hb dX12_poured_40 (lv_at hl 4 rfl) ?_
      obtain ⟨v6, i_v6, e_v6, h⟩ := aI_some h
      refine miald hx hb hK.1 hP 14 0 rfl rfl i_v6 e_v6 dX12_poured_42 ?_
      obtain ⟨v7, hc_v7, h⟩ := bd_some h
      refine mcallS (va_runS (As := [.int v6]) (rest := []) ⟨hx, hb, hml, hown, hts⟩ (kX12_ones l F v6 v7 hc_v7) (va_cwS 1 hts gX12_poured_X12_ones rfl rfl rfl (by decide +kernel) ⟨Nat.le_of_ble_eq_true rfl, Nat.le_of_ble_eq_true rfl⟩) p0_s rfl rfl hl.1 rfl (lv_room (Nat.le_of_ble_eq_true rfl)) dX12_poured_43 ⟨Nat.zero_le _, Nat.zero_le _⟩) ?_
      refine lv_istore (lv' := [(5, .int v7), (0, .ref (a 0)), (1, .int x1), (2, .int x2), (3, .int x3), (4, .int x4)]) hx hb dX12_poured_46 hl (by decide) rfl (fun ls hl => ?_)
      refine lv_aload_n hx hb dX12_poured_48 rfl (lv_at hl 1 rfl) ?_
      refine lv_aload_n hx hb dX12_poured_49 rfl (lv_at hl 1 rfl) ?_
      refine va_get (D := D) (ci := 11) (v := .ref (a 17)) (C := RX12) (T := TX12) (N := 27) hx hb hts inX12_X12_poured hown hK.1 hP 0 rfl rfl 17 (by decide) (hts (.fieldLink RX12 54 "SandPalaceModel" "planned" "[I") (by decide +kernel)) (fun _ h9 => h9) rfl dX12_poured_50 ?_
      refine lv_iload hx hb dX12_poured_53 (lv_at hl 5 rfl) ?_
      obtain ⟨v8, i_v8, e_v8, h⟩ := aI_some h
      refine miald hx hb hK.1 hP 14 0 rfl rfl i_v8 e_v8 dX12_poured_55 ?_
      refine lv_iload_n hx hb dX12_poured_56 rfl (lv_at hl 3 rfl) ?_
      obtain ⟨⟨v9, σ10⟩, hc_v9, h⟩ := bd_some h
      refine mcallQZ (wf := (mW a cs)) (va_runV (As := [.int v8, .int x2]) (rest := []) ⟨hx, hb, hml, hown, hts⟩ (kX12_canBeDay l D cs a σ F v8 x2 v9 σ10 hc_v9 _) (cwV 2 hts gX12_poured_X12_canBeDay rfl rfl rfl (by decide +kernel) ⟨Nat.le_of_ble_eq_true rfl, Nat.le_of_ble_eq_true rfl⟩) (pQ_v hP hK hD (va_recv hK.1 hP (ci := 11) (q0 := 0) rfl rfl)) rfl rfl hl.1 rfl (lv_room (Nat.le_of_ble_eq_true rfl)) dX12_poured_57 ⟨Nat.zero_le _, Nat.zero_le _⟩) hD hS hA (fun z_v9 H locs hP hD hS => ?_)
      refine lv_if_eq (tgt := 80) hx hb dX12_poured_60 (by decide) (fun c11 => ?_) (fun c11 => ?_)
      · have h := it_t c11 h
        exact wX12_poured_J80 C hK hA r u9 F kb x1 x2 x3 x4 v7 hkb σ10 _ _ ls hP hD hS (lv_sub hl [1, 2, 3, 4, 5, 0] rfl) h
      · have h := it_f c11 h
        refine lv_iload_n hx hb dX12_poured_63 rfl (lv_at hl 2 rfl) ?_
        refine lv_iload_n hx hb dX12_poured_64 rfl (lv_at hl 4 rfl) ?_
        refine lv_iload hx hb dX12_poured_65 (lv_at hl 0 rfl) ?_
        refine lv_iadd hx hb dX12_poured_67 ?_
        refine lv_icmp_ge (tgt := 80) hx hb dX12_poured_68 (by decide) (fun c12 => ?_) (fun c12 => ?_)
        · have h := it_t c12 h
          exact wX12_poured_J80 C hK hA r u9 F kb x1 x2 x3 x4 v7 hkb σ10 _ _ ls hP hD hS (lv_sub hl [1, 2, 3, 4, 5, 0] rfl) h
        · have h := it_f c12 h
          refine lv_aload_n hx hb dX12_poured_71 rfl (lv_at hl 1 rfl) ?_
          refine va_get (D := D) (ci := 11) (v := .ref (a 18)) (C := RX12) (T := TX12) (N := 27) hx hb hts inX12_X12_poured hown hK.1 hP 0 rfl rfl 18 (by decide) (hts (.fieldLink RX12 57 "SandPalaceModel" "row" "[I") (by decide +kernel)) (fun _ h9 => h9) rfl dX12_poured_72 ?_
          refine lv_iload_n hx hb dX12_poured_75 rfl (lv_at hl 2 rfl) ?_
          refine lv_iload_n hx hb dX12_poured_76 rfl (lv_at hl 4 rfl) ?_
          refine lv_isub hx hb dX12_poured_77 ?_
          obtain ⟨v13, i_v13, e_v13, h⟩ := aI_some h
          refine miald hx hb hK.1 hP 15 0 rfl rfl i_v13 e_v13 dX12_poured_78 ?_
          exact mretQ hx hb hr hlk h hP hD hS dX12_poured_79
set_option maxHeartbeats 4000000 in
set_option maxRecDepth 100000 in
theorem kX12_poured (l : Launch) (D : va_G) (cs : Nat → ClassId) (a : Nat → Nat) (σ : Nat → Nat → Int32) (F : Nat) (x1 : Int32) (r : Int32) (u9 : Nat → Nat → Int32) (h : fX12_poured F σ x1 = some (r, u9)) (sz : Nat) : Met l yX12_poured wsX12_poured rmX12_poured (va_Pc [.ref (a 0), .int x1] (pQ D cs (mW a cs σ) sz)) (va_Qi (fun x y => x = r ∧ y = u9) (qB D (mW a cs) (va_A (mW a cs σ) sz)) (va_A (mW a cs σ) sz)) 0 0 (va_A (mW a cs σ) sz) := by
  refine Met.ofW (cc := cX12_poured) (maxL := 6) (ret := (some .int)) (by decide) rfl ?_
  intro p e s m args below meth c s₁ B hml hv
  obtain ⟨rfl, hsz, hP, hK, hD0⟩ := hv
  have C : cxt p s m _ meth c cX12_poured 6 RX12 wsX12_poured (some .int) := ⟨B.exec, B.bytes, hml, findClass_of_methodNamed B.named, atoms_spec (ws := wsX12_poured) B.pre, B.returns, B.notSynchronized⟩
  obtain ⟨hx, hb, -, hown, hts, hr, hlk⟩ := id C
  subst hsz
  have hD := hD0.self (sz := s.heap.size)
  generalize hAe : va_A (mW a cs σ) s.heap.size = A at hD ⊢
  have hA : ∀ q : Nat, s.heap.size ≤ q → A q := fun q h => by rw [← hAe]; exact Or.inr h
  have hS : va_S A s.heap s.heap [] := va_S.rf
  refine entryW [.ref (a 0), .int x1] (n := 6) (Nat.le_of_ble_eq_true rfl) (fun ls hl => ?_)
  have hl : lv_has ls 6 [(0, .ref (a 0)), (1, .int x1)] := hl
  unfold fX12_poured at h
  refine lv_iload_n hx hb dX12_poured_0 rfl (lv_at hl 1 rfl) ?_
  refine lv_if_ge (tgt := 6) hx hb dX12_poured_1 (by decide) (fun c1 => ?_) (fun c1 => ?_)
  · have h := it_t c1 h
    refine lv_aload_n hx hb dX12_poured_6 rfl (lv_at hl 0 rfl) ?_
    obtain ⟨σ3, hc_v2, h⟩ := bd_some h
    refine mcallQV (wf := (mW a cs)) (va_runV (As := []) (rest := []) ⟨hx, hb, hml, hown, hts⟩ (kX12_findPlan l D cs a σ F σ3 hc_v2 _) (cwV 0 hts gX12_poured_X12_findPlan rfl rfl rfl (by decide +kernel) ⟨Nat.le_of_ble_eq_true rfl, Nat.le_of_ble_eq_true rfl⟩) (pQ_v hP hK hD (va_recv hK.1 hP (ci := 11) (q0 := 0) rfl rfl)) rfl rfl hl.1 rfl (lv_room (Nat.le_of_ble_eq_true rfl)) dX12_poured_7 ⟨Nat.zero_le _, Nat.zero_le _⟩) hD hS hA (fun H locs hP hD hS => ?_)
    refine lv_aload_n hx hb dX12_poured_10 rfl (lv_at hl 0 rfl) ?_
    refine va_get (D := D) (ci := 11) (v := .int (σ3 16 0)) (C := RX12) (T := TX12) (N := 27) hx hb hts inX12_X12_poured hown hK.1 hP 0 rfl rfl 16 (by decide) (hts (.fieldLink RX12 170 "SandPalaceModel" "dayMany" "I") (by decide +kernel)) (fun _ h9 => h9) rfl dX12_poured_11 ?_
    refine lv_if_ge (tgt := 20) hx hb dX12_poured_14 (by decide) (fun c4 => ?_) (fun c4 => ?_)
    · have h := it_t c4 h
      refine lv_iconst (v := (0 : Int32)) hx hb dX12_poured_20 (by decide) ?_
      refine lv_istore_n (lv' := [(2, .int (0 : Int32)), (0, .ref (a 0)), (1, .int x1)]) hx hb dX12_poured_21 rfl hl (by decide) rfl (fun ls hl => ?_)
      refine lv_iconst (v := (0 : Int32)) hx hb dX12_poured_22 (by decide) ?_
      refine lv_istore_n (lv' := [(3, .int (0 : Int32)), (2, .int (0 : Int32)), (0, .ref (a 0)), (1, .int x1)]) hx hb dX12_poured_23 rfl hl (by decide) rfl (fun ls hl => ?_)
      refine lv_iconst (v := (0 : Int32)) hx hb dX12_poured_24 (by decide) ?_
      refine lv_istore (lv' := [(4, .int (0 : Int32)), (3, .int (0 : Int32)), (2, .int (0 : Int32)), (0, .ref (a 0)), (1, .int x1)]) hx hb dX12_poured_25 hl (by decide) rfl (fun ls hl => ?_)
      refine wX12_poured_L27 C hK hA r u9 F x1 _ ?_ F (0 : Int32) (0 : Int32) (0 : Int32) σ3 _ _ ls hP hD hS (lv_sub hl [3, 4, 2, 1, 0] rfl) h
      intro σ5 H locs ls hP hD hS hl h
      refine lv_iconst (v := ((-1) : Int32)) hx hb dX12_poured_101 (by decide) ?_
      exact mretQ hx hb hr hlk h hP hD hS dX12_poured_102
    · have h := it_f c4 h
      refine lv_bipush (v := ((-4) : Int32)) hx hb dX12_poured_17 (by decide) ?_
      exact mretQ hx hb hr hlk h hP hD hS dX12_poured_19
  · have h := it_f c1 h
    refine lv_iconst (v := ((-1) : Int32)) hx hb dX12_poured_4 (by decide) ?_
    exact mretQ hx hb hr hlk h hP hD hS dX12_poured_5
