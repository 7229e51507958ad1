def fX12_sign (F : Nat) (σ : Nat → Nat → Int32) (x1 : Int32) (x2 : Int32) (x3 : Int32) (x4 : Int32) (x5 : Int32) (x6 : Int32) : Option (Int32 × (Nat → Nat → Int32)) :=
  bd (fX12_isColour x1) fun v1 => if v1 = 0 then (some (((-1) : Int32), σ)) else (bd (fX12_isPlaces x2 x3 x4 x5) fun v3 => if v3 = 0 then (some (((-1) : Int32), σ)) else (bd (fX12_in x6.toInt64 (0 : Int64) (8 : Int64)) fun v5 => if v5 = 0 then (some (((-1) : Int32), σ)) else (bd (fX12_add F σ (4 : Int32) x1 x2 x3 x4 x5 x6) fun (v7, σ8) => some (v7, σ8))))
abbrev rmX12_sign : Room := { frames := 4, cells := 0, slots := 0, locals := 108 }
set_option maxHeartbeats 4000000 in
set_option maxRecDepth 100000 in
theorem kX12_sign (l : Launch) (D : va_G) (cs : Nat → ClassId) (a : Nat → Nat) (σ : Nat → Nat → Int32) (F : Nat) (x1 : Int32) (x2 : Int32) (x3 : Int32) (x4 : Int32) (x5 : Int32) (x6 : Int32) (r : Int32) (u9 : Nat → Nat → Int32) (h : fX12_sign F σ x1 x2 x3 x4 x5 x6 = some (r, u9)) (sz : Nat) : Met l yX12_sign wsX12_sign rmX12_sign (va_Pc [.ref (a 0), .int x1, .int x2, .int x3, .int x4, .int x5, .int x6] (pQ D cs (mW a cs σ) sz)) (va_Qi (fun x y => x = r ∧ y = u9) (qB D (mW a cs) (va_A (mW a cs σ) sz)) (va_A (mW a cs σ) sz)) 0 0 (va_A (mW a cs σ) sz) := by
  refine Met.ofW (cc := cX12_sign) (maxL := 7) (ret := (some .int)) (by decide) rfl ?_
  intro p e s m args below meth c s₁ B hml hv
  obtain ⟨rfl, hsz, hP, hK, hD0⟩ := hv
  have C : cxt p s m _ meth c cX12_sign 7 RX12 wsX12_sign (some .int) := ⟨B.exec, B.bytes, hml, findClass_of_methodNamed B.named, atoms_spec (ws := wsX12_sign) B.pre, B.returns, B.notSynchronized⟩
  obtain ⟨hx, hb, -, hown, hts, hr, hlk⟩ := id C
  subst hsz
  have hD := hD0.self (sz := s.heap.size)
  generalize hAe : va_A (mW a cs σ) s.heap.size = A at hD ⊢
  have hA : ∀ q : Nat, s.heap.size ≤ q → A q := fun q h => by rw [← hAe]; exact Or.inr h
  have hS : va_S A s.heap s.heap [] := va_S.rf
  refine entryW [.ref (a 0), .int x1, .int x2, .int x3, .int x4, .int x5, .int x6] (n := 7) (Nat.le_of_ble_eq_true rfl) (fun ls hl => ?_)
  have hl : lv_has ls 7 [(0, .ref (a 0)), (1, .int x1), (2, .int x2), (3, .int x3), (4, .int x4), (5, .int x5), (6, .int x6)] := hl
  unfold fX12_sign at h
  refine lv_iload_n hx hb dX12_sign_0 rfl (lv_at hl 1 rfl) ?_
  obtain ⟨v1, hc_v1, h⟩ := bd_some h
  refine mcallSZ (va_runS (As := [.int x1]) (rest := []) ⟨hx, hb, hml, hown, hts⟩ (kX12_isColour l x1 v1 hc_v1) (va_cwS 1 hts gX12_sign_X12_isColour rfl rfl rfl (by decide +kernel) ⟨Nat.le_of_ble_eq_true rfl, Nat.le_of_ble_eq_true rfl⟩) p0_s rfl rfl hl.1 rfl (lv_room (Nat.le_of_ble_eq_true rfl)) dX12_sign_1 ⟨Nat.zero_le _, Nat.zero_le _⟩) (fun z_v1 => ?_)
  refine lv_if_eq (tgt := 49) hx hb dX12_sign_4 (by decide) (fun c2 => ?_) (fun c2 => ?_)
  · have h := it_t c2 h
    refine lv_iconst (v := ((-1) : Int32)) hx hb dX12_sign_49 (by decide) ?_
    exact mretQ hx hb hr hlk h hP hD hS dX12_sign_50
  · have h := it_f c2 h
    refine lv_iload_n hx hb dX12_sign_7 rfl (lv_at hl 2 rfl) ?_
    refine lv_iload_n hx hb dX12_sign_8 rfl (lv_at hl 3 rfl) ?_
    refine lv_iload hx hb dX12_sign_9 (lv_at hl 4 rfl) ?_
    refine lv_iload hx hb dX12_sign_11 (lv_at hl 5 rfl) ?_
    obtain ⟨v3, hc_v3, h⟩ := bd_some h
    refine mcallSZ (va_runS (As := [.int x2, .int x3, .int x4, .int x5]) (rest := []) ⟨hx, hb, hml, hown, hts⟩ (kX12_isPlaces l x2 x3 x4 x5 v3 hc_v3) (va_cwS 4 hts gX12_sign_X12_isPlaces rfl rfl rfl (by decide +kernel) ⟨Nat.le_of_ble_eq_true rfl, Nat.le_of_ble_eq_true rfl⟩) p0_s rfl rfl hl.1 rfl (lv_room (Nat.le_of_ble_eq_true rfl)) dX12_sign_13 ⟨Nat.zero_le _, Nat.zero_le _⟩) (fun z_v3 => ?_)
    refine lv_if_eq (tgt := 49) hx hb dX12_sign_16 (by decide) (fun c4 => ?_) (fun c4 => ?_)
    · have h := it_t c4 h
      refine lv_iconst (v := ((-1) : Int32)) hx hb dX12_sign_49 (by decide) ?_
      exact mretQ hx hb hr hlk h hP hD hS dX12_sign_50
    · have h := it_f c4 h
      refine lv_iload hx hb dX12_sign_19 (lv_at hl 6 rfl) ?_
      refine lv_i2l hx hb dX12_sign_21 rfl ?_
      refine lv_lconst (v := (0 : Int64)) hx hb dX12_sign_22 (by decide) ?_
      refine lv_ldc2 hx hb hown (hts (.constantLong RX12 132 (8)) (by decide +kernel)) dX12_sign_23 ?_
      obtain ⟨v5, hc_v5, h⟩ := bd_some h
      refine mcallSZ (va_runS (As := [.long x6.toInt64, .long (0 : Int64), .long (8 : Int64)]) (rest := []) ⟨hx, hb, hml, hown, hts⟩ (kX12_in l x6.toInt64 (0 : Int64) (8 : Int64) v5 hc_v5) (va_cwS 3 hts gX12_sign_X12_in rfl rfl rfl (by decide +kernel) ⟨Nat.le_of_ble_eq_true rfl, Nat.le_of_ble_eq_true rfl⟩) p0_s rfl rfl hl.1 rfl (lv_room (Nat.le_of_ble_eq_true rfl)) dX12_sign_26 ⟨Nat.zero_le _, Nat.zero_le _⟩) (fun z_v5 => ?_)
      refine lv_if_eq (tgt := 49) hx hb dX12_sign_29 (by decide) (fun c6 => ?_) (fun c6 => ?_)
      · have h := it_t c6 h
        refine lv_iconst (v := ((-1) : Int32)) hx hb dX12_sign_49 (by decide) ?_
        exact mretQ hx hb hr hlk h hP hD hS dX12_sign_50
      · have h := it_f c6 h
        refine lv_aload_n hx hb dX12_sign_32 rfl (lv_at hl 0 rfl) ?_
        refine lv_iconst (v := (4 : Int32)) hx hb dX12_sign_33 (by decide) ?_
        refine lv_iload_n hx hb dX12_sign_34 rfl (lv_at hl 1 rfl) ?_
        refine lv_iload_n hx hb dX12_sign_35 rfl (lv_at hl 2 rfl) ?_
        refine lv_iload_n hx hb dX12_sign_36 rfl (lv_at hl 3 rfl) ?_
        refine lv_iload hx hb dX12_sign_37 (lv_at hl 4 rfl) ?_
        refine lv_iload hx hb dX12_sign_39 (lv_at hl 5 rfl) ?_
        refine lv_iload hx hb dX12_sign_41 (lv_at hl 6 rfl) ?_
        obtain ⟨⟨v7, σ8⟩, hc_v7, h⟩ := bd_some h
        refine mcallQ (wf := (mW a cs)) (va_runV (As := [.int (4 : Int32), .int x1, .int x2, .int x3, .int x4, .int x5, .int x6]) (rest := []) ⟨hx, hb, hml, hown, hts⟩ (kX12_add l D cs a σ F (4 : Int32) x1 x2 x3 x4 x5 x6 v7 σ8 hc_v7 _) (cwV 7 hts gX12_sign_X12_add rfl rfl rfl (by decide +kernel) ⟨Nat.le_of_ble_eq_true rfl, Nat.le_of_ble_eq_true rfl⟩) (pQ_v hP hK hD (va_recv hK.1 hP (ci := 11) (q0 := 0) rfl rfl)) rfl rfl hl.1 rfl (lv_room (Nat.le_of_ble_eq_true rfl)) dX12_sign_43 ⟨Nat.zero_le _, Nat.zero_le _⟩) hD hS hA (fun H locs hP hD hS => ?_)
        refine lv_goto (tgt := 50) hx hb dX12_sign_46 (by decide) ?_
        exact mretQ hx hb hr hlk h hP hD hS dX12_sign_50
def fX12_undo_J60 (F : Nat) (kb : Int32 → (Nat → Nat → Int32) → Option (Int32 × (Nat → Nat → Int32))) (x1 : Int32) (t0 : Int32) (t1 : Int32) (σ : Nat → Nat → Int32) : Option (Int32 × (Nat → Nat → Int32)) :=
  aS 10 t1 (nm (sg σ 11 (upd (σ 11) t1.toNatClampNeg t0)) fun σ7 => kb (x1 + (1 : Int32)) σ7)
def fX12_undo_L22 (F : Nat) (kx : (Nat → Nat → Int32) → Option (Int32 × (Nat → Nat → Int32))) : Nat → Int32 → (Nat → Nat → Int32) → Option (Int32 × (Nat → Nat → Int32))
  | 0, _, _ => none
  | n+1, x1, σ =>
    nb ((fun x1 σ => fX12_undo_L22 F kx n x1 σ)) fun kb =>
    if (10 : Int32) ≤ x1 then (kx σ) else (if ¬ x1 = (σ 0 0) then (aI (σ 11) 10 x1 fun v5 => fX12_undo_J60 F kb x1 (v5 &&& (((1 : Int32) <<< ((σ 0 0) &&& 31)) ^^^ ((-1) : Int32))) x1 σ) else (fX12_undo_J60 F kb x1 (0 : Int32) x1 σ))
def fX12_undo (F : Nat) (σ : Nat → Nat → Int32)  : Option (Int32 × (Nat → Nat → Int32)) :=
  if ¬ (σ 0 0) = 0 then (nm (sg σ 0 (fun _ => (σ 0 0) - (1 : Int32))) fun σ2 => fX12_undo_L22 F (fun σ3 => nm (sg σ3 13 (fun _ => (0 : Int32))) fun σ4 => some (σ4 0 0, σ4)) F (0 : Int32) σ2) else (some (((-2) : Int32), σ))
abbrev rmX12_undo : Room := { frames := 0, cells := 0, slots := 0, locals := 0 }
theorem inX12_X12_undo : ∀ w ∈ wsX120, w ∈ wsX12_undo := by intro w h; simp only [wsX12_undo, List.mem_cons, List.mem_append]; simp only [h, true_or, or_true]
set_option maxHeartbeats 4000000 in
set_option maxRecDepth 100000 in
theorem wX12_undo_J60 {p : Program} {l : Launch} {e : Env} {s : State} {m : MethodId} {args : Array Value} {below : List Frame} {meth : Method} {c : Code} (C : cxt p s m args meth c cX12_undo 2 RX12 wsX12_undo (some .int)) {D : va_G} {cs : Nat → ClassId} {a : Nat → Nat} (hK : KK D cs s) {A : Nat → Prop} (hA : ∀ q, s.heap.size ≤ q → A q) (r : Int32) (u9 : Nat → Nat → Int32) (F : Nat) (kb : Int32 → (Nat → Nat → Int32) → Option (Int32 × (Nat → Nat → Int32))) (x1 : Int32) (t0 : Int32) (t1 : Int32) (hkb : ∀ (x1 : Int32) (σ : Nat → Nat → Int32) (H : Heap) (locs : List Loc) (ls : Array Slot), va_P D vwCl (mW a cs σ) H → va_D A (mW a cs σ) → va_S A s.heap H locs → lv_has ls 2 [(0, .ref (a 0)), (1, .int x1)] → kb x1 σ = some (r, u9) → W p l e rmX12_undo s m args below meth c H locs 0 0 (MQ below (va_Qi (fun x y => x = r ∧ y = u9) (qB D (mW a cs) A) A) args s 0 0 A) (F0 m 22 ls [])) (σ : Nat → Nat → Int32) (H : Heap) (locs : List Loc) (ls : Array Slot) (hP : va_P D vwCl (mW a cs σ) H) (hD : va_D A (mW a cs σ)) (hS : va_S A s.heap H locs) (hl : lv_has ls 2 [(0, .ref (a 0)), (1, .int x1)]) (h : fX12_undo_J60 F kb x1 t0 t1 σ = some (r, u9)) : W p l e rmX12_undo s m args below meth c H locs 0 0 (MQ below (va_Qi (fun x y => x = r ∧ y = u9) (qB D (mW a cs) A) A) args s 0 0 A) (F0 m 60 ls [.int t0, .int t1, .ref (a 11)]) := by
  obtain ⟨hx, hb, hml, hown, hts, hr, hlk⟩ := id C
  unfold fX12_undo_J60 at h
  obtain ⟨i6, h⟩ := aS_some h
  refine va_iast hx hb hK.1 hP hD hS 11 0 rfl rfl i6 dX12_undo_60 (fun H locs hP hD hS => ?_)
  obtain ⟨σ7, e_σ7, h⟩ := nm_some h
  have hP : va_P D vwCl (mW a cs σ7) H := by rw [← e_σ7]; exact hP
  have hD : va_D A (mW a cs σ7) := by rw [← e_σ7]; exact hD
  refine lv_iinc (v := x1 + (1 : Int32)) (lv' := [(1, .int (x1 + (1 : Int32))), (0, .ref (a 0))]) hx hb dX12_undo_61 hl (k := 1) rfl rfl (by decide) rfl (fun ls hl => ?_)
  refine lv_goto (tgt := 22) hx hb dX12_undo_64 (by decide) ?_
  exact hkb (x1 + (1 : Int32)) σ7 _ _ ls hP hD hS (lv_sub hl [1, 0] rfl) h
set_option maxHeartbeats 4000000 in
set_option maxRecDepth 100000 in
theorem wX12_undo_L22 {p : Program} {l : Launch} {e : Env} {s : State} {m : MethodId} {args : Array Value} {below : List Frame} {meth : Method} {c : Code} (C : cxt p s m args meth c cX12_undo 2 RX12 wsX12_undo (some .int)) {D : va_G} {cs : Nat → ClassId} {a : Nat → Nat} (hK : KK D cs s) {A : Nat → Prop} (hA : ∀ q, s.heap.size ≤ q → A q) (r : Int32) (u9 : Nat → Nat → Int32) (F : Nat) (kx : (Nat → Nat → Int32) → Option (Int32 × (Nat → Nat → Int32))) (hkx : ∀ (σ : Nat → Nat → Int32) (H : Heap) (locs : List Loc) (ls : Array Slot), va_P D vwCl (mW a cs σ) H → va_D A (mW a cs σ) → va_S A s.heap H locs → lv_has ls 2 [(0, .ref (a 0))] → kx σ = some (r, u9) → W p l e rmX12_undo s m args below meth c H locs 0 0 (MQ below (va_Qi (fun x y => x = r ∧ y = u9) (qB D (mW a cs) A) A) args s 0 0 A) (F0 m 67 ls [])) : ∀ (n : Nat) (x1 : Int32) (σ : Nat → Nat → Int32) (H : Heap) (locs : List Loc) (ls : Array Slot), va_P D vwCl (mW a cs σ) H → va_D A (mW a cs σ) → va_S A s.heap H locs → lv_has ls 2 [(0, .ref (a 0)), (1, .int x1)] → fX12_undo_L22 F kx n x1 σ = some (r, u9) → W p l e rmX12_undo s m args below meth c H locs 0 0 (MQ below (va_Qi (fun x y => x = r ∧ y = u9) (qB D (mW a cs) A) A) args s 0 0 A) (F0 m 22 ls []) := by
  obtain ⟨hx, hb, hml, hown, hts, hr, hlk⟩ := id C
  intro n
  induction n with
  | zero =>
    intros
    rename_i h
    cases h
  | succ n ih =>
    intro x1 σ H locs ls hP hD hS hl h
    rw [fX12_undo_L22] at h
    obtain ⟨kb, hkb, h⟩ := nb_some (P := fun (kb : Int32 → (Nat → Nat → Int32) → Option (Int32 × (Nat → Nat → Int32))) => ∀ (x1 : Int32) (σ : Nat → Nat → Int32) (H : Heap) (locs : List Loc) (ls : Array Slot), va_P D vwCl (mW a cs σ) H → va_D A (mW a cs σ) → va_S A s.heap H locs → lv_has ls 2 [(0, .ref (a 0)), (1, .int x1)] → kb x1 σ = some (r, u9) → W p l e rmX12_undo s m args below meth c H locs 0 0 (MQ below (va_Qi (fun x y => x = r ∧ y = u9) (qB D (mW a cs) A) A) args s 0 0 A) (F0 m 22 ls [])) h ih
    refine lv_iload_n hx hb dX12_undo_22 rfl (lv_at hl 1 rfl) ?_
    refine lv_bipush (v := (10 : Int32)) hx hb dX12_undo_23 (by decide) ?_
    refine lv_icmp_ge (tgt := 67) hx hb dX12_undo_25 (by decide) (fun c3 => ?_) (fun c3 => ?_)
    · have h := it_t c3 h
      exact hkx σ _ _ ls hP hD hS (lv_sub hl [0] rfl) h
    · have h := it_f c3 h
      refine lv_aload_n hx hb dX12_undo_28 rfl (lv_at hl 0 rfl) ?_
      refine va_get (D := D) (ci := 11) (v := .ref (a 11)) (C := RX12) (T := TX12) (N := 27) hx hb hts inX12_X12_undo hown hK.1 hP 0 rfl rfl 11 (by decide) (hts (.fieldLink RX12 41 "SandPalaceModel" "hems" "[I") (by decide +kernel)) (fun _ h9 => h9) rfl dX12_undo_29 ?_
      refine lv_iload_n hx hb dX12_undo_32 rfl (lv_at hl 1 rfl) ?_
      refine lv_iload_n hx hb dX12_undo_33 rfl (lv_at hl 1 rfl) ?_
      refine lv_aload_n hx hb dX12_undo_34 rfl (lv_at hl 0 rfl) ?_
      refine va_get (D := D) (ci := 11) (v := .int (σ 0 0)) (C := RX12) (T := TX12) (N := 27) hx hb hts inX12_X12_undo hown hK.1 hP 0 rfl rfl 0 (by decide) (hts (.fieldLink RX12 103 "SandPalaceModel" "shapes" "I") (by decide +kernel)) (fun _ h9 => h9) rfl dX12_undo_35 ?_
      refine lv_icmp_ne (tgt := 45) hx hb dX12_undo_38 (by decide) (fun c4 => ?_) (fun c4 => ?_)
      · have h := it_t c4 h
        refine lv_aload_n hx hb dX12_undo_45 rfl (lv_at hl 0 rfl) ?_
        refine va_get (D := D) (ci := 11) (v := .ref (a 11)) (C := RX12) (T := TX12) (N := 27) hx hb hts inX12_X12_undo hown hK.1 hP 0 rfl rfl 11 (by decide) (hts (.fieldLink RX12 41 "SandPalaceModel" "hems" "[I") (by decide +kernel)) (fun _ h9 => h9) rfl dX12_undo_46 ?_
        refine lv_iload_n hx hb dX12_undo_49 rfl (lv_at hl 1 rfl) ?_
        obtain ⟨v5, i_v5, e_v5, h⟩ := aI_some h
        refine miald hx hb hK.1 hP 11 0 rfl rfl i_v5 e_v5 dX12_undo_50 ?_
        refine lv_iconst (v := (1 : Int32)) hx hb dX12_undo_51 (by decide) ?_
        refine lv_aload_n hx hb dX12_undo_52 rfl (lv_at hl 0 rfl) ?_
        refine va_get (D := D) (ci := 11) (v := .int (σ 0 0)) (C := RX12) (T := TX12) (N := 27) hx hb hts inX12_X12_undo hown hK.1 hP 0 rfl rfl 0 (by decide) (hts (.fieldLink RX12 103 "SandPalaceModel" "shapes" "I") (by decide +kernel)) (fun _ h9 => h9) rfl dX12_undo_53 ?_
        refine lv_ishl hx hb dX12_undo_56 ?_
        refine lv_iconst (v := ((-1) : Int32)) hx hb dX12_undo_57 (by decide) ?_
        refine lv_ixor hx hb dX12_undo_58 ?_
        refine lv_iand hx hb dX12_undo_59 ?_
        exact wX12_undo_J60 C hK hA r u9 F kb x1 (v5 &&& (((1 : Int32) <<< ((σ 0 0) &&& 31)) ^^^ ((-1) : Int32))) x1 hkb σ _ _ ls hP hD hS (lv_sub hl [0, 1] rfl) h
      · have h := it_n c4 h
        refine lv_iconst (v := (0 : Int32)) hx hb dX12_undo_41 (by decide) ?_
        refine lv_goto (tgt := 60) hx hb dX12_undo_42 (by decide) ?_
        exact wX12_undo_J60 C hK hA r u9 F kb x1 (0 : Int32) x1 hkb σ _ _ ls hP hD hS (lv_sub hl [0, 1] rfl) h
set_option maxHeartbeats 4000000 in
set_option maxRecDepth 100000 in
theorem kX12_undo (l : Launch) (D : va_G) (cs : Nat → ClassId) (a : Nat → Nat) (σ : Nat → Nat → Int32) (F : Nat)  (r : Int32) (u9 : Nat → Nat → Int32) (h : fX12_undo F σ = some (r, u9)) (sz : Nat) : Met l yX12_undo wsX12_undo rmX12_undo (va_Pc [.ref (a 0)] (pQ D cs (mW a cs σ) sz)) (va_Qi (fun x y => x = r ∧ y = u9) (qB D (mW a cs) (va_A (mW a cs σ) sz)) (va_A (mW a cs σ) sz)) 0 0 (va_A (mW a cs σ) sz) := by
  refine Met.ofW (cc := cX12_undo) (maxL := 2) (ret := (some .int)) (by decide) rfl ?_
  intro p e s m args below meth c s₁ B hml hv
  obtain ⟨rfl, hsz, hP, hK, hD0⟩ := hv
  have C : cxt p s m _ meth c cX12_undo 2 RX12 wsX12_undo (some .int) := ⟨B.exec, B.bytes, hml, findClass_of_methodNamed B.named, atoms_spec (ws := wsX12_undo) B.pre, B.returns, B.notSynchronized⟩
  obtain ⟨hx, hb, -, hown, hts, hr, hlk⟩ := id C
  subst hsz
  have hD := hD0.self (sz := s.heap.size)
  generalize hAe : va_A (mW a cs σ) s.heap.size = A at hD ⊢
  have hA : ∀ q : Nat, s.heap.size ≤ q → A q := fun q h => by rw [← hAe]; exact Or.inr h
  have hS : va_S A s.heap s.heap [] := va_S.rf
  refine entryW [.ref (a 0)] (n := 2) (Nat.le_of_ble_eq_true rfl) (fun ls hl => ?_)
  have hl : lv_has ls 2 [(0, .ref (a 0))] := hl
  unfold fX12_undo at h
  refine lv_aload_n hx hb dX12_undo_0 rfl (lv_at hl 0 rfl) ?_
  refine va_get (D := D) (ci := 11) (v := .int (σ 0 0)) (C := RX12) (T := TX12) (N := 27) hx hb hts inX12_X12_undo hown hK.1 hP 0 rfl rfl 0 (by decide) (hts (.fieldLink RX12 103 "SandPalaceModel" "shapes" "I") (by decide +kernel)) (fun _ h9 => h9) rfl dX12_undo_1 ?_
  refine lv_if_ne (tgt := 10) hx hb dX12_undo_4 (by decide) (fun c1 => ?_) (fun c1 => ?_)
  · have h := it_t c1 h
    refine lv_aload_n hx hb dX12_undo_10 rfl (lv_at hl 0 rfl) ?_
    refine lv_dup hx hb dX12_undo_11 rfl ?_
    refine va_get (D := D) (ci := 11) (v := .int (σ 0 0)) (C := RX12) (T := TX12) (N := 27) hx hb hts inX12_X12_undo hown hK.1 hP 0 rfl rfl 0 (by decide) (hts (.fieldLink RX12 103 "SandPalaceModel" "shapes" "I") (by decide +kernel)) (fun _ h9 => h9) rfl dX12_undo_12 ?_
    refine lv_iconst (v := (1 : Int32)) hx hb dX12_undo_15 (by decide) ?_
    refine lv_isub hx hb dX12_undo_16 ?_
    refine va_put (D := D) (ci := 11) (v := .int ((σ 0 0) - (1 : Int32))) (ty := .int) (C := RX12) (T := TX12) (N := 27) hx hb hts inX12_X12_undo tyX12 tyX12_ok nmX12 hown hK.1 hP hD hS 0 rfl rfl 0 (by decide) (hts (.fieldLink RX12 103 "SandPalaceModel" "shapes" "I") (by decide +kernel)) (fun _ h9 => h9) rfl (by decide +kernel) rfl rfl (Nat.le_of_ble_eq_true rfl) dX12_undo_17 (fun H locs hP hD hS => ?_)
    obtain ⟨σ2, e_σ2, h⟩ := nm_some h
    have hP : va_P D vwCl (mW a cs σ2) H := by rw [← e_σ2]; exact hP
    have hD : va_D A (mW a cs σ2) := by rw [← e_σ2]; exact hD
    refine lv_iconst (v := (0 : Int32)) hx hb dX12_undo_20 (by decide) ?_
    refine lv_istore_n (lv' := [(1, .int (0 : Int32)), (0, .ref (a 0))]) hx hb dX12_undo_21 rfl hl (by decide) rfl (fun ls hl => ?_)
    refine wX12_undo_L22 C hK hA r u9 F  _ ?_ F (0 : Int32) σ2 _ _ ls hP hD hS (lv_sub hl [1, 0] rfl) h
    intro σ3 H locs ls hP hD hS hl h
    refine lv_aload_n hx hb dX12_undo_67 rfl (lv_at hl 0 rfl) ?_
    refine lv_iconst (v := (0 : Int32)) hx hb dX12_undo_68 (by decide) ?_
    refine va_put (D := D) (ci := 11) (v := .int (0 : Int32)) (ty := .boolean) (C := RX12) (T := TX12) (N := 27) hx hb hts inX12_X12_undo tyX12 tyX12_ok nmX12 hown hK.1 hP hD hS 0 rfl rfl 13 (by decide) (hts (.fieldLink RX12 110 "SandPalaceModel" "isPlanned" "Z") (by decide +kernel)) (fun _ h9 => h9) rfl (by decide +kernel) rfl rfl (Nat.le_of_ble_eq_true rfl) dX12_undo_69 (fun H locs hP hD hS => ?_)
    obtain ⟨σ4, e_σ4, h⟩ := nm_some h
    have hP : va_P D vwCl (mW a cs σ4) H := by rw [← e_σ4]; exact hP
    have hD : va_D A (mW a cs σ4) := by rw [← e_σ4]; exact hD
    refine lv_aload_n hx hb dX12_undo_72 rfl (lv_at hl 0 rfl) ?_
    refine va_get (D := D) (ci := 11) (v := .int (σ4 0 0)) (C := RX12) (T := TX12) (N := 27) hx hb hts inX12_X12_undo hown hK.1 hP 0 rfl rfl 0 (by decide) (hts (.fieldLink RX12 103 "SandPalaceModel" "shapes" "I") (by decide +kernel)) (fun _ h9 => h9) rfl dX12_undo_73 ?_
    exact mretQ hx hb hr hlk h hP hD hS dX12_undo_76
  · have h := it_n c1 h
    refine lv_bipush (v := ((-2) : Int32)) hx hb dX12_undo_7 (by decide) ?_
    exact mretQ hx hb hr hlk h hP hD hS dX12_undo_9
def fX12_isShape (σ : Nat → Nat → Int32) (x1 : Int32) : Option Int32 :=
  bd (fX12_in x1.toInt64 (0 : Int64) (((σ 0 0) - (1 : Int32)).toInt64)) fun v1 => some v1
abbrev rmX12_isShape : Room := { frames := 1, cells := 0, slots := 0, locals := 25 }
theorem inX12_X12_isShape : ∀ w ∈ wsX120, w ∈ wsX12_isShape := by intro w h; simp only [wsX12_isShape, List.mem_cons, List.mem_append]; simp only [h, true_or, or_true]
set_option maxHeartbeats 4000000 in
set_option maxRecDepth 100000 in
theorem kX12_isShape (l : Launch) (D : va_G) (cs : Nat → ClassId) (a : Nat → Nat) (σ : Nat → Nat → Int32) (x1 : Int32) (r : Int32) (h : fX12_isShape σ x1 = some r) : Met l yX12_isShape wsX12_isShape rmX12_isShape (va_Pc [.ref (a 0), .int x1] (pR D cs (mW a cs σ))) (vp_Si (fun x => x = r ∧ (r = 0 ∨ r = 1))) 0 0 (fun _ => False) := by
  refine Met.ofW (cc := cX12_isShape) (maxL := 2) (ret := (some .boolean)) (by decide) rfl ?_
  intro p e s m args below meth c s₁ B hml hv
  obtain ⟨rfl, hP, hK⟩ := hv
  have C : cxt p s m _ meth c cX12_isShape 2 RX12 wsX12_isShape (some .boolean) := ⟨B.exec, B.bytes, hml, findClass_of_methodNamed B.named, atoms_spec (ws := wsX12_isShape) B.pre, B.returns, B.notSynchronized⟩
  obtain ⟨hx, hb, -, hown, hts, hr, hlk⟩ := id C
  refine entryW [.ref (a 0), .int x1] (n := 2) (Nat.le_of_ble_eq_true rfl) (fun ls hl => ?_)
  have hl : lv_has ls 2 [(0, .ref (a 0)), (1, .int x1)] := hl
  unfold fX12_isShape at h
  refine lv_iload_n hx hb dX12_isShape_0 rfl (lv_at hl 1 rfl) ?_
  refine lv_i2l hx hb dX12_isShape_1 rfl ?_
  refine lv_lconst (v := (0 : Int64)) hx hb dX12_isShape_2 (by decide) ?_
  refine lv_aload_n hx hb dX12_isShape_3 rfl (lv_at hl 0 rfl) ?_
  refine va_get (D := D) (ci := 11) (v := .int (σ 0 0)) (C := RX12) (T := TX12) (N := 27) hx hb hts inX12_X12_isShape hown hK.1 hP 0 rfl rfl 0 (by decide) (hts (.fieldLink RX12 103 "SandPalaceModel" "shapes" "I") (by decide +kernel)) (fun _ h9 => h9) rfl dX12_isShape_4 ?_
  refine lv_iconst (v := (1 : Int32)) hx hb dX12_isShape_7 (by decide) ?_
  refine lv_isub hx hb dX12_isShape_8 ?_
  refine lv_i2l hx hb dX12_isShape_9 rfl ?_
  obtain ⟨v1, hc_v1, h⟩ := bd_some h
  refine mcallSZ (va_runS (As := [.long x1.toInt64, .long (0 : Int64), .long (((σ 0 0) - (1 : Int32)).toInt64)]) (rest := []) ⟨hx, hb, hml, hown, hts⟩ (kX12_in l x1.toInt64 (0 : Int64) (((σ 0 0) - (1 : Int32)).toInt64) v1 hc_v1) (va_cwS 3 hts gX12_isShape_X12_in rfl rfl rfl (by decide +kernel) ⟨Nat.le_of_ble_eq_true rfl, Nat.le_of_ble_eq_true rfl⟩) p0_s rfl rfl hl.1 rfl (lv_room (Nat.le_of_ble_eq_true rfl)) dX12_isShape_10 ⟨Nat.zero_le _, Nat.zero_le _⟩) (fun z_v1 => ?_)
  exact mretSZ hx hb hr hlk h z_v1 dX12_isShape_13
def fX12_comesAfter_J62 (F : Nat) (kb : Int32 → Option Int32) (x1 : Int32) (x2 : Int32) (x3 : Int32) (σ : Nat → Nat → Int32) : Option Int32 :=
  kb (x3 + (1 : Int32))
def fX12_comesAfter_L18 (F : Nat) (σ : Nat → Nat → Int32) (x1 : Int32) (x2 : Int32) (kx : Option Int32) : Nat → Int32 → Option Int32
  | 0, _ => none
  | n+1, x3 =>
    nb ((fun x3 => fX12_comesAfter_L18 F σ x1 x2 kx n x3)) fun kb =>
    if (256 : Int32) ≤ x3 then kx else (if x1 ≤ x2 then kx else (aI (σ 8) 2560 (((256 : Int32) * x1) + x3) fun v5 => if v5 = 0 then (fX12_comesAfter_J62 F kb x1 x2 x3 σ) else (aI (σ 8) 2560 (((256 : Int32) * x2) + x3) fun v7 => if v7 = 0 then (fX12_comesAfter_J62 F kb x1 x2 x3 σ) else (some (1 : Int32)))))
def fX12_comesAfter (F : Nat) (σ : Nat → Nat → Int32) (x1 : Int32) (x2 : Int32) : Option Int32 :=
  aI (σ 11) 10 x1 fun v1 => if ¬ ((v1 >>> (x2 &&& 31)) &&& (1 : Int32)) = (1 : Int32) then (fX12_comesAfter_L18 F σ x1 x2 (some (0 : Int32)) F (0 : Int32)) else (some (1 : Int32))
abbrev rmX12_comesAfter : Room := { frames := 0, cells := 0, slots := 0, locals := 0 }
theorem inX12_X12_comesAfter : ∀ w ∈ wsX120, w ∈ wsX12_comesAfter := by intro w h; simp only [wsX12_comesAfter, List.mem_cons, List.mem_append]; simp only [h, true_or, or_true]
set_option maxHeartbeats 4000000 in
set_option maxRecDepth 100000 in
theorem wX12_comesAfter_J62 {p : Program} {l : Launch} {e : Env} {s : State} {m : MethodId} {args : Array Value} {below : List Frame} {meth : Method} {c : Code} (C : cxt p s m args meth c cX12_comesAfter 4 RX12 wsX12_comesAfter (some .boolean)) {D : va_G} {cs : Nat → ClassId} {a : Nat → Nat} (hK : KK D cs s) {σ : Nat → Nat → Int32} (hP : va_P D vwCl (mW a cs σ) s.heap) (r : Int32) (F : Nat) (kb : Int32 → Option Int32) (x1 : Int32) (x2 : Int32) (x3 : Int32) (hkb : ∀ (x3 : Int32) (ls : Array Slot), lv_has ls 4 [(0, .ref (a 0)), (1, .int x1), (2, .int x2), (3, .int x3)] → kb x3 = some r → W p l e rmX12_comesAfter s m args below meth c s.heap [] 0 0 (MQ below (vp_Si (fun x => x = r ∧ (r = 0 ∨ r = 1))) args s 0 0 (fun _ => False)) (F0 m 18 ls [])) (ls : Array Slot) (hl : lv_has ls 4 [(0, .ref (a 0)), (1, .int x1), (2, .int x2), (3, .int x3)]) (h : fX12_comesAfter_J62 F kb x1 x2 x3 σ = some r) : W p l e rmX12_comesAfter s m args below meth c s.heap [] 0 0 (MQ below (vp_Si (fun x => x = r ∧ (r = 0 ∨ r = 1))) args s 0 0 (fun _ => False)) (F0 m 62 ls []) := by
  obtain ⟨hx, hb, hml, hown, hts, hr, hlk⟩ := id C
  unfold fX12_comesAfter_J62 at h
  refine lv_iinc (v := x3 + (1 : Int32)) (lv' := [(3, .int (x3 + (1 : Int32))), (0, .ref (a 0)), (1, .int x1), (2, .int x2)]) hx hb dX12_comesAfter_62 hl (k := 3) rfl rfl (by decide) rfl (fun ls hl => ?_)
  refine lv_goto (tgt := 18) hx hb dX12_comesAfter_65 (by decide) ?_
  exact hkb (x3 + (1 : Int32)) ls (lv_sub hl [1, 2, 3, 0] rfl) h
set_option maxHeartbeats 4000000 in
set_option maxRecDepth 100000 in
theorem wX12_comesAfter_L18 {p : Program} {l : Launch} {e : Env} {s : State} {m : MethodId} {args : Array Value} {below : List Frame} {meth : Method} {c : Code} (C : cxt p s m args meth c cX12_comesAfter 4 RX12 wsX12_comesAfter (some .boolean)) {D : va_G} {cs : Nat → ClassId} {a : Nat → Nat} (hK : KK D cs s) {σ : Nat → Nat → Int32} (hP : va_P D vwCl (mW a cs σ) s.heap) (r : Int32) (F : Nat) (x1 : Int32) (x2 : Int32) (kx : Option Int32) (hkx : ∀ (ls : Array Slot), lv_has ls 4 [] → kx = some r → W p l e rmX12_comesAfter s m args below meth c s.heap [] 0 0 (MQ below (vp_Si (fun x => x = r ∧ (r = 0 ∨ r = 1))) args s 0 0 (fun _ => False)) (F0 m 68 ls [])) : ∀ (n : Nat) (x3 : Int32) (ls : Array Slot), lv_has ls 4 [(0, .ref (a 0)), (1, .int x1), (2, .int x2), (3, .int x3)] → fX12_comesAfter_L18 F σ x1 x2 kx n x3 = some r → W p l e rmX12_comesAfter s m args below meth c s.heap [] 0 0 (MQ below (vp_Si (fun x => x = r ∧ (r = 0 ∨ r = 1))) args s 0 0 (fun _ => False)) (F0 m 18 ls []) := by
  obtain ⟨hx, hb, hml, hown, hts, hr, hlk⟩ := id C
  intro n
  induction n with
  | zero =>
    intros
    rename_i h
    cases h
  | succ n ih =>
    intro x3 ls hl h
    rw [fX12_comesAfter_L18] at h
    obtain ⟨kb, hkb, h⟩ := nb_some (P := fun (kb : Int32 → Option Int32) => ∀ (x3 : Int32) (ls : Array Slot), lv_has ls 4 [(0, .ref (a 0)), (1, .int x1), (2, .int x2), (3, .int x3)] → kb x3 = some r → W p l e rmX12_comesAfter s m args below meth c s.heap [] 0 0 (MQ below (vp_Si (fun x => x = r ∧ (r = 0 ∨ r = 1))) args s 0 0 (fun _ => False)) (F0 m 18 ls [])) h ih
    refine lv_iload_n hx hb dX12_comesAfter_18 rfl (lv_at hl 3 rfl) ?_
    refine lv_sipush (v := (256 : Int32)) hx hb dX12_comesAfter_19 (by decide) ?_
    refine lv_icmp_ge (tgt := 68) hx hb dX12_comesAfter_22 (by decide) (fun c3 => ?_) (fun c3 => ?_)
    · have h := it_t c3 h
      exact hkx  ls (lv_sub hl [] rfl) h
    · have h := it_f c3 h
      refine lv_iload_n hx hb dX12_comesAfter_25 rfl (lv_at hl 2 rfl) ?_
      refine lv_iload_n hx hb dX12_comesAfter_26 rfl (lv_at hl 1 rfl) ?_
      refine lv_icmp_ge (tgt := 68) hx hb dX12_comesAfter_27 (by decide) (fun c4 => ?_) (fun c4 => ?_)
      · have h := it_t c4 h
        exact hkx  ls (lv_sub hl [] rfl) h
      · have h := it_f c4 h
        refine lv_aload_n hx hb dX12_comesAfter_30 rfl (lv_at hl 0 rfl) ?_
        refine va_get (D := D) (ci := 11) (v := .ref (a 8)) (C := RX12) (T := TX12) (N := 27) hx hb hts inX12_X12_comesAfter hown hK.1 hP 0 rfl rfl 8 (by decide) (hts (.fieldLink RX12 31 "SandPalaceModel" "has" "[Z") (by decide +kernel)) (fun _ h9 => h9) rfl dX12_comesAfter_31 ?_
        refine lv_sipush (v := (256 : Int32)) hx hb dX12_comesAfter_34 (by decide) ?_
        refine lv_iload_n hx hb dX12_comesAfter_37 rfl (lv_at hl 1 rfl) ?_
        refine lv_imul hx hb dX12_comesAfter_38 ?_
        refine lv_iload_n hx hb dX12_comesAfter_39 rfl (lv_at hl 3 rfl) ?_
        refine lv_iadd hx hb dX12_comesAfter_40 ?_
        obtain ⟨v5, i_v5, e_v5, h⟩ := aI_some h
        refine mzald hx hb hK.1 hP 8 1 rfl rfl i_v5 e_v5 dX12_comesAfter_41 ?_
        refine lv_if_eq (tgt := 62) hx hb dX12_comesAfter_42 (by decide) (fun c6 => ?_) (fun c6 => ?_)
        · have h := it_t c6 h
          exact wX12_comesAfter_J62 C hK hP r F kb x1 x2 x3 hkb ls (lv_sub hl [0, 1, 2, 3] rfl) h
        · have h := it_f c6 h
          refine lv_aload_n hx hb dX12_comesAfter_45 rfl (lv_at hl 0 rfl) ?_
          refine va_get (D := D) (ci := 11) (v := .ref (a 8)) (C := RX12) (T := TX12) (N := 27) hx hb hts inX12_X12_comesAfter hown hK.1 hP 0 rfl rfl 8 (by decide) (hts (.fieldLink RX12 31 "SandPalaceModel" "has" "[Z") (by decide +kernel)) (fun _ h9 => h9) rfl dX12_comesAfter_46 ?_
          refine lv_sipush (v := (256 : Int32)) hx hb dX12_comesAfter_49 (by decide) ?_
          refine lv_iload_n hx hb dX12_comesAfter_52 rfl (lv_at hl 2 rfl) ?_
          refine lv_imul hx hb dX12_comesAfter_53 ?_
          refine lv_iload_n hx hb dX12_comesAfter_54 rfl (lv_at hl 3 rfl) ?_
          refine lv_iadd hx hb dX12_comesAfter_55 ?_
          obtain ⟨v7, i_v7, e_v7, h⟩ := aI_some h
          refine mzald hx hb hK.1 hP 8 1 rfl rfl i_v7 e_v7 dX12_comesAfter_56 ?_
          refine lv_if_eq (tgt := 62) hx hb dX12_comesAfter_57 (by decide) (fun c8 => ?_) (fun c8 => ?_)
          · have h := it_t c8 h
            exact wX12_comesAfter_J62 C hK hP r F kb x1 x2 x3 hkb ls (lv_sub hl [0, 1, 2, 3] rfl) h
          · have h := it_f c8 h
            refine lv_iconst (v := (1 : Int32)) hx hb dX12_comesAfter_60 (by decide) ?_
            exact mretSZ hx hb hr hlk h (Or.inr rfl) dX12_comesAfter_61
set_option maxHeartbeats 4000000 in
set_option maxRecDepth 100000 in
theorem kX12_comesAfter (l : Launch) (D : va_G) (cs : Nat → ClassId) (a : Nat → Nat) (σ : Nat → Nat → Int32) (F : Nat) (x1 : Int32) (x2 : Int32) (r : Int32) (h : fX12_comesAfter F σ x1 x2 = some r) : Met l yX12_comesAfter wsX12_comesAfter rmX12_comesAfter (va_Pc [.ref (a 0), .int x1, .int x2] (pR D cs (mW a cs σ))) (vp_Si (fun x => x = r ∧ (r = 0 ∨ r = 1))) 0 0 (fun _ => False) := by
  refine Met.ofW (cc := cX12_comesAfter) (maxL := 4) (ret := (some .boolean)) (by decide) rfl ?_
  intro p e s m args below meth c s₁ B hml hv
  obtain ⟨rfl, hP, hK⟩ := hv
  have C : cxt p s m _ meth c cX12_comesAfter 4 RX12 wsX12_comesAfter (some .boolean) := ⟨B.exec, B.bytes, hml, findClass_of_methodNamed B.named, atoms_spec (ws := wsX12_comesAfter) B.pre, B.returns, B.notSynchronized⟩
  obtain ⟨hx, hb, -, hown, hts, hr, hlk⟩ := id C
  refine entryW [.ref (a 0), .int x1, .int x2] (n := 4) (Nat.le_of_ble_eq_true rfl) (fun ls hl => ?_)
  have hl : lv_has ls 4 [(0, .ref (a 0)), (1, .int x1), (2, .int x2)] := hl
  unfold fX12_comesAfter at h
  refine lv_aload_n hx hb dX12_comesAfter_0 rfl (lv_at hl 0 rfl) ?_
  refine va_get (D := D) (ci := 11) (v := .ref (a 11)) (C := RX12) (T := TX12) (N := 27) hx hb hts inX12_X12_comesAfter hown hK.1 hP 0 rfl rfl 11 (by decide) (hts (.fieldLink RX12 41 "SandPalaceModel" "hems" "[I") (by decide +kernel)) (fun _ h9 => h9) rfl dX12_comesAfter_1 ?_
  refine lv_iload_n hx hb dX12_comesAfter_4 rfl (lv_at hl 1 rfl) ?_
  obtain ⟨v1, i_v1, e_v1, h⟩ := aI_some h
  refine miald hx hb hK.1 hP 11 0 rfl rfl i_v1 e_v1 dX12_comesAfter_5 ?_
  refine lv_iload_n hx hb dX12_comesAfter_6 rfl (lv_at hl 2 rfl) ?_
  refine lv_ishr hx hb dX12_comesAfter_7 ?_
  refine lv_iconst (v := (1 : Int32)) hx hb dX12_comesAfter_8 (by decide) ?_
  refine lv_iand hx hb dX12_comesAfter_9 ?_
  refine lv_iconst (v := (1 : Int32)) hx hb dX12_comesAfter_10 (by decide) ?_
  refine lv_icmp_ne (tgt := 16) hx hb dX12_comesAfter_11 (by decide) (fun c2 => ?_) (fun c2 => ?_)
  · have h := it_t c2 h
    refine lv_iconst (v := (0 : Int32)) hx hb dX12_comesAfter_16 (by decide) ?_
    refine lv_istore_n (lv' := [(3, .int (0 : Int32)), (0, .ref (a 0)), (1, .int x1), (2, .int x2)]) hx hb dX12_comesAfter_17 rfl hl (by decide) rfl (fun ls hl => ?_)
    refine wX12_comesAfter_L18 C hK hP r F x1 x2 _ ?_ F (0 : Int32) ls (lv_sub hl [1, 2, 3, 0] rfl) h
    intro  ls hl h
    refine lv_iconst (v := (0 : Int32)) hx hb dX12_comesAfter_68 (by decide) ?_
    exact mretSZ hx hb hr hlk h (Or.inl rfl) dX12_comesAfter_69
  · have h := it_n c2 h
    refine lv_iconst (v := (1 : Int32)) hx hb dX12_comesAfter_14 (by decide) ?_
    exact mretSZ hx hb hr hlk h (Or.inr rfl) dX12_comesAfter_15
def fX12_ones_L4 (F : Nat) (kx : Int32 → Option Int32) : Nat → Int32 → Int32 → Option Int32
  | 0, _, _ => none
  | n+1, x1, x2 =>
    nb ((fun x1 x2 => fX12_ones_L4 F kx n x1 x2)) fun kb =>
    if x2 = 0 then (kx x1) else (nm (x2 &&& (x2 - (1 : Int32))) fun z2 => kb (x1 + (1 : Int32)) z2)
def fX12_ones (F : Nat) (x0 : Int32) : Option Int32 :=
  fX12_ones_L4 F (fun y1 => some y1) F (0 : Int32) x0
abbrev rmX12_ones : Room := { frames := 0, cells := 0, slots := 0, locals := 0 }
set_option maxHeartbeats 4000000 in
set_option maxRecDepth 100000 in
theorem wX12_ones_L4 {p : Program} {l : Launch} {e : Env} {s : State} {m : MethodId} {args : Array Value} {below : List Frame} {meth : Method} {c : Code} (C : cxt p s m args meth c cX12_ones 3 RX12 wsX12_ones (some .int)) (r : Int32) (F : Nat) (kx : Int32 → Option Int32) (hkx : ∀ (x1 : Int32) (ls : Array Slot), lv_has ls 3 [(1, .int x1)] → kx x1 = some r → W p l e rmX12_ones s m args below meth c s.heap [] 0 0 (MQ below (vp_Si (fun x => x = r)) args s 0 0 (fun _ => False)) (F0 m 20 ls [])) : ∀ (n : Nat) (x1 : Int32) (x2 : Int32) (ls : Array Slot), lv_has ls 3 [(1, .int x1), (2, .int x2)] → fX12_ones_L4 F kx n x1 x2 = some r → W p l e rmX12_ones s m args below meth c s.heap [] 0 0 (MQ below (vp_Si (fun x => x = r)) args s 0 0 (fun _ => False)) (F0 m 4 ls []) := by
  obtain ⟨hx, hb, hml, hown, hts, hr, hlk⟩ := id C
  intro n
  induction n with
  | zero =>
    intros
    rename_i h
    cases h
  | succ n ih =>
    intro x1 x2 ls hl h
    rw [fX12_ones_L4] at h
    obtain ⟨kb, hkb, h⟩ := nb_some (P := fun (kb : Int32 → Int32 → Option Int32) => ∀ (x1 : Int32) (x2 : Int32) (ls : Array Slot), lv_has ls 3 [(1, .int x1), (2, .int x2)] → kb x1 x2 = some r → W p l e rmX12_ones s m args below meth c s.heap [] 0 0 (MQ below (vp_Si (fun x => x = r)) args s 0 0 (fun _ => False)) (F0 m 4 ls [])) h ih
    refine lv_iload_n hx hb dX12_ones_4 rfl (lv_at hl 1 rfl) ?_
    refine lv_if_eq (tgt := 20) hx hb dX12_ones_5 (by decide) (fun c1 => ?_) (fun c1 => ?_)
    · have h := it_t c1 h
      exact hkx x1 ls (lv_sub hl [0] rfl) h
    · have h := it_f c1 h
      refine lv_iinc (v := x1 + (1 : Int32)) (lv' := [(1, .int (x1 + (1 : Int32))), (2, .int x2)]) hx hb dX12_ones_8 hl (k := 0) rfl rfl (by decide) rfl (fun ls hl => ?_)
      refine lv_iload_n hx hb dX12_ones_11 rfl (lv_at hl 1 rfl) ?_
      refine lv_iload_n hx hb dX12_ones_12 rfl (lv_at hl 1 rfl) ?_
      refine lv_iconst (v := (1 : Int32)) hx hb dX12_ones_13 (by decide) ?_
      refine lv_isub hx hb dX12_ones_14 ?_
      refine lv_iand hx hb dX12_ones_15 ?_
      obtain ⟨z2, e_z2, h⟩ := nm_some h
      refine tpi e_z2 ?_
      refine lv_istore_n (lv' := [(2, .int z2), (1, .int (x1 + (1 : Int32)))]) hx hb dX12_ones_16 rfl hl (by decide) rfl (fun ls hl => ?_)
      refine lv_goto (tgt := 4) hx hb dX12_ones_17 (by decide) ?_
      exact hkb (x1 + (1 : Int32)) z2 ls (lv_sub hl [1, 0] rfl) h
set_option maxHeartbeats 4000000 in
set_option maxRecDepth 100000 in
theorem kX12_ones (l : Launch) (F : Nat) (x0 : Int32) (r : Int32) (h : fX12_ones F x0 = some r) : Met l yX12_ones wsX12_ones rmX12_ones (va_Pc [.int x0] (p0)) (vp_Si (fun x => x = r)) 0 0 (fun _ => False) := by
  refine Met.ofW (cc := cX12_ones) (maxL := 3) (ret := (some .int)) (by decide) rfl ?_
  intro p e s m args below meth c s₁ B hml hv
  obtain ⟨rfl, -⟩ := hv
  have C : cxt p s m _ meth c cX12_ones 3 RX12 wsX12_ones (some .int) := ⟨B.exec, B.bytes, hml, findClass_of_methodNamed B.named, atoms_spec (ws := wsX12_ones) B.pre, B.returns, B.notSynchronized⟩
  obtain ⟨hx, hb, -, hown, hts, hr, hlk⟩ := id C
  refine entryW [.int x0] (n := 3) (Nat.le_of_ble_eq_true rfl) (fun ls hl => ?_)
  have hl : lv_has ls 3 [(0, .int x0)] := hl
  unfold fX12_ones at h
  refine lv_iconst (v := (0 : Int32)) hx hb dX12_ones_0 (by decide) ?_
  refine lv_istore_n (lv' := [(1, .int (0 : Int32)), (0, .int x0)]) hx hb dX12_ones_1 rfl hl (by decide) rfl (fun ls hl => ?_)
  refine lv_iload_n hx hb dX12_ones_2 rfl (lv_at hl 1 rfl) ?_
  refine lv_istore_n (lv' := [(2, .int x0), (1, .int (0 : Int32)), (0, .int x0)]) hx hb dX12_ones_3 rfl hl (by decide) rfl (fun ls hl => ?_)
  refine wX12_ones_L4 C  r F  _ ?_ F (0 : Int32) x0 ls (lv_sub hl [1, 0] rfl) h
  intro y1 ls hl h
  refine lv_iload_n hx hb dX12_ones_20 rfl (lv_at hl 0 rfl) ?_
  exact mretS hx hb hr hlk h dX12_ones_21
def fX12_aheadOf_J34 (F : Nat) (kb : Int32 → Int32 → Option Int32) (x1 : Int32) (x3 : Int32) (t0 : Int32) (t1 : Int32) (σ : Nat → Nat → Int32) : Option Int32 :=
  kb (t1 ||| t0) (x3 + (1 : Int32))
def fX12_aheadOf_J33 (F : Nat) (kb : Int32 → Int32 → Option Int32) (x1 : Int32) (x3 : Int32) (t0 : Int32) (σ : Nat → Nat → Int32) : Option Int32 :=
  fX12_aheadOf_J34 F kb x1 x3 (0 : Int32) t0 σ
def fX12_aheadOf_L4 (F : Nat) (σ : Nat → Nat → Int32) (x1 : Int32) (kx : Int32 → Option Int32) : Nat → Int32 → Int32 → Option Int32
  | 0, _, _ => none
  | n+1, x2, x3 =>
    nb ((fun x2 x3 => fX12_aheadOf_L4 F σ x1 kx n x2 x3)) fun kb =>
    if (σ 0 0) ≤ x3 then (kx x2) else (if x3 = x1 then (fX12_aheadOf_J33 F kb x1 x3 x2 σ) else (bd (fX12_comesAfter F σ x1 x3) fun v3 => if v3 = 0 then (fX12_aheadOf_J33 F kb x1 x3 x2 σ) else (fX12_aheadOf_J34 F kb x1 x3 ((1 : Int32) <<< (x3 &&& 31)) x2 σ)))
def fX12_aheadOf (F : Nat) (σ : Nat → Nat → Int32) (x1 : Int32) : Option Int32 :=
  fX12_aheadOf_L4 F σ x1 (fun y1 => some y1) F (0 : Int32) (0 : Int32)
abbrev rmX12_aheadOf : Room := { frames := 1, cells := 0, slots := 0, locals := 23 }
theorem inX12_X12_aheadOf : ∀ w ∈ wsX120, w ∈ wsX12_aheadOf := by intro w h; simp only [wsX12_aheadOf, List.mem_cons, List.mem_append]; simp only [h, true_or, or_true]
set_option maxHeartbeats 4000000 in
set_option maxRecDepth 100000 in
theorem wX12_aheadOf_J34 {p : Program} {l : Launch} {e : Env} {s : State} {m : MethodId} {args : Array Value} {below : List Frame} {meth : Method} {c : Code} (C : cxt p s m args meth c cX12_aheadOf 4 RX12 wsX12_aheadOf (some .int)) {D : va_G} {cs : Nat → ClassId} {a : Nat → Nat} (hK : KK D cs s) {σ : Nat → Nat → Int32} (hP : va_P D vwCl (mW a cs σ) s.heap) (r : Int32) (F : Nat) (kb : Int32 → Int32 → Option Int32) (x1 : Int32) (x3 : Int32) (t0 : Int32) (t1 : Int32) (hkb : ∀ (x2 : Int32) (x3 : Int32) (ls : Array Slot), lv_has ls 4 [(0, .ref (a 0)), (1, .int x1), (2, .int x2), (3, .int x3)] → kb x2 x3 = some r → W p l e rmX12_aheadOf s m args below meth c s.heap [] 0 0 (MQ below (vp_Si (fun x => x = r)) args s 0 0 (fun _ => False)) (F0 m 4 ls [])) (ls : Array Slot) (hl : lv_has ls 4 [(0, .ref (a 0)), (1, .int x1), (3, .int x3)]) (h : fX12_aheadOf_J34 F kb x1 x3 t0 t1 σ = some r) : W p l e rmX12_aheadOf s m args below meth c s.heap [] 0 0 (MQ below (vp_Si (fun x => x = r)) args s 0 0 (fun _ => False)) (F0 m 34 ls [.int t0, .int t1]) := by
  obtain ⟨hx, hb, hml, hown, hts, hr, hlk⟩ := id C
  unfold fX12_aheadOf_J34 at h
  refine lv_ior hx hb dX12_aheadOf_34 ?_
  refine lv_istore_n (lv' := [(2, .int (t1 ||| t0)), (0, .ref (a 0)), (1, .int x1), (3, .int x3)]) hx hb dX12_aheadOf_35 rfl hl (by decide) rfl (fun ls hl => ?_)
  refine lv_iinc (v := x3 + (1 : Int32)) (lv' := [(3, .int (x3 + (1 : Int32))), (2, .int (t1 ||| t0)), (0, .ref (a 0)), (1, .int x1)]) hx hb dX12_aheadOf_36 hl (k := 3) rfl rfl (by decide) rfl (fun ls hl => ?_)
  refine lv_goto (tgt := 4) hx hb dX12_aheadOf_39 (by decide) ?_
  exact hkb (t1 ||| t0) (x3 + (1 : Int32)) ls (lv_sub hl [2, 3, 1, 0] rfl) h
set_option maxHeartbeats 4000000 in
set_option maxRecDepth 100000 in
theorem wX12_aheadOf_J33 {p : Program} {l : Launch} {e : Env} {s : State} {m : MethodId} {args : Array Value} {below : List Frame} {meth : Method} {c : Code} (C : cxt p s m args meth c cX12_aheadOf 4 RX12 wsX12_aheadOf (some .int)) {D : va_G} {cs : Nat → ClassId} {a : Nat → Nat} (hK : KK D cs s) {σ : Nat → Nat → Int32} (hP : va_P D vwCl (mW a cs σ) s.heap) (r : Int32) (F : Nat) (kb : Int32 → Int32 → Option Int32) (x1 : Int32) (x3 : Int32) (t0 : Int32) (hkb : ∀ (x2 : Int32) (x3 : Int32) (ls : Array Slot), lv_has ls 4 [(0, .ref (a 0)), (1, .int x1), (2, .int x2), (3, .int x3)] → kb x2 x3 = some r → W p l e rmX12_aheadOf s m args below meth c s.heap [] 0 0 (MQ below (vp_Si (fun x => x = r)) args s 0 0 (fun _ => False)) (F0 m 4 ls [])) (ls : Array Slot) (hl : lv_has ls 4 [(0, .ref (a 0)), (1, .int x1), (3, .int x3)]) (h : fX12_aheadOf_J33 F kb x1 x3 t0 σ = some r) : W p l e rmX12_aheadOf s m args below meth c s.heap [] 0 0 (MQ below (vp_Si (fun x => x = r)) args s 0 0 (fun _ => False)) (F0 m 33 ls [.int t0]) := by
  obtain ⟨hx, hb, hml, hown, hts, hr, hlk⟩ := id C
  unfold fX12_aheadOf_J33 at h
  refine lv_iconst (v := (0 : Int32)) hx hb dX12_aheadOf_33 (by decide) ?_
  exact wX12_aheadOf_J34 C hK hP r F kb x1 x3 (0 : Int32) t0 hkb ls (lv_sub hl [0, 1, 2] rfl) h
set_option maxHeartbeats 4000000 in
set_option maxRecDepth 100000 in
theorem wX12_aheadOf_L4 {p : Program} {l : Launch} {e : Env} {s : State} {m : MethodId} {args : Array Value} {below : List Frame} {meth : Method} {c : Code} (C : cxt p s m args meth c cX12_aheadOf 4 RX12 wsX12_aheadOf (some .int)) {D : va_G} {cs : Nat → ClassId} {a : Nat → Nat} (hK : KK D cs s) {σ : Nat → Nat → Int32} (hP : va_P D vwCl (mW a cs σ) s.heap) (r : Int32) (F : Nat) (x1 : Int32) (kx : Int32 → Option Int32) (hkx : ∀ (x2 : Int32) (ls : Array Slot), lv_has ls 4 [(2, .int x2)] → kx x2 = some r → W p l e rmX12_aheadOf s m args below meth c s.heap [] 0 0 (MQ below (vp_Si (fun x => x = r)) args s 0 0 (fun _ => False)) (F0 m 42 ls [])) : ∀ (n : Nat) (x2 : Int32) (x3 : Int32) (ls : Array Slot), lv_has ls 4 [(0, .ref (a 0)), (1, .int x1), (2, .int x2), (3, .int x3)] → fX12_aheadOf_L4 F σ x1 kx n x2 x3 = some r → W p l e rmX12_aheadOf s m args below meth c s.heap [] 0 0 (MQ below (vp_Si (fun x => x = r)) args s 0 0 (fun _ => False)) (F0 m 4 ls []) := by
  obtain ⟨hx, hb, hml, hown, hts, hr, hlk⟩ := id C
  intro n
  induction n with
  | zero =>
    intros
    rename_i h
    cases h
  | succ n ih =>
    intro x2 x3 ls hl h
    rw [fX12_aheadOf_L4] at h
    obtain ⟨kb, hkb, h⟩ := nb_some (P := fun (kb : Int32 → Int32 → Option Int32) => ∀ (x2 : Int32) (x3 : Int32) (ls : Array Slot), lv_has ls 4 [(0, .ref (a 0)), (1, .int x1), (2, .int x2), (3, .int x3)] → kb x2 x3 = some r → W p l e rmX12_aheadOf s m args below meth c s.heap [] 0 0 (MQ below (vp_Si (fun x => x = r)) args s 0 0 (fun _ => False)) (F0 m 4 ls [])) h ih
    refine lv_iload_n hx hb dX12_aheadOf_4 rfl (lv_at hl 3 rfl) ?_
    refine lv_aload_n hx hb dX12_aheadOf_5 rfl (lv_at hl 0 rfl) ?_
    refine va_get (D := D) (ci := 11) (v := .int (σ 0 0)) (C := RX12) (T := TX12) (N := 27) hx hb hts inX12_X12_aheadOf hown hK.1 hP 0 rfl rfl 0 (by decide) (hts (.fieldLink RX12 103 "SandPalaceModel" "shapes" "I") (by decide +kernel)) (fun _ h9 => h9) rfl dX12_aheadOf_6 ?_
    refine lv_icmp_ge (tgt := 42) hx hb dX12_aheadOf_9 (by decide) (fun c1 => ?_) (fun c1 => ?_)
    · have h := it_t c1 h
      exact hkx x2 ls (lv_sub hl [2] rfl) h
    · have h := it_f c1 h
      refine lv_iload_n hx hb dX12_aheadOf_12 rfl (lv_at hl 2 rfl) ?_
      refine lv_iload_n hx hb dX12_aheadOf_13 rfl (lv_at hl 3 rfl) ?_
      refine lv_iload_n hx hb dX12_aheadOf_14 rfl (lv_at hl 1 rfl) ?_
      refine lv_icmp_eq (tgt := 33) hx hb dX12_aheadOf_15 (by decide) (fun c2 => ?_) (fun c2 => ?_)
      · have h := it_t c2 h
        exact wX12_aheadOf_J33 C hK hP r F kb x1 x3 x2 hkb ls (lv_sub hl [0, 1, 3] rfl) h
      · have h := it_f c2 h
        refine lv_aload_n hx hb dX12_aheadOf_18 rfl (lv_at hl 0 rfl) ?_
        refine lv_iload_n hx hb dX12_aheadOf_19 rfl (lv_at hl 1 rfl) ?_
        refine lv_iload_n hx hb dX12_aheadOf_20 rfl (lv_at hl 3 rfl) ?_
        obtain ⟨v3, hc_v3, h⟩ := bd_some h
        refine mcallSZ (va_runV (As := [.int x1, .int x3]) (rest := [.int x2]) ⟨hx, hb, hml, hown, hts⟩ (kX12_comesAfter l D cs a σ F x1 x3 v3 hc_v3) (cwV 2 hts gX12_aheadOf_X12_comesAfter rfl rfl rfl (by decide +kernel) ⟨Nat.le_of_ble_eq_true rfl, Nat.le_of_ble_eq_true rfl⟩) (pR_v hP hK (va_recv hK.1 hP (ci := 11) (q0 := 0) rfl rfl)) rfl rfl hl.1 rfl (lv_room (Nat.le_of_ble_eq_true rfl)) dX12_aheadOf_21 ⟨Nat.zero_le _, Nat.zero_le _⟩) (fun z_v3 => ?_)
        refine lv_if_eq (tgt := 33) hx hb dX12_aheadOf_24 (by decide) (fun c4 => ?_) (fun c4 => ?_)
        · have h := it_t c4 h
          exact wX12_aheadOf_J33 C hK hP r F kb x1 x3 x2 hkb ls (lv_sub hl [0, 1, 3] rfl) h
        · have h := it_f c4 h
          refine lv_iconst (v := (1 : Int32)) hx hb dX12_aheadOf_27 (by decide) ?_
          refine lv_iload_n hx hb dX12_aheadOf_28 rfl (lv_at hl 3 rfl) ?_
          refine lv_ishl hx hb dX12_aheadOf_29 ?_
          refine lv_goto (tgt := 34) hx hb dX12_aheadOf_30 (by decide) ?_
          exact wX12_aheadOf_J34 C hK hP r F kb x1 x3 ((1 : Int32) <<< (x3 &&& 31)) x2 hkb ls (lv_sub hl [0, 1, 3] rfl) h
set_option maxHeartbeats 4000000 in
set_option maxRecDepth 100000 in
theorem kX12_aheadOf (l : Launch) (D : va_G) (cs : Nat → ClassId) (a : Nat → Nat) (σ : Nat → Nat → Int32) (F : Nat) (x1 : Int32) (r : Int32) (h : fX12_aheadOf F σ x1 = some r) : Met l yX12_aheadOf wsX12_aheadOf rmX12_aheadOf (va_Pc [.ref (a 0), .int x1] (pR D cs (mW a cs σ))) (vp_Si (fun x => x = r)) 0 0 (fun _ => False) := by
  refine Met.ofW (cc := cX12_aheadOf) (maxL := 4) (ret := (some .int)) (by decide) rfl ?_
  intro p e s m args below meth c s₁ B hml hv
  obtain ⟨rfl, hP, hK⟩ := hv
  have C : cxt p s m _ meth c cX12_aheadOf 4 RX12 wsX12_aheadOf (some .int) := ⟨B.exec, B.bytes, hml, findClass_of_methodNamed B.named, atoms_spec (ws := wsX12_aheadOf) B.pre, B.returns, B.notSynchronized⟩
  obtain ⟨hx, hb, -, hown, hts, hr, hlk⟩ := id C
  refine entryW [.ref (a 0), .int x1] (n := 4) (Nat.le_of_ble_eq_true rfl) (fun ls hl => ?_)
  have hl : lv_has ls 4 [(0, .ref (a 0)), (1, .int x1)] := hl
  unfold fX12_aheadOf at h
  refine lv_iconst (v := (0 : Int32)) hx hb dX12_aheadOf_0 (by decide) ?_
  refine lv_istore_n (lv' := [(2, .int (0 : Int32)), (0, .ref (a 0)), (1, .int x1)]) hx hb dX12_aheadOf_1 rfl hl (by decide) rfl (fun ls hl => ?_)
  refine lv_iconst (v := (0 : Int32)) hx hb dX12_aheadOf_2 (by decide) ?_
  refine lv_istore_n (lv' := [(3, .int (0 : Int32)), (2, .int (0 : Int32)), (0, .ref (a 0)), (1, .int x1)]) hx hb dX12_aheadOf_3 rfl hl (by decide) rfl (fun ls hl => ?_)
  refine wX12_aheadOf_L4 C hK hP r F x1 _ ?_ F (0 : Int32) (0 : Int32) ls (lv_sub hl [2, 3, 1, 0] rfl) h
  intro y1 ls hl h
  refine lv_iload_n hx hb dX12_aheadOf_42 rfl (lv_at hl 0 rfl) ?_
  exact mretS hx hb hr hlk h dX12_aheadOf_43
def fX12_told (F : Nat) (σ : Nat → Nat → Int32) (x1 : Int32) (x2 : Int32) : Option Int32 :=
  bd (fX12_isShape σ x1) fun v1 => if ¬ v1 = 0 then (if x2 = (0 : Int32) then (aI (σ 1) 10 x1 fun v4 => some v4) else if x2 = (1 : Int32) then (aI (σ 2) 10 x1 fun v6 => some v6) else if x2 = (2 : Int32) then (aI (σ 9) 10 x1 fun v8 => some v8) else if x2 = (3 : Int32) then (aI (σ 10) 10 x1 fun v10 => some v10) else if x2 = (4 : Int32) then (bd (fX12_aheadOf F σ x1) fun v12 => bd (fX12_ones F v12) fun v13 => some v13) else (some ((-1) : Int32))) else (some ((-1) : Int32))
abbrev rmX12_told : Room := { frames := 2, cells := 0, slots := 0, locals := 46 }
theorem inX12_X12_told : ∀ w ∈ wsX120, w ∈ wsX12_told := by intro w h; simp only [wsX12_told, List.mem_cons, List.mem_append]; simp only [h, true_or, or_true]
set_option maxHeartbeats 4000000 in
set_option maxRecDepth 100000 in
theorem kX12_told (l : Launch) (D : va_G) (cs : Nat → ClassId) (a : Nat → Nat) (σ : Nat → Nat → Int32) (F : Nat) (x1 : Int32) (x2 : Int32) (r : Int32) (h : fX12_told F σ x1 x2 = some r) : Met l yX12_told wsX12_told rmX12_told (va_Pc [.ref (a 0), .int x1, .int x2] (pR D cs (mW a cs σ))) (vp_Si (fun x => x = r)) 0 0 (fun _ => False) := by
  refine Met.ofW (cc := cX12_told) (maxL := 3) (ret := (some .int)) (by decide) rfl ?_
  intro p e s m args below meth c s₁ B hml hv
  obtain ⟨rfl, hP, hK⟩ := hv
  have C : cxt p s m _ meth c cX12_told 3 RX12 wsX12_told (some .int) := ⟨B.exec, B.bytes, hml, findClass_of_methodNamed B.named, atoms_spec (ws := wsX12_told) B.pre, B.returns, B.notSynchronized⟩
  obtain ⟨hx, hb, -, hown, hts, hr, hlk⟩ := id C
  refine entryW [.ref (a 0), .int x1, .int x2] (n := 3) (Nat.le_of_ble_eq_true rfl) (fun ls hl => ?_)
  have hl : lv_has ls 3 [(0, .ref (a 0)), (1, .int x1), (2, .int x2)] := hl
  unfold fX12_told at h
  refine lv_aload_n hx hb dX12_told_0 rfl (lv_at hl 0 rfl) ?_
  refine lv_iload_n hx hb dX12_told_1 rfl (lv_at hl 1 rfl) ?_
  obtain ⟨v1, hc_v1, h⟩ := bd_some h
  refine mcallSZ (va_runV (As := [.int x1]) (rest := []) ⟨hx, hb, hml, hown, hts⟩ (kX12_isShape l D cs a σ x1 v1 hc_v1) (cwV 1 hts gX12_told_X12_isShape rfl rfl rfl (by decide +kernel) ⟨Nat.le_of_ble_eq_true rfl, Nat.le_of_ble_eq_true rfl⟩) (pR_v hP hK (va_recv hK.1 hP (ci := 11) (q0 := 0) rfl rfl)) rfl rfl hl.1 rfl (lv_room (Nat.le_of_ble_eq_true rfl)) dX12_told_2 ⟨Nat.zero_le _, Nat.zero_le _⟩) (fun z_v1 => ?_)
  refine lv_if_ne (tgt := 10) hx hb dX12_told_5 (by decide) (fun c2 => ?_) (fun c2 => ?_)
  · have h := it_t c2 h
    refine lv_iload_n hx hb dX12_told_10 rfl (lv_at hl 2 rfl) ?_
    by_cases c3 : x2 = (0 : Int32)
    · have h := it_t c3 h
      refine lv_tableIn (off := 33) (tgt := 44) hx hb dX12_told_11 (by rw [c3]; decide) (by rw [c3]; decide) (by rw [c3]; rfl) (by decide) ?_
      refine lv_aload_n hx hb dX12_told_44 rfl (lv_at hl 0 rfl) ?_
      refine va_get (D := D) (ci := 11) (v := .ref (a 1)) (C := RX12) (T := TX12) (N := 27) hx hb hts inX12_X12_told hown hK.1 hP 0 rfl rfl 1 (by decide) (hts (.fieldLink RX12 7 "SandPalaceModel" "kinds" "[I") (by decide +kernel)) (fun _ h9 => h9) rfl dX12_told_45 ?_
      refine lv_iload_n hx hb dX12_told_48 rfl (lv_at hl 1 rfl) ?_
      obtain ⟨v4, i_v4, e_v4, h⟩ := aI_some h
      refine miald hx hb hK.1 hP 1 0 rfl rfl i_v4 e_v4 dX12_told_49 ?_
      exact mretS hx hb hr hlk h dX12_told_50
    have h := it_f c3 h
    by_cases c5 : x2 = (1 : Int32)
    · have h := it_t c5 h
      refine lv_tableIn (off := 40) (tgt := 51) hx hb dX12_told_11 (by rw [c5]; decide) (by rw [c5]; decide) (by rw [c5]; rfl) (by decide) ?_
      refine lv_aload_n hx hb dX12_told_51 rfl (lv_at hl 0 rfl) ?_
      refine va_get (D := D) (ci := 11) (v := .ref (a 2)) (C := RX12) (T := TX12) (N := 27) hx hb hts inX12_X12_told hown hK.1 hP 0 rfl rfl 2 (by decide) (hts (.fieldLink RX12 13 "SandPalaceModel" "colours" "[I") (by decide +kernel)) (fun _ h9 => h9) rfl dX12_told_52 ?_
      refine lv_iload_n hx hb dX12_told_55 rfl (lv_at hl 1 rfl) ?_
      obtain ⟨v6, i_v6, e_v6, h⟩ := aI_some h
      refine miald hx hb hK.1 hP 2 0 rfl rfl i_v6 e_v6 dX12_told_56 ?_
      exact mretS hx hb hr hlk h dX12_told_57
    have h := it_f c5 h
    by_cases c7 : x2 = (2 : Int32)
    · have h := it_t c7 h
      refine lv_tableIn (off := 47) (tgt := 58) hx hb dX12_told_11 (by rw [c7]; decide) (by rw [c7]; decide) (by rw [c7]; rfl) (by decide) ?_
      refine lv_aload_n hx hb dX12_told_58 rfl (lv_at hl 0 rfl) ?_
      refine va_get (D := D) (ci := 11) (v := .ref (a 9)) (C := RX12) (T := TX12) (N := 27) hx hb hts inX12_X12_told hown hK.1 hP 0 rfl rfl 9 (by decide) (hts (.fieldLink RX12 35 "SandPalaceModel" "sizes" "[I") (by decide +kernel)) (fun _ h9 => h9) rfl dX12_told_59 ?_
      refine lv_iload_n hx hb dX12_told_62 rfl (lv_at hl 1 rfl) ?_
      obtain ⟨v8, i_v8, e_v8, h⟩ := aI_some h
      refine miald hx hb hK.1 hP 9 0 rfl rfl i_v8 e_v8 dX12_told_63 ?_
      exact mretS hx hb hr hlk h dX12_told_64
    have h := it_f c7 h
    by_cases c9 : x2 = (3 : Int32)
    · have h := it_t c9 h
      refine lv_tableIn (off := 54) (tgt := 65) hx hb dX12_told_11 (by rw [c9]; decide) (by rw [c9]; decide) (by rw [c9]; rfl) (by decide) ?_
      refine lv_aload_n hx hb dX12_told_65 rfl (lv_at hl 0 rfl) ?_
      refine va_get (D := D) (ci := 11) (v := .ref (a 10)) (C := RX12) (T := TX12) (N := 27) hx hb hts inX12_X12_told hown hK.1 hP 0 rfl rfl 10 (by decide) (hts (.fieldLink RX12 38 "SandPalaceModel" "reaches" "[I") (by decide +kernel)) (fun _ h9 => h9) rfl dX12_told_66 ?_
      refine lv_iload_n hx hb dX12_told_69 rfl (lv_at hl 1 rfl) ?_
      obtain ⟨v10, i_v10, e_v10, h⟩ := aI_some h
      refine miald hx hb hK.1 hP 10 0 rfl rfl i_v10 e_v10 dX12_told_70 ?_
      exact mretS hx hb hr hlk h dX12_told_71
    have h := it_f c9 h
    by_cases c11 : x2 = (4 : Int32)
    · have h := it_t c11 h
      refine lv_tableIn (off := 61) (tgt := 72) hx hb dX12_told_11 (by rw [c11]; decide) (by rw [c11]; decide) (by rw [c11]; rfl) (by decide) ?_
      refine lv_aload_n hx hb dX12_told_72 rfl (lv_at hl 0 rfl) ?_
      refine lv_iload_n hx hb dX12_told_73 rfl (lv_at hl 1 rfl) ?_
      obtain ⟨v12, hc_v12, h⟩ := bd_some h
      refine mcallS (va_runV (As := [.int x1]) (rest := []) ⟨hx, hb, hml, hown, hts⟩ (kX12_aheadOf l D cs a σ F x1 v12 hc_v12) (cwV 1 hts gX12_told_X12_aheadOf rfl rfl rfl (by decide +kernel) ⟨Nat.le_of_ble_eq_true rfl, Nat.le_of_ble_eq_true rfl⟩) (pR_v hP hK (va_recv hK.1 hP (ci := 11) (q0 := 0) rfl rfl)) rfl rfl hl.1 rfl (lv_room (Nat.le_of_ble_eq_true rfl)) dX12_told_74 ⟨Nat.zero_le _, Nat.zero_le _⟩) ?_
      obtain ⟨v13, hc_v13, h⟩ := bd_some h
      refine mcallS (va_runS (As := [.int v12]) (rest := []) ⟨hx, hb, hml, hown, hts⟩ (kX12_ones l F v12 v13 hc_v13) (va_cwS 1 hts gX12_told_X12_ones rfl rfl rfl (by decide +kernel) ⟨Nat.le_of_ble_eq_true rfl, Nat.le_of_ble_eq_true rfl⟩) p0_s rfl rfl hl.1 rfl (lv_room (Nat.le_of_ble_eq_true rfl)) dX12_told_77 ⟨Nat.zero_le _, Nat.zero_le _⟩) ?_
      exact mretS hx hb hr hlk h dX12_told_80
    have h := it_f c11 h
    have ho : ∀ k : Int, 0 ≤ k → k ≤ 4 → ¬ Int32.toInt x2 = k := by
      intro k h1 h2
      rcases (show k = 0 ∨ k = 1 ∨ k = 2 ∨ k = 3 ∨ k = 4 by omega) with rfl | rfl | rfl | rfl | rfl
      · exact lv_neT c3 (by decide)
      · exact lv_neT c5 (by decide)
      · exact lv_neT c7 (by decide)
      · exact lv_neT c9 (by decide)
      · exact lv_neT c11 (by decide)
    refine lv_tableOut (tgt := 81) hx hb dX12_told_11 (tb_out ho) (by decide) ?_
    refine lv_iconst (v := ((-1) : Int32)) hx hb dX12_told_81 (by decide) ?_
    exact mretS hx hb hr hlk h dX12_told_82
  · have h := it_n c2 h
    refine lv_iconst (v := ((-1) : Int32)) hx hb dX12_told_8 (by decide) ?_
    exact mretS hx hb hr hlk h dX12_told_9
def fX12_step (σ : Nat → Nat → Int32) (x1 : Int32) : Option Int32 :=
  bd (fX12_isShape σ x1) fun v1 => if ¬ v1 = 0 then (aI (σ 1) 10 x1 fun v3 => if v3 = (4 : Int32) then (aI (σ 7) 10 x1 fun v5 => some v5) else (some ((-12) : Int32))) else (some ((-1) : Int32))
abbrev rmX12_step : Room := { frames := 2, cells := 0, slots := 0, locals := 46 }
theorem inX12_X12_step : ∀ w ∈ wsX120, w ∈ wsX12_step := by intro w h; simp only [wsX12_step, List.mem_cons, List.mem_append]; simp only [h, true_or, or_true]
set_option maxHeartbeats 4000000 in
set_option maxRecDepth 100000 in
theorem kX12_step (l : Launch) (D : va_G) (cs : Nat → ClassId) (a : Nat → Nat) (σ : Nat → Nat → Int32) (x1 : Int32) (r : Int32) (h : fX12_step σ x1 = some r) : Met l yX12_step wsX12_step rmX12_step (va_Pc [.ref (a 0), .int x1] (pR D cs (mW a cs σ))) (vp_Si (fun x => x = r)) 0 0 (fun _ => False) := by
  refine Met.ofW (cc := cX12_step) (maxL := 2) (ret := (some .int)) (by decide) rfl ?_
  intro p e s m args below meth c s₁ B hml hv
  obtain ⟨rfl, hP, hK⟩ := hv
  have C : cxt p s m _ meth c cX12_step 2 RX12 wsX12_step (some .int) := ⟨B.exec, B.bytes, hml, findClass_of_methodNamed B.named, atoms_spec (ws := wsX12_step) B.pre, B.returns, B.notSynchronized⟩
  obtain ⟨hx, hb, -, hown, hts, hr, hlk⟩ := id C
  refine entryW [.ref (a 0), .int x1] (n := 2) (Nat.le_of_ble_eq_true rfl) (fun ls hl => ?_)
  have hl : lv_has ls 2 [(0, .ref (a 0)), (1, .int x1)] := hl
  unfold fX12_step at h
  refine lv_aload_n hx hb dX12_step_0 rfl (lv_at hl 0 rfl) ?_
  refine lv_iload_n hx hb dX12_step_1 rfl (lv_at hl 1 rfl) ?_
  obtain ⟨v1, hc_v1, h⟩ := bd_some h
  refine mcallSZ (va_runV (As := [.int x1]) (rest := []) ⟨hx, hb, hml, hown, hts⟩ (kX12_isShape l D cs a σ x1 v1 hc_v1) (cwV 1 hts gX12_step_X12_isShape rfl rfl rfl (by decide +kernel) ⟨Nat.le_of_ble_eq_true rfl, Nat.le_of_ble_eq_true rfl⟩) (pR_v hP hK (va_recv hK.1 hP (ci := 11) (q0 := 0) rfl rfl)) rfl rfl hl.1 rfl (lv_room (Nat.le_of_ble_eq_true rfl)) dX12_step_2 ⟨Nat.zero_le _, Nat.zero_le _⟩) (fun z_v1 => ?_)
  refine lv_if_ne (tgt := 12) hx hb dX12_step_5 (by decide) (fun c2 => ?_) (fun c2 => ?_)
  · have h := it_t c2 h
    refine lv_aload_n hx hb dX12_step_12 rfl (lv_at hl 0 rfl) ?_
    refine va_get (D := D) (ci := 11) (v := .ref (a 1)) (C := RX12) (T := TX12) (N := 27) hx hb hts inX12_X12_step hown hK.1 hP 0 rfl rfl 1 (by decide) (hts (.fieldLink RX12 7 "SandPalaceModel" "kinds" "[I") (by decide +kernel)) (fun _ h9 => h9) rfl dX12_step_13 ?_
    refine lv_iload_n hx hb dX12_step_16 rfl (lv_at hl 1 rfl) ?_
    obtain ⟨v3, i_v3, e_v3, h⟩ := aI_some h
    refine miald hx hb hK.1 hP 1 0 rfl rfl i_v3 e_v3 dX12_step_17 ?_
    refine lv_iconst (v := (4 : Int32)) hx hb dX12_step_18 (by decide) ?_
    refine lv_icmp_eq (tgt := 27) hx hb dX12_step_19 (by decide) (fun c4 => ?_) (fun c4 => ?_)
    · have h := it_t c4 h
      refine lv_aload_n hx hb dX12_step_27 rfl (lv_at hl 0 rfl) ?_
      refine va_get (D := D) (ci := 11) (v := .ref (a 7)) (C := RX12) (T := TX12) (N := 27) hx hb hts inX12_X12_step hown hK.1 hP 0 rfl rfl 7 (by decide) (hts (.fieldLink RX12 28 "SandPalaceModel" "steps" "[I") (by decide +kernel)) (fun _ h9 => h9) rfl dX12_step_28 ?_
      refine lv_iload_n hx hb dX12_step_31 rfl (lv_at hl 1 rfl) ?_
      obtain ⟨v5, i_v5, e_v5, h⟩ := aI_some h
      refine miald hx hb hK.1 hP 7 0 rfl rfl i_v5 e_v5 dX12_step_32 ?_
      exact mretS hx hb hr hlk h dX12_step_33
    · have h := it_f c4 h
      refine lv_bipush (v := ((-12) : Int32)) hx hb dX12_step_22 (by decide) ?_
      refine lv_goto (tgt := 33) hx hb dX12_step_24 (by decide) ?_
      exact mretS hx hb hr hlk h dX12_step_33
  · have h := it_n c2 h
    refine lv_iconst (v := ((-1) : Int32)) hx hb dX12_step_8 (by decide) ?_
    refine lv_goto (tgt := 33) hx hb dX12_step_9 (by decide) ?_
    exact mretS hx hb hr hlk h dX12_step_33
def fX12_quarter (σ : Nat → Nat → Int32) (x1 : Int32) : Option Int32 :=
  bd (fX12_isShape σ x1) fun v1 => if ¬ v1 = 0 then (aI (σ 1) 10 x1 fun v3 => if (3 : Int32) ≤ v3 then (aI (σ 9) 10 x1 fun v5 => some (v5 / (4 : Int32))) else (some ((-12) : Int32))) else (some ((-1) : Int32))
abbrev rmX12_quarter : Room := { frames := 2, cells := 0, slots := 0, locals := 46 }
theorem inX12_X12_quarter : ∀ w ∈ wsX120, w ∈ wsX12_quarter := by intro w h; simp only [wsX12_quarter, List.mem_cons, List.mem_append]; simp only [h, true_or, or_true]
set_option maxHeartbeats 4000000 in
set_option maxRecDepth 100000 in
theorem kX12_quarter (l : Launch) (D : va_G) (cs : Nat → ClassId) (a : Nat → Nat) (σ : Nat → Nat → Int32) (x1 : Int32) (r : Int32) (h : fX12_quarter σ x1 = some r) : Met l yX12_quarter wsX12_quarter rmX12_quarter (va_Pc [.ref (a 0), .int x1] (pR D cs (mW a cs σ))) (vp_Si (fun x => x = r)) 0 0 (fun _ => False) := by
  refine Met.ofW (cc := cX12_quarter) (maxL := 2) (ret := (some .int)) (by decide) rfl ?_
  intro p e s m args below meth c s₁ B hml hv
  obtain ⟨rfl, hP, hK⟩ := hv
  have C : cxt p s m _ meth c cX12_quarter 2 RX12 wsX12_quarter (some .int) := ⟨B.exec, B.bytes, hml, findClass_of_methodNamed B.named, atoms_spec (ws := wsX12_quarter) B.pre, B.returns, B.notSynchronized⟩
  obtain ⟨hx, hb, -, hown, hts, hr, hlk⟩ := id C
  refine entryW [.ref (a 0), .int x1] (n := 2) (Nat.le_of_ble_eq_true rfl) (fun ls hl => ?_)
  have hl : lv_has ls 2 [(0, .ref (a 0)), (1, .int x1)] := hl
  unfold fX12_quarter at h
  refine lv_aload_n hx hb dX12_quarter_0 rfl (lv_at hl 0 rfl) ?_
  refine lv_iload_n hx hb dX12_quarter_1 rfl (lv_at hl 1 rfl) ?_
  obtain ⟨v1, hc_v1, h⟩ := bd_some h
  refine mcallSZ (va_runV (As := [.int x1]) (rest := []) ⟨hx, hb, hml, hown, hts⟩ (kX12_isShape l D cs a σ x1 v1 hc_v1) (cwV 1 hts gX12_quarter_X12_isShape rfl rfl rfl (by decide +kernel) ⟨Nat.le_of_ble_eq_true rfl, Nat.le_of_ble_eq_true rfl⟩) (pR_v hP hK (va_recv hK.1 hP (ci := 11) (q0 := 0) rfl rfl)) rfl rfl hl.1 rfl (lv_room (Nat.le_of_ble_eq_true rfl)) dX12_quarter_2 ⟨Nat.zero_le _, Nat.zero_le _⟩) (fun z_v1 => ?_)
  refine lv_if_ne (tgt := 12) hx hb dX12_quarter_5 (by decide) (fun c2 => ?_) (fun c2 => ?_)
  · have h := it_t c2 h
    refine lv_aload_n hx hb dX12_quarter_12 rfl (lv_at hl 0 rfl) ?_
    refine va_get (D := D) (ci := 11) (v := .ref (a 1)) (C := RX12) (T := TX12) (N := 27) hx hb hts inX12_X12_quarter hown hK.1 hP 0 rfl rfl 1 (by decide) (hts (.fieldLink RX12 7 "SandPalaceModel" "kinds" "[I") (by decide +kernel)) (fun _ h9 => h9) rfl dX12_quarter_13 ?_
    refine lv_iload_n hx hb dX12_quarter_16 rfl (lv_at hl 1 rfl) ?_
    obtain ⟨v3, i_v3, e_v3, h⟩ := aI_some h
    refine miald hx hb hK.1 hP 1 0 rfl rfl i_v3 e_v3 dX12_quarter_17 ?_
    refine lv_iconst (v := (3 : Int32)) hx hb dX12_quarter_18 (by decide) ?_
    refine lv_icmp_ge (tgt := 27) hx hb dX12_quarter_19 (by decide) (fun c4 => ?_) (fun c4 => ?_)
    · have h := it_t c4 h
      refine lv_aload_n hx hb dX12_quarter_27 rfl (lv_at hl 0 rfl) ?_
      refine va_get (D := D) (ci := 11) (v := .ref (a 9)) (C := RX12) (T := TX12) (N := 27) hx hb hts inX12_X12_quarter hown hK.1 hP 0 rfl rfl 9 (by decide) (hts (.fieldLink RX12 35 "SandPalaceModel" "sizes" "[I") (by decide +kernel)) (fun _ h9 => h9) rfl dX12_quarter_28 ?_
      refine lv_iload_n hx hb dX12_quarter_31 rfl (lv_at hl 1 rfl) ?_
      obtain ⟨v5, i_v5, e_v5, h⟩ := aI_some h
      refine miald hx hb hK.1 hP 9 0 rfl rfl i_v5 e_v5 dX12_quarter_32 ?_
      refine lv_iconst (v := (4 : Int32)) hx hb dX12_quarter_33 (by decide) ?_
      refine lv_idiv hx hb dX12_quarter_34 (by decide) ?_
      exact mretS hx hb hr hlk h dX12_quarter_35
    · have h := it_f c4 h
      refine lv_bipush (v := ((-12) : Int32)) hx hb dX12_quarter_22 (by decide) ?_
      refine lv_goto (tgt := 35) hx hb dX12_quarter_24 (by decide) ?_
      exact mretS hx hb hr hlk h dX12_quarter_35
  · have h := it_n c2 h
    refine lv_iconst (v := ((-1) : Int32)) hx hb dX12_quarter_8 (by decide) ?_
    refine lv_goto (tgt := 35) hx hb dX12_quarter_9 (by decide) ?_
    exact mretS hx hb hr hlk h dX12_quarter_35
def fX12_colourAt_L38 (F : Nat) (σ : Nat → Nat → Int32) (kx : Int32 → Option Int32) : Nat → Int32 → Option Int32
  | 0, _ => none
  | n+1, x3 =>
    nb ((fun x3 => fX12_colourAt_L38 F σ kx n x3)) fun kb =>
    if x3 ≤ (9 : Int32) then (kx x3) else (kb (x3 + ((-9) : Int32)))
def fX12_colourAt (F : Nat) (σ : Nat → Nat → Int32) (x1 : Int32) (x2 : Int32) : Option Int32 :=
  aI (σ 2) 10 x1 fun v1 => aI (σ 1) 10 x1 fun v2 => if ¬ v2 = (4 : Int32) then (some v1) else (bd (fX12_quarterOf (x2 - x2 / (16 : Int32) * (16 : Int32)) (x2 / (16 : Int32))) fun v4 => aI (σ 7) 10 x1 fun v5 => fX12_colourAt_L38 F σ (fun y6 => some y6) F (v1 + (v4 * v5)))
abbrev rmX12_colourAt : Room := { frames := 1, cells := 0, slots := 0, locals := 21 }
theorem inX12_X12_colourAt : ∀ w ∈ wsX120, w ∈ wsX12_colourAt := by intro w h; simp only [wsX12_colourAt, List.mem_cons, List.mem_append]; simp only [h, true_or, or_true]
set_option maxHeartbeats 4000000 in
set_option maxRecDepth 100000 in
theorem wX12_colourAt_L38 {p : Program} {l : Launch} {e : Env} {s : State} {m : MethodId} {args : Array Value} {below : List Frame} {meth : Method} {c : Code} (C : cxt p s m args meth c cX12_colourAt 4 RX12 wsX12_colourAt (some .int)) {D : va_G} {cs : Nat → ClassId} {a : Nat → Nat} (hK : KK D cs s) {σ : Nat → Nat → Int32} (hP : va_P D vwCl (mW a cs σ) s.heap) (r : Int32) (F : Nat) (kx : Int32 → Option Int32) (hkx : ∀ (x3 : Int32) (ls : Array Slot), lv_has ls 4 [(3, .int x3)] → kx x3 = some r → W p l e rmX12_colourAt s m args below meth c s.heap [] 0 0 (MQ below (vp_Si (fun x => x = r)) args s 0 0 (fun _ => False)) (F0 m 50 ls [])) : ∀ (n : Nat) (x3 : Int32) (ls : Array Slot), lv_has ls 4 [(3, .int x3)] → fX12_colourAt_L38 F σ kx n x3 = some r → W p l e rmX12_colourAt s m args below meth c s.heap [] 0 0 (MQ below (vp_Si (fun x => x = r)) args s 0 0 (fun _ => False)) (F0 m 38 ls []) := by
  obtain ⟨hx, hb, hml, hown, hts, hr, hlk⟩ := id C
  intro n
  induction n with
  | zero =>
    intros
    rename_i h
    cases h
  | succ n ih =>
    intro x3 ls hl h
    rw [fX12_colourAt_L38] at h
    obtain ⟨kb, hkb, h⟩ := nb_some (P := fun (kb : Int32 → Option Int32) => ∀ (x3 : Int32) (ls : Array Slot), lv_has ls 4 [(3, .int x3)] → kb x3 = some r → W p l e rmX12_colourAt s m args below meth c s.heap [] 0 0 (MQ below (vp_Si (fun x => x = r)) args s 0 0 (fun _ => False)) (F0 m 38 ls [])) h ih
    refine lv_iload_n hx hb dX12_colourAt_38 rfl (lv_at hl 0 rfl) ?_
    refine lv_bipush (v := (9 : Int32)) hx hb dX12_colourAt_39 (by decide) ?_
    refine lv_icmp_le (tgt := 50) hx hb dX12_colourAt_41 (by decide) (fun c6 => ?_) (fun c6 => ?_)
    · have h := it_t c6 h
      exact hkx x3 ls (lv_sub hl [0] rfl) h
    · have h := it_f c6 h
      refine lv_iinc (v := x3 + ((-9) : Int32)) (lv' := [(3, .int (x3 + ((-9) : Int32)))]) hx hb dX12_colourAt_44 hl (k := 0) rfl rfl (by decide) rfl (fun ls hl => ?_)
      refine lv_goto (tgt := 38) hx hb dX12_colourAt_47 (by decide) ?_
      exact hkb (x3 + ((-9) : Int32)) ls (lv_sub hl [0] rfl) h
set_option maxHeartbeats 4000000 in
set_option maxRecDepth 100000 in
theorem kX12_colourAt (l : Launch) (D : va_G) (cs : Nat → ClassId) (a : Nat → Nat) (σ : Nat → Nat → Int32) (F : Nat) (x1 : Int32) (x2 : Int32) (r : Int32) (h : fX12_colourAt F σ x1 x2 = some r) : Met l yX12_colourAt wsX12_colourAt rmX12_colourAt (va_Pc [.ref (a 0), .int x1, .int x2] (pR D cs (mW a cs σ))) (vp_Si (fun x => x = r)) 0 0 (fun _ => False) := by
  refine Met.ofW (cc := cX12_colourAt) (maxL := 4) (ret := (some .int)) (by decide) rfl ?_
  intro p e s m args below meth c s₁ B hml hv
  obtain ⟨rfl, hP, hK⟩ := hv
  have C : cxt p s m _ meth c cX12_colourAt 4 RX12 wsX12_colourAt (some .int) := ⟨B.exec, B.bytes, hml, findClass_of_methodNamed B.named, atoms_spec (ws := wsX12_colourAt) B.pre, B.returns, B.notSynchronized⟩
  obtain ⟨hx, hb, -, hown, hts, hr, hlk⟩ := id C
  refine entryW [.ref (a 0), .int x1, .int x2] (n := 4) (Nat.le_of_ble_eq_true rfl) (fun ls hl => ?_)
  have hl : lv_has ls 4 [(0, .ref (a 0)), (1, .int x1), (2, .int x2)] := hl
  unfold fX12_colourAt at h
  refine lv_aload_n hx hb dX12_colourAt_0 rfl (lv_at hl 0 rfl) ?_
  refine va_get (D := D) (ci := 11) (v := .ref (a 2)) (C := RX12) (T := TX12) (N := 27) hx hb hts inX12_X12_colourAt hown hK.1 hP 0 rfl rfl 2 (by decide) (hts (.fieldLink RX12 13 "SandPalaceModel" "colours" "[I") (by decide +kernel)) (fun _ h9 => h9) rfl dX12_colourAt_1 ?_
  refine lv_iload_n hx hb dX12_colourAt_4 rfl (lv_at hl 1 rfl) ?_
  obtain ⟨v1, i_v1, e_v1, h⟩ := aI_some h
  refine miald hx hb hK.1 hP 2 0 rfl rfl i_v1 e_v1 dX12_colourAt_5 ?_
  refine lv_istore_n (lv' := [(3, .int v1), (0, .ref (a 0)), (1, .int x1), (2, .int x2)]) hx hb dX12_colourAt_6 rfl hl (by decide) rfl (fun ls hl => ?_)
  refine lv_aload_n hx hb dX12_colourAt_7 rfl (lv_at hl 1 rfl) ?_
  refine va_get (D := D) (ci := 11) (v := .ref (a 1)) (C := RX12) (T := TX12) (N := 27) hx hb hts inX12_X12_colourAt hown hK.1 hP 0 rfl rfl 1 (by decide) (hts (.fieldLink RX12 7 "SandPalaceModel" "kinds" "[I") (by decide +kernel)) (fun _ h9 => h9) rfl dX12_colourAt_8 ?_
  refine lv_iload_n hx hb dX12_colourAt_11 rfl (lv_at hl 2 rfl) ?_
  obtain ⟨v2, i_v2, e_v2, h⟩ := aI_some h
  refine miald hx hb hK.1 hP 1 0 rfl rfl i_v2 e_v2 dX12_colourAt_12 ?_
  refine lv_iconst (v := (4 : Int32)) hx hb dX12_colourAt_13 (by decide) ?_
  refine lv_icmp_ne (tgt := 50) hx hb dX12_colourAt_14 (by decide) (fun c3 => ?_) (fun c3 => ?_)
  · have h := it_t c3 h
    refine lv_iload_n hx hb dX12_colourAt_50 rfl (lv_at hl 0 rfl) ?_
    exact mretS hx hb hr hlk h dX12_colourAt_51
  · have h := it_n c3 h
    refine lv_iload_n hx hb dX12_colourAt_17 rfl (lv_at hl 0 rfl) ?_
    refine lv_iload_n hx hb dX12_colourAt_18 rfl (lv_at hl 3 rfl) ?_
    refine lv_bipush (v := (16 : Int32)) hx hb dX12_colourAt_19 (by decide) ?_
    refine lv_irem hx hb dX12_colourAt_21 (by decide) ?_
    refine lv_iload_n hx hb dX12_colourAt_22 rfl (lv_at hl 3 rfl) ?_
    refine lv_bipush (v := (16 : Int32)) hx hb dX12_colourAt_23 (by decide) ?_
    refine lv_idiv hx hb dX12_colourAt_25 (by decide) ?_
    obtain ⟨v4, hc_v4, h⟩ := bd_some h
    refine mcallS (va_runS (As := [.int (x2 - x2 / (16 : Int32) * (16 : Int32)), .int (x2 / (16 : Int32))]) (rest := [.int v1]) ⟨hx, hb, hml, hown, hts⟩ (kX12_quarterOf l (x2 - x2 / (16 : Int32) * (16 : Int32)) (x2 / (16 : Int32)) v4 hc_v4) (va_cwS 2 hts gX12_colourAt_X12_quarterOf rfl rfl rfl (by decide +kernel) ⟨Nat.le_of_ble_eq_true rfl, Nat.le_of_ble_eq_true rfl⟩) p0_s rfl rfl hl.1 rfl (lv_room (Nat.le_of_ble_eq_true rfl)) dX12_colourAt_26 ⟨Nat.zero_le _, Nat.zero_le _⟩) ?_
    refine lv_aload_n hx hb dX12_colourAt_29 rfl (lv_at hl 1 rfl) ?_
    refine va_get (D := D) (ci := 11) (v := .ref (a 7)) (C := RX12) (T := TX12) (N := 27) hx hb hts inX12_X12_colourAt hown hK.1 hP 0 rfl rfl 7 (by decide) (hts (.fieldLink RX12 28 "SandPalaceModel" "steps" "[I") (by decide +kernel)) (fun _ h9 => h9) rfl dX12_colourAt_30 ?_
    refine lv_iload_n hx hb dX12_colourAt_33 rfl (lv_at hl 2 rfl) ?_
    obtain ⟨v5, i_v5, e_v5, h⟩ := aI_some h
    refine miald hx hb hK.1 hP 7 0 rfl rfl i_v5 e_v5 dX12_colourAt_34 ?_
    refine lv_imul hx hb dX12_colourAt_35 ?_
    refine lv_iadd hx hb dX12_colourAt_36 ?_
    refine lv_istore_n (lv' := [(3, .int (v1 + (v4 * v5))), (0, .ref (a 0)), (1, .int x1), (2, .int x2)]) hx hb dX12_colourAt_37 rfl hl (by decide) rfl (fun ls hl => ?_)
    refine wX12_colourAt_L38 C hK hP r F  _ ?_ F (v1 + (v4 * v5)) ls (lv_sub hl [0] rfl) h
    intro y6 ls hl h
    refine lv_iload_n hx hb dX12_colourAt_50 rfl (lv_at hl 0 rfl) ?_
    exact mretS hx hb hr hlk h dX12_colourAt_51
def fX12_lookOf_J37 (F : Nat) (kb : Int32 → Int32 → Option Int32) (x1 : Int32) (x3 : Int32) (t0 : Int32) (σ : Nat → Nat → Int32) : Option Int32 :=
  kb t0 (x3 + (1 : Int32))
def fX12_lookOf_L4 (F : Nat) (σ : Nat → Nat → Int32) (x1 : Int32) (kx : Int32 → Option Int32) : Nat → Int32 → Int32 → Option Int32
  | 0, _, _ => none
  | n+1, x2, x3 =>
    nb ((fun x2 x3 => fX12_lookOf_L4 F σ x1 kx n x2 x3)) fun kb =>
    if (σ 0 0) ≤ x3 then (kx x2) else (aI (σ 8) 2560 (((256 : Int32) * x3) + x1) fun v2 => if v2 = 0 then (fX12_lookOf_J37 F kb x1 x3 x2 σ) else (bd (fX12_colourAt F σ x3 x1) fun v4 => fX12_lookOf_J37 F kb x1 x3 v4 σ))
def fX12_lookOf (F : Nat) (σ : Nat → Nat → Int32) (x1 : Int32) : Option Int32 :=
  fX12_lookOf_L4 F σ x1 (fun y1 => some y1) F (0 : Int32) (0 : Int32)
abbrev rmX12_lookOf : Room := { frames := 2, cells := 0, slots := 0, locals := 44 }
theorem inX12_X12_lookOf : ∀ w ∈ wsX120, w ∈ wsX12_lookOf := by intro w h; simp only [wsX12_lookOf, List.mem_cons, List.mem_append]; simp only [h, true_or, or_true]
set_option maxHeartbeats 4000000 in
set_option maxRecDepth 100000 in
theorem wX12_lookOf_J37 {p : Program} {l : Launch} {e : Env} {s : State} {m : MethodId} {args : Array Value} {below : List Frame} {meth : Method} {c : Code} (C : cxt p s m args meth c cX12_lookOf 4 RX12 wsX12_lookOf (some .int)) {D : va_G} {cs : Nat → ClassId} {a : Nat → Nat} (hK : KK D cs s) {σ : Nat → Nat → Int32} (hP : va_P D vwCl (mW a cs σ) s.heap) (r : Int32) (F : Nat) (kb : Int32 → Int32 → Option Int32) (x1 : Int32) (x3 : Int32) (t0 : Int32) (hkb : ∀ (x2 : Int32) (x3 : Int32) (ls : Array Slot), lv_has ls 4 [(0, .ref (a 0)), (1, .int x1), (2, .int x2), (3, .int x3)] → kb x2 x3 = some r → W p l e rmX12_lookOf s m args below meth c s.heap [] 0 0 (MQ below (vp_Si (fun x => x = r)) args s 0 0 (fun _ => False)) (F0 m 4 ls [])) (ls : Array Slot) (hl : lv_has ls 4 [(0, .ref (a 0)), (1, .int x1), (3, .int x3)]) (h : fX12_lookOf_J37 F kb x1 x3 t0 σ = some r) : W p l e rmX12_lookOf s m args below meth c s.heap [] 0 0 (MQ below (vp_Si (fun x => x = r)) args s 0 0 (fun _ => False)) (F0 m 37 ls [.int t0]) := by
  obtain ⟨hx, hb, hml, hown, hts, hr, hlk⟩ := id C
  unfold fX12_lookOf_J37 at h
  refine lv_istore_n (lv' := [(2, .int t0), (0, .ref (a 0)), (1, .int x1), (3, .int x3)]) hx hb dX12_lookOf_37 rfl hl (by decide) rfl (fun ls hl => ?_)
  refine lv_iinc (v := x3 + (1 : Int32)) (lv' := [(3, .int (x3 + (1 : Int32))), (2, .int t0), (0, .ref (a 0)), (1, .int x1)]) hx hb dX12_lookOf_38 hl (k := 3) rfl rfl (by decide) rfl (fun ls hl => ?_)
  refine lv_goto (tgt := 4) hx hb dX12_lookOf_41 (by decide) ?_
  exact hkb t0 (x3 + (1 : Int32)) ls (lv_sub hl [2, 3, 1, 0] rfl) h
set_option maxHeartbeats 4000000 in
set_option maxRecDepth 100000 in
theorem wX12_lookOf_L4 {p : Program} {l : Launch} {e : Env} {s : State} {m : MethodId} {args : Array Value} {below : List Frame} {meth : Method} {c : Code} (C : cxt p s m args meth c cX12_lookOf 4 RX12 wsX12_lookOf (some .int)) {D : va_G} {cs : Nat → ClassId} {a : Nat → Nat} (hK : KK D cs s) {σ : Nat → Nat → Int32} (hP : va_P D vwCl (mW a cs σ) s.heap) (r : Int32) (F : Nat) (x1 : Int32) (kx : Int32 → Option Int32) (hkx : ∀ (x2 : Int32) (ls : Array Slot), lv_has ls 4 [(2, .int x2)] → kx x2 = some r → W p l e rmX12_lookOf s m args below meth c s.heap [] 0 0 (MQ below (vp_Si (fun x => x = r)) args s 0 0 (fun _ => False)) (F0 m 44 ls [])) : ∀ (n : Nat) (x2 : Int32) (x3 : Int32) (ls : Array Slot), lv_has ls 4 [(0, .ref (a 0)), (1, .int x1), (2, .int x2), (3, .int x3)] → fX12_lookOf_L4 F σ x1 kx n x2 x3 = some r → W p l e rmX12_lookOf s m args below meth c s.heap [] 0 0 (MQ below (vp_Si (fun x => x = r)) args s 0 0 (fun _ => False)) (F0 m 4 ls []) := by
  obtain ⟨hx, hb, hml, hown, hts, hr, hlk⟩ := id C
  intro n
  induction n with
  | zero =>
    intros
    rename_i h
    cases h
  | succ n ih =>
    intro x2 x3 ls hl h
    rw [fX12_lookOf_L4] at h
    obtain ⟨kb, hkb, h⟩ := nb_some (P := fun (kb : Int32 → Int32 → Option Int32) => ∀ (x2 : Int32) (x3 : Int32) (ls : Array Slot), lv_has ls 4 [(0, .ref (a 0)), (1, .int x1), (2, .int x2), (3, .int x3)] → kb x2 x3 = some r → W p l e rmX12_lookOf s m args below meth c s.heap [] 0 0 (MQ below (vp_Si (fun x => x = r)) args s 0 0 (fun _ => False)) (F0 m 4 ls [])) h ih
    refine lv_iload_n hx hb dX12_lookOf_4 rfl (lv_at hl 3 rfl) ?_
    refine lv_aload_n hx hb dX12_lookOf_5 rfl (lv_at hl 0 rfl) ?_
    refine va_get (D := D) (ci := 11) (v := .int (σ 0 0)) (C := RX12) (T := TX12) (N := 27) hx hb hts inX12_X12_lookOf hown hK.1 hP 0 rfl rfl 0 (by decide) (hts (.fieldLink RX12 103 "SandPalaceModel" "shapes" "I") (by decide +kernel)) (fun _ h9 => h9) rfl dX12_lookOf_6 ?_
    refine lv_icmp_ge (tgt := 44) hx hb dX12_lookOf_9 (by decide) (fun c1 => ?_) (fun c1 => ?_)
    · have h := it_t c1 h
      exact hkx x2 ls (lv_sub hl [2] rfl) h
    · have h := it_f c1 h
      refine lv_aload_n hx hb dX12_lookOf_12 rfl (lv_at hl 0 rfl) ?_
      refine va_get (D := D) (ci := 11) (v := .ref (a 8)) (C := RX12) (T := TX12) (N := 27) hx hb hts inX12_X12_lookOf hown hK.1 hP 0 rfl rfl 8 (by decide) (hts (.fieldLink RX12 31 "SandPalaceModel" "has" "[Z") (by decide +kernel)) (fun _ h9 => h9) rfl dX12_lookOf_13 ?_
      refine lv_sipush (v := (256 : Int32)) hx hb dX12_lookOf_16 (by decide) ?_
      refine lv_iload_n hx hb dX12_lookOf_19 rfl (lv_at hl 3 rfl) ?_
      refine lv_imul hx hb dX12_lookOf_20 ?_
      refine lv_iload_n hx hb dX12_lookOf_21 rfl (lv_at hl 1 rfl) ?_
      refine lv_iadd hx hb dX12_lookOf_22 ?_
      obtain ⟨v2, i_v2, e_v2, h⟩ := aI_some h
      refine mzald hx hb hK.1 hP 8 1 rfl rfl i_v2 e_v2 dX12_lookOf_23 ?_
      refine lv_if_eq (tgt := 36) hx hb dX12_lookOf_24 (by decide) (fun c3 => ?_) (fun c3 => ?_)
      · have h := it_t c3 h
        refine lv_iload_n hx hb dX12_lookOf_36 rfl (lv_at hl 2 rfl) ?_
        exact wX12_lookOf_J37 C hK hP r F kb x1 x3 x2 hkb ls (lv_sub hl [0, 1, 3] rfl) h
      · have h := it_f c3 h
        refine lv_aload_n hx hb dX12_lookOf_27 rfl (lv_at hl 0 rfl) ?_
        refine lv_iload_n hx hb dX12_lookOf_28 rfl (lv_at hl 3 rfl) ?_
        refine lv_iload_n hx hb dX12_lookOf_29 rfl (lv_at hl 1 rfl) ?_
        obtain ⟨v4, hc_v4, h⟩ := bd_some h
        refine mcallS (va_runV (As := [.int x3, .int x1]) (rest := []) ⟨hx, hb, hml, hown, hts⟩ (kX12_colourAt l D cs a σ F x3 x1 v4 hc_v4) (cwV 2 hts gX12_lookOf_X12_colourAt rfl rfl rfl (by decide +kernel) ⟨Nat.le_of_ble_eq_true rfl, Nat.le_of_ble_eq_true rfl⟩) (pR_v hP hK (va_recv hK.1 hP (ci := 11) (q0 := 0) rfl rfl)) rfl rfl hl.1 rfl (lv_room (Nat.le_of_ble_eq_true rfl)) dX12_lookOf_30 ⟨Nat.zero_le _, Nat.zero_le _⟩) ?_
        refine lv_goto (tgt := 37) hx hb dX12_lookOf_33 (by decide) ?_
        exact wX12_lookOf_J37 C hK hP r F kb x1 x3 v4 hkb ls (lv_sub hl [0, 1, 3] rfl) h
set_option maxHeartbeats 4000000 in
set_option maxRecDepth 100000 in
theorem kX12_lookOf (l : Launch) (D : va_G) (cs : Nat → ClassId) (a : Nat → Nat) (σ : Nat → Nat → Int32) (F : Nat) (x1 : Int32) (r : Int32) (h : fX12_lookOf F σ x1 = some r) : Met l yX12_lookOf wsX12_lookOf rmX12_lookOf (va_Pc [.ref (a 0), .int x1] (pR D cs (mW a cs σ))) (vp_Si (fun x => x = r)) 0 0 (fun _ => False) := by
  refine Met.ofW (cc := cX12_lookOf) (maxL := 4) (ret := (some .int)) (by decide) rfl ?_
  intro p e s m args below meth c s₁ B hml hv
  obtain ⟨rfl, hP, hK⟩ := hv
  have C : cxt p s m _ meth c cX12_lookOf 4 RX12 wsX12_lookOf (some .int) := ⟨B.exec, B.bytes, hml, findClass_of_methodNamed B.named, atoms_spec (ws := wsX12_lookOf) B.pre, B.returns, B.notSynchronized⟩
  obtain ⟨hx, hb, -, hown, hts, hr, hlk⟩ := id C
  refine entryW [.ref (a 0), .int x1] (n := 4) (Nat.le_of_ble_eq_true rfl) (fun ls hl => ?_)
  have hl : lv_has ls 4 [(0, .ref (a 0)), (1, .int x1)] := hl
  unfold fX12_lookOf at h
  refine lv_iconst (v := (0 : Int32)) hx hb dX12_lookOf_0 (by decide) ?_
  refine lv_istore_n (lv' := [(2, .int (0 : Int32)), (0, .ref (a 0)), (1, .int x1)]) hx hb dX12_lookOf_1 rfl hl (by decide) rfl (fun ls hl => ?_)
  refine lv_iconst (v := (0 : Int32)) hx hb dX12_lookOf_2 (by decide) ?_
  refine lv_istore_n (lv' := [(3, .int (0 : Int32)), (2, .int (0 : Int32)), (0, .ref (a 0)), (1, .int x1)]) hx hb dX12_lookOf_3 rfl hl (by decide) rfl (fun ls hl => ?_)
  refine wX12_lookOf_L4 C hK hP r F x1 _ ?_ F (0 : Int32) (0 : Int32) ls (lv_sub hl [2, 3, 1, 0] rfl) h
  intro y1 ls hl h
  refine lv_iload_n hx hb dX12_lookOf_44 rfl (lv_at hl 0 rfl) ?_
  exact mretS hx hb hr hlk h dX12_lookOf_45
def fX12_layersOf_J35 (F : Nat) (kb : Int32 → Int32 → Option Int32) (x1 : Int32) (x3 : Int32) (t0 : Int32) (t1 : Int32) (σ : Nat → Nat → Int32) : Option Int32 :=
  kb (t1 ||| t0) (x3 + (1 : Int32))
def fX12_layersOf_L4 (F : Nat) (σ : Nat → Nat → Int32) (x1 : Int32) (kx : Int32 → Option Int32) : Nat → Int32 → Int32 → Option Int32
  | 0, _, _ => none
  | n+1, x2, x3 =>
    nb ((fun x2 x3 => fX12_layersOf_L4 F σ x1 kx n x2 x3)) fun kb =>
    if (σ 0 0) ≤ x3 then (kx x2) else (aI (σ 8) 2560 (((256 : Int32) * x3) + x1) fun v2 => if v2 = 0 then (fX12_layersOf_J35 F kb x1 x3 (0 : Int32) x2 σ) else (fX12_layersOf_J35 F kb x1 x3 ((1 : Int32) <<< (x3 &&& 31)) x2 σ))
def fX12_layersOf (F : Nat) (σ : Nat → Nat → Int32) (x1 : Int32) : Option Int32 :=
  fX12_layersOf_L4 F σ x1 (fun y1 => some y1) F (0 : Int32) (0 : Int32)
abbrev rmX12_layersOf : Room := { frames := 0, cells := 0, slots := 0, locals := 0 }
theorem inX12_X12_layersOf : ∀ w ∈ wsX120, w ∈ wsX12_layersOf := by intro w h; simp only [wsX12_layersOf, List.mem_cons, List.mem_append]; simp only [h, true_or, or_true]
set_option maxHeartbeats 4000000 in
set_option maxRecDepth 100000 in
theorem wX12_layersOf_J35 {p : Program} {l : Launch} {e : Env} {s : State} {m : MethodId} {args : Array Value} {below : List Frame} {meth : Method} {c : Code} (C : cxt p s m args meth c cX12_layersOf 4 RX12 wsX12_layersOf (some .int)) {D : va_G} {cs : Nat → ClassId} {a : Nat → Nat} (hK : KK D cs s) {σ : Nat → Nat → Int32} (hP : va_P D vwCl (mW a cs σ) s.heap) (r : Int32) (F : Nat) (kb : Int32 → Int32 → Option Int32) (x1 : Int32) (x3 : Int32) (t0 : Int32) (t1 : Int32) (hkb : ∀ (x2 : Int32) (x3 : Int32) (ls : Array Slot), lv_has ls 4 [(0, .ref (a 0)), (1, .int x1), (2, .int x2), (3, .int x3)] → kb x2 x3 = some r → W p l e rmX12_layersOf s m args below meth c s.heap [] 0 0 (MQ below (vp_Si (fun x => x = r)) args s 0 0 (fun _ => False)) (F0 m 4 ls [])) (ls : Array Slot) (hl : lv_has ls 4 [(0, .ref (a 0)), (1, .int x1), (3, .int x3)]) (h : fX12_layersOf_J35 F kb x1 x3 t0 t1 σ = some r) : W p l e rmX12_layersOf s m args below meth c s.heap [] 0 0 (MQ below (vp_Si (fun x => x = r)) args s 0 0 (fun _ => False)) (F0 m 35 ls [.int t0, .int t1]) := by
  obtain ⟨hx, hb, hml, hown, hts, hr, hlk⟩ := id C
  unfold fX12_layersOf_J35 at h
  refine lv_ior hx hb dX12_layersOf_35 ?_
  refine lv_istore_n (lv' := [(2, .int (t1 ||| t0)), (0, .ref (a 0)), (1, .int x1), (3, .int x3)]) hx hb dX12_layersOf_36 rfl hl (by decide) rfl (fun ls hl => ?_)
  refine lv_iinc (v := x3 + (1 : Int32)) (lv' := [(3, .int (x3 + (1 : Int32))), (2, .int (t1 ||| t0)), (0, .ref (a 0)), (1, .int x1)]) hx hb dX12_layersOf_37 hl (k := 3) rfl rfl (by decide) rfl (fun ls hl => ?_)
  refine lv_goto (tgt := 4) hx hb dX12_layersOf_40 (by decide) ?_
  exact hkb (t1 ||| t0) (x3 + (1 : Int32)) ls (lv_sub hl [2, 3, 1, 0] rfl) h
set_option maxHeartbeats 4000000 in
set_option maxRecDepth 100000 in
theorem wX12_layersOf_L4 {p : Program} {l : Launch} {e : Env} {s : State} {m : MethodId} {args : Array Value} {below : List Frame} {meth : Method} {c : Code} (C : cxt p s m args meth c cX12_layersOf 4 RX12 wsX12_layersOf (some .int)) {D : va_G} {cs : Nat → ClassId} {a : Nat → Nat} (hK : KK D cs s) {σ : Nat → Nat → Int32} (hP : va_P D vwCl (mW a cs σ) s.heap) (r : Int32) (F : Nat) (x1 : Int32) (kx : Int32 → Option Int32) (hkx : ∀ (x2 : Int32) (ls : Array Slot), lv_has ls 4 [(2, .int x2)] → kx x2 = some r → W p l e rmX12_layersOf s m args below meth c s.heap [] 0 0 (MQ below (vp_Si (fun x => x = r)) args s 0 0 (fun _ => False)) (F0 m 43 ls [])) : ∀ (n : Nat) (x2 : Int32) (x3 : Int32) (ls : Array Slot), lv_has ls 4 [(0, .ref (a 0)), (1, .int x1), (2, .int x2), (3, .int x3)] → fX12_layersOf_L4 F σ x1 kx n x2 x3 = some r → W p l e rmX12_layersOf s m args below meth c s.heap [] 0 0 (MQ below (vp_Si (fun x => x = r)) args s 0 0 (fun _ => False)) (F0 m 4 ls []) := by
  obtain ⟨hx, hb, hml, hown, hts, hr, hlk⟩ := id C
  intro n
  induction n with
  | zero =>
    intros
    rename_i h
    cases h
  | succ n ih =>
    intro x2 x3 ls hl h
    rw [fX12_layersOf_L4] at h
    obtain ⟨kb, hkb, h⟩ := nb_some (P := fun (kb : Int32 → Int32 → Option Int32) => ∀ (x2 : Int32) (x3 : Int32) (ls : Array Slot), lv_has ls 4 [(0, .ref (a 0)), (1, .int x1), (2, .int x2), (3, .int x3)] → kb x2 x3 = some r → W p l e rmX12_layersOf s m args below meth c s.heap [] 0 0 (MQ below (vp_Si (fun x => x = r)) args s 0 0 (fun _ => False)) (F0 m 4 ls [])) h ih
    refine lv_iload_n hx hb dX12_layersOf_4 rfl (lv_at hl 3 rfl) ?_
    refine lv_aload_n hx hb dX12_layersOf_5 rfl (lv_at hl 0 rfl) ?_
    refine va_get (D := D) (ci := 11) (v := .int (σ 0 0)) (C := RX12) (T := TX12) (N := 27) hx hb hts inX12_X12_layersOf hown hK.1 hP 0 rfl rfl 0 (by decide) (hts (.fieldLink RX12 103 "SandPalaceModel" "shapes" "I") (by decide +kernel)) (fun _ h9 => h9) rfl dX12_layersOf_6 ?_
    refine lv_icmp_ge (tgt := 43) hx hb dX12_layersOf_9 (by decide) (fun c1 => ?_) (fun c1 => ?_)
    · have h := it_t c1 h
      exact hkx x2 ls (lv_sub hl [2] rfl) h
    · have h := it_f c1 h
      refine lv_iload_n hx hb dX12_layersOf_12 rfl (lv_at hl 2 rfl) ?_
      refine lv_aload_n hx hb dX12_layersOf_13 rfl (lv_at hl 0 rfl) ?_
      refine va_get (D := D) (ci := 11) (v := .ref (a 8)) (C := RX12) (T := TX12) (N := 27) hx hb hts inX12_X12_layersOf hown hK.1 hP 0 rfl rfl 8 (by decide) (hts (.fieldLink RX12 31 "SandPalaceModel" "has" "[Z") (by decide +kernel)) (fun _ h9 => h9) rfl dX12_layersOf_14 ?_
      refine lv_sipush (v := (256 : Int32)) hx hb dX12_layersOf_17 (by decide) ?_
      refine lv_iload_n hx hb dX12_layersOf_20 rfl (lv_at hl 3 rfl) ?_
      refine lv_imul hx hb dX12_layersOf_21 ?_
      refine lv_iload_n hx hb dX12_layersOf_22 rfl (lv_at hl 1 rfl) ?_
      refine lv_iadd hx hb dX12_layersOf_23 ?_
      obtain ⟨v2, i_v2, e_v2, h⟩ := aI_some h
      refine mzald hx hb hK.1 hP 8 1 rfl rfl i_v2 e_v2 dX12_layersOf_24 ?_
      refine lv_if_eq (tgt := 34) hx hb dX12_layersOf_25 (by decide) (fun c3 => ?_) (fun c3 => ?_)
      · have h := it_t c3 h
        refine lv_iconst (v := (0 : Int32)) hx hb dX12_layersOf_34 (by decide) ?_
        exact wX12_layersOf_J35 C hK hP r F kb x1 x3 (0 : Int32) x2 hkb ls (lv_sub hl [0, 1, 3] rfl) h
      · have h := it_f c3 h
        refine lv_iconst (v := (1 : Int32)) hx hb dX12_layersOf_28 (by decide) ?_
        refine lv_iload_n hx hb dX12_layersOf_29 rfl (lv_at hl 3 rfl) ?_
        refine lv_ishl hx hb dX12_layersOf_30 ?_
        refine lv_goto (tgt := 35) hx hb dX12_layersOf_31 (by decide) ?_
        exact wX12_layersOf_J35 C hK hP r F kb x1 x3 ((1 : Int32) <<< (x3 &&& 31)) x2 hkb ls (lv_sub hl [0, 1, 3] rfl) h
set_option maxHeartbeats 4000000 in
set_option maxRecDepth 100000 in
theorem kX12_layersOf (l : Launch) (D : va_G) (cs : Nat → ClassId) (a : Nat → Nat) (σ : Nat → Nat → Int32) (F : Nat) (x1 : Int32) (r : Int32) (h : fX12_layersOf F σ x1 = some r) : Met l yX12_layersOf wsX12_layersOf rmX12_layersOf (va_Pc [.ref (a 0), .int x1] (pR D cs (mW a cs σ))) (vp_Si (fun x => x = r)) 0 0 (fun _ => False) := by
  refine Met.ofW (cc := cX12_layersOf) (maxL := 4) (ret := (some .int)) (by decide) rfl ?_
  intro p e s m args below meth c s₁ B hml hv
  obtain ⟨rfl, hP, hK⟩ := hv
  have C : cxt p s m _ meth c cX12_layersOf 4 RX12 wsX12_layersOf (some .int) := ⟨B.exec, B.bytes, hml, findClass_of_methodNamed B.named, atoms_spec (ws := wsX12_layersOf) B.pre, B.returns, B.notSynchronized⟩
  obtain ⟨hx, hb, -, hown, hts, hr, hlk⟩ := id C
  refine entryW [.ref (a 0), .int x1] (n := 4) (Nat.le_of_ble_eq_true rfl) (fun ls hl => ?_)
  have hl : lv_has ls 4 [(0, .ref (a 0)), (1, .int x1)] := hl
  unfold fX12_layersOf at h
  refine lv_iconst (v := (0 : Int32)) hx hb dX12_layersOf_0 (by decide) ?_
  refine lv_istore_n (lv' := [(2, .int (0 : Int32)), (0, .ref (a 0)), (1, .int x1)]) hx hb dX12_layersOf_1 rfl hl (by decide) rfl (fun ls hl => ?_)
  refine lv_iconst (v := (0 : Int32)) hx hb dX12_layersOf_2 (by decide) ?_
  refine lv_istore_n (lv' := [(3, .int (0 : Int32)), (2, .int (0 : Int32)), (0, .ref (a 0)), (1, .int x1)]) hx hb dX12_layersOf_3 rfl hl (by decide) rfl (fun ls hl => ?_)
  refine wX12_layersOf_L4 C hK hP r F x1 _ ?_ F (0 : Int32) (0 : Int32) ls (lv_sub hl [2, 3, 1, 0] rfl) h
  intro y1 ls hl h
  refine lv_iload_n hx hb dX12_layersOf_43 rfl (lv_at hl 0 rfl) ?_
  exact mretS hx hb hr hlk h dX12_layersOf_44
def fX12_isCell (x0 : Int32) (x1 : Int32) : Option Int32 :=
  bd (fX12_in x0.toInt64 (0 : Int64) (15 : Int64)) fun v1 => if v1 = 0 then (some (0 : Int32)) else (bd (fX12_in x1.toInt64 (0 : Int64) (15 : Int64)) fun v3 => if v3 = 0 then (some (0 : Int32)) else (some (1 : Int32)))
abbrev rmX12_isCell : Room := { frames := 1, cells := 0, slots := 0, locals := 25 }
set_option maxHeartbeats 4000000 in
set_option maxRecDepth 100000 in
theorem kX12_isCell (l : Launch) (x0 : Int32) (x1 : Int32) (r : Int32) (h : fX12_isCell x0 x1 = some r) : Met l yX12_isCell wsX12_isCell rmX12_isCell (va_Pc [.int x0, .int x1] (p0)) (vp_Si (fun x => x = r ∧ (r = 0 ∨ r = 1))) 0 0 (fun _ => False) := by
  refine Met.ofW (cc := cX12_isCell) (maxL := 2) (ret := (some .boolean)) (by decide) rfl ?_
  intro p e s m args below meth c s₁ B hml hv
  obtain ⟨rfl, -⟩ := hv
  have C : cxt p s m _ meth c cX12_isCell 2 RX12 wsX12_isCell (some .boolean) := ⟨B.exec, B.bytes, hml, findClass_of_methodNamed B.named, atoms_spec (ws := wsX12_isCell) B.pre, B.returns, B.notSynchronized⟩
  obtain ⟨hx, hb, -, hown, hts, hr, hlk⟩ := id C
  refine entryW [.int x0, .int x1] (n := 2) (Nat.le_of_ble_eq_true rfl) (fun ls hl => ?_)
  have hl : lv_has ls 2 [(0, .int x0), (1, .int x1)] := hl
  unfold fX12_isCell at h
  refine lv_iload_n hx hb dX12_isCell_0 rfl (lv_at hl 0 rfl) ?_
  refine lv_i2l hx hb dX12_isCell_1 rfl ?_
  refine lv_lconst (v := (0 : Int64)) hx hb dX12_isCell_2 (by decide) ?_
  refine lv_ldc2 hx hb hown (hts (.constantLong RX12 149 (15)) (by decide +kernel)) dX12_isCell_3 ?_
  obtain ⟨v1, hc_v1, h⟩ := bd_some h
  refine mcallSZ (va_runS (As := [.long x0.toInt64, .long (0 : Int64), .long (15 : Int64)]) (rest := []) ⟨hx, hb, hml, hown, hts⟩ (kX12_in l x0.toInt64 (0 : Int64) (15 : Int64) v1 hc_v1) (va_cwS 3 hts gX12_isCell_X12_in rfl rfl rfl (by decide +kernel) ⟨Nat.le_of_ble_eq_true rfl, Nat.le_of_ble_eq_true rfl⟩) p0_s rfl rfl hl.1 rfl (lv_room (Nat.le_of_ble_eq_true rfl)) dX12_isCell_6 ⟨Nat.zero_le _, Nat.zero_le _⟩) (fun z_v1 => ?_)
  refine lv_if_eq (tgt := 28) hx hb dX12_isCell_9 (by decide) (fun c2 => ?_) (fun c2 => ?_)
  · have h := it_t c2 h
    refine lv_iconst (v := (0 : Int32)) hx hb dX12_isCell_28 (by decide) ?_
    exact mretSZ hx hb hr hlk h (Or.inl rfl) dX12_isCell_29
  · have h := it_f c2 h
    refine lv_iload_n hx hb dX12_isCell_12 rfl (lv_at hl 1 rfl) ?_
    refine lv_i2l hx hb dX12_isCell_13 rfl ?_
    refine lv_lconst (v := (0 : Int64)) hx hb dX12_isCell_14 (by decide) ?_
    refine lv_ldc2 hx hb hown (hts (.constantLong RX12 149 (15)) (by decide +kernel)) dX12_isCell_15 ?_
    obtain ⟨v3, hc_v3, h⟩ := bd_some h
    refine mcallSZ (va_runS (As := [.long x1.toInt64, .long (0 : Int64), .long (15 : Int64)]) (rest := []) ⟨hx, hb, hml, hown, hts⟩ (kX12_in l x1.toInt64 (0 : Int64) (15 : Int64) v3 hc_v3) (va_cwS 3 hts gX12_isCell_X12_in rfl rfl rfl (by decide +kernel) ⟨Nat.le_of_ble_eq_true rfl, Nat.le_of_ble_eq_true rfl⟩) p0_s rfl rfl hl.1 rfl (lv_room (Nat.le_of_ble_eq_true rfl)) dX12_isCell_18 ⟨Nat.zero_le _, Nat.zero_le _⟩) (fun z_v3 => ?_)
    refine lv_if_eq (tgt := 28) hx hb dX12_isCell_21 (by decide) (fun c4 => ?_) (fun c4 => ?_)
    · have h := it_t c4 h
      refine lv_iconst (v := (0 : Int32)) hx hb dX12_isCell_28 (by decide) ?_
      exact mretSZ hx hb hr hlk h (Or.inl rfl) dX12_isCell_29
    · have h := it_f c4 h
      refine lv_iconst (v := (1 : Int32)) hx hb dX12_isCell_24 (by decide) ?_
      refine lv_goto (tgt := 29) hx hb dX12_isCell_25 (by decide) ?_
      exact mretSZ hx hb hr hlk h (Or.inr rfl) dX12_isCell_29
def fX12_cell (F : Nat) (σ : Nat → Nat → Int32) (x1 : Int32) (x2 : Int32) (x3 : Int32) : Option Int32 :=
  bd (fX12_isCell x1 x2) fun v1 => if v1 = 0 then (some ((-1) : Int32)) else (bd (fX12_in x3.toInt64 (0 : Int64) (2 : Int64)) fun v3 => if ¬ v3 = 0 then (if ¬ x3 = 0 then (if ¬ x3 = (1 : Int32) then (bd (fX12_layersOf F σ (((16 : Int32) * x2) + x1)) fun v7 => some v7) else (bd (fX12_layersOf F σ (((16 : Int32) * x2) + x1)) fun v8 => bd (fX12_ones F v8) fun v9 => some v9)) else (bd (fX12_lookOf F σ (((16 : Int32) * x2) + x1)) fun v10 => some v10)) else (some ((-1) : Int32)))
abbrev rmX12_cell : Room := { frames := 3, cells := 0, slots := 0, locals := 67 }
set_option maxHeartbeats 4000000 in
set_option maxRecDepth 100000 in
theorem kX12_cell (l : Launch) (D : va_G) (cs : Nat → ClassId) (a : Nat → Nat) (σ : Nat → Nat → Int32) (F : Nat) (x1 : Int32) (x2 : Int32) (x3 : Int32) (r : Int32) (h : fX12_cell F σ x1 x2 x3 = some r) : Met l yX12_cell wsX12_cell rmX12_cell (va_Pc [.ref (a 0), .int x1, .int x2, .int x3] (pR D cs (mW a cs σ))) (vp_Si (fun x => x = r)) 0 0 (fun _ => False) := by
  refine Met.ofW (cc := cX12_cell) (maxL := 5) (ret := (some .int)) (by decide) rfl ?_
  intro p e s m args below meth c s₁ B hml hv
  obtain ⟨rfl, hP, hK⟩ := hv
  have C : cxt p s m _ meth c cX12_cell 5 RX12 wsX12_cell (some .int) := ⟨B.exec, B.bytes, hml, findClass_of_methodNamed B.named, atoms_spec (ws := wsX12_cell) B.pre, B.returns, B.notSynchronized⟩
  obtain ⟨hx, hb, -, hown, hts, hr, hlk⟩ := id C
  refine entryW [.ref (a 0), .int x1, .int x2, .int x3] (n := 5) (Nat.le_of_ble_eq_true rfl) (fun ls hl => ?_)
  have hl : lv_has ls 5 [(0, .ref (a 0)), (1, .int x1), (2, .int x2), (3, .int x3)] := hl
  unfold fX12_cell at h
  refine lv_iload_n hx hb dX12_cell_0 rfl (lv_at hl 1 rfl) ?_
  refine lv_iload_n hx hb dX12_cell_1 rfl (lv_at hl 2 rfl) ?_
  obtain ⟨v1, hc_v1, h⟩ := bd_some h
  refine mcallSZ (va_runS (As := [.int x1, .int x2]) (rest := []) ⟨hx, hb, hml, hown, hts⟩ (kX12_isCell l x1 x2 v1 hc_v1) (va_cwS 2 hts gX12_cell_X12_isCell rfl rfl rfl (by decide +kernel) ⟨Nat.le_of_ble_eq_true rfl, Nat.le_of_ble_eq_true rfl⟩) p0_s rfl rfl hl.1 rfl (lv_room (Nat.le_of_ble_eq_true rfl)) dX12_cell_2 ⟨Nat.zero_le _, Nat.zero_le _⟩) (fun z_v1 => ?_)
  refine lv_if_eq (tgt := 20) hx hb dX12_cell_5 (by decide) (fun c2 => ?_) (fun c2 => ?_)
  · have h := it_t c2 h
    refine lv_iconst (v := ((-1) : Int32)) hx hb dX12_cell_20 (by decide) ?_
    exact mretS hx hb hr hlk h dX12_cell_21
  · have h := it_f c2 h
    refine lv_iload_n hx hb dX12_cell_8 rfl (lv_at hl 3 rfl) ?_
    refine lv_i2l hx hb dX12_cell_9 rfl ?_
    refine lv_lconst (v := (0 : Int64)) hx hb dX12_cell_10 (by decide) ?_
    refine lv_ldc2 hx hb hown (hts (.constantLong RX12 154 (2)) (by decide +kernel)) dX12_cell_11 ?_
    obtain ⟨v3, hc_v3, h⟩ := bd_some h
    refine mcallSZ (va_runS (As := [.long x3.toInt64, .long (0 : Int64), .long (2 : Int64)]) (rest := []) ⟨hx, hb, hml, hown, hts⟩ (kX12_in l x3.toInt64 (0 : Int64) (2 : Int64) v3 hc_v3) (va_cwS 3 hts gX12_cell_X12_in rfl rfl rfl (by decide +kernel) ⟨Nat.le_of_ble_eq_true rfl, Nat.le_of_ble_eq_true rfl⟩) p0_s rfl rfl hl.1 rfl (lv_room (Nat.le_of_ble_eq_true rfl)) dX12_cell_14 ⟨Nat.zero_le _, Nat.zero_le _⟩) (fun z_v3 => ?_)
    refine lv_if_ne (tgt := 22) hx hb dX12_cell_17 (by decide) (fun c4 => ?_) (fun c4 => ?_)
    · have h := it_t c4 h
      refine lv_bipush (v := (16 : Int32)) hx hb dX12_cell_22 (by decide) ?_
      refine lv_iload_n hx hb dX12_cell_24 rfl (lv_at hl 2 rfl) ?_
      refine lv_imul hx hb dX12_cell_25 ?_
      refine lv_iload_n hx hb dX12_cell_26 rfl (lv_at hl 1 rfl) ?_
      refine lv_iadd hx hb dX12_cell_27 ?_
      refine lv_istore (lv' := [(4, .int (((16 : Int32) * x2) + x1)), (0, .ref (a 0)), (1, .int x1), (2, .int x2), (3, .int x3)]) hx hb dX12_cell_28 hl (by decide) rfl (fun ls hl => ?_)
      refine lv_iload_n hx hb dX12_cell_30 rfl (lv_at hl 4 rfl) ?_
      refine lv_if_ne (tgt := 43) hx hb dX12_cell_31 (by decide) (fun c5 => ?_) (fun c5 => ?_)
      · have h := it_t c5 h
        refine lv_iload_n hx hb dX12_cell_43 rfl (lv_at hl 4 rfl) ?_
        refine lv_iconst (v := (1 : Int32)) hx hb dX12_cell_44 (by decide) ?_
        refine lv_icmp_ne (tgt := 60) hx hb dX12_cell_45 (by decide) (fun c6 => ?_) (fun c6 => ?_)
        · have h := it_t c6 h
          refine lv_aload_n hx hb dX12_cell_60 rfl (lv_at hl 1 rfl) ?_
          refine lv_iload hx hb dX12_cell_61 (lv_at hl 0 rfl) ?_
          obtain ⟨v7, hc_v7, h⟩ := bd_some h
          refine mcallS (va_runV (As := [.int (((16 : Int32) * x2) + x1)]) (rest := []) ⟨hx, hb, hml, hown, hts⟩ (kX12_layersOf l D cs a σ F (((16 : Int32) * x2) + x1) v7 hc_v7) (cwV 1 hts gX12_cell_X12_layersOf rfl rfl rfl (by decide +kernel) ⟨Nat.le_of_ble_eq_true rfl, Nat.le_of_ble_eq_true rfl⟩) (pR_v hP hK (va_recv hK.1 hP (ci := 11) (q0 := 0) rfl rfl)) rfl rfl hl.1 rfl (lv_room (Nat.le_of_ble_eq_true rfl)) dX12_cell_63 ⟨Nat.zero_le _, Nat.zero_le _⟩) ?_
          exact mretS hx hb hr hlk h dX12_cell_66
        · have h := it_n c6 h
          refine lv_aload_n hx hb dX12_cell_48 rfl (lv_at hl 1 rfl) ?_
          refine lv_iload hx hb dX12_cell_49 (lv_at hl 0 rfl) ?_
          obtain ⟨v8, hc_v8, h⟩ := bd_some h
          refine mcallS (va_runV (As := [.int (((16 : Int32) * x2) + x1)]) (rest := []) ⟨hx, hb, hml, hown, hts⟩ (kX12_layersOf l D cs a σ F (((16 : Int32) * x2) + x1) v8 hc_v8) (cwV 1 hts gX12_cell_X12_layersOf rfl rfl rfl (by decide +kernel) ⟨Nat.le_of_ble_eq_true rfl, Nat.le_of_ble_eq_true rfl⟩) (pR_v hP hK (va_recv hK.1 hP (ci := 11) (q0 := 0) rfl rfl)) rfl rfl hl.1 rfl (lv_room (Nat.le_of_ble_eq_true rfl)) dX12_cell_51 ⟨Nat.zero_le _, Nat.zero_le _⟩) ?_
          obtain ⟨v9, hc_v9, h⟩ := bd_some h
          refine mcallS (va_runS (As := [.int v8]) (rest := []) ⟨hx, hb, hml, hown, hts⟩ (kX12_ones l F v8 v9 hc_v9) (va_cwS 1 hts gX12_cell_X12_ones rfl rfl rfl (by decide +kernel) ⟨Nat.le_of_ble_eq_true rfl, Nat.le_of_ble_eq_true rfl⟩) p0_s rfl rfl hl.1 rfl (lv_room (Nat.le_of_ble_eq_true rfl)) dX12_cell_54 ⟨Nat.zero_le _, Nat.zero_le _⟩) ?_
          refine lv_goto (tgt := 66) hx hb dX12_cell_57 (by decide) ?_
          exact mretS hx hb hr hlk h dX12_cell_66
      · have h := it_n c5 h
        refine lv_aload_n hx hb dX12_cell_34 rfl (lv_at hl 1 rfl) ?_
        refine lv_iload hx hb dX12_cell_35 (lv_at hl 0 rfl) ?_
        obtain ⟨v10, hc_v10, h⟩ := bd_some h
        refine mcallS (va_runV (As := [.int (((16 : Int32) * x2) + x1)]) (rest := []) ⟨hx, hb, hml, hown, hts⟩ (kX12_lookOf l D cs a σ F (((16 : Int32) * x2) + x1) v10 hc_v10) (cwV 1 hts gX12_cell_X12_lookOf rfl rfl rfl (by decide +kernel) ⟨Nat.le_of_ble_eq_true rfl, Nat.le_of_ble_eq_true rfl⟩) (pR_v hP hK (va_recv hK.1 hP (ci := 11) (q0 := 0) rfl rfl)) rfl rfl hl.1 rfl (lv_room (Nat.le_of_ble_eq_true rfl)) dX12_cell_37 ⟨Nat.zero_le _, Nat.zero_le _⟩) ?_
        refine lv_goto (tgt := 66) hx hb dX12_cell_40 (by decide) ?_
        exact mretS hx hb hr hlk h dX12_cell_66
    · have h := it_n c4 h
      refine lv_iconst (v := ((-1) : Int32)) hx hb dX12_cell_20 (by decide) ?_
      exact mretS hx hb hr hlk h dX12_cell_21
def fX12_count_J40 (F : Nat) (kb : Int32 → Int32 → Option Int32) (x1 : Int32) (x3 : Int32) (t0 : Int32) (t1 : Int32) (σ : Nat → Nat → Int32) : Option Int32 :=
  kb (t1 + t0) (x3 + (1 : Int32))
def fX12_count_L18 (F : Nat) (σ : Nat → Nat → Int32) (x1 : Int32) (kx : Int32 → Option Int32) : Nat → Int32 → Int32 → Option Int32
  | 0, _, _ => none
  | n+1, x2, x3 =>
    nb ((fun x2 x3 => fX12_count_L18 F σ x1 kx n x2 x3)) fun kb =>
    if (256 : Int32) ≤ x3 then (kx x2) else (bd (fX12_lookOf F σ x3) fun v4 => if ¬ v4 = x1 then (fX12_count_J40 F kb x1 x3 (0 : Int32) x2 σ) else (fX12_count_J40 F kb x1 x3 (1 : Int32) x2 σ))
def fX12_count (F : Nat) (σ : Nat → Nat → Int32) (x1 : Int32) : Option Int32 :=
  bd (fX12_in x1.toInt64 (0 : Int64) (9 : Int64)) fun v1 => if ¬ v1 = 0 then (fX12_count_L18 F σ x1 (fun y3 => some y3) F (0 : Int32) (0 : Int32)) else (some ((-1) : Int32))
abbrev rmX12_count : Room := { frames := 3, cells := 0, slots := 0, locals := 67 }
set_option maxHeartbeats 4000000 in
set_option maxRecDepth 100000 in
theorem wX12_count_J40 {p : Program} {l : Launch} {e : Env} {s : State} {m : MethodId} {args : Array Value} {below : List Frame} {meth : Method} {c : Code} (C : cxt p s m args meth c cX12_count 4 RX12 wsX12_count (some .int)) {D : va_G} {cs : Nat → ClassId} {a : Nat → Nat} (hK : KK D cs s) {σ : Nat → Nat → Int32} (hP : va_P D vwCl (mW a cs σ) s.heap) (r : Int32) (F : Nat) (kb : Int32 → Int32 → Option Int32) (x1 : Int32) (x3 : Int32) (t0 : Int32) (t1 : Int32) (hkb : ∀ (x2 : Int32) (x3 : Int32) (ls : Array Slot), lv_has ls 4 [(0, .ref (a 0)), (1, .int x1), (2, .int x2), (3, .int x3)] → kb x2 x3 = some r → W p l e rmX12_count s m args below meth c s.heap [] 0 0 (MQ below (vp_Si (fun x => x = r)) args s 0 0 (fun _ => False)) (F0 m 18 ls [])) (ls : Array Slot) (hl : lv_has ls 4 [(0, .ref (a 0)), (1, .int x1), (3, .int x3)]) (h : fX12_count_J40 F kb x1 x3 t0 t1 σ = some r) : W p l e rmX12_count s m args below meth c s.heap [] 0 0 (MQ below (vp_Si (fun x => x = r)) args s 0 0 (fun _ => False)) (F0 m 40 ls [.int t0, .int t1]) := by
  obtain ⟨hx, hb, hml, hown, hts, hr, hlk⟩ := id C
  unfold fX12_count_J40 at h
  refine lv_iadd hx hb dX12_count_40 ?_
  refine lv_istore_n (lv' := [(2, .int (t1 + t0)), (0, .ref (a 0)), (1, .int x1), (3, .int x3)]) hx hb dX12_count_41 rfl hl (by decide) rfl (fun ls hl => ?_)
  refine lv_iinc (v := x3 + (1 : Int32)) (lv' := [(3, .int (x3 + (1 : Int32))), (2, .int (t1 + t0)), (0, .ref (a 0)), (1, .int x1)]) hx hb dX12_count_42 hl (k := 3) rfl rfl (by decide) rfl (fun ls hl => ?_)
  refine lv_goto (tgt := 18) hx hb dX12_count_45 (by decide) ?_
  exact hkb (t1 + t0) (x3 + (1 : Int32)) ls (lv_sub hl [2, 3, 1, 0] rfl) h
set_option maxHeartbeats 4000000 in
set_option maxRecDepth 100000 in
theorem wX12_count_L18 {p : Program} {l : Launch} {e : Env} {s : State} {m : MethodId} {args : Array Value} {below : List Frame} {meth : Method} {c : Code} (C : cxt p s m args meth c cX12_count 4 RX12 wsX12_count (some .int)) {D : va_G} {cs : Nat → ClassId} {a : Nat → Nat} (hK : KK D cs s) {σ : Nat → Nat → Int32} (hP : va_P D vwCl (mW a cs σ) s.heap) (r : Int32) (F : Nat) (x1 : Int32) (kx : Int32 → Option Int32) (hkx : ∀ (x2 : Int32) (ls : Array Slot), lv_has ls 4 [(2, .int x2)] → kx x2 = some r → W p l e rmX12_count s m args below meth c s.heap [] 0 0 (MQ below (vp_Si (fun x => x = r)) args s 0 0 (fun _ => False)) (F0 m 48 ls [])) : ∀ (n : Nat) (x2 : Int32) (x3 : Int32) (ls : Array Slot), lv_has ls 4 [(0, .ref (a 0)), (1, .int x1), (2, .int x2), (3, .int x3)] → fX12_count_L18 F σ x1 kx n x2 x3 = some r → W p l e rmX12_count s m args below meth c s.heap [] 0 0 (MQ below (vp_Si (fun x => x = r)) args s 0 0 (fun _ => False)) (F0 m 18 ls []) := by
  obtain ⟨hx, hb, hml, hown, hts, hr, hlk⟩ := id C
  intro n
  induction n with
  | zero =>
    intros
    rename_i h
    cases h
  | succ n ih =>
    intro x2 x3 ls hl h
    rw [fX12_count_L18] at h
    obtain ⟨kb, hkb, h⟩ := nb_some (P := fun (kb : Int32 → Int32 → Option Int32) => ∀ (x2 : Int32) (x3 : Int32) (ls : Array Slot), lv_has ls 4 [(0, .ref (a 0)), (1, .int x1), (2, .int x2), (3, .int x3)] → kb x2 x3 = some r → W p l e rmX12_count s m args below meth c s.heap [] 0 0 (MQ below (vp_Si (fun x => x = r)) args s 0 0 (fun _ => False)) (F0 m 18 ls [])) h ih
    refine lv_iload_n hx hb dX12_count_18 rfl (lv_at hl 3 rfl) ?_
    refine lv_sipush (v := (256 : Int32)) hx hb dX12_count_19 (by decide) ?_
    refine lv_icmp_ge (tgt := 48) hx hb dX12_count_22 (by decide) (fun c3 => ?_) (fun c3 => ?_)
    · have h := it_t c3 h
      exact hkx x2 ls (lv_sub hl [2] rfl) h
    · have h := it_f c3 h
      refine lv_iload_n hx hb dX12_count_25 rfl (lv_at hl 2 rfl) ?_
      refine lv_aload_n hx hb dX12_count_26 rfl (lv_at hl 0 rfl) ?_
      refine lv_iload_n hx hb dX12_count_27 rfl (lv_at hl 3 rfl) ?_
      obtain ⟨v4, hc_v4, h⟩ := bd_some h
      refine mcallS (va_runV (As := [.int x3]) (rest := [.int x2]) ⟨hx, hb, hml, hown, hts⟩ (kX12_lookOf l D cs a σ F x3 v4 hc_v4) (cwV 1 hts gX12_count_X12_lookOf rfl rfl rfl (by decide +kernel) ⟨Nat.le_of_ble_eq_true rfl, Nat.le_of_ble_eq_true rfl⟩) (pR_v hP hK (va_recv hK.1 hP (ci := 11) (q0 := 0) rfl rfl)) rfl rfl hl.1 rfl (lv_room (Nat.le_of_ble_eq_true rfl)) dX12_count_28 ⟨Nat.zero_le _, Nat.zero_le _⟩) ?_
      refine lv_iload_n hx hb dX12_count_31 rfl (lv_at hl 1 rfl) ?_
      refine lv_icmp_ne (tgt := 39) hx hb dX12_count_32 (by decide) (fun c5 => ?_) (fun c5 => ?_)
      · have h := it_t c5 h
        refine lv_iconst (v := (0 : Int32)) hx hb dX12_count_39 (by decide) ?_
        exact wX12_count_J40 C hK hP r F kb x1 x3 (0 : Int32) x2 hkb ls (lv_sub hl [0, 1, 3] rfl) h
      · have h := it_n c5 h
        refine lv_iconst (v := (1 : Int32)) hx hb dX12_count_35 (by decide) ?_
        refine lv_goto (tgt := 40) hx hb dX12_count_36 (by decide) ?_
        exact wX12_count_J40 C hK hP r F kb x1 x3 (1 : Int32) x2 hkb ls (lv_sub hl [0, 1, 3] rfl) h
set_option maxHeartbeats 4000000 in
set_option maxRecDepth 100000 in
theorem kX12_count (l : Launch) (D : va_G) (cs : Nat → ClassId) (a : Nat → Nat) (σ : Nat → Nat → Int32) (F : Nat) (x1 : Int32) (r : Int32) (h : fX12_count F σ x1 = some r) : Met l yX12_count wsX12_count rmX12_count (va_Pc [.ref (a 0), .int x1] (pR D cs (mW a cs σ))) (vp_Si (fun x => x = r)) 0 0 (fun _ => False) := by
  refine Met.ofW (cc := cX12_count) (maxL := 4) (ret := (some .int)) (by decide) rfl ?_
  intro p e s m args below meth c s₁ B hml hv
  obtain ⟨rfl, hP, hK⟩ := hv
  have C : cxt p s m _ meth c cX12_count 4 RX12 wsX12_count (some .int) := ⟨B.exec, B.bytes, hml, findClass_of_methodNamed B.named, atoms_spec (ws := wsX12_count) B.pre, B.returns, B.notSynchronized⟩
  obtain ⟨hx, hb, -, hown, hts, hr, hlk⟩ := id C
  refine entryW [.ref (a 0), .int x1] (n := 4) (Nat.le_of_ble_eq_true rfl) (fun ls hl => ?_)
  have hl : lv_has ls 4 [(0, .ref (a 0)), (1, .int x1)] := hl
  unfold fX12_count at h
  refine lv_iload_n hx hb dX12_count_0 rfl (lv_at hl 1 rfl) ?_
  refine lv_i2l hx hb dX12_count_1 rfl ?_
  refine lv_lconst (v := (0 : Int64)) hx hb dX12_count_2 (by decide) ?_
  refine lv_ldc2 hx hb hown (hts (.constantLong RX12 114 (9)) (by decide +kernel)) dX12_count_3 ?_
  obtain ⟨v1, hc_v1, h⟩ := bd_some h
  refine mcallSZ (va_runS (As := [.long x1.toInt64, .long (0 : Int64), .long (9 : Int64)]) (rest := []) ⟨hx, hb, hml, hown, hts⟩ (kX12_in l x1.toInt64 (0 : Int64) (9 : Int64) v1 hc_v1) (va_cwS 3 hts gX12_count_X12_in rfl rfl rfl (by decide +kernel) ⟨Nat.le_of_ble_eq_true rfl, Nat.le_of_ble_eq_true rfl⟩) p0_s rfl rfl hl.1 rfl (lv_room (Nat.le_of_ble_eq_true rfl)) dX12_count_6 ⟨Nat.zero_le _, Nat.zero_le _⟩) (fun z_v1 => ?_)
  refine lv_if_ne (tgt := 14) hx hb dX12_count_9 (by decide) (fun c2 => ?_) (fun c2 => ?_)
  · have h := it_t c2 h
    refine lv_iconst (v := (0 : Int32)) hx hb dX12_count_14 (by decide) ?_
    refine lv_istore_n (lv' := [(2, .int (0 : Int32)), (0, .ref (a 0)), (1, .int x1)]) hx hb dX12_count_15 rfl hl (by decide) rfl (fun ls hl => ?_)
    refine lv_iconst (v := (0 : Int32)) hx hb dX12_count_16 (by decide) ?_
    refine lv_istore_n (lv' := [(3, .int (0 : Int32)), (2, .int (0 : Int32)), (0, .ref (a 0)), (1, .int x1)]) hx hb dX12_count_17 rfl hl (by decide) rfl (fun ls hl => ?_)
    refine wX12_count_L18 C hK hP r F x1 _ ?_ F (0 : Int32) (0 : Int32) ls (lv_sub hl [2, 3, 1, 0] rfl) h
    intro y3 ls hl h
    refine lv_iload_n hx hb dX12_count_48 rfl (lv_at hl 0 rfl) ?_
    exact mretS hx hb hr hlk h dX12_count_49
  · have h := it_n c2 h
    refine lv_iconst (v := ((-1) : Int32)) hx hb dX12_count_12 (by decide) ?_
    exact mretS hx hb hr hlk h dX12_count_13
def fX12_unlike_J33 (F : Nat) (kb : Int32 → Int32 → Option Int32) (x2 : Int32) (t0 : Int32) (t1 : Int32) (σ : Nat → Nat → Int32) : Option Int32 :=
  kb (t1 + t0) (x2 + (1 : Int32))
def fX12_unlike_L4 (F : Nat) (σ : Nat → Nat → Int32) (kx : Int32 → Option Int32) : Nat → Int32 → Int32 → Option Int32
  | 0, _, _ => none
  | n+1, x1, x2 =>
    nb ((fun x1 x2 => fX12_unlike_L4 F σ kx n x1 x2)) fun kb =>
    if (256 : Int32) ≤ x2 then (kx x1) else (bd (fX12_lookOf F σ x2) fun v2 => bd (fX12_placeOf F x2) fun v3 => bd (fX12_lookOf F σ v3) fun v4 => if ¬ v2 = v4 then (fX12_unlike_J33 F kb x2 (1 : Int32) x1 σ) else (fX12_unlike_J33 F kb x2 (0 : Int32) x1 σ))
def fX12_unlike (F : Nat) (σ : Nat → Nat → Int32)  : Option Int32 :=
  fX12_unlike_L4 F σ (fun y1 => some y1) F (0 : Int32) (0 : Int32)
abbrev rmX12_unlike : Room := { frames := 3, cells := 0, slots := 0, locals := 67 }
set_option maxHeartbeats 4000000 in
set_option maxRecDepth 100000 in
theorem wX12_unlike_J33 {p : Program} {l : Launch} {e : Env} {s : State} {m : MethodId} {args : Array Value} {below : List Frame} {meth : Method} {c : Code} (C : cxt p s m args meth c cX12_unlike 3 RX12 wsX12_unlike (some .int)) {D : va_G} {cs : Nat → ClassId} {a : Nat → Nat} (hK : KK D cs s) {σ : Nat → Nat → Int32} (hP : va_P D vwCl (mW a cs σ) s.heap) (r : Int32) (F : Nat) (kb : Int32 → Int32 → Option Int32) (x2 : Int32) (t0 : Int32) (t1 : Int32) (hkb : ∀ (x1 : Int32) (x2 : Int32) (ls : Array Slot), lv_has ls 3 [(0, .ref (a 0)), (1, .int x1), (2, .int x2)] → kb x1 x2 = some r → W p l e rmX12_unlike s m args below meth c s.heap [] 0 0 (MQ below (vp_Si (fun x => x = r)) args s 0 0 (fun _ => False)) (F0 m 4 ls [])) (ls : Array Slot) (hl : lv_has ls 3 [(0, .ref (a 0)), (2, .int x2)]) (h : fX12_unlike_J33 F kb x2 t0 t1 σ = some r) : W p l e rmX12_unlike s m args below meth c s.heap [] 0 0 (MQ below (vp_Si (fun x => x = r)) args s 0 0 (fun _ => False)) (F0 m 33 ls [.int t0, .int t1]) := by
  obtain ⟨hx, hb, hml, hown, hts, hr, hlk⟩ := id C
  unfold fX12_unlike_J33 at h
  refine lv_iadd hx hb dX12_unlike_33 ?_
  refine lv_istore_n (lv' := [(1, .int (t1 + t0)), (0, .ref (a 0)), (2, .int x2)]) hx hb dX12_unlike_34 rfl hl (by decide) rfl (fun ls hl => ?_)
  refine lv_iinc (v := x2 + (1 : Int32)) (lv' := [(2, .int (x2 + (1 : Int32))), (1, .int (t1 + t0)), (0, .ref (a 0))]) hx hb dX12_unlike_35 hl (k := 2) rfl rfl (by decide) rfl (fun ls hl => ?_)
  refine lv_goto (tgt := 4) hx hb dX12_unlike_38 (by decide) ?_
  exact hkb (t1 + t0) (x2 + (1 : Int32)) ls (lv_sub hl [2, 1, 0] rfl) h
set_option maxHeartbeats 4000000 in
set_option maxRecDepth 100000 in
theorem wX12_unlike_L4 {p : Program} {l : Launch} {e : Env} {s : State} {m : MethodId} {args : Array Value} {below : List Frame} {meth : Method} {c : Code} (C : cxt p s m args meth c cX12_unlike 3 RX12 wsX12_unlike (some .int)) {D : va_G} {cs : Nat → ClassId} {a : Nat → Nat} (hK : KK D cs s) {σ : Nat → Nat → Int32} (hP : va_P D vwCl (mW a cs σ) s.heap) (r : Int32) (F : Nat) (kx : Int32 → Option Int32) (hkx : ∀ (x1 : Int32) (ls : Array Slot), lv_has ls 3 [(1, .int x1)] → kx x1 = some r → W p l e rmX12_unlike s m args below meth c s.heap [] 0 0 (MQ below (vp_Si (fun x => x = r)) args s 0 0 (fun _ => False)) (F0 m 41 ls [])) : ∀ (n : Nat) (x1 : Int32) (x2 : Int32) (ls : Array Slot), lv_has ls 3 [(0, .ref (a 0)), (1, .int x1), (2, .int x2)] → fX12_unlike_L4 F σ kx n x1 x2 = some r → W p l e rmX12_unlike s m args below meth c s.heap [] 0 0 (MQ below (vp_Si (fun x => x = r)) args s 0 0 (fun _ => False)) (F0 m 4 ls []) := by
  obtain ⟨hx, hb, hml, hown, hts, hr, hlk⟩ := id C
  intro n
  induction n with
  | zero =>
    intros
    rename_i h
    cases h
  | succ n ih =>
    intro x1 x2 ls hl h
    rw [fX12_unlike_L4] at h
    obtain ⟨kb, hkb, h⟩ := nb_some (P := fun (kb : Int32 → Int32 → Option Int32) => ∀ (x1 : Int32) (x2 : Int32) (ls : Array Slot), lv_has ls 3 [(0, .ref (a 0)), (1, .int x1), (2, .int x2)] → kb x1 x2 = some r → W p l e rmX12_unlike s m args below meth c s.heap [] 0 0 (MQ below (vp_Si (fun x => x = r)) args s 0 0 (fun _ => False)) (F0 m 4 ls [])) h ih
    refine lv_iload_n hx hb dX12_unlike_4 rfl (lv_at hl 2 rfl) ?_
    refine lv_sipush (v := (256 : Int32)) hx hb dX12_unlike_5 (by decide) ?_
    refine lv_icmp_ge (tgt := 41) hx hb dX12_unlike_8 (by decide) (fun c1 => ?_) (fun c1 => ?_)
    · have h := it_t c1 h
      exact hkx x1 ls (lv_sub hl [1] rfl) h
    · have h := it_f c1 h
      refine lv_iload_n hx hb dX12_unlike_11 rfl (lv_at hl 1 rfl) ?_
      refine lv_aload_n hx hb dX12_unlike_12 rfl (lv_at hl 0 rfl) ?_
      refine lv_iload_n hx hb dX12_unlike_13 rfl (lv_at hl 2 rfl) ?_
      obtain ⟨v2, hc_v2, h⟩ := bd_some h
      refine mcallS (va_runV (As := [.int x2]) (rest := [.int x1]) ⟨hx, hb, hml, hown, hts⟩ (kX12_lookOf l D cs a σ F x2 v2 hc_v2) (cwV 1 hts gX12_unlike_X12_lookOf rfl rfl rfl (by decide +kernel) ⟨Nat.le_of_ble_eq_true rfl, Nat.le_of_ble_eq_true rfl⟩) (pR_v hP hK (va_recv hK.1 hP (ci := 11) (q0 := 0) rfl rfl)) rfl rfl hl.1 rfl (lv_room (Nat.le_of_ble_eq_true rfl)) dX12_unlike_14 ⟨Nat.zero_le _, Nat.zero_le _⟩) ?_
      refine lv_aload_n hx hb dX12_unlike_17 rfl (lv_at hl 0 rfl) ?_
      refine lv_iload_n hx hb dX12_unlike_18 rfl (lv_at hl 2 rfl) ?_
      obtain ⟨v3, hc_v3, h⟩ := bd_some h
      refine mcallS (va_runS (As := [.int x2]) (rest := [.ref (a 0), .int v2, .int x1]) ⟨hx, hb, hml, hown, hts⟩ (kX12_placeOf l F x2 v3 hc_v3) (va_cwS 1 hts gX12_unlike_X12_placeOf rfl rfl rfl (by decide +kernel) ⟨Nat.le_of_ble_eq_true rfl, Nat.le_of_ble_eq_true rfl⟩) p0_s rfl rfl hl.1 rfl (lv_room (Nat.le_of_ble_eq_true rfl)) dX12_unlike_19 ⟨Nat.zero_le _, Nat.zero_le _⟩) ?_
      obtain ⟨v4, hc_v4, h⟩ := bd_some h
      refine mcallS (va_runV (As := [.int v3]) (rest := [.int v2, .int x1]) ⟨hx, hb, hml, hown, hts⟩ (kX12_lookOf l D cs a σ F v3 v4 hc_v4) (cwV 1 hts gX12_unlike_X12_lookOf rfl rfl rfl (by decide +kernel) ⟨Nat.le_of_ble_eq_true rfl, Nat.le_of_ble_eq_true rfl⟩) (pR_v hP hK (va_recv hK.1 hP (ci := 11) (q0 := 0) rfl rfl)) rfl rfl hl.1 rfl (lv_room (Nat.le_of_ble_eq_true rfl)) dX12_unlike_22 ⟨Nat.zero_le _, Nat.zero_le _⟩) ?_
      refine lv_icmp_ne (tgt := 32) hx hb dX12_unlike_25 (by decide) (fun c5 => ?_) (fun c5 => ?_)
      · have h := it_t c5 h
        refine lv_iconst (v := (1 : Int32)) hx hb dX12_unlike_32 (by decide) ?_
        exact wX12_unlike_J33 C hK hP r F kb x2 (1 : Int32) x1 hkb ls (lv_sub hl [0, 2] rfl) h
      · have h := it_n c5 h
        refine lv_iconst (v := (0 : Int32)) hx hb dX12_unlike_28 (by decide) ?_
        refine lv_goto (tgt := 33) hx hb dX12_unlike_29 (by decide) ?_
        exact wX12_unlike_J33 C hK hP r F kb x2 (0 : Int32) x1 hkb ls (lv_sub hl [0, 2] rfl) h
set_option maxHeartbeats 4000000 in
set_option maxRecDepth 100000 in
theorem kX12_unlike (l : Launch) (D : va_G) (cs : Nat → ClassId) (a : Nat → Nat) (σ : Nat → Nat → Int32) (F : Nat)  (r : Int32) (h : fX12_unlike F σ = some r) : Met l yX12_unlike wsX12_unlike rmX12_unlike (va_Pc [.ref (a 0)] (pR D cs (mW a cs σ))) (vp_Si (fun x => x = r)) 0 0 (fun _ => False) := by
  refine Met.ofW (cc := cX12_unlike) (maxL := 3) (ret := (some .int)) (by decide) rfl ?_
  intro p e s m args below meth c s₁ B hml hv
  obtain ⟨rfl, hP, hK⟩ := hv
  have C : cxt p s m _ meth c cX12_unlike 3 RX12 wsX12_unlike (some .int) := ⟨B.exec, B.bytes, hml, findClass_of_methodNamed B.named, atoms_spec (ws := wsX12_unlike) B.pre, B.returns, B.notSynchronized⟩
  obtain ⟨hx, hb, -, hown, hts, hr, hlk⟩ := id C
  refine entryW [.ref (a 0)] (n := 3) (Nat.le_of_ble_eq_true rfl) (fun ls hl => ?_)
  have hl : lv_has ls 3 [(0, .ref (a 0))] := hl
  unfold fX12_unlike at h
  refine lv_iconst (v := (0 : Int32)) hx hb dX12_unlike_0 (by decide) ?_
  refine lv_istore_n (lv' := [(1, .int (0 : Int32)), (0, .ref (a 0))]) hx hb dX12_unlike_1 rfl hl (by decide) rfl (fun ls hl => ?_)
  refine lv_iconst (v := (0 : Int32)) hx hb dX12_unlike_2 (by decide) ?_
  refine lv_istore_n (lv' := [(2, .int (0 : Int32)), (1, .int (0 : Int32)), (0, .ref (a 0))]) hx hb dX12_unlike_3 rfl hl (by decide) rfl (fun ls hl => ?_)
  refine wX12_unlike_L4 C hK hP r F  _ ?_ F (0 : Int32) (0 : Int32) ls (lv_sub hl [2, 1, 0] rfl) h
  intro y1 ls hl h
  refine lv_iload_n hx hb dX12_unlike_41 rfl (lv_at hl 0 rfl) ?_
  exact mretS hx hb hr hlk h dX12_unlike_42
