def fX12_photo_J37 (F : Nat) (kb : Int32 → Int32 → (Nat → Nat → Int32) → Option (Int32 × (Nat → Nat → Int32))) (x2 : Int32) (t0 : Int32) (t1 : Int32) (σ : Nat → Nat → Int32) : Option (Int32 × (Nat → Nat → Int32)) :=
  kb (t1 + t0) (x2 + (1 : Int32)) σ
def fX12_photo_L4 (F : Nat) (kx : Int32 → (Nat → Nat → Int32) → Option (Int32 × (Nat → Nat → Int32))) : Nat → Int32 → Int32 → (Nat → Nat → Int32) → Option (Int32 × (Nat → Nat → Int32))
  | 0, _, _, _ => none
  | n+1, x1, x2, σ =>
    nb ((fun x1 x2 σ => fX12_photo_L4 F kx n x1 x2 σ)) fun kb =>
    if (256 : Int32) ≤ x2 then (kx x1 σ) else (bd (fX12_lookOf F σ x2) fun v2 => aS 256 x2 (nm (sg σ 19 (upd (σ 19) x2.toNatClampNeg v2)) fun σ4 => aI (σ4 19) 256 x2 fun v5 => if ¬ v5 = 0 then (fX12_photo_J37 F kb x2 (1 : Int32) x1 σ4) else (fX12_photo_J37 F kb x2 (0 : Int32) x1 σ4)))
def fX12_photo (F : Nat) (σ : Nat → Nat → Int32)  : Option (Int32 × (Nat → Nat → Int32)) :=
  fX12_photo_L4 F (fun y1 σ2 => some (y1, σ2)) F (0 : Int32) (0 : Int32) σ
abbrev rmX12_photo : Room := { frames := 3, cells := 0, slots := 0, locals := 67 }
theorem inX12_X12_photo : ∀ w ∈ wsX120, w ∈ wsX12_photo := by intro w h; simp only [wsX12_photo, List.mem_cons, List.mem_append]; simp only [h, true_or, or_true]
set_option maxHeartbeats 4000000 in
set_option maxRecDepth 100000 in
theorem wX12_photo_J37 {p : Program} {l : Launch} {e : Env} {s : State} {m : MethodId} {args : Array Value} {below : List Frame} {meth : Method} {c : Code} (C : cxt p s m args meth c cX12_photo 3 RX12 wsX12_photo (some .int)) {D : va_G} {cs : Nat → ClassId} {a : Nat → Nat} (hK : KK D cs s) {A : Nat → Prop} (hA : ∀ q, s.heap.size ≤ q → A q) (r : Int32) (u9 : Nat → Nat → Int32) (F : Nat) (kb : Int32 → Int32 → (Nat → Nat → Int32) → Option (Int32 × (Nat → Nat → Int32))) (x2 : Int32) (t0 : Int32) (t1 : Int32) (hkb : ∀ (x1 : Int32) (x2 : Int32) (σ : Nat → Nat → Int32) (H : Heap) (locs : List Loc) (ls : Array Slot), va_P D vwCl (mW a cs σ) H → va_D A (mW a cs σ) → va_S A s.heap H locs → lv_has ls 3 [(0, .ref (a 0)), (1, .int x1), (2, .int x2)] → kb x1 x2 σ = some (r, u9) → W p l e rmX12_photo s m args below meth c H locs 0 0 (MQ below (va_Qi (fun x y => x = r ∧ y = u9) (qB D (mW a cs) A) A) args s 0 0 A) (F0 m 4 ls [])) (σ : Nat → Nat → Int32) (H : Heap) (locs : List Loc) (ls : Array Slot) (hP : va_P D vwCl (mW a cs σ) H) (hD : va_D A (mW a cs σ)) (hS : va_S A s.heap H locs) (hl : lv_has ls 3 [(0, .ref (a 0)), (2, .int x2)]) (h : fX12_photo_J37 F kb x2 t0 t1 σ = some (r, u9)) : W p l e rmX12_photo s m args below meth c H locs 0 0 (MQ below (va_Qi (fun x y => x = r ∧ y = u9) (qB D (mW a cs) A) A) args s 0 0 A) (F0 m 37 ls [.int t0, .int t1]) := by
  obtain ⟨hx, hb, hml, hown, hts, hr, hlk⟩ := id C
  unfold fX12_photo_J37 at h
  refine lv_iadd hx hb dX12_photo_37 ?_
  refine lv_istore_n (lv' := [(1, .int (t1 + t0)), (0, .ref (a 0)), (2, .int x2)]) hx hb dX12_photo_38 rfl hl (by decide) rfl (fun ls hl => ?_)
  refine lv_iinc (v := x2 + (1 : Int32)) (lv' := [(2, .int (x2 + (1 : Int32))), (1, .int (t1 + t0)), (0, .ref (a 0))]) hx hb dX12_photo_39 hl (k := 2) rfl rfl (by decide) rfl (fun ls hl => ?_)
  refine lv_goto (tgt := 4) hx hb dX12_photo_42 (by decide) ?_
  exact hkb (t1 + t0) (x2 + (1 : Int32)) σ _ _ ls hP hD hS (lv_sub hl [2, 1, 0] rfl) h
set_option maxHeartbeats 4000000 in
set_option maxRecDepth 100000 in
theorem wX12_photo_L4 {p : Program} {l : Launch} {e : Env} {s : State} {m : MethodId} {args : Array Value} {below : List Frame} {meth : Method} {c : Code} (C : cxt p s m args meth c cX12_photo 3 RX12 wsX12_photo (some .int)) {D : va_G} {cs : Nat → ClassId} {a : Nat → Nat} (hK : KK D cs s) {A : Nat → Prop} (hA : ∀ q, s.heap.size ≤ q → A q) (r : Int32) (u9 : Nat → Nat → Int32) (F : Nat) (kx : Int32 → (Nat → Nat → Int32) → Option (Int32 × (Nat → Nat → Int32))) (hkx : ∀ (x1 : Int32) (σ : Nat → Nat → Int32) (H : Heap) (locs : List Loc) (ls : Array Slot), va_P D vwCl (mW a cs σ) H → va_D A (mW a cs σ) → va_S A s.heap H locs → lv_has ls 3 [(1, .int x1)] → kx x1 σ = some (r, u9) → W p l e rmX12_photo s m args below meth c H locs 0 0 (MQ below (va_Qi (fun x y => x = r ∧ y = u9) (qB D (mW a cs) A) A) args s 0 0 A) (F0 m 45 ls [])) : ∀ (n : Nat) (x1 : Int32) (x2 : Int32) (σ : Nat → Nat → Int32) (H : Heap) (locs : List Loc) (ls : Array Slot), va_P D vwCl (mW a cs σ) H → va_D A (mW a cs σ) → va_S A s.heap H locs → lv_has ls 3 [(0, .ref (a 0)), (1, .int x1), (2, .int x2)] → fX12_photo_L4 F kx n x1 x2 σ = some (r, u9) → W p l e rmX12_photo s m args below meth c H locs 0 0 (MQ below (va_Qi (fun x y => x = r ∧ y = u9) (qB D (mW a cs) A) A) args s 0 0 A) (F0 m 4 ls []) := by
  obtain ⟨hx, hb, hml, hown, hts, hr, hlk⟩ := id C
  intro n
  induction n with
  | zero =>
    intros
    rename_i h
    cases h
  | succ n ih =>
    intro x1 x2 σ H locs ls hP hD hS hl h
    rw [fX12_photo_L4] at h
    obtain ⟨kb, hkb, h⟩ := nb_some (P := fun (kb : Int32 → Int32 → (Nat → Nat → Int32) → Option (Int32 × (Nat → Nat → Int32))) => ∀ (x1 : Int32) (x2 : Int32) (σ : Nat → Nat → Int32) (H : Heap) (locs : List Loc) (ls : Array Slot), va_P D vwCl (mW a cs σ) H → va_D A (mW a cs σ) → va_S A s.heap H locs → lv_has ls 3 [(0, .ref (a 0)), (1, .int x1), (2, .int x2)] → kb x1 x2 σ = some (r, u9) → W p l e rmX12_photo s m args below meth c H locs 0 0 (MQ below (va_Qi (fun x y => x = r ∧ y = u9) (qB D (mW a cs) A) A) args s 0 0 A) (F0 m 4 ls [])) h ih
    refine lv_iload_n hx hb dX12_photo_4 rfl (lv_at hl 2 rfl) ?_
    refine lv_sipush (v := (256 : Int32)) hx hb dX12_photo_5 (by decide) ?_
    refine lv_icmp_ge (tgt := 45) hx hb dX12_photo_8 (by decide) (fun c1 => ?_) (fun c1 => ?_)
    · have h := it_t c1 h
      exact hkx x1 σ _ _ ls hP hD hS (lv_sub hl [1] rfl) h
    · have h := it_f c1 h
      refine lv_aload_n hx hb dX12_photo_11 rfl (lv_at hl 0 rfl) ?_
      refine va_get (D := D) (ci := 11) (v := .ref (a 19)) (C := RX12) (T := TX12) (N := 27) hx hb hts inX12_X12_photo hown hK.1 hP 0 rfl rfl 19 (by decide) (hts (.fieldLink RX12 60 "SandPalaceModel" "photo" "[I") (by decide +kernel)) (fun _ h9 => h9) rfl dX12_photo_12 ?_
      refine lv_iload_n hx hb dX12_photo_15 rfl (lv_at hl 2 rfl) ?_
      refine lv_aload_n hx hb dX12_photo_16 rfl (lv_at hl 0 rfl) ?_
      refine lv_iload_n hx hb dX12_photo_17 rfl (lv_at hl 2 rfl) ?_
      obtain ⟨v2, hc_v2, h⟩ := bd_some h
      refine mcallS (va_runV (As := [.int x2]) (rest := [.int x2, .ref (a 19)]) ⟨hx, hb, hml, hown, hts⟩ (kX12_lookOf l D cs a σ F x2 v2 hc_v2) (cwV 1 hts gX12_photo_X12_lookOf rfl rfl rfl (by decide +kernel) ⟨Nat.le_of_ble_eq_true rfl, Nat.le_of_ble_eq_true rfl⟩) (pR_v hP hK (va_recv hK.1 hP (ci := 11) (q0 := 0) rfl rfl)) rfl rfl hl.1 rfl (lv_room (Nat.le_of_ble_eq_true rfl)) dX12_photo_18 ⟨Nat.zero_le _, Nat.zero_le _⟩) ?_
      obtain ⟨i3, h⟩ := aS_some h
      refine va_iast hx hb hK.1 hP hD hS 16 0 rfl rfl i3 dX12_photo_21 (fun H locs hP hD hS => ?_)
      obtain ⟨σ4, e_σ4, h⟩ := nm_some h
      have hP : va_P D vwCl (mW a cs σ4) H := by rw [← e_σ4]; exact hP
      have hD : va_D A (mW a cs σ4) := by rw [← e_σ4]; exact hD
      refine lv_iload_n hx hb dX12_photo_22 rfl (lv_at hl 1 rfl) ?_
      refine lv_aload_n hx hb dX12_photo_23 rfl (lv_at hl 0 rfl) ?_
      refine va_get (D := D) (ci := 11) (v := .ref (a 19)) (C := RX12) (T := TX12) (N := 27) hx hb hts inX12_X12_photo hown hK.1 hP 0 rfl rfl 19 (by decide) (hts (.fieldLink RX12 60 "SandPalaceModel" "photo" "[I") (by decide +kernel)) (fun _ h9 => h9) rfl dX12_photo_24 ?_
      refine lv_iload_n hx hb dX12_photo_27 rfl (lv_at hl 2 rfl) ?_
      obtain ⟨v5, i_v5, e_v5, h⟩ := aI_some h
      refine miald hx hb hK.1 hP 16 0 rfl rfl i_v5 e_v5 dX12_photo_28 ?_
      refine lv_if_ne (tgt := 36) hx hb dX12_photo_29 (by decide) (fun c6 => ?_) (fun c6 => ?_)
      · have h := it_t c6 h
        refine lv_iconst (v := (1 : Int32)) hx hb dX12_photo_36 (by decide) ?_
        exact wX12_photo_J37 C hK hA r u9 F kb x2 (1 : Int32) x1 hkb σ4 _ _ ls hP hD hS (lv_sub hl [0, 2] rfl) h
      · have h := it_n c6 h
        refine lv_iconst (v := (0 : Int32)) hx hb dX12_photo_32 (by decide) ?_
        refine lv_goto (tgt := 37) hx hb dX12_photo_33 (by decide) ?_
        exact wX12_photo_J37 C hK hA r u9 F kb x2 (0 : Int32) x1 hkb σ4 _ _ ls hP hD hS (lv_sub hl [0, 2] rfl) h
set_option maxHeartbeats 4000000 in
set_option maxRecDepth 100000 in
theorem kX12_photo (l : Launch) (D : va_G) (cs : Nat → ClassId) (a : Nat → Nat) (σ : Nat → Nat → Int32) (F : Nat)  (r : Int32) (u9 : Nat → Nat → Int32) (h : fX12_photo F σ = some (r, u9)) (sz : Nat) : Met l yX12_photo wsX12_photo rmX12_photo (va_Pc [.ref (a 0)] (pQ D cs (mW a cs σ) sz)) (va_Qi (fun x y => x = r ∧ y = u9) (qB D (mW a cs) (va_A (mW a cs σ) sz)) (va_A (mW a cs σ) sz)) 0 0 (va_A (mW a cs σ) sz) := by
  refine Met.ofW (cc := cX12_photo) (maxL := 3) (ret := (some .int)) (by decide) rfl ?_
  intro p e s m args below meth c s₁ B hml hv
  obtain ⟨rfl, hsz, hP, hK, hD0⟩ := hv
  have C : cxt p s m _ meth c cX12_photo 3 RX12 wsX12_photo (some .int) := ⟨B.exec, B.bytes, hml, findClass_of_methodNamed B.named, atoms_spec (ws := wsX12_photo) B.pre, B.returns, B.notSynchronized⟩
  obtain ⟨hx, hb, -, hown, hts, hr, hlk⟩ := id C
  subst hsz
  have hD := hD0.self (sz := s.heap.size)
  generalize hAe : va_A (mW a cs σ) s.heap.size = A at hD ⊢
  have hA : ∀ q : Nat, s.heap.size ≤ q → A q := fun q h => by rw [← hAe]; exact Or.inr h
  have hS : va_S A s.heap s.heap [] := va_S.rf
  refine entryW [.ref (a 0)] (n := 3) (Nat.le_of_ble_eq_true rfl) (fun ls hl => ?_)
  have hl : lv_has ls 3 [(0, .ref (a 0))] := hl
  unfold fX12_photo at h
  refine lv_iconst (v := (0 : Int32)) hx hb dX12_photo_0 (by decide) ?_
  refine lv_istore_n (lv' := [(1, .int (0 : Int32)), (0, .ref (a 0))]) hx hb dX12_photo_1 rfl hl (by decide) rfl (fun ls hl => ?_)
  refine lv_iconst (v := (0 : Int32)) hx hb dX12_photo_2 (by decide) ?_
  refine lv_istore_n (lv' := [(2, .int (0 : Int32)), (1, .int (0 : Int32)), (0, .ref (a 0))]) hx hb dX12_photo_3 rfl hl (by decide) rfl (fun ls hl => ?_)
  refine wX12_photo_L4 C hK hA r u9 F  _ ?_ F (0 : Int32) (0 : Int32) σ _ _ ls hP hD hS (lv_sub hl [2, 1, 0] rfl) h
  intro y1 σ2 H locs ls hP hD hS hl h
  refine lv_iload_n hx hb dX12_photo_45 rfl (lv_at hl 0 rfl) ?_
  exact mretQ hx hb hr hlk h hP hD hS dX12_photo_46
def fX12_smear (σ : Nat → Nat → Int32) (x1 : Int32) (x2 : Int32) : Option (Int32 × (Nat → Nat → Int32)) :=
  bd (fX12_isCell x1 x2) fun v1 => if ¬ v1 = 0 then (aI (σ 19) 256 (((16 : Int32) * x2) + x1) fun v3 => aS 256 (((16 : Int32) * x2) + x1) (nm (sg σ 19 (upd (σ 19) (((16 : Int32) * x2) + x1).toNatClampNeg ((-5) : Int32))) fun σ5 => some (v3, σ5))) else (some (((-1) : Int32), σ))
abbrev rmX12_smear : Room := { frames := 2, cells := 0, slots := 0, locals := 46 }
theorem inX12_X12_smear : ∀ w ∈ wsX120, w ∈ wsX12_smear := by intro w h; simp only [wsX12_smear, List.mem_cons, List.mem_append]; simp only [h, true_or, or_true]
set_option maxHeartbeats 4000000 in
set_option maxRecDepth 100000 in
theorem kX12_smear (l : Launch) (D : va_G) (cs : Nat → ClassId) (a : Nat → Nat) (σ : Nat → Nat → Int32) (x1 : Int32) (x2 : Int32) (r : Int32) (u9 : Nat → Nat → Int32) (h : fX12_smear σ x1 x2 = some (r, u9)) (sz : Nat) : Met l yX12_smear wsX12_smear rmX12_smear (va_Pc [.ref (a 0), .int x1, .int x2] (pQ D cs (mW a cs σ) sz)) (va_Qi (fun x y => x = r ∧ y = u9) (qB D (mW a cs) (va_A (mW a cs σ) sz)) (va_A (mW a cs σ) sz)) 0 0 (va_A (mW a cs σ) sz) := by
  refine Met.ofW (cc := cX12_smear) (maxL := 4) (ret := (some .int)) (by decide) rfl ?_
  intro p e s m args below meth c s₁ B hml hv
  obtain ⟨rfl, hsz, hP, hK, hD0⟩ := hv
  have C : cxt p s m _ meth c cX12_smear 4 RX12 wsX12_smear (some .int) := ⟨B.exec, B.bytes, hml, findClass_of_methodNamed B.named, atoms_spec (ws := wsX12_smear) B.pre, B.returns, B.notSynchronized⟩
  obtain ⟨hx, hb, -, hown, hts, hr, hlk⟩ := id C
  subst hsz
  have hD := hD0.self (sz := s.heap.size)
  generalize hAe : va_A (mW a cs σ) s.heap.size = A at hD ⊢
  have hA : ∀ q : Nat, s.heap.size ≤ q → A q := fun q h => by rw [← hAe]; exact Or.inr h
  have hS : va_S A s.heap s.heap [] := va_S.rf
  refine entryW [.ref (a 0), .int x1, .int x2] (n := 4) (Nat.le_of_ble_eq_true rfl) (fun ls hl => ?_)
  have hl : lv_has ls 4 [(0, .ref (a 0)), (1, .int x1), (2, .int x2)] := hl
  unfold fX12_smear at h
  refine lv_iload_n hx hb dX12_smear_0 rfl (lv_at hl 1 rfl) ?_
  refine lv_iload_n hx hb dX12_smear_1 rfl (lv_at hl 2 rfl) ?_
  obtain ⟨v1, hc_v1, h⟩ := bd_some h
  refine mcallSZ (va_runS (As := [.int x1, .int x2]) (rest := []) ⟨hx, hb, hml, hown, hts⟩ (kX12_isCell l x1 x2 v1 hc_v1) (va_cwS 2 hts gX12_smear_X12_isCell rfl rfl rfl (by decide +kernel) ⟨Nat.le_of_ble_eq_true rfl, Nat.le_of_ble_eq_true rfl⟩) p0_s rfl rfl hl.1 rfl (lv_room (Nat.le_of_ble_eq_true rfl)) dX12_smear_2 ⟨Nat.zero_le _, Nat.zero_le _⟩) (fun z_v1 => ?_)
  refine lv_if_ne (tgt := 10) hx hb dX12_smear_5 (by decide) (fun c2 => ?_) (fun c2 => ?_)
  · have h := it_t c2 h
    refine lv_aload_n hx hb dX12_smear_10 rfl (lv_at hl 0 rfl) ?_
    refine va_get (D := D) (ci := 11) (v := .ref (a 19)) (C := RX12) (T := TX12) (N := 27) hx hb hts inX12_X12_smear hown hK.1 hP 0 rfl rfl 19 (by decide) (hts (.fieldLink RX12 60 "SandPalaceModel" "photo" "[I") (by decide +kernel)) (fun _ h9 => h9) rfl dX12_smear_11 ?_
    refine lv_bipush (v := (16 : Int32)) hx hb dX12_smear_14 (by decide) ?_
    refine lv_iload_n hx hb dX12_smear_16 rfl (lv_at hl 2 rfl) ?_
    refine lv_imul hx hb dX12_smear_17 ?_
    refine lv_iload_n hx hb dX12_smear_18 rfl (lv_at hl 1 rfl) ?_
    refine lv_iadd hx hb dX12_smear_19 ?_
    obtain ⟨v3, i_v3, e_v3, h⟩ := aI_some h
    refine miald hx hb hK.1 hP 16 0 rfl rfl i_v3 e_v3 dX12_smear_20 ?_
    refine lv_istore_n (lv' := [(3, .int v3), (0, .ref (a 0)), (1, .int x1), (2, .int x2)]) hx hb dX12_smear_21 rfl hl (by decide) rfl (fun ls hl => ?_)
    refine lv_aload_n hx hb dX12_smear_22 rfl (lv_at hl 1 rfl) ?_
    refine va_get (D := D) (ci := 11) (v := .ref (a 19)) (C := RX12) (T := TX12) (N := 27) hx hb hts inX12_X12_smear hown hK.1 hP 0 rfl rfl 19 (by decide) (hts (.fieldLink RX12 60 "SandPalaceModel" "photo" "[I") (by decide +kernel)) (fun _ h9 => h9) rfl dX12_smear_23 ?_
    refine lv_bipush (v := (16 : Int32)) hx hb dX12_smear_26 (by decide) ?_
    refine lv_iload_n hx hb dX12_smear_28 rfl (lv_at hl 3 rfl) ?_
    refine lv_imul hx hb dX12_smear_29 ?_
    refine lv_iload_n hx hb dX12_smear_30 rfl (lv_at hl 2 rfl) ?_
    refine lv_iadd hx hb dX12_smear_31 ?_
    refine lv_bipush (v := ((-5) : Int32)) hx hb dX12_smear_32 (by decide) ?_
    obtain ⟨i4, h⟩ := aS_some h
    refine va_iast hx hb hK.1 hP hD hS 16 0 rfl rfl i4 dX12_smear_34 (fun H locs hP hD hS => ?_)
    obtain ⟨σ5, e_σ5, h⟩ := nm_some h
    have hP : va_P D vwCl (mW a cs σ5) H := by rw [← e_σ5]; exact hP
    have hD : va_D A (mW a cs σ5) := by rw [← e_σ5]; exact hD
    refine lv_iload_n hx hb dX12_smear_35 rfl (lv_at hl 0 rfl) ?_
    exact mretQ hx hb hr hlk h hP hD hS dX12_smear_36
  · have h := it_n c2 h
    refine lv_iconst (v := ((-1) : Int32)) hx hb dX12_smear_8 (by decide) ?_
    exact mretQ hx hb hr hlk h hP hD hS dX12_smear_9
def fX12_cat_J127 (F : Nat) (kb : Int32 → Int32 → (Nat → Nat → Int32) → Option (Int32 × (Nat → Nat → Int32))) (x1 : Int32) (x2 : Int32) (x3 : Int32) (x4 : Int32) (x5 : Int32) (x7 : Int32) (x8 : Int32) (t0 : Int32) (t1 : Int32) (σ : Nat → Nat → Int32) : Option (Int32 × (Nat → Nat → Int32)) :=
  aS 256 x8 (nm (sg σ 19 (upd (σ 19) x8.toNatClampNeg ((-5) : Int32))) fun σ17 => kb (t1 + t0) (x7 + (1 : Int32)) σ17)
def fX12_cat_L63 (F : Nat) (x1 : Int32) (x2 : Int32) (x3 : Int32) (x4 : Int32) (x5 : Int32) (kx : Int32 → (Nat → Nat → Int32) → Option (Int32 × (Nat → Nat → Int32))) : Nat → Int32 → Int32 → (Nat → Nat → Int32) → Option (Int32 × (Nat → Nat → Int32))
  | 0, _, _, _ => none
  | n+1, x6, x7, σ =>
    nb ((fun x6 x7 σ => fX12_cat_L63 F x1 x2 x3 x4 x5 kx n x6 x7 σ)) fun kb =>
    if x5 < x7 then (kx x6 σ) else (bd (fX12_isCell (x1 + (x7 * x3)) (x2 + (x7 * x4))) fun v11 => if v11 = 0 then (kx x6 σ) else (nm ((((16 : Int32) * (x2 + (x7 * x4))) + x1) + (x7 * x3)) fun z13 => aI (σ 19) 256 z13 fun v14 => if ¬ v14 = ((-5) : Int32) then (fX12_cat_J127 F kb x1 x2 x3 x4 x5 x7 z13 (1 : Int32) x6 σ) else (fX12_cat_J127 F kb x1 x2 x3 x4 x5 x7 z13 (0 : Int32) x6 σ)))
def fX12_cat_J42 (F : Nat) (x1 : Int32) (x2 : Int32) (x3 : Int32) (x4 : Int32) (x5 : Int32) (σ : Nat → Nat → Int32) : Option (Int32 × (Nat → Nat → Int32)) :=
  bd (fX12_in x5.toInt64 (0 : Int64) (15 : Int64)) fun v8 => if ¬ v8 = 0 then (fX12_cat_L63 F x1 x2 x3 x4 x5 (fun y10 σ11 => some (y10, σ11)) F (0 : Int32) (0 : Int32) σ) else (some (((-1) : Int32), σ))
def fX12_cat (F : Nat) (σ : Nat → Nat → Int32) (x1 : Int32) (x2 : Int32) (x3 : Int32) (x4 : Int32) (x5 : Int32) : Option (Int32 × (Nat → Nat → Int32)) :=
  bd (fX12_isCell x1 x2) fun v1 => if v1 = 0 then (some (((-1) : Int32), σ)) else (bd (fX12_in x3.toInt64 ((-1) : Int64) (1 : Int64)) fun v3 => if v3 = 0 then (some (((-1) : Int32), σ)) else (bd (fX12_in x4.toInt64 ((-1) : Int64) (1 : Int64)) fun v5 => if v5 = 0 then (some (((-1) : Int32), σ)) else (if ¬ x3 = 0 then (fX12_cat_J42 F x1 x2 x3 x4 x5 σ) else (if x4 = 0 then (some (((-1) : Int32), σ)) else (fX12_cat_J42 F x1 x2 x3 x4 x5 σ)))))
abbrev rmX12_cat : Room := { frames := 2, cells := 0, slots := 0, locals := 46 }
theorem inX12_X12_cat : ∀ w ∈ wsX120, w ∈ wsX12_cat := by intro w h; simp only [wsX12_cat, List.mem_cons, List.mem_append]; simp only [h, true_or, or_true]
set_option maxHeartbeats 4000000 in
set_option maxRecDepth 100000 in
theorem wX12_cat_J127 {p : Program} {l : Launch} {e : Env} {s : State} {m : MethodId} {args : Array Value} {below : List Frame} {meth : Method} {c : Code} (C : cxt p s m args meth c cX12_cat 9 RX12 wsX12_cat (some .int)) {D : va_G} {cs : Nat → ClassId} {a : Nat → Nat} (hK : KK D cs s) {A : Nat → Prop} (hA : ∀ q, s.heap.size ≤ q → A q) (r : Int32) (u9 : Nat → Nat → Int32) (F : Nat) (kb : Int32 → Int32 → (Nat → Nat → Int32) → Option (Int32 × (Nat → Nat → Int32))) (x1 : Int32) (x2 : Int32) (x3 : Int32) (x4 : Int32) (x5 : Int32) (x7 : Int32) (x8 : Int32) (t0 : Int32) (t1 : Int32) (hkb : ∀ (x6 : Int32) (x7 : Int32) (σ : Nat → Nat → Int32) (H : Heap) (locs : List Loc) (ls : Array Slot), va_P D vwCl (mW a cs σ) H → va_D A (mW a cs σ) → va_S A s.heap H locs → lv_has ls 9 [(0, .ref (a 0)), (1, .int x1), (2, .int x2), (3, .int x3), (4, .int x4), (5, .int x5), (6, .int x6), (7, .int x7)] → kb x6 x7 σ = some (r, u9) → W p l e rmX12_cat s m args below meth c H locs 0 0 (MQ below (va_Qi (fun x y => x = r ∧ y = u9) (qB D (mW a cs) A) A) args s 0 0 A) (F0 m 63 ls [])) (σ : Nat → Nat → Int32) (H : Heap) (locs : List Loc) (ls : Array Slot) (hP : va_P D vwCl (mW a cs σ) H) (hD : va_D A (mW a cs σ)) (hS : va_S A s.heap H locs) (hl : lv_has ls 9 [(0, .ref (a 0)), (1, .int x1), (2, .int x2), (3, .int x3), (4, .int x4), (5, .int x5), (7, .int x7), (8, .int x8)]) (h : fX12_cat_J127 F kb x1 x2 x3 x4 x5 x7 x8 t0 t1 σ = some (r, u9)) : W p l e rmX12_cat s m args below meth c H locs 0 0 (MQ below (va_Qi (fun x y => x = r ∧ y = u9) (qB D (mW a cs) A) A) args s 0 0 A) (F0 m 127 ls [.int t0, .int t1]) := by
  obtain ⟨hx, hb, hml, hown, hts, hr, hlk⟩ := id C
  unfold fX12_cat_J127 at h
  refine lv_iadd hx hb dX12_cat_127 ?_
  refine lv_istore (lv' := [(6, .int (t1 + t0)), (0, .ref (a 0)), (1, .int x1), (2, .int x2), (3, .int x3), (4, .int x4), (5, .int x5), (7, .int x7), (8, .int x8)]) hx hb dX12_cat_128 hl (by decide) rfl (fun ls hl => ?_)
  refine lv_aload_n hx hb dX12_cat_130 rfl (lv_at hl 1 rfl) ?_
  refine va_get (D := D) (ci := 11) (v := .ref (a 19)) (C := RX12) (T := TX12) (N := 27) hx hb hts inX12_X12_cat hown hK.1 hP 0 rfl rfl 19 (by decide) (hts (.fieldLink RX12 60 "SandPalaceModel" "photo" "[I") (by decide +kernel)) (fun _ h9 => h9) rfl dX12_cat_131 ?_
  refine lv_iload hx hb dX12_cat_134 (lv_at hl 8 rfl) ?_
  refine lv_bipush (v := ((-5) : Int32)) hx hb dX12_cat_136 (by decide) ?_
  obtain ⟨i16, h⟩ := aS_some h
  refine va_iast hx hb hK.1 hP hD hS 16 0 rfl rfl i16 dX12_cat_138 (fun H locs hP hD hS => ?_)
  obtain ⟨σ17, e_σ17, h⟩ := nm_some h
  have hP : va_P D vwCl (mW a cs σ17) H := by rw [← e_σ17]; exact hP
  have hD : va_D A (mW a cs σ17) := by rw [← e_σ17]; exact hD
  refine lv_iinc (v := x7 + (1 : Int32)) (lv' := [(7, .int (x7 + (1 : Int32))), (6, .int (t1 + t0)), (0, .ref (a 0)), (1, .int x1), (2, .int x2), (3, .int x3), (4, .int x4), (5, .int x5), (8, .int x8)]) hx hb dX12_cat_139 hl (k := 7) rfl rfl (by decide) rfl (fun ls hl => ?_)
  refine lv_goto (tgt := 63) hx hb dX12_cat_142 (by decide) ?_
  exact hkb (t1 + t0) (x7 + (1 : Int32)) σ17 _ _ ls hP hD hS (lv_sub hl [2, 3, 4, 5, 6, 7, 1, 0] rfl) h
set_option maxHeartbeats 4000000 in
set_option maxRecDepth 100000 in
theorem wX12_cat_L63 {p : Program} {l : Launch} {e : Env} {s : State} {m : MethodId} {args : Array Value} {below : List Frame} {meth : Method} {c : Code} (C : cxt p s m args meth c cX12_cat 9 RX12 wsX12_cat (some .int)) {D : va_G} {cs : Nat → ClassId} {a : Nat → Nat} (hK : KK D cs s) {A : Nat → Prop} (hA : ∀ q, s.heap.size ≤ q → A q) (r : Int32) (u9 : Nat → Nat → Int32) (F : Nat) (x1 : Int32) (x2 : Int32) (x3 : Int32) (x4 : Int32) (x5 : Int32) (kx : Int32 → (Nat → Nat → Int32) → Option (Int32 × (Nat → Nat → Int32))) (hkx : ∀ (x6 : Int32) (σ : Nat → Nat → Int32) (H : Heap) (locs : List Loc) (ls : Array Slot), va_P D vwCl (mW a cs σ) H → va_D A (mW a cs σ) → va_S A s.heap H locs → lv_has ls 9 [(6, .int x6)] → kx x6 σ = some (r, u9) → W p l e rmX12_cat s m args below meth c H locs 0 0 (MQ below (va_Qi (fun x y => x = r ∧ y = u9) (qB D (mW a cs) A) A) args s 0 0 A) (F0 m 145 ls [])) : ∀ (n : Nat) (x6 : Int32) (x7 : Int32) (σ : Nat → Nat → Int32) (H : Heap) (locs : List Loc) (ls : Array Slot), va_P D vwCl (mW a cs σ) H → va_D A (mW a cs σ) → va_S A s.heap H locs → lv_has ls 9 [(0, .ref (a 0)), (1, .int x1), (2, .int x2), (3, .int x3), (4, .int x4), (5, .int x5), (6, .int x6), (7, .int x7)] → fX12_cat_L63 F x1 x2 x3 x4 x5 kx n x6 x7 σ = some (r, u9) → W p l e rmX12_cat s m args below meth c H locs 0 0 (MQ below (va_Qi (fun x y => x = r ∧ y = u9) (qB D (mW a cs) A) A) args s 0 0 A) (F0 m 63 ls []) := by
  obtain ⟨hx, hb, hml, hown, hts, hr, hlk⟩ := id C
  intro n
  induction n with
  | zero =>
    intros
    rename_i h
    cases h
  | succ n ih =>
    intro x6 x7 σ H locs ls hP hD hS hl h
    rw [fX12_cat_L63] at h
    obtain ⟨kb, hkb, h⟩ := nb_some (P := fun (kb : Int32 → Int32 → (Nat → Nat → Int32) → Option (Int32 × (Nat → Nat → Int32))) => ∀ (x6 : Int32) (x7 : Int32) (σ : Nat → Nat → Int32) (H : Heap) (locs : List Loc) (ls : Array Slot), va_P D vwCl (mW a cs σ) H → va_D A (mW a cs σ) → va_S A s.heap H locs → lv_has ls 9 [(0, .ref (a 0)), (1, .int x1), (2, .int x2), (3, .int x3), (4, .int x4), (5, .int x5), (6, .int x6), (7, .int x7)] → kb x6 x7 σ = some (r, u9) → W p l e rmX12_cat s m args below meth c H locs 0 0 (MQ below (va_Qi (fun x y => x = r ∧ y = u9) (qB D (mW a cs) A) A) args s 0 0 A) (F0 m 63 ls [])) h ih
    refine lv_iload hx hb dX12_cat_63 (lv_at hl 7 rfl) ?_
    refine lv_iload hx hb dX12_cat_65 (lv_at hl 5 rfl) ?_
    refine lv_icmp_gt (tgt := 145) hx hb dX12_cat_67 (by decide) (fun c10 => ?_) (fun c10 => ?_)
    · have h := it_t c10 h
      exact hkx x6 σ _ _ ls hP hD hS (lv_sub hl [6] rfl) h
    · have h := it_f c10 h
      refine lv_iload_n hx hb dX12_cat_70 rfl (lv_at hl 1 rfl) ?_
      refine lv_iload hx hb dX12_cat_71 (lv_at hl 7 rfl) ?_
      refine lv_iload_n hx hb dX12_cat_73 rfl (lv_at hl 3 rfl) ?_
      refine lv_imul hx hb dX12_cat_74 ?_
      refine lv_iadd hx hb dX12_cat_75 ?_
      refine lv_iload_n hx hb dX12_cat_76 rfl (lv_at hl 2 rfl) ?_
      refine lv_iload hx hb dX12_cat_77 (lv_at hl 7 rfl) ?_
      refine lv_iload hx hb dX12_cat_79 (lv_at hl 4 rfl) ?_
      refine lv_imul hx hb dX12_cat_81 ?_
      refine lv_iadd hx hb dX12_cat_82 ?_
      obtain ⟨v11, hc_v11, h⟩ := bd_some h
      refine mcallSZ (va_runS (As := [.int (x1 + (x7 * x3)), .int (x2 + (x7 * x4))]) (rest := []) ⟨hx, hb, hml, hown, hts⟩ (kX12_isCell l (x1 + (x7 * x3)) (x2 + (x7 * x4)) v11 hc_v11) (va_cwS 2 hts gX12_cat_X12_isCell rfl rfl rfl (by decide +kernel) ⟨Nat.le_of_ble_eq_true rfl, Nat.le_of_ble_eq_true rfl⟩) p0_s rfl rfl hl.1 rfl (lv_room (Nat.le_of_ble_eq_true rfl)) dX12_cat_83 ⟨Nat.zero_le _, Nat.zero_le _⟩) (fun z_v11 => ?_)
      refine lv_if_eq (tgt := 145) hx hb dX12_cat_86 (by decide) (fun c12 => ?_) (fun c12 => ?_)
      · have h := it_t c12 h
        exact hkx x6 σ _ _ ls hP hD hS (lv_sub hl [6] rfl) h
      · have h := it_f c12 h
        refine lv_bipush (v := (16 : Int32)) hx hb dX12_cat_89 (by decide) ?_
        refine lv_iload_n hx hb dX12_cat_91 rfl (lv_at hl 2 rfl) ?_
        refine lv_iload hx hb dX12_cat_92 (lv_at hl 7 rfl) ?_
        refine lv_iload hx hb dX12_cat_94 (lv_at hl 4 rfl) ?_
        refine lv_imul hx hb dX12_cat_96 ?_
        refine lv_iadd hx hb dX12_cat_97 ?_
        refine lv_imul hx hb dX12_cat_98 ?_
        refine lv_iload_n hx hb dX12_cat_99 rfl (lv_at hl 1 rfl) ?_
        refine lv_iadd hx hb dX12_cat_100 ?_
        refine lv_iload hx hb dX12_cat_101 (lv_at hl 7 rfl) ?_
        refine lv_iload_n hx hb dX12_cat_103 rfl (lv_at hl 3 rfl) ?_
        refine lv_imul hx hb dX12_cat_104 ?_
        refine lv_iadd hx hb dX12_cat_105 ?_
        obtain ⟨z13, e_z13, h⟩ := nm_some h
        refine tpi e_z13 ?_
        refine lv_istore (lv' := [(8, .int z13), (0, .ref (a 0)), (1, .int x1), (2, .int x2), (3, .int x3), (4, .int x4), (5, .int x5), (6, .int x6), (7, .int x7)]) hx hb dX12_cat_106 hl (by decide) rfl (fun ls hl => ?_)
        refine lv_iload hx hb dX12_cat_108 (lv_at hl 7 rfl) ?_
        refine lv_aload_n hx hb dX12_cat_110 rfl (lv_at hl 1 rfl) ?_
        refine va_get (D := D) (ci := 11) (v := .ref (a 19)) (C := RX12) (T := TX12) (N := 27) hx hb hts inX12_X12_cat hown hK.1 hP 0 rfl rfl 19 (by decide) (hts (.fieldLink RX12 60 "SandPalaceModel" "photo" "[I") (by decide +kernel)) (fun _ h9 => h9) rfl dX12_cat_111 ?_
        refine lv_iload hx hb dX12_cat_114 (lv_at hl 0 rfl) ?_
        obtain ⟨v14, i_v14, e_v14, h⟩ := aI_some h
        refine miald hx hb hK.1 hP 16 0 rfl rfl i_v14 e_v14 dX12_cat_116 ?_
        refine lv_bipush (v := ((-5) : Int32)) hx hb dX12_cat_117 (by decide) ?_
        refine lv_icmp_ne (tgt := 126) hx hb dX12_cat_119 (by decide) (fun c15 => ?_) (fun c15 => ?_)
        · have h := it_t c15 h
          refine lv_iconst (v := (1 : Int32)) hx hb dX12_cat_126 (by decide) ?_
          exact wX12_cat_J127 C hK hA r u9 F kb x1 x2 x3 x4 x5 x7 z13 (1 : Int32) x6 hkb σ _ _ ls hP hD hS (lv_sub hl [1, 2, 3, 4, 5, 6, 8, 0] rfl) h
        · have h := it_n c15 h
          refine lv_iconst (v := (0 : Int32)) hx hb dX12_cat_122 (by decide) ?_
          refine lv_goto (tgt := 127) hx hb dX12_cat_123 (by decide) ?_
          exact wX12_cat_J127 C hK hA r u9 F kb x1 x2 x3 x4 x5 x7 z13 (0 : Int32) x6 hkb σ _ _ ls hP hD hS (lv_sub hl [1, 2, 3, 4, 5, 6, 8, 0] rfl) h
set_option maxHeartbeats 4000000 in
set_option maxRecDepth 100000 in
theorem wX12_cat_J42 {p : Program} {l : Launch} {e : Env} {s : State} {m : MethodId} {args : Array Value} {below : List Frame} {meth : Method} {c : Code} (C : cxt p s m args meth c cX12_cat 9 RX12 wsX12_cat (some .int)) {D : va_G} {cs : Nat → ClassId} {a : Nat → Nat} (hK : KK D cs s) {A : Nat → Prop} (hA : ∀ q, s.heap.size ≤ q → A q) (r : Int32) (u9 : Nat → Nat → Int32) (F : Nat) (x1 : Int32) (x2 : Int32) (x3 : Int32) (x4 : Int32) (x5 : Int32) (σ : Nat → Nat → Int32) (H : Heap) (locs : List Loc) (ls : Array Slot) (hP : va_P D vwCl (mW a cs σ) H) (hD : va_D A (mW a cs σ)) (hS : va_S A s.heap H locs) (hl : lv_has ls 9 [(0, .ref (a 0)), (1, .int x1), (2, .int x2), (3, .int x3), (4, .int x4), (5, .int x5)]) (h : fX12_cat_J42 F x1 x2 x3 x4 x5 σ = some (r, u9)) : W p l e rmX12_cat s m args below meth c H locs 0 0 (MQ below (va_Qi (fun x y => x = r ∧ y = u9) (qB D (mW a cs) A) A) args s 0 0 A) (F0 m 42 ls []) := by
  obtain ⟨hx, hb, hml, hown, hts, hr, hlk⟩ := id C
  unfold fX12_cat_J42 at h
  refine lv_iload hx hb dX12_cat_42 (lv_at hl 5 rfl) ?_
  refine lv_i2l hx hb dX12_cat_44 rfl ?_
  refine lv_lconst (v := (0 : Int64)) hx hb dX12_cat_45 (by decide) ?_
  refine lv_ldc2 hx hb hown (hts (.constantLong RX12 149 (15)) (by decide +kernel)) dX12_cat_46 ?_
  obtain ⟨v8, hc_v8, h⟩ := bd_some h
  refine mcallSZ (va_runS (As := [.long x5.toInt64, .long (0 : Int64), .long (15 : Int64)]) (rest := []) ⟨hx, hb, hml, hown, hts⟩ (kX12_in l x5.toInt64 (0 : Int64) (15 : Int64) v8 hc_v8) (va_cwS 3 hts gX12_cat_X12_in rfl rfl rfl (by decide +kernel) ⟨Nat.le_of_ble_eq_true rfl, Nat.le_of_ble_eq_true rfl⟩) p0_s rfl rfl hl.1 rfl (lv_room (Nat.le_of_ble_eq_true rfl)) dX12_cat_49 ⟨Nat.zero_le _, Nat.zero_le _⟩) (fun z_v8 => ?_)
  refine lv_if_ne (tgt := 57) hx hb dX12_cat_52 (by decide) (fun c9 => ?_) (fun c9 => ?_)
  · have h := it_t c9 h
    refine lv_iconst (v := (0 : Int32)) hx hb dX12_cat_57 (by decide) ?_
    refine lv_istore (lv' := [(6, .int (0 : Int32)), (0, .ref (a 0)), (1, .int x1), (2, .int x2), (3, .int x3), (4, .int x4), (5, .int x5)]) hx hb dX12_cat_58 hl (by decide) rfl (fun ls hl => ?_)
    refine lv_iconst (v := (0 : Int32)) hx hb dX12_cat_60 (by decide) ?_
    refine lv_istore (lv' := [(7, .int (0 : Int32)), (6, .int (0 : Int32)), (0, .ref (a 0)), (1, .int x1), (2, .int x2), (3, .int x3), (4, .int x4), (5, .int x5)]) hx hb dX12_cat_61 hl (by decide) rfl (fun ls hl => ?_)
    refine wX12_cat_L63 C hK hA r u9 F x1 x2 x3 x4 x5 _ ?_ F (0 : Int32) (0 : Int32) σ _ _ ls hP hD hS (lv_sub hl [2, 3, 4, 5, 6, 7, 1, 0] rfl) h
    intro y10 σ11 H locs ls hP hD hS hl h
    refine lv_iload hx hb dX12_cat_145 (lv_at hl 0 rfl) ?_
    exact mretQ hx hb hr hlk h hP hD hS dX12_cat_147
  · have h := it_n c9 h
    refine lv_iconst (v := ((-1) : Int32)) hx hb dX12_cat_55 (by decide) ?_
    exact mretQ hx hb hr hlk h hP hD hS dX12_cat_56
set_option maxHeartbeats 4000000 in
set_option maxRecDepth 100000 in
theorem kX12_cat (l : Launch) (D : va_G) (cs : Nat → ClassId) (a : Nat → Nat) (σ : Nat → Nat → Int32) (F : Nat) (x1 : Int32) (x2 : Int32) (x3 : Int32) (x4 : Int32) (x5 : Int32) (r : Int32) (u9 : Nat → Nat → Int32) (h : fX12_cat F σ x1 x2 x3 x4 x5 = some (r, u9)) (sz : Nat) : Met l yX12_cat wsX12_cat rmX12_cat (va_Pc [.ref (a 0), .int x1, .int x2, .int x3, .int x4, .int x5] (pQ D cs (mW a cs σ) sz)) (va_Qi (fun x y => x = r ∧ y = u9) (qB D (mW a cs) (va_A (mW a cs σ) sz)) (va_A (mW a cs σ) sz)) 0 0 (va_A (mW a cs σ) sz) := by
  refine Met.ofW (cc := cX12_cat) (maxL := 9) (ret := (some .int)) (by decide) rfl ?_
  intro p e s m args below meth c s₁ B hml hv
  obtain ⟨rfl, hsz, hP, hK, hD0⟩ := hv
  have C : cxt p s m _ meth c cX12_cat 9 RX12 wsX12_cat (some .int) := ⟨B.exec, B.bytes, hml, findClass_of_methodNamed B.named, atoms_spec (ws := wsX12_cat) B.pre, B.returns, B.notSynchronized⟩
  obtain ⟨hx, hb, -, hown, hts, hr, hlk⟩ := id C
  subst hsz
  have hD := hD0.self (sz := s.heap.size)
  generalize hAe : va_A (mW a cs σ) s.heap.size = A at hD ⊢
  have hA : ∀ q : Nat, s.heap.size ≤ q → A q := fun q h => by rw [← hAe]; exact Or.inr h
  have hS : va_S A s.heap s.heap [] := va_S.rf
  refine entryW [.ref (a 0), .int x1, .int x2, .int x3, .int x4, .int x5] (n := 9) (Nat.le_of_ble_eq_true rfl) (fun ls hl => ?_)
  have hl : lv_has ls 9 [(0, .ref (a 0)), (1, .int x1), (2, .int x2), (3, .int x3), (4, .int x4), (5, .int x5)] := hl
  unfold fX12_cat at h
  refine lv_iload_n hx hb dX12_cat_0 rfl (lv_at hl 1 rfl) ?_
  refine lv_iload_n hx hb dX12_cat_1 rfl (lv_at hl 2 rfl) ?_
  obtain ⟨v1, hc_v1, h⟩ := bd_some h
  refine mcallSZ (va_runS (As := [.int x1, .int x2]) (rest := []) ⟨hx, hb, hml, hown, hts⟩ (kX12_isCell l x1 x2 v1 hc_v1) (va_cwS 2 hts gX12_cat_X12_isCell rfl rfl rfl (by decide +kernel) ⟨Nat.le_of_ble_eq_true rfl, Nat.le_of_ble_eq_true rfl⟩) p0_s rfl rfl hl.1 rfl (lv_room (Nat.le_of_ble_eq_true rfl)) dX12_cat_2 ⟨Nat.zero_le _, Nat.zero_le _⟩) (fun z_v1 => ?_)
  refine lv_if_eq (tgt := 55) hx hb dX12_cat_5 (by decide) (fun c2 => ?_) (fun c2 => ?_)
  · have h := it_t c2 h
    refine lv_iconst (v := ((-1) : Int32)) hx hb dX12_cat_55 (by decide) ?_
    exact mretQ hx hb hr hlk h hP hD hS dX12_cat_56
  · have h := it_f c2 h
    refine lv_iload_n hx hb dX12_cat_8 rfl (lv_at hl 3 rfl) ?_
    refine lv_i2l hx hb dX12_cat_9 rfl ?_
    refine lv_ldc2 hx hb hown (hts (.constantLong RX12 176 (-1)) (by decide +kernel)) dX12_cat_10 ?_
    refine lv_lconst (v := (1 : Int64)) hx hb dX12_cat_13 (by decide) ?_
    obtain ⟨v3, hc_v3, h⟩ := bd_some h
    refine mcallSZ (va_runS (As := [.long x3.toInt64, .long ((-1) : Int64), .long (1 : Int64)]) (rest := []) ⟨hx, hb, hml, hown, hts⟩ (kX12_in l x3.toInt64 ((-1) : Int64) (1 : Int64) v3 hc_v3) (va_cwS 3 hts gX12_cat_X12_in rfl rfl rfl (by decide +kernel) ⟨Nat.le_of_ble_eq_true rfl, Nat.le_of_ble_eq_true rfl⟩) p0_s rfl rfl hl.1 rfl (lv_room (Nat.le_of_ble_eq_true rfl)) dX12_cat_14 ⟨Nat.zero_le _, Nat.zero_le _⟩) (fun z_v3 => ?_)
    refine lv_if_eq (tgt := 55) hx hb dX12_cat_17 (by decide) (fun c4 => ?_) (fun c4 => ?_)
    · have h := it_t c4 h
      refine lv_iconst (v := ((-1) : Int32)) hx hb dX12_cat_55 (by decide) ?_
      exact mretQ hx hb hr hlk h hP hD hS dX12_cat_56
    · have h := it_f c4 h
      refine lv_iload hx hb dX12_cat_20 (lv_at hl 4 rfl) ?_
      refine lv_i2l hx hb dX12_cat_22 rfl ?_
      refine lv_ldc2 hx hb hown (hts (.constantLong RX12 176 (-1)) (by decide +kernel)) dX12_cat_23 ?_
      refine lv_lconst (v := (1 : Int64)) hx hb dX12_cat_26 (by decide) ?_
      obtain ⟨v5, hc_v5, h⟩ := bd_some h
      refine mcallSZ (va_runS (As := [.long x4.toInt64, .long ((-1) : Int64), .long (1 : Int64)]) (rest := []) ⟨hx, hb, hml, hown, hts⟩ (kX12_in l x4.toInt64 ((-1) : Int64) (1 : Int64) v5 hc_v5) (va_cwS 3 hts gX12_cat_X12_in rfl rfl rfl (by decide +kernel) ⟨Nat.le_of_ble_eq_true rfl, Nat.le_of_ble_eq_true rfl⟩) p0_s rfl rfl hl.1 rfl (lv_room (Nat.le_of_ble_eq_true rfl)) dX12_cat_27 ⟨Nat.zero_le _, Nat.zero_le _⟩) (fun z_v5 => ?_)
      refine lv_if_eq (tgt := 55) hx hb dX12_cat_30 (by decide) (fun c6 => ?_) (fun c6 => ?_)
      · have h := it_t c6 h
        refine lv_iconst (v := ((-1) : Int32)) hx hb dX12_cat_55 (by decide) ?_
        exact mretQ hx hb hr hlk h hP hD hS dX12_cat_56
      · have h := it_f c6 h
        refine lv_iload_n hx hb dX12_cat_33 rfl (lv_at hl 3 rfl) ?_
        refine lv_if_ne (tgt := 42) hx hb dX12_cat_34 (by decide) (fun c7 => ?_) (fun c7 => ?_)
        · have h := it_t c7 h
          exact wX12_cat_J42 C hK hA r u9 F x1 x2 x3 x4 x5 σ _ _ ls hP hD hS (lv_sub hl [0, 1, 2, 3, 4, 5] rfl) h
        · have h := it_n c7 h
          refine lv_iload hx hb dX12_cat_37 (lv_at hl 4 rfl) ?_
          refine lv_if_eq (tgt := 55) hx hb dX12_cat_39 (by decide) (fun c8 => ?_) (fun c8 => ?_)
          · have h := it_t c8 h
            refine lv_iconst (v := ((-1) : Int32)) hx hb dX12_cat_55 (by decide) ?_
            exact mretQ hx hb hr hlk h hP hD hS dX12_cat_56
          · have h := it_f c8 h
            exact wX12_cat_J42 C hK hA r u9 F x1 x2 x3 x4 x5 σ _ _ ls hP hD hS (lv_sub hl [0, 1, 2, 3, 4, 5] rfl) h
def fX12_seen (σ : Nat → Nat → Int32) (x1 : Int32) (x2 : Int32) : Option Int32 :=
  bd (fX12_isCell x1 x2) fun v1 => if v1 = 0 then (some ((-1) : Int32)) else (aI (σ 19) 256 (((16 : Int32) * x2) + x1) fun v3 => some v3)
abbrev rmX12_seen : Room := { frames := 2, cells := 0, slots := 0, locals := 46 }
theorem inX12_X12_seen : ∀ w ∈ wsX120, w ∈ wsX12_seen := by intro w h; simp only [wsX12_seen, List.mem_cons, List.mem_append]; simp only [h, true_or, or_true]
set_option maxHeartbeats 4000000 in
set_option maxRecDepth 100000 in
theorem kX12_seen (l : Launch) (D : va_G) (cs : Nat → ClassId) (a : Nat → Nat) (σ : Nat → Nat → Int32) (x1 : Int32) (x2 : Int32) (r : Int32) (h : fX12_seen σ x1 x2 = some r) : Met l yX12_seen wsX12_seen rmX12_seen (va_Pc [.ref (a 0), .int x1, .int x2] (pR D cs (mW a cs σ))) (vp_Si (fun x => x = r)) 0 0 (fun _ => False) := by
  refine Met.ofW (cc := cX12_seen) (maxL := 3) (ret := (some .int)) (by decide) rfl ?_
  intro p e s m args below meth c s₁ B hml hv
  obtain ⟨rfl, hP, hK⟩ := hv
  have C : cxt p s m _ meth c cX12_seen 3 RX12 wsX12_seen (some .int) := ⟨B.exec, B.bytes, hml, findClass_of_methodNamed B.named, atoms_spec (ws := wsX12_seen) B.pre, B.returns, B.notSynchronized⟩
  obtain ⟨hx, hb, -, hown, hts, hr, hlk⟩ := id C
  refine entryW [.ref (a 0), .int x1, .int x2] (n := 3) (Nat.le_of_ble_eq_true rfl) (fun ls hl => ?_)
  have hl : lv_has ls 3 [(0, .ref (a 0)), (1, .int x1), (2, .int x2)] := hl
  unfold fX12_seen at h
  refine lv_iload_n hx hb dX12_seen_0 rfl (lv_at hl 1 rfl) ?_
  refine lv_iload_n hx hb dX12_seen_1 rfl (lv_at hl 2 rfl) ?_
  obtain ⟨v1, hc_v1, h⟩ := bd_some h
  refine mcallSZ (va_runS (As := [.int x1, .int x2]) (rest := []) ⟨hx, hb, hml, hown, hts⟩ (kX12_isCell l x1 x2 v1 hc_v1) (va_cwS 2 hts gX12_seen_X12_isCell rfl rfl rfl (by decide +kernel) ⟨Nat.le_of_ble_eq_true rfl, Nat.le_of_ble_eq_true rfl⟩) p0_s rfl rfl hl.1 rfl (lv_room (Nat.le_of_ble_eq_true rfl)) dX12_seen_2 ⟨Nat.zero_le _, Nat.zero_le _⟩) (fun z_v1 => ?_)
  refine lv_if_eq (tgt := 22) hx hb dX12_seen_5 (by decide) (fun c2 => ?_) (fun c2 => ?_)
  · have h := it_t c2 h
    refine lv_iconst (v := ((-1) : Int32)) hx hb dX12_seen_22 (by decide) ?_
    exact mretS hx hb hr hlk h dX12_seen_23
  · have h := it_f c2 h
    refine lv_aload_n hx hb dX12_seen_8 rfl (lv_at hl 0 rfl) ?_
    refine va_get (D := D) (ci := 11) (v := .ref (a 19)) (C := RX12) (T := TX12) (N := 27) hx hb hts inX12_X12_seen hown hK.1 hP 0 rfl rfl 19 (by decide) (hts (.fieldLink RX12 60 "SandPalaceModel" "photo" "[I") (by decide +kernel)) (fun _ h9 => h9) rfl dX12_seen_9 ?_
    refine lv_bipush (v := (16 : Int32)) hx hb dX12_seen_12 (by decide) ?_
    refine lv_iload_n hx hb dX12_seen_14 rfl (lv_at hl 2 rfl) ?_
    refine lv_imul hx hb dX12_seen_15 ?_
    refine lv_iload_n hx hb dX12_seen_16 rfl (lv_at hl 1 rfl) ?_
    refine lv_iadd hx hb dX12_seen_17 ?_
    obtain ⟨v3, i_v3, e_v3, h⟩ := aI_some h
    refine miald hx hb hK.1 hP 16 0 rfl rfl i_v3 e_v3 dX12_seen_18 ?_
    refine lv_goto (tgt := 23) hx hb dX12_seen_19 (by decide) ?_
    exact mretS hx hb hr hlk h dX12_seen_23
def fX12_stepAt_J47 (F : Nat) (kb : Int32 → Int32 → Option Int32) (x1 : Int32) (x3 : Int32) (t0 : Int32) (σ : Nat → Nat → Int32) : Option Int32 :=
  kb t0 (x3 + (1 : Int32))
def fX12_stepAt_J46 (F : Nat) (kb : Int32 → Int32 → Option Int32) (x1 : Int32) (x2 : Int32) (x3 : Int32) (σ : Nat → Nat → Int32) : Option Int32 :=
  fX12_stepAt_J47 F kb x1 x3 x2 σ
def fX12_stepAt_L4 (F : Nat) (σ : Nat → Nat → Int32) (x1 : Int32) (kx : Int32 → Option Int32) : Nat → Int32 → Int32 → Option Int32
  | 0, _, _ => none
  | n+1, x2, x3 =>
    nb ((fun x2 x3 => fX12_stepAt_L4 F σ x1 kx n x2 x3)) fun kb =>
    if (σ 0 0) ≤ x3 then (kx x2) else (aI (σ 1) 10 x3 fun v2 => if ¬ v2 = (4 : Int32) then (fX12_stepAt_J46 F kb x1 x2 x3 σ) else (aI (σ 8) 2560 (((256 : Int32) * x3) + x1) fun v4 => if v4 = 0 then (fX12_stepAt_J46 F kb x1 x2 x3 σ) else (aI (σ 7) 10 x3 fun v6 => fX12_stepAt_J47 F kb x1 x3 v6 σ)))
def fX12_stepAt (F : Nat) (σ : Nat → Nat → Int32) (x1 : Int32) : Option Int32 :=
  fX12_stepAt_L4 F σ x1 (fun y1 => some y1) F (0 : Int32) (0 : Int32)
abbrev rmX12_stepAt : Room := { frames := 0, cells := 0, slots := 0, locals := 0 }
theorem inX12_X12_stepAt : ∀ w ∈ wsX120, w ∈ wsX12_stepAt := by intro w h; simp only [wsX12_stepAt, List.mem_cons, List.mem_append]; simp only [h, true_or, or_true]
set_option maxHeartbeats 4000000 in
set_option maxRecDepth 100000 in
theorem wX12_stepAt_J47 {p : Program} {l : Launch} {e : Env} {s : State} {m : MethodId} {args : Array Value} {below : List Frame} {meth : Method} {c : Code} (C : cxt p s m args meth c cX12_stepAt 4 RX12 wsX12_stepAt (some .int)) {D : va_G} {cs : Nat → ClassId} {a : Nat → Nat} (hK : KK D cs s) {σ : Nat → Nat → Int32} (hP : va_P D vwCl (mW a cs σ) s.heap) (r : Int32) (F : Nat) (kb : Int32 → Int32 → Option Int32) (x1 : Int32) (x3 : Int32) (t0 : Int32) (hkb : ∀ (x2 : Int32) (x3 : Int32) (ls : Array Slot), lv_has ls 4 [(0, .ref (a 0)), (1, .int x1), (2, .int x2), (3, .int x3)] → kb x2 x3 = some r → W p l e rmX12_stepAt s m args below meth c s.heap [] 0 0 (MQ below (vp_Si (fun x => x = r)) args s 0 0 (fun _ => False)) (F0 m 4 ls [])) (ls : Array Slot) (hl : lv_has ls 4 [(0, .ref (a 0)), (1, .int x1), (3, .int x3)]) (h : fX12_stepAt_J47 F kb x1 x3 t0 σ = some r) : W p l e rmX12_stepAt s m args below meth c s.heap [] 0 0 (MQ below (vp_Si (fun x => x = r)) args s 0 0 (fun _ => False)) (F0 m 47 ls [.int t0]) := by
  obtain ⟨hx, hb, hml, hown, hts, hr, hlk⟩ := id C
  unfold fX12_stepAt_J47 at h
  refine lv_istore_n (lv' := [(2, .int t0), (0, .ref (a 0)), (1, .int x1), (3, .int x3)]) hx hb dX12_stepAt_47 rfl hl (by decide) rfl (fun ls hl => ?_)
  refine lv_iinc (v := x3 + (1 : Int32)) (lv' := [(3, .int (x3 + (1 : Int32))), (2, .int t0), (0, .ref (a 0)), (1, .int x1)]) hx hb dX12_stepAt_48 hl (k := 3) rfl rfl (by decide) rfl (fun ls hl => ?_)
  refine lv_goto (tgt := 4) hx hb dX12_stepAt_51 (by decide) ?_
  exact hkb t0 (x3 + (1 : Int32)) ls (lv_sub hl [2, 3, 1, 0] rfl) h
set_option maxHeartbeats 4000000 in
set_option maxRecDepth 100000 in
theorem wX12_stepAt_J46 {p : Program} {l : Launch} {e : Env} {s : State} {m : MethodId} {args : Array Value} {below : List Frame} {meth : Method} {c : Code} (C : cxt p s m args meth c cX12_stepAt 4 RX12 wsX12_stepAt (some .int)) {D : va_G} {cs : Nat → ClassId} {a : Nat → Nat} (hK : KK D cs s) {σ : Nat → Nat → Int32} (hP : va_P D vwCl (mW a cs σ) s.heap) (r : Int32) (F : Nat) (kb : Int32 → Int32 → Option Int32) (x1 : Int32) (x2 : Int32) (x3 : Int32) (hkb : ∀ (x2 : Int32) (x3 : Int32) (ls : Array Slot), lv_has ls 4 [(0, .ref (a 0)), (1, .int x1), (2, .int x2), (3, .int x3)] → kb x2 x3 = some r → W p l e rmX12_stepAt s m args below meth c s.heap [] 0 0 (MQ below (vp_Si (fun x => x = r)) args s 0 0 (fun _ => False)) (F0 m 4 ls [])) (ls : Array Slot) (hl : lv_has ls 4 [(0, .ref (a 0)), (1, .int x1), (2, .int x2), (3, .int x3)]) (h : fX12_stepAt_J46 F kb x1 x2 x3 σ = some r) : W p l e rmX12_stepAt s m args below meth c s.heap [] 0 0 (MQ below (vp_Si (fun x => x = r)) args s 0 0 (fun _ => False)) (F0 m 46 ls []) := by
  obtain ⟨hx, hb, hml, hown, hts, hr, hlk⟩ := id C
  unfold fX12_stepAt_J46 at h
  refine lv_iload_n hx hb dX12_stepAt_46 rfl (lv_at hl 2 rfl) ?_
  exact wX12_stepAt_J47 C hK hP r F kb x1 x3 x2 hkb ls (lv_sub hl [0, 1, 3] rfl) h
set_option maxHeartbeats 4000000 in
set_option maxRecDepth 100000 in
theorem wX12_stepAt_L4 {p : Program} {l : Launch} {e : Env} {s : State} {m : MethodId} {args : Array Value} {below : List Frame} {meth : Method} {c : Code} (C : cxt p s m args meth c cX12_stepAt 4 RX12 wsX12_stepAt (some .int)) {D : va_G} {cs : Nat → ClassId} {a : Nat → Nat} (hK : KK D cs s) {σ : Nat → Nat → Int32} (hP : va_P D vwCl (mW a cs σ) s.heap) (r : Int32) (F : Nat) (x1 : Int32) (kx : Int32 → Option Int32) (hkx : ∀ (x2 : Int32) (ls : Array Slot), lv_has ls 4 [(2, .int x2)] → kx x2 = some r → W p l e rmX12_stepAt s m args below meth c s.heap [] 0 0 (MQ below (vp_Si (fun x => x = r)) args s 0 0 (fun _ => False)) (F0 m 54 ls [])) : ∀ (n : Nat) (x2 : Int32) (x3 : Int32) (ls : Array Slot), lv_has ls 4 [(0, .ref (a 0)), (1, .int x1), (2, .int x2), (3, .int x3)] → fX12_stepAt_L4 F σ x1 kx n x2 x3 = some r → W p l e rmX12_stepAt s m args below meth c s.heap [] 0 0 (MQ below (vp_Si (fun x => x = r)) args s 0 0 (fun _ => False)) (F0 m 4 ls []) := by
  obtain ⟨hx, hb, hml, hown, hts, hr, hlk⟩ := id C
  intro n
  induction n with
  | zero =>
    intros
    rename_i h
    cases h
  | succ n ih =>
    intro x2 x3 ls hl h
    rw [fX12_stepAt_L4] at h
    obtain ⟨kb, hkb, h⟩ := nb_some (P := fun (kb : Int32 → Int32 → Option Int32) => ∀ (x2 : Int32) (x3 : Int32) (ls : Array Slot), lv_has ls 4 [(0, .ref (a 0)), (1, .int x1), (2, .int x2), (3, .int x3)] → kb x2 x3 = some r → W p l e rmX12_stepAt s m args below meth c s.heap [] 0 0 (MQ below (vp_Si (fun x => x = r)) args s 0 0 (fun _ => False)) (F0 m 4 ls [])) h ih
    refine lv_iload_n hx hb dX12_stepAt_4 rfl (lv_at hl 3 rfl) ?_
    refine lv_aload_n hx hb dX12_stepAt_5 rfl (lv_at hl 0 rfl) ?_
    refine va_get (D := D) (ci := 11) (v := .int (σ 0 0)) (C := RX12) (T := TX12) (N := 27) hx hb hts inX12_X12_stepAt hown hK.1 hP 0 rfl rfl 0 (by decide) (hts (.fieldLink RX12 103 "SandPalaceModel" "shapes" "I") (by decide +kernel)) (fun _ h9 => h9) rfl dX12_stepAt_6 ?_
    refine lv_icmp_ge (tgt := 54) hx hb dX12_stepAt_9 (by decide) (fun c1 => ?_) (fun c1 => ?_)
    · have h := it_t c1 h
      exact hkx x2 ls (lv_sub hl [2] rfl) h
    · have h := it_f c1 h
      refine lv_aload_n hx hb dX12_stepAt_12 rfl (lv_at hl 0 rfl) ?_
      refine va_get (D := D) (ci := 11) (v := .ref (a 1)) (C := RX12) (T := TX12) (N := 27) hx hb hts inX12_X12_stepAt hown hK.1 hP 0 rfl rfl 1 (by decide) (hts (.fieldLink RX12 7 "SandPalaceModel" "kinds" "[I") (by decide +kernel)) (fun _ h9 => h9) rfl dX12_stepAt_13 ?_
      refine lv_iload_n hx hb dX12_stepAt_16 rfl (lv_at hl 3 rfl) ?_
      obtain ⟨v2, i_v2, e_v2, h⟩ := aI_some h
      refine miald hx hb hK.1 hP 1 0 rfl rfl i_v2 e_v2 dX12_stepAt_17 ?_
      refine lv_iconst (v := (4 : Int32)) hx hb dX12_stepAt_18 (by decide) ?_
      refine lv_icmp_ne (tgt := 46) hx hb dX12_stepAt_19 (by decide) (fun c3 => ?_) (fun c3 => ?_)
      · have h := it_t c3 h
        exact wX12_stepAt_J46 C hK hP r F kb x1 x2 x3 hkb ls (lv_sub hl [0, 1, 2, 3] rfl) h
      · have h := it_n c3 h
        refine lv_aload_n hx hb dX12_stepAt_22 rfl (lv_at hl 0 rfl) ?_
        refine va_get (D := D) (ci := 11) (v := .ref (a 8)) (C := RX12) (T := TX12) (N := 27) hx hb hts inX12_X12_stepAt hown hK.1 hP 0 rfl rfl 8 (by decide) (hts (.fieldLink RX12 31 "SandPalaceModel" "has" "[Z") (by decide +kernel)) (fun _ h9 => h9) rfl dX12_stepAt_23 ?_
        refine lv_sipush (v := (256 : Int32)) hx hb dX12_stepAt_26 (by decide) ?_
        refine lv_iload_n hx hb dX12_stepAt_29 rfl (lv_at hl 3 rfl) ?_
        refine lv_imul hx hb dX12_stepAt_30 ?_
        refine lv_iload_n hx hb dX12_stepAt_31 rfl (lv_at hl 1 rfl) ?_
        refine lv_iadd hx hb dX12_stepAt_32 ?_
        obtain ⟨v4, i_v4, e_v4, h⟩ := aI_some h
        refine mzald hx hb hK.1 hP 8 1 rfl rfl i_v4 e_v4 dX12_stepAt_33 ?_
        refine lv_if_eq (tgt := 46) hx hb dX12_stepAt_34 (by decide) (fun c5 => ?_) (fun c5 => ?_)
        · have h := it_t c5 h
          exact wX12_stepAt_J46 C hK hP r F kb x1 x2 x3 hkb ls (lv_sub hl [0, 1, 2, 3] rfl) h
        · have h := it_f c5 h
          refine lv_aload_n hx hb dX12_stepAt_37 rfl (lv_at hl 0 rfl) ?_
          refine va_get (D := D) (ci := 11) (v := .ref (a 7)) (C := RX12) (T := TX12) (N := 27) hx hb hts inX12_X12_stepAt hown hK.1 hP 0 rfl rfl 7 (by decide) (hts (.fieldLink RX12 28 "SandPalaceModel" "steps" "[I") (by decide +kernel)) (fun _ h9 => h9) rfl dX12_stepAt_38 ?_
          refine lv_iload_n hx hb dX12_stepAt_41 rfl (lv_at hl 3 rfl) ?_
          obtain ⟨v6, i_v6, e_v6, h⟩ := aI_some h
          refine miald hx hb hK.1 hP 7 0 rfl rfl i_v6 e_v6 dX12_stepAt_42 ?_
          refine lv_goto (tgt := 47) hx hb dX12_stepAt_43 (by decide) ?_
          exact wX12_stepAt_J47 C hK hP r F kb x1 x3 v6 hkb ls (lv_sub hl [0, 1, 3] rfl) h
set_option maxHeartbeats 4000000 in
set_option maxRecDepth 100000 in
theorem kX12_stepAt (l : Launch) (D : va_G) (cs : Nat → ClassId) (a : Nat → Nat) (σ : Nat → Nat → Int32) (F : Nat) (x1 : Int32) (r : Int32) (h : fX12_stepAt F σ x1 = some r) : Met l yX12_stepAt wsX12_stepAt rmX12_stepAt (va_Pc [.ref (a 0), .int x1] (pR D cs (mW a cs σ))) (vp_Si (fun x => x = r)) 0 0 (fun _ => False) := by
  refine Met.ofW (cc := cX12_stepAt) (maxL := 4) (ret := (some .int)) (by decide) rfl ?_
  intro p e s m args below meth c s₁ B hml hv
  obtain ⟨rfl, hP, hK⟩ := hv
  have C : cxt p s m _ meth c cX12_stepAt 4 RX12 wsX12_stepAt (some .int) := ⟨B.exec, B.bytes, hml, findClass_of_methodNamed B.named, atoms_spec (ws := wsX12_stepAt) B.pre, B.returns, B.notSynchronized⟩
  obtain ⟨hx, hb, -, hown, hts, hr, hlk⟩ := id C
  refine entryW [.ref (a 0), .int x1] (n := 4) (Nat.le_of_ble_eq_true rfl) (fun ls hl => ?_)
  have hl : lv_has ls 4 [(0, .ref (a 0)), (1, .int x1)] := hl
  unfold fX12_stepAt at h
  refine lv_iconst (v := (0 : Int32)) hx hb dX12_stepAt_0 (by decide) ?_
  refine lv_istore_n (lv' := [(2, .int (0 : Int32)), (0, .ref (a 0)), (1, .int x1)]) hx hb dX12_stepAt_1 rfl hl (by decide) rfl (fun ls hl => ?_)
  refine lv_iconst (v := (0 : Int32)) hx hb dX12_stepAt_2 (by decide) ?_
  refine lv_istore_n (lv' := [(3, .int (0 : Int32)), (2, .int (0 : Int32)), (0, .ref (a 0)), (1, .int x1)]) hx hb dX12_stepAt_3 rfl hl (by decide) rfl (fun ls hl => ?_)
  refine wX12_stepAt_L4 C hK hP r F x1 _ ?_ F (0 : Int32) (0 : Int32) ls (lv_sub hl [2, 3, 1, 0] rfl) h
  intro y1 ls hl h
  refine lv_iload_n hx hb dX12_stepAt_54 rfl (lv_at hl 0 rfl) ?_
  exact mretS hx hb hr hlk h dX12_stepAt_55
def fX12_backOf_J113 (F : Nat) (kb : Int32 → Int32 → Option Int32) (x1 : Int32) (x2 : Int32) (x3 : Int32) (x4 : Int32) (x5 : Int32) (σ : Nat → Nat → Int32) : Option Int32 :=
  kb x4 (x5 + (1 : Int32))
def fX12_backOf_J111 (F : Nat) (kb : Int32 → Int32 → Option Int32) (x1 : Int32) (x2 : Int32) (x3 : Int32) (x5 : Int32) (t0 : Int32) (σ : Nat → Nat → Int32) : Option Int32 :=
  fX12_backOf_J113 F kb x1 x2 x3 t0 x5 σ
def fX12_backOf_J104 (F : Nat) (kb : Int32 → Int32 → Option Int32) (x1 : Int32) (x2 : Int32) (x3 : Int32) (x5 : Int32) (x7 : Int32) (σ : Nat → Nat → Int32) : Option Int32 :=
  fX12_backOf_J111 F kb x1 x2 x3 x5 x7 σ
def fX12_backOf_J88 (F : Nat) (kb : Int32 → Int32 → Option Int32) (x1 : Int32) (x2 : Int32) (x3 : Int32) (x4 : Int32) (x5 : Int32) (t0 : Int32) (σ : Nat → Nat → Int32) : Option Int32 :=
  if x4 = ((-5) : Int32) then (fX12_backOf_J104 F kb x1 x2 x3 x5 t0 σ) else (if ¬ x4 = t0 then (fX12_backOf_J111 F kb x1 x2 x3 x5 ((-6) : Int32) σ) else (fX12_backOf_J104 F kb x1 x2 x3 x5 t0 σ))
def fX12_backOf_L25 (F : Nat) (σ : Nat → Nat → Int32) (x1 : Int32) (x2 : Int32) (x3 : Int32) (kx : Int32 → Option Int32) : Nat → Int32 → Int32 → Option Int32
  | 0, _, _ => none
  | n+1, x4, x5 =>
    nb ((fun x4 x5 => fX12_backOf_L25 F σ x1 x2 x3 kx n x4 x5)) fun kb =>
    if (4 : Int32) ≤ x5 then (kx x4) else (bd (fX12_placeOf F x1) fun v4 => bd (fX12_turned F v4 x5) fun v5 => aI (σ 19) 256 v5 fun v6 => if x5 = x2 then (fX12_backOf_J113 F kb x1 x2 x3 x4 x5 σ) else (if v6 = ((-5) : Int32) then (fX12_backOf_J113 F kb x1 x2 x3 x4 x5 σ) else (if ¬ v6 = 0 then (fX12_backOf_J88 F kb x1 x2 x3 x4 x5 (((((v6 - (1 : Int32)) + (36 : Int32)) + (x3 * (x2 - x5))) - (((v6 - (1 : Int32)) + (36 : Int32)) + (x3 * (x2 - x5))) / (9 : Int32) * (9 : Int32)) + (1 : Int32)) σ) else (fX12_backOf_J88 F kb x1 x2 x3 x4 x5 (0 : Int32) σ))))
def fX12_backOf (F : Nat) (σ : Nat → Nat → Int32) (x1 : Int32) : Option Int32 :=
  bd (fX12_quarterOf (x1 - x1 / (16 : Int32) * (16 : Int32)) (x1 / (16 : Int32))) fun v1 => bd (fX12_stepAt F σ x1) fun v2 => fX12_backOf_L25 F σ x1 v1 v2 (fun y3 => some y3) F ((-5) : Int32) (0 : Int32)
abbrev rmX12_backOf : Room := { frames := 2, cells := 0, slots := 0, locals := 45 }
theorem inX12_X12_backOf : ∀ w ∈ wsX120, w ∈ wsX12_backOf := by intro w h; simp only [wsX12_backOf, List.mem_cons, List.mem_append]; simp only [h, true_or, or_true]
set_option maxHeartbeats 4000000 in
set_option maxRecDepth 100000 in
theorem wX12_backOf_J113 {p : Program} {l : Launch} {e : Env} {s : State} {m : MethodId} {args : Array Value} {below : List Frame} {meth : Method} {c : Code} (C : cxt p s m args meth c cX12_backOf 8 RX12 wsX12_backOf (some .int)) {D : va_G} {cs : Nat → ClassId} {a : Nat → Nat} (hK : KK D cs s) {σ : Nat → Nat → Int32} (hP : va_P D vwCl (mW a cs σ) s.heap) (r : Int32) (F : Nat) (kb : Int32 → Int32 → Option Int32) (x1 : Int32) (x2 : Int32) (x3 : Int32) (x4 : Int32) (x5 : Int32) (hkb : ∀ (x4 : Int32) (x5 : Int32) (ls : Array Slot), lv_has ls 8 [(0, .ref (a 0)), (1, .int x1), (2, .int x2), (3, .int x3), (4, .int x4), (5, .int x5)] → kb x4 x5 = some r → W p l e rmX12_backOf s m args below meth c s.heap [] 0 0 (MQ below (vp_Si (fun x => x = r)) args s 0 0 (fun _ => False)) (F0 m 25 ls [])) (ls : Array Slot) (hl : lv_has ls 8 [(0, .ref (a 0)), (1, .int x1), (2, .int x2), (3, .int x3), (4, .int x4), (5, .int x5)]) (h : fX12_backOf_J113 F kb x1 x2 x3 x4 x5 σ = some r) : W p l e rmX12_backOf s m args below meth c s.heap [] 0 0 (MQ below (vp_Si (fun x => x = r)) args s 0 0 (fun _ => False)) (F0 m 113 ls []) := by
  obtain ⟨hx, hb, hml, hown, hts, hr, hlk⟩ := id C
  unfold fX12_backOf_J113 at h
  refine lv_iinc (v := x5 + (1 : Int32)) (lv' := [(5, .int (x5 + (1 : Int32))), (0, .ref (a 0)), (1, .int x1), (2, .int x2), (3, .int x3), (4, .int x4)]) hx hb dX12_backOf_113 hl (k := 5) rfl rfl (by decide) rfl (fun ls hl => ?_)
  refine lv_goto (tgt := 25) hx hb dX12_backOf_116 (by decide) ?_
  exact hkb x4 (x5 + (1 : Int32)) ls (lv_sub hl [1, 2, 3, 4, 5, 0] rfl) h
set_option maxHeartbeats 4000000 in
set_option maxRecDepth 100000 in
theorem wX12_backOf_J111 {p : Program} {l : Launch} {e : Env} {s : State} {m : MethodId} {args : Array Value} {below : List Frame} {meth : Method} {c : Code} (C : cxt p s m args meth c cX12_backOf 8 RX12 wsX12_backOf (some .int)) {D : va_G} {cs : Nat → ClassId} {a : Nat → Nat} (hK : KK D cs s) {σ : Nat → Nat → Int32} (hP : va_P D vwCl (mW a cs σ) s.heap) (r : Int32) (F : Nat) (kb : Int32 → Int32 → Option Int32) (x1 : Int32) (x2 : Int32) (x3 : Int32) (x5 : Int32) (t0 : Int32) (hkb : ∀ (x4 : Int32) (x5 : Int32) (ls : Array Slot), lv_has ls 8 [(0, .ref (a 0)), (1, .int x1), (2, .int x2), (3, .int x3), (4, .int x4), (5, .int x5)] → kb x4 x5 = some r → W p l e rmX12_backOf s m args below meth c s.heap [] 0 0 (MQ below (vp_Si (fun x => x = r)) args s 0 0 (fun _ => False)) (F0 m 25 ls [])) (ls : Array Slot) (hl : lv_has ls 8 [(0, .ref (a 0)), (1, .int x1), (2, .int x2), (3, .int x3), (5, .int x5)]) (h : fX12_backOf_J111 F kb x1 x2 x3 x5 t0 σ = some r) : W p l e rmX12_backOf s m args below meth c s.heap [] 0 0 (MQ below (vp_Si (fun x => x = r)) args s 0 0 (fun _ => False)) (F0 m 111 ls [.int t0]) := by
  obtain ⟨hx, hb, hml, hown, hts, hr, hlk⟩ := id C
  unfold fX12_backOf_J111 at h
  refine lv_istore (lv' := [(4, .int t0), (0, .ref (a 0)), (1, .int x1), (2, .int x2), (3, .int x3), (5, .int x5)]) hx hb dX12_backOf_111 hl (by decide) rfl (fun ls hl => ?_)
  exact wX12_backOf_J113 C hK hP r F kb x1 x2 x3 t0 x5 hkb ls (lv_sub hl [1, 2, 3, 4, 0, 5] rfl) h
set_option maxHeartbeats 4000000 in
set_option maxRecDepth 100000 in
theorem wX12_backOf_J104 {p : Program} {l : Launch} {e : Env} {s : State} {m : MethodId} {args : Array Value} {below : List Frame} {meth : Method} {c : Code} (C : cxt p s m args meth c cX12_backOf 8 RX12 wsX12_backOf (some .int)) {D : va_G} {cs : Nat → ClassId} {a : Nat → Nat} (hK : KK D cs s) {σ : Nat → Nat → Int32} (hP : va_P D vwCl (mW a cs σ) s.heap) (r : Int32) (F : Nat) (kb : Int32 → Int32 → Option Int32) (x1 : Int32) (x2 : Int32) (x3 : Int32) (x5 : Int32) (x7 : Int32) (hkb : ∀ (x4 : Int32) (x5 : Int32) (ls : Array Slot), lv_has ls 8 [(0, .ref (a 0)), (1, .int x1), (2, .int x2), (3, .int x3), (4, .int x4), (5, .int x5)] → kb x4 x5 = some r → W p l e rmX12_backOf s m args below meth c s.heap [] 0 0 (MQ below (vp_Si (fun x => x = r)) args s 0 0 (fun _ => False)) (F0 m 25 ls [])) (ls : Array Slot) (hl : lv_has ls 8 [(0, .ref (a 0)), (1, .int x1), (2, .int x2), (3, .int x3), (5, .int x5), (7, .int x7)]) (h : fX12_backOf_J104 F kb x1 x2 x3 x5 x7 σ = some r) : W p l e rmX12_backOf s m args below meth c s.heap [] 0 0 (MQ below (vp_Si (fun x => x = r)) args s 0 0 (fun _ => False)) (F0 m 104 ls []) := by
  obtain ⟨hx, hb, hml, hown, hts, hr, hlk⟩ := id C
  unfold fX12_backOf_J104 at h
  refine lv_iload hx hb dX12_backOf_104 (lv_at hl 5 rfl) ?_
  refine lv_goto (tgt := 111) hx hb dX12_backOf_106 (by decide) ?_
  exact wX12_backOf_J111 C hK hP r F kb x1 x2 x3 x5 x7 hkb ls (lv_sub hl [0, 1, 2, 3, 4] rfl) h
set_option maxHeartbeats 4000000 in
set_option maxRecDepth 100000 in
theorem wX12_backOf_J88 {p : Program} {l : Launch} {e : Env} {s : State} {m : MethodId} {args : Array Value} {below : List Frame} {meth : Method} {c : Code} (C : cxt p s m args meth c cX12_backOf 8 RX12 wsX12_backOf (some .int)) {D : va_G} {cs : Nat → ClassId} {a : Nat → Nat} (hK : KK D cs s) {σ : Nat → Nat → Int32} (hP : va_P D vwCl (mW a cs σ) s.heap) (r : Int32) (F : Nat) (kb : Int32 → Int32 → Option Int32) (x1 : Int32) (x2 : Int32) (x3 : Int32) (x4 : Int32) (x5 : Int32) (t0 : Int32) (hkb : ∀ (x4 : Int32) (x5 : Int32) (ls : Array Slot), lv_has ls 8 [(0, .ref (a 0)), (1, .int x1), (2, .int x2), (3, .int x3), (4, .int x4), (5, .int x5)] → kb x4 x5 = some r → W p l e rmX12_backOf s m args below meth c s.heap [] 0 0 (MQ below (vp_Si (fun x => x = r)) args s 0 0 (fun _ => False)) (F0 m 25 ls [])) (ls : Array Slot) (hl : lv_has ls 8 [(0, .ref (a 0)), (1, .int x1), (2, .int x2), (3, .int x3), (4, .int x4), (5, .int x5)]) (h : fX12_backOf_J88 F kb x1 x2 x3 x4 x5 t0 σ = some r) : W p l e rmX12_backOf s m args below meth c s.heap [] 0 0 (MQ below (vp_Si (fun x => x = r)) args s 0 0 (fun _ => False)) (F0 m 88 ls [.int t0]) := by
  obtain ⟨hx, hb, hml, hown, hts, hr, hlk⟩ := id C
  unfold fX12_backOf_J88 at h
  refine lv_istore (lv' := [(7, .int t0), (0, .ref (a 0)), (1, .int x1), (2, .int x2), (3, .int x3), (4, .int x4), (5, .int x5)]) hx hb dX12_backOf_88 hl (by decide) rfl (fun ls hl => ?_)
  refine lv_iload hx hb dX12_backOf_90 (lv_at hl 5 rfl) ?_
  refine lv_bipush (v := ((-5) : Int32)) hx hb dX12_backOf_92 (by decide) ?_
  refine lv_icmp_eq (tgt := 104) hx hb dX12_backOf_94 (by decide) (fun c10 => ?_) (fun c10 => ?_)
  · have h := it_t c10 h
    exact wX12_backOf_J104 C hK hP r F kb x1 x2 x3 x5 t0 hkb ls (lv_sub hl [1, 2, 3, 4, 6, 0] rfl) h
  · have h := it_f c10 h
    refine lv_iload hx hb dX12_backOf_97 (lv_at hl 5 rfl) ?_
    refine lv_iload hx hb dX12_backOf_99 (lv_at hl 0 rfl) ?_
    refine lv_icmp_ne (tgt := 109) hx hb dX12_backOf_101 (by decide) (fun c11 => ?_) (fun c11 => ?_)
    · have h := it_t c11 h
      refine lv_bipush (v := ((-6) : Int32)) hx hb dX12_backOf_109 (by decide) ?_
      exact wX12_backOf_J111 C hK hP r F kb x1 x2 x3 x5 ((-6) : Int32) hkb ls (lv_sub hl [1, 2, 3, 4, 6] rfl) h
    · have h := it_n c11 h
      exact wX12_backOf_J104 C hK hP r F kb x1 x2 x3 x5 t0 hkb ls (lv_sub hl [1, 2, 3, 4, 6, 0] rfl) h
set_option maxHeartbeats 4000000 in
set_option maxRecDepth 100000 in
theorem wX12_backOf_L25 {p : Program} {l : Launch} {e : Env} {s : State} {m : MethodId} {args : Array Value} {below : List Frame} {meth : Method} {c : Code} (C : cxt p s m args meth c cX12_backOf 8 RX12 wsX12_backOf (some .int)) {D : va_G} {cs : Nat → ClassId} {a : Nat → Nat} (hK : KK D cs s) {σ : Nat → Nat → Int32} (hP : va_P D vwCl (mW a cs σ) s.heap) (r : Int32) (F : Nat) (x1 : Int32) (x2 : Int32) (x3 : Int32) (kx : Int32 → Option Int32) (hkx : ∀ (x4 : Int32) (ls : Array Slot), lv_has ls 8 [(4, .int x4)] → kx x4 = some r → W p l e rmX12_backOf s m args below meth c s.heap [] 0 0 (MQ below (vp_Si (fun x => x = r)) args s 0 0 (fun _ => False)) (F0 m 119 ls [])) : ∀ (n : Nat) (x4 : Int32) (x5 : Int32) (ls : Array Slot), lv_has ls 8 [(0, .ref (a 0)), (1, .int x1), (2, .int x2), (3, .int x3), (4, .int x4), (5, .int x5)] → fX12_backOf_L25 F σ x1 x2 x3 kx n x4 x5 = some r → W p l e rmX12_backOf s m args below meth c s.heap [] 0 0 (MQ below (vp_Si (fun x => x = r)) args s 0 0 (fun _ => False)) (F0 m 25 ls []) := by
  obtain ⟨hx, hb, hml, hown, hts, hr, hlk⟩ := id C
  intro n
  induction n with
  | zero =>
    intros
    rename_i h
    cases h
  | succ n ih =>
    intro x4 x5 ls hl h
    rw [fX12_backOf_L25] at h
    obtain ⟨kb, hkb, h⟩ := nb_some (P := fun (kb : Int32 → Int32 → Option Int32) => ∀ (x4 : Int32) (x5 : Int32) (ls : Array Slot), lv_has ls 8 [(0, .ref (a 0)), (1, .int x1), (2, .int x2), (3, .int x3), (4, .int x4), (5, .int x5)] → kb x4 x5 = some r → W p l e rmX12_backOf s m args below meth c s.heap [] 0 0 (MQ below (vp_Si (fun x => x = r)) args s 0 0 (fun _ => False)) (F0 m 25 ls [])) h ih
    refine lv_iload hx hb dX12_backOf_25 (lv_at hl 5 rfl) ?_
    refine lv_iconst (v := (4 : Int32)) hx hb dX12_backOf_27 (by decide) ?_
    refine lv_icmp_ge (tgt := 119) hx hb dX12_backOf_28 (by decide) (fun c3 => ?_) (fun c3 => ?_)
    · have h := it_t c3 h
      exact hkx x4 ls (lv_sub hl [4] rfl) h
    · have h := it_f c3 h
      refine lv_aload_n hx hb dX12_backOf_31 rfl (lv_at hl 0 rfl) ?_
      refine va_get (D := D) (ci := 11) (v := .ref (a 19)) (C := RX12) (T := TX12) (N := 27) hx hb hts inX12_X12_backOf hown hK.1 hP 0 rfl rfl 19 (by decide) (hts (.fieldLink RX12 60 "SandPalaceModel" "photo" "[I") (by decide +kernel)) (fun _ h9 => h9) rfl dX12_backOf_32 ?_
      refine lv_iload_n hx hb dX12_backOf_35 rfl (lv_at hl 1 rfl) ?_
      obtain ⟨v4, hc_v4, h⟩ := bd_some h
      refine mcallS (va_runS (As := [.int x1]) (rest := [.ref (a 19)]) ⟨hx, hb, hml, hown, hts⟩ (kX12_placeOf l F x1 v4 hc_v4) (va_cwS 1 hts gX12_backOf_X12_placeOf rfl rfl rfl (by decide +kernel) ⟨Nat.le_of_ble_eq_true rfl, Nat.le_of_ble_eq_true rfl⟩) p0_s rfl rfl hl.1 rfl (lv_room (Nat.le_of_ble_eq_true rfl)) dX12_backOf_36 ⟨Nat.zero_le _, Nat.zero_le _⟩) ?_
      refine lv_iload hx hb dX12_backOf_39 (lv_at hl 5 rfl) ?_
      obtain ⟨v5, hc_v5, h⟩ := bd_some h
      refine mcallS (va_runS (As := [.int v4, .int x5]) (rest := [.ref (a 19)]) ⟨hx, hb, hml, hown, hts⟩ (kX12_turned l F v4 x5 v5 hc_v5) (va_cwS 2 hts gX12_backOf_X12_turned rfl rfl rfl (by decide +kernel) ⟨Nat.le_of_ble_eq_true rfl, Nat.le_of_ble_eq_true rfl⟩) p0_s rfl rfl hl.1 rfl (lv_room (Nat.le_of_ble_eq_true rfl)) dX12_backOf_41 ⟨Nat.zero_le _, Nat.zero_le _⟩) ?_
      obtain ⟨v6, i_v6, e_v6, h⟩ := aI_some h
      refine miald hx hb hK.1 hP 16 0 rfl rfl i_v6 e_v6 dX12_backOf_44 ?_
      refine lv_istore (lv' := [(6, .int v6), (0, .ref (a 0)), (1, .int x1), (2, .int x2), (3, .int x3), (4, .int x4), (5, .int x5)]) hx hb dX12_backOf_45 hl (by decide) rfl (fun ls hl => ?_)
      refine lv_iload hx hb dX12_backOf_47 (lv_at hl 6 rfl) ?_
      refine lv_iload_n hx hb dX12_backOf_49 rfl (lv_at hl 3 rfl) ?_
      refine lv_icmp_eq (tgt := 113) hx hb dX12_backOf_50 (by decide) (fun c7 => ?_) (fun c7 => ?_)
      · have h := it_t c7 h
        exact wX12_backOf_J113 C hK hP r F kb x1 x2 x3 x4 x5 hkb ls (lv_sub hl [1, 2, 3, 4, 5, 6] rfl) h
      · have h := it_f c7 h
        refine lv_iload hx hb dX12_backOf_53 (lv_at hl 0 rfl) ?_
        refine lv_bipush (v := ((-5) : Int32)) hx hb dX12_backOf_55 (by decide) ?_
        refine lv_icmp_eq (tgt := 113) hx hb dX12_backOf_57 (by decide) (fun c8 => ?_) (fun c8 => ?_)
        · have h := it_t c8 h
          exact wX12_backOf_J113 C hK hP r F kb x1 x2 x3 x4 x5 hkb ls (lv_sub hl [1, 2, 3, 4, 5, 6] rfl) h
        · have h := it_f c8 h
          refine lv_iload hx hb dX12_backOf_60 (lv_at hl 0 rfl) ?_
          refine lv_if_ne (tgt := 69) hx hb dX12_backOf_62 (by decide) (fun c9 => ?_) (fun c9 => ?_)
          · have h := it_t c9 h
            refine lv_iload hx hb dX12_backOf_69 (lv_at hl 0 rfl) ?_
            refine lv_iconst (v := (1 : Int32)) hx hb dX12_backOf_71 (by decide) ?_
            refine lv_isub hx hb dX12_backOf_72 ?_
            refine lv_bipush (v := (36 : Int32)) hx hb dX12_backOf_73 (by decide) ?_
            refine lv_iadd hx hb dX12_backOf_75 ?_
            refine lv_iload_n hx hb dX12_backOf_76 rfl (lv_at hl 4 rfl) ?_
            refine lv_iload_n hx hb dX12_backOf_77 rfl (lv_at hl 3 rfl) ?_
            refine lv_iload hx hb dX12_backOf_78 (lv_at hl 6 rfl) ?_
            refine lv_isub hx hb dX12_backOf_80 ?_
            refine lv_imul hx hb dX12_backOf_81 ?_
            refine lv_iadd hx hb dX12_backOf_82 ?_
            refine lv_bipush (v := (9 : Int32)) hx hb dX12_backOf_83 (by decide) ?_
            refine lv_irem hx hb dX12_backOf_85 (by decide) ?_
            refine lv_iconst (v := (1 : Int32)) hx hb dX12_backOf_86 (by decide) ?_
            refine lv_iadd hx hb dX12_backOf_87 ?_
            exact wX12_backOf_J88 C hK hP r F kb x1 x2 x3 x4 x5 (((((v6 - (1 : Int32)) + (36 : Int32)) + (x3 * (x2 - x5))) - (((v6 - (1 : Int32)) + (36 : Int32)) + (x3 * (x2 - x5))) / (9 : Int32) * (9 : Int32)) + (1 : Int32)) hkb ls (lv_sub hl [1, 2, 3, 4, 5, 6] rfl) h
          · have h := it_n c9 h
            refine lv_iconst (v := (0 : Int32)) hx hb dX12_backOf_65 (by decide) ?_
            refine lv_goto (tgt := 88) hx hb dX12_backOf_66 (by decide) ?_
            exact wX12_backOf_J88 C hK hP r F kb x1 x2 x3 x4 x5 (0 : Int32) hkb ls (lv_sub hl [1, 2, 3, 4, 5, 6] rfl) h
set_option maxHeartbeats 4000000 in
set_option maxRecDepth 100000 in
theorem kX12_backOf (l : Launch) (D : va_G) (cs : Nat → ClassId) (a : Nat → Nat) (σ : Nat → Nat → Int32) (F : Nat) (x1 : Int32) (r : Int32) (h : fX12_backOf F σ x1 = some r) : Met l yX12_backOf wsX12_backOf rmX12_backOf (va_Pc [.ref (a 0), .int x1] (pR D cs (mW a cs σ))) (vp_Si (fun x => x = r)) 0 0 (fun _ => False) := by
  refine Met.ofW (cc := cX12_backOf) (maxL := 8) (ret := (some .int)) (by decide) rfl ?_
  intro p e s m args below meth c s₁ B hml hv
  obtain ⟨rfl, hP, hK⟩ := hv
  have C : cxt p s m _ meth c cX12_backOf 8 RX12 wsX12_backOf (some .int) := ⟨B.exec, B.bytes, hml, findClass_of_methodNamed B.named, atoms_spec (ws := wsX12_backOf) B.pre, B.returns, B.notSynchronized⟩
  obtain ⟨hx, hb, -, hown, hts, hr, hlk⟩ := id C
  refine entryW [.ref (a 0), .int x1] (n := 8) (Nat.le_of_ble_eq_true rfl) (fun ls hl => ?_)
  have hl : lv_has ls 8 [(0, .ref (a 0)), (1, .int x1)] := hl
  unfold fX12_backOf at h
  refine lv_iload_n hx hb dX12_backOf_0 rfl (lv_at hl 1 rfl) ?_
  refine lv_bipush (v := (16 : Int32)) hx hb dX12_backOf_1 (by decide) ?_
  refine lv_irem hx hb dX12_backOf_3 (by decide) ?_
  refine lv_iload_n hx hb dX12_backOf_4 rfl (lv_at hl 1 rfl) ?_
  refine lv_bipush (v := (16 : Int32)) hx hb dX12_backOf_5 (by decide) ?_
  refine lv_idiv hx hb dX12_backOf_7 (by decide) ?_
  obtain ⟨v1, hc_v1, h⟩ := bd_some h
  refine mcallS (va_runS (As := [.int (x1 - x1 / (16 : Int32) * (16 : Int32)), .int (x1 / (16 : Int32))]) (rest := []) ⟨hx, hb, hml, hown, hts⟩ (kX12_quarterOf l (x1 - x1 / (16 : Int32) * (16 : Int32)) (x1 / (16 : Int32)) v1 hc_v1) (va_cwS 2 hts gX12_backOf_X12_quarterOf rfl rfl rfl (by decide +kernel) ⟨Nat.le_of_ble_eq_true rfl, Nat.le_of_ble_eq_true rfl⟩) p0_s rfl rfl hl.1 rfl (lv_room (Nat.le_of_ble_eq_true rfl)) dX12_backOf_8 ⟨Nat.zero_le _, Nat.zero_le _⟩) ?_
  refine lv_istore_n (lv' := [(2, .int v1), (0, .ref (a 0)), (1, .int x1)]) hx hb dX12_backOf_11 rfl hl (by decide) rfl (fun ls hl => ?_)
  refine lv_aload_n hx hb dX12_backOf_12 rfl (lv_at hl 1 rfl) ?_
  refine lv_iload_n hx hb dX12_backOf_13 rfl (lv_at hl 2 rfl) ?_
  obtain ⟨v2, hc_v2, h⟩ := bd_some h
  refine mcallS (va_runV (As := [.int x1]) (rest := []) ⟨hx, hb, hml, hown, hts⟩ (kX12_stepAt l D cs a σ F x1 v2 hc_v2) (cwV 1 hts gX12_backOf_X12_stepAt rfl rfl rfl (by decide +kernel) ⟨Nat.le_of_ble_eq_true rfl, Nat.le_of_ble_eq_true rfl⟩) (pR_v hP hK (va_recv hK.1 hP (ci := 11) (q0 := 0) rfl rfl)) rfl rfl hl.1 rfl (lv_room (Nat.le_of_ble_eq_true rfl)) dX12_backOf_14 ⟨Nat.zero_le _, Nat.zero_le _⟩) ?_
  refine lv_istore_n (lv' := [(3, .int v2), (2, .int v1), (0, .ref (a 0)), (1, .int x1)]) hx hb dX12_backOf_17 rfl hl (by decide) rfl (fun ls hl => ?_)
  refine lv_bipush (v := ((-5) : Int32)) hx hb dX12_backOf_18 (by decide) ?_
  refine lv_istore (lv' := [(4, .int ((-5) : Int32)), (3, .int v2), (2, .int v1), (0, .ref (a 0)), (1, .int x1)]) hx hb dX12_backOf_20 hl (by decide) rfl (fun ls hl => ?_)
  refine lv_iconst (v := (0 : Int32)) hx hb dX12_backOf_22 (by decide) ?_
  refine lv_istore (lv' := [(5, .int (0 : Int32)), (4, .int ((-5) : Int32)), (3, .int v2), (2, .int v1), (0, .ref (a 0)), (1, .int x1)]) hx hb dX12_backOf_23 hl (by decide) rfl (fun ls hl => ?_)
  refine wX12_backOf_L25 C hK hP r F x1 v1 v2 _ ?_ F ((-5) : Int32) (0 : Int32) ls (lv_sub hl [4, 5, 3, 2, 1, 0] rfl) h
  intro y3 ls hl h
  refine lv_iload hx hb dX12_backOf_119 (lv_at hl 0 rfl) ?_
  exact mretS hx hb hr hlk h dX12_backOf_121
def fX12_back (F : Nat) (σ : Nat → Nat → Int32) (x1 : Int32) (x2 : Int32) : Option Int32 :=
  bd (fX12_isCell x1 x2) fun v1 => if ¬ v1 = 0 then (aI (σ 19) 256 (((16 : Int32) * x2) + x1) fun v3 => if ¬ v3 = ((-5) : Int32) then (some ((-2) : Int32)) else (bd (fX12_backOf F σ (((16 : Int32) * x2) + x1)) fun v5 => some v5)) else (some ((-1) : Int32))
abbrev rmX12_back : Room := { frames := 3, cells := 0, slots := 0, locals := 72 }
theorem inX12_X12_back : ∀ w ∈ wsX120, w ∈ wsX12_back := by intro w h; simp only [wsX12_back, List.mem_cons, List.mem_append]; simp only [h, true_or, or_true]
set_option maxHeartbeats 4000000 in
set_option maxRecDepth 100000 in
theorem kX12_back (l : Launch) (D : va_G) (cs : Nat → ClassId) (a : Nat → Nat) (σ : Nat → Nat → Int32) (F : Nat) (x1 : Int32) (x2 : Int32) (r : Int32) (h : fX12_back F σ x1 x2 = some r) : Met l yX12_back wsX12_back rmX12_back (va_Pc [.ref (a 0), .int x1, .int x2] (pR D cs (mW a cs σ))) (vp_Si (fun x => x = r)) 0 0 (fun _ => False) := by
  refine Met.ofW (cc := cX12_back) (maxL := 3) (ret := (some .int)) (by decide) rfl ?_
  intro p e s m args below meth c s₁ B hml hv
  obtain ⟨rfl, hP, hK⟩ := hv
  have C : cxt p s m _ meth c cX12_back 3 RX12 wsX12_back (some .int) := ⟨B.exec, B.bytes, hml, findClass_of_methodNamed B.named, atoms_spec (ws := wsX12_back) B.pre, B.returns, B.notSynchronized⟩
  obtain ⟨hx, hb, -, hown, hts, hr, hlk⟩ := id C
  refine entryW [.ref (a 0), .int x1, .int x2] (n := 3) (Nat.le_of_ble_eq_true rfl) (fun ls hl => ?_)
  have hl : lv_has ls 3 [(0, .ref (a 0)), (1, .int x1), (2, .int x2)] := hl
  unfold fX12_back at h
  refine lv_iload_n hx hb dX12_back_0 rfl (lv_at hl 1 rfl) ?_
  refine lv_iload_n hx hb dX12_back_1 rfl (lv_at hl 2 rfl) ?_
  obtain ⟨v1, hc_v1, h⟩ := bd_some h
  refine mcallSZ (va_runS (As := [.int x1, .int x2]) (rest := []) ⟨hx, hb, hml, hown, hts⟩ (kX12_isCell l x1 x2 v1 hc_v1) (va_cwS 2 hts gX12_back_X12_isCell rfl rfl rfl (by decide +kernel) ⟨Nat.le_of_ble_eq_true rfl, Nat.le_of_ble_eq_true rfl⟩) p0_s rfl rfl hl.1 rfl (lv_room (Nat.le_of_ble_eq_true rfl)) dX12_back_2 ⟨Nat.zero_le _, Nat.zero_le _⟩) (fun z_v1 => ?_)
  refine lv_if_ne (tgt := 10) hx hb dX12_back_5 (by decide) (fun c2 => ?_) (fun c2 => ?_)
  · have h := it_t c2 h
    refine lv_aload_n hx hb dX12_back_10 rfl (lv_at hl 0 rfl) ?_
    refine va_get (D := D) (ci := 11) (v := .ref (a 19)) (C := RX12) (T := TX12) (N := 27) hx hb hts inX12_X12_back hown hK.1 hP 0 rfl rfl 19 (by decide) (hts (.fieldLink RX12 60 "SandPalaceModel" "photo" "[I") (by decide +kernel)) (fun _ h9 => h9) rfl dX12_back_11 ?_
    refine lv_bipush (v := (16 : Int32)) hx hb dX12_back_14 (by decide) ?_
    refine lv_iload_n hx hb dX12_back_16 rfl (lv_at hl 2 rfl) ?_
    refine lv_imul hx hb dX12_back_17 ?_
    refine lv_iload_n hx hb dX12_back_18 rfl (lv_at hl 1 rfl) ?_
    refine lv_iadd hx hb dX12_back_19 ?_
    obtain ⟨v3, i_v3, e_v3, h⟩ := aI_some h
    refine miald hx hb hK.1 hP 16 0 rfl rfl i_v3 e_v3 dX12_back_20 ?_
    refine lv_bipush (v := ((-5) : Int32)) hx hb dX12_back_21 (by decide) ?_
    refine lv_icmp_ne (tgt := 39) hx hb dX12_back_23 (by decide) (fun c4 => ?_) (fun c4 => ?_)
    · have h := it_t c4 h
      refine lv_bipush (v := ((-2) : Int32)) hx hb dX12_back_39 (by decide) ?_
      exact mretS hx hb hr hlk h dX12_back_41
    · have h := it_n c4 h
      refine lv_aload_n hx hb dX12_back_26 rfl (lv_at hl 0 rfl) ?_
      refine lv_bipush (v := (16 : Int32)) hx hb dX12_back_27 (by decide) ?_
      refine lv_iload_n hx hb dX12_back_29 rfl (lv_at hl 2 rfl) ?_
      refine lv_imul hx hb dX12_back_30 ?_
      refine lv_iload_n hx hb dX12_back_31 rfl (lv_at hl 1 rfl) ?_
      refine lv_iadd hx hb dX12_back_32 ?_
      obtain ⟨v5, hc_v5, h⟩ := bd_some h
      refine mcallS (va_runV (As := [.int (((16 : Int32) * x2) + x1)]) (rest := []) ⟨hx, hb, hml, hown, hts⟩ (kX12_backOf l D cs a σ F (((16 : Int32) * x2) + x1) v5 hc_v5) (cwV 1 hts gX12_back_X12_backOf rfl rfl rfl (by decide +kernel) ⟨Nat.le_of_ble_eq_true rfl, Nat.le_of_ble_eq_true rfl⟩) (pR_v hP hK (va_recv hK.1 hP (ci := 11) (q0 := 0) rfl rfl)) rfl rfl hl.1 rfl (lv_room (Nat.le_of_ble_eq_true rfl)) dX12_back_33 ⟨Nat.zero_le _, Nat.zero_le _⟩) ?_
      refine lv_goto (tgt := 41) hx hb dX12_back_36 (by decide) ?_
      exact mretS hx hb hr hlk h dX12_back_41
  · have h := it_n c2 h
    refine lv_iconst (v := ((-1) : Int32)) hx hb dX12_back_8 (by decide) ?_
    exact mretS hx hb hr hlk h dX12_back_9
def fX12_mend_J41 (F : Nat) (kb : Int32 → (Nat → Nat → Int32) → Option (Int32 × (Nat → Nat → Int32))) (x1 : Int32) (x2 : Int32) (t0 : Int32) (t1 : Int32) (σ : Nat → Nat → Int32) : Option (Int32 × (Nat → Nat → Int32)) :=
  aS 256 t1 (nm (sg σ 20 (upd (σ 20) t1.toNatClampNeg t0)) fun σ6 => kb (x2 + (1 : Int32)) σ6)
def fX12_mend_L4 (F : Nat) (x1 : Int32) (kx : (Nat → Nat → Int32) → Option (Int32 × (Nat → Nat → Int32))) : Nat → Int32 → (Nat → Nat → Int32) → Option (Int32 × (Nat → Nat → Int32))
  | 0, _, _ => none
  | n+1, x2, σ =>
    nb ((fun x2 σ => fX12_mend_L4 F x1 kx n x2 σ)) fun kb =>
    if (256 : Int32) ≤ x2 then (kx σ) else (aI (σ 19) 256 x2 fun v2 => if ¬ v2 = ((-5) : Int32) then (aI (σ 19) 256 x2 fun v4 => fX12_mend_J41 F kb x1 x2 v4 x2 σ) else (bd (fX12_backOf F σ x2) fun v5 => fX12_mend_J41 F kb x1 x2 v5 x2 σ))
def fX12_mend_J92 (F : Nat) (kb : Int32 → Int32 → (Nat → Nat → Int32) → Option (Int32 × (Nat → Nat → Int32))) (x1 : Int32) (x2 : Int32) (σ : Nat → Nat → Int32) : Option (Int32 × (Nat → Nat → Int32)) :=
  kb x1 (x2 + (1 : Int32)) σ
def fX12_mend_L50 (F : Nat) (kx : Int32 → (Nat → Nat → Int32) → Option (Int32 × (Nat → Nat → Int32))) : Nat → Int32 → Int32 → (Nat → Nat → Int32) → Option (Int32 × (Nat → Nat → Int32))
  | 0, _, _, _ => none
  | n+1, x1, x2, σ =>
    nb ((fun x1 x2 σ => fX12_mend_L50 F kx n x1 x2 σ)) fun kb =>
    if (256 : Int32) ≤ x2 then (kx x1 σ) else (aI (σ 19) 256 x2 fun v3 => if ¬ v3 = ((-5) : Int32) then (fX12_mend_J92 F kb x1 x2 σ) else (aI (σ 20) 256 x2 fun v5 => if v5 < 0 then (fX12_mend_J92 F kb x1 x2 σ) else (aI (σ 20) 256 x2 fun v7 => aS 256 x2 (nm (sg σ 19 (upd (σ 19) x2.toNatClampNeg v7)) fun σ9 => fX12_mend_J92 F kb (x1 + (1 : Int32)) x2 σ9))))
def fX12_mend (F : Nat) (σ : Nat → Nat → Int32)  : Option (Int32 × (Nat → Nat → Int32)) :=
  fX12_mend_L4 F (0 : Int32) (fun σ1 => fX12_mend_L50 F (fun y2 σ3 => some (y2, σ3)) F (0 : Int32) (0 : Int32) σ1) F (0 : Int32) σ
abbrev rmX12_mend : Room := { frames := 3, cells := 0, slots := 0, locals := 72 }
theorem inX12_X12_mend : ∀ w ∈ wsX120, w ∈ wsX12_mend := by intro w h; simp only [wsX12_mend, List.mem_cons, List.mem_append]; simp only [h, true_or, or_true]
set_option maxHeartbeats 4000000 in
set_option maxRecDepth 100000 in
theorem wX12_mend_J41 {p : Program} {l : Launch} {e : Env} {s : State} {m : MethodId} {args : Array Value} {below : List Frame} {meth : Method} {c : Code} (C : cxt p s m args meth c cX12_mend 3 RX12 wsX12_mend (some .int)) {D : va_G} {cs : Nat → ClassId} {a : Nat → Nat} (hK : KK D cs s) {A : Nat → Prop} (hA : ∀ q, s.heap.size ≤ q → A q) (r : Int32) (u9 : Nat → Nat → Int32) (F : Nat) (kb : Int32 → (Nat → Nat → Int32) → Option (Int32 × (Nat → Nat → Int32))) (x1 : Int32) (x2 : Int32) (t0 : Int32) (t1 : Int32) (hkb : ∀ (x2 : Int32) (σ : Nat → Nat → Int32) (H : Heap) (locs : List Loc) (ls : Array Slot), va_P D vwCl (mW a cs σ) H → va_D A (mW a cs σ) → va_S A s.heap H locs → lv_has ls 3 [(0, .ref (a 0)), (1, .int x1), (2, .int x2)] → kb x2 σ = some (r, u9) → W p l e rmX12_mend s m args below meth c H locs 0 0 (MQ below (va_Qi (fun x y => x = r ∧ y = u9) (qB D (mW a cs) A) A) args s 0 0 A) (F0 m 4 ls [])) (σ : Nat → Nat → Int32) (H : Heap) (locs : List Loc) (ls : Array Slot) (hP : va_P D vwCl (mW a cs σ) H) (hD : va_D A (mW a cs σ)) (hS : va_S A s.heap H locs) (hl : lv_has ls 3 [(0, .ref (a 0)), (1, .int x1), (2, .int x2)]) (h : fX12_mend_J41 F kb x1 x2 t0 t1 σ = some (r, u9)) : W p l e rmX12_mend s m args below meth c H locs 0 0 (MQ below (va_Qi (fun x y => x = r ∧ y = u9) (qB D (mW a cs) A) A) args s 0 0 A) (F0 m 41 ls [.int t0, .int t1, .ref (a 20)]) := by
  obtain ⟨hx, hb, hml, hown, hts, hr, hlk⟩ := id C
  unfold fX12_mend_J41 at h
  obtain ⟨i5, h⟩ := aS_some h
  refine va_iast hx hb hK.1 hP hD hS 17 0 rfl rfl i5 dX12_mend_41 (fun H locs hP hD hS => ?_)
  obtain ⟨σ6, e_σ6, h⟩ := nm_some h
  have hP : va_P D vwCl (mW a cs σ6) H := by rw [← e_σ6]; exact hP
  have hD : va_D A (mW a cs σ6) := by rw [← e_σ6]; exact hD
  refine lv_iinc (v := x2 + (1 : Int32)) (lv' := [(2, .int (x2 + (1 : Int32))), (0, .ref (a 0)), (1, .int x1)]) hx hb dX12_mend_42 hl (k := 2) rfl rfl (by decide) rfl (fun ls hl => ?_)
  refine lv_goto (tgt := 4) hx hb dX12_mend_45 (by decide) ?_
  exact hkb (x2 + (1 : Int32)) σ6 _ _ ls hP hD hS (lv_sub hl [1, 2, 0] rfl) h
set_option maxHeartbeats 4000000 in
set_option maxRecDepth 100000 in
theorem wX12_mend_L4 {p : Program} {l : Launch} {e : Env} {s : State} {m : MethodId} {args : Array Value} {below : List Frame} {meth : Method} {c : Code} (C : cxt p s m args meth c cX12_mend 3 RX12 wsX12_mend (some .int)) {D : va_G} {cs : Nat → ClassId} {a : Nat → Nat} (hK : KK D cs s) {A : Nat → Prop} (hA : ∀ q, s.heap.size ≤ q → A q) (r : Int32) (u9 : Nat → Nat → Int32) (F : Nat) (x1 : Int32) (kx : (Nat → Nat → Int32) → Option (Int32 × (Nat → Nat → Int32))) (hkx : ∀ (σ : Nat → Nat → Int32) (H : Heap) (locs : List Loc) (ls : Array Slot), va_P D vwCl (mW a cs σ) H → va_D A (mW a cs σ) → va_S A s.heap H locs → lv_has ls 3 [(0, .ref (a 0)), (1, .int x1)] → kx σ = some (r, u9) → W p l e rmX12_mend s m args below meth c H locs 0 0 (MQ below (va_Qi (fun x y => x = r ∧ y = u9) (qB D (mW a cs) A) A) args s 0 0 A) (F0 m 48 ls [])) : ∀ (n : Nat) (x2 : Int32) (σ : Nat → Nat → Int32) (H : Heap) (locs : List Loc) (ls : Array Slot), va_P D vwCl (mW a cs σ) H → va_D A (mW a cs σ) → va_S A s.heap H locs → lv_has ls 3 [(0, .ref (a 0)), (1, .int x1), (2, .int x2)] → fX12_mend_L4 F x1 kx n x2 σ = some (r, u9) → W p l e rmX12_mend s m args below meth c H locs 0 0 (MQ below (va_Qi (fun x y => x = r ∧ y = u9) (qB D (mW a cs) A) A) args s 0 0 A) (F0 m 4 ls []) := by
  obtain ⟨hx, hb, hml, hown, hts, hr, hlk⟩ := id C
  intro n
  induction n with
  | zero =>
    intros
    rename_i h
    cases h
  | succ n ih =>
    intro x2 σ H locs ls hP hD hS hl h
    rw [fX12_mend_L4] at h
    obtain ⟨kb, hkb, h⟩ := nb_some (P := fun (kb : Int32 → (Nat → Nat → Int32) → Option (Int32 × (Nat → Nat → Int32))) => ∀ (x2 : Int32) (σ : Nat → Nat → Int32) (H : Heap) (locs : List Loc) (ls : Array Slot), va_P D vwCl (mW a cs σ) H → va_D A (mW a cs σ) → va_S A s.heap H locs → lv_has ls 3 [(0, .ref (a 0)), (1, .int x1), (2, .int x2)] → kb x2 σ = some (r, u9) → W p l e rmX12_mend s m args below meth c H locs 0 0 (MQ below (va_Qi (fun x y => x = r ∧ y = u9) (qB D (mW a cs) A) A) args s 0 0 A) (F0 m 4 ls [])) h ih
    refine lv_iload_n hx hb dX12_mend_4 rfl (lv_at hl 2 rfl) ?_
    refine lv_sipush (v := (256 : Int32)) hx hb dX12_mend_5 (by decide) ?_
    refine lv_icmp_ge (tgt := 48) hx hb dX12_mend_8 (by decide) (fun c1 => ?_) (fun c1 => ?_)
    · have h := it_t c1 h
      exact hkx σ _ _ ls hP hD hS (lv_sub hl [0, 1] rfl) h
    · have h := it_f c1 h
      refine lv_aload_n hx hb dX12_mend_11 rfl (lv_at hl 0 rfl) ?_
      refine va_get (D := D) (ci := 11) (v := .ref (a 20)) (C := RX12) (T := TX12) (N := 27) hx hb hts inX12_X12_mend hown hK.1 hP 0 rfl rfl 20 (by decide) (hts (.fieldLink RX12 63 "SandPalaceModel" "mended" "[I") (by decide +kernel)) (fun _ h9 => h9) rfl dX12_mend_12 ?_
      refine lv_iload_n hx hb dX12_mend_15 rfl (lv_at hl 2 rfl) ?_
      refine lv_aload_n hx hb dX12_mend_16 rfl (lv_at hl 0 rfl) ?_
      refine va_get (D := D) (ci := 11) (v := .ref (a 19)) (C := RX12) (T := TX12) (N := 27) hx hb hts inX12_X12_mend hown hK.1 hP 0 rfl rfl 19 (by decide) (hts (.fieldLink RX12 60 "SandPalaceModel" "photo" "[I") (by decide +kernel)) (fun _ h9 => h9) rfl dX12_mend_17 ?_
      refine lv_iload_n hx hb dX12_mend_20 rfl (lv_at hl 2 rfl) ?_
      obtain ⟨v2, i_v2, e_v2, h⟩ := aI_some h
      refine miald hx hb hK.1 hP 16 0 rfl rfl i_v2 e_v2 dX12_mend_21 ?_
      refine lv_bipush (v := ((-5) : Int32)) hx hb dX12_mend_22 (by decide) ?_
      refine lv_icmp_ne (tgt := 35) hx hb dX12_mend_24 (by decide) (fun c3 => ?_) (fun c3 => ?_)
      · have h := it_t c3 h
        refine lv_aload_n hx hb dX12_mend_35 rfl (lv_at hl 0 rfl) ?_
        refine va_get (D := D) (ci := 11) (v := .ref (a 19)) (C := RX12) (T := TX12) (N := 27) hx hb hts inX12_X12_mend hown hK.1 hP 0 rfl rfl 19 (by decide) (hts (.fieldLink RX12 60 "SandPalaceModel" "photo" "[I") (by decide +kernel)) (fun _ h9 => h9) rfl dX12_mend_36 ?_
        refine lv_iload_n hx hb dX12_mend_39 rfl (lv_at hl 2 rfl) ?_
        obtain ⟨v4, i_v4, e_v4, h⟩ := aI_some h
        refine miald hx hb hK.1 hP 16 0 rfl rfl i_v4 e_v4 dX12_mend_40 ?_
        exact wX12_mend_J41 C hK hA r u9 F kb x1 x2 v4 x2 hkb σ _ _ ls hP hD hS (lv_sub hl [0, 1, 2] rfl) h
      · have h := it_n c3 h
        refine lv_aload_n hx hb dX12_mend_27 rfl (lv_at hl 0 rfl) ?_
        refine lv_iload_n hx hb dX12_mend_28 rfl (lv_at hl 2 rfl) ?_
        obtain ⟨v5, hc_v5, h⟩ := bd_some h
        refine mcallS (va_runV (As := [.int x2]) (rest := [.int x2, .ref (a 20)]) ⟨hx, hb, hml, hown, hts⟩ (kX12_backOf l D cs a σ F x2 v5 hc_v5) (cwV 1 hts gX12_mend_X12_backOf rfl rfl rfl (by decide +kernel) ⟨Nat.le_of_ble_eq_true rfl, Nat.le_of_ble_eq_true rfl⟩) (pR_v hP hK (va_recv hK.1 hP (ci := 11) (q0 := 0) rfl rfl)) rfl rfl hl.1 rfl (lv_room (Nat.le_of_ble_eq_true rfl)) dX12_mend_29 ⟨Nat.zero_le _, Nat.zero_le _⟩) ?_
        refine lv_goto (tgt := 41) hx hb dX12_mend_32 (by decide) ?_
        exact wX12_mend_J41 C hK hA r u9 F kb x1 x2 v5 x2 hkb σ _ _ ls hP hD hS (lv_sub hl [0, 1, 2] rfl) h
set_option maxHeartbeats 4000000 in
set_option maxRecDepth 100000 in
theorem wX12_mend_J92 {p : Program} {l : Launch} {e : Env} {s : State} {m : MethodId} {args : Array Value} {below : List Frame} {meth : Method} {c : Code} (C : cxt p s m args meth c cX12_mend 3 RX12 wsX12_mend (some .int)) {D : va_G} {cs : Nat → ClassId} {a : Nat → Nat} (hK : KK D cs s) {A : Nat → Prop} (hA : ∀ q, s.heap.size ≤ q → A q) (r : Int32) (u9 : Nat → Nat → Int32) (F : Nat) (kb : Int32 → Int32 → (Nat → Nat → Int32) → Option (Int32 × (Nat → Nat → Int32))) (x1 : Int32) (x2 : Int32) (hkb : ∀ (x1 : Int32) (x2 : Int32) (σ : Nat → Nat → Int32) (H : Heap) (locs : List Loc) (ls : Array Slot), va_P D vwCl (mW a cs σ) H → va_D A (mW a cs σ) → va_S A s.heap H locs → lv_has ls 3 [(0, .ref (a 0)), (1, .int x1), (2, .int x2)] → kb x1 x2 σ = some (r, u9) → W p l e rmX12_mend s m args below meth c H locs 0 0 (MQ below (va_Qi (fun x y => x = r ∧ y = u9) (qB D (mW a cs) A) A) args s 0 0 A) (F0 m 50 ls [])) (σ : Nat → Nat → Int32) (H : Heap) (locs : List Loc) (ls : Array Slot) (hP : va_P D vwCl (mW a cs σ) H) (hD : va_D A (mW a cs σ)) (hS : va_S A s.heap H locs) (hl : lv_has ls 3 [(0, .ref (a 0)), (1, .int x1), (2, .int x2)]) (h : fX12_mend_J92 F kb x1 x2 σ = some (r, u9)) : W p l e rmX12_mend s m args below meth c H locs 0 0 (MQ below (va_Qi (fun x y => x = r ∧ y = u9) (qB D (mW a cs) A) A) args s 0 0 A) (F0 m 92 ls []) := by
  obtain ⟨hx, hb, hml, hown, hts, hr, hlk⟩ := id C
  unfold fX12_mend_J92 at h
  refine lv_iinc (v := x2 + (1 : Int32)) (lv' := [(2, .int (x2 + (1 : Int32))), (0, .ref (a 0)), (1, .int x1)]) hx hb dX12_mend_92 hl (k := 2) rfl rfl (by decide) rfl (fun ls hl => ?_)
  refine lv_goto (tgt := 50) hx hb dX12_mend_95 (by decide) ?_
  exact hkb x1 (x2 + (1 : Int32)) σ _ _ ls hP hD hS (lv_sub hl [1, 2, 0] rfl) h
set_option maxHeartbeats 4000000 in
set_option maxRecDepth 100000 in
theorem wX12_mend_L50 {p : Program} {l : Launch} {e : Env} {s : State} {m : MethodId} {args : Array Value} {below : List Frame} {meth : Method} {c : Code} (C : cxt p s m args meth c cX12_mend 3 RX12 wsX12_mend (some .int)) {D : va_G} {cs : Nat → ClassId} {a : Nat → Nat} (hK : KK D cs s) {A : Nat → Prop} (hA : ∀ q, s.heap.size ≤ q → A q) (r : Int32) (u9 : Nat → Nat → Int32) (F : Nat) (kx : Int32 → (Nat → Nat → Int32) → Option (Int32 × (Nat → Nat → Int32))) (hkx : ∀ (x1 : Int32) (σ : Nat → Nat → Int32) (H : Heap) (locs : List Loc) (ls : Array Slot), va_P D vwCl (mW a cs σ) H → va_D A (mW a cs σ) → va_S A s.heap H locs → lv_has ls 3 [(1, .int x1)] → kx x1 σ = some (r, u9) → W p l e rmX12_mend s m args below meth c H locs 0 0 (MQ below (va_Qi (fun x y => x = r ∧ y = u9) (qB D (mW a cs) A) A) args s 0 0 A) (F0 m 98 ls [])) : ∀ (n : Nat) (x1 : Int32) (x2 : Int32) (σ : Nat → Nat → Int32) (H : Heap) (locs : List Loc) (ls : Array Slot), va_P D vwCl (mW a cs σ) H → va_D A (mW a cs σ) → va_S A s.heap H locs → lv_has ls 3 [(0, .ref (a 0)), (1, .int x1), (2, .int x2)] → fX12_mend_L50 F kx n x1 x2 σ = some (r, u9) → W p l e rmX12_mend s m args below meth c H locs 0 0 (MQ below (va_Qi (fun x y => x = r ∧ y = u9) (qB D (mW a cs) A) A) args s 0 0 A) (F0 m 50 ls []) := by
  obtain ⟨hx, hb, hml, hown, hts, hr, hlk⟩ := id C
  intro n
  induction n with
  | zero =>
    intros
    rename_i h
    cases h
  | succ n ih =>
    intro x1 x2 σ H locs ls hP hD hS hl h
    rw [fX12_mend_L50] at h
    obtain ⟨kb, hkb, h⟩ := nb_some (P := fun (kb : Int32 → Int32 → (Nat → Nat → Int32) → Option (Int32 × (Nat → Nat → Int32))) => ∀ (x1 : Int32) (x2 : Int32) (σ : Nat → Nat → Int32) (H : Heap) (locs : List Loc) (ls : Array Slot), va_P D vwCl (mW a cs σ) H → va_D A (mW a cs σ) → va_S A s.heap H locs → lv_has ls 3 [(0, .ref (a 0)), (1, .int x1), (2, .int x2)] → kb x1 x2 σ = some (r, u9) → W p l e rmX12_mend s m args below meth c H locs 0 0 (MQ below (va_Qi (fun x y => x = r ∧ y = u9) (qB D (mW a cs) A) A) args s 0 0 A) (F0 m 50 ls [])) h ih
    refine lv_iload_n hx hb dX12_mend_50 rfl (lv_at hl 2 rfl) ?_
    refine lv_sipush (v := (256 : Int32)) hx hb dX12_mend_51 (by decide) ?_
    refine lv_icmp_ge (tgt := 98) hx hb dX12_mend_54 (by decide) (fun c2 => ?_) (fun c2 => ?_)
    · have h := it_t c2 h
      exact hkx x1 σ _ _ ls hP hD hS (lv_sub hl [1] rfl) h
    · have h := it_f c2 h
      refine lv_aload_n hx hb dX12_mend_57 rfl (lv_at hl 0 rfl) ?_
      refine va_get (D := D) (ci := 11) (v := .ref (a 19)) (C := RX12) (T := TX12) (N := 27) hx hb hts inX12_X12_mend hown hK.1 hP 0 rfl rfl 19 (by decide) (hts (.fieldLink RX12 60 "SandPalaceModel" "photo" "[I") (by decide +kernel)) (fun _ h9 => h9) rfl dX12_mend_58 ?_
      refine lv_iload_n hx hb dX12_mend_61 rfl (lv_at hl 2 rfl) ?_
      obtain ⟨v3, i_v3, e_v3, h⟩ := aI_some h
      refine miald hx hb hK.1 hP 16 0 rfl rfl i_v3 e_v3 dX12_mend_62 ?_
      refine lv_bipush (v := ((-5) : Int32)) hx hb dX12_mend_63 (by decide) ?_
      refine lv_icmp_ne (tgt := 92) hx hb dX12_mend_65 (by decide) (fun c4 => ?_) (fun c4 => ?_)
      · have h := it_t c4 h
        exact wX12_mend_J92 C hK hA r u9 F kb x1 x2 hkb σ _ _ ls hP hD hS (lv_sub hl [0, 1, 2] rfl) h
      · have h := it_n c4 h
        refine lv_aload_n hx hb dX12_mend_68 rfl (lv_at hl 0 rfl) ?_
        refine va_get (D := D) (ci := 11) (v := .ref (a 20)) (C := RX12) (T := TX12) (N := 27) hx hb hts inX12_X12_mend hown hK.1 hP 0 rfl rfl 20 (by decide) (hts (.fieldLink RX12 63 "SandPalaceModel" "mended" "[I") (by decide +kernel)) (fun _ h9 => h9) rfl dX12_mend_69 ?_
        refine lv_iload_n hx hb dX12_mend_72 rfl (lv_at hl 2 rfl) ?_
        obtain ⟨v5, i_v5, e_v5, h⟩ := aI_some h
        refine miald hx hb hK.1 hP 17 0 rfl rfl i_v5 e_v5 dX12_mend_73 ?_
        refine lv_if_lt (tgt := 92) hx hb dX12_mend_74 (by decide) (fun c6 => ?_) (fun c6 => ?_)
        · have h := it_t c6 h
          exact wX12_mend_J92 C hK hA r u9 F kb x1 x2 hkb σ _ _ ls hP hD hS (lv_sub hl [0, 1, 2] rfl) h
        · have h := it_f c6 h
          refine lv_aload_n hx hb dX12_mend_77 rfl (lv_at hl 0 rfl) ?_
          refine va_get (D := D) (ci := 11) (v := .ref (a 19)) (C := RX12) (T := TX12) (N := 27) hx hb hts inX12_X12_mend hown hK.1 hP 0 rfl rfl 19 (by decide) (hts (.fieldLink RX12 60 "SandPalaceModel" "photo" "[I") (by decide +kernel)) (fun _ h9 => h9) rfl dX12_mend_78 ?_
          refine lv_iload_n hx hb dX12_mend_81 rfl (lv_at hl 2 rfl) ?_
          refine lv_aload_n hx hb dX12_mend_82 rfl (lv_at hl 0 rfl) ?_
          refine va_get (D := D) (ci := 11) (v := .ref (a 20)) (C := RX12) (T := TX12) (N := 27) hx hb hts inX12_X12_mend hown hK.1 hP 0 rfl rfl 20 (by decide) (hts (.fieldLink RX12 63 "SandPalaceModel" "mended" "[I") (by decide +kernel)) (fun _ h9 => h9) rfl dX12_mend_83 ?_
          refine lv_iload_n hx hb dX12_mend_86 rfl (lv_at hl 2 rfl) ?_
          obtain ⟨v7, i_v7, e_v7, h⟩ := aI_some h
          refine miald hx hb hK.1 hP 17 0 rfl rfl i_v7 e_v7 dX12_mend_87 ?_
          obtain ⟨i8, h⟩ := aS_some h
          refine va_iast hx hb hK.1 hP hD hS 16 0 rfl rfl i8 dX12_mend_88 (fun H locs hP hD hS => ?_)
          obtain ⟨σ9, e_σ9, h⟩ := nm_some h
          have hP : va_P D vwCl (mW a cs σ9) H := by rw [← e_σ9]; exact hP
          have hD : va_D A (mW a cs σ9) := by rw [← e_σ9]; exact hD
          refine lv_iinc (v := x1 + (1 : Int32)) (lv' := [(1, .int (x1 + (1 : Int32))), (0, .ref (a 0)), (2, .int x2)]) hx hb dX12_mend_89 hl (k := 1) rfl rfl (by decide) rfl (fun ls hl => ?_)
          exact wX12_mend_J92 C hK hA r u9 F kb (x1 + (1 : Int32)) x2 hkb σ9 _ _ ls hP hD hS (lv_sub hl [1, 0, 2] rfl) h
set_option maxHeartbeats 4000000 in
set_option maxRecDepth 100000 in
theorem kX12_mend (l : Launch) (D : va_G) (cs : Nat → ClassId) (a : Nat → Nat) (σ : Nat → Nat → Int32) (F : Nat)  (r : Int32) (u9 : Nat → Nat → Int32) (h : fX12_mend F σ = some (r, u9)) (sz : Nat) : Met l yX12_mend wsX12_mend rmX12_mend (va_Pc [.ref (a 0)] (pQ D cs (mW a cs σ) sz)) (va_Qi (fun x y => x = r ∧ y = u9) (qB D (mW a cs) (va_A (mW a cs σ) sz)) (va_A (mW a cs σ) sz)) 0 0 (va_A (mW a cs σ) sz) := by
  refine Met.ofW (cc := cX12_mend) (maxL := 3) (ret := (some .int)) (by decide) rfl ?_
  intro p e s m args below meth c s₁ B hml hv
  obtain ⟨rfl, hsz, hP, hK, hD0⟩ := hv
  have C : cxt p s m _ meth c cX12_mend 3 RX12 wsX12_mend (some .int) := ⟨B.exec, B.bytes, hml, findClass_of_methodNamed B.named, atoms_spec (ws := wsX12_mend) B.pre, B.returns, B.notSynchronized⟩
  obtain ⟨hx, hb, -, hown, hts, hr, hlk⟩ := id C
  subst hsz
  have hD := hD0.self (sz := s.heap.size)
  generalize hAe : va_A (mW a cs σ) s.heap.size = A at hD ⊢
  have hA : ∀ q : Nat, s.heap.size ≤ q → A q := fun q h => by rw [← hAe]; exact Or.inr h
  have hS : va_S A s.heap s.heap [] := va_S.rf
  refine entryW [.ref (a 0)] (n := 3) (Nat.le_of_ble_eq_true rfl) (fun ls hl => ?_)
  have hl : lv_has ls 3 [(0, .ref (a 0))] := hl
  unfold fX12_mend at h
  refine lv_iconst (v := (0 : Int32)) hx hb dX12_mend_0 (by decide) ?_
  refine lv_istore_n (lv' := [(1, .int (0 : Int32)), (0, .ref (a 0))]) hx hb dX12_mend_1 rfl hl (by decide) rfl (fun ls hl => ?_)
  refine lv_iconst (v := (0 : Int32)) hx hb dX12_mend_2 (by decide) ?_
  refine lv_istore_n (lv' := [(2, .int (0 : Int32)), (1, .int (0 : Int32)), (0, .ref (a 0))]) hx hb dX12_mend_3 rfl hl (by decide) rfl (fun ls hl => ?_)
  refine wX12_mend_L4 C hK hA r u9 F (0 : Int32) _ ?_ F (0 : Int32) σ _ _ ls hP hD hS (lv_sub hl [2, 1, 0] rfl) h
  intro σ1 H locs ls hP hD hS hl h
  refine lv_iconst (v := (0 : Int32)) hx hb dX12_mend_48 (by decide) ?_
  refine lv_istore_n (lv' := [(2, .int (0 : Int32)), (0, .ref (a 0)), (1, .int (0 : Int32))]) hx hb dX12_mend_49 rfl hl (by decide) rfl (fun ls hl => ?_)
  refine wX12_mend_L50 C hK hA r u9 F  _ ?_ F (0 : Int32) (0 : Int32) σ1 _ _ ls hP hD hS (lv_sub hl [1, 2, 0] rfl) h
  intro y2 σ3 H locs ls hP hD hS hl h
  refine lv_iload_n hx hb dX12_mend_98 rfl (lv_at hl 0 rfl) ?_
  exact mretQ hx hb hr hlk h hP hD hS dX12_mend_99
def fX12_harm_J127 (F : Nat) (kb : Int32 → Int32 → Option Int32) (x1 : Int32) (x3 : Int32) (t0 : Int32) (t1 : Int32) (σ : Nat → Nat → Int32) : Option Int32 :=
  kb (t1 + t0) (x3 + (1 : Int32))
def fX12_harm_J114 (F : Nat) (kb : Int32 → Int32 → Option Int32) (x1 : Int32) (x2 : Int32) (x3 : Int32) (t0 : Int32) (σ : Nat → Nat → Int32) : Option Int32 :=
  if t0 = 0 then (fX12_harm_J127 F kb x1 x3 (0 : Int32) x2 σ) else (fX12_harm_J127 F kb x1 x3 (1 : Int32) x2 σ)
def fX12_harm_J113 (F : Nat) (kb : Int32 → Int32 → Option Int32) (x1 : Int32) (x2 : Int32) (x3 : Int32) (σ : Nat → Nat → Int32) : Option Int32 :=
  fX12_harm_J114 F kb x1 x2 x3 (0 : Int32) σ
def fX12_harm_J106 (F : Nat) (kb : Int32 → Int32 → Option Int32) (x1 : Int32) (x2 : Int32) (x3 : Int32) (t0 : Int32) (t1 : Int32) (σ : Nat → Nat → Int32) : Option Int32 :=
  if ¬ t1 = t0 then (fX12_harm_J113 F kb x1 x2 x3 σ) else (fX12_harm_J114 F kb x1 x2 x3 (1 : Int32) σ)
def fX12_harm_J80 (F : Nat) (kb : Int32 → Int32 → Option Int32) (x1 : Int32) (x2 : Int32) (x3 : Int32) (σ : Nat → Nat → Int32) : Option Int32 :=
  fX12_harm_J114 F kb x1 x2 x3 (0 : Int32) σ
def fX12_harm_J41 (F : Nat) (kb : Int32 → Int32 → Option Int32) (x1 : Int32) (x2 : Int32) (x3 : Int32) (t0 : Int32) (σ : Nat → Nat → Int32) : Option Int32 :=
  if ¬ x1 = 0 then (if ¬ x1 = (1 : Int32) then (if t0 = 0 then (fX12_harm_J113 F kb x1 x2 x3 σ) else (bd (fX12_backOf F σ x3) fun v9 => if ¬ x1 = (2 : Int32) then (fX12_harm_J106 F kb x1 x2 x3 ((-6) : Int32) v9 σ) else (fX12_harm_J106 F kb x1 x2 x3 ((-5) : Int32) v9 σ))) else (if ¬ t0 = 0 then (fX12_harm_J80 F kb x1 x2 x3 σ) else (aI (σ 19) 256 x3 fun v12 => bd (fX12_lookOf F σ x3) fun v13 => if v12 = v13 then (fX12_harm_J80 F kb x1 x2 x3 σ) else (fX12_harm_J114 F kb x1 x2 x3 (1 : Int32) σ)))) else (fX12_harm_J114 F kb x1 x2 x3 t0 σ)
def fX12_harm_L18 (F : Nat) (σ : Nat → Nat → Int32) (x1 : Int32) (kx : Int32 → Option Int32) : Nat → Int32 → Int32 → Option Int32
  | 0, _, _ => none
  | n+1, x2, x3 =>
    nb ((fun x2 x3 => fX12_harm_L18 F σ x1 kx n x2 x3)) fun kb =>
    if (256 : Int32) ≤ x3 then (kx x2) else (aI (σ 19) 256 x3 fun v4 => if ¬ v4 = ((-5) : Int32) then (fX12_harm_J41 F kb x1 x2 x3 (0 : Int32) σ) else (fX12_harm_J41 F kb x1 x2 x3 (1 : Int32) σ))
def fX12_harm (F : Nat) (σ : Nat → Nat → Int32) (x1 : Int32) : Option Int32 :=
  bd (fX12_in x1.toInt64 (0 : Int64) (3 : Int64)) fun v1 => if ¬ v1 = 0 then (fX12_harm_L18 F σ x1 (fun y3 => some y3) F (0 : Int32) (0 : Int32)) else (some ((-1) : Int32))
abbrev rmX12_harm : Room := { frames := 3, cells := 0, slots := 0, locals := 72 }
theorem inX12_X12_harm : ∀ w ∈ wsX120, w ∈ wsX12_harm := by intro w h; simp only [wsX12_harm, List.mem_cons, List.mem_append]; simp only [h, true_or, or_true]
set_option maxHeartbeats 4000000 in
set_option maxRecDepth 100000 in
theorem wX12_harm_J127 {p : Program} {l : Launch} {e : Env} {s : State} {m : MethodId} {args : Array Value} {below : List Frame} {meth : Method} {c : Code} (C : cxt p s m args meth c cX12_harm 6 RX12 wsX12_harm (some .int)) {D : va_G} {cs : Nat → ClassId} {a : Nat → Nat} (hK : KK D cs s) {σ : Nat → Nat → Int32} (hP : va_P D vwCl (mW a cs σ) s.heap) (r : Int32) (F : Nat) (kb : Int32 → Int32 → Option Int32) (x1 : Int32) (x3 : Int32) (t0 : Int32) (t1 : Int32) (hkb : ∀ (x2 : Int32) (x3 : Int32) (ls : Array Slot), lv_has ls 6 [(0, .ref (a 0)), (1, .int x1), (2, .int x2), (3, .int x3)] → kb x2 x3 = some r → W p l e rmX12_harm s m args below meth c s.heap [] 0 0 (MQ below (vp_Si (fun x => x = r)) args s 0 0 (fun _ => False)) (F0 m 18 ls [])) (ls : Array Slot) (hl : lv_has ls 6 [(0, .ref (a 0)), (1, .int x1), (3, .int x3)]) (h : fX12_harm_J127 F kb x1 x3 t0 t1 σ = some r) : W p l e rmX12_harm s m args below meth c s.heap [] 0 0 (MQ below (vp_Si (fun x => x = r)) args s 0 0 (fun _ => False)) (F0 m 127 ls [.int t0, .int t1]) := by
  obtain ⟨hx, hb, hml, hown, hts, hr, hlk⟩ := id C
  unfold fX12_harm_J127 at h
  refine lv_iadd hx hb dX12_harm_127 ?_
  refine lv_istore_n (lv' := [(2, .int (t1 + t0)), (0, .ref (a 0)), (1, .int x1), (3, .int x3)]) hx hb dX12_harm_128 rfl hl (by decide) rfl (fun ls hl => ?_)
  refine lv_iinc (v := x3 + (1 : Int32)) (lv' := [(3, .int (x3 + (1 : Int32))), (2, .int (t1 + t0)), (0, .ref (a 0)), (1, .int x1)]) hx hb dX12_harm_129 hl (k := 3) rfl rfl (by decide) rfl (fun ls hl => ?_)
  refine lv_goto (tgt := 18) hx hb dX12_harm_132 (by decide) ?_
  exact hkb (t1 + t0) (x3 + (1 : Int32)) ls (lv_sub hl [2, 3, 1, 0] rfl) h
set_option maxHeartbeats 4000000 in
set_option maxRecDepth 100000 in
theorem wX12_harm_J114 {p : Program} {l : Launch} {e : Env} {s : State} {m : MethodId} {args : Array Value} {below : List Frame} {meth : Method} {c : Code} (C : cxt p s m args meth c cX12_harm 6 RX12 wsX12_harm (some .int)) {D : va_G} {cs : Nat → ClassId} {a : Nat → Nat} (hK : KK D cs s) {σ : Nat → Nat → Int32} (hP : va_P D vwCl (mW a cs σ) s.heap) (r : Int32) (F : Nat) (kb : Int32 → Int32 → Option Int32) (x1 : Int32) (x2 : Int32) (x3 : Int32) (t0 : Int32) (hkb : ∀ (x2 : Int32) (x3 : Int32) (ls : Array Slot), lv_has ls 6 [(0, .ref (a 0)), (1, .int x1), (2, .int x2), (3, .int x3)] → kb x2 x3 = some r → W p l e rmX12_harm s m args below meth c s.heap [] 0 0 (MQ below (vp_Si (fun x => x = r)) args s 0 0 (fun _ => False)) (F0 m 18 ls [])) (ls : Array Slot) (hl : lv_has ls 6 [(0, .ref (a 0)), (1, .int x1), (2, .int x2), (3, .int x3)]) (h : fX12_harm_J114 F kb x1 x2 x3 t0 σ = some r) : W p l e rmX12_harm s m args below meth c s.heap [] 0 0 (MQ below (vp_Si (fun x => x = r)) args s 0 0 (fun _ => False)) (F0 m 114 ls [.int t0]) := by
  obtain ⟨hx, hb, hml, hown, hts, hr, hlk⟩ := id C
  unfold fX12_harm_J114 at h
  refine lv_istore (lv' := [(5, .int t0), (0, .ref (a 0)), (1, .int x1), (2, .int x2), (3, .int x3)]) hx hb dX12_harm_114 hl (by decide) rfl (fun ls hl => ?_)
  refine lv_iload_n hx hb dX12_harm_116 rfl (lv_at hl 3 rfl) ?_
  refine lv_iload hx hb dX12_harm_117 (lv_at hl 0 rfl) ?_
  refine lv_if_eq (tgt := 126) hx hb dX12_harm_119 (by decide) (fun c9 => ?_) (fun c9 => ?_)
  · have h := it_t c9 h
    refine lv_iconst (v := (0 : Int32)) hx hb dX12_harm_126 (by decide) ?_
    exact wX12_harm_J127 C hK hP r F kb x1 x3 (0 : Int32) x2 hkb ls (lv_sub hl [1, 2, 4] rfl) h
  · have h := it_f c9 h
    refine lv_iconst (v := (1 : Int32)) hx hb dX12_harm_122 (by decide) ?_
    refine lv_goto (tgt := 127) hx hb dX12_harm_123 (by decide) ?_
    exact wX12_harm_J127 C hK hP r F kb x1 x3 (1 : Int32) x2 hkb ls (lv_sub hl [1, 2, 4] rfl) h
set_option maxHeartbeats 4000000 in
set_option maxRecDepth 100000 in
theorem wX12_harm_J113 {p : Program} {l : Launch} {e : Env} {s : State} {m : MethodId} {args : Array Value} {below : List Frame} {meth : Method} {c : Code} (C : cxt p s m args meth c cX12_harm 6 RX12 wsX12_harm (some .int)) {D : va_G} {cs : Nat → ClassId} {a : Nat → Nat} (hK : KK D cs s) {σ : Nat → Nat → Int32} (hP : va_P D vwCl (mW a cs σ) s.heap) (r : Int32) (F : Nat) (kb : Int32 → Int32 → Option Int32) (x1 : Int32) (x2 : Int32) (x3 : Int32) (hkb : ∀ (x2 : Int32) (x3 : Int32) (ls : Array Slot), lv_has ls 6 [(0, .ref (a 0)), (1, .int x1), (2, .int x2), (3, .int x3)] → kb x2 x3 = some r → W p l e rmX12_harm s m args below meth c s.heap [] 0 0 (MQ below (vp_Si (fun x => x = r)) args s 0 0 (fun _ => False)) (F0 m 18 ls [])) (ls : Array Slot) (hl : lv_has ls 6 [(0, .ref (a 0)), (1, .int x1), (2, .int x2), (3, .int x3)]) (h : fX12_harm_J113 F kb x1 x2 x3 σ = some r) : W p l e rmX12_harm s m args below meth c s.heap [] 0 0 (MQ below (vp_Si (fun x => x = r)) args s 0 0 (fun _ => False)) (F0 m 113 ls []) := by
  obtain ⟨hx, hb, hml, hown, hts, hr, hlk⟩ := id C
  unfold fX12_harm_J113 at h
  refine lv_iconst (v := (0 : Int32)) hx hb dX12_harm_113 (by decide) ?_
  exact wX12_harm_J114 C hK hP r F kb x1 x2 x3 (0 : Int32) hkb ls (lv_sub hl [0, 1, 2, 3] rfl) h
set_option maxHeartbeats 4000000 in
set_option maxRecDepth 100000 in
theorem wX12_harm_J106 {p : Program} {l : Launch} {e : Env} {s : State} {m : MethodId} {args : Array Value} {below : List Frame} {meth : Method} {c : Code} (C : cxt p s m args meth c cX12_harm 6 RX12 wsX12_harm (some .int)) {D : va_G} {cs : Nat → ClassId} {a : Nat → Nat} (hK : KK D cs s) {σ : Nat → Nat → Int32} (hP : va_P D vwCl (mW a cs σ) s.heap) (r : Int32) (F : Nat) (kb : Int32 → Int32 → Option Int32) (x1 : Int32) (x2 : Int32) (x3 : Int32) (t0 : Int32) (t1 : Int32) (hkb : ∀ (x2 : Int32) (x3 : Int32) (ls : Array Slot), lv_has ls 6 [(0, .ref (a 0)), (1, .int x1), (2, .int x2), (3, .int x3)] → kb x2 x3 = some r → W p l e rmX12_harm s m args below meth c s.heap [] 0 0 (MQ below (vp_Si (fun x => x = r)) args s 0 0 (fun _ => False)) (F0 m 18 ls [])) (ls : Array Slot) (hl : lv_has ls 6 [(0, .ref (a 0)), (1, .int x1), (2, .int x2), (3, .int x3)]) (h : fX12_harm_J106 F kb x1 x2 x3 t0 t1 σ = some r) : W p l e rmX12_harm s m args below meth c s.heap [] 0 0 (MQ below (vp_Si (fun x => x = r)) args s 0 0 (fun _ => False)) (F0 m 106 ls [.int t0, .int t1]) := by
  obtain ⟨hx, hb, hml, hown, hts, hr, hlk⟩ := id C
  unfold fX12_harm_J106 at h
  refine lv_icmp_ne (tgt := 113) hx hb dX12_harm_106 (by decide) (fun c11 => ?_) (fun c11 => ?_)
  · have h := it_t c11 h
    exact wX12_harm_J113 C hK hP r F kb x1 x2 x3 hkb ls (lv_sub hl [0, 1, 2, 3] rfl) h
  · have h := it_n c11 h
    refine lv_iconst (v := (1 : Int32)) hx hb dX12_harm_109 (by decide) ?_
    refine lv_goto (tgt := 114) hx hb dX12_harm_110 (by decide) ?_
    exact wX12_harm_J114 C hK hP r F kb x1 x2 x3 (1 : Int32) hkb ls (lv_sub hl [0, 1, 2, 3] rfl) h
set_option maxHeartbeats 4000000 in
set_option maxRecDepth 100000 in
theorem wX12_harm_J80 {p : Program} {l : Launch} {e : Env} {s : State} {m : MethodId} {args : Array Value} {below : List Frame} {meth : Method} {c : Code} (C : cxt p s m args meth c cX12_harm 6 RX12 wsX12_harm (some .int)) {D : va_G} {cs : Nat → ClassId} {a : Nat → Nat} (hK : KK D cs s) {σ : Nat → Nat → Int32} (hP : va_P D vwCl (mW a cs σ) s.heap) (r : Int32) (F : Nat) (kb : Int32 → Int32 → Option Int32) (x1 : Int32) (x2 : Int32) (x3 : Int32) (hkb : ∀ (x2 : Int32) (x3 : Int32) (ls : Array Slot), lv_has ls 6 [(0, .ref (a 0)), (1, .int x1), (2, .int x2), (3, .int x3)] → kb x2 x3 = some r → W p l e rmX12_harm s m args below meth c s.heap [] 0 0 (MQ below (vp_Si (fun x => x = r)) args s 0 0 (fun _ => False)) (F0 m 18 ls [])) (ls : Array Slot) (hl : lv_has ls 6 [(0, .ref (a 0)), (1, .int x1), (2, .int x2), (3, .int x3)]) (h : fX12_harm_J80 F kb x1 x2 x3 σ = some r) : W p l e rmX12_harm s m args below meth c s.heap [] 0 0 (MQ below (vp_Si (fun x => x = r)) args s 0 0 (fun _ => False)) (F0 m 80 ls []) := by
  obtain ⟨hx, hb, hml, hown, hts, hr, hlk⟩ := id C
  unfold fX12_harm_J80 at h
  refine lv_iconst (v := (0 : Int32)) hx hb dX12_harm_80 (by decide) ?_
  refine lv_goto (tgt := 114) hx hb dX12_harm_81 (by decide) ?_
  exact wX12_harm_J114 C hK hP r F kb x1 x2 x3 (0 : Int32) hkb ls (lv_sub hl [0, 1, 2, 3] rfl) h
set_option maxHeartbeats 4000000 in
set_option maxRecDepth 100000 in
theorem wX12_harm_J41 {p : Program} {l : Launch} {e : Env} {s : State} {m : MethodId} {args : Array Value} {below : List Frame} {meth : Method} {c : Code} (C : cxt p s m args meth c cX12_harm 6 RX12 wsX12_harm (some .int)) {D : va_G} {cs : Nat → ClassId} {a : Nat → Nat} (hK : KK D cs s) {σ : Nat → Nat → Int32} (hP : va_P D vwCl (mW a cs σ) s.heap) (r : Int32) (F : Nat) (kb : Int32 → Int32 → Option Int32) (x1 : Int32) (x2 : Int32) (x3 : Int32) (t0 : Int32) (hkb : ∀ (x2 : Int32) (x3 : Int32) (ls : Array Slot), lv_has ls 6 [(0, .ref (a 0)), (1, .int x1), (2, .int x2), (3, .int x3)] → kb x2 x3 = some r → W p l e rmX12_harm s m args below meth c s.heap [] 0 0 (MQ below (vp_Si (fun x => x = r)) args s 0 0 (fun _ => False)) (F0 m 18 ls [])) (ls : Array Slot) (hl : lv_has ls 6 [(0, .ref (a 0)), (1, .int x1), (2, .int x2), (3, .int x3)]) (h : fX12_harm_J41 F kb x1 x2 x3 t0 σ = some r) : W p l e rmX12_harm s m args below meth c s.heap [] 0 0 (MQ below (vp_Si (fun x => x = r)) args s 0 0 (fun _ => False)) (F0 m 41 ls [.int t0]) := by
  obtain ⟨hx, hb, hml, hown, hts, hr, hlk⟩ := id C
  unfold fX12_harm_J41 at h
  refine lv_istore (lv' := [(4, .int t0), (0, .ref (a 0)), (1, .int x1), (2, .int x2), (3, .int x3)]) hx hb dX12_harm_41 hl (by decide) rfl (fun ls hl => ?_)
  refine lv_iload_n hx hb dX12_harm_43 rfl (lv_at hl 2 rfl) ?_
  refine lv_if_ne (tgt := 52) hx hb dX12_harm_44 (by decide) (fun c6 => ?_) (fun c6 => ?_)
  · have h := it_t c6 h
    refine lv_iload_n hx hb dX12_harm_52 rfl (lv_at hl 2 rfl) ?_
    refine lv_iconst (v := (1 : Int32)) hx hb dX12_harm_53 (by decide) ?_
    refine lv_icmp_ne (tgt := 84) hx hb dX12_harm_54 (by decide) (fun c7 => ?_) (fun c7 => ?_)
    · have h := it_t c7 h
      refine lv_iload hx hb dX12_harm_84 (lv_at hl 0 rfl) ?_
      refine lv_if_eq (tgt := 113) hx hb dX12_harm_86 (by decide) (fun c8 => ?_) (fun c8 => ?_)
      · have h := it_t c8 h
        exact wX12_harm_J113 C hK hP r F kb x1 x2 x3 hkb ls (lv_sub hl [1, 2, 3, 4] rfl) h
      · have h := it_f c8 h
        refine lv_aload_n hx hb dX12_harm_89 rfl (lv_at hl 1 rfl) ?_
        refine lv_iload_n hx hb dX12_harm_90 rfl (lv_at hl 4 rfl) ?_
        obtain ⟨v9, hc_v9, h⟩ := bd_some h
        refine mcallS (va_runV (As := [.int x3]) (rest := []) ⟨hx, hb, hml, hown, hts⟩ (kX12_backOf l D cs a σ F x3 v9 hc_v9) (cwV 1 hts gX12_harm_X12_backOf rfl rfl rfl (by decide +kernel) ⟨Nat.le_of_ble_eq_true rfl, Nat.le_of_ble_eq_true rfl⟩) (pR_v hP hK (va_recv hK.1 hP (ci := 11) (q0 := 0) rfl rfl)) rfl rfl hl.1 rfl (lv_room (Nat.le_of_ble_eq_true rfl)) dX12_harm_91 ⟨Nat.zero_le _, Nat.zero_le _⟩) ?_
        refine lv_iload_n hx hb dX12_harm_94 rfl (lv_at hl 2 rfl) ?_
        refine lv_iconst (v := (2 : Int32)) hx hb dX12_harm_95 (by decide) ?_
        refine lv_icmp_ne (tgt := 104) hx hb dX12_harm_96 (by decide) (fun c10 => ?_) (fun c10 => ?_)
        · have h := it_t c10 h
          refine lv_bipush (v := ((-6) : Int32)) hx hb dX12_harm_104 (by decide) ?_
          exact wX12_harm_J106 C hK hP r F kb x1 x2 x3 ((-6) : Int32) v9 hkb ls (lv_sub hl [1, 2, 3, 4] rfl) h
        · have h := it_n c10 h
          refine lv_bipush (v := ((-5) : Int32)) hx hb dX12_harm_99 (by decide) ?_
          refine lv_goto (tgt := 106) hx hb dX12_harm_101 (by decide) ?_
          exact wX12_harm_J106 C hK hP r F kb x1 x2 x3 ((-5) : Int32) v9 hkb ls (lv_sub hl [1, 2, 3, 4] rfl) h
    · have h := it_n c7 h
      refine lv_iload hx hb dX12_harm_57 (lv_at hl 0 rfl) ?_
      refine lv_if_ne (tgt := 80) hx hb dX12_harm_59 (by decide) (fun c11 => ?_) (fun c11 => ?_)
      · have h := it_t c11 h
        exact wX12_harm_J80 C hK hP r F kb x1 x2 x3 hkb ls (lv_sub hl [1, 2, 3, 4] rfl) h
      · have h := it_n c11 h
        refine lv_aload_n hx hb dX12_harm_62 rfl (lv_at hl 1 rfl) ?_
        refine va_get (D := D) (ci := 11) (v := .ref (a 19)) (C := RX12) (T := TX12) (N := 27) hx hb hts inX12_X12_harm hown hK.1 hP 0 rfl rfl 19 (by decide) (hts (.fieldLink RX12 60 "SandPalaceModel" "photo" "[I") (by decide +kernel)) (fun _ h9 => h9) rfl dX12_harm_63 ?_
        refine lv_iload_n hx hb dX12_harm_66 rfl (lv_at hl 4 rfl) ?_
        obtain ⟨v12, i_v12, e_v12, h⟩ := aI_some h
        refine miald hx hb hK.1 hP 16 0 rfl rfl i_v12 e_v12 dX12_harm_67 ?_
        refine lv_aload_n hx hb dX12_harm_68 rfl (lv_at hl 1 rfl) ?_
        refine lv_iload_n hx hb dX12_harm_69 rfl (lv_at hl 4 rfl) ?_
        obtain ⟨v13, hc_v13, h⟩ := bd_some h
        refine mcallS (va_runV (As := [.int x3]) (rest := [.int v12]) ⟨hx, hb, hml, hown, hts⟩ (kX12_lookOf l D cs a σ F x3 v13 hc_v13) (cwV 1 hts gX12_harm_X12_lookOf rfl rfl rfl (by decide +kernel) ⟨Nat.le_of_ble_eq_true rfl, Nat.le_of_ble_eq_true rfl⟩) (pR_v hP hK (va_recv hK.1 hP (ci := 11) (q0 := 0) rfl rfl)) rfl rfl hl.1 rfl (lv_room (Nat.le_of_ble_eq_true rfl)) dX12_harm_70 ⟨Nat.zero_le _, Nat.zero_le _⟩) ?_
        refine lv_icmp_eq (tgt := 80) hx hb dX12_harm_73 (by decide) (fun c14 => ?_) (fun c14 => ?_)
        · have h := it_t c14 h
          exact wX12_harm_J80 C hK hP r F kb x1 x2 x3 hkb ls (lv_sub hl [1, 2, 3, 4] rfl) h
        · have h := it_f c14 h
          refine lv_iconst (v := (1 : Int32)) hx hb dX12_harm_76 (by decide) ?_
          refine lv_goto (tgt := 114) hx hb dX12_harm_77 (by decide) ?_
          exact wX12_harm_J114 C hK hP r F kb x1 x2 x3 (1 : Int32) hkb ls (lv_sub hl [1, 2, 3, 4] rfl) h
  · have h := it_n c6 h
    refine lv_iload hx hb dX12_harm_47 (lv_at hl 0 rfl) ?_
    refine lv_goto (tgt := 114) hx hb dX12_harm_49 (by decide) ?_
    exact wX12_harm_J114 C hK hP r F kb x1 x2 x3 t0 hkb ls (lv_sub hl [1, 2, 3, 4] rfl) h
set_option maxHeartbeats 4000000 in
set_option maxRecDepth 100000 in
theorem wX12_harm_L18 {p : Program} {l : Launch} {e : Env} {s : State} {m : MethodId} {args : Array Value} {below : List Frame} {meth : Method} {c : Code} (C : cxt p s m args meth c cX12_harm 6 RX12 wsX12_harm (some .int)) {D : va_G} {cs : Nat → ClassId} {a : Nat → Nat} (hK : KK D cs s) {σ : Nat → Nat → Int32} (hP : va_P D vwCl (mW a cs σ) s.heap) (r : Int32) (F : Nat) (x1 : Int32) (kx : Int32 → Option Int32) (hkx : ∀ (x2 : Int32) (ls : Array Slot), lv_has ls 6 [(2, .int x2)] → kx x2 = some r → W p l e rmX12_harm s m args below meth c s.heap [] 0 0 (MQ below (vp_Si (fun x => x = r)) args s 0 0 (fun _ => False)) (F0 m 135 ls [])) : ∀ (n : Nat) (x2 : Int32) (x3 : Int32) (ls : Array Slot), lv_has ls 6 [(0, .ref (a 0)), (1, .int x1), (2, .int x2), (3, .int x3)] → fX12_harm_L18 F σ x1 kx n x2 x3 = some r → W p l e rmX12_harm s m args below meth c s.heap [] 0 0 (MQ below (vp_Si (fun x => x = r)) args s 0 0 (fun _ => False)) (F0 m 18 ls []) := by
  obtain ⟨hx, hb, hml, hown, hts, hr, hlk⟩ := id C
  intro n
  induction n with
  | zero =>
    intros
    rename_i h
    cases h
  | succ n ih =>
    intro x2 x3 ls hl h
    rw [fX12_harm_L18] at h
    obtain ⟨kb, hkb, h⟩ := nb_some (P := fun (kb : Int32 → Int32 → Option Int32) => ∀ (x2 : Int32) (x3 : Int32) (ls : Array Slot), lv_has ls 6 [(0, .ref (a 0)), (1, .int x1), (2, .int x2), (3, .int x3)] → kb x2 x3 = some r → W p l e rmX12_harm s m args below meth c s.heap [] 0 0 (MQ below (vp_Si (fun x => x = r)) args s 0 0 (fun _ => False)) (F0 m 18 ls [])) h ih
    refine lv_iload_n hx hb dX12_harm_18 rfl (lv_at hl 3 rfl) ?_
    refine lv_sipush (v := (256 : Int32)) hx hb dX12_harm_19 (by decide) ?_
    refine lv_icmp_ge (tgt := 135) hx hb dX12_harm_22 (by decide) (fun c3 => ?_) (fun c3 => ?_)
    · have h := it_t c3 h
      exact hkx x2 ls (lv_sub hl [2] rfl) h
    · have h := it_f c3 h
      refine lv_aload_n hx hb dX12_harm_25 rfl (lv_at hl 0 rfl) ?_
      refine va_get (D := D) (ci := 11) (v := .ref (a 19)) (C := RX12) (T := TX12) (N := 27) hx hb hts inX12_X12_harm hown hK.1 hP 0 rfl rfl 19 (by decide) (hts (.fieldLink RX12 60 "SandPalaceModel" "photo" "[I") (by decide +kernel)) (fun _ h9 => h9) rfl dX12_harm_26 ?_
      refine lv_iload_n hx hb dX12_harm_29 rfl (lv_at hl 3 rfl) ?_
      obtain ⟨v4, i_v4, e_v4, h⟩ := aI_some h
      refine miald hx hb hK.1 hP 16 0 rfl rfl i_v4 e_v4 dX12_harm_30 ?_
      refine lv_bipush (v := ((-5) : Int32)) hx hb dX12_harm_31 (by decide) ?_
      refine lv_icmp_ne (tgt := 40) hx hb dX12_harm_33 (by decide) (fun c5 => ?_) (fun c5 => ?_)
      · have h := it_t c5 h
        refine lv_iconst (v := (0 : Int32)) hx hb dX12_harm_40 (by decide) ?_
        exact wX12_harm_J41 C hK hP r F kb x1 x2 x3 (0 : Int32) hkb ls (lv_sub hl [0, 1, 2, 3] rfl) h
      · have h := it_n c5 h
        refine lv_iconst (v := (1 : Int32)) hx hb dX12_harm_36 (by decide) ?_
        refine lv_goto (tgt := 41) hx hb dX12_harm_37 (by decide) ?_
        exact wX12_harm_J41 C hK hP r F kb x1 x2 x3 (1 : Int32) hkb ls (lv_sub hl [0, 1, 2, 3] rfl) h
set_option maxHeartbeats 4000000 in
set_option maxRecDepth 100000 in
theorem kX12_harm (l : Launch) (D : va_G) (cs : Nat → ClassId) (a : Nat → Nat) (σ : Nat → Nat → Int32) (F : Nat) (x1 : Int32) (r : Int32) (h : fX12_harm F σ x1 = some r) : Met l yX12_harm wsX12_harm rmX12_harm (va_Pc [.ref (a 0), .int x1] (pR D cs (mW a cs σ))) (vp_Si (fun x => x = r)) 0 0 (fun _ => False) := by
  refine Met.ofW (cc := cX12_harm) (maxL := 6) (ret := (some .int)) (by decide) rfl ?_
  intro p e s m args below meth c s₁ B hml hv
  obtain ⟨rfl, hP, hK⟩ := hv
  have C : cxt p s m _ meth c cX12_harm 6 RX12 wsX12_harm (some .int) := ⟨B.exec, B.bytes, hml, findClass_of_methodNamed B.named, atoms_spec (ws := wsX12_harm) B.pre, B.returns, B.notSynchronized⟩
  obtain ⟨hx, hb, -, hown, hts, hr, hlk⟩ := id C
  refine entryW [.ref (a 0), .int x1] (n := 6) (Nat.le_of_ble_eq_true rfl) (fun ls hl => ?_)
  have hl : lv_has ls 6 [(0, .ref (a 0)), (1, .int x1)] := hl
  unfold fX12_harm at h
  refine lv_iload_n hx hb dX12_harm_0 rfl (lv_at hl 1 rfl) ?_
  refine lv_i2l hx hb dX12_harm_1 rfl ?_
  refine lv_lconst (v := (0 : Int64)) hx hb dX12_harm_2 (by decide) ?_
  refine lv_ldc2 hx hb hown (hts (.constantLong RX12 184 (3)) (by decide +kernel)) dX12_harm_3 ?_
  obtain ⟨v1, hc_v1, h⟩ := bd_some h
  refine mcallSZ (va_runS (As := [.long x1.toInt64, .long (0 : Int64), .long (3 : Int64)]) (rest := []) ⟨hx, hb, hml, hown, hts⟩ (kX12_in l x1.toInt64 (0 : Int64) (3 : Int64) v1 hc_v1) (va_cwS 3 hts gX12_harm_X12_in rfl rfl rfl (by decide +kernel) ⟨Nat.le_of_ble_eq_true rfl, Nat.le_of_ble_eq_true rfl⟩) p0_s rfl rfl hl.1 rfl (lv_room (Nat.le_of_ble_eq_true rfl)) dX12_harm_6 ⟨Nat.zero_le _, Nat.zero_le _⟩) (fun z_v1 => ?_)
  refine lv_if_ne (tgt := 14) hx hb dX12_harm_9 (by decide) (fun c2 => ?_) (fun c2 => ?_)
  · have h := it_t c2 h
    refine lv_iconst (v := (0 : Int32)) hx hb dX12_harm_14 (by decide) ?_
    refine lv_istore_n (lv' := [(2, .int (0 : Int32)), (0, .ref (a 0)), (1, .int x1)]) hx hb dX12_harm_15 rfl hl (by decide) rfl (fun ls hl => ?_)
    refine lv_iconst (v := (0 : Int32)) hx hb dX12_harm_16 (by decide) ?_
    refine lv_istore_n (lv' := [(3, .int (0 : Int32)), (2, .int (0 : Int32)), (0, .ref (a 0)), (1, .int x1)]) hx hb dX12_harm_17 rfl hl (by decide) rfl (fun ls hl => ?_)
    refine wX12_harm_L18 C hK hP r F x1 _ ?_ F (0 : Int32) (0 : Int32) ls (lv_sub hl [2, 3, 1, 0] rfl) h
    intro y3 ls hl h
    refine lv_iload_n hx hb dX12_harm_135 rfl (lv_at hl 0 rfl) ?_
    exact mretS hx hb hr hlk h dX12_harm_136
  · have h := it_n c2 h
    refine lv_iconst (v := ((-1) : Int32)) hx hb dX12_harm_12 (by decide) ?_
    exact mretS hx hb hr hlk h dX12_harm_13
def fX12_again_J32 (F : Nat) (kb : Int32 → Int32 → Option Int32) (x2 : Int32) (t0 : Int32) (t1 : Int32) (σ : Nat → Nat → Int32) : Option Int32 :=
  kb (t1 ||| t0) (x2 + (1 : Int32))
def fX12_again_L4 (F : Nat) (σ : Nat → Nat → Int32) (kx : Int32 → Option Int32) : Nat → Int32 → Int32 → Option Int32
  | 0, _, _ => none
  | n+1, x1, x2 =>
    nb ((fun x1 x2 => fX12_again_L4 F σ kx n x1 x2)) fun kb =>
    if (256 : Int32) ≤ x2 then (kx x1) else (aI (σ 19) 256 x2 fun v2 => if ¬ v2 = ((-5) : Int32) then (fX12_again_J32 F kb x2 (0 : Int32) x1 σ) else (bd (fX12_layersOf F σ x2) fun v4 => fX12_again_J32 F kb x2 v4 x1 σ))
def fX12_again_J80 (F : Nat) (kb : Int32 → Int32 → Option Int32) (x3 : Int32) (x4 : Int32) (t0 : Int32) (t1 : Int32) (σ : Nat → Nat → Int32) : Option Int32 :=
  kb (t1 ||| t0) (x4 + (1 : Int32))
def fX12_again_L51 (F : Nat) (σ : Nat → Nat → Int32) (x3 : Int32) (kx : Int32 → Option Int32) : Nat → Int32 → Int32 → Option Int32
  | 0, _, _ => none
  | n+1, x1, x4 =>
    nb ((fun x1 x4 => fX12_again_L51 F σ x3 kx n x1 x4)) fun kb =>
    if (σ 0 0) ≤ x4 then (kx x1) else (bd (fX12_aheadOf F σ x4) fun v4 => if (v4 &&& x1) = 0 then (fX12_again_J80 F kb x3 x4 (0 : Int32) x1 σ) else (fX12_again_J80 F kb x3 x4 ((1 : Int32) <<< (x4 &&& 31)) x1 σ))
def fX12_again_J98 (F : Nat) (kb : Int32 → Int32 → Option Int32) (x1 : Int32) (t0 : Int32) (σ : Nat → Nat → Int32) : Option Int32 :=
  kb x1 t0
def fX12_again_L42 (F : Nat) (σ : Nat → Nat → Int32) (kx : Int32 → Option Int32) : Nat → Int32 → Int32 → Option Int32
  | 0, _, _ => none
  | n+1, x1, x2 =>
    nb ((fun x1 x2 => fX12_again_L42 F σ kx n x1 x2)) fun kb =>
    if x2 = 0 then (kx x1) else (fX12_again_L51 F σ x1 (fun y3 => if y3 = x1 then (fX12_again_J98 F kb y3 (0 : Int32) σ) else (fX12_again_J98 F kb y3 (1 : Int32) σ)) F x1 (0 : Int32))
def fX12_again (F : Nat) (σ : Nat → Nat → Int32)  : Option Int32 :=
  fX12_again_L4 F σ (fun y1 => fX12_again_L42 F σ (fun y2 => some y2) F y1 (1 : Int32)) F (0 : Int32) (0 : Int32)
abbrev rmX12_again : Room := { frames := 2, cells := 0, slots := 0, locals := 46 }
theorem inX12_X12_again : ∀ w ∈ wsX120, w ∈ wsX12_again := by intro w h; simp only [wsX12_again, List.mem_cons, List.mem_append]; simp only [h, true_or, or_true]
set_option maxHeartbeats 4000000 in
set_option maxRecDepth 100000 in
theorem wX12_again_J32 {p : Program} {l : Launch} {e : Env} {s : State} {m : MethodId} {args : Array Value} {below : List Frame} {meth : Method} {c : Code} (C : cxt p s m args meth c cX12_again 5 RX12 wsX12_again (some .int)) {D : va_G} {cs : Nat → ClassId} {a : Nat → Nat} (hK : KK D cs s) {σ : Nat → Nat → Int32} (hP : va_P D vwCl (mW a cs σ) s.heap) (r : Int32) (F : Nat) (kb : Int32 → Int32 → Option Int32) (x2 : Int32) (t0 : Int32) (t1 : Int32) (hkb : ∀ (x1 : Int32) (x2 : Int32) (ls : Array Slot), lv_has ls 5 [(0, .ref (a 0)), (1, .int x1), (2, .int x2)] → kb x1 x2 = some r → W p l e rmX12_again s m args below meth c s.heap [] 0 0 (MQ below (vp_Si (fun x => x = r)) args s 0 0 (fun _ => False)) (F0 m 4 ls [])) (ls : Array Slot) (hl : lv_has ls 5 [(0, .ref (a 0)), (2, .int x2)]) (h : fX12_again_J32 F kb x2 t0 t1 σ = some r) : W p l e rmX12_again s m args below meth c s.heap [] 0 0 (MQ below (vp_Si (fun x => x = r)) args s 0 0 (fun _ => False)) (F0 m 32 ls [.int t0, .int t1]) := by
  obtain ⟨hx, hb, hml, hown, hts, hr, hlk⟩ := id C
  unfold fX12_again_J32 at h
  refine lv_ior hx hb dX12_again_32 ?_
  refine lv_istore_n (lv' := [(1, .int (t1 ||| t0)), (0, .ref (a 0)), (2, .int x2)]) hx hb dX12_again_33 rfl hl (by decide) rfl (fun ls hl => ?_)
  refine lv_iinc (v := x2 + (1 : Int32)) (lv' := [(2, .int (x2 + (1 : Int32))), (1, .int (t1 ||| t0)), (0, .ref (a 0))]) hx hb dX12_again_34 hl (k := 2) rfl rfl (by decide) rfl (fun ls hl => ?_)
  refine lv_goto (tgt := 4) hx hb dX12_again_37 (by decide) ?_
  exact hkb (t1 ||| t0) (x2 + (1 : Int32)) ls (lv_sub hl [2, 1, 0] rfl) h
set_option maxHeartbeats 4000000 in
set_option maxRecDepth 100000 in
theorem wX12_again_L4 {p : Program} {l : Launch} {e : Env} {s : State} {m : MethodId} {args : Array Value} {below : List Frame} {meth : Method} {c : Code} (C : cxt p s m args meth c cX12_again 5 RX12 wsX12_again (some .int)) {D : va_G} {cs : Nat → ClassId} {a : Nat → Nat} (hK : KK D cs s) {σ : Nat → Nat → Int32} (hP : va_P D vwCl (mW a cs σ) s.heap) (r : Int32) (F : Nat) (kx : Int32 → Option Int32) (hkx : ∀ (x1 : Int32) (ls : Array Slot), lv_has ls 5 [(0, .ref (a 0)), (1, .int x1)] → kx x1 = some r → W p l e rmX12_again s m args below meth c s.heap [] 0 0 (MQ below (vp_Si (fun x => x = r)) args s 0 0 (fun _ => False)) (F0 m 40 ls [])) : ∀ (n : Nat) (x1 : Int32) (x2 : Int32) (ls : Array Slot), lv_has ls 5 [(0, .ref (a 0)), (1, .int x1), (2, .int x2)] → fX12_again_L4 F σ kx n x1 x2 = some r → W p l e rmX12_again s m args below meth c s.heap [] 0 0 (MQ below (vp_Si (fun x => x = r)) args s 0 0 (fun _ => False)) (F0 m 4 ls []) := by
  obtain ⟨hx, hb, hml, hown, hts, hr, hlk⟩ := id C
  intro n
  induction n with
  | zero =>
    intros
    rename_i h
    cases h
  | succ n ih =>
    intro x1 x2 ls hl h
    rw [fX12_again_L4] at h
    obtain ⟨kb, hkb, h⟩ := nb_some (P := fun (kb : Int32 → Int32 → Option Int32) => ∀ (x1 : Int32) (x2 : Int32) (ls : Array Slot), lv_has ls 5 [(0, .ref (a 0)), (1, .int x1), (2, .int x2)] → kb x1 x2 = some r → W p l e rmX12_again s m args below meth c s.heap [] 0 0 (MQ below (vp_Si (fun x => x = r)) args s 0 0 (fun _ => False)) (F0 m 4 ls [])) h ih
    refine lv_iload_n hx hb dX12_again_4 rfl (lv_at hl 2 rfl) ?_
    refine lv_sipush (v := (256 : Int32)) hx hb dX12_again_5 (by decide) ?_
    refine lv_icmp_ge (tgt := 40) hx hb dX12_again_8 (by decide) (fun c1 => ?_) (fun c1 => ?_)
    · have h := it_t c1 h
      exact hkx x1 ls (lv_sub hl [0, 1] rfl) h
    · have h := it_f c1 h
      refine lv_iload_n hx hb dX12_again_11 rfl (lv_at hl 1 rfl) ?_
      refine lv_aload_n hx hb dX12_again_12 rfl (lv_at hl 0 rfl) ?_
      refine va_get (D := D) (ci := 11) (v := .ref (a 19)) (C := RX12) (T := TX12) (N := 27) hx hb hts inX12_X12_again hown hK.1 hP 0 rfl rfl 19 (by decide) (hts (.fieldLink RX12 60 "SandPalaceModel" "photo" "[I") (by decide +kernel)) (fun _ h9 => h9) rfl dX12_again_13 ?_
      refine lv_iload_n hx hb dX12_again_16 rfl (lv_at hl 2 rfl) ?_
      obtain ⟨v2, i_v2, e_v2, h⟩ := aI_some h
      refine miald hx hb hK.1 hP 16 0 rfl rfl i_v2 e_v2 dX12_again_17 ?_
      refine lv_bipush (v := ((-5) : Int32)) hx hb dX12_again_18 (by decide) ?_
      refine lv_icmp_ne (tgt := 31) hx hb dX12_again_20 (by decide) (fun c3 => ?_) (fun c3 => ?_)
      · have h := it_t c3 h
        refine lv_iconst (v := (0 : Int32)) hx hb dX12_again_31 (by decide) ?_
        exact wX12_again_J32 C hK hP r F kb x2 (0 : Int32) x1 hkb ls (lv_sub hl [0, 2] rfl) h
      · have h := it_n c3 h
        refine lv_aload_n hx hb dX12_again_23 rfl (lv_at hl 0 rfl) ?_
        refine lv_iload_n hx hb dX12_again_24 rfl (lv_at hl 2 rfl) ?_
        obtain ⟨v4, hc_v4, h⟩ := bd_some h
        refine mcallS (va_runV (As := [.int x2]) (rest := [.int x1]) ⟨hx, hb, hml, hown, hts⟩ (kX12_layersOf l D cs a σ F x2 v4 hc_v4) (cwV 1 hts gX12_again_X12_layersOf rfl rfl rfl (by decide +kernel) ⟨Nat.le_of_ble_eq_true rfl, Nat.le_of_ble_eq_true rfl⟩) (pR_v hP hK (va_recv hK.1 hP (ci := 11) (q0 := 0) rfl rfl)) rfl rfl hl.1 rfl (lv_room (Nat.le_of_ble_eq_true rfl)) dX12_again_25 ⟨Nat.zero_le _, Nat.zero_le _⟩) ?_
        refine lv_goto (tgt := 32) hx hb dX12_again_28 (by decide) ?_
        exact wX12_again_J32 C hK hP r F kb x2 v4 x1 hkb ls (lv_sub hl [0, 2] rfl) h
set_option maxHeartbeats 4000000 in
set_option maxRecDepth 100000 in
theorem wX12_again_J80 {p : Program} {l : Launch} {e : Env} {s : State} {m : MethodId} {args : Array Value} {below : List Frame} {meth : Method} {c : Code} (C : cxt p s m args meth c cX12_again 5 RX12 wsX12_again (some .int)) {D : va_G} {cs : Nat → ClassId} {a : Nat → Nat} (hK : KK D cs s) {σ : Nat → Nat → Int32} (hP : va_P D vwCl (mW a cs σ) s.heap) (r : Int32) (F : Nat) (kb : Int32 → Int32 → Option Int32) (x3 : Int32) (x4 : Int32) (t0 : Int32) (t1 : Int32) (hkb : ∀ (x1 : Int32) (x4 : Int32) (ls : Array Slot), lv_has ls 5 [(0, .ref (a 0)), (1, .int x1), (3, .int x3), (4, .int x4)] → kb x1 x4 = some r → W p l e rmX12_again s m args below meth c s.heap [] 0 0 (MQ below (vp_Si (fun x => x = r)) args s 0 0 (fun _ => False)) (F0 m 51 ls [])) (ls : Array Slot) (hl : lv_has ls 5 [(0, .ref (a 0)), (3, .int x3), (4, .int x4)]) (h : fX12_again_J80 F kb x3 x4 t0 t1 σ = some r) : W p l e rmX12_again s m args below meth c s.heap [] 0 0 (MQ below (vp_Si (fun x => x = r)) args s 0 0 (fun _ => False)) (F0 m 80 ls [.int t0, .int t1]) := by
  obtain ⟨hx, hb, hml, hown, hts, hr, hlk⟩ := id C
  unfold fX12_again_J80 at h
  refine lv_ior hx hb dX12_again_80 ?_
  refine lv_istore_n (lv' := [(1, .int (t1 ||| t0)), (0, .ref (a 0)), (3, .int x3), (4, .int x4)]) hx hb dX12_again_81 rfl hl (by decide) rfl (fun ls hl => ?_)
  refine lv_iinc (v := x4 + (1 : Int32)) (lv' := [(4, .int (x4 + (1 : Int32))), (1, .int (t1 ||| t0)), (0, .ref (a 0)), (3, .int x3)]) hx hb dX12_again_82 hl (k := 3) rfl rfl (by decide) rfl (fun ls hl => ?_)
  refine lv_goto (tgt := 51) hx hb dX12_again_85 (by decide) ?_
  exact hkb (t1 ||| t0) (x4 + (1 : Int32)) ls (lv_sub hl [2, 1, 3, 0] rfl) h
set_option maxHeartbeats 4000000 in
set_option maxRecDepth 100000 in
theorem wX12_again_L51 {p : Program} {l : Launch} {e : Env} {s : State} {m : MethodId} {args : Array Value} {below : List Frame} {meth : Method} {c : Code} (C : cxt p s m args meth c cX12_again 5 RX12 wsX12_again (some .int)) {D : va_G} {cs : Nat → ClassId} {a : Nat → Nat} (hK : KK D cs s) {σ : Nat → Nat → Int32} (hP : va_P D vwCl (mW a cs σ) s.heap) (r : Int32) (F : Nat) (x3 : Int32) (kx : Int32 → Option Int32) (hkx : ∀ (x1 : Int32) (ls : Array Slot), lv_has ls 5 [(0, .ref (a 0)), (1, .int x1), (3, .int x3)] → kx x1 = some r → W p l e rmX12_again s m args below meth c s.heap [] 0 0 (MQ below (vp_Si (fun x => x = r)) args s 0 0 (fun _ => False)) (F0 m 88 ls [])) : ∀ (n : Nat) (x1 : Int32) (x4 : Int32) (ls : Array Slot), lv_has ls 5 [(0, .ref (a 0)), (1, .int x1), (3, .int x3), (4, .int x4)] → fX12_again_L51 F σ x3 kx n x1 x4 = some r → W p l e rmX12_again s m args below meth c s.heap [] 0 0 (MQ below (vp_Si (fun x => x = r)) args s 0 0 (fun _ => False)) (F0 m 51 ls []) := by
  obtain ⟨hx, hb, hml, hown, hts, hr, hlk⟩ := id C
  intro n
  induction n with
  | zero =>
    intros
    rename_i h
    cases h
  | succ n ih =>
    intro x1 x4 ls hl h
    rw [fX12_again_L51] at h
    obtain ⟨kb, hkb, h⟩ := nb_some (P := fun (kb : Int32 → Int32 → Option Int32) => ∀ (x1 : Int32) (x4 : Int32) (ls : Array Slot), lv_has ls 5 [(0, .ref (a 0)), (1, .int x1), (3, .int x3), (4, .int x4)] → kb x1 x4 = some r → W p l e rmX12_again s m args below meth c s.heap [] 0 0 (MQ below (vp_Si (fun x => x = r)) args s 0 0 (fun _ => False)) (F0 m 51 ls [])) h ih
    refine lv_iload hx hb dX12_again_51 (lv_at hl 3 rfl) ?_
    refine lv_aload_n hx hb dX12_again_53 rfl (lv_at hl 0 rfl) ?_
    refine va_get (D := D) (ci := 11) (v := .int (σ 0 0)) (C := RX12) (T := TX12) (N := 27) hx hb hts inX12_X12_again hown hK.1 hP 0 rfl rfl 0 (by decide) (hts (.fieldLink RX12 103 "SandPalaceModel" "shapes" "I") (by decide +kernel)) (fun _ h9 => h9) rfl dX12_again_54 ?_
    refine lv_icmp_ge (tgt := 88) hx hb dX12_again_57 (by decide) (fun c3 => ?_) (fun c3 => ?_)
    · have h := it_t c3 h
      exact hkx x1 ls (lv_sub hl [0, 1, 2] rfl) h
    · have h := it_f c3 h
      refine lv_iload_n hx hb dX12_again_60 rfl (lv_at hl 1 rfl) ?_
      refine lv_aload_n hx hb dX12_again_61 rfl (lv_at hl 0 rfl) ?_
      refine lv_iload hx hb dX12_again_62 (lv_at hl 3 rfl) ?_
      obtain ⟨v4, hc_v4, h⟩ := bd_some h
      refine mcallS (va_runV (As := [.int x4]) (rest := [.int x1]) ⟨hx, hb, hml, hown, hts⟩ (kX12_aheadOf l D cs a σ F x4 v4 hc_v4) (cwV 1 hts gX12_again_X12_aheadOf rfl rfl rfl (by decide +kernel) ⟨Nat.le_of_ble_eq_true rfl, Nat.le_of_ble_eq_true rfl⟩) (pR_v hP hK (va_recv hK.1 hP (ci := 11) (q0 := 0) rfl rfl)) rfl rfl hl.1 rfl (lv_room (Nat.le_of_ble_eq_true rfl)) dX12_again_64 ⟨Nat.zero_le _, Nat.zero_le _⟩) ?_
      refine lv_iload_n hx hb dX12_again_67 rfl (lv_at hl 1 rfl) ?_
      refine lv_iand hx hb dX12_again_68 ?_
      refine lv_if_eq (tgt := 79) hx hb dX12_again_69 (by decide) (fun c5 => ?_) (fun c5 => ?_)
      · have h := it_t c5 h
        refine lv_iconst (v := (0 : Int32)) hx hb dX12_again_79 (by decide) ?_
        exact wX12_again_J80 C hK hP r F kb x3 x4 (0 : Int32) x1 hkb ls (lv_sub hl [0, 2, 3] rfl) h
      · have h := it_f c5 h
        refine lv_iconst (v := (1 : Int32)) hx hb dX12_again_72 (by decide) ?_
        refine lv_iload hx hb dX12_again_73 (lv_at hl 3 rfl) ?_
        refine lv_ishl hx hb dX12_again_75 ?_
        refine lv_goto (tgt := 80) hx hb dX12_again_76 (by decide) ?_
        exact wX12_again_J80 C hK hP r F kb x3 x4 ((1 : Int32) <<< (x4 &&& 31)) x1 hkb ls (lv_sub hl [0, 2, 3] rfl) h
set_option maxHeartbeats 4000000 in
set_option maxRecDepth 100000 in
theorem wX12_again_J98 {p : Program} {l : Launch} {e : Env} {s : State} {m : MethodId} {args : Array Value} {below : List Frame} {meth : Method} {c : Code} (C : cxt p s m args meth c cX12_again 5 RX12 wsX12_again (some .int)) {D : va_G} {cs : Nat → ClassId} {a : Nat → Nat} (hK : KK D cs s) {σ : Nat → Nat → Int32} (hP : va_P D vwCl (mW a cs σ) s.heap) (r : Int32) (F : Nat) (kb : Int32 → Int32 → Option Int32) (x1 : Int32) (t0 : Int32) (hkb : ∀ (x1 : Int32) (x2 : Int32) (ls : Array Slot), lv_has ls 5 [(0, .ref (a 0)), (1, .int x1), (2, .int x2)] → kb x1 x2 = some r → W p l e rmX12_again s m args below meth c s.heap [] 0 0 (MQ below (vp_Si (fun x => x = r)) args s 0 0 (fun _ => False)) (F0 m 42 ls [])) (ls : Array Slot) (hl : lv_has ls 5 [(0, .ref (a 0)), (1, .int x1)]) (h : fX12_again_J98 F kb x1 t0 σ = some r) : W p l e rmX12_again s m args below meth c s.heap [] 0 0 (MQ below (vp_Si (fun x => x = r)) args s 0 0 (fun _ => False)) (F0 m 98 ls [.int t0]) := by
  obtain ⟨hx, hb, hml, hown, hts, hr, hlk⟩ := id C
  unfold fX12_again_J98 at h
  refine lv_istore_n (lv' := [(2, .int t0), (0, .ref (a 0)), (1, .int x1)]) hx hb dX12_again_98 rfl hl (by decide) rfl (fun ls hl => ?_)
  refine lv_goto (tgt := 42) hx hb dX12_again_99 (by decide) ?_
  exact hkb x1 t0 ls (lv_sub hl [1, 2, 0] rfl) h
set_option maxHeartbeats 4000000 in
set_option maxRecDepth 100000 in
theorem wX12_again_L42 {p : Program} {l : Launch} {e : Env} {s : State} {m : MethodId} {args : Array Value} {below : List Frame} {meth : Method} {c : Code} (C : cxt p s m args meth c cX12_again 5 RX12 wsX12_again (some .int)) {D : va_G} {cs : Nat → ClassId} {a : Nat → Nat} (hK : KK D cs s) {σ : Nat → Nat → Int32} (hP : va_P D vwCl (mW a cs σ) s.heap) (r : Int32) (F : Nat) (kx : Int32 → Option Int32) (hkx : ∀ (x1 : Int32) (ls : Array Slot), lv_has ls 5 [(1, .int x1)] → kx x1 = some r → W p l e rmX12_again s m args below meth c s.heap [] 0 0 (MQ below (vp_Si (fun x => x = r)) args s 0 0 (fun _ => False)) (F0 m 102 ls [])) : ∀ (n : Nat) (x1 : Int32) (x2 : Int32) (ls : Array Slot), lv_has ls 5 [(0, .ref (a 0)), (1, .int x1), (2, .int x2)] → fX12_again_L42 F σ kx n x1 x2 = some r → W p l e rmX12_again s m args below meth c s.heap [] 0 0 (MQ below (vp_Si (fun x => x = r)) args s 0 0 (fun _ => False)) (F0 m 42 ls []) := by
  obtain ⟨hx, hb, hml, hown, hts, hr, hlk⟩ := id C
  intro n
  induction n with
  | zero =>
    intros
    rename_i h
    cases h
  | succ n ih =>
    intro x1 x2 ls hl h
    rw [fX12_again_L42] at h
    obtain ⟨kb, hkb, h⟩ := nb_some (P := fun (kb : Int32 → Int32 → Option Int32) => ∀ (x1 : Int32) (x2 : Int32) (ls : Array Slot), lv_has ls 5 [(0, .ref (a 0)), (1, .int x1), (2, .int x2)] → kb x1 x2 = some r → W p l e rmX12_again s m args below meth c s.heap [] 0 0 (MQ below (vp_Si (fun x => x = r)) args s 0 0 (fun _ => False)) (F0 m 42 ls [])) h ih
    refine lv_iload_n hx hb dX12_again_42 rfl (lv_at hl 2 rfl) ?_
    refine lv_if_eq (tgt := 102) hx hb dX12_again_43 (by decide) (fun c2 => ?_) (fun c2 => ?_)
    · have h := it_t c2 h
      exact hkx x1 ls (lv_sub hl [1] rfl) h
    · have h := it_f c2 h
      refine lv_iload_n hx hb dX12_again_46 rfl (lv_at hl 1 rfl) ?_
      refine lv_istore_n (lv' := [(3, .int x1), (0, .ref (a 0)), (1, .int x1), (2, .int x2)]) hx hb dX12_again_47 rfl hl (by decide) rfl (fun ls hl => ?_)
      refine lv_iconst (v := (0 : Int32)) hx hb dX12_again_48 (by decide) ?_
      refine lv_istore (lv' := [(4, .int (0 : Int32)), (3, .int x1), (0, .ref (a 0)), (1, .int x1), (2, .int x2)]) hx hb dX12_again_49 hl (by decide) rfl (fun ls hl => ?_)
      refine wX12_again_L51 C hK hP r F x1 _ ?_ F x1 (0 : Int32) ls (lv_sub hl [2, 3, 1, 0] rfl) h
      intro y3 ls hl h
      refine lv_iload_n hx hb dX12_again_88 rfl (lv_at hl 1 rfl) ?_
      refine lv_iload_n hx hb dX12_again_89 rfl (lv_at hl 2 rfl) ?_
      refine lv_icmp_eq (tgt := 97) hx hb dX12_again_90 (by decide) (fun c4 => ?_) (fun c4 => ?_)
      · have h := it_t c4 h
        refine lv_iconst (v := (0 : Int32)) hx hb dX12_again_97 (by decide) ?_
        exact wX12_again_J98 C hK hP r F kb y3 (0 : Int32) hkb ls (lv_sub hl [0, 1] rfl) h
      · have h := it_f c4 h
        refine lv_iconst (v := (1 : Int32)) hx hb dX12_again_93 (by decide) ?_
        refine lv_goto (tgt := 98) hx hb dX12_again_94 (by decide) ?_
        exact wX12_again_J98 C hK hP r F kb y3 (1 : Int32) hkb ls (lv_sub hl [0, 1] rfl) h
set_option maxHeartbeats 4000000 in
set_option maxRecDepth 100000 in
theorem kX12_again (l : Launch) (D : va_G) (cs : Nat → ClassId) (a : Nat → Nat) (σ : Nat → Nat → Int32) (F : Nat)  (r : Int32) (h : fX12_again F σ = some r) : Met l yX12_again wsX12_again rmX12_again (va_Pc [.ref (a 0)] (pR D cs (mW a cs σ))) (vp_Si (fun x => x = r)) 0 0 (fun _ => False) := by
  refine Met.ofW (cc := cX12_again) (maxL := 5) (ret := (some .int)) (by decide) rfl ?_
  intro p e s m args below meth c s₁ B hml hv
  obtain ⟨rfl, hP, hK⟩ := hv
  have C : cxt p s m _ meth c cX12_again 5 RX12 wsX12_again (some .int) := ⟨B.exec, B.bytes, hml, findClass_of_methodNamed B.named, atoms_spec (ws := wsX12_again) B.pre, B.returns, B.notSynchronized⟩
  obtain ⟨hx, hb, -, hown, hts, hr, hlk⟩ := id C
  refine entryW [.ref (a 0)] (n := 5) (Nat.le_of_ble_eq_true rfl) (fun ls hl => ?_)
  have hl : lv_has ls 5 [(0, .ref (a 0))] := hl
  unfold fX12_again at h
  refine lv_iconst (v := (0 : Int32)) hx hb dX12_again_0 (by decide) ?_
  refine lv_istore_n (lv' := [(1, .int (0 : Int32)), (0, .ref (a 0))]) hx hb dX12_again_1 rfl hl (by decide) rfl (fun ls hl => ?_)
  refine lv_iconst (v := (0 : Int32)) hx hb dX12_again_2 (by decide) ?_
  refine lv_istore_n (lv' := [(2, .int (0 : Int32)), (1, .int (0 : Int32)), (0, .ref (a 0))]) hx hb dX12_again_3 rfl hl (by decide) rfl (fun ls hl => ?_)
  refine wX12_again_L4 C hK hP r F  _ ?_ F (0 : Int32) (0 : Int32) ls (lv_sub hl [2, 1, 0] rfl) h
  intro y1 ls hl h
  refine lv_iconst (v := (1 : Int32)) hx hb dX12_again_40 (by decide) ?_
  refine lv_istore_n (lv' := [(2, .int (1 : Int32)), (0, .ref (a 0)), (1, .int y1)]) hx hb dX12_again_41 rfl hl (by decide) rfl (fun ls hl => ?_)
  refine wX12_again_L42 C hK hP r F  _ ?_ F y1 (1 : Int32) ls (lv_sub hl [1, 2, 0] rfl) h
  intro y2 ls hl h
  refine lv_iload_n hx hb dX12_again_102 rfl (lv_at hl 0 rfl) ?_
  exact mretS hx hb hr hlk h dX12_again_103
