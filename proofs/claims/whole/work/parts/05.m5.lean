def fX12_keep_L42 (F : Nat) (x1 : Int32) (x3 : Int32) (x4 : Int32) (x5 : Int32) (kx : (Nat → Nat → Int32) → Option (Int32 × (Nat → Nat → Int32))) : Nat → Int32 → (Nat → Nat → Int32) → Option (Int32 × (Nat → Nat → Int32))
  | 0, _, _ => none
  | n+1, x7, σ =>
    nb ((fun x7 σ => fX12_keep_L42 F x1 x3 x4 x5 kx n x7 σ)) fun kb =>
    if x5 ≤ x7 then (kx σ) else (aI (σ 19) 256 (x4 + x7) fun v8 => aS 1024 ((((256 : Int32) * x1) + x3) + x7) (nm (sg σ 26 (upd (σ 26) ((((256 : Int32) * x1) + x3) + x7).toNatClampNeg v8)) fun σ10 => kb (x7 + (1 : Int32)) σ10))
def fX12_keep (F : Nat) (σ : Nat → Nat → Int32) (x1 : Int32) (x2 : Int32) (x3 : Int32) (x4 : Int32) (x5 : Int32) : Option (Int32 × (Nat → Nat → Int32)) :=
  bd (fX12_isSheet x1 x2) fun v1 => if v1 = 0 then (some (((-1) : Int32), σ)) else (bd (fX12_isCells x4 x5) fun v3 => if ¬ v3 = 0 then (bd (fX12_against σ x1 x2 x3 x5) fun v5 => if 0 ≤ v5 then (fX12_keep_L42 F x1 x3 x4 x5 (fun σ7 => some (x5, σ7)) F (0 : Int32) σ) else (some (v5, σ))) else (some (((-1) : Int32), σ)))
abbrev rmX12_keep : Room := { frames := 2, cells := 0, slots := 0, locals := 49 }
theorem inX12_X12_keep : ∀ w ∈ wsX120, w ∈ wsX12_keep := by intro w h; simp only [wsX12_keep, List.mem_cons, List.mem_append]; simp only [h, true_or, or_true]
set_option maxHeartbeats 4000000 in
set_option maxRecDepth 100000 in
theorem wX12_keep_L42 {p : Program} {l : Launch} {e : Env} {s : State} {m : MethodId} {args : Array Value} {below : List Frame} {meth : Method} {c : Code} (C : cxt p s m args meth c cX12_keep 8 RX12 wsX12_keep (some .int)) {D : va_G} {cs : Nat → ClassId} {a : Nat → Nat} (hK : KK D cs s) {A : Nat → Prop} (hA : ∀ q, s.heap.size ≤ q → A q) (r : Int32) (u9 : Nat → Nat → Int32) (F : Nat) (x1 : Int32) (x3 : Int32) (x4 : Int32) (x5 : Int32) (kx : (Nat → Nat → Int32) → Option (Int32 × (Nat → Nat → Int32))) (hkx : ∀ (σ : Nat → Nat → Int32) (H : Heap) (locs : List Loc) (ls : Array Slot), va_P D vwCl (mW a cs σ) H → va_D A (mW a cs σ) → va_S A s.heap H locs → lv_has ls 8 [(5, .int x5)] → kx σ = some (r, u9) → W p l e rmX12_keep s m args below meth c H locs 0 0 (MQ below (va_Qi (fun x y => x = r ∧ y = u9) (qB D (mW a cs) A) A) args s 0 0 A) (F0 m 80 ls [])) : ∀ (n : Nat) (x7 : Int32) (σ : Nat → Nat → Int32) (H : Heap) (locs : List Loc) (ls : Array Slot), va_P D vwCl (mW a cs σ) H → va_D A (mW a cs σ) → va_S A s.heap H locs → lv_has ls 8 [(0, .ref (a 0)), (1, .int x1), (3, .int x3), (4, .int x4), (5, .int x5), (7, .int x7)] → fX12_keep_L42 F x1 x3 x4 x5 kx n x7 σ = some (r, u9) → W p l e rmX12_keep s m args below meth c H locs 0 0 (MQ below (va_Qi (fun x y => x = r ∧ y = u9) (qB D (mW a cs) A) A) args s 0 0 A) (F0 m 42 ls []) := by
  obtain ⟨hx, hb, hml, hown, hts, hr, hlk⟩ := id C
  intro n
  induction n with
  | zero =>
    intros
    rename_i h
    cases h
  | succ n ih =>
    intro x7 σ H locs ls hP hD hS hl h
    rw [fX12_keep_L42] at h
    obtain ⟨kb, hkb, h⟩ := nb_some (P := fun (kb : Int32 → (Nat → Nat → Int32) → Option (Int32 × (Nat → Nat → Int32))) => ∀ (x7 : Int32) (σ : Nat → Nat → Int32) (H : Heap) (locs : List Loc) (ls : Array Slot), va_P D vwCl (mW a cs σ) H → va_D A (mW a cs σ) → va_S A s.heap H locs → lv_has ls 8 [(0, .ref (a 0)), (1, .int x1), (3, .int x3), (4, .int x4), (5, .int x5), (7, .int x7)] → kb x7 σ = some (r, u9) → W p l e rmX12_keep s m args below meth c H locs 0 0 (MQ below (va_Qi (fun x y => x = r ∧ y = u9) (qB D (mW a cs) A) A) args s 0 0 A) (F0 m 42 ls [])) h ih
    refine lv_iload hx hb dX12_keep_42 (lv_at hl 5 rfl) ?_
    refine lv_iload hx hb dX12_keep_44 (lv_at hl 4 rfl) ?_
    refine lv_icmp_ge (tgt := 80) hx hb dX12_keep_46 (by decide) (fun c7 => ?_) (fun c7 => ?_)
    · have h := it_t c7 h
      exact hkx σ _ _ ls hP hD hS (lv_sub hl [4] rfl) h
    · have h := it_f c7 h
      refine lv_aload_n hx hb dX12_keep_49 rfl (lv_at hl 0 rfl) ?_
      refine va_get (D := D) (ci := 11) (v := .ref (a 26)) (C := RX12) (T := TX12) (N := 27) hx hb hts inX12_X12_keep hown hK.1 hP 0 rfl rfl 26 (by decide) (hts (.fieldLink RX12 75 "SandPalaceModel" "items" "[I") (by decide +kernel)) (fun _ h9 => h9) rfl dX12_keep_50 ?_
      refine lv_sipush (v := (256 : Int32)) hx hb dX12_keep_53 (by decide) ?_
      refine lv_iload_n hx hb dX12_keep_56 rfl (lv_at hl 1 rfl) ?_
      refine lv_imul hx hb dX12_keep_57 ?_
      refine lv_iload_n hx hb dX12_keep_58 rfl (lv_at hl 2 rfl) ?_
      refine lv_iadd hx hb dX12_keep_59 ?_
      refine lv_iload hx hb dX12_keep_60 (lv_at hl 5 rfl) ?_
      refine lv_iadd hx hb dX12_keep_62 ?_
      refine lv_aload_n hx hb dX12_keep_63 rfl (lv_at hl 0 rfl) ?_
      refine va_get (D := D) (ci := 11) (v := .ref (a 19)) (C := RX12) (T := TX12) (N := 27) hx hb hts inX12_X12_keep hown hK.1 hP 0 rfl rfl 19 (by decide) (hts (.fieldLink RX12 60 "SandPalaceModel" "photo" "[I") (by decide +kernel)) (fun _ h9 => h9) rfl dX12_keep_64 ?_
      refine lv_iload hx hb dX12_keep_67 (lv_at hl 3 rfl) ?_
      refine lv_iload hx hb dX12_keep_69 (lv_at hl 5 rfl) ?_
      refine lv_iadd hx hb dX12_keep_71 ?_
      obtain ⟨v8, i_v8, e_v8, h⟩ := aI_some h
      refine miald hx hb hK.1 hP 16 0 rfl rfl i_v8 e_v8 dX12_keep_72 ?_
      obtain ⟨i9, h⟩ := aS_some h
      refine va_iast hx hb hK.1 hP hD hS 21 0 rfl rfl i9 dX12_keep_73 (fun H locs hP hD hS => ?_)
      obtain ⟨σ10, e_σ10, h⟩ := nm_some h
      have hP : va_P D vwCl (mW a cs σ10) H := by rw [← e_σ10]; exact hP
      have hD : va_D A (mW a cs σ10) := by rw [← e_σ10]; exact hD
      refine lv_iinc (v := x7 + (1 : Int32)) (lv' := [(7, .int (x7 + (1 : Int32))), (0, .ref (a 0)), (1, .int x1), (3, .int x3), (4, .int x4), (5, .int x5)]) hx hb dX12_keep_74 hl (k := 5) rfl rfl (by decide) rfl (fun ls hl => ?_)
      refine lv_goto (tgt := 42) hx hb dX12_keep_77 (by decide) ?_
      exact hkb (x7 + (1 : Int32)) σ10 _ _ ls hP hD hS (lv_sub hl [1, 2, 3, 4, 5, 0] rfl) h
set_option maxHeartbeats 4000000 in
set_option maxRecDepth 100000 in
theorem kX12_keep (l : Launch) (D : va_G) (cs : Nat → ClassId) (a : Nat → Nat) (σ : Nat → Nat → Int32) (F : Nat) (x1 : Int32) (x2 : Int32) (x3 : Int32) (x4 : Int32) (x5 : Int32) (r : Int32) (u9 : Nat → Nat → Int32) (h : fX12_keep F σ x1 x2 x3 x4 x5 = some (r, u9)) (sz : Nat) : Met l yX12_keep wsX12_keep rmX12_keep (va_Pc [.ref (a 0), .int x1, .int x2, .int x3, .int x4, .int x5] (pQ D cs (mW a cs σ) sz)) (va_Qi (fun x y => x = r ∧ y = u9) (qB D (mW a cs) (va_A (mW a cs σ) sz)) (va_A (mW a cs σ) sz)) 0 0 (va_A (mW a cs σ) sz) := by
  refine Met.ofW (cc := cX12_keep) (maxL := 8) (ret := (some .int)) (by decide) rfl ?_
  intro p e s m args below meth c s₁ B hml hv
  obtain ⟨rfl, hsz, hP, hK, hD0⟩ := hv
  have C : cxt p s m _ meth c cX12_keep 8 RX12 wsX12_keep (some .int) := ⟨B.exec, B.bytes, hml, findClass_of_methodNamed B.named, atoms_spec (ws := wsX12_keep) B.pre, B.returns, B.notSynchronized⟩
  obtain ⟨hx, hb, -, hown, hts, hr, hlk⟩ := id C
  subst hsz
  have hD := hD0.self (sz := s.heap.size)
  generalize hAe : va_A (mW a cs σ) s.heap.size = A at hD ⊢
  have hA : ∀ q : Nat, s.heap.size ≤ q → A q := fun q h => by rw [← hAe]; exact Or.inr h
  have hS : va_S A s.heap s.heap [] := va_S.rf
  refine entryW [.ref (a 0), .int x1, .int x2, .int x3, .int x4, .int x5] (n := 8) (Nat.le_of_ble_eq_true rfl) (fun ls hl => ?_)
  have hl : lv_has ls 8 [(0, .ref (a 0)), (1, .int x1), (2, .int x2), (3, .int x3), (4, .int x4), (5, .int x5)] := hl
  unfold fX12_keep at h
  refine lv_iload_n hx hb dX12_keep_0 rfl (lv_at hl 1 rfl) ?_
  refine lv_iload_n hx hb dX12_keep_1 rfl (lv_at hl 2 rfl) ?_
  obtain ⟨v1, hc_v1, h⟩ := bd_some h
  refine mcallSZ (va_runS (As := [.int x1, .int x2]) (rest := []) ⟨hx, hb, hml, hown, hts⟩ (kX12_isSheet l x1 x2 v1 hc_v1) (va_cwS 2 hts gX12_keep_X12_isSheet rfl rfl rfl (by decide +kernel) ⟨Nat.le_of_ble_eq_true rfl, Nat.le_of_ble_eq_true rfl⟩) p0_s rfl rfl hl.1 rfl (lv_room (Nat.le_of_ble_eq_true rfl)) dX12_keep_2 ⟨Nat.zero_le _, Nat.zero_le _⟩) (fun z_v1 => ?_)
  refine lv_if_eq (tgt := 18) hx hb dX12_keep_5 (by decide) (fun c2 => ?_) (fun c2 => ?_)
  · have h := it_t c2 h
    refine lv_iconst (v := ((-1) : Int32)) hx hb dX12_keep_18 (by decide) ?_
    exact mretQ hx hb hr hlk h hP hD hS dX12_keep_19
  · have h := it_f c2 h
    refine lv_iload hx hb dX12_keep_8 (lv_at hl 4 rfl) ?_
    refine lv_iload hx hb dX12_keep_10 (lv_at hl 5 rfl) ?_
    obtain ⟨v3, hc_v3, h⟩ := bd_some h
    refine mcallSZ (va_runS (As := [.int x4, .int x5]) (rest := []) ⟨hx, hb, hml, hown, hts⟩ (kX12_isCells l x4 x5 v3 hc_v3) (va_cwS 2 hts gX12_keep_X12_isCells rfl rfl rfl (by decide +kernel) ⟨Nat.le_of_ble_eq_true rfl, Nat.le_of_ble_eq_true rfl⟩) p0_s rfl rfl hl.1 rfl (lv_room (Nat.le_of_ble_eq_true rfl)) dX12_keep_12 ⟨Nat.zero_le _, Nat.zero_le _⟩) (fun z_v3 => ?_)
    refine lv_if_ne (tgt := 20) hx hb dX12_keep_15 (by decide) (fun c4 => ?_) (fun c4 => ?_)
    · have h := it_t c4 h
      refine lv_aload_n hx hb dX12_keep_20 rfl (lv_at hl 0 rfl) ?_
      refine lv_iload_n hx hb dX12_keep_21 rfl (lv_at hl 1 rfl) ?_
      refine lv_iload_n hx hb dX12_keep_22 rfl (lv_at hl 2 rfl) ?_
      refine lv_iload_n hx hb dX12_keep_23 rfl (lv_at hl 3 rfl) ?_
      refine lv_iload hx hb dX12_keep_24 (lv_at hl 5 rfl) ?_
      obtain ⟨v5, hc_v5, h⟩ := bd_some h
      refine mcallS (va_runV (As := [.int x1, .int x2, .int x3, .int x5]) (rest := []) ⟨hx, hb, hml, hown, hts⟩ (kX12_against l D cs a σ x1 x2 x3 x5 v5 hc_v5) (cwV 4 hts gX12_keep_X12_against rfl rfl rfl (by decide +kernel) ⟨Nat.le_of_ble_eq_true rfl, Nat.le_of_ble_eq_true rfl⟩) (pR_v hP hK (va_recv hK.1 hP (ci := 11) (q0 := 0) rfl rfl)) rfl rfl hl.1 rfl (lv_room (Nat.le_of_ble_eq_true rfl)) dX12_keep_26 ⟨Nat.zero_le _, Nat.zero_le _⟩) ?_
      refine lv_istore (lv' := [(6, .int v5), (0, .ref (a 0)), (1, .int x1), (2, .int x2), (3, .int x3), (4, .int x4), (5, .int x5)]) hx hb dX12_keep_29 hl (by decide) rfl (fun ls hl => ?_)
      refine lv_iload hx hb dX12_keep_31 (lv_at hl 0 rfl) ?_
      refine lv_if_ge (tgt := 39) hx hb dX12_keep_33 (by decide) (fun c6 => ?_) (fun c6 => ?_)
      · have h := it_t c6 h
        refine lv_iconst (v := (0 : Int32)) hx hb dX12_keep_39 (by decide) ?_
        refine lv_istore (lv' := [(7, .int (0 : Int32)), (6, .int v5), (0, .ref (a 0)), (1, .int x1), (2, .int x2), (3, .int x3), (4, .int x4), (5, .int x5)]) hx hb dX12_keep_40 hl (by decide) rfl (fun ls hl => ?_)
        refine wX12_keep_L42 C hK hA r u9 F x1 x3 x4 x5 _ ?_ F (0 : Int32) σ _ _ ls hP hD hS (lv_sub hl [2, 3, 5, 6, 7, 0] rfl) h
        intro σ7 H locs ls hP hD hS hl h
        refine lv_iload hx hb dX12_keep_80 (lv_at hl 0 rfl) ?_
        exact mretQ hx hb hr hlk h hP hD hS dX12_keep_82
      · have h := it_f c6 h
        refine lv_iload hx hb dX12_keep_36 (lv_at hl 0 rfl) ?_
        exact mretQ hx hb hr hlk h hP hD hS dX12_keep_38
    · have h := it_n c4 h
      refine lv_iconst (v := ((-1) : Int32)) hx hb dX12_keep_18 (by decide) ?_
      exact mretQ hx hb hr hlk h hP hD hS dX12_keep_19
