def fX11_keep_L46 (F : Nat) (sh : Nat → Option Nat) (Z : ZT) (x1 : Int32) (x3 : Int32) (x4 : Int32) (x5 : Int32) (kx : (Nat → Nat → Int32) → Option (Int32 × (Nat → Nat → Int32))) : Nat → Int32 → (Nat → Nat → Int32) → Option (Int32 × (Nat → Nat → Int32))
  | 0, _, _ => none
  | n+1, x7, σ =>
    nb ((fun x7 σ => fX11_keep_L46 F sh Z x1 x3 x4 x5 kx n x7 σ)) fun kb =>
    if x5 ≤ x7 then (kx σ) else (sw4 x1 fun k11a k11b k11c => bd (fX3_colourOf sh Z σ (x4 + x7)) fun v12 => bd (fX7_write k11a k11b k11c sh Z σ (x3 + x7) v12) fun σ14 => kb (x7 + (1 : Int32)) σ14)
def fX11_keep (F : Nat) (sh : Nat → Option Nat) (Z : ZT) (σ : Nat → Nat → Int32) (x1 : Int32) (x2 : Int32) (x3 : Int32) (x4 : Int32) (x5 : Int32) : Option (Int32 × (Nat → Nat → Int32)) :=
  bd (fX11_isSheetAndLane x1 x2) fun v1 => if v1 = 0 then (some (((-1) : Int32), σ)) else (bd (fX11_areCells x4 x5) fun v3 => if ¬ v3 = 0 then (sw4 x1 fun k6a k6b k6c => bd (fX7_refusal k6a k6b k6c sh Z σ x2 x3 x5) fun v7 => if v7 = 0 then (fX11_keep_L46 F sh Z x1 x3 x4 x5 (fun σ9 => some (x5, σ9)) F (0 : Int32) σ) else (some (v7, σ))) else (some (((-1) : Int32), σ)))
abbrev rmX11_keep : Room := { frames := 2, cells := 0, slots := 0, locals := 43 }
theorem inX11_X11_keep : ∀ w ∈ wsX110, w ∈ wsX11_keep := by intro w h; simp only [wsX11_keep, List.mem_cons, List.mem_append]; simp only [h, true_or, or_true]
set_option maxHeartbeats 4000000 in
set_option maxRecDepth 100000 in
theorem wX11_keep_L46 {p : Program} {l : Launch} {e : Env} {s : State} {m : MethodId} {args : Array Value} {below : List Frame} {meth : Method} {c : Code} (C : cxt p s m args meth c cX11_keep 8 RX11 wsX11_keep (some .int)) {D : va_G} {cs : Nat → ClassId} {a : Nat → Nat} {sh : Nat → Option Nat} {LP : List Nat} {Z : ZT} (hZ : shOK sh LP Z) (hK : KK D cs s) {A : Nat → Prop} (hA : ∀ q, s.heap.size ≤ q → A q) (r : Int32) (u9 : Nat → Nat → Int32) (F : Nat) (x1 : Int32) (x3 : Int32) (x4 : Int32) (x5 : Int32) (kx : (Nat → Nat → Int32) → Option (Int32 × (Nat → Nat → Int32))) (hkx : ∀ (σ : Nat → Nat → Int32) (H : Heap) (locs : List Loc) (ls : Array Slot), va_P D vwCl (cW a cs sh LP Z σ) H → va_D A (cW a cs sh LP Z σ) → va_S A s.heap H locs → lv_has ls 8 [(5, .int x5)] → kx σ = some (r, u9) → W p l e rmX11_keep s m args below meth c H locs 0 0 (MQ below (va_Qi (fun x y => x = r ∧ y = u9) (qB D (cW a cs sh LP Z) A) A) args s 0 0 A) (F0 m 84 ls [])) : ∀ (n : Nat) (x7 : Int32) (σ : Nat → Nat → Int32) (H : Heap) (locs : List Loc) (ls : Array Slot), va_P D vwCl (cW a cs sh LP Z σ) H → va_D A (cW a cs sh LP Z σ) → va_S A s.heap H locs → lv_has ls 8 [(0, .ref (a 0)), (1, .int x1), (3, .int x3), (4, .int x4), (5, .int x5), (7, .int x7)] → fX11_keep_L46 F sh Z x1 x3 x4 x5 kx n x7 σ = some (r, u9) → W p l e rmX11_keep s m args below meth c H locs 0 0 (MQ below (va_Qi (fun x y => x = r ∧ y = u9) (qB D (cW a cs sh LP Z) A) A) args s 0 0 A) (F0 m 46 ls []) := by
  obtain ⟨hx, hb, hml, hown, hts, hr, hlk⟩ := id C
  intro n
  induction n with
  | zero =>
    intros
    rename_i h
    cases h
  | succ n ih =>
    intro x7 σ H locs ls hP hD hS hl h
    rw [fX11_keep_L46] at h
    obtain ⟨kb, hkb, h⟩ := nb_some (P := fun (kb : Int32 → (Nat → Nat → Int32) → Option (Int32 × (Nat → Nat → Int32))) => ∀ (x7 : Int32) (σ : Nat → Nat → Int32) (H : Heap) (locs : List Loc) (ls : Array Slot), va_P D vwCl (cW a cs sh LP Z σ) H → va_D A (cW a cs sh LP Z σ) → va_S A s.heap H locs → lv_has ls 8 [(0, .ref (a 0)), (1, .int x1), (3, .int x3), (4, .int x4), (5, .int x5), (7, .int x7)] → kb x7 σ = some (r, u9) → W p l e rmX11_keep s m args below meth c H locs 0 0 (MQ below (va_Qi (fun x y => x = r ∧ y = u9) (qB D (cW a cs sh LP Z) A) A) args s 0 0 A) (F0 m 46 ls [])) h ih
    refine lv_iload hx hb dX11_keep_46 (lv_at hl 5 rfl) ?_
    refine lv_iload hx hb dX11_keep_48 (lv_at hl 4 rfl) ?_
    refine lv_icmp_ge (tgt := 84) hx hb dX11_keep_50 (by decide) (fun c9 => ?_) (fun c9 => ?_)
    · have h := it_t c9 h
      exact hkx σ _ _ ls hP hD hS (lv_sub hl [4] rfl) h
    · have h := it_f c9 h
      refine lv_aload_n hx hb dX11_keep_53 rfl (lv_at hl 0 rfl) ?_
      refine va_get (D := D) (ci := 10) (v := .ref (a 24)) (C := RX11) (T := TX11) (N := 5) hx hb hts inX11_X11_keep hown hK.1 hP 0 rfl rfl 4 (by decide) (hts (.fieldLink RX11 39 "SandPalace" "sheets" "[LSandPalace$Sheet;") (by decide +kernel)) (fun _ h9 => h9) rfl dX11_keep_54 ?_
      refine lv_iload_n hx hb dX11_keep_57 rfl (lv_at hl 1 rfl) ?_
      rcases sw4_some h with ⟨c10, h⟩ | ⟨c10, h⟩ | ⟨c10, h⟩ | ⟨c10, h⟩
      · refine msald hx hb hK.1 hP 24 3 rfl rfl (vin4_0 c10) (by rw [c10] <;> rfl) dX11_keep_58 ?_
        refine lv_iload_n hx hb dX11_keep_59 rfl (lv_at hl 2 rfl) ?_
        refine lv_iload hx hb dX11_keep_60 (lv_at hl 5 rfl) ?_
        refine lv_iadd hx hb dX11_keep_62 ?_
        refine lv_aload_n hx hb dX11_keep_63 rfl (lv_at hl 0 rfl) ?_
        refine va_get (D := D) (ci := 10) (v := .ref (a 14)) (C := RX11) (T := TX11) (N := 5) hx hb hts inX11_X11_keep hown hK.1 hP 0 rfl rfl 2 (by decide) (hts (.fieldLink RX11 26 "SandPalace" "print" "LSandPalace$Photo;") (by decide +kernel)) (fun _ h9 => h9) rfl dX11_keep_64 ?_
        refine lv_iload hx hb dX11_keep_67 (lv_at hl 3 rfl) ?_
        refine lv_iload hx hb dX11_keep_69 (lv_at hl 5 rfl) ?_
        refine lv_iadd hx hb dX11_keep_71 ?_
        obtain ⟨v12, hc_v12, h⟩ := bd_some h
        refine mcallS (va_runV (As := [.int (x4 + x7)]) (rest := [.int (x3 + x7), .ref (a 25)]) ⟨hx, hb, hml, hown, hts⟩ (kX3_colourOf l D cs a sh LP Z hZ σ (x4 + x7) v12 hc_v12) (cwV 1 hts gX11_keep_X3_colourOf rfl rfl rfl (by decide +kernel) ⟨Nat.le_of_ble_eq_true rfl, Nat.le_of_ble_eq_true rfl⟩) (pR_v hP hK (va_recv hK.1 hP (ci := 3) (q0 := 14) rfl rfl)) rfl rfl hl.1 rfl (lv_room (Nat.le_of_ble_eq_true rfl)) dX11_keep_72 ⟨Nat.zero_le _, Nat.zero_le _⟩) ?_
        obtain ⟨σ14, hc_v13, h⟩ := bd_some h
        refine mcallQV (wf := (cW a cs sh LP Z)) (va_runV (As := [.int (x3 + x7), .int v12]) (rest := []) ⟨hx, hb, hml, hown, hts⟩ (kX7_write_29 l D cs a sh LP Z hZ σ (x3 + x7) v12 σ14 hc_v13 _) (cwV 2 hts gX11_keep_X7_write rfl rfl rfl (by decide +kernel) ⟨Nat.le_of_ble_eq_true rfl, Nat.le_of_ble_eq_true rfl⟩) (pQ_v hP hK hD (va_recv hK.1 hP (ci := 6) (q0 := 25) rfl rfl)) rfl rfl hl.1 rfl (lv_room (Nat.le_of_ble_eq_true rfl)) dX11_keep_75 ⟨Nat.zero_le _, Nat.zero_le _⟩) hD hS hA (fun H locs hP hD hS => ?_)
        refine lv_iinc (v := x7 + (1 : Int32)) (lv' := [(7, .int (x7 + (1 : Int32))), (0, .ref (a 0)), (1, .int x1), (3, .int x3), (4, .int x4), (5, .int x5)]) hx hb dX11_keep_78 hl (k := 5) rfl rfl (by decide) rfl (fun ls hl => ?_)
        refine lv_goto (tgt := 46) hx hb dX11_keep_81 (by decide) ?_
        exact hkb (x7 + (1 : Int32)) σ14 _ _ ls hP hD hS (lv_sub hl [1, 2, 3, 4, 5, 0] rfl) h
      · refine msald hx hb hK.1 hP 24 3 rfl rfl (vin4_1 c10) (by rw [c10] <;> rfl) dX11_keep_58 ?_
        refine lv_iload_n hx hb dX11_keep_59 rfl (lv_at hl 2 rfl) ?_
        refine lv_iload hx hb dX11_keep_60 (lv_at hl 5 rfl) ?_
        refine lv_iadd hx hb dX11_keep_62 ?_
        refine lv_aload_n hx hb dX11_keep_63 rfl (lv_at hl 0 rfl) ?_
        refine va_get (D := D) (ci := 10) (v := .ref (a 14)) (C := RX11) (T := TX11) (N := 5) hx hb hts inX11_X11_keep hown hK.1 hP 0 rfl rfl 2 (by decide) (hts (.fieldLink RX11 26 "SandPalace" "print" "LSandPalace$Photo;") (by decide +kernel)) (fun _ h9 => h9) rfl dX11_keep_64 ?_
        refine lv_iload hx hb dX11_keep_67 (lv_at hl 3 rfl) ?_
        refine lv_iload hx hb dX11_keep_69 (lv_at hl 5 rfl) ?_
        refine lv_iadd hx hb dX11_keep_71 ?_
        obtain ⟨v12, hc_v12, h⟩ := bd_some h
        refine mcallS (va_runV (As := [.int (x4 + x7)]) (rest := [.int (x3 + x7), .ref (a 26)]) ⟨hx, hb, hml, hown, hts⟩ (kX3_colourOf l D cs a sh LP Z hZ σ (x4 + x7) v12 hc_v12) (cwV 1 hts gX11_keep_X3_colourOf rfl rfl rfl (by decide +kernel) ⟨Nat.le_of_ble_eq_true rfl, Nat.le_of_ble_eq_true rfl⟩) (pR_v hP hK (va_recv hK.1 hP (ci := 3) (q0 := 14) rfl rfl)) rfl rfl hl.1 rfl (lv_room (Nat.le_of_ble_eq_true rfl)) dX11_keep_72 ⟨Nat.zero_le _, Nat.zero_le _⟩) ?_
        obtain ⟨σ14, hc_v13, h⟩ := bd_some h
        refine mcallQV (wf := (cW a cs sh LP Z)) (va_runV (As := [.int (x3 + x7), .int v12]) (rest := []) ⟨hx, hb, hml, hown, hts⟩ (kX7_write_30 l D cs a sh LP Z hZ σ (x3 + x7) v12 σ14 hc_v13 _) (cwV 2 hts gX11_keep_X7_write rfl rfl rfl (by decide +kernel) ⟨Nat.le_of_ble_eq_true rfl, Nat.le_of_ble_eq_true rfl⟩) (pQ_v hP hK hD (va_recv hK.1 hP (ci := 6) (q0 := 26) rfl rfl)) rfl rfl hl.1 rfl (lv_room (Nat.le_of_ble_eq_true rfl)) dX11_keep_75 ⟨Nat.zero_le _, Nat.zero_le _⟩) hD hS hA (fun H locs hP hD hS => ?_)
        refine lv_iinc (v := x7 + (1 : Int32)) (lv' := [(7, .int (x7 + (1 : Int32))), (0, .ref (a 0)), (1, .int x1), (3, .int x3), (4, .int x4), (5, .int x5)]) hx hb dX11_keep_78 hl (k := 5) rfl rfl (by decide) rfl (fun ls hl => ?_)
        refine lv_goto (tgt := 46) hx hb dX11_keep_81 (by decide) ?_
        exact hkb (x7 + (1 : Int32)) σ14 _ _ ls hP hD hS (lv_sub hl [1, 2, 3, 4, 5, 0] rfl) h
      · refine msald hx hb hK.1 hP 24 3 rfl rfl (vin4_2 c10) (by rw [c10] <;> rfl) dX11_keep_58 ?_
        refine lv_iload_n hx hb dX11_keep_59 rfl (lv_at hl 2 rfl) ?_
        refine lv_iload hx hb dX11_keep_60 (lv_at hl 5 rfl) ?_
        refine lv_iadd hx hb dX11_keep_62 ?_
        refine lv_aload_n hx hb dX11_keep_63 rfl (lv_at hl 0 rfl) ?_
        refine va_get (D := D) (ci := 10) (v := .ref (a 14)) (C := RX11) (T := TX11) (N := 5) hx hb hts inX11_X11_keep hown hK.1 hP 0 rfl rfl 2 (by decide) (hts (.fieldLink RX11 26 "SandPalace" "print" "LSandPalace$Photo;") (by decide +kernel)) (fun _ h9 => h9) rfl dX11_keep_64 ?_
        refine lv_iload hx hb dX11_keep_67 (lv_at hl 3 rfl) ?_
        refine lv_iload hx hb dX11_keep_69 (lv_at hl 5 rfl) ?_
        refine lv_iadd hx hb dX11_keep_71 ?_
        obtain ⟨v12, hc_v12, h⟩ := bd_some h
        refine mcallS (va_runV (As := [.int (x4 + x7)]) (rest := [.int (x3 + x7), .ref (a 27)]) ⟨hx, hb, hml, hown, hts⟩ (kX3_colourOf l D cs a sh LP Z hZ σ (x4 + x7) v12 hc_v12) (cwV 1 hts gX11_keep_X3_colourOf rfl rfl rfl (by decide +kernel) ⟨Nat.le_of_ble_eq_true rfl, Nat.le_of_ble_eq_true rfl⟩) (pR_v hP hK (va_recv hK.1 hP (ci := 3) (q0 := 14) rfl rfl)) rfl rfl hl.1 rfl (lv_room (Nat.le_of_ble_eq_true rfl)) dX11_keep_72 ⟨Nat.zero_le _, Nat.zero_le _⟩) ?_
        obtain ⟨σ14, hc_v13, h⟩ := bd_some h
        refine mcallQV (wf := (cW a cs sh LP Z)) (va_runV (As := [.int (x3 + x7), .int v12]) (rest := []) ⟨hx, hb, hml, hown, hts⟩ (kX7_write_31 l D cs a sh LP Z hZ σ (x3 + x7) v12 σ14 hc_v13 _) (cwV 2 hts gX11_keep_X7_write rfl rfl rfl (by decide +kernel) ⟨Nat.le_of_ble_eq_true rfl, Nat.le_of_ble_eq_true rfl⟩) (pQ_v hP hK hD (va_recv hK.1 hP (ci := 6) (q0 := 27) rfl rfl)) rfl rfl hl.1 rfl (lv_room (Nat.le_of_ble_eq_true rfl)) dX11_keep_75 ⟨Nat.zero_le _, Nat.zero_le _⟩) hD hS hA (fun H locs hP hD hS => ?_)
        refine lv_iinc (v := x7 + (1 : Int32)) (lv' := [(7, .int (x7 + (1 : Int32))), (0, .ref (a 0)), (1, .int x1), (3, .int x3), (4, .int x4), (5, .int x5)]) hx hb dX11_keep_78 hl (k := 5) rfl rfl (by decide) rfl (fun ls hl => ?_)
        refine lv_goto (tgt := 46) hx hb dX11_keep_81 (by decide) ?_
        exact hkb (x7 + (1 : Int32)) σ14 _ _ ls hP hD hS (lv_sub hl [1, 2, 3, 4, 5, 0] rfl) h
      · refine msald hx hb hK.1 hP 24 3 rfl rfl (vin4_3 c10) (by rw [c10] <;> rfl) dX11_keep_58 ?_
        refine lv_iload_n hx hb dX11_keep_59 rfl (lv_at hl 2 rfl) ?_
        refine lv_iload hx hb dX11_keep_60 (lv_at hl 5 rfl) ?_
        refine lv_iadd hx hb dX11_keep_62 ?_
        refine lv_aload_n hx hb dX11_keep_63 rfl (lv_at hl 0 rfl) ?_
        refine va_get (D := D) (ci := 10) (v := .ref (a 14)) (C := RX11) (T := TX11) (N := 5) hx hb hts inX11_X11_keep hown hK.1 hP 0 rfl rfl 2 (by decide) (hts (.fieldLink RX11 26 "SandPalace" "print" "LSandPalace$Photo;") (by decide +kernel)) (fun _ h9 => h9) rfl dX11_keep_64 ?_
        refine lv_iload hx hb dX11_keep_67 (lv_at hl 3 rfl) ?_
        refine lv_iload hx hb dX11_keep_69 (lv_at hl 5 rfl) ?_
        refine lv_iadd hx hb dX11_keep_71 ?_
        obtain ⟨v12, hc_v12, h⟩ := bd_some h
        refine mcallS (va_runV (As := [.int (x4 + x7)]) (rest := [.int (x3 + x7), .ref (a 28)]) ⟨hx, hb, hml, hown, hts⟩ (kX3_colourOf l D cs a sh LP Z hZ σ (x4 + x7) v12 hc_v12) (cwV 1 hts gX11_keep_X3_colourOf rfl rfl rfl (by decide +kernel) ⟨Nat.le_of_ble_eq_true rfl, Nat.le_of_ble_eq_true rfl⟩) (pR_v hP hK (va_recv hK.1 hP (ci := 3) (q0 := 14) rfl rfl)) rfl rfl hl.1 rfl (lv_room (Nat.le_of_ble_eq_true rfl)) dX11_keep_72 ⟨Nat.zero_le _, Nat.zero_le _⟩) ?_
        obtain ⟨σ14, hc_v13, h⟩ := bd_some h
        refine mcallQV (wf := (cW a cs sh LP Z)) (va_runV (As := [.int (x3 + x7), .int v12]) (rest := []) ⟨hx, hb, hml, hown, hts⟩ (kX7_write_32 l D cs a sh LP Z hZ σ (x3 + x7) v12 σ14 hc_v13 _) (cwV 2 hts gX11_keep_X7_write rfl rfl rfl (by decide +kernel) ⟨Nat.le_of_ble_eq_true rfl, Nat.le_of_ble_eq_true rfl⟩) (pQ_v hP hK hD (va_recv hK.1 hP (ci := 6) (q0 := 28) rfl rfl)) rfl rfl hl.1 rfl (lv_room (Nat.le_of_ble_eq_true rfl)) dX11_keep_75 ⟨Nat.zero_le _, Nat.zero_le _⟩) hD hS hA (fun H locs hP hD hS => ?_)
        refine lv_iinc (v := x7 + (1 : Int32)) (lv' := [(7, .int (x7 + (1 : Int32))), (0, .ref (a 0)), (1, .int x1), (3, .int x3), (4, .int x4), (5, .int x5)]) hx hb dX11_keep_78 hl (k := 5) rfl rfl (by decide) rfl (fun ls hl => ?_)
        refine lv_goto (tgt := 46) hx hb dX11_keep_81 (by decide) ?_
        exact hkb (x7 + (1 : Int32)) σ14 _ _ ls hP hD hS (lv_sub hl [1, 2, 3, 4, 5, 0] rfl) h
set_option maxHeartbeats 4000000 in
set_option maxRecDepth 100000 in
theorem kX11_keep (l : Launch) (D : va_G) (cs : Nat → ClassId) (a : Nat → Nat) (sh : Nat → Option Nat) (LP : List Nat) (Z : ZT) (hZ : shOK sh LP Z) (σ : Nat → Nat → Int32) (F : Nat) (x1 : Int32) (x2 : Int32) (x3 : Int32) (x4 : Int32) (x5 : Int32) (r : Int32) (u9 : Nat → Nat → Int32) (h : fX11_keep F sh Z σ x1 x2 x3 x4 x5 = some (r, u9)) (sz : Nat) : Met l yX11_keep wsX11_keep rmX11_keep (va_Pc [.ref (a 0), .int x1, .int x2, .int x3, .int x4, .int x5] (pQ D cs (cW a cs sh LP Z σ) sz)) (va_Qi (fun x y => x = r ∧ y = u9) (qB D (cW a cs sh LP Z) (va_A (cW a cs sh LP Z σ) sz)) (va_A (cW a cs sh LP Z σ) sz)) 0 0 (va_A (cW a cs sh LP Z σ) sz) := by
  refine Met.ofW (cc := cX11_keep) (maxL := 8) (ret := (some .int)) (by decide) rfl ?_
  intro p e s m args below meth c s₁ B hml hv
  obtain ⟨rfl, hsz, hP, hK, hD0⟩ := hv
  have C : cxt p s m _ meth c cX11_keep 8 RX11 wsX11_keep (some .int) := ⟨B.exec, B.bytes, hml, findClass_of_methodNamed B.named, atoms_spec (ws := wsX11_keep) B.pre, B.returns, B.notSynchronized⟩
  obtain ⟨hx, hb, -, hown, hts, hr, hlk⟩ := id C
  subst hsz
  have hD := hD0.self (sz := s.heap.size)
  generalize hAe : va_A (cW a cs sh LP Z σ) s.heap.size = A at hD ⊢
  have hA : ∀ q : Nat, s.heap.size ≤ q → A q := fun q h => by rw [← hAe]; exact Or.inr h
  have hS : va_S A s.heap s.heap [] := va_S.rf
  refine entryW [.ref (a 0), .int x1, .int x2, .int x3, .int x4, .int x5] (n := 8) (Nat.le_of_ble_eq_true rfl) (fun ls hl => ?_)
  have hl : lv_has ls 8 [(0, .ref (a 0)), (1, .int x1), (2, .int x2), (3, .int x3), (4, .int x4), (5, .int x5)] := hl
  unfold fX11_keep at h
  refine lv_iload_n hx hb dX11_keep_0 rfl (lv_at hl 1 rfl) ?_
  refine lv_iload_n hx hb dX11_keep_1 rfl (lv_at hl 2 rfl) ?_
  obtain ⟨v1, hc_v1, h⟩ := bd_some h
  refine mcallSZ (va_runS (As := [.int x1, .int x2]) (rest := []) ⟨hx, hb, hml, hown, hts⟩ (kX11_isSheetAndLane l x1 x2 v1 hc_v1) (va_cwS 2 hts gX11_keep_X11_isSheetAndLane rfl rfl rfl (by decide +kernel) ⟨Nat.le_of_ble_eq_true rfl, Nat.le_of_ble_eq_true rfl⟩) p0_s rfl rfl hl.1 rfl (lv_room (Nat.le_of_ble_eq_true rfl)) dX11_keep_2 ⟨Nat.zero_le _, Nat.zero_le _⟩) (fun z_v1 => ?_)
  refine lv_if_eq (tgt := 18) hx hb dX11_keep_5 (by decide) (fun c2 => ?_) (fun c2 => ?_)
  · have h := it_t c2 h
    refine lv_iconst (v := ((-1) : Int32)) hx hb dX11_keep_18 (by decide) ?_
    exact mretQ hx hb hr hlk h hP hD hS dX11_keep_19
  · have h := it_f c2 h
    refine lv_iload hx hb dX11_keep_8 (lv_at hl 4 rfl) ?_
    refine lv_iload hx hb dX11_keep_10 (lv_at hl 5 rfl) ?_
    obtain ⟨v3, hc_v3, h⟩ := bd_some h
    refine mcallSZ (va_runS (As := [.int x4, .int x5]) (rest := []) ⟨hx, hb, hml, hown, hts⟩ (kX11_areCells l x4 x5 v3 hc_v3) (va_cwS 2 hts gX11_keep_X11_areCells rfl rfl rfl (by decide +kernel) ⟨Nat.le_of_ble_eq_true rfl, Nat.le_of_ble_eq_true rfl⟩) p0_s rfl rfl hl.1 rfl (lv_room (Nat.le_of_ble_eq_true rfl)) dX11_keep_12 ⟨Nat.zero_le _, Nat.zero_le _⟩) (fun z_v3 => ?_)
    refine lv_if_ne (tgt := 20) hx hb dX11_keep_15 (by decide) (fun c4 => ?_) (fun c4 => ?_)
    · have h := it_t c4 h
      refine lv_aload_n hx hb dX11_keep_20 rfl (lv_at hl 0 rfl) ?_
      refine va_get (D := D) (ci := 10) (v := .ref (a 24)) (C := RX11) (T := TX11) (N := 5) hx hb hts inX11_X11_keep hown hK.1 hP 0 rfl rfl 4 (by decide) (hts (.fieldLink RX11 39 "SandPalace" "sheets" "[LSandPalace$Sheet;") (by decide +kernel)) (fun _ h9 => h9) rfl dX11_keep_21 ?_
      refine lv_iload_n hx hb dX11_keep_24 rfl (lv_at hl 1 rfl) ?_
      rcases sw4_some h with ⟨c5, h⟩ | ⟨c5, h⟩ | ⟨c5, h⟩ | ⟨c5, h⟩
      · refine msald hx hb hK.1 hP 24 3 rfl rfl (vin4_0 c5) (by rw [c5] <;> rfl) dX11_keep_25 ?_
        refine lv_iload_n hx hb dX11_keep_26 rfl (lv_at hl 2 rfl) ?_
        refine lv_iload_n hx hb dX11_keep_27 rfl (lv_at hl 3 rfl) ?_
        refine lv_iload hx hb dX11_keep_28 (lv_at hl 5 rfl) ?_
        obtain ⟨v7, hc_v7, h⟩ := bd_some h
        refine mcallS (va_runV (As := [.int x2, .int x3, .int x5]) (rest := []) ⟨hx, hb, hml, hown, hts⟩ (kX7_refusal_29 l D cs a sh LP Z hZ σ x2 x3 x5 v7 hc_v7) (cwV 3 hts gX11_keep_X7_refusal rfl rfl rfl (by decide +kernel) ⟨Nat.le_of_ble_eq_true rfl, Nat.le_of_ble_eq_true rfl⟩) (pR_v hP hK (va_recv hK.1 hP (ci := 6) (q0 := 25) rfl rfl)) rfl rfl hl.1 rfl (lv_room (Nat.le_of_ble_eq_true rfl)) dX11_keep_30 ⟨Nat.zero_le _, Nat.zero_le _⟩) ?_
        refine lv_istore (lv' := [(6, .int v7), (0, .ref (a 0)), (1, .int x1), (2, .int x2), (3, .int x3), (4, .int x4), (5, .int x5)]) hx hb dX11_keep_33 hl (by decide) rfl (fun ls hl => ?_)
        refine lv_iload hx hb dX11_keep_35 (lv_at hl 0 rfl) ?_
        refine lv_if_eq (tgt := 43) hx hb dX11_keep_37 (by decide) (fun c8 => ?_) (fun c8 => ?_)
        · have h := it_t c8 h
          refine lv_iconst (v := (0 : Int32)) hx hb dX11_keep_43 (by decide) ?_
          refine lv_istore (lv' := [(7, .int (0 : Int32)), (6, .int v7), (0, .ref (a 0)), (1, .int x1), (2, .int x2), (3, .int x3), (4, .int x4), (5, .int x5)]) hx hb dX11_keep_44 hl (by decide) rfl (fun ls hl => ?_)
          refine wX11_keep_L46 C hZ hK hA r u9 F x1 x3 x4 x5 _ ?_ F (0 : Int32) σ _ _ ls hP hD hS (lv_sub hl [2, 3, 5, 6, 7, 0] rfl) h
          intro σ9 H locs ls hP hD hS hl h
          refine lv_iload hx hb dX11_keep_84 (lv_at hl 0 rfl) ?_
          exact mretQ hx hb hr hlk h hP hD hS dX11_keep_86
        · have h := it_f c8 h
          refine lv_iload hx hb dX11_keep_40 (lv_at hl 0 rfl) ?_
          exact mretQ hx hb hr hlk h hP hD hS dX11_keep_42
      · refine msald hx hb hK.1 hP 24 3 rfl rfl (vin4_1 c5) (by rw [c5] <;> rfl) dX11_keep_25 ?_
        refine lv_iload_n hx hb dX11_keep_26 rfl (lv_at hl 2 rfl) ?_
        refine lv_iload_n hx hb dX11_keep_27 rfl (lv_at hl 3 rfl) ?_
        refine lv_iload hx hb dX11_keep_28 (lv_at hl 5 rfl) ?_
        obtain ⟨v7, hc_v7, h⟩ := bd_some h
        refine mcallS (va_runV (As := [.int x2, .int x3, .int x5]) (rest := []) ⟨hx, hb, hml, hown, hts⟩ (kX7_refusal_30 l D cs a sh LP Z hZ σ x2 x3 x5 v7 hc_v7) (cwV 3 hts gX11_keep_X7_refusal rfl rfl rfl (by decide +kernel) ⟨Nat.le_of_ble_eq_true rfl, Nat.le_of_ble_eq_true rfl⟩) (pR_v hP hK (va_recv hK.1 hP (ci := 6) (q0 := 26) rfl rfl)) rfl rfl hl.1 rfl (lv_room (Nat.le_of_ble_eq_true rfl)) dX11_keep_30 ⟨Nat.zero_le _, Nat.zero_le _⟩) ?_
        refine lv_istore (lv' := [(6, .int v7), (0, .ref (a 0)), (1, .int x1), (2, .int x2), (3, .int x3), (4, .int x4), (5, .int x5)]) hx hb dX11_keep_33 hl (by decide) rfl (fun ls hl => ?_)
        refine lv_iload hx hb dX11_keep_35 (lv_at hl 0 rfl) ?_
        refine lv_if_eq (tgt := 43) hx hb dX11_keep_37 (by decide) (fun c8 => ?_) (fun c8 => ?_)
        · have h := it_t c8 h
          refine lv_iconst (v := (0 : Int32)) hx hb dX11_keep_43 (by decide) ?_
          refine lv_istore (lv' := [(7, .int (0 : Int32)), (6, .int v7), (0, .ref (a 0)), (1, .int x1), (2, .int x2), (3, .int x3), (4, .int x4), (5, .int x5)]) hx hb dX11_keep_44 hl (by decide) rfl (fun ls hl => ?_)
          refine wX11_keep_L46 C hZ hK hA r u9 F x1 x3 x4 x5 _ ?_ F (0 : Int32) σ _ _ ls hP hD hS (lv_sub hl [2, 3, 5, 6, 7, 0] rfl) h
          intro σ9 H locs ls hP hD hS hl h
          refine lv_iload hx hb dX11_keep_84 (lv_at hl 0 rfl) ?_
          exact mretQ hx hb hr hlk h hP hD hS dX11_keep_86
        · have h := it_f c8 h
          refine lv_iload hx hb dX11_keep_40 (lv_at hl 0 rfl) ?_
          exact mretQ hx hb hr hlk h hP hD hS dX11_keep_42
      · refine msald hx hb hK.1 hP 24 3 rfl rfl (vin4_2 c5) (by rw [c5] <;> rfl) dX11_keep_25 ?_
        refine lv_iload_n hx hb dX11_keep_26 rfl (lv_at hl 2 rfl) ?_
        refine lv_iload_n hx hb dX11_keep_27 rfl (lv_at hl 3 rfl) ?_
        refine lv_iload hx hb dX11_keep_28 (lv_at hl 5 rfl) ?_
        obtain ⟨v7, hc_v7, h⟩ := bd_some h
        refine mcallS (va_runV (As := [.int x2, .int x3, .int x5]) (rest := []) ⟨hx, hb, hml, hown, hts⟩ (kX7_refusal_31 l D cs a sh LP Z hZ σ x2 x3 x5 v7 hc_v7) (cwV 3 hts gX11_keep_X7_refusal rfl rfl rfl (by decide +kernel) ⟨Nat.le_of_ble_eq_true rfl, Nat.le_of_ble_eq_true rfl⟩) (pR_v hP hK (va_recv hK.1 hP (ci := 6) (q0 := 27) rfl rfl)) rfl rfl hl.1 rfl (lv_room (Nat.le_of_ble_eq_true rfl)) dX11_keep_30 ⟨Nat.zero_le _, Nat.zero_le _⟩) ?_
        refine lv_istore (lv' := [(6, .int v7), (0, .ref (a 0)), (1, .int x1), (2, .int x2), (3, .int x3), (4, .int x4), (5, .int x5)]) hx hb dX11_keep_33 hl (by decide) rfl (fun ls hl => ?_)
        refine lv_iload hx hb dX11_keep_35 (lv_at hl 0 rfl) ?_
        refine lv_if_eq (tgt := 43) hx hb dX11_keep_37 (by decide) (fun c8 => ?_) (fun c8 => ?_)
        · have h := it_t c8 h
          refine lv_iconst (v := (0 : Int32)) hx hb dX11_keep_43 (by decide) ?_
          refine lv_istore (lv' := [(7, .int (0 : Int32)), (6, .int v7), (0, .ref (a 0)), (1, .int x1), (2, .int x2), (3, .int x3), (4, .int x4), (5, .int x5)]) hx hb dX11_keep_44 hl (by decide) rfl (fun ls hl => ?_)
          refine wX11_keep_L46 C hZ hK hA r u9 F x1 x3 x4 x5 _ ?_ F (0 : Int32) σ _ _ ls hP hD hS (lv_sub hl [2, 3, 5, 6, 7, 0] rfl) h
          intro σ9 H locs ls hP hD hS hl h
          refine lv_iload hx hb dX11_keep_84 (lv_at hl 0 rfl) ?_
          exact mretQ hx hb hr hlk h hP hD hS dX11_keep_86
        · have h := it_f c8 h
          refine lv_iload hx hb dX11_keep_40 (lv_at hl 0 rfl) ?_
          exact mretQ hx hb hr hlk h hP hD hS dX11_keep_42
      · refine msald hx hb hK.1 hP 24 3 rfl rfl (vin4_3 c5) (by rw [c5] <;> rfl) dX11_keep_25 ?_
        refine lv_iload_n hx hb dX11_keep_26 rfl (lv_at hl 2 rfl) ?_
        refine lv_iload_n hx hb dX11_keep_27 rfl (lv_at hl 3 rfl) ?_
        refine lv_iload hx hb dX11_keep_28 (lv_at hl 5 rfl) ?_
        obtain ⟨v7, hc_v7, h⟩ := bd_some h
        refine mcallS (va_runV (As := [.int x2, .int x3, .int x5]) (rest := []) ⟨hx, hb, hml, hown, hts⟩ (kX7_refusal_32 l D cs a sh LP Z hZ σ x2 x3 x5 v7 hc_v7) (cwV 3 hts gX11_keep_X7_refusal rfl rfl rfl (by decide +kernel) ⟨Nat.le_of_ble_eq_true rfl, Nat.le_of_ble_eq_true rfl⟩) (pR_v hP hK (va_recv hK.1 hP (ci := 6) (q0 := 28) rfl rfl)) rfl rfl hl.1 rfl (lv_room (Nat.le_of_ble_eq_true rfl)) dX11_keep_30 ⟨Nat.zero_le _, Nat.zero_le _⟩) ?_
        refine lv_istore (lv' := [(6, .int v7), (0, .ref (a 0)), (1, .int x1), (2, .int x2), (3, .int x3), (4, .int x4), (5, .int x5)]) hx hb dX11_keep_33 hl (by decide) rfl (fun ls hl => ?_)
        refine lv_iload hx hb dX11_keep_35 (lv_at hl 0 rfl) ?_
        refine lv_if_eq (tgt := 43) hx hb dX11_keep_37 (by decide) (fun c8 => ?_) (fun c8 => ?_)
        · have h := it_t c8 h
          refine lv_iconst (v := (0 : Int32)) hx hb dX11_keep_43 (by decide) ?_
          refine lv_istore (lv' := [(7, .int (0 : Int32)), (6, .int v7), (0, .ref (a 0)), (1, .int x1), (2, .int x2), (3, .int x3), (4, .int x4), (5, .int x5)]) hx hb dX11_keep_44 hl (by decide) rfl (fun ls hl => ?_)
          refine wX11_keep_L46 C hZ hK hA r u9 F x1 x3 x4 x5 _ ?_ F (0 : Int32) σ _ _ ls hP hD hS (lv_sub hl [2, 3, 5, 6, 7, 0] rfl) h
          intro σ9 H locs ls hP hD hS hl h
          refine lv_iload hx hb dX11_keep_84 (lv_at hl 0 rfl) ?_
          exact mretQ hx hb hr hlk h hP hD hS dX11_keep_86
        · have h := it_f c8 h
          refine lv_iload hx hb dX11_keep_40 (lv_at hl 0 rfl) ?_
          exact mretQ hx hb hr hlk h hP hD hS dX11_keep_42
    · have h := it_n c4 h
      refine lv_iconst (v := ((-1) : Int32)) hx hb dX11_keep_18 (by decide) ?_
      exact mretQ hx hb hr hlk h hP hD hS dX11_keep_19
def fX11_isSand (x0 : Int32) : Option Int32 :=
  bd (fX11_within x0 (1 : Int32) (9 : Int32)) fun v1 => some v1
abbrev rmX11_isSand : Room := { frames := 1, cells := 0, slots := 0, locals := 22 }
set_option maxHeartbeats 4000000 in
set_option maxRecDepth 100000 in
theorem kX11_isSand (l : Launch) (x0 : Int32) (r : Int32) (h : fX11_isSand x0 = some r) : Met l yX11_isSand wsX11_isSand rmX11_isSand (va_Pc [.int x0] (p0)) (vp_Si (fun x => x = r ∧ (r = 0 ∨ r = 1))) 0 0 (fun _ => False) := by
  refine Met.ofW (cc := cX11_isSand) (maxL := 1) (ret := (some .boolean)) (by decide) rfl ?_
  intro p e s m args below meth c s₁ B hml hv
  obtain ⟨rfl, -⟩ := hv
  have C : cxt p s m _ meth c cX11_isSand 1 RX11 wsX11_isSand (some .boolean) := ⟨B.exec, B.bytes, hml, findClass_of_methodNamed B.named, atoms_spec (ws := wsX11_isSand) B.pre, B.returns, B.notSynchronized⟩
  obtain ⟨hx, hb, -, hown, hts, hr, hlk⟩ := id C
  refine entryW [.int x0] (n := 1) (Nat.le_of_ble_eq_true rfl) (fun ls hl => ?_)
  have hl : lv_has ls 1 [(0, .int x0)] := hl
  unfold fX11_isSand at h
  refine lv_iload_n hx hb dX11_isSand_0 rfl (lv_at hl 0 rfl) ?_
  refine lv_iconst (v := (1 : Int32)) hx hb dX11_isSand_1 (by decide) ?_
  refine lv_bipush (v := (9 : Int32)) hx hb dX11_isSand_2 (by decide) ?_
  obtain ⟨v1, hc_v1, h⟩ := bd_some h
  refine mcallSZ (va_runS (As := [.int x0, .int (1 : Int32), .int (9 : Int32)]) (rest := []) ⟨hx, hb, hml, hown, hts⟩ (kX11_within l x0 (1 : Int32) (9 : Int32) v1 hc_v1) (va_cwS 3 hts gX11_isSand_X11_within rfl rfl rfl (by decide +kernel) ⟨Nat.le_of_ble_eq_true rfl, Nat.le_of_ble_eq_true rfl⟩) p0_s rfl rfl hl.1 rfl (lv_room (Nat.le_of_ble_eq_true rfl)) dX11_isSand_4 ⟨Nat.zero_le _, Nat.zero_le _⟩) (fun z_v1 => ?_)
  exact mretSZ hx hb hr hlk h z_v1 dX11_isSand_7
def fX11_arePlaces (x0 : Int32) (x1 : Int32) (x2 : Int32) (x3 : Int32) : Option Int32 :=
  bd (fX11_within x0 (0 : Int32) (7 : Int32)) fun v1 => if v1 = 0 then (some (0 : Int32)) else (bd (fX11_within x1 (0 : Int32) (7 : Int32)) fun v3 => if v3 = 0 then (some (0 : Int32)) else (bd (fX11_within x2 (0 : Int32) (7 : Int32)) fun v5 => if v5 = 0 then (some (0 : Int32)) else (bd (fX11_within x3 (0 : Int32) (7 : Int32)) fun v7 => if v7 = 0 then (some (0 : Int32)) else (some (1 : Int32)))))
abbrev rmX11_arePlaces : Room := { frames := 1, cells := 0, slots := 0, locals := 22 }
set_option maxHeartbeats 4000000 in
set_option maxRecDepth 100000 in
theorem kX11_arePlaces (l : Launch) (x0 : Int32) (x1 : Int32) (x2 : Int32) (x3 : Int32) (r : Int32) (h : fX11_arePlaces x0 x1 x2 x3 = some r) : Met l yX11_arePlaces wsX11_arePlaces rmX11_arePlaces (va_Pc [.int x0, .int x1, .int x2, .int x3] (p0)) (vp_Si (fun x => x = r ∧ (r = 0 ∨ r = 1))) 0 0 (fun _ => False) := by
  refine Met.ofW (cc := cX11_arePlaces) (maxL := 4) (ret := (some .boolean)) (by decide) rfl ?_
  intro p e s m args below meth c s₁ B hml hv
  obtain ⟨rfl, -⟩ := hv
  have C : cxt p s m _ meth c cX11_arePlaces 4 RX11 wsX11_arePlaces (some .boolean) := ⟨B.exec, B.bytes, hml, findClass_of_methodNamed B.named, atoms_spec (ws := wsX11_arePlaces) B.pre, B.returns, B.notSynchronized⟩
  obtain ⟨hx, hb, -, hown, hts, hr, hlk⟩ := id C
  refine entryW [.int x0, .int x1, .int x2, .int x3] (n := 4) (Nat.le_of_ble_eq_true rfl) (fun ls hl => ?_)
  have hl : lv_has ls 4 [(0, .int x0), (1, .int x1), (2, .int x2), (3, .int x3)] := hl
  unfold fX11_arePlaces at h
  refine lv_iload_n hx hb dX11_arePlaces_0 rfl (lv_at hl 0 rfl) ?_
  refine lv_iconst (v := (0 : Int32)) hx hb dX11_arePlaces_1 (by decide) ?_
  refine lv_bipush (v := (7 : Int32)) hx hb dX11_arePlaces_2 (by decide) ?_
  obtain ⟨v1, hc_v1, h⟩ := bd_some h
  refine mcallSZ (va_runS (As := [.int x0, .int (0 : Int32), .int (7 : Int32)]) (rest := []) ⟨hx, hb, hml, hown, hts⟩ (kX11_within l x0 (0 : Int32) (7 : Int32) v1 hc_v1) (va_cwS 3 hts gX11_arePlaces_X11_within rfl rfl rfl (by decide +kernel) ⟨Nat.le_of_ble_eq_true rfl, Nat.le_of_ble_eq_true rfl⟩) p0_s rfl rfl hl.1 rfl (lv_room (Nat.le_of_ble_eq_true rfl)) dX11_arePlaces_4 ⟨Nat.zero_le _, Nat.zero_le _⟩) (fun z_v1 => ?_)
  refine lv_if_eq (tgt := 44) hx hb dX11_arePlaces_7 (by decide) (fun c2 => ?_) (fun c2 => ?_)
  · have h := it_t c2 h
    refine lv_iconst (v := (0 : Int32)) hx hb dX11_arePlaces_44 (by decide) ?_
    exact mretSZ hx hb hr hlk h (Or.inl rfl) dX11_arePlaces_45
  · have h := it_f c2 h
    refine lv_iload_n hx hb dX11_arePlaces_10 rfl (lv_at hl 1 rfl) ?_
    refine lv_iconst (v := (0 : Int32)) hx hb dX11_arePlaces_11 (by decide) ?_
    refine lv_bipush (v := (7 : Int32)) hx hb dX11_arePlaces_12 (by decide) ?_
    obtain ⟨v3, hc_v3, h⟩ := bd_some h
    refine mcallSZ (va_runS (As := [.int x1, .int (0 : Int32), .int (7 : Int32)]) (rest := []) ⟨hx, hb, hml, hown, hts⟩ (kX11_within l x1 (0 : Int32) (7 : Int32) v3 hc_v3) (va_cwS 3 hts gX11_arePlaces_X11_within rfl rfl rfl (by decide +kernel) ⟨Nat.le_of_ble_eq_true rfl, Nat.le_of_ble_eq_true rfl⟩) p0_s rfl rfl hl.1 rfl (lv_room (Nat.le_of_ble_eq_true rfl)) dX11_arePlaces_14 ⟨Nat.zero_le _, Nat.zero_le _⟩) (fun z_v3 => ?_)
    refine lv_if_eq (tgt := 44) hx hb dX11_arePlaces_17 (by decide) (fun c4 => ?_) (fun c4 => ?_)
    · have h := it_t c4 h
      refine lv_iconst (v := (0 : Int32)) hx hb dX11_arePlaces_44 (by decide) ?_
      exact mretSZ hx hb hr hlk h (Or.inl rfl) dX11_arePlaces_45
    · have h := it_f c4 h
      refine lv_iload_n hx hb dX11_arePlaces_20 rfl (lv_at hl 2 rfl) ?_
      refine lv_iconst (v := (0 : Int32)) hx hb dX11_arePlaces_21 (by decide) ?_
      refine lv_bipush (v := (7 : Int32)) hx hb dX11_arePlaces_22 (by decide) ?_
      obtain ⟨v5, hc_v5, h⟩ := bd_some h
      refine mcallSZ (va_runS (As := [.int x2, .int (0 : Int32), .int (7 : Int32)]) (rest := []) ⟨hx, hb, hml, hown, hts⟩ (kX11_within l x2 (0 : Int32) (7 : Int32) v5 hc_v5) (va_cwS 3 hts gX11_arePlaces_X11_within rfl rfl rfl (by decide +kernel) ⟨Nat.le_of_ble_eq_true rfl, Nat.le_of_ble_eq_true rfl⟩) p0_s rfl rfl hl.1 rfl (lv_room (Nat.le_of_ble_eq_true rfl)) dX11_arePlaces_24 ⟨Nat.zero_le _, Nat.zero_le _⟩) (fun z_v5 => ?_)
      refine lv_if_eq (tgt := 44) hx hb dX11_arePlaces_27 (by decide) (fun c6 => ?_) (fun c6 => ?_)
      · have h := it_t c6 h
        refine lv_iconst (v := (0 : Int32)) hx hb dX11_arePlaces_44 (by decide) ?_
        exact mretSZ hx hb hr hlk h (Or.inl rfl) dX11_arePlaces_45
      · have h := it_f c6 h
        refine lv_iload_n hx hb dX11_arePlaces_30 rfl (lv_at hl 3 rfl) ?_
        refine lv_iconst (v := (0 : Int32)) hx hb dX11_arePlaces_31 (by decide) ?_
        refine lv_bipush (v := (7 : Int32)) hx hb dX11_arePlaces_32 (by decide) ?_
        obtain ⟨v7, hc_v7, h⟩ := bd_some h
        refine mcallSZ (va_runS (As := [.int x3, .int (0 : Int32), .int (7 : Int32)]) (rest := []) ⟨hx, hb, hml, hown, hts⟩ (kX11_within l x3 (0 : Int32) (7 : Int32) v7 hc_v7) (va_cwS 3 hts gX11_arePlaces_X11_within rfl rfl rfl (by decide +kernel) ⟨Nat.le_of_ble_eq_true rfl, Nat.le_of_ble_eq_true rfl⟩) p0_s rfl rfl hl.1 rfl (lv_room (Nat.le_of_ble_eq_true rfl)) dX11_arePlaces_34 ⟨Nat.zero_le _, Nat.zero_le _⟩) (fun z_v7 => ?_)
        refine lv_if_eq (tgt := 44) hx hb dX11_arePlaces_37 (by decide) (fun c8 => ?_) (fun c8 => ?_)
        · have h := it_t c8 h
          refine lv_iconst (v := (0 : Int32)) hx hb dX11_arePlaces_44 (by decide) ?_
          exact mretSZ hx hb hr hlk h (Or.inl rfl) dX11_arePlaces_45
        · have h := it_f c8 h
          refine lv_iconst (v := (1 : Int32)) hx hb dX11_arePlaces_40 (by decide) ?_
          refine lv_goto (tgt := 45) hx hb dX11_arePlaces_41 (by decide) ?_
          exact mretSZ hx hb hr hlk h (Or.inr rfl) dX11_arePlaces_45
