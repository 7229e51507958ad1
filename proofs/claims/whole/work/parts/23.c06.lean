def fX11_day (F : Nat) (sh : Nat → Option Nat) (Z : ZT) (σ : Nat → Nat → Int32) (x1 : Int32) : Option (Int32 × (Nat → Nat → Int32)) :=
  if 0 ≤ x1 then (bd (fX10_plan F sh Z σ) fun σ3 => bd (fX10_shapesOfDay sh Z σ3 x1) fun v4 => some (v4, σ3)) else (some (((-1) : Int32), σ))
abbrev rmX11_day : Room := { frames := 4, cells := 0, slots := 0, locals := 92 }
theorem inX11_X11_day : ∀ w ∈ wsX110, w ∈ wsX11_day := by intro w h; simp only [wsX11_day, List.mem_cons, List.mem_append]; simp only [h, true_or, or_true]
set_option maxHeartbeats 4000000 in
set_option maxRecDepth 100000 in
theorem kX11_day (l : Launch) (D : va_G) (cs : Nat → ClassId) (a : Nat → Nat) (sh : Nat → Option Nat) (LP : List Nat) (Z : ZT) (hZ : shOK sh LP Z) (σ : Nat → Nat → Int32) (F : Nat) (x1 : Int32) (r : Int32) (u9 : Nat → Nat → Int32) (h : fX11_day F sh Z σ x1 = some (r, u9)) (sz : Nat) : Met l yX11_day wsX11_day rmX11_day (va_Pc [.ref (a 0), .int x1] (pQ D cs (cW a cs sh LP Z σ) sz)) (va_Qi (fun x y => x = r ∧ y = u9) (qB D (cW a cs sh LP Z) (va_A (cW a cs sh LP Z σ) sz)) (va_A (cW a cs sh LP Z σ) sz)) 0 0 (va_A (cW a cs sh LP Z σ) sz) := by
  refine Met.ofW (cc := cX11_day) (maxL := 2) (ret := (some .int)) (by decide) rfl ?_
  intro p e s m args below meth c s₁ B hml hv
  obtain ⟨rfl, hsz, hP, hK, hD0⟩ := hv
  have C : cxt p s m _ meth c cX11_day 2 RX11 wsX11_day (some .int) := ⟨B.exec, B.bytes, hml, findClass_of_methodNamed B.named, atoms_spec (ws := wsX11_day) B.pre, B.returns, B.notSynchronized⟩
  obtain ⟨hx, hb, -, hown, hts, hr, hlk⟩ := id C
  subst hsz
  have hD := hD0.self (sz := s.heap.size)
  generalize hAe : va_A (cW a cs sh LP Z σ) s.heap.size = A at hD ⊢
  have hA : ∀ q : Nat, s.heap.size ≤ q → A q := fun q h => by rw [← hAe]; exact Or.inr h
  have hS : va_S A s.heap s.heap [] := va_S.rf
  refine entryW [.ref (a 0), .int x1] (n := 2) (Nat.le_of_ble_eq_true rfl) (fun ls hl => ?_)
  have hl : lv_has ls 2 [(0, .ref (a 0)), (1, .int x1)] := hl
  unfold fX11_day at h
  refine lv_iload_n hx hb dX11_day_0 rfl (lv_at hl 1 rfl) ?_
  refine lv_if_ge (tgt := 6) hx hb dX11_day_1 (by decide) (fun c1 => ?_) (fun c1 => ?_)
  · have h := it_t c1 h
    refine lv_aload_n hx hb dX11_day_6 rfl (lv_at hl 0 rfl) ?_
    refine va_get (D := D) (ci := 10) (v := .ref (a 4)) (C := RX11) (T := TX11) (N := 5) hx hb hts inX11_X11_day hown hK.1 hP 0 rfl rfl 1 (by decide) (hts (.fieldLink RX11 19 "SandPalace" "work" "LSandPalace$Work;") (by decide +kernel)) (fun _ h9 => h9) rfl dX11_day_7 ?_
    refine lv_aload_n hx hb dX11_day_10 rfl (lv_at hl 0 rfl) ?_
    refine va_get (D := D) (ci := 10) (v := .ref (a 1)) (C := RX11) (T := TX11) (N := 5) hx hb hts inX11_X11_day hown hK.1 hP 0 rfl rfl 0 (by decide) (hts (.fieldLink RX11 10 "SandPalace" "picture" "LSandPalace$Picture;") (by decide +kernel)) (fun _ h9 => h9) rfl dX11_day_11 ?_
    obtain ⟨σ3, hc_v2, h⟩ := bd_some h
    refine mcallQV (wf := (cW a cs sh LP Z)) (va_runV (As := [.ref (a 1)]) (rest := []) ⟨hx, hb, hml, hown, hts⟩ (kX10_plan l D cs a sh LP Z hZ σ F σ3 hc_v2 _) (cwV 1 hts gX11_day_X10_plan rfl rfl rfl (by decide +kernel) ⟨Nat.le_of_ble_eq_true rfl, Nat.le_of_ble_eq_true rfl⟩) (pQ_v hP hK hD (va_recv hK.1 hP (ci := 9) (q0 := 4) rfl rfl)) rfl rfl hl.1 rfl (lv_room (Nat.le_of_ble_eq_true rfl)) dX11_day_14 ⟨Nat.zero_le _, Nat.zero_le _⟩) hD hS hA (fun H locs hP hD hS => ?_)
    refine lv_aload_n hx hb dX11_day_17 rfl (lv_at hl 0 rfl) ?_
    refine va_get (D := D) (ci := 10) (v := .ref (a 4)) (C := RX11) (T := TX11) (N := 5) hx hb hts inX11_X11_day hown hK.1 hP 0 rfl rfl 1 (by decide) (hts (.fieldLink RX11 19 "SandPalace" "work" "LSandPalace$Work;") (by decide +kernel)) (fun _ h9 => h9) rfl dX11_day_18 ?_
    refine lv_iload_n hx hb dX11_day_21 rfl (lv_at hl 1 rfl) ?_
    obtain ⟨v4, hc_v4, h⟩ := bd_some h
    refine mcallS (va_runV (As := [.int x1]) (rest := []) ⟨hx, hb, hml, hown, hts⟩ (kX10_shapesOfDay l D cs a sh LP Z hZ σ3 x1 v4 hc_v4) (cwV 1 hts gX11_day_X10_shapesOfDay rfl rfl rfl (by decide +kernel) ⟨Nat.le_of_ble_eq_true rfl, Nat.le_of_ble_eq_true rfl⟩) (pR_v hP hK (va_recv hK.1 hP (ci := 9) (q0 := 4) rfl rfl)) rfl rfl hl.1 rfl (lv_room (Nat.le_of_ble_eq_true rfl)) dX11_day_22 ⟨Nat.zero_le _, Nat.zero_le _⟩) ?_
    exact mretQ hx hb hr hlk h hP hD hS dX11_day_25
  · have h := it_f c1 h
    refine lv_iconst (v := ((-1) : Int32)) hx hb dX11_day_4 (by decide) ?_
    exact mretQ hx hb hr hlk h hP hD hS dX11_day_5
def fX11_poured (F : Nat) (sh : Nat → Option Nat) (Z : ZT) (σ : Nat → Nat → Int32) (x1 : Int32) : Option (Int32 × (Nat → Nat → Int32)) :=
  if 0 ≤ x1 then (bd (fX10_plan F sh Z σ) fun σ3 => bd (fX10_shapeAt sh Z σ3 x1) fun v4 => some (v4, σ3)) else (some (((-1) : Int32), σ))
abbrev rmX11_poured : Room := { frames := 4, cells := 0, slots := 0, locals := 92 }
theorem inX11_X11_poured : ∀ w ∈ wsX110, w ∈ wsX11_poured := by intro w h; simp only [wsX11_poured, List.mem_cons, List.mem_append]; simp only [h, true_or, or_true]
set_option maxHeartbeats 4000000 in
set_option maxRecDepth 100000 in
theorem kX11_poured (l : Launch) (D : va_G) (cs : Nat → ClassId) (a : Nat → Nat) (sh : Nat → Option Nat) (LP : List Nat) (Z : ZT) (hZ : shOK sh LP Z) (σ : Nat → Nat → Int32) (F : Nat) (x1 : Int32) (r : Int32) (u9 : Nat → Nat → Int32) (h : fX11_poured F sh Z σ x1 = some (r, u9)) (sz : Nat) : Met l yX11_poured wsX11_poured rmX11_poured (va_Pc [.ref (a 0), .int x1] (pQ D cs (cW a cs sh LP Z σ) sz)) (va_Qi (fun x y => x = r ∧ y = u9) (qB D (cW a cs sh LP Z) (va_A (cW a cs sh LP Z σ) sz)) (va_A (cW a cs sh LP Z σ) sz)) 0 0 (va_A (cW a cs sh LP Z σ) sz) := by
  refine Met.ofW (cc := cX11_poured) (maxL := 2) (ret := (some .int)) (by decide) rfl ?_
  intro p e s m args below meth c s₁ B hml hv
  obtain ⟨rfl, hsz, hP, hK, hD0⟩ := hv
  have C : cxt p s m _ meth c cX11_poured 2 RX11 wsX11_poured (some .int) := ⟨B.exec, B.bytes, hml, findClass_of_methodNamed B.named, atoms_spec (ws := wsX11_poured) B.pre, B.returns, B.notSynchronized⟩
  obtain ⟨hx, hb, -, hown, hts, hr, hlk⟩ := id C
  subst hsz
  have hD := hD0.self (sz := s.heap.size)
  generalize hAe : va_A (cW a cs sh LP Z σ) s.heap.size = A at hD ⊢
  have hA : ∀ q : Nat, s.heap.size ≤ q → A q := fun q h => by rw [← hAe]; exact Or.inr h
  have hS : va_S A s.heap s.heap [] := va_S.rf
  refine entryW [.ref (a 0), .int x1] (n := 2) (Nat.le_of_ble_eq_true rfl) (fun ls hl => ?_)
  have hl : lv_has ls 2 [(0, .ref (a 0)), (1, .int x1)] := hl
  unfold fX11_poured at h
  refine lv_iload_n hx hb dX11_poured_0 rfl (lv_at hl 1 rfl) ?_
  refine lv_if_ge (tgt := 6) hx hb dX11_poured_1 (by decide) (fun c1 => ?_) (fun c1 => ?_)
  · have h := it_t c1 h
    refine lv_aload_n hx hb dX11_poured_6 rfl (lv_at hl 0 rfl) ?_
    refine va_get (D := D) (ci := 10) (v := .ref (a 4)) (C := RX11) (T := TX11) (N := 5) hx hb hts inX11_X11_poured hown hK.1 hP 0 rfl rfl 1 (by decide) (hts (.fieldLink RX11 19 "SandPalace" "work" "LSandPalace$Work;") (by decide +kernel)) (fun _ h9 => h9) rfl dX11_poured_7 ?_
    refine lv_aload_n hx hb dX11_poured_10 rfl (lv_at hl 0 rfl) ?_
    refine va_get (D := D) (ci := 10) (v := .ref (a 1)) (C := RX11) (T := TX11) (N := 5) hx hb hts inX11_X11_poured hown hK.1 hP 0 rfl rfl 0 (by decide) (hts (.fieldLink RX11 10 "SandPalace" "picture" "LSandPalace$Picture;") (by decide +kernel)) (fun _ h9 => h9) rfl dX11_poured_11 ?_
    obtain ⟨σ3, hc_v2, h⟩ := bd_some h
    refine mcallQV (wf := (cW a cs sh LP Z)) (va_runV (As := [.ref (a 1)]) (rest := []) ⟨hx, hb, hml, hown, hts⟩ (kX10_plan l D cs a sh LP Z hZ σ F σ3 hc_v2 _) (cwV 1 hts gX11_poured_X10_plan rfl rfl rfl (by decide +kernel) ⟨Nat.le_of_ble_eq_true rfl, Nat.le_of_ble_eq_true rfl⟩) (pQ_v hP hK hD (va_recv hK.1 hP (ci := 9) (q0 := 4) rfl rfl)) rfl rfl hl.1 rfl (lv_room (Nat.le_of_ble_eq_true rfl)) dX11_poured_14 ⟨Nat.zero_le _, Nat.zero_le _⟩) hD hS hA (fun H locs hP hD hS => ?_)
    refine lv_aload_n hx hb dX11_poured_17 rfl (lv_at hl 0 rfl) ?_
    refine va_get (D := D) (ci := 10) (v := .ref (a 4)) (C := RX11) (T := TX11) (N := 5) hx hb hts inX11_X11_poured hown hK.1 hP 0 rfl rfl 1 (by decide) (hts (.fieldLink RX11 19 "SandPalace" "work" "LSandPalace$Work;") (by decide +kernel)) (fun _ h9 => h9) rfl dX11_poured_18 ?_
    refine lv_iload_n hx hb dX11_poured_21 rfl (lv_at hl 1 rfl) ?_
    obtain ⟨v4, hc_v4, h⟩ := bd_some h
    refine mcallS (va_runV (As := [.int x1]) (rest := []) ⟨hx, hb, hml, hown, hts⟩ (kX10_shapeAt l D cs a sh LP Z hZ σ3 x1 v4 hc_v4) (cwV 1 hts gX11_poured_X10_shapeAt rfl rfl rfl (by decide +kernel) ⟨Nat.le_of_ble_eq_true rfl, Nat.le_of_ble_eq_true rfl⟩) (pR_v hP hK (va_recv hK.1 hP (ci := 9) (q0 := 4) rfl rfl)) rfl rfl hl.1 rfl (lv_room (Nat.le_of_ble_eq_true rfl)) dX11_poured_22 ⟨Nat.zero_le _, Nat.zero_le _⟩) ?_
    exact mretQ hx hb hr hlk h hP hD hS dX11_poured_25
  · have h := it_f c1 h
    refine lv_iconst (v := ((-1) : Int32)) hx hb dX11_poured_4 (by decide) ?_
    exact mretQ hx hb hr hlk h hP hD hS dX11_poured_5
def fX11_photo (F : Nat) (sh : Nat → Option Nat) (Z : ZT) (σ : Nat → Nat → Int32)  : Option (Int32 × (Nat → Nat → Int32)) :=
  bd (fX3_take F sh Z σ) fun σ2 => bd (fX4_cellsThatLook F sh Z σ2 (0 : Int32)) fun v3 => some ((256 : Int32) - v3, σ2)
abbrev rmX11_photo : Room := { frames := 5, cells := 0, slots := 0, locals := 111 }
theorem inX11_X11_photo : ∀ w ∈ wsX110, w ∈ wsX11_photo := by intro w h; simp only [wsX11_photo, List.mem_cons, List.mem_append]; simp only [h, true_or, or_true]
set_option maxHeartbeats 4000000 in
set_option maxRecDepth 100000 in
theorem kX11_photo (l : Launch) (D : va_G) (cs : Nat → ClassId) (a : Nat → Nat) (sh : Nat → Option Nat) (LP : List Nat) (Z : ZT) (hZ : shOK sh LP Z) (σ : Nat → Nat → Int32) (F : Nat)  (r : Int32) (u9 : Nat → Nat → Int32) (h : fX11_photo F sh Z σ = some (r, u9)) (sz : Nat) : Met l yX11_photo wsX11_photo rmX11_photo (va_Pc [.ref (a 0)] (pQ D cs (cW a cs sh LP Z σ) sz)) (va_Qi (fun x y => x = r ∧ y = u9) (qB D (cW a cs sh LP Z) (va_A (cW a cs sh LP Z σ) sz)) (va_A (cW a cs sh LP Z σ) sz)) 0 0 (va_A (cW a cs sh LP Z σ) sz) := by
  refine Met.ofW (cc := cX11_photo) (maxL := 1) (ret := (some .int)) (by decide) rfl ?_
  intro p e s m args below meth c s₁ B hml hv
  obtain ⟨rfl, hsz, hP, hK, hD0⟩ := hv
  have C : cxt p s m _ meth c cX11_photo 1 RX11 wsX11_photo (some .int) := ⟨B.exec, B.bytes, hml, findClass_of_methodNamed B.named, atoms_spec (ws := wsX11_photo) B.pre, B.returns, B.notSynchronized⟩
  obtain ⟨hx, hb, -, hown, hts, hr, hlk⟩ := id C
  subst hsz
  have hD := hD0.self (sz := s.heap.size)
  generalize hAe : va_A (cW a cs sh LP Z σ) s.heap.size = A at hD ⊢
  have hA : ∀ q : Nat, s.heap.size ≤ q → A q := fun q h => by rw [← hAe]; exact Or.inr h
  have hS : va_S A s.heap s.heap [] := va_S.rf
  refine entryW [.ref (a 0)] (n := 1) (Nat.le_of_ble_eq_true rfl) (fun ls hl => ?_)
  have hl : lv_has ls 1 [(0, .ref (a 0))] := hl
  unfold fX11_photo at h
  refine lv_aload_n hx hb dX11_photo_0 rfl (lv_at hl 0 rfl) ?_
  refine va_get (D := D) (ci := 10) (v := .ref (a 14)) (C := RX11) (T := TX11) (N := 5) hx hb hts inX11_X11_photo hown hK.1 hP 0 rfl rfl 2 (by decide) (hts (.fieldLink RX11 26 "SandPalace" "print" "LSandPalace$Photo;") (by decide +kernel)) (fun _ h9 => h9) rfl dX11_photo_1 ?_
  refine lv_aload_n hx hb dX11_photo_4 rfl (lv_at hl 0 rfl) ?_
  refine va_get (D := D) (ci := 10) (v := .ref (a 1)) (C := RX11) (T := TX11) (N := 5) hx hb hts inX11_X11_photo hown hK.1 hP 0 rfl rfl 0 (by decide) (hts (.fieldLink RX11 10 "SandPalace" "picture" "LSandPalace$Picture;") (by decide +kernel)) (fun _ h9 => h9) rfl dX11_photo_5 ?_
  obtain ⟨σ2, hc_v1, h⟩ := bd_some h
  refine mcallQV (wf := (cW a cs sh LP Z)) (va_runV (As := [.ref (a 1)]) (rest := []) ⟨hx, hb, hml, hown, hts⟩ (kX3_take l D cs a sh LP Z hZ σ F σ2 hc_v1 _) (cwV 1 hts gX11_photo_X3_take rfl rfl rfl (by decide +kernel) ⟨Nat.le_of_ble_eq_true rfl, Nat.le_of_ble_eq_true rfl⟩) (pQ_v hP hK hD (va_recv hK.1 hP (ci := 3) (q0 := 14) rfl rfl)) rfl rfl hl.1 rfl (lv_room (Nat.le_of_ble_eq_true rfl)) dX11_photo_8 ⟨Nat.zero_le _, Nat.zero_le _⟩) hD hS hA (fun H locs hP hD hS => ?_)
  refine lv_sipush (v := (256 : Int32)) hx hb dX11_photo_11 (by decide) ?_
  refine lv_aload_n hx hb dX11_photo_14 rfl (lv_at hl 0 rfl) ?_
  refine va_get (D := D) (ci := 10) (v := .ref (a 1)) (C := RX11) (T := TX11) (N := 5) hx hb hts inX11_X11_photo hown hK.1 hP 0 rfl rfl 0 (by decide) (hts (.fieldLink RX11 10 "SandPalace" "picture" "LSandPalace$Picture;") (by decide +kernel)) (fun _ h9 => h9) rfl dX11_photo_15 ?_
  refine lv_iconst (v := (0 : Int32)) hx hb dX11_photo_18 (by decide) ?_
  obtain ⟨v3, hc_v3, h⟩ := bd_some h
  refine mcallS (va_runV (As := [.int (0 : Int32)]) (rest := [.int (256 : Int32)]) ⟨hx, hb, hml, hown, hts⟩ (kX4_cellsThatLook l D cs a sh LP Z hZ σ2 F (0 : Int32) v3 hc_v3) (cwV 1 hts gX11_photo_X4_cellsThatLook rfl rfl rfl (by decide +kernel) ⟨Nat.le_of_ble_eq_true rfl, Nat.le_of_ble_eq_true rfl⟩) (pR_v hP hK (va_recv hK.1 hP (ci := 4) (q0 := 1) rfl rfl)) rfl rfl hl.1 rfl (lv_room (Nat.le_of_ble_eq_true rfl)) dX11_photo_19 ⟨Nat.zero_le _, Nat.zero_le _⟩) ?_
  refine lv_isub hx hb dX11_photo_22 ?_
  exact mretQ hx hb hr hlk h hP hD hS dX11_photo_23
def fX11_smear (sh : Nat → Option Nat) (Z : ZT) (σ : Nat → Nat → Int32) (x1 : Int32) (x2 : Int32) : Option (Int32 × (Nat → Nat → Int32)) :=
  bd (fX11_isCell x1 x2) fun v1 => if v1 = 0 then (some (((-1) : Int32), σ)) else (bd (fX3_smearCell sh Z σ (((16 : Int32) * x2) + x1)) fun (v3, σ4) => some (v3, σ4))
abbrev rmX11_smear : Room := { frames := 2, cells := 0, slots := 0, locals := 43 }
theorem inX11_X11_smear : ∀ w ∈ wsX110, w ∈ wsX11_smear := by intro w h; simp only [wsX11_smear, List.mem_cons, List.mem_append]; simp only [h, true_or, or_true]
set_option maxHeartbeats 4000000 in
set_option maxRecDepth 100000 in
theorem kX11_smear (l : Launch) (D : va_G) (cs : Nat → ClassId) (a : Nat → Nat) (sh : Nat → Option Nat) (LP : List Nat) (Z : ZT) (hZ : shOK sh LP Z) (σ : Nat → Nat → Int32) (x1 : Int32) (x2 : Int32) (r : Int32) (u9 : Nat → Nat → Int32) (h : fX11_smear sh Z σ x1 x2 = some (r, u9)) (sz : Nat) : Met l yX11_smear wsX11_smear rmX11_smear (va_Pc [.ref (a 0), .int x1, .int x2] (pQ D cs (cW a cs sh LP Z σ) sz)) (va_Qi (fun x y => x = r ∧ y = u9) (qB D (cW a cs sh LP Z) (va_A (cW a cs sh LP Z σ) sz)) (va_A (cW a cs sh LP Z σ) sz)) 0 0 (va_A (cW a cs sh LP Z σ) sz) := by
  refine Met.ofW (cc := cX11_smear) (maxL := 3) (ret := (some .int)) (by decide) rfl ?_
  intro p e s m args below meth c s₁ B hml hv
  obtain ⟨rfl, hsz, hP, hK, hD0⟩ := hv
  have C : cxt p s m _ meth c cX11_smear 3 RX11 wsX11_smear (some .int) := ⟨B.exec, B.bytes, hml, findClass_of_methodNamed B.named, atoms_spec (ws := wsX11_smear) B.pre, B.returns, B.notSynchronized⟩
  obtain ⟨hx, hb, -, hown, hts, hr, hlk⟩ := id C
  subst hsz
  have hD := hD0.self (sz := s.heap.size)
  generalize hAe : va_A (cW a cs sh LP Z σ) s.heap.size = A at hD ⊢
  have hA : ∀ q : Nat, s.heap.size ≤ q → A q := fun q h => by rw [← hAe]; exact Or.inr h
  have hS : va_S A s.heap s.heap [] := va_S.rf
  refine entryW [.ref (a 0), .int x1, .int x2] (n := 3) (Nat.le_of_ble_eq_true rfl) (fun ls hl => ?_)
  have hl : lv_has ls 3 [(0, .ref (a 0)), (1, .int x1), (2, .int x2)] := hl
  unfold fX11_smear at h
  refine lv_iload_n hx hb dX11_smear_0 rfl (lv_at hl 1 rfl) ?_
  refine lv_iload_n hx hb dX11_smear_1 rfl (lv_at hl 2 rfl) ?_
  obtain ⟨v1, hc_v1, h⟩ := bd_some h
  refine mcallSZ (va_runS (As := [.int x1, .int x2]) (rest := []) ⟨hx, hb, hml, hown, hts⟩ (kX11_isCell l x1 x2 v1 hc_v1) (va_cwS 2 hts gX11_smear_X11_isCell rfl rfl rfl (by decide +kernel) ⟨Nat.le_of_ble_eq_true rfl, Nat.le_of_ble_eq_true rfl⟩) p0_s rfl rfl hl.1 rfl (lv_room (Nat.le_of_ble_eq_true rfl)) dX11_smear_2 ⟨Nat.zero_le _, Nat.zero_le _⟩) (fun z_v1 => ?_)
  refine lv_if_eq (tgt := 24) hx hb dX11_smear_5 (by decide) (fun c2 => ?_) (fun c2 => ?_)
  · have h := it_t c2 h
    refine lv_iconst (v := ((-1) : Int32)) hx hb dX11_smear_24 (by decide) ?_
    exact mretQ hx hb hr hlk h hP hD hS dX11_smear_25
  · have h := it_f c2 h
    refine lv_aload_n hx hb dX11_smear_8 rfl (lv_at hl 0 rfl) ?_
    refine va_get (D := D) (ci := 10) (v := .ref (a 14)) (C := RX11) (T := TX11) (N := 5) hx hb hts inX11_X11_smear hown hK.1 hP 0 rfl rfl 2 (by decide) (hts (.fieldLink RX11 26 "SandPalace" "print" "LSandPalace$Photo;") (by decide +kernel)) (fun _ h9 => h9) rfl dX11_smear_9 ?_
    refine lv_bipush (v := (16 : Int32)) hx hb dX11_smear_12 (by decide) ?_
    refine lv_iload_n hx hb dX11_smear_14 rfl (lv_at hl 2 rfl) ?_
    refine lv_imul hx hb dX11_smear_15 ?_
    refine lv_iload_n hx hb dX11_smear_16 rfl (lv_at hl 1 rfl) ?_
    refine lv_iadd hx hb dX11_smear_17 ?_
    obtain ⟨⟨v3, σ4⟩, hc_v3, h⟩ := bd_some h
    refine mcallQ (wf := (cW a cs sh LP Z)) (va_runV (As := [.int (((16 : Int32) * x2) + x1)]) (rest := []) ⟨hx, hb, hml, hown, hts⟩ (kX3_smearCell l D cs a sh LP Z hZ σ (((16 : Int32) * x2) + x1) v3 σ4 hc_v3 _) (cwV 1 hts gX11_smear_X3_smearCell rfl rfl rfl (by decide +kernel) ⟨Nat.le_of_ble_eq_true rfl, Nat.le_of_ble_eq_true rfl⟩) (pQ_v hP hK hD (va_recv hK.1 hP (ci := 3) (q0 := 14) rfl rfl)) rfl rfl hl.1 rfl (lv_room (Nat.le_of_ble_eq_true rfl)) dX11_smear_18 ⟨Nat.zero_le _, Nat.zero_le _⟩) hD hS hA (fun H locs hP hD hS => ?_)
    refine lv_goto (tgt := 25) hx hb dX11_smear_21 (by decide) ?_
    exact mretQ hx hb hr hlk h hP hD hS dX11_smear_25
def fX11_isStride (x0 : Int32) (x1 : Int32) : Option Int32 :=
  bd (fX11_within x0 ((-1) : Int32) (1 : Int32)) fun v1 => if v1 = 0 then (some (0 : Int32)) else (bd (fX11_within x1 ((-1) : Int32) (1 : Int32)) fun v3 => if v3 = 0 then (some (0 : Int32)) else (if ¬ x0 = 0 then (some (1 : Int32)) else (if x1 = 0 then (some (0 : Int32)) else (some (1 : Int32)))))
abbrev rmX11_isStride : Room := { frames := 1, cells := 0, slots := 0, locals := 22 }
set_option maxHeartbeats 4000000 in
set_option maxRecDepth 100000 in
theorem kX11_isStride (l : Launch) (x0 : Int32) (x1 : Int32) (r : Int32) (h : fX11_isStride x0 x1 = some r) : Met l yX11_isStride wsX11_isStride rmX11_isStride (va_Pc [.int x0, .int x1] (p0)) (vp_Si (fun x => x = r ∧ (r = 0 ∨ r = 1))) 0 0 (fun _ => False) := by
  refine Met.ofW (cc := cX11_isStride) (maxL := 2) (ret := (some .boolean)) (by decide) rfl ?_
  intro p e s m args below meth c s₁ B hml hv
  obtain ⟨rfl, -⟩ := hv
  have C : cxt p s m _ meth c cX11_isStride 2 RX11 wsX11_isStride (some .boolean) := ⟨B.exec, B.bytes, hml, findClass_of_methodNamed B.named, atoms_spec (ws := wsX11_isStride) B.pre, B.returns, B.notSynchronized⟩
  obtain ⟨hx, hb, -, hown, hts, hr, hlk⟩ := id C
  refine entryW [.int x0, .int x1] (n := 2) (Nat.le_of_ble_eq_true rfl) (fun ls hl => ?_)
  have hl : lv_has ls 2 [(0, .int x0), (1, .int x1)] := hl
  unfold fX11_isStride at h
  refine lv_iload_n hx hb dX11_isStride_0 rfl (lv_at hl 0 rfl) ?_
  refine lv_iconst (v := ((-1) : Int32)) hx hb dX11_isStride_1 (by decide) ?_
  refine lv_iconst (v := (1 : Int32)) hx hb dX11_isStride_2 (by decide) ?_
  obtain ⟨v1, hc_v1, h⟩ := bd_some h
  refine mcallSZ (va_runS (As := [.int x0, .int ((-1) : Int32), .int (1 : Int32)]) (rest := []) ⟨hx, hb, hml, hown, hts⟩ (kX11_within l x0 ((-1) : Int32) (1 : Int32) v1 hc_v1) (va_cwS 3 hts gX11_isStride_X11_within rfl rfl rfl (by decide +kernel) ⟨Nat.le_of_ble_eq_true rfl, Nat.le_of_ble_eq_true rfl⟩) p0_s rfl rfl hl.1 rfl (lv_room (Nat.le_of_ble_eq_true rfl)) dX11_isStride_3 ⟨Nat.zero_le _, Nat.zero_le _⟩) (fun z_v1 => ?_)
  refine lv_if_eq (tgt := 30) hx hb dX11_isStride_6 (by decide) (fun c2 => ?_) (fun c2 => ?_)
  · have h := it_t c2 h
    refine lv_iconst (v := (0 : Int32)) hx hb dX11_isStride_30 (by decide) ?_
    exact mretSZ hx hb hr hlk h (Or.inl rfl) dX11_isStride_31
  · have h := it_f c2 h
    refine lv_iload_n hx hb dX11_isStride_9 rfl (lv_at hl 1 rfl) ?_
    refine lv_iconst (v := ((-1) : Int32)) hx hb dX11_isStride_10 (by decide) ?_
    refine lv_iconst (v := (1 : Int32)) hx hb dX11_isStride_11 (by decide) ?_
    obtain ⟨v3, hc_v3, h⟩ := bd_some h
    refine mcallSZ (va_runS (As := [.int x1, .int ((-1) : Int32), .int (1 : Int32)]) (rest := []) ⟨hx, hb, hml, hown, hts⟩ (kX11_within l x1 ((-1) : Int32) (1 : Int32) v3 hc_v3) (va_cwS 3 hts gX11_isStride_X11_within rfl rfl rfl (by decide +kernel) ⟨Nat.le_of_ble_eq_true rfl, Nat.le_of_ble_eq_true rfl⟩) p0_s rfl rfl hl.1 rfl (lv_room (Nat.le_of_ble_eq_true rfl)) dX11_isStride_12 ⟨Nat.zero_le _, Nat.zero_le _⟩) (fun z_v3 => ?_)
    refine lv_if_eq (tgt := 30) hx hb dX11_isStride_15 (by decide) (fun c4 => ?_) (fun c4 => ?_)
    · have h := it_t c4 h
      refine lv_iconst (v := (0 : Int32)) hx hb dX11_isStride_30 (by decide) ?_
      exact mretSZ hx hb hr hlk h (Or.inl rfl) dX11_isStride_31
    · have h := it_f c4 h
      refine lv_iload_n hx hb dX11_isStride_18 rfl (lv_at hl 0 rfl) ?_
      refine lv_if_ne (tgt := 26) hx hb dX11_isStride_19 (by decide) (fun c5 => ?_) (fun c5 => ?_)
      · have h := it_t c5 h
        refine lv_iconst (v := (1 : Int32)) hx hb dX11_isStride_26 (by decide) ?_
        refine lv_goto (tgt := 31) hx hb dX11_isStride_27 (by decide) ?_
        exact mretSZ hx hb hr hlk h (Or.inr rfl) dX11_isStride_31
      · have h := it_n c5 h
        refine lv_iload_n hx hb dX11_isStride_22 rfl (lv_at hl 1 rfl) ?_
        refine lv_if_eq (tgt := 30) hx hb dX11_isStride_23 (by decide) (fun c6 => ?_) (fun c6 => ?_)
        · have h := it_t c6 h
          refine lv_iconst (v := (0 : Int32)) hx hb dX11_isStride_30 (by decide) ?_
          exact mretSZ hx hb hr hlk h (Or.inl rfl) dX11_isStride_31
        · have h := it_f c6 h
          refine lv_iconst (v := (1 : Int32)) hx hb dX11_isStride_26 (by decide) ?_
          refine lv_goto (tgt := 31) hx hb dX11_isStride_27 (by decide) ?_
          exact mretSZ hx hb hr hlk h (Or.inr rfl) dX11_isStride_31
def fX11_cat_J94 (F : Nat) (sh : Nat → Option Nat) (Z : ZT) (kb : Int32 → Int32 → (Nat → Nat → Int32) → Option (Int32 × (Nat → Nat → Int32))) (x1 : Int32) (x2 : Int32) (x3 : Int32) (x4 : Int32) (x5 : Int32) (x6 : Int32) (x7 : Int32) (σ : Nat → Nat → Int32) : Option (Int32 × (Nat → Nat → Int32)) :=
  kb x6 (x7 + (1 : Int32)) σ
def fX11_cat_L36 (F : Nat) (sh : Nat → Option Nat) (Z : ZT) (x1 : Int32) (x2 : Int32) (x3 : Int32) (x4 : Int32) (x5 : Int32) (kx : Int32 → (Nat → Nat → Int32) → Option (Int32 × (Nat → Nat → Int32))) : Nat → Int32 → Int32 → (Nat → Nat → Int32) → Option (Int32 × (Nat → Nat → Int32))
  | 0, _, _, _ => none
  | n+1, x6, x7, σ =>
    nb ((fun x6 x7 σ => fX11_cat_L36 F sh Z x1 x2 x3 x4 x5 kx n x6 x7 σ)) fun kb =>
    if x5 < x7 then (kx x6 σ) else (bd (fX11_isCell (x1 + (x7 * x3)) (x2 + (x7 * x4))) fun v8 => if v8 = 0 then (kx x6 σ) else (bd (fX3_smearCell sh Z σ ((((16 : Int32) * (x2 + (x7 * x4))) + x1) + (x7 * x3))) fun (v10, σ11) => if v10 = ((-5) : Int32) then (fX11_cat_J94 F sh Z kb x1 x2 x3 x4 x5 x6 x7 σ11) else (fX11_cat_J94 F sh Z kb x1 x2 x3 x4 x5 (x6 + (1 : Int32)) x7 σ11)))
def fX11_cat (F : Nat) (sh : Nat → Option Nat) (Z : ZT) (σ : Nat → Nat → Int32) (x1 : Int32) (x2 : Int32) (x3 : Int32) (x4 : Int32) (x5 : Int32) : Option (Int32 × (Nat → Nat → Int32)) :=
  bd (fX11_isCell x1 x2) fun v1 => if v1 = 0 then (some (((-1) : Int32), σ)) else (bd (fX11_isStride x3 x4) fun v3 => if v3 = 0 then (some (((-1) : Int32), σ)) else (bd (fX11_within x5 (0 : Int32) (15 : Int32)) fun v5 => if ¬ v5 = 0 then (fX11_cat_L36 F sh Z x1 x2 x3 x4 x5 (fun y7 σ8 => some (y7, σ8)) F (0 : Int32) (0 : Int32) σ) else (some (((-1) : Int32), σ))))
abbrev rmX11_cat : Room := { frames := 2, cells := 0, slots := 0, locals := 43 }
theorem inX11_X11_cat : ∀ w ∈ wsX110, w ∈ wsX11_cat := by intro w h; simp only [wsX11_cat, List.mem_cons, List.mem_append]; simp only [h, true_or, or_true]
set_option maxHeartbeats 4000000 in
set_option maxRecDepth 100000 in
theorem wX11_cat_J94 {p : Program} {l : Launch} {e : Env} {s : State} {m : MethodId} {args : Array Value} {below : List Frame} {meth : Method} {c : Code} (C : cxt p s m args meth c cX11_cat 8 RX11 wsX11_cat (some .int)) {D : va_G} {cs : Nat → ClassId} {a : Nat → Nat} {sh : Nat → Option Nat} {LP : List Nat} {Z : ZT} (hZ : shOK sh LP Z) (hK : KK D cs s) {A : Nat → Prop} (hA : ∀ q, s.heap.size ≤ q → A q) (r : Int32) (u9 : Nat → Nat → Int32) (F : Nat) (kb : Int32 → Int32 → (Nat → Nat → Int32) → Option (Int32 × (Nat → Nat → Int32))) (x1 : Int32) (x2 : Int32) (x3 : Int32) (x4 : Int32) (x5 : Int32) (x6 : Int32) (x7 : Int32) (hkb : ∀ (x6 : Int32) (x7 : Int32) (σ : Nat → Nat → Int32) (H : Heap) (locs : List Loc) (ls : Array Slot), va_P D vwCl (cW a cs sh LP Z σ) H → va_D A (cW a cs sh LP Z σ) → va_S A s.heap H locs → lv_has ls 8 [(0, .ref (a 0)), (1, .int x1), (2, .int x2), (3, .int x3), (4, .int x4), (5, .int x5), (6, .int x6), (7, .int x7)] → kb x6 x7 σ = some (r, u9) → W p l e rmX11_cat s m args below meth c H locs 0 0 (MQ below (va_Qi (fun x y => x = r ∧ y = u9) (qB D (cW a cs sh LP Z) A) A) args s 0 0 A) (F0 m 36 ls [])) (σ : Nat → Nat → Int32) (H : Heap) (locs : List Loc) (ls : Array Slot) (hP : va_P D vwCl (cW a cs sh LP Z σ) H) (hD : va_D A (cW a cs sh LP Z σ)) (hS : va_S A s.heap H locs) (hl : lv_has ls 8 [(0, .ref (a 0)), (1, .int x1), (2, .int x2), (3, .int x3), (4, .int x4), (5, .int x5), (6, .int x6), (7, .int x7)]) (h : fX11_cat_J94 F sh Z kb x1 x2 x3 x4 x5 x6 x7 σ = some (r, u9)) : W p l e rmX11_cat s m args below meth c H locs 0 0 (MQ below (va_Qi (fun x y => x = r ∧ y = u9) (qB D (cW a cs sh LP Z) A) A) args s 0 0 A) (F0 m 94 ls []) := by
  obtain ⟨hx, hb, hml, hown, hts, hr, hlk⟩ := id C
  unfold fX11_cat_J94 at h
  refine lv_iinc (v := x7 + (1 : Int32)) (lv' := [(7, .int (x7 + (1 : Int32))), (0, .ref (a 0)), (1, .int x1), (2, .int x2), (3, .int x3), (4, .int x4), (5, .int x5), (6, .int x6)]) hx hb dX11_cat_94 hl (k := 7) rfl rfl (by decide) rfl (fun ls hl => ?_)
  refine lv_goto (tgt := 36) hx hb dX11_cat_97 (by decide) ?_
  exact hkb x6 (x7 + (1 : Int32)) σ _ _ ls hP hD hS (lv_sub hl [1, 2, 3, 4, 5, 6, 7, 0] rfl) h
set_option maxHeartbeats 4000000 in
set_option maxRecDepth 100000 in
theorem wX11_cat_L36 {p : Program} {l : Launch} {e : Env} {s : State} {m : MethodId} {args : Array Value} {below : List Frame} {meth : Method} {c : Code} (C : cxt p s m args meth c cX11_cat 8 RX11 wsX11_cat (some .int)) {D : va_G} {cs : Nat → ClassId} {a : Nat → Nat} {sh : Nat → Option Nat} {LP : List Nat} {Z : ZT} (hZ : shOK sh LP Z) (hK : KK D cs s) {A : Nat → Prop} (hA : ∀ q, s.heap.size ≤ q → A q) (r : Int32) (u9 : Nat → Nat → Int32) (F : Nat) (x1 : Int32) (x2 : Int32) (x3 : Int32) (x4 : Int32) (x5 : Int32) (kx : Int32 → (Nat → Nat → Int32) → Option (Int32 × (Nat → Nat → Int32))) (hkx : ∀ (x6 : Int32) (σ : Nat → Nat → Int32) (H : Heap) (locs : List Loc) (ls : Array Slot), va_P D vwCl (cW a cs sh LP Z σ) H → va_D A (cW a cs sh LP Z σ) → va_S A s.heap H locs → lv_has ls 8 [(6, .int x6)] → kx x6 σ = some (r, u9) → W p l e rmX11_cat s m args below meth c H locs 0 0 (MQ below (va_Qi (fun x y => x = r ∧ y = u9) (qB D (cW a cs sh LP Z) A) A) args s 0 0 A) (F0 m 100 ls [])) : ∀ (n : Nat) (x6 : Int32) (x7 : Int32) (σ : Nat → Nat → Int32) (H : Heap) (locs : List Loc) (ls : Array Slot), va_P D vwCl (cW a cs sh LP Z σ) H → va_D A (cW a cs sh LP Z σ) → va_S A s.heap H locs → lv_has ls 8 [(0, .ref (a 0)), (1, .int x1), (2, .int x2), (3, .int x3), (4, .int x4), (5, .int x5), (6, .int x6), (7, .int x7)] → fX11_cat_L36 F sh Z x1 x2 x3 x4 x5 kx n x6 x7 σ = some (r, u9) → W p l e rmX11_cat s m args below meth c H locs 0 0 (MQ below (va_Qi (fun x y => x = r ∧ y = u9) (qB D (cW a cs sh LP Z) A) A) args s 0 0 A) (F0 m 36 ls []) := by
  obtain ⟨hx, hb, hml, hown, hts, hr, hlk⟩ := id C
  intro n
  induction n with
  | zero =>
    intros
    rename_i h
    cases h
  | succ n ih =>
    intro x6 x7 σ H locs ls hP hD hS hl h
    rw [fX11_cat_L36] at h
    obtain ⟨kb, hkb, h⟩ := nb_some (P := fun (kb : Int32 → Int32 → (Nat → Nat → Int32) → Option (Int32 × (Nat → Nat → Int32))) => ∀ (x6 : Int32) (x7 : Int32) (σ : Nat → Nat → Int32) (H : Heap) (locs : List Loc) (ls : Array Slot), va_P D vwCl (cW a cs sh LP Z σ) H → va_D A (cW a cs sh LP Z σ) → va_S A s.heap H locs → lv_has ls 8 [(0, .ref (a 0)), (1, .int x1), (2, .int x2), (3, .int x3), (4, .int x4), (5, .int x5), (6, .int x6), (7, .int x7)] → kb x6 x7 σ = some (r, u9) → W p l e rmX11_cat s m args below meth c H locs 0 0 (MQ below (va_Qi (fun x y => x = r ∧ y = u9) (qB D (cW a cs sh LP Z) A) A) args s 0 0 A) (F0 m 36 ls [])) h ih
    refine lv_iload hx hb dX11_cat_36 (lv_at hl 7 rfl) ?_
    refine lv_iload hx hb dX11_cat_38 (lv_at hl 5 rfl) ?_
    refine lv_icmp_gt (tgt := 100) hx hb dX11_cat_40 (by decide) (fun c7 => ?_) (fun c7 => ?_)
    · have h := it_t c7 h
      exact hkx x6 σ _ _ ls hP hD hS (lv_sub hl [6] rfl) h
    · have h := it_f c7 h
      refine lv_iload_n hx hb dX11_cat_43 rfl (lv_at hl 1 rfl) ?_
      refine lv_iload hx hb dX11_cat_44 (lv_at hl 7 rfl) ?_
      refine lv_iload_n hx hb dX11_cat_46 rfl (lv_at hl 3 rfl) ?_
      refine lv_imul hx hb dX11_cat_47 ?_
      refine lv_iadd hx hb dX11_cat_48 ?_
      refine lv_iload_n hx hb dX11_cat_49 rfl (lv_at hl 2 rfl) ?_
      refine lv_iload hx hb dX11_cat_50 (lv_at hl 7 rfl) ?_
      refine lv_iload hx hb dX11_cat_52 (lv_at hl 4 rfl) ?_
      refine lv_imul hx hb dX11_cat_54 ?_
      refine lv_iadd hx hb dX11_cat_55 ?_
      obtain ⟨v8, hc_v8, h⟩ := bd_some h
      refine mcallSZ (va_runS (As := [.int (x1 + (x7 * x3)), .int (x2 + (x7 * x4))]) (rest := []) ⟨hx, hb, hml, hown, hts⟩ (kX11_isCell l (x1 + (x7 * x3)) (x2 + (x7 * x4)) v8 hc_v8) (va_cwS 2 hts gX11_cat_X11_isCell rfl rfl rfl (by decide +kernel) ⟨Nat.le_of_ble_eq_true rfl, Nat.le_of_ble_eq_true rfl⟩) p0_s rfl rfl hl.1 rfl (lv_room (Nat.le_of_ble_eq_true rfl)) dX11_cat_56 ⟨Nat.zero_le _, Nat.zero_le _⟩) (fun z_v8 => ?_)
      refine lv_if_eq (tgt := 100) hx hb dX11_cat_59 (by decide) (fun c9 => ?_) (fun c9 => ?_)
      · have h := it_t c9 h
        exact hkx x6 σ _ _ ls hP hD hS (lv_sub hl [6] rfl) h
      · have h := it_f c9 h
        refine lv_aload_n hx hb dX11_cat_62 rfl (lv_at hl 0 rfl) ?_
        refine va_get (D := D) (ci := 10) (v := .ref (a 14)) (C := RX11) (T := TX11) (N := 5) hx hb hts inX11_X11_cat hown hK.1 hP 0 rfl rfl 2 (by decide) (hts (.fieldLink RX11 26 "SandPalace" "print" "LSandPalace$Photo;") (by decide +kernel)) (fun _ h9 => h9) rfl dX11_cat_63 ?_
        refine lv_bipush (v := (16 : Int32)) hx hb dX11_cat_66 (by decide) ?_
        refine lv_iload_n hx hb dX11_cat_68 rfl (lv_at hl 2 rfl) ?_
        refine lv_iload hx hb dX11_cat_69 (lv_at hl 7 rfl) ?_
        refine lv_iload hx hb dX11_cat_71 (lv_at hl 4 rfl) ?_
        refine lv_imul hx hb dX11_cat_73 ?_
        refine lv_iadd hx hb dX11_cat_74 ?_
        refine lv_imul hx hb dX11_cat_75 ?_
        refine lv_iload_n hx hb dX11_cat_76 rfl (lv_at hl 1 rfl) ?_
        refine lv_iadd hx hb dX11_cat_77 ?_
        refine lv_iload hx hb dX11_cat_78 (lv_at hl 7 rfl) ?_
        refine lv_iload_n hx hb dX11_cat_80 rfl (lv_at hl 3 rfl) ?_
        refine lv_imul hx hb dX11_cat_81 ?_
        refine lv_iadd hx hb dX11_cat_82 ?_
        obtain ⟨⟨v10, σ11⟩, hc_v10, h⟩ := bd_some h
        refine mcallQ (wf := (cW a cs sh LP Z)) (va_runV (As := [.int ((((16 : Int32) * (x2 + (x7 * x4))) + x1) + (x7 * x3))]) (rest := []) ⟨hx, hb, hml, hown, hts⟩ (kX3_smearCell l D cs a sh LP Z hZ σ ((((16 : Int32) * (x2 + (x7 * x4))) + x1) + (x7 * x3)) v10 σ11 hc_v10 _) (cwV 1 hts gX11_cat_X3_smearCell rfl rfl rfl (by decide +kernel) ⟨Nat.le_of_ble_eq_true rfl, Nat.le_of_ble_eq_true rfl⟩) (pQ_v hP hK hD (va_recv hK.1 hP (ci := 3) (q0 := 14) rfl rfl)) rfl rfl hl.1 rfl (lv_room (Nat.le_of_ble_eq_true rfl)) dX11_cat_83 ⟨Nat.zero_le _, Nat.zero_le _⟩) hD hS hA (fun H locs hP hD hS => ?_)
        refine lv_bipush (v := ((-5) : Int32)) hx hb dX11_cat_86 (by decide) ?_
        refine lv_icmp_eq (tgt := 94) hx hb dX11_cat_88 (by decide) (fun c12 => ?_) (fun c12 => ?_)
        · have h := it_t c12 h
          exact wX11_cat_J94 C hZ hK hA r u9 F kb x1 x2 x3 x4 x5 x6 x7 hkb σ11 _ _ ls hP hD hS (lv_sub hl [0, 1, 2, 3, 4, 5, 6, 7] rfl) h
        · have h := it_f c12 h
          refine lv_iinc (v := x6 + (1 : Int32)) (lv' := [(6, .int (x6 + (1 : Int32))), (0, .ref (a 0)), (1, .int x1), (2, .int x2), (3, .int x3), (4, .int x4), (5, .int x5), (7, .int x7)]) hx hb dX11_cat_91 hl (k := 6) rfl rfl (by decide) rfl (fun ls hl => ?_)
          exact wX11_cat_J94 C hZ hK hA r u9 F kb x1 x2 x3 x4 x5 (x6 + (1 : Int32)) x7 hkb σ11 _ _ ls hP hD hS (lv_sub hl [1, 2, 3, 4, 5, 6, 0, 7] rfl) h
set_option maxHeartbeats 4000000 in
set_option maxRecDepth 100000 in
theorem kX11_cat (l : Launch) (D : va_G) (cs : Nat → ClassId) (a : Nat → Nat) (sh : Nat → Option Nat) (LP : List Nat) (Z : ZT) (hZ : shOK sh LP Z) (σ : Nat → Nat → Int32) (F : Nat) (x1 : Int32) (x2 : Int32) (x3 : Int32) (x4 : Int32) (x5 : Int32) (r : Int32) (u9 : Nat → Nat → Int32) (h : fX11_cat F sh Z σ x1 x2 x3 x4 x5 = some (r, u9)) (sz : Nat) : Met l yX11_cat wsX11_cat rmX11_cat (va_Pc [.ref (a 0), .int x1, .int x2, .int x3, .int x4, .int x5] (pQ D cs (cW a cs sh LP Z σ) sz)) (va_Qi (fun x y => x = r ∧ y = u9) (qB D (cW a cs sh LP Z) (va_A (cW a cs sh LP Z σ) sz)) (va_A (cW a cs sh LP Z σ) sz)) 0 0 (va_A (cW a cs sh LP Z σ) sz) := by
  refine Met.ofW (cc := cX11_cat) (maxL := 8) (ret := (some .int)) (by decide) rfl ?_
  intro p e s m args below meth c s₁ B hml hv
  obtain ⟨rfl, hsz, hP, hK, hD0⟩ := hv
  have C : cxt p s m _ meth c cX11_cat 8 RX11 wsX11_cat (some .int) := ⟨B.exec, B.bytes, hml, findClass_of_methodNamed B.named, atoms_spec (ws := wsX11_cat) B.pre, B.returns, B.notSynchronized⟩
  obtain ⟨hx, hb, -, hown, hts, hr, hlk⟩ := id C
  subst hsz
  have hD := hD0.self (sz := s.heap.size)
  generalize hAe : va_A (cW a cs sh LP Z σ) s.heap.size = A at hD ⊢
  have hA : ∀ q : Nat, s.heap.size ≤ q → A q := fun q h => by rw [← hAe]; exact Or.inr h
  have hS : va_S A s.heap s.heap [] := va_S.rf
  refine entryW [.ref (a 0), .int x1, .int x2, .int x3, .int x4, .int x5] (n := 8) (Nat.le_of_ble_eq_true rfl) (fun ls hl => ?_)
  have hl : lv_has ls 8 [(0, .ref (a 0)), (1, .int x1), (2, .int x2), (3, .int x3), (4, .int x4), (5, .int x5)] := hl
  unfold fX11_cat at h
  refine lv_iload_n hx hb dX11_cat_0 rfl (lv_at hl 1 rfl) ?_
  refine lv_iload_n hx hb dX11_cat_1 rfl (lv_at hl 2 rfl) ?_
  obtain ⟨v1, hc_v1, h⟩ := bd_some h
  refine mcallSZ (va_runS (As := [.int x1, .int x2]) (rest := []) ⟨hx, hb, hml, hown, hts⟩ (kX11_isCell l x1 x2 v1 hc_v1) (va_cwS 2 hts gX11_cat_X11_isCell rfl rfl rfl (by decide +kernel) ⟨Nat.le_of_ble_eq_true rfl, Nat.le_of_ble_eq_true rfl⟩) p0_s rfl rfl hl.1 rfl (lv_room (Nat.le_of_ble_eq_true rfl)) dX11_cat_2 ⟨Nat.zero_le _, Nat.zero_le _⟩) (fun z_v1 => ?_)
  refine lv_if_eq (tgt := 28) hx hb dX11_cat_5 (by decide) (fun c2 => ?_) (fun c2 => ?_)
  · have h := it_t c2 h
    refine lv_iconst (v := ((-1) : Int32)) hx hb dX11_cat_28 (by decide) ?_
    exact mretQ hx hb hr hlk h hP hD hS dX11_cat_29
  · have h := it_f c2 h
    refine lv_iload_n hx hb dX11_cat_8 rfl (lv_at hl 3 rfl) ?_
    refine lv_iload hx hb dX11_cat_9 (lv_at hl 4 rfl) ?_
    obtain ⟨v3, hc_v3, h⟩ := bd_some h
    refine mcallSZ (va_runS (As := [.int x3, .int x4]) (rest := []) ⟨hx, hb, hml, hown, hts⟩ (kX11_isStride l x3 x4 v3 hc_v3) (va_cwS 2 hts gX11_cat_X11_isStride rfl rfl rfl (by decide +kernel) ⟨Nat.le_of_ble_eq_true rfl, Nat.le_of_ble_eq_true rfl⟩) p0_s rfl rfl hl.1 rfl (lv_room (Nat.le_of_ble_eq_true rfl)) dX11_cat_11 ⟨Nat.zero_le _, Nat.zero_le _⟩) (fun z_v3 => ?_)
    refine lv_if_eq (tgt := 28) hx hb dX11_cat_14 (by decide) (fun c4 => ?_) (fun c4 => ?_)
    · have h := it_t c4 h
      refine lv_iconst (v := ((-1) : Int32)) hx hb dX11_cat_28 (by decide) ?_
      exact mretQ hx hb hr hlk h hP hD hS dX11_cat_29
    · have h := it_f c4 h
      refine lv_iload hx hb dX11_cat_17 (lv_at hl 5 rfl) ?_
      refine lv_iconst (v := (0 : Int32)) hx hb dX11_cat_19 (by decide) ?_
      refine lv_bipush (v := (15 : Int32)) hx hb dX11_cat_20 (by decide) ?_
      obtain ⟨v5, hc_v5, h⟩ := bd_some h
      refine mcallSZ (va_runS (As := [.int x5, .int (0 : Int32), .int (15 : Int32)]) (rest := []) ⟨hx, hb, hml, hown, hts⟩ (kX11_within l x5 (0 : Int32) (15 : Int32) v5 hc_v5) (va_cwS 3 hts gX11_cat_X11_within rfl rfl rfl (by decide +kernel) ⟨Nat.le_of_ble_eq_true rfl, Nat.le_of_ble_eq_true rfl⟩) p0_s rfl rfl hl.1 rfl (lv_room (Nat.le_of_ble_eq_true rfl)) dX11_cat_22 ⟨Nat.zero_le _, Nat.zero_le _⟩) (fun z_v5 => ?_)
      refine lv_if_ne (tgt := 30) hx hb dX11_cat_25 (by decide) (fun c6 => ?_) (fun c6 => ?_)
      · have h := it_t c6 h
        refine lv_iconst (v := (0 : Int32)) hx hb dX11_cat_30 (by decide) ?_
        refine lv_istore (lv' := [(6, .int (0 : Int32)), (0, .ref (a 0)), (1, .int x1), (2, .int x2), (3, .int x3), (4, .int x4), (5, .int x5)]) hx hb dX11_cat_31 hl (by decide) rfl (fun ls hl => ?_)
        refine lv_iconst (v := (0 : Int32)) hx hb dX11_cat_33 (by decide) ?_
        refine lv_istore (lv' := [(7, .int (0 : Int32)), (6, .int (0 : Int32)), (0, .ref (a 0)), (1, .int x1), (2, .int x2), (3, .int x3), (4, .int x4), (5, .int x5)]) hx hb dX11_cat_34 hl (by decide) rfl (fun ls hl => ?_)
        refine wX11_cat_L36 C hZ hK hA r u9 F x1 x2 x3 x4 x5 _ ?_ F (0 : Int32) (0 : Int32) σ _ _ ls hP hD hS (lv_sub hl [2, 3, 4, 5, 6, 7, 1, 0] rfl) h
        intro y7 σ8 H locs ls hP hD hS hl h
        refine lv_iload hx hb dX11_cat_100 (lv_at hl 0 rfl) ?_
        exact mretQ hx hb hr hlk h hP hD hS dX11_cat_102
      · have h := it_n c6 h
        refine lv_iconst (v := ((-1) : Int32)) hx hb dX11_cat_28 (by decide) ?_
        exact mretQ hx hb hr hlk h hP hD hS dX11_cat_29
def fX11_seen (sh : Nat → Option Nat) (Z : ZT) (σ : Nat → Nat → Int32) (x1 : Int32) (x2 : Int32) : Option Int32 :=
  bd (fX11_isCell x1 x2) fun v1 => if v1 = 0 then (some ((-1) : Int32)) else (bd (fX3_colourOf sh Z σ (((16 : Int32) * x2) + x1)) fun v3 => some v3)
abbrev rmX11_seen : Room := { frames := 2, cells := 0, slots := 0, locals := 43 }
theorem inX11_X11_seen : ∀ w ∈ wsX110, w ∈ wsX11_seen := by intro w h; simp only [wsX11_seen, List.mem_cons, List.mem_append]; simp only [h, true_or, or_true]
set_option maxHeartbeats 4000000 in
set_option maxRecDepth 100000 in
theorem kX11_seen (l : Launch) (D : va_G) (cs : Nat → ClassId) (a : Nat → Nat) (sh : Nat → Option Nat) (LP : List Nat) (Z : ZT) (hZ : shOK sh LP Z) (σ : Nat → Nat → Int32) (x1 : Int32) (x2 : Int32) (r : Int32) (h : fX11_seen sh Z σ x1 x2 = some r) : Met l yX11_seen wsX11_seen rmX11_seen (va_Pc [.ref (a 0), .int x1, .int x2] (pR D cs (cW a cs sh LP Z σ))) (vp_Si (fun x => x = r)) 0 0 (fun _ => False) := by
  refine Met.ofW (cc := cX11_seen) (maxL := 3) (ret := (some .int)) (by decide) rfl ?_
  intro p e s m args below meth c s₁ B hml hv
  obtain ⟨rfl, hP, hK⟩ := hv
  have C : cxt p s m _ meth c cX11_seen 3 RX11 wsX11_seen (some .int) := ⟨B.exec, B.bytes, hml, findClass_of_methodNamed B.named, atoms_spec (ws := wsX11_seen) B.pre, B.returns, B.notSynchronized⟩
  obtain ⟨hx, hb, -, hown, hts, hr, hlk⟩ := id C
  refine entryW [.ref (a 0), .int x1, .int x2] (n := 3) (Nat.le_of_ble_eq_true rfl) (fun ls hl => ?_)
  have hl : lv_has ls 3 [(0, .ref (a 0)), (1, .int x1), (2, .int x2)] := hl
  unfold fX11_seen at h
  refine lv_iload_n hx hb dX11_seen_0 rfl (lv_at hl 1 rfl) ?_
  refine lv_iload_n hx hb dX11_seen_1 rfl (lv_at hl 2 rfl) ?_
  obtain ⟨v1, hc_v1, h⟩ := bd_some h
  refine mcallSZ (va_runS (As := [.int x1, .int x2]) (rest := []) ⟨hx, hb, hml, hown, hts⟩ (kX11_isCell l x1 x2 v1 hc_v1) (va_cwS 2 hts gX11_seen_X11_isCell rfl rfl rfl (by decide +kernel) ⟨Nat.le_of_ble_eq_true rfl, Nat.le_of_ble_eq_true rfl⟩) p0_s rfl rfl hl.1 rfl (lv_room (Nat.le_of_ble_eq_true rfl)) dX11_seen_2 ⟨Nat.zero_le _, Nat.zero_le _⟩) (fun z_v1 => ?_)
  refine lv_if_eq (tgt := 24) hx hb dX11_seen_5 (by decide) (fun c2 => ?_) (fun c2 => ?_)
  · have h := it_t c2 h
    refine lv_iconst (v := ((-1) : Int32)) hx hb dX11_seen_24 (by decide) ?_
    exact mretS hx hb hr hlk h dX11_seen_25
  · have h := it_f c2 h
    refine lv_aload_n hx hb dX11_seen_8 rfl (lv_at hl 0 rfl) ?_
    refine va_get (D := D) (ci := 10) (v := .ref (a 14)) (C := RX11) (T := TX11) (N := 5) hx hb hts inX11_X11_seen hown hK.1 hP 0 rfl rfl 2 (by decide) (hts (.fieldLink RX11 26 "SandPalace" "print" "LSandPalace$Photo;") (by decide +kernel)) (fun _ h9 => h9) rfl dX11_seen_9 ?_
    refine lv_bipush (v := (16 : Int32)) hx hb dX11_seen_12 (by decide) ?_
    refine lv_iload_n hx hb dX11_seen_14 rfl (lv_at hl 2 rfl) ?_
    refine lv_imul hx hb dX11_seen_15 ?_
    refine lv_iload_n hx hb dX11_seen_16 rfl (lv_at hl 1 rfl) ?_
    refine lv_iadd hx hb dX11_seen_17 ?_
    obtain ⟨v3, hc_v3, h⟩ := bd_some h
    refine mcallS (va_runV (As := [.int (((16 : Int32) * x2) + x1)]) (rest := []) ⟨hx, hb, hml, hown, hts⟩ (kX3_colourOf l D cs a sh LP Z hZ σ (((16 : Int32) * x2) + x1) v3 hc_v3) (cwV 1 hts gX11_seen_X3_colourOf rfl rfl rfl (by decide +kernel) ⟨Nat.le_of_ble_eq_true rfl, Nat.le_of_ble_eq_true rfl⟩) (pR_v hP hK (va_recv hK.1 hP (ci := 3) (q0 := 14) rfl rfl)) rfl rfl hl.1 rfl (lv_room (Nat.le_of_ble_eq_true rfl)) dX11_seen_18 ⟨Nat.zero_le _, Nat.zero_le _⟩) ?_
    refine lv_goto (tgt := 25) hx hb dX11_seen_21 (by decide) ?_
    exact mretS hx hb hr hlk h dX11_seen_25
def fX11_back (F : Nat) (sh : Nat → Option Nat) (Z : ZT) (σ : Nat → Nat → Int32) (x1 : Int32) (x2 : Int32) : Option Int32 :=
  bd (fX11_isCell x1 x2) fun v1 => if ¬ v1 = 0 then (bd (fX3_colourOf sh Z σ (((16 : Int32) * x2) + x1)) fun v3 => if v3 = ((-5) : Int32) then (bd (fX11_placeOf F x1 x2) fun v5 => bd (fX11_quarterOf x1 x2) fun v6 => bd (fX4_stepOfPlace F sh Z σ v5) fun v7 => bd (fX3_toldBack F sh Z σ v5 v6 v7) fun v8 => some v8) else (some ((-2) : Int32))) else (some ((-1) : Int32))
abbrev rmX11_back : Room := { frames := 3, cells := 0, slots := 0, locals := 73 }
theorem inX11_X11_back : ∀ w ∈ wsX110, w ∈ wsX11_back := by intro w h; simp only [wsX11_back, List.mem_cons, List.mem_append]; simp only [h, true_or, or_true]
set_option maxHeartbeats 4000000 in
set_option maxRecDepth 100000 in
theorem kX11_back (l : Launch) (D : va_G) (cs : Nat → ClassId) (a : Nat → Nat) (sh : Nat → Option Nat) (LP : List Nat) (Z : ZT) (hZ : shOK sh LP Z) (σ : Nat → Nat → Int32) (F : Nat) (x1 : Int32) (x2 : Int32) (r : Int32) (h : fX11_back F sh Z σ x1 x2 = some r) : Met l yX11_back wsX11_back rmX11_back (va_Pc [.ref (a 0), .int x1, .int x2] (pR D cs (cW a cs sh LP Z σ))) (vp_Si (fun x => x = r)) 0 0 (fun _ => False) := by
  refine Met.ofW (cc := cX11_back) (maxL := 4) (ret := (some .int)) (by decide) rfl ?_
  intro p e s m args below meth c s₁ B hml hv
  obtain ⟨rfl, hP, hK⟩ := hv
  have C : cxt p s m _ meth c cX11_back 4 RX11 wsX11_back (some .int) := ⟨B.exec, B.bytes, hml, findClass_of_methodNamed B.named, atoms_spec (ws := wsX11_back) B.pre, B.returns, B.notSynchronized⟩
  obtain ⟨hx, hb, -, hown, hts, hr, hlk⟩ := id C
  refine entryW [.ref (a 0), .int x1, .int x2] (n := 4) (Nat.le_of_ble_eq_true rfl) (fun ls hl => ?_)
  have hl : lv_has ls 4 [(0, .ref (a 0)), (1, .int x1), (2, .int x2)] := hl
  unfold fX11_back at h
  refine lv_iload_n hx hb dX11_back_0 rfl (lv_at hl 1 rfl) ?_
  refine lv_iload_n hx hb dX11_back_1 rfl (lv_at hl 2 rfl) ?_
  obtain ⟨v1, hc_v1, h⟩ := bd_some h
  refine mcallSZ (va_runS (As := [.int x1, .int x2]) (rest := []) ⟨hx, hb, hml, hown, hts⟩ (kX11_isCell l x1 x2 v1 hc_v1) (va_cwS 2 hts gX11_back_X11_isCell rfl rfl rfl (by decide +kernel) ⟨Nat.le_of_ble_eq_true rfl, Nat.le_of_ble_eq_true rfl⟩) p0_s rfl rfl hl.1 rfl (lv_room (Nat.le_of_ble_eq_true rfl)) dX11_back_2 ⟨Nat.zero_le _, Nat.zero_le _⟩) (fun z_v1 => ?_)
  refine lv_if_ne (tgt := 10) hx hb dX11_back_5 (by decide) (fun c2 => ?_) (fun c2 => ?_)
  · have h := it_t c2 h
    refine lv_aload_n hx hb dX11_back_10 rfl (lv_at hl 0 rfl) ?_
    refine va_get (D := D) (ci := 10) (v := .ref (a 14)) (C := RX11) (T := TX11) (N := 5) hx hb hts inX11_X11_back hown hK.1 hP 0 rfl rfl 2 (by decide) (hts (.fieldLink RX11 26 "SandPalace" "print" "LSandPalace$Photo;") (by decide +kernel)) (fun _ h9 => h9) rfl dX11_back_11 ?_
    refine lv_bipush (v := (16 : Int32)) hx hb dX11_back_14 (by decide) ?_
    refine lv_iload_n hx hb dX11_back_16 rfl (lv_at hl 2 rfl) ?_
    refine lv_imul hx hb dX11_back_17 ?_
    refine lv_iload_n hx hb dX11_back_18 rfl (lv_at hl 1 rfl) ?_
    refine lv_iadd hx hb dX11_back_19 ?_
    obtain ⟨v3, hc_v3, h⟩ := bd_some h
    refine mcallS (va_runV (As := [.int (((16 : Int32) * x2) + x1)]) (rest := []) ⟨hx, hb, hml, hown, hts⟩ (kX3_colourOf l D cs a sh LP Z hZ σ (((16 : Int32) * x2) + x1) v3 hc_v3) (cwV 1 hts gX11_back_X3_colourOf rfl rfl rfl (by decide +kernel) ⟨Nat.le_of_ble_eq_true rfl, Nat.le_of_ble_eq_true rfl⟩) (pR_v hP hK (va_recv hK.1 hP (ci := 3) (q0 := 14) rfl rfl)) rfl rfl hl.1 rfl (lv_room (Nat.le_of_ble_eq_true rfl)) dX11_back_20 ⟨Nat.zero_le _, Nat.zero_le _⟩) ?_
    refine lv_bipush (v := ((-5) : Int32)) hx hb dX11_back_23 (by decide) ?_
    refine lv_icmp_eq (tgt := 31) hx hb dX11_back_25 (by decide) (fun c4 => ?_) (fun c4 => ?_)
    · have h := it_t c4 h
      refine lv_iload_n hx hb dX11_back_31 rfl (lv_at hl 1 rfl) ?_
      refine lv_iload_n hx hb dX11_back_32 rfl (lv_at hl 2 rfl) ?_
      obtain ⟨v5, hc_v5, h⟩ := bd_some h
      refine mcallS (va_runS (As := [.int x1, .int x2]) (rest := []) ⟨hx, hb, hml, hown, hts⟩ (kX11_placeOf l F x1 x2 v5 hc_v5) (va_cwS 2 hts gX11_back_X11_placeOf rfl rfl rfl (by decide +kernel) ⟨Nat.le_of_ble_eq_true rfl, Nat.le_of_ble_eq_true rfl⟩) p0_s rfl rfl hl.1 rfl (lv_room (Nat.le_of_ble_eq_true rfl)) dX11_back_33 ⟨Nat.zero_le _, Nat.zero_le _⟩) ?_
      refine lv_istore_n (lv' := [(3, .int v5), (0, .ref (a 0)), (1, .int x1), (2, .int x2)]) hx hb dX11_back_36 rfl hl (by decide) rfl (fun ls hl => ?_)
      refine lv_aload_n hx hb dX11_back_37 rfl (lv_at hl 1 rfl) ?_
      refine va_get (D := D) (ci := 10) (v := .ref (a 14)) (C := RX11) (T := TX11) (N := 5) hx hb hts inX11_X11_back hown hK.1 hP 0 rfl rfl 2 (by decide) (hts (.fieldLink RX11 26 "SandPalace" "print" "LSandPalace$Photo;") (by decide +kernel)) (fun _ h9 => h9) rfl dX11_back_38 ?_
      refine lv_iload_n hx hb dX11_back_41 rfl (lv_at hl 0 rfl) ?_
      refine lv_iload_n hx hb dX11_back_42 rfl (lv_at hl 2 rfl) ?_
      refine lv_iload_n hx hb dX11_back_43 rfl (lv_at hl 3 rfl) ?_
      obtain ⟨v6, hc_v6, h⟩ := bd_some h
      refine mcallS (va_runS (As := [.int x1, .int x2]) (rest := [.int v5, .ref (a 14)]) ⟨hx, hb, hml, hown, hts⟩ (kX11_quarterOf l x1 x2 v6 hc_v6) (va_cwS 2 hts gX11_back_X11_quarterOf rfl rfl rfl (by decide +kernel) ⟨Nat.le_of_ble_eq_true rfl, Nat.le_of_ble_eq_true rfl⟩) p0_s rfl rfl hl.1 rfl (lv_room (Nat.le_of_ble_eq_true rfl)) dX11_back_44 ⟨Nat.zero_le _, Nat.zero_le _⟩) ?_
      refine lv_aload_n hx hb dX11_back_47 rfl (lv_at hl 1 rfl) ?_
      refine va_get (D := D) (ci := 10) (v := .ref (a 1)) (C := RX11) (T := TX11) (N := 5) hx hb hts inX11_X11_back hown hK.1 hP 0 rfl rfl 0 (by decide) (hts (.fieldLink RX11 10 "SandPalace" "picture" "LSandPalace$Picture;") (by decide +kernel)) (fun _ h9 => h9) rfl dX11_back_48 ?_
      refine lv_iload_n hx hb dX11_back_51 rfl (lv_at hl 0 rfl) ?_
      obtain ⟨v7, hc_v7, h⟩ := bd_some h
      refine mcallS (va_runV (As := [.int v5]) (rest := [.int v6, .int v5, .ref (a 14)]) ⟨hx, hb, hml, hown, hts⟩ (kX4_stepOfPlace l D cs a sh LP Z hZ σ F v5 v7 hc_v7) (cwV 1 hts gX11_back_X4_stepOfPlace rfl rfl rfl (by decide +kernel) ⟨Nat.le_of_ble_eq_true rfl, Nat.le_of_ble_eq_true rfl⟩) (pR_v hP hK (va_recv hK.1 hP (ci := 4) (q0 := 1) rfl rfl)) rfl rfl hl.1 rfl (lv_room (Nat.le_of_ble_eq_true rfl)) dX11_back_52 ⟨Nat.zero_le _, Nat.zero_le _⟩) ?_
      obtain ⟨v8, hc_v8, h⟩ := bd_some h
      refine mcallS (va_runV (As := [.int v5, .int v6, .int v7]) (rest := []) ⟨hx, hb, hml, hown, hts⟩ (kX3_toldBack l D cs a sh LP Z hZ σ F v5 v6 v7 v8 hc_v8) (cwV 3 hts gX11_back_X3_toldBack rfl rfl rfl (by decide +kernel) ⟨Nat.le_of_ble_eq_true rfl, Nat.le_of_ble_eq_true rfl⟩) (pR_v hP hK (va_recv hK.1 hP (ci := 3) (q0 := 14) rfl rfl)) rfl rfl hl.1 rfl (lv_room (Nat.le_of_ble_eq_true rfl)) dX11_back_55 ⟨Nat.zero_le _, Nat.zero_le _⟩) ?_
      exact mretS hx hb hr hlk h dX11_back_58
    · have h := it_f c4 h
      refine lv_bipush (v := ((-2) : Int32)) hx hb dX11_back_28 (by decide) ?_
      exact mretS hx hb hr hlk h dX11_back_30
  · have h := it_n c2 h
    refine lv_iconst (v := ((-1) : Int32)) hx hb dX11_back_8 (by decide) ?_
    exact mretS hx hb hr hlk h dX11_back_9
def fX11_mend (F : Nat) (sh : Nat → Option Nat) (Z : ZT) (σ : Nat → Nat → Int32)  : Option (Int32 × (Nat → Nat → Int32)) :=
  bd (fX3_mendAll F sh Z σ) fun (v1, σ2) => some (v1, σ2)
abbrev rmX11_mend : Room := { frames := 5, cells := 0, slots := 0, locals := 120 }
theorem inX11_X11_mend : ∀ w ∈ wsX110, w ∈ wsX11_mend := by intro w h; simp only [wsX11_mend, List.mem_cons, List.mem_append]; simp only [h, true_or, or_true]
set_option maxHeartbeats 4000000 in
set_option maxRecDepth 100000 in
theorem kX11_mend (l : Launch) (D : va_G) (cs : Nat → ClassId) (a : Nat → Nat) (sh : Nat → Option Nat) (LP : List Nat) (Z : ZT) (hZ : shOK sh LP Z) (σ : Nat → Nat → Int32) (F : Nat)  (r : Int32) (u9 : Nat → Nat → Int32) (h : fX11_mend F sh Z σ = some (r, u9)) (sz : Nat) : Met l yX11_mend wsX11_mend rmX11_mend (va_Pc [.ref (a 0)] (pQ D cs (cW a cs sh LP Z σ) sz)) (va_Qi (fun x y => x = r ∧ y = u9) (qB D (cW a cs sh LP Z) (va_A (cW a cs sh LP Z σ) sz)) (va_A (cW a cs sh LP Z σ) sz)) 0 0 (va_A (cW a cs sh LP Z σ) sz) := by
  refine Met.ofW (cc := cX11_mend) (maxL := 1) (ret := (some .int)) (by decide) rfl ?_
  intro p e s m args below meth c s₁ B hml hv
  obtain ⟨rfl, hsz, hP, hK, hD0⟩ := hv
  have C : cxt p s m _ meth c cX11_mend 1 RX11 wsX11_mend (some .int) := ⟨B.exec, B.bytes, hml, findClass_of_methodNamed B.named, atoms_spec (ws := wsX11_mend) B.pre, B.returns, B.notSynchronized⟩
  obtain ⟨hx, hb, -, hown, hts, hr, hlk⟩ := id C
  subst hsz
  have hD := hD0.self (sz := s.heap.size)
  generalize hAe : va_A (cW a cs sh LP Z σ) s.heap.size = A at hD ⊢
  have hA : ∀ q : Nat, s.heap.size ≤ q → A q := fun q h => by rw [← hAe]; exact Or.inr h
  have hS : va_S A s.heap s.heap [] := va_S.rf
  refine entryW [.ref (a 0)] (n := 1) (Nat.le_of_ble_eq_true rfl) (fun ls hl => ?_)
  have hl : lv_has ls 1 [(0, .ref (a 0))] := hl
  unfold fX11_mend at h
  refine lv_aload_n hx hb dX11_mend_0 rfl (lv_at hl 0 rfl) ?_
  refine va_get (D := D) (ci := 10) (v := .ref (a 14)) (C := RX11) (T := TX11) (N := 5) hx hb hts inX11_X11_mend hown hK.1 hP 0 rfl rfl 2 (by decide) (hts (.fieldLink RX11 26 "SandPalace" "print" "LSandPalace$Photo;") (by decide +kernel)) (fun _ h9 => h9) rfl dX11_mend_1 ?_
  refine lv_aload_n hx hb dX11_mend_4 rfl (lv_at hl 0 rfl) ?_
  refine va_get (D := D) (ci := 10) (v := .ref (a 1)) (C := RX11) (T := TX11) (N := 5) hx hb hts inX11_X11_mend hown hK.1 hP 0 rfl rfl 0 (by decide) (hts (.fieldLink RX11 10 "SandPalace" "picture" "LSandPalace$Picture;") (by decide +kernel)) (fun _ h9 => h9) rfl dX11_mend_5 ?_
  obtain ⟨⟨v1, σ2⟩, hc_v1, h⟩ := bd_some h
  refine mcallQ (wf := (cW a cs sh LP Z)) (va_runV (As := [.ref (a 1)]) (rest := []) ⟨hx, hb, hml, hown, hts⟩ (kX3_mendAll l D cs a sh LP Z hZ σ F v1 σ2 hc_v1 _) (cwV 1 hts gX11_mend_X3_mendAll rfl rfl rfl (by decide +kernel) ⟨Nat.le_of_ble_eq_true rfl, Nat.le_of_ble_eq_true rfl⟩) (pQ_v hP hK hD (va_recv hK.1 hP (ci := 3) (q0 := 14) rfl rfl)) rfl rfl hl.1 rfl (lv_room (Nat.le_of_ble_eq_true rfl)) dX11_mend_8 ⟨Nat.zero_le _, Nat.zero_le _⟩) hD hS hA (fun H locs hP hD hS => ?_)
  exact mretQ hx hb hr hlk h hP hD hS dX11_mend_11
def fX11_harm (F : Nat) (sh : Nat → Option Nat) (Z : ZT) (σ : Nat → Nat → Int32) (x1 : Int32) : Option Int32 :=
  if x1 = (0 : Int32) then (bd (fX3_cellsSmeared F sh Z σ) fun v2 => some v2) else if x1 = (1 : Int32) then (bd (fX3_cellsOff F sh Z σ) fun v4 => some v4) else if x1 = (2 : Int32) then (bd (fX3_cellsToldBackAs F sh Z σ ((-5) : Int32)) fun v6 => some v6) else if x1 = (3 : Int32) then (bd (fX3_cellsToldBackAs F sh Z σ ((-6) : Int32)) fun v8 => some v8) else (some ((-1) : Int32))
abbrev rmX11_harm : Room := { frames := 5, cells := 0, slots := 0, locals := 111 }
theorem inX11_X11_harm : ∀ w ∈ wsX110, w ∈ wsX11_harm := by intro w h; simp only [wsX11_harm, List.mem_cons, List.mem_append]; simp only [h, true_or, or_true]
set_option maxHeartbeats 4000000 in
set_option maxRecDepth 100000 in
theorem kX11_harm (l : Launch) (D : va_G) (cs : Nat → ClassId) (a : Nat → Nat) (sh : Nat → Option Nat) (LP : List Nat) (Z : ZT) (hZ : shOK sh LP Z) (σ : Nat → Nat → Int32) (F : Nat) (x1 : Int32) (r : Int32) (h : fX11_harm F sh Z σ x1 = some r) : Met l yX11_harm wsX11_harm rmX11_harm (va_Pc [.ref (a 0), .int x1] (pR D cs (cW a cs sh LP Z σ))) (vp_Si (fun x => x = r)) 0 0 (fun _ => False) := by
  refine Met.ofW (cc := cX11_harm) (maxL := 2) (ret := (some .int)) (by decide) rfl ?_
  intro p e s m args below meth c s₁ B hml hv
  obtain ⟨rfl, hP, hK⟩ := hv
  have C : cxt p s m _ meth c cX11_harm 2 RX11 wsX11_harm (some .int) := ⟨B.exec, B.bytes, hml, findClass_of_methodNamed B.named, atoms_spec (ws := wsX11_harm) B.pre, B.returns, B.notSynchronized⟩
  obtain ⟨hx, hb, -, hown, hts, hr, hlk⟩ := id C
  refine entryW [.ref (a 0), .int x1] (n := 2) (Nat.le_of_ble_eq_true rfl) (fun ls hl => ?_)
  have hl : lv_has ls 2 [(0, .ref (a 0)), (1, .int x1)] := hl
  unfold fX11_harm at h
  refine lv_iload_n hx hb dX11_harm_0 rfl (lv_at hl 1 rfl) ?_
  by_cases c1 : x1 = (0 : Int32)
  · have h := it_t c1 h
    refine lv_tableIn (off := 31) (tgt := 32) hx hb dX11_harm_1 (by rw [c1]; decide) (by rw [c1]; decide) (by rw [c1]; rfl) (by decide) ?_
    refine lv_aload_n hx hb dX11_harm_32 rfl (lv_at hl 0 rfl) ?_
    refine va_get (D := D) (ci := 10) (v := .ref (a 14)) (C := RX11) (T := TX11) (N := 5) hx hb hts inX11_X11_harm hown hK.1 hP 0 rfl rfl 2 (by decide) (hts (.fieldLink RX11 26 "SandPalace" "print" "LSandPalace$Photo;") (by decide +kernel)) (fun _ h9 => h9) rfl dX11_harm_33 ?_
    obtain ⟨v2, hc_v2, h⟩ := bd_some h
    refine mcallS (va_runV (As := []) (rest := []) ⟨hx, hb, hml, hown, hts⟩ (kX3_cellsSmeared l D cs a sh LP Z hZ σ F v2 hc_v2) (cwV 0 hts gX11_harm_X3_cellsSmeared rfl rfl rfl (by decide +kernel) ⟨Nat.le_of_ble_eq_true rfl, Nat.le_of_ble_eq_true rfl⟩) (pR_v hP hK (va_recv hK.1 hP (ci := 3) (q0 := 14) rfl rfl)) rfl rfl hl.1 rfl (lv_room (Nat.le_of_ble_eq_true rfl)) dX11_harm_36 ⟨Nat.zero_le _, Nat.zero_le _⟩) ?_
    exact mretS hx hb hr hlk h dX11_harm_39
  have h := it_f c1 h
  by_cases c3 : x1 = (1 : Int32)
  · have h := it_t c3 h
    refine lv_tableIn (off := 39) (tgt := 40) hx hb dX11_harm_1 (by rw [c3]; decide) (by rw [c3]; decide) (by rw [c3]; rfl) (by decide) ?_
    refine lv_aload_n hx hb dX11_harm_40 rfl (lv_at hl 0 rfl) ?_
    refine va_get (D := D) (ci := 10) (v := .ref (a 14)) (C := RX11) (T := TX11) (N := 5) hx hb hts inX11_X11_harm hown hK.1 hP 0 rfl rfl 2 (by decide) (hts (.fieldLink RX11 26 "SandPalace" "print" "LSandPalace$Photo;") (by decide +kernel)) (fun _ h9 => h9) rfl dX11_harm_41 ?_
    refine lv_aload_n hx hb dX11_harm_44 rfl (lv_at hl 0 rfl) ?_
    refine va_get (D := D) (ci := 10) (v := .ref (a 1)) (C := RX11) (T := TX11) (N := 5) hx hb hts inX11_X11_harm hown hK.1 hP 0 rfl rfl 0 (by decide) (hts (.fieldLink RX11 10 "SandPalace" "picture" "LSandPalace$Picture;") (by decide +kernel)) (fun _ h9 => h9) rfl dX11_harm_45 ?_
    obtain ⟨v4, hc_v4, h⟩ := bd_some h
    refine mcallS (va_runV (As := [.ref (a 1)]) (rest := []) ⟨hx, hb, hml, hown, hts⟩ (kX3_cellsOff l D cs a sh LP Z hZ σ F v4 hc_v4) (cwV 1 hts gX11_harm_X3_cellsOff rfl rfl rfl (by decide +kernel) ⟨Nat.le_of_ble_eq_true rfl, Nat.le_of_ble_eq_true rfl⟩) (pR_v hP hK (va_recv hK.1 hP (ci := 3) (q0 := 14) rfl rfl)) rfl rfl hl.1 rfl (lv_room (Nat.le_of_ble_eq_true rfl)) dX11_harm_48 ⟨Nat.zero_le _, Nat.zero_le _⟩) ?_
    exact mretS hx hb hr hlk h dX11_harm_51
  have h := it_f c3 h
  by_cases c5 : x1 = (2 : Int32)
  · have h := it_t c5 h
    refine lv_tableIn (off := 51) (tgt := 52) hx hb dX11_harm_1 (by rw [c5]; decide) (by rw [c5]; decide) (by rw [c5]; rfl) (by decide) ?_
    refine lv_aload_n hx hb dX11_harm_52 rfl (lv_at hl 0 rfl) ?_
    refine va_get (D := D) (ci := 10) (v := .ref (a 14)) (C := RX11) (T := TX11) (N := 5) hx hb hts inX11_X11_harm hown hK.1 hP 0 rfl rfl 2 (by decide) (hts (.fieldLink RX11 26 "SandPalace" "print" "LSandPalace$Photo;") (by decide +kernel)) (fun _ h9 => h9) rfl dX11_harm_53 ?_
    refine lv_bipush (v := ((-5) : Int32)) hx hb dX11_harm_56 (by decide) ?_
    refine lv_aload_n hx hb dX11_harm_58 rfl (lv_at hl 0 rfl) ?_
    refine va_get (D := D) (ci := 10) (v := .ref (a 1)) (C := RX11) (T := TX11) (N := 5) hx hb hts inX11_X11_harm hown hK.1 hP 0 rfl rfl 0 (by decide) (hts (.fieldLink RX11 10 "SandPalace" "picture" "LSandPalace$Picture;") (by decide +kernel)) (fun _ h9 => h9) rfl dX11_harm_59 ?_
    obtain ⟨v6, hc_v6, h⟩ := bd_some h
    refine mcallS (va_runV (As := [.int ((-5) : Int32), .ref (a 1)]) (rest := []) ⟨hx, hb, hml, hown, hts⟩ (kX3_cellsToldBackAs l D cs a sh LP Z hZ σ F ((-5) : Int32) v6 hc_v6) (cwV 2 hts gX11_harm_X3_cellsToldBackAs rfl rfl rfl (by decide +kernel) ⟨Nat.le_of_ble_eq_true rfl, Nat.le_of_ble_eq_true rfl⟩) (pR_v hP hK (va_recv hK.1 hP (ci := 3) (q0 := 14) rfl rfl)) rfl rfl hl.1 rfl (lv_room (Nat.le_of_ble_eq_true rfl)) dX11_harm_62 ⟨Nat.zero_le _, Nat.zero_le _⟩) ?_
    exact mretS hx hb hr hlk h dX11_harm_65
  have h := it_f c5 h
  by_cases c7 : x1 = (3 : Int32)
  · have h := it_t c7 h
    refine lv_tableIn (off := 65) (tgt := 66) hx hb dX11_harm_1 (by rw [c7]; decide) (by rw [c7]; decide) (by rw [c7]; rfl) (by decide) ?_
    refine lv_aload_n hx hb dX11_harm_66 rfl (lv_at hl 0 rfl) ?_
    refine va_get (D := D) (ci := 10) (v := .ref (a 14)) (C := RX11) (T := TX11) (N := 5) hx hb hts inX11_X11_harm hown hK.1 hP 0 rfl rfl 2 (by decide) (hts (.fieldLink RX11 26 "SandPalace" "print" "LSandPalace$Photo;") (by decide +kernel)) (fun _ h9 => h9) rfl dX11_harm_67 ?_
    refine lv_bipush (v := ((-6) : Int32)) hx hb dX11_harm_70 (by decide) ?_
    refine lv_aload_n hx hb dX11_harm_72 rfl (lv_at hl 0 rfl) ?_
    refine va_get (D := D) (ci := 10) (v := .ref (a 1)) (C := RX11) (T := TX11) (N := 5) hx hb hts inX11_X11_harm hown hK.1 hP 0 rfl rfl 0 (by decide) (hts (.fieldLink RX11 10 "SandPalace" "picture" "LSandPalace$Picture;") (by decide +kernel)) (fun _ h9 => h9) rfl dX11_harm_73 ?_
    obtain ⟨v8, hc_v8, h⟩ := bd_some h
    refine mcallS (va_runV (As := [.int ((-6) : Int32), .ref (a 1)]) (rest := []) ⟨hx, hb, hml, hown, hts⟩ (kX3_cellsToldBackAs l D cs a sh LP Z hZ σ F ((-6) : Int32) v8 hc_v8) (cwV 2 hts gX11_harm_X3_cellsToldBackAs rfl rfl rfl (by decide +kernel) ⟨Nat.le_of_ble_eq_true rfl, Nat.le_of_ble_eq_true rfl⟩) (pR_v hP hK (va_recv hK.1 hP (ci := 3) (q0 := 14) rfl rfl)) rfl rfl hl.1 rfl (lv_room (Nat.le_of_ble_eq_true rfl)) dX11_harm_76 ⟨Nat.zero_le _, Nat.zero_le _⟩) ?_
    exact mretS hx hb hr hlk h dX11_harm_79
  have h := it_f c7 h
  have ho : ∀ k : Int, 0 ≤ k → k ≤ 3 → ¬ Int32.toInt x1 = k := by
    intro k h1 h2
    rcases (show k = 0 ∨ k = 1 ∨ k = 2 ∨ k = 3 by omega) with rfl | rfl | rfl | rfl
    · exact lv_neT c1 (by decide)
    · exact lv_neT c3 (by decide)
    · exact lv_neT c5 (by decide)
    · exact lv_neT c7 (by decide)
  refine lv_tableOut (tgt := 80) hx hb dX11_harm_1 (tb_out ho) (by decide) ?_
  refine lv_iconst (v := ((-1) : Int32)) hx hb dX11_harm_80 (by decide) ?_
  exact mretS hx hb hr hlk h dX11_harm_81
def fX11_again (F : Nat) (sh : Nat → Option Nat) (Z : ZT) (σ : Nat → Nat → Int32)  : Option Int32 :=
  bd (fX3_smearedPlaces F sh Z σ) fun v1 => bd (fX4_shapesAt F sh Z σ v1) fun v2 => bd (fX4_withAllAfter F sh Z σ v2) fun v3 => some v3
abbrev rmX11_again : Room := { frames := 3, cells := 0, slots := 0, locals := 69 }
theorem inX11_X11_again : ∀ w ∈ wsX110, w ∈ wsX11_again := by intro w h; simp only [wsX11_again, List.mem_cons, List.mem_append]; simp only [h, true_or, or_true]
set_option maxHeartbeats 4000000 in
set_option maxRecDepth 100000 in
theorem kX11_again (l : Launch) (D : va_G) (cs : Nat → ClassId) (a : Nat → Nat) (sh : Nat → Option Nat) (LP : List Nat) (Z : ZT) (hZ : shOK sh LP Z) (σ : Nat → Nat → Int32) (F : Nat)  (r : Int32) (h : fX11_again F sh Z σ = some r) : Met l yX11_again wsX11_again rmX11_again (va_Pc [.ref (a 0)] (pR D cs (cW a cs sh LP Z σ))) (vp_Si (fun x => x = r)) 0 0 (fun _ => False) := by
  refine Met.ofW (cc := cX11_again) (maxL := 1) (ret := (some .int)) (by decide) rfl ?_
  intro p e s m args below meth c s₁ B hml hv
  obtain ⟨rfl, hP, hK⟩ := hv
  have C : cxt p s m _ meth c cX11_again 1 RX11 wsX11_again (some .int) := ⟨B.exec, B.bytes, hml, findClass_of_methodNamed B.named, atoms_spec (ws := wsX11_again) B.pre, B.returns, B.notSynchronized⟩
  obtain ⟨hx, hb, -, hown, hts, hr, hlk⟩ := id C
  refine entryW [.ref (a 0)] (n := 1) (Nat.le_of_ble_eq_true rfl) (fun ls hl => ?_)
  have hl : lv_has ls 1 [(0, .ref (a 0))] := hl
  unfold fX11_again at h
  refine lv_aload_n hx hb dX11_again_0 rfl (lv_at hl 0 rfl) ?_
  refine va_get (D := D) (ci := 10) (v := .ref (a 1)) (C := RX11) (T := TX11) (N := 5) hx hb hts inX11_X11_again hown hK.1 hP 0 rfl rfl 0 (by decide) (hts (.fieldLink RX11 10 "SandPalace" "picture" "LSandPalace$Picture;") (by decide +kernel)) (fun _ h9 => h9) rfl dX11_again_1 ?_
  refine lv_aload_n hx hb dX11_again_4 rfl (lv_at hl 0 rfl) ?_
  refine va_get (D := D) (ci := 10) (v := .ref (a 1)) (C := RX11) (T := TX11) (N := 5) hx hb hts inX11_X11_again hown hK.1 hP 0 rfl rfl 0 (by decide) (hts (.fieldLink RX11 10 "SandPalace" "picture" "LSandPalace$Picture;") (by decide +kernel)) (fun _ h9 => h9) rfl dX11_again_5 ?_
  refine lv_aload_n hx hb dX11_again_8 rfl (lv_at hl 0 rfl) ?_
  refine va_get (D := D) (ci := 10) (v := .ref (a 14)) (C := RX11) (T := TX11) (N := 5) hx hb hts inX11_X11_again hown hK.1 hP 0 rfl rfl 2 (by decide) (hts (.fieldLink RX11 26 "SandPalace" "print" "LSandPalace$Photo;") (by decide +kernel)) (fun _ h9 => h9) rfl dX11_again_9 ?_
  obtain ⟨v1, hc_v1, h⟩ := bd_some h
  refine mcallSL (va_runV (As := []) (rest := [.ref (a 1), .ref (a 1)]) ⟨hx, hb, hml, hown, hts⟩ (kX3_smearedPlaces l D cs a sh LP Z hZ σ F v1 hc_v1) (cwV 0 hts gX11_again_X3_smearedPlaces rfl rfl rfl (by decide +kernel) ⟨Nat.le_of_ble_eq_true rfl, Nat.le_of_ble_eq_true rfl⟩) (pR_v hP hK (va_recv hK.1 hP (ci := 3) (q0 := 14) rfl rfl)) rfl rfl hl.1 rfl (lv_room (Nat.le_of_ble_eq_true rfl)) dX11_again_12 ⟨Nat.zero_le _, Nat.zero_le _⟩) ?_
  obtain ⟨v2, hc_v2, h⟩ := bd_some h
  refine mcallS (va_runV (As := [.long v1]) (rest := [.ref (a 1)]) ⟨hx, hb, hml, hown, hts⟩ (kX4_shapesAt l D cs a sh LP Z hZ σ F v1 v2 hc_v2) (cwV 1 hts gX11_again_X4_shapesAt rfl rfl rfl (by decide +kernel) ⟨Nat.le_of_ble_eq_true rfl, Nat.le_of_ble_eq_true rfl⟩) (pR_v hP hK (va_recv hK.1 hP (ci := 4) (q0 := 1) rfl rfl)) rfl rfl hl.1 rfl (lv_room (Nat.le_of_ble_eq_true rfl)) dX11_again_15 ⟨Nat.zero_le _, Nat.zero_le _⟩) ?_
  obtain ⟨v3, hc_v3, h⟩ := bd_some h
  refine mcallS (va_runV (As := [.int v2]) (rest := []) ⟨hx, hb, hml, hown, hts⟩ (kX4_withAllAfter l D cs a sh LP Z hZ σ F v2 v3 hc_v3) (cwV 1 hts gX11_again_X4_withAllAfter rfl rfl rfl (by decide +kernel) ⟨Nat.le_of_ble_eq_true rfl, Nat.le_of_ble_eq_true rfl⟩) (pR_v hP hK (va_recv hK.1 hP (ci := 4) (q0 := 1) rfl rfl)) rfl rfl hl.1 rfl (lv_room (Nat.le_of_ble_eq_true rfl)) dX11_again_18 ⟨Nat.zero_le _, Nat.zero_le _⟩) ?_
  exact mretS hx hb hr hlk h dX11_again_21
def fX11_bar (F : Nat) (sh : Nat → Option Nat) (Z : ZT) (σ : Nat → Nat → Int32) (x1 : Int32) : Option (Int32 × (Nat → Nat → Int32)) :=
  bd (fX11_within x1 (0 : Int32) (65535 : Int32)) fun v1 => if v1 = 0 then (some (((-1) : Int32), σ)) else (bd (fX9_changeBars F sh Z σ x1) fun (v3, σ4) => some (v3, σ4))
abbrev rmX11_bar : Room := { frames := 1, cells := 0, slots := 0, locals := 23 }
theorem inX11_X11_bar : ∀ w ∈ wsX110, w ∈ wsX11_bar := by intro w h; simp only [wsX11_bar, List.mem_cons, List.mem_append]; simp only [h, true_or, or_true]
set_option maxHeartbeats 4000000 in
set_option maxRecDepth 100000 in
theorem kX11_bar (l : Launch) (D : va_G) (cs : Nat → ClassId) (a : Nat → Nat) (sh : Nat → Option Nat) (LP : List Nat) (Z : ZT) (hZ : shOK sh LP Z) (σ : Nat → Nat → Int32) (F : Nat) (x1 : Int32) (r : Int32) (u9 : Nat → Nat → Int32) (h : fX11_bar F sh Z σ x1 = some (r, u9)) (sz : Nat) : Met l yX11_bar wsX11_bar rmX11_bar (va_Pc [.ref (a 0), .int x1] (pQ D cs (cW a cs sh LP Z σ) sz)) (va_Qi (fun x y => x = r ∧ y = u9) (qB D (cW a cs sh LP Z) (va_A (cW a cs sh LP Z σ) sz)) (va_A (cW a cs sh LP Z σ) sz)) 0 0 (va_A (cW a cs sh LP Z σ) sz) := by
  refine Met.ofW (cc := cX11_bar) (maxL := 2) (ret := (some .int)) (by decide) rfl ?_
  intro p e s m args below meth c s₁ B hml hv
  obtain ⟨rfl, hsz, hP, hK, hD0⟩ := hv
  have C : cxt p s m _ meth c cX11_bar 2 RX11 wsX11_bar (some .int) := ⟨B.exec, B.bytes, hml, findClass_of_methodNamed B.named, atoms_spec (ws := wsX11_bar) B.pre, B.returns, B.notSynchronized⟩
  obtain ⟨hx, hb, -, hown, hts, hr, hlk⟩ := id C
  subst hsz
  have hD := hD0.self (sz := s.heap.size)
  generalize hAe : va_A (cW a cs sh LP Z σ) s.heap.size = A at hD ⊢
  have hA : ∀ q : Nat, s.heap.size ≤ q → A q := fun q h => by rw [← hAe]; exact Or.inr h
  have hS : va_S A s.heap s.heap [] := va_S.rf
  refine entryW [.ref (a 0), .int x1] (n := 2) (Nat.le_of_ble_eq_true rfl) (fun ls hl => ?_)
  have hl : lv_has ls 2 [(0, .ref (a 0)), (1, .int x1)] := hl
  unfold fX11_bar at h
  refine lv_iload_n hx hb dX11_bar_0 rfl (lv_at hl 1 rfl) ?_
  refine lv_iconst (v := (0 : Int32)) hx hb dX11_bar_1 (by decide) ?_
  refine lv_ldc hx hb hown (hts (.constant RX11 218 (65535)) (by decide +kernel)) dX11_bar_2 ?_
  obtain ⟨v1, hc_v1, h⟩ := bd_some h
  refine mcallSZ (va_runS (As := [.int x1, .int (0 : Int32), .int (65535 : Int32)]) (rest := []) ⟨hx, hb, hml, hown, hts⟩ (kX11_within l x1 (0 : Int32) (65535 : Int32) v1 hc_v1) (va_cwS 3 hts gX11_bar_X11_within rfl rfl rfl (by decide +kernel) ⟨Nat.le_of_ble_eq_true rfl, Nat.le_of_ble_eq_true rfl⟩) p0_s rfl rfl hl.1 rfl (lv_room (Nat.le_of_ble_eq_true rfl)) dX11_bar_4 ⟨Nat.zero_le _, Nat.zero_le _⟩) (fun z_v1 => ?_)
  refine lv_if_eq (tgt := 21) hx hb dX11_bar_7 (by decide) (fun c2 => ?_) (fun c2 => ?_)
  · have h := it_t c2 h
    refine lv_iconst (v := ((-1) : Int32)) hx hb dX11_bar_21 (by decide) ?_
    exact mretQ hx hb hr hlk h hP hD hS dX11_bar_22
  · have h := it_f c2 h
    refine lv_aload_n hx hb dX11_bar_10 rfl (lv_at hl 0 rfl) ?_
    refine va_get (D := D) (ci := 10) (v := .ref (a 17)) (C := RX11) (T := TX11) (N := 5) hx hb hts inX11_X11_bar hown hK.1 hP 0 rfl rfl 3 (by decide) (hts (.fieldLink RX11 33 "SandPalace" "sweeper" "LSandPalace$Sweeper;") (by decide +kernel)) (fun _ h9 => h9) rfl dX11_bar_11 ?_
    refine lv_iload_n hx hb dX11_bar_14 rfl (lv_at hl 1 rfl) ?_
    obtain ⟨⟨v3, σ4⟩, hc_v3, h⟩ := bd_some h
    refine mcallQ (wf := (cW a cs sh LP Z)) (va_runV (As := [.int x1]) (rest := []) ⟨hx, hb, hml, hown, hts⟩ (kX9_changeBars l D cs a sh LP Z hZ σ F x1 v3 σ4 hc_v3 _) (cwV 1 hts gX11_bar_X9_changeBars rfl rfl rfl (by decide +kernel) ⟨Nat.le_of_ble_eq_true rfl, Nat.le_of_ble_eq_true rfl⟩) (pQ_v hP hK hD (va_recv hK.1 hP (ci := 8) (q0 := 17) rfl rfl)) rfl rfl hl.1 rfl (lv_room (Nat.le_of_ble_eq_true rfl)) dX11_bar_15 ⟨Nat.zero_le _, Nat.zero_le _⟩) hD hS hA (fun H locs hP hD hS => ?_)
    refine lv_goto (tgt := 22) hx hb dX11_bar_18 (by decide) ?_
    exact mretQ hx hb hr hlk h hP hD hS dX11_bar_22
def fX11_heap_L41 (F : Nat) (sh : Nat → Option Nat) (Z : ZT) (σ : Nat → Nat → Int32) (x2 : Int32) (x3 : Int32) (x5 : Int32) (kx : Int32 → Option Int32) : Nat → Int32 → Int32 → Option Int32
  | 0, _, _ => none
  | n+1, x4, x6 =>
    nb ((fun x4 x6 => fX11_heap_L41 F sh Z σ x2 x3 x5 kx n x4 x6)) fun kb =>
    if (x2 + (4 : Int32)) ≤ x6 then (kx x4) else (bd (fX11_placeOf F x6 x5) fun v7 => bd (fX4_layers F sh Z σ v7) fun v8 => bd (fJ6_bitCount_0f7a4 v8) fun v9 => kb (x4 + v9) (x6 + (1 : Int32)))
def fX11_heap_L30 (F : Nat) (sh : Nat → Option Nat) (Z : ZT) (σ : Nat → Nat → Int32) (x2 : Int32) (x3 : Int32) (kx : Int32 → Option Int32) : Nat → Int32 → Int32 → Option Int32
  | 0, _, _ => none
  | n+1, x4, x5 =>
    nb ((fun x4 x5 => fX11_heap_L30 F sh Z σ x2 x3 kx n x4 x5)) fun kb =>
    if (x3 + (4 : Int32)) ≤ x5 then (kx x4) else (fX11_heap_L41 F sh Z σ x2 x3 x5 (fun y6 => kb y6 (x5 + (1 : Int32))) F x4 x2)
def fX11_heap (F : Nat) (sh : Nat → Option Nat) (Z : ZT) (σ : Nat → Nat → Int32) (x1 : Int32) : Option Int32 :=
  bd (fX11_within x1 (0 : Int32) (15 : Int32)) fun v1 => if ¬ v1 = 0 then (nm ((x1 - x1 / (4 : Int32) * (4 : Int32)) * (4 : Int32)) fun z3 => nm ((x1 / (4 : Int32)) * (4 : Int32)) fun z4 => fX11_heap_L30 F sh Z σ z3 z4 (fun y5 => some y5) F (0 : Int32) z4) else (some ((-1) : Int32))
abbrev rmX11_heap : Room := { frames := 2, cells := 0, slots := 0, locals := 46 }
theorem inX11_X11_heap : ∀ w ∈ wsX110, w ∈ wsX11_heap := by intro w h; simp only [wsX11_heap, List.mem_cons, List.mem_append]; simp only [h, true_or, or_true]
set_option maxHeartbeats 4000000 in
set_option maxRecDepth 100000 in
theorem wX11_heap_L41 {p : Program} {l : Launch} {e : Env} {s : State} {m : MethodId} {args : Array Value} {below : List Frame} {meth : Method} {c : Code} (C : cxt p s m args meth c cX11_heap 7 RX11 wsX11_heap (some .int)) {D : va_G} {cs : Nat → ClassId} {a : Nat → Nat} {sh : Nat → Option Nat} {LP : List Nat} {Z : ZT} (hZ : shOK sh LP Z) (hK : KK D cs s) {σ : Nat → Nat → Int32} (hP : va_P D vwCl (cW a cs sh LP Z σ) s.heap) (r : Int32) (F : Nat) (x2 : Int32) (x3 : Int32) (x5 : Int32) (kx : Int32 → Option Int32) (hkx : ∀ (x4 : Int32) (ls : Array Slot), lv_has ls 7 [(0, .ref (a 0)), (2, .int x2), (3, .int x3), (4, .int x4), (5, .int x5)] → kx x4 = some r → W p l e rmX11_heap s m args below meth c s.heap [] 0 0 (MQ below (vp_Si (fun x => x = r)) args s 0 0 (fun _ => False)) (F0 m 77 ls [])) : ∀ (n : Nat) (x4 : Int32) (x6 : Int32) (ls : Array Slot), lv_has ls 7 [(0, .ref (a 0)), (2, .int x2), (3, .int x3), (4, .int x4), (5, .int x5), (6, .int x6)] → fX11_heap_L41 F sh Z σ x2 x3 x5 kx n x4 x6 = some r → W p l e rmX11_heap s m args below meth c s.heap [] 0 0 (MQ below (vp_Si (fun x => x = r)) args s 0 0 (fun _ => False)) (F0 m 41 ls []) := by
  obtain ⟨hx, hb, hml, hown, hts, hr, hlk⟩ := id C
  intro n
  induction n with
  | zero =>
    intros
    rename_i h
    cases h
  | succ n ih =>
    intro x4 x6 ls hl h
    rw [fX11_heap_L41] at h
    obtain ⟨kb, hkb, h⟩ := nb_some (P := fun (kb : Int32 → Int32 → Option Int32) => ∀ (x4 : Int32) (x6 : Int32) (ls : Array Slot), lv_has ls 7 [(0, .ref (a 0)), (2, .int x2), (3, .int x3), (4, .int x4), (5, .int x5), (6, .int x6)] → kb x4 x6 = some r → W p l e rmX11_heap s m args below meth c s.heap [] 0 0 (MQ below (vp_Si (fun x => x = r)) args s 0 0 (fun _ => False)) (F0 m 41 ls [])) h ih
    refine lv_iload hx hb dX11_heap_41 (lv_at hl 5 rfl) ?_
    refine lv_iload_n hx hb dX11_heap_43 rfl (lv_at hl 1 rfl) ?_
    refine lv_iconst (v := (4 : Int32)) hx hb dX11_heap_44 (by decide) ?_
    refine lv_iadd hx hb dX11_heap_45 ?_
    refine lv_icmp_ge (tgt := 77) hx hb dX11_heap_46 (by decide) (fun c6 => ?_) (fun c6 => ?_)
    · have h := it_t c6 h
      exact hkx x4 ls (lv_sub hl [0, 1, 2, 3, 4] rfl) h
    · have h := it_f c6 h
      refine lv_iload hx hb dX11_heap_49 (lv_at hl 3 rfl) ?_
      refine lv_aload_n hx hb dX11_heap_51 rfl (lv_at hl 0 rfl) ?_
      refine va_get (D := D) (ci := 10) (v := .ref (a 1)) (C := RX11) (T := TX11) (N := 5) hx hb hts inX11_X11_heap hown hK.1 hP 0 rfl rfl 0 (by decide) (hts (.fieldLink RX11 10 "SandPalace" "picture" "LSandPalace$Picture;") (by decide +kernel)) (fun _ h9 => h9) rfl dX11_heap_52 ?_
      refine lv_iload hx hb dX11_heap_55 (lv_at hl 5 rfl) ?_
      refine lv_iload hx hb dX11_heap_57 (lv_at hl 4 rfl) ?_
      obtain ⟨v7, hc_v7, h⟩ := bd_some h
      refine mcallS (va_runS (As := [.int x6, .int x5]) (rest := [.ref (a 1), .int x4]) ⟨hx, hb, hml, hown, hts⟩ (kX11_placeOf l F x6 x5 v7 hc_v7) (va_cwS 2 hts gX11_heap_X11_placeOf rfl rfl rfl (by decide +kernel) ⟨Nat.le_of_ble_eq_true rfl, Nat.le_of_ble_eq_true rfl⟩) p0_s rfl rfl hl.1 rfl (lv_room (Nat.le_of_ble_eq_true rfl)) dX11_heap_59 ⟨Nat.zero_le _, Nat.zero_le _⟩) ?_
      obtain ⟨v8, hc_v8, h⟩ := bd_some h
      refine mcallS (va_runV (As := [.int v7]) (rest := [.int x4]) ⟨hx, hb, hml, hown, hts⟩ (kX4_layers l D cs a sh LP Z hZ σ F v7 v8 hc_v8) (cwV 1 hts gX11_heap_X4_layers rfl rfl rfl (by decide +kernel) ⟨Nat.le_of_ble_eq_true rfl, Nat.le_of_ble_eq_true rfl⟩) (pR_v hP hK (va_recv hK.1 hP (ci := 4) (q0 := 1) rfl rfl)) rfl rfl hl.1 rfl (lv_room (Nat.le_of_ble_eq_true rfl)) dX11_heap_62 ⟨Nat.zero_le _, Nat.zero_le _⟩) ?_
      obtain ⟨v9, hc_v9, h⟩ := bd_some h
      refine mcallS (va_runS (As := [.int v8]) (rest := [.int x4]) ⟨hx, hb, hml, hown, hts⟩ (kJ6_bitCount_0f7a4 l v8 v9 hc_v9) (va_cwS 1 hts gX11_heap_J6_bitCount_0f7a4 rfl rfl rfl (by decide +kernel) ⟨Nat.le_of_ble_eq_true rfl, Nat.le_of_ble_eq_true rfl⟩) p0_s rfl rfl hl.1 rfl (lv_room (Nat.le_of_ble_eq_true rfl)) dX11_heap_65 ⟨Nat.zero_le _, Nat.zero_le _⟩) ?_
      refine lv_iadd hx hb dX11_heap_68 ?_
      refine lv_istore (lv' := [(4, .int (x4 + v9)), (0, .ref (a 0)), (2, .int x2), (3, .int x3), (5, .int x5), (6, .int x6)]) hx hb dX11_heap_69 hl (by decide) rfl (fun ls hl => ?_)
      refine lv_iinc (v := x6 + (1 : Int32)) (lv' := [(6, .int (x6 + (1 : Int32))), (4, .int (x4 + v9)), (0, .ref (a 0)), (2, .int x2), (3, .int x3), (5, .int x5)]) hx hb dX11_heap_71 hl (k := 5) rfl rfl (by decide) rfl (fun ls hl => ?_)
      refine lv_goto (tgt := 41) hx hb dX11_heap_74 (by decide) ?_
      exact hkb (x4 + v9) (x6 + (1 : Int32)) ls (lv_sub hl [2, 3, 4, 1, 5, 0] rfl) h
set_option maxHeartbeats 4000000 in
set_option maxRecDepth 100000 in
theorem wX11_heap_L30 {p : Program} {l : Launch} {e : Env} {s : State} {m : MethodId} {args : Array Value} {below : List Frame} {meth : Method} {c : Code} (C : cxt p s m args meth c cX11_heap 7 RX11 wsX11_heap (some .int)) {D : va_G} {cs : Nat → ClassId} {a : Nat → Nat} {sh : Nat → Option Nat} {LP : List Nat} {Z : ZT} (hZ : shOK sh LP Z) (hK : KK D cs s) {σ : Nat → Nat → Int32} (hP : va_P D vwCl (cW a cs sh LP Z σ) s.heap) (r : Int32) (F : Nat) (x2 : Int32) (x3 : Int32) (kx : Int32 → Option Int32) (hkx : ∀ (x4 : Int32) (ls : Array Slot), lv_has ls 7 [(4, .int x4)] → kx x4 = some r → W p l e rmX11_heap s m args below meth c s.heap [] 0 0 (MQ below (vp_Si (fun x => x = r)) args s 0 0 (fun _ => False)) (F0 m 83 ls [])) : ∀ (n : Nat) (x4 : Int32) (x5 : Int32) (ls : Array Slot), lv_has ls 7 [(0, .ref (a 0)), (2, .int x2), (3, .int x3), (4, .int x4), (5, .int x5)] → fX11_heap_L30 F sh Z σ x2 x3 kx n x4 x5 = some r → W p l e rmX11_heap s m args below meth c s.heap [] 0 0 (MQ below (vp_Si (fun x => x = r)) args s 0 0 (fun _ => False)) (F0 m 30 ls []) := by
  obtain ⟨hx, hb, hml, hown, hts, hr, hlk⟩ := id C
  intro n
  induction n with
  | zero =>
    intros
    rename_i h
    cases h
  | succ n ih =>
    intro x4 x5 ls hl h
    rw [fX11_heap_L30] at h
    obtain ⟨kb, hkb, h⟩ := nb_some (P := fun (kb : Int32 → Int32 → Option Int32) => ∀ (x4 : Int32) (x5 : Int32) (ls : Array Slot), lv_has ls 7 [(0, .ref (a 0)), (2, .int x2), (3, .int x3), (4, .int x4), (5, .int x5)] → kb x4 x5 = some r → W p l e rmX11_heap s m args below meth c s.heap [] 0 0 (MQ below (vp_Si (fun x => x = r)) args s 0 0 (fun _ => False)) (F0 m 30 ls [])) h ih
    refine lv_iload hx hb dX11_heap_30 (lv_at hl 4 rfl) ?_
    refine lv_iload_n hx hb dX11_heap_32 rfl (lv_at hl 2 rfl) ?_
    refine lv_iconst (v := (4 : Int32)) hx hb dX11_heap_33 (by decide) ?_
    refine lv_iadd hx hb dX11_heap_34 ?_
    refine lv_icmp_ge (tgt := 83) hx hb dX11_heap_35 (by decide) (fun c5 => ?_) (fun c5 => ?_)
    · have h := it_t c5 h
      exact hkx x4 ls (lv_sub hl [3] rfl) h
    · have h := it_f c5 h
      refine lv_iload_n hx hb dX11_heap_38 rfl (lv_at hl 1 rfl) ?_
      refine lv_istore (lv' := [(6, .int x2), (0, .ref (a 0)), (2, .int x2), (3, .int x3), (4, .int x4), (5, .int x5)]) hx hb dX11_heap_39 hl (by decide) rfl (fun ls hl => ?_)
      refine wX11_heap_L41 C hZ hK hP r F x2 x3 x5 _ ?_ F x4 x2 ls (lv_sub hl [1, 2, 3, 4, 5, 0] rfl) h
      intro y6 ls hl h
      refine lv_iinc (v := x5 + (1 : Int32)) (lv' := [(5, .int (x5 + (1 : Int32))), (0, .ref (a 0)), (2, .int x2), (3, .int x3), (4, .int y6)]) hx hb dX11_heap_77 hl (k := 4) rfl rfl (by decide) rfl (fun ls hl => ?_)
      refine lv_goto (tgt := 30) hx hb dX11_heap_80 (by decide) ?_
      exact hkb y6 (x5 + (1 : Int32)) ls (lv_sub hl [1, 2, 3, 4, 0] rfl) h
set_option maxHeartbeats 4000000 in
set_option maxRecDepth 100000 in
theorem kX11_heap (l : Launch) (D : va_G) (cs : Nat → ClassId) (a : Nat → Nat) (sh : Nat → Option Nat) (LP : List Nat) (Z : ZT) (hZ : shOK sh LP Z) (σ : Nat → Nat → Int32) (F : Nat) (x1 : Int32) (r : Int32) (h : fX11_heap F sh Z σ x1 = some r) : Met l yX11_heap wsX11_heap rmX11_heap (va_Pc [.ref (a 0), .int x1] (pR D cs (cW a cs sh LP Z σ))) (vp_Si (fun x => x = r)) 0 0 (fun _ => False) := by
  refine Met.ofW (cc := cX11_heap) (maxL := 7) (ret := (some .int)) (by decide) rfl ?_
  intro p e s m args below meth c s₁ B hml hv
  obtain ⟨rfl, hP, hK⟩ := hv
  have C : cxt p s m _ meth c cX11_heap 7 RX11 wsX11_heap (some .int) := ⟨B.exec, B.bytes, hml, findClass_of_methodNamed B.named, atoms_spec (ws := wsX11_heap) B.pre, B.returns, B.notSynchronized⟩
  obtain ⟨hx, hb, -, hown, hts, hr, hlk⟩ := id C
  refine entryW [.ref (a 0), .int x1] (n := 7) (Nat.le_of_ble_eq_true rfl) (fun ls hl => ?_)
  have hl : lv_has ls 7 [(0, .ref (a 0)), (1, .int x1)] := hl
  unfold fX11_heap at h
  refine lv_iload_n hx hb dX11_heap_0 rfl (lv_at hl 1 rfl) ?_
  refine lv_iconst (v := (0 : Int32)) hx hb dX11_heap_1 (by decide) ?_
  refine lv_bipush (v := (15 : Int32)) hx hb dX11_heap_2 (by decide) ?_
  obtain ⟨v1, hc_v1, h⟩ := bd_some h
  refine mcallSZ (va_runS (As := [.int x1, .int (0 : Int32), .int (15 : Int32)]) (rest := []) ⟨hx, hb, hml, hown, hts⟩ (kX11_within l x1 (0 : Int32) (15 : Int32) v1 hc_v1) (va_cwS 3 hts gX11_heap_X11_within rfl rfl rfl (by decide +kernel) ⟨Nat.le_of_ble_eq_true rfl, Nat.le_of_ble_eq_true rfl⟩) p0_s rfl rfl hl.1 rfl (lv_room (Nat.le_of_ble_eq_true rfl)) dX11_heap_4 ⟨Nat.zero_le _, Nat.zero_le _⟩) (fun z_v1 => ?_)
  refine lv_if_ne (tgt := 12) hx hb dX11_heap_7 (by decide) (fun c2 => ?_) (fun c2 => ?_)
  · have h := it_t c2 h
    refine lv_iload_n hx hb dX11_heap_12 rfl (lv_at hl 1 rfl) ?_
    refine lv_iconst (v := (4 : Int32)) hx hb dX11_heap_13 (by decide) ?_
    refine lv_irem hx hb dX11_heap_14 (by decide) ?_
    refine lv_iconst (v := (4 : Int32)) hx hb dX11_heap_15 (by decide) ?_
    refine lv_imul hx hb dX11_heap_16 ?_
    obtain ⟨z3, e_z3, h⟩ := nm_some h
    refine tpi e_z3 ?_
    refine lv_istore_n (lv' := [(2, .int z3), (0, .ref (a 0)), (1, .int x1)]) hx hb dX11_heap_17 rfl hl (by decide) rfl (fun ls hl => ?_)
    refine lv_iload_n hx hb dX11_heap_18 rfl (lv_at hl 2 rfl) ?_
    refine lv_iconst (v := (4 : Int32)) hx hb dX11_heap_19 (by decide) ?_
    refine lv_idiv hx hb dX11_heap_20 (by decide) ?_
    refine lv_iconst (v := (4 : Int32)) hx hb dX11_heap_21 (by decide) ?_
    refine lv_imul hx hb dX11_heap_22 ?_
    obtain ⟨z4, e_z4, h⟩ := nm_some h
    refine tpi e_z4 ?_
    refine lv_istore_n (lv' := [(3, .int z4), (2, .int z3), (0, .ref (a 0)), (1, .int x1)]) hx hb dX11_heap_23 rfl hl (by decide) rfl (fun ls hl => ?_)
    refine lv_iconst (v := (0 : Int32)) hx hb dX11_heap_24 (by decide) ?_
    refine lv_istore (lv' := [(4, .int (0 : Int32)), (3, .int z4), (2, .int z3), (0, .ref (a 0)), (1, .int x1)]) hx hb dX11_heap_25 hl (by decide) rfl (fun ls hl => ?_)
    refine lv_iload_n hx hb dX11_heap_27 rfl (lv_at hl 1 rfl) ?_
    refine lv_istore (lv' := [(5, .int z4), (4, .int (0 : Int32)), (3, .int z4), (2, .int z3), (0, .ref (a 0)), (1, .int x1)]) hx hb dX11_heap_28 hl (by decide) rfl (fun ls hl => ?_)
    refine wX11_heap_L30 C hZ hK hP r F z3 z4 _ ?_ F (0 : Int32) z4 ls (lv_sub hl [4, 3, 2, 1, 0] rfl) h
    intro y5 ls hl h
    refine lv_iload hx hb dX11_heap_83 (lv_at hl 0 rfl) ?_
    exact mretS hx hb hr hlk h dX11_heap_85
  · have h := it_n c2 h
    refine lv_iconst (v := ((-1) : Int32)) hx hb dX11_heap_10 (by decide) ?_
    exact mretS hx hb hr hlk h dX11_heap_11
def fX11_isSheetAndLane (x0 : Int32) (x1 : Int32) : Option Int32 :=
  bd (fX11_within x0 (0 : Int32) (3 : Int32)) fun v1 => if v1 = 0 then (some (0 : Int32)) else (bd (fX11_within x1 (0 : Int32) (2 : Int32)) fun v3 => if v3 = 0 then (some (0 : Int32)) else (some (1 : Int32)))
abbrev rmX11_isSheetAndLane : Room := { frames := 1, cells := 0, slots := 0, locals := 22 }
set_option maxHeartbeats 4000000 in
set_option maxRecDepth 100000 in
theorem kX11_isSheetAndLane (l : Launch) (x0 : Int32) (x1 : Int32) (r : Int32) (h : fX11_isSheetAndLane x0 x1 = some r) : Met l yX11_isSheetAndLane wsX11_isSheetAndLane rmX11_isSheetAndLane (va_Pc [.int x0, .int x1] (p0)) (vp_Si (fun x => x = r ∧ (r = 0 ∨ r = 1))) 0 0 (fun _ => False) := by
  refine Met.ofW (cc := cX11_isSheetAndLane) (maxL := 2) (ret := (some .boolean)) (by decide) rfl ?_
  intro p e s m args below meth c s₁ B hml hv
  obtain ⟨rfl, -⟩ := hv
  have C : cxt p s m _ meth c cX11_isSheetAndLane 2 RX11 wsX11_isSheetAndLane (some .boolean) := ⟨B.exec, B.bytes, hml, findClass_of_methodNamed B.named, atoms_spec (ws := wsX11_isSheetAndLane) B.pre, B.returns, B.notSynchronized⟩
  obtain ⟨hx, hb, -, hown, hts, hr, hlk⟩ := id C
  refine entryW [.int x0, .int x1] (n := 2) (Nat.le_of_ble_eq_true rfl) (fun ls hl => ?_)
  have hl : lv_has ls 2 [(0, .int x0), (1, .int x1)] := hl
  unfold fX11_isSheetAndLane at h
  refine lv_iload_n hx hb dX11_isSheetAndLane_0 rfl (lv_at hl 0 rfl) ?_
  refine lv_iconst (v := (0 : Int32)) hx hb dX11_isSheetAndLane_1 (by decide) ?_
  refine lv_iconst (v := (3 : Int32)) hx hb dX11_isSheetAndLane_2 (by decide) ?_
  obtain ⟨v1, hc_v1, h⟩ := bd_some h
  refine mcallSZ (va_runS (As := [.int x0, .int (0 : Int32), .int (3 : Int32)]) (rest := []) ⟨hx, hb, hml, hown, hts⟩ (kX11_within l x0 (0 : Int32) (3 : Int32) v1 hc_v1) (va_cwS 3 hts gX11_isSheetAndLane_X11_within rfl rfl rfl (by decide +kernel) ⟨Nat.le_of_ble_eq_true rfl, Nat.le_of_ble_eq_true rfl⟩) p0_s rfl rfl hl.1 rfl (lv_room (Nat.le_of_ble_eq_true rfl)) dX11_isSheetAndLane_3 ⟨Nat.zero_le _, Nat.zero_le _⟩) (fun z_v1 => ?_)
  refine lv_if_eq (tgt := 22) hx hb dX11_isSheetAndLane_6 (by decide) (fun c2 => ?_) (fun c2 => ?_)
  · have h := it_t c2 h
    refine lv_iconst (v := (0 : Int32)) hx hb dX11_isSheetAndLane_22 (by decide) ?_
    exact mretSZ hx hb hr hlk h (Or.inl rfl) dX11_isSheetAndLane_23
  · have h := it_f c2 h
    refine lv_iload_n hx hb dX11_isSheetAndLane_9 rfl (lv_at hl 1 rfl) ?_
    refine lv_iconst (v := (0 : Int32)) hx hb dX11_isSheetAndLane_10 (by decide) ?_
    refine lv_iconst (v := (2 : Int32)) hx hb dX11_isSheetAndLane_11 (by decide) ?_
    obtain ⟨v3, hc_v3, h⟩ := bd_some h
    refine mcallSZ (va_runS (As := [.int x1, .int (0 : Int32), .int (2 : Int32)]) (rest := []) ⟨hx, hb, hml, hown, hts⟩ (kX11_within l x1 (0 : Int32) (2 : Int32) v3 hc_v3) (va_cwS 3 hts gX11_isSheetAndLane_X11_within rfl rfl rfl (by decide +kernel) ⟨Nat.le_of_ble_eq_true rfl, Nat.le_of_ble_eq_true rfl⟩) p0_s rfl rfl hl.1 rfl (lv_room (Nat.le_of_ble_eq_true rfl)) dX11_isSheetAndLane_12 ⟨Nat.zero_le _, Nat.zero_le _⟩) (fun z_v3 => ?_)
    refine lv_if_eq (tgt := 22) hx hb dX11_isSheetAndLane_15 (by decide) (fun c4 => ?_) (fun c4 => ?_)
    · have h := it_t c4 h
      refine lv_iconst (v := (0 : Int32)) hx hb dX11_isSheetAndLane_22 (by decide) ?_
      exact mretSZ hx hb hr hlk h (Or.inl rfl) dX11_isSheetAndLane_23
    · have h := it_f c4 h
      refine lv_iconst (v := (1 : Int32)) hx hb dX11_isSheetAndLane_18 (by decide) ?_
      refine lv_goto (tgt := 23) hx hb dX11_isSheetAndLane_19 (by decide) ?_
      exact mretSZ hx hb hr hlk h (Or.inr rfl) dX11_isSheetAndLane_23
def fX11_sheet (F : Nat) (sh : Nat → Option Nat) (Z : ZT) (σ : Nat → Nat → Int32) (x1 : Int32) (x2 : Int32) (x3 : Int32) : Option (Int32 × (Nat → Nat → Int32)) :=
  bd (fX11_isSheetAndLane x1 x2) fun v1 => if v1 = 0 then (some (((-1) : Int32), σ)) else (if x3 ≤ (256 : Int32) then (if 0 ≤ x3 then (sw4 x1 fun k6a k6b k6c => bd (fX7_begin k6a k6b k6c F sh Z σ x2 x3) fun σ8 => some (x3, σ8)) else (some (((-14) : Int32), σ))) else (some (((-1) : Int32), σ)))
abbrev rmX11_sheet : Room := { frames := 2, cells := 0, slots := 0, locals := 43 }
theorem inX11_X11_sheet : ∀ w ∈ wsX110, w ∈ wsX11_sheet := by intro w h; simp only [wsX11_sheet, List.mem_cons, List.mem_append]; simp only [h, true_or, or_true]
set_option maxHeartbeats 4000000 in
set_option maxRecDepth 100000 in
theorem kX11_sheet (l : Launch) (D : va_G) (cs : Nat → ClassId) (a : Nat → Nat) (sh : Nat → Option Nat) (LP : List Nat) (Z : ZT) (hZ : shOK sh LP Z) (σ : Nat → Nat → Int32) (F : Nat) (x1 : Int32) (x2 : Int32) (x3 : Int32) (r : Int32) (u9 : Nat → Nat → Int32) (h : fX11_sheet F sh Z σ x1 x2 x3 = some (r, u9)) (sz : Nat) : Met l yX11_sheet wsX11_sheet rmX11_sheet (va_Pc [.ref (a 0), .int x1, .int x2, .int x3] (pQ D cs (cW a cs sh LP Z σ) sz)) (va_Qi (fun x y => x = r ∧ y = u9) (qB D (cW a cs sh LP Z) (va_A (cW a cs sh LP Z σ) sz)) (va_A (cW a cs sh LP Z σ) sz)) 0 0 (va_A (cW a cs sh LP Z σ) sz) := by
  refine Met.ofW (cc := cX11_sheet) (maxL := 4) (ret := (some .int)) (by decide) rfl ?_
  intro p e s m args below meth c s₁ B hml hv
  obtain ⟨rfl, hsz, hP, hK, hD0⟩ := hv
  have C : cxt p s m _ meth c cX11_sheet 4 RX11 wsX11_sheet (some .int) := ⟨B.exec, B.bytes, hml, findClass_of_methodNamed B.named, atoms_spec (ws := wsX11_sheet) B.pre, B.returns, B.notSynchronized⟩
  obtain ⟨hx, hb, -, hown, hts, hr, hlk⟩ := id C
  subst hsz
  have hD := hD0.self (sz := s.heap.size)
  generalize hAe : va_A (cW a cs sh LP Z σ) s.heap.size = A at hD ⊢
  have hA : ∀ q : Nat, s.heap.size ≤ q → A q := fun q h => by rw [← hAe]; exact Or.inr h
  have hS : va_S A s.heap s.heap [] := va_S.rf
  refine entryW [.ref (a 0), .int x1, .int x2, .int x3] (n := 4) (Nat.le_of_ble_eq_true rfl) (fun ls hl => ?_)
  have hl : lv_has ls 4 [(0, .ref (a 0)), (1, .int x1), (2, .int x2), (3, .int x3)] := hl
  unfold fX11_sheet at h
  refine lv_iload_n hx hb dX11_sheet_0 rfl (lv_at hl 1 rfl) ?_
  refine lv_iload_n hx hb dX11_sheet_1 rfl (lv_at hl 2 rfl) ?_
  obtain ⟨v1, hc_v1, h⟩ := bd_some h
  refine mcallSZ (va_runS (As := [.int x1, .int x2]) (rest := []) ⟨hx, hb, hml, hown, hts⟩ (kX11_isSheetAndLane l x1 x2 v1 hc_v1) (va_cwS 2 hts gX11_sheet_X11_isSheetAndLane rfl rfl rfl (by decide +kernel) ⟨Nat.le_of_ble_eq_true rfl, Nat.le_of_ble_eq_true rfl⟩) p0_s rfl rfl hl.1 rfl (lv_room (Nat.le_of_ble_eq_true rfl)) dX11_sheet_2 ⟨Nat.zero_le _, Nat.zero_le _⟩) (fun z_v1 => ?_)
  refine lv_if_eq (tgt := 15) hx hb dX11_sheet_5 (by decide) (fun c2 => ?_) (fun c2 => ?_)
  · have h := it_t c2 h
    refine lv_iconst (v := ((-1) : Int32)) hx hb dX11_sheet_15 (by decide) ?_
    exact mretQ hx hb hr hlk h hP hD hS dX11_sheet_16
  · have h := it_f c2 h
    refine lv_iload_n hx hb dX11_sheet_8 rfl (lv_at hl 3 rfl) ?_
    refine lv_sipush (v := (256 : Int32)) hx hb dX11_sheet_9 (by decide) ?_
    refine lv_icmp_le (tgt := 17) hx hb dX11_sheet_12 (by decide) (fun c3 => ?_) (fun c3 => ?_)
    · have h := it_t c3 h
      refine lv_iload_n hx hb dX11_sheet_17 rfl (lv_at hl 3 rfl) ?_
      refine lv_if_ge (tgt := 24) hx hb dX11_sheet_18 (by decide) (fun c4 => ?_) (fun c4 => ?_)
      · have h := it_t c4 h
        refine lv_aload_n hx hb dX11_sheet_24 rfl (lv_at hl 0 rfl) ?_
        refine va_get (D := D) (ci := 10) (v := .ref (a 24)) (C := RX11) (T := TX11) (N := 5) hx hb hts inX11_X11_sheet hown hK.1 hP 0 rfl rfl 4 (by decide) (hts (.fieldLink RX11 39 "SandPalace" "sheets" "[LSandPalace$Sheet;") (by decide +kernel)) (fun _ h9 => h9) rfl dX11_sheet_25 ?_
        refine lv_iload_n hx hb dX11_sheet_28 rfl (lv_at hl 1 rfl) ?_
        rcases sw4_some h with ⟨c5, h⟩ | ⟨c5, h⟩ | ⟨c5, h⟩ | ⟨c5, h⟩
        · refine msald hx hb hK.1 hP 24 3 rfl rfl (vin4_0 c5) (by rw [c5] <;> rfl) dX11_sheet_29 ?_
          refine lv_iload_n hx hb dX11_sheet_30 rfl (lv_at hl 2 rfl) ?_
          refine lv_iload_n hx hb dX11_sheet_31 rfl (lv_at hl 3 rfl) ?_
          obtain ⟨σ8, hc_v7, h⟩ := bd_some h
          refine mcallQV (wf := (cW a cs sh LP Z)) (va_runV (As := [.int x2, .int x3]) (rest := []) ⟨hx, hb, hml, hown, hts⟩ (kX7_begin_29 l D cs a sh LP Z hZ σ F x2 x3 σ8 hc_v7 _) (cwV 2 hts gX11_sheet_X7_begin rfl rfl rfl (by decide +kernel) ⟨Nat.le_of_ble_eq_true rfl, Nat.le_of_ble_eq_true rfl⟩) (pQ_v hP hK hD (va_recv hK.1 hP (ci := 6) (q0 := 25) rfl rfl)) rfl rfl hl.1 rfl (lv_room (Nat.le_of_ble_eq_true rfl)) dX11_sheet_32 ⟨Nat.zero_le _, Nat.zero_le _⟩) hD hS hA (fun H locs hP hD hS => ?_)
          refine lv_iload_n hx hb dX11_sheet_35 rfl (lv_at hl 3 rfl) ?_
          exact mretQ hx hb hr hlk h hP hD hS dX11_sheet_36
        · refine msald hx hb hK.1 hP 24 3 rfl rfl (vin4_1 c5) (by rw [c5] <;> rfl) dX11_sheet_29 ?_
          refine lv_iload_n hx hb dX11_sheet_30 rfl (lv_at hl 2 rfl) ?_
          refine lv_iload_n hx hb dX11_sheet_31 rfl (lv_at hl 3 rfl) ?_
          obtain ⟨σ8, hc_v7, h⟩ := bd_some h
          refine mcallQV (wf := (cW a cs sh LP Z)) (va_runV (As := [.int x2, .int x3]) (rest := []) ⟨hx, hb, hml, hown, hts⟩ (kX7_begin_30 l D cs a sh LP Z hZ σ F x2 x3 σ8 hc_v7 _) (cwV 2 hts gX11_sheet_X7_begin rfl rfl rfl (by decide +kernel) ⟨Nat.le_of_ble_eq_true rfl, Nat.le_of_ble_eq_true rfl⟩) (pQ_v hP hK hD (va_recv hK.1 hP (ci := 6) (q0 := 26) rfl rfl)) rfl rfl hl.1 rfl (lv_room (Nat.le_of_ble_eq_true rfl)) dX11_sheet_32 ⟨Nat.zero_le _, Nat.zero_le _⟩) hD hS hA (fun H locs hP hD hS => ?_)
          refine lv_iload_n hx hb dX11_sheet_35 rfl (lv_at hl 3 rfl) ?_
          exact mretQ hx hb hr hlk h hP hD hS dX11_sheet_36
        · refine msald hx hb hK.1 hP 24 3 rfl rfl (vin4_2 c5) (by rw [c5] <;> rfl) dX11_sheet_29 ?_
          refine lv_iload_n hx hb dX11_sheet_30 rfl (lv_at hl 2 rfl) ?_
          refine lv_iload_n hx hb dX11_sheet_31 rfl (lv_at hl 3 rfl) ?_
          obtain ⟨σ8, hc_v7, h⟩ := bd_some h
          refine mcallQV (wf := (cW a cs sh LP Z)) (va_runV (As := [.int x2, .int x3]) (rest := []) ⟨hx, hb, hml, hown, hts⟩ (kX7_begin_31 l D cs a sh LP Z hZ σ F x2 x3 σ8 hc_v7 _) (cwV 2 hts gX11_sheet_X7_begin rfl rfl rfl (by decide +kernel) ⟨Nat.le_of_ble_eq_true rfl, Nat.le_of_ble_eq_true rfl⟩) (pQ_v hP hK hD (va_recv hK.1 hP (ci := 6) (q0 := 27) rfl rfl)) rfl rfl hl.1 rfl (lv_room (Nat.le_of_ble_eq_true rfl)) dX11_sheet_32 ⟨Nat.zero_le _, Nat.zero_le _⟩) hD hS hA (fun H locs hP hD hS => ?_)
          refine lv_iload_n hx hb dX11_sheet_35 rfl (lv_at hl 3 rfl) ?_
          exact mretQ hx hb hr hlk h hP hD hS dX11_sheet_36
        · refine msald hx hb hK.1 hP 24 3 rfl rfl (vin4_3 c5) (by rw [c5] <;> rfl) dX11_sheet_29 ?_
          refine lv_iload_n hx hb dX11_sheet_30 rfl (lv_at hl 2 rfl) ?_
          refine lv_iload_n hx hb dX11_sheet_31 rfl (lv_at hl 3 rfl) ?_
          obtain ⟨σ8, hc_v7, h⟩ := bd_some h
          refine mcallQV (wf := (cW a cs sh LP Z)) (va_runV (As := [.int x2, .int x3]) (rest := []) ⟨hx, hb, hml, hown, hts⟩ (kX7_begin_32 l D cs a sh LP Z hZ σ F x2 x3 σ8 hc_v7 _) (cwV 2 hts gX11_sheet_X7_begin rfl rfl rfl (by decide +kernel) ⟨Nat.le_of_ble_eq_true rfl, Nat.le_of_ble_eq_true rfl⟩) (pQ_v hP hK hD (va_recv hK.1 hP (ci := 6) (q0 := 28) rfl rfl)) rfl rfl hl.1 rfl (lv_room (Nat.le_of_ble_eq_true rfl)) dX11_sheet_32 ⟨Nat.zero_le _, Nat.zero_le _⟩) hD hS hA (fun H locs hP hD hS => ?_)
          refine lv_iload_n hx hb dX11_sheet_35 rfl (lv_at hl 3 rfl) ?_
          exact mretQ hx hb hr hlk h hP hD hS dX11_sheet_36
      · have h := it_f c4 h
        refine lv_bipush (v := ((-14) : Int32)) hx hb dX11_sheet_21 (by decide) ?_
        exact mretQ hx hb hr hlk h hP hD hS dX11_sheet_23
    · have h := it_f c3 h
      refine lv_iconst (v := ((-1) : Int32)) hx hb dX11_sheet_15 (by decide) ?_
      exact mretQ hx hb hr hlk h hP hD hS dX11_sheet_16
def fX11_drop (sh : Nat → Option Nat) (Z : ZT) (σ : Nat → Nat → Int32) (x1 : Int32) : Option (Int32 × (Nat → Nat → Int32)) :=
  bd (fX11_within x1 (0 : Int32) (3 : Int32)) fun v1 => if ¬ v1 = 0 then (sw4 x1 fun k4a k4b k4c => bd (fX7_isMissing k4a k4b k4c sh Z σ) fun v5 => if v5 = 0 then (sw4 x1 fun k7a k7b k7c => bd (fX7_clearAway k7a k7b k7c sh Z σ) fun (v8, σ9) => some (v8, σ9)) else (some (((-11) : Int32), σ))) else (some (((-1) : Int32), σ))
abbrev rmX11_drop : Room := { frames := 1, cells := 0, slots := 0, locals := 22 }
theorem inX11_X11_drop : ∀ w ∈ wsX110, w ∈ wsX11_drop := by intro w h; simp only [wsX11_drop, List.mem_cons, List.mem_append]; simp only [h, true_or, or_true]
set_option maxHeartbeats 4000000 in
set_option maxRecDepth 100000 in
theorem kX11_drop (l : Launch) (D : va_G) (cs : Nat → ClassId) (a : Nat → Nat) (sh : Nat → Option Nat) (LP : List Nat) (Z : ZT) (hZ : shOK sh LP Z) (σ : Nat → Nat → Int32) (x1 : Int32) (r : Int32) (u9 : Nat → Nat → Int32) (h : fX11_drop sh Z σ x1 = some (r, u9)) (sz : Nat) : Met l yX11_drop wsX11_drop rmX11_drop (va_Pc [.ref (a 0), .int x1] (pQ D cs (cW a cs sh LP Z σ) sz)) (va_Qi (fun x y => x = r ∧ y = u9) (qB D (cW a cs sh LP Z) (va_A (cW a cs sh LP Z σ) sz)) (va_A (cW a cs sh LP Z σ) sz)) 0 0 (va_A (cW a cs sh LP Z σ) sz) := by
  refine Met.ofW (cc := cX11_drop) (maxL := 2) (ret := (some .int)) (by decide) rfl ?_
  intro p e s m args below meth c s₁ B hml hv
  obtain ⟨rfl, hsz, hP, hK, hD0⟩ := hv
  have C : cxt p s m _ meth c cX11_drop 2 RX11 wsX11_drop (some .int) := ⟨B.exec, B.bytes, hml, findClass_of_methodNamed B.named, atoms_spec (ws := wsX11_drop) B.pre, B.returns, B.notSynchronized⟩
  obtain ⟨hx, hb, -, hown, hts, hr, hlk⟩ := id C
  subst hsz
  have hD := hD0.self (sz := s.heap.size)
  generalize hAe : va_A (cW a cs sh LP Z σ) s.heap.size = A at hD ⊢
  have hA : ∀ q : Nat, s.heap.size ≤ q → A q := fun q h => by rw [← hAe]; exact Or.inr h
  have hS : va_S A s.heap s.heap [] := va_S.rf
  refine entryW [.ref (a 0), .int x1] (n := 2) (Nat.le_of_ble_eq_true rfl) (fun ls hl => ?_)
  have hl : lv_has ls 2 [(0, .ref (a 0)), (1, .int x1)] := hl
  unfold fX11_drop at h
  refine lv_iload_n hx hb dX11_drop_0 rfl (lv_at hl 1 rfl) ?_
  refine lv_iconst (v := (0 : Int32)) hx hb dX11_drop_1 (by decide) ?_
  refine lv_iconst (v := (3 : Int32)) hx hb dX11_drop_2 (by decide) ?_
  obtain ⟨v1, hc_v1, h⟩ := bd_some h
  refine mcallSZ (va_runS (As := [.int x1, .int (0 : Int32), .int (3 : Int32)]) (rest := []) ⟨hx, hb, hml, hown, hts⟩ (kX11_within l x1 (0 : Int32) (3 : Int32) v1 hc_v1) (va_cwS 3 hts gX11_drop_X11_within rfl rfl rfl (by decide +kernel) ⟨Nat.le_of_ble_eq_true rfl, Nat.le_of_ble_eq_true rfl⟩) p0_s rfl rfl hl.1 rfl (lv_room (Nat.le_of_ble_eq_true rfl)) dX11_drop_3 ⟨Nat.zero_le _, Nat.zero_le _⟩) (fun z_v1 => ?_)
  refine lv_if_ne (tgt := 11) hx hb dX11_drop_6 (by decide) (fun c2 => ?_) (fun c2 => ?_)
  · have h := it_t c2 h
    refine lv_aload_n hx hb dX11_drop_11 rfl (lv_at hl 0 rfl) ?_
    refine va_get (D := D) (ci := 10) (v := .ref (a 24)) (C := RX11) (T := TX11) (N := 5) hx hb hts inX11_X11_drop hown hK.1 hP 0 rfl rfl 4 (by decide) (hts (.fieldLink RX11 39 "SandPalace" "sheets" "[LSandPalace$Sheet;") (by decide +kernel)) (fun _ h9 => h9) rfl dX11_drop_12 ?_
    refine lv_iload_n hx hb dX11_drop_15 rfl (lv_at hl 1 rfl) ?_
    rcases sw4_some h with ⟨c3, h⟩ | ⟨c3, h⟩ | ⟨c3, h⟩ | ⟨c3, h⟩
    · refine msald hx hb hK.1 hP 24 3 rfl rfl (vin4_0 c3) (by rw [c3] <;> rfl) dX11_drop_16 ?_
      obtain ⟨v5, hc_v5, h⟩ := bd_some h
      refine mcallSZ (va_runV (As := []) (rest := []) ⟨hx, hb, hml, hown, hts⟩ (kX7_isMissing_29 l D cs a sh LP Z hZ σ v5 hc_v5) (cwV 0 hts gX11_drop_X7_isMissing rfl rfl rfl (by decide +kernel) ⟨Nat.le_of_ble_eq_true rfl, Nat.le_of_ble_eq_true rfl⟩) (pR_v hP hK (va_recv hK.1 hP (ci := 6) (q0 := 25) rfl rfl)) rfl rfl hl.1 rfl (lv_room (Nat.le_of_ble_eq_true rfl)) dX11_drop_17 ⟨Nat.zero_le _, Nat.zero_le _⟩) (fun z_v5 => ?_)
      refine lv_if_eq (tgt := 26) hx hb dX11_drop_20 (by decide) (fun c6 => ?_) (fun c6 => ?_)
      · have h := it_t c6 h
        refine lv_aload_n hx hb dX11_drop_26 rfl (lv_at hl 0 rfl) ?_
        refine va_get (D := D) (ci := 10) (v := .ref (a 24)) (C := RX11) (T := TX11) (N := 5) hx hb hts inX11_X11_drop hown hK.1 hP 0 rfl rfl 4 (by decide) (hts (.fieldLink RX11 39 "SandPalace" "sheets" "[LSandPalace$Sheet;") (by decide +kernel)) (fun _ h9 => h9) rfl dX11_drop_27 ?_
        refine lv_iload_n hx hb dX11_drop_30 rfl (lv_at hl 1 rfl) ?_
        have h := sw4_0 c3 h
        refine msald hx hb hK.1 hP 24 3 rfl rfl (vin4_0 c3) (by rw [c3] <;> rfl) dX11_drop_31 ?_
        obtain ⟨⟨v8, σ9⟩, hc_v8, h⟩ := bd_some h
        refine mcallQ (wf := (cW a cs sh LP Z)) (va_runV (As := []) (rest := []) ⟨hx, hb, hml, hown, hts⟩ (kX7_clearAway_29 l D cs a sh LP Z hZ σ v8 σ9 hc_v8 _) (cwV 0 hts gX11_drop_X7_clearAway rfl rfl rfl (by decide +kernel) ⟨Nat.le_of_ble_eq_true rfl, Nat.le_of_ble_eq_true rfl⟩) (pQ_v hP hK hD (va_recv hK.1 hP (ci := 6) (q0 := 25) rfl rfl)) rfl rfl hl.1 rfl (lv_room (Nat.le_of_ble_eq_true rfl)) dX11_drop_32 ⟨Nat.zero_le _, Nat.zero_le _⟩) hD hS hA (fun H locs hP hD hS => ?_)
        exact mretQ hx hb hr hlk h hP hD hS dX11_drop_35
      · have h := it_f c6 h
        refine lv_bipush (v := ((-11) : Int32)) hx hb dX11_drop_23 (by decide) ?_
        exact mretQ hx hb hr hlk h hP hD hS dX11_drop_25
    · refine msald hx hb hK.1 hP 24 3 rfl rfl (vin4_1 c3) (by rw [c3] <;> rfl) dX11_drop_16 ?_
      obtain ⟨v5, hc_v5, h⟩ := bd_some h
      refine mcallSZ (va_runV (As := []) (rest := []) ⟨hx, hb, hml, hown, hts⟩ (kX7_isMissing_30 l D cs a sh LP Z hZ σ v5 hc_v5) (cwV 0 hts gX11_drop_X7_isMissing rfl rfl rfl (by decide +kernel) ⟨Nat.le_of_ble_eq_true rfl, Nat.le_of_ble_eq_true rfl⟩) (pR_v hP hK (va_recv hK.1 hP (ci := 6) (q0 := 26) rfl rfl)) rfl rfl hl.1 rfl (lv_room (Nat.le_of_ble_eq_true rfl)) dX11_drop_17 ⟨Nat.zero_le _, Nat.zero_le _⟩) (fun z_v5 => ?_)
      refine lv_if_eq (tgt := 26) hx hb dX11_drop_20 (by decide) (fun c6 => ?_) (fun c6 => ?_)
      · have h := it_t c6 h
        refine lv_aload_n hx hb dX11_drop_26 rfl (lv_at hl 0 rfl) ?_
        refine va_get (D := D) (ci := 10) (v := .ref (a 24)) (C := RX11) (T := TX11) (N := 5) hx hb hts inX11_X11_drop hown hK.1 hP 0 rfl rfl 4 (by decide) (hts (.fieldLink RX11 39 "SandPalace" "sheets" "[LSandPalace$Sheet;") (by decide +kernel)) (fun _ h9 => h9) rfl dX11_drop_27 ?_
        refine lv_iload_n hx hb dX11_drop_30 rfl (lv_at hl 1 rfl) ?_
        have h := sw4_1 c3 h
        refine msald hx hb hK.1 hP 24 3 rfl rfl (vin4_1 c3) (by rw [c3] <;> rfl) dX11_drop_31 ?_
        obtain ⟨⟨v8, σ9⟩, hc_v8, h⟩ := bd_some h
        refine mcallQ (wf := (cW a cs sh LP Z)) (va_runV (As := []) (rest := []) ⟨hx, hb, hml, hown, hts⟩ (kX7_clearAway_30 l D cs a sh LP Z hZ σ v8 σ9 hc_v8 _) (cwV 0 hts gX11_drop_X7_clearAway rfl rfl rfl (by decide +kernel) ⟨Nat.le_of_ble_eq_true rfl, Nat.le_of_ble_eq_true rfl⟩) (pQ_v hP hK hD (va_recv hK.1 hP (ci := 6) (q0 := 26) rfl rfl)) rfl rfl hl.1 rfl (lv_room (Nat.le_of_ble_eq_true rfl)) dX11_drop_32 ⟨Nat.zero_le _, Nat.zero_le _⟩) hD hS hA (fun H locs hP hD hS => ?_)
        exact mretQ hx hb hr hlk h hP hD hS dX11_drop_35
      · have h := it_f c6 h
        refine lv_bipush (v := ((-11) : Int32)) hx hb dX11_drop_23 (by decide) ?_
        exact mretQ hx hb hr hlk h hP hD hS dX11_drop_25
    · refine msald hx hb hK.1 hP 24 3 rfl rfl (vin4_2 c3) (by rw [c3] <;> rfl) dX11_drop_16 ?_
      obtain ⟨v5, hc_v5, h⟩ := bd_some h
      refine mcallSZ (va_runV (As := []) (rest := []) ⟨hx, hb, hml, hown, hts⟩ (kX7_isMissing_31 l D cs a sh LP Z hZ σ v5 hc_v5) (cwV 0 hts gX11_drop_X7_isMissing rfl rfl rfl (by decide +kernel) ⟨Nat.le_of_ble_eq_true rfl, Nat.le_of_ble_eq_true rfl⟩) (pR_v hP hK (va_recv hK.1 hP (ci := 6) (q0 := 27) rfl rfl)) rfl rfl hl.1 rfl (lv_room (Nat.le_of_ble_eq_true rfl)) dX11_drop_17 ⟨Nat.zero_le _, Nat.zero_le _⟩) (fun z_v5 => ?_)
      refine lv_if_eq (tgt := 26) hx hb dX11_drop_20 (by decide) (fun c6 => ?_) (fun c6 => ?_)
      · have h := it_t c6 h
        refine lv_aload_n hx hb dX11_drop_26 rfl (lv_at hl 0 rfl) ?_
        refine va_get (D := D) (ci := 10) (v := .ref (a 24)) (C := RX11) (T := TX11) (N := 5) hx hb hts inX11_X11_drop hown hK.1 hP 0 rfl rfl 4 (by decide) (hts (.fieldLink RX11 39 "SandPalace" "sheets" "[LSandPalace$Sheet;") (by decide +kernel)) (fun _ h9 => h9) rfl dX11_drop_27 ?_
        refine lv_iload_n hx hb dX11_drop_30 rfl (lv_at hl 1 rfl) ?_
        have h := sw4_2 c3 h
        refine msald hx hb hK.1 hP 24 3 rfl rfl (vin4_2 c3) (by rw [c3] <;> rfl) dX11_drop_31 ?_
        obtain ⟨⟨v8, σ9⟩, hc_v8, h⟩ := bd_some h
        refine mcallQ (wf := (cW a cs sh LP Z)) (va_runV (As := []) (rest := []) ⟨hx, hb, hml, hown, hts⟩ (kX7_clearAway_31 l D cs a sh LP Z hZ σ v8 σ9 hc_v8 _) (cwV 0 hts gX11_drop_X7_clearAway rfl rfl rfl (by decide +kernel) ⟨Nat.le_of_ble_eq_true rfl, Nat.le_of_ble_eq_true rfl⟩) (pQ_v hP hK hD (va_recv hK.1 hP (ci := 6) (q0 := 27) rfl rfl)) rfl rfl hl.1 rfl (lv_room (Nat.le_of_ble_eq_true rfl)) dX11_drop_32 ⟨Nat.zero_le _, Nat.zero_le _⟩) hD hS hA (fun H locs hP hD hS => ?_)
        exact mretQ hx hb hr hlk h hP hD hS dX11_drop_35
      · have h := it_f c6 h
        refine lv_bipush (v := ((-11) : Int32)) hx hb dX11_drop_23 (by decide) ?_
        exact mretQ hx hb hr hlk h hP hD hS dX11_drop_25
    · refine msald hx hb hK.1 hP 24 3 rfl rfl (vin4_3 c3) (by rw [c3] <;> rfl) dX11_drop_16 ?_
      obtain ⟨v5, hc_v5, h⟩ := bd_some h
      refine mcallSZ (va_runV (As := []) (rest := []) ⟨hx, hb, hml, hown, hts⟩ (kX7_isMissing_32 l D cs a sh LP Z hZ σ v5 hc_v5) (cwV 0 hts gX11_drop_X7_isMissing rfl rfl rfl (by decide +kernel) ⟨Nat.le_of_ble_eq_true rfl, Nat.le_of_ble_eq_true rfl⟩) (pR_v hP hK (va_recv hK.1 hP (ci := 6) (q0 := 28) rfl rfl)) rfl rfl hl.1 rfl (lv_room (Nat.le_of_ble_eq_true rfl)) dX11_drop_17 ⟨Nat.zero_le _, Nat.zero_le _⟩) (fun z_v5 => ?_)
      refine lv_if_eq (tgt := 26) hx hb dX11_drop_20 (by decide) (fun c6 => ?_) (fun c6 => ?_)
      · have h := it_t c6 h
        refine lv_aload_n hx hb dX11_drop_26 rfl (lv_at hl 0 rfl) ?_
        refine va_get (D := D) (ci := 10) (v := .ref (a 24)) (C := RX11) (T := TX11) (N := 5) hx hb hts inX11_X11_drop hown hK.1 hP 0 rfl rfl 4 (by decide) (hts (.fieldLink RX11 39 "SandPalace" "sheets" "[LSandPalace$Sheet;") (by decide +kernel)) (fun _ h9 => h9) rfl dX11_drop_27 ?_
        refine lv_iload_n hx hb dX11_drop_30 rfl (lv_at hl 1 rfl) ?_
        have h := sw4_3 c3 h
        refine msald hx hb hK.1 hP 24 3 rfl rfl (vin4_3 c3) (by rw [c3] <;> rfl) dX11_drop_31 ?_
        obtain ⟨⟨v8, σ9⟩, hc_v8, h⟩ := bd_some h
        refine mcallQ (wf := (cW a cs sh LP Z)) (va_runV (As := []) (rest := []) ⟨hx, hb, hml, hown, hts⟩ (kX7_clearAway_32 l D cs a sh LP Z hZ σ v8 σ9 hc_v8 _) (cwV 0 hts gX11_drop_X7_clearAway rfl rfl rfl (by decide +kernel) ⟨Nat.le_of_ble_eq_true rfl, Nat.le_of_ble_eq_true rfl⟩) (pQ_v hP hK hD (va_recv hK.1 hP (ci := 6) (q0 := 28) rfl rfl)) rfl rfl hl.1 rfl (lv_room (Nat.le_of_ble_eq_true rfl)) dX11_drop_32 ⟨Nat.zero_le _, Nat.zero_le _⟩) hD hS hA (fun H locs hP hD hS => ?_)
        exact mretQ hx hb hr hlk h hP hD hS dX11_drop_35
      · have h := it_f c6 h
        refine lv_bipush (v := ((-11) : Int32)) hx hb dX11_drop_23 (by decide) ?_
        exact mretQ hx hb hr hlk h hP hD hS dX11_drop_25
  · have h := it_n c2 h
    refine lv_iconst (v := ((-1) : Int32)) hx hb dX11_drop_9 (by decide) ?_
    exact mretQ hx hb hr hlk h hP hD hS dX11_drop_10
def fX11_item (sh : Nat → Option Nat) (Z : ZT) (σ : Nat → Nat → Int32) (x1 : Int32) (x2 : Int32) (x3 : Int32) (x4 : Int32) : Option (Int32 × (Nat → Nat → Int32)) :=
  bd (fX11_isSheetAndLane x1 x2) fun v1 => if ¬ v1 = 0 then (sw4 x1 fun k4a k4b k4c => bd (fX7_refusal k4a k4b k4c sh Z σ x2 x3 (1 : Int32)) fun v5 => if v5 = 0 then (sw4 x1 fun k7a k7b k7c => bd (fX7_write k7a k7b k7c sh Z σ x3 x4) fun σ9 => some ((1 : Int32), σ9)) else (some (v5, σ))) else (some (((-1) : Int32), σ))
abbrev rmX11_item : Room := { frames := 2, cells := 0, slots := 0, locals := 43 }
theorem inX11_X11_item : ∀ w ∈ wsX110, w ∈ wsX11_item := by intro w h; simp only [wsX11_item, List.mem_cons, List.mem_append]; simp only [h, true_or, or_true]
set_option maxHeartbeats 4000000 in
set_option maxRecDepth 100000 in
theorem kX11_item (l : Launch) (D : va_G) (cs : Nat → ClassId) (a : Nat → Nat) (sh : Nat → Option Nat) (LP : List Nat) (Z : ZT) (hZ : shOK sh LP Z) (σ : Nat → Nat → Int32) (x1 : Int32) (x2 : Int32) (x3 : Int32) (x4 : Int32) (r : Int32) (u9 : Nat → Nat → Int32) (h : fX11_item sh Z σ x1 x2 x3 x4 = some (r, u9)) (sz : Nat) : Met l yX11_item wsX11_item rmX11_item (va_Pc [.ref (a 0), .int x1, .int x2, .int x3, .int x4] (pQ D cs (cW a cs sh LP Z σ) sz)) (va_Qi (fun x y => x = r ∧ y = u9) (qB D (cW a cs sh LP Z) (va_A (cW a cs sh LP Z σ) sz)) (va_A (cW a cs sh LP Z σ) sz)) 0 0 (va_A (cW a cs sh LP Z σ) sz) := by
  refine Met.ofW (cc := cX11_item) (maxL := 6) (ret := (some .int)) (by decide) rfl ?_
  intro p e s m args below meth c s₁ B hml hv
  obtain ⟨rfl, hsz, hP, hK, hD0⟩ := hv
  have C : cxt p s m _ meth c cX11_item 6 RX11 wsX11_item (some .int) := ⟨B.exec, B.bytes, hml, findClass_of_methodNamed B.named, atoms_spec (ws := wsX11_item) B.pre, B.returns, B.notSynchronized⟩
  obtain ⟨hx, hb, -, hown, hts, hr, hlk⟩ := id C
  subst hsz
  have hD := hD0.self (sz := s.heap.size)
  generalize hAe : va_A (cW a cs sh LP Z σ) s.heap.size = A at hD ⊢
  have hA : ∀ q : Nat, s.heap.size ≤ q → A q := fun q h => by rw [← hAe]; exact Or.inr h
  have hS : va_S A s.heap s.heap [] := va_S.rf
  refine entryW [.ref (a 0), .int x1, .int x2, .int x3, .int x4] (n := 6) (Nat.le_of_ble_eq_true rfl) (fun ls hl => ?_)
  have hl : lv_has ls 6 [(0, .ref (a 0)), (1, .int x1), (2, .int x2), (3, .int x3), (4, .int x4)] := hl
  unfold fX11_item at h
  refine lv_iload_n hx hb dX11_item_0 rfl (lv_at hl 1 rfl) ?_
  refine lv_iload_n hx hb dX11_item_1 rfl (lv_at hl 2 rfl) ?_
  obtain ⟨v1, hc_v1, h⟩ := bd_some h
  refine mcallSZ (va_runS (As := [.int x1, .int x2]) (rest := []) ⟨hx, hb, hml, hown, hts⟩ (kX11_isSheetAndLane l x1 x2 v1 hc_v1) (va_cwS 2 hts gX11_item_X11_isSheetAndLane rfl rfl rfl (by decide +kernel) ⟨Nat.le_of_ble_eq_true rfl, Nat.le_of_ble_eq_true rfl⟩) p0_s rfl rfl hl.1 rfl (lv_room (Nat.le_of_ble_eq_true rfl)) dX11_item_2 ⟨Nat.zero_le _, Nat.zero_le _⟩) (fun z_v1 => ?_)
  refine lv_if_ne (tgt := 10) hx hb dX11_item_5 (by decide) (fun c2 => ?_) (fun c2 => ?_)
  · have h := it_t c2 h
    refine lv_aload_n hx hb dX11_item_10 rfl (lv_at hl 0 rfl) ?_
    refine va_get (D := D) (ci := 10) (v := .ref (a 24)) (C := RX11) (T := TX11) (N := 5) hx hb hts inX11_X11_item hown hK.1 hP 0 rfl rfl 4 (by decide) (hts (.fieldLink RX11 39 "SandPalace" "sheets" "[LSandPalace$Sheet;") (by decide +kernel)) (fun _ h9 => h9) rfl dX11_item_11 ?_
    refine lv_iload_n hx hb dX11_item_14 rfl (lv_at hl 1 rfl) ?_
    rcases sw4_some h with ⟨c3, h⟩ | ⟨c3, h⟩ | ⟨c3, h⟩ | ⟨c3, h⟩
    · refine msald hx hb hK.1 hP 24 3 rfl rfl (vin4_0 c3) (by rw [c3] <;> rfl) dX11_item_15 ?_
      refine lv_iload_n hx hb dX11_item_16 rfl (lv_at hl 2 rfl) ?_
      refine lv_iload_n hx hb dX11_item_17 rfl (lv_at hl 3 rfl) ?_
      refine lv_iconst (v := (1 : Int32)) hx hb dX11_item_18 (by decide) ?_
      obtain ⟨v5, hc_v5, h⟩ := bd_some h
      refine mcallS (va_runV (As := [.int x2, .int x3, .int (1 : Int32)]) (rest := []) ⟨hx, hb, hml, hown, hts⟩ (kX7_refusal_29 l D cs a sh LP Z hZ σ x2 x3 (1 : Int32) v5 hc_v5) (cwV 3 hts gX11_item_X7_refusal rfl rfl rfl (by decide +kernel) ⟨Nat.le_of_ble_eq_true rfl, Nat.le_of_ble_eq_true rfl⟩) (pR_v hP hK (va_recv hK.1 hP (ci := 6) (q0 := 25) rfl rfl)) rfl rfl hl.1 rfl (lv_room (Nat.le_of_ble_eq_true rfl)) dX11_item_19 ⟨Nat.zero_le _, Nat.zero_le _⟩) ?_
      refine lv_istore (lv' := [(5, .int v5), (0, .ref (a 0)), (1, .int x1), (2, .int x2), (3, .int x3), (4, .int x4)]) hx hb dX11_item_22 hl (by decide) rfl (fun ls hl => ?_)
      refine lv_iload hx hb dX11_item_24 (lv_at hl 0 rfl) ?_
      refine lv_if_eq (tgt := 32) hx hb dX11_item_26 (by decide) (fun c6 => ?_) (fun c6 => ?_)
      · have h := it_t c6 h
        refine lv_aload_n hx hb dX11_item_32 rfl (lv_at hl 1 rfl) ?_
        refine va_get (D := D) (ci := 10) (v := .ref (a 24)) (C := RX11) (T := TX11) (N := 5) hx hb hts inX11_X11_item hown hK.1 hP 0 rfl rfl 4 (by decide) (hts (.fieldLink RX11 39 "SandPalace" "sheets" "[LSandPalace$Sheet;") (by decide +kernel)) (fun _ h9 => h9) rfl dX11_item_33 ?_
        refine lv_iload_n hx hb dX11_item_36 rfl (lv_at hl 2 rfl) ?_
        have h := sw4_0 c3 h
        refine msald hx hb hK.1 hP 24 3 rfl rfl (vin4_0 c3) (by rw [c3] <;> rfl) dX11_item_37 ?_
        refine lv_iload_n hx hb dX11_item_38 rfl (lv_at hl 4 rfl) ?_
        refine lv_iload hx hb dX11_item_39 (lv_at hl 5 rfl) ?_
        obtain ⟨σ9, hc_v8, h⟩ := bd_some h
        refine mcallQV (wf := (cW a cs sh LP Z)) (va_runV (As := [.int x3, .int x4]) (rest := []) ⟨hx, hb, hml, hown, hts⟩ (kX7_write_29 l D cs a sh LP Z hZ σ x3 x4 σ9 hc_v8 _) (cwV 2 hts gX11_item_X7_write rfl rfl rfl (by decide +kernel) ⟨Nat.le_of_ble_eq_true rfl, Nat.le_of_ble_eq_true rfl⟩) (pQ_v hP hK hD (va_recv hK.1 hP (ci := 6) (q0 := 25) rfl rfl)) rfl rfl hl.1 rfl (lv_room (Nat.le_of_ble_eq_true rfl)) dX11_item_41 ⟨Nat.zero_le _, Nat.zero_le _⟩) hD hS hA (fun H locs hP hD hS => ?_)
        refine lv_iconst (v := (1 : Int32)) hx hb dX11_item_44 (by decide) ?_
        exact mretQ hx hb hr hlk h hP hD hS dX11_item_45
      · have h := it_f c6 h
        refine lv_iload hx hb dX11_item_29 (lv_at hl 0 rfl) ?_
        exact mretQ hx hb hr hlk h hP hD hS dX11_item_31
    · refine msald hx hb hK.1 hP 24 3 rfl rfl (vin4_1 c3) (by rw [c3] <;> rfl) dX11_item_15 ?_
      refine lv_iload_n hx hb dX11_item_16 rfl (lv_at hl 2 rfl) ?_
      refine lv_iload_n hx hb dX11_item_17 rfl (lv_at hl 3 rfl) ?_
      refine lv_iconst (v := (1 : Int32)) hx hb dX11_item_18 (by decide) ?_
      obtain ⟨v5, hc_v5, h⟩ := bd_some h
      refine mcallS (va_runV (As := [.int x2, .int x3, .int (1 : Int32)]) (rest := []) ⟨hx, hb, hml, hown, hts⟩ (kX7_refusal_30 l D cs a sh LP Z hZ σ x2 x3 (1 : Int32) v5 hc_v5) (cwV 3 hts gX11_item_X7_refusal rfl rfl rfl (by decide +kernel) ⟨Nat.le_of_ble_eq_true rfl, Nat.le_of_ble_eq_true rfl⟩) (pR_v hP hK (va_recv hK.1 hP (ci := 6) (q0 := 26) rfl rfl)) rfl rfl hl.1 rfl (lv_room (Nat.le_of_ble_eq_true rfl)) dX11_item_19 ⟨Nat.zero_le _, Nat.zero_le _⟩) ?_
      refine lv_istore (lv' := [(5, .int v5), (0, .ref (a 0)), (1, .int x1), (2, .int x2), (3, .int x3), (4, .int x4)]) hx hb dX11_item_22 hl (by decide) rfl (fun ls hl => ?_)
      refine lv_iload hx hb dX11_item_24 (lv_at hl 0 rfl) ?_
      refine lv_if_eq (tgt := 32) hx hb dX11_item_26 (by decide) (fun c6 => ?_) (fun c6 => ?_)
      · have h := it_t c6 h
        refine lv_aload_n hx hb dX11_item_32 rfl (lv_at hl 1 rfl) ?_
        refine va_get (D := D) (ci := 10) (v := .ref (a 24)) (C := RX11) (T := TX11) (N := 5) hx hb hts inX11_X11_item hown hK.1 hP 0 rfl rfl 4 (by decide) (hts (.fieldLink RX11 39 "SandPalace" "sheets" "[LSandPalace$Sheet;") (by decide +kernel)) (fun _ h9 => h9) rfl dX11_item_33 ?_
        refine lv_iload_n hx hb dX11_item_36 rfl (lv_at hl 2 rfl) ?_
        have h := sw4_1 c3 h
        refine msald hx hb hK.1 hP 24 3 rfl rfl (vin4_1 c3) (by rw [c3] <;> rfl) dX11_item_37 ?_
        refine lv_iload_n hx hb dX11_item_38 rfl (lv_at hl 4 rfl) ?_
        refine lv_iload hx hb dX11_item_39 (lv_at hl 5 rfl) ?_
        obtain ⟨σ9, hc_v8, h⟩ := bd_some h
        refine mcallQV (wf := (cW a cs sh LP Z)) (va_runV (As := [.int x3, .int x4]) (rest := []) ⟨hx, hb, hml, hown, hts⟩ (kX7_write_30 l D cs a sh LP Z hZ σ x3 x4 σ9 hc_v8 _) (cwV 2 hts gX11_item_X7_write rfl rfl rfl (by decide +kernel) ⟨Nat.le_of_ble_eq_true rfl, Nat.le_of_ble_eq_true rfl⟩) (pQ_v hP hK hD (va_recv hK.1 hP (ci := 6) (q0 := 26) rfl rfl)) rfl rfl hl.1 rfl (lv_room (Nat.le_of_ble_eq_true rfl)) dX11_item_41 ⟨Nat.zero_le _, Nat.zero_le _⟩) hD hS hA (fun H locs hP hD hS => ?_)
        refine lv_iconst (v := (1 : Int32)) hx hb dX11_item_44 (by decide) ?_
        exact mretQ hx hb hr hlk h hP hD hS dX11_item_45
      · have h := it_f c6 h
        refine lv_iload hx hb dX11_item_29 (lv_at hl 0 rfl) ?_
        exact mretQ hx hb hr hlk h hP hD hS dX11_item_31
    · refine msald hx hb hK.1 hP 24 3 rfl rfl (vin4_2 c3) (by rw [c3] <;> rfl) dX11_item_15 ?_
      refine lv_iload_n hx hb dX11_item_16 rfl (lv_at hl 2 rfl) ?_
      refine lv_iload_n hx hb dX11_item_17 rfl (lv_at hl 3 rfl) ?_
      refine lv_iconst (v := (1 : Int32)) hx hb dX11_item_18 (by decide) ?_
      obtain ⟨v5, hc_v5, h⟩ := bd_some h
      refine mcallS (va_runV (As := [.int x2, .int x3, .int (1 : Int32)]) (rest := []) ⟨hx, hb, hml, hown, hts⟩ (kX7_refusal_31 l D cs a sh LP Z hZ σ x2 x3 (1 : Int32) v5 hc_v5) (cwV 3 hts gX11_item_X7_refusal rfl rfl rfl (by decide +kernel) ⟨Nat.le_of_ble_eq_true rfl, Nat.le_of_ble_eq_true rfl⟩) (pR_v hP hK (va_recv hK.1 hP (ci := 6) (q0 := 27) rfl rfl)) rfl rfl hl.1 rfl (lv_room (Nat.le_of_ble_eq_true rfl)) dX11_item_19 ⟨Nat.zero_le _, Nat.zero_le _⟩) ?_
      refine lv_istore (lv' := [(5, .int v5), (0, .ref (a 0)), (1, .int x1), (2, .int x2), (3, .int x3), (4, .int x4)]) hx hb dX11_item_22 hl (by decide) rfl (fun ls hl => ?_)
      refine lv_iload hx hb dX11_item_24 (lv_at hl 0 rfl) ?_
      refine lv_if_eq (tgt := 32) hx hb dX11_item_26 (by decide) (fun c6 => ?_) (fun c6 => ?_)
      · have h := it_t c6 h
        refine lv_aload_n hx hb dX11_item_32 rfl (lv_at hl 1 rfl) ?_
        refine va_get (D := D) (ci := 10) (v := .ref (a 24)) (C := RX11) (T := TX11) (N := 5) hx hb hts inX11_X11_item hown hK.1 hP 0 rfl rfl 4 (by decide) (hts (.fieldLink RX11 39 "SandPalace" "sheets" "[LSandPalace$Sheet;") (by decide +kernel)) (fun _ h9 => h9) rfl dX11_item_33 ?_
        refine lv_iload_n hx hb dX11_item_36 rfl (lv_at hl 2 rfl) ?_
        have h := sw4_2 c3 h
        refine msald hx hb hK.1 hP 24 3 rfl rfl (vin4_2 c3) (by rw [c3] <;> rfl) dX11_item_37 ?_
        refine lv_iload_n hx hb dX11_item_38 rfl (lv_at hl 4 rfl) ?_
        refine lv_iload hx hb dX11_item_39 (lv_at hl 5 rfl) ?_
        obtain ⟨σ9, hc_v8, h⟩ := bd_some h
        refine mcallQV (wf := (cW a cs sh LP Z)) (va_runV (As := [.int x3, .int x4]) (rest := []) ⟨hx, hb, hml, hown, hts⟩ (kX7_write_31 l D cs a sh LP Z hZ σ x3 x4 σ9 hc_v8 _) (cwV 2 hts gX11_item_X7_write rfl rfl rfl (by decide +kernel) ⟨Nat.le_of_ble_eq_true rfl, Nat.le_of_ble_eq_true rfl⟩) (pQ_v hP hK hD (va_recv hK.1 hP (ci := 6) (q0 := 27) rfl rfl)) rfl rfl hl.1 rfl (lv_room (Nat.le_of_ble_eq_true rfl)) dX11_item_41 ⟨Nat.zero_le _, Nat.zero_le _⟩) hD hS hA (fun H locs hP hD hS => ?_)
        refine lv_iconst (v := (1 : Int32)) hx hb dX11_item_44 (by decide) ?_
        exact mretQ hx hb hr hlk h hP hD hS dX11_item_45
      · have h := it_f c6 h
        refine lv_iload hx hb dX11_item_29 (lv_at hl 0 rfl) ?_
        exact mretQ hx hb hr hlk h hP hD hS dX11_item_31
    · refine msald hx hb hK.1 hP 24 3 rfl rfl (vin4_3 c3) (by rw [c3] <;> rfl) dX11_item_15 ?_
      refine lv_iload_n hx hb dX11_item_16 rfl (lv_at hl 2 rfl) ?_
      refine lv_iload_n hx hb dX11_item_17 rfl (lv_at hl 3 rfl) ?_
      refine lv_iconst (v := (1 : Int32)) hx hb dX11_item_18 (by decide) ?_
      obtain ⟨v5, hc_v5, h⟩ := bd_some h
      refine mcallS (va_runV (As := [.int x2, .int x3, .int (1 : Int32)]) (rest := []) ⟨hx, hb, hml, hown, hts⟩ (kX7_refusal_32 l D cs a sh LP Z hZ σ x2 x3 (1 : Int32) v5 hc_v5) (cwV 3 hts gX11_item_X7_refusal rfl rfl rfl (by decide +kernel) ⟨Nat.le_of_ble_eq_true rfl, Nat.le_of_ble_eq_true rfl⟩) (pR_v hP hK (va_recv hK.1 hP (ci := 6) (q0 := 28) rfl rfl)) rfl rfl hl.1 rfl (lv_room (Nat.le_of_ble_eq_true rfl)) dX11_item_19 ⟨Nat.zero_le _, Nat.zero_le _⟩) ?_
      refine lv_istore (lv' := [(5, .int v5), (0, .ref (a 0)), (1, .int x1), (2, .int x2), (3, .int x3), (4, .int x4)]) hx hb dX11_item_22 hl (by decide) rfl (fun ls hl => ?_)
      refine lv_iload hx hb dX11_item_24 (lv_at hl 0 rfl) ?_
      refine lv_if_eq (tgt := 32) hx hb dX11_item_26 (by decide) (fun c6 => ?_) (fun c6 => ?_)
      · have h := it_t c6 h
        refine lv_aload_n hx hb dX11_item_32 rfl (lv_at hl 1 rfl) ?_
        refine va_get (D := D) (ci := 10) (v := .ref (a 24)) (C := RX11) (T := TX11) (N := 5) hx hb hts inX11_X11_item hown hK.1 hP 0 rfl rfl 4 (by decide) (hts (.fieldLink RX11 39 "SandPalace" "sheets" "[LSandPalace$Sheet;") (by decide +kernel)) (fun _ h9 => h9) rfl dX11_item_33 ?_
        refine lv_iload_n hx hb dX11_item_36 rfl (lv_at hl 2 rfl) ?_
        have h := sw4_3 c3 h
        refine msald hx hb hK.1 hP 24 3 rfl rfl (vin4_3 c3) (by rw [c3] <;> rfl) dX11_item_37 ?_
        refine lv_iload_n hx hb dX11_item_38 rfl (lv_at hl 4 rfl) ?_
        refine lv_iload hx hb dX11_item_39 (lv_at hl 5 rfl) ?_
        obtain ⟨σ9, hc_v8, h⟩ := bd_some h
        refine mcallQV (wf := (cW a cs sh LP Z)) (va_runV (As := [.int x3, .int x4]) (rest := []) ⟨hx, hb, hml, hown, hts⟩ (kX7_write_32 l D cs a sh LP Z hZ σ x3 x4 σ9 hc_v8 _) (cwV 2 hts gX11_item_X7_write rfl rfl rfl (by decide +kernel) ⟨Nat.le_of_ble_eq_true rfl, Nat.le_of_ble_eq_true rfl⟩) (pQ_v hP hK hD (va_recv hK.1 hP (ci := 6) (q0 := 28) rfl rfl)) rfl rfl hl.1 rfl (lv_room (Nat.le_of_ble_eq_true rfl)) dX11_item_41 ⟨Nat.zero_le _, Nat.zero_le _⟩) hD hS hA (fun H locs hP hD hS => ?_)
        refine lv_iconst (v := (1 : Int32)) hx hb dX11_item_44 (by decide) ?_
        exact mretQ hx hb hr hlk h hP hD hS dX11_item_45
      · have h := it_f c6 h
        refine lv_iload hx hb dX11_item_29 (lv_at hl 0 rfl) ?_
        exact mretQ hx hb hr hlk h hP hD hS dX11_item_31
  · have h := it_n c2 h
    refine lv_iconst (v := ((-1) : Int32)) hx hb dX11_item_8 (by decide) ?_
    exact mretQ hx hb hr hlk h hP hD hS dX11_item_9
def fX11_areCells (x0 : Int32) (x1 : Int32) : Option Int32 :=
  bd (fX11_within x0 (0 : Int32) (256 : Int32)) fun v1 => if v1 = 0 then (some (0 : Int32)) else (bd (fX11_within x1 (0 : Int32) ((256 : Int32) - x0)) fun v3 => if v3 = 0 then (some (0 : Int32)) else (some (1 : Int32)))
abbrev rmX11_areCells : Room := { frames := 1, cells := 0, slots := 0, locals := 22 }
set_option maxHeartbeats 4000000 in
set_option maxRecDepth 100000 in
theorem kX11_areCells (l : Launch) (x0 : Int32) (x1 : Int32) (r : Int32) (h : fX11_areCells x0 x1 = some r) : Met l yX11_areCells wsX11_areCells rmX11_areCells (va_Pc [.int x0, .int x1] (p0)) (vp_Si (fun x => x = r ∧ (r = 0 ∨ r = 1))) 0 0 (fun _ => False) := by
  refine Met.ofW (cc := cX11_areCells) (maxL := 2) (ret := (some .boolean)) (by decide) rfl ?_
  intro p e s m args below meth c s₁ B hml hv
  obtain ⟨rfl, -⟩ := hv
  have C : cxt p s m _ meth c cX11_areCells 2 RX11 wsX11_areCells (some .boolean) := ⟨B.exec, B.bytes, hml, findClass_of_methodNamed B.named, atoms_spec (ws := wsX11_areCells) B.pre, B.returns, B.notSynchronized⟩
  obtain ⟨hx, hb, -, hown, hts, hr, hlk⟩ := id C
  refine entryW [.int x0, .int x1] (n := 2) (Nat.le_of_ble_eq_true rfl) (fun ls hl => ?_)
  have hl : lv_has ls 2 [(0, .int x0), (1, .int x1)] := hl
  unfold fX11_areCells at h
  refine lv_iload_n hx hb dX11_areCells_0 rfl (lv_at hl 0 rfl) ?_
  refine lv_iconst (v := (0 : Int32)) hx hb dX11_areCells_1 (by decide) ?_
  refine lv_sipush (v := (256 : Int32)) hx hb dX11_areCells_2 (by decide) ?_
  obtain ⟨v1, hc_v1, h⟩ := bd_some h
  refine mcallSZ (va_runS (As := [.int x0, .int (0 : Int32), .int (256 : Int32)]) (rest := []) ⟨hx, hb, hml, hown, hts⟩ (kX11_within l x0 (0 : Int32) (256 : Int32) v1 hc_v1) (va_cwS 3 hts gX11_areCells_X11_within rfl rfl rfl (by decide +kernel) ⟨Nat.le_of_ble_eq_true rfl, Nat.le_of_ble_eq_true rfl⟩) p0_s rfl rfl hl.1 rfl (lv_room (Nat.le_of_ble_eq_true rfl)) dX11_areCells_5 ⟨Nat.zero_le _, Nat.zero_le _⟩) (fun z_v1 => ?_)
  refine lv_if_eq (tgt := 28) hx hb dX11_areCells_8 (by decide) (fun c2 => ?_) (fun c2 => ?_)
  · have h := it_t c2 h
    refine lv_iconst (v := (0 : Int32)) hx hb dX11_areCells_28 (by decide) ?_
    exact mretSZ hx hb hr hlk h (Or.inl rfl) dX11_areCells_29
  · have h := it_f c2 h
    refine lv_iload_n hx hb dX11_areCells_11 rfl (lv_at hl 1 rfl) ?_
    refine lv_iconst (v := (0 : Int32)) hx hb dX11_areCells_12 (by decide) ?_
    refine lv_sipush (v := (256 : Int32)) hx hb dX11_areCells_13 (by decide) ?_
    refine lv_iload_n hx hb dX11_areCells_16 rfl (lv_at hl 0 rfl) ?_
    refine lv_isub hx hb dX11_areCells_17 ?_
    obtain ⟨v3, hc_v3, h⟩ := bd_some h
    refine mcallSZ (va_runS (As := [.int x1, .int (0 : Int32), .int ((256 : Int32) - x0)]) (rest := []) ⟨hx, hb, hml, hown, hts⟩ (kX11_within l x1 (0 : Int32) ((256 : Int32) - x0) v3 hc_v3) (va_cwS 3 hts gX11_areCells_X11_within rfl rfl rfl (by decide +kernel) ⟨Nat.le_of_ble_eq_true rfl, Nat.le_of_ble_eq_true rfl⟩) p0_s rfl rfl hl.1 rfl (lv_room (Nat.le_of_ble_eq_true rfl)) dX11_areCells_18 ⟨Nat.zero_le _, Nat.zero_le _⟩) (fun z_v3 => ?_)
    refine lv_if_eq (tgt := 28) hx hb dX11_areCells_21 (by decide) (fun c4 => ?_) (fun c4 => ?_)
    · have h := it_t c4 h
      refine lv_iconst (v := (0 : Int32)) hx hb dX11_areCells_28 (by decide) ?_
      exact mretSZ hx hb hr hlk h (Or.inl rfl) dX11_areCells_29
    · have h := it_f c4 h
      refine lv_iconst (v := (1 : Int32)) hx hb dX11_areCells_24 (by decide) ?_
      refine lv_goto (tgt := 29) hx hb dX11_areCells_25 (by decide) ?_
      exact mretSZ hx hb hr hlk h (Or.inr rfl) dX11_areCells_29
def fX11_show (F : Nat) (sh : Nat → Option Nat) (Z : ZT) (σ : Nat → Nat → Int32) (x1 : Int32) (x2 : Int32) (x3 : Int32) (x4 : Int32) (x5 : Int32) : Option (Int32 × (Nat → Nat → Int32)) :=
  bd (fX11_isSheetAndLane x1 x2) fun v1 => if v1 = 0 then (some (((-1) : Int32), σ)) else (bd (fX11_areCells x4 x5) fun v3 => if ¬ v3 = 0 then (sw4 x1 fun k6a k6b k6c => bd (fX7_refusal k6a k6b k6c sh Z σ x2 x3 x5) fun v7 => if v7 = 0 then (sw4 x1 fun k9a k9b k9c => bd (fX3_copyFrom k9a k9b k9c F sh Z σ x3 x4 x5) fun (v10, σ11) => some (v10, σ11)) else (some (v7, σ))) else (some (((-1) : Int32), σ)))
abbrev rmX11_show : Room := { frames := 2, cells := 0, slots := 0, locals := 48 }
theorem inX11_X11_show : ∀ w ∈ wsX110, w ∈ wsX11_show := by intro w h; simp only [wsX11_show, List.mem_cons, List.mem_append]; simp only [h, true_or, or_true]
set_option maxHeartbeats 4000000 in
set_option maxRecDepth 100000 in
theorem kX11_show (l : Launch) (D : va_G) (cs : Nat → ClassId) (a : Nat → Nat) (sh : Nat → Option Nat) (LP : List Nat) (Z : ZT) (hZ : shOK sh LP Z) (σ : Nat → Nat → Int32) (F : Nat) (x1 : Int32) (x2 : Int32) (x3 : Int32) (x4 : Int32) (x5 : Int32) (r : Int32) (u9 : Nat → Nat → Int32) (h : fX11_show F sh Z σ x1 x2 x3 x4 x5 = some (r, u9)) (sz : Nat) : Met l yX11_show wsX11_show rmX11_show (va_Pc [.ref (a 0), .int x1, .int x2, .int x3, .int x4, .int x5] (pQ D cs (cW a cs sh LP Z σ) sz)) (va_Qi (fun x y => x = r ∧ y = u9) (qB D (cW a cs sh LP Z) (va_A (cW a cs sh LP Z σ) sz)) (va_A (cW a cs sh LP Z σ) sz)) 0 0 (va_A (cW a cs sh LP Z σ) sz) := by
  refine Met.ofW (cc := cX11_show) (maxL := 7) (ret := (some .int)) (by decide) rfl ?_
  intro p e s m args below meth c s₁ B hml hv
  obtain ⟨rfl, hsz, hP, hK, hD0⟩ := hv
  have C : cxt p s m _ meth c cX11_show 7 RX11 wsX11_show (some .int) := ⟨B.exec, B.bytes, hml, findClass_of_methodNamed B.named, atoms_spec (ws := wsX11_show) B.pre, B.returns, B.notSynchronized⟩
  obtain ⟨hx, hb, -, hown, hts, hr, hlk⟩ := id C
  subst hsz
  have hD := hD0.self (sz := s.heap.size)
  generalize hAe : va_A (cW a cs sh LP Z σ) s.heap.size = A at hD ⊢
  have hA : ∀ q : Nat, s.heap.size ≤ q → A q := fun q h => by rw [← hAe]; exact Or.inr h
  have hS : va_S A s.heap s.heap [] := va_S.rf
  refine entryW [.ref (a 0), .int x1, .int x2, .int x3, .int x4, .int x5] (n := 7) (Nat.le_of_ble_eq_true rfl) (fun ls hl => ?_)
  have hl : lv_has ls 7 [(0, .ref (a 0)), (1, .int x1), (2, .int x2), (3, .int x3), (4, .int x4), (5, .int x5)] := hl
  unfold fX11_show at h
  refine lv_iload_n hx hb dX11_show_0 rfl (lv_at hl 1 rfl) ?_
  refine lv_iload_n hx hb dX11_show_1 rfl (lv_at hl 2 rfl) ?_
  obtain ⟨v1, hc_v1, h⟩ := bd_some h
  refine mcallSZ (va_runS (As := [.int x1, .int x2]) (rest := []) ⟨hx, hb, hml, hown, hts⟩ (kX11_isSheetAndLane l x1 x2 v1 hc_v1) (va_cwS 2 hts gX11_show_X11_isSheetAndLane rfl rfl rfl (by decide +kernel) ⟨Nat.le_of_ble_eq_true rfl, Nat.le_of_ble_eq_true rfl⟩) p0_s rfl rfl hl.1 rfl (lv_room (Nat.le_of_ble_eq_true rfl)) dX11_show_2 ⟨Nat.zero_le _, Nat.zero_le _⟩) (fun z_v1 => ?_)
  refine lv_if_eq (tgt := 18) hx hb dX11_show_5 (by decide) (fun c2 => ?_) (fun c2 => ?_)
  · have h := it_t c2 h
    refine lv_iconst (v := ((-1) : Int32)) hx hb dX11_show_18 (by decide) ?_
    exact mretQ hx hb hr hlk h hP hD hS dX11_show_19
  · have h := it_f c2 h
    refine lv_iload hx hb dX11_show_8 (lv_at hl 4 rfl) ?_
    refine lv_iload hx hb dX11_show_10 (lv_at hl 5 rfl) ?_
    obtain ⟨v3, hc_v3, h⟩ := bd_some h
    refine mcallSZ (va_runS (As := [.int x4, .int x5]) (rest := []) ⟨hx, hb, hml, hown, hts⟩ (kX11_areCells l x4 x5 v3 hc_v3) (va_cwS 2 hts gX11_show_X11_areCells rfl rfl rfl (by decide +kernel) ⟨Nat.le_of_ble_eq_true rfl, Nat.le_of_ble_eq_true rfl⟩) p0_s rfl rfl hl.1 rfl (lv_room (Nat.le_of_ble_eq_true rfl)) dX11_show_12 ⟨Nat.zero_le _, Nat.zero_le _⟩) (fun z_v3 => ?_)
    refine lv_if_ne (tgt := 20) hx hb dX11_show_15 (by decide) (fun c4 => ?_) (fun c4 => ?_)
    · have h := it_t c4 h
      refine lv_aload_n hx hb dX11_show_20 rfl (lv_at hl 0 rfl) ?_
      refine va_get (D := D) (ci := 10) (v := .ref (a 24)) (C := RX11) (T := TX11) (N := 5) hx hb hts inX11_X11_show hown hK.1 hP 0 rfl rfl 4 (by decide) (hts (.fieldLink RX11 39 "SandPalace" "sheets" "[LSandPalace$Sheet;") (by decide +kernel)) (fun _ h9 => h9) rfl dX11_show_21 ?_
      refine lv_iload_n hx hb dX11_show_24 rfl (lv_at hl 1 rfl) ?_
      rcases sw4_some h with ⟨c5, h⟩ | ⟨c5, h⟩ | ⟨c5, h⟩ | ⟨c5, h⟩
      · refine msald hx hb hK.1 hP 24 3 rfl rfl (vin4_0 c5) (by rw [c5] <;> rfl) dX11_show_25 ?_
        refine lv_iload_n hx hb dX11_show_26 rfl (lv_at hl 2 rfl) ?_
        refine lv_iload_n hx hb dX11_show_27 rfl (lv_at hl 3 rfl) ?_
        refine lv_iload hx hb dX11_show_28 (lv_at hl 5 rfl) ?_
        obtain ⟨v7, hc_v7, h⟩ := bd_some h
        refine mcallS (va_runV (As := [.int x2, .int x3, .int x5]) (rest := []) ⟨hx, hb, hml, hown, hts⟩ (kX7_refusal_29 l D cs a sh LP Z hZ σ x2 x3 x5 v7 hc_v7) (cwV 3 hts gX11_show_X7_refusal rfl rfl rfl (by decide +kernel) ⟨Nat.le_of_ble_eq_true rfl, Nat.le_of_ble_eq_true rfl⟩) (pR_v hP hK (va_recv hK.1 hP (ci := 6) (q0 := 25) rfl rfl)) rfl rfl hl.1 rfl (lv_room (Nat.le_of_ble_eq_true rfl)) dX11_show_30 ⟨Nat.zero_le _, Nat.zero_le _⟩) ?_
        refine lv_istore (lv' := [(6, .int v7), (0, .ref (a 0)), (1, .int x1), (2, .int x2), (3, .int x3), (4, .int x4), (5, .int x5)]) hx hb dX11_show_33 hl (by decide) rfl (fun ls hl => ?_)
        refine lv_iload hx hb dX11_show_35 (lv_at hl 0 rfl) ?_
        refine lv_if_eq (tgt := 43) hx hb dX11_show_37 (by decide) (fun c8 => ?_) (fun c8 => ?_)
        · have h := it_t c8 h
          refine lv_aload_n hx hb dX11_show_43 rfl (lv_at hl 1 rfl) ?_
          refine va_get (D := D) (ci := 10) (v := .ref (a 14)) (C := RX11) (T := TX11) (N := 5) hx hb hts inX11_X11_show hown hK.1 hP 0 rfl rfl 2 (by decide) (hts (.fieldLink RX11 26 "SandPalace" "print" "LSandPalace$Photo;") (by decide +kernel)) (fun _ h9 => h9) rfl dX11_show_44 ?_
          refine lv_aload_n hx hb dX11_show_47 rfl (lv_at hl 1 rfl) ?_
          refine va_get (D := D) (ci := 10) (v := .ref (a 24)) (C := RX11) (T := TX11) (N := 5) hx hb hts inX11_X11_show hown hK.1 hP 0 rfl rfl 4 (by decide) (hts (.fieldLink RX11 39 "SandPalace" "sheets" "[LSandPalace$Sheet;") (by decide +kernel)) (fun _ h9 => h9) rfl dX11_show_48 ?_
          refine lv_iload_n hx hb dX11_show_51 rfl (lv_at hl 2 rfl) ?_
          have h := sw4_0 c5 h
          refine msald hx hb hK.1 hP 24 3 rfl rfl (vin4_0 c5) (by rw [c5] <;> rfl) dX11_show_52 ?_
          refine lv_iload_n hx hb dX11_show_53 rfl (lv_at hl 4 rfl) ?_
          refine lv_iload hx hb dX11_show_54 (lv_at hl 5 rfl) ?_
          refine lv_iload hx hb dX11_show_56 (lv_at hl 6 rfl) ?_
          obtain ⟨⟨v10, σ11⟩, hc_v10, h⟩ := bd_some h
          refine mcallQ (wf := (cW a cs sh LP Z)) (va_runV (As := [.ref (a 25), .int x3, .int x4, .int x5]) (rest := []) ⟨hx, hb, hml, hown, hts⟩ (kX3_copyFrom_29 l D cs a sh LP Z hZ σ F x3 x4 x5 v10 σ11 hc_v10 _) (cwV 4 hts gX11_show_X3_copyFrom rfl rfl rfl (by decide +kernel) ⟨Nat.le_of_ble_eq_true rfl, Nat.le_of_ble_eq_true rfl⟩) (pQ_v hP hK hD (va_recv hK.1 hP (ci := 3) (q0 := 14) rfl rfl)) rfl rfl hl.1 rfl (lv_room (Nat.le_of_ble_eq_true rfl)) dX11_show_58 ⟨Nat.zero_le _, Nat.zero_le _⟩) hD hS hA (fun H locs hP hD hS => ?_)
          exact mretQ hx hb hr hlk h hP hD hS dX11_show_61
        · have h := it_f c8 h
          refine lv_iload hx hb dX11_show_40 (lv_at hl 0 rfl) ?_
          exact mretQ hx hb hr hlk h hP hD hS dX11_show_42
      · refine msald hx hb hK.1 hP 24 3 rfl rfl (vin4_1 c5) (by rw [c5] <;> rfl) dX11_show_25 ?_
        refine lv_iload_n hx hb dX11_show_26 rfl (lv_at hl 2 rfl) ?_
        refine lv_iload_n hx hb dX11_show_27 rfl (lv_at hl 3 rfl) ?_
        refine lv_iload hx hb dX11_show_28 (lv_at hl 5 rfl) ?_
        obtain ⟨v7, hc_v7, h⟩ := bd_some h
        refine mcallS (va_runV (As := [.int x2, .int x3, .int x5]) (rest := []) ⟨hx, hb, hml, hown, hts⟩ (kX7_refusal_30 l D cs a sh LP Z hZ σ x2 x3 x5 v7 hc_v7) (cwV 3 hts gX11_show_X7_refusal rfl rfl rfl (by decide +kernel) ⟨Nat.le_of_ble_eq_true rfl, Nat.le_of_ble_eq_true rfl⟩) (pR_v hP hK (va_recv hK.1 hP (ci := 6) (q0 := 26) rfl rfl)) rfl rfl hl.1 rfl (lv_room (Nat.le_of_ble_eq_true rfl)) dX11_show_30 ⟨Nat.zero_le _, Nat.zero_le _⟩) ?_
        refine lv_istore (lv' := [(6, .int v7), (0, .ref (a 0)), (1, .int x1), (2, .int x2), (3, .int x3), (4, .int x4), (5, .int x5)]) hx hb dX11_show_33 hl (by decide) rfl (fun ls hl => ?_)
        refine lv_iload hx hb dX11_show_35 (lv_at hl 0 rfl) ?_
        refine lv_if_eq (tgt := 43) hx hb dX11_show_37 (by decide) (fun c8 => ?_) (fun c8 => ?_)
        · have h := it_t c8 h
          refine lv_aload_n hx hb dX11_show_43 rfl (lv_at hl 1 rfl) ?_
          refine va_get (D := D) (ci := 10) (v := .ref (a 14)) (C := RX11) (T := TX11) (N := 5) hx hb hts inX11_X11_show hown hK.1 hP 0 rfl rfl 2 (by decide) (hts (.fieldLink RX11 26 "SandPalace" "print" "LSandPalace$Photo;") (by decide +kernel)) (fun _ h9 => h9) rfl dX11_show_44 ?_
          refine lv_aload_n hx hb dX11_show_47 rfl (lv_at hl 1 rfl) ?_
          refine va_get (D := D) (ci := 10) (v := .ref (a 24)) (C := RX11) (T := TX11) (N := 5) hx hb hts inX11_X11_show hown hK.1 hP 0 rfl rfl 4 (by decide) (hts (.fieldLink RX11 39 "SandPalace" "sheets" "[LSandPalace$Sheet;") (by decide +kernel)) (fun _ h9 => h9) rfl dX11_show_48 ?_
          refine lv_iload_n hx hb dX11_show_51 rfl (lv_at hl 2 rfl) ?_
          have h := sw4_1 c5 h
          refine msald hx hb hK.1 hP 24 3 rfl rfl (vin4_1 c5) (by rw [c5] <;> rfl) dX11_show_52 ?_
          refine lv_iload_n hx hb dX11_show_53 rfl (lv_at hl 4 rfl) ?_
          refine lv_iload hx hb dX11_show_54 (lv_at hl 5 rfl) ?_
          refine lv_iload hx hb dX11_show_56 (lv_at hl 6 rfl) ?_
          obtain ⟨⟨v10, σ11⟩, hc_v10, h⟩ := bd_some h
          refine mcallQ (wf := (cW a cs sh LP Z)) (va_runV (As := [.ref (a 26), .int x3, .int x4, .int x5]) (rest := []) ⟨hx, hb, hml, hown, hts⟩ (kX3_copyFrom_30 l D cs a sh LP Z hZ σ F x3 x4 x5 v10 σ11 hc_v10 _) (cwV 4 hts gX11_show_X3_copyFrom rfl rfl rfl (by decide +kernel) ⟨Nat.le_of_ble_eq_true rfl, Nat.le_of_ble_eq_true rfl⟩) (pQ_v hP hK hD (va_recv hK.1 hP (ci := 3) (q0 := 14) rfl rfl)) rfl rfl hl.1 rfl (lv_room (Nat.le_of_ble_eq_true rfl)) dX11_show_58 ⟨Nat.zero_le _, Nat.zero_le _⟩) hD hS hA (fun H locs hP hD hS => ?_)
          exact mretQ hx hb hr hlk h hP hD hS dX11_show_61
        · have h := it_f c8 h
          refine lv_iload hx hb dX11_show_40 (lv_at hl 0 rfl) ?_
          exact mretQ hx hb hr hlk h hP hD hS dX11_show_42
      · refine msald hx hb hK.1 hP 24 3 rfl rfl (vin4_2 c5) (by rw [c5] <;> rfl) dX11_show_25 ?_
        refine lv_iload_n hx hb dX11_show_26 rfl (lv_at hl 2 rfl) ?_
        refine lv_iload_n hx hb dX11_show_27 rfl (lv_at hl 3 rfl) ?_
        refine lv_iload hx hb dX11_show_28 (lv_at hl 5 rfl) ?_
        obtain ⟨v7, hc_v7, h⟩ := bd_some h
        refine mcallS (va_runV (As := [.int x2, .int x3, .int x5]) (rest := []) ⟨hx, hb, hml, hown, hts⟩ (kX7_refusal_31 l D cs a sh LP Z hZ σ x2 x3 x5 v7 hc_v7) (cwV 3 hts gX11_show_X7_refusal rfl rfl rfl (by decide +kernel) ⟨Nat.le_of_ble_eq_true rfl, Nat.le_of_ble_eq_true rfl⟩) (pR_v hP hK (va_recv hK.1 hP (ci := 6) (q0 := 27) rfl rfl)) rfl rfl hl.1 rfl (lv_room (Nat.le_of_ble_eq_true rfl)) dX11_show_30 ⟨Nat.zero_le _, Nat.zero_le _⟩) ?_
        refine lv_istore (lv' := [(6, .int v7), (0, .ref (a 0)), (1, .int x1), (2, .int x2), (3, .int x3), (4, .int x4), (5, .int x5)]) hx hb dX11_show_33 hl (by decide) rfl (fun ls hl => ?_)
        refine lv_iload hx hb dX11_show_35 (lv_at hl 0 rfl) ?_
        refine lv_if_eq (tgt := 43) hx hb dX11_show_37 (by decide) (fun c8 => ?_) (fun c8 => ?_)
        · have h := it_t c8 h
          refine lv_aload_n hx hb dX11_show_43 rfl (lv_at hl 1 rfl) ?_
          refine va_get (D := D) (ci := 10) (v := .ref (a 14)) (C := RX11) (T := TX11) (N := 5) hx hb hts inX11_X11_show hown hK.1 hP 0 rfl rfl 2 (by decide) (hts (.fieldLink RX11 26 "SandPalace" "print" "LSandPalace$Photo;") (by decide +kernel)) (fun _ h9 => h9) rfl dX11_show_44 ?_
          refine lv_aload_n hx hb dX11_show_47 rfl (lv_at hl 1 rfl) ?_
          refine va_get (D := D) (ci := 10) (v := .ref (a 24)) (C := RX11) (T := TX11) (N := 5) hx hb hts inX11_X11_show hown hK.1 hP 0 rfl rfl 4 (by decide) (hts (.fieldLink RX11 39 "SandPalace" "sheets" "[LSandPalace$Sheet;") (by decide +kernel)) (fun _ h9 => h9) rfl dX11_show_48 ?_
          refine lv_iload_n hx hb dX11_show_51 rfl (lv_at hl 2 rfl) ?_
          have h := sw4_2 c5 h
          refine msald hx hb hK.1 hP 24 3 rfl rfl (vin4_2 c5) (by rw [c5] <;> rfl) dX11_show_52 ?_
          refine lv_iload_n hx hb dX11_show_53 rfl (lv_at hl 4 rfl) ?_
          refine lv_iload hx hb dX11_show_54 (lv_at hl 5 rfl) ?_
          refine lv_iload hx hb dX11_show_56 (lv_at hl 6 rfl) ?_
          obtain ⟨⟨v10, σ11⟩, hc_v10, h⟩ := bd_some h
          refine mcallQ (wf := (cW a cs sh LP Z)) (va_runV (As := [.ref (a 27), .int x3, .int x4, .int x5]) (rest := []) ⟨hx, hb, hml, hown, hts⟩ (kX3_copyFrom_31 l D cs a sh LP Z hZ σ F x3 x4 x5 v10 σ11 hc_v10 _) (cwV 4 hts gX11_show_X3_copyFrom rfl rfl rfl (by decide +kernel) ⟨Nat.le_of_ble_eq_true rfl, Nat.le_of_ble_eq_true rfl⟩) (pQ_v hP hK hD (va_recv hK.1 hP (ci := 3) (q0 := 14) rfl rfl)) rfl rfl hl.1 rfl (lv_room (Nat.le_of_ble_eq_true rfl)) dX11_show_58 ⟨Nat.zero_le _, Nat.zero_le _⟩) hD hS hA (fun H locs hP hD hS => ?_)
          exact mretQ hx hb hr hlk h hP hD hS dX11_show_61
        · have h := it_f c8 h
          refine lv_iload hx hb dX11_show_40 (lv_at hl 0 rfl) ?_
          exact mretQ hx hb hr hlk h hP hD hS dX11_show_42
      · refine msald hx hb hK.1 hP 24 3 rfl rfl (vin4_3 c5) (by rw [c5] <;> rfl) dX11_show_25 ?_
        refine lv_iload_n hx hb dX11_show_26 rfl (lv_at hl 2 rfl) ?_
        refine lv_iload_n hx hb dX11_show_27 rfl (lv_at hl 3 rfl) ?_
        refine lv_iload hx hb dX11_show_28 (lv_at hl 5 rfl) ?_
        obtain ⟨v7, hc_v7, h⟩ := bd_some h
        refine mcallS (va_runV (As := [.int x2, .int x3, .int x5]) (rest := []) ⟨hx, hb, hml, hown, hts⟩ (kX7_refusal_32 l D cs a sh LP Z hZ σ x2 x3 x5 v7 hc_v7) (cwV 3 hts gX11_show_X7_refusal rfl rfl rfl (by decide +kernel) ⟨Nat.le_of_ble_eq_true rfl, Nat.le_of_ble_eq_true rfl⟩) (pR_v hP hK (va_recv hK.1 hP (ci := 6) (q0 := 28) rfl rfl)) rfl rfl hl.1 rfl (lv_room (Nat.le_of_ble_eq_true rfl)) dX11_show_30 ⟨Nat.zero_le _, Nat.zero_le _⟩) ?_
        refine lv_istore (lv' := [(6, .int v7), (0, .ref (a 0)), (1, .int x1), (2, .int x2), (3, .int x3), (4, .int x4), (5, .int x5)]) hx hb dX11_show_33 hl (by decide) rfl (fun ls hl => ?_)
        refine lv_iload hx hb dX11_show_35 (lv_at hl 0 rfl) ?_
        refine lv_if_eq (tgt := 43) hx hb dX11_show_37 (by decide) (fun c8 => ?_) (fun c8 => ?_)
        · have h := it_t c8 h
          refine lv_aload_n hx hb dX11_show_43 rfl (lv_at hl 1 rfl) ?_
          refine va_get (D := D) (ci := 10) (v := .ref (a 14)) (C := RX11) (T := TX11) (N := 5) hx hb hts inX11_X11_show hown hK.1 hP 0 rfl rfl 2 (by decide) (hts (.fieldLink RX11 26 "SandPalace" "print" "LSandPalace$Photo;") (by decide +kernel)) (fun _ h9 => h9) rfl dX11_show_44 ?_
          refine lv_aload_n hx hb dX11_show_47 rfl (lv_at hl 1 rfl) ?_
          refine va_get (D := D) (ci := 10) (v := .ref (a 24)) (C := RX11) (T := TX11) (N := 5) hx hb hts inX11_X11_show hown hK.1 hP 0 rfl rfl 4 (by decide) (hts (.fieldLink RX11 39 "SandPalace" "sheets" "[LSandPalace$Sheet;") (by decide +kernel)) (fun _ h9 => h9) rfl dX11_show_48 ?_
          refine lv_iload_n hx hb dX11_show_51 rfl (lv_at hl 2 rfl) ?_
          have h := sw4_3 c5 h
          refine msald hx hb hK.1 hP 24 3 rfl rfl (vin4_3 c5) (by rw [c5] <;> rfl) dX11_show_52 ?_
          refine lv_iload_n hx hb dX11_show_53 rfl (lv_at hl 4 rfl) ?_
          refine lv_iload hx hb dX11_show_54 (lv_at hl 5 rfl) ?_
          refine lv_iload hx hb dX11_show_56 (lv_at hl 6 rfl) ?_
          obtain ⟨⟨v10, σ11⟩, hc_v10, h⟩ := bd_some h
          refine mcallQ (wf := (cW a cs sh LP Z)) (va_runV (As := [.ref (a 28), .int x3, .int x4, .int x5]) (rest := []) ⟨hx, hb, hml, hown, hts⟩ (kX3_copyFrom_32 l D cs a sh LP Z hZ σ F x3 x4 x5 v10 σ11 hc_v10 _) (cwV 4 hts gX11_show_X3_copyFrom rfl rfl rfl (by decide +kernel) ⟨Nat.le_of_ble_eq_true rfl, Nat.le_of_ble_eq_true rfl⟩) (pQ_v hP hK hD (va_recv hK.1 hP (ci := 3) (q0 := 14) rfl rfl)) rfl rfl hl.1 rfl (lv_room (Nat.le_of_ble_eq_true rfl)) dX11_show_58 ⟨Nat.zero_le _, Nat.zero_le _⟩) hD hS hA (fun H locs hP hD hS => ?_)
          exact mretQ hx hb hr hlk h hP hD hS dX11_show_61
        · have h := it_f c8 h
          refine lv_iload hx hb dX11_show_40 (lv_at hl 0 rfl) ?_
          exact mretQ hx hb hr hlk h hP hD hS dX11_show_42
    · have h := it_n c4 h
      refine lv_iconst (v := ((-1) : Int32)) hx hb dX11_show_18 (by decide) ?_
      exact mretQ hx hb hr hlk h hP hD hS dX11_show_19
