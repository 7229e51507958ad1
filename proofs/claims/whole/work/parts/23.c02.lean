def fX3_copyFrom_J41 (KI : Nat) (KL : Nat) (KN : Nat) (F : Nat) (sh : Nat → Option Nat) (Z : ZT) (kb : Int32 → (Nat → Nat → Int32) → Option (Int32 × (Nat → Nat → Int32))) (x2 : Int32) (x3 : Int32) (x4 : Int32) (x5 : Int32) (σ : Nat → Nat → Int32) : Option (Int32 × (Nat → Nat → Int32)) :=
  kb (x5 + (1 : Int32)) σ
def fX3_copyFrom_L3 (KI : Nat) (KL : Nat) (KN : Nat) (F : Nat) (sh : Nat → Option Nat) (Z : ZT) (x2 : Int32) (x3 : Int32) (x4 : Int32) (kx : (Nat → Nat → Int32) → Option (Int32 × (Nat → Nat → Int32))) : Nat → Int32 → (Nat → Nat → Int32) → Option (Int32 × (Nat → Nat → Int32))
  | 0, _, _ => none
  | n+1, x5, σ =>
    nb ((fun x5 σ => fX3_copyFrom_L3 KI KL KN F sh Z x2 x3 x4 kx n x5 σ)) fun kb =>
    if x4 ≤ x5 then (kx σ) else (bd (fX7_read KI KL KN sh Z σ (x2 + x5)) fun v2 => if v2 = ((-5) : Int32) then (fX3_copyFrom_J41 KI KL KN F sh Z kb x2 x3 x4 x5 σ) else (bd (fX11_within v2 (0 : Int32) (9 : Int32)) fun v4 => if ¬ v4 = 0 then (fX3_copyFrom_J41 KI KL KN F sh Z kb x2 x3 x4 x5 σ) else (some (((-2) : Int32), σ))))
def fX3_copyFrom_L50 (KI : Nat) (KL : Nat) (KN : Nat) (F : Nat) (sh : Nat → Option Nat) (Z : ZT) (x2 : Int32) (x3 : Int32) (x4 : Int32) (kx : (Nat → Nat → Int32) → Option (Int32 × (Nat → Nat → Int32))) : Nat → Int32 → (Nat → Nat → Int32) → Option (Int32 × (Nat → Nat → Int32))
  | 0, _, _ => none
  | n+1, x5, σ =>
    nb ((fun x5 σ => fX3_copyFrom_L50 KI KL KN F sh Z x2 x3 x4 kx n x5 σ)) fun kb =>
    if x4 ≤ x5 then (kx σ) else (bd (fX7_read KI KL KN sh Z σ (x2 + x5)) fun v3 => aS 256 (x3 + x5) (nm (sg σ 15 (upd (σ 15) (x3 + x5).toNatClampNeg v3)) fun σ5 => kb (x5 + (1 : Int32)) σ5))
def fX3_copyFrom (KI : Nat) (KL : Nat) (KN : Nat) (F : Nat) (sh : Nat → Option Nat) (Z : ZT) (σ : Nat → Nat → Int32) (x2 : Int32) (x3 : Int32) (x4 : Int32) : Option (Int32 × (Nat → Nat → Int32)) :=
  fX3_copyFrom_L3 KI KL KN F sh Z x2 x3 x4 (fun σ1 => fX3_copyFrom_L50 KI KL KN F sh Z x2 x3 x4 (fun σ2 => some (x4, σ2)) F (0 : Int32) σ1) F (0 : Int32) σ
abbrev rmX3_copyFrom : Room := { frames := 1, cells := 0, slots := 0, locals := 22 }
theorem inX3_X3_copyFrom : ∀ w ∈ wsX30, w ∈ wsX3_copyFrom := by intro w h; simp only [wsX3_copyFrom, List.mem_cons, List.mem_append]; simp only [h, true_or, or_true]
set_option maxHeartbeats 4000000 in
set_option maxRecDepth 100000 in
theorem wX3_copyFrom_29_J41 {p : Program} {l : Launch} {e : Env} {s : State} {m : MethodId} {args : Array Value} {below : List Frame} {meth : Method} {c : Code} (C : cxt p s m args meth c cX3_copyFrom 7 RX3 wsX3_copyFrom (some .int)) {D : va_G} {cs : Nat → ClassId} {a : Nat → Nat} {sh : Nat → Option Nat} {LP : List Nat} {Z : ZT} (hZ : shOK sh LP Z) (hK : KK D cs s) {A : Nat → Prop} (hA : ∀ q, s.heap.size ≤ q → A q) (r : Int32) (u9 : Nat → Nat → Int32) (F : Nat) (kb : Int32 → (Nat → Nat → Int32) → Option (Int32 × (Nat → Nat → Int32))) (x2 : Int32) (x3 : Int32) (x4 : Int32) (x5 : Int32) (hkb : ∀ (x5 : Int32) (σ : Nat → Nat → Int32) (H : Heap) (locs : List Loc) (ls : Array Slot), va_P D vwCl (cW a cs sh LP Z σ) H → va_D A (cW a cs sh LP Z σ) → va_S A s.heap H locs → lv_has ls 7 [(0, .ref (a 14)), (1, .ref (a 25)), (2, .int x2), (3, .int x3), (4, .int x4), (5, .int x5)] → kb x5 σ = some (r, u9) → W p l e rmX3_copyFrom s m args below meth c H locs 0 0 (MQ below (va_Qi (fun x y => x = r ∧ y = u9) (qB D (cW a cs sh LP Z) A) A) args s 0 0 A) (F0 m 3 ls [])) (σ : Nat → Nat → Int32) (H : Heap) (locs : List Loc) (ls : Array Slot) (hP : va_P D vwCl (cW a cs sh LP Z σ) H) (hD : va_D A (cW a cs sh LP Z σ)) (hS : va_S A s.heap H locs) (hl : lv_has ls 7 [(0, .ref (a 14)), (1, .ref (a 25)), (2, .int x2), (3, .int x3), (4, .int x4), (5, .int x5)]) (h : fX3_copyFrom_J41 29 40 44 F sh Z kb x2 x3 x4 x5 σ = some (r, u9)) : W p l e rmX3_copyFrom s m args below meth c H locs 0 0 (MQ below (va_Qi (fun x y => x = r ∧ y = u9) (qB D (cW a cs sh LP Z) A) A) args s 0 0 A) (F0 m 41 ls []) := by
  obtain ⟨hx, hb, hml, hown, hts, hr, hlk⟩ := id C
  unfold fX3_copyFrom_J41 at h
  refine lv_iinc (v := x5 + (1 : Int32)) (lv' := [(5, .int (x5 + (1 : Int32))), (0, .ref (a 14)), (1, .ref (a 25)), (2, .int x2), (3, .int x3), (4, .int x4)]) hx hb dX3_copyFrom_41 hl (k := 5) rfl rfl (by decide) rfl (fun ls hl => ?_)
  refine lv_goto (tgt := 3) hx hb dX3_copyFrom_44 (by decide) ?_
  exact hkb (x5 + (1 : Int32)) σ _ _ ls hP hD hS (lv_sub hl [1, 2, 3, 4, 5, 0] rfl) h
set_option maxHeartbeats 4000000 in
set_option maxRecDepth 100000 in
theorem wX3_copyFrom_29_L3 {p : Program} {l : Launch} {e : Env} {s : State} {m : MethodId} {args : Array Value} {below : List Frame} {meth : Method} {c : Code} (C : cxt p s m args meth c cX3_copyFrom 7 RX3 wsX3_copyFrom (some .int)) {D : va_G} {cs : Nat → ClassId} {a : Nat → Nat} {sh : Nat → Option Nat} {LP : List Nat} {Z : ZT} (hZ : shOK sh LP Z) (hK : KK D cs s) {A : Nat → Prop} (hA : ∀ q, s.heap.size ≤ q → A q) (r : Int32) (u9 : Nat → Nat → Int32) (F : Nat) (x2 : Int32) (x3 : Int32) (x4 : Int32) (kx : (Nat → Nat → Int32) → Option (Int32 × (Nat → Nat → Int32))) (hkx : ∀ (σ : Nat → Nat → Int32) (H : Heap) (locs : List Loc) (ls : Array Slot), va_P D vwCl (cW a cs sh LP Z σ) H → va_D A (cW a cs sh LP Z σ) → va_S A s.heap H locs → lv_has ls 7 [(0, .ref (a 14)), (1, .ref (a 25)), (2, .int x2), (3, .int x3), (4, .int x4)] → kx σ = some (r, u9) → W p l e rmX3_copyFrom s m args below meth c H locs 0 0 (MQ below (va_Qi (fun x y => x = r ∧ y = u9) (qB D (cW a cs sh LP Z) A) A) args s 0 0 A) (F0 m 47 ls [])) : ∀ (n : Nat) (x5 : Int32) (σ : Nat → Nat → Int32) (H : Heap) (locs : List Loc) (ls : Array Slot), va_P D vwCl (cW a cs sh LP Z σ) H → va_D A (cW a cs sh LP Z σ) → va_S A s.heap H locs → lv_has ls 7 [(0, .ref (a 14)), (1, .ref (a 25)), (2, .int x2), (3, .int x3), (4, .int x4), (5, .int x5)] → fX3_copyFrom_L3 29 40 44 F sh Z x2 x3 x4 kx n x5 σ = some (r, u9) → W p l e rmX3_copyFrom s m args below meth c H locs 0 0 (MQ below (va_Qi (fun x y => x = r ∧ y = u9) (qB D (cW a cs sh LP Z) A) A) args s 0 0 A) (F0 m 3 ls []) := by
  obtain ⟨hx, hb, hml, hown, hts, hr, hlk⟩ := id C
  intro n
  induction n with
  | zero =>
    intros
    rename_i h
    cases h
  | succ n ih =>
    intro x5 σ H locs ls hP hD hS hl h
    rw [fX3_copyFrom_L3] at h
    obtain ⟨kb, hkb, h⟩ := nb_some (P := fun (kb : Int32 → (Nat → Nat → Int32) → Option (Int32 × (Nat → Nat → Int32))) => ∀ (x5 : Int32) (σ : Nat → Nat → Int32) (H : Heap) (locs : List Loc) (ls : Array Slot), va_P D vwCl (cW a cs sh LP Z σ) H → va_D A (cW a cs sh LP Z σ) → va_S A s.heap H locs → lv_has ls 7 [(0, .ref (a 14)), (1, .ref (a 25)), (2, .int x2), (3, .int x3), (4, .int x4), (5, .int x5)] → kb x5 σ = some (r, u9) → W p l e rmX3_copyFrom s m args below meth c H locs 0 0 (MQ below (va_Qi (fun x y => x = r ∧ y = u9) (qB D (cW a cs sh LP Z) A) A) args s 0 0 A) (F0 m 3 ls [])) h ih
    refine lv_iload hx hb dX3_copyFrom_3 (lv_at hl 5 rfl) ?_
    refine lv_iload hx hb dX3_copyFrom_5 (lv_at hl 4 rfl) ?_
    refine lv_icmp_ge (tgt := 47) hx hb dX3_copyFrom_7 (by decide) (fun c1 => ?_) (fun c1 => ?_)
    · have h := it_t c1 h
      exact hkx σ _ _ ls hP hD hS (lv_sub hl [0, 1, 2, 3, 4] rfl) h
    · have h := it_f c1 h
      refine lv_aload_n hx hb dX3_copyFrom_10 rfl (lv_at hl 1 rfl) ?_
      refine lv_iload_n hx hb dX3_copyFrom_11 rfl (lv_at hl 2 rfl) ?_
      refine lv_iload hx hb dX3_copyFrom_12 (lv_at hl 5 rfl) ?_
      refine lv_iadd hx hb dX3_copyFrom_14 ?_
      obtain ⟨v2, hc_v2, h⟩ := bd_some h
      refine mcallS (va_runV (As := [.int (x2 + x5)]) (rest := []) ⟨hx, hb, hml, hown, hts⟩ (kX7_read_29 l D cs a sh LP Z hZ σ (x2 + x5) v2 hc_v2) (cwV 1 hts gX3_copyFrom_X7_read rfl rfl rfl (by decide +kernel) ⟨Nat.le_of_ble_eq_true rfl, Nat.le_of_ble_eq_true rfl⟩) (pR_v hP hK (va_recv hK.1 hP (ci := 6) (q0 := 25) rfl rfl)) rfl rfl hl.1 rfl (lv_room (Nat.le_of_ble_eq_true rfl)) dX3_copyFrom_15 ⟨Nat.zero_le _, Nat.zero_le _⟩) ?_
      refine lv_istore (lv' := [(6, .int v2), (0, .ref (a 14)), (1, .ref (a 25)), (2, .int x2), (3, .int x3), (4, .int x4), (5, .int x5)]) hx hb dX3_copyFrom_18 hl (by decide) rfl (fun ls hl => ?_)
      refine lv_iload hx hb dX3_copyFrom_20 (lv_at hl 0 rfl) ?_
      refine lv_bipush (v := ((-5) : Int32)) hx hb dX3_copyFrom_22 (by decide) ?_
      refine lv_icmp_eq (tgt := 41) hx hb dX3_copyFrom_24 (by decide) (fun c3 => ?_) (fun c3 => ?_)
      · have h := it_t c3 h
        exact wX3_copyFrom_29_J41 C hZ hK hA r u9 F kb x2 x3 x4 x5 hkb σ _ _ ls hP hD hS (lv_sub hl [1, 2, 3, 4, 5, 6] rfl) h
      · have h := it_f c3 h
        refine lv_iload hx hb dX3_copyFrom_27 (lv_at hl 0 rfl) ?_
        refine lv_iconst (v := (0 : Int32)) hx hb dX3_copyFrom_29 (by decide) ?_
        refine lv_bipush (v := (9 : Int32)) hx hb dX3_copyFrom_30 (by decide) ?_
        obtain ⟨v4, hc_v4, h⟩ := bd_some h
        refine mcallSZ (va_runSN (As := [.int v2, .int (0 : Int32), .int (9 : Int32)]) (rest := []) ⟨hx, hb, hml, hown, hts⟩ (kX11_within l v2 (0 : Int32) (9 : Int32) v4 hc_v4) ⟨va_cnB (own := RX3) (host := "SandPalace") (index := 53) 3 hts gX3_copyFrom_X11_within_n53 rfl rfl rfl (hK.2.1 ("SandPalace$Photo", 53, yX11_within, "SandPalace") (by decide +kernel)) (hts (.initialized RX11) (by decide +kernel)) (by decide +kernel) ⟨Nat.le_of_ble_eq_true rfl, Nat.le_of_ble_eq_true rfl⟩, hts (.static yX11_within) (by decide +kernel), trivial⟩ p0_s rfl rfl hl.1 rfl (lv_room (Nat.le_of_ble_eq_true rfl)) dX3_copyFrom_32 ⟨Nat.zero_le _, Nat.zero_le _⟩) (fun z_v4 => ?_)
        refine lv_if_ne (tgt := 41) hx hb dX3_copyFrom_35 (by decide) (fun c5 => ?_) (fun c5 => ?_)
        · have h := it_t c5 h
          exact wX3_copyFrom_29_J41 C hZ hK hA r u9 F kb x2 x3 x4 x5 hkb σ _ _ ls hP hD hS (lv_sub hl [1, 2, 3, 4, 5, 6] rfl) h
        · have h := it_n c5 h
          refine lv_bipush (v := ((-2) : Int32)) hx hb dX3_copyFrom_38 (by decide) ?_
          exact mretQ hx hb hr hlk h hP hD hS dX3_copyFrom_40
set_option maxHeartbeats 4000000 in
set_option maxRecDepth 100000 in
theorem wX3_copyFrom_29_L50 {p : Program} {l : Launch} {e : Env} {s : State} {m : MethodId} {args : Array Value} {below : List Frame} {meth : Method} {c : Code} (C : cxt p s m args meth c cX3_copyFrom 7 RX3 wsX3_copyFrom (some .int)) {D : va_G} {cs : Nat → ClassId} {a : Nat → Nat} {sh : Nat → Option Nat} {LP : List Nat} {Z : ZT} (hZ : shOK sh LP Z) (hK : KK D cs s) {A : Nat → Prop} (hA : ∀ q, s.heap.size ≤ q → A q) (r : Int32) (u9 : Nat → Nat → Int32) (F : Nat) (x2 : Int32) (x3 : Int32) (x4 : Int32) (kx : (Nat → Nat → Int32) → Option (Int32 × (Nat → Nat → Int32))) (hkx : ∀ (σ : Nat → Nat → Int32) (H : Heap) (locs : List Loc) (ls : Array Slot), va_P D vwCl (cW a cs sh LP Z σ) H → va_D A (cW a cs sh LP Z σ) → va_S A s.heap H locs → lv_has ls 7 [(4, .int x4)] → kx σ = some (r, u9) → W p l e rmX3_copyFrom s m args below meth c H locs 0 0 (MQ below (va_Qi (fun x y => x = r ∧ y = u9) (qB D (cW a cs sh LP Z) A) A) args s 0 0 A) (F0 m 80 ls [])) : ∀ (n : Nat) (x5 : Int32) (σ : Nat → Nat → Int32) (H : Heap) (locs : List Loc) (ls : Array Slot), va_P D vwCl (cW a cs sh LP Z σ) H → va_D A (cW a cs sh LP Z σ) → va_S A s.heap H locs → lv_has ls 7 [(0, .ref (a 14)), (1, .ref (a 25)), (2, .int x2), (3, .int x3), (4, .int x4), (5, .int x5)] → fX3_copyFrom_L50 29 40 44 F sh Z x2 x3 x4 kx n x5 σ = some (r, u9) → W p l e rmX3_copyFrom s m args below meth c H locs 0 0 (MQ below (va_Qi (fun x y => x = r ∧ y = u9) (qB D (cW a cs sh LP Z) A) A) args s 0 0 A) (F0 m 50 ls []) := by
  obtain ⟨hx, hb, hml, hown, hts, hr, hlk⟩ := id C
  intro n
  induction n with
  | zero =>
    intros
    rename_i h
    cases h
  | succ n ih =>
    intro x5 σ H locs ls hP hD hS hl h
    rw [fX3_copyFrom_L50] at h
    obtain ⟨kb, hkb, h⟩ := nb_some (P := fun (kb : Int32 → (Nat → Nat → Int32) → Option (Int32 × (Nat → Nat → Int32))) => ∀ (x5 : Int32) (σ : Nat → Nat → Int32) (H : Heap) (locs : List Loc) (ls : Array Slot), va_P D vwCl (cW a cs sh LP Z σ) H → va_D A (cW a cs sh LP Z σ) → va_S A s.heap H locs → lv_has ls 7 [(0, .ref (a 14)), (1, .ref (a 25)), (2, .int x2), (3, .int x3), (4, .int x4), (5, .int x5)] → kb x5 σ = some (r, u9) → W p l e rmX3_copyFrom s m args below meth c H locs 0 0 (MQ below (va_Qi (fun x y => x = r ∧ y = u9) (qB D (cW a cs sh LP Z) A) A) args s 0 0 A) (F0 m 50 ls [])) h ih
    refine lv_iload hx hb dX3_copyFrom_50 (lv_at hl 5 rfl) ?_
    refine lv_iload hx hb dX3_copyFrom_52 (lv_at hl 4 rfl) ?_
    refine lv_icmp_ge (tgt := 80) hx hb dX3_copyFrom_54 (by decide) (fun c2 => ?_) (fun c2 => ?_)
    · have h := it_t c2 h
      exact hkx σ _ _ ls hP hD hS (lv_sub hl [4] rfl) h
    · have h := it_f c2 h
      refine lv_aload_n hx hb dX3_copyFrom_57 rfl (lv_at hl 0 rfl) ?_
      refine va_get (D := D) (ci := 3) (v := .ref (a 15)) (C := RX3) (T := TX3) (N := 2) hx hb hts inX3_X3_copyFrom hown hK.1 hP 14 rfl rfl 0 (by decide) (hts (.fieldLink RX3 9 "SandPalace$Photo" "colours" "[I") (by decide +kernel)) (fun _ h9 => h9) rfl dX3_copyFrom_58 ?_
      refine lv_iload_n hx hb dX3_copyFrom_61 rfl (lv_at hl 3 rfl) ?_
      refine lv_iload hx hb dX3_copyFrom_62 (lv_at hl 5 rfl) ?_
      refine lv_iadd hx hb dX3_copyFrom_64 ?_
      refine lv_aload_n hx hb dX3_copyFrom_65 rfl (lv_at hl 1 rfl) ?_
      refine lv_iload_n hx hb dX3_copyFrom_66 rfl (lv_at hl 2 rfl) ?_
      refine lv_iload hx hb dX3_copyFrom_67 (lv_at hl 5 rfl) ?_
      refine lv_iadd hx hb dX3_copyFrom_69 ?_
      obtain ⟨v3, hc_v3, h⟩ := bd_some h
      refine mcallS (va_runV (As := [.int (x2 + x5)]) (rest := [.int (x3 + x5), .ref (a 15)]) ⟨hx, hb, hml, hown, hts⟩ (kX7_read_29 l D cs a sh LP Z hZ σ (x2 + x5) v3 hc_v3) (cwV 1 hts gX3_copyFrom_X7_read rfl rfl rfl (by decide +kernel) ⟨Nat.le_of_ble_eq_true rfl, Nat.le_of_ble_eq_true rfl⟩) (pR_v hP hK (va_recv hK.1 hP (ci := 6) (q0 := 25) rfl rfl)) rfl rfl hl.1 rfl (lv_room (Nat.le_of_ble_eq_true rfl)) dX3_copyFrom_70 ⟨Nat.zero_le _, Nat.zero_le _⟩) ?_
      obtain ⟨i4, h⟩ := aS_some h
      refine va_iast hx hb hK.1 hP hD hS 15 0 rfl rfl i4 dX3_copyFrom_73 (fun H locs hP hD hS => ?_)
      obtain ⟨σ5, e_σ5, h⟩ := nm_some h
      have hP : va_P D vwCl (cW a cs sh LP Z σ5) H := by rw [← e_σ5]; exact hP
      have hD : va_D A (cW a cs sh LP Z σ5) := by rw [← e_σ5]; exact hD
      refine lv_iinc (v := x5 + (1 : Int32)) (lv' := [(5, .int (x5 + (1 : Int32))), (0, .ref (a 14)), (1, .ref (a 25)), (2, .int x2), (3, .int x3), (4, .int x4)]) hx hb dX3_copyFrom_74 hl (k := 5) rfl rfl (by decide) rfl (fun ls hl => ?_)
      refine lv_goto (tgt := 50) hx hb dX3_copyFrom_77 (by decide) ?_
      exact hkb (x5 + (1 : Int32)) σ5 _ _ ls hP hD hS (lv_sub hl [1, 2, 3, 4, 5, 0] rfl) h
set_option maxHeartbeats 4000000 in
set_option maxRecDepth 100000 in
theorem kX3_copyFrom_29 (l : Launch) (D : va_G) (cs : Nat → ClassId) (a : Nat → Nat) (sh : Nat → Option Nat) (LP : List Nat) (Z : ZT) (hZ : shOK sh LP Z) (σ : Nat → Nat → Int32) (F : Nat) (x2 : Int32) (x3 : Int32) (x4 : Int32) (r : Int32) (u9 : Nat → Nat → Int32) (h : fX3_copyFrom 29 40 44 F sh Z σ x2 x3 x4 = some (r, u9)) (sz : Nat) : Met l yX3_copyFrom wsX3_copyFrom rmX3_copyFrom (va_Pc [.ref (a 14), .ref (a 25), .int x2, .int x3, .int x4] (pQ D cs (cW a cs sh LP Z σ) sz)) (va_Qi (fun x y => x = r ∧ y = u9) (qB D (cW a cs sh LP Z) (va_A (cW a cs sh LP Z σ) sz)) (va_A (cW a cs sh LP Z σ) sz)) 0 0 (va_A (cW a cs sh LP Z σ) sz) := by
  refine Met.ofW (cc := cX3_copyFrom) (maxL := 7) (ret := (some .int)) (by decide) rfl ?_
  intro p e s m args below meth c s₁ B hml hv
  obtain ⟨rfl, hsz, hP, hK, hD0⟩ := hv
  have C : cxt p s m _ meth c cX3_copyFrom 7 RX3 wsX3_copyFrom (some .int) := ⟨B.exec, B.bytes, hml, findClass_of_methodNamed B.named, atoms_spec (ws := wsX3_copyFrom) B.pre, B.returns, B.notSynchronized⟩
  obtain ⟨hx, hb, -, hown, hts, hr, hlk⟩ := id C
  subst hsz
  have hD := hD0.self (sz := s.heap.size)
  generalize hAe : va_A (cW a cs sh LP Z σ) s.heap.size = A at hD ⊢
  have hA : ∀ q : Nat, s.heap.size ≤ q → A q := fun q h => by rw [← hAe]; exact Or.inr h
  have hS : va_S A s.heap s.heap [] := va_S.rf
  refine entryW [.ref (a 14), .ref (a 25), .int x2, .int x3, .int x4] (n := 7) (Nat.le_of_ble_eq_true rfl) (fun ls hl => ?_)
  have hl : lv_has ls 7 [(0, .ref (a 14)), (1, .ref (a 25)), (2, .int x2), (3, .int x3), (4, .int x4)] := hl
  unfold fX3_copyFrom at h
  refine lv_iconst (v := (0 : Int32)) hx hb dX3_copyFrom_0 (by decide) ?_
  refine lv_istore (lv' := [(5, .int (0 : Int32)), (0, .ref (a 14)), (1, .ref (a 25)), (2, .int x2), (3, .int x3), (4, .int x4)]) hx hb dX3_copyFrom_1 hl (by decide) rfl (fun ls hl => ?_)
  refine wX3_copyFrom_29_L3 C hZ hK hA r u9 F x2 x3 x4 _ ?_ F (0 : Int32) σ _ _ ls hP hD hS (lv_sub hl [1, 2, 3, 4, 5, 0] rfl) h
  intro σ1 H locs ls hP hD hS hl h
  refine lv_iconst (v := (0 : Int32)) hx hb dX3_copyFrom_47 (by decide) ?_
  refine lv_istore (lv' := [(5, .int (0 : Int32)), (0, .ref (a 14)), (1, .ref (a 25)), (2, .int x2), (3, .int x3), (4, .int x4)]) hx hb dX3_copyFrom_48 hl (by decide) rfl (fun ls hl => ?_)
  refine wX3_copyFrom_29_L50 C hZ hK hA r u9 F x2 x3 x4 _ ?_ F (0 : Int32) σ1 _ _ ls hP hD hS (lv_sub hl [1, 2, 3, 4, 5, 0] rfl) h
  intro σ2 H locs ls hP hD hS hl h
  refine lv_iload hx hb dX3_copyFrom_80 (lv_at hl 0 rfl) ?_
  exact mretQ hx hb hr hlk h hP hD hS dX3_copyFrom_82
set_option maxHeartbeats 4000000 in
set_option maxRecDepth 100000 in
theorem wX3_copyFrom_30_J41 {p : Program} {l : Launch} {e : Env} {s : State} {m : MethodId} {args : Array Value} {below : List Frame} {meth : Method} {c : Code} (C : cxt p s m args meth c cX3_copyFrom 7 RX3 wsX3_copyFrom (some .int)) {D : va_G} {cs : Nat → ClassId} {a : Nat → Nat} {sh : Nat → Option Nat} {LP : List Nat} {Z : ZT} (hZ : shOK sh LP Z) (hK : KK D cs s) {A : Nat → Prop} (hA : ∀ q, s.heap.size ≤ q → A q) (r : Int32) (u9 : Nat → Nat → Int32) (F : Nat) (kb : Int32 → (Nat → Nat → Int32) → Option (Int32 × (Nat → Nat → Int32))) (x2 : Int32) (x3 : Int32) (x4 : Int32) (x5 : Int32) (hkb : ∀ (x5 : Int32) (σ : Nat → Nat → Int32) (H : Heap) (locs : List Loc) (ls : Array Slot), va_P D vwCl (cW a cs sh LP Z σ) H → va_D A (cW a cs sh LP Z σ) → va_S A s.heap H locs → lv_has ls 7 [(0, .ref (a 14)), (1, .ref (a 26)), (2, .int x2), (3, .int x3), (4, .int x4), (5, .int x5)] → kb x5 σ = some (r, u9) → W p l e rmX3_copyFrom s m args below meth c H locs 0 0 (MQ below (va_Qi (fun x y => x = r ∧ y = u9) (qB D (cW a cs sh LP Z) A) A) args s 0 0 A) (F0 m 3 ls [])) (σ : Nat → Nat → Int32) (H : Heap) (locs : List Loc) (ls : Array Slot) (hP : va_P D vwCl (cW a cs sh LP Z σ) H) (hD : va_D A (cW a cs sh LP Z σ)) (hS : va_S A s.heap H locs) (hl : lv_has ls 7 [(0, .ref (a 14)), (1, .ref (a 26)), (2, .int x2), (3, .int x3), (4, .int x4), (5, .int x5)]) (h : fX3_copyFrom_J41 30 41 45 F sh Z kb x2 x3 x4 x5 σ = some (r, u9)) : W p l e rmX3_copyFrom s m args below meth c H locs 0 0 (MQ below (va_Qi (fun x y => x = r ∧ y = u9) (qB D (cW a cs sh LP Z) A) A) args s 0 0 A) (F0 m 41 ls []) := by
  obtain ⟨hx, hb, hml, hown, hts, hr, hlk⟩ := id C
  unfold fX3_copyFrom_J41 at h
  refine lv_iinc (v := x5 + (1 : Int32)) (lv' := [(5, .int (x5 + (1 : Int32))), (0, .ref (a 14)), (1, .ref (a 26)), (2, .int x2), (3, .int x3), (4, .int x4)]) hx hb dX3_copyFrom_41 hl (k := 5) rfl rfl (by decide) rfl (fun ls hl => ?_)
  refine lv_goto (tgt := 3) hx hb dX3_copyFrom_44 (by decide) ?_
  exact hkb (x5 + (1 : Int32)) σ _ _ ls hP hD hS (lv_sub hl [1, 2, 3, 4, 5, 0] rfl) h
set_option maxHeartbeats 4000000 in
set_option maxRecDepth 100000 in
theorem wX3_copyFrom_30_L3 {p : Program} {l : Launch} {e : Env} {s : State} {m : MethodId} {args : Array Value} {below : List Frame} {meth : Method} {c : Code} (C : cxt p s m args meth c cX3_copyFrom 7 RX3 wsX3_copyFrom (some .int)) {D : va_G} {cs : Nat → ClassId} {a : Nat → Nat} {sh : Nat → Option Nat} {LP : List Nat} {Z : ZT} (hZ : shOK sh LP Z) (hK : KK D cs s) {A : Nat → Prop} (hA : ∀ q, s.heap.size ≤ q → A q) (r : Int32) (u9 : Nat → Nat → Int32) (F : Nat) (x2 : Int32) (x3 : Int32) (x4 : Int32) (kx : (Nat → Nat → Int32) → Option (Int32 × (Nat → Nat → Int32))) (hkx : ∀ (σ : Nat → Nat → Int32) (H : Heap) (locs : List Loc) (ls : Array Slot), va_P D vwCl (cW a cs sh LP Z σ) H → va_D A (cW a cs sh LP Z σ) → va_S A s.heap H locs → lv_has ls 7 [(0, .ref (a 14)), (1, .ref (a 26)), (2, .int x2), (3, .int x3), (4, .int x4)] → kx σ = some (r, u9) → W p l e rmX3_copyFrom s m args below meth c H locs 0 0 (MQ below (va_Qi (fun x y => x = r ∧ y = u9) (qB D (cW a cs sh LP Z) A) A) args s 0 0 A) (F0 m 47 ls [])) : ∀ (n : Nat) (x5 : Int32) (σ : Nat → Nat → Int32) (H : Heap) (locs : List Loc) (ls : Array Slot), va_P D vwCl (cW a cs sh LP Z σ) H → va_D A (cW a cs sh LP Z σ) → va_S A s.heap H locs → lv_has ls 7 [(0, .ref (a 14)), (1, .ref (a 26)), (2, .int x2), (3, .int x3), (4, .int x4), (5, .int x5)] → fX3_copyFrom_L3 30 41 45 F sh Z x2 x3 x4 kx n x5 σ = some (r, u9) → W p l e rmX3_copyFrom s m args below meth c H locs 0 0 (MQ below (va_Qi (fun x y => x = r ∧ y = u9) (qB D (cW a cs sh LP Z) A) A) args s 0 0 A) (F0 m 3 ls []) := by
  obtain ⟨hx, hb, hml, hown, hts, hr, hlk⟩ := id C
  intro n
  induction n with
  | zero =>
    intros
    rename_i h
    cases h
  | succ n ih =>
    intro x5 σ H locs ls hP hD hS hl h
    rw [fX3_copyFrom_L3] at h
    obtain ⟨kb, hkb, h⟩ := nb_some (P := fun (kb : Int32 → (Nat → Nat → Int32) → Option (Int32 × (Nat → Nat → Int32))) => ∀ (x5 : Int32) (σ : Nat → Nat → Int32) (H : Heap) (locs : List Loc) (ls : Array Slot), va_P D vwCl (cW a cs sh LP Z σ) H → va_D A (cW a cs sh LP Z σ) → va_S A s.heap H locs → lv_has ls 7 [(0, .ref (a 14)), (1, .ref (a 26)), (2, .int x2), (3, .int x3), (4, .int x4), (5, .int x5)] → kb x5 σ = some (r, u9) → W p l e rmX3_copyFrom s m args below meth c H locs 0 0 (MQ below (va_Qi (fun x y => x = r ∧ y = u9) (qB D (cW a cs sh LP Z) A) A) args s 0 0 A) (F0 m 3 ls [])) h ih
    refine lv_iload hx hb dX3_copyFrom_3 (lv_at hl 5 rfl) ?_
    refine lv_iload hx hb dX3_copyFrom_5 (lv_at hl 4 rfl) ?_
    refine lv_icmp_ge (tgt := 47) hx hb dX3_copyFrom_7 (by decide) (fun c1 => ?_) (fun c1 => ?_)
    · have h := it_t c1 h
      exact hkx σ _ _ ls hP hD hS (lv_sub hl [0, 1, 2, 3, 4] rfl) h
    · have h := it_f c1 h
      refine lv_aload_n hx hb dX3_copyFrom_10 rfl (lv_at hl 1 rfl) ?_
      refine lv_iload_n hx hb dX3_copyFrom_11 rfl (lv_at hl 2 rfl) ?_
      refine lv_iload hx hb dX3_copyFrom_12 (lv_at hl 5 rfl) ?_
      refine lv_iadd hx hb dX3_copyFrom_14 ?_
      obtain ⟨v2, hc_v2, h⟩ := bd_some h
      refine mcallS (va_runV (As := [.int (x2 + x5)]) (rest := []) ⟨hx, hb, hml, hown, hts⟩ (kX7_read_30 l D cs a sh LP Z hZ σ (x2 + x5) v2 hc_v2) (cwV 1 hts gX3_copyFrom_X7_read rfl rfl rfl (by decide +kernel) ⟨Nat.le_of_ble_eq_true rfl, Nat.le_of_ble_eq_true rfl⟩) (pR_v hP hK (va_recv hK.1 hP (ci := 6) (q0 := 26) rfl rfl)) rfl rfl hl.1 rfl (lv_room (Nat.le_of_ble_eq_true rfl)) dX3_copyFrom_15 ⟨Nat.zero_le _, Nat.zero_le _⟩) ?_
      refine lv_istore (lv' := [(6, .int v2), (0, .ref (a 14)), (1, .ref (a 26)), (2, .int x2), (3, .int x3), (4, .int x4), (5, .int x5)]) hx hb dX3_copyFrom_18 hl (by decide) rfl (fun ls hl => ?_)
      refine lv_iload hx hb dX3_copyFrom_20 (lv_at hl 0 rfl) ?_
      refine lv_bipush (v := ((-5) : Int32)) hx hb dX3_copyFrom_22 (by decide) ?_
      refine lv_icmp_eq (tgt := 41) hx hb dX3_copyFrom_24 (by decide) (fun c3 => ?_) (fun c3 => ?_)
      · have h := it_t c3 h
        exact wX3_copyFrom_30_J41 C hZ hK hA r u9 F kb x2 x3 x4 x5 hkb σ _ _ ls hP hD hS (lv_sub hl [1, 2, 3, 4, 5, 6] rfl) h
      · have h := it_f c3 h
        refine lv_iload hx hb dX3_copyFrom_27 (lv_at hl 0 rfl) ?_
        refine lv_iconst (v := (0 : Int32)) hx hb dX3_copyFrom_29 (by decide) ?_
        refine lv_bipush (v := (9 : Int32)) hx hb dX3_copyFrom_30 (by decide) ?_
        obtain ⟨v4, hc_v4, h⟩ := bd_some h
        refine mcallSZ (va_runSN (As := [.int v2, .int (0 : Int32), .int (9 : Int32)]) (rest := []) ⟨hx, hb, hml, hown, hts⟩ (kX11_within l v2 (0 : Int32) (9 : Int32) v4 hc_v4) ⟨va_cnB (own := RX3) (host := "SandPalace") (index := 53) 3 hts gX3_copyFrom_X11_within_n53 rfl rfl rfl (hK.2.1 ("SandPalace$Photo", 53, yX11_within, "SandPalace") (by decide +kernel)) (hts (.initialized RX11) (by decide +kernel)) (by decide +kernel) ⟨Nat.le_of_ble_eq_true rfl, Nat.le_of_ble_eq_true rfl⟩, hts (.static yX11_within) (by decide +kernel), trivial⟩ p0_s rfl rfl hl.1 rfl (lv_room (Nat.le_of_ble_eq_true rfl)) dX3_copyFrom_32 ⟨Nat.zero_le _, Nat.zero_le _⟩) (fun z_v4 => ?_)
        refine lv_if_ne (tgt := 41) hx hb dX3_copyFrom_35 (by decide) (fun c5 => ?_) (fun c5 => ?_)
        · have h := it_t c5 h
          exact wX3_copyFrom_30_J41 C hZ hK hA r u9 F kb x2 x3 x4 x5 hkb σ _ _ ls hP hD hS (lv_sub hl [1, 2, 3, 4, 5, 6] rfl) h
        · have h := it_n c5 h
          refine lv_bipush (v := ((-2) : Int32)) hx hb dX3_copyFrom_38 (by decide) ?_
          exact mretQ hx hb hr hlk h hP hD hS dX3_copyFrom_40
set_option maxHeartbeats 4000000 in
set_option maxRecDepth 100000 in
theorem wX3_copyFrom_30_L50 {p : Program} {l : Launch} {e : Env} {s : State} {m : MethodId} {args : Array Value} {below : List Frame} {meth : Method} {c : Code} (C : cxt p s m args meth c cX3_copyFrom 7 RX3 wsX3_copyFrom (some .int)) {D : va_G} {cs : Nat → ClassId} {a : Nat → Nat} {sh : Nat → Option Nat} {LP : List Nat} {Z : ZT} (hZ : shOK sh LP Z) (hK : KK D cs s) {A : Nat → Prop} (hA : ∀ q, s.heap.size ≤ q → A q) (r : Int32) (u9 : Nat → Nat → Int32) (F : Nat) (x2 : Int32) (x3 : Int32) (x4 : Int32) (kx : (Nat → Nat → Int32) → Option (Int32 × (Nat → Nat → Int32))) (hkx : ∀ (σ : Nat → Nat → Int32) (H : Heap) (locs : List Loc) (ls : Array Slot), va_P D vwCl (cW a cs sh LP Z σ) H → va_D A (cW a cs sh LP Z σ) → va_S A s.heap H locs → lv_has ls 7 [(4, .int x4)] → kx σ = some (r, u9) → W p l e rmX3_copyFrom s m args below meth c H locs 0 0 (MQ below (va_Qi (fun x y => x = r ∧ y = u9) (qB D (cW a cs sh LP Z) A) A) args s 0 0 A) (F0 m 80 ls [])) : ∀ (n : Nat) (x5 : Int32) (σ : Nat → Nat → Int32) (H : Heap) (locs : List Loc) (ls : Array Slot), va_P D vwCl (cW a cs sh LP Z σ) H → va_D A (cW a cs sh LP Z σ) → va_S A s.heap H locs → lv_has ls 7 [(0, .ref (a 14)), (1, .ref (a 26)), (2, .int x2), (3, .int x3), (4, .int x4), (5, .int x5)] → fX3_copyFrom_L50 30 41 45 F sh Z x2 x3 x4 kx n x5 σ = some (r, u9) → W p l e rmX3_copyFrom s m args below meth c H locs 0 0 (MQ below (va_Qi (fun x y => x = r ∧ y = u9) (qB D (cW a cs sh LP Z) A) A) args s 0 0 A) (F0 m 50 ls []) := by
  obtain ⟨hx, hb, hml, hown, hts, hr, hlk⟩ := id C
  intro n
  induction n with
  | zero =>
    intros
    rename_i h
    cases h
  | succ n ih =>
    intro x5 σ H locs ls hP hD hS hl h
    rw [fX3_copyFrom_L50] at h
    obtain ⟨kb, hkb, h⟩ := nb_some (P := fun (kb : Int32 → (Nat → Nat → Int32) → Option (Int32 × (Nat → Nat → Int32))) => ∀ (x5 : Int32) (σ : Nat → Nat → Int32) (H : Heap) (locs : List Loc) (ls : Array Slot), va_P D vwCl (cW a cs sh LP Z σ) H → va_D A (cW a cs sh LP Z σ) → va_S A s.heap H locs → lv_has ls 7 [(0, .ref (a 14)), (1, .ref (a 26)), (2, .int x2), (3, .int x3), (4, .int x4), (5, .int x5)] → kb x5 σ = some (r, u9) → W p l e rmX3_copyFrom s m args below meth c H locs 0 0 (MQ below (va_Qi (fun x y => x = r ∧ y = u9) (qB D (cW a cs sh LP Z) A) A) args s 0 0 A) (F0 m 50 ls [])) h ih
    refine lv_iload hx hb dX3_copyFrom_50 (lv_at hl 5 rfl) ?_
    refine lv_iload hx hb dX3_copyFrom_52 (lv_at hl 4 rfl) ?_
    refine lv_icmp_ge (tgt := 80) hx hb dX3_copyFrom_54 (by decide) (fun c2 => ?_) (fun c2 => ?_)
    · have h := it_t c2 h
      exact hkx σ _ _ ls hP hD hS (lv_sub hl [4] rfl) h
    · have h := it_f c2 h
      refine lv_aload_n hx hb dX3_copyFrom_57 rfl (lv_at hl 0 rfl) ?_
      refine va_get (D := D) (ci := 3) (v := .ref (a 15)) (C := RX3) (T := TX3) (N := 2) hx hb hts inX3_X3_copyFrom hown hK.1 hP 14 rfl rfl 0 (by decide) (hts (.fieldLink RX3 9 "SandPalace$Photo" "colours" "[I") (by decide +kernel)) (fun _ h9 => h9) rfl dX3_copyFrom_58 ?_
      refine lv_iload_n hx hb dX3_copyFrom_61 rfl (lv_at hl 3 rfl) ?_
      refine lv_iload hx hb dX3_copyFrom_62 (lv_at hl 5 rfl) ?_
      refine lv_iadd hx hb dX3_copyFrom_64 ?_
      refine lv_aload_n hx hb dX3_copyFrom_65 rfl (lv_at hl 1 rfl) ?_
      refine lv_iload_n hx hb dX3_copyFrom_66 rfl (lv_at hl 2 rfl) ?_
      refine lv_iload hx hb dX3_copyFrom_67 (lv_at hl 5 rfl) ?_
      refine lv_iadd hx hb dX3_copyFrom_69 ?_
      obtain ⟨v3, hc_v3, h⟩ := bd_some h
      refine mcallS (va_runV (As := [.int (x2 + x5)]) (rest := [.int (x3 + x5), .ref (a 15)]) ⟨hx, hb, hml, hown, hts⟩ (kX7_read_30 l D cs a sh LP Z hZ σ (x2 + x5) v3 hc_v3) (cwV 1 hts gX3_copyFrom_X7_read rfl rfl rfl (by decide +kernel) ⟨Nat.le_of_ble_eq_true rfl, Nat.le_of_ble_eq_true rfl⟩) (pR_v hP hK (va_recv hK.1 hP (ci := 6) (q0 := 26) rfl rfl)) rfl rfl hl.1 rfl (lv_room (Nat.le_of_ble_eq_true rfl)) dX3_copyFrom_70 ⟨Nat.zero_le _, Nat.zero_le _⟩) ?_
      obtain ⟨i4, h⟩ := aS_some h
      refine va_iast hx hb hK.1 hP hD hS 15 0 rfl rfl i4 dX3_copyFrom_73 (fun H locs hP hD hS => ?_)
      obtain ⟨σ5, e_σ5, h⟩ := nm_some h
      have hP : va_P D vwCl (cW a cs sh LP Z σ5) H := by rw [← e_σ5]; exact hP
      have hD : va_D A (cW a cs sh LP Z σ5) := by rw [← e_σ5]; exact hD
      refine lv_iinc (v := x5 + (1 : Int32)) (lv' := [(5, .int (x5 + (1 : Int32))), (0, .ref (a 14)), (1, .ref (a 26)), (2, .int x2), (3, .int x3), (4, .int x4)]) hx hb dX3_copyFrom_74 hl (k := 5) rfl rfl (by decide) rfl (fun ls hl => ?_)
      refine lv_goto (tgt := 50) hx hb dX3_copyFrom_77 (by decide) ?_
      exact hkb (x5 + (1 : Int32)) σ5 _ _ ls hP hD hS (lv_sub hl [1, 2, 3, 4, 5, 0] rfl) h
set_option maxHeartbeats 4000000 in
set_option maxRecDepth 100000 in
theorem kX3_copyFrom_30 (l : Launch) (D : va_G) (cs : Nat → ClassId) (a : Nat → Nat) (sh : Nat → Option Nat) (LP : List Nat) (Z : ZT) (hZ : shOK sh LP Z) (σ : Nat → Nat → Int32) (F : Nat) (x2 : Int32) (x3 : Int32) (x4 : Int32) (r : Int32) (u9 : Nat → Nat → Int32) (h : fX3_copyFrom 30 41 45 F sh Z σ x2 x3 x4 = some (r, u9)) (sz : Nat) : Met l yX3_copyFrom wsX3_copyFrom rmX3_copyFrom (va_Pc [.ref (a 14), .ref (a 26), .int x2, .int x3, .int x4] (pQ D cs (cW a cs sh LP Z σ) sz)) (va_Qi (fun x y => x = r ∧ y = u9) (qB D (cW a cs sh LP Z) (va_A (cW a cs sh LP Z σ) sz)) (va_A (cW a cs sh LP Z σ) sz)) 0 0 (va_A (cW a cs sh LP Z σ) sz) := by
  refine Met.ofW (cc := cX3_copyFrom) (maxL := 7) (ret := (some .int)) (by decide) rfl ?_
  intro p e s m args below meth c s₁ B hml hv
  obtain ⟨rfl, hsz, hP, hK, hD0⟩ := hv
  have C : cxt p s m _ meth c cX3_copyFrom 7 RX3 wsX3_copyFrom (some .int) := ⟨B.exec, B.bytes, hml, findClass_of_methodNamed B.named, atoms_spec (ws := wsX3_copyFrom) B.pre, B.returns, B.notSynchronized⟩
  obtain ⟨hx, hb, -, hown, hts, hr, hlk⟩ := id C
  subst hsz
  have hD := hD0.self (sz := s.heap.size)
  generalize hAe : va_A (cW a cs sh LP Z σ) s.heap.size = A at hD ⊢
  have hA : ∀ q : Nat, s.heap.size ≤ q → A q := fun q h => by rw [← hAe]; exact Or.inr h
  have hS : va_S A s.heap s.heap [] := va_S.rf
  refine entryW [.ref (a 14), .ref (a 26), .int x2, .int x3, .int x4] (n := 7) (Nat.le_of_ble_eq_true rfl) (fun ls hl => ?_)
  have hl : lv_has ls 7 [(0, .ref (a 14)), (1, .ref (a 26)), (2, .int x2), (3, .int x3), (4, .int x4)] := hl
  unfold fX3_copyFrom at h
  refine lv_iconst (v := (0 : Int32)) hx hb dX3_copyFrom_0 (by decide) ?_
  refine lv_istore (lv' := [(5, .int (0 : Int32)), (0, .ref (a 14)), (1, .ref (a 26)), (2, .int x2), (3, .int x3), (4, .int x4)]) hx hb dX3_copyFrom_1 hl (by decide) rfl (fun ls hl => ?_)
  refine wX3_copyFrom_30_L3 C hZ hK hA r u9 F x2 x3 x4 _ ?_ F (0 : Int32) σ _ _ ls hP hD hS (lv_sub hl [1, 2, 3, 4, 5, 0] rfl) h
  intro σ1 H locs ls hP hD hS hl h
  refine lv_iconst (v := (0 : Int32)) hx hb dX3_copyFrom_47 (by decide) ?_
  refine lv_istore (lv' := [(5, .int (0 : Int32)), (0, .ref (a 14)), (1, .ref (a 26)), (2, .int x2), (3, .int x3), (4, .int x4)]) hx hb dX3_copyFrom_48 hl (by decide) rfl (fun ls hl => ?_)
  refine wX3_copyFrom_30_L50 C hZ hK hA r u9 F x2 x3 x4 _ ?_ F (0 : Int32) σ1 _ _ ls hP hD hS (lv_sub hl [1, 2, 3, 4, 5, 0] rfl) h
  intro σ2 H locs ls hP hD hS hl h
  refine lv_iload hx hb dX3_copyFrom_80 (lv_at hl 0 rfl) ?_
  exact mretQ hx hb hr hlk h hP hD hS dX3_copyFrom_82
set_option maxHeartbeats 4000000 in
set_option maxRecDepth 100000 in
theorem wX3_copyFrom_31_J41 {p : Program} {l : Launch} {e : Env} {s : State} {m : MethodId} {args : Array Value} {below : List Frame} {meth : Method} {c : Code} (C : cxt p s m args meth c cX3_copyFrom 7 RX3 wsX3_copyFrom (some .int)) {D : va_G} {cs : Nat → ClassId} {a : Nat → Nat} {sh : Nat → Option Nat} {LP : List Nat} {Z : ZT} (hZ : shOK sh LP Z) (hK : KK D cs s) {A : Nat → Prop} (hA : ∀ q, s.heap.size ≤ q → A q) (r : Int32) (u9 : Nat → Nat → Int32) (F : Nat) (kb : Int32 → (Nat → Nat → Int32) → Option (Int32 × (Nat → Nat → Int32))) (x2 : Int32) (x3 : Int32) (x4 : Int32) (x5 : Int32) (hkb : ∀ (x5 : Int32) (σ : Nat → Nat → Int32) (H : Heap) (locs : List Loc) (ls : Array Slot), va_P D vwCl (cW a cs sh LP Z σ) H → va_D A (cW a cs sh LP Z σ) → va_S A s.heap H locs → lv_has ls 7 [(0, .ref (a 14)), (1, .ref (a 27)), (2, .int x2), (3, .int x3), (4, .int x4), (5, .int x5)] → kb x5 σ = some (r, u9) → W p l e rmX3_copyFrom s m args below meth c H locs 0 0 (MQ below (va_Qi (fun x y => x = r ∧ y = u9) (qB D (cW a cs sh LP Z) A) A) args s 0 0 A) (F0 m 3 ls [])) (σ : Nat → Nat → Int32) (H : Heap) (locs : List Loc) (ls : Array Slot) (hP : va_P D vwCl (cW a cs sh LP Z σ) H) (hD : va_D A (cW a cs sh LP Z σ)) (hS : va_S A s.heap H locs) (hl : lv_has ls 7 [(0, .ref (a 14)), (1, .ref (a 27)), (2, .int x2), (3, .int x3), (4, .int x4), (5, .int x5)]) (h : fX3_copyFrom_J41 31 42 46 F sh Z kb x2 x3 x4 x5 σ = some (r, u9)) : W p l e rmX3_copyFrom s m args below meth c H locs 0 0 (MQ below (va_Qi (fun x y => x = r ∧ y = u9) (qB D (cW a cs sh LP Z) A) A) args s 0 0 A) (F0 m 41 ls []) := by
  obtain ⟨hx, hb, hml, hown, hts, hr, hlk⟩ := id C
  unfold fX3_copyFrom_J41 at h
  refine lv_iinc (v := x5 + (1 : Int32)) (lv' := [(5, .int (x5 + (1 : Int32))), (0, .ref (a 14)), (1, .ref (a 27)), (2, .int x2), (3, .int x3), (4, .int x4)]) hx hb dX3_copyFrom_41 hl (k := 5) rfl rfl (by decide) rfl (fun ls hl => ?_)
  refine lv_goto (tgt := 3) hx hb dX3_copyFrom_44 (by decide) ?_
  exact hkb (x5 + (1 : Int32)) σ _ _ ls hP hD hS (lv_sub hl [1, 2, 3, 4, 5, 0] rfl) h
set_option maxHeartbeats 4000000 in
set_option maxRecDepth 100000 in
theorem wX3_copyFrom_31_L3 {p : Program} {l : Launch} {e : Env} {s : State} {m : MethodId} {args : Array Value} {below : List Frame} {meth : Method} {c : Code} (C : cxt p s m args meth c cX3_copyFrom 7 RX3 wsX3_copyFrom (some .int)) {D : va_G} {cs : Nat → ClassId} {a : Nat → Nat} {sh : Nat → Option Nat} {LP : List Nat} {Z : ZT} (hZ : shOK sh LP Z) (hK : KK D cs s) {A : Nat → Prop} (hA : ∀ q, s.heap.size ≤ q → A q) (r : Int32) (u9 : Nat → Nat → Int32) (F : Nat) (x2 : Int32) (x3 : Int32) (x4 : Int32) (kx : (Nat → Nat → Int32) → Option (Int32 × (Nat → Nat → Int32))) (hkx : ∀ (σ : Nat → Nat → Int32) (H : Heap) (locs : List Loc) (ls : Array Slot), va_P D vwCl (cW a cs sh LP Z σ) H → va_D A (cW a cs sh LP Z σ) → va_S A s.heap H locs → lv_has ls 7 [(0, .ref (a 14)), (1, .ref (a 27)), (2, .int x2), (3, .int x3), (4, .int x4)] → kx σ = some (r, u9) → W p l e rmX3_copyFrom s m args below meth c H locs 0 0 (MQ below (va_Qi (fun x y => x = r ∧ y = u9) (qB D (cW a cs sh LP Z) A) A) args s 0 0 A) (F0 m 47 ls [])) : ∀ (n : Nat) (x5 : Int32) (σ : Nat → Nat → Int32) (H : Heap) (locs : List Loc) (ls : Array Slot), va_P D vwCl (cW a cs sh LP Z σ) H → va_D A (cW a cs sh LP Z σ) → va_S A s.heap H locs → lv_has ls 7 [(0, .ref (a 14)), (1, .ref (a 27)), (2, .int x2), (3, .int x3), (4, .int x4), (5, .int x5)] → fX3_copyFrom_L3 31 42 46 F sh Z x2 x3 x4 kx n x5 σ = some (r, u9) → W p l e rmX3_copyFrom s m args below meth c H locs 0 0 (MQ below (va_Qi (fun x y => x = r ∧ y = u9) (qB D (cW a cs sh LP Z) A) A) args s 0 0 A) (F0 m 3 ls []) := by
  obtain ⟨hx, hb, hml, hown, hts, hr, hlk⟩ := id C
  intro n
  induction n with
  | zero =>
    intros
    rename_i h
    cases h
  | succ n ih =>
    intro x5 σ H locs ls hP hD hS hl h
    rw [fX3_copyFrom_L3] at h
    obtain ⟨kb, hkb, h⟩ := nb_some (P := fun (kb : Int32 → (Nat → Nat → Int32) → Option (Int32 × (Nat → Nat → Int32))) => ∀ (x5 : Int32) (σ : Nat → Nat → Int32) (H : Heap) (locs : List Loc) (ls : Array Slot), va_P D vwCl (cW a cs sh LP Z σ) H → va_D A (cW a cs sh LP Z σ) → va_S A s.heap H locs → lv_has ls 7 [(0, .ref (a 14)), (1, .ref (a 27)), (2, .int x2), (3, .int x3), (4, .int x4), (5, .int x5)] → kb x5 σ = some (r, u9) → W p l e rmX3_copyFrom s m args below meth c H locs 0 0 (MQ below (va_Qi (fun x y => x = r ∧ y = u9) (qB D (cW a cs sh LP Z) A) A) args s 0 0 A) (F0 m 3 ls [])) h ih
    refine lv_iload hx hb dX3_copyFrom_3 (lv_at hl 5 rfl) ?_
    refine lv_iload hx hb dX3_copyFrom_5 (lv_at hl 4 rfl) ?_
    refine lv_icmp_ge (tgt := 47) hx hb dX3_copyFrom_7 (by decide) (fun c1 => ?_) (fun c1 => ?_)
    · have h := it_t c1 h
      exact hkx σ _ _ ls hP hD hS (lv_sub hl [0, 1, 2, 3, 4] rfl) h
    · have h := it_f c1 h
      refine lv_aload_n hx hb dX3_copyFrom_10 rfl (lv_at hl 1 rfl) ?_
      refine lv_iload_n hx hb dX3_copyFrom_11 rfl (lv_at hl 2 rfl) ?_
      refine lv_iload hx hb dX3_copyFrom_12 (lv_at hl 5 rfl) ?_
      refine lv_iadd hx hb dX3_copyFrom_14 ?_
      obtain ⟨v2, hc_v2, h⟩ := bd_some h
      refine mcallS (va_runV (As := [.int (x2 + x5)]) (rest := []) ⟨hx, hb, hml, hown, hts⟩ (kX7_read_31 l D cs a sh LP Z hZ σ (x2 + x5) v2 hc_v2) (cwV 1 hts gX3_copyFrom_X7_read rfl rfl rfl (by decide +kernel) ⟨Nat.le_of_ble_eq_true rfl, Nat.le_of_ble_eq_true rfl⟩) (pR_v hP hK (va_recv hK.1 hP (ci := 6) (q0 := 27) rfl rfl)) rfl rfl hl.1 rfl (lv_room (Nat.le_of_ble_eq_true rfl)) dX3_copyFrom_15 ⟨Nat.zero_le _, Nat.zero_le _⟩) ?_
      refine lv_istore (lv' := [(6, .int v2), (0, .ref (a 14)), (1, .ref (a 27)), (2, .int x2), (3, .int x3), (4, .int x4), (5, .int x5)]) hx hb dX3_copyFrom_18 hl (by decide) rfl (fun ls hl => ?_)
      refine lv_iload hx hb dX3_copyFrom_20 (lv_at hl 0 rfl) ?_
      refine lv_bipush (v := ((-5) : Int32)) hx hb dX3_copyFrom_22 (by decide) ?_
      refine lv_icmp_eq (tgt := 41) hx hb dX3_copyFrom_24 (by decide) (fun c3 => ?_) (fun c3 => ?_)
      · have h := it_t c3 h
        exact wX3_copyFrom_31_J41 C hZ hK hA r u9 F kb x2 x3 x4 x5 hkb σ _ _ ls hP hD hS (lv_sub hl [1, 2, 3, 4, 5, 6] rfl) h
      · have h := it_f c3 h
        refine lv_iload hx hb dX3_copyFrom_27 (lv_at hl 0 rfl) ?_
        refine lv_iconst (v := (0 : Int32)) hx hb dX3_copyFrom_29 (by decide) ?_
        refine lv_bipush (v := (9 : Int32)) hx hb dX3_copyFrom_30 (by decide) ?_
        obtain ⟨v4, hc_v4, h⟩ := bd_some h
        refine mcallSZ (va_runSN (As := [.int v2, .int (0 : Int32), .int (9 : Int32)]) (rest := []) ⟨hx, hb, hml, hown, hts⟩ (kX11_within l v2 (0 : Int32) (9 : Int32) v4 hc_v4) ⟨va_cnB (own := RX3) (host := "SandPalace") (index := 53) 3 hts gX3_copyFrom_X11_within_n53 rfl rfl rfl (hK.2.1 ("SandPalace$Photo", 53, yX11_within, "SandPalace") (by decide +kernel)) (hts (.initialized RX11) (by decide +kernel)) (by decide +kernel) ⟨Nat.le_of_ble_eq_true rfl, Nat.le_of_ble_eq_true rfl⟩, hts (.static yX11_within) (by decide +kernel), trivial⟩ p0_s rfl rfl hl.1 rfl (lv_room (Nat.le_of_ble_eq_true rfl)) dX3_copyFrom_32 ⟨Nat.zero_le _, Nat.zero_le _⟩) (fun z_v4 => ?_)
        refine lv_if_ne (tgt := 41) hx hb dX3_copyFrom_35 (by decide) (fun c5 => ?_) (fun c5 => ?_)
        · have h := it_t c5 h
          exact wX3_copyFrom_31_J41 C hZ hK hA r u9 F kb x2 x3 x4 x5 hkb σ _ _ ls hP hD hS (lv_sub hl [1, 2, 3, 4, 5, 6] rfl) h
        · have h := it_n c5 h
          refine lv_bipush (v := ((-2) : Int32)) hx hb dX3_copyFrom_38 (by decide) ?_
          exact mretQ hx hb hr hlk h hP hD hS dX3_copyFrom_40
set_option maxHeartbeats 4000000 in
set_option maxRecDepth 100000 in
theorem wX3_copyFrom_31_L50 {p : Program} {l : Launch} {e : Env} {s : State} {m : MethodId} {args : Array Value} {below : List Frame} {meth : Method} {c : Code} (C : cxt p s m args meth c cX3_copyFrom 7 RX3 wsX3_copyFrom (some .int)) {D : va_G} {cs : Nat → ClassId} {a : Nat → Nat} {sh : Nat → Option Nat} {LP : List Nat} {Z : ZT} (hZ : shOK sh LP Z) (hK : KK D cs s) {A : Nat → Prop} (hA : ∀ q, s.heap.size ≤ q → A q) (r : Int32) (u9 : Nat → Nat → Int32) (F : Nat) (x2 : Int32) (x3 : Int32) (x4 : Int32) (kx : (Nat → Nat → Int32) → Option (Int32 × (Nat → Nat → Int32))) (hkx : ∀ (σ : Nat → Nat → Int32) (H : Heap) (locs : List Loc) (ls : Array Slot), va_P D vwCl (cW a cs sh LP Z σ) H → va_D A (cW a cs sh LP Z σ) → va_S A s.heap H locs → lv_has ls 7 [(4, .int x4)] → kx σ = some (r, u9) → W p l e rmX3_copyFrom s m args below meth c H locs 0 0 (MQ below (va_Qi (fun x y => x = r ∧ y = u9) (qB D (cW a cs sh LP Z) A) A) args s 0 0 A) (F0 m 80 ls [])) : ∀ (n : Nat) (x5 : Int32) (σ : Nat → Nat → Int32) (H : Heap) (locs : List Loc) (ls : Array Slot), va_P D vwCl (cW a cs sh LP Z σ) H → va_D A (cW a cs sh LP Z σ) → va_S A s.heap H locs → lv_has ls 7 [(0, .ref (a 14)), (1, .ref (a 27)), (2, .int x2), (3, .int x3), (4, .int x4), (5, .int x5)] → fX3_copyFrom_L50 31 42 46 F sh Z x2 x3 x4 kx n x5 σ = some (r, u9) → W p l e rmX3_copyFrom s m args below meth c H locs 0 0 (MQ below (va_Qi (fun x y => x = r ∧ y = u9) (qB D (cW a cs sh LP Z) A) A) args s 0 0 A) (F0 m 50 ls []) := by
  obtain ⟨hx, hb, hml, hown, hts, hr, hlk⟩ := id C
  intro n
  induction n with
  | zero =>
    intros
    rename_i h
    cases h
  | succ n ih =>
    intro x5 σ H locs ls hP hD hS hl h
    rw [fX3_copyFrom_L50] at h
    obtain ⟨kb, hkb, h⟩ := nb_some (P := fun (kb : Int32 → (Nat → Nat → Int32) → Option (Int32 × (Nat → Nat → Int32))) => ∀ (x5 : Int32) (σ : Nat → Nat → Int32) (H : Heap) (locs : List Loc) (ls : Array Slot), va_P D vwCl (cW a cs sh LP Z σ) H → va_D A (cW a cs sh LP Z σ) → va_S A s.heap H locs → lv_has ls 7 [(0, .ref (a 14)), (1, .ref (a 27)), (2, .int x2), (3, .int x3), (4, .int x4), (5, .int x5)] → kb x5 σ = some (r, u9) → W p l e rmX3_copyFrom s m args below meth c H locs 0 0 (MQ below (va_Qi (fun x y => x = r ∧ y = u9) (qB D (cW a cs sh LP Z) A) A) args s 0 0 A) (F0 m 50 ls [])) h ih
    refine lv_iload hx hb dX3_copyFrom_50 (lv_at hl 5 rfl) ?_
    refine lv_iload hx hb dX3_copyFrom_52 (lv_at hl 4 rfl) ?_
    refine lv_icmp_ge (tgt := 80) hx hb dX3_copyFrom_54 (by decide) (fun c2 => ?_) (fun c2 => ?_)
    · have h := it_t c2 h
      exact hkx σ _ _ ls hP hD hS (lv_sub hl [4] rfl) h
    · have h := it_f c2 h
      refine lv_aload_n hx hb dX3_copyFrom_57 rfl (lv_at hl 0 rfl) ?_
      refine va_get (D := D) (ci := 3) (v := .ref (a 15)) (C := RX3) (T := TX3) (N := 2) hx hb hts inX3_X3_copyFrom hown hK.1 hP 14 rfl rfl 0 (by decide) (hts (.fieldLink RX3 9 "SandPalace$Photo" "colours" "[I") (by decide +kernel)) (fun _ h9 => h9) rfl dX3_copyFrom_58 ?_
      refine lv_iload_n hx hb dX3_copyFrom_61 rfl (lv_at hl 3 rfl) ?_
      refine lv_iload hx hb dX3_copyFrom_62 (lv_at hl 5 rfl) ?_
      refine lv_iadd hx hb dX3_copyFrom_64 ?_
      refine lv_aload_n hx hb dX3_copyFrom_65 rfl (lv_at hl 1 rfl) ?_
      refine lv_iload_n hx hb dX3_copyFrom_66 rfl (lv_at hl 2 rfl) ?_
      refine lv_iload hx hb dX3_copyFrom_67 (lv_at hl 5 rfl) ?_
      refine lv_iadd hx hb dX3_copyFrom_69 ?_
      obtain ⟨v3, hc_v3, h⟩ := bd_some h
      refine mcallS (va_runV (As := [.int (x2 + x5)]) (rest := [.int (x3 + x5), .ref (a 15)]) ⟨hx, hb, hml, hown, hts⟩ (kX7_read_31 l D cs a sh LP Z hZ σ (x2 + x5) v3 hc_v3) (cwV 1 hts gX3_copyFrom_X7_read rfl rfl rfl (by decide +kernel) ⟨Nat.le_of_ble_eq_true rfl, Nat.le_of_ble_eq_true rfl⟩) (pR_v hP hK (va_recv hK.1 hP (ci := 6) (q0 := 27) rfl rfl)) rfl rfl hl.1 rfl (lv_room (Nat.le_of_ble_eq_true rfl)) dX3_copyFrom_70 ⟨Nat.zero_le _, Nat.zero_le _⟩) ?_
      obtain ⟨i4, h⟩ := aS_some h
      refine va_iast hx hb hK.1 hP hD hS 15 0 rfl rfl i4 dX3_copyFrom_73 (fun H locs hP hD hS => ?_)
      obtain ⟨σ5, e_σ5, h⟩ := nm_some h
      have hP : va_P D vwCl (cW a cs sh LP Z σ5) H := by rw [← e_σ5]; exact hP
      have hD : va_D A (cW a cs sh LP Z σ5) := by rw [← e_σ5]; exact hD
      refine lv_iinc (v := x5 + (1 : Int32)) (lv' := [(5, .int (x5 + (1 : Int32))), (0, .ref (a 14)), (1, .ref (a 27)), (2, .int x2), (3, .int x3), (4, .int x4)]) hx hb dX3_copyFrom_74 hl (k := 5) rfl rfl (by decide) rfl (fun ls hl => ?_)
      refine lv_goto (tgt := 50) hx hb dX3_copyFrom_77 (by decide) ?_
      exact hkb (x5 + (1 : Int32)) σ5 _ _ ls hP hD hS (lv_sub hl [1, 2, 3, 4, 5, 0] rfl) h
set_option maxHeartbeats 4000000 in
set_option maxRecDepth 100000 in
theorem kX3_copyFrom_31 (l : Launch) (D : va_G) (cs : Nat → ClassId) (a : Nat → Nat) (sh : Nat → Option Nat) (LP : List Nat) (Z : ZT) (hZ : shOK sh LP Z) (σ : Nat → Nat → Int32) (F : Nat) (x2 : Int32) (x3 : Int32) (x4 : Int32) (r : Int32) (u9 : Nat → Nat → Int32) (h : fX3_copyFrom 31 42 46 F sh Z σ x2 x3 x4 = some (r, u9)) (sz : Nat) : Met l yX3_copyFrom wsX3_copyFrom rmX3_copyFrom (va_Pc [.ref (a 14), .ref (a 27), .int x2, .int x3, .int x4] (pQ D cs (cW a cs sh LP Z σ) sz)) (va_Qi (fun x y => x = r ∧ y = u9) (qB D (cW a cs sh LP Z) (va_A (cW a cs sh LP Z σ) sz)) (va_A (cW a cs sh LP Z σ) sz)) 0 0 (va_A (cW a cs sh LP Z σ) sz) := by
  refine Met.ofW (cc := cX3_copyFrom) (maxL := 7) (ret := (some .int)) (by decide) rfl ?_
  intro p e s m args below meth c s₁ B hml hv
  obtain ⟨rfl, hsz, hP, hK, hD0⟩ := hv
  have C : cxt p s m _ meth c cX3_copyFrom 7 RX3 wsX3_copyFrom (some .int) := ⟨B.exec, B.bytes, hml, findClass_of_methodNamed B.named, atoms_spec (ws := wsX3_copyFrom) B.pre, B.returns, B.notSynchronized⟩
  obtain ⟨hx, hb, -, hown, hts, hr, hlk⟩ := id C
  subst hsz
  have hD := hD0.self (sz := s.heap.size)
  generalize hAe : va_A (cW a cs sh LP Z σ) s.heap.size = A at hD ⊢
  have hA : ∀ q : Nat, s.heap.size ≤ q → A q := fun q h => by rw [← hAe]; exact Or.inr h
  have hS : va_S A s.heap s.heap [] := va_S.rf
  refine entryW [.ref (a 14), .ref (a 27), .int x2, .int x3, .int x4] (n := 7) (Nat.le_of_ble_eq_true rfl) (fun ls hl => ?_)
  have hl : lv_has ls 7 [(0, .ref (a 14)), (1, .ref (a 27)), (2, .int x2), (3, .int x3), (4, .int x4)] := hl
  unfold fX3_copyFrom at h
  refine lv_iconst (v := (0 : Int32)) hx hb dX3_copyFrom_0 (by decide) ?_
  refine lv_istore (lv' := [(5, .int (0 : Int32)), (0, .ref (a 14)), (1, .ref (a 27)), (2, .int x2), (3, .int x3), (4, .int x4)]) hx hb dX3_copyFrom_1 hl (by decide) rfl (fun ls hl => ?_)
  refine wX3_copyFrom_31_L3 C hZ hK hA r u9 F x2 x3 x4 _ ?_ F (0 : Int32) σ _ _ ls hP hD hS (lv_sub hl [1, 2, 3, 4, 5, 0] rfl) h
  intro σ1 H locs ls hP hD hS hl h
  refine lv_iconst (v := (0 : Int32)) hx hb dX3_copyFrom_47 (by decide) ?_
  refine lv_istore (lv' := [(5, .int (0 : Int32)), (0, .ref (a 14)), (1, .ref (a 27)), (2, .int x2), (3, .int x3), (4, .int x4)]) hx hb dX3_copyFrom_48 hl (by decide) rfl (fun ls hl => ?_)
  refine wX3_copyFrom_31_L50 C hZ hK hA r u9 F x2 x3 x4 _ ?_ F (0 : Int32) σ1 _ _ ls hP hD hS (lv_sub hl [1, 2, 3, 4, 5, 0] rfl) h
  intro σ2 H locs ls hP hD hS hl h
  refine lv_iload hx hb dX3_copyFrom_80 (lv_at hl 0 rfl) ?_
  exact mretQ hx hb hr hlk h hP hD hS dX3_copyFrom_82
set_option maxHeartbeats 4000000 in
set_option maxRecDepth 100000 in
theorem wX3_copyFrom_32_J41 {p : Program} {l : Launch} {e : Env} {s : State} {m : MethodId} {args : Array Value} {below : List Frame} {meth : Method} {c : Code} (C : cxt p s m args meth c cX3_copyFrom 7 RX3 wsX3_copyFrom (some .int)) {D : va_G} {cs : Nat → ClassId} {a : Nat → Nat} {sh : Nat → Option Nat} {LP : List Nat} {Z : ZT} (hZ : shOK sh LP Z) (hK : KK D cs s) {A : Nat → Prop} (hA : ∀ q, s.heap.size ≤ q → A q) (r : Int32) (u9 : Nat → Nat → Int32) (F : Nat) (kb : Int32 → (Nat → Nat → Int32) → Option (Int32 × (Nat → Nat → Int32))) (x2 : Int32) (x3 : Int32) (x4 : Int32) (x5 : Int32) (hkb : ∀ (x5 : Int32) (σ : Nat → Nat → Int32) (H : Heap) (locs : List Loc) (ls : Array Slot), va_P D vwCl (cW a cs sh LP Z σ) H → va_D A (cW a cs sh LP Z σ) → va_S A s.heap H locs → lv_has ls 7 [(0, .ref (a 14)), (1, .ref (a 28)), (2, .int x2), (3, .int x3), (4, .int x4), (5, .int x5)] → kb x5 σ = some (r, u9) → W p l e rmX3_copyFrom s m args below meth c H locs 0 0 (MQ below (va_Qi (fun x y => x = r ∧ y = u9) (qB D (cW a cs sh LP Z) A) A) args s 0 0 A) (F0 m 3 ls [])) (σ : Nat → Nat → Int32) (H : Heap) (locs : List Loc) (ls : Array Slot) (hP : va_P D vwCl (cW a cs sh LP Z σ) H) (hD : va_D A (cW a cs sh LP Z σ)) (hS : va_S A s.heap H locs) (hl : lv_has ls 7 [(0, .ref (a 14)), (1, .ref (a 28)), (2, .int x2), (3, .int x3), (4, .int x4), (5, .int x5)]) (h : fX3_copyFrom_J41 32 43 47 F sh Z kb x2 x3 x4 x5 σ = some (r, u9)) : W p l e rmX3_copyFrom s m args below meth c H locs 0 0 (MQ below (va_Qi (fun x y => x = r ∧ y = u9) (qB D (cW a cs sh LP Z) A) A) args s 0 0 A) (F0 m 41 ls []) := by
  obtain ⟨hx, hb, hml, hown, hts, hr, hlk⟩ := id C
  unfold fX3_copyFrom_J41 at h
  refine lv_iinc (v := x5 + (1 : Int32)) (lv' := [(5, .int (x5 + (1 : Int32))), (0, .ref (a 14)), (1, .ref (a 28)), (2, .int x2), (3, .int x3), (4, .int x4)]) hx hb dX3_copyFrom_41 hl (k := 5) rfl rfl (by decide) rfl (fun ls hl => ?_)
  refine lv_goto (tgt := 3) hx hb dX3_copyFrom_44 (by decide) ?_
  exact hkb (x5 + (1 : Int32)) σ _ _ ls hP hD hS (lv_sub hl [1, 2, 3, 4, 5, 0] rfl) h
set_option maxHeartbeats 4000000 in
set_option maxRecDepth 100000 in
theorem wX3_copyFrom_32_L3 {p : Program} {l : Launch} {e : Env} {s : State} {m : MethodId} {args : Array Value} {below : List Frame} {meth : Method} {c : Code} (C : cxt p s m args meth c cX3_copyFrom 7 RX3 wsX3_copyFrom (some .int)) {D : va_G} {cs : Nat → ClassId} {a : Nat → Nat} {sh : Nat → Option Nat} {LP : List Nat} {Z : ZT} (hZ : shOK sh LP Z) (hK : KK D cs s) {A : Nat → Prop} (hA : ∀ q, s.heap.size ≤ q → A q) (r : Int32) (u9 : Nat → Nat → Int32) (F : Nat) (x2 : Int32) (x3 : Int32) (x4 : Int32) (kx : (Nat → Nat → Int32) → Option (Int32 × (Nat → Nat → Int32))) (hkx : ∀ (σ : Nat → Nat → Int32) (H : Heap) (locs : List Loc) (ls : Array Slot), va_P D vwCl (cW a cs sh LP Z σ) H → va_D A (cW a cs sh LP Z σ) → va_S A s.heap H locs → lv_has ls 7 [(0, .ref (a 14)), (1, .ref (a 28)), (2, .int x2), (3, .int x3), (4, .int x4)] → kx σ = some (r, u9) → W p l e rmX3_copyFrom s m args below meth c H locs 0 0 (MQ below (va_Qi (fun x y => x = r ∧ y = u9) (qB D (cW a cs sh LP Z) A) A) args s 0 0 A) (F0 m 47 ls [])) : ∀ (n : Nat) (x5 : Int32) (σ : Nat → Nat → Int32) (H : Heap) (locs : List Loc) (ls : Array Slot), va_P D vwCl (cW a cs sh LP Z σ) H → va_D A (cW a cs sh LP Z σ) → va_S A s.heap H locs → lv_has ls 7 [(0, .ref (a 14)), (1, .ref (a 28)), (2, .int x2), (3, .int x3), (4, .int x4), (5, .int x5)] → fX3_copyFrom_L3 32 43 47 F sh Z x2 x3 x4 kx n x5 σ = some (r, u9) → W p l e rmX3_copyFrom s m args below meth c H locs 0 0 (MQ below (va_Qi (fun x y => x = r ∧ y = u9) (qB D (cW a cs sh LP Z) A) A) args s 0 0 A) (F0 m 3 ls []) := by
  obtain ⟨hx, hb, hml, hown, hts, hr, hlk⟩ := id C
  intro n
  induction n with
  | zero =>
    intros
    rename_i h
    cases h
  | succ n ih =>
    intro x5 σ H locs ls hP hD hS hl h
    rw [fX3_copyFrom_L3] at h
    obtain ⟨kb, hkb, h⟩ := nb_some (P := fun (kb : Int32 → (Nat → Nat → Int32) → Option (Int32 × (Nat → Nat → Int32))) => ∀ (x5 : Int32) (σ : Nat → Nat → Int32) (H : Heap) (locs : List Loc) (ls : Array Slot), va_P D vwCl (cW a cs sh LP Z σ) H → va_D A (cW a cs sh LP Z σ) → va_S A s.heap H locs → lv_has ls 7 [(0, .ref (a 14)), (1, .ref (a 28)), (2, .int x2), (3, .int x3), (4, .int x4), (5, .int x5)] → kb x5 σ = some (r, u9) → W p l e rmX3_copyFrom s m args below meth c H locs 0 0 (MQ below (va_Qi (fun x y => x = r ∧ y = u9) (qB D (cW a cs sh LP Z) A) A) args s 0 0 A) (F0 m 3 ls [])) h ih
    refine lv_iload hx hb dX3_copyFrom_3 (lv_at hl 5 rfl) ?_
    refine lv_iload hx hb dX3_copyFrom_5 (lv_at hl 4 rfl) ?_
    refine lv_icmp_ge (tgt := 47) hx hb dX3_copyFrom_7 (by decide) (fun c1 => ?_) (fun c1 => ?_)
    · have h := it_t c1 h
      exact hkx σ _ _ ls hP hD hS (lv_sub hl [0, 1, 2, 3, 4] rfl) h
    · have h := it_f c1 h
      refine lv_aload_n hx hb dX3_copyFrom_10 rfl (lv_at hl 1 rfl) ?_
      refine lv_iload_n hx hb dX3_copyFrom_11 rfl (lv_at hl 2 rfl) ?_
      refine lv_iload hx hb dX3_copyFrom_12 (lv_at hl 5 rfl) ?_
      refine lv_iadd hx hb dX3_copyFrom_14 ?_
      obtain ⟨v2, hc_v2, h⟩ := bd_some h
      refine mcallS (va_runV (As := [.int (x2 + x5)]) (rest := []) ⟨hx, hb, hml, hown, hts⟩ (kX7_read_32 l D cs a sh LP Z hZ σ (x2 + x5) v2 hc_v2) (cwV 1 hts gX3_copyFrom_X7_read rfl rfl rfl (by decide +kernel) ⟨Nat.le_of_ble_eq_true rfl, Nat.le_of_ble_eq_true rfl⟩) (pR_v hP hK (va_recv hK.1 hP (ci := 6) (q0 := 28) rfl rfl)) rfl rfl hl.1 rfl (lv_room (Nat.le_of_ble_eq_true rfl)) dX3_copyFrom_15 ⟨Nat.zero_le _, Nat.zero_le _⟩) ?_
      refine lv_istore (lv' := [(6, .int v2), (0, .ref (a 14)), (1, .ref (a 28)), (2, .int x2), (3, .int x3), (4, .int x4), (5, .int x5)]) hx hb dX3_copyFrom_18 hl (by decide) rfl (fun ls hl => ?_)
      refine lv_iload hx hb dX3_copyFrom_20 (lv_at hl 0 rfl) ?_
      refine lv_bipush (v := ((-5) : Int32)) hx hb dX3_copyFrom_22 (by decide) ?_
      refine lv_icmp_eq (tgt := 41) hx hb dX3_copyFrom_24 (by decide) (fun c3 => ?_) (fun c3 => ?_)
      · have h := it_t c3 h
        exact wX3_copyFrom_32_J41 C hZ hK hA r u9 F kb x2 x3 x4 x5 hkb σ _ _ ls hP hD hS (lv_sub hl [1, 2, 3, 4, 5, 6] rfl) h
      · have h := it_f c3 h
        refine lv_iload hx hb dX3_copyFrom_27 (lv_at hl 0 rfl) ?_
        refine lv_iconst (v := (0 : Int32)) hx hb dX3_copyFrom_29 (by decide) ?_
        refine lv_bipush (v := (9 : Int32)) hx hb dX3_copyFrom_30 (by decide) ?_
        obtain ⟨v4, hc_v4, h⟩ := bd_some h
        refine mcallSZ (va_runSN (As := [.int v2, .int (0 : Int32), .int (9 : Int32)]) (rest := []) ⟨hx, hb, hml, hown, hts⟩ (kX11_within l v2 (0 : Int32) (9 : Int32) v4 hc_v4) ⟨va_cnB (own := RX3) (host := "SandPalace") (index := 53) 3 hts gX3_copyFrom_X11_within_n53 rfl rfl rfl (hK.2.1 ("SandPalace$Photo", 53, yX11_within, "SandPalace") (by decide +kernel)) (hts (.initialized RX11) (by decide +kernel)) (by decide +kernel) ⟨Nat.le_of_ble_eq_true rfl, Nat.le_of_ble_eq_true rfl⟩, hts (.static yX11_within) (by decide +kernel), trivial⟩ p0_s rfl rfl hl.1 rfl (lv_room (Nat.le_of_ble_eq_true rfl)) dX3_copyFrom_32 ⟨Nat.zero_le _, Nat.zero_le _⟩) (fun z_v4 => ?_)
        refine lv_if_ne (tgt := 41) hx hb dX3_copyFrom_35 (by decide) (fun c5 => ?_) (fun c5 => ?_)
        · have h := it_t c5 h
          exact wX3_copyFrom_32_J41 C hZ hK hA r u9 F kb x2 x3 x4 x5 hkb σ _ _ ls hP hD hS (lv_sub hl [1, 2, 3, 4, 5, 6] rfl) h
        · have h := it_n c5 h
          refine lv_bipush (v := ((-2) : Int32)) hx hb dX3_copyFrom_38 (by decide) ?_
          exact mretQ hx hb hr hlk h hP hD hS dX3_copyFrom_40
set_option maxHeartbeats 4000000 in
set_option maxRecDepth 100000 in
theorem wX3_copyFrom_32_L50 {p : Program} {l : Launch} {e : Env} {s : State} {m : MethodId} {args : Array Value} {below : List Frame} {meth : Method} {c : Code} (C : cxt p s m args meth c cX3_copyFrom 7 RX3 wsX3_copyFrom (some .int)) {D : va_G} {cs : Nat → ClassId} {a : Nat → Nat} {sh : Nat → Option Nat} {LP : List Nat} {Z : ZT} (hZ : shOK sh LP Z) (hK : KK D cs s) {A : Nat → Prop} (hA : ∀ q, s.heap.size ≤ q → A q) (r : Int32) (u9 : Nat → Nat → Int32) (F : Nat) (x2 : Int32) (x3 : Int32) (x4 : Int32) (kx : (Nat → Nat → Int32) → Option (Int32 × (Nat → Nat → Int32))) (hkx : ∀ (σ : Nat → Nat → Int32) (H : Heap) (locs : List Loc) (ls : Array Slot), va_P D vwCl (cW a cs sh LP Z σ) H → va_D A (cW a cs sh LP Z σ) → va_S A s.heap H locs → lv_has ls 7 [(4, .int x4)] → kx σ = some (r, u9) → W p l e rmX3_copyFrom s m args below meth c H locs 0 0 (MQ below (va_Qi (fun x y => x = r ∧ y = u9) (qB D (cW a cs sh LP Z) A) A) args s 0 0 A) (F0 m 80 ls [])) : ∀ (n : Nat) (x5 : Int32) (σ : Nat → Nat → Int32) (H : Heap) (locs : List Loc) (ls : Array Slot), va_P D vwCl (cW a cs sh LP Z σ) H → va_D A (cW a cs sh LP Z σ) → va_S A s.heap H locs → lv_has ls 7 [(0, .ref (a 14)), (1, .ref (a 28)), (2, .int x2), (3, .int x3), (4, .int x4), (5, .int x5)] → fX3_copyFrom_L50 32 43 47 F sh Z x2 x3 x4 kx n x5 σ = some (r, u9) → W p l e rmX3_copyFrom s m args below meth c H locs 0 0 (MQ below (va_Qi (fun x y => x = r ∧ y = u9) (qB D (cW a cs sh LP Z) A) A) args s 0 0 A) (F0 m 50 ls []) := by
  obtain ⟨hx, hb, hml, hown, hts, hr, hlk⟩ := id C
  intro n
  induction n with
  | zero =>
    intros
    rename_i h
    cases h
  | succ n ih =>
    intro x5 σ H locs ls hP hD hS hl h
    rw [fX3_copyFrom_L50] at h
    obtain ⟨kb, hkb, h⟩ := nb_some (P := fun (kb : Int32 → (Nat → Nat → Int32) → Option (Int32 × (Nat → Nat → Int32))) => ∀ (x5 : Int32) (σ : Nat → Nat → Int32) (H : Heap) (locs : List Loc) (ls : Array Slot), va_P D vwCl (cW a cs sh LP Z σ) H → va_D A (cW a cs sh LP Z σ) → va_S A s.heap H locs → lv_has ls 7 [(0, .ref (a 14)), (1, .ref (a 28)), (2, .int x2), (3, .int x3), (4, .int x4), (5, .int x5)] → kb x5 σ = some (r, u9) → W p l e rmX3_copyFrom s m args below meth c H locs 0 0 (MQ below (va_Qi (fun x y => x = r ∧ y = u9) (qB D (cW a cs sh LP Z) A) A) args s 0 0 A) (F0 m 50 ls [])) h ih
    refine lv_iload hx hb dX3_copyFrom_50 (lv_at hl 5 rfl) ?_
    refine lv_iload hx hb dX3_copyFrom_52 (lv_at hl 4 rfl) ?_
    refine lv_icmp_ge (tgt := 80) hx hb dX3_copyFrom_54 (by decide) (fun c2 => ?_) (fun c2 => ?_)
    · have h := it_t c2 h
      exact hkx σ _ _ ls hP hD hS (lv_sub hl [4] rfl) h
    · have h := it_f c2 h
      refine lv_aload_n hx hb dX3_copyFrom_57 rfl (lv_at hl 0 rfl) ?_
      refine va_get (D := D) (ci := 3) (v := .ref (a 15)) (C := RX3) (T := TX3) (N := 2) hx hb hts inX3_X3_copyFrom hown hK.1 hP 14 rfl rfl 0 (by decide) (hts (.fieldLink RX3 9 "SandPalace$Photo" "colours" "[I") (by decide +kernel)) (fun _ h9 => h9) rfl dX3_copyFrom_58 ?_
      refine lv_iload_n hx hb dX3_copyFrom_61 rfl (lv_at hl 3 rfl) ?_
      refine lv_iload hx hb dX3_copyFrom_62 (lv_at hl 5 rfl) ?_
      refine lv_iadd hx hb dX3_copyFrom_64 ?_
      refine lv_aload_n hx hb dX3_copyFrom_65 rfl (lv_at hl 1 rfl) ?_
      refine lv_iload_n hx hb dX3_copyFrom_66 rfl (lv_at hl 2 rfl) ?_
      refine lv_iload hx hb dX3_copyFrom_67 (lv_at hl 5 rfl) ?_
      refine lv_iadd hx hb dX3_copyFrom_69 ?_
      obtain ⟨v3, hc_v3, h⟩ := bd_some h
      refine mcallS (va_runV (As := [.int (x2 + x5)]) (rest := [.int (x3 + x5), .ref (a 15)]) ⟨hx, hb, hml, hown, hts⟩ (kX7_read_32 l D cs a sh LP Z hZ σ (x2 + x5) v3 hc_v3) (cwV 1 hts gX3_copyFrom_X7_read rfl rfl rfl (by decide +kernel) ⟨Nat.le_of_ble_eq_true rfl, Nat.le_of_ble_eq_true rfl⟩) (pR_v hP hK (va_recv hK.1 hP (ci := 6) (q0 := 28) rfl rfl)) rfl rfl hl.1 rfl (lv_room (Nat.le_of_ble_eq_true rfl)) dX3_copyFrom_70 ⟨Nat.zero_le _, Nat.zero_le _⟩) ?_
      obtain ⟨i4, h⟩ := aS_some h
      refine va_iast hx hb hK.1 hP hD hS 15 0 rfl rfl i4 dX3_copyFrom_73 (fun H locs hP hD hS => ?_)
      obtain ⟨σ5, e_σ5, h⟩ := nm_some h
      have hP : va_P D vwCl (cW a cs sh LP Z σ5) H := by rw [← e_σ5]; exact hP
      have hD : va_D A (cW a cs sh LP Z σ5) := by rw [← e_σ5]; exact hD
      refine lv_iinc (v := x5 + (1 : Int32)) (lv' := [(5, .int (x5 + (1 : Int32))), (0, .ref (a 14)), (1, .ref (a 28)), (2, .int x2), (3, .int x3), (4, .int x4)]) hx hb dX3_copyFrom_74 hl (k := 5) rfl rfl (by decide) rfl (fun ls hl => ?_)
      refine lv_goto (tgt := 50) hx hb dX3_copyFrom_77 (by decide) ?_
      exact hkb (x5 + (1 : Int32)) σ5 _ _ ls hP hD hS (lv_sub hl [1, 2, 3, 4, 5, 0] rfl) h
set_option maxHeartbeats 4000000 in
set_option maxRecDepth 100000 in
theorem kX3_copyFrom_32 (l : Launch) (D : va_G) (cs : Nat → ClassId) (a : Nat → Nat) (sh : Nat → Option Nat) (LP : List Nat) (Z : ZT) (hZ : shOK sh LP Z) (σ : Nat → Nat → Int32) (F : Nat) (x2 : Int32) (x3 : Int32) (x4 : Int32) (r : Int32) (u9 : Nat → Nat → Int32) (h : fX3_copyFrom 32 43 47 F sh Z σ x2 x3 x4 = some (r, u9)) (sz : Nat) : Met l yX3_copyFrom wsX3_copyFrom rmX3_copyFrom (va_Pc [.ref (a 14), .ref (a 28), .int x2, .int x3, .int x4] (pQ D cs (cW a cs sh LP Z σ) sz)) (va_Qi (fun x y => x = r ∧ y = u9) (qB D (cW a cs sh LP Z) (va_A (cW a cs sh LP Z σ) sz)) (va_A (cW a cs sh LP Z σ) sz)) 0 0 (va_A (cW a cs sh LP Z σ) sz) := by
  refine Met.ofW (cc := cX3_copyFrom) (maxL := 7) (ret := (some .int)) (by decide) rfl ?_
  intro p e s m args below meth c s₁ B hml hv
  obtain ⟨rfl, hsz, hP, hK, hD0⟩ := hv
  have C : cxt p s m _ meth c cX3_copyFrom 7 RX3 wsX3_copyFrom (some .int) := ⟨B.exec, B.bytes, hml, findClass_of_methodNamed B.named, atoms_spec (ws := wsX3_copyFrom) B.pre, B.returns, B.notSynchronized⟩
  obtain ⟨hx, hb, -, hown, hts, hr, hlk⟩ := id C
  subst hsz
  have hD := hD0.self (sz := s.heap.size)
  generalize hAe : va_A (cW a cs sh LP Z σ) s.heap.size = A at hD ⊢
  have hA : ∀ q : Nat, s.heap.size ≤ q → A q := fun q h => by rw [← hAe]; exact Or.inr h
  have hS : va_S A s.heap s.heap [] := va_S.rf
  refine entryW [.ref (a 14), .ref (a 28), .int x2, .int x3, .int x4] (n := 7) (Nat.le_of_ble_eq_true rfl) (fun ls hl => ?_)
  have hl : lv_has ls 7 [(0, .ref (a 14)), (1, .ref (a 28)), (2, .int x2), (3, .int x3), (4, .int x4)] := hl
  unfold fX3_copyFrom at h
  refine lv_iconst (v := (0 : Int32)) hx hb dX3_copyFrom_0 (by decide) ?_
  refine lv_istore (lv' := [(5, .int (0 : Int32)), (0, .ref (a 14)), (1, .ref (a 28)), (2, .int x2), (3, .int x3), (4, .int x4)]) hx hb dX3_copyFrom_1 hl (by decide) rfl (fun ls hl => ?_)
  refine wX3_copyFrom_32_L3 C hZ hK hA r u9 F x2 x3 x4 _ ?_ F (0 : Int32) σ _ _ ls hP hD hS (lv_sub hl [1, 2, 3, 4, 5, 0] rfl) h
  intro σ1 H locs ls hP hD hS hl h
  refine lv_iconst (v := (0 : Int32)) hx hb dX3_copyFrom_47 (by decide) ?_
  refine lv_istore (lv' := [(5, .int (0 : Int32)), (0, .ref (a 14)), (1, .ref (a 28)), (2, .int x2), (3, .int x3), (4, .int x4)]) hx hb dX3_copyFrom_48 hl (by decide) rfl (fun ls hl => ?_)
  refine wX3_copyFrom_32_L50 C hZ hK hA r u9 F x2 x3 x4 _ ?_ F (0 : Int32) σ1 _ _ ls hP hD hS (lv_sub hl [1, 2, 3, 4, 5, 0] rfl) h
  intro σ2 H locs ls hP hD hS hl h
  refine lv_iload hx hb dX3_copyFrom_80 (lv_at hl 0 rfl) ?_
  exact mretQ hx hb hr hlk h hP hD hS dX3_copyFrom_82
def fX4_shapesTold (sh : Nat → Option Nat) (Z : ZT) (σ : Nat → Nat → Int32)  : Option Int32 :=
  some (σ 33 0)
abbrev rmX4_shapesTold : Room := { frames := 0, cells := 0, slots := 0, locals := 0 }
theorem inX4_X4_shapesTold : ∀ w ∈ wsX40, w ∈ wsX4_shapesTold := by intro w h; simp only [wsX4_shapesTold, List.mem_cons, List.mem_append]; simp only [h, true_or, or_true]
set_option maxHeartbeats 4000000 in
set_option maxRecDepth 100000 in
theorem kX4_shapesTold (l : Launch) (D : va_G) (cs : Nat → ClassId) (a : Nat → Nat) (sh : Nat → Option Nat) (LP : List Nat) (Z : ZT) (hZ : shOK sh LP Z) (σ : Nat → Nat → Int32)  (r : Int32) (h : fX4_shapesTold sh Z σ = some r) : Met l yX4_shapesTold wsX4_shapesTold rmX4_shapesTold (va_Pc [.ref (a 1)] (pR D cs (cW a cs sh LP Z σ))) (vp_Si (fun x => x = r)) 0 0 (fun _ => False) := by
  refine Met.ofW (cc := cX4_shapesTold) (maxL := 1) (ret := (some .int)) (by decide) rfl ?_
  intro p e s m args below meth c s₁ B hml hv
  obtain ⟨rfl, hP, hK⟩ := hv
  have C : cxt p s m _ meth c cX4_shapesTold 1 RX4 wsX4_shapesTold (some .int) := ⟨B.exec, B.bytes, hml, findClass_of_methodNamed B.named, atoms_spec (ws := wsX4_shapesTold) B.pre, B.returns, B.notSynchronized⟩
  obtain ⟨hx, hb, -, hown, hts, hr, hlk⟩ := id C
  refine entryW [.ref (a 1)] (n := 1) (Nat.le_of_ble_eq_true rfl) (fun ls hl => ?_)
  have hl : lv_has ls 1 [(0, .ref (a 1))] := hl
  unfold fX4_shapesTold at h
  refine lv_aload_n hx hb dX4_shapesTold_0 rfl (lv_at hl 0 rfl) ?_
  refine va_get (D := D) (ci := 4) (v := .int (σ 33 0)) (C := RX4) (T := TX4) (N := 3) hx hb hts inX4_X4_shapesTold hown hK.1 hP 1 rfl rfl 2 (by decide) (hts (.fieldLink RX4 21 "SandPalace$Picture" "size" "I") (by decide +kernel)) (fun _ h9 => h9) rfl dX4_shapesTold_1 ?_
  exact mretS hx hb hr hlk h dX4_shapesTold_4
def fX4_shapeOf (sh : Nat → Option Nat) (Z : ZT) (σ : Nat → Nat → Int32) (x1 : Int32) : Option (Option Nat) :=
  bd (fX11_within x1 (0 : Int32) ((σ 33 0) - (1 : Int32))) fun v1 => if v1 = 0 then (some none) else (aOo sh 10 x1 fun q3 => some q3)
abbrev rmX4_shapeOf : Room := { frames := 1, cells := 0, slots := 0, locals := 22 }
theorem inX4_X4_shapeOf : ∀ w ∈ wsX40, w ∈ wsX4_shapeOf := by intro w h; simp only [wsX4_shapeOf, List.mem_cons, List.mem_append]; simp only [h, true_or, or_true]
set_option maxHeartbeats 4000000 in
set_option maxRecDepth 100000 in
theorem kX4_shapeOf (l : Launch) (D : va_G) (cs : Nat → ClassId) (a : Nat → Nat) (sh : Nat → Option Nat) (LP : List Nat) (Z : ZT) (hZ : shOK sh LP Z) (σ : Nat → Nat → Int32) (x1 : Int32) (r : Option Nat) (h : fX4_shapeOf sh Z σ x1 = some r) : Met l yX4_shapeOf wsX4_shapeOf rmX4_shapeOf (va_Pc [.ref (a 1), .int x1] (pR D cs (cW a cs sh LP Z σ))) (va_Sq (fun x => x = r)) 0 0 (fun _ => False) := by
  refine Met.ofW (cc := cX4_shapeOf) (maxL := 2) (ret := (some (.object "SandPalace$Shape"))) (by decide) rfl ?_
  intro p e s m args below meth c s₁ B hml hv
  obtain ⟨rfl, hP, hK⟩ := hv
  have C : cxt p s m _ meth c cX4_shapeOf 2 RX4 wsX4_shapeOf (some (.object "SandPalace$Shape")) := ⟨B.exec, B.bytes, hml, findClass_of_methodNamed B.named, atoms_spec (ws := wsX4_shapeOf) B.pre, B.returns, B.notSynchronized⟩
  obtain ⟨hx, hb, -, hown, hts, hr, hlk⟩ := id C
  refine entryW [.ref (a 1), .int x1] (n := 2) (Nat.le_of_ble_eq_true rfl) (fun ls hl => ?_)
  have hl : lv_has ls 2 [(0, .ref (a 1)), (1, .int x1)] := hl
  unfold fX4_shapeOf at h
  refine lv_iload_n hx hb dX4_shapeOf_0 rfl (lv_at hl 1 rfl) ?_
  refine lv_iconst (v := (0 : Int32)) hx hb dX4_shapeOf_1 (by decide) ?_
  refine lv_aload_n hx hb dX4_shapeOf_2 rfl (lv_at hl 0 rfl) ?_
  refine va_get (D := D) (ci := 4) (v := .int (σ 33 0)) (C := RX4) (T := TX4) (N := 3) hx hb hts inX4_X4_shapeOf hown hK.1 hP 1 rfl rfl 2 (by decide) (hts (.fieldLink RX4 21 "SandPalace$Picture" "size" "I") (by decide +kernel)) (fun _ h9 => h9) rfl dX4_shapeOf_3 ?_
  refine lv_iconst (v := (1 : Int32)) hx hb dX4_shapeOf_6 (by decide) ?_
  refine lv_isub hx hb dX4_shapeOf_7 ?_
  obtain ⟨v1, hc_v1, h⟩ := bd_some h
  refine mcallSZ (va_runSN (As := [.int x1, .int (0 : Int32), .int ((σ 33 0) - (1 : Int32))]) (rest := []) ⟨hx, hb, hml, hown, hts⟩ (kX11_within l x1 (0 : Int32) ((σ 33 0) - (1 : Int32)) v1 hc_v1) ⟨va_cnB (own := RX4) (host := "SandPalace") (index := 25) 3 hts gX4_shapeOf_X11_within_n25 rfl rfl rfl (hK.2.1 ("SandPalace$Picture", 25, yX11_within, "SandPalace") (by decide +kernel)) (hts (.initialized RX11) (by decide +kernel)) (by decide +kernel) ⟨Nat.le_of_ble_eq_true rfl, Nat.le_of_ble_eq_true rfl⟩, hts (.static yX11_within) (by decide +kernel), trivial⟩ p0_s rfl rfl hl.1 rfl (lv_room (Nat.le_of_ble_eq_true rfl)) dX4_shapeOf_8 ⟨Nat.zero_le _, Nat.zero_le _⟩) (fun z_v1 => ?_)
  refine lv_if_eq (tgt := 23) hx hb dX4_shapeOf_11 (by decide) (fun c2 => ?_) (fun c2 => ?_)
  · have h := it_t c2 h
    refine lv_null hx hb dX4_shapeOf_23 ?_
    exact mretSR (o := none) hx hb hr hlk h dX4_shapeOf_24
  · have h := it_f c2 h
    refine lv_aload_n hx hb dX4_shapeOf_14 rfl (lv_at hl 0 rfl) ?_
    refine va_get (D := D) (ci := 4) (v := .ref (a 2)) (C := RX4) (T := TX4) (N := 3) hx hb hts inX4_X4_shapeOf hown hK.1 hP 1 rfl rfl 0 (by decide) (hts (.fieldLink RX4 11 "SandPalace$Picture" "shapes" "[LSandPalace$Shape;") (by decide +kernel)) (fun _ h9 => h9) rfl dX4_shapeOf_15 ?_
    refine lv_iload_n hx hb dX4_shapeOf_18 rfl (lv_at hl 1 rfl) ?_
    obtain ⟨q3, i_q3, e_q3, h⟩ := aOo_some h
    refine msald0 hx hb hK.1 hP 2 2 rfl rfl i_q3 e_q3 dX4_shapeOf_19 ?_
    refine lv_goto (tgt := 24) hx hb dX4_shapeOf_20 (by decide) ?_
    exact mretSR (o := q3) hx hb hr hlk h dX4_shapeOf_24
theorem shapeOf_ok {sh : Nat → Option Nat} {LP : List Nat} {Z : ZT} (hZ : shOK sh LP Z) {σ : Nat → Nat → Int32} {x : Int32} {q : Nat} (h : fX4_shapeOf sh Z σ x = some (some q)) : q ∈ LP ∧ okK (Z q).1 := by
  unfold fX4_shapeOf at h
  obtain ⟨v, hv, h⟩ := bd_some h
  by_cases hc : v = 0
  · rw [if_pos hc] at h; cases h
  · rw [if_neg hc] at h
    obtain ⟨o, h1, h2, h3⟩ := aOo_some h
    have h4 := Option.some.inj h3
    subst h4
    exact hZ _ _ h2
def fX4_areTwo (sh : Nat → Option Nat) (Z : ZT) (σ : Nat → Nat → Int32) (x1 : Int32) (x2 : Int32) : Option Int32 :=
  bd (fX11_within x1 (0 : Int32) ((σ 33 0) - (1 : Int32))) fun v1 => if v1 = 0 then (some (0 : Int32)) else (bd (fX11_within x2 (0 : Int32) ((σ 33 0) - (1 : Int32))) fun v3 => if v3 = 0 then (some (0 : Int32)) else (if x1 = x2 then (some (0 : Int32)) else (some (1 : Int32))))
abbrev rmX4_areTwo : Room := { frames := 1, cells := 0, slots := 0, locals := 22 }
theorem inX4_X4_areTwo : ∀ w ∈ wsX40, w ∈ wsX4_areTwo := by intro w h; simp only [wsX4_areTwo, List.mem_cons, List.mem_append]; simp only [h, true_or, or_true]
set_option maxHeartbeats 4000000 in
set_option maxRecDepth 100000 in
theorem kX4_areTwo (l : Launch) (D : va_G) (cs : Nat → ClassId) (a : Nat → Nat) (sh : Nat → Option Nat) (LP : List Nat) (Z : ZT) (hZ : shOK sh LP Z) (σ : Nat → Nat → Int32) (x1 : Int32) (x2 : Int32) (r : Int32) (h : fX4_areTwo sh Z σ x1 x2 = some r) : Met l yX4_areTwo wsX4_areTwo rmX4_areTwo (va_Pc [.ref (a 1), .int x1, .int x2] (pR D cs (cW a cs sh LP Z σ))) (vp_Si (fun x => x = r ∧ (r = 0 ∨ r = 1))) 0 0 (fun _ => False) := by
  refine Met.ofW (cc := cX4_areTwo) (maxL := 3) (ret := (some .boolean)) (by decide) rfl ?_
  intro p e s m args below meth c s₁ B hml hv
  obtain ⟨rfl, hP, hK⟩ := hv
  have C : cxt p s m _ meth c cX4_areTwo 3 RX4 wsX4_areTwo (some .boolean) := ⟨B.exec, B.bytes, hml, findClass_of_methodNamed B.named, atoms_spec (ws := wsX4_areTwo) B.pre, B.returns, B.notSynchronized⟩
  obtain ⟨hx, hb, -, hown, hts, hr, hlk⟩ := id C
  refine entryW [.ref (a 1), .int x1, .int x2] (n := 3) (Nat.le_of_ble_eq_true rfl) (fun ls hl => ?_)
  have hl : lv_has ls 3 [(0, .ref (a 1)), (1, .int x1), (2, .int x2)] := hl
  unfold fX4_areTwo at h
  refine lv_iload_n hx hb dX4_areTwo_0 rfl (lv_at hl 1 rfl) ?_
  refine lv_iconst (v := (0 : Int32)) hx hb dX4_areTwo_1 (by decide) ?_
  refine lv_aload_n hx hb dX4_areTwo_2 rfl (lv_at hl 0 rfl) ?_
  refine va_get (D := D) (ci := 4) (v := .int (σ 33 0)) (C := RX4) (T := TX4) (N := 3) hx hb hts inX4_X4_areTwo hown hK.1 hP 1 rfl rfl 2 (by decide) (hts (.fieldLink RX4 21 "SandPalace$Picture" "size" "I") (by decide +kernel)) (fun _ h9 => h9) rfl dX4_areTwo_3 ?_
  refine lv_iconst (v := (1 : Int32)) hx hb dX4_areTwo_6 (by decide) ?_
  refine lv_isub hx hb dX4_areTwo_7 ?_
  obtain ⟨v1, hc_v1, h⟩ := bd_some h
  refine mcallSZ (va_runSN (As := [.int x1, .int (0 : Int32), .int ((σ 33 0) - (1 : Int32))]) (rest := []) ⟨hx, hb, hml, hown, hts⟩ (kX11_within l x1 (0 : Int32) ((σ 33 0) - (1 : Int32)) v1 hc_v1) ⟨va_cnB (own := RX4) (host := "SandPalace") (index := 25) 3 hts gX4_areTwo_X11_within_n25 rfl rfl rfl (hK.2.1 ("SandPalace$Picture", 25, yX11_within, "SandPalace") (by decide +kernel)) (hts (.initialized RX11) (by decide +kernel)) (by decide +kernel) ⟨Nat.le_of_ble_eq_true rfl, Nat.le_of_ble_eq_true rfl⟩, hts (.static yX11_within) (by decide +kernel), trivial⟩ p0_s rfl rfl hl.1 rfl (lv_room (Nat.le_of_ble_eq_true rfl)) dX4_areTwo_8 ⟨Nat.zero_le _, Nat.zero_le _⟩) (fun z_v1 => ?_)
  refine lv_if_eq (tgt := 37) hx hb dX4_areTwo_11 (by decide) (fun c2 => ?_) (fun c2 => ?_)
  · have h := it_t c2 h
    refine lv_iconst (v := (0 : Int32)) hx hb dX4_areTwo_37 (by decide) ?_
    exact mretSZ hx hb hr hlk h (Or.inl rfl) dX4_areTwo_38
  · have h := it_f c2 h
    refine lv_iload_n hx hb dX4_areTwo_14 rfl (lv_at hl 2 rfl) ?_
    refine lv_iconst (v := (0 : Int32)) hx hb dX4_areTwo_15 (by decide) ?_
    refine lv_aload_n hx hb dX4_areTwo_16 rfl (lv_at hl 0 rfl) ?_
    refine va_get (D := D) (ci := 4) (v := .int (σ 33 0)) (C := RX4) (T := TX4) (N := 3) hx hb hts inX4_X4_areTwo hown hK.1 hP 1 rfl rfl 2 (by decide) (hts (.fieldLink RX4 21 "SandPalace$Picture" "size" "I") (by decide +kernel)) (fun _ h9 => h9) rfl dX4_areTwo_17 ?_
    refine lv_iconst (v := (1 : Int32)) hx hb dX4_areTwo_20 (by decide) ?_
    refine lv_isub hx hb dX4_areTwo_21 ?_
    obtain ⟨v3, hc_v3, h⟩ := bd_some h
    refine mcallSZ (va_runSN (As := [.int x2, .int (0 : Int32), .int ((σ 33 0) - (1 : Int32))]) (rest := []) ⟨hx, hb, hml, hown, hts⟩ (kX11_within l x2 (0 : Int32) ((σ 33 0) - (1 : Int32)) v3 hc_v3) ⟨va_cnB (own := RX4) (host := "SandPalace") (index := 25) 3 hts gX4_areTwo_X11_within_n25 rfl rfl rfl (hK.2.1 ("SandPalace$Picture", 25, yX11_within, "SandPalace") (by decide +kernel)) (hts (.initialized RX11) (by decide +kernel)) (by decide +kernel) ⟨Nat.le_of_ble_eq_true rfl, Nat.le_of_ble_eq_true rfl⟩, hts (.static yX11_within) (by decide +kernel), trivial⟩ p0_s rfl rfl hl.1 rfl (lv_room (Nat.le_of_ble_eq_true rfl)) dX4_areTwo_22 ⟨Nat.zero_le _, Nat.zero_le _⟩) (fun z_v3 => ?_)
    refine lv_if_eq (tgt := 37) hx hb dX4_areTwo_25 (by decide) (fun c4 => ?_) (fun c4 => ?_)
    · have h := it_t c4 h
      refine lv_iconst (v := (0 : Int32)) hx hb dX4_areTwo_37 (by decide) ?_
      exact mretSZ hx hb hr hlk h (Or.inl rfl) dX4_areTwo_38
    · have h := it_f c4 h
      refine lv_iload_n hx hb dX4_areTwo_28 rfl (lv_at hl 1 rfl) ?_
      refine lv_iload_n hx hb dX4_areTwo_29 rfl (lv_at hl 2 rfl) ?_
      refine lv_icmp_eq (tgt := 37) hx hb dX4_areTwo_30 (by decide) (fun c5 => ?_) (fun c5 => ?_)
      · have h := it_t c5 h
        refine lv_iconst (v := (0 : Int32)) hx hb dX4_areTwo_37 (by decide) ?_
        exact mretSZ hx hb hr hlk h (Or.inl rfl) dX4_areTwo_38
      · have h := it_f c5 h
        refine lv_iconst (v := (1 : Int32)) hx hb dX4_areTwo_33 (by decide) ?_
        refine lv_goto (tgt := 38) hx hb dX4_areTwo_34 (by decide) ?_
        exact mretSZ hx hb hr hlk h (Or.inr rfl) dX4_areTwo_38
def fX4_hems (sh : Nat → Option Nat) (Z : ZT) (σ : Nat → Nat → Int32) (x1 : Int32) (x2 : Int32) : Option Int32 :=
  aI (σ 3) 10 x1 fun v1 => if ((v1 >>> (x2 &&& 31)) &&& (1 : Int32)) = 0 then (some (0 : Int32)) else (some (1 : Int32))
abbrev rmX4_hems : Room := { frames := 0, cells := 0, slots := 0, locals := 0 }
theorem inX4_X4_hems : ∀ w ∈ wsX40, w ∈ wsX4_hems := by intro w h; simp only [wsX4_hems, List.mem_cons, List.mem_append]; simp only [h, true_or, or_true]
set_option maxHeartbeats 4000000 in
set_option maxRecDepth 100000 in
theorem kX4_hems (l : Launch) (D : va_G) (cs : Nat → ClassId) (a : Nat → Nat) (sh : Nat → Option Nat) (LP : List Nat) (Z : ZT) (hZ : shOK sh LP Z) (σ : Nat → Nat → Int32) (x1 : Int32) (x2 : Int32) (r : Int32) (h : fX4_hems sh Z σ x1 x2 = some r) : Met l yX4_hems wsX4_hems rmX4_hems (va_Pc [.ref (a 1), .int x1, .int x2] (pR D cs (cW a cs sh LP Z σ))) (vp_Si (fun x => x = r ∧ (r = 0 ∨ r = 1))) 0 0 (fun _ => False) := by
  refine Met.ofW (cc := cX4_hems) (maxL := 3) (ret := (some .boolean)) (by decide) rfl ?_
  intro p e s m args below meth c s₁ B hml hv
  obtain ⟨rfl, hP, hK⟩ := hv
  have C : cxt p s m _ meth c cX4_hems 3 RX4 wsX4_hems (some .boolean) := ⟨B.exec, B.bytes, hml, findClass_of_methodNamed B.named, atoms_spec (ws := wsX4_hems) B.pre, B.returns, B.notSynchronized⟩
  obtain ⟨hx, hb, -, hown, hts, hr, hlk⟩ := id C
  refine entryW [.ref (a 1), .int x1, .int x2] (n := 3) (Nat.le_of_ble_eq_true rfl) (fun ls hl => ?_)
  have hl : lv_has ls 3 [(0, .ref (a 1)), (1, .int x1), (2, .int x2)] := hl
  unfold fX4_hems at h
  refine lv_aload_n hx hb dX4_hems_0 rfl (lv_at hl 0 rfl) ?_
  refine va_get (D := D) (ci := 4) (v := .ref (a 3)) (C := RX4) (T := TX4) (N := 3) hx hb hts inX4_X4_hems hown hK.1 hP 1 rfl rfl 1 (by decide) (hts (.fieldLink RX4 17 "SandPalace$Picture" "hemmed" "[I") (by decide +kernel)) (fun _ h9 => h9) rfl dX4_hems_1 ?_
  refine lv_iload_n hx hb dX4_hems_4 rfl (lv_at hl 1 rfl) ?_
  obtain ⟨v1, i_v1, e_v1, h⟩ := aI_some h
  refine miald hx hb hK.1 hP 3 0 rfl rfl i_v1 e_v1 dX4_hems_5 ?_
  refine lv_iload_n hx hb dX4_hems_6 rfl (lv_at hl 2 rfl) ?_
  refine lv_ishr hx hb dX4_hems_7 ?_
  refine lv_iconst (v := (1 : Int32)) hx hb dX4_hems_8 (by decide) ?_
  refine lv_iand hx hb dX4_hems_9 ?_
  refine lv_if_eq (tgt := 17) hx hb dX4_hems_10 (by decide) (fun c2 => ?_) (fun c2 => ?_)
  · have h := it_t c2 h
    refine lv_iconst (v := (0 : Int32)) hx hb dX4_hems_17 (by decide) ?_
    exact mretSZ hx hb hr hlk h (Or.inl rfl) dX4_hems_18
  · have h := it_f c2 h
    refine lv_iconst (v := (1 : Int32)) hx hb dX4_hems_13 (by decide) ?_
    refine lv_goto (tgt := 18) hx hb dX4_hems_14 (by decide) ?_
    exact mretSZ hx hb hr hlk h (Or.inr rfl) dX4_hems_18
def fX4_setHem (sh : Nat → Option Nat) (Z : ZT) (σ : Nat → Nat → Int32) (x1 : Int32) (x2 : Int32) (x3 : Int32) : Option ((Nat → Nat → Int32)) :=
  if x3 = 0 then (aI (σ 3) 10 x1 fun v2 => aS 10 x1 (nm (sg σ 3 (upd (σ 3) x1.toNatClampNeg (v2 &&& (((1 : Int32) <<< (x2 &&& 31)) ^^^ ((-1) : Int32))))) fun σ4 => some σ4)) else (aI (σ 3) 10 x1 fun v5 => aS 10 x1 (nm (sg σ 3 (upd (σ 3) x1.toNatClampNeg (v5 ||| ((1 : Int32) <<< (x2 &&& 31))))) fun σ7 => some σ7))
abbrev rmX4_setHem : Room := { frames := 0, cells := 0, slots := 0, locals := 0 }
theorem inX4_X4_setHem : ∀ w ∈ wsX40, w ∈ wsX4_setHem := by intro w h; simp only [wsX4_setHem, List.mem_cons, List.mem_append]; simp only [h, true_or, or_true]
set_option maxHeartbeats 4000000 in
set_option maxRecDepth 100000 in
theorem kX4_setHem (l : Launch) (D : va_G) (cs : Nat → ClassId) (a : Nat → Nat) (sh : Nat → Option Nat) (LP : List Nat) (Z : ZT) (hZ : shOK sh LP Z) (σ : Nat → Nat → Int32) (x1 : Int32) (x2 : Int32) (x3 : Int32) (u9 : Nat → Nat → Int32) (h : fX4_setHem sh Z σ x1 x2 x3 = some u9) (sz : Nat) : Met l yX4_setHem wsX4_setHem rmX4_setHem (va_Pc [.ref (a 1), .int x1, .int x2, .int x3] (pQ D cs (cW a cs sh LP Z σ) sz)) (va_Qv (fun y => y = u9) (qB D (cW a cs sh LP Z) (va_A (cW a cs sh LP Z σ) sz)) (va_A (cW a cs sh LP Z σ) sz)) 0 0 (va_A (cW a cs sh LP Z σ) sz) := by
  refine Met.ofW (cc := cX4_setHem) (maxL := 4) (ret := none) (by decide) rfl ?_
  intro p e s m args below meth c s₁ B hml hv
  obtain ⟨rfl, hsz, hP, hK, hD0⟩ := hv
  have C : cxt p s m _ meth c cX4_setHem 4 RX4 wsX4_setHem none := ⟨B.exec, B.bytes, hml, findClass_of_methodNamed B.named, atoms_spec (ws := wsX4_setHem) B.pre, B.returns, B.notSynchronized⟩
  obtain ⟨hx, hb, -, hown, hts, hr, hlk⟩ := id C
  subst hsz
  have hD := hD0.self (sz := s.heap.size)
  generalize hAe : va_A (cW a cs sh LP Z σ) s.heap.size = A at hD ⊢
  have hA : ∀ q : Nat, s.heap.size ≤ q → A q := fun q h => by rw [← hAe]; exact Or.inr h
  have hS : va_S A s.heap s.heap [] := va_S.rf
  refine entryW [.ref (a 1), .int x1, .int x2, .int x3] (n := 4) (Nat.le_of_ble_eq_true rfl) (fun ls hl => ?_)
  have hl : lv_has ls 4 [(0, .ref (a 1)), (1, .int x1), (2, .int x2), (3, .int x3)] := hl
  unfold fX4_setHem at h
  refine lv_iload_n hx hb dX4_setHem_0 rfl (lv_at hl 3 rfl) ?_
  refine lv_if_eq (tgt := 19) hx hb dX4_setHem_1 (by decide) (fun c1 => ?_) (fun c1 => ?_)
  · have h := it_t c1 h
    refine lv_aload_n hx hb dX4_setHem_19 rfl (lv_at hl 0 rfl) ?_
    refine va_get (D := D) (ci := 4) (v := .ref (a 3)) (C := RX4) (T := TX4) (N := 3) hx hb hts inX4_X4_setHem hown hK.1 hP 1 rfl rfl 1 (by decide) (hts (.fieldLink RX4 17 "SandPalace$Picture" "hemmed" "[I") (by decide +kernel)) (fun _ h9 => h9) rfl dX4_setHem_20 ?_
    refine lv_iload_n hx hb dX4_setHem_23 rfl (lv_at hl 1 rfl) ?_
    refine lv_dup2_11 hx hb dX4_setHem_24 rfl rfl ?_
    obtain ⟨v2, i_v2, e_v2, h⟩ := aI_some h
    refine miald hx hb hK.1 hP 3 0 rfl rfl i_v2 e_v2 dX4_setHem_25 ?_
    refine lv_iconst (v := (1 : Int32)) hx hb dX4_setHem_26 (by decide) ?_
    refine lv_iload_n hx hb dX4_setHem_27 rfl (lv_at hl 2 rfl) ?_
    refine lv_ishl hx hb dX4_setHem_28 ?_
    refine lv_iconst (v := ((-1) : Int32)) hx hb dX4_setHem_29 (by decide) ?_
    refine lv_ixor hx hb dX4_setHem_30 ?_
    refine lv_iand hx hb dX4_setHem_31 ?_
    obtain ⟨i3, h⟩ := aS_some h
    refine va_iast hx hb hK.1 hP hD hS 3 0 rfl rfl i3 dX4_setHem_32 (fun H locs hP hD hS => ?_)
    obtain ⟨σ4, e_σ4, h⟩ := nm_some h
    have hP : va_P D vwCl (cW a cs sh LP Z σ4) H := by rw [← e_σ4]; exact hP
    have hD : va_D A (cW a cs sh LP Z σ4) := by rw [← e_σ4]; exact hD
    exact mretV hx hb hr hlk h hP hD hS dX4_setHem_33
  · have h := it_f c1 h
    refine lv_aload_n hx hb dX4_setHem_4 rfl (lv_at hl 0 rfl) ?_
    refine va_get (D := D) (ci := 4) (v := .ref (a 3)) (C := RX4) (T := TX4) (N := 3) hx hb hts inX4_X4_setHem hown hK.1 hP 1 rfl rfl 1 (by decide) (hts (.fieldLink RX4 17 "SandPalace$Picture" "hemmed" "[I") (by decide +kernel)) (fun _ h9 => h9) rfl dX4_setHem_5 ?_
    refine lv_iload_n hx hb dX4_setHem_8 rfl (lv_at hl 1 rfl) ?_
    refine lv_dup2_11 hx hb dX4_setHem_9 rfl rfl ?_
    obtain ⟨v5, i_v5, e_v5, h⟩ := aI_some h
    refine miald hx hb hK.1 hP 3 0 rfl rfl i_v5 e_v5 dX4_setHem_10 ?_
    refine lv_iconst (v := (1 : Int32)) hx hb dX4_setHem_11 (by decide) ?_
    refine lv_iload_n hx hb dX4_setHem_12 rfl (lv_at hl 2 rfl) ?_
    refine lv_ishl hx hb dX4_setHem_13 ?_
    refine lv_ior hx hb dX4_setHem_14 ?_
    obtain ⟨i6, h⟩ := aS_some h
    refine va_iast hx hb hK.1 hP hD hS 3 0 rfl rfl i6 dX4_setHem_15 (fun H locs hP hD hS => ?_)
    obtain ⟨σ7, e_σ7, h⟩ := nm_some h
    have hP : va_P D vwCl (cW a cs sh LP Z σ7) H := by rw [← e_σ7]; exact hP
    have hD : va_D A (cW a cs sh LP Z σ7) := by rw [← e_σ7]; exact hD
    refine lv_goto (tgt := 33) hx hb dX4_setHem_16 (by decide) ?_
    exact mretV hx hb hr hlk h hP hD hS dX4_setHem_33
def fX4_comesAfter_J44 (F : Nat) (sh : Nat → Option Nat) (Z : ZT) (kb : Int32 → Int32 → Option Int32) (x1 : Int32) (x2 : Int32) (x3 : Int32) (σ : Nat → Nat → Int32) : Option Int32 :=
  kb x2 (x3 + (1 : Int32))
def fX4_comesAfter_L9 (F : Nat) (sh : Nat → Option Nat) (Z : ZT) (σ : Nat → Nat → Int32) (x1 : Int32) (kx : Int32 → Option Int32) : Nat → Int32 → Int32 → Option Int32
  | 0, _, _ => none
  | n+1, x2, x3 =>
    nb ((fun x2 x3 => fX4_comesAfter_L9 F sh Z σ x1 kx n x2 x3)) fun kb =>
    if x1 ≤ x3 then (kx x2) else (aO sh 10 x1 fun q3 => aO sh 10 x3 fun q4 => if (lg_cmp (((Z q3).2.2.1) &&& ((Z q4).2.2.1)) (0 : Int64)) = 0 then (fX4_comesAfter_J44 F sh Z kb x1 x2 x3 σ) else (nm (x2 ||| ((1 : Int32) <<< (x3 &&& 31))) fun z6 => fX4_comesAfter_J44 F sh Z kb x1 z6 x3 σ))
def fX4_comesAfter (F : Nat) (sh : Nat → Option Nat) (Z : ZT) (σ : Nat → Nat → Int32) (x1 : Int32) : Option Int32 :=
  aI (σ 3) 10 x1 fun v1 => fX4_comesAfter_L9 F sh Z σ x1 (fun y2 => some y2) F v1 (0 : Int32)
abbrev rmX4_comesAfter : Room := { frames := 0, cells := 0, slots := 0, locals := 0 }
theorem inX0_X4_comesAfter : ∀ w ∈ wsX00, w ∈ wsX4_comesAfter := by intro w h; simp only [wsX4_comesAfter, List.mem_cons, List.mem_append]; simp only [h, true_or, or_true]
theorem inX1_X4_comesAfter : ∀ w ∈ wsX10, w ∈ wsX4_comesAfter := by intro w h; simp only [wsX4_comesAfter, List.mem_cons, List.mem_append]; simp only [h, true_or, or_true]
theorem inX2_X4_comesAfter : ∀ w ∈ wsX20, w ∈ wsX4_comesAfter := by intro w h; simp only [wsX4_comesAfter, List.mem_cons, List.mem_append]; simp only [h, true_or, or_true]
theorem inX4_X4_comesAfter : ∀ w ∈ wsX40, w ∈ wsX4_comesAfter := by intro w h; simp only [wsX4_comesAfter, List.mem_cons, List.mem_append]; simp only [h, true_or, or_true]
theorem inX5_X4_comesAfter : ∀ w ∈ wsX50, w ∈ wsX4_comesAfter := by intro w h; simp only [wsX4_comesAfter, List.mem_cons, List.mem_append]; simp only [h, true_or, or_true]
theorem inX8_X4_comesAfter : ∀ w ∈ wsX80, w ∈ wsX4_comesAfter := by intro w h; simp only [wsX4_comesAfter, List.mem_cons, List.mem_append]; simp only [h, true_or, or_true]
set_option maxHeartbeats 4000000 in
set_option maxRecDepth 100000 in
theorem wX4_comesAfter_J44 {p : Program} {l : Launch} {e : Env} {s : State} {m : MethodId} {args : Array Value} {below : List Frame} {meth : Method} {c : Code} (C : cxt p s m args meth c cX4_comesAfter 4 RX4 wsX4_comesAfter (some .int)) {D : va_G} {cs : Nat → ClassId} {a : Nat → Nat} {sh : Nat → Option Nat} {LP : List Nat} {Z : ZT} (hZ : shOK sh LP Z) (hK : KK D cs s) {σ : Nat → Nat → Int32} (hP : va_P D vwCl (cW a cs sh LP Z σ) s.heap) (r : Int32) (F : Nat) (kb : Int32 → Int32 → Option Int32) (x1 : Int32) (x2 : Int32) (x3 : Int32) (hkb : ∀ (x2 : Int32) (x3 : Int32) (ls : Array Slot), lv_has ls 4 [(0, .ref (a 1)), (1, .int x1), (2, .int x2), (3, .int x3)] → kb x2 x3 = some r → W p l e rmX4_comesAfter s m args below meth c s.heap [] 0 0 (MQ below (vp_Si (fun x => x = r)) args s 0 0 (fun _ => False)) (F0 m 9 ls [])) (ls : Array Slot) (hl : lv_has ls 4 [(0, .ref (a 1)), (1, .int x1), (2, .int x2), (3, .int x3)]) (h : fX4_comesAfter_J44 F sh Z kb x1 x2 x3 σ = some r) : W p l e rmX4_comesAfter s m args below meth c s.heap [] 0 0 (MQ below (vp_Si (fun x => x = r)) args s 0 0 (fun _ => False)) (F0 m 44 ls []) := by
  obtain ⟨hx, hb, hml, hown, hts, hr, hlk⟩ := id C
  unfold fX4_comesAfter_J44 at h
  refine lv_iinc (v := x3 + (1 : Int32)) (lv' := [(3, .int (x3 + (1 : Int32))), (0, .ref (a 1)), (1, .int x1), (2, .int x2)]) hx hb dX4_comesAfter_44 hl (k := 3) rfl rfl (by decide) rfl (fun ls hl => ?_)
  refine lv_goto (tgt := 9) hx hb dX4_comesAfter_47 (by decide) ?_
  exact hkb x2 (x3 + (1 : Int32)) ls (lv_sub hl [1, 2, 3, 0] rfl) h
set_option maxHeartbeats 4000000 in
set_option maxRecDepth 100000 in
theorem wX4_comesAfter_L9 {p : Program} {l : Launch} {e : Env} {s : State} {m : MethodId} {args : Array Value} {below : List Frame} {meth : Method} {c : Code} (C : cxt p s m args meth c cX4_comesAfter 4 RX4 wsX4_comesAfter (some .int)) {D : va_G} {cs : Nat → ClassId} {a : Nat → Nat} {sh : Nat → Option Nat} {LP : List Nat} {Z : ZT} (hZ : shOK sh LP Z) (hK : KK D cs s) {σ : Nat → Nat → Int32} (hP : va_P D vwCl (cW a cs sh LP Z σ) s.heap) (r : Int32) (F : Nat) (x1 : Int32) (kx : Int32 → Option Int32) (hkx : ∀ (x2 : Int32) (ls : Array Slot), lv_has ls 4 [(2, .int x2)] → kx x2 = some r → W p l e rmX4_comesAfter s m args below meth c s.heap [] 0 0 (MQ below (vp_Si (fun x => x = r)) args s 0 0 (fun _ => False)) (F0 m 50 ls [])) : ∀ (n : Nat) (x2 : Int32) (x3 : Int32) (ls : Array Slot), lv_has ls 4 [(0, .ref (a 1)), (1, .int x1), (2, .int x2), (3, .int x3)] → fX4_comesAfter_L9 F sh Z σ x1 kx n x2 x3 = some r → W p l e rmX4_comesAfter s m args below meth c s.heap [] 0 0 (MQ below (vp_Si (fun x => x = r)) args s 0 0 (fun _ => False)) (F0 m 9 ls []) := by
  obtain ⟨hx, hb, hml, hown, hts, hr, hlk⟩ := id C
  intro n
  induction n with
  | zero =>
    intros
    rename_i h
    cases h
  | succ n ih =>
    intro x2 x3 ls hl h
    rw [fX4_comesAfter_L9] at h
    obtain ⟨kb, hkb, h⟩ := nb_some (P := fun (kb : Int32 → Int32 → Option Int32) => ∀ (x2 : Int32) (x3 : Int32) (ls : Array Slot), lv_has ls 4 [(0, .ref (a 1)), (1, .int x1), (2, .int x2), (3, .int x3)] → kb x2 x3 = some r → W p l e rmX4_comesAfter s m args below meth c s.heap [] 0 0 (MQ below (vp_Si (fun x => x = r)) args s 0 0 (fun _ => False)) (F0 m 9 ls [])) h ih
    refine lv_iload_n hx hb dX4_comesAfter_9 rfl (lv_at hl 3 rfl) ?_
    refine lv_iload_n hx hb dX4_comesAfter_10 rfl (lv_at hl 1 rfl) ?_
    refine lv_icmp_ge (tgt := 50) hx hb dX4_comesAfter_11 (by decide) (fun c2 => ?_) (fun c2 => ?_)
    · have h := it_t c2 h
      exact hkx x2 ls (lv_sub hl [2] rfl) h
    · have h := it_f c2 h
      refine lv_aload_n hx hb dX4_comesAfter_14 rfl (lv_at hl 0 rfl) ?_
      refine va_get (D := D) (ci := 4) (v := .ref (a 2)) (C := RX4) (T := TX4) (N := 3) hx hb hts inX4_X4_comesAfter hown hK.1 hP 1 rfl rfl 0 (by decide) (hts (.fieldLink RX4 11 "SandPalace$Picture" "shapes" "[LSandPalace$Shape;") (by decide +kernel)) (fun _ h9 => h9) rfl dX4_comesAfter_15 ?_
      refine lv_iload_n hx hb dX4_comesAfter_18 rfl (lv_at hl 1 rfl) ?_
      obtain ⟨q3, i_q3, e_q3, h⟩ := aO_some h
      have f_q3 := hZ _ _ e_q3
      refine msald hx hb hK.1 hP 2 2 rfl rfl i_q3 e_q3 dX4_comesAfter_19 ?_
      refine shgetP hx hb hts inX0_X4_comesAfter inX1_X4_comesAfter inX2_X4_comesAfter inX5_X4_comesAfter inX8_X4_comesAfter hown hK.1 hP f_q3.1 f_q3.2 (hts (.fieldLink RX4 29 "SandPalace$Shape" "places" "J") (by decide +kernel)) (fun _ h9 => h9) dX4_comesAfter_20 ?_
      refine lv_aload_n hx hb dX4_comesAfter_23 rfl (lv_at hl 0 rfl) ?_
      refine va_get (D := D) (ci := 4) (v := .ref (a 2)) (C := RX4) (T := TX4) (N := 3) hx hb hts inX4_X4_comesAfter hown hK.1 hP 1 rfl rfl 0 (by decide) (hts (.fieldLink RX4 11 "SandPalace$Picture" "shapes" "[LSandPalace$Shape;") (by decide +kernel)) (fun _ h9 => h9) rfl dX4_comesAfter_24 ?_
      refine lv_iload_n hx hb dX4_comesAfter_27 rfl (lv_at hl 3 rfl) ?_
      obtain ⟨q4, i_q4, e_q4, h⟩ := aO_some h
      have f_q4 := hZ _ _ e_q4
      refine msald hx hb hK.1 hP 2 2 rfl rfl i_q4 e_q4 dX4_comesAfter_28 ?_
      refine shgetP hx hb hts inX0_X4_comesAfter inX1_X4_comesAfter inX2_X4_comesAfter inX5_X4_comesAfter inX8_X4_comesAfter hown hK.1 hP f_q4.1 f_q4.2 (hts (.fieldLink RX4 29 "SandPalace$Shape" "places" "J") (by decide +kernel)) (fun _ h9 => h9) dX4_comesAfter_29 ?_
      refine lv_land hx hb dX4_comesAfter_32 ?_
      refine lv_lconst (v := (0 : Int64)) hx hb dX4_comesAfter_33 (by decide) ?_
      refine W.lcmp hx hb dX4_comesAfter_34 ?_
      refine lv_if_eq (tgt := 44) hx hb dX4_comesAfter_35 (by decide) (fun c5 => ?_) (fun c5 => ?_)
      · have h := it_t c5 h
        exact wX4_comesAfter_J44 C hZ hK hP r F kb x1 x2 x3 hkb ls (lv_sub hl [0, 1, 2, 3] rfl) h
      · have h := it_f c5 h
        refine lv_iload_n hx hb dX4_comesAfter_38 rfl (lv_at hl 2 rfl) ?_
        refine lv_iconst (v := (1 : Int32)) hx hb dX4_comesAfter_39 (by decide) ?_
        refine lv_iload_n hx hb dX4_comesAfter_40 rfl (lv_at hl 3 rfl) ?_
        refine lv_ishl hx hb dX4_comesAfter_41 ?_
        refine lv_ior hx hb dX4_comesAfter_42 ?_
        obtain ⟨z6, e_z6, h⟩ := nm_some h
        refine tpi e_z6 ?_
        refine lv_istore_n (lv' := [(2, .int z6), (0, .ref (a 1)), (1, .int x1), (3, .int x3)]) hx hb dX4_comesAfter_43 rfl hl (by decide) rfl (fun ls hl => ?_)
        exact wX4_comesAfter_J44 C hZ hK hP r F kb x1 z6 x3 hkb ls (lv_sub hl [1, 2, 0, 3] rfl) h
set_option maxHeartbeats 4000000 in
set_option maxRecDepth 100000 in
theorem kX4_comesAfter (l : Launch) (D : va_G) (cs : Nat → ClassId) (a : Nat → Nat) (sh : Nat → Option Nat) (LP : List Nat) (Z : ZT) (hZ : shOK sh LP Z) (σ : Nat → Nat → Int32) (F : Nat) (x1 : Int32) (r : Int32) (h : fX4_comesAfter F sh Z σ x1 = some r) : Met l yX4_comesAfter wsX4_comesAfter rmX4_comesAfter (va_Pc [.ref (a 1), .int x1] (pR D cs (cW a cs sh LP Z σ))) (vp_Si (fun x => x = r)) 0 0 (fun _ => False) := by
  refine Met.ofW (cc := cX4_comesAfter) (maxL := 4) (ret := (some .int)) (by decide) rfl ?_
  intro p e s m args below meth c s₁ B hml hv
  obtain ⟨rfl, hP, hK⟩ := hv
  have C : cxt p s m _ meth c cX4_comesAfter 4 RX4 wsX4_comesAfter (some .int) := ⟨B.exec, B.bytes, hml, findClass_of_methodNamed B.named, atoms_spec (ws := wsX4_comesAfter) B.pre, B.returns, B.notSynchronized⟩
  obtain ⟨hx, hb, -, hown, hts, hr, hlk⟩ := id C
  refine entryW [.ref (a 1), .int x1] (n := 4) (Nat.le_of_ble_eq_true rfl) (fun ls hl => ?_)
  have hl : lv_has ls 4 [(0, .ref (a 1)), (1, .int x1)] := hl
  unfold fX4_comesAfter at h
  refine lv_aload_n hx hb dX4_comesAfter_0 rfl (lv_at hl 0 rfl) ?_
  refine va_get (D := D) (ci := 4) (v := .ref (a 3)) (C := RX4) (T := TX4) (N := 3) hx hb hts inX4_X4_comesAfter hown hK.1 hP 1 rfl rfl 1 (by decide) (hts (.fieldLink RX4 17 "SandPalace$Picture" "hemmed" "[I") (by decide +kernel)) (fun _ h9 => h9) rfl dX4_comesAfter_1 ?_
  refine lv_iload_n hx hb dX4_comesAfter_4 rfl (lv_at hl 1 rfl) ?_
  obtain ⟨v1, i_v1, e_v1, h⟩ := aI_some h
  refine miald hx hb hK.1 hP 3 0 rfl rfl i_v1 e_v1 dX4_comesAfter_5 ?_
  refine lv_istore_n (lv' := [(2, .int v1), (0, .ref (a 1)), (1, .int x1)]) hx hb dX4_comesAfter_6 rfl hl (by decide) rfl (fun ls hl => ?_)
  refine lv_iconst (v := (0 : Int32)) hx hb dX4_comesAfter_7 (by decide) ?_
  refine lv_istore_n (lv' := [(3, .int (0 : Int32)), (2, .int v1), (0, .ref (a 1)), (1, .int x1)]) hx hb dX4_comesAfter_8 rfl hl (by decide) rfl (fun ls hl => ?_)
  refine wX4_comesAfter_L9 C hZ hK hP r F x1 _ ?_ F v1 (0 : Int32) ls (lv_sub hl [2, 3, 1, 0] rfl) h
  intro y2 ls hl h
  refine lv_iload_n hx hb dX4_comesAfter_50 rfl (lv_at hl 0 rfl) ?_
  exact mretS hx hb hr hlk h dX4_comesAfter_51
def fX4_layers_J31 (F : Nat) (sh : Nat → Option Nat) (Z : ZT) (kb : Int32 → Int32 → Option Int32) (x1 : Int32) (x2 : Int32) (x3 : Int32) (σ : Nat → Nat → Int32) : Option Int32 :=
  kb x2 (x3 + (1 : Int32))
def fX4_layers_L4 (F : Nat) (sh : Nat → Option Nat) (Z : ZT) (σ : Nat → Nat → Int32) (x1 : Int32) (kx : Int32 → Option Int32) : Nat → Int32 → Int32 → Option Int32
  | 0, _, _ => none
  | n+1, x2, x3 =>
    nb ((fun x2 x3 => fX4_layers_L4 F sh Z σ x1 kx n x2 x3)) fun kb =>
    if (σ 33 0) ≤ x3 then (kx x2) else (aO sh 10 x3 fun q2 => bd (fX6_isAt sh Z q2 σ x1) fun v3 => if v3 = 0 then (fX4_layers_J31 F sh Z kb x1 x2 x3 σ) else (nm (x2 ||| ((1 : Int32) <<< (x3 &&& 31))) fun z5 => fX4_layers_J31 F sh Z kb x1 z5 x3 σ))
def fX4_layers (F : Nat) (sh : Nat → Option Nat) (Z : ZT) (σ : Nat → Nat → Int32) (x1 : Int32) : Option Int32 :=
  fX4_layers_L4 F sh Z σ x1 (fun y1 => some y1) F (0 : Int32) (0 : Int32)
abbrev rmX4_layers : Room := { frames := 1, cells := 0, slots := 0, locals := 21 }
theorem inX4_X4_layers : ∀ w ∈ wsX40, w ∈ wsX4_layers := by intro w h; simp only [wsX4_layers, List.mem_cons, List.mem_append]; simp only [h, true_or, or_true]
set_option maxHeartbeats 4000000 in
set_option maxRecDepth 100000 in
theorem wX4_layers_J31 {p : Program} {l : Launch} {e : Env} {s : State} {m : MethodId} {args : Array Value} {below : List Frame} {meth : Method} {c : Code} (C : cxt p s m args meth c cX4_layers 4 RX4 wsX4_layers (some .int)) {D : va_G} {cs : Nat → ClassId} {a : Nat → Nat} {sh : Nat → Option Nat} {LP : List Nat} {Z : ZT} (hZ : shOK sh LP Z) (hK : KK D cs s) {σ : Nat → Nat → Int32} (hP : va_P D vwCl (cW a cs sh LP Z σ) s.heap) (r : Int32) (F : Nat) (kb : Int32 → Int32 → Option Int32) (x1 : Int32) (x2 : Int32) (x3 : Int32) (hkb : ∀ (x2 : Int32) (x3 : Int32) (ls : Array Slot), lv_has ls 4 [(0, .ref (a 1)), (1, .int x1), (2, .int x2), (3, .int x3)] → kb x2 x3 = some r → W p l e rmX4_layers s m args below meth c s.heap [] 0 0 (MQ below (vp_Si (fun x => x = r)) args s 0 0 (fun _ => False)) (F0 m 4 ls [])) (ls : Array Slot) (hl : lv_has ls 4 [(0, .ref (a 1)), (1, .int x1), (2, .int x2), (3, .int x3)]) (h : fX4_layers_J31 F sh Z kb x1 x2 x3 σ = some r) : W p l e rmX4_layers s m args below meth c s.heap [] 0 0 (MQ below (vp_Si (fun x => x = r)) args s 0 0 (fun _ => False)) (F0 m 31 ls []) := by
  obtain ⟨hx, hb, hml, hown, hts, hr, hlk⟩ := id C
  unfold fX4_layers_J31 at h
  refine lv_iinc (v := x3 + (1 : Int32)) (lv' := [(3, .int (x3 + (1 : Int32))), (0, .ref (a 1)), (1, .int x1), (2, .int x2)]) hx hb dX4_layers_31 hl (k := 3) rfl rfl (by decide) rfl (fun ls hl => ?_)
  refine lv_goto (tgt := 4) hx hb dX4_layers_34 (by decide) ?_
  exact hkb x2 (x3 + (1 : Int32)) ls (lv_sub hl [1, 2, 3, 0] rfl) h
set_option maxHeartbeats 4000000 in
set_option maxRecDepth 100000 in
theorem wX4_layers_L4 {p : Program} {l : Launch} {e : Env} {s : State} {m : MethodId} {args : Array Value} {below : List Frame} {meth : Method} {c : Code} (C : cxt p s m args meth c cX4_layers 4 RX4 wsX4_layers (some .int)) {D : va_G} {cs : Nat → ClassId} {a : Nat → Nat} {sh : Nat → Option Nat} {LP : List Nat} {Z : ZT} (hZ : shOK sh LP Z) (hK : KK D cs s) {σ : Nat → Nat → Int32} (hP : va_P D vwCl (cW a cs sh LP Z σ) s.heap) (r : Int32) (F : Nat) (x1 : Int32) (kx : Int32 → Option Int32) (hkx : ∀ (x2 : Int32) (ls : Array Slot), lv_has ls 4 [(2, .int x2)] → kx x2 = some r → W p l e rmX4_layers s m args below meth c s.heap [] 0 0 (MQ below (vp_Si (fun x => x = r)) args s 0 0 (fun _ => False)) (F0 m 37 ls [])) : ∀ (n : Nat) (x2 : Int32) (x3 : Int32) (ls : Array Slot), lv_has ls 4 [(0, .ref (a 1)), (1, .int x1), (2, .int x2), (3, .int x3)] → fX4_layers_L4 F sh Z σ x1 kx n x2 x3 = some r → W p l e rmX4_layers s m args below meth c s.heap [] 0 0 (MQ below (vp_Si (fun x => x = r)) args s 0 0 (fun _ => False)) (F0 m 4 ls []) := by
  obtain ⟨hx, hb, hml, hown, hts, hr, hlk⟩ := id C
  intro n
  induction n with
  | zero =>
    intros
    rename_i h
    cases h
  | succ n ih =>
    intro x2 x3 ls hl h
    rw [fX4_layers_L4] at h
    obtain ⟨kb, hkb, h⟩ := nb_some (P := fun (kb : Int32 → Int32 → Option Int32) => ∀ (x2 : Int32) (x3 : Int32) (ls : Array Slot), lv_has ls 4 [(0, .ref (a 1)), (1, .int x1), (2, .int x2), (3, .int x3)] → kb x2 x3 = some r → W p l e rmX4_layers s m args below meth c s.heap [] 0 0 (MQ below (vp_Si (fun x => x = r)) args s 0 0 (fun _ => False)) (F0 m 4 ls [])) h ih
    refine lv_iload_n hx hb dX4_layers_4 rfl (lv_at hl 3 rfl) ?_
    refine lv_aload_n hx hb dX4_layers_5 rfl (lv_at hl 0 rfl) ?_
    refine va_get (D := D) (ci := 4) (v := .int (σ 33 0)) (C := RX4) (T := TX4) (N := 3) hx hb hts inX4_X4_layers hown hK.1 hP 1 rfl rfl 2 (by decide) (hts (.fieldLink RX4 21 "SandPalace$Picture" "size" "I") (by decide +kernel)) (fun _ h9 => h9) rfl dX4_layers_6 ?_
    refine lv_icmp_ge (tgt := 37) hx hb dX4_layers_9 (by decide) (fun c1 => ?_) (fun c1 => ?_)
    · have h := it_t c1 h
      exact hkx x2 ls (lv_sub hl [2] rfl) h
    · have h := it_f c1 h
      refine lv_aload_n hx hb dX4_layers_12 rfl (lv_at hl 0 rfl) ?_
      refine va_get (D := D) (ci := 4) (v := .ref (a 2)) (C := RX4) (T := TX4) (N := 3) hx hb hts inX4_X4_layers hown hK.1 hP 1 rfl rfl 0 (by decide) (hts (.fieldLink RX4 11 "SandPalace$Picture" "shapes" "[LSandPalace$Shape;") (by decide +kernel)) (fun _ h9 => h9) rfl dX4_layers_13 ?_
      refine lv_iload_n hx hb dX4_layers_16 rfl (lv_at hl 3 rfl) ?_
      obtain ⟨q2, i_q2, e_q2, h⟩ := aO_some h
      have f_q2 := hZ _ _ e_q2
      refine msald hx hb hK.1 hP 2 2 rfl rfl i_q2 e_q2 dX4_layers_17 ?_
      refine lv_iload_n hx hb dX4_layers_18 rfl (lv_at hl 1 rfl) ?_
      obtain ⟨v3, hc_v3, h⟩ := bd_some h
      refine mcallSZ (r := v3) (rest := []) (a0 := (Value.ref q2 :: [.int x1]).toArray) ?_ (fun z_v3 => ?_)
      · rcases f_q2.2 with kq | kq | kq | kq | kq
        · exact va_runU (As := [.int x1]) (rest := []) ⟨hx, hb, hml, hown, hts⟩ (kX6_isAt l D cs a sh LP Z hZ q2 f_q2.1 f_q2.2 σ x1 v3 hc_v3) (va_cwU 1 hts gX4_layers_X6_isAt_u33X0 rfl rfl rfl rfl (by decide +kernel) ⟨Nat.le_of_ble_eq_true rfl, Nat.le_of_ble_eq_true rfl⟩) (pR_v hP hK (shr0 hK.1 hP f_q2.1 kq)) rfl rfl hl.1 rfl (lv_room (Nat.le_of_ble_eq_true rfl)) dX4_layers_19 ⟨Nat.zero_le _, Nat.zero_le _⟩
        · exact va_runU (As := [.int x1]) (rest := []) ⟨hx, hb, hml, hown, hts⟩ (kX6_isAt l D cs a sh LP Z hZ q2 f_q2.1 f_q2.2 σ x1 v3 hc_v3) (va_cwU 1 hts gX4_layers_X6_isAt_u33X1 rfl rfl rfl rfl (by decide +kernel) ⟨Nat.le_of_ble_eq_true rfl, Nat.le_of_ble_eq_true rfl⟩) (pR_v hP hK (shr1 hK.1 hP f_q2.1 kq)) rfl rfl hl.1 rfl (lv_room (Nat.le_of_ble_eq_true rfl)) dX4_layers_19 ⟨Nat.zero_le _, Nat.zero_le _⟩
        · exact va_runU (As := [.int x1]) (rest := []) ⟨hx, hb, hml, hown, hts⟩ (kX6_isAt l D cs a sh LP Z hZ q2 f_q2.1 f_q2.2 σ x1 v3 hc_v3) (va_cwU 1 hts gX4_layers_X6_isAt_u33X2 rfl rfl rfl rfl (by decide +kernel) ⟨Nat.le_of_ble_eq_true rfl, Nat.le_of_ble_eq_true rfl⟩) (pR_v hP hK (shr2 hK.1 hP f_q2.1 kq)) rfl rfl hl.1 rfl (lv_room (Nat.le_of_ble_eq_true rfl)) dX4_layers_19 ⟨Nat.zero_le _, Nat.zero_le _⟩
        · exact va_runU (As := [.int x1]) (rest := []) ⟨hx, hb, hml, hown, hts⟩ (kX6_isAt l D cs a sh LP Z hZ q2 f_q2.1 f_q2.2 σ x1 v3 hc_v3) (va_cwU 1 hts gX4_layers_X6_isAt_u33X5 rfl rfl rfl rfl (by decide +kernel) ⟨Nat.le_of_ble_eq_true rfl, Nat.le_of_ble_eq_true rfl⟩) (pR_v hP hK (shr5 hK.1 hP f_q2.1 kq)) rfl rfl hl.1 rfl (lv_room (Nat.le_of_ble_eq_true rfl)) dX4_layers_19 ⟨Nat.zero_le _, Nat.zero_le _⟩
        · exact va_runU (As := [.int x1]) (rest := []) ⟨hx, hb, hml, hown, hts⟩ (kX6_isAt l D cs a sh LP Z hZ q2 f_q2.1 f_q2.2 σ x1 v3 hc_v3) (va_cwU 1 hts gX4_layers_X6_isAt_u33X8 rfl rfl rfl rfl (by decide +kernel) ⟨Nat.le_of_ble_eq_true rfl, Nat.le_of_ble_eq_true rfl⟩) (pR_v hP hK (shr7 hK.1 hP f_q2.1 kq)) rfl rfl hl.1 rfl (lv_room (Nat.le_of_ble_eq_true rfl)) dX4_layers_19 ⟨Nat.zero_le _, Nat.zero_le _⟩
      refine lv_if_eq (tgt := 31) hx hb dX4_layers_22 (by decide) (fun c4 => ?_) (fun c4 => ?_)
      · have h := it_t c4 h
        exact wX4_layers_J31 C hZ hK hP r F kb x1 x2 x3 hkb ls (lv_sub hl [0, 1, 2, 3] rfl) h
      · have h := it_f c4 h
        refine lv_iload_n hx hb dX4_layers_25 rfl (lv_at hl 2 rfl) ?_
        refine lv_iconst (v := (1 : Int32)) hx hb dX4_layers_26 (by decide) ?_
        refine lv_iload_n hx hb dX4_layers_27 rfl (lv_at hl 3 rfl) ?_
        refine lv_ishl hx hb dX4_layers_28 ?_
        refine lv_ior hx hb dX4_layers_29 ?_
        obtain ⟨z5, e_z5, h⟩ := nm_some h
        refine tpi e_z5 ?_
        refine lv_istore_n (lv' := [(2, .int z5), (0, .ref (a 1)), (1, .int x1), (3, .int x3)]) hx hb dX4_layers_30 rfl hl (by decide) rfl (fun ls hl => ?_)
        exact wX4_layers_J31 C hZ hK hP r F kb x1 z5 x3 hkb ls (lv_sub hl [1, 2, 0, 3] rfl) h
set_option maxHeartbeats 4000000 in
set_option maxRecDepth 100000 in
theorem kX4_layers (l : Launch) (D : va_G) (cs : Nat → ClassId) (a : Nat → Nat) (sh : Nat → Option Nat) (LP : List Nat) (Z : ZT) (hZ : shOK sh LP Z) (σ : Nat → Nat → Int32) (F : Nat) (x1 : Int32) (r : Int32) (h : fX4_layers F sh Z σ x1 = some r) : Met l yX4_layers wsX4_layers rmX4_layers (va_Pc [.ref (a 1), .int x1] (pR D cs (cW a cs sh LP Z σ))) (vp_Si (fun x => x = r)) 0 0 (fun _ => False) := by
  refine Met.ofW (cc := cX4_layers) (maxL := 4) (ret := (some .int)) (by decide) rfl ?_
  intro p e s m args below meth c s₁ B hml hv
  obtain ⟨rfl, hP, hK⟩ := hv
  have C : cxt p s m _ meth c cX4_layers 4 RX4 wsX4_layers (some .int) := ⟨B.exec, B.bytes, hml, findClass_of_methodNamed B.named, atoms_spec (ws := wsX4_layers) B.pre, B.returns, B.notSynchronized⟩
  obtain ⟨hx, hb, -, hown, hts, hr, hlk⟩ := id C
  refine entryW [.ref (a 1), .int x1] (n := 4) (Nat.le_of_ble_eq_true rfl) (fun ls hl => ?_)
  have hl : lv_has ls 4 [(0, .ref (a 1)), (1, .int x1)] := hl
  unfold fX4_layers at h
  refine lv_iconst (v := (0 : Int32)) hx hb dX4_layers_0 (by decide) ?_
  refine lv_istore_n (lv' := [(2, .int (0 : Int32)), (0, .ref (a 1)), (1, .int x1)]) hx hb dX4_layers_1 rfl hl (by decide) rfl (fun ls hl => ?_)
  refine lv_iconst (v := (0 : Int32)) hx hb dX4_layers_2 (by decide) ?_
  refine lv_istore_n (lv' := [(3, .int (0 : Int32)), (2, .int (0 : Int32)), (0, .ref (a 1)), (1, .int x1)]) hx hb dX4_layers_3 rfl hl (by decide) rfl (fun ls hl => ?_)
  refine wX4_layers_L4 C hZ hK hP r F x1 _ ?_ F (0 : Int32) (0 : Int32) ls (lv_sub hl [2, 3, 1, 0] rfl) h
  intro y1 ls hl h
  refine lv_iload_n hx hb dX4_layers_37 rfl (lv_at hl 0 rfl) ?_
  exact mretS hx hb hr hlk h dX4_layers_38
def fX4_cellsThatLook_J33 (F : Nat) (sh : Nat → Option Nat) (Z : ZT) (kb : Int32 → Int32 → Option Int32) (x1 : Int32) (x2 : Int32) (x3 : Int32) (x4 : Int32) (σ : Nat → Nat → Int32) : Option Int32 :=
  kb x2 (x4 + (1 : Int32))
def fX4_cellsThatLook_L13 (F : Nat) (sh : Nat → Option Nat) (Z : ZT) (σ : Nat → Nat → Int32) (x1 : Int32) (x3 : Int32) (kx : Int32 → Option Int32) : Nat → Int32 → Int32 → Option Int32
  | 0, _, _ => none
  | n+1, x2, x4 =>
    nb ((fun x2 x4 => fX4_cellsThatLook_L13 F sh Z σ x1 x3 kx n x2 x4)) fun kb =>
    if (4 : Int32) ≤ x4 then (kx x2) else (bd (fX4_look F sh Z σ x3 x4) fun v3 => if ¬ v3 = x1 then (fX4_cellsThatLook_J33 F sh Z kb x1 x2 x3 x4 σ) else (fX4_cellsThatLook_J33 F sh Z kb x1 (x2 + (1 : Int32)) x3 x4 σ))
def fX4_cellsThatLook_L4 (F : Nat) (sh : Nat → Option Nat) (Z : ZT) (σ : Nat → Nat → Int32) (x1 : Int32) (kx : Int32 → Option Int32) : Nat → Int32 → Int32 → Option Int32
  | 0, _, _ => none
  | n+1, x2, x3 =>
    nb ((fun x2 x3 => fX4_cellsThatLook_L4 F sh Z σ x1 kx n x2 x3)) fun kb =>
    if (64 : Int32) ≤ x3 then (kx x2) else (fX4_cellsThatLook_L13 F sh Z σ x1 x3 (fun y2 => kb y2 (x3 + (1 : Int32))) F x2 (0 : Int32))
def fX4_cellsThatLook (F : Nat) (sh : Nat → Option Nat) (Z : ZT) (σ : Nat → Nat → Int32) (x1 : Int32) : Option Int32 :=
  fX4_cellsThatLook_L4 F sh Z σ x1 (fun y1 => some y1) F (0 : Int32) (0 : Int32)
abbrev rmX4_cellsThatLook : Room := { frames := 4, cells := 0, slots := 0, locals := 87 }
set_option maxHeartbeats 4000000 in
set_option maxRecDepth 100000 in
theorem wX4_cellsThatLook_J33 {p : Program} {l : Launch} {e : Env} {s : State} {m : MethodId} {args : Array Value} {below : List Frame} {meth : Method} {c : Code} (C : cxt p s m args meth c cX4_cellsThatLook 5 RX4 wsX4_cellsThatLook (some .int)) {D : va_G} {cs : Nat → ClassId} {a : Nat → Nat} {sh : Nat → Option Nat} {LP : List Nat} {Z : ZT} (hZ : shOK sh LP Z) (hK : KK D cs s) {σ : Nat → Nat → Int32} (hP : va_P D vwCl (cW a cs sh LP Z σ) s.heap) (r : Int32) (F : Nat) (kb : Int32 → Int32 → Option Int32) (x1 : Int32) (x2 : Int32) (x3 : Int32) (x4 : Int32) (hkb : ∀ (x2 : Int32) (x4 : Int32) (ls : Array Slot), lv_has ls 5 [(0, .ref (a 1)), (1, .int x1), (2, .int x2), (3, .int x3), (4, .int x4)] → kb x2 x4 = some r → W p l e rmX4_cellsThatLook s m args below meth c s.heap [] 0 0 (MQ below (vp_Si (fun x => x = r)) args s 0 0 (fun _ => False)) (F0 m 13 ls [])) (ls : Array Slot) (hl : lv_has ls 5 [(0, .ref (a 1)), (1, .int x1), (2, .int x2), (3, .int x3), (4, .int x4)]) (h : fX4_cellsThatLook_J33 F sh Z kb x1 x2 x3 x4 σ = some r) : W p l e rmX4_cellsThatLook s m args below meth c s.heap [] 0 0 (MQ below (vp_Si (fun x => x = r)) args s 0 0 (fun _ => False)) (F0 m 33 ls []) := by
  obtain ⟨hx, hb, hml, hown, hts, hr, hlk⟩ := id C
  unfold fX4_cellsThatLook_J33 at h
  refine lv_iinc (v := x4 + (1 : Int32)) (lv' := [(4, .int (x4 + (1 : Int32))), (0, .ref (a 1)), (1, .int x1), (2, .int x2), (3, .int x3)]) hx hb dX4_cellsThatLook_33 hl (k := 4) rfl rfl (by decide) rfl (fun ls hl => ?_)
  refine lv_goto (tgt := 13) hx hb dX4_cellsThatLook_36 (by decide) ?_
  exact hkb x2 (x4 + (1 : Int32)) ls (lv_sub hl [1, 2, 3, 4, 0] rfl) h
set_option maxHeartbeats 4000000 in
set_option maxRecDepth 100000 in
theorem wX4_cellsThatLook_L13 {p : Program} {l : Launch} {e : Env} {s : State} {m : MethodId} {args : Array Value} {below : List Frame} {meth : Method} {c : Code} (C : cxt p s m args meth c cX4_cellsThatLook 5 RX4 wsX4_cellsThatLook (some .int)) {D : va_G} {cs : Nat → ClassId} {a : Nat → Nat} {sh : Nat → Option Nat} {LP : List Nat} {Z : ZT} (hZ : shOK sh LP Z) (hK : KK D cs s) {σ : Nat → Nat → Int32} (hP : va_P D vwCl (cW a cs sh LP Z σ) s.heap) (r : Int32) (F : Nat) (x1 : Int32) (x3 : Int32) (kx : Int32 → Option Int32) (hkx : ∀ (x2 : Int32) (ls : Array Slot), lv_has ls 5 [(0, .ref (a 1)), (1, .int x1), (2, .int x2), (3, .int x3)] → kx x2 = some r → W p l e rmX4_cellsThatLook s m args below meth c s.heap [] 0 0 (MQ below (vp_Si (fun x => x = r)) args s 0 0 (fun _ => False)) (F0 m 39 ls [])) : ∀ (n : Nat) (x2 : Int32) (x4 : Int32) (ls : Array Slot), lv_has ls 5 [(0, .ref (a 1)), (1, .int x1), (2, .int x2), (3, .int x3), (4, .int x4)] → fX4_cellsThatLook_L13 F sh Z σ x1 x3 kx n x2 x4 = some r → W p l e rmX4_cellsThatLook s m args below meth c s.heap [] 0 0 (MQ below (vp_Si (fun x => x = r)) args s 0 0 (fun _ => False)) (F0 m 13 ls []) := by
  obtain ⟨hx, hb, hml, hown, hts, hr, hlk⟩ := id C
  intro n
  induction n with
  | zero =>
    intros
    rename_i h
    cases h
  | succ n ih =>
    intro x2 x4 ls hl h
    rw [fX4_cellsThatLook_L13] at h
    obtain ⟨kb, hkb, h⟩ := nb_some (P := fun (kb : Int32 → Int32 → Option Int32) => ∀ (x2 : Int32) (x4 : Int32) (ls : Array Slot), lv_has ls 5 [(0, .ref (a 1)), (1, .int x1), (2, .int x2), (3, .int x3), (4, .int x4)] → kb x2 x4 = some r → W p l e rmX4_cellsThatLook s m args below meth c s.heap [] 0 0 (MQ below (vp_Si (fun x => x = r)) args s 0 0 (fun _ => False)) (F0 m 13 ls [])) h ih
    refine lv_iload hx hb dX4_cellsThatLook_13 (lv_at hl 4 rfl) ?_
    refine lv_iconst (v := (4 : Int32)) hx hb dX4_cellsThatLook_15 (by decide) ?_
    refine lv_icmp_ge (tgt := 39) hx hb dX4_cellsThatLook_16 (by decide) (fun c2 => ?_) (fun c2 => ?_)
    · have h := it_t c2 h
      exact hkx x2 ls (lv_sub hl [0, 1, 2, 3] rfl) h
    · have h := it_f c2 h
      refine lv_aload_n hx hb dX4_cellsThatLook_19 rfl (lv_at hl 0 rfl) ?_
      refine lv_iload_n hx hb dX4_cellsThatLook_20 rfl (lv_at hl 3 rfl) ?_
      refine lv_iload hx hb dX4_cellsThatLook_21 (lv_at hl 4 rfl) ?_
      obtain ⟨v3, hc_v3, h⟩ := bd_some h
      refine mcallS (va_runV (As := [.int x3, .int x4]) (rest := []) ⟨hx, hb, hml, hown, hts⟩ (kX4_look l D cs a sh LP Z hZ σ F x3 x4 v3 hc_v3) (cwV 2 hts gX4_cellsThatLook_X4_look rfl rfl rfl (by decide +kernel) ⟨Nat.le_of_ble_eq_true rfl, Nat.le_of_ble_eq_true rfl⟩) (pR_v hP hK (va_recv hK.1 hP (ci := 4) (q0 := 1) rfl rfl)) rfl rfl hl.1 rfl (lv_room (Nat.le_of_ble_eq_true rfl)) dX4_cellsThatLook_23 ⟨Nat.zero_le _, Nat.zero_le _⟩) ?_
      refine lv_iload_n hx hb dX4_cellsThatLook_26 rfl (lv_at hl 1 rfl) ?_
      refine lv_icmp_ne (tgt := 33) hx hb dX4_cellsThatLook_27 (by decide) (fun c4 => ?_) (fun c4 => ?_)
      · have h := it_t c4 h
        exact wX4_cellsThatLook_J33 C hZ hK hP r F kb x1 x2 x3 x4 hkb ls (lv_sub hl [0, 1, 2, 3, 4] rfl) h
      · have h := it_n c4 h
        refine lv_iinc (v := x2 + (1 : Int32)) (lv' := [(2, .int (x2 + (1 : Int32))), (0, .ref (a 1)), (1, .int x1), (3, .int x3), (4, .int x4)]) hx hb dX4_cellsThatLook_30 hl (k := 2) rfl rfl (by decide) rfl (fun ls hl => ?_)
        exact wX4_cellsThatLook_J33 C hZ hK hP r F kb x1 (x2 + (1 : Int32)) x3 x4 hkb ls (lv_sub hl [1, 2, 0, 3, 4] rfl) h
set_option maxHeartbeats 4000000 in
set_option maxRecDepth 100000 in
theorem wX4_cellsThatLook_L4 {p : Program} {l : Launch} {e : Env} {s : State} {m : MethodId} {args : Array Value} {below : List Frame} {meth : Method} {c : Code} (C : cxt p s m args meth c cX4_cellsThatLook 5 RX4 wsX4_cellsThatLook (some .int)) {D : va_G} {cs : Nat → ClassId} {a : Nat → Nat} {sh : Nat → Option Nat} {LP : List Nat} {Z : ZT} (hZ : shOK sh LP Z) (hK : KK D cs s) {σ : Nat → Nat → Int32} (hP : va_P D vwCl (cW a cs sh LP Z σ) s.heap) (r : Int32) (F : Nat) (x1 : Int32) (kx : Int32 → Option Int32) (hkx : ∀ (x2 : Int32) (ls : Array Slot), lv_has ls 5 [(2, .int x2)] → kx x2 = some r → W p l e rmX4_cellsThatLook s m args below meth c s.heap [] 0 0 (MQ below (vp_Si (fun x => x = r)) args s 0 0 (fun _ => False)) (F0 m 45 ls [])) : ∀ (n : Nat) (x2 : Int32) (x3 : Int32) (ls : Array Slot), lv_has ls 5 [(0, .ref (a 1)), (1, .int x1), (2, .int x2), (3, .int x3)] → fX4_cellsThatLook_L4 F sh Z σ x1 kx n x2 x3 = some r → W p l e rmX4_cellsThatLook s m args below meth c s.heap [] 0 0 (MQ below (vp_Si (fun x => x = r)) args s 0 0 (fun _ => False)) (F0 m 4 ls []) := by
  obtain ⟨hx, hb, hml, hown, hts, hr, hlk⟩ := id C
  intro n
  induction n with
  | zero =>
    intros
    rename_i h
    cases h
  | succ n ih =>
    intro x2 x3 ls hl h
    rw [fX4_cellsThatLook_L4] at h
    obtain ⟨kb, hkb, h⟩ := nb_some (P := fun (kb : Int32 → Int32 → Option Int32) => ∀ (x2 : Int32) (x3 : Int32) (ls : Array Slot), lv_has ls 5 [(0, .ref (a 1)), (1, .int x1), (2, .int x2), (3, .int x3)] → kb x2 x3 = some r → W p l e rmX4_cellsThatLook s m args below meth c s.heap [] 0 0 (MQ below (vp_Si (fun x => x = r)) args s 0 0 (fun _ => False)) (F0 m 4 ls [])) h ih
    refine lv_iload_n hx hb dX4_cellsThatLook_4 rfl (lv_at hl 3 rfl) ?_
    refine lv_bipush (v := (64 : Int32)) hx hb dX4_cellsThatLook_5 (by decide) ?_
    refine lv_icmp_ge (tgt := 45) hx hb dX4_cellsThatLook_7 (by decide) (fun c1 => ?_) (fun c1 => ?_)
    · have h := it_t c1 h
      exact hkx x2 ls (lv_sub hl [2] rfl) h
    · have h := it_f c1 h
      refine lv_iconst (v := (0 : Int32)) hx hb dX4_cellsThatLook_10 (by decide) ?_
      refine lv_istore (lv' := [(4, .int (0 : Int32)), (0, .ref (a 1)), (1, .int x1), (2, .int x2), (3, .int x3)]) hx hb dX4_cellsThatLook_11 hl (by decide) rfl (fun ls hl => ?_)
      refine wX4_cellsThatLook_L13 C hZ hK hP r F x1 x3 _ ?_ F x2 (0 : Int32) ls (lv_sub hl [1, 2, 3, 4, 0] rfl) h
      intro y2 ls hl h
      refine lv_iinc (v := x3 + (1 : Int32)) (lv' := [(3, .int (x3 + (1 : Int32))), (0, .ref (a 1)), (1, .int x1), (2, .int y2)]) hx hb dX4_cellsThatLook_39 hl (k := 3) rfl rfl (by decide) rfl (fun ls hl => ?_)
      refine lv_goto (tgt := 4) hx hb dX4_cellsThatLook_42 (by decide) ?_
      exact hkb y2 (x3 + (1 : Int32)) ls (lv_sub hl [1, 2, 3, 0] rfl) h
set_option maxHeartbeats 4000000 in
set_option maxRecDepth 100000 in
theorem kX4_cellsThatLook (l : Launch) (D : va_G) (cs : Nat → ClassId) (a : Nat → Nat) (sh : Nat → Option Nat) (LP : List Nat) (Z : ZT) (hZ : shOK sh LP Z) (σ : Nat → Nat → Int32) (F : Nat) (x1 : Int32) (r : Int32) (h : fX4_cellsThatLook F sh Z σ x1 = some r) : Met l yX4_cellsThatLook wsX4_cellsThatLook rmX4_cellsThatLook (va_Pc [.ref (a 1), .int x1] (pR D cs (cW a cs sh LP Z σ))) (vp_Si (fun x => x = r)) 0 0 (fun _ => False) := by
  refine Met.ofW (cc := cX4_cellsThatLook) (maxL := 5) (ret := (some .int)) (by decide) rfl ?_
  intro p e s m args below meth c s₁ B hml hv
  obtain ⟨rfl, hP, hK⟩ := hv
  have C : cxt p s m _ meth c cX4_cellsThatLook 5 RX4 wsX4_cellsThatLook (some .int) := ⟨B.exec, B.bytes, hml, findClass_of_methodNamed B.named, atoms_spec (ws := wsX4_cellsThatLook) B.pre, B.returns, B.notSynchronized⟩
  obtain ⟨hx, hb, -, hown, hts, hr, hlk⟩ := id C
  refine entryW [.ref (a 1), .int x1] (n := 5) (Nat.le_of_ble_eq_true rfl) (fun ls hl => ?_)
  have hl : lv_has ls 5 [(0, .ref (a 1)), (1, .int x1)] := hl
  unfold fX4_cellsThatLook at h
  refine lv_iconst (v := (0 : Int32)) hx hb dX4_cellsThatLook_0 (by decide) ?_
  refine lv_istore_n (lv' := [(2, .int (0 : Int32)), (0, .ref (a 1)), (1, .int x1)]) hx hb dX4_cellsThatLook_1 rfl hl (by decide) rfl (fun ls hl => ?_)
  refine lv_iconst (v := (0 : Int32)) hx hb dX4_cellsThatLook_2 (by decide) ?_
  refine lv_istore_n (lv' := [(3, .int (0 : Int32)), (2, .int (0 : Int32)), (0, .ref (a 1)), (1, .int x1)]) hx hb dX4_cellsThatLook_3 rfl hl (by decide) rfl (fun ls hl => ?_)
  refine wX4_cellsThatLook_L4 C hZ hK hP r F x1 _ ?_ F (0 : Int32) (0 : Int32) ls (lv_sub hl [2, 3, 1, 0] rfl) h
  intro y1 ls hl h
  refine lv_iload_n hx hb dX4_cellsThatLook_45 rfl (lv_at hl 0 rfl) ?_
  exact mretS hx hb hr hlk h dX4_cellsThatLook_46
def fX4_cellsUnlikeQuarterNought_J40 (F : Nat) (sh : Nat → Option Nat) (Z : ZT) (kb : Int32 → Int32 → Option Int32) (x1 : Int32) (x2 : Int32) (x3 : Int32) (x4 : Int32) (σ : Nat → Nat → Int32) : Option Int32 :=
  kb x1 (x4 + (1 : Int32))
def fX4_cellsUnlikeQuarterNought_L20 (F : Nat) (sh : Nat → Option Nat) (Z : ZT) (σ : Nat → Nat → Int32) (x2 : Int32) (x3 : Int32) (kx : Int32 → Option Int32) : Nat → Int32 → Int32 → Option Int32
  | 0, _, _ => none
  | n+1, x1, x4 =>
    nb ((fun x1 x4 => fX4_cellsUnlikeQuarterNought_L20 F sh Z σ x2 x3 kx n x1 x4)) fun kb =>
    if (4 : Int32) ≤ x4 then (kx x1) else (bd (fX4_look F sh Z σ x2 x4) fun v4 => if v4 = x3 then (fX4_cellsUnlikeQuarterNought_J40 F sh Z kb x1 x2 x3 x4 σ) else (fX4_cellsUnlikeQuarterNought_J40 F sh Z kb (x1 + (1 : Int32)) x2 x3 x4 σ))
def fX4_cellsUnlikeQuarterNought_L4 (F : Nat) (sh : Nat → Option Nat) (Z : ZT) (σ : Nat → Nat → Int32) (kx : Int32 → Option Int32) : Nat → Int32 → Int32 → Option Int32
  | 0, _, _ => none
  | n+1, x1, x2 =>
    nb ((fun x1 x2 => fX4_cellsUnlikeQuarterNought_L4 F sh Z σ kx n x1 x2)) fun kb =>
    if (64 : Int32) ≤ x2 then (kx x1) else (bd (fX4_look F sh Z σ x2 (0 : Int32)) fun v2 => fX4_cellsUnlikeQuarterNought_L20 F sh Z σ x2 v2 (fun y3 => kb y3 (x2 + (1 : Int32))) F x1 (1 : Int32))
def fX4_cellsUnlikeQuarterNought (F : Nat) (sh : Nat → Option Nat) (Z : ZT) (σ : Nat → Nat → Int32)  : Option Int32 :=
  fX4_cellsUnlikeQuarterNought_L4 F sh Z σ (fun y1 => some y1) F (0 : Int32) (0 : Int32)
abbrev rmX4_cellsUnlikeQuarterNought : Room := { frames := 4, cells := 0, slots := 0, locals := 87 }
set_option maxHeartbeats 4000000 in
set_option maxRecDepth 100000 in
theorem wX4_cellsUnlikeQuarterNought_J40 {p : Program} {l : Launch} {e : Env} {s : State} {m : MethodId} {args : Array Value} {below : List Frame} {meth : Method} {c : Code} (C : cxt p s m args meth c cX4_cellsUnlikeQuarterNought 5 RX4 wsX4_cellsUnlikeQuarterNought (some .int)) {D : va_G} {cs : Nat → ClassId} {a : Nat → Nat} {sh : Nat → Option Nat} {LP : List Nat} {Z : ZT} (hZ : shOK sh LP Z) (hK : KK D cs s) {σ : Nat → Nat → Int32} (hP : va_P D vwCl (cW a cs sh LP Z σ) s.heap) (r : Int32) (F : Nat) (kb : Int32 → Int32 → Option Int32) (x1 : Int32) (x2 : Int32) (x3 : Int32) (x4 : Int32) (hkb : ∀ (x1 : Int32) (x4 : Int32) (ls : Array Slot), lv_has ls 5 [(0, .ref (a 1)), (1, .int x1), (2, .int x2), (3, .int x3), (4, .int x4)] → kb x1 x4 = some r → W p l e rmX4_cellsUnlikeQuarterNought s m args below meth c s.heap [] 0 0 (MQ below (vp_Si (fun x => x = r)) args s 0 0 (fun _ => False)) (F0 m 20 ls [])) (ls : Array Slot) (hl : lv_has ls 5 [(0, .ref (a 1)), (1, .int x1), (2, .int x2), (3, .int x3), (4, .int x4)]) (h : fX4_cellsUnlikeQuarterNought_J40 F sh Z kb x1 x2 x3 x4 σ = some r) : W p l e rmX4_cellsUnlikeQuarterNought s m args below meth c s.heap [] 0 0 (MQ below (vp_Si (fun x => x = r)) args s 0 0 (fun _ => False)) (F0 m 40 ls []) := by
  obtain ⟨hx, hb, hml, hown, hts, hr, hlk⟩ := id C
  unfold fX4_cellsUnlikeQuarterNought_J40 at h
  refine lv_iinc (v := x4 + (1 : Int32)) (lv' := [(4, .int (x4 + (1 : Int32))), (0, .ref (a 1)), (1, .int x1), (2, .int x2), (3, .int x3)]) hx hb dX4_cellsUnlikeQuarterNought_40 hl (k := 4) rfl rfl (by decide) rfl (fun ls hl => ?_)
  refine lv_goto (tgt := 20) hx hb dX4_cellsUnlikeQuarterNought_43 (by decide) ?_
  exact hkb x1 (x4 + (1 : Int32)) ls (lv_sub hl [1, 2, 3, 4, 0] rfl) h
set_option maxHeartbeats 4000000 in
set_option maxRecDepth 100000 in
theorem wX4_cellsUnlikeQuarterNought_L20 {p : Program} {l : Launch} {e : Env} {s : State} {m : MethodId} {args : Array Value} {below : List Frame} {meth : Method} {c : Code} (C : cxt p s m args meth c cX4_cellsUnlikeQuarterNought 5 RX4 wsX4_cellsUnlikeQuarterNought (some .int)) {D : va_G} {cs : Nat → ClassId} {a : Nat → Nat} {sh : Nat → Option Nat} {LP : List Nat} {Z : ZT} (hZ : shOK sh LP Z) (hK : KK D cs s) {σ : Nat → Nat → Int32} (hP : va_P D vwCl (cW a cs sh LP Z σ) s.heap) (r : Int32) (F : Nat) (x2 : Int32) (x3 : Int32) (kx : Int32 → Option Int32) (hkx : ∀ (x1 : Int32) (ls : Array Slot), lv_has ls 5 [(0, .ref (a 1)), (1, .int x1), (2, .int x2)] → kx x1 = some r → W p l e rmX4_cellsUnlikeQuarterNought s m args below meth c s.heap [] 0 0 (MQ below (vp_Si (fun x => x = r)) args s 0 0 (fun _ => False)) (F0 m 46 ls [])) : ∀ (n : Nat) (x1 : Int32) (x4 : Int32) (ls : Array Slot), lv_has ls 5 [(0, .ref (a 1)), (1, .int x1), (2, .int x2), (3, .int x3), (4, .int x4)] → fX4_cellsUnlikeQuarterNought_L20 F sh Z σ x2 x3 kx n x1 x4 = some r → W p l e rmX4_cellsUnlikeQuarterNought s m args below meth c s.heap [] 0 0 (MQ below (vp_Si (fun x => x = r)) args s 0 0 (fun _ => False)) (F0 m 20 ls []) := by
  obtain ⟨hx, hb, hml, hown, hts, hr, hlk⟩ := id C
  intro n
  induction n with
  | zero =>
    intros
    rename_i h
    cases h
  | succ n ih =>
    intro x1 x4 ls hl h
    rw [fX4_cellsUnlikeQuarterNought_L20] at h
    obtain ⟨kb, hkb, h⟩ := nb_some (P := fun (kb : Int32 → Int32 → Option Int32) => ∀ (x1 : Int32) (x4 : Int32) (ls : Array Slot), lv_has ls 5 [(0, .ref (a 1)), (1, .int x1), (2, .int x2), (3, .int x3), (4, .int x4)] → kb x1 x4 = some r → W p l e rmX4_cellsUnlikeQuarterNought s m args below meth c s.heap [] 0 0 (MQ below (vp_Si (fun x => x = r)) args s 0 0 (fun _ => False)) (F0 m 20 ls [])) h ih
    refine lv_iload hx hb dX4_cellsUnlikeQuarterNought_20 (lv_at hl 4 rfl) ?_
    refine lv_iconst (v := (4 : Int32)) hx hb dX4_cellsUnlikeQuarterNought_22 (by decide) ?_
    refine lv_icmp_ge (tgt := 46) hx hb dX4_cellsUnlikeQuarterNought_23 (by decide) (fun c3 => ?_) (fun c3 => ?_)
    · have h := it_t c3 h
      exact hkx x1 ls (lv_sub hl [0, 1, 2] rfl) h
    · have h := it_f c3 h
      refine lv_aload_n hx hb dX4_cellsUnlikeQuarterNought_26 rfl (lv_at hl 0 rfl) ?_
      refine lv_iload_n hx hb dX4_cellsUnlikeQuarterNought_27 rfl (lv_at hl 2 rfl) ?_
      refine lv_iload hx hb dX4_cellsUnlikeQuarterNought_28 (lv_at hl 4 rfl) ?_
      obtain ⟨v4, hc_v4, h⟩ := bd_some h
      refine mcallS (va_runV (As := [.int x2, .int x4]) (rest := []) ⟨hx, hb, hml, hown, hts⟩ (kX4_look l D cs a sh LP Z hZ σ F x2 x4 v4 hc_v4) (cwV 2 hts gX4_cellsUnlikeQuarterNought_X4_look rfl rfl rfl (by decide +kernel) ⟨Nat.le_of_ble_eq_true rfl, Nat.le_of_ble_eq_true rfl⟩) (pR_v hP hK (va_recv hK.1 hP (ci := 4) (q0 := 1) rfl rfl)) rfl rfl hl.1 rfl (lv_room (Nat.le_of_ble_eq_true rfl)) dX4_cellsUnlikeQuarterNought_30 ⟨Nat.zero_le _, Nat.zero_le _⟩) ?_
      refine lv_iload_n hx hb dX4_cellsUnlikeQuarterNought_33 rfl (lv_at hl 3 rfl) ?_
      refine lv_icmp_eq (tgt := 40) hx hb dX4_cellsUnlikeQuarterNought_34 (by decide) (fun c5 => ?_) (fun c5 => ?_)
      · have h := it_t c5 h
        exact wX4_cellsUnlikeQuarterNought_J40 C hZ hK hP r F kb x1 x2 x3 x4 hkb ls (lv_sub hl [0, 1, 2, 3, 4] rfl) h
      · have h := it_f c5 h
        refine lv_iinc (v := x1 + (1 : Int32)) (lv' := [(1, .int (x1 + (1 : Int32))), (0, .ref (a 1)), (2, .int x2), (3, .int x3), (4, .int x4)]) hx hb dX4_cellsUnlikeQuarterNought_37 hl (k := 1) rfl rfl (by decide) rfl (fun ls hl => ?_)
        exact wX4_cellsUnlikeQuarterNought_J40 C hZ hK hP r F kb (x1 + (1 : Int32)) x2 x3 x4 hkb ls (lv_sub hl [1, 0, 2, 3, 4] rfl) h
set_option maxHeartbeats 4000000 in
set_option maxRecDepth 100000 in
theorem wX4_cellsUnlikeQuarterNought_L4 {p : Program} {l : Launch} {e : Env} {s : State} {m : MethodId} {args : Array Value} {below : List Frame} {meth : Method} {c : Code} (C : cxt p s m args meth c cX4_cellsUnlikeQuarterNought 5 RX4 wsX4_cellsUnlikeQuarterNought (some .int)) {D : va_G} {cs : Nat → ClassId} {a : Nat → Nat} {sh : Nat → Option Nat} {LP : List Nat} {Z : ZT} (hZ : shOK sh LP Z) (hK : KK D cs s) {σ : Nat → Nat → Int32} (hP : va_P D vwCl (cW a cs sh LP Z σ) s.heap) (r : Int32) (F : Nat) (kx : Int32 → Option Int32) (hkx : ∀ (x1 : Int32) (ls : Array Slot), lv_has ls 5 [(1, .int x1)] → kx x1 = some r → W p l e rmX4_cellsUnlikeQuarterNought s m args below meth c s.heap [] 0 0 (MQ below (vp_Si (fun x => x = r)) args s 0 0 (fun _ => False)) (F0 m 52 ls [])) : ∀ (n : Nat) (x1 : Int32) (x2 : Int32) (ls : Array Slot), lv_has ls 5 [(0, .ref (a 1)), (1, .int x1), (2, .int x2)] → fX4_cellsUnlikeQuarterNought_L4 F sh Z σ kx n x1 x2 = some r → W p l e rmX4_cellsUnlikeQuarterNought s m args below meth c s.heap [] 0 0 (MQ below (vp_Si (fun x => x = r)) args s 0 0 (fun _ => False)) (F0 m 4 ls []) := by
  obtain ⟨hx, hb, hml, hown, hts, hr, hlk⟩ := id C
  intro n
  induction n with
  | zero =>
    intros
    rename_i h
    cases h
  | succ n ih =>
    intro x1 x2 ls hl h
    rw [fX4_cellsUnlikeQuarterNought_L4] at h
    obtain ⟨kb, hkb, h⟩ := nb_some (P := fun (kb : Int32 → Int32 → Option Int32) => ∀ (x1 : Int32) (x2 : Int32) (ls : Array Slot), lv_has ls 5 [(0, .ref (a 1)), (1, .int x1), (2, .int x2)] → kb x1 x2 = some r → W p l e rmX4_cellsUnlikeQuarterNought s m args below meth c s.heap [] 0 0 (MQ below (vp_Si (fun x => x = r)) args s 0 0 (fun _ => False)) (F0 m 4 ls [])) h ih
    refine lv_iload_n hx hb dX4_cellsUnlikeQuarterNought_4 rfl (lv_at hl 2 rfl) ?_
    refine lv_bipush (v := (64 : Int32)) hx hb dX4_cellsUnlikeQuarterNought_5 (by decide) ?_
    refine lv_icmp_ge (tgt := 52) hx hb dX4_cellsUnlikeQuarterNought_7 (by decide) (fun c1 => ?_) (fun c1 => ?_)
    · have h := it_t c1 h
      exact hkx x1 ls (lv_sub hl [1] rfl) h
    · have h := it_f c1 h
      refine lv_aload_n hx hb dX4_cellsUnlikeQuarterNought_10 rfl (lv_at hl 0 rfl) ?_
      refine lv_iload_n hx hb dX4_cellsUnlikeQuarterNought_11 rfl (lv_at hl 2 rfl) ?_
      refine lv_iconst (v := (0 : Int32)) hx hb dX4_cellsUnlikeQuarterNought_12 (by decide) ?_
      obtain ⟨v2, hc_v2, h⟩ := bd_some h
      refine mcallS (va_runV (As := [.int x2, .int (0 : Int32)]) (rest := []) ⟨hx, hb, hml, hown, hts⟩ (kX4_look l D cs a sh LP Z hZ σ F x2 (0 : Int32) v2 hc_v2) (cwV 2 hts gX4_cellsUnlikeQuarterNought_X4_look rfl rfl rfl (by decide +kernel) ⟨Nat.le_of_ble_eq_true rfl, Nat.le_of_ble_eq_true rfl⟩) (pR_v hP hK (va_recv hK.1 hP (ci := 4) (q0 := 1) rfl rfl)) rfl rfl hl.1 rfl (lv_room (Nat.le_of_ble_eq_true rfl)) dX4_cellsUnlikeQuarterNought_13 ⟨Nat.zero_le _, Nat.zero_le _⟩) ?_
      refine lv_istore_n (lv' := [(3, .int v2), (0, .ref (a 1)), (1, .int x1), (2, .int x2)]) hx hb dX4_cellsUnlikeQuarterNought_16 rfl hl (by decide) rfl (fun ls hl => ?_)
      refine lv_iconst (v := (1 : Int32)) hx hb dX4_cellsUnlikeQuarterNought_17 (by decide) ?_
      refine lv_istore (lv' := [(4, .int (1 : Int32)), (3, .int v2), (0, .ref (a 1)), (1, .int x1), (2, .int x2)]) hx hb dX4_cellsUnlikeQuarterNought_18 hl (by decide) rfl (fun ls hl => ?_)
      refine wX4_cellsUnlikeQuarterNought_L20 C hZ hK hP r F x2 v2 _ ?_ F x1 (1 : Int32) ls (lv_sub hl [2, 3, 4, 1, 0] rfl) h
      intro y3 ls hl h
      refine lv_iinc (v := x2 + (1 : Int32)) (lv' := [(2, .int (x2 + (1 : Int32))), (0, .ref (a 1)), (1, .int y3)]) hx hb dX4_cellsUnlikeQuarterNought_46 hl (k := 2) rfl rfl (by decide) rfl (fun ls hl => ?_)
      refine lv_goto (tgt := 4) hx hb dX4_cellsUnlikeQuarterNought_49 (by decide) ?_
      exact hkb y3 (x2 + (1 : Int32)) ls (lv_sub hl [1, 2, 0] rfl) h
set_option maxHeartbeats 4000000 in
set_option maxRecDepth 100000 in
theorem kX4_cellsUnlikeQuarterNought (l : Launch) (D : va_G) (cs : Nat → ClassId) (a : Nat → Nat) (sh : Nat → Option Nat) (LP : List Nat) (Z : ZT) (hZ : shOK sh LP Z) (σ : Nat → Nat → Int32) (F : Nat)  (r : Int32) (h : fX4_cellsUnlikeQuarterNought F sh Z σ = some r) : Met l yX4_cellsUnlikeQuarterNought wsX4_cellsUnlikeQuarterNought rmX4_cellsUnlikeQuarterNought (va_Pc [.ref (a 1)] (pR D cs (cW a cs sh LP Z σ))) (vp_Si (fun x => x = r)) 0 0 (fun _ => False) := by
  refine Met.ofW (cc := cX4_cellsUnlikeQuarterNought) (maxL := 5) (ret := (some .int)) (by decide) rfl ?_
  intro p e s m args below meth c s₁ B hml hv
  obtain ⟨rfl, hP, hK⟩ := hv
  have C : cxt p s m _ meth c cX4_cellsUnlikeQuarterNought 5 RX4 wsX4_cellsUnlikeQuarterNought (some .int) := ⟨B.exec, B.bytes, hml, findClass_of_methodNamed B.named, atoms_spec (ws := wsX4_cellsUnlikeQuarterNought) B.pre, B.returns, B.notSynchronized⟩
  obtain ⟨hx, hb, -, hown, hts, hr, hlk⟩ := id C
  refine entryW [.ref (a 1)] (n := 5) (Nat.le_of_ble_eq_true rfl) (fun ls hl => ?_)
  have hl : lv_has ls 5 [(0, .ref (a 1))] := hl
  unfold fX4_cellsUnlikeQuarterNought at h
  refine lv_iconst (v := (0 : Int32)) hx hb dX4_cellsUnlikeQuarterNought_0 (by decide) ?_
  refine lv_istore_n (lv' := [(1, .int (0 : Int32)), (0, .ref (a 1))]) hx hb dX4_cellsUnlikeQuarterNought_1 rfl hl (by decide) rfl (fun ls hl => ?_)
  refine lv_iconst (v := (0 : Int32)) hx hb dX4_cellsUnlikeQuarterNought_2 (by decide) ?_
  refine lv_istore_n (lv' := [(2, .int (0 : Int32)), (1, .int (0 : Int32)), (0, .ref (a 1))]) hx hb dX4_cellsUnlikeQuarterNought_3 rfl hl (by decide) rfl (fun ls hl => ?_)
  refine wX4_cellsUnlikeQuarterNought_L4 C hZ hK hP r F  _ ?_ F (0 : Int32) (0 : Int32) ls (lv_sub hl [2, 1, 0] rfl) h
  intro y1 ls hl h
  refine lv_iload_n hx hb dX4_cellsUnlikeQuarterNought_52 rfl (lv_at hl 0 rfl) ?_
  exact mretS hx hb hr hlk h dX4_cellsUnlikeQuarterNought_53
def fX4_shapesAt_J38 (F : Nat) (sh : Nat → Option Nat) (Z : ZT) (kb : Int32 → Int32 → Option Int32) (x1 : Int64) (x3 : Int32) (x4 : Int32) (σ : Nat → Nat → Int32) : Option Int32 :=
  kb x3 (x4 + (1 : Int32))
def fX4_shapesAt_L5 (F : Nat) (sh : Nat → Option Nat) (Z : ZT) (σ : Nat → Nat → Int32) (x1 : Int64) (kx : Int32 → Option Int32) : Nat → Int32 → Int32 → Option Int32
  | 0, _, _ => none
  | n+1, x3, x4 =>
    nb ((fun x3 x4 => fX4_shapesAt_L5 F sh Z σ x1 kx n x3 x4)) fun kb =>
    if (σ 33 0) ≤ x4 then (kx x3) else (aO sh 10 x4 fun q2 => if (lg_cmp (((Z q2).2.2.1) &&& x1) (0 : Int64)) = 0 then (fX4_shapesAt_J38 F sh Z kb x1 x3 x4 σ) else (nm (x3 ||| ((1 : Int32) <<< (x4 &&& 31))) fun z4 => fX4_shapesAt_J38 F sh Z kb x1 z4 x4 σ))
def fX4_shapesAt (F : Nat) (sh : Nat → Option Nat) (Z : ZT) (σ : Nat → Nat → Int32) (x1 : Int64) : Option Int32 :=
  fX4_shapesAt_L5 F sh Z σ x1 (fun y1 => some y1) F (0 : Int32) (0 : Int32)
abbrev rmX4_shapesAt : Room := { frames := 0, cells := 0, slots := 0, locals := 0 }
theorem inX0_X4_shapesAt : ∀ w ∈ wsX00, w ∈ wsX4_shapesAt := by intro w h; simp only [wsX4_shapesAt, List.mem_cons, List.mem_append]; simp only [h, true_or, or_true]
theorem inX1_X4_shapesAt : ∀ w ∈ wsX10, w ∈ wsX4_shapesAt := by intro w h; simp only [wsX4_shapesAt, List.mem_cons, List.mem_append]; simp only [h, true_or, or_true]
theorem inX2_X4_shapesAt : ∀ w ∈ wsX20, w ∈ wsX4_shapesAt := by intro w h; simp only [wsX4_shapesAt, List.mem_cons, List.mem_append]; simp only [h, true_or, or_true]
theorem inX4_X4_shapesAt : ∀ w ∈ wsX40, w ∈ wsX4_shapesAt := by intro w h; simp only [wsX4_shapesAt, List.mem_cons, List.mem_append]; simp only [h, true_or, or_true]
theorem inX5_X4_shapesAt : ∀ w ∈ wsX50, w ∈ wsX4_shapesAt := by intro w h; simp only [wsX4_shapesAt, List.mem_cons, List.mem_append]; simp only [h, true_or, or_true]
theorem inX8_X4_shapesAt : ∀ w ∈ wsX80, w ∈ wsX4_shapesAt := by intro w h; simp only [wsX4_shapesAt, List.mem_cons, List.mem_append]; simp only [h, true_or, or_true]
set_option maxHeartbeats 4000000 in
set_option maxRecDepth 100000 in
theorem wX4_shapesAt_J38 {p : Program} {l : Launch} {e : Env} {s : State} {m : MethodId} {args : Array Value} {below : List Frame} {meth : Method} {c : Code} (C : cxt p s m args meth c cX4_shapesAt 5 RX4 wsX4_shapesAt (some .int)) {D : va_G} {cs : Nat → ClassId} {a : Nat → Nat} {sh : Nat → Option Nat} {LP : List Nat} {Z : ZT} (hZ : shOK sh LP Z) (hK : KK D cs s) {σ : Nat → Nat → Int32} (hP : va_P D vwCl (cW a cs sh LP Z σ) s.heap) (r : Int32) (F : Nat) (kb : Int32 → Int32 → Option Int32) (x1 : Int64) (x3 : Int32) (x4 : Int32) (hkb : ∀ (x3 : Int32) (x4 : Int32) (ls : Array Slot), lv_has ls 5 [(0, .ref (a 1)), (1, .long x1), (3, .int x3), (4, .int x4)] → kb x3 x4 = some r → W p l e rmX4_shapesAt s m args below meth c s.heap [] 0 0 (MQ below (vp_Si (fun x => x = r)) args s 0 0 (fun _ => False)) (F0 m 5 ls [])) (ls : Array Slot) (hl : lv_has ls 5 [(0, .ref (a 1)), (1, .long x1), (3, .int x3), (4, .int x4)]) (h : fX4_shapesAt_J38 F sh Z kb x1 x3 x4 σ = some r) : W p l e rmX4_shapesAt s m args below meth c s.heap [] 0 0 (MQ below (vp_Si (fun x => x = r)) args s 0 0 (fun _ => False)) (F0 m 38 ls []) := by
  obtain ⟨hx, hb, hml, hown, hts, hr, hlk⟩ := id C
  unfold fX4_shapesAt_J38 at h
  refine lv_iinc (v := x4 + (1 : Int32)) (lv' := [(4, .int (x4 + (1 : Int32))), (0, .ref (a 1)), (1, .long x1), (3, .int x3)]) hx hb dX4_shapesAt_38 hl (k := 3) rfl rfl (by decide) rfl (fun ls hl => ?_)
  refine lv_goto (tgt := 5) hx hb dX4_shapesAt_41 (by decide) ?_
  exact hkb x3 (x4 + (1 : Int32)) ls (lv_sub hl [1, 2, 3, 0] rfl) h
set_option maxHeartbeats 4000000 in
set_option maxRecDepth 100000 in
theorem wX4_shapesAt_L5 {p : Program} {l : Launch} {e : Env} {s : State} {m : MethodId} {args : Array Value} {below : List Frame} {meth : Method} {c : Code} (C : cxt p s m args meth c cX4_shapesAt 5 RX4 wsX4_shapesAt (some .int)) {D : va_G} {cs : Nat → ClassId} {a : Nat → Nat} {sh : Nat → Option Nat} {LP : List Nat} {Z : ZT} (hZ : shOK sh LP Z) (hK : KK D cs s) {σ : Nat → Nat → Int32} (hP : va_P D vwCl (cW a cs sh LP Z σ) s.heap) (r : Int32) (F : Nat) (x1 : Int64) (kx : Int32 → Option Int32) (hkx : ∀ (x3 : Int32) (ls : Array Slot), lv_has ls 5 [(3, .int x3)] → kx x3 = some r → W p l e rmX4_shapesAt s m args below meth c s.heap [] 0 0 (MQ below (vp_Si (fun x => x = r)) args s 0 0 (fun _ => False)) (F0 m 44 ls [])) : ∀ (n : Nat) (x3 : Int32) (x4 : Int32) (ls : Array Slot), lv_has ls 5 [(0, .ref (a 1)), (1, .long x1), (3, .int x3), (4, .int x4)] → fX4_shapesAt_L5 F sh Z σ x1 kx n x3 x4 = some r → W p l e rmX4_shapesAt s m args below meth c s.heap [] 0 0 (MQ below (vp_Si (fun x => x = r)) args s 0 0 (fun _ => False)) (F0 m 5 ls []) := by
  obtain ⟨hx, hb, hml, hown, hts, hr, hlk⟩ := id C
  intro n
  induction n with
  | zero =>
    intros
    rename_i h
    cases h
  | succ n ih =>
    intro x3 x4 ls hl h
    rw [fX4_shapesAt_L5] at h
    obtain ⟨kb, hkb, h⟩ := nb_some (P := fun (kb : Int32 → Int32 → Option Int32) => ∀ (x3 : Int32) (x4 : Int32) (ls : Array Slot), lv_has ls 5 [(0, .ref (a 1)), (1, .long x1), (3, .int x3), (4, .int x4)] → kb x3 x4 = some r → W p l e rmX4_shapesAt s m args below meth c s.heap [] 0 0 (MQ below (vp_Si (fun x => x = r)) args s 0 0 (fun _ => False)) (F0 m 5 ls [])) h ih
    refine lv_iload hx hb dX4_shapesAt_5 (lv_at hl 3 rfl) ?_
    refine lv_aload_n hx hb dX4_shapesAt_7 rfl (lv_at hl 0 rfl) ?_
    refine va_get (D := D) (ci := 4) (v := .int (σ 33 0)) (C := RX4) (T := TX4) (N := 3) hx hb hts inX4_X4_shapesAt hown hK.1 hP 1 rfl rfl 2 (by decide) (hts (.fieldLink RX4 21 "SandPalace$Picture" "size" "I") (by decide +kernel)) (fun _ h9 => h9) rfl dX4_shapesAt_8 ?_
    refine lv_icmp_ge (tgt := 44) hx hb dX4_shapesAt_11 (by decide) (fun c1 => ?_) (fun c1 => ?_)
    · have h := it_t c1 h
      exact hkx x3 ls (lv_sub hl [2] rfl) h
    · have h := it_f c1 h
      refine lv_aload_n hx hb dX4_shapesAt_14 rfl (lv_at hl 0 rfl) ?_
      refine va_get (D := D) (ci := 4) (v := .ref (a 2)) (C := RX4) (T := TX4) (N := 3) hx hb hts inX4_X4_shapesAt hown hK.1 hP 1 rfl rfl 0 (by decide) (hts (.fieldLink RX4 11 "SandPalace$Picture" "shapes" "[LSandPalace$Shape;") (by decide +kernel)) (fun _ h9 => h9) rfl dX4_shapesAt_15 ?_
      refine lv_iload hx hb dX4_shapesAt_18 (lv_at hl 3 rfl) ?_
      obtain ⟨q2, i_q2, e_q2, h⟩ := aO_some h
      have f_q2 := hZ _ _ e_q2
      refine msald hx hb hK.1 hP 2 2 rfl rfl i_q2 e_q2 dX4_shapesAt_20 ?_
      refine shgetP hx hb hts inX0_X4_shapesAt inX1_X4_shapesAt inX2_X4_shapesAt inX5_X4_shapesAt inX8_X4_shapesAt hown hK.1 hP f_q2.1 f_q2.2 (hts (.fieldLink RX4 29 "SandPalace$Shape" "places" "J") (by decide +kernel)) (fun _ h9 => h9) dX4_shapesAt_21 ?_
      refine lv_lload_n hx hb dX4_shapesAt_24 rfl (lv_at hl 1 rfl) ?_
      refine lv_land hx hb dX4_shapesAt_25 ?_
      refine lv_lconst (v := (0 : Int64)) hx hb dX4_shapesAt_26 (by decide) ?_
      refine W.lcmp hx hb dX4_shapesAt_27 ?_
      refine lv_if_eq (tgt := 38) hx hb dX4_shapesAt_28 (by decide) (fun c3 => ?_) (fun c3 => ?_)
      · have h := it_t c3 h
        exact wX4_shapesAt_J38 C hZ hK hP r F kb x1 x3 x4 hkb ls (lv_sub hl [0, 1, 2, 3] rfl) h
      · have h := it_f c3 h
        refine lv_iload_n hx hb dX4_shapesAt_31 rfl (lv_at hl 2 rfl) ?_
        refine lv_iconst (v := (1 : Int32)) hx hb dX4_shapesAt_32 (by decide) ?_
        refine lv_iload hx hb dX4_shapesAt_33 (lv_at hl 3 rfl) ?_
        refine lv_ishl hx hb dX4_shapesAt_35 ?_
        refine lv_ior hx hb dX4_shapesAt_36 ?_
        obtain ⟨z4, e_z4, h⟩ := nm_some h
        refine tpi e_z4 ?_
        refine lv_istore_n (lv' := [(3, .int z4), (0, .ref (a 1)), (1, .long x1), (4, .int x4)]) hx hb dX4_shapesAt_37 rfl hl (by decide) rfl (fun ls hl => ?_)
        exact wX4_shapesAt_J38 C hZ hK hP r F kb x1 z4 x4 hkb ls (lv_sub hl [1, 2, 0, 3] rfl) h
set_option maxHeartbeats 4000000 in
set_option maxRecDepth 100000 in
theorem kX4_shapesAt (l : Launch) (D : va_G) (cs : Nat → ClassId) (a : Nat → Nat) (sh : Nat → Option Nat) (LP : List Nat) (Z : ZT) (hZ : shOK sh LP Z) (σ : Nat → Nat → Int32) (F : Nat) (x1 : Int64) (r : Int32) (h : fX4_shapesAt F sh Z σ x1 = some r) : Met l yX4_shapesAt wsX4_shapesAt rmX4_shapesAt (va_Pc [.ref (a 1), .long x1] (pR D cs (cW a cs sh LP Z σ))) (vp_Si (fun x => x = r)) 0 0 (fun _ => False) := by
  refine Met.ofW (cc := cX4_shapesAt) (maxL := 5) (ret := (some .int)) (by decide) rfl ?_
  intro p e s m args below meth c s₁ B hml hv
  obtain ⟨rfl, hP, hK⟩ := hv
  have C : cxt p s m _ meth c cX4_shapesAt 5 RX4 wsX4_shapesAt (some .int) := ⟨B.exec, B.bytes, hml, findClass_of_methodNamed B.named, atoms_spec (ws := wsX4_shapesAt) B.pre, B.returns, B.notSynchronized⟩
  obtain ⟨hx, hb, -, hown, hts, hr, hlk⟩ := id C
  refine entryW [.ref (a 1), .long x1] (n := 5) (Nat.le_of_ble_eq_true rfl) (fun ls hl => ?_)
  have hl : lv_has ls 5 [(0, .ref (a 1)), (1, .long x1)] := hl
  unfold fX4_shapesAt at h
  refine lv_iconst (v := (0 : Int32)) hx hb dX4_shapesAt_0 (by decide) ?_
  refine lv_istore_n (lv' := [(3, .int (0 : Int32)), (0, .ref (a 1)), (1, .long x1)]) hx hb dX4_shapesAt_1 rfl hl (by decide) rfl (fun ls hl => ?_)
  refine lv_iconst (v := (0 : Int32)) hx hb dX4_shapesAt_2 (by decide) ?_
  refine lv_istore (lv' := [(4, .int (0 : Int32)), (3, .int (0 : Int32)), (0, .ref (a 1)), (1, .long x1)]) hx hb dX4_shapesAt_3 hl (by decide) rfl (fun ls hl => ?_)
  refine wX4_shapesAt_L5 C hZ hK hP r F x1 _ ?_ F (0 : Int32) (0 : Int32) ls (lv_sub hl [2, 3, 1, 0] rfl) h
  intro y1 ls hl h
  refine lv_iload_n hx hb dX4_shapesAt_44 rfl (lv_at hl 0 rfl) ?_
  exact mretS hx hb hr hlk h dX4_shapesAt_45
