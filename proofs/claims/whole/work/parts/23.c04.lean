def fX9_changeBars_L12 (F : Nat) (sh : Nat → Option Nat) (Z : ZT) (x2 : Int32) (kx : (Nat → Nat → Int32) → Option (Int32 × (Nat → Nat → Int32))) : Nat → Int32 → (Nat → Nat → Int32) → Option (Int32 × (Nat → Nat → Int32))
  | 0, _, _ => none
  | n+1, x3, σ =>
    nb ((fun x3 σ => fX9_changeBars_L12 F sh Z x2 kx n x3 σ)) fun kb =>
    if (4 : Int32) ≤ x3 then (kx σ) else (aS 4 x3 (nm (sg σ 23 (upd (σ 23) x3.toNatClampNeg ((-9) : Int32))) fun σ4 => kb (x3 + (1 : Int32)) σ4))
def fX9_changeBars (F : Nat) (sh : Nat → Option Nat) (Z : ZT) (σ : Nat → Nat → Int32) (x1 : Int32) : Option (Int32 × (Nat → Nat → Int32)) :=
  nm (sg σ 39 (fun _ => x1)) fun σ1 => fX9_changeBars_L12 F sh Z (σ 39 0) (fun σ2 => some (σ 39 0, σ2)) F (0 : Int32) σ1
abbrev rmX9_changeBars : Room := { frames := 0, cells := 0, slots := 0, locals := 0 }
theorem inX9_X9_changeBars : ∀ w ∈ wsX90, w ∈ wsX9_changeBars := by intro w h; simp only [wsX9_changeBars, List.mem_cons, List.mem_append]; simp only [h, true_or, or_true]
set_option maxHeartbeats 4000000 in
set_option maxRecDepth 100000 in
theorem wX9_changeBars_L12 {p : Program} {l : Launch} {e : Env} {s : State} {m : MethodId} {args : Array Value} {below : List Frame} {meth : Method} {c : Code} (C : cxt p s m args meth c cX9_changeBars 4 RX9 wsX9_changeBars (some .int)) {D : va_G} {cs : Nat → ClassId} {a : Nat → Nat} {sh : Nat → Option Nat} {LP : List Nat} {Z : ZT} (hZ : shOK sh LP Z) (hK : KK D cs s) {A : Nat → Prop} (hA : ∀ q, s.heap.size ≤ q → A q) (r : Int32) (u9 : Nat → Nat → Int32) (F : Nat) (x2 : Int32) (kx : (Nat → Nat → Int32) → Option (Int32 × (Nat → Nat → Int32))) (hkx : ∀ (σ : Nat → Nat → Int32) (H : Heap) (locs : List Loc) (ls : Array Slot), va_P D vwCl (cW a cs sh LP Z σ) H → va_D A (cW a cs sh LP Z σ) → va_S A s.heap H locs → lv_has ls 4 [(2, .int x2)] → kx σ = some (r, u9) → W p l e rmX9_changeBars s m args below meth c H locs 0 0 (MQ below (va_Qi (fun x y => x = r ∧ y = u9) (qB D (cW a cs sh LP Z) A) A) args s 0 0 A) (F0 m 35 ls [])) : ∀ (n : Nat) (x3 : Int32) (σ : Nat → Nat → Int32) (H : Heap) (locs : List Loc) (ls : Array Slot), va_P D vwCl (cW a cs sh LP Z σ) H → va_D A (cW a cs sh LP Z σ) → va_S A s.heap H locs → lv_has ls 4 [(0, .ref (a 17)), (2, .int x2), (3, .int x3)] → fX9_changeBars_L12 F sh Z x2 kx n x3 σ = some (r, u9) → W p l e rmX9_changeBars s m args below meth c H locs 0 0 (MQ below (va_Qi (fun x y => x = r ∧ y = u9) (qB D (cW a cs sh LP Z) A) A) args s 0 0 A) (F0 m 12 ls []) := by
  obtain ⟨hx, hb, hml, hown, hts, hr, hlk⟩ := id C
  intro n
  induction n with
  | zero =>
    intros
    rename_i h
    cases h
  | succ n ih =>
    intro x3 σ H locs ls hP hD hS hl h
    rw [fX9_changeBars_L12] at h
    obtain ⟨kb, hkb, h⟩ := nb_some (P := fun (kb : Int32 → (Nat → Nat → Int32) → Option (Int32 × (Nat → Nat → Int32))) => ∀ (x3 : Int32) (σ : Nat → Nat → Int32) (H : Heap) (locs : List Loc) (ls : Array Slot), va_P D vwCl (cW a cs sh LP Z σ) H → va_D A (cW a cs sh LP Z σ) → va_S A s.heap H locs → lv_has ls 4 [(0, .ref (a 17)), (2, .int x2), (3, .int x3)] → kb x3 σ = some (r, u9) → W p l e rmX9_changeBars s m args below meth c H locs 0 0 (MQ below (va_Qi (fun x y => x = r ∧ y = u9) (qB D (cW a cs sh LP Z) A) A) args s 0 0 A) (F0 m 12 ls [])) h ih
    refine lv_iload_n hx hb dX9_changeBars_12 rfl (lv_at hl 2 rfl) ?_
    refine lv_aload_n hx hb dX9_changeBars_13 rfl (lv_at hl 0 rfl) ?_
    refine va_get (D := D) (ci := 8) (v := .ref (a 23)) (C := RX9) (T := TX9) (N := 3) hx hb hts inX9_X9_changeBars hown hK.1 hP 17 rfl rfl 2 (by decide) (hts (.fieldLink RX9 16 "SandPalace$Sweeper" "lengths" "[I") (by decide +kernel)) (fun _ h9 => h9) rfl dX9_changeBars_14 ?_
    refine va_alen hx hb hK.1 hP 23 0 rfl rfl (v := (4 : Int32)) rfl dX9_changeBars_17 ?_
    refine lv_icmp_ge (tgt := 35) hx hb dX9_changeBars_18 (by decide) (fun c2 => ?_) (fun c2 => ?_)
    · have h := it_t c2 h
      exact hkx σ _ _ ls hP hD hS (lv_sub hl [1] rfl) h
    · have h := it_f c2 h
      refine lv_aload_n hx hb dX9_changeBars_21 rfl (lv_at hl 0 rfl) ?_
      refine va_get (D := D) (ci := 8) (v := .ref (a 23)) (C := RX9) (T := TX9) (N := 3) hx hb hts inX9_X9_changeBars hown hK.1 hP 17 rfl rfl 2 (by decide) (hts (.fieldLink RX9 16 "SandPalace$Sweeper" "lengths" "[I") (by decide +kernel)) (fun _ h9 => h9) rfl dX9_changeBars_22 ?_
      refine lv_iload_n hx hb dX9_changeBars_25 rfl (lv_at hl 2 rfl) ?_
      refine lv_bipush (v := ((-9) : Int32)) hx hb dX9_changeBars_26 (by decide) ?_
      obtain ⟨i3, h⟩ := aS_some h
      refine va_iast hx hb hK.1 hP hD hS 23 0 rfl rfl i3 dX9_changeBars_28 (fun H locs hP hD hS => ?_)
      obtain ⟨σ4, e_σ4, h⟩ := nm_some h
      have hP : va_P D vwCl (cW a cs sh LP Z σ4) H := by rw [← e_σ4]; exact hP
      have hD : va_D A (cW a cs sh LP Z σ4) := by rw [← e_σ4]; exact hD
      refine lv_iinc (v := x3 + (1 : Int32)) (lv' := [(3, .int (x3 + (1 : Int32))), (0, .ref (a 17)), (2, .int x2)]) hx hb dX9_changeBars_29 hl (k := 2) rfl rfl (by decide) rfl (fun ls hl => ?_)
      refine lv_goto (tgt := 12) hx hb dX9_changeBars_32 (by decide) ?_
      exact hkb (x3 + (1 : Int32)) σ4 _ _ ls hP hD hS (lv_sub hl [1, 2, 0] rfl) h
set_option maxHeartbeats 4000000 in
set_option maxRecDepth 100000 in
theorem kX9_changeBars (l : Launch) (D : va_G) (cs : Nat → ClassId) (a : Nat → Nat) (sh : Nat → Option Nat) (LP : List Nat) (Z : ZT) (hZ : shOK sh LP Z) (σ : Nat → Nat → Int32) (F : Nat) (x1 : Int32) (r : Int32) (u9 : Nat → Nat → Int32) (h : fX9_changeBars F sh Z σ x1 = some (r, u9)) (sz : Nat) : Met l yX9_changeBars wsX9_changeBars rmX9_changeBars (va_Pc [.ref (a 17), .int x1] (pQ D cs (cW a cs sh LP Z σ) sz)) (va_Qi (fun x y => x = r ∧ y = u9) (qB D (cW a cs sh LP Z) (va_A (cW a cs sh LP Z σ) sz)) (va_A (cW a cs sh LP Z σ) sz)) 0 0 (va_A (cW a cs sh LP Z σ) sz) := by
  refine Met.ofW (cc := cX9_changeBars) (maxL := 4) (ret := (some .int)) (by decide) rfl ?_
  intro p e s m args below meth c s₁ B hml hv
  obtain ⟨rfl, hsz, hP, hK, hD0⟩ := hv
  have C : cxt p s m _ meth c cX9_changeBars 4 RX9 wsX9_changeBars (some .int) := ⟨B.exec, B.bytes, hml, findClass_of_methodNamed B.named, atoms_spec (ws := wsX9_changeBars) B.pre, B.returns, B.notSynchronized⟩
  obtain ⟨hx, hb, -, hown, hts, hr, hlk⟩ := id C
  subst hsz
  have hD := hD0.self (sz := s.heap.size)
  generalize hAe : va_A (cW a cs sh LP Z σ) s.heap.size = A at hD ⊢
  have hA : ∀ q : Nat, s.heap.size ≤ q → A q := fun q h => by rw [← hAe]; exact Or.inr h
  have hS : va_S A s.heap s.heap [] := va_S.rf
  refine entryW [.ref (a 17), .int x1] (n := 4) (Nat.le_of_ble_eq_true rfl) (fun ls hl => ?_)
  have hl : lv_has ls 4 [(0, .ref (a 17)), (1, .int x1)] := hl
  unfold fX9_changeBars at h
  refine lv_aload_n hx hb dX9_changeBars_0 rfl (lv_at hl 0 rfl) ?_
  refine va_get (D := D) (ci := 8) (v := .int (σ 39 0)) (C := RX9) (T := TX9) (N := 3) hx hb hts inX9_X9_changeBars hown hK.1 hP 17 rfl rfl 0 (by decide) (hts (.fieldLink RX9 20 "SandPalace$Sweeper" "barred" "I") (by decide +kernel)) (fun _ h9 => h9) rfl dX9_changeBars_1 ?_
  refine lv_istore_n (lv' := [(2, .int (σ 39 0)), (0, .ref (a 17)), (1, .int x1)]) hx hb dX9_changeBars_4 rfl hl (by decide) rfl (fun ls hl => ?_)
  refine lv_aload_n hx hb dX9_changeBars_5 rfl (lv_at hl 1 rfl) ?_
  refine lv_iload_n hx hb dX9_changeBars_6 rfl (lv_at hl 2 rfl) ?_
  refine va_put (D := D) (ci := 8) (v := .int x1) (ty := .int) (C := RX9) (T := TX9) (N := 3) hx hb hts inX9_X9_changeBars tyX9 tyX9_ok nmX9 hown hK.1 hP hD hS 17 rfl rfl 0 (by decide) (hts (.fieldLink RX9 20 "SandPalace$Sweeper" "barred" "I") (by decide +kernel)) (fun _ h9 => h9) rfl (by decide +kernel) rfl rfl (Nat.le_of_ble_eq_true rfl) dX9_changeBars_7 (fun H locs hP hD hS => ?_)
  obtain ⟨σ1, e_σ1, h⟩ := nm_some h
  have hP : va_P D vwCl (cW a cs sh LP Z σ1) H := by rw [← e_σ1]; exact hP
  have hD : va_D A (cW a cs sh LP Z σ1) := by rw [← e_σ1]; exact hD
  refine lv_iconst (v := (0 : Int32)) hx hb dX9_changeBars_10 (by decide) ?_
  refine lv_istore_n (lv' := [(3, .int (0 : Int32)), (2, .int (σ 39 0)), (0, .ref (a 17)), (1, .int x1)]) hx hb dX9_changeBars_11 rfl hl (by decide) rfl (fun ls hl => ?_)
  refine wX9_changeBars_L12 C hZ hK hA r u9 F (σ 39 0) _ ?_ F (0 : Int32) σ1 _ _ ls hP hD hS (lv_sub hl [2, 1, 0] rfl) h
  intro σ2 H locs ls hP hD hS hl h
  refine lv_iload_n hx hb dX9_changeBars_35 rfl (lv_at hl 0 rfl) ?_
  exact mretQ hx hb hr hlk h hP hD hS dX9_changeBars_36
def fX9_isOpen (x0 : Int32) (x1 : Int32) : Option Int32 :=
  if ((x1 >>> (x0 &&& 31)) &&& (1 : Int32)) = 0 then (some (0 : Int32)) else (some (1 : Int32))
abbrev rmX9_isOpen : Room := { frames := 0, cells := 0, slots := 0, locals := 0 }
set_option maxHeartbeats 4000000 in
set_option maxRecDepth 100000 in
theorem kX9_isOpen (l : Launch) (x0 : Int32) (x1 : Int32) (r : Int32) (h : fX9_isOpen x0 x1 = some r) : Met l yX9_isOpen wsX9_isOpen rmX9_isOpen (va_Pc [.int x0, .int x1] (p0)) (vp_Si (fun x => x = r ∧ (r = 0 ∨ r = 1))) 0 0 (fun _ => False) := by
  refine Met.ofW (cc := cX9_isOpen) (maxL := 2) (ret := (some .boolean)) (by decide) rfl ?_
  intro p e s m args below meth c s₁ B hml hv
  obtain ⟨rfl, -⟩ := hv
  have C : cxt p s m _ meth c cX9_isOpen 2 RX9 wsX9_isOpen (some .boolean) := ⟨B.exec, B.bytes, hml, findClass_of_methodNamed B.named, atoms_spec (ws := wsX9_isOpen) B.pre, B.returns, B.notSynchronized⟩
  obtain ⟨hx, hb, -, hown, hts, hr, hlk⟩ := id C
  refine entryW [.int x0, .int x1] (n := 2) (Nat.le_of_ble_eq_true rfl) (fun ls hl => ?_)
  have hl : lv_has ls 2 [(0, .int x0), (1, .int x1)] := hl
  unfold fX9_isOpen at h
  refine lv_iload_n hx hb dX9_isOpen_0 rfl (lv_at hl 1 rfl) ?_
  refine lv_iload_n hx hb dX9_isOpen_1 rfl (lv_at hl 0 rfl) ?_
  refine lv_ishr hx hb dX9_isOpen_2 ?_
  refine lv_iconst (v := (1 : Int32)) hx hb dX9_isOpen_3 (by decide) ?_
  refine lv_iand hx hb dX9_isOpen_4 ?_
  refine lv_if_eq (tgt := 12) hx hb dX9_isOpen_5 (by decide) (fun c1 => ?_) (fun c1 => ?_)
  · have h := it_t c1 h
    refine lv_iconst (v := (0 : Int32)) hx hb dX9_isOpen_12 (by decide) ?_
    exact mretSZ hx hb hr hlk h (Or.inl rfl) dX9_isOpen_13
  · have h := it_f c1 h
    refine lv_iconst (v := (1 : Int32)) hx hb dX9_isOpen_8 (by decide) ?_
    refine lv_goto (tgt := 13) hx hb dX9_isOpen_9 (by decide) ?_
    exact mretSZ hx hb hr hlk h (Or.inr rfl) dX9_isOpen_13
def fX10_forget (sh : Nat → Option Nat) (Z : ZT) (σ : Nat → Nat → Int32)  : Option ((Nat → Nat → Int32)) :=
  nm (sg σ 35 (fun _ => (0 : Int32))) fun σ1 => some σ1
abbrev rmX10_forget : Room := { frames := 0, cells := 0, slots := 0, locals := 0 }
theorem inX10_X10_forget : ∀ w ∈ wsX100, w ∈ wsX10_forget := by intro w h; simp only [wsX10_forget, List.mem_cons, List.mem_append]; simp only [h, true_or, or_true]
set_option maxHeartbeats 4000000 in
set_option maxRecDepth 100000 in
theorem kX10_forget (l : Launch) (D : va_G) (cs : Nat → ClassId) (a : Nat → Nat) (sh : Nat → Option Nat) (LP : List Nat) (Z : ZT) (hZ : shOK sh LP Z) (σ : Nat → Nat → Int32)  (u9 : Nat → Nat → Int32) (h : fX10_forget sh Z σ = some u9) (sz : Nat) : Met l yX10_forget wsX10_forget rmX10_forget (va_Pc [.ref (a 4)] (pQ D cs (cW a cs sh LP Z σ) sz)) (va_Qv (fun y => y = u9) (qB D (cW a cs sh LP Z) (va_A (cW a cs sh LP Z σ) sz)) (va_A (cW a cs sh LP Z σ) sz)) 0 0 (va_A (cW a cs sh LP Z σ) sz) := by
  refine Met.ofW (cc := cX10_forget) (maxL := 1) (ret := none) (by decide) rfl ?_
  intro p e s m args below meth c s₁ B hml hv
  obtain ⟨rfl, hsz, hP, hK, hD0⟩ := hv
  have C : cxt p s m _ meth c cX10_forget 1 RX10 wsX10_forget none := ⟨B.exec, B.bytes, hml, findClass_of_methodNamed B.named, atoms_spec (ws := wsX10_forget) B.pre, B.returns, B.notSynchronized⟩
  obtain ⟨hx, hb, -, hown, hts, hr, hlk⟩ := id C
  subst hsz
  have hD := hD0.self (sz := s.heap.size)
  generalize hAe : va_A (cW a cs sh LP Z σ) s.heap.size = A at hD ⊢
  have hA : ∀ q : Nat, s.heap.size ≤ q → A q := fun q h => by rw [← hAe]; exact Or.inr h
  have hS : va_S A s.heap s.heap [] := va_S.rf
  refine entryW [.ref (a 4)] (n := 1) (Nat.le_of_ble_eq_true rfl) (fun ls hl => ?_)
  have hl : lv_has ls 1 [(0, .ref (a 4))] := hl
  unfold fX10_forget at h
  refine lv_aload_n hx hb dX10_forget_0 rfl (lv_at hl 0 rfl) ?_
  refine lv_iconst (v := (0 : Int32)) hx hb dX10_forget_1 (by decide) ?_
  refine va_put (D := D) (ci := 9) (v := .int (0 : Int32)) (ty := .boolean) (C := RX10) (T := TX10) (N := 14) hx hb hts inX10_X10_forget tyX10 tyX10_ok nmX10 hown hK.1 hP hD hS 4 rfl rfl 1 (by decide) (hts (.fieldLink RX10 43 "SandPalace$Work" "known" "Z") (by decide +kernel)) (fun _ h9 => h9) rfl (by decide +kernel) rfl rfl (Nat.le_of_ble_eq_true rfl) dX10_forget_2 (fun H locs hP hD hS => ?_)
  obtain ⟨σ1, e_σ1, h⟩ := nm_some h
  have hP : va_P D vwCl (cW a cs sh LP Z σ1) H := by rw [← e_σ1]; exact hP
  have hD : va_D A (cW a cs sh LP Z σ1) := by rw [← e_σ1]; exact hD
  exact mretV hx hb hr hlk h hP hD hS dX10_forget_5
def fX10_changeSand (sh : Nat → Option Nat) (Z : ZT) (σ : Nat → Nat → Int32) (x1 : Int32) : Option (Int32 × (Nat → Nat → Int32)) :=
  nm (sg σ 34 (fun _ => x1)) fun σ1 => nm (sg σ1 35 (fun _ => (0 : Int32))) fun σ2 => some (σ 34 0, σ2)
abbrev rmX10_changeSand : Room := { frames := 0, cells := 0, slots := 0, locals := 0 }
theorem inX10_X10_changeSand : ∀ w ∈ wsX100, w ∈ wsX10_changeSand := by intro w h; simp only [wsX10_changeSand, List.mem_cons, List.mem_append]; simp only [h, true_or, or_true]
set_option maxHeartbeats 4000000 in
set_option maxRecDepth 100000 in
theorem kX10_changeSand (l : Launch) (D : va_G) (cs : Nat → ClassId) (a : Nat → Nat) (sh : Nat → Option Nat) (LP : List Nat) (Z : ZT) (hZ : shOK sh LP Z) (σ : Nat → Nat → Int32) (x1 : Int32) (r : Int32) (u9 : Nat → Nat → Int32) (h : fX10_changeSand sh Z σ x1 = some (r, u9)) (sz : Nat) : Met l yX10_changeSand wsX10_changeSand rmX10_changeSand (va_Pc [.ref (a 4), .int x1] (pQ D cs (cW a cs sh LP Z σ) sz)) (va_Qi (fun x y => x = r ∧ y = u9) (qB D (cW a cs sh LP Z) (va_A (cW a cs sh LP Z σ) sz)) (va_A (cW a cs sh LP Z σ) sz)) 0 0 (va_A (cW a cs sh LP Z σ) sz) := by
  refine Met.ofW (cc := cX10_changeSand) (maxL := 3) (ret := (some .int)) (by decide) rfl ?_
  intro p e s m args below meth c s₁ B hml hv
  obtain ⟨rfl, hsz, hP, hK, hD0⟩ := hv
  have C : cxt p s m _ meth c cX10_changeSand 3 RX10 wsX10_changeSand (some .int) := ⟨B.exec, B.bytes, hml, findClass_of_methodNamed B.named, atoms_spec (ws := wsX10_changeSand) B.pre, B.returns, B.notSynchronized⟩
  obtain ⟨hx, hb, -, hown, hts, hr, hlk⟩ := id C
  subst hsz
  have hD := hD0.self (sz := s.heap.size)
  generalize hAe : va_A (cW a cs sh LP Z σ) s.heap.size = A at hD ⊢
  have hA : ∀ q : Nat, s.heap.size ≤ q → A q := fun q h => by rw [← hAe]; exact Or.inr h
  have hS : va_S A s.heap s.heap [] := va_S.rf
  refine entryW [.ref (a 4), .int x1] (n := 3) (Nat.le_of_ble_eq_true rfl) (fun ls hl => ?_)
  have hl : lv_has ls 3 [(0, .ref (a 4)), (1, .int x1)] := hl
  unfold fX10_changeSand at h
  refine lv_aload_n hx hb dX10_changeSand_0 rfl (lv_at hl 0 rfl) ?_
  refine va_get (D := D) (ci := 9) (v := .int (σ 34 0)) (C := RX10) (T := TX10) (N := 14) hx hb hts inX10_X10_changeSand hown hK.1 hP 4 rfl rfl 0 (by decide) (hts (.fieldLink RX10 9 "SandPalace$Work" "sandOfDay" "I") (by decide +kernel)) (fun _ h9 => h9) rfl dX10_changeSand_1 ?_
  refine lv_istore_n (lv' := [(2, .int (σ 34 0)), (0, .ref (a 4)), (1, .int x1)]) hx hb dX10_changeSand_4 rfl hl (by decide) rfl (fun ls hl => ?_)
  refine lv_aload_n hx hb dX10_changeSand_5 rfl (lv_at hl 1 rfl) ?_
  refine lv_iload_n hx hb dX10_changeSand_6 rfl (lv_at hl 2 rfl) ?_
  refine va_put (D := D) (ci := 9) (v := .int x1) (ty := .int) (C := RX10) (T := TX10) (N := 14) hx hb hts inX10_X10_changeSand tyX10 tyX10_ok nmX10 hown hK.1 hP hD hS 4 rfl rfl 0 (by decide) (hts (.fieldLink RX10 9 "SandPalace$Work" "sandOfDay" "I") (by decide +kernel)) (fun _ h9 => h9) rfl (by decide +kernel) rfl rfl (Nat.le_of_ble_eq_true rfl) dX10_changeSand_7 (fun H locs hP hD hS => ?_)
  obtain ⟨σ1, e_σ1, h⟩ := nm_some h
  have hP : va_P D vwCl (cW a cs sh LP Z σ1) H := by rw [← e_σ1]; exact hP
  have hD : va_D A (cW a cs sh LP Z σ1) := by rw [← e_σ1]; exact hD
  refine lv_aload_n hx hb dX10_changeSand_10 rfl (lv_at hl 1 rfl) ?_
  refine lv_iconst (v := (0 : Int32)) hx hb dX10_changeSand_11 (by decide) ?_
  refine va_put (D := D) (ci := 9) (v := .int (0 : Int32)) (ty := .boolean) (C := RX10) (T := TX10) (N := 14) hx hb hts inX10_X10_changeSand tyX10 tyX10_ok nmX10 hown hK.1 hP hD hS 4 rfl rfl 1 (by decide) (hts (.fieldLink RX10 43 "SandPalace$Work" "known" "Z") (by decide +kernel)) (fun _ h9 => h9) rfl (by decide +kernel) rfl rfl (Nat.le_of_ble_eq_true rfl) dX10_changeSand_12 (fun H locs hP hD hS => ?_)
  obtain ⟨σ2, e_σ2, h⟩ := nm_some h
  have hP : va_P D vwCl (cW a cs sh LP Z σ2) H := by rw [← e_σ2]; exact hP
  have hD : va_D A (cW a cs sh LP Z σ2) := by rw [← e_σ2]; exact hD
  refine lv_iload_n hx hb dX10_changeSand_15 rfl (lv_at hl 0 rfl) ?_
  exact mretQ hx hb hr hlk h hP hD hS dX10_changeSand_16
def fX10_daysOfPlan (sh : Nat → Option Nat) (Z : ZT) (σ : Nat → Nat → Int32)  : Option Int32 :=
  some (σ 37 0)
abbrev rmX10_daysOfPlan : Room := { frames := 0, cells := 0, slots := 0, locals := 0 }
theorem inX10_X10_daysOfPlan : ∀ w ∈ wsX100, w ∈ wsX10_daysOfPlan := by intro w h; simp only [wsX10_daysOfPlan, List.mem_cons, List.mem_append]; simp only [h, true_or, or_true]
set_option maxHeartbeats 4000000 in
set_option maxRecDepth 100000 in
theorem kX10_daysOfPlan (l : Launch) (D : va_G) (cs : Nat → ClassId) (a : Nat → Nat) (sh : Nat → Option Nat) (LP : List Nat) (Z : ZT) (hZ : shOK sh LP Z) (σ : Nat → Nat → Int32)  (r : Int32) (h : fX10_daysOfPlan sh Z σ = some r) : Met l yX10_daysOfPlan wsX10_daysOfPlan rmX10_daysOfPlan (va_Pc [.ref (a 4)] (pR D cs (cW a cs sh LP Z σ))) (vp_Si (fun x => x = r)) 0 0 (fun _ => False) := by
  refine Met.ofW (cc := cX10_daysOfPlan) (maxL := 1) (ret := (some .int)) (by decide) rfl ?_
  intro p e s m args below meth c s₁ B hml hv
  obtain ⟨rfl, hP, hK⟩ := hv
  have C : cxt p s m _ meth c cX10_daysOfPlan 1 RX10 wsX10_daysOfPlan (some .int) := ⟨B.exec, B.bytes, hml, findClass_of_methodNamed B.named, atoms_spec (ws := wsX10_daysOfPlan) B.pre, B.returns, B.notSynchronized⟩
  obtain ⟨hx, hb, -, hown, hts, hr, hlk⟩ := id C
  refine entryW [.ref (a 4)] (n := 1) (Nat.le_of_ble_eq_true rfl) (fun ls hl => ?_)
  have hl : lv_has ls 1 [(0, .ref (a 4))] := hl
  unfold fX10_daysOfPlan at h
  refine lv_aload_n hx hb dX10_daysOfPlan_0 rfl (lv_at hl 0 rfl) ?_
  refine va_get (D := D) (ci := 9) (v := .int (σ 37 0)) (C := RX10) (T := TX10) (N := 14) hx hb hts inX10_X10_daysOfPlan hown hK.1 hP 4 rfl rfl 3 (by decide) (hts (.fieldLink RX10 47 "SandPalace$Work" "days" "I") (by decide +kernel)) (fun _ h9 => h9) rfl dX10_daysOfPlan_1 ?_
  exact mretS hx hb hr hlk h dX10_daysOfPlan_4
def fX10_shapesOfDay (sh : Nat → Option Nat) (Z : ZT) (σ : Nat → Nat → Int32) (x1 : Int32) : Option Int32 :=
  if ¬ (σ 37 0) = ((-4) : Int32) then (if (σ 37 0) ≤ x1 then (some ((-1) : Int32)) else (aI (σ 12) 10 x1 fun v3 => some v3)) else (some ((-4) : Int32))
abbrev rmX10_shapesOfDay : Room := { frames := 0, cells := 0, slots := 0, locals := 0 }
theorem inX10_X10_shapesOfDay : ∀ w ∈ wsX100, w ∈ wsX10_shapesOfDay := by intro w h; simp only [wsX10_shapesOfDay, List.mem_cons, List.mem_append]; simp only [h, true_or, or_true]
set_option maxHeartbeats 4000000 in
set_option maxRecDepth 100000 in
theorem kX10_shapesOfDay (l : Launch) (D : va_G) (cs : Nat → ClassId) (a : Nat → Nat) (sh : Nat → Option Nat) (LP : List Nat) (Z : ZT) (hZ : shOK sh LP Z) (σ : Nat → Nat → Int32) (x1 : Int32) (r : Int32) (h : fX10_shapesOfDay sh Z σ x1 = some r) : Met l yX10_shapesOfDay wsX10_shapesOfDay rmX10_shapesOfDay (va_Pc [.ref (a 4), .int x1] (pR D cs (cW a cs sh LP Z σ))) (vp_Si (fun x => x = r)) 0 0 (fun _ => False) := by
  refine Met.ofW (cc := cX10_shapesOfDay) (maxL := 2) (ret := (some .int)) (by decide) rfl ?_
  intro p e s m args below meth c s₁ B hml hv
  obtain ⟨rfl, hP, hK⟩ := hv
  have C : cxt p s m _ meth c cX10_shapesOfDay 2 RX10 wsX10_shapesOfDay (some .int) := ⟨B.exec, B.bytes, hml, findClass_of_methodNamed B.named, atoms_spec (ws := wsX10_shapesOfDay) B.pre, B.returns, B.notSynchronized⟩
  obtain ⟨hx, hb, -, hown, hts, hr, hlk⟩ := id C
  refine entryW [.ref (a 4), .int x1] (n := 2) (Nat.le_of_ble_eq_true rfl) (fun ls hl => ?_)
  have hl : lv_has ls 2 [(0, .ref (a 4)), (1, .int x1)] := hl
  unfold fX10_shapesOfDay at h
  refine lv_aload_n hx hb dX10_shapesOfDay_0 rfl (lv_at hl 0 rfl) ?_
  refine va_get (D := D) (ci := 9) (v := .int (σ 37 0)) (C := RX10) (T := TX10) (N := 14) hx hb hts inX10_X10_shapesOfDay hown hK.1 hP 4 rfl rfl 3 (by decide) (hts (.fieldLink RX10 47 "SandPalace$Work" "days" "I") (by decide +kernel)) (fun _ h9 => h9) rfl dX10_shapesOfDay_1 ?_
  refine lv_bipush (v := ((-4) : Int32)) hx hb dX10_shapesOfDay_4 (by decide) ?_
  refine lv_icmp_ne (tgt := 12) hx hb dX10_shapesOfDay_6 (by decide) (fun c1 => ?_) (fun c1 => ?_)
  · have h := it_t c1 h
    refine lv_iload_n hx hb dX10_shapesOfDay_12 rfl (lv_at hl 1 rfl) ?_
    refine lv_aload_n hx hb dX10_shapesOfDay_13 rfl (lv_at hl 0 rfl) ?_
    refine va_get (D := D) (ci := 9) (v := .int (σ 37 0)) (C := RX10) (T := TX10) (N := 14) hx hb hts inX10_X10_shapesOfDay hown hK.1 hP 4 rfl rfl 3 (by decide) (hts (.fieldLink RX10 47 "SandPalace$Work" "days" "I") (by decide +kernel)) (fun _ h9 => h9) rfl dX10_shapesOfDay_14 ?_
    refine lv_icmp_ge (tgt := 29) hx hb dX10_shapesOfDay_17 (by decide) (fun c2 => ?_) (fun c2 => ?_)
    · have h := it_t c2 h
      refine lv_iconst (v := ((-1) : Int32)) hx hb dX10_shapesOfDay_29 (by decide) ?_
      exact mretS hx hb hr hlk h dX10_shapesOfDay_30
    · have h := it_f c2 h
      refine lv_aload_n hx hb dX10_shapesOfDay_20 rfl (lv_at hl 0 rfl) ?_
      refine va_get (D := D) (ci := 9) (v := .ref (a 12)) (C := RX10) (T := TX10) (N := 14) hx hb hts inX10_X10_shapesOfDay hown hK.1 hP 4 rfl rfl 12 (by decide) (hts (.fieldLink RX10 37 "SandPalace$Work" "dayShapes" "[I") (by decide +kernel)) (fun _ h9 => h9) rfl dX10_shapesOfDay_21 ?_
      refine lv_iload_n hx hb dX10_shapesOfDay_24 rfl (lv_at hl 1 rfl) ?_
      obtain ⟨v3, i_v3, e_v3, h⟩ := aI_some h
      refine miald hx hb hK.1 hP 12 0 rfl rfl i_v3 e_v3 dX10_shapesOfDay_25 ?_
      refine lv_goto (tgt := 30) hx hb dX10_shapesOfDay_26 (by decide) ?_
      exact mretS hx hb hr hlk h dX10_shapesOfDay_30
  · have h := it_n c1 h
    refine lv_bipush (v := ((-4) : Int32)) hx hb dX10_shapesOfDay_9 (by decide) ?_
    exact mretS hx hb hr hlk h dX10_shapesOfDay_11
def fX10_shapeAt (sh : Nat → Option Nat) (Z : ZT) (σ : Nat → Nat → Int32) (x1 : Int32) : Option Int32 :=
  if ¬ (σ 37 0) = ((-4) : Int32) then (if (σ 38 0) ≤ x1 then (some ((-1) : Int32)) else (aI (σ 13) 10 x1 fun v3 => some v3)) else (some ((-4) : Int32))
abbrev rmX10_shapeAt : Room := { frames := 0, cells := 0, slots := 0, locals := 0 }
theorem inX10_X10_shapeAt : ∀ w ∈ wsX100, w ∈ wsX10_shapeAt := by intro w h; simp only [wsX10_shapeAt, List.mem_cons, List.mem_append]; simp only [h, true_or, or_true]
set_option maxHeartbeats 4000000 in
set_option maxRecDepth 100000 in
theorem kX10_shapeAt (l : Launch) (D : va_G) (cs : Nat → ClassId) (a : Nat → Nat) (sh : Nat → Option Nat) (LP : List Nat) (Z : ZT) (hZ : shOK sh LP Z) (σ : Nat → Nat → Int32) (x1 : Int32) (r : Int32) (h : fX10_shapeAt sh Z σ x1 = some r) : Met l yX10_shapeAt wsX10_shapeAt rmX10_shapeAt (va_Pc [.ref (a 4), .int x1] (pR D cs (cW a cs sh LP Z σ))) (vp_Si (fun x => x = r)) 0 0 (fun _ => False) := by
  refine Met.ofW (cc := cX10_shapeAt) (maxL := 2) (ret := (some .int)) (by decide) rfl ?_
  intro p e s m args below meth c s₁ B hml hv
  obtain ⟨rfl, hP, hK⟩ := hv
  have C : cxt p s m _ meth c cX10_shapeAt 2 RX10 wsX10_shapeAt (some .int) := ⟨B.exec, B.bytes, hml, findClass_of_methodNamed B.named, atoms_spec (ws := wsX10_shapeAt) B.pre, B.returns, B.notSynchronized⟩
  obtain ⟨hx, hb, -, hown, hts, hr, hlk⟩ := id C
  refine entryW [.ref (a 4), .int x1] (n := 2) (Nat.le_of_ble_eq_true rfl) (fun ls hl => ?_)
  have hl : lv_has ls 2 [(0, .ref (a 4)), (1, .int x1)] := hl
  unfold fX10_shapeAt at h
  refine lv_aload_n hx hb dX10_shapeAt_0 rfl (lv_at hl 0 rfl) ?_
  refine va_get (D := D) (ci := 9) (v := .int (σ 37 0)) (C := RX10) (T := TX10) (N := 14) hx hb hts inX10_X10_shapeAt hown hK.1 hP 4 rfl rfl 3 (by decide) (hts (.fieldLink RX10 47 "SandPalace$Work" "days" "I") (by decide +kernel)) (fun _ h9 => h9) rfl dX10_shapeAt_1 ?_
  refine lv_bipush (v := ((-4) : Int32)) hx hb dX10_shapeAt_4 (by decide) ?_
  refine lv_icmp_ne (tgt := 12) hx hb dX10_shapeAt_6 (by decide) (fun c1 => ?_) (fun c1 => ?_)
  · have h := it_t c1 h
    refine lv_iload_n hx hb dX10_shapeAt_12 rfl (lv_at hl 1 rfl) ?_
    refine lv_aload_n hx hb dX10_shapeAt_13 rfl (lv_at hl 0 rfl) ?_
    refine va_get (D := D) (ci := 9) (v := .int (σ 38 0)) (C := RX10) (T := TX10) (N := 14) hx hb hts inX10_X10_shapeAt hown hK.1 hP 4 rfl rfl 4 (by decide) (hts (.fieldLink RX10 50 "SandPalace$Work" "count" "I") (by decide +kernel)) (fun _ h9 => h9) rfl dX10_shapeAt_14 ?_
    refine lv_icmp_ge (tgt := 29) hx hb dX10_shapeAt_17 (by decide) (fun c2 => ?_) (fun c2 => ?_)
    · have h := it_t c2 h
      refine lv_iconst (v := ((-1) : Int32)) hx hb dX10_shapeAt_29 (by decide) ?_
      exact mretS hx hb hr hlk h dX10_shapeAt_30
    · have h := it_f c2 h
      refine lv_aload_n hx hb dX10_shapeAt_20 rfl (lv_at hl 0 rfl) ?_
      refine va_get (D := D) (ci := 9) (v := .ref (a 13)) (C := RX10) (T := TX10) (N := 14) hx hb hts inX10_X10_shapeAt hown hK.1 hP 4 rfl rfl 13 (by decide) (hts (.fieldLink RX10 40 "SandPalace$Work" "order" "[I") (by decide +kernel)) (fun _ h9 => h9) rfl dX10_shapeAt_21 ?_
      refine lv_iload_n hx hb dX10_shapeAt_24 rfl (lv_at hl 1 rfl) ?_
      obtain ⟨v3, i_v3, e_v3, h⟩ := aI_some h
      refine miald hx hb hK.1 hP 13 0 rfl rfl i_v3 e_v3 dX10_shapeAt_25 ?_
      refine lv_goto (tgt := 30) hx hb dX10_shapeAt_26 (by decide) ?_
      exact mretS hx hb hr hlk h dX10_shapeAt_30
  · have h := it_n c1 h
    refine lv_bipush (v := ((-4) : Int32)) hx hb dX10_shapeAt_9 (by decide) ?_
    exact mretS hx hb hr hlk h dX10_shapeAt_11
def fX10_read_J71 (F : Nat) (sh : Nat → Option Nat) (Z : ZT) (kb : Int32 → (Nat → Nat → Int32) → Option ((Nat → Nat → Int32))) (x2 : Int32) (σ : Nat → Nat → Int32) : Option ((Nat → Nat → Int32)) :=
  kb (x2 + (1 : Int32)) σ
def fX10_read_L22 (F : Nat) (sh : Nat → Option Nat) (Z : ZT) (kx : (Nat → Nat → Int32) → Option ((Nat → Nat → Int32))) : Nat → Int32 → (Nat → Nat → Int32) → Option ((Nat → Nat → Int32))
  | 0, _, _ => none
  | n+1, x2, σ =>
    nb ((fun x2 σ => fX10_read_L22 F sh Z kx n x2 σ)) fun kb =>
    if (σ 38 0) ≤ x2 then (kx σ) else (bd (fX4_shapeOf sh Z σ x2) fun v5 => oc v5 (fX10_read_J71 F sh Z kb x2 σ) fun q6 => bd (fX4_comesAfter F sh Z σ x2) fun v7 => aS 10 x2 (nm (sg σ 5 (upd (σ 5) x2.toNatClampNeg v7)) fun σ9 => bd (fX6_cells sh Z q6 σ9) fun v10 => aS 10 x2 (nm (sg σ9 6 (upd (σ9 6) x2.toNatClampNeg v10)) fun σ12 => bd (fX6_reach F sh Z q6 σ12) fun v13 => aS 10 x2 (nm (sg σ12 7 (upd (σ12 7) x2.toNatClampNeg v13)) fun σ15 => fX10_read_J71 F sh Z kb x2 σ15))))
def fX10_read (F : Nat) (sh : Nat → Option Nat) (Z : ZT) (σ : Nat → Nat → Int32)  : Option ((Nat → Nat → Int32)) :=
  bd (fX4_shapesTold sh Z σ) fun v1 => nm (sg σ 38 (fun _ => v1)) fun σ2 => nm (sg σ2 36 (fun _ => ((1 : Int32) <<< ((σ2 38 0) &&& 31)) - (1 : Int32))) fun σ3 => fX10_read_L22 F sh Z (fun σ4 => some σ4) F (0 : Int32) σ3
abbrev rmX10_read : Room := { frames := 2, cells := 0, slots := 0, locals := 43 }
theorem inX10_X10_read : ∀ w ∈ wsX100, w ∈ wsX10_read := by intro w h; simp only [wsX10_read, List.mem_cons, List.mem_append]; simp only [h, true_or, or_true]
set_option maxHeartbeats 4000000 in
set_option maxRecDepth 100000 in
theorem wX10_read_J71 {p : Program} {l : Launch} {e : Env} {s : State} {m : MethodId} {args : Array Value} {below : List Frame} {meth : Method} {c : Code} (C : cxt p s m args meth c cX10_read 4 RX10 wsX10_read none) {D : va_G} {cs : Nat → ClassId} {a : Nat → Nat} {sh : Nat → Option Nat} {LP : List Nat} {Z : ZT} (hZ : shOK sh LP Z) (hK : KK D cs s) {A : Nat → Prop} (hA : ∀ q, s.heap.size ≤ q → A q) (u9 : Nat → Nat → Int32) (F : Nat) (kb : Int32 → (Nat → Nat → Int32) → Option ((Nat → Nat → Int32))) (x2 : Int32) (hkb : ∀ (x2 : Int32) (σ : Nat → Nat → Int32) (H : Heap) (locs : List Loc) (ls : Array Slot), va_P D vwCl (cW a cs sh LP Z σ) H → va_D A (cW a cs sh LP Z σ) → va_S A s.heap H locs → lv_has ls 4 [(0, .ref (a 4)), (1, .ref (a 1)), (2, .int x2)] → kb x2 σ = some u9 → W p l e rmX10_read s m args below meth c H locs 0 0 (MQ below (va_Qv (fun y => y = u9) (qB D (cW a cs sh LP Z) A) A) args s 0 0 A) (F0 m 22 ls [])) (σ : Nat → Nat → Int32) (H : Heap) (locs : List Loc) (ls : Array Slot) (hP : va_P D vwCl (cW a cs sh LP Z σ) H) (hD : va_D A (cW a cs sh LP Z σ)) (hS : va_S A s.heap H locs) (hl : lv_has ls 4 [(0, .ref (a 4)), (1, .ref (a 1)), (2, .int x2)]) (h : fX10_read_J71 F sh Z kb x2 σ = some u9) : W p l e rmX10_read s m args below meth c H locs 0 0 (MQ below (va_Qv (fun y => y = u9) (qB D (cW a cs sh LP Z) A) A) args s 0 0 A) (F0 m 71 ls []) := by
  obtain ⟨hx, hb, hml, hown, hts, hr, hlk⟩ := id C
  unfold fX10_read_J71 at h
  refine lv_iinc (v := x2 + (1 : Int32)) (lv' := [(2, .int (x2 + (1 : Int32))), (0, .ref (a 4)), (1, .ref (a 1))]) hx hb dX10_read_71 hl (k := 2) rfl rfl (by decide) rfl (fun ls hl => ?_)
  refine lv_goto (tgt := 22) hx hb dX10_read_74 (by decide) ?_
  exact hkb (x2 + (1 : Int32)) σ _ _ ls hP hD hS (lv_sub hl [1, 2, 0] rfl) h
set_option maxHeartbeats 4000000 in
set_option maxRecDepth 100000 in
theorem wX10_read_L22 {p : Program} {l : Launch} {e : Env} {s : State} {m : MethodId} {args : Array Value} {below : List Frame} {meth : Method} {c : Code} (C : cxt p s m args meth c cX10_read 4 RX10 wsX10_read none) {D : va_G} {cs : Nat → ClassId} {a : Nat → Nat} {sh : Nat → Option Nat} {LP : List Nat} {Z : ZT} (hZ : shOK sh LP Z) (hK : KK D cs s) {A : Nat → Prop} (hA : ∀ q, s.heap.size ≤ q → A q) (u9 : Nat → Nat → Int32) (F : Nat) (kx : (Nat → Nat → Int32) → Option ((Nat → Nat → Int32))) (hkx : ∀ (σ : Nat → Nat → Int32) (H : Heap) (locs : List Loc) (ls : Array Slot), va_P D vwCl (cW a cs sh LP Z σ) H → va_D A (cW a cs sh LP Z σ) → va_S A s.heap H locs → lv_has ls 4 [] → kx σ = some u9 → W p l e rmX10_read s m args below meth c H locs 0 0 (MQ below (va_Qv (fun y => y = u9) (qB D (cW a cs sh LP Z) A) A) args s 0 0 A) (F0 m 77 ls [])) : ∀ (n : Nat) (x2 : Int32) (σ : Nat → Nat → Int32) (H : Heap) (locs : List Loc) (ls : Array Slot), va_P D vwCl (cW a cs sh LP Z σ) H → va_D A (cW a cs sh LP Z σ) → va_S A s.heap H locs → lv_has ls 4 [(0, .ref (a 4)), (1, .ref (a 1)), (2, .int x2)] → fX10_read_L22 F sh Z kx n x2 σ = some u9 → W p l e rmX10_read s m args below meth c H locs 0 0 (MQ below (va_Qv (fun y => y = u9) (qB D (cW a cs sh LP Z) A) A) args s 0 0 A) (F0 m 22 ls []) := by
  obtain ⟨hx, hb, hml, hown, hts, hr, hlk⟩ := id C
  intro n
  induction n with
  | zero =>
    intros
    rename_i h
    cases h
  | succ n ih =>
    intro x2 σ H locs ls hP hD hS hl h
    rw [fX10_read_L22] at h
    obtain ⟨kb, hkb, h⟩ := nb_some (P := fun (kb : Int32 → (Nat → Nat → Int32) → Option ((Nat → Nat → Int32))) => ∀ (x2 : Int32) (σ : Nat → Nat → Int32) (H : Heap) (locs : List Loc) (ls : Array Slot), va_P D vwCl (cW a cs sh LP Z σ) H → va_D A (cW a cs sh LP Z σ) → va_S A s.heap H locs → lv_has ls 4 [(0, .ref (a 4)), (1, .ref (a 1)), (2, .int x2)] → kb x2 σ = some u9 → W p l e rmX10_read s m args below meth c H locs 0 0 (MQ below (va_Qv (fun y => y = u9) (qB D (cW a cs sh LP Z) A) A) args s 0 0 A) (F0 m 22 ls [])) h ih
    refine lv_iload_n hx hb dX10_read_22 rfl (lv_at hl 2 rfl) ?_
    refine lv_aload_n hx hb dX10_read_23 rfl (lv_at hl 0 rfl) ?_
    refine va_get (D := D) (ci := 9) (v := .int (σ 38 0)) (C := RX10) (T := TX10) (N := 14) hx hb hts inX10_X10_read hown hK.1 hP 4 rfl rfl 4 (by decide) (hts (.fieldLink RX10 50 "SandPalace$Work" "count" "I") (by decide +kernel)) (fun _ h9 => h9) rfl dX10_read_24 ?_
    refine lv_icmp_ge (tgt := 77) hx hb dX10_read_27 (by decide) (fun c4 => ?_) (fun c4 => ?_)
    · have h := it_t c4 h
      exact hkx σ _ _ ls hP hD hS (lv_sub hl [] rfl) h
    · have h := it_f c4 h
      refine lv_aload_n hx hb dX10_read_30 rfl (lv_at hl 1 rfl) ?_
      refine lv_iload_n hx hb dX10_read_31 rfl (lv_at hl 2 rfl) ?_
      obtain ⟨v5, hc_v5, h⟩ := bd_some h
      refine mcallSR (va_runV (As := [.int x2]) (rest := []) ⟨hx, hb, hml, hown, hts⟩ (kX4_shapeOf l D cs a sh LP Z hZ σ x2 v5 hc_v5) (cwV 1 hts gX10_read_X4_shapeOf rfl rfl rfl (by decide +kernel) ⟨Nat.le_of_ble_eq_true rfl, Nat.le_of_ble_eq_true rfl⟩) (pR_v hP hK (va_recv hK.1 hP (ci := 4) (q0 := 1) rfl rfl)) rfl rfl hl.1 rfl (lv_room (Nat.le_of_ble_eq_true rfl)) dX10_read_32 ⟨Nat.zero_le _, Nat.zero_le _⟩) ?_
      rcases ho_v5 : v5 with _ | q6
      · rw [ho_v5] at h
        refine lv_astore_nN (lv' := [(3, .null), (0, .ref (a 4)), (1, .ref (a 1)), (2, .int x2)]) hx hb dX10_read_35 rfl hl (by decide) rfl (fun ls hl => ?_)
        refine lv_aload_nN hx hb dX10_read_36 rfl (lv_at hl 0 rfl) ?_
        refine lv_ifnullN (tgt := 71) hx hb dX10_read_37 (by decide) ?_
        exact wX10_read_J71 C hZ hK hA  u9 F kb x2 hkb σ _ _ ls hP hD hS (lv_sub hl [1, 2, 3] rfl) h
      · rw [ho_v5] at h hc_v5
        have f_q6 := shapeOf_ok hZ hc_v5
        refine lv_astore_n (lv' := [(3, .ref q6), (0, .ref (a 4)), (1, .ref (a 1)), (2, .int x2)]) hx hb dX10_read_35 rfl hl (by decide) rfl (fun ls hl => ?_)
        refine lv_aload_n hx hb dX10_read_36 rfl (lv_at hl 0 rfl) ?_
        refine lv_ifnull hx hb dX10_read_37 ?_
        refine lv_aload_n hx hb dX10_read_40 rfl (lv_at hl 1 rfl) ?_
        refine va_get (D := D) (ci := 9) (v := .ref (a 5)) (C := RX10) (T := TX10) (N := 14) hx hb hts inX10_X10_read hown hK.1 hP 4 rfl rfl 5 (by decide) (hts (.fieldLink RX10 15 "SandPalace$Work" "ahead" "[I") (by decide +kernel)) (fun _ h9 => h9) rfl dX10_read_41 ?_
        refine lv_iload_n hx hb dX10_read_44 rfl (lv_at hl 3 rfl) ?_
        refine lv_aload_n hx hb dX10_read_45 rfl (lv_at hl 2 rfl) ?_
        refine lv_iload_n hx hb dX10_read_46 rfl (lv_at hl 3 rfl) ?_
        obtain ⟨v7, hc_v7, h⟩ := bd_some h
        refine mcallS (va_runV (As := [.int x2]) (rest := [.int x2, .ref (a 5)]) ⟨hx, hb, hml, hown, hts⟩ (kX4_comesAfter l D cs a sh LP Z hZ σ F x2 v7 hc_v7) (cwV 1 hts gX10_read_X4_comesAfter rfl rfl rfl (by decide +kernel) ⟨Nat.le_of_ble_eq_true rfl, Nat.le_of_ble_eq_true rfl⟩) (pR_v hP hK (va_recv hK.1 hP (ci := 4) (q0 := 1) rfl rfl)) rfl rfl hl.1 rfl (lv_room (Nat.le_of_ble_eq_true rfl)) dX10_read_47 ⟨Nat.zero_le _, Nat.zero_le _⟩) ?_
        obtain ⟨i8, h⟩ := aS_some h
        refine va_iast hx hb hK.1 hP hD hS 5 0 rfl rfl i8 dX10_read_50 (fun H locs hP hD hS => ?_)
        obtain ⟨σ9, e_σ9, h⟩ := nm_some h
        have hP : va_P D vwCl (cW a cs sh LP Z σ9) H := by rw [← e_σ9]; exact hP
        have hD : va_D A (cW a cs sh LP Z σ9) := by rw [← e_σ9]; exact hD
        refine lv_aload_n hx hb dX10_read_51 rfl (lv_at hl 1 rfl) ?_
        refine va_get (D := D) (ci := 9) (v := .ref (a 6)) (C := RX10) (T := TX10) (N := 14) hx hb hts inX10_X10_read hown hK.1 hP 4 rfl rfl 6 (by decide) (hts (.fieldLink RX10 19 "SandPalace$Work" "weight" "[I") (by decide +kernel)) (fun _ h9 => h9) rfl dX10_read_52 ?_
        refine lv_iload_n hx hb dX10_read_55 rfl (lv_at hl 3 rfl) ?_
        refine lv_aload_n hx hb dX10_read_56 rfl (lv_at hl 0 rfl) ?_
        obtain ⟨v10, hc_v10, h⟩ := bd_some h
        refine mcallS (r := v10) (rest := [.int x2, .ref (a 6)]) (a0 := (Value.ref q6 :: []).toArray) ?_ ?_
        · rcases f_q6.2 with kq | kq | kq | kq | kq
          · exact va_runU (As := []) (rest := [.int x2, .ref (a 6)]) ⟨hx, hb, hml, hown, hts⟩ (kX6_cells l D cs a sh LP Z hZ q6 f_q6.1 f_q6.2 σ9  v10 hc_v10) (va_cwU 0 hts gX10_read_X6_cells_u96X0 rfl rfl rfl rfl (by decide +kernel) ⟨Nat.le_of_ble_eq_true rfl, Nat.le_of_ble_eq_true rfl⟩) (pR_v hP hK (shr0 hK.1 hP f_q6.1 kq)) rfl rfl hl.1 rfl (lv_room (Nat.le_of_ble_eq_true rfl)) dX10_read_57 ⟨Nat.zero_le _, Nat.zero_le _⟩
          · exact va_runU (As := []) (rest := [.int x2, .ref (a 6)]) ⟨hx, hb, hml, hown, hts⟩ (kX6_cells l D cs a sh LP Z hZ q6 f_q6.1 f_q6.2 σ9  v10 hc_v10) (va_cwU 0 hts gX10_read_X6_cells_u96X1 rfl rfl rfl rfl (by decide +kernel) ⟨Nat.le_of_ble_eq_true rfl, Nat.le_of_ble_eq_true rfl⟩) (pR_v hP hK (shr1 hK.1 hP f_q6.1 kq)) rfl rfl hl.1 rfl (lv_room (Nat.le_of_ble_eq_true rfl)) dX10_read_57 ⟨Nat.zero_le _, Nat.zero_le _⟩
          · exact va_runU (As := []) (rest := [.int x2, .ref (a 6)]) ⟨hx, hb, hml, hown, hts⟩ (kX6_cells l D cs a sh LP Z hZ q6 f_q6.1 f_q6.2 σ9  v10 hc_v10) (va_cwU 0 hts gX10_read_X6_cells_u96X2 rfl rfl rfl rfl (by decide +kernel) ⟨Nat.le_of_ble_eq_true rfl, Nat.le_of_ble_eq_true rfl⟩) (pR_v hP hK (shr2 hK.1 hP f_q6.1 kq)) rfl rfl hl.1 rfl (lv_room (Nat.le_of_ble_eq_true rfl)) dX10_read_57 ⟨Nat.zero_le _, Nat.zero_le _⟩
          · exact va_runU (As := []) (rest := [.int x2, .ref (a 6)]) ⟨hx, hb, hml, hown, hts⟩ (kX6_cells l D cs a sh LP Z hZ q6 f_q6.1 f_q6.2 σ9  v10 hc_v10) (va_cwU 0 hts gX10_read_X6_cells_u96X5 rfl rfl rfl rfl (by decide +kernel) ⟨Nat.le_of_ble_eq_true rfl, Nat.le_of_ble_eq_true rfl⟩) (pR_v hP hK (shr5 hK.1 hP f_q6.1 kq)) rfl rfl hl.1 rfl (lv_room (Nat.le_of_ble_eq_true rfl)) dX10_read_57 ⟨Nat.zero_le _, Nat.zero_le _⟩
          · exact va_runU (As := []) (rest := [.int x2, .ref (a 6)]) ⟨hx, hb, hml, hown, hts⟩ (kX6_cells l D cs a sh LP Z hZ q6 f_q6.1 f_q6.2 σ9  v10 hc_v10) (va_cwU 0 hts gX10_read_X6_cells_u96X8 rfl rfl rfl rfl (by decide +kernel) ⟨Nat.le_of_ble_eq_true rfl, Nat.le_of_ble_eq_true rfl⟩) (pR_v hP hK (shr7 hK.1 hP f_q6.1 kq)) rfl rfl hl.1 rfl (lv_room (Nat.le_of_ble_eq_true rfl)) dX10_read_57 ⟨Nat.zero_le _, Nat.zero_le _⟩
        obtain ⟨i11, h⟩ := aS_some h
        refine va_iast hx hb hK.1 hP hD hS 6 0 rfl rfl i11 dX10_read_60 (fun H locs hP hD hS => ?_)
        obtain ⟨σ12, e_σ12, h⟩ := nm_some h
        have hP : va_P D vwCl (cW a cs sh LP Z σ12) H := by rw [← e_σ12]; exact hP
        have hD : va_D A (cW a cs sh LP Z σ12) := by rw [← e_σ12]; exact hD
        refine lv_aload_n hx hb dX10_read_61 rfl (lv_at hl 1 rfl) ?_
        refine va_get (D := D) (ci := 9) (v := .ref (a 7)) (C := RX10) (T := TX10) (N := 14) hx hb hts inX10_X10_read hown hK.1 hP 4 rfl rfl 7 (by decide) (hts (.fieldLink RX10 22 "SandPalace$Work" "reach" "[I") (by decide +kernel)) (fun _ h9 => h9) rfl dX10_read_62 ?_
        refine lv_iload_n hx hb dX10_read_65 rfl (lv_at hl 3 rfl) ?_
        refine lv_aload_n hx hb dX10_read_66 rfl (lv_at hl 0 rfl) ?_
        obtain ⟨v13, hc_v13, h⟩ := bd_some h
        refine mcallS (r := v13) (rest := [.int x2, .ref (a 7)]) (a0 := (Value.ref q6 :: []).toArray) ?_ ?_
        · rcases f_q6.2 with kq | kq | kq | kq | kq
          · exact va_runU (As := []) (rest := [.int x2, .ref (a 7)]) ⟨hx, hb, hml, hown, hts⟩ (kX6_reach l D cs a sh LP Z hZ q6 f_q6.1 f_q6.2 σ12 F  v13 hc_v13) (va_cwU 0 hts gX10_read_X6_reach_u101X0 rfl rfl rfl rfl (by decide +kernel) ⟨Nat.le_of_ble_eq_true rfl, Nat.le_of_ble_eq_true rfl⟩) (pR_v hP hK (shr0 hK.1 hP f_q6.1 kq)) rfl rfl hl.1 rfl (lv_room (Nat.le_of_ble_eq_true rfl)) dX10_read_67 ⟨Nat.zero_le _, Nat.zero_le _⟩
          · exact va_runU (As := []) (rest := [.int x2, .ref (a 7)]) ⟨hx, hb, hml, hown, hts⟩ (kX6_reach l D cs a sh LP Z hZ q6 f_q6.1 f_q6.2 σ12 F  v13 hc_v13) (va_cwU 0 hts gX10_read_X6_reach_u101X1 rfl rfl rfl rfl (by decide +kernel) ⟨Nat.le_of_ble_eq_true rfl, Nat.le_of_ble_eq_true rfl⟩) (pR_v hP hK (shr1 hK.1 hP f_q6.1 kq)) rfl rfl hl.1 rfl (lv_room (Nat.le_of_ble_eq_true rfl)) dX10_read_67 ⟨Nat.zero_le _, Nat.zero_le _⟩
          · exact va_runU (As := []) (rest := [.int x2, .ref (a 7)]) ⟨hx, hb, hml, hown, hts⟩ (kX6_reach l D cs a sh LP Z hZ q6 f_q6.1 f_q6.2 σ12 F  v13 hc_v13) (va_cwU 0 hts gX10_read_X6_reach_u101X2 rfl rfl rfl rfl (by decide +kernel) ⟨Nat.le_of_ble_eq_true rfl, Nat.le_of_ble_eq_true rfl⟩) (pR_v hP hK (shr2 hK.1 hP f_q6.1 kq)) rfl rfl hl.1 rfl (lv_room (Nat.le_of_ble_eq_true rfl)) dX10_read_67 ⟨Nat.zero_le _, Nat.zero_le _⟩
          · exact va_runU (As := []) (rest := [.int x2, .ref (a 7)]) ⟨hx, hb, hml, hown, hts⟩ (kX6_reach l D cs a sh LP Z hZ q6 f_q6.1 f_q6.2 σ12 F  v13 hc_v13) (va_cwU 0 hts gX10_read_X6_reach_u101X5 rfl rfl rfl rfl (by decide +kernel) ⟨Nat.le_of_ble_eq_true rfl, Nat.le_of_ble_eq_true rfl⟩) (pR_v hP hK (shr5 hK.1 hP f_q6.1 kq)) rfl rfl hl.1 rfl (lv_room (Nat.le_of_ble_eq_true rfl)) dX10_read_67 ⟨Nat.zero_le _, Nat.zero_le _⟩
          · exact va_runU (As := []) (rest := [.int x2, .ref (a 7)]) ⟨hx, hb, hml, hown, hts⟩ (kX6_reach l D cs a sh LP Z hZ q6 f_q6.1 f_q6.2 σ12 F  v13 hc_v13) (va_cwU 0 hts gX10_read_X6_reach_u101X8 rfl rfl rfl rfl (by decide +kernel) ⟨Nat.le_of_ble_eq_true rfl, Nat.le_of_ble_eq_true rfl⟩) (pR_v hP hK (shr7 hK.1 hP f_q6.1 kq)) rfl rfl hl.1 rfl (lv_room (Nat.le_of_ble_eq_true rfl)) dX10_read_67 ⟨Nat.zero_le _, Nat.zero_le _⟩
        obtain ⟨i14, h⟩ := aS_some h
        refine va_iast hx hb hK.1 hP hD hS 7 0 rfl rfl i14 dX10_read_70 (fun H locs hP hD hS => ?_)
        obtain ⟨σ15, e_σ15, h⟩ := nm_some h
        have hP : va_P D vwCl (cW a cs sh LP Z σ15) H := by rw [← e_σ15]; exact hP
        have hD : va_D A (cW a cs sh LP Z σ15) := by rw [← e_σ15]; exact hD
        exact wX10_read_J71 C hZ hK hA  u9 F kb x2 hkb σ15 _ _ ls hP hD hS (lv_sub hl [1, 2, 3] rfl) h
set_option maxHeartbeats 4000000 in
set_option maxRecDepth 100000 in
theorem kX10_read (l : Launch) (D : va_G) (cs : Nat → ClassId) (a : Nat → Nat) (sh : Nat → Option Nat) (LP : List Nat) (Z : ZT) (hZ : shOK sh LP Z) (σ : Nat → Nat → Int32) (F : Nat)  (u9 : Nat → Nat → Int32) (h : fX10_read F sh Z σ = some u9) (sz : Nat) : Met l yX10_read wsX10_read rmX10_read (va_Pc [.ref (a 4), .ref (a 1)] (pQ D cs (cW a cs sh LP Z σ) sz)) (va_Qv (fun y => y = u9) (qB D (cW a cs sh LP Z) (va_A (cW a cs sh LP Z σ) sz)) (va_A (cW a cs sh LP Z σ) sz)) 0 0 (va_A (cW a cs sh LP Z σ) sz) := by
  refine Met.ofW (cc := cX10_read) (maxL := 4) (ret := none) (by decide) rfl ?_
  intro p e s m args below meth c s₁ B hml hv
  obtain ⟨rfl, hsz, hP, hK, hD0⟩ := hv
  have C : cxt p s m _ meth c cX10_read 4 RX10 wsX10_read none := ⟨B.exec, B.bytes, hml, findClass_of_methodNamed B.named, atoms_spec (ws := wsX10_read) B.pre, B.returns, B.notSynchronized⟩
  obtain ⟨hx, hb, -, hown, hts, hr, hlk⟩ := id C
  subst hsz
  have hD := hD0.self (sz := s.heap.size)
  generalize hAe : va_A (cW a cs sh LP Z σ) s.heap.size = A at hD ⊢
  have hA : ∀ q : Nat, s.heap.size ≤ q → A q := fun q h => by rw [← hAe]; exact Or.inr h
  have hS : va_S A s.heap s.heap [] := va_S.rf
  refine entryW [.ref (a 4), .ref (a 1)] (n := 4) (Nat.le_of_ble_eq_true rfl) (fun ls hl => ?_)
  have hl : lv_has ls 4 [(0, .ref (a 4)), (1, .ref (a 1))] := hl
  unfold fX10_read at h
  refine lv_aload_n hx hb dX10_read_0 rfl (lv_at hl 0 rfl) ?_
  refine lv_aload_n hx hb dX10_read_1 rfl (lv_at hl 1 rfl) ?_
  obtain ⟨v1, hc_v1, h⟩ := bd_some h
  refine mcallS (va_runV (As := []) (rest := [.ref (a 4)]) ⟨hx, hb, hml, hown, hts⟩ (kX4_shapesTold l D cs a sh LP Z hZ σ v1 hc_v1) (cwV 0 hts gX10_read_X4_shapesTold rfl rfl rfl (by decide +kernel) ⟨Nat.le_of_ble_eq_true rfl, Nat.le_of_ble_eq_true rfl⟩) (pR_v hP hK (va_recv hK.1 hP (ci := 4) (q0 := 1) rfl rfl)) rfl rfl hl.1 rfl (lv_room (Nat.le_of_ble_eq_true rfl)) dX10_read_2 ⟨Nat.zero_le _, Nat.zero_le _⟩) ?_
  refine va_put (D := D) (ci := 9) (v := .int v1) (ty := .int) (C := RX10) (T := TX10) (N := 14) hx hb hts inX10_X10_read tyX10 tyX10_ok nmX10 hown hK.1 hP hD hS 4 rfl rfl 4 (by decide) (hts (.fieldLink RX10 50 "SandPalace$Work" "count" "I") (by decide +kernel)) (fun _ h9 => h9) rfl (by decide +kernel) rfl rfl (Nat.le_of_ble_eq_true rfl) dX10_read_5 (fun H locs hP hD hS => ?_)
  obtain ⟨σ2, e_σ2, h⟩ := nm_some h
  have hP : va_P D vwCl (cW a cs sh LP Z σ2) H := by rw [← e_σ2]; exact hP
  have hD : va_D A (cW a cs sh LP Z σ2) := by rw [← e_σ2]; exact hD
  refine lv_aload_n hx hb dX10_read_8 rfl (lv_at hl 0 rfl) ?_
  refine lv_iconst (v := (1 : Int32)) hx hb dX10_read_9 (by decide) ?_
  refine lv_aload_n hx hb dX10_read_10 rfl (lv_at hl 0 rfl) ?_
  refine va_get (D := D) (ci := 9) (v := .int (σ2 38 0)) (C := RX10) (T := TX10) (N := 14) hx hb hts inX10_X10_read hown hK.1 hP 4 rfl rfl 4 (by decide) (hts (.fieldLink RX10 50 "SandPalace$Work" "count" "I") (by decide +kernel)) (fun _ h9 => h9) rfl dX10_read_11 ?_
  refine lv_ishl hx hb dX10_read_14 ?_
  refine lv_iconst (v := (1 : Int32)) hx hb dX10_read_15 (by decide) ?_
  refine lv_isub hx hb dX10_read_16 ?_
  refine va_put (D := D) (ci := 9) (v := .int (((1 : Int32) <<< ((σ2 38 0) &&& 31)) - (1 : Int32))) (ty := .int) (C := RX10) (T := TX10) (N := 14) hx hb hts inX10_X10_read tyX10 tyX10_ok nmX10 hown hK.1 hP hD hS 4 rfl rfl 2 (by decide) (hts (.fieldLink RX10 70 "SandPalace$Work" "all" "I") (by decide +kernel)) (fun _ h9 => h9) rfl (by decide +kernel) rfl rfl (Nat.le_of_ble_eq_true rfl) dX10_read_17 (fun H locs hP hD hS => ?_)
  obtain ⟨σ3, e_σ3, h⟩ := nm_some h
  have hP : va_P D vwCl (cW a cs sh LP Z σ3) H := by rw [← e_σ3]; exact hP
  have hD : va_D A (cW a cs sh LP Z σ3) := by rw [← e_σ3]; exact hD
  refine lv_iconst (v := (0 : Int32)) hx hb dX10_read_20 (by decide) ?_
  refine lv_istore_n (lv' := [(2, .int (0 : Int32)), (0, .ref (a 4)), (1, .ref (a 1))]) hx hb dX10_read_21 rfl hl (by decide) rfl (fun ls hl => ?_)
  refine wX10_read_L22 C hZ hK hA  u9 F  _ ?_ F (0 : Int32) σ3 _ _ ls hP hD hS (lv_sub hl [1, 2, 0] rfl) h
  intro σ4 H locs ls hP hD hS hl h
  exact mretV hx hb hr hlk h hP hD hS dX10_read_77
def fX10_isOneTooLarge_L2 (F : Nat) (sh : Nat → Option Nat) (Z : ZT) (σ : Nat → Nat → Int32) (kx : Option Int32) : Nat → Int32 → Option Int32
  | 0, _ => none
  | n+1, x1 =>
    nb ((fun x1 => fX10_isOneTooLarge_L2 F sh Z σ kx n x1)) fun kb =>
    if (σ 38 0) ≤ x1 then kx else (aI (σ 6) 10 x1 fun v2 => if v2 ≤ (σ 34 0) then (kb (x1 + (1 : Int32))) else (some (1 : Int32)))
def fX10_isOneTooLarge (F : Nat) (sh : Nat → Option Nat) (Z : ZT) (σ : Nat → Nat → Int32)  : Option Int32 :=
  fX10_isOneTooLarge_L2 F sh Z σ (some (0 : Int32)) F (0 : Int32)
abbrev rmX10_isOneTooLarge : Room := { frames := 0, cells := 0, slots := 0, locals := 0 }
theorem inX10_X10_isOneTooLarge : ∀ w ∈ wsX100, w ∈ wsX10_isOneTooLarge := by intro w h; simp only [wsX10_isOneTooLarge, List.mem_cons, List.mem_append]; simp only [h, true_or, or_true]
set_option maxHeartbeats 4000000 in
set_option maxRecDepth 100000 in
theorem wX10_isOneTooLarge_L2 {p : Program} {l : Launch} {e : Env} {s : State} {m : MethodId} {args : Array Value} {below : List Frame} {meth : Method} {c : Code} (C : cxt p s m args meth c cX10_isOneTooLarge 2 RX10 wsX10_isOneTooLarge (some .boolean)) {D : va_G} {cs : Nat → ClassId} {a : Nat → Nat} {sh : Nat → Option Nat} {LP : List Nat} {Z : ZT} (hZ : shOK sh LP Z) (hK : KK D cs s) {σ : Nat → Nat → Int32} (hP : va_P D vwCl (cW a cs sh LP Z σ) s.heap) (r : Int32) (F : Nat) (kx : Option Int32) (hkx : ∀ (ls : Array Slot), lv_has ls 2 [] → kx = some r → W p l e rmX10_isOneTooLarge s m args below meth c s.heap [] 0 0 (MQ below (vp_Si (fun x => x = r ∧ (r = 0 ∨ r = 1))) args s 0 0 (fun _ => False)) (F0 m 31 ls [])) : ∀ (n : Nat) (x1 : Int32) (ls : Array Slot), lv_has ls 2 [(0, .ref (a 4)), (1, .int x1)] → fX10_isOneTooLarge_L2 F sh Z σ kx n x1 = some r → W p l e rmX10_isOneTooLarge s m args below meth c s.heap [] 0 0 (MQ below (vp_Si (fun x => x = r ∧ (r = 0 ∨ r = 1))) args s 0 0 (fun _ => False)) (F0 m 2 ls []) := by
  obtain ⟨hx, hb, hml, hown, hts, hr, hlk⟩ := id C
  intro n
  induction n with
  | zero =>
    intros
    rename_i h
    cases h
  | succ n ih =>
    intro x1 ls hl h
    rw [fX10_isOneTooLarge_L2] at h
    obtain ⟨kb, hkb, h⟩ := nb_some (P := fun (kb : Int32 → Option Int32) => ∀ (x1 : Int32) (ls : Array Slot), lv_has ls 2 [(0, .ref (a 4)), (1, .int x1)] → kb x1 = some r → W p l e rmX10_isOneTooLarge s m args below meth c s.heap [] 0 0 (MQ below (vp_Si (fun x => x = r ∧ (r = 0 ∨ r = 1))) args s 0 0 (fun _ => False)) (F0 m 2 ls [])) h ih
    refine lv_iload_n hx hb dX10_isOneTooLarge_2 rfl (lv_at hl 1 rfl) ?_
    refine lv_aload_n hx hb dX10_isOneTooLarge_3 rfl (lv_at hl 0 rfl) ?_
    refine va_get (D := D) (ci := 9) (v := .int (σ 38 0)) (C := RX10) (T := TX10) (N := 14) hx hb hts inX10_X10_isOneTooLarge hown hK.1 hP 4 rfl rfl 4 (by decide) (hts (.fieldLink RX10 50 "SandPalace$Work" "count" "I") (by decide +kernel)) (fun _ h9 => h9) rfl dX10_isOneTooLarge_4 ?_
    refine lv_icmp_ge (tgt := 31) hx hb dX10_isOneTooLarge_7 (by decide) (fun c1 => ?_) (fun c1 => ?_)
    · have h := it_t c1 h
      exact hkx  ls (lv_sub hl [] rfl) h
    · have h := it_f c1 h
      refine lv_aload_n hx hb dX10_isOneTooLarge_10 rfl (lv_at hl 0 rfl) ?_
      refine va_get (D := D) (ci := 9) (v := .ref (a 6)) (C := RX10) (T := TX10) (N := 14) hx hb hts inX10_X10_isOneTooLarge hown hK.1 hP 4 rfl rfl 6 (by decide) (hts (.fieldLink RX10 19 "SandPalace$Work" "weight" "[I") (by decide +kernel)) (fun _ h9 => h9) rfl dX10_isOneTooLarge_11 ?_
      refine lv_iload_n hx hb dX10_isOneTooLarge_14 rfl (lv_at hl 1 rfl) ?_
      obtain ⟨v2, i_v2, e_v2, h⟩ := aI_some h
      refine miald hx hb hK.1 hP 6 0 rfl rfl i_v2 e_v2 dX10_isOneTooLarge_15 ?_
      refine lv_aload_n hx hb dX10_isOneTooLarge_16 rfl (lv_at hl 0 rfl) ?_
      refine va_get (D := D) (ci := 9) (v := .int (σ 34 0)) (C := RX10) (T := TX10) (N := 14) hx hb hts inX10_X10_isOneTooLarge hown hK.1 hP 4 rfl rfl 0 (by decide) (hts (.fieldLink RX10 9 "SandPalace$Work" "sandOfDay" "I") (by decide +kernel)) (fun _ h9 => h9) rfl dX10_isOneTooLarge_17 ?_
      refine lv_icmp_le (tgt := 25) hx hb dX10_isOneTooLarge_20 (by decide) (fun c3 => ?_) (fun c3 => ?_)
      · have h := it_t c3 h
        refine lv_iinc (v := x1 + (1 : Int32)) (lv' := [(1, .int (x1 + (1 : Int32))), (0, .ref (a 4))]) hx hb dX10_isOneTooLarge_25 hl (k := 1) rfl rfl (by decide) rfl (fun ls hl => ?_)
        refine lv_goto (tgt := 2) hx hb dX10_isOneTooLarge_28 (by decide) ?_
        exact hkb (x1 + (1 : Int32)) ls (lv_sub hl [1, 0] rfl) h
      · have h := it_f c3 h
        refine lv_iconst (v := (1 : Int32)) hx hb dX10_isOneTooLarge_23 (by decide) ?_
        exact mretSZ hx hb hr hlk h (Or.inr rfl) dX10_isOneTooLarge_24
set_option maxHeartbeats 4000000 in
set_option maxRecDepth 100000 in
theorem kX10_isOneTooLarge (l : Launch) (D : va_G) (cs : Nat → ClassId) (a : Nat → Nat) (sh : Nat → Option Nat) (LP : List Nat) (Z : ZT) (hZ : shOK sh LP Z) (σ : Nat → Nat → Int32) (F : Nat)  (r : Int32) (h : fX10_isOneTooLarge F sh Z σ = some r) : Met l yX10_isOneTooLarge wsX10_isOneTooLarge rmX10_isOneTooLarge (va_Pc [.ref (a 4)] (pR D cs (cW a cs sh LP Z σ))) (vp_Si (fun x => x = r ∧ (r = 0 ∨ r = 1))) 0 0 (fun _ => False) := by
  refine Met.ofW (cc := cX10_isOneTooLarge) (maxL := 2) (ret := (some .boolean)) (by decide) rfl ?_
  intro p e s m args below meth c s₁ B hml hv
  obtain ⟨rfl, hP, hK⟩ := hv
  have C : cxt p s m _ meth c cX10_isOneTooLarge 2 RX10 wsX10_isOneTooLarge (some .boolean) := ⟨B.exec, B.bytes, hml, findClass_of_methodNamed B.named, atoms_spec (ws := wsX10_isOneTooLarge) B.pre, B.returns, B.notSynchronized⟩
  obtain ⟨hx, hb, -, hown, hts, hr, hlk⟩ := id C
  refine entryW [.ref (a 4)] (n := 2) (Nat.le_of_ble_eq_true rfl) (fun ls hl => ?_)
  have hl : lv_has ls 2 [(0, .ref (a 4))] := hl
  unfold fX10_isOneTooLarge at h
  refine lv_iconst (v := (0 : Int32)) hx hb dX10_isOneTooLarge_0 (by decide) ?_
  refine lv_istore_n (lv' := [(1, .int (0 : Int32)), (0, .ref (a 4))]) hx hb dX10_isOneTooLarge_1 rfl hl (by decide) rfl (fun ls hl => ?_)
  refine wX10_isOneTooLarge_L2 C hZ hK hP r F  _ ?_ F (0 : Int32) ls (lv_sub hl [1, 0] rfl) h
  intro  ls hl h
  refine lv_iconst (v := (0 : Int32)) hx hb dX10_isOneTooLarge_31 (by decide) ?_
  exact mretSZ hx hb hr hlk h (Or.inl rfl) dX10_isOneTooLarge_32
def fX10_goesRound_J44 (F : Nat) (sh : Nat → Option Nat) (Z : ZT) (kb : Int32 → Int32 → Option Int32) (x1 : Int32) (x2 : Int32) (x3 : Int32) (σ : Nat → Nat → Int32) : Option Int32 :=
  kb x1 (x3 + (1 : Int32))
def fX10_goesRound_L17 (F : Nat) (sh : Nat → Option Nat) (Z : ZT) (σ : Nat → Nat → Int32) (x2 : Int32) (kx : Int32 → Option Int32) : Nat → Int32 → Int32 → Option Int32
  | 0, _, _ => none
  | n+1, x1, x3 =>
    nb ((fun x1 x3 => fX10_goesRound_L17 F sh Z σ x2 kx n x1 x3)) fun kb =>
    if (σ 38 0) ≤ x3 then (kx x1) else (aI (σ 5) 10 x3 fun v3 => if ¬ (v3 &&& x1) = 0 then (fX10_goesRound_J44 F sh Z kb x1 x2 x3 σ) else (nm (x1 &&& (((1 : Int32) <<< (x3 &&& 31)) ^^^ ((-1) : Int32))) fun z5 => fX10_goesRound_J44 F sh Z kb z5 x2 x3 σ))
def fX10_goesRound_L7 (F : Nat) (sh : Nat → Option Nat) (Z : ZT) (σ : Nat → Nat → Int32) (kx : Int32 → Option Int32) : Nat → Int32 → Int32 → Option Int32
  | 0, _, _ => none
  | n+1, x1, x2 =>
    nb ((fun x1 x2 => fX10_goesRound_L7 F sh Z σ kx n x1 x2)) fun kb =>
    if (σ 38 0) ≤ x2 then (kx x1) else (fX10_goesRound_L17 F sh Z σ x2 (fun y2 => kb y2 (x2 + (1 : Int32))) F x1 (0 : Int32))
def fX10_goesRound (F : Nat) (sh : Nat → Option Nat) (Z : ZT) (σ : Nat → Nat → Int32)  : Option Int32 :=
  fX10_goesRound_L7 F sh Z σ (fun y1 => if y1 = 0 then (some (0 : Int32)) else (some (1 : Int32))) F (σ 36 0) (0 : Int32)
abbrev rmX10_goesRound : Room := { frames := 0, cells := 0, slots := 0, locals := 0 }
theorem inX10_X10_goesRound : ∀ w ∈ wsX100, w ∈ wsX10_goesRound := by intro w h; simp only [wsX10_goesRound, List.mem_cons, List.mem_append]; simp only [h, true_or, or_true]
set_option maxHeartbeats 4000000 in
set_option maxRecDepth 100000 in
theorem wX10_goesRound_J44 {p : Program} {l : Launch} {e : Env} {s : State} {m : MethodId} {args : Array Value} {below : List Frame} {meth : Method} {c : Code} (C : cxt p s m args meth c cX10_goesRound 4 RX10 wsX10_goesRound (some .boolean)) {D : va_G} {cs : Nat → ClassId} {a : Nat → Nat} {sh : Nat → Option Nat} {LP : List Nat} {Z : ZT} (hZ : shOK sh LP Z) (hK : KK D cs s) {σ : Nat → Nat → Int32} (hP : va_P D vwCl (cW a cs sh LP Z σ) s.heap) (r : Int32) (F : Nat) (kb : Int32 → Int32 → Option Int32) (x1 : Int32) (x2 : Int32) (x3 : Int32) (hkb : ∀ (x1 : Int32) (x3 : Int32) (ls : Array Slot), lv_has ls 4 [(0, .ref (a 4)), (1, .int x1), (2, .int x2), (3, .int x3)] → kb x1 x3 = some r → W p l e rmX10_goesRound s m args below meth c s.heap [] 0 0 (MQ below (vp_Si (fun x => x = r ∧ (r = 0 ∨ r = 1))) args s 0 0 (fun _ => False)) (F0 m 17 ls [])) (ls : Array Slot) (hl : lv_has ls 4 [(0, .ref (a 4)), (1, .int x1), (2, .int x2), (3, .int x3)]) (h : fX10_goesRound_J44 F sh Z kb x1 x2 x3 σ = some r) : W p l e rmX10_goesRound s m args below meth c s.heap [] 0 0 (MQ below (vp_Si (fun x => x = r ∧ (r = 0 ∨ r = 1))) args s 0 0 (fun _ => False)) (F0 m 44 ls []) := by
  obtain ⟨hx, hb, hml, hown, hts, hr, hlk⟩ := id C
  unfold fX10_goesRound_J44 at h
  refine lv_iinc (v := x3 + (1 : Int32)) (lv' := [(3, .int (x3 + (1 : Int32))), (0, .ref (a 4)), (1, .int x1), (2, .int x2)]) hx hb dX10_goesRound_44 hl (k := 3) rfl rfl (by decide) rfl (fun ls hl => ?_)
  refine lv_goto (tgt := 17) hx hb dX10_goesRound_47 (by decide) ?_
  exact hkb x1 (x3 + (1 : Int32)) ls (lv_sub hl [1, 2, 3, 0] rfl) h
set_option maxHeartbeats 4000000 in
set_option maxRecDepth 100000 in
theorem wX10_goesRound_L17 {p : Program} {l : Launch} {e : Env} {s : State} {m : MethodId} {args : Array Value} {below : List Frame} {meth : Method} {c : Code} (C : cxt p s m args meth c cX10_goesRound 4 RX10 wsX10_goesRound (some .boolean)) {D : va_G} {cs : Nat → ClassId} {a : Nat → Nat} {sh : Nat → Option Nat} {LP : List Nat} {Z : ZT} (hZ : shOK sh LP Z) (hK : KK D cs s) {σ : Nat → Nat → Int32} (hP : va_P D vwCl (cW a cs sh LP Z σ) s.heap) (r : Int32) (F : Nat) (x2 : Int32) (kx : Int32 → Option Int32) (hkx : ∀ (x1 : Int32) (ls : Array Slot), lv_has ls 4 [(0, .ref (a 4)), (1, .int x1), (2, .int x2)] → kx x1 = some r → W p l e rmX10_goesRound s m args below meth c s.heap [] 0 0 (MQ below (vp_Si (fun x => x = r ∧ (r = 0 ∨ r = 1))) args s 0 0 (fun _ => False)) (F0 m 50 ls [])) : ∀ (n : Nat) (x1 : Int32) (x3 : Int32) (ls : Array Slot), lv_has ls 4 [(0, .ref (a 4)), (1, .int x1), (2, .int x2), (3, .int x3)] → fX10_goesRound_L17 F sh Z σ x2 kx n x1 x3 = some r → W p l e rmX10_goesRound s m args below meth c s.heap [] 0 0 (MQ below (vp_Si (fun x => x = r ∧ (r = 0 ∨ r = 1))) args s 0 0 (fun _ => False)) (F0 m 17 ls []) := by
  obtain ⟨hx, hb, hml, hown, hts, hr, hlk⟩ := id C
  intro n
  induction n with
  | zero =>
    intros
    rename_i h
    cases h
  | succ n ih =>
    intro x1 x3 ls hl h
    rw [fX10_goesRound_L17] at h
    obtain ⟨kb, hkb, h⟩ := nb_some (P := fun (kb : Int32 → Int32 → Option Int32) => ∀ (x1 : Int32) (x3 : Int32) (ls : Array Slot), lv_has ls 4 [(0, .ref (a 4)), (1, .int x1), (2, .int x2), (3, .int x3)] → kb x1 x3 = some r → W p l e rmX10_goesRound s m args below meth c s.heap [] 0 0 (MQ below (vp_Si (fun x => x = r ∧ (r = 0 ∨ r = 1))) args s 0 0 (fun _ => False)) (F0 m 17 ls [])) h ih
    refine lv_iload_n hx hb dX10_goesRound_17 rfl (lv_at hl 3 rfl) ?_
    refine lv_aload_n hx hb dX10_goesRound_18 rfl (lv_at hl 0 rfl) ?_
    refine va_get (D := D) (ci := 9) (v := .int (σ 38 0)) (C := RX10) (T := TX10) (N := 14) hx hb hts inX10_X10_goesRound hown hK.1 hP 4 rfl rfl 4 (by decide) (hts (.fieldLink RX10 50 "SandPalace$Work" "count" "I") (by decide +kernel)) (fun _ h9 => h9) rfl dX10_goesRound_19 ?_
    refine lv_icmp_ge (tgt := 50) hx hb dX10_goesRound_22 (by decide) (fun c2 => ?_) (fun c2 => ?_)
    · have h := it_t c2 h
      exact hkx x1 ls (lv_sub hl [0, 1, 2] rfl) h
    · have h := it_f c2 h
      refine lv_aload_n hx hb dX10_goesRound_25 rfl (lv_at hl 0 rfl) ?_
      refine va_get (D := D) (ci := 9) (v := .ref (a 5)) (C := RX10) (T := TX10) (N := 14) hx hb hts inX10_X10_goesRound hown hK.1 hP 4 rfl rfl 5 (by decide) (hts (.fieldLink RX10 15 "SandPalace$Work" "ahead" "[I") (by decide +kernel)) (fun _ h9 => h9) rfl dX10_goesRound_26 ?_
      refine lv_iload_n hx hb dX10_goesRound_29 rfl (lv_at hl 3 rfl) ?_
      obtain ⟨v3, i_v3, e_v3, h⟩ := aI_some h
      refine miald hx hb hK.1 hP 5 0 rfl rfl i_v3 e_v3 dX10_goesRound_30 ?_
      refine lv_iload_n hx hb dX10_goesRound_31 rfl (lv_at hl 1 rfl) ?_
      refine lv_iand hx hb dX10_goesRound_32 ?_
      refine lv_if_ne (tgt := 44) hx hb dX10_goesRound_33 (by decide) (fun c4 => ?_) (fun c4 => ?_)
      · have h := it_t c4 h
        exact wX10_goesRound_J44 C hZ hK hP r F kb x1 x2 x3 hkb ls (lv_sub hl [0, 1, 2, 3] rfl) h
      · have h := it_n c4 h
        refine lv_iload_n hx hb dX10_goesRound_36 rfl (lv_at hl 1 rfl) ?_
        refine lv_iconst (v := (1 : Int32)) hx hb dX10_goesRound_37 (by decide) ?_
        refine lv_iload_n hx hb dX10_goesRound_38 rfl (lv_at hl 3 rfl) ?_
        refine lv_ishl hx hb dX10_goesRound_39 ?_
        refine lv_iconst (v := ((-1) : Int32)) hx hb dX10_goesRound_40 (by decide) ?_
        refine lv_ixor hx hb dX10_goesRound_41 ?_
        refine lv_iand hx hb dX10_goesRound_42 ?_
        obtain ⟨z5, e_z5, h⟩ := nm_some h
        refine tpi e_z5 ?_
        refine lv_istore_n (lv' := [(1, .int z5), (0, .ref (a 4)), (2, .int x2), (3, .int x3)]) hx hb dX10_goesRound_43 rfl hl (by decide) rfl (fun ls hl => ?_)
        exact wX10_goesRound_J44 C hZ hK hP r F kb z5 x2 x3 hkb ls (lv_sub hl [1, 0, 2, 3] rfl) h
set_option maxHeartbeats 4000000 in
set_option maxRecDepth 100000 in
theorem wX10_goesRound_L7 {p : Program} {l : Launch} {e : Env} {s : State} {m : MethodId} {args : Array Value} {below : List Frame} {meth : Method} {c : Code} (C : cxt p s m args meth c cX10_goesRound 4 RX10 wsX10_goesRound (some .boolean)) {D : va_G} {cs : Nat → ClassId} {a : Nat → Nat} {sh : Nat → Option Nat} {LP : List Nat} {Z : ZT} (hZ : shOK sh LP Z) (hK : KK D cs s) {σ : Nat → Nat → Int32} (hP : va_P D vwCl (cW a cs sh LP Z σ) s.heap) (r : Int32) (F : Nat) (kx : Int32 → Option Int32) (hkx : ∀ (x1 : Int32) (ls : Array Slot), lv_has ls 4 [(1, .int x1)] → kx x1 = some r → W p l e rmX10_goesRound s m args below meth c s.heap [] 0 0 (MQ below (vp_Si (fun x => x = r ∧ (r = 0 ∨ r = 1))) args s 0 0 (fun _ => False)) (F0 m 56 ls [])) : ∀ (n : Nat) (x1 : Int32) (x2 : Int32) (ls : Array Slot), lv_has ls 4 [(0, .ref (a 4)), (1, .int x1), (2, .int x2)] → fX10_goesRound_L7 F sh Z σ kx n x1 x2 = some r → W p l e rmX10_goesRound s m args below meth c s.heap [] 0 0 (MQ below (vp_Si (fun x => x = r ∧ (r = 0 ∨ r = 1))) args s 0 0 (fun _ => False)) (F0 m 7 ls []) := by
  obtain ⟨hx, hb, hml, hown, hts, hr, hlk⟩ := id C
  intro n
  induction n with
  | zero =>
    intros
    rename_i h
    cases h
  | succ n ih =>
    intro x1 x2 ls hl h
    rw [fX10_goesRound_L7] at h
    obtain ⟨kb, hkb, h⟩ := nb_some (P := fun (kb : Int32 → Int32 → Option Int32) => ∀ (x1 : Int32) (x2 : Int32) (ls : Array Slot), lv_has ls 4 [(0, .ref (a 4)), (1, .int x1), (2, .int x2)] → kb x1 x2 = some r → W p l e rmX10_goesRound s m args below meth c s.heap [] 0 0 (MQ below (vp_Si (fun x => x = r ∧ (r = 0 ∨ r = 1))) args s 0 0 (fun _ => False)) (F0 m 7 ls [])) h ih
    refine lv_iload_n hx hb dX10_goesRound_7 rfl (lv_at hl 2 rfl) ?_
    refine lv_aload_n hx hb dX10_goesRound_8 rfl (lv_at hl 0 rfl) ?_
    refine va_get (D := D) (ci := 9) (v := .int (σ 38 0)) (C := RX10) (T := TX10) (N := 14) hx hb hts inX10_X10_goesRound hown hK.1 hP 4 rfl rfl 4 (by decide) (hts (.fieldLink RX10 50 "SandPalace$Work" "count" "I") (by decide +kernel)) (fun _ h9 => h9) rfl dX10_goesRound_9 ?_
    refine lv_icmp_ge (tgt := 56) hx hb dX10_goesRound_12 (by decide) (fun c1 => ?_) (fun c1 => ?_)
    · have h := it_t c1 h
      exact hkx x1 ls (lv_sub hl [1] rfl) h
    · have h := it_f c1 h
      refine lv_iconst (v := (0 : Int32)) hx hb dX10_goesRound_15 (by decide) ?_
      refine lv_istore_n (lv' := [(3, .int (0 : Int32)), (0, .ref (a 4)), (1, .int x1), (2, .int x2)]) hx hb dX10_goesRound_16 rfl hl (by decide) rfl (fun ls hl => ?_)
      refine wX10_goesRound_L17 C hZ hK hP r F x2 _ ?_ F x1 (0 : Int32) ls (lv_sub hl [1, 2, 3, 0] rfl) h
      intro y2 ls hl h
      refine lv_iinc (v := x2 + (1 : Int32)) (lv' := [(2, .int (x2 + (1 : Int32))), (0, .ref (a 4)), (1, .int y2)]) hx hb dX10_goesRound_50 hl (k := 2) rfl rfl (by decide) rfl (fun ls hl => ?_)
      refine lv_goto (tgt := 7) hx hb dX10_goesRound_53 (by decide) ?_
      exact hkb y2 (x2 + (1 : Int32)) ls (lv_sub hl [1, 2, 0] rfl) h
set_option maxHeartbeats 4000000 in
set_option maxRecDepth 100000 in
theorem kX10_goesRound (l : Launch) (D : va_G) (cs : Nat → ClassId) (a : Nat → Nat) (sh : Nat → Option Nat) (LP : List Nat) (Z : ZT) (hZ : shOK sh LP Z) (σ : Nat → Nat → Int32) (F : Nat)  (r : Int32) (h : fX10_goesRound F sh Z σ = some r) : Met l yX10_goesRound wsX10_goesRound rmX10_goesRound (va_Pc [.ref (a 4)] (pR D cs (cW a cs sh LP Z σ))) (vp_Si (fun x => x = r ∧ (r = 0 ∨ r = 1))) 0 0 (fun _ => False) := by
  refine Met.ofW (cc := cX10_goesRound) (maxL := 4) (ret := (some .boolean)) (by decide) rfl ?_
  intro p e s m args below meth c s₁ B hml hv
  obtain ⟨rfl, hP, hK⟩ := hv
  have C : cxt p s m _ meth c cX10_goesRound 4 RX10 wsX10_goesRound (some .boolean) := ⟨B.exec, B.bytes, hml, findClass_of_methodNamed B.named, atoms_spec (ws := wsX10_goesRound) B.pre, B.returns, B.notSynchronized⟩
  obtain ⟨hx, hb, -, hown, hts, hr, hlk⟩ := id C
  refine entryW [.ref (a 4)] (n := 4) (Nat.le_of_ble_eq_true rfl) (fun ls hl => ?_)
  have hl : lv_has ls 4 [(0, .ref (a 4))] := hl
  unfold fX10_goesRound at h
  refine lv_aload_n hx hb dX10_goesRound_0 rfl (lv_at hl 0 rfl) ?_
  refine va_get (D := D) (ci := 9) (v := .int (σ 36 0)) (C := RX10) (T := TX10) (N := 14) hx hb hts inX10_X10_goesRound hown hK.1 hP 4 rfl rfl 2 (by decide) (hts (.fieldLink RX10 70 "SandPalace$Work" "all" "I") (by decide +kernel)) (fun _ h9 => h9) rfl dX10_goesRound_1 ?_
  refine lv_istore_n (lv' := [(1, .int (σ 36 0)), (0, .ref (a 4))]) hx hb dX10_goesRound_4 rfl hl (by decide) rfl (fun ls hl => ?_)
  refine lv_iconst (v := (0 : Int32)) hx hb dX10_goesRound_5 (by decide) ?_
  refine lv_istore_n (lv' := [(2, .int (0 : Int32)), (1, .int (σ 36 0)), (0, .ref (a 4))]) hx hb dX10_goesRound_6 rfl hl (by decide) rfl (fun ls hl => ?_)
  refine wX10_goesRound_L7 C hZ hK hP r F  _ ?_ F (σ 36 0) (0 : Int32) ls (lv_sub hl [2, 1, 0] rfl) h
  intro y1 ls hl h
  refine lv_iload_n hx hb dX10_goesRound_56 rfl (lv_at hl 0 rfl) ?_
  refine lv_if_eq (tgt := 64) hx hb dX10_goesRound_57 (by decide) (fun c2 => ?_) (fun c2 => ?_)
  · have h := it_t c2 h
    refine lv_iconst (v := (0 : Int32)) hx hb dX10_goesRound_64 (by decide) ?_
    exact mretSZ hx hb hr hlk h (Or.inl rfl) dX10_goesRound_65
  · have h := it_f c2 h
    refine lv_iconst (v := (1 : Int32)) hx hb dX10_goesRound_60 (by decide) ?_
    refine lv_goto (tgt := 65) hx hb dX10_goesRound_61 (by decide) ?_
    exact mretSZ hx hb hr hlk h (Or.inr rfl) dX10_goesRound_65
def fX10_separate_L2 (F : Nat) (sh : Nat → Option Nat) (Z : ZT) (kx : (Nat → Nat → Int32) → Option ((Nat → Nat → Int32))) : Nat → Int32 → (Nat → Nat → Int32) → Option ((Nat → Nat → Int32))
  | 0, _, _ => none
  | n+1, x1, σ =>
    nb ((fun x1 σ => fX10_separate_L2 F sh Z kx n x1 σ)) fun kb =>
    if (σ 38 0) ≤ x1 then (kx σ) else (aS 10 x1 (nm (sg σ 8 (upd (σ 8) x1.toNatClampNeg (0 : Int32))) fun σ3 => kb (x1 + (1 : Int32)) σ3))
def fX10_separate_J95 (F : Nat) (sh : Nat → Option Nat) (Z : ZT) (kb : Int32 → (Nat → Nat → Int32) → Option ((Nat → Nat → Int32))) (x1 : Int32) (x2 : Int32) (σ : Nat → Nat → Int32) : Option ((Nat → Nat → Int32)) :=
  kb (x2 + (1 : Int32)) σ
def fX10_separate_L35 (F : Nat) (sh : Nat → Option Nat) (Z : ZT) (x1 : Int32) (kx : (Nat → Nat → Int32) → Option ((Nat → Nat → Int32))) : Nat → Int32 → (Nat → Nat → Int32) → Option ((Nat → Nat → Int32))
  | 0, _, _ => none
  | n+1, x2, σ =>
    nb ((fun x2 σ => fX10_separate_L35 F sh Z x1 kx n x2 σ)) fun kb =>
    if (σ 38 0) ≤ x2 then (kx σ) else (aI (σ 5) 10 x1 fun v4 => if ((v4 >>> (x2 &&& 31)) &&& (1 : Int32)) = 0 then (fX10_separate_J95 F sh Z kb x1 x2 σ) else (aI (σ 7) 10 x2 fun v6 => aI (σ 7) 10 x1 fun v7 => if v6 ≤ v7 then (fX10_separate_J95 F sh Z kb x1 x2 σ) else (aI (σ 8) 10 x1 fun v9 => aS 10 x1 (nm (sg σ 8 (upd (σ 8) x1.toNatClampNeg (v9 ||| ((1 : Int32) <<< (x2 &&& 31))))) fun σ11 => aI (σ11 8) 10 x2 fun v12 => aS 10 x2 (nm (sg σ11 8 (upd (σ11 8) x2.toNatClampNeg (v12 ||| ((1 : Int32) <<< (x1 &&& 31))))) fun σ14 => fX10_separate_J95 F sh Z kb x1 x2 σ14)))))
def fX10_separate_L25 (F : Nat) (sh : Nat → Option Nat) (Z : ZT) (kx : (Nat → Nat → Int32) → Option ((Nat → Nat → Int32))) : Nat → Int32 → (Nat → Nat → Int32) → Option ((Nat → Nat → Int32))
  | 0, _, _ => none
  | n+1, x1, σ =>
    nb ((fun x1 σ => fX10_separate_L25 F sh Z kx n x1 σ)) fun kb =>
    if (σ 38 0) ≤ x1 then (kx σ) else (fX10_separate_L35 F sh Z x1 (fun σ3 => kb (x1 + (1 : Int32)) σ3) F (0 : Int32) σ)
def fX10_separate (F : Nat) (sh : Nat → Option Nat) (Z : ZT) (σ : Nat → Nat → Int32)  : Option ((Nat → Nat → Int32)) :=
  fX10_separate_L2 F sh Z (fun σ1 => fX10_separate_L25 F sh Z (fun σ2 => some σ2) F (0 : Int32) σ1) F (0 : Int32) σ
abbrev rmX10_separate : Room := { frames := 0, cells := 0, slots := 0, locals := 0 }
theorem inX10_X10_separate : ∀ w ∈ wsX100, w ∈ wsX10_separate := by intro w h; simp only [wsX10_separate, List.mem_cons, List.mem_append]; simp only [h, true_or, or_true]
set_option maxHeartbeats 4000000 in
set_option maxRecDepth 100000 in
theorem wX10_separate_L2 {p : Program} {l : Launch} {e : Env} {s : State} {m : MethodId} {args : Array Value} {below : List Frame} {meth : Method} {c : Code} (C : cxt p s m args meth c cX10_separate 3 RX10 wsX10_separate none) {D : va_G} {cs : Nat → ClassId} {a : Nat → Nat} {sh : Nat → Option Nat} {LP : List Nat} {Z : ZT} (hZ : shOK sh LP Z) (hK : KK D cs s) {A : Nat → Prop} (hA : ∀ q, s.heap.size ≤ q → A q) (u9 : Nat → Nat → Int32) (F : Nat) (kx : (Nat → Nat → Int32) → Option ((Nat → Nat → Int32))) (hkx : ∀ (σ : Nat → Nat → Int32) (H : Heap) (locs : List Loc) (ls : Array Slot), va_P D vwCl (cW a cs sh LP Z σ) H → va_D A (cW a cs sh LP Z σ) → va_S A s.heap H locs → lv_has ls 3 [(0, .ref (a 4))] → kx σ = some u9 → W p l e rmX10_separate s m args below meth c H locs 0 0 (MQ below (va_Qv (fun y => y = u9) (qB D (cW a cs sh LP Z) A) A) args s 0 0 A) (F0 m 23 ls [])) : ∀ (n : Nat) (x1 : Int32) (σ : Nat → Nat → Int32) (H : Heap) (locs : List Loc) (ls : Array Slot), va_P D vwCl (cW a cs sh LP Z σ) H → va_D A (cW a cs sh LP Z σ) → va_S A s.heap H locs → lv_has ls 3 [(0, .ref (a 4)), (1, .int x1)] → fX10_separate_L2 F sh Z kx n x1 σ = some u9 → W p l e rmX10_separate s m args below meth c H locs 0 0 (MQ below (va_Qv (fun y => y = u9) (qB D (cW a cs sh LP Z) A) A) args s 0 0 A) (F0 m 2 ls []) := by
  obtain ⟨hx, hb, hml, hown, hts, hr, hlk⟩ := id C
  intro n
  induction n with
  | zero =>
    intros
    rename_i h
    cases h
  | succ n ih =>
    intro x1 σ H locs ls hP hD hS hl h
    rw [fX10_separate_L2] at h
    obtain ⟨kb, hkb, h⟩ := nb_some (P := fun (kb : Int32 → (Nat → Nat → Int32) → Option ((Nat → Nat → Int32))) => ∀ (x1 : Int32) (σ : Nat → Nat → Int32) (H : Heap) (locs : List Loc) (ls : Array Slot), va_P D vwCl (cW a cs sh LP Z σ) H → va_D A (cW a cs sh LP Z σ) → va_S A s.heap H locs → lv_has ls 3 [(0, .ref (a 4)), (1, .int x1)] → kb x1 σ = some u9 → W p l e rmX10_separate s m args below meth c H locs 0 0 (MQ below (va_Qv (fun y => y = u9) (qB D (cW a cs sh LP Z) A) A) args s 0 0 A) (F0 m 2 ls [])) h ih
    refine lv_iload_n hx hb dX10_separate_2 rfl (lv_at hl 1 rfl) ?_
    refine lv_aload_n hx hb dX10_separate_3 rfl (lv_at hl 0 rfl) ?_
    refine va_get (D := D) (ci := 9) (v := .int (σ 38 0)) (C := RX10) (T := TX10) (N := 14) hx hb hts inX10_X10_separate hown hK.1 hP 4 rfl rfl 4 (by decide) (hts (.fieldLink RX10 50 "SandPalace$Work" "count" "I") (by decide +kernel)) (fun _ h9 => h9) rfl dX10_separate_4 ?_
    refine lv_icmp_ge (tgt := 23) hx hb dX10_separate_7 (by decide) (fun c1 => ?_) (fun c1 => ?_)
    · have h := it_t c1 h
      exact hkx σ _ _ ls hP hD hS (lv_sub hl [0] rfl) h
    · have h := it_f c1 h
      refine lv_aload_n hx hb dX10_separate_10 rfl (lv_at hl 0 rfl) ?_
      refine va_get (D := D) (ci := 9) (v := .ref (a 8)) (C := RX10) (T := TX10) (N := 14) hx hb hts inX10_X10_separate hown hK.1 hP 4 rfl rfl 8 (by decide) (hts (.fieldLink RX10 25 "SandPalace$Work" "apart" "[I") (by decide +kernel)) (fun _ h9 => h9) rfl dX10_separate_11 ?_
      refine lv_iload_n hx hb dX10_separate_14 rfl (lv_at hl 1 rfl) ?_
      refine lv_iconst (v := (0 : Int32)) hx hb dX10_separate_15 (by decide) ?_
      obtain ⟨i2, h⟩ := aS_some h
      refine va_iast hx hb hK.1 hP hD hS 8 0 rfl rfl i2 dX10_separate_16 (fun H locs hP hD hS => ?_)
      obtain ⟨σ3, e_σ3, h⟩ := nm_some h
      have hP : va_P D vwCl (cW a cs sh LP Z σ3) H := by rw [← e_σ3]; exact hP
      have hD : va_D A (cW a cs sh LP Z σ3) := by rw [← e_σ3]; exact hD
      refine lv_iinc (v := x1 + (1 : Int32)) (lv' := [(1, .int (x1 + (1 : Int32))), (0, .ref (a 4))]) hx hb dX10_separate_17 hl (k := 1) rfl rfl (by decide) rfl (fun ls hl => ?_)
      refine lv_goto (tgt := 2) hx hb dX10_separate_20 (by decide) ?_
      exact hkb (x1 + (1 : Int32)) σ3 _ _ ls hP hD hS (lv_sub hl [1, 0] rfl) h
set_option maxHeartbeats 4000000 in
set_option maxRecDepth 100000 in
theorem wX10_separate_J95 {p : Program} {l : Launch} {e : Env} {s : State} {m : MethodId} {args : Array Value} {below : List Frame} {meth : Method} {c : Code} (C : cxt p s m args meth c cX10_separate 3 RX10 wsX10_separate none) {D : va_G} {cs : Nat → ClassId} {a : Nat → Nat} {sh : Nat → Option Nat} {LP : List Nat} {Z : ZT} (hZ : shOK sh LP Z) (hK : KK D cs s) {A : Nat → Prop} (hA : ∀ q, s.heap.size ≤ q → A q) (u9 : Nat → Nat → Int32) (F : Nat) (kb : Int32 → (Nat → Nat → Int32) → Option ((Nat → Nat → Int32))) (x1 : Int32) (x2 : Int32) (hkb : ∀ (x2 : Int32) (σ : Nat → Nat → Int32) (H : Heap) (locs : List Loc) (ls : Array Slot), va_P D vwCl (cW a cs sh LP Z σ) H → va_D A (cW a cs sh LP Z σ) → va_S A s.heap H locs → lv_has ls 3 [(0, .ref (a 4)), (1, .int x1), (2, .int x2)] → kb x2 σ = some u9 → W p l e rmX10_separate s m args below meth c H locs 0 0 (MQ below (va_Qv (fun y => y = u9) (qB D (cW a cs sh LP Z) A) A) args s 0 0 A) (F0 m 35 ls [])) (σ : Nat → Nat → Int32) (H : Heap) (locs : List Loc) (ls : Array Slot) (hP : va_P D vwCl (cW a cs sh LP Z σ) H) (hD : va_D A (cW a cs sh LP Z σ)) (hS : va_S A s.heap H locs) (hl : lv_has ls 3 [(0, .ref (a 4)), (1, .int x1), (2, .int x2)]) (h : fX10_separate_J95 F sh Z kb x1 x2 σ = some u9) : W p l e rmX10_separate s m args below meth c H locs 0 0 (MQ below (va_Qv (fun y => y = u9) (qB D (cW a cs sh LP Z) A) A) args s 0 0 A) (F0 m 95 ls []) := by
  obtain ⟨hx, hb, hml, hown, hts, hr, hlk⟩ := id C
  unfold fX10_separate_J95 at h
  refine lv_iinc (v := x2 + (1 : Int32)) (lv' := [(2, .int (x2 + (1 : Int32))), (0, .ref (a 4)), (1, .int x1)]) hx hb dX10_separate_95 hl (k := 2) rfl rfl (by decide) rfl (fun ls hl => ?_)
  refine lv_goto (tgt := 35) hx hb dX10_separate_98 (by decide) ?_
  exact hkb (x2 + (1 : Int32)) σ _ _ ls hP hD hS (lv_sub hl [1, 2, 0] rfl) h
set_option maxHeartbeats 4000000 in
set_option maxRecDepth 100000 in
theorem wX10_separate_L35 {p : Program} {l : Launch} {e : Env} {s : State} {m : MethodId} {args : Array Value} {below : List Frame} {meth : Method} {c : Code} (C : cxt p s m args meth c cX10_separate 3 RX10 wsX10_separate none) {D : va_G} {cs : Nat → ClassId} {a : Nat → Nat} {sh : Nat → Option Nat} {LP : List Nat} {Z : ZT} (hZ : shOK sh LP Z) (hK : KK D cs s) {A : Nat → Prop} (hA : ∀ q, s.heap.size ≤ q → A q) (u9 : Nat → Nat → Int32) (F : Nat) (x1 : Int32) (kx : (Nat → Nat → Int32) → Option ((Nat → Nat → Int32))) (hkx : ∀ (σ : Nat → Nat → Int32) (H : Heap) (locs : List Loc) (ls : Array Slot), va_P D vwCl (cW a cs sh LP Z σ) H → va_D A (cW a cs sh LP Z σ) → va_S A s.heap H locs → lv_has ls 3 [(0, .ref (a 4)), (1, .int x1)] → kx σ = some u9 → W p l e rmX10_separate s m args below meth c H locs 0 0 (MQ below (va_Qv (fun y => y = u9) (qB D (cW a cs sh LP Z) A) A) args s 0 0 A) (F0 m 101 ls [])) : ∀ (n : Nat) (x2 : Int32) (σ : Nat → Nat → Int32) (H : Heap) (locs : List Loc) (ls : Array Slot), va_P D vwCl (cW a cs sh LP Z σ) H → va_D A (cW a cs sh LP Z σ) → va_S A s.heap H locs → lv_has ls 3 [(0, .ref (a 4)), (1, .int x1), (2, .int x2)] → fX10_separate_L35 F sh Z x1 kx n x2 σ = some u9 → W p l e rmX10_separate s m args below meth c H locs 0 0 (MQ below (va_Qv (fun y => y = u9) (qB D (cW a cs sh LP Z) A) A) args s 0 0 A) (F0 m 35 ls []) := by
  obtain ⟨hx, hb, hml, hown, hts, hr, hlk⟩ := id C
  intro n
  induction n with
  | zero =>
    intros
    rename_i h
    cases h
  | succ n ih =>
    intro x2 σ H locs ls hP hD hS hl h
    rw [fX10_separate_L35] at h
    obtain ⟨kb, hkb, h⟩ := nb_some (P := fun (kb : Int32 → (Nat → Nat → Int32) → Option ((Nat → Nat → Int32))) => ∀ (x2 : Int32) (σ : Nat → Nat → Int32) (H : Heap) (locs : List Loc) (ls : Array Slot), va_P D vwCl (cW a cs sh LP Z σ) H → va_D A (cW a cs sh LP Z σ) → va_S A s.heap H locs → lv_has ls 3 [(0, .ref (a 4)), (1, .int x1), (2, .int x2)] → kb x2 σ = some u9 → W p l e rmX10_separate s m args below meth c H locs 0 0 (MQ below (va_Qv (fun y => y = u9) (qB D (cW a cs sh LP Z) A) A) args s 0 0 A) (F0 m 35 ls [])) h ih
    refine lv_iload_n hx hb dX10_separate_35 rfl (lv_at hl 2 rfl) ?_
    refine lv_aload_n hx hb dX10_separate_36 rfl (lv_at hl 0 rfl) ?_
    refine va_get (D := D) (ci := 9) (v := .int (σ 38 0)) (C := RX10) (T := TX10) (N := 14) hx hb hts inX10_X10_separate hown hK.1 hP 4 rfl rfl 4 (by decide) (hts (.fieldLink RX10 50 "SandPalace$Work" "count" "I") (by decide +kernel)) (fun _ h9 => h9) rfl dX10_separate_37 ?_
    refine lv_icmp_ge (tgt := 101) hx hb dX10_separate_40 (by decide) (fun c3 => ?_) (fun c3 => ?_)
    · have h := it_t c3 h
      exact hkx σ _ _ ls hP hD hS (lv_sub hl [0, 1] rfl) h
    · have h := it_f c3 h
      refine lv_aload_n hx hb dX10_separate_43 rfl (lv_at hl 0 rfl) ?_
      refine va_get (D := D) (ci := 9) (v := .ref (a 5)) (C := RX10) (T := TX10) (N := 14) hx hb hts inX10_X10_separate hown hK.1 hP 4 rfl rfl 5 (by decide) (hts (.fieldLink RX10 15 "SandPalace$Work" "ahead" "[I") (by decide +kernel)) (fun _ h9 => h9) rfl dX10_separate_44 ?_
      refine lv_iload_n hx hb dX10_separate_47 rfl (lv_at hl 1 rfl) ?_
      obtain ⟨v4, i_v4, e_v4, h⟩ := aI_some h
      refine miald hx hb hK.1 hP 5 0 rfl rfl i_v4 e_v4 dX10_separate_48 ?_
      refine lv_iload_n hx hb dX10_separate_49 rfl (lv_at hl 2 rfl) ?_
      refine lv_ishr hx hb dX10_separate_50 ?_
      refine lv_iconst (v := (1 : Int32)) hx hb dX10_separate_51 (by decide) ?_
      refine lv_iand hx hb dX10_separate_52 ?_
      refine lv_if_eq (tgt := 95) hx hb dX10_separate_53 (by decide) (fun c5 => ?_) (fun c5 => ?_)
      · have h := it_t c5 h
        exact wX10_separate_J95 C hZ hK hA  u9 F kb x1 x2 hkb σ _ _ ls hP hD hS (lv_sub hl [0, 1, 2] rfl) h
      · have h := it_f c5 h
        refine lv_aload_n hx hb dX10_separate_56 rfl (lv_at hl 0 rfl) ?_
        refine va_get (D := D) (ci := 9) (v := .ref (a 7)) (C := RX10) (T := TX10) (N := 14) hx hb hts inX10_X10_separate hown hK.1 hP 4 rfl rfl 7 (by decide) (hts (.fieldLink RX10 22 "SandPalace$Work" "reach" "[I") (by decide +kernel)) (fun _ h9 => h9) rfl dX10_separate_57 ?_
        refine lv_iload_n hx hb dX10_separate_60 rfl (lv_at hl 2 rfl) ?_
        obtain ⟨v6, i_v6, e_v6, h⟩ := aI_some h
        refine miald hx hb hK.1 hP 7 0 rfl rfl i_v6 e_v6 dX10_separate_61 ?_
        refine lv_aload_n hx hb dX10_separate_62 rfl (lv_at hl 0 rfl) ?_
        refine va_get (D := D) (ci := 9) (v := .ref (a 7)) (C := RX10) (T := TX10) (N := 14) hx hb hts inX10_X10_separate hown hK.1 hP 4 rfl rfl 7 (by decide) (hts (.fieldLink RX10 22 "SandPalace$Work" "reach" "[I") (by decide +kernel)) (fun _ h9 => h9) rfl dX10_separate_63 ?_
        refine lv_iload_n hx hb dX10_separate_66 rfl (lv_at hl 1 rfl) ?_
        obtain ⟨v7, i_v7, e_v7, h⟩ := aI_some h
        refine miald hx hb hK.1 hP 7 0 rfl rfl i_v7 e_v7 dX10_separate_67 ?_
        refine lv_icmp_le (tgt := 95) hx hb dX10_separate_68 (by decide) (fun c8 => ?_) (fun c8 => ?_)
        · have h := it_t c8 h
          exact wX10_separate_J95 C hZ hK hA  u9 F kb x1 x2 hkb σ _ _ ls hP hD hS (lv_sub hl [0, 1, 2] rfl) h
        · have h := it_f c8 h
          refine lv_aload_n hx hb dX10_separate_71 rfl (lv_at hl 0 rfl) ?_
          refine va_get (D := D) (ci := 9) (v := .ref (a 8)) (C := RX10) (T := TX10) (N := 14) hx hb hts inX10_X10_separate hown hK.1 hP 4 rfl rfl 8 (by decide) (hts (.fieldLink RX10 25 "SandPalace$Work" "apart" "[I") (by decide +kernel)) (fun _ h9 => h9) rfl dX10_separate_72 ?_
          refine lv_iload_n hx hb dX10_separate_75 rfl (lv_at hl 1 rfl) ?_
          refine lv_dup2_11 hx hb dX10_separate_76 rfl rfl ?_
          obtain ⟨v9, i_v9, e_v9, h⟩ := aI_some h
          refine miald hx hb hK.1 hP 8 0 rfl rfl i_v9 e_v9 dX10_separate_77 ?_
          refine lv_iconst (v := (1 : Int32)) hx hb dX10_separate_78 (by decide) ?_
          refine lv_iload_n hx hb dX10_separate_79 rfl (lv_at hl 2 rfl) ?_
          refine lv_ishl hx hb dX10_separate_80 ?_
          refine lv_ior hx hb dX10_separate_81 ?_
          obtain ⟨i10, h⟩ := aS_some h
          refine va_iast hx hb hK.1 hP hD hS 8 0 rfl rfl i10 dX10_separate_82 (fun H locs hP hD hS => ?_)
          obtain ⟨σ11, e_σ11, h⟩ := nm_some h
          have hP : va_P D vwCl (cW a cs sh LP Z σ11) H := by rw [← e_σ11]; exact hP
          have hD : va_D A (cW a cs sh LP Z σ11) := by rw [← e_σ11]; exact hD
          refine lv_aload_n hx hb dX10_separate_83 rfl (lv_at hl 0 rfl) ?_
          refine va_get (D := D) (ci := 9) (v := .ref (a 8)) (C := RX10) (T := TX10) (N := 14) hx hb hts inX10_X10_separate hown hK.1 hP 4 rfl rfl 8 (by decide) (hts (.fieldLink RX10 25 "SandPalace$Work" "apart" "[I") (by decide +kernel)) (fun _ h9 => h9) rfl dX10_separate_84 ?_
          refine lv_iload_n hx hb dX10_separate_87 rfl (lv_at hl 2 rfl) ?_
          refine lv_dup2_11 hx hb dX10_separate_88 rfl rfl ?_
          obtain ⟨v12, i_v12, e_v12, h⟩ := aI_some h
          refine miald hx hb hK.1 hP 8 0 rfl rfl i_v12 e_v12 dX10_separate_89 ?_
          refine lv_iconst (v := (1 : Int32)) hx hb dX10_separate_90 (by decide) ?_
          refine lv_iload_n hx hb dX10_separate_91 rfl (lv_at hl 1 rfl) ?_
          refine lv_ishl hx hb dX10_separate_92 ?_
          refine lv_ior hx hb dX10_separate_93 ?_
          obtain ⟨i13, h⟩ := aS_some h
          refine va_iast hx hb hK.1 hP hD hS 8 0 rfl rfl i13 dX10_separate_94 (fun H locs hP hD hS => ?_)
          obtain ⟨σ14, e_σ14, h⟩ := nm_some h
          have hP : va_P D vwCl (cW a cs sh LP Z σ14) H := by rw [← e_σ14]; exact hP
          have hD : va_D A (cW a cs sh LP Z σ14) := by rw [← e_σ14]; exact hD
          exact wX10_separate_J95 C hZ hK hA  u9 F kb x1 x2 hkb σ14 _ _ ls hP hD hS (lv_sub hl [0, 1, 2] rfl) h
set_option maxHeartbeats 4000000 in
set_option maxRecDepth 100000 in
theorem wX10_separate_L25 {p : Program} {l : Launch} {e : Env} {s : State} {m : MethodId} {args : Array Value} {below : List Frame} {meth : Method} {c : Code} (C : cxt p s m args meth c cX10_separate 3 RX10 wsX10_separate none) {D : va_G} {cs : Nat → ClassId} {a : Nat → Nat} {sh : Nat → Option Nat} {LP : List Nat} {Z : ZT} (hZ : shOK sh LP Z) (hK : KK D cs s) {A : Nat → Prop} (hA : ∀ q, s.heap.size ≤ q → A q) (u9 : Nat → Nat → Int32) (F : Nat) (kx : (Nat → Nat → Int32) → Option ((Nat → Nat → Int32))) (hkx : ∀ (σ : Nat → Nat → Int32) (H : Heap) (locs : List Loc) (ls : Array Slot), va_P D vwCl (cW a cs sh LP Z σ) H → va_D A (cW a cs sh LP Z σ) → va_S A s.heap H locs → lv_has ls 3 [] → kx σ = some u9 → W p l e rmX10_separate s m args below meth c H locs 0 0 (MQ below (va_Qv (fun y => y = u9) (qB D (cW a cs sh LP Z) A) A) args s 0 0 A) (F0 m 107 ls [])) : ∀ (n : Nat) (x1 : Int32) (σ : Nat → Nat → Int32) (H : Heap) (locs : List Loc) (ls : Array Slot), va_P D vwCl (cW a cs sh LP Z σ) H → va_D A (cW a cs sh LP Z σ) → va_S A s.heap H locs → lv_has ls 3 [(0, .ref (a 4)), (1, .int x1)] → fX10_separate_L25 F sh Z kx n x1 σ = some u9 → W p l e rmX10_separate s m args below meth c H locs 0 0 (MQ below (va_Qv (fun y => y = u9) (qB D (cW a cs sh LP Z) A) A) args s 0 0 A) (F0 m 25 ls []) := by
  obtain ⟨hx, hb, hml, hown, hts, hr, hlk⟩ := id C
  intro n
  induction n with
  | zero =>
    intros
    rename_i h
    cases h
  | succ n ih =>
    intro x1 σ H locs ls hP hD hS hl h
    rw [fX10_separate_L25] at h
    obtain ⟨kb, hkb, h⟩ := nb_some (P := fun (kb : Int32 → (Nat → Nat → Int32) → Option ((Nat → Nat → Int32))) => ∀ (x1 : Int32) (σ : Nat → Nat → Int32) (H : Heap) (locs : List Loc) (ls : Array Slot), va_P D vwCl (cW a cs sh LP Z σ) H → va_D A (cW a cs sh LP Z σ) → va_S A s.heap H locs → lv_has ls 3 [(0, .ref (a 4)), (1, .int x1)] → kb x1 σ = some u9 → W p l e rmX10_separate s m args below meth c H locs 0 0 (MQ below (va_Qv (fun y => y = u9) (qB D (cW a cs sh LP Z) A) A) args s 0 0 A) (F0 m 25 ls [])) h ih
    refine lv_iload_n hx hb dX10_separate_25 rfl (lv_at hl 1 rfl) ?_
    refine lv_aload_n hx hb dX10_separate_26 rfl (lv_at hl 0 rfl) ?_
    refine va_get (D := D) (ci := 9) (v := .int (σ 38 0)) (C := RX10) (T := TX10) (N := 14) hx hb hts inX10_X10_separate hown hK.1 hP 4 rfl rfl 4 (by decide) (hts (.fieldLink RX10 50 "SandPalace$Work" "count" "I") (by decide +kernel)) (fun _ h9 => h9) rfl dX10_separate_27 ?_
    refine lv_icmp_ge (tgt := 107) hx hb dX10_separate_30 (by decide) (fun c2 => ?_) (fun c2 => ?_)
    · have h := it_t c2 h
      exact hkx σ _ _ ls hP hD hS (lv_sub hl [] rfl) h
    · have h := it_f c2 h
      refine lv_iconst (v := (0 : Int32)) hx hb dX10_separate_33 (by decide) ?_
      refine lv_istore_n (lv' := [(2, .int (0 : Int32)), (0, .ref (a 4)), (1, .int x1)]) hx hb dX10_separate_34 rfl hl (by decide) rfl (fun ls hl => ?_)
      refine wX10_separate_L35 C hZ hK hA  u9 F x1 _ ?_ F (0 : Int32) σ _ _ ls hP hD hS (lv_sub hl [1, 2, 0] rfl) h
      intro σ3 H locs ls hP hD hS hl h
      refine lv_iinc (v := x1 + (1 : Int32)) (lv' := [(1, .int (x1 + (1 : Int32))), (0, .ref (a 4))]) hx hb dX10_separate_101 hl (k := 1) rfl rfl (by decide) rfl (fun ls hl => ?_)
      refine lv_goto (tgt := 25) hx hb dX10_separate_104 (by decide) ?_
      exact hkb (x1 + (1 : Int32)) σ3 _ _ ls hP hD hS (lv_sub hl [1, 0] rfl) h
set_option maxHeartbeats 4000000 in
set_option maxRecDepth 100000 in
theorem kX10_separate (l : Launch) (D : va_G) (cs : Nat → ClassId) (a : Nat → Nat) (sh : Nat → Option Nat) (LP : List Nat) (Z : ZT) (hZ : shOK sh LP Z) (σ : Nat → Nat → Int32) (F : Nat)  (u9 : Nat → Nat → Int32) (h : fX10_separate F sh Z σ = some u9) (sz : Nat) : Met l yX10_separate wsX10_separate rmX10_separate (va_Pc [.ref (a 4)] (pQ D cs (cW a cs sh LP Z σ) sz)) (va_Qv (fun y => y = u9) (qB D (cW a cs sh LP Z) (va_A (cW a cs sh LP Z σ) sz)) (va_A (cW a cs sh LP Z σ) sz)) 0 0 (va_A (cW a cs sh LP Z σ) sz) := by
  refine Met.ofW (cc := cX10_separate) (maxL := 3) (ret := none) (by decide) rfl ?_
  intro p e s m args below meth c s₁ B hml hv
  obtain ⟨rfl, hsz, hP, hK, hD0⟩ := hv
  have C : cxt p s m _ meth c cX10_separate 3 RX10 wsX10_separate none := ⟨B.exec, B.bytes, hml, findClass_of_methodNamed B.named, atoms_spec (ws := wsX10_separate) B.pre, B.returns, B.notSynchronized⟩
  obtain ⟨hx, hb, -, hown, hts, hr, hlk⟩ := id C
  subst hsz
  have hD := hD0.self (sz := s.heap.size)
  generalize hAe : va_A (cW a cs sh LP Z σ) s.heap.size = A at hD ⊢
  have hA : ∀ q : Nat, s.heap.size ≤ q → A q := fun q h => by rw [← hAe]; exact Or.inr h
  have hS : va_S A s.heap s.heap [] := va_S.rf
  refine entryW [.ref (a 4)] (n := 3) (Nat.le_of_ble_eq_true rfl) (fun ls hl => ?_)
  have hl : lv_has ls 3 [(0, .ref (a 4))] := hl
  unfold fX10_separate at h
  refine lv_iconst (v := (0 : Int32)) hx hb dX10_separate_0 (by decide) ?_
  refine lv_istore_n (lv' := [(1, .int (0 : Int32)), (0, .ref (a 4))]) hx hb dX10_separate_1 rfl hl (by decide) rfl (fun ls hl => ?_)
  refine wX10_separate_L2 C hZ hK hA  u9 F  _ ?_ F (0 : Int32) σ _ _ ls hP hD hS (lv_sub hl [1, 0] rfl) h
  intro σ1 H locs ls hP hD hS hl h
  refine lv_iconst (v := (0 : Int32)) hx hb dX10_separate_23 (by decide) ?_
  refine lv_istore_n (lv' := [(1, .int (0 : Int32)), (0, .ref (a 4))]) hx hb dX10_separate_24 rfl hl (by decide) rfl (fun ls hl => ?_)
  refine wX10_separate_L25 C hZ hK hA  u9 F  _ ?_ F (0 : Int32) σ1 _ _ ls hP hD hS (lv_sub hl [1, 0] rfl) h
  intro σ2 H locs ls hP hD hS hl h
  exact mretV hx hb hr hlk h hP hD hS dX10_separate_107
def fX10_weighSets_J89 (F : Nat) (sh : Nat → Option Nat) (Z : ZT) (kb : Int32 → (Nat → Nat → Int32) → Option ((Nat → Nat → Int32))) (x1 : Int32) (t0 : Int32) (t1 : Int32) (σ : Nat → Nat → Int32) : Option ((Nat → Nat → Int32)) :=
  aS 1024 t1 (nm (sg σ 10 (upd (σ 10) t1.toNatClampNeg t0)) fun σ17 => kb (x1 + (1 : Int32)) σ17)
def fX10_weighSets_L16 (F : Nat) (sh : Nat → Option Nat) (Z : ZT) (kx : (Nat → Nat → Int32) → Option ((Nat → Nat → Int32))) : Nat → Int32 → (Nat → Nat → Int32) → Option ((Nat → Nat → Int32))
  | 0, _, _ => none
  | n+1, x1, σ =>
    nb ((fun x1 σ => fX10_weighSets_L16 F sh Z kx n x1 σ)) fun kb =>
    if (σ 36 0) < x1 then (kx σ) else (bd (fJ6_numberOfTrailingZeros_0f7a4 x1) fun v6 => nm (x1 &&& (x1 - (1 : Int32))) fun z7 => aI (σ 9) 1024 z7 fun v8 => aI (σ 5) 10 v6 fun v9 => aS 1024 x1 (nm (sg σ 9 (upd (σ 9) x1.toNatClampNeg (v8 ||| v9))) fun σ11 => aI (σ11 8) 10 v6 fun v12 => if (z7 &&& v12) = 0 then (aI (σ11 10) 1024 z7 fun v14 => aI (σ11 6) 10 v6 fun v15 => fX10_weighSets_J89 F sh Z kb x1 (v14 + v15) x1 σ11) else (fX10_weighSets_J89 F sh Z kb x1 (4096 : Int32) x1 σ11)))
def fX10_weighSets (F : Nat) (sh : Nat → Option Nat) (Z : ZT) (σ : Nat → Nat → Int32)  : Option ((Nat → Nat → Int32)) :=
  aS 1024 (0 : Int32) (nm (sg σ 9 (upd (σ 9) (0 : Int32).toNatClampNeg (0 : Int32))) fun σ2 => aS 1024 (0 : Int32) (nm (sg σ2 10 (upd (σ2 10) (0 : Int32).toNatClampNeg (0 : Int32))) fun σ4 => fX10_weighSets_L16 F sh Z (fun σ5 => some σ5) F (1 : Int32) σ4))
abbrev rmX10_weighSets : Room := { frames := 1, cells := 0, slots := 0, locals := 21 }
theorem inX10_X10_weighSets : ∀ w ∈ wsX100, w ∈ wsX10_weighSets := by intro w h; simp only [wsX10_weighSets, List.mem_cons, List.mem_append]; simp only [h, true_or, or_true]
set_option maxHeartbeats 4000000 in
set_option maxRecDepth 100000 in
theorem wX10_weighSets_J89 {p : Program} {l : Launch} {e : Env} {s : State} {m : MethodId} {args : Array Value} {below : List Frame} {meth : Method} {c : Code} (C : cxt p s m args meth c cX10_weighSets 4 RX10 wsX10_weighSets none) {D : va_G} {cs : Nat → ClassId} {a : Nat → Nat} {sh : Nat → Option Nat} {LP : List Nat} {Z : ZT} (hZ : shOK sh LP Z) (hK : KK D cs s) {A : Nat → Prop} (hA : ∀ q, s.heap.size ≤ q → A q) (u9 : Nat → Nat → Int32) (F : Nat) (kb : Int32 → (Nat → Nat → Int32) → Option ((Nat → Nat → Int32))) (x1 : Int32) (t0 : Int32) (t1 : Int32) (hkb : ∀ (x1 : Int32) (σ : Nat → Nat → Int32) (H : Heap) (locs : List Loc) (ls : Array Slot), va_P D vwCl (cW a cs sh LP Z σ) H → va_D A (cW a cs sh LP Z σ) → va_S A s.heap H locs → lv_has ls 4 [(0, .ref (a 4)), (1, .int x1)] → kb x1 σ = some u9 → W p l e rmX10_weighSets s m args below meth c H locs 0 0 (MQ below (va_Qv (fun y => y = u9) (qB D (cW a cs sh LP Z) A) A) args s 0 0 A) (F0 m 16 ls [])) (σ : Nat → Nat → Int32) (H : Heap) (locs : List Loc) (ls : Array Slot) (hP : va_P D vwCl (cW a cs sh LP Z σ) H) (hD : va_D A (cW a cs sh LP Z σ)) (hS : va_S A s.heap H locs) (hl : lv_has ls 4 [(0, .ref (a 4)), (1, .int x1)]) (h : fX10_weighSets_J89 F sh Z kb x1 t0 t1 σ = some u9) : W p l e rmX10_weighSets s m args below meth c H locs 0 0 (MQ below (va_Qv (fun y => y = u9) (qB D (cW a cs sh LP Z) A) A) args s 0 0 A) (F0 m 89 ls [.int t0, .int t1, .ref (a 10)]) := by
  obtain ⟨hx, hb, hml, hown, hts, hr, hlk⟩ := id C
  unfold fX10_weighSets_J89 at h
  obtain ⟨i16, h⟩ := aS_some h
  refine va_iast hx hb hK.1 hP hD hS 10 0 rfl rfl i16 dX10_weighSets_89 (fun H locs hP hD hS => ?_)
  obtain ⟨σ17, e_σ17, h⟩ := nm_some h
  have hP : va_P D vwCl (cW a cs sh LP Z σ17) H := by rw [← e_σ17]; exact hP
  have hD : va_D A (cW a cs sh LP Z σ17) := by rw [← e_σ17]; exact hD
  refine lv_iinc (v := x1 + (1 : Int32)) (lv' := [(1, .int (x1 + (1 : Int32))), (0, .ref (a 4))]) hx hb dX10_weighSets_90 hl (k := 1) rfl rfl (by decide) rfl (fun ls hl => ?_)
  refine lv_goto (tgt := 16) hx hb dX10_weighSets_93 (by decide) ?_
  exact hkb (x1 + (1 : Int32)) σ17 _ _ ls hP hD hS (lv_sub hl [1, 0] rfl) h
set_option maxHeartbeats 4000000 in
set_option maxRecDepth 100000 in
theorem wX10_weighSets_L16 {p : Program} {l : Launch} {e : Env} {s : State} {m : MethodId} {args : Array Value} {below : List Frame} {meth : Method} {c : Code} (C : cxt p s m args meth c cX10_weighSets 4 RX10 wsX10_weighSets none) {D : va_G} {cs : Nat → ClassId} {a : Nat → Nat} {sh : Nat → Option Nat} {LP : List Nat} {Z : ZT} (hZ : shOK sh LP Z) (hK : KK D cs s) {A : Nat → Prop} (hA : ∀ q, s.heap.size ≤ q → A q) (u9 : Nat → Nat → Int32) (F : Nat) (kx : (Nat → Nat → Int32) → Option ((Nat → Nat → Int32))) (hkx : ∀ (σ : Nat → Nat → Int32) (H : Heap) (locs : List Loc) (ls : Array Slot), va_P D vwCl (cW a cs sh LP Z σ) H → va_D A (cW a cs sh LP Z σ) → va_S A s.heap H locs → lv_has ls 4 [] → kx σ = some u9 → W p l e rmX10_weighSets s m args below meth c H locs 0 0 (MQ below (va_Qv (fun y => y = u9) (qB D (cW a cs sh LP Z) A) A) args s 0 0 A) (F0 m 96 ls [])) : ∀ (n : Nat) (x1 : Int32) (σ : Nat → Nat → Int32) (H : Heap) (locs : List Loc) (ls : Array Slot), va_P D vwCl (cW a cs sh LP Z σ) H → va_D A (cW a cs sh LP Z σ) → va_S A s.heap H locs → lv_has ls 4 [(0, .ref (a 4)), (1, .int x1)] → fX10_weighSets_L16 F sh Z kx n x1 σ = some u9 → W p l e rmX10_weighSets s m args below meth c H locs 0 0 (MQ below (va_Qv (fun y => y = u9) (qB D (cW a cs sh LP Z) A) A) args s 0 0 A) (F0 m 16 ls []) := by
  obtain ⟨hx, hb, hml, hown, hts, hr, hlk⟩ := id C
  intro n
  induction n with
  | zero =>
    intros
    rename_i h
    cases h
  | succ n ih =>
    intro x1 σ H locs ls hP hD hS hl h
    rw [fX10_weighSets_L16] at h
    obtain ⟨kb, hkb, h⟩ := nb_some (P := fun (kb : Int32 → (Nat → Nat → Int32) → Option ((Nat → Nat → Int32))) => ∀ (x1 : Int32) (σ : Nat → Nat → Int32) (H : Heap) (locs : List Loc) (ls : Array Slot), va_P D vwCl (cW a cs sh LP Z σ) H → va_D A (cW a cs sh LP Z σ) → va_S A s.heap H locs → lv_has ls 4 [(0, .ref (a 4)), (1, .int x1)] → kb x1 σ = some u9 → W p l e rmX10_weighSets s m args below meth c H locs 0 0 (MQ below (va_Qv (fun y => y = u9) (qB D (cW a cs sh LP Z) A) A) args s 0 0 A) (F0 m 16 ls [])) h ih
    refine lv_iload_n hx hb dX10_weighSets_16 rfl (lv_at hl 1 rfl) ?_
    refine lv_aload_n hx hb dX10_weighSets_17 rfl (lv_at hl 0 rfl) ?_
    refine va_get (D := D) (ci := 9) (v := .int (σ 36 0)) (C := RX10) (T := TX10) (N := 14) hx hb hts inX10_X10_weighSets hown hK.1 hP 4 rfl rfl 2 (by decide) (hts (.fieldLink RX10 70 "SandPalace$Work" "all" "I") (by decide +kernel)) (fun _ h9 => h9) rfl dX10_weighSets_18 ?_
    refine lv_icmp_gt (tgt := 96) hx hb dX10_weighSets_21 (by decide) (fun c5 => ?_) (fun c5 => ?_)
    · have h := it_t c5 h
      exact hkx σ _ _ ls hP hD hS (lv_sub hl [] rfl) h
    · have h := it_f c5 h
      refine lv_iload_n hx hb dX10_weighSets_24 rfl (lv_at hl 1 rfl) ?_
      obtain ⟨v6, hc_v6, h⟩ := bd_some h
      refine mcallS (va_runS (As := [.int x1]) (rest := []) ⟨hx, hb, hml, hown, hts⟩ (kJ6_numberOfTrailingZeros_0f7a4 l x1 v6 hc_v6) (va_cwS 1 hts gX10_weighSets_J6_numberOfTrailingZeros_0f7a4 rfl rfl rfl (by decide +kernel) ⟨Nat.le_of_ble_eq_true rfl, Nat.le_of_ble_eq_true rfl⟩) p0_s rfl rfl hl.1 rfl (lv_room (Nat.le_of_ble_eq_true rfl)) dX10_weighSets_25 ⟨Nat.zero_le _, Nat.zero_le _⟩) ?_
      refine lv_istore_n (lv' := [(2, .int v6), (0, .ref (a 4)), (1, .int x1)]) hx hb dX10_weighSets_28 rfl hl (by decide) rfl (fun ls hl => ?_)
      refine lv_iload_n hx hb dX10_weighSets_29 rfl (lv_at hl 2 rfl) ?_
      refine lv_iload_n hx hb dX10_weighSets_30 rfl (lv_at hl 2 rfl) ?_
      refine lv_iconst (v := (1 : Int32)) hx hb dX10_weighSets_31 (by decide) ?_
      refine lv_isub hx hb dX10_weighSets_32 ?_
      refine lv_iand hx hb dX10_weighSets_33 ?_
      obtain ⟨z7, e_z7, h⟩ := nm_some h
      refine tpi e_z7 ?_
      refine lv_istore_n (lv' := [(3, .int z7), (2, .int v6), (0, .ref (a 4)), (1, .int x1)]) hx hb dX10_weighSets_34 rfl hl (by decide) rfl (fun ls hl => ?_)
      refine lv_aload_n hx hb dX10_weighSets_35 rfl (lv_at hl 2 rfl) ?_
      refine va_get (D := D) (ci := 9) (v := .ref (a 9)) (C := RX10) (T := TX10) (N := 14) hx hb hts inX10_X10_weighSets hown hK.1 hP 4 rfl rfl 9 (by decide) (hts (.fieldLink RX10 28 "SandPalace$Work" "needed" "[I") (by decide +kernel)) (fun _ h9 => h9) rfl dX10_weighSets_36 ?_
      refine lv_iload_n hx hb dX10_weighSets_39 rfl (lv_at hl 3 rfl) ?_
      refine lv_aload_n hx hb dX10_weighSets_40 rfl (lv_at hl 2 rfl) ?_
      refine va_get (D := D) (ci := 9) (v := .ref (a 9)) (C := RX10) (T := TX10) (N := 14) hx hb hts inX10_X10_weighSets hown hK.1 hP 4 rfl rfl 9 (by decide) (hts (.fieldLink RX10 28 "SandPalace$Work" "needed" "[I") (by decide +kernel)) (fun _ h9 => h9) rfl dX10_weighSets_41 ?_
      refine lv_iload_n hx hb dX10_weighSets_44 rfl (lv_at hl 0 rfl) ?_
      obtain ⟨v8, i_v8, e_v8, h⟩ := aI_some h
      refine miald hx hb hK.1 hP 9 0 rfl rfl i_v8 e_v8 dX10_weighSets_45 ?_
      refine lv_aload_n hx hb dX10_weighSets_46 rfl (lv_at hl 2 rfl) ?_
      refine va_get (D := D) (ci := 9) (v := .ref (a 5)) (C := RX10) (T := TX10) (N := 14) hx hb hts inX10_X10_weighSets hown hK.1 hP 4 rfl rfl 5 (by decide) (hts (.fieldLink RX10 15 "SandPalace$Work" "ahead" "[I") (by decide +kernel)) (fun _ h9 => h9) rfl dX10_weighSets_47 ?_
      refine lv_iload_n hx hb dX10_weighSets_50 rfl (lv_at hl 1 rfl) ?_
      obtain ⟨v9, i_v9, e_v9, h⟩ := aI_some h
      refine miald hx hb hK.1 hP 5 0 rfl rfl i_v9 e_v9 dX10_weighSets_51 ?_
      refine lv_ior hx hb dX10_weighSets_52 ?_
      obtain ⟨i10, h⟩ := aS_some h
      refine va_iast hx hb hK.1 hP hD hS 9 0 rfl rfl i10 dX10_weighSets_53 (fun H locs hP hD hS => ?_)
      obtain ⟨σ11, e_σ11, h⟩ := nm_some h
      have hP : va_P D vwCl (cW a cs sh LP Z σ11) H := by rw [← e_σ11]; exact hP
      have hD : va_D A (cW a cs sh LP Z σ11) := by rw [← e_σ11]; exact hD
      refine lv_aload_n hx hb dX10_weighSets_54 rfl (lv_at hl 2 rfl) ?_
      refine va_get (D := D) (ci := 9) (v := .ref (a 10)) (C := RX10) (T := TX10) (N := 14) hx hb hts inX10_X10_weighSets hown hK.1 hP 4 rfl rfl 10 (by decide) (hts (.fieldLink RX10 31 "SandPalace$Work" "load" "[I") (by decide +kernel)) (fun _ h9 => h9) rfl dX10_weighSets_55 ?_
      refine lv_iload_n hx hb dX10_weighSets_58 rfl (lv_at hl 3 rfl) ?_
      refine lv_iload_n hx hb dX10_weighSets_59 rfl (lv_at hl 0 rfl) ?_
      refine lv_aload_n hx hb dX10_weighSets_60 rfl (lv_at hl 2 rfl) ?_
      refine va_get (D := D) (ci := 9) (v := .ref (a 8)) (C := RX10) (T := TX10) (N := 14) hx hb hts inX10_X10_weighSets hown hK.1 hP 4 rfl rfl 8 (by decide) (hts (.fieldLink RX10 25 "SandPalace$Work" "apart" "[I") (by decide +kernel)) (fun _ h9 => h9) rfl dX10_weighSets_61 ?_
      refine lv_iload_n hx hb dX10_weighSets_64 rfl (lv_at hl 1 rfl) ?_
      obtain ⟨v12, i_v12, e_v12, h⟩ := aI_some h
      refine miald hx hb hK.1 hP 8 0 rfl rfl i_v12 e_v12 dX10_weighSets_65 ?_
      refine lv_iand hx hb dX10_weighSets_66 ?_
      refine lv_if_eq (tgt := 76) hx hb dX10_weighSets_67 (by decide) (fun c13 => ?_) (fun c13 => ?_)
      · have h := it_t c13 h
        refine lv_aload_n hx hb dX10_weighSets_76 rfl (lv_at hl 2 rfl) ?_
        refine va_get (D := D) (ci := 9) (v := .ref (a 10)) (C := RX10) (T := TX10) (N := 14) hx hb hts inX10_X10_weighSets hown hK.1 hP 4 rfl rfl 10 (by decide) (hts (.fieldLink RX10 31 "SandPalace$Work" "load" "[I") (by decide +kernel)) (fun _ h9 => h9) rfl dX10_weighSets_77 ?_
        refine lv_iload_n hx hb dX10_weighSets_80 rfl (lv_at hl 0 rfl) ?_
        obtain ⟨v14, i_v14, e_v14, h⟩ := aI_some h
        refine miald hx hb hK.1 hP 10 0 rfl rfl i_v14 e_v14 dX10_weighSets_81 ?_
        refine lv_aload_n hx hb dX10_weighSets_82 rfl (lv_at hl 2 rfl) ?_
        refine va_get (D := D) (ci := 9) (v := .ref (a 6)) (C := RX10) (T := TX10) (N := 14) hx hb hts inX10_X10_weighSets hown hK.1 hP 4 rfl rfl 6 (by decide) (hts (.fieldLink RX10 19 "SandPalace$Work" "weight" "[I") (by decide +kernel)) (fun _ h9 => h9) rfl dX10_weighSets_83 ?_
        refine lv_iload_n hx hb dX10_weighSets_86 rfl (lv_at hl 1 rfl) ?_
        obtain ⟨v15, i_v15, e_v15, h⟩ := aI_some h
        refine miald hx hb hK.1 hP 6 0 rfl rfl i_v15 e_v15 dX10_weighSets_87 ?_
        refine lv_iadd hx hb dX10_weighSets_88 ?_
        exact wX10_weighSets_J89 C hZ hK hA  u9 F kb x1 (v14 + v15) x1 hkb σ11 _ _ ls hP hD hS (lv_sub hl [2, 3] rfl) h
      · have h := it_f c13 h
        refine lv_sipush (v := (4096 : Int32)) hx hb dX10_weighSets_70 (by decide) ?_
        refine lv_goto (tgt := 89) hx hb dX10_weighSets_73 (by decide) ?_
        exact wX10_weighSets_J89 C hZ hK hA  u9 F kb x1 (4096 : Int32) x1 hkb σ11 _ _ ls hP hD hS (lv_sub hl [2, 3] rfl) h
set_option maxHeartbeats 4000000 in
set_option maxRecDepth 100000 in
theorem kX10_weighSets (l : Launch) (D : va_G) (cs : Nat → ClassId) (a : Nat → Nat) (sh : Nat → Option Nat) (LP : List Nat) (Z : ZT) (hZ : shOK sh LP Z) (σ : Nat → Nat → Int32) (F : Nat)  (u9 : Nat → Nat → Int32) (h : fX10_weighSets F sh Z σ = some u9) (sz : Nat) : Met l yX10_weighSets wsX10_weighSets rmX10_weighSets (va_Pc [.ref (a 4)] (pQ D cs (cW a cs sh LP Z σ) sz)) (va_Qv (fun y => y = u9) (qB D (cW a cs sh LP Z) (va_A (cW a cs sh LP Z σ) sz)) (va_A (cW a cs sh LP Z σ) sz)) 0 0 (va_A (cW a cs sh LP Z σ) sz) := by
  refine Met.ofW (cc := cX10_weighSets) (maxL := 4) (ret := none) (by decide) rfl ?_
  intro p e s m args below meth c s₁ B hml hv
  obtain ⟨rfl, hsz, hP, hK, hD0⟩ := hv
  have C : cxt p s m _ meth c cX10_weighSets 4 RX10 wsX10_weighSets none := ⟨B.exec, B.bytes, hml, findClass_of_methodNamed B.named, atoms_spec (ws := wsX10_weighSets) B.pre, B.returns, B.notSynchronized⟩
  obtain ⟨hx, hb, -, hown, hts, hr, hlk⟩ := id C
  subst hsz
  have hD := hD0.self (sz := s.heap.size)
  generalize hAe : va_A (cW a cs sh LP Z σ) s.heap.size = A at hD ⊢
  have hA : ∀ q : Nat, s.heap.size ≤ q → A q := fun q h => by rw [← hAe]; exact Or.inr h
  have hS : va_S A s.heap s.heap [] := va_S.rf
  refine entryW [.ref (a 4)] (n := 4) (Nat.le_of_ble_eq_true rfl) (fun ls hl => ?_)
  have hl : lv_has ls 4 [(0, .ref (a 4))] := hl
  unfold fX10_weighSets at h
  refine lv_aload_n hx hb dX10_weighSets_0 rfl (lv_at hl 0 rfl) ?_
  refine va_get (D := D) (ci := 9) (v := .ref (a 9)) (C := RX10) (T := TX10) (N := 14) hx hb hts inX10_X10_weighSets hown hK.1 hP 4 rfl rfl 9 (by decide) (hts (.fieldLink RX10 28 "SandPalace$Work" "needed" "[I") (by decide +kernel)) (fun _ h9 => h9) rfl dX10_weighSets_1 ?_
  refine lv_iconst (v := (0 : Int32)) hx hb dX10_weighSets_4 (by decide) ?_
  refine lv_iconst (v := (0 : Int32)) hx hb dX10_weighSets_5 (by decide) ?_
  obtain ⟨i1, h⟩ := aS_some h
  refine va_iast hx hb hK.1 hP hD hS 9 0 rfl rfl i1 dX10_weighSets_6 (fun H locs hP hD hS => ?_)
  obtain ⟨σ2, e_σ2, h⟩ := nm_some h
  have hP : va_P D vwCl (cW a cs sh LP Z σ2) H := by rw [← e_σ2]; exact hP
  have hD : va_D A (cW a cs sh LP Z σ2) := by rw [← e_σ2]; exact hD
  refine lv_aload_n hx hb dX10_weighSets_7 rfl (lv_at hl 0 rfl) ?_
  refine va_get (D := D) (ci := 9) (v := .ref (a 10)) (C := RX10) (T := TX10) (N := 14) hx hb hts inX10_X10_weighSets hown hK.1 hP 4 rfl rfl 10 (by decide) (hts (.fieldLink RX10 31 "SandPalace$Work" "load" "[I") (by decide +kernel)) (fun _ h9 => h9) rfl dX10_weighSets_8 ?_
  refine lv_iconst (v := (0 : Int32)) hx hb dX10_weighSets_11 (by decide) ?_
  refine lv_iconst (v := (0 : Int32)) hx hb dX10_weighSets_12 (by decide) ?_
  obtain ⟨i3, h⟩ := aS_some h
  refine va_iast hx hb hK.1 hP hD hS 10 0 rfl rfl i3 dX10_weighSets_13 (fun H locs hP hD hS => ?_)
  obtain ⟨σ4, e_σ4, h⟩ := nm_some h
  have hP : va_P D vwCl (cW a cs sh LP Z σ4) H := by rw [← e_σ4]; exact hP
  have hD : va_D A (cW a cs sh LP Z σ4) := by rw [← e_σ4]; exact hD
  refine lv_iconst (v := (1 : Int32)) hx hb dX10_weighSets_14 (by decide) ?_
  refine lv_istore_n (lv' := [(1, .int (1 : Int32)), (0, .ref (a 4))]) hx hb dX10_weighSets_15 rfl hl (by decide) rfl (fun ls hl => ?_)
  refine wX10_weighSets_L16 C hZ hK hA  u9 F  _ ?_ F (1 : Int32) σ4 _ _ ls hP hD hS (lv_sub hl [1, 0] rfl) h
  intro σ5 H locs ls hP hD hS hl h
  exact mretV hx hb hr hlk h hP hD hS dX10_weighSets_96
def fX10_boundFrom_J49 (F : Nat) (sh : Nat → Option Nat) (Z : ZT) (kb : Int32 → Int32 → Option Int32) (x1 : Int32) (x2 : Int32) (x3 : Int32) (σ : Nat → Nat → Int32) : Option Int32 :=
  kb x2 (x3 + (1 : Int32))
def fX10_boundFrom_L4 (F : Nat) (sh : Nat → Option Nat) (Z : ZT) (σ : Nat → Nat → Int32) (x1 : Int32) (kx : Int32 → Option Int32) : Nat → Int32 → Int32 → Option Int32
  | 0, _, _ => none
  | n+1, x2, x3 =>
    nb ((fun x2 x3 => fX10_boundFrom_L4 F sh Z σ x1 kx n x2 x3)) fun kb =>
    if (σ 38 0) ≤ x3 then (kx x2) else (nm (x1 ||| ((1 : Int32) <<< (x3 &&& 31))) fun z2 => if z2 = x1 then (fX10_boundFrom_J49 F sh Z kb x1 x2 x3 σ) else (aI (σ 11) 1024 z2 fun v4 => if (99 : Int32) ≤ v4 then (fX10_boundFrom_J49 F sh Z kb x1 x2 x3 σ) else (aI (σ 11) 1024 z2 fun v6 => nm ((if x2 < v6 then v6 else x2) : Int32) fun z7 => fX10_boundFrom_J49 F sh Z kb x1 z7 x3 σ)))
def fX10_boundFrom (F : Nat) (sh : Nat → Option Nat) (Z : ZT) (σ : Nat → Nat → Int32) (x1 : Int32) : Option Int32 :=
  fX10_boundFrom_L4 F sh Z σ x1 (fun y1 => some y1) F (1 : Int32) (0 : Int32)
abbrev rmX10_boundFrom : Room := { frames := 1, cells := 0, slots := 0, locals := 21 }
theorem inX10_X10_boundFrom : ∀ w ∈ wsX100, w ∈ wsX10_boundFrom := by intro w h; simp only [wsX10_boundFrom, List.mem_cons, List.mem_append]; simp only [h, true_or, or_true]
set_option maxHeartbeats 4000000 in
set_option maxRecDepth 100000 in
theorem wX10_boundFrom_J49 {p : Program} {l : Launch} {e : Env} {s : State} {m : MethodId} {args : Array Value} {below : List Frame} {meth : Method} {c : Code} (C : cxt p s m args meth c cX10_boundFrom 5 RX10 wsX10_boundFrom (some .int)) {D : va_G} {cs : Nat → ClassId} {a : Nat → Nat} {sh : Nat → Option Nat} {LP : List Nat} {Z : ZT} (hZ : shOK sh LP Z) (hK : KK D cs s) {σ : Nat → Nat → Int32} (hP : va_P D vwCl (cW a cs sh LP Z σ) s.heap) (r : Int32) (F : Nat) (kb : Int32 → Int32 → Option Int32) (x1 : Int32) (x2 : Int32) (x3 : Int32) (hkb : ∀ (x2 : Int32) (x3 : Int32) (ls : Array Slot), lv_has ls 5 [(0, .ref (a 4)), (1, .int x1), (2, .int x2), (3, .int x3)] → kb x2 x3 = some r → W p l e rmX10_boundFrom s m args below meth c s.heap [] 0 0 (MQ below (vp_Si (fun x => x = r)) args s 0 0 (fun _ => False)) (F0 m 4 ls [])) (ls : Array Slot) (hl : lv_has ls 5 [(0, .ref (a 4)), (1, .int x1), (2, .int x2), (3, .int x3)]) (h : fX10_boundFrom_J49 F sh Z kb x1 x2 x3 σ = some r) : W p l e rmX10_boundFrom s m args below meth c s.heap [] 0 0 (MQ below (vp_Si (fun x => x = r)) args s 0 0 (fun _ => False)) (F0 m 49 ls []) := by
  obtain ⟨hx, hb, hml, hown, hts, hr, hlk⟩ := id C
  unfold fX10_boundFrom_J49 at h
  refine lv_iinc (v := x3 + (1 : Int32)) (lv' := [(3, .int (x3 + (1 : Int32))), (0, .ref (a 4)), (1, .int x1), (2, .int x2)]) hx hb dX10_boundFrom_49 hl (k := 3) rfl rfl (by decide) rfl (fun ls hl => ?_)
  refine lv_goto (tgt := 4) hx hb dX10_boundFrom_52 (by decide) ?_
  exact hkb x2 (x3 + (1 : Int32)) ls (lv_sub hl [1, 2, 3, 0] rfl) h
set_option maxHeartbeats 4000000 in
set_option maxRecDepth 100000 in
theorem wX10_boundFrom_L4 {p : Program} {l : Launch} {e : Env} {s : State} {m : MethodId} {args : Array Value} {below : List Frame} {meth : Method} {c : Code} (C : cxt p s m args meth c cX10_boundFrom 5 RX10 wsX10_boundFrom (some .int)) {D : va_G} {cs : Nat → ClassId} {a : Nat → Nat} {sh : Nat → Option Nat} {LP : List Nat} {Z : ZT} (hZ : shOK sh LP Z) (hK : KK D cs s) {σ : Nat → Nat → Int32} (hP : va_P D vwCl (cW a cs sh LP Z σ) s.heap) (r : Int32) (F : Nat) (x1 : Int32) (kx : Int32 → Option Int32) (hkx : ∀ (x2 : Int32) (ls : Array Slot), lv_has ls 5 [(2, .int x2)] → kx x2 = some r → W p l e rmX10_boundFrom s m args below meth c s.heap [] 0 0 (MQ below (vp_Si (fun x => x = r)) args s 0 0 (fun _ => False)) (F0 m 55 ls [])) : ∀ (n : Nat) (x2 : Int32) (x3 : Int32) (ls : Array Slot), lv_has ls 5 [(0, .ref (a 4)), (1, .int x1), (2, .int x2), (3, .int x3)] → fX10_boundFrom_L4 F sh Z σ x1 kx n x2 x3 = some r → W p l e rmX10_boundFrom s m args below meth c s.heap [] 0 0 (MQ below (vp_Si (fun x => x = r)) args s 0 0 (fun _ => False)) (F0 m 4 ls []) := by
  obtain ⟨hx, hb, hml, hown, hts, hr, hlk⟩ := id C
  intro n
  induction n with
  | zero =>
    intros
    rename_i h
    cases h
  | succ n ih =>
    intro x2 x3 ls hl h
    rw [fX10_boundFrom_L4] at h
    obtain ⟨kb, hkb, h⟩ := nb_some (P := fun (kb : Int32 → Int32 → Option Int32) => ∀ (x2 : Int32) (x3 : Int32) (ls : Array Slot), lv_has ls 5 [(0, .ref (a 4)), (1, .int x1), (2, .int x2), (3, .int x3)] → kb x2 x3 = some r → W p l e rmX10_boundFrom s m args below meth c s.heap [] 0 0 (MQ below (vp_Si (fun x => x = r)) args s 0 0 (fun _ => False)) (F0 m 4 ls [])) h ih
    refine lv_iload_n hx hb dX10_boundFrom_4 rfl (lv_at hl 3 rfl) ?_
    refine lv_aload_n hx hb dX10_boundFrom_5 rfl (lv_at hl 0 rfl) ?_
    refine va_get (D := D) (ci := 9) (v := .int (σ 38 0)) (C := RX10) (T := TX10) (N := 14) hx hb hts inX10_X10_boundFrom hown hK.1 hP 4 rfl rfl 4 (by decide) (hts (.fieldLink RX10 50 "SandPalace$Work" "count" "I") (by decide +kernel)) (fun _ h9 => h9) rfl dX10_boundFrom_6 ?_
    refine lv_icmp_ge (tgt := 55) hx hb dX10_boundFrom_9 (by decide) (fun c1 => ?_) (fun c1 => ?_)
    · have h := it_t c1 h
      exact hkx x2 ls (lv_sub hl [2] rfl) h
    · have h := it_f c1 h
      refine lv_iload_n hx hb dX10_boundFrom_12 rfl (lv_at hl 1 rfl) ?_
      refine lv_iconst (v := (1 : Int32)) hx hb dX10_boundFrom_13 (by decide) ?_
      refine lv_iload_n hx hb dX10_boundFrom_14 rfl (lv_at hl 3 rfl) ?_
      refine lv_ishl hx hb dX10_boundFrom_15 ?_
      refine lv_ior hx hb dX10_boundFrom_16 ?_
      obtain ⟨z2, e_z2, h⟩ := nm_some h
      refine tpi e_z2 ?_
      refine lv_istore (lv' := [(4, .int z2), (0, .ref (a 4)), (1, .int x1), (2, .int x2), (3, .int x3)]) hx hb dX10_boundFrom_17 hl (by decide) rfl (fun ls hl => ?_)
      refine lv_iload hx hb dX10_boundFrom_19 (lv_at hl 0 rfl) ?_
      refine lv_iload_n hx hb dX10_boundFrom_21 rfl (lv_at hl 2 rfl) ?_
      refine lv_icmp_eq (tgt := 49) hx hb dX10_boundFrom_22 (by decide) (fun c3 => ?_) (fun c3 => ?_)
      · have h := it_t c3 h
        exact wX10_boundFrom_J49 C hZ hK hP r F kb x1 x2 x3 hkb ls (lv_sub hl [1, 2, 3, 4] rfl) h
      · have h := it_f c3 h
        refine lv_aload_n hx hb dX10_boundFrom_25 rfl (lv_at hl 1 rfl) ?_
        refine va_get (D := D) (ci := 9) (v := .ref (a 11)) (C := RX10) (T := TX10) (N := 14) hx hb hts inX10_X10_boundFrom hown hK.1 hP 4 rfl rfl 11 (by decide) (hts (.fieldLink RX10 34 "SandPalace$Work" "fewest" "[I") (by decide +kernel)) (fun _ h9 => h9) rfl dX10_boundFrom_26 ?_
        refine lv_iload hx hb dX10_boundFrom_29 (lv_at hl 0 rfl) ?_
        obtain ⟨v4, i_v4, e_v4, h⟩ := aI_some h
        refine miald hx hb hK.1 hP 11 0 rfl rfl i_v4 e_v4 dX10_boundFrom_31 ?_
        refine lv_bipush (v := (99 : Int32)) hx hb dX10_boundFrom_32 (by decide) ?_
        refine lv_icmp_ge (tgt := 49) hx hb dX10_boundFrom_34 (by decide) (fun c5 => ?_) (fun c5 => ?_)
        · have h := it_t c5 h
          exact wX10_boundFrom_J49 C hZ hK hP r F kb x1 x2 x3 hkb ls (lv_sub hl [1, 2, 3, 4] rfl) h
        · have h := it_f c5 h
          refine lv_iload_n hx hb dX10_boundFrom_37 rfl (lv_at hl 3 rfl) ?_
          refine lv_aload_n hx hb dX10_boundFrom_38 rfl (lv_at hl 1 rfl) ?_
          refine va_get (D := D) (ci := 9) (v := .ref (a 11)) (C := RX10) (T := TX10) (N := 14) hx hb hts inX10_X10_boundFrom hown hK.1 hP 4 rfl rfl 11 (by decide) (hts (.fieldLink RX10 34 "SandPalace$Work" "fewest" "[I") (by decide +kernel)) (fun _ h9 => h9) rfl dX10_boundFrom_39 ?_
          refine lv_iload hx hb dX10_boundFrom_42 (lv_at hl 0 rfl) ?_
          obtain ⟨v6, i_v6, e_v6, h⟩ := aI_some h
          refine miald hx hb hK.1 hP 11 0 rfl rfl i_v6 e_v6 dX10_boundFrom_44 ?_
          refine va_mmax hx hb (hml.trans hl.1.symm) hown (hts (.methodLink RX10 117 Lib.Math.max.name) (by decide +kernel)) (hts (.static Lib.Math.max.name) (by decide +kernel)) (hts (.initialized "java/lang/Math") (by decide +kernel)) (hts (.code Lib.Math.max.name Lib.Math.max.code 2 (some .int)) (by decide +kernel)) (Nat.le_of_ble_eq_true rfl) (Nat.le_of_ble_eq_true rfl) (Nat.zero_le _) (Nat.zero_le _) dX10_boundFrom_45 ?_
          obtain ⟨z7, e_z7, h⟩ := nm_some h
          refine tpi e_z7 ?_
          refine lv_istore_n (lv' := [(2, .int z7), (4, .int z2), (0, .ref (a 4)), (1, .int x1), (3, .int x3)]) hx hb dX10_boundFrom_48 rfl hl (by decide) rfl (fun ls hl => ?_)
          exact wX10_boundFrom_J49 C hZ hK hP r F kb x1 z7 x3 hkb ls (lv_sub hl [2, 3, 0, 4] rfl) h
set_option maxHeartbeats 4000000 in
set_option maxRecDepth 100000 in
theorem kX10_boundFrom (l : Launch) (D : va_G) (cs : Nat → ClassId) (a : Nat → Nat) (sh : Nat → Option Nat) (LP : List Nat) (Z : ZT) (hZ : shOK sh LP Z) (σ : Nat → Nat → Int32) (F : Nat) (x1 : Int32) (r : Int32) (h : fX10_boundFrom F sh Z σ x1 = some r) : Met l yX10_boundFrom wsX10_boundFrom rmX10_boundFrom (va_Pc [.ref (a 4), .int x1] (pR D cs (cW a cs sh LP Z σ))) (vp_Si (fun x => x = r)) 0 0 (fun _ => False) := by
  refine Met.ofW (cc := cX10_boundFrom) (maxL := 5) (ret := (some .int)) (by decide) rfl ?_
  intro p e s m args below meth c s₁ B hml hv
  obtain ⟨rfl, hP, hK⟩ := hv
  have C : cxt p s m _ meth c cX10_boundFrom 5 RX10 wsX10_boundFrom (some .int) := ⟨B.exec, B.bytes, hml, findClass_of_methodNamed B.named, atoms_spec (ws := wsX10_boundFrom) B.pre, B.returns, B.notSynchronized⟩
  obtain ⟨hx, hb, -, hown, hts, hr, hlk⟩ := id C
  refine entryW [.ref (a 4), .int x1] (n := 5) (Nat.le_of_ble_eq_true rfl) (fun ls hl => ?_)
  have hl : lv_has ls 5 [(0, .ref (a 4)), (1, .int x1)] := hl
  unfold fX10_boundFrom at h
  refine lv_iconst (v := (1 : Int32)) hx hb dX10_boundFrom_0 (by decide) ?_
  refine lv_istore_n (lv' := [(2, .int (1 : Int32)), (0, .ref (a 4)), (1, .int x1)]) hx hb dX10_boundFrom_1 rfl hl (by decide) rfl (fun ls hl => ?_)
  refine lv_iconst (v := (0 : Int32)) hx hb dX10_boundFrom_2 (by decide) ?_
  refine lv_istore_n (lv' := [(3, .int (0 : Int32)), (2, .int (1 : Int32)), (0, .ref (a 4)), (1, .int x1)]) hx hb dX10_boundFrom_3 rfl hl (by decide) rfl (fun ls hl => ?_)
  refine wX10_boundFrom_L4 C hZ hK hP r F x1 _ ?_ F (1 : Int32) (0 : Int32) ls (lv_sub hl [2, 3, 1, 0] rfl) h
  intro y1 ls hl h
  refine lv_iload_n hx hb dX10_boundFrom_55 rfl (lv_at hl 0 rfl) ?_
  exact mretS hx hb hr hlk h dX10_boundFrom_56
def fX10_fewestFrom_J89 (F : Nat) (sh : Nat → Option Nat) (Z : ZT) (kb : Int32 → Int32 → Option Int32) (x1 : Int32) (x2 : Int32) (x3 : Int32) (x4 : Int32) (x5 : Int32) (σ : Nat → Nat → Int32) : Option Int32 :=
  nm ((x5 - (1 : Int32)) &&& x4) fun z10 => kb x3 z10
def fX10_fewestFrom_L49 (F : Nat) (sh : Nat → Option Nat) (Z : ZT) (σ : Nat → Nat → Int32) (x1 : Int32) (x2 : Int32) (x4 : Int32) (kx : Int32 → Option Int32) : Nat → Int32 → Int32 → Option Int32
  | 0, _, _ => none
  | n+1, x3, x5 =>
    nb ((fun x3 x5 => fX10_fewestFrom_L49 F sh Z σ x1 x2 x4 kx n x3 x5)) fun kb =>
    if x5 ≤ 0 then (kx x3) else (if x3 ≤ x2 then (kx x3) else (aI (σ 10) 1024 x5 fun v8 => if (σ 34 0) < v8 then (fX10_fewestFrom_J89 F sh Z kb x1 x2 x3 x4 x5 σ) else (aI (σ 11) 1024 (x1 ||| x5) fun v10 => nm ((if ((1 : Int32) + v10) < x3 then ((1 : Int32) + v10) else x3) : Int32) fun z11 => fX10_fewestFrom_J89 F sh Z kb x1 x2 z11 x4 x5 σ)))
def fX10_fewestFrom (F : Nat) (sh : Nat → Option Nat) (Z : ZT) (σ : Nat → Nat → Int32) (x1 : Int32) : Option Int32 :=
  if ¬ x1 = (σ 36 0) then (aI (σ 9) 1024 x1 fun v2 => if (v2 &&& (x1 ^^^ ((-1) : Int32))) = 0 then (bd (fX10_boundFrom F sh Z σ x1) fun v4 => nm ((σ 36 0) &&& (x1 ^^^ ((-1) : Int32))) fun z5 => fX10_fewestFrom_L49 F sh Z σ x1 v4 z5 (fun y6 => some y6) F (99 : Int32) z5) else (some (99 : Int32))) else (some (0 : Int32))
abbrev rmX10_fewestFrom : Room := { frames := 2, cells := 0, slots := 0, locals := 45 }
theorem inX10_X10_fewestFrom : ∀ w ∈ wsX100, w ∈ wsX10_fewestFrom := by intro w h; simp only [wsX10_fewestFrom, List.mem_cons, List.mem_append]; simp only [h, true_or, or_true]
set_option maxHeartbeats 4000000 in
set_option maxRecDepth 100000 in
theorem wX10_fewestFrom_J89 {p : Program} {l : Launch} {e : Env} {s : State} {m : MethodId} {args : Array Value} {below : List Frame} {meth : Method} {c : Code} (C : cxt p s m args meth c cX10_fewestFrom 6 RX10 wsX10_fewestFrom (some .int)) {D : va_G} {cs : Nat → ClassId} {a : Nat → Nat} {sh : Nat → Option Nat} {LP : List Nat} {Z : ZT} (hZ : shOK sh LP Z) (hK : KK D cs s) {σ : Nat → Nat → Int32} (hP : va_P D vwCl (cW a cs sh LP Z σ) s.heap) (r : Int32) (F : Nat) (kb : Int32 → Int32 → Option Int32) (x1 : Int32) (x2 : Int32) (x3 : Int32) (x4 : Int32) (x5 : Int32) (hkb : ∀ (x3 : Int32) (x5 : Int32) (ls : Array Slot), lv_has ls 6 [(0, .ref (a 4)), (1, .int x1), (2, .int x2), (3, .int x3), (4, .int x4), (5, .int x5)] → kb x3 x5 = some r → W p l e rmX10_fewestFrom s m args below meth c s.heap [] 0 0 (MQ below (vp_Si (fun x => x = r)) args s 0 0 (fun _ => False)) (F0 m 49 ls [])) (ls : Array Slot) (hl : lv_has ls 6 [(0, .ref (a 4)), (1, .int x1), (2, .int x2), (3, .int x3), (4, .int x4), (5, .int x5)]) (h : fX10_fewestFrom_J89 F sh Z kb x1 x2 x3 x4 x5 σ = some r) : W p l e rmX10_fewestFrom s m args below meth c s.heap [] 0 0 (MQ below (vp_Si (fun x => x = r)) args s 0 0 (fun _ => False)) (F0 m 89 ls []) := by
  obtain ⟨hx, hb, hml, hown, hts, hr, hlk⟩ := id C
  unfold fX10_fewestFrom_J89 at h
  refine lv_iload hx hb dX10_fewestFrom_89 (lv_at hl 5 rfl) ?_
  refine lv_iconst (v := (1 : Int32)) hx hb dX10_fewestFrom_91 (by decide) ?_
  refine lv_isub hx hb dX10_fewestFrom_92 ?_
  refine lv_iload hx hb dX10_fewestFrom_93 (lv_at hl 4 rfl) ?_
  refine lv_iand hx hb dX10_fewestFrom_95 ?_
  obtain ⟨z10, e_z10, h⟩ := nm_some h
  refine tpi e_z10 ?_
  refine lv_istore (lv' := [(5, .int z10), (0, .ref (a 4)), (1, .int x1), (2, .int x2), (3, .int x3), (4, .int x4)]) hx hb dX10_fewestFrom_96 hl (by decide) rfl (fun ls hl => ?_)
  refine lv_goto (tgt := 49) hx hb dX10_fewestFrom_98 (by decide) ?_
  exact hkb x3 z10 ls (lv_sub hl [1, 2, 3, 4, 5, 0] rfl) h
set_option maxHeartbeats 4000000 in
set_option maxRecDepth 100000 in
theorem wX10_fewestFrom_L49 {p : Program} {l : Launch} {e : Env} {s : State} {m : MethodId} {args : Array Value} {below : List Frame} {meth : Method} {c : Code} (C : cxt p s m args meth c cX10_fewestFrom 6 RX10 wsX10_fewestFrom (some .int)) {D : va_G} {cs : Nat → ClassId} {a : Nat → Nat} {sh : Nat → Option Nat} {LP : List Nat} {Z : ZT} (hZ : shOK sh LP Z) (hK : KK D cs s) {σ : Nat → Nat → Int32} (hP : va_P D vwCl (cW a cs sh LP Z σ) s.heap) (r : Int32) (F : Nat) (x1 : Int32) (x2 : Int32) (x4 : Int32) (kx : Int32 → Option Int32) (hkx : ∀ (x3 : Int32) (ls : Array Slot), lv_has ls 6 [(3, .int x3)] → kx x3 = some r → W p l e rmX10_fewestFrom s m args below meth c s.heap [] 0 0 (MQ below (vp_Si (fun x => x = r)) args s 0 0 (fun _ => False)) (F0 m 101 ls [])) : ∀ (n : Nat) (x3 : Int32) (x5 : Int32) (ls : Array Slot), lv_has ls 6 [(0, .ref (a 4)), (1, .int x1), (2, .int x2), (3, .int x3), (4, .int x4), (5, .int x5)] → fX10_fewestFrom_L49 F sh Z σ x1 x2 x4 kx n x3 x5 = some r → W p l e rmX10_fewestFrom s m args below meth c s.heap [] 0 0 (MQ below (vp_Si (fun x => x = r)) args s 0 0 (fun _ => False)) (F0 m 49 ls []) := by
  obtain ⟨hx, hb, hml, hown, hts, hr, hlk⟩ := id C
  intro n
  induction n with
  | zero =>
    intros
    rename_i h
    cases h
  | succ n ih =>
    intro x3 x5 ls hl h
    rw [fX10_fewestFrom_L49] at h
    obtain ⟨kb, hkb, h⟩ := nb_some (P := fun (kb : Int32 → Int32 → Option Int32) => ∀ (x3 : Int32) (x5 : Int32) (ls : Array Slot), lv_has ls 6 [(0, .ref (a 4)), (1, .int x1), (2, .int x2), (3, .int x3), (4, .int x4), (5, .int x5)] → kb x3 x5 = some r → W p l e rmX10_fewestFrom s m args below meth c s.heap [] 0 0 (MQ below (vp_Si (fun x => x = r)) args s 0 0 (fun _ => False)) (F0 m 49 ls [])) h ih
    refine lv_iload hx hb dX10_fewestFrom_49 (lv_at hl 5 rfl) ?_
    refine lv_if_le (tgt := 101) hx hb dX10_fewestFrom_51 (by decide) (fun c6 => ?_) (fun c6 => ?_)
    · have h := it_t c6 h
      exact hkx x3 ls (lv_sub hl [3] rfl) h
    · have h := it_f c6 h
      refine lv_iload_n hx hb dX10_fewestFrom_54 rfl (lv_at hl 3 rfl) ?_
      refine lv_iload_n hx hb dX10_fewestFrom_55 rfl (lv_at hl 2 rfl) ?_
      refine lv_icmp_le (tgt := 101) hx hb dX10_fewestFrom_56 (by decide) (fun c7 => ?_) (fun c7 => ?_)
      · have h := it_t c7 h
        exact hkx x3 ls (lv_sub hl [3] rfl) h
      · have h := it_f c7 h
        refine lv_aload_n hx hb dX10_fewestFrom_59 rfl (lv_at hl 0 rfl) ?_
        refine va_get (D := D) (ci := 9) (v := .ref (a 10)) (C := RX10) (T := TX10) (N := 14) hx hb hts inX10_X10_fewestFrom hown hK.1 hP 4 rfl rfl 10 (by decide) (hts (.fieldLink RX10 31 "SandPalace$Work" "load" "[I") (by decide +kernel)) (fun _ h9 => h9) rfl dX10_fewestFrom_60 ?_
        refine lv_iload hx hb dX10_fewestFrom_63 (lv_at hl 5 rfl) ?_
        obtain ⟨v8, i_v8, e_v8, h⟩ := aI_some h
        refine miald hx hb hK.1 hP 10 0 rfl rfl i_v8 e_v8 dX10_fewestFrom_65 ?_
        refine lv_aload_n hx hb dX10_fewestFrom_66 rfl (lv_at hl 0 rfl) ?_
        refine va_get (D := D) (ci := 9) (v := .int (σ 34 0)) (C := RX10) (T := TX10) (N := 14) hx hb hts inX10_X10_fewestFrom hown hK.1 hP 4 rfl rfl 0 (by decide) (hts (.fieldLink RX10 9 "SandPalace$Work" "sandOfDay" "I") (by decide +kernel)) (fun _ h9 => h9) rfl dX10_fewestFrom_67 ?_
        refine lv_icmp_gt (tgt := 89) hx hb dX10_fewestFrom_70 (by decide) (fun c9 => ?_) (fun c9 => ?_)
        · have h := it_t c9 h
          exact wX10_fewestFrom_J89 C hZ hK hP r F kb x1 x2 x3 x4 x5 hkb ls (lv_sub hl [0, 1, 2, 3, 4, 5] rfl) h
        · have h := it_f c9 h
          refine lv_iload_n hx hb dX10_fewestFrom_73 rfl (lv_at hl 3 rfl) ?_
          refine lv_iconst (v := (1 : Int32)) hx hb dX10_fewestFrom_74 (by decide) ?_
          refine lv_aload_n hx hb dX10_fewestFrom_75 rfl (lv_at hl 0 rfl) ?_
          refine va_get (D := D) (ci := 9) (v := .ref (a 11)) (C := RX10) (T := TX10) (N := 14) hx hb hts inX10_X10_fewestFrom hown hK.1 hP 4 rfl rfl 11 (by decide) (hts (.fieldLink RX10 34 "SandPalace$Work" "fewest" "[I") (by decide +kernel)) (fun _ h9 => h9) rfl dX10_fewestFrom_76 ?_
          refine lv_iload_n hx hb dX10_fewestFrom_79 rfl (lv_at hl 1 rfl) ?_
          refine lv_iload hx hb dX10_fewestFrom_80 (lv_at hl 5 rfl) ?_
          refine lv_ior hx hb dX10_fewestFrom_82 ?_
          obtain ⟨v10, i_v10, e_v10, h⟩ := aI_some h
          refine miald hx hb hK.1 hP 11 0 rfl rfl i_v10 e_v10 dX10_fewestFrom_83 ?_
          refine lv_iadd hx hb dX10_fewestFrom_84 ?_
          refine va_mmin hx hb (hml.trans hl.1.symm) hown (hts (.methodLink RX10 111 Lib.Math.min.name) (by decide +kernel)) (hts (.static Lib.Math.min.name) (by decide +kernel)) (hts (.initialized "java/lang/Math") (by decide +kernel)) (hts (.code Lib.Math.min.name Lib.Math.min.code 2 (some .int)) (by decide +kernel)) (Nat.le_of_ble_eq_true rfl) (Nat.le_of_ble_eq_true rfl) (Nat.zero_le _) (Nat.zero_le _) dX10_fewestFrom_85 ?_
          obtain ⟨z11, e_z11, h⟩ := nm_some h
          refine tpi e_z11 ?_
          refine lv_istore_n (lv' := [(3, .int z11), (0, .ref (a 4)), (1, .int x1), (2, .int x2), (4, .int x4), (5, .int x5)]) hx hb dX10_fewestFrom_88 rfl hl (by decide) rfl (fun ls hl => ?_)
          exact wX10_fewestFrom_J89 C hZ hK hP r F kb x1 x2 z11 x4 x5 hkb ls (lv_sub hl [1, 2, 3, 0, 4, 5] rfl) h
set_option maxHeartbeats 4000000 in
set_option maxRecDepth 100000 in
theorem kX10_fewestFrom (l : Launch) (D : va_G) (cs : Nat → ClassId) (a : Nat → Nat) (sh : Nat → Option Nat) (LP : List Nat) (Z : ZT) (hZ : shOK sh LP Z) (σ : Nat → Nat → Int32) (F : Nat) (x1 : Int32) (r : Int32) (h : fX10_fewestFrom F sh Z σ x1 = some r) : Met l yX10_fewestFrom wsX10_fewestFrom rmX10_fewestFrom (va_Pc [.ref (a 4), .int x1] (pR D cs (cW a cs sh LP Z σ))) (vp_Si (fun x => x = r)) 0 0 (fun _ => False) := by
  refine Met.ofW (cc := cX10_fewestFrom) (maxL := 6) (ret := (some .int)) (by decide) rfl ?_
  intro p e s m args below meth c s₁ B hml hv
  obtain ⟨rfl, hP, hK⟩ := hv
  have C : cxt p s m _ meth c cX10_fewestFrom 6 RX10 wsX10_fewestFrom (some .int) := ⟨B.exec, B.bytes, hml, findClass_of_methodNamed B.named, atoms_spec (ws := wsX10_fewestFrom) B.pre, B.returns, B.notSynchronized⟩
  obtain ⟨hx, hb, -, hown, hts, hr, hlk⟩ := id C
  refine entryW [.ref (a 4), .int x1] (n := 6) (Nat.le_of_ble_eq_true rfl) (fun ls hl => ?_)
  have hl : lv_has ls 6 [(0, .ref (a 4)), (1, .int x1)] := hl
  unfold fX10_fewestFrom at h
  refine lv_iload_n hx hb dX10_fewestFrom_0 rfl (lv_at hl 1 rfl) ?_
  refine lv_aload_n hx hb dX10_fewestFrom_1 rfl (lv_at hl 0 rfl) ?_
  refine va_get (D := D) (ci := 9) (v := .int (σ 36 0)) (C := RX10) (T := TX10) (N := 14) hx hb hts inX10_X10_fewestFrom hown hK.1 hP 4 rfl rfl 2 (by decide) (hts (.fieldLink RX10 70 "SandPalace$Work" "all" "I") (by decide +kernel)) (fun _ h9 => h9) rfl dX10_fewestFrom_2 ?_
  refine lv_icmp_ne (tgt := 10) hx hb dX10_fewestFrom_5 (by decide) (fun c1 => ?_) (fun c1 => ?_)
  · have h := it_t c1 h
    refine lv_aload_n hx hb dX10_fewestFrom_10 rfl (lv_at hl 0 rfl) ?_
    refine va_get (D := D) (ci := 9) (v := .ref (a 9)) (C := RX10) (T := TX10) (N := 14) hx hb hts inX10_X10_fewestFrom hown hK.1 hP 4 rfl rfl 9 (by decide) (hts (.fieldLink RX10 28 "SandPalace$Work" "needed" "[I") (by decide +kernel)) (fun _ h9 => h9) rfl dX10_fewestFrom_11 ?_
    refine lv_iload_n hx hb dX10_fewestFrom_14 rfl (lv_at hl 1 rfl) ?_
    obtain ⟨v2, i_v2, e_v2, h⟩ := aI_some h
    refine miald hx hb hK.1 hP 9 0 rfl rfl i_v2 e_v2 dX10_fewestFrom_15 ?_
    refine lv_iload_n hx hb dX10_fewestFrom_16 rfl (lv_at hl 1 rfl) ?_
    refine lv_iconst (v := ((-1) : Int32)) hx hb dX10_fewestFrom_17 (by decide) ?_
    refine lv_ixor hx hb dX10_fewestFrom_18 ?_
    refine lv_iand hx hb dX10_fewestFrom_19 ?_
    refine lv_if_eq (tgt := 26) hx hb dX10_fewestFrom_20 (by decide) (fun c3 => ?_) (fun c3 => ?_)
    · have h := it_t c3 h
      refine lv_aload_n hx hb dX10_fewestFrom_26 rfl (lv_at hl 0 rfl) ?_
      refine lv_iload_n hx hb dX10_fewestFrom_27 rfl (lv_at hl 1 rfl) ?_
      obtain ⟨v4, hc_v4, h⟩ := bd_some h
      refine mcallS (va_runV (As := [.int x1]) (rest := []) ⟨hx, hb, hml, hown, hts⟩ (kX10_boundFrom l D cs a sh LP Z hZ σ F x1 v4 hc_v4) (cwV 1 hts gX10_fewestFrom_X10_boundFrom rfl rfl rfl (by decide +kernel) ⟨Nat.le_of_ble_eq_true rfl, Nat.le_of_ble_eq_true rfl⟩) (pR_v hP hK (va_recv hK.1 hP (ci := 9) (q0 := 4) rfl rfl)) rfl rfl hl.1 rfl (lv_room (Nat.le_of_ble_eq_true rfl)) dX10_fewestFrom_28 ⟨Nat.zero_le _, Nat.zero_le _⟩) ?_
      refine lv_istore_n (lv' := [(2, .int v4), (0, .ref (a 4)), (1, .int x1)]) hx hb dX10_fewestFrom_31 rfl hl (by decide) rfl (fun ls hl => ?_)
      refine lv_bipush (v := (99 : Int32)) hx hb dX10_fewestFrom_32 (by decide) ?_
      refine lv_istore_n (lv' := [(3, .int (99 : Int32)), (2, .int v4), (0, .ref (a 4)), (1, .int x1)]) hx hb dX10_fewestFrom_34 rfl hl (by decide) rfl (fun ls hl => ?_)
      refine lv_aload_n hx hb dX10_fewestFrom_35 rfl (lv_at hl 2 rfl) ?_
      refine va_get (D := D) (ci := 9) (v := .int (σ 36 0)) (C := RX10) (T := TX10) (N := 14) hx hb hts inX10_X10_fewestFrom hown hK.1 hP 4 rfl rfl 2 (by decide) (hts (.fieldLink RX10 70 "SandPalace$Work" "all" "I") (by decide +kernel)) (fun _ h9 => h9) rfl dX10_fewestFrom_36 ?_
      refine lv_iload_n hx hb dX10_fewestFrom_39 rfl (lv_at hl 3 rfl) ?_
      refine lv_iconst (v := ((-1) : Int32)) hx hb dX10_fewestFrom_40 (by decide) ?_
      refine lv_ixor hx hb dX10_fewestFrom_41 ?_
      refine lv_iand hx hb dX10_fewestFrom_42 ?_
      obtain ⟨z5, e_z5, h⟩ := nm_some h
      refine tpi e_z5 ?_
      refine lv_istore (lv' := [(4, .int z5), (3, .int (99 : Int32)), (2, .int v4), (0, .ref (a 4)), (1, .int x1)]) hx hb dX10_fewestFrom_43 hl (by decide) rfl (fun ls hl => ?_)
      refine lv_iload hx hb dX10_fewestFrom_45 (lv_at hl 0 rfl) ?_
      refine lv_istore (lv' := [(5, .int z5), (4, .int z5), (3, .int (99 : Int32)), (2, .int v4), (0, .ref (a 4)), (1, .int x1)]) hx hb dX10_fewestFrom_47 hl (by decide) rfl (fun ls hl => ?_)
      refine wX10_fewestFrom_L49 C hZ hK hP r F x1 v4 z5 _ ?_ F (99 : Int32) z5 ls (lv_sub hl [4, 5, 3, 2, 1, 0] rfl) h
      intro y6 ls hl h
      refine lv_iload_n hx hb dX10_fewestFrom_101 rfl (lv_at hl 0 rfl) ?_
      exact mretS hx hb hr hlk h dX10_fewestFrom_102
    · have h := it_f c3 h
      refine lv_bipush (v := (99 : Int32)) hx hb dX10_fewestFrom_23 (by decide) ?_
      exact mretS hx hb hr hlk h dX10_fewestFrom_25
  · have h := it_n c1 h
    refine lv_iconst (v := (0 : Int32)) hx hb dX10_fewestFrom_8 (by decide) ?_
    exact mretS hx hb hr hlk h dX10_fewestFrom_9
