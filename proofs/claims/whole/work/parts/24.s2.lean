/-! the static row GATES, and the sweeper's two recursive methods -/
def gates : Nat → Int32 := fun j => if j = 0 then 1 else if j = 1 then 7 else if j = 2 then 14 else 8
def GT (A : Nat → Prop) (U : State) : Prop := ∃ t : Nat, va_Z "SandPalace" "GATES" "[I" (.ref t) A U U.heap ∧ va_T .int t 4 (fun j => .int (gates j)) A U U.heap
def pG (D : va_G) (cs : Nat → ClassId) (ws : va_W) (sz : Nat) (U : State) : Prop := U.heap.size = sz ∧ va_P D vwCl ws U.heap ∧ KK D cs U ∧ va_D (fun _ => True) ws ∧ GT (va_A ws sz) U
theorem pG_v {s : State} {H : Heap} {C : String} {b : Addr} {As : List Value} {D : va_G} {cs : Nat → ClassId} {ws : va_W} {A : Nat → Prop} {locs : List Loc} (hP : va_P D vwCl ws H) (hK : KK D cs s) (hD : va_D A ws) (hS : va_S A s.heap H locs) (hA : ∀ q, s.heap.size ≤ q → A q) (hG : GT A s) (hr : ∃ cellB : Cell, H[b]? = some cellB ∧ cellB.vm.isStatics = false ∧ s.vm.findClass C = some cellB.cls) : PreV s H C b (va_Pc (.ref b :: As) (pG D cs ws H.size)) As := by
  refine ⟨fun _ U _ _ q => ⟨q.1, q.2.1, q.2.2.1, q.2.2.2.1.warm (State.WarmedH.refl U), q.2.2.2.2.1, ?_⟩, hr, fun U hU hW => ⟨rfl, by rw [hU], by rw [hU]; exact hP, hK.warm hW, hD.weaken (fun _ _ _ _ => trivial), ?_⟩⟩
  · obtain ⟨t, h1, h2⟩ := q.2.2.2.2.2
    exact ⟨t, h1.moved (Vm.Alike.refl U.vm), h2.moved (Vm.Alike.refl U.vm)⟩
  · obtain ⟨t, h1, h2⟩ := hG
    have hF := mfree hD hS hA
    refine ⟨t, ?_, ?_⟩
    · have h3 := (h1.kept hS.2.1).moved hW.alike
      rw [hU]
      exact h3.narrow hF
    · have h3 := (h2.kept hS.2.1).moved hW.alike
      rw [hU]
      exact h3.narrow hF
abbrev rmG (d : Nat) : Room := { frames := 2 * d, cells := 0, slots := 0, locals := 60 * d }
abbrev rmT (d : Nat) : Room := { frames := 2 * d + 1, cells := 0, slots := 0, locals := 8 + (7 + 11) + 60 * d }
def fX9_triesOn (KR : Nat) (kg : (Nat → Nat → Int32) → Int32 → Int32 → Int32 → Option (Int32 × (Nat → Nat → Int32))) (sh : Nat → Option Nat) (Z : ZT) (σ : Nat → Nat → Int32) (x1 : Int32) (x2 : Int32) (x3 : Int32) : Option (Int32 × (Nat → Nat → Int32)) :=
  bd (fX9_isOpen x2 x3) fun v1 => if v1 = 0 then (some ((0 : Int32), σ)) else (bd (kg σ (x1 + (1 : Int32)) x2 x3) fun (v3, σ4) => if v3 = 0 then (some ((0 : Int32), σ4)) else (some ((1 : Int32), σ4)))
set_option maxHeartbeats 4000000 in
set_option maxRecDepth 100000 in
theorem kX9_triesOn_19 (l : Launch) (D : va_G) (cs : Nat → ClassId) (a : Nat → Nat) (sh : Nat → Option Nat) (LP : List Nat) (Z : ZT) (hZ : shOK sh LP Z) (σ : Nat → Nat → Int32) (d : Nat) (kg : (Nat → Nat → Int32) → Int32 → Int32 → Int32 → Option (Int32 × (Nat → Nat → Int32))) (hg : ∀ (σ : Nat → Nat → Int32) (x1 x2 x3 : Int32) (r : Int32) (u9 : Nat → Nat → Int32), kg σ x1 x2 x3 = some (r, u9) → ∀ sz : Nat, Met l yX9_goesOn wsX9_goesOn (rmG d) (va_Pc [.ref (a 19), .int x1, .int x2, .int x3] (pQ D cs (cW a cs sh LP Z σ) sz)) (va_Qi (fun x y => (x = r ∧ (r = 0 ∨ r = 1)) ∧ y = u9) (qB D (cW a cs sh LP Z) (va_A (cW a cs sh LP Z σ) sz)) (va_A (cW a cs sh LP Z σ) sz)) 0 0 (va_A (cW a cs sh LP Z σ) sz)) (x1 : Int32) (x2 : Int32) (x3 : Int32) (r : Int32) (u9 : Nat → Nat → Int32) (h : fX9_triesOn 19 kg sh Z σ x1 x2 x3 = some (r, u9)) (sz : Nat) : Met l yX9_triesOn wsX9_triesOn (rmT d) (va_Pc [.ref (a 19), .int x1, .int x2, .int x3] (pQ D cs (cW a cs sh LP Z σ) sz)) (va_Qi (fun x y => (x = r ∧ (r = 0 ∨ r = 1)) ∧ y = u9) (qB D (cW a cs sh LP Z) (va_A (cW a cs sh LP Z σ) sz)) (va_A (cW a cs sh LP Z σ) sz)) 0 0 (va_A (cW a cs sh LP Z σ) sz) := by
  refine Met.ofW (cc := cX9_triesOn) (maxL := 4) (ret := (some .boolean)) (by decide) rfl ?_
  intro p e s m args below meth c s₁ B hml hv
  obtain ⟨rfl, hsz, hP, hK, hD0⟩ := hv
  have C : cxt p s m _ meth c cX9_triesOn 4 RX9 wsX9_triesOn (some .boolean) := ⟨B.exec, B.bytes, hml, findClass_of_methodNamed B.named, atoms_spec (ws := wsX9_triesOn) B.pre, B.returns, B.notSynchronized⟩
  obtain ⟨hx, hb, -, hown, hts, hr, hlk⟩ := id C
  subst hsz
  have hD := hD0.self (sz := s.heap.size)
  generalize hAe : va_A (cW a cs sh LP Z σ) s.heap.size = A at hD ⊢
  have hA : ∀ q : Nat, s.heap.size ≤ q → A q := fun q h => by rw [← hAe]; exact Or.inr h
  have hS : va_S A s.heap s.heap [] := va_S.rf
  refine entryW [.ref (a 19), .int x1, .int x2, .int x3] (n := 4) (Nat.le_of_ble_eq_true rfl) (fun ls hl => ?_)
  have hl : lv_has ls 4 [(0, .ref (a 19)), (1, .int x1), (2, .int x2), (3, .int x3)] := hl
  unfold fX9_triesOn at h
  refine lv_iload_n hx hb dX9_triesOn_0 rfl (lv_at hl 2 rfl) ?_
  refine lv_iload_n hx hb dX9_triesOn_1 rfl (lv_at hl 3 rfl) ?_
  obtain ⟨v1, hc_v1, h⟩ := bd_some h
  refine mcallSZ (va_runS (As := [.int x2, .int x3]) (rest := []) ⟨hx, hb, hml, hown, hts⟩ (kX9_isOpen l x2 x3 v1 hc_v1) (va_cwS 2 hts gX9_triesOn_X9_isOpen rfl rfl rfl (by decide +kernel) ⟨by show 0 + 1 ≤ 2 * d + 1; omega, by show 8 + (2 + 11) + 0 ≤ 8 + (7 + 11) + 60 * d; omega⟩) p0_s rfl rfl hl.1 rfl (lv_room (Nat.le_of_ble_eq_true rfl)) dX9_triesOn_2 ⟨Nat.zero_le _, Nat.zero_le _⟩) (fun z_v1 => ?_)
  refine lv_if_eq (tgt := 24) hx hb dX9_triesOn_5 (by decide) (fun c2 => ?_) (fun c2 => ?_)
  · have h := it_t c2 h
    refine lv_iconst (v := (0 : Int32)) hx hb dX9_triesOn_24 (by decide) ?_
    exact mretQZ hx hb hr hlk h (Or.inl rfl) hP hD hS dX9_triesOn_25
  · have h := it_f c2 h
    refine lv_aload_n hx hb dX9_triesOn_8 rfl (lv_at hl 0 rfl) ?_
    refine lv_iload_n hx hb dX9_triesOn_9 rfl (lv_at hl 1 rfl) ?_
    refine lv_iconst (v := (1 : Int32)) hx hb dX9_triesOn_10 (by decide) ?_
    refine lv_iadd hx hb dX9_triesOn_11 ?_
    refine lv_iload_n hx hb dX9_triesOn_12 rfl (lv_at hl 2 rfl) ?_
    refine lv_iload_n hx hb dX9_triesOn_13 rfl (lv_at hl 3 rfl) ?_
    obtain ⟨⟨v3, σ4⟩, hc_v3, h⟩ := bd_some h
    refine mcallQZ (wf := (cW a cs sh LP Z)) (va_runS (As := [.ref (a 19), .int (x1 + (1 : Int32)), .int x2, .int x3]) (rest := []) ⟨hx, hb, hml, hown, hts⟩ (hg σ (x1 + (1 : Int32)) x2 x3 v3 σ4 hc_v3 _) (va_cwS 4 hts gX9_triesOn_X9_goesOn rfl rfl rfl (by decide +kernel) ⟨Nat.le_refl _, Nat.le_refl _⟩) (pQ_s hP hK hD) rfl rfl hl.1 rfl (lv_room (Nat.le_of_ble_eq_true rfl)) dX9_triesOn_14 ⟨Nat.zero_le _, Nat.zero_le _⟩) hD hS hA (fun z_v3 H locs hP hD hS => ?_)
    refine lv_if_eq (tgt := 24) hx hb dX9_triesOn_17 (by decide) (fun c5 => ?_) (fun c5 => ?_)
    · have h := it_t c5 h
      refine lv_iconst (v := (0 : Int32)) hx hb dX9_triesOn_24 (by decide) ?_
      exact mretQZ hx hb hr hlk h (Or.inl rfl) hP hD hS dX9_triesOn_25
    · have h := it_f c5 h
      refine lv_iconst (v := (1 : Int32)) hx hb dX9_triesOn_20 (by decide) ?_
      refine lv_goto (tgt := 25) hx hb dX9_triesOn_21 (by decide) ?_
      exact mretQZ hx hb hr hlk h (Or.inr rfl) hP hD hS dX9_triesOn_25
def fX9_goesOn_J117 (KR : Nat) (kg : (Nat → Nat → Int32) → Int32 → Int32 → Int32 → Option (Int32 × (Nat → Nat → Int32))) (sh : Nat → Option Nat) (Z : ZT) (x1 : Int32) (x2 : Int32) (x4 : Int32) (t0 : Int32) (σ : Nat → Nat → Int32) : Option (Int32 × (Nat → Nat → Int32)) :=
  if ¬ t0 = 0 then (some ((1 : Int32), σ)) else (if (12 : Int32) ≤ x2 then (some ((0 : Int32), σ)) else (bd (fX9_triesOn KR kg sh Z σ x1 (x2 + (4 : Int32)) x4) fun (v12, σ13) => if v12 = 0 then (some ((0 : Int32), σ13)) else (some ((1 : Int32), σ13))))
def fX9_goesOn_J112 (KR : Nat) (kg : (Nat → Nat → Int32) → Int32 → Int32 → Int32 → Option (Int32 × (Nat → Nat → Int32))) (sh : Nat → Option Nat) (Z : ZT) (x1 : Int32) (x2 : Int32) (x4 : Int32) (σ : Nat → Nat → Int32) : Option (Int32 × (Nat → Nat → Int32)) :=
  fX9_goesOn_J117 KR kg sh Z x1 x2 x4 (1 : Int32) σ
def fX9_goesOn_J116 (KR : Nat) (kg : (Nat → Nat → Int32) → Int32 → Int32 → Int32 → Option (Int32 × (Nat → Nat → Int32))) (sh : Nat → Option Nat) (Z : ZT) (x1 : Int32) (x2 : Int32) (x4 : Int32) (σ : Nat → Nat → Int32) : Option (Int32 × (Nat → Nat → Int32)) :=
  fX9_goesOn_J117 KR kg sh Z x1 x2 x4 (0 : Int32) σ
def fX9_goesOn_J86 (KR : Nat) (kg : (Nat → Nat → Int32) → Int32 → Int32 → Int32 → Option (Int32 × (Nat → Nat → Int32))) (sh : Nat → Option Nat) (Z : ZT) (x1 : Int32) (x2 : Int32) (x4 : Int32) (x5 : Int32) (t0 : Int32) (σ : Nat → Nat → Int32) : Option (Int32 × (Nat → Nat → Int32)) :=
  if ¬ t0 = 0 then (fX9_goesOn_J112 KR kg sh Z x1 x2 x4 σ) else (if (3 : Int32) ≤ x5 then (fX9_goesOn_J116 KR kg sh Z x1 x2 x4 σ) else (bd (fX9_triesOn KR kg sh Z σ x1 (x2 + (1 : Int32)) x4) fun (v11, σ12) => if v11 = 0 then (fX9_goesOn_J116 KR kg sh Z x1 x2 x4 σ12) else (fX9_goesOn_J112 KR kg sh Z x1 x2 x4 σ12)))
def fX9_goesOn_J81 (KR : Nat) (kg : (Nat → Nat → Int32) → Int32 → Int32 → Int32 → Option (Int32 × (Nat → Nat → Int32))) (sh : Nat → Option Nat) (Z : ZT) (x1 : Int32) (x2 : Int32) (x4 : Int32) (x5 : Int32) (σ : Nat → Nat → Int32) : Option (Int32 × (Nat → Nat → Int32)) :=
  fX9_goesOn_J86 KR kg sh Z x1 x2 x4 x5 (1 : Int32) σ
def fX9_goesOn_J85 (KR : Nat) (kg : (Nat → Nat → Int32) → Int32 → Int32 → Int32 → Option (Int32 × (Nat → Nat → Int32))) (sh : Nat → Option Nat) (Z : ZT) (x1 : Int32) (x2 : Int32) (x4 : Int32) (x5 : Int32) (σ : Nat → Nat → Int32) : Option (Int32 × (Nat → Nat → Int32)) :=
  fX9_goesOn_J86 KR kg sh Z x1 x2 x4 x5 (0 : Int32) σ
def fX9_goesOn_J56 (KR : Nat) (kg : (Nat → Nat → Int32) → Int32 → Int32 → Int32 → Option (Int32 × (Nat → Nat → Int32))) (sh : Nat → Option Nat) (Z : ZT) (x1 : Int32) (x2 : Int32) (x4 : Int32) (x5 : Int32) (t0 : Int32) (σ : Nat → Nat → Int32) : Option (Int32 × (Nat → Nat → Int32)) :=
  if ¬ t0 = 0 then (fX9_goesOn_J81 KR kg sh Z x1 x2 x4 x5 σ) else (if x5 ≤ 0 then (fX9_goesOn_J85 KR kg sh Z x1 x2 x4 x5 σ) else (bd (fX9_triesOn KR kg sh Z σ x1 (x2 - (1 : Int32)) x4) fun (v10, σ11) => if v10 = 0 then (fX9_goesOn_J85 KR kg sh Z x1 x2 x4 x5 σ11) else (fX9_goesOn_J81 KR kg sh Z x1 x2 x4 x5 σ11)))
def fX9_goesOn_J55 (KR : Nat) (kg : (Nat → Nat → Int32) → Int32 → Int32 → Int32 → Option (Int32 × (Nat → Nat → Int32))) (sh : Nat → Option Nat) (Z : ZT) (x1 : Int32) (x2 : Int32) (x4 : Int32) (x5 : Int32) (σ : Nat → Nat → Int32) : Option (Int32 × (Nat → Nat → Int32)) :=
  fX9_goesOn_J56 KR kg sh Z x1 x2 x4 x5 (0 : Int32) σ
def fX9_goesOn (KR : Nat) : Nat → (Nat → Option Nat) → ZT → (Nat → Nat → Int32) → Int32 → Int32 → Int32 → Option (Int32 × (Nat → Nat → Int32))
  | 0, _, _, _, _, _, _ => none
  | d+1, sh, Z, σ, x1, x2, x3 =>
    nb (fun σ x1 x2 x3 => fX9_goesOn KR d sh Z σ x1 x2 x3) fun kg =>
    if x1 < (16 : Int32) then (aS 16 x1 (nm (sg σ KR (upd (σ KR) x1.toNatClampNeg x2)) fun σ3 => nm (x3 &&& (((1 : Int32) <<< (x2 &&& 31)) ^^^ ((-1) : Int32))) fun z4 => if ¬ z4 = 0 then (nm (x2 - x2 / (4 : Int32) * (4 : Int32)) fun z6 => if x2 < (4 : Int32) then (fX9_goesOn_J55 KR kg sh Z x1 x2 z4 z6 σ3) else (bd (fX9_triesOn KR kg sh Z σ3 x1 (x2 - (4 : Int32)) z4) fun (v8, σ9) => if v8 = 0 then (fX9_goesOn_J55 KR kg sh Z x1 x2 z4 z6 σ9) else (fX9_goesOn_J56 KR kg sh Z x1 x2 z4 z6 (1 : Int32) σ9))) else (some ((1 : Int32), σ3)))) else (some ((0 : Int32), σ))
set_option maxHeartbeats 4000000 in
set_option maxRecDepth 100000 in
theorem wX9_goesOn_19_J117 {p : Program} {l : Launch} {e : Env} {s : State} {m : MethodId} {args : Array Value} {below : List Frame} {meth : Method} {c : Code} (C : cxt p s m args meth c cX9_goesOn 7 RX9 wsX9_goesOn (some .boolean)) {D : va_G} {cs : Nat → ClassId} {a : Nat → Nat} {sh : Nat → Option Nat} {LP : List Nat} {Z : ZT} (hZ : shOK sh LP Z) (hK : KK D cs s) {A : Nat → Prop} (hA : ∀ q, s.heap.size ≤ q → A q) {d : Nat} {kg : (Nat → Nat → Int32) → Int32 → Int32 → Int32 → Option (Int32 × (Nat → Nat → Int32))} (hg : ∀ (σ : Nat → Nat → Int32) (x1 x2 x3 : Int32) (r : Int32) (u9 : Nat → Nat → Int32), kg σ x1 x2 x3 = some (r, u9) → ∀ sz : Nat, Met l yX9_goesOn wsX9_goesOn (rmG d) (va_Pc [.ref (a 19), .int x1, .int x2, .int x3] (pQ D cs (cW a cs sh LP Z σ) sz)) (va_Qi (fun x y => (x = r ∧ (r = 0 ∨ r = 1)) ∧ y = u9) (qB D (cW a cs sh LP Z) (va_A (cW a cs sh LP Z σ) sz)) (va_A (cW a cs sh LP Z σ) sz)) 0 0 (va_A (cW a cs sh LP Z σ) sz)) (r : Int32) (u9 : Nat → Nat → Int32) (x1 : Int32) (x2 : Int32) (x4 : Int32) (t0 : Int32) (σ : Nat → Nat → Int32) (H : Heap) (locs : List Loc) (ls : Array Slot) (hP : va_P D vwCl (cW a cs sh LP Z σ) H) (hD : va_D A (cW a cs sh LP Z σ)) (hS : va_S A s.heap H locs) (hl : lv_has ls 7 [(0, .ref (a 19)), (1, .int x1), (2, .int x2), (4, .int x4)]) (h : fX9_goesOn_J117 19 kg sh Z x1 x2 x4 t0 σ = some (r, u9)) : W p l e (rmG (d + 1)) s m args below meth c H locs 0 0 (MQ below (va_Qi (fun x y => (x = r ∧ (r = 0 ∨ r = 1)) ∧ y = u9) (qB D (cW a cs sh LP Z) A) A) args s 0 0 A) (F0 m 117 ls [.int t0]) := by
  obtain ⟨hx, hb, hml, hown, hts, hr, hlk⟩ := id C
  unfold fX9_goesOn_J117 at h
  refine lv_istore (lv' := [(6, .int t0), (0, .ref (a 19)), (1, .int x1), (2, .int x2), (4, .int x4)]) hx hb dX9_goesOn_117 hl (by decide) rfl (fun ls hl => ?_)
  refine lv_iload hx hb dX9_goesOn_119 (lv_at hl 0 rfl) ?_
  refine lv_if_ne (tgt := 143) hx hb dX9_goesOn_121 (by decide) (fun c10 => ?_) (fun c10 => ?_)
  · have h := it_t c10 h
    refine lv_iconst (v := (1 : Int32)) hx hb dX9_goesOn_143 (by decide) ?_
    refine lv_goto (tgt := 148) hx hb dX9_goesOn_144 (by decide) ?_
    exact mretQZ hx hb hr hlk h (Or.inr rfl) hP hD hS dX9_goesOn_148
  · have h := it_n c10 h
    refine lv_iload_n hx hb dX9_goesOn_124 rfl (lv_at hl 3 rfl) ?_
    refine lv_bipush (v := (12 : Int32)) hx hb dX9_goesOn_125 (by decide) ?_
    refine lv_icmp_ge (tgt := 147) hx hb dX9_goesOn_127 (by decide) (fun c11 => ?_) (fun c11 => ?_)
    · have h := it_t c11 h
      refine lv_iconst (v := (0 : Int32)) hx hb dX9_goesOn_147 (by decide) ?_
      exact mretQZ hx hb hr hlk h (Or.inl rfl) hP hD hS dX9_goesOn_148
    · have h := it_f c11 h
      refine lv_aload_n hx hb dX9_goesOn_130 rfl (lv_at hl 1 rfl) ?_
      refine lv_iload_n hx hb dX9_goesOn_131 rfl (lv_at hl 2 rfl) ?_
      refine lv_iload_n hx hb dX9_goesOn_132 rfl (lv_at hl 3 rfl) ?_
      refine lv_iconst (v := (4 : Int32)) hx hb dX9_goesOn_133 (by decide) ?_
      refine lv_iadd hx hb dX9_goesOn_134 ?_
      refine lv_iload hx hb dX9_goesOn_135 (lv_at hl 4 rfl) ?_
      obtain ⟨⟨v12, σ13⟩, hc_v12, h⟩ := bd_some h
      refine mcallQZ (wf := (cW a cs sh LP Z)) (va_runS (As := [.ref (a 19), .int x1, .int (x2 + (4 : Int32)), .int x4]) (rest := []) ⟨hx, hb, hml, hown, hts⟩ (kX9_triesOn_19 l D cs a sh LP Z hZ σ d kg hg x1 (x2 + (4 : Int32)) x4 v12 σ13 hc_v12 _) (va_cwS 4 hts gX9_goesOn_X9_triesOn rfl rfl rfl (by decide +kernel) ⟨by show 2 * d + 1 + 1 ≤ 2 * (d + 1); omega, by show 8 + (4 + 11) + (8 + (7 + 11) + 60 * d) ≤ 60 * (d + 1); omega⟩) (pQ_s hP hK hD) rfl rfl hl.1 rfl (lv_room (Nat.le_of_ble_eq_true rfl)) dX9_goesOn_137 ⟨Nat.zero_le _, Nat.zero_le _⟩) hD hS hA (fun z_v12 H locs hP hD hS => ?_)
      refine lv_if_eq (tgt := 147) hx hb dX9_goesOn_140 (by decide) (fun c14 => ?_) (fun c14 => ?_)
      · have h := it_t c14 h
        refine lv_iconst (v := (0 : Int32)) hx hb dX9_goesOn_147 (by decide) ?_
        exact mretQZ hx hb hr hlk h (Or.inl rfl) hP hD hS dX9_goesOn_148
      · have h := it_f c14 h
        refine lv_iconst (v := (1 : Int32)) hx hb dX9_goesOn_143 (by decide) ?_
        refine lv_goto (tgt := 148) hx hb dX9_goesOn_144 (by decide) ?_
        exact mretQZ hx hb hr hlk h (Or.inr rfl) hP hD hS dX9_goesOn_148
set_option maxHeartbeats 4000000 in
set_option maxRecDepth 100000 in
theorem wX9_goesOn_19_J112 {p : Program} {l : Launch} {e : Env} {s : State} {m : MethodId} {args : Array Value} {below : List Frame} {meth : Method} {c : Code} (C : cxt p s m args meth c cX9_goesOn 7 RX9 wsX9_goesOn (some .boolean)) {D : va_G} {cs : Nat → ClassId} {a : Nat → Nat} {sh : Nat → Option Nat} {LP : List Nat} {Z : ZT} (hZ : shOK sh LP Z) (hK : KK D cs s) {A : Nat → Prop} (hA : ∀ q, s.heap.size ≤ q → A q) {d : Nat} {kg : (Nat → Nat → Int32) → Int32 → Int32 → Int32 → Option (Int32 × (Nat → Nat → Int32))} (hg : ∀ (σ : Nat → Nat → Int32) (x1 x2 x3 : Int32) (r : Int32) (u9 : Nat → Nat → Int32), kg σ x1 x2 x3 = some (r, u9) → ∀ sz : Nat, Met l yX9_goesOn wsX9_goesOn (rmG d) (va_Pc [.ref (a 19), .int x1, .int x2, .int x3] (pQ D cs (cW a cs sh LP Z σ) sz)) (va_Qi (fun x y => (x = r ∧ (r = 0 ∨ r = 1)) ∧ y = u9) (qB D (cW a cs sh LP Z) (va_A (cW a cs sh LP Z σ) sz)) (va_A (cW a cs sh LP Z σ) sz)) 0 0 (va_A (cW a cs sh LP Z σ) sz)) (r : Int32) (u9 : Nat → Nat → Int32) (x1 : Int32) (x2 : Int32) (x4 : Int32) (σ : Nat → Nat → Int32) (H : Heap) (locs : List Loc) (ls : Array Slot) (hP : va_P D vwCl (cW a cs sh LP Z σ) H) (hD : va_D A (cW a cs sh LP Z σ)) (hS : va_S A s.heap H locs) (hl : lv_has ls 7 [(0, .ref (a 19)), (1, .int x1), (2, .int x2), (4, .int x4)]) (h : fX9_goesOn_J112 19 kg sh Z x1 x2 x4 σ = some (r, u9)) : W p l e (rmG (d + 1)) s m args below meth c H locs 0 0 (MQ below (va_Qi (fun x y => (x = r ∧ (r = 0 ∨ r = 1)) ∧ y = u9) (qB D (cW a cs sh LP Z) A) A) args s 0 0 A) (F0 m 112 ls []) := by
  obtain ⟨hx, hb, hml, hown, hts, hr, hlk⟩ := id C
  unfold fX9_goesOn_J112 at h
  refine lv_iconst (v := (1 : Int32)) hx hb dX9_goesOn_112 (by decide) ?_
  refine lv_goto (tgt := 117) hx hb dX9_goesOn_113 (by decide) ?_
  exact wX9_goesOn_19_J117 C hZ hK hA hg r u9 x1 x2 x4 (1 : Int32) σ _ _ ls hP hD hS (lv_sub hl [0, 1, 2, 3] rfl) h
set_option maxHeartbeats 4000000 in
set_option maxRecDepth 100000 in
theorem wX9_goesOn_19_J116 {p : Program} {l : Launch} {e : Env} {s : State} {m : MethodId} {args : Array Value} {below : List Frame} {meth : Method} {c : Code} (C : cxt p s m args meth c cX9_goesOn 7 RX9 wsX9_goesOn (some .boolean)) {D : va_G} {cs : Nat → ClassId} {a : Nat → Nat} {sh : Nat → Option Nat} {LP : List Nat} {Z : ZT} (hZ : shOK sh LP Z) (hK : KK D cs s) {A : Nat → Prop} (hA : ∀ q, s.heap.size ≤ q → A q) {d : Nat} {kg : (Nat → Nat → Int32) → Int32 → Int32 → Int32 → Option (Int32 × (Nat → Nat → Int32))} (hg : ∀ (σ : Nat → Nat → Int32) (x1 x2 x3 : Int32) (r : Int32) (u9 : Nat → Nat → Int32), kg σ x1 x2 x3 = some (r, u9) → ∀ sz : Nat, Met l yX9_goesOn wsX9_goesOn (rmG d) (va_Pc [.ref (a 19), .int x1, .int x2, .int x3] (pQ D cs (cW a cs sh LP Z σ) sz)) (va_Qi (fun x y => (x = r ∧ (r = 0 ∨ r = 1)) ∧ y = u9) (qB D (cW a cs sh LP Z) (va_A (cW a cs sh LP Z σ) sz)) (va_A (cW a cs sh LP Z σ) sz)) 0 0 (va_A (cW a cs sh LP Z σ) sz)) (r : Int32) (u9 : Nat → Nat → Int32) (x1 : Int32) (x2 : Int32) (x4 : Int32) (σ : Nat → Nat → Int32) (H : Heap) (locs : List Loc) (ls : Array Slot) (hP : va_P D vwCl (cW a cs sh LP Z σ) H) (hD : va_D A (cW a cs sh LP Z σ)) (hS : va_S A s.heap H locs) (hl : lv_has ls 7 [(0, .ref (a 19)), (1, .int x1), (2, .int x2), (4, .int x4)]) (h : fX9_goesOn_J116 19 kg sh Z x1 x2 x4 σ = some (r, u9)) : W p l e (rmG (d + 1)) s m args below meth c H locs 0 0 (MQ below (va_Qi (fun x y => (x = r ∧ (r = 0 ∨ r = 1)) ∧ y = u9) (qB D (cW a cs sh LP Z) A) A) args s 0 0 A) (F0 m 116 ls []) := by
  obtain ⟨hx, hb, hml, hown, hts, hr, hlk⟩ := id C
  unfold fX9_goesOn_J116 at h
  refine lv_iconst (v := (0 : Int32)) hx hb dX9_goesOn_116 (by decide) ?_
  exact wX9_goesOn_19_J117 C hZ hK hA hg r u9 x1 x2 x4 (0 : Int32) σ _ _ ls hP hD hS (lv_sub hl [0, 1, 2, 3] rfl) h
set_option maxHeartbeats 4000000 in
set_option maxRecDepth 100000 in
theorem wX9_goesOn_19_J86 {p : Program} {l : Launch} {e : Env} {s : State} {m : MethodId} {args : Array Value} {below : List Frame} {meth : Method} {c : Code} (C : cxt p s m args meth c cX9_goesOn 7 RX9 wsX9_goesOn (some .boolean)) {D : va_G} {cs : Nat → ClassId} {a : Nat → Nat} {sh : Nat → Option Nat} {LP : List Nat} {Z : ZT} (hZ : shOK sh LP Z) (hK : KK D cs s) {A : Nat → Prop} (hA : ∀ q, s.heap.size ≤ q → A q) {d : Nat} {kg : (Nat → Nat → Int32) → Int32 → Int32 → Int32 → Option (Int32 × (Nat → Nat → Int32))} (hg : ∀ (σ : Nat → Nat → Int32) (x1 x2 x3 : Int32) (r : Int32) (u9 : Nat → Nat → Int32), kg σ x1 x2 x3 = some (r, u9) → ∀ sz : Nat, Met l yX9_goesOn wsX9_goesOn (rmG d) (va_Pc [.ref (a 19), .int x1, .int x2, .int x3] (pQ D cs (cW a cs sh LP Z σ) sz)) (va_Qi (fun x y => (x = r ∧ (r = 0 ∨ r = 1)) ∧ y = u9) (qB D (cW a cs sh LP Z) (va_A (cW a cs sh LP Z σ) sz)) (va_A (cW a cs sh LP Z σ) sz)) 0 0 (va_A (cW a cs sh LP Z σ) sz)) (r : Int32) (u9 : Nat → Nat → Int32) (x1 : Int32) (x2 : Int32) (x4 : Int32) (x5 : Int32) (t0 : Int32) (σ : Nat → Nat → Int32) (H : Heap) (locs : List Loc) (ls : Array Slot) (hP : va_P D vwCl (cW a cs sh LP Z σ) H) (hD : va_D A (cW a cs sh LP Z σ)) (hS : va_S A s.heap H locs) (hl : lv_has ls 7 [(0, .ref (a 19)), (1, .int x1), (2, .int x2), (4, .int x4), (5, .int x5)]) (h : fX9_goesOn_J86 19 kg sh Z x1 x2 x4 x5 t0 σ = some (r, u9)) : W p l e (rmG (d + 1)) s m args below meth c H locs 0 0 (MQ below (va_Qi (fun x y => (x = r ∧ (r = 0 ∨ r = 1)) ∧ y = u9) (qB D (cW a cs sh LP Z) A) A) args s 0 0 A) (F0 m 86 ls [.int t0]) := by
  obtain ⟨hx, hb, hml, hown, hts, hr, hlk⟩ := id C
  unfold fX9_goesOn_J86 at h
  refine lv_istore (lv' := [(6, .int t0), (0, .ref (a 19)), (1, .int x1), (2, .int x2), (4, .int x4), (5, .int x5)]) hx hb dX9_goesOn_86 hl (by decide) rfl (fun ls hl => ?_)
  refine lv_iload hx hb dX9_goesOn_88 (lv_at hl 0 rfl) ?_
  refine lv_if_ne (tgt := 112) hx hb dX9_goesOn_90 (by decide) (fun c9 => ?_) (fun c9 => ?_)
  · have h := it_t c9 h
    exact wX9_goesOn_19_J112 C hZ hK hA hg r u9 x1 x2 x4 σ _ _ ls hP hD hS (lv_sub hl [1, 2, 3, 4] rfl) h
  · have h := it_n c9 h
    refine lv_iload hx hb dX9_goesOn_93 (lv_at hl 5 rfl) ?_
    refine lv_iconst (v := (3 : Int32)) hx hb dX9_goesOn_95 (by decide) ?_
    refine lv_icmp_ge (tgt := 116) hx hb dX9_goesOn_96 (by decide) (fun c10 => ?_) (fun c10 => ?_)
    · have h := it_t c10 h
      exact wX9_goesOn_19_J116 C hZ hK hA hg r u9 x1 x2 x4 σ _ _ ls hP hD hS (lv_sub hl [1, 2, 3, 4] rfl) h
    · have h := it_f c10 h
      refine lv_aload_n hx hb dX9_goesOn_99 rfl (lv_at hl 1 rfl) ?_
      refine lv_iload_n hx hb dX9_goesOn_100 rfl (lv_at hl 2 rfl) ?_
      refine lv_iload_n hx hb dX9_goesOn_101 rfl (lv_at hl 3 rfl) ?_
      refine lv_iconst (v := (1 : Int32)) hx hb dX9_goesOn_102 (by decide) ?_
      refine lv_iadd hx hb dX9_goesOn_103 ?_
      refine lv_iload hx hb dX9_goesOn_104 (lv_at hl 4 rfl) ?_
      obtain ⟨⟨v11, σ12⟩, hc_v11, h⟩ := bd_some h
      refine mcallQZ (wf := (cW a cs sh LP Z)) (va_runS (As := [.ref (a 19), .int x1, .int (x2 + (1 : Int32)), .int x4]) (rest := []) ⟨hx, hb, hml, hown, hts⟩ (kX9_triesOn_19 l D cs a sh LP Z hZ σ d kg hg x1 (x2 + (1 : Int32)) x4 v11 σ12 hc_v11 _) (va_cwS 4 hts gX9_goesOn_X9_triesOn rfl rfl rfl (by decide +kernel) ⟨by show 2 * d + 1 + 1 ≤ 2 * (d + 1); omega, by show 8 + (4 + 11) + (8 + (7 + 11) + 60 * d) ≤ 60 * (d + 1); omega⟩) (pQ_s hP hK hD) rfl rfl hl.1 rfl (lv_room (Nat.le_of_ble_eq_true rfl)) dX9_goesOn_106 ⟨Nat.zero_le _, Nat.zero_le _⟩) hD hS hA (fun z_v11 H locs hP hD hS => ?_)
      refine lv_if_eq (tgt := 116) hx hb dX9_goesOn_109 (by decide) (fun c13 => ?_) (fun c13 => ?_)
      · have h := it_t c13 h
        exact wX9_goesOn_19_J116 C hZ hK hA hg r u9 x1 x2 x4 σ12 _ _ ls hP hD hS (lv_sub hl [1, 2, 3, 4] rfl) h
      · have h := it_f c13 h
        exact wX9_goesOn_19_J112 C hZ hK hA hg r u9 x1 x2 x4 σ12 _ _ ls hP hD hS (lv_sub hl [1, 2, 3, 4] rfl) h
set_option maxHeartbeats 4000000 in
set_option maxRecDepth 100000 in
theorem wX9_goesOn_19_J81 {p : Program} {l : Launch} {e : Env} {s : State} {m : MethodId} {args : Array Value} {below : List Frame} {meth : Method} {c : Code} (C : cxt p s m args meth c cX9_goesOn 7 RX9 wsX9_goesOn (some .boolean)) {D : va_G} {cs : Nat → ClassId} {a : Nat → Nat} {sh : Nat → Option Nat} {LP : List Nat} {Z : ZT} (hZ : shOK sh LP Z) (hK : KK D cs s) {A : Nat → Prop} (hA : ∀ q, s.heap.size ≤ q → A q) {d : Nat} {kg : (Nat → Nat → Int32) → Int32 → Int32 → Int32 → Option (Int32 × (Nat → Nat → Int32))} (hg : ∀ (σ : Nat → Nat → Int32) (x1 x2 x3 : Int32) (r : Int32) (u9 : Nat → Nat → Int32), kg σ x1 x2 x3 = some (r, u9) → ∀ sz : Nat, Met l yX9_goesOn wsX9_goesOn (rmG d) (va_Pc [.ref (a 19), .int x1, .int x2, .int x3] (pQ D cs (cW a cs sh LP Z σ) sz)) (va_Qi (fun x y => (x = r ∧ (r = 0 ∨ r = 1)) ∧ y = u9) (qB D (cW a cs sh LP Z) (va_A (cW a cs sh LP Z σ) sz)) (va_A (cW a cs sh LP Z σ) sz)) 0 0 (va_A (cW a cs sh LP Z σ) sz)) (r : Int32) (u9 : Nat → Nat → Int32) (x1 : Int32) (x2 : Int32) (x4 : Int32) (x5 : Int32) (σ : Nat → Nat → Int32) (H : Heap) (locs : List Loc) (ls : Array Slot) (hP : va_P D vwCl (cW a cs sh LP Z σ) H) (hD : va_D A (cW a cs sh LP Z σ)) (hS : va_S A s.heap H locs) (hl : lv_has ls 7 [(0, .ref (a 19)), (1, .int x1), (2, .int x2), (4, .int x4), (5, .int x5)]) (h : fX9_goesOn_J81 19 kg sh Z x1 x2 x4 x5 σ = some (r, u9)) : W p l e (rmG (d + 1)) s m args below meth c H locs 0 0 (MQ below (va_Qi (fun x y => (x = r ∧ (r = 0 ∨ r = 1)) ∧ y = u9) (qB D (cW a cs sh LP Z) A) A) args s 0 0 A) (F0 m 81 ls []) := by
  obtain ⟨hx, hb, hml, hown, hts, hr, hlk⟩ := id C
  unfold fX9_goesOn_J81 at h
  refine lv_iconst (v := (1 : Int32)) hx hb dX9_goesOn_81 (by decide) ?_
  refine lv_goto (tgt := 86) hx hb dX9_goesOn_82 (by decide) ?_
  exact wX9_goesOn_19_J86 C hZ hK hA hg r u9 x1 x2 x4 x5 (1 : Int32) σ _ _ ls hP hD hS (lv_sub hl [0, 1, 2, 3, 4] rfl) h
set_option maxHeartbeats 4000000 in
set_option maxRecDepth 100000 in
theorem wX9_goesOn_19_J85 {p : Program} {l : Launch} {e : Env} {s : State} {m : MethodId} {args : Array Value} {below : List Frame} {meth : Method} {c : Code} (C : cxt p s m args meth c cX9_goesOn 7 RX9 wsX9_goesOn (some .boolean)) {D : va_G} {cs : Nat → ClassId} {a : Nat → Nat} {sh : Nat → Option Nat} {LP : List Nat} {Z : ZT} (hZ : shOK sh LP Z) (hK : KK D cs s) {A : Nat → Prop} (hA : ∀ q, s.heap.size ≤ q → A q) {d : Nat} {kg : (Nat → Nat → Int32) → Int32 → Int32 → Int32 → Option (Int32 × (Nat → Nat → Int32))} (hg : ∀ (σ : Nat → Nat → Int32) (x1 x2 x3 : Int32) (r : Int32) (u9 : Nat → Nat → Int32), kg σ x1 x2 x3 = some (r, u9) → ∀ sz : Nat, Met l yX9_goesOn wsX9_goesOn (rmG d) (va_Pc [.ref (a 19), .int x1, .int x2, .int x3] (pQ D cs (cW a cs sh LP Z σ) sz)) (va_Qi (fun x y => (x = r ∧ (r = 0 ∨ r = 1)) ∧ y = u9) (qB D (cW a cs sh LP Z) (va_A (cW a cs sh LP Z σ) sz)) (va_A (cW a cs sh LP Z σ) sz)) 0 0 (va_A (cW a cs sh LP Z σ) sz)) (r : Int32) (u9 : Nat → Nat → Int32) (x1 : Int32) (x2 : Int32) (x4 : Int32) (x5 : Int32) (σ : Nat → Nat → Int32) (H : Heap) (locs : List Loc) (ls : Array Slot) (hP : va_P D vwCl (cW a cs sh LP Z σ) H) (hD : va_D A (cW a cs sh LP Z σ)) (hS : va_S A s.heap H locs) (hl : lv_has ls 7 [(0, .ref (a 19)), (1, .int x1), (2, .int x2), (4, .int x4), (5, .int x5)]) (h : fX9_goesOn_J85 19 kg sh Z x1 x2 x4 x5 σ = some (r, u9)) : W p l e (rmG (d + 1)) s m args below meth c H locs 0 0 (MQ below (va_Qi (fun x y => (x = r ∧ (r = 0 ∨ r = 1)) ∧ y = u9) (qB D (cW a cs sh LP Z) A) A) args s 0 0 A) (F0 m 85 ls []) := by
  obtain ⟨hx, hb, hml, hown, hts, hr, hlk⟩ := id C
  unfold fX9_goesOn_J85 at h
  refine lv_iconst (v := (0 : Int32)) hx hb dX9_goesOn_85 (by decide) ?_
  exact wX9_goesOn_19_J86 C hZ hK hA hg r u9 x1 x2 x4 x5 (0 : Int32) σ _ _ ls hP hD hS (lv_sub hl [0, 1, 2, 3, 4] rfl) h
set_option maxHeartbeats 4000000 in
set_option maxRecDepth 100000 in
theorem wX9_goesOn_19_J56 {p : Program} {l : Launch} {e : Env} {s : State} {m : MethodId} {args : Array Value} {below : List Frame} {meth : Method} {c : Code} (C : cxt p s m args meth c cX9_goesOn 7 RX9 wsX9_goesOn (some .boolean)) {D : va_G} {cs : Nat → ClassId} {a : Nat → Nat} {sh : Nat → Option Nat} {LP : List Nat} {Z : ZT} (hZ : shOK sh LP Z) (hK : KK D cs s) {A : Nat → Prop} (hA : ∀ q, s.heap.size ≤ q → A q) {d : Nat} {kg : (Nat → Nat → Int32) → Int32 → Int32 → Int32 → Option (Int32 × (Nat → Nat → Int32))} (hg : ∀ (σ : Nat → Nat → Int32) (x1 x2 x3 : Int32) (r : Int32) (u9 : Nat → Nat → Int32), kg σ x1 x2 x3 = some (r, u9) → ∀ sz : Nat, Met l yX9_goesOn wsX9_goesOn (rmG d) (va_Pc [.ref (a 19), .int x1, .int x2, .int x3] (pQ D cs (cW a cs sh LP Z σ) sz)) (va_Qi (fun x y => (x = r ∧ (r = 0 ∨ r = 1)) ∧ y = u9) (qB D (cW a cs sh LP Z) (va_A (cW a cs sh LP Z σ) sz)) (va_A (cW a cs sh LP Z σ) sz)) 0 0 (va_A (cW a cs sh LP Z σ) sz)) (r : Int32) (u9 : Nat → Nat → Int32) (x1 : Int32) (x2 : Int32) (x4 : Int32) (x5 : Int32) (t0 : Int32) (σ : Nat → Nat → Int32) (H : Heap) (locs : List Loc) (ls : Array Slot) (hP : va_P D vwCl (cW a cs sh LP Z σ) H) (hD : va_D A (cW a cs sh LP Z σ)) (hS : va_S A s.heap H locs) (hl : lv_has ls 7 [(0, .ref (a 19)), (1, .int x1), (2, .int x2), (4, .int x4), (5, .int x5)]) (h : fX9_goesOn_J56 19 kg sh Z x1 x2 x4 x5 t0 σ = some (r, u9)) : W p l e (rmG (d + 1)) s m args below meth c H locs 0 0 (MQ below (va_Qi (fun x y => (x = r ∧ (r = 0 ∨ r = 1)) ∧ y = u9) (qB D (cW a cs sh LP Z) A) A) args s 0 0 A) (F0 m 56 ls [.int t0]) := by
  obtain ⟨hx, hb, hml, hown, hts, hr, hlk⟩ := id C
  unfold fX9_goesOn_J56 at h
  refine lv_istore (lv' := [(6, .int t0), (0, .ref (a 19)), (1, .int x1), (2, .int x2), (4, .int x4), (5, .int x5)]) hx hb dX9_goesOn_56 hl (by decide) rfl (fun ls hl => ?_)
  refine lv_iload hx hb dX9_goesOn_58 (lv_at hl 0 rfl) ?_
  refine lv_if_ne (tgt := 81) hx hb dX9_goesOn_60 (by decide) (fun c8 => ?_) (fun c8 => ?_)
  · have h := it_t c8 h
    exact wX9_goesOn_19_J81 C hZ hK hA hg r u9 x1 x2 x4 x5 σ _ _ ls hP hD hS (lv_sub hl [1, 2, 3, 4, 5] rfl) h
  · have h := it_n c8 h
    refine lv_iload hx hb dX9_goesOn_63 (lv_at hl 5 rfl) ?_
    refine lv_if_le (tgt := 85) hx hb dX9_goesOn_65 (by decide) (fun c9 => ?_) (fun c9 => ?_)
    · have h := it_t c9 h
      exact wX9_goesOn_19_J85 C hZ hK hA hg r u9 x1 x2 x4 x5 σ _ _ ls hP hD hS (lv_sub hl [1, 2, 3, 4, 5] rfl) h
    · have h := it_f c9 h
      refine lv_aload_n hx hb dX9_goesOn_68 rfl (lv_at hl 1 rfl) ?_
      refine lv_iload_n hx hb dX9_goesOn_69 rfl (lv_at hl 2 rfl) ?_
      refine lv_iload_n hx hb dX9_goesOn_70 rfl (lv_at hl 3 rfl) ?_
      refine lv_iconst (v := (1 : Int32)) hx hb dX9_goesOn_71 (by decide) ?_
      refine lv_isub hx hb dX9_goesOn_72 ?_
      refine lv_iload hx hb dX9_goesOn_73 (lv_at hl 4 rfl) ?_
      obtain ⟨⟨v10, σ11⟩, hc_v10, h⟩ := bd_some h
      refine mcallQZ (wf := (cW a cs sh LP Z)) (va_runS (As := [.ref (a 19), .int x1, .int (x2 - (1 : Int32)), .int x4]) (rest := []) ⟨hx, hb, hml, hown, hts⟩ (kX9_triesOn_19 l D cs a sh LP Z hZ σ d kg hg x1 (x2 - (1 : Int32)) x4 v10 σ11 hc_v10 _) (va_cwS 4 hts gX9_goesOn_X9_triesOn rfl rfl rfl (by decide +kernel) ⟨by show 2 * d + 1 + 1 ≤ 2 * (d + 1); omega, by show 8 + (4 + 11) + (8 + (7 + 11) + 60 * d) ≤ 60 * (d + 1); omega⟩) (pQ_s hP hK hD) rfl rfl hl.1 rfl (lv_room (Nat.le_of_ble_eq_true rfl)) dX9_goesOn_75 ⟨Nat.zero_le _, Nat.zero_le _⟩) hD hS hA (fun z_v10 H locs hP hD hS => ?_)
      refine lv_if_eq (tgt := 85) hx hb dX9_goesOn_78 (by decide) (fun c12 => ?_) (fun c12 => ?_)
      · have h := it_t c12 h
        exact wX9_goesOn_19_J85 C hZ hK hA hg r u9 x1 x2 x4 x5 σ11 _ _ ls hP hD hS (lv_sub hl [1, 2, 3, 4, 5] rfl) h
      · have h := it_f c12 h
        exact wX9_goesOn_19_J81 C hZ hK hA hg r u9 x1 x2 x4 x5 σ11 _ _ ls hP hD hS (lv_sub hl [1, 2, 3, 4, 5] rfl) h
set_option maxHeartbeats 4000000 in
set_option maxRecDepth 100000 in
theorem wX9_goesOn_19_J55 {p : Program} {l : Launch} {e : Env} {s : State} {m : MethodId} {args : Array Value} {below : List Frame} {meth : Method} {c : Code} (C : cxt p s m args meth c cX9_goesOn 7 RX9 wsX9_goesOn (some .boolean)) {D : va_G} {cs : Nat → ClassId} {a : Nat → Nat} {sh : Nat → Option Nat} {LP : List Nat} {Z : ZT} (hZ : shOK sh LP Z) (hK : KK D cs s) {A : Nat → Prop} (hA : ∀ q, s.heap.size ≤ q → A q) {d : Nat} {kg : (Nat → Nat → Int32) → Int32 → Int32 → Int32 → Option (Int32 × (Nat → Nat → Int32))} (hg : ∀ (σ : Nat → Nat → Int32) (x1 x2 x3 : Int32) (r : Int32) (u9 : Nat → Nat → Int32), kg σ x1 x2 x3 = some (r, u9) → ∀ sz : Nat, Met l yX9_goesOn wsX9_goesOn (rmG d) (va_Pc [.ref (a 19), .int x1, .int x2, .int x3] (pQ D cs (cW a cs sh LP Z σ) sz)) (va_Qi (fun x y => (x = r ∧ (r = 0 ∨ r = 1)) ∧ y = u9) (qB D (cW a cs sh LP Z) (va_A (cW a cs sh LP Z σ) sz)) (va_A (cW a cs sh LP Z σ) sz)) 0 0 (va_A (cW a cs sh LP Z σ) sz)) (r : Int32) (u9 : Nat → Nat → Int32) (x1 : Int32) (x2 : Int32) (x4 : Int32) (x5 : Int32) (σ : Nat → Nat → Int32) (H : Heap) (locs : List Loc) (ls : Array Slot) (hP : va_P D vwCl (cW a cs sh LP Z σ) H) (hD : va_D A (cW a cs sh LP Z σ)) (hS : va_S A s.heap H locs) (hl : lv_has ls 7 [(0, .ref (a 19)), (1, .int x1), (2, .int x2), (4, .int x4), (5, .int x5)]) (h : fX9_goesOn_J55 19 kg sh Z x1 x2 x4 x5 σ = some (r, u9)) : W p l e (rmG (d + 1)) s m args below meth c H locs 0 0 (MQ below (va_Qi (fun x y => (x = r ∧ (r = 0 ∨ r = 1)) ∧ y = u9) (qB D (cW a cs sh LP Z) A) A) args s 0 0 A) (F0 m 55 ls []) := by
  obtain ⟨hx, hb, hml, hown, hts, hr, hlk⟩ := id C
  unfold fX9_goesOn_J55 at h
  refine lv_iconst (v := (0 : Int32)) hx hb dX9_goesOn_55 (by decide) ?_
  exact wX9_goesOn_19_J56 C hZ hK hA hg r u9 x1 x2 x4 x5 (0 : Int32) σ _ _ ls hP hD hS (lv_sub hl [0, 1, 2, 3, 4] rfl) h
set_option maxHeartbeats 4000000 in
set_option maxRecDepth 100000 in
theorem kX9_goesOn_19 (l : Launch) (D : va_G) (cs : Nat → ClassId) (a : Nat → Nat) (sh : Nat → Option Nat) (LP : List Nat) (Z : ZT) (hZ : shOK sh LP Z) (σ : Nat → Nat → Int32) (d : Nat) (x1 : Int32) (x2 : Int32) (x3 : Int32) (r : Int32) (u9 : Nat → Nat → Int32) (h : fX9_goesOn 19 d sh Z σ x1 x2 x3 = some (r, u9)) (sz : Nat) : Met l yX9_goesOn wsX9_goesOn (rmG d) (va_Pc [.ref (a 19), .int x1, .int x2, .int x3] (pQ D cs (cW a cs sh LP Z σ) sz)) (va_Qi (fun x y => (x = r ∧ (r = 0 ∨ r = 1)) ∧ y = u9) (qB D (cW a cs sh LP Z) (va_A (cW a cs sh LP Z σ) sz)) (va_A (cW a cs sh LP Z σ) sz)) 0 0 (va_A (cW a cs sh LP Z σ) sz) := by
  induction d generalizing σ x1 x2 x3 r u9 sz with
  | zero => cases h
  | succ d ih =>
    refine Met.ofW (cc := cX9_goesOn) (maxL := 7) (ret := (some .boolean)) (by decide) rfl ?_
    intro p e s m args below meth c s₁ B hml hv
    obtain ⟨rfl, hsz, hP, hK, hD0⟩ := hv
    have C : cxt p s m _ meth c cX9_goesOn 7 RX9 wsX9_goesOn (some .boolean) := ⟨B.exec, B.bytes, hml, findClass_of_methodNamed B.named, atoms_spec (ws := wsX9_goesOn) B.pre, B.returns, B.notSynchronized⟩
    obtain ⟨hx, hb, -, hown, hts, hr, hlk⟩ := id C
    subst hsz
    have hD := hD0.self (sz := s.heap.size)
    generalize hAe : va_A (cW a cs sh LP Z σ) s.heap.size = A at hD ⊢
    have hA : ∀ q : Nat, s.heap.size ≤ q → A q := fun q h => by rw [← hAe]; exact Or.inr h
    have hS : va_S A s.heap s.heap [] := va_S.rf
    refine entryW [.ref (a 19), .int x1, .int x2, .int x3] (n := 7) (Nat.le_of_ble_eq_true rfl) (fun ls hl => ?_)
    have hl : lv_has ls 7 [(0, .ref (a 19)), (1, .int x1), (2, .int x2), (3, .int x3)] := hl
    rw [fX9_goesOn] at h
    obtain ⟨kg, hg, h⟩ := nb_some (P := fun (kg : (Nat → Nat → Int32) → Int32 → Int32 → Int32 → Option (Int32 × (Nat → Nat → Int32))) => ∀ (σ : Nat → Nat → Int32) (x1 x2 x3 : Int32) (r : Int32) (u9 : Nat → Nat → Int32), kg σ x1 x2 x3 = some (r, u9) → ∀ sz : Nat, Met l yX9_goesOn wsX9_goesOn (rmG d) (va_Pc [.ref (a 19), .int x1, .int x2, .int x3] (pQ D cs (cW a cs sh LP Z σ) sz)) (va_Qi (fun x y => (x = r ∧ (r = 0 ∨ r = 1)) ∧ y = u9) (qB D (cW a cs sh LP Z) (va_A (cW a cs sh LP Z σ) sz)) (va_A (cW a cs sh LP Z σ) sz)) 0 0 (va_A (cW a cs sh LP Z σ) sz)) h ih
    refine lv_iload_n hx hb dX9_goesOn_0 rfl (lv_at hl 1 rfl) ?_
    refine lv_bipush (v := (16 : Int32)) hx hb dX9_goesOn_1 (by decide) ?_
    refine lv_icmp_lt (tgt := 8) hx hb dX9_goesOn_3 (by decide) (fun c1 => ?_) (fun c1 => ?_)
    · have h := it_t c1 h
      refine lv_aload_n hx hb dX9_goesOn_8 rfl (lv_at hl 0 rfl) ?_
      refine lv_iload_n hx hb dX9_goesOn_9 rfl (lv_at hl 1 rfl) ?_
      refine lv_iload_n hx hb dX9_goesOn_10 rfl (lv_at hl 2 rfl) ?_
      obtain ⟨i2, h⟩ := aS_some h
      refine va_iast hx hb hK.1 hP hD hS 19 0 rfl rfl i2 dX9_goesOn_11 (fun H locs hP hD hS => ?_)
      obtain ⟨σ3, e_σ3, h⟩ := nm_some h
      have hP : va_P D vwCl (cW a cs sh LP Z σ3) H := by rw [← e_σ3]; exact hP
      have hD : va_D A (cW a cs sh LP Z σ3) := by rw [← e_σ3]; exact hD
      refine lv_iload_n hx hb dX9_goesOn_12 rfl (lv_at hl 3 rfl) ?_
      refine lv_iconst (v := (1 : Int32)) hx hb dX9_goesOn_13 (by decide) ?_
      refine lv_iload_n hx hb dX9_goesOn_14 rfl (lv_at hl 2 rfl) ?_
      refine lv_ishl hx hb dX9_goesOn_15 ?_
      refine lv_iconst (v := ((-1) : Int32)) hx hb dX9_goesOn_16 (by decide) ?_
      refine lv_ixor hx hb dX9_goesOn_17 ?_
      refine lv_iand hx hb dX9_goesOn_18 ?_
      obtain ⟨z4, e_z4, h⟩ := nm_some h
      refine tpi e_z4 ?_
      refine lv_istore (lv' := [(4, .int z4), (0, .ref (a 19)), (1, .int x1), (2, .int x2), (3, .int x3)]) hx hb dX9_goesOn_19 hl (by decide) rfl (fun ls hl => ?_)
      refine lv_iload hx hb dX9_goesOn_21 (lv_at hl 0 rfl) ?_
      refine lv_if_ne (tgt := 28) hx hb dX9_goesOn_23 (by decide) (fun c5 => ?_) (fun c5 => ?_)
      · have h := it_t c5 h
        refine lv_iload_n hx hb dX9_goesOn_28 rfl (lv_at hl 3 rfl) ?_
        refine lv_iconst (v := (4 : Int32)) hx hb dX9_goesOn_29 (by decide) ?_
        refine lv_irem hx hb dX9_goesOn_30 (by decide) ?_
        obtain ⟨z6, e_z6, h⟩ := nm_some h
        refine tpi e_z6 ?_
        refine lv_istore (lv' := [(5, .int z6), (4, .int z4), (0, .ref (a 19)), (1, .int x1), (2, .int x2), (3, .int x3)]) hx hb dX9_goesOn_31 hl (by decide) rfl (fun ls hl => ?_)
        refine lv_iload_n hx hb dX9_goesOn_33 rfl (lv_at hl 4 rfl) ?_
        refine lv_iconst (v := (4 : Int32)) hx hb dX9_goesOn_34 (by decide) ?_
        refine lv_icmp_lt (tgt := 55) hx hb dX9_goesOn_35 (by decide) (fun c7 => ?_) (fun c7 => ?_)
        · have h := it_t c7 h
          exact wX9_goesOn_19_J55 C hZ hK hA hg r u9 x1 x2 z4 z6 σ3 _ _ ls hP hD hS (lv_sub hl [2, 3, 4, 1, 0] rfl) h
        · have h := it_f c7 h
          refine lv_aload_n hx hb dX9_goesOn_38 rfl (lv_at hl 2 rfl) ?_
          refine lv_iload_n hx hb dX9_goesOn_39 rfl (lv_at hl 3 rfl) ?_
          refine lv_iload_n hx hb dX9_goesOn_40 rfl (lv_at hl 4 rfl) ?_
          refine lv_iconst (v := (4 : Int32)) hx hb dX9_goesOn_41 (by decide) ?_
          refine lv_isub hx hb dX9_goesOn_42 ?_
          refine lv_iload hx hb dX9_goesOn_43 (lv_at hl 1 rfl) ?_
          obtain ⟨⟨v8, σ9⟩, hc_v8, h⟩ := bd_some h
          refine mcallQZ (wf := (cW a cs sh LP Z)) (va_runS (As := [.ref (a 19), .int x1, .int (x2 - (4 : Int32)), .int z4]) (rest := []) ⟨hx, hb, hml, hown, hts⟩ (kX9_triesOn_19 l D cs a sh LP Z hZ σ3 d kg hg x1 (x2 - (4 : Int32)) z4 v8 σ9 hc_v8 _) (va_cwS 4 hts gX9_goesOn_X9_triesOn rfl rfl rfl (by decide +kernel) ⟨by show 2 * d + 1 + 1 ≤ 2 * (d + 1); omega, by show 8 + (4 + 11) + (8 + (7 + 11) + 60 * d) ≤ 60 * (d + 1); omega⟩) (pQ_s hP hK hD) rfl rfl hl.1 rfl (lv_room (Nat.le_of_ble_eq_true rfl)) dX9_goesOn_45 ⟨Nat.zero_le _, Nat.zero_le _⟩) hD hS hA (fun z_v8 H locs hP hD hS => ?_)
          refine lv_if_eq (tgt := 55) hx hb dX9_goesOn_48 (by decide) (fun c10 => ?_) (fun c10 => ?_)
          · have h := it_t c10 h
            exact wX9_goesOn_19_J55 C hZ hK hA hg r u9 x1 x2 z4 z6 σ9 _ _ ls hP hD hS (lv_sub hl [2, 3, 4, 1, 0] rfl) h
          · have h := it_f c10 h
            refine lv_iconst (v := (1 : Int32)) hx hb dX9_goesOn_51 (by decide) ?_
            refine lv_goto (tgt := 56) hx hb dX9_goesOn_52 (by decide) ?_
            exact wX9_goesOn_19_J56 C hZ hK hA hg r u9 x1 x2 z4 z6 (1 : Int32) σ9 _ _ ls hP hD hS (lv_sub hl [2, 3, 4, 1, 0] rfl) h
      · have h := it_n c5 h
        refine lv_iconst (v := (1 : Int32)) hx hb dX9_goesOn_26 (by decide) ?_
        exact mretQZ hx hb hr hlk h (Or.inr rfl) hP hD hS dX9_goesOn_27
    · have h := it_f c1 h
      refine lv_iconst (v := (0 : Int32)) hx hb dX9_goesOn_6 (by decide) ?_
      exact mretQZ hx hb hr hlk h (Or.inl rfl) hP hD hS dX9_goesOn_7
set_option maxHeartbeats 4000000 in
set_option maxRecDepth 100000 in
theorem kX9_triesOn_20 (l : Launch) (D : va_G) (cs : Nat → ClassId) (a : Nat → Nat) (sh : Nat → Option Nat) (LP : List Nat) (Z : ZT) (hZ : shOK sh LP Z) (σ : Nat → Nat → Int32) (d : Nat) (kg : (Nat → Nat → Int32) → Int32 → Int32 → Int32 → Option (Int32 × (Nat → Nat → Int32))) (hg : ∀ (σ : Nat → Nat → Int32) (x1 x2 x3 : Int32) (r : Int32) (u9 : Nat → Nat → Int32), kg σ x1 x2 x3 = some (r, u9) → ∀ sz : Nat, Met l yX9_goesOn wsX9_goesOn (rmG d) (va_Pc [.ref (a 20), .int x1, .int x2, .int x3] (pQ D cs (cW a cs sh LP Z σ) sz)) (va_Qi (fun x y => (x = r ∧ (r = 0 ∨ r = 1)) ∧ y = u9) (qB D (cW a cs sh LP Z) (va_A (cW a cs sh LP Z σ) sz)) (va_A (cW a cs sh LP Z σ) sz)) 0 0 (va_A (cW a cs sh LP Z σ) sz)) (x1 : Int32) (x2 : Int32) (x3 : Int32) (r : Int32) (u9 : Nat → Nat → Int32) (h : fX9_triesOn 20 kg sh Z σ x1 x2 x3 = some (r, u9)) (sz : Nat) : Met l yX9_triesOn wsX9_triesOn (rmT d) (va_Pc [.ref (a 20), .int x1, .int x2, .int x3] (pQ D cs (cW a cs sh LP Z σ) sz)) (va_Qi (fun x y => (x = r ∧ (r = 0 ∨ r = 1)) ∧ y = u9) (qB D (cW a cs sh LP Z) (va_A (cW a cs sh LP Z σ) sz)) (va_A (cW a cs sh LP Z σ) sz)) 0 0 (va_A (cW a cs sh LP Z σ) sz) := by
  refine Met.ofW (cc := cX9_triesOn) (maxL := 4) (ret := (some .boolean)) (by decide) rfl ?_
  intro p e s m args below meth c s₁ B hml hv
  obtain ⟨rfl, hsz, hP, hK, hD0⟩ := hv
  have C : cxt p s m _ meth c cX9_triesOn 4 RX9 wsX9_triesOn (some .boolean) := ⟨B.exec, B.bytes, hml, findClass_of_methodNamed B.named, atoms_spec (ws := wsX9_triesOn) B.pre, B.returns, B.notSynchronized⟩
  obtain ⟨hx, hb, -, hown, hts, hr, hlk⟩ := id C
  subst hsz
  have hD := hD0.self (sz := s.heap.size)
  generalize hAe : va_A (cW a cs sh LP Z σ) s.heap.size = A at hD ⊢
  have hA : ∀ q : Nat, s.heap.size ≤ q → A q := fun q h => by rw [← hAe]; exact Or.inr h
  have hS : va_S A s.heap s.heap [] := va_S.rf
  refine entryW [.ref (a 20), .int x1, .int x2, .int x3] (n := 4) (Nat.le_of_ble_eq_true rfl) (fun ls hl => ?_)
  have hl : lv_has ls 4 [(0, .ref (a 20)), (1, .int x1), (2, .int x2), (3, .int x3)] := hl
  unfold fX9_triesOn at h
  refine lv_iload_n hx hb dX9_triesOn_0 rfl (lv_at hl 2 rfl) ?_
  refine lv_iload_n hx hb dX9_triesOn_1 rfl (lv_at hl 3 rfl) ?_
  obtain ⟨v1, hc_v1, h⟩ := bd_some h
  refine mcallSZ (va_runS (As := [.int x2, .int x3]) (rest := []) ⟨hx, hb, hml, hown, hts⟩ (kX9_isOpen l x2 x3 v1 hc_v1) (va_cwS 2 hts gX9_triesOn_X9_isOpen rfl rfl rfl (by decide +kernel) ⟨by show 0 + 1 ≤ 2 * d + 1; omega, by show 8 + (2 + 11) + 0 ≤ 8 + (7 + 11) + 60 * d; omega⟩) p0_s rfl rfl hl.1 rfl (lv_room (Nat.le_of_ble_eq_true rfl)) dX9_triesOn_2 ⟨Nat.zero_le _, Nat.zero_le _⟩) (fun z_v1 => ?_)
  refine lv_if_eq (tgt := 24) hx hb dX9_triesOn_5 (by decide) (fun c2 => ?_) (fun c2 => ?_)
  · have h := it_t c2 h
    refine lv_iconst (v := (0 : Int32)) hx hb dX9_triesOn_24 (by decide) ?_
    exact mretQZ hx hb hr hlk h (Or.inl rfl) hP hD hS dX9_triesOn_25
  · have h := it_f c2 h
    refine lv_aload_n hx hb dX9_triesOn_8 rfl (lv_at hl 0 rfl) ?_
    refine lv_iload_n hx hb dX9_triesOn_9 rfl (lv_at hl 1 rfl) ?_
    refine lv_iconst (v := (1 : Int32)) hx hb dX9_triesOn_10 (by decide) ?_
    refine lv_iadd hx hb dX9_triesOn_11 ?_
    refine lv_iload_n hx hb dX9_triesOn_12 rfl (lv_at hl 2 rfl) ?_
    refine lv_iload_n hx hb dX9_triesOn_13 rfl (lv_at hl 3 rfl) ?_
    obtain ⟨⟨v3, σ4⟩, hc_v3, h⟩ := bd_some h
    refine mcallQZ (wf := (cW a cs sh LP Z)) (va_runS (As := [.ref (a 20), .int (x1 + (1 : Int32)), .int x2, .int x3]) (rest := []) ⟨hx, hb, hml, hown, hts⟩ (hg σ (x1 + (1 : Int32)) x2 x3 v3 σ4 hc_v3 _) (va_cwS 4 hts gX9_triesOn_X9_goesOn rfl rfl rfl (by decide +kernel) ⟨Nat.le_refl _, Nat.le_refl _⟩) (pQ_s hP hK hD) rfl rfl hl.1 rfl (lv_room (Nat.le_of_ble_eq_true rfl)) dX9_triesOn_14 ⟨Nat.zero_le _, Nat.zero_le _⟩) hD hS hA (fun z_v3 H locs hP hD hS => ?_)
    refine lv_if_eq (tgt := 24) hx hb dX9_triesOn_17 (by decide) (fun c5 => ?_) (fun c5 => ?_)
    · have h := it_t c5 h
      refine lv_iconst (v := (0 : Int32)) hx hb dX9_triesOn_24 (by decide) ?_
      exact mretQZ hx hb hr hlk h (Or.inl rfl) hP hD hS dX9_triesOn_25
    · have h := it_f c5 h
      refine lv_iconst (v := (1 : Int32)) hx hb dX9_triesOn_20 (by decide) ?_
      refine lv_goto (tgt := 25) hx hb dX9_triesOn_21 (by decide) ?_
      exact mretQZ hx hb hr hlk h (Or.inr rfl) hP hD hS dX9_triesOn_25
set_option maxHeartbeats 4000000 in
set_option maxRecDepth 100000 in
theorem wX9_goesOn_20_J117 {p : Program} {l : Launch} {e : Env} {s : State} {m : MethodId} {args : Array Value} {below : List Frame} {meth : Method} {c : Code} (C : cxt p s m args meth c cX9_goesOn 7 RX9 wsX9_goesOn (some .boolean)) {D : va_G} {cs : Nat → ClassId} {a : Nat → Nat} {sh : Nat → Option Nat} {LP : List Nat} {Z : ZT} (hZ : shOK sh LP Z) (hK : KK D cs s) {A : Nat → Prop} (hA : ∀ q, s.heap.size ≤ q → A q) {d : Nat} {kg : (Nat → Nat → Int32) → Int32 → Int32 → Int32 → Option (Int32 × (Nat → Nat → Int32))} (hg : ∀ (σ : Nat → Nat → Int32) (x1 x2 x3 : Int32) (r : Int32) (u9 : Nat → Nat → Int32), kg σ x1 x2 x3 = some (r, u9) → ∀ sz : Nat, Met l yX9_goesOn wsX9_goesOn (rmG d) (va_Pc [.ref (a 20), .int x1, .int x2, .int x3] (pQ D cs (cW a cs sh LP Z σ) sz)) (va_Qi (fun x y => (x = r ∧ (r = 0 ∨ r = 1)) ∧ y = u9) (qB D (cW a cs sh LP Z) (va_A (cW a cs sh LP Z σ) sz)) (va_A (cW a cs sh LP Z σ) sz)) 0 0 (va_A (cW a cs sh LP Z σ) sz)) (r : Int32) (u9 : Nat → Nat → Int32) (x1 : Int32) (x2 : Int32) (x4 : Int32) (t0 : Int32) (σ : Nat → Nat → Int32) (H : Heap) (locs : List Loc) (ls : Array Slot) (hP : va_P D vwCl (cW a cs sh LP Z σ) H) (hD : va_D A (cW a cs sh LP Z σ)) (hS : va_S A s.heap H locs) (hl : lv_has ls 7 [(0, .ref (a 20)), (1, .int x1), (2, .int x2), (4, .int x4)]) (h : fX9_goesOn_J117 20 kg sh Z x1 x2 x4 t0 σ = some (r, u9)) : W p l e (rmG (d + 1)) s m args below meth c H locs 0 0 (MQ below (va_Qi (fun x y => (x = r ∧ (r = 0 ∨ r = 1)) ∧ y = u9) (qB D (cW a cs sh LP Z) A) A) args s 0 0 A) (F0 m 117 ls [.int t0]) := by
  obtain ⟨hx, hb, hml, hown, hts, hr, hlk⟩ := id C
  unfold fX9_goesOn_J117 at h
  refine lv_istore (lv' := [(6, .int t0), (0, .ref (a 20)), (1, .int x1), (2, .int x2), (4, .int x4)]) hx hb dX9_goesOn_117 hl (by decide) rfl (fun ls hl => ?_)
  refine lv_iload hx hb dX9_goesOn_119 (lv_at hl 0 rfl) ?_
  refine lv_if_ne (tgt := 143) hx hb dX9_goesOn_121 (by decide) (fun c10 => ?_) (fun c10 => ?_)
  · have h := it_t c10 h
    refine lv_iconst (v := (1 : Int32)) hx hb dX9_goesOn_143 (by decide) ?_
    refine lv_goto (tgt := 148) hx hb dX9_goesOn_144 (by decide) ?_
    exact mretQZ hx hb hr hlk h (Or.inr rfl) hP hD hS dX9_goesOn_148
  · have h := it_n c10 h
    refine lv_iload_n hx hb dX9_goesOn_124 rfl (lv_at hl 3 rfl) ?_
    refine lv_bipush (v := (12 : Int32)) hx hb dX9_goesOn_125 (by decide) ?_
    refine lv_icmp_ge (tgt := 147) hx hb dX9_goesOn_127 (by decide) (fun c11 => ?_) (fun c11 => ?_)
    · have h := it_t c11 h
      refine lv_iconst (v := (0 : Int32)) hx hb dX9_goesOn_147 (by decide) ?_
      exact mretQZ hx hb hr hlk h (Or.inl rfl) hP hD hS dX9_goesOn_148
    · have h := it_f c11 h
      refine lv_aload_n hx hb dX9_goesOn_130 rfl (lv_at hl 1 rfl) ?_
      refine lv_iload_n hx hb dX9_goesOn_131 rfl (lv_at hl 2 rfl) ?_
      refine lv_iload_n hx hb dX9_goesOn_132 rfl (lv_at hl 3 rfl) ?_
      refine lv_iconst (v := (4 : Int32)) hx hb dX9_goesOn_133 (by decide) ?_
      refine lv_iadd hx hb dX9_goesOn_134 ?_
      refine lv_iload hx hb dX9_goesOn_135 (lv_at hl 4 rfl) ?_
      obtain ⟨⟨v12, σ13⟩, hc_v12, h⟩ := bd_some h
      refine mcallQZ (wf := (cW a cs sh LP Z)) (va_runS (As := [.ref (a 20), .int x1, .int (x2 + (4 : Int32)), .int x4]) (rest := []) ⟨hx, hb, hml, hown, hts⟩ (kX9_triesOn_20 l D cs a sh LP Z hZ σ d kg hg x1 (x2 + (4 : Int32)) x4 v12 σ13 hc_v12 _) (va_cwS 4 hts gX9_goesOn_X9_triesOn rfl rfl rfl (by decide +kernel) ⟨by show 2 * d + 1 + 1 ≤ 2 * (d + 1); omega, by show 8 + (4 + 11) + (8 + (7 + 11) + 60 * d) ≤ 60 * (d + 1); omega⟩) (pQ_s hP hK hD) rfl rfl hl.1 rfl (lv_room (Nat.le_of_ble_eq_true rfl)) dX9_goesOn_137 ⟨Nat.zero_le _, Nat.zero_le _⟩) hD hS hA (fun z_v12 H locs hP hD hS => ?_)
      refine lv_if_eq (tgt := 147) hx hb dX9_goesOn_140 (by decide) (fun c14 => ?_) (fun c14 => ?_)
      · have h := it_t c14 h
        refine lv_iconst (v := (0 : Int32)) hx hb dX9_goesOn_147 (by decide) ?_
        exact mretQZ hx hb hr hlk h (Or.inl rfl) hP hD hS dX9_goesOn_148
      · have h := it_f c14 h
        refine lv_iconst (v := (1 : Int32)) hx hb dX9_goesOn_143 (by decide) ?_
        refine lv_goto (tgt := 148) hx hb dX9_goesOn_144 (by decide) ?_
        exact mretQZ hx hb hr hlk h (Or.inr rfl) hP hD hS dX9_goesOn_148
set_option maxHeartbeats 4000000 in
set_option maxRecDepth 100000 in
theorem wX9_goesOn_20_J112 {p : Program} {l : Launch} {e : Env} {s : State} {m : MethodId} {args : Array Value} {below : List Frame} {meth : Method} {c : Code} (C : cxt p s m args meth c cX9_goesOn 7 RX9 wsX9_goesOn (some .boolean)) {D : va_G} {cs : Nat → ClassId} {a : Nat → Nat} {sh : Nat → Option Nat} {LP : List Nat} {Z : ZT} (hZ : shOK sh LP Z) (hK : KK D cs s) {A : Nat → Prop} (hA : ∀ q, s.heap.size ≤ q → A q) {d : Nat} {kg : (Nat → Nat → Int32) → Int32 → Int32 → Int32 → Option (Int32 × (Nat → Nat → Int32))} (hg : ∀ (σ : Nat → Nat → Int32) (x1 x2 x3 : Int32) (r : Int32) (u9 : Nat → Nat → Int32), kg σ x1 x2 x3 = some (r, u9) → ∀ sz : Nat, Met l yX9_goesOn wsX9_goesOn (rmG d) (va_Pc [.ref (a 20), .int x1, .int x2, .int x3] (pQ D cs (cW a cs sh LP Z σ) sz)) (va_Qi (fun x y => (x = r ∧ (r = 0 ∨ r = 1)) ∧ y = u9) (qB D (cW a cs sh LP Z) (va_A (cW a cs sh LP Z σ) sz)) (va_A (cW a cs sh LP Z σ) sz)) 0 0 (va_A (cW a cs sh LP Z σ) sz)) (r : Int32) (u9 : Nat → Nat → Int32) (x1 : Int32) (x2 : Int32) (x4 : Int32) (σ : Nat → Nat → Int32) (H : Heap) (locs : List Loc) (ls : Array Slot) (hP : va_P D vwCl (cW a cs sh LP Z σ) H) (hD : va_D A (cW a cs sh LP Z σ)) (hS : va_S A s.heap H locs) (hl : lv_has ls 7 [(0, .ref (a 20)), (1, .int x1), (2, .int x2), (4, .int x4)]) (h : fX9_goesOn_J112 20 kg sh Z x1 x2 x4 σ = some (r, u9)) : W p l e (rmG (d + 1)) s m args below meth c H locs 0 0 (MQ below (va_Qi (fun x y => (x = r ∧ (r = 0 ∨ r = 1)) ∧ y = u9) (qB D (cW a cs sh LP Z) A) A) args s 0 0 A) (F0 m 112 ls []) := by
  obtain ⟨hx, hb, hml, hown, hts, hr, hlk⟩ := id C
  unfold fX9_goesOn_J112 at h
  refine lv_iconst (v := (1 : Int32)) hx hb dX9_goesOn_112 (by decide) ?_
  refine lv_goto (tgt := 117) hx hb dX9_goesOn_113 (by decide) ?_
  exact wX9_goesOn_20_J117 C hZ hK hA hg r u9 x1 x2 x4 (1 : Int32) σ _ _ ls hP hD hS (lv_sub hl [0, 1, 2, 3] rfl) h
set_option maxHeartbeats 4000000 in
set_option maxRecDepth 100000 in
theorem wX9_goesOn_20_J116 {p : Program} {l : Launch} {e : Env} {s : State} {m : MethodId} {args : Array Value} {below : List Frame} {meth : Method} {c : Code} (C : cxt p s m args meth c cX9_goesOn 7 RX9 wsX9_goesOn (some .boolean)) {D : va_G} {cs : Nat → ClassId} {a : Nat → Nat} {sh : Nat → Option Nat} {LP : List Nat} {Z : ZT} (hZ : shOK sh LP Z) (hK : KK D cs s) {A : Nat → Prop} (hA : ∀ q, s.heap.size ≤ q → A q) {d : Nat} {kg : (Nat → Nat → Int32) → Int32 → Int32 → Int32 → Option (Int32 × (Nat → Nat → Int32))} (hg : ∀ (σ : Nat → Nat → Int32) (x1 x2 x3 : Int32) (r : Int32) (u9 : Nat → Nat → Int32), kg σ x1 x2 x3 = some (r, u9) → ∀ sz : Nat, Met l yX9_goesOn wsX9_goesOn (rmG d) (va_Pc [.ref (a 20), .int x1, .int x2, .int x3] (pQ D cs (cW a cs sh LP Z σ) sz)) (va_Qi (fun x y => (x = r ∧ (r = 0 ∨ r = 1)) ∧ y = u9) (qB D (cW a cs sh LP Z) (va_A (cW a cs sh LP Z σ) sz)) (va_A (cW a cs sh LP Z σ) sz)) 0 0 (va_A (cW a cs sh LP Z σ) sz)) (r : Int32) (u9 : Nat → Nat → Int32) (x1 : Int32) (x2 : Int32) (x4 : Int32) (σ : Nat → Nat → Int32) (H : Heap) (locs : List Loc) (ls : Array Slot) (hP : va_P D vwCl (cW a cs sh LP Z σ) H) (hD : va_D A (cW a cs sh LP Z σ)) (hS : va_S A s.heap H locs) (hl : lv_has ls 7 [(0, .ref (a 20)), (1, .int x1), (2, .int x2), (4, .int x4)]) (h : fX9_goesOn_J116 20 kg sh Z x1 x2 x4 σ = some (r, u9)) : W p l e (rmG (d + 1)) s m args below meth c H locs 0 0 (MQ below (va_Qi (fun x y => (x = r ∧ (r = 0 ∨ r = 1)) ∧ y = u9) (qB D (cW a cs sh LP Z) A) A) args s 0 0 A) (F0 m 116 ls []) := by
  obtain ⟨hx, hb, hml, hown, hts, hr, hlk⟩ := id C
  unfold fX9_goesOn_J116 at h
  refine lv_iconst (v := (0 : Int32)) hx hb dX9_goesOn_116 (by decide) ?_
  exact wX9_goesOn_20_J117 C hZ hK hA hg r u9 x1 x2 x4 (0 : Int32) σ _ _ ls hP hD hS (lv_sub hl [0, 1, 2, 3] rfl) h
set_option maxHeartbeats 4000000 in
set_option maxRecDepth 100000 in
theorem wX9_goesOn_20_J86 {p : Program} {l : Launch} {e : Env} {s : State} {m : MethodId} {args : Array Value} {below : List Frame} {meth : Method} {c : Code} (C : cxt p s m args meth c cX9_goesOn 7 RX9 wsX9_goesOn (some .boolean)) {D : va_G} {cs : Nat → ClassId} {a : Nat → Nat} {sh : Nat → Option Nat} {LP : List Nat} {Z : ZT} (hZ : shOK sh LP Z) (hK : KK D cs s) {A : Nat → Prop} (hA : ∀ q, s.heap.size ≤ q → A q) {d : Nat} {kg : (Nat → Nat → Int32) → Int32 → Int32 → Int32 → Option (Int32 × (Nat → Nat → Int32))} (hg : ∀ (σ : Nat → Nat → Int32) (x1 x2 x3 : Int32) (r : Int32) (u9 : Nat → Nat → Int32), kg σ x1 x2 x3 = some (r, u9) → ∀ sz : Nat, Met l yX9_goesOn wsX9_goesOn (rmG d) (va_Pc [.ref (a 20), .int x1, .int x2, .int x3] (pQ D cs (cW a cs sh LP Z σ) sz)) (va_Qi (fun x y => (x = r ∧ (r = 0 ∨ r = 1)) ∧ y = u9) (qB D (cW a cs sh LP Z) (va_A (cW a cs sh LP Z σ) sz)) (va_A (cW a cs sh LP Z σ) sz)) 0 0 (va_A (cW a cs sh LP Z σ) sz)) (r : Int32) (u9 : Nat → Nat → Int32) (x1 : Int32) (x2 : Int32) (x4 : Int32) (x5 : Int32) (t0 : Int32) (σ : Nat → Nat → Int32) (H : Heap) (locs : List Loc) (ls : Array Slot) (hP : va_P D vwCl (cW a cs sh LP Z σ) H) (hD : va_D A (cW a cs sh LP Z σ)) (hS : va_S A s.heap H locs) (hl : lv_has ls 7 [(0, .ref (a 20)), (1, .int x1), (2, .int x2), (4, .int x4), (5, .int x5)]) (h : fX9_goesOn_J86 20 kg sh Z x1 x2 x4 x5 t0 σ = some (r, u9)) : W p l e (rmG (d + 1)) s m args below meth c H locs 0 0 (MQ below (va_Qi (fun x y => (x = r ∧ (r = 0 ∨ r = 1)) ∧ y = u9) (qB D (cW a cs sh LP Z) A) A) args s 0 0 A) (F0 m 86 ls [.int t0]) := by
  obtain ⟨hx, hb, hml, hown, hts, hr, hlk⟩ := id C
  unfold fX9_goesOn_J86 at h
  refine lv_istore (lv' := [(6, .int t0), (0, .ref (a 20)), (1, .int x1), (2, .int x2), (4, .int x4), (5, .int x5)]) hx hb dX9_goesOn_86 hl (by decide) rfl (fun ls hl => ?_)
  refine lv_iload hx hb dX9_goesOn_88 (lv_at hl 0 rfl) ?_
  refine lv_if_ne (tgt := 112) hx hb dX9_goesOn_90 (by decide) (fun c9 => ?_) (fun c9 => ?_)
  · have h := it_t c9 h
    exact wX9_goesOn_20_J112 C hZ hK hA hg r u9 x1 x2 x4 σ _ _ ls hP hD hS (lv_sub hl [1, 2, 3, 4] rfl) h
  · have h := it_n c9 h
    refine lv_iload hx hb dX9_goesOn_93 (lv_at hl 5 rfl) ?_
    refine lv_iconst (v := (3 : Int32)) hx hb dX9_goesOn_95 (by decide) ?_
    refine lv_icmp_ge (tgt := 116) hx hb dX9_goesOn_96 (by decide) (fun c10 => ?_) (fun c10 => ?_)
    · have h := it_t c10 h
      exact wX9_goesOn_20_J116 C hZ hK hA hg r u9 x1 x2 x4 σ _ _ ls hP hD hS (lv_sub hl [1, 2, 3, 4] rfl) h
    · have h := it_f c10 h
      refine lv_aload_n hx hb dX9_goesOn_99 rfl (lv_at hl 1 rfl) ?_
      refine lv_iload_n hx hb dX9_goesOn_100 rfl (lv_at hl 2 rfl) ?_
      refine lv_iload_n hx hb dX9_goesOn_101 rfl (lv_at hl 3 rfl) ?_
      refine lv_iconst (v := (1 : Int32)) hx hb dX9_goesOn_102 (by decide) ?_
      refine lv_iadd hx hb dX9_goesOn_103 ?_
      refine lv_iload hx hb dX9_goesOn_104 (lv_at hl 4 rfl) ?_
      obtain ⟨⟨v11, σ12⟩, hc_v11, h⟩ := bd_some h
      refine mcallQZ (wf := (cW a cs sh LP Z)) (va_runS (As := [.ref (a 20), .int x1, .int (x2 + (1 : Int32)), .int x4]) (rest := []) ⟨hx, hb, hml, hown, hts⟩ (kX9_triesOn_20 l D cs a sh LP Z hZ σ d kg hg x1 (x2 + (1 : Int32)) x4 v11 σ12 hc_v11 _) (va_cwS 4 hts gX9_goesOn_X9_triesOn rfl rfl rfl (by decide +kernel) ⟨by show 2 * d + 1 + 1 ≤ 2 * (d + 1); omega, by show 8 + (4 + 11) + (8 + (7 + 11) + 60 * d) ≤ 60 * (d + 1); omega⟩) (pQ_s hP hK hD) rfl rfl hl.1 rfl (lv_room (Nat.le_of_ble_eq_true rfl)) dX9_goesOn_106 ⟨Nat.zero_le _, Nat.zero_le _⟩) hD hS hA (fun z_v11 H locs hP hD hS => ?_)
      refine lv_if_eq (tgt := 116) hx hb dX9_goesOn_109 (by decide) (fun c13 => ?_) (fun c13 => ?_)
      · have h := it_t c13 h
        exact wX9_goesOn_20_J116 C hZ hK hA hg r u9 x1 x2 x4 σ12 _ _ ls hP hD hS (lv_sub hl [1, 2, 3, 4] rfl) h
      · have h := it_f c13 h
        exact wX9_goesOn_20_J112 C hZ hK hA hg r u9 x1 x2 x4 σ12 _ _ ls hP hD hS (lv_sub hl [1, 2, 3, 4] rfl) h
set_option maxHeartbeats 4000000 in
set_option maxRecDepth 100000 in
theorem wX9_goesOn_20_J81 {p : Program} {l : Launch} {e : Env} {s : State} {m : MethodId} {args : Array Value} {below : List Frame} {meth : Method} {c : Code} (C : cxt p s m args meth c cX9_goesOn 7 RX9 wsX9_goesOn (some .boolean)) {D : va_G} {cs : Nat → ClassId} {a : Nat → Nat} {sh : Nat → Option Nat} {LP : List Nat} {Z : ZT} (hZ : shOK sh LP Z) (hK : KK D cs s) {A : Nat → Prop} (hA : ∀ q, s.heap.size ≤ q → A q) {d : Nat} {kg : (Nat → Nat → Int32) → Int32 → Int32 → Int32 → Option (Int32 × (Nat → Nat → Int32))} (hg : ∀ (σ : Nat → Nat → Int32) (x1 x2 x3 : Int32) (r : Int32) (u9 : Nat → Nat → Int32), kg σ x1 x2 x3 = some (r, u9) → ∀ sz : Nat, Met l yX9_goesOn wsX9_goesOn (rmG d) (va_Pc [.ref (a 20), .int x1, .int x2, .int x3] (pQ D cs (cW a cs sh LP Z σ) sz)) (va_Qi (fun x y => (x = r ∧ (r = 0 ∨ r = 1)) ∧ y = u9) (qB D (cW a cs sh LP Z) (va_A (cW a cs sh LP Z σ) sz)) (va_A (cW a cs sh LP Z σ) sz)) 0 0 (va_A (cW a cs sh LP Z σ) sz)) (r : Int32) (u9 : Nat → Nat → Int32) (x1 : Int32) (x2 : Int32) (x4 : Int32) (x5 : Int32) (σ : Nat → Nat → Int32) (H : Heap) (locs : List Loc) (ls : Array Slot) (hP : va_P D vwCl (cW a cs sh LP Z σ) H) (hD : va_D A (cW a cs sh LP Z σ)) (hS : va_S A s.heap H locs) (hl : lv_has ls 7 [(0, .ref (a 20)), (1, .int x1), (2, .int x2), (4, .int x4), (5, .int x5)]) (h : fX9_goesOn_J81 20 kg sh Z x1 x2 x4 x5 σ = some (r, u9)) : W p l e (rmG (d + 1)) s m args below meth c H locs 0 0 (MQ below (va_Qi (fun x y => (x = r ∧ (r = 0 ∨ r = 1)) ∧ y = u9) (qB D (cW a cs sh LP Z) A) A) args s 0 0 A) (F0 m 81 ls []) := by
  obtain ⟨hx, hb, hml, hown, hts, hr, hlk⟩ := id C
  unfold fX9_goesOn_J81 at h
  refine lv_iconst (v := (1 : Int32)) hx hb dX9_goesOn_81 (by decide) ?_
  refine lv_goto (tgt := 86) hx hb dX9_goesOn_82 (by decide) ?_
  exact wX9_goesOn_20_J86 C hZ hK hA hg r u9 x1 x2 x4 x5 (1 : Int32) σ _ _ ls hP hD hS (lv_sub hl [0, 1, 2, 3, 4] rfl) h
set_option maxHeartbeats 4000000 in
set_option maxRecDepth 100000 in
theorem wX9_goesOn_20_J85 {p : Program} {l : Launch} {e : Env} {s : State} {m : MethodId} {args : Array Value} {below : List Frame} {meth : Method} {c : Code} (C : cxt p s m args meth c cX9_goesOn 7 RX9 wsX9_goesOn (some .boolean)) {D : va_G} {cs : Nat → ClassId} {a : Nat → Nat} {sh : Nat → Option Nat} {LP : List Nat} {Z : ZT} (hZ : shOK sh LP Z) (hK : KK D cs s) {A : Nat → Prop} (hA : ∀ q, s.heap.size ≤ q → A q) {d : Nat} {kg : (Nat → Nat → Int32) → Int32 → Int32 → Int32 → Option (Int32 × (Nat → Nat → Int32))} (hg : ∀ (σ : Nat → Nat → Int32) (x1 x2 x3 : Int32) (r : Int32) (u9 : Nat → Nat → Int32), kg σ x1 x2 x3 = some (r, u9) → ∀ sz : Nat, Met l yX9_goesOn wsX9_goesOn (rmG d) (va_Pc [.ref (a 20), .int x1, .int x2, .int x3] (pQ D cs (cW a cs sh LP Z σ) sz)) (va_Qi (fun x y => (x = r ∧ (r = 0 ∨ r = 1)) ∧ y = u9) (qB D (cW a cs sh LP Z) (va_A (cW a cs sh LP Z σ) sz)) (va_A (cW a cs sh LP Z σ) sz)) 0 0 (va_A (cW a cs sh LP Z σ) sz)) (r : Int32) (u9 : Nat → Nat → Int32) (x1 : Int32) (x2 : Int32) (x4 : Int32) (x5 : Int32) (σ : Nat → Nat → Int32) (H : Heap) (locs : List Loc) (ls : Array Slot) (hP : va_P D vwCl (cW a cs sh LP Z σ) H) (hD : va_D A (cW a cs sh LP Z σ)) (hS : va_S A s.heap H locs) (hl : lv_has ls 7 [(0, .ref (a 20)), (1, .int x1), (2, .int x2), (4, .int x4), (5, .int x5)]) (h : fX9_goesOn_J85 20 kg sh Z x1 x2 x4 x5 σ = some (r, u9)) : W p l e (rmG (d + 1)) s m args below meth c H locs 0 0 (MQ below (va_Qi (fun x y => (x = r ∧ (r = 0 ∨ r = 1)) ∧ y = u9) (qB D (cW a cs sh LP Z) A) A) args s 0 0 A) (F0 m 85 ls []) := by
  obtain ⟨hx, hb, hml, hown, hts, hr, hlk⟩ := id C
  unfold fX9_goesOn_J85 at h
  refine lv_iconst (v := (0 : Int32)) hx hb dX9_goesOn_85 (by decide) ?_
  exact wX9_goesOn_20_J86 C hZ hK hA hg r u9 x1 x2 x4 x5 (0 : Int32) σ _ _ ls hP hD hS (lv_sub hl [0, 1, 2, 3, 4] rfl) h
set_option maxHeartbeats 4000000 in
set_option maxRecDepth 100000 in
theorem wX9_goesOn_20_J56 {p : Program} {l : Launch} {e : Env} {s : State} {m : MethodId} {args : Array Value} {below : List Frame} {meth : Method} {c : Code} (C : cxt p s m args meth c cX9_goesOn 7 RX9 wsX9_goesOn (some .boolean)) {D : va_G} {cs : Nat → ClassId} {a : Nat → Nat} {sh : Nat → Option Nat} {LP : List Nat} {Z : ZT} (hZ : shOK sh LP Z) (hK : KK D cs s) {A : Nat → Prop} (hA : ∀ q, s.heap.size ≤ q → A q) {d : Nat} {kg : (Nat → Nat → Int32) → Int32 → Int32 → Int32 → Option (Int32 × (Nat → Nat → Int32))} (hg : ∀ (σ : Nat → Nat → Int32) (x1 x2 x3 : Int32) (r : Int32) (u9 : Nat → Nat → Int32), kg σ x1 x2 x3 = some (r, u9) → ∀ sz : Nat, Met l yX9_goesOn wsX9_goesOn (rmG d) (va_Pc [.ref (a 20), .int x1, .int x2, .int x3] (pQ D cs (cW a cs sh LP Z σ) sz)) (va_Qi (fun x y => (x = r ∧ (r = 0 ∨ r = 1)) ∧ y = u9) (qB D (cW a cs sh LP Z) (va_A (cW a cs sh LP Z σ) sz)) (va_A (cW a cs sh LP Z σ) sz)) 0 0 (va_A (cW a cs sh LP Z σ) sz)) (r : Int32) (u9 : Nat → Nat → Int32) (x1 : Int32) (x2 : Int32) (x4 : Int32) (x5 : Int32) (t0 : Int32) (σ : Nat → Nat → Int32) (H : Heap) (locs : List Loc) (ls : Array Slot) (hP : va_P D vwCl (cW a cs sh LP Z σ) H) (hD : va_D A (cW a cs sh LP Z σ)) (hS : va_S A s.heap H locs) (hl : lv_has ls 7 [(0, .ref (a 20)), (1, .int x1), (2, .int x2), (4, .int x4), (5, .int x5)]) (h : fX9_goesOn_J56 20 kg sh Z x1 x2 x4 x5 t0 σ = some (r, u9)) : W p l e (rmG (d + 1)) s m args below meth c H locs 0 0 (MQ below (va_Qi (fun x y => (x = r ∧ (r = 0 ∨ r = 1)) ∧ y = u9) (qB D (cW a cs sh LP Z) A) A) args s 0 0 A) (F0 m 56 ls [.int t0]) := by
  obtain ⟨hx, hb, hml, hown, hts, hr, hlk⟩ := id C
  unfold fX9_goesOn_J56 at h
  refine lv_istore (lv' := [(6, .int t0), (0, .ref (a 20)), (1, .int x1), (2, .int x2), (4, .int x4), (5, .int x5)]) hx hb dX9_goesOn_56 hl (by decide) rfl (fun ls hl => ?_)
  refine lv_iload hx hb dX9_goesOn_58 (lv_at hl 0 rfl) ?_
  refine lv_if_ne (tgt := 81) hx hb dX9_goesOn_60 (by decide) (fun c8 => ?_) (fun c8 => ?_)
  · have h := it_t c8 h
    exact wX9_goesOn_20_J81 C hZ hK hA hg r u9 x1 x2 x4 x5 σ _ _ ls hP hD hS (lv_sub hl [1, 2, 3, 4, 5] rfl) h
  · have h := it_n c8 h
    refine lv_iload hx hb dX9_goesOn_63 (lv_at hl 5 rfl) ?_
    refine lv_if_le (tgt := 85) hx hb dX9_goesOn_65 (by decide) (fun c9 => ?_) (fun c9 => ?_)
    · have h := it_t c9 h
      exact wX9_goesOn_20_J85 C hZ hK hA hg r u9 x1 x2 x4 x5 σ _ _ ls hP hD hS (lv_sub hl [1, 2, 3, 4, 5] rfl) h
    · have h := it_f c9 h
      refine lv_aload_n hx hb dX9_goesOn_68 rfl (lv_at hl 1 rfl) ?_
      refine lv_iload_n hx hb dX9_goesOn_69 rfl (lv_at hl 2 rfl) ?_
      refine lv_iload_n hx hb dX9_goesOn_70 rfl (lv_at hl 3 rfl) ?_
      refine lv_iconst (v := (1 : Int32)) hx hb dX9_goesOn_71 (by decide) ?_
      refine lv_isub hx hb dX9_goesOn_72 ?_
      refine lv_iload hx hb dX9_goesOn_73 (lv_at hl 4 rfl) ?_
      obtain ⟨⟨v10, σ11⟩, hc_v10, h⟩ := bd_some h
      refine mcallQZ (wf := (cW a cs sh LP Z)) (va_runS (As := [.ref (a 20), .int x1, .int (x2 - (1 : Int32)), .int x4]) (rest := []) ⟨hx, hb, hml, hown, hts⟩ (kX9_triesOn_20 l D cs a sh LP Z hZ σ d kg hg x1 (x2 - (1 : Int32)) x4 v10 σ11 hc_v10 _) (va_cwS 4 hts gX9_goesOn_X9_triesOn rfl rfl rfl (by decide +kernel) ⟨by show 2 * d + 1 + 1 ≤ 2 * (d + 1); omega, by show 8 + (4 + 11) + (8 + (7 + 11) + 60 * d) ≤ 60 * (d + 1); omega⟩) (pQ_s hP hK hD) rfl rfl hl.1 rfl (lv_room (Nat.le_of_ble_eq_true rfl)) dX9_goesOn_75 ⟨Nat.zero_le _, Nat.zero_le _⟩) hD hS hA (fun z_v10 H locs hP hD hS => ?_)
      refine lv_if_eq (tgt := 85) hx hb dX9_goesOn_78 (by decide) (fun c12 => ?_) (fun c12 => ?_)
      · have h := it_t c12 h
        exact wX9_goesOn_20_J85 C hZ hK hA hg r u9 x1 x2 x4 x5 σ11 _ _ ls hP hD hS (lv_sub hl [1, 2, 3, 4, 5] rfl) h
      · have h := it_f c12 h
        exact wX9_goesOn_20_J81 C hZ hK hA hg r u9 x1 x2 x4 x5 σ11 _ _ ls hP hD hS (lv_sub hl [1, 2, 3, 4, 5] rfl) h
set_option maxHeartbeats 4000000 in
set_option maxRecDepth 100000 in
theorem wX9_goesOn_20_J55 {p : Program} {l : Launch} {e : Env} {s : State} {m : MethodId} {args : Array Value} {below : List Frame} {meth : Method} {c : Code} (C : cxt p s m args meth c cX9_goesOn 7 RX9 wsX9_goesOn (some .boolean)) {D : va_G} {cs : Nat → ClassId} {a : Nat → Nat} {sh : Nat → Option Nat} {LP : List Nat} {Z : ZT} (hZ : shOK sh LP Z) (hK : KK D cs s) {A : Nat → Prop} (hA : ∀ q, s.heap.size ≤ q → A q) {d : Nat} {kg : (Nat → Nat → Int32) → Int32 → Int32 → Int32 → Option (Int32 × (Nat → Nat → Int32))} (hg : ∀ (σ : Nat → Nat → Int32) (x1 x2 x3 : Int32) (r : Int32) (u9 : Nat → Nat → Int32), kg σ x1 x2 x3 = some (r, u9) → ∀ sz : Nat, Met l yX9_goesOn wsX9_goesOn (rmG d) (va_Pc [.ref (a 20), .int x1, .int x2, .int x3] (pQ D cs (cW a cs sh LP Z σ) sz)) (va_Qi (fun x y => (x = r ∧ (r = 0 ∨ r = 1)) ∧ y = u9) (qB D (cW a cs sh LP Z) (va_A (cW a cs sh LP Z σ) sz)) (va_A (cW a cs sh LP Z σ) sz)) 0 0 (va_A (cW a cs sh LP Z σ) sz)) (r : Int32) (u9 : Nat → Nat → Int32) (x1 : Int32) (x2 : Int32) (x4 : Int32) (x5 : Int32) (σ : Nat → Nat → Int32) (H : Heap) (locs : List Loc) (ls : Array Slot) (hP : va_P D vwCl (cW a cs sh LP Z σ) H) (hD : va_D A (cW a cs sh LP Z σ)) (hS : va_S A s.heap H locs) (hl : lv_has ls 7 [(0, .ref (a 20)), (1, .int x1), (2, .int x2), (4, .int x4), (5, .int x5)]) (h : fX9_goesOn_J55 20 kg sh Z x1 x2 x4 x5 σ = some (r, u9)) : W p l e (rmG (d + 1)) s m args below meth c H locs 0 0 (MQ below (va_Qi (fun x y => (x = r ∧ (r = 0 ∨ r = 1)) ∧ y = u9) (qB D (cW a cs sh LP Z) A) A) args s 0 0 A) (F0 m 55 ls []) := by
  obtain ⟨hx, hb, hml, hown, hts, hr, hlk⟩ := id C
  unfold fX9_goesOn_J55 at h
  refine lv_iconst (v := (0 : Int32)) hx hb dX9_goesOn_55 (by decide) ?_
  exact wX9_goesOn_20_J56 C hZ hK hA hg r u9 x1 x2 x4 x5 (0 : Int32) σ _ _ ls hP hD hS (lv_sub hl [0, 1, 2, 3, 4] rfl) h
set_option maxHeartbeats 4000000 in
set_option maxRecDepth 100000 in
theorem kX9_goesOn_20 (l : Launch) (D : va_G) (cs : Nat → ClassId) (a : Nat → Nat) (sh : Nat → Option Nat) (LP : List Nat) (Z : ZT) (hZ : shOK sh LP Z) (σ : Nat → Nat → Int32) (d : Nat) (x1 : Int32) (x2 : Int32) (x3 : Int32) (r : Int32) (u9 : Nat → Nat → Int32) (h : fX9_goesOn 20 d sh Z σ x1 x2 x3 = some (r, u9)) (sz : Nat) : Met l yX9_goesOn wsX9_goesOn (rmG d) (va_Pc [.ref (a 20), .int x1, .int x2, .int x3] (pQ D cs (cW a cs sh LP Z σ) sz)) (va_Qi (fun x y => (x = r ∧ (r = 0 ∨ r = 1)) ∧ y = u9) (qB D (cW a cs sh LP Z) (va_A (cW a cs sh LP Z σ) sz)) (va_A (cW a cs sh LP Z σ) sz)) 0 0 (va_A (cW a cs sh LP Z σ) sz) := by
  induction d generalizing σ x1 x2 x3 r u9 sz with
  | zero => cases h
  | succ d ih =>
    refine Met.ofW (cc := cX9_goesOn) (maxL := 7) (ret := (some .boolean)) (by decide) rfl ?_
    intro p e s m args below meth c s₁ B hml hv
    obtain ⟨rfl, hsz, hP, hK, hD0⟩ := hv
    have C : cxt p s m _ meth c cX9_goesOn 7 RX9 wsX9_goesOn (some .boolean) := ⟨B.exec, B.bytes, hml, findClass_of_methodNamed B.named, atoms_spec (ws := wsX9_goesOn) B.pre, B.returns, B.notSynchronized⟩
    obtain ⟨hx, hb, -, hown, hts, hr, hlk⟩ := id C
    subst hsz
    have hD := hD0.self (sz := s.heap.size)
    generalize hAe : va_A (cW a cs sh LP Z σ) s.heap.size = A at hD ⊢
    have hA : ∀ q : Nat, s.heap.size ≤ q → A q := fun q h => by rw [← hAe]; exact Or.inr h
    have hS : va_S A s.heap s.heap [] := va_S.rf
    refine entryW [.ref (a 20), .int x1, .int x2, .int x3] (n := 7) (Nat.le_of_ble_eq_true rfl) (fun ls hl => ?_)
    have hl : lv_has ls 7 [(0, .ref (a 20)), (1, .int x1), (2, .int x2), (3, .int x3)] := hl
    rw [fX9_goesOn] at h
    obtain ⟨kg, hg, h⟩ := nb_some (P := fun (kg : (Nat → Nat → Int32) → Int32 → Int32 → Int32 → Option (Int32 × (Nat → Nat → Int32))) => ∀ (σ : Nat → Nat → Int32) (x1 x2 x3 : Int32) (r : Int32) (u9 : Nat → Nat → Int32), kg σ x1 x2 x3 = some (r, u9) → ∀ sz : Nat, Met l yX9_goesOn wsX9_goesOn (rmG d) (va_Pc [.ref (a 20), .int x1, .int x2, .int x3] (pQ D cs (cW a cs sh LP Z σ) sz)) (va_Qi (fun x y => (x = r ∧ (r = 0 ∨ r = 1)) ∧ y = u9) (qB D (cW a cs sh LP Z) (va_A (cW a cs sh LP Z σ) sz)) (va_A (cW a cs sh LP Z σ) sz)) 0 0 (va_A (cW a cs sh LP Z σ) sz)) h ih
    refine lv_iload_n hx hb dX9_goesOn_0 rfl (lv_at hl 1 rfl) ?_
    refine lv_bipush (v := (16 : Int32)) hx hb dX9_goesOn_1 (by decide) ?_
    refine lv_icmp_lt (tgt := 8) hx hb dX9_goesOn_3 (by decide) (fun c1 => ?_) (fun c1 => ?_)
    · have h := it_t c1 h
      refine lv_aload_n hx hb dX9_goesOn_8 rfl (lv_at hl 0 rfl) ?_
      refine lv_iload_n hx hb dX9_goesOn_9 rfl (lv_at hl 1 rfl) ?_
      refine lv_iload_n hx hb dX9_goesOn_10 rfl (lv_at hl 2 rfl) ?_
      obtain ⟨i2, h⟩ := aS_some h
      refine va_iast hx hb hK.1 hP hD hS 20 0 rfl rfl i2 dX9_goesOn_11 (fun H locs hP hD hS => ?_)
      obtain ⟨σ3, e_σ3, h⟩ := nm_some h
      have hP : va_P D vwCl (cW a cs sh LP Z σ3) H := by rw [← e_σ3]; exact hP
      have hD : va_D A (cW a cs sh LP Z σ3) := by rw [← e_σ3]; exact hD
      refine lv_iload_n hx hb dX9_goesOn_12 rfl (lv_at hl 3 rfl) ?_
      refine lv_iconst (v := (1 : Int32)) hx hb dX9_goesOn_13 (by decide) ?_
      refine lv_iload_n hx hb dX9_goesOn_14 rfl (lv_at hl 2 rfl) ?_
      refine lv_ishl hx hb dX9_goesOn_15 ?_
      refine lv_iconst (v := ((-1) : Int32)) hx hb dX9_goesOn_16 (by decide) ?_
      refine lv_ixor hx hb dX9_goesOn_17 ?_
      refine lv_iand hx hb dX9_goesOn_18 ?_
      obtain ⟨z4, e_z4, h⟩ := nm_some h
      refine tpi e_z4 ?_
      refine lv_istore (lv' := [(4, .int z4), (0, .ref (a 20)), (1, .int x1), (2, .int x2), (3, .int x3)]) hx hb dX9_goesOn_19 hl (by decide) rfl (fun ls hl => ?_)
      refine lv_iload hx hb dX9_goesOn_21 (lv_at hl 0 rfl) ?_
      refine lv_if_ne (tgt := 28) hx hb dX9_goesOn_23 (by decide) (fun c5 => ?_) (fun c5 => ?_)
      · have h := it_t c5 h
        refine lv_iload_n hx hb dX9_goesOn_28 rfl (lv_at hl 3 rfl) ?_
        refine lv_iconst (v := (4 : Int32)) hx hb dX9_goesOn_29 (by decide) ?_
        refine lv_irem hx hb dX9_goesOn_30 (by decide) ?_
        obtain ⟨z6, e_z6, h⟩ := nm_some h
        refine tpi e_z6 ?_
        refine lv_istore (lv' := [(5, .int z6), (4, .int z4), (0, .ref (a 20)), (1, .int x1), (2, .int x2), (3, .int x3)]) hx hb dX9_goesOn_31 hl (by decide) rfl (fun ls hl => ?_)
        refine lv_iload_n hx hb dX9_goesOn_33 rfl (lv_at hl 4 rfl) ?_
        refine lv_iconst (v := (4 : Int32)) hx hb dX9_goesOn_34 (by decide) ?_
        refine lv_icmp_lt (tgt := 55) hx hb dX9_goesOn_35 (by decide) (fun c7 => ?_) (fun c7 => ?_)
        · have h := it_t c7 h
          exact wX9_goesOn_20_J55 C hZ hK hA hg r u9 x1 x2 z4 z6 σ3 _ _ ls hP hD hS (lv_sub hl [2, 3, 4, 1, 0] rfl) h
        · have h := it_f c7 h
          refine lv_aload_n hx hb dX9_goesOn_38 rfl (lv_at hl 2 rfl) ?_
          refine lv_iload_n hx hb dX9_goesOn_39 rfl (lv_at hl 3 rfl) ?_
          refine lv_iload_n hx hb dX9_goesOn_40 rfl (lv_at hl 4 rfl) ?_
          refine lv_iconst (v := (4 : Int32)) hx hb dX9_goesOn_41 (by decide) ?_
          refine lv_isub hx hb dX9_goesOn_42 ?_
          refine lv_iload hx hb dX9_goesOn_43 (lv_at hl 1 rfl) ?_
          obtain ⟨⟨v8, σ9⟩, hc_v8, h⟩ := bd_some h
          refine mcallQZ (wf := (cW a cs sh LP Z)) (va_runS (As := [.ref (a 20), .int x1, .int (x2 - (4 : Int32)), .int z4]) (rest := []) ⟨hx, hb, hml, hown, hts⟩ (kX9_triesOn_20 l D cs a sh LP Z hZ σ3 d kg hg x1 (x2 - (4 : Int32)) z4 v8 σ9 hc_v8 _) (va_cwS 4 hts gX9_goesOn_X9_triesOn rfl rfl rfl (by decide +kernel) ⟨by show 2 * d + 1 + 1 ≤ 2 * (d + 1); omega, by show 8 + (4 + 11) + (8 + (7 + 11) + 60 * d) ≤ 60 * (d + 1); omega⟩) (pQ_s hP hK hD) rfl rfl hl.1 rfl (lv_room (Nat.le_of_ble_eq_true rfl)) dX9_goesOn_45 ⟨Nat.zero_le _, Nat.zero_le _⟩) hD hS hA (fun z_v8 H locs hP hD hS => ?_)
          refine lv_if_eq (tgt := 55) hx hb dX9_goesOn_48 (by decide) (fun c10 => ?_) (fun c10 => ?_)
          · have h := it_t c10 h
            exact wX9_goesOn_20_J55 C hZ hK hA hg r u9 x1 x2 z4 z6 σ9 _ _ ls hP hD hS (lv_sub hl [2, 3, 4, 1, 0] rfl) h
          · have h := it_f c10 h
            refine lv_iconst (v := (1 : Int32)) hx hb dX9_goesOn_51 (by decide) ?_
            refine lv_goto (tgt := 56) hx hb dX9_goesOn_52 (by decide) ?_
            exact wX9_goesOn_20_J56 C hZ hK hA hg r u9 x1 x2 z4 z6 (1 : Int32) σ9 _ _ ls hP hD hS (lv_sub hl [2, 3, 4, 1, 0] rfl) h
      · have h := it_n c5 h
        refine lv_iconst (v := (1 : Int32)) hx hb dX9_goesOn_26 (by decide) ?_
        exact mretQZ hx hb hr hlk h (Or.inr rfl) hP hD hS dX9_goesOn_27
    · have h := it_f c1 h
      refine lv_iconst (v := (0 : Int32)) hx hb dX9_goesOn_6 (by decide) ?_
      exact mretQZ hx hb hr hlk h (Or.inl rfl) hP hD hS dX9_goesOn_7
set_option maxHeartbeats 4000000 in
set_option maxRecDepth 100000 in
theorem kX9_triesOn_21 (l : Launch) (D : va_G) (cs : Nat → ClassId) (a : Nat → Nat) (sh : Nat → Option Nat) (LP : List Nat) (Z : ZT) (hZ : shOK sh LP Z) (σ : Nat → Nat → Int32) (d : Nat) (kg : (Nat → Nat → Int32) → Int32 → Int32 → Int32 → Option (Int32 × (Nat → Nat → Int32))) (hg : ∀ (σ : Nat → Nat → Int32) (x1 x2 x3 : Int32) (r : Int32) (u9 : Nat → Nat → Int32), kg σ x1 x2 x3 = some (r, u9) → ∀ sz : Nat, Met l yX9_goesOn wsX9_goesOn (rmG d) (va_Pc [.ref (a 21), .int x1, .int x2, .int x3] (pQ D cs (cW a cs sh LP Z σ) sz)) (va_Qi (fun x y => (x = r ∧ (r = 0 ∨ r = 1)) ∧ y = u9) (qB D (cW a cs sh LP Z) (va_A (cW a cs sh LP Z σ) sz)) (va_A (cW a cs sh LP Z σ) sz)) 0 0 (va_A (cW a cs sh LP Z σ) sz)) (x1 : Int32) (x2 : Int32) (x3 : Int32) (r : Int32) (u9 : Nat → Nat → Int32) (h : fX9_triesOn 21 kg sh Z σ x1 x2 x3 = some (r, u9)) (sz : Nat) : Met l yX9_triesOn wsX9_triesOn (rmT d) (va_Pc [.ref (a 21), .int x1, .int x2, .int x3] (pQ D cs (cW a cs sh LP Z σ) sz)) (va_Qi (fun x y => (x = r ∧ (r = 0 ∨ r = 1)) ∧ y = u9) (qB D (cW a cs sh LP Z) (va_A (cW a cs sh LP Z σ) sz)) (va_A (cW a cs sh LP Z σ) sz)) 0 0 (va_A (cW a cs sh LP Z σ) sz) := by
  refine Met.ofW (cc := cX9_triesOn) (maxL := 4) (ret := (some .boolean)) (by decide) rfl ?_
  intro p e s m args below meth c s₁ B hml hv
  obtain ⟨rfl, hsz, hP, hK, hD0⟩ := hv
  have C : cxt p s m _ meth c cX9_triesOn 4 RX9 wsX9_triesOn (some .boolean) := ⟨B.exec, B.bytes, hml, findClass_of_methodNamed B.named, atoms_spec (ws := wsX9_triesOn) B.pre, B.returns, B.notSynchronized⟩
  obtain ⟨hx, hb, -, hown, hts, hr, hlk⟩ := id C
  subst hsz
  have hD := hD0.self (sz := s.heap.size)
  generalize hAe : va_A (cW a cs sh LP Z σ) s.heap.size = A at hD ⊢
  have hA : ∀ q : Nat, s.heap.size ≤ q → A q := fun q h => by rw [← hAe]; exact Or.inr h
  have hS : va_S A s.heap s.heap [] := va_S.rf
  refine entryW [.ref (a 21), .int x1, .int x2, .int x3] (n := 4) (Nat.le_of_ble_eq_true rfl) (fun ls hl => ?_)
  have hl : lv_has ls 4 [(0, .ref (a 21)), (1, .int x1), (2, .int x2), (3, .int x3)] := hl
  unfold fX9_triesOn at h
  refine lv_iload_n hx hb dX9_triesOn_0 rfl (lv_at hl 2 rfl) ?_
  refine lv_iload_n hx hb dX9_triesOn_1 rfl (lv_at hl 3 rfl) ?_
  obtain ⟨v1, hc_v1, h⟩ := bd_some h
  refine mcallSZ (va_runS (As := [.int x2, .int x3]) (rest := []) ⟨hx, hb, hml, hown, hts⟩ (kX9_isOpen l x2 x3 v1 hc_v1) (va_cwS 2 hts gX9_triesOn_X9_isOpen rfl rfl rfl (by decide +kernel) ⟨by show 0 + 1 ≤ 2 * d + 1; omega, by show 8 + (2 + 11) + 0 ≤ 8 + (7 + 11) + 60 * d; omega⟩) p0_s rfl rfl hl.1 rfl (lv_room (Nat.le_of_ble_eq_true rfl)) dX9_triesOn_2 ⟨Nat.zero_le _, Nat.zero_le _⟩) (fun z_v1 => ?_)
  refine lv_if_eq (tgt := 24) hx hb dX9_triesOn_5 (by decide) (fun c2 => ?_) (fun c2 => ?_)
  · have h := it_t c2 h
    refine lv_iconst (v := (0 : Int32)) hx hb dX9_triesOn_24 (by decide) ?_
    exact mretQZ hx hb hr hlk h (Or.inl rfl) hP hD hS dX9_triesOn_25
  · have h := it_f c2 h
    refine lv_aload_n hx hb dX9_triesOn_8 rfl (lv_at hl 0 rfl) ?_
    refine lv_iload_n hx hb dX9_triesOn_9 rfl (lv_at hl 1 rfl) ?_
    refine lv_iconst (v := (1 : Int32)) hx hb dX9_triesOn_10 (by decide) ?_
    refine lv_iadd hx hb dX9_triesOn_11 ?_
    refine lv_iload_n hx hb dX9_triesOn_12 rfl (lv_at hl 2 rfl) ?_
    refine lv_iload_n hx hb dX9_triesOn_13 rfl (lv_at hl 3 rfl) ?_
    obtain ⟨⟨v3, σ4⟩, hc_v3, h⟩ := bd_some h
    refine mcallQZ (wf := (cW a cs sh LP Z)) (va_runS (As := [.ref (a 21), .int (x1 + (1 : Int32)), .int x2, .int x3]) (rest := []) ⟨hx, hb, hml, hown, hts⟩ (hg σ (x1 + (1 : Int32)) x2 x3 v3 σ4 hc_v3 _) (va_cwS 4 hts gX9_triesOn_X9_goesOn rfl rfl rfl (by decide +kernel) ⟨Nat.le_refl _, Nat.le_refl _⟩) (pQ_s hP hK hD) rfl rfl hl.1 rfl (lv_room (Nat.le_of_ble_eq_true rfl)) dX9_triesOn_14 ⟨Nat.zero_le _, Nat.zero_le _⟩) hD hS hA (fun z_v3 H locs hP hD hS => ?_)
    refine lv_if_eq (tgt := 24) hx hb dX9_triesOn_17 (by decide) (fun c5 => ?_) (fun c5 => ?_)
    · have h := it_t c5 h
      refine lv_iconst (v := (0 : Int32)) hx hb dX9_triesOn_24 (by decide) ?_
      exact mretQZ hx hb hr hlk h (Or.inl rfl) hP hD hS dX9_triesOn_25
    · have h := it_f c5 h
      refine lv_iconst (v := (1 : Int32)) hx hb dX9_triesOn_20 (by decide) ?_
      refine lv_goto (tgt := 25) hx hb dX9_triesOn_21 (by decide) ?_
      exact mretQZ hx hb hr hlk h (Or.inr rfl) hP hD hS dX9_triesOn_25
set_option maxHeartbeats 4000000 in
set_option maxRecDepth 100000 in
theorem wX9_goesOn_21_J117 {p : Program} {l : Launch} {e : Env} {s : State} {m : MethodId} {args : Array Value} {below : List Frame} {meth : Method} {c : Code} (C : cxt p s m args meth c cX9_goesOn 7 RX9 wsX9_goesOn (some .boolean)) {D : va_G} {cs : Nat → ClassId} {a : Nat → Nat} {sh : Nat → Option Nat} {LP : List Nat} {Z : ZT} (hZ : shOK sh LP Z) (hK : KK D cs s) {A : Nat → Prop} (hA : ∀ q, s.heap.size ≤ q → A q) {d : Nat} {kg : (Nat → Nat → Int32) → Int32 → Int32 → Int32 → Option (Int32 × (Nat → Nat → Int32))} (hg : ∀ (σ : Nat → Nat → Int32) (x1 x2 x3 : Int32) (r : Int32) (u9 : Nat → Nat → Int32), kg σ x1 x2 x3 = some (r, u9) → ∀ sz : Nat, Met l yX9_goesOn wsX9_goesOn (rmG d) (va_Pc [.ref (a 21), .int x1, .int x2, .int x3] (pQ D cs (cW a cs sh LP Z σ) sz)) (va_Qi (fun x y => (x = r ∧ (r = 0 ∨ r = 1)) ∧ y = u9) (qB D (cW a cs sh LP Z) (va_A (cW a cs sh LP Z σ) sz)) (va_A (cW a cs sh LP Z σ) sz)) 0 0 (va_A (cW a cs sh LP Z σ) sz)) (r : Int32) (u9 : Nat → Nat → Int32) (x1 : Int32) (x2 : Int32) (x4 : Int32) (t0 : Int32) (σ : Nat → Nat → Int32) (H : Heap) (locs : List Loc) (ls : Array Slot) (hP : va_P D vwCl (cW a cs sh LP Z σ) H) (hD : va_D A (cW a cs sh LP Z σ)) (hS : va_S A s.heap H locs) (hl : lv_has ls 7 [(0, .ref (a 21)), (1, .int x1), (2, .int x2), (4, .int x4)]) (h : fX9_goesOn_J117 21 kg sh Z x1 x2 x4 t0 σ = some (r, u9)) : W p l e (rmG (d + 1)) s m args below meth c H locs 0 0 (MQ below (va_Qi (fun x y => (x = r ∧ (r = 0 ∨ r = 1)) ∧ y = u9) (qB D (cW a cs sh LP Z) A) A) args s 0 0 A) (F0 m 117 ls [.int t0]) := by
  obtain ⟨hx, hb, hml, hown, hts, hr, hlk⟩ := id C
  unfold fX9_goesOn_J117 at h
  refine lv_istore (lv' := [(6, .int t0), (0, .ref (a 21)), (1, .int x1), (2, .int x2), (4, .int x4)]) hx hb dX9_goesOn_117 hl (by decide) rfl (fun ls hl => ?_)
  refine lv_iload hx hb dX9_goesOn_119 (lv_at hl 0 rfl) ?_
  refine lv_if_ne (tgt := 143) hx hb dX9_goesOn_121 (by decide) (fun c10 => ?_) (fun c10 => ?_)
  · have h := it_t c10 h
    refine lv_iconst (v := (1 : Int32)) hx hb dX9_goesOn_143 (by decide) ?_
    refine lv_goto (tgt := 148) hx hb dX9_goesOn_144 (by decide) ?_
    exact mretQZ hx hb hr hlk h (Or.inr rfl) hP hD hS dX9_goesOn_148
  · have h := it_n c10 h
    refine lv_iload_n hx hb dX9_goesOn_124 rfl (lv_at hl 3 rfl) ?_
    refine lv_bipush (v := (12 : Int32)) hx hb dX9_goesOn_125 (by decide) ?_
    refine lv_icmp_ge (tgt := 147) hx hb dX9_goesOn_127 (by decide) (fun c11 => ?_) (fun c11 => ?_)
    · have h := it_t c11 h
      refine lv_iconst (v := (0 : Int32)) hx hb dX9_goesOn_147 (by decide) ?_
      exact mretQZ hx hb hr hlk h (Or.inl rfl) hP hD hS dX9_goesOn_148
    · have h := it_f c11 h
      refine lv_aload_n hx hb dX9_goesOn_130 rfl (lv_at hl 1 rfl) ?_
      refine lv_iload_n hx hb dX9_goesOn_131 rfl (lv_at hl 2 rfl) ?_
      refine lv_iload_n hx hb dX9_goesOn_132 rfl (lv_at hl 3 rfl) ?_
      refine lv_iconst (v := (4 : Int32)) hx hb dX9_goesOn_133 (by decide) ?_
      refine lv_iadd hx hb dX9_goesOn_134 ?_
      refine lv_iload hx hb dX9_goesOn_135 (lv_at hl 4 rfl) ?_
      obtain ⟨⟨v12, σ13⟩, hc_v12, h⟩ := bd_some h
      refine mcallQZ (wf := (cW a cs sh LP Z)) (va_runS (As := [.ref (a 21), .int x1, .int (x2 + (4 : Int32)), .int x4]) (rest := []) ⟨hx, hb, hml, hown, hts⟩ (kX9_triesOn_21 l D cs a sh LP Z hZ σ d kg hg x1 (x2 + (4 : Int32)) x4 v12 σ13 hc_v12 _) (va_cwS 4 hts gX9_goesOn_X9_triesOn rfl rfl rfl (by decide +kernel) ⟨by show 2 * d + 1 + 1 ≤ 2 * (d + 1); omega, by show 8 + (4 + 11) + (8 + (7 + 11) + 60 * d) ≤ 60 * (d + 1); omega⟩) (pQ_s hP hK hD) rfl rfl hl.1 rfl (lv_room (Nat.le_of_ble_eq_true rfl)) dX9_goesOn_137 ⟨Nat.zero_le _, Nat.zero_le _⟩) hD hS hA (fun z_v12 H locs hP hD hS => ?_)
      refine lv_if_eq (tgt := 147) hx hb dX9_goesOn_140 (by decide) (fun c14 => ?_) (fun c14 => ?_)
      · have h := it_t c14 h
        refine lv_iconst (v := (0 : Int32)) hx hb dX9_goesOn_147 (by decide) ?_
        exact mretQZ hx hb hr hlk h (Or.inl rfl) hP hD hS dX9_goesOn_148
      · have h := it_f c14 h
        refine lv_iconst (v := (1 : Int32)) hx hb dX9_goesOn_143 (by decide) ?_
        refine lv_goto (tgt := 148) hx hb dX9_goesOn_144 (by decide) ?_
        exact mretQZ hx hb hr hlk h (Or.inr rfl) hP hD hS dX9_goesOn_148
set_option maxHeartbeats 4000000 in
set_option maxRecDepth 100000 in
theorem wX9_goesOn_21_J112 {p : Program} {l : Launch} {e : Env} {s : State} {m : MethodId} {args : Array Value} {below : List Frame} {meth : Method} {c : Code} (C : cxt p s m args meth c cX9_goesOn 7 RX9 wsX9_goesOn (some .boolean)) {D : va_G} {cs : Nat → ClassId} {a : Nat → Nat} {sh : Nat → Option Nat} {LP : List Nat} {Z : ZT} (hZ : shOK sh LP Z) (hK : KK D cs s) {A : Nat → Prop} (hA : ∀ q, s.heap.size ≤ q → A q) {d : Nat} {kg : (Nat → Nat → Int32) → Int32 → Int32 → Int32 → Option (Int32 × (Nat → Nat → Int32))} (hg : ∀ (σ : Nat → Nat → Int32) (x1 x2 x3 : Int32) (r : Int32) (u9 : Nat → Nat → Int32), kg σ x1 x2 x3 = some (r, u9) → ∀ sz : Nat, Met l yX9_goesOn wsX9_goesOn (rmG d) (va_Pc [.ref (a 21), .int x1, .int x2, .int x3] (pQ D cs (cW a cs sh LP Z σ) sz)) (va_Qi (fun x y => (x = r ∧ (r = 0 ∨ r = 1)) ∧ y = u9) (qB D (cW a cs sh LP Z) (va_A (cW a cs sh LP Z σ) sz)) (va_A (cW a cs sh LP Z σ) sz)) 0 0 (va_A (cW a cs sh LP Z σ) sz)) (r : Int32) (u9 : Nat → Nat → Int32) (x1 : Int32) (x2 : Int32) (x4 : Int32) (σ : Nat → Nat → Int32) (H : Heap) (locs : List Loc) (ls : Array Slot) (hP : va_P D vwCl (cW a cs sh LP Z σ) H) (hD : va_D A (cW a cs sh LP Z σ)) (hS : va_S A s.heap H locs) (hl : lv_has ls 7 [(0, .ref (a 21)), (1, .int x1), (2, .int x2), (4, .int x4)]) (h : fX9_goesOn_J112 21 kg sh Z x1 x2 x4 σ = some (r, u9)) : W p l e (rmG (d + 1)) s m args below meth c H locs 0 0 (MQ below (va_Qi (fun x y => (x = r ∧ (r = 0 ∨ r = 1)) ∧ y = u9) (qB D (cW a cs sh LP Z) A) A) args s 0 0 A) (F0 m 112 ls []) := by
  obtain ⟨hx, hb, hml, hown, hts, hr, hlk⟩ := id C
  unfold fX9_goesOn_J112 at h
  refine lv_iconst (v := (1 : Int32)) hx hb dX9_goesOn_112 (by decide) ?_
  refine lv_goto (tgt := 117) hx hb dX9_goesOn_113 (by decide) ?_
  exact wX9_goesOn_21_J117 C hZ hK hA hg r u9 x1 x2 x4 (1 : Int32) σ _ _ ls hP hD hS (lv_sub hl [0, 1, 2, 3] rfl) h
set_option maxHeartbeats 4000000 in
set_option maxRecDepth 100000 in
theorem wX9_goesOn_21_J116 {p : Program} {l : Launch} {e : Env} {s : State} {m : MethodId} {args : Array Value} {below : List Frame} {meth : Method} {c : Code} (C : cxt p s m args meth c cX9_goesOn 7 RX9 wsX9_goesOn (some .boolean)) {D : va_G} {cs : Nat → ClassId} {a : Nat → Nat} {sh : Nat → Option Nat} {LP : List Nat} {Z : ZT} (hZ : shOK sh LP Z) (hK : KK D cs s) {A : Nat → Prop} (hA : ∀ q, s.heap.size ≤ q → A q) {d : Nat} {kg : (Nat → Nat → Int32) → Int32 → Int32 → Int32 → Option (Int32 × (Nat → Nat → Int32))} (hg : ∀ (σ : Nat → Nat → Int32) (x1 x2 x3 : Int32) (r : Int32) (u9 : Nat → Nat → Int32), kg σ x1 x2 x3 = some (r, u9) → ∀ sz : Nat, Met l yX9_goesOn wsX9_goesOn (rmG d) (va_Pc [.ref (a 21), .int x1, .int x2, .int x3] (pQ D cs (cW a cs sh LP Z σ) sz)) (va_Qi (fun x y => (x = r ∧ (r = 0 ∨ r = 1)) ∧ y = u9) (qB D (cW a cs sh LP Z) (va_A (cW a cs sh LP Z σ) sz)) (va_A (cW a cs sh LP Z σ) sz)) 0 0 (va_A (cW a cs sh LP Z σ) sz)) (r : Int32) (u9 : Nat → Nat → Int32) (x1 : Int32) (x2 : Int32) (x4 : Int32) (σ : Nat → Nat → Int32) (H : Heap) (locs : List Loc) (ls : Array Slot) (hP : va_P D vwCl (cW a cs sh LP Z σ) H) (hD : va_D A (cW a cs sh LP Z σ)) (hS : va_S A s.heap H locs) (hl : lv_has ls 7 [(0, .ref (a 21)), (1, .int x1), (2, .int x2), (4, .int x4)]) (h : fX9_goesOn_J116 21 kg sh Z x1 x2 x4 σ = some (r, u9)) : W p l e (rmG (d + 1)) s m args below meth c H locs 0 0 (MQ below (va_Qi (fun x y => (x = r ∧ (r = 0 ∨ r = 1)) ∧ y = u9) (qB D (cW a cs sh LP Z) A) A) args s 0 0 A) (F0 m 116 ls []) := by
  obtain ⟨hx, hb, hml, hown, hts, hr, hlk⟩ := id C
  unfold fX9_goesOn_J116 at h
  refine lv_iconst (v := (0 : Int32)) hx hb dX9_goesOn_116 (by decide) ?_
  exact wX9_goesOn_21_J117 C hZ hK hA hg r u9 x1 x2 x4 (0 : Int32) σ _ _ ls hP hD hS (lv_sub hl [0, 1, 2, 3] rfl) h
set_option maxHeartbeats 4000000 in
set_option maxRecDepth 100000 in
theorem wX9_goesOn_21_J86 {p : Program} {l : Launch} {e : Env} {s : State} {m : MethodId} {args : Array Value} {below : List Frame} {meth : Method} {c : Code} (C : cxt p s m args meth c cX9_goesOn 7 RX9 wsX9_goesOn (some .boolean)) {D : va_G} {cs : Nat → ClassId} {a : Nat → Nat} {sh : Nat → Option Nat} {LP : List Nat} {Z : ZT} (hZ : shOK sh LP Z) (hK : KK D cs s) {A : Nat → Prop} (hA : ∀ q, s.heap.size ≤ q → A q) {d : Nat} {kg : (Nat → Nat → Int32) → Int32 → Int32 → Int32 → Option (Int32 × (Nat → Nat → Int32))} (hg : ∀ (σ : Nat → Nat → Int32) (x1 x2 x3 : Int32) (r : Int32) (u9 : Nat → Nat → Int32), kg σ x1 x2 x3 = some (r, u9) → ∀ sz : Nat, Met l yX9_goesOn wsX9_goesOn (rmG d) (va_Pc [.ref (a 21), .int x1, .int x2, .int x3] (pQ D cs (cW a cs sh LP Z σ) sz)) (va_Qi (fun x y => (x = r ∧ (r = 0 ∨ r = 1)) ∧ y = u9) (qB D (cW a cs sh LP Z) (va_A (cW a cs sh LP Z σ) sz)) (va_A (cW a cs sh LP Z σ) sz)) 0 0 (va_A (cW a cs sh LP Z σ) sz)) (r : Int32) (u9 : Nat → Nat → Int32) (x1 : Int32) (x2 : Int32) (x4 : Int32) (x5 : Int32) (t0 : Int32) (σ : Nat → Nat → Int32) (H : Heap) (locs : List Loc) (ls : Array Slot) (hP : va_P D vwCl (cW a cs sh LP Z σ) H) (hD : va_D A (cW a cs sh LP Z σ)) (hS : va_S A s.heap H locs) (hl : lv_has ls 7 [(0, .ref (a 21)), (1, .int x1), (2, .int x2), (4, .int x4), (5, .int x5)]) (h : fX9_goesOn_J86 21 kg sh Z x1 x2 x4 x5 t0 σ = some (r, u9)) : W p l e (rmG (d + 1)) s m args below meth c H locs 0 0 (MQ below (va_Qi (fun x y => (x = r ∧ (r = 0 ∨ r = 1)) ∧ y = u9) (qB D (cW a cs sh LP Z) A) A) args s 0 0 A) (F0 m 86 ls [.int t0]) := by
  obtain ⟨hx, hb, hml, hown, hts, hr, hlk⟩ := id C
  unfold fX9_goesOn_J86 at h
  refine lv_istore (lv' := [(6, .int t0), (0, .ref (a 21)), (1, .int x1), (2, .int x2), (4, .int x4), (5, .int x5)]) hx hb dX9_goesOn_86 hl (by decide) rfl (fun ls hl => ?_)
  refine lv_iload hx hb dX9_goesOn_88 (lv_at hl 0 rfl) ?_
  refine lv_if_ne (tgt := 112) hx hb dX9_goesOn_90 (by decide) (fun c9 => ?_) (fun c9 => ?_)
  · have h := it_t c9 h
    exact wX9_goesOn_21_J112 C hZ hK hA hg r u9 x1 x2 x4 σ _ _ ls hP hD hS (lv_sub hl [1, 2, 3, 4] rfl) h
  · have h := it_n c9 h
    refine lv_iload hx hb dX9_goesOn_93 (lv_at hl 5 rfl) ?_
    refine lv_iconst (v := (3 : Int32)) hx hb dX9_goesOn_95 (by decide) ?_
    refine lv_icmp_ge (tgt := 116) hx hb dX9_goesOn_96 (by decide) (fun c10 => ?_) (fun c10 => ?_)
    · have h := it_t c10 h
      exact wX9_goesOn_21_J116 C hZ hK hA hg r u9 x1 x2 x4 σ _ _ ls hP hD hS (lv_sub hl [1, 2, 3, 4] rfl) h
    · have h := it_f c10 h
      refine lv_aload_n hx hb dX9_goesOn_99 rfl (lv_at hl 1 rfl) ?_
      refine lv_iload_n hx hb dX9_goesOn_100 rfl (lv_at hl 2 rfl) ?_
      refine lv_iload_n hx hb dX9_goesOn_101 rfl (lv_at hl 3 rfl) ?_
      refine lv_iconst (v := (1 : Int32)) hx hb dX9_goesOn_102 (by decide) ?_
      refine lv_iadd hx hb dX9_goesOn_103 ?_
      refine lv_iload hx hb dX9_goesOn_104 (lv_at hl 4 rfl) ?_
      obtain ⟨⟨v11, σ12⟩, hc_v11, h⟩ := bd_some h
      refine mcallQZ (wf := (cW a cs sh LP Z)) (va_runS (As := [.ref (a 21), .int x1, .int (x2 + (1 : Int32)), .int x4]) (rest := []) ⟨hx, hb, hml, hown, hts⟩ (kX9_triesOn_21 l D cs a sh LP Z hZ σ d kg hg x1 (x2 + (1 : Int32)) x4 v11 σ12 hc_v11 _) (va_cwS 4 hts gX9_goesOn_X9_triesOn rfl rfl rfl (by decide +kernel) ⟨by show 2 * d + 1 + 1 ≤ 2 * (d + 1); omega, by show 8 + (4 + 11) + (8 + (7 + 11) + 60 * d) ≤ 60 * (d + 1); omega⟩) (pQ_s hP hK hD) rfl rfl hl.1 rfl (lv_room (Nat.le_of_ble_eq_true rfl)) dX9_goesOn_106 ⟨Nat.zero_le _, Nat.zero_le _⟩) hD hS hA (fun z_v11 H locs hP hD hS => ?_)
      refine lv_if_eq (tgt := 116) hx hb dX9_goesOn_109 (by decide) (fun c13 => ?_) (fun c13 => ?_)
      · have h := it_t c13 h
        exact wX9_goesOn_21_J116 C hZ hK hA hg r u9 x1 x2 x4 σ12 _ _ ls hP hD hS (lv_sub hl [1, 2, 3, 4] rfl) h
      · have h := it_f c13 h
        exact wX9_goesOn_21_J112 C hZ hK hA hg r u9 x1 x2 x4 σ12 _ _ ls hP hD hS (lv_sub hl [1, 2, 3, 4] rfl) h
set_option maxHeartbeats 4000000 in
set_option maxRecDepth 100000 in
theorem wX9_goesOn_21_J81 {p : Program} {l : Launch} {e : Env} {s : State} {m : MethodId} {args : Array Value} {below : List Frame} {meth : Method} {c : Code} (C : cxt p s m args meth c cX9_goesOn 7 RX9 wsX9_goesOn (some .boolean)) {D : va_G} {cs : Nat → ClassId} {a : Nat → Nat} {sh : Nat → Option Nat} {LP : List Nat} {Z : ZT} (hZ : shOK sh LP Z) (hK : KK D cs s) {A : Nat → Prop} (hA : ∀ q, s.heap.size ≤ q → A q) {d : Nat} {kg : (Nat → Nat → Int32) → Int32 → Int32 → Int32 → Option (Int32 × (Nat → Nat → Int32))} (hg : ∀ (σ : Nat → Nat → Int32) (x1 x2 x3 : Int32) (r : Int32) (u9 : Nat → Nat → Int32), kg σ x1 x2 x3 = some (r, u9) → ∀ sz : Nat, Met l yX9_goesOn wsX9_goesOn (rmG d) (va_Pc [.ref (a 21), .int x1, .int x2, .int x3] (pQ D cs (cW a cs sh LP Z σ) sz)) (va_Qi (fun x y => (x = r ∧ (r = 0 ∨ r = 1)) ∧ y = u9) (qB D (cW a cs sh LP Z) (va_A (cW a cs sh LP Z σ) sz)) (va_A (cW a cs sh LP Z σ) sz)) 0 0 (va_A (cW a cs sh LP Z σ) sz)) (r : Int32) (u9 : Nat → Nat → Int32) (x1 : Int32) (x2 : Int32) (x4 : Int32) (x5 : Int32) (σ : Nat → Nat → Int32) (H : Heap) (locs : List Loc) (ls : Array Slot) (hP : va_P D vwCl (cW a cs sh LP Z σ) H) (hD : va_D A (cW a cs sh LP Z σ)) (hS : va_S A s.heap H locs) (hl : lv_has ls 7 [(0, .ref (a 21)), (1, .int x1), (2, .int x2), (4, .int x4), (5, .int x5)]) (h : fX9_goesOn_J81 21 kg sh Z x1 x2 x4 x5 σ = some (r, u9)) : W p l e (rmG (d + 1)) s m args below meth c H locs 0 0 (MQ below (va_Qi (fun x y => (x = r ∧ (r = 0 ∨ r = 1)) ∧ y = u9) (qB D (cW a cs sh LP Z) A) A) args s 0 0 A) (F0 m 81 ls []) := by
  obtain ⟨hx, hb, hml, hown, hts, hr, hlk⟩ := id C
  unfold fX9_goesOn_J81 at h
  refine lv_iconst (v := (1 : Int32)) hx hb dX9_goesOn_81 (by decide) ?_
  refine lv_goto (tgt := 86) hx hb dX9_goesOn_82 (by decide) ?_
  exact wX9_goesOn_21_J86 C hZ hK hA hg r u9 x1 x2 x4 x5 (1 : Int32) σ _ _ ls hP hD hS (lv_sub hl [0, 1, 2, 3, 4] rfl) h
set_option maxHeartbeats 4000000 in
set_option maxRecDepth 100000 in
theorem wX9_goesOn_21_J85 {p : Program} {l : Launch} {e : Env} {s : State} {m : MethodId} {args : Array Value} {below : List Frame} {meth : Method} {c : Code} (C : cxt p s m args meth c cX9_goesOn 7 RX9 wsX9_goesOn (some .boolean)) {D : va_G} {cs : Nat → ClassId} {a : Nat → Nat} {sh : Nat → Option Nat} {LP : List Nat} {Z : ZT} (hZ : shOK sh LP Z) (hK : KK D cs s) {A : Nat → Prop} (hA : ∀ q, s.heap.size ≤ q → A q) {d : Nat} {kg : (Nat → Nat → Int32) → Int32 → Int32 → Int32 → Option (Int32 × (Nat → Nat → Int32))} (hg : ∀ (σ : Nat → Nat → Int32) (x1 x2 x3 : Int32) (r : Int32) (u9 : Nat → Nat → Int32), kg σ x1 x2 x3 = some (r, u9) → ∀ sz : Nat, Met l yX9_goesOn wsX9_goesOn (rmG d) (va_Pc [.ref (a 21), .int x1, .int x2, .int x3] (pQ D cs (cW a cs sh LP Z σ) sz)) (va_Qi (fun x y => (x = r ∧ (r = 0 ∨ r = 1)) ∧ y = u9) (qB D (cW a cs sh LP Z) (va_A (cW a cs sh LP Z σ) sz)) (va_A (cW a cs sh LP Z σ) sz)) 0 0 (va_A (cW a cs sh LP Z σ) sz)) (r : Int32) (u9 : Nat → Nat → Int32) (x1 : Int32) (x2 : Int32) (x4 : Int32) (x5 : Int32) (σ : Nat → Nat → Int32) (H : Heap) (locs : List Loc) (ls : Array Slot) (hP : va_P D vwCl (cW a cs sh LP Z σ) H) (hD : va_D A (cW a cs sh LP Z σ)) (hS : va_S A s.heap H locs) (hl : lv_has ls 7 [(0, .ref (a 21)), (1, .int x1), (2, .int x2), (4, .int x4), (5, .int x5)]) (h : fX9_goesOn_J85 21 kg sh Z x1 x2 x4 x5 σ = some (r, u9)) : W p l e (rmG (d + 1)) s m args below meth c H locs 0 0 (MQ below (va_Qi (fun x y => (x = r ∧ (r = 0 ∨ r = 1)) ∧ y = u9) (qB D (cW a cs sh LP Z) A) A) args s 0 0 A) (F0 m 85 ls []) := by
  obtain ⟨hx, hb, hml, hown, hts, hr, hlk⟩ := id C
  unfold fX9_goesOn_J85 at h
  refine lv_iconst (v := (0 : Int32)) hx hb dX9_goesOn_85 (by decide) ?_
  exact wX9_goesOn_21_J86 C hZ hK hA hg r u9 x1 x2 x4 x5 (0 : Int32) σ _ _ ls hP hD hS (lv_sub hl [0, 1, 2, 3, 4] rfl) h
set_option maxHeartbeats 4000000 in
set_option maxRecDepth 100000 in
theorem wX9_goesOn_21_J56 {p : Program} {l : Launch} {e : Env} {s : State} {m : MethodId} {args : Array Value} {below : List Frame} {meth : Method} {c : Code} (C : cxt p s m args meth c cX9_goesOn 7 RX9 wsX9_goesOn (some .boolean)) {D : va_G} {cs : Nat → ClassId} {a : Nat → Nat} {sh : Nat → Option Nat} {LP : List Nat} {Z : ZT} (hZ : shOK sh LP Z) (hK : KK D cs s) {A : Nat → Prop} (hA : ∀ q, s.heap.size ≤ q → A q) {d : Nat} {kg : (Nat → Nat → Int32) → Int32 → Int32 → Int32 → Option (Int32 × (Nat → Nat → Int32))} (hg : ∀ (σ : Nat → Nat → Int32) (x1 x2 x3 : Int32) (r : Int32) (u9 : Nat → Nat → Int32), kg σ x1 x2 x3 = some (r, u9) → ∀ sz : Nat, Met l yX9_goesOn wsX9_goesOn (rmG d) (va_Pc [.ref (a 21), .int x1, .int x2, .int x3] (pQ D cs (cW a cs sh LP Z σ) sz)) (va_Qi (fun x y => (x = r ∧ (r = 0 ∨ r = 1)) ∧ y = u9) (qB D (cW a cs sh LP Z) (va_A (cW a cs sh LP Z σ) sz)) (va_A (cW a cs sh LP Z σ) sz)) 0 0 (va_A (cW a cs sh LP Z σ) sz)) (r : Int32) (u9 : Nat → Nat → Int32) (x1 : Int32) (x2 : Int32) (x4 : Int32) (x5 : Int32) (t0 : Int32) (σ : Nat → Nat → Int32) (H : Heap) (locs : List Loc) (ls : Array Slot) (hP : va_P D vwCl (cW a cs sh LP Z σ) H) (hD : va_D A (cW a cs sh LP Z σ)) (hS : va_S A s.heap H locs) (hl : lv_has ls 7 [(0, .ref (a 21)), (1, .int x1), (2, .int x2), (4, .int x4), (5, .int x5)]) (h : fX9_goesOn_J56 21 kg sh Z x1 x2 x4 x5 t0 σ = some (r, u9)) : W p l e (rmG (d + 1)) s m args below meth c H locs 0 0 (MQ below (va_Qi (fun x y => (x = r ∧ (r = 0 ∨ r = 1)) ∧ y = u9) (qB D (cW a cs sh LP Z) A) A) args s 0 0 A) (F0 m 56 ls [.int t0]) := by
  obtain ⟨hx, hb, hml, hown, hts, hr, hlk⟩ := id C
  unfold fX9_goesOn_J56 at h
  refine lv_istore (lv' := [(6, .int t0), (0, .ref (a 21)), (1, .int x1), (2, .int x2), (4, .int x4), (5, .int x5)]) hx hb dX9_goesOn_56 hl (by decide) rfl (fun ls hl => ?_)
  refine lv_iload hx hb dX9_goesOn_58 (lv_at hl 0 rfl) ?_
  refine lv_if_ne (tgt := 81) hx hb dX9_goesOn_60 (by decide) (fun c8 => ?_) (fun c8 => ?_)
  · have h := it_t c8 h
    exact wX9_goesOn_21_J81 C hZ hK hA hg r u9 x1 x2 x4 x5 σ _ _ ls hP hD hS (lv_sub hl [1, 2, 3, 4, 5] rfl) h
  · have h := it_n c8 h
    refine lv_iload hx hb dX9_goesOn_63 (lv_at hl 5 rfl) ?_
    refine lv_if_le (tgt := 85) hx hb dX9_goesOn_65 (by decide) (fun c9 => ?_) (fun c9 => ?_)
    · have h := it_t c9 h
      exact wX9_goesOn_21_J85 C hZ hK hA hg r u9 x1 x2 x4 x5 σ _ _ ls hP hD hS (lv_sub hl [1, 2, 3, 4, 5] rfl) h
    · have h := it_f c9 h
      refine lv_aload_n hx hb dX9_goesOn_68 rfl (lv_at hl 1 rfl) ?_
      refine lv_iload_n hx hb dX9_goesOn_69 rfl (lv_at hl 2 rfl) ?_
      refine lv_iload_n hx hb dX9_goesOn_70 rfl (lv_at hl 3 rfl) ?_
      refine lv_iconst (v := (1 : Int32)) hx hb dX9_goesOn_71 (by decide) ?_
      refine lv_isub hx hb dX9_goesOn_72 ?_
      refine lv_iload hx hb dX9_goesOn_73 (lv_at hl 4 rfl) ?_
      obtain ⟨⟨v10, σ11⟩, hc_v10, h⟩ := bd_some h
      refine mcallQZ (wf := (cW a cs sh LP Z)) (va_runS (As := [.ref (a 21), .int x1, .int (x2 - (1 : Int32)), .int x4]) (rest := []) ⟨hx, hb, hml, hown, hts⟩ (kX9_triesOn_21 l D cs a sh LP Z hZ σ d kg hg x1 (x2 - (1 : Int32)) x4 v10 σ11 hc_v10 _) (va_cwS 4 hts gX9_goesOn_X9_triesOn rfl rfl rfl (by decide +kernel) ⟨by show 2 * d + 1 + 1 ≤ 2 * (d + 1); omega, by show 8 + (4 + 11) + (8 + (7 + 11) + 60 * d) ≤ 60 * (d + 1); omega⟩) (pQ_s hP hK hD) rfl rfl hl.1 rfl (lv_room (Nat.le_of_ble_eq_true rfl)) dX9_goesOn_75 ⟨Nat.zero_le _, Nat.zero_le _⟩) hD hS hA (fun z_v10 H locs hP hD hS => ?_)
      refine lv_if_eq (tgt := 85) hx hb dX9_goesOn_78 (by decide) (fun c12 => ?_) (fun c12 => ?_)
      · have h := it_t c12 h
        exact wX9_goesOn_21_J85 C hZ hK hA hg r u9 x1 x2 x4 x5 σ11 _ _ ls hP hD hS (lv_sub hl [1, 2, 3, 4, 5] rfl) h
      · have h := it_f c12 h
        exact wX9_goesOn_21_J81 C hZ hK hA hg r u9 x1 x2 x4 x5 σ11 _ _ ls hP hD hS (lv_sub hl [1, 2, 3, 4, 5] rfl) h
set_option maxHeartbeats 4000000 in
set_option maxRecDepth 100000 in
theorem wX9_goesOn_21_J55 {p : Program} {l : Launch} {e : Env} {s : State} {m : MethodId} {args : Array Value} {below : List Frame} {meth : Method} {c : Code} (C : cxt p s m args meth c cX9_goesOn 7 RX9 wsX9_goesOn (some .boolean)) {D : va_G} {cs : Nat → ClassId} {a : Nat → Nat} {sh : Nat → Option Nat} {LP : List Nat} {Z : ZT} (hZ : shOK sh LP Z) (hK : KK D cs s) {A : Nat → Prop} (hA : ∀ q, s.heap.size ≤ q → A q) {d : Nat} {kg : (Nat → Nat → Int32) → Int32 → Int32 → Int32 → Option (Int32 × (Nat → Nat → Int32))} (hg : ∀ (σ : Nat → Nat → Int32) (x1 x2 x3 : Int32) (r : Int32) (u9 : Nat → Nat → Int32), kg σ x1 x2 x3 = some (r, u9) → ∀ sz : Nat, Met l yX9_goesOn wsX9_goesOn (rmG d) (va_Pc [.ref (a 21), .int x1, .int x2, .int x3] (pQ D cs (cW a cs sh LP Z σ) sz)) (va_Qi (fun x y => (x = r ∧ (r = 0 ∨ r = 1)) ∧ y = u9) (qB D (cW a cs sh LP Z) (va_A (cW a cs sh LP Z σ) sz)) (va_A (cW a cs sh LP Z σ) sz)) 0 0 (va_A (cW a cs sh LP Z σ) sz)) (r : Int32) (u9 : Nat → Nat → Int32) (x1 : Int32) (x2 : Int32) (x4 : Int32) (x5 : Int32) (σ : Nat → Nat → Int32) (H : Heap) (locs : List Loc) (ls : Array Slot) (hP : va_P D vwCl (cW a cs sh LP Z σ) H) (hD : va_D A (cW a cs sh LP Z σ)) (hS : va_S A s.heap H locs) (hl : lv_has ls 7 [(0, .ref (a 21)), (1, .int x1), (2, .int x2), (4, .int x4), (5, .int x5)]) (h : fX9_goesOn_J55 21 kg sh Z x1 x2 x4 x5 σ = some (r, u9)) : W p l e (rmG (d + 1)) s m args below meth c H locs 0 0 (MQ below (va_Qi (fun x y => (x = r ∧ (r = 0 ∨ r = 1)) ∧ y = u9) (qB D (cW a cs sh LP Z) A) A) args s 0 0 A) (F0 m 55 ls []) := by
  obtain ⟨hx, hb, hml, hown, hts, hr, hlk⟩ := id C
  unfold fX9_goesOn_J55 at h
  refine lv_iconst (v := (0 : Int32)) hx hb dX9_goesOn_55 (by decide) ?_
  exact wX9_goesOn_21_J56 C hZ hK hA hg r u9 x1 x2 x4 x5 (0 : Int32) σ _ _ ls hP hD hS (lv_sub hl [0, 1, 2, 3, 4] rfl) h
set_option maxHeartbeats 4000000 in
set_option maxRecDepth 100000 in
theorem kX9_goesOn_21 (l : Launch) (D : va_G) (cs : Nat → ClassId) (a : Nat → Nat) (sh : Nat → Option Nat) (LP : List Nat) (Z : ZT) (hZ : shOK sh LP Z) (σ : Nat → Nat → Int32) (d : Nat) (x1 : Int32) (x2 : Int32) (x3 : Int32) (r : Int32) (u9 : Nat → Nat → Int32) (h : fX9_goesOn 21 d sh Z σ x1 x2 x3 = some (r, u9)) (sz : Nat) : Met l yX9_goesOn wsX9_goesOn (rmG d) (va_Pc [.ref (a 21), .int x1, .int x2, .int x3] (pQ D cs (cW a cs sh LP Z σ) sz)) (va_Qi (fun x y => (x = r ∧ (r = 0 ∨ r = 1)) ∧ y = u9) (qB D (cW a cs sh LP Z) (va_A (cW a cs sh LP Z σ) sz)) (va_A (cW a cs sh LP Z σ) sz)) 0 0 (va_A (cW a cs sh LP Z σ) sz) := by
  induction d generalizing σ x1 x2 x3 r u9 sz with
  | zero => cases h
  | succ d ih =>
    refine Met.ofW (cc := cX9_goesOn) (maxL := 7) (ret := (some .boolean)) (by decide) rfl ?_
    intro p e s m args below meth c s₁ B hml hv
    obtain ⟨rfl, hsz, hP, hK, hD0⟩ := hv
    have C : cxt p s m _ meth c cX9_goesOn 7 RX9 wsX9_goesOn (some .boolean) := ⟨B.exec, B.bytes, hml, findClass_of_methodNamed B.named, atoms_spec (ws := wsX9_goesOn) B.pre, B.returns, B.notSynchronized⟩
    obtain ⟨hx, hb, -, hown, hts, hr, hlk⟩ := id C
    subst hsz
    have hD := hD0.self (sz := s.heap.size)
    generalize hAe : va_A (cW a cs sh LP Z σ) s.heap.size = A at hD ⊢
    have hA : ∀ q : Nat, s.heap.size ≤ q → A q := fun q h => by rw [← hAe]; exact Or.inr h
    have hS : va_S A s.heap s.heap [] := va_S.rf
    refine entryW [.ref (a 21), .int x1, .int x2, .int x3] (n := 7) (Nat.le_of_ble_eq_true rfl) (fun ls hl => ?_)
    have hl : lv_has ls 7 [(0, .ref (a 21)), (1, .int x1), (2, .int x2), (3, .int x3)] := hl
    rw [fX9_goesOn] at h
    obtain ⟨kg, hg, h⟩ := nb_some (P := fun (kg : (Nat → Nat → Int32) → Int32 → Int32 → Int32 → Option (Int32 × (Nat → Nat → Int32))) => ∀ (σ : Nat → Nat → Int32) (x1 x2 x3 : Int32) (r : Int32) (u9 : Nat → Nat → Int32), kg σ x1 x2 x3 = some (r, u9) → ∀ sz : Nat, Met l yX9_goesOn wsX9_goesOn (rmG d) (va_Pc [.ref (a 21), .int x1, .int x2, .int x3] (pQ D cs (cW a cs sh LP Z σ) sz)) (va_Qi (fun x y => (x = r ∧ (r = 0 ∨ r = 1)) ∧ y = u9) (qB D (cW a cs sh LP Z) (va_A (cW a cs sh LP Z σ) sz)) (va_A (cW a cs sh LP Z σ) sz)) 0 0 (va_A (cW a cs sh LP Z σ) sz)) h ih
    refine lv_iload_n hx hb dX9_goesOn_0 rfl (lv_at hl 1 rfl) ?_
    refine lv_bipush (v := (16 : Int32)) hx hb dX9_goesOn_1 (by decide) ?_
    refine lv_icmp_lt (tgt := 8) hx hb dX9_goesOn_3 (by decide) (fun c1 => ?_) (fun c1 => ?_)
    · have h := it_t c1 h
      refine lv_aload_n hx hb dX9_goesOn_8 rfl (lv_at hl 0 rfl) ?_
      refine lv_iload_n hx hb dX9_goesOn_9 rfl (lv_at hl 1 rfl) ?_
      refine lv_iload_n hx hb dX9_goesOn_10 rfl (lv_at hl 2 rfl) ?_
      obtain ⟨i2, h⟩ := aS_some h
      refine va_iast hx hb hK.1 hP hD hS 21 0 rfl rfl i2 dX9_goesOn_11 (fun H locs hP hD hS => ?_)
      obtain ⟨σ3, e_σ3, h⟩ := nm_some h
      have hP : va_P D vwCl (cW a cs sh LP Z σ3) H := by rw [← e_σ3]; exact hP
      have hD : va_D A (cW a cs sh LP Z σ3) := by rw [← e_σ3]; exact hD
      refine lv_iload_n hx hb dX9_goesOn_12 rfl (lv_at hl 3 rfl) ?_
      refine lv_iconst (v := (1 : Int32)) hx hb dX9_goesOn_13 (by decide) ?_
      refine lv_iload_n hx hb dX9_goesOn_14 rfl (lv_at hl 2 rfl) ?_
      refine lv_ishl hx hb dX9_goesOn_15 ?_
      refine lv_iconst (v := ((-1) : Int32)) hx hb dX9_goesOn_16 (by decide) ?_
      refine lv_ixor hx hb dX9_goesOn_17 ?_
      refine lv_iand hx hb dX9_goesOn_18 ?_
      obtain ⟨z4, e_z4, h⟩ := nm_some h
      refine tpi e_z4 ?_
      refine lv_istore (lv' := [(4, .int z4), (0, .ref (a 21)), (1, .int x1), (2, .int x2), (3, .int x3)]) hx hb dX9_goesOn_19 hl (by decide) rfl (fun ls hl => ?_)
      refine lv_iload hx hb dX9_goesOn_21 (lv_at hl 0 rfl) ?_
      refine lv_if_ne (tgt := 28) hx hb dX9_goesOn_23 (by decide) (fun c5 => ?_) (fun c5 => ?_)
      · have h := it_t c5 h
        refine lv_iload_n hx hb dX9_goesOn_28 rfl (lv_at hl 3 rfl) ?_
        refine lv_iconst (v := (4 : Int32)) hx hb dX9_goesOn_29 (by decide) ?_
        refine lv_irem hx hb dX9_goesOn_30 (by decide) ?_
        obtain ⟨z6, e_z6, h⟩ := nm_some h
        refine tpi e_z6 ?_
        refine lv_istore (lv' := [(5, .int z6), (4, .int z4), (0, .ref (a 21)), (1, .int x1), (2, .int x2), (3, .int x3)]) hx hb dX9_goesOn_31 hl (by decide) rfl (fun ls hl => ?_)
        refine lv_iload_n hx hb dX9_goesOn_33 rfl (lv_at hl 4 rfl) ?_
        refine lv_iconst (v := (4 : Int32)) hx hb dX9_goesOn_34 (by decide) ?_
        refine lv_icmp_lt (tgt := 55) hx hb dX9_goesOn_35 (by decide) (fun c7 => ?_) (fun c7 => ?_)
        · have h := it_t c7 h
          exact wX9_goesOn_21_J55 C hZ hK hA hg r u9 x1 x2 z4 z6 σ3 _ _ ls hP hD hS (lv_sub hl [2, 3, 4, 1, 0] rfl) h
        · have h := it_f c7 h
          refine lv_aload_n hx hb dX9_goesOn_38 rfl (lv_at hl 2 rfl) ?_
          refine lv_iload_n hx hb dX9_goesOn_39 rfl (lv_at hl 3 rfl) ?_
          refine lv_iload_n hx hb dX9_goesOn_40 rfl (lv_at hl 4 rfl) ?_
          refine lv_iconst (v := (4 : Int32)) hx hb dX9_goesOn_41 (by decide) ?_
          refine lv_isub hx hb dX9_goesOn_42 ?_
          refine lv_iload hx hb dX9_goesOn_43 (lv_at hl 1 rfl) ?_
          obtain ⟨⟨v8, σ9⟩, hc_v8, h⟩ := bd_some h
          refine mcallQZ (wf := (cW a cs sh LP Z)) (va_runS (As := [.ref (a 21), .int x1, .int (x2 - (4 : Int32)), .int z4]) (rest := []) ⟨hx, hb, hml, hown, hts⟩ (kX9_triesOn_21 l D cs a sh LP Z hZ σ3 d kg hg x1 (x2 - (4 : Int32)) z4 v8 σ9 hc_v8 _) (va_cwS 4 hts gX9_goesOn_X9_triesOn rfl rfl rfl (by decide +kernel) ⟨by show 2 * d + 1 + 1 ≤ 2 * (d + 1); omega, by show 8 + (4 + 11) + (8 + (7 + 11) + 60 * d) ≤ 60 * (d + 1); omega⟩) (pQ_s hP hK hD) rfl rfl hl.1 rfl (lv_room (Nat.le_of_ble_eq_true rfl)) dX9_goesOn_45 ⟨Nat.zero_le _, Nat.zero_le _⟩) hD hS hA (fun z_v8 H locs hP hD hS => ?_)
          refine lv_if_eq (tgt := 55) hx hb dX9_goesOn_48 (by decide) (fun c10 => ?_) (fun c10 => ?_)
          · have h := it_t c10 h
            exact wX9_goesOn_21_J55 C hZ hK hA hg r u9 x1 x2 z4 z6 σ9 _ _ ls hP hD hS (lv_sub hl [2, 3, 4, 1, 0] rfl) h
          · have h := it_f c10 h
            refine lv_iconst (v := (1 : Int32)) hx hb dX9_goesOn_51 (by decide) ?_
            refine lv_goto (tgt := 56) hx hb dX9_goesOn_52 (by decide) ?_
            exact wX9_goesOn_21_J56 C hZ hK hA hg r u9 x1 x2 z4 z6 (1 : Int32) σ9 _ _ ls hP hD hS (lv_sub hl [2, 3, 4, 1, 0] rfl) h
      · have h := it_n c5 h
        refine lv_iconst (v := (1 : Int32)) hx hb dX9_goesOn_26 (by decide) ?_
        exact mretQZ hx hb hr hlk h (Or.inr rfl) hP hD hS dX9_goesOn_27
    · have h := it_f c1 h
      refine lv_iconst (v := (0 : Int32)) hx hb dX9_goesOn_6 (by decide) ?_
      exact mretQZ hx hb hr hlk h (Or.inl rfl) hP hD hS dX9_goesOn_7
set_option maxHeartbeats 4000000 in
set_option maxRecDepth 100000 in
theorem kX9_triesOn_22 (l : Launch) (D : va_G) (cs : Nat → ClassId) (a : Nat → Nat) (sh : Nat → Option Nat) (LP : List Nat) (Z : ZT) (hZ : shOK sh LP Z) (σ : Nat → Nat → Int32) (d : Nat) (kg : (Nat → Nat → Int32) → Int32 → Int32 → Int32 → Option (Int32 × (Nat → Nat → Int32))) (hg : ∀ (σ : Nat → Nat → Int32) (x1 x2 x3 : Int32) (r : Int32) (u9 : Nat → Nat → Int32), kg σ x1 x2 x3 = some (r, u9) → ∀ sz : Nat, Met l yX9_goesOn wsX9_goesOn (rmG d) (va_Pc [.ref (a 22), .int x1, .int x2, .int x3] (pQ D cs (cW a cs sh LP Z σ) sz)) (va_Qi (fun x y => (x = r ∧ (r = 0 ∨ r = 1)) ∧ y = u9) (qB D (cW a cs sh LP Z) (va_A (cW a cs sh LP Z σ) sz)) (va_A (cW a cs sh LP Z σ) sz)) 0 0 (va_A (cW a cs sh LP Z σ) sz)) (x1 : Int32) (x2 : Int32) (x3 : Int32) (r : Int32) (u9 : Nat → Nat → Int32) (h : fX9_triesOn 22 kg sh Z σ x1 x2 x3 = some (r, u9)) (sz : Nat) : Met l yX9_triesOn wsX9_triesOn (rmT d) (va_Pc [.ref (a 22), .int x1, .int x2, .int x3] (pQ D cs (cW a cs sh LP Z σ) sz)) (va_Qi (fun x y => (x = r ∧ (r = 0 ∨ r = 1)) ∧ y = u9) (qB D (cW a cs sh LP Z) (va_A (cW a cs sh LP Z σ) sz)) (va_A (cW a cs sh LP Z σ) sz)) 0 0 (va_A (cW a cs sh LP Z σ) sz) := by
  refine Met.ofW (cc := cX9_triesOn) (maxL := 4) (ret := (some .boolean)) (by decide) rfl ?_
  intro p e s m args below meth c s₁ B hml hv
  obtain ⟨rfl, hsz, hP, hK, hD0⟩ := hv
  have C : cxt p s m _ meth c cX9_triesOn 4 RX9 wsX9_triesOn (some .boolean) := ⟨B.exec, B.bytes, hml, findClass_of_methodNamed B.named, atoms_spec (ws := wsX9_triesOn) B.pre, B.returns, B.notSynchronized⟩
  obtain ⟨hx, hb, -, hown, hts, hr, hlk⟩ := id C
  subst hsz
  have hD := hD0.self (sz := s.heap.size)
  generalize hAe : va_A (cW a cs sh LP Z σ) s.heap.size = A at hD ⊢
  have hA : ∀ q : Nat, s.heap.size ≤ q → A q := fun q h => by rw [← hAe]; exact Or.inr h
  have hS : va_S A s.heap s.heap [] := va_S.rf
  refine entryW [.ref (a 22), .int x1, .int x2, .int x3] (n := 4) (Nat.le_of_ble_eq_true rfl) (fun ls hl => ?_)
  have hl : lv_has ls 4 [(0, .ref (a 22)), (1, .int x1), (2, .int x2), (3, .int x3)] := hl
  unfold fX9_triesOn at h
  refine lv_iload_n hx hb dX9_triesOn_0 rfl (lv_at hl 2 rfl) ?_
  refine lv_iload_n hx hb dX9_triesOn_1 rfl (lv_at hl 3 rfl) ?_
  obtain ⟨v1, hc_v1, h⟩ := bd_some h
  refine mcallSZ (va_runS (As := [.int x2, .int x3]) (rest := []) ⟨hx, hb, hml, hown, hts⟩ (kX9_isOpen l x2 x3 v1 hc_v1) (va_cwS 2 hts gX9_triesOn_X9_isOpen rfl rfl rfl (by decide +kernel) ⟨by show 0 + 1 ≤ 2 * d + 1; omega, by show 8 + (2 + 11) + 0 ≤ 8 + (7 + 11) + 60 * d; omega⟩) p0_s rfl rfl hl.1 rfl (lv_room (Nat.le_of_ble_eq_true rfl)) dX9_triesOn_2 ⟨Nat.zero_le _, Nat.zero_le _⟩) (fun z_v1 => ?_)
  refine lv_if_eq (tgt := 24) hx hb dX9_triesOn_5 (by decide) (fun c2 => ?_) (fun c2 => ?_)
  · have h := it_t c2 h
    refine lv_iconst (v := (0 : Int32)) hx hb dX9_triesOn_24 (by decide) ?_
    exact mretQZ hx hb hr hlk h (Or.inl rfl) hP hD hS dX9_triesOn_25
  · have h := it_f c2 h
    refine lv_aload_n hx hb dX9_triesOn_8 rfl (lv_at hl 0 rfl) ?_
    refine lv_iload_n hx hb dX9_triesOn_9 rfl (lv_at hl 1 rfl) ?_
    refine lv_iconst (v := (1 : Int32)) hx hb dX9_triesOn_10 (by decide) ?_
    refine lv_iadd hx hb dX9_triesOn_11 ?_
    refine lv_iload_n hx hb dX9_triesOn_12 rfl (lv_at hl 2 rfl) ?_
    refine lv_iload_n hx hb dX9_triesOn_13 rfl (lv_at hl 3 rfl) ?_
    obtain ⟨⟨v3, σ4⟩, hc_v3, h⟩ := bd_some h
    refine mcallQZ (wf := (cW a cs sh LP Z)) (va_runS (As := [.ref (a 22), .int (x1 + (1 : Int32)), .int x2, .int x3]) (rest := []) ⟨hx, hb, hml, hown, hts⟩ (hg σ (x1 + (1 : Int32)) x2 x3 v3 σ4 hc_v3 _) (va_cwS 4 hts gX9_triesOn_X9_goesOn rfl rfl rfl (by decide +kernel) ⟨Nat.le_refl _, Nat.le_refl _⟩) (pQ_s hP hK hD) rfl rfl hl.1 rfl (lv_room (Nat.le_of_ble_eq_true rfl)) dX9_triesOn_14 ⟨Nat.zero_le _, Nat.zero_le _⟩) hD hS hA (fun z_v3 H locs hP hD hS => ?_)
    refine lv_if_eq (tgt := 24) hx hb dX9_triesOn_17 (by decide) (fun c5 => ?_) (fun c5 => ?_)
    · have h := it_t c5 h
      refine lv_iconst (v := (0 : Int32)) hx hb dX9_triesOn_24 (by decide) ?_
      exact mretQZ hx hb hr hlk h (Or.inl rfl) hP hD hS dX9_triesOn_25
    · have h := it_f c5 h
      refine lv_iconst (v := (1 : Int32)) hx hb dX9_triesOn_20 (by decide) ?_
      refine lv_goto (tgt := 25) hx hb dX9_triesOn_21 (by decide) ?_
      exact mretQZ hx hb hr hlk h (Or.inr rfl) hP hD hS dX9_triesOn_25
set_option maxHeartbeats 4000000 in
set_option maxRecDepth 100000 in
theorem wX9_goesOn_22_J117 {p : Program} {l : Launch} {e : Env} {s : State} {m : MethodId} {args : Array Value} {below : List Frame} {meth : Method} {c : Code} (C : cxt p s m args meth c cX9_goesOn 7 RX9 wsX9_goesOn (some .boolean)) {D : va_G} {cs : Nat → ClassId} {a : Nat → Nat} {sh : Nat → Option Nat} {LP : List Nat} {Z : ZT} (hZ : shOK sh LP Z) (hK : KK D cs s) {A : Nat → Prop} (hA : ∀ q, s.heap.size ≤ q → A q) {d : Nat} {kg : (Nat → Nat → Int32) → Int32 → Int32 → Int32 → Option (Int32 × (Nat → Nat → Int32))} (hg : ∀ (σ : Nat → Nat → Int32) (x1 x2 x3 : Int32) (r : Int32) (u9 : Nat → Nat → Int32), kg σ x1 x2 x3 = some (r, u9) → ∀ sz : Nat, Met l yX9_goesOn wsX9_goesOn (rmG d) (va_Pc [.ref (a 22), .int x1, .int x2, .int x3] (pQ D cs (cW a cs sh LP Z σ) sz)) (va_Qi (fun x y => (x = r ∧ (r = 0 ∨ r = 1)) ∧ y = u9) (qB D (cW a cs sh LP Z) (va_A (cW a cs sh LP Z σ) sz)) (va_A (cW a cs sh LP Z σ) sz)) 0 0 (va_A (cW a cs sh LP Z σ) sz)) (r : Int32) (u9 : Nat → Nat → Int32) (x1 : Int32) (x2 : Int32) (x4 : Int32) (t0 : Int32) (σ : Nat → Nat → Int32) (H : Heap) (locs : List Loc) (ls : Array Slot) (hP : va_P D vwCl (cW a cs sh LP Z σ) H) (hD : va_D A (cW a cs sh LP Z σ)) (hS : va_S A s.heap H locs) (hl : lv_has ls 7 [(0, .ref (a 22)), (1, .int x1), (2, .int x2), (4, .int x4)]) (h : fX9_goesOn_J117 22 kg sh Z x1 x2 x4 t0 σ = some (r, u9)) : W p l e (rmG (d + 1)) s m args below meth c H locs 0 0 (MQ below (va_Qi (fun x y => (x = r ∧ (r = 0 ∨ r = 1)) ∧ y = u9) (qB D (cW a cs sh LP Z) A) A) args s 0 0 A) (F0 m 117 ls [.int t0]) := by
  obtain ⟨hx, hb, hml, hown, hts, hr, hlk⟩ := id C
  unfold fX9_goesOn_J117 at h
  refine lv_istore (lv' := [(6, .int t0), (0, .ref (a 22)), (1, .int x1), (2, .int x2), (4, .int x4)]) hx hb dX9_goesOn_117 hl (by decide) rfl (fun ls hl => ?_)
  refine lv_iload hx hb dX9_goesOn_119 (lv_at hl 0 rfl) ?_
  refine lv_if_ne (tgt := 143) hx hb dX9_goesOn_121 (by decide) (fun c10 => ?_) (fun c10 => ?_)
  · have h := it_t c10 h
    refine lv_iconst (v := (1 : Int32)) hx hb dX9_goesOn_143 (by decide) ?_
    refine lv_goto (tgt := 148) hx hb dX9_goesOn_144 (by decide) ?_
    exact mretQZ hx hb hr hlk h (Or.inr rfl) hP hD hS dX9_goesOn_148
  · have h := it_n c10 h
    refine lv_iload_n hx hb dX9_goesOn_124 rfl (lv_at hl 3 rfl) ?_
    refine lv_bipush (v := (12 : Int32)) hx hb dX9_goesOn_125 (by decide) ?_
    refine lv_icmp_ge (tgt := 147) hx hb dX9_goesOn_127 (by decide) (fun c11 => ?_) (fun c11 => ?_)
    · have h := it_t c11 h
      refine lv_iconst (v := (0 : Int32)) hx hb dX9_goesOn_147 (by decide) ?_
      exact mretQZ hx hb hr hlk h (Or.inl rfl) hP hD hS dX9_goesOn_148
    · have h := it_f c11 h
      refine lv_aload_n hx hb dX9_goesOn_130 rfl (lv_at hl 1 rfl) ?_
      refine lv_iload_n hx hb dX9_goesOn_131 rfl (lv_at hl 2 rfl) ?_
      refine lv_iload_n hx hb dX9_goesOn_132 rfl (lv_at hl 3 rfl) ?_
      refine lv_iconst (v := (4 : Int32)) hx hb dX9_goesOn_133 (by decide) ?_
      refine lv_iadd hx hb dX9_goesOn_134 ?_
      refine lv_iload hx hb dX9_goesOn_135 (lv_at hl 4 rfl) ?_
      obtain ⟨⟨v12, σ13⟩, hc_v12, h⟩ := bd_some h
      refine mcallQZ (wf := (cW a cs sh LP Z)) (va_runS (As := [.ref (a 22), .int x1, .int (x2 + (4 : Int32)), .int x4]) (rest := []) ⟨hx, hb, hml, hown, hts⟩ (kX9_triesOn_22 l D cs a sh LP Z hZ σ d kg hg x1 (x2 + (4 : Int32)) x4 v12 σ13 hc_v12 _) (va_cwS 4 hts gX9_goesOn_X9_triesOn rfl rfl rfl (by decide +kernel) ⟨by show 2 * d + 1 + 1 ≤ 2 * (d + 1); omega, by show 8 + (4 + 11) + (8 + (7 + 11) + 60 * d) ≤ 60 * (d + 1); omega⟩) (pQ_s hP hK hD) rfl rfl hl.1 rfl (lv_room (Nat.le_of_ble_eq_true rfl)) dX9_goesOn_137 ⟨Nat.zero_le _, Nat.zero_le _⟩) hD hS hA (fun z_v12 H locs hP hD hS => ?_)
      refine lv_if_eq (tgt := 147) hx hb dX9_goesOn_140 (by decide) (fun c14 => ?_) (fun c14 => ?_)
      · have h := it_t c14 h
        refine lv_iconst (v := (0 : Int32)) hx hb dX9_goesOn_147 (by decide) ?_
        exact mretQZ hx hb hr hlk h (Or.inl rfl) hP hD hS dX9_goesOn_148
      · have h := it_f c14 h
        refine lv_iconst (v := (1 : Int32)) hx hb dX9_goesOn_143 (by decide) ?_
        refine lv_goto (tgt := 148) hx hb dX9_goesOn_144 (by decide) ?_
        exact mretQZ hx hb hr hlk h (Or.inr rfl) hP hD hS dX9_goesOn_148
set_option maxHeartbeats 4000000 in
set_option maxRecDepth 100000 in
theorem wX9_goesOn_22_J112 {p : Program} {l : Launch} {e : Env} {s : State} {m : MethodId} {args : Array Value} {below : List Frame} {meth : Method} {c : Code} (C : cxt p s m args meth c cX9_goesOn 7 RX9 wsX9_goesOn (some .boolean)) {D : va_G} {cs : Nat → ClassId} {a : Nat → Nat} {sh : Nat → Option Nat} {LP : List Nat} {Z : ZT} (hZ : shOK sh LP Z) (hK : KK D cs s) {A : Nat → Prop} (hA : ∀ q, s.heap.size ≤ q → A q) {d : Nat} {kg : (Nat → Nat → Int32) → Int32 → Int32 → Int32 → Option (Int32 × (Nat → Nat → Int32))} (hg : ∀ (σ : Nat → Nat → Int32) (x1 x2 x3 : Int32) (r : Int32) (u9 : Nat → Nat → Int32), kg σ x1 x2 x3 = some (r, u9) → ∀ sz : Nat, Met l yX9_goesOn wsX9_goesOn (rmG d) (va_Pc [.ref (a 22), .int x1, .int x2, .int x3] (pQ D cs (cW a cs sh LP Z σ) sz)) (va_Qi (fun x y => (x = r ∧ (r = 0 ∨ r = 1)) ∧ y = u9) (qB D (cW a cs sh LP Z) (va_A (cW a cs sh LP Z σ) sz)) (va_A (cW a cs sh LP Z σ) sz)) 0 0 (va_A (cW a cs sh LP Z σ) sz)) (r : Int32) (u9 : Nat → Nat → Int32) (x1 : Int32) (x2 : Int32) (x4 : Int32) (σ : Nat → Nat → Int32) (H : Heap) (locs : List Loc) (ls : Array Slot) (hP : va_P D vwCl (cW a cs sh LP Z σ) H) (hD : va_D A (cW a cs sh LP Z σ)) (hS : va_S A s.heap H locs) (hl : lv_has ls 7 [(0, .ref (a 22)), (1, .int x1), (2, .int x2), (4, .int x4)]) (h : fX9_goesOn_J112 22 kg sh Z x1 x2 x4 σ = some (r, u9)) : W p l e (rmG (d + 1)) s m args below meth c H locs 0 0 (MQ below (va_Qi (fun x y => (x = r ∧ (r = 0 ∨ r = 1)) ∧ y = u9) (qB D (cW a cs sh LP Z) A) A) args s 0 0 A) (F0 m 112 ls []) := by
  obtain ⟨hx, hb, hml, hown, hts, hr, hlk⟩ := id C
  unfold fX9_goesOn_J112 at h
  refine lv_iconst (v := (1 : Int32)) hx hb dX9_goesOn_112 (by decide) ?_
  refine lv_goto (tgt := 117) hx hb dX9_goesOn_113 (by decide) ?_
  exact wX9_goesOn_22_J117 C hZ hK hA hg r u9 x1 x2 x4 (1 : Int32) σ _ _ ls hP hD hS (lv_sub hl [0, 1, 2, 3] rfl) h
set_option maxHeartbeats 4000000 in
set_option maxRecDepth 100000 in
theorem wX9_goesOn_22_J116 {p : Program} {l : Launch} {e : Env} {s : State} {m : MethodId} {args : Array Value} {below : List Frame} {meth : Method} {c : Code} (C : cxt p s m args meth c cX9_goesOn 7 RX9 wsX9_goesOn (some .boolean)) {D : va_G} {cs : Nat → ClassId} {a : Nat → Nat} {sh : Nat → Option Nat} {LP : List Nat} {Z : ZT} (hZ : shOK sh LP Z) (hK : KK D cs s) {A : Nat → Prop} (hA : ∀ q, s.heap.size ≤ q → A q) {d : Nat} {kg : (Nat → Nat → Int32) → Int32 → Int32 → Int32 → Option (Int32 × (Nat → Nat → Int32))} (hg : ∀ (σ : Nat → Nat → Int32) (x1 x2 x3 : Int32) (r : Int32) (u9 : Nat → Nat → Int32), kg σ x1 x2 x3 = some (r, u9) → ∀ sz : Nat, Met l yX9_goesOn wsX9_goesOn (rmG d) (va_Pc [.ref (a 22), .int x1, .int x2, .int x3] (pQ D cs (cW a cs sh LP Z σ) sz)) (va_Qi (fun x y => (x = r ∧ (r = 0 ∨ r = 1)) ∧ y = u9) (qB D (cW a cs sh LP Z) (va_A (cW a cs sh LP Z σ) sz)) (va_A (cW a cs sh LP Z σ) sz)) 0 0 (va_A (cW a cs sh LP Z σ) sz)) (r : Int32) (u9 : Nat → Nat → Int32) (x1 : Int32) (x2 : Int32) (x4 : Int32) (σ : Nat → Nat → Int32) (H : Heap) (locs : List Loc) (ls : Array Slot) (hP : va_P D vwCl (cW a cs sh LP Z σ) H) (hD : va_D A (cW a cs sh LP Z σ)) (hS : va_S A s.heap H locs) (hl : lv_has ls 7 [(0, .ref (a 22)), (1, .int x1), (2, .int x2), (4, .int x4)]) (h : fX9_goesOn_J116 22 kg sh Z x1 x2 x4 σ = some (r, u9)) : W p l e (rmG (d + 1)) s m args below meth c H locs 0 0 (MQ below (va_Qi (fun x y => (x = r ∧ (r = 0 ∨ r = 1)) ∧ y = u9) (qB D (cW a cs sh LP Z) A) A) args s 0 0 A) (F0 m 116 ls []) := by
  obtain ⟨hx, hb, hml, hown, hts, hr, hlk⟩ := id C
  unfold fX9_goesOn_J116 at h
  refine lv_iconst (v := (0 : Int32)) hx hb dX9_goesOn_116 (by decide) ?_
  exact wX9_goesOn_22_J117 C hZ hK hA hg r u9 x1 x2 x4 (0 : Int32) σ _ _ ls hP hD hS (lv_sub hl [0, 1, 2, 3] rfl) h
set_option maxHeartbeats 4000000 in
set_option maxRecDepth 100000 in
theorem wX9_goesOn_22_J86 {p : Program} {l : Launch} {e : Env} {s : State} {m : MethodId} {args : Array Value} {below : List Frame} {meth : Method} {c : Code} (C : cxt p s m args meth c cX9_goesOn 7 RX9 wsX9_goesOn (some .boolean)) {D : va_G} {cs : Nat → ClassId} {a : Nat → Nat} {sh : Nat → Option Nat} {LP : List Nat} {Z : ZT} (hZ : shOK sh LP Z) (hK : KK D cs s) {A : Nat → Prop} (hA : ∀ q, s.heap.size ≤ q → A q) {d : Nat} {kg : (Nat → Nat → Int32) → Int32 → Int32 → Int32 → Option (Int32 × (Nat → Nat → Int32))} (hg : ∀ (σ : Nat → Nat → Int32) (x1 x2 x3 : Int32) (r : Int32) (u9 : Nat → Nat → Int32), kg σ x1 x2 x3 = some (r, u9) → ∀ sz : Nat, Met l yX9_goesOn wsX9_goesOn (rmG d) (va_Pc [.ref (a 22), .int x1, .int x2, .int x3] (pQ D cs (cW a cs sh LP Z σ) sz)) (va_Qi (fun x y => (x = r ∧ (r = 0 ∨ r = 1)) ∧ y = u9) (qB D (cW a cs sh LP Z) (va_A (cW a cs sh LP Z σ) sz)) (va_A (cW a cs sh LP Z σ) sz)) 0 0 (va_A (cW a cs sh LP Z σ) sz)) (r : Int32) (u9 : Nat → Nat → Int32) (x1 : Int32) (x2 : Int32) (x4 : Int32) (x5 : Int32) (t0 : Int32) (σ : Nat → Nat → Int32) (H : Heap) (locs : List Loc) (ls : Array Slot) (hP : va_P D vwCl (cW a cs sh LP Z σ) H) (hD : va_D A (cW a cs sh LP Z σ)) (hS : va_S A s.heap H locs) (hl : lv_has ls 7 [(0, .ref (a 22)), (1, .int x1), (2, .int x2), (4, .int x4), (5, .int x5)]) (h : fX9_goesOn_J86 22 kg sh Z x1 x2 x4 x5 t0 σ = some (r, u9)) : W p l e (rmG (d + 1)) s m args below meth c H locs 0 0 (MQ below (va_Qi (fun x y => (x = r ∧ (r = 0 ∨ r = 1)) ∧ y = u9) (qB D (cW a cs sh LP Z) A) A) args s 0 0 A) (F0 m 86 ls [.int t0]) := by
  obtain ⟨hx, hb, hml, hown, hts, hr, hlk⟩ := id C
  unfold fX9_goesOn_J86 at h
  refine lv_istore (lv' := [(6, .int t0), (0, .ref (a 22)), (1, .int x1), (2, .int x2), (4, .int x4), (5, .int x5)]) hx hb dX9_goesOn_86 hl (by decide) rfl (fun ls hl => ?_)
  refine lv_iload hx hb dX9_goesOn_88 (lv_at hl 0 rfl) ?_
  refine lv_if_ne (tgt := 112) hx hb dX9_goesOn_90 (by decide) (fun c9 => ?_) (fun c9 => ?_)
  · have h := it_t c9 h
    exact wX9_goesOn_22_J112 C hZ hK hA hg r u9 x1 x2 x4 σ _ _ ls hP hD hS (lv_sub hl [1, 2, 3, 4] rfl) h
  · have h := it_n c9 h
    refine lv_iload hx hb dX9_goesOn_93 (lv_at hl 5 rfl) ?_
    refine lv_iconst (v := (3 : Int32)) hx hb dX9_goesOn_95 (by decide) ?_
    refine lv_icmp_ge (tgt := 116) hx hb dX9_goesOn_96 (by decide) (fun c10 => ?_) (fun c10 => ?_)
    · have h := it_t c10 h
      exact wX9_goesOn_22_J116 C hZ hK hA hg r u9 x1 x2 x4 σ _ _ ls hP hD hS (lv_sub hl [1, 2, 3, 4] rfl) h
    · have h := it_f c10 h
      refine lv_aload_n hx hb dX9_goesOn_99 rfl (lv_at hl 1 rfl) ?_
      refine lv_iload_n hx hb dX9_goesOn_100 rfl (lv_at hl 2 rfl) ?_
      refine lv_iload_n hx hb dX9_goesOn_101 rfl (lv_at hl 3 rfl) ?_
      refine lv_iconst (v := (1 : Int32)) hx hb dX9_goesOn_102 (by decide) ?_
      refine lv_iadd hx hb dX9_goesOn_103 ?_
      refine lv_iload hx hb dX9_goesOn_104 (lv_at hl 4 rfl) ?_
      obtain ⟨⟨v11, σ12⟩, hc_v11, h⟩ := bd_some h
      refine mcallQZ (wf := (cW a cs sh LP Z)) (va_runS (As := [.ref (a 22), .int x1, .int (x2 + (1 : Int32)), .int x4]) (rest := []) ⟨hx, hb, hml, hown, hts⟩ (kX9_triesOn_22 l D cs a sh LP Z hZ σ d kg hg x1 (x2 + (1 : Int32)) x4 v11 σ12 hc_v11 _) (va_cwS 4 hts gX9_goesOn_X9_triesOn rfl rfl rfl (by decide +kernel) ⟨by show 2 * d + 1 + 1 ≤ 2 * (d + 1); omega, by show 8 + (4 + 11) + (8 + (7 + 11) + 60 * d) ≤ 60 * (d + 1); omega⟩) (pQ_s hP hK hD) rfl rfl hl.1 rfl (lv_room (Nat.le_of_ble_eq_true rfl)) dX9_goesOn_106 ⟨Nat.zero_le _, Nat.zero_le _⟩) hD hS hA (fun z_v11 H locs hP hD hS => ?_)
      refine lv_if_eq (tgt := 116) hx hb dX9_goesOn_109 (by decide) (fun c13 => ?_) (fun c13 => ?_)
      · have h := it_t c13 h
        exact wX9_goesOn_22_J116 C hZ hK hA hg r u9 x1 x2 x4 σ12 _ _ ls hP hD hS (lv_sub hl [1, 2, 3, 4] rfl) h
      · have h := it_f c13 h
        exact wX9_goesOn_22_J112 C hZ hK hA hg r u9 x1 x2 x4 σ12 _ _ ls hP hD hS (lv_sub hl [1, 2, 3, 4] rfl) h
set_option maxHeartbeats 4000000 in
set_option maxRecDepth 100000 in
theorem wX9_goesOn_22_J81 {p : Program} {l : Launch} {e : Env} {s : State} {m : MethodId} {args : Array Value} {below : List Frame} {meth : Method} {c : Code} (C : cxt p s m args meth c cX9_goesOn 7 RX9 wsX9_goesOn (some .boolean)) {D : va_G} {cs : Nat → ClassId} {a : Nat → Nat} {sh : Nat → Option Nat} {LP : List Nat} {Z : ZT} (hZ : shOK sh LP Z) (hK : KK D cs s) {A : Nat → Prop} (hA : ∀ q, s.heap.size ≤ q → A q) {d : Nat} {kg : (Nat → Nat → Int32) → Int32 → Int32 → Int32 → Option (Int32 × (Nat → Nat → Int32))} (hg : ∀ (σ : Nat → Nat → Int32) (x1 x2 x3 : Int32) (r : Int32) (u9 : Nat → Nat → Int32), kg σ x1 x2 x3 = some (r, u9) → ∀ sz : Nat, Met l yX9_goesOn wsX9_goesOn (rmG d) (va_Pc [.ref (a 22), .int x1, .int x2, .int x3] (pQ D cs (cW a cs sh LP Z σ) sz)) (va_Qi (fun x y => (x = r ∧ (r = 0 ∨ r = 1)) ∧ y = u9) (qB D (cW a cs sh LP Z) (va_A (cW a cs sh LP Z σ) sz)) (va_A (cW a cs sh LP Z σ) sz)) 0 0 (va_A (cW a cs sh LP Z σ) sz)) (r : Int32) (u9 : Nat → Nat → Int32) (x1 : Int32) (x2 : Int32) (x4 : Int32) (x5 : Int32) (σ : Nat → Nat → Int32) (H : Heap) (locs : List Loc) (ls : Array Slot) (hP : va_P D vwCl (cW a cs sh LP Z σ) H) (hD : va_D A (cW a cs sh LP Z σ)) (hS : va_S A s.heap H locs) (hl : lv_has ls 7 [(0, .ref (a 22)), (1, .int x1), (2, .int x2), (4, .int x4), (5, .int x5)]) (h : fX9_goesOn_J81 22 kg sh Z x1 x2 x4 x5 σ = some (r, u9)) : W p l e (rmG (d + 1)) s m args below meth c H locs 0 0 (MQ below (va_Qi (fun x y => (x = r ∧ (r = 0 ∨ r = 1)) ∧ y = u9) (qB D (cW a cs sh LP Z) A) A) args s 0 0 A) (F0 m 81 ls []) := by
  obtain ⟨hx, hb, hml, hown, hts, hr, hlk⟩ := id C
  unfold fX9_goesOn_J81 at h
  refine lv_iconst (v := (1 : Int32)) hx hb dX9_goesOn_81 (by decide) ?_
  refine lv_goto (tgt := 86) hx hb dX9_goesOn_82 (by decide) ?_
  exact wX9_goesOn_22_J86 C hZ hK hA hg r u9 x1 x2 x4 x5 (1 : Int32) σ _ _ ls hP hD hS (lv_sub hl [0, 1, 2, 3, 4] rfl) h
set_option maxHeartbeats 4000000 in
set_option maxRecDepth 100000 in
theorem wX9_goesOn_22_J85 {p : Program} {l : Launch} {e : Env} {s : State} {m : MethodId} {args : Array Value} {below : List Frame} {meth : Method} {c : Code} (C : cxt p s m args meth c cX9_goesOn 7 RX9 wsX9_goesOn (some .boolean)) {D : va_G} {cs : Nat → ClassId} {a : Nat → Nat} {sh : Nat → Option Nat} {LP : List Nat} {Z : ZT} (hZ : shOK sh LP Z) (hK : KK D cs s) {A : Nat → Prop} (hA : ∀ q, s.heap.size ≤ q → A q) {d : Nat} {kg : (Nat → Nat → Int32) → Int32 → Int32 → Int32 → Option (Int32 × (Nat → Nat → Int32))} (hg : ∀ (σ : Nat → Nat → Int32) (x1 x2 x3 : Int32) (r : Int32) (u9 : Nat → Nat → Int32), kg σ x1 x2 x3 = some (r, u9) → ∀ sz : Nat, Met l yX9_goesOn wsX9_goesOn (rmG d) (va_Pc [.ref (a 22), .int x1, .int x2, .int x3] (pQ D cs (cW a cs sh LP Z σ) sz)) (va_Qi (fun x y => (x = r ∧ (r = 0 ∨ r = 1)) ∧ y = u9) (qB D (cW a cs sh LP Z) (va_A (cW a cs sh LP Z σ) sz)) (va_A (cW a cs sh LP Z σ) sz)) 0 0 (va_A (cW a cs sh LP Z σ) sz)) (r : Int32) (u9 : Nat → Nat → Int32) (x1 : Int32) (x2 : Int32) (x4 : Int32) (x5 : Int32) (σ : Nat → Nat → Int32) (H : Heap) (locs : List Loc) (ls : Array Slot) (hP : va_P D vwCl (cW a cs sh LP Z σ) H) (hD : va_D A (cW a cs sh LP Z σ)) (hS : va_S A s.heap H locs) (hl : lv_has ls 7 [(0, .ref (a 22)), (1, .int x1), (2, .int x2), (4, .int x4), (5, .int x5)]) (h : fX9_goesOn_J85 22 kg sh Z x1 x2 x4 x5 σ = some (r, u9)) : W p l e (rmG (d + 1)) s m args below meth c H locs 0 0 (MQ below (va_Qi (fun x y => (x = r ∧ (r = 0 ∨ r = 1)) ∧ y = u9) (qB D (cW a cs sh LP Z) A) A) args s 0 0 A) (F0 m 85 ls []) := by
  obtain ⟨hx, hb, hml, hown, hts, hr, hlk⟩ := id C
  unfold fX9_goesOn_J85 at h
  refine lv_iconst (v := (0 : Int32)) hx hb dX9_goesOn_85 (by decide) ?_
  exact wX9_goesOn_22_J86 C hZ hK hA hg r u9 x1 x2 x4 x5 (0 : Int32) σ _ _ ls hP hD hS (lv_sub hl [0, 1, 2, 3, 4] rfl) h
set_option maxHeartbeats 4000000 in
set_option maxRecDepth 100000 in
theorem wX9_goesOn_22_J56 {p : Program} {l : Launch} {e : Env} {s : State} {m : MethodId} {args : Array Value} {below : List Frame} {meth : Method} {c : Code} (C : cxt p s m args meth c cX9_goesOn 7 RX9 wsX9_goesOn (some .boolean)) {D : va_G} {cs : Nat → ClassId} {a : Nat → Nat} {sh : Nat → Option Nat} {LP : List Nat} {Z : ZT} (hZ : shOK sh LP Z) (hK : KK D cs s) {A : Nat → Prop} (hA : ∀ q, s.heap.size ≤ q → A q) {d : Nat} {kg : (Nat → Nat → Int32) → Int32 → Int32 → Int32 → Option (Int32 × (Nat → Nat → Int32))} (hg : ∀ (σ : Nat → Nat → Int32) (x1 x2 x3 : Int32) (r : Int32) (u9 : Nat → Nat → Int32), kg σ x1 x2 x3 = some (r, u9) → ∀ sz : Nat, Met l yX9_goesOn wsX9_goesOn (rmG d) (va_Pc [.ref (a 22), .int x1, .int x2, .int x3] (pQ D cs (cW a cs sh LP Z σ) sz)) (va_Qi (fun x y => (x = r ∧ (r = 0 ∨ r = 1)) ∧ y = u9) (qB D (cW a cs sh LP Z) (va_A (cW a cs sh LP Z σ) sz)) (va_A (cW a cs sh LP Z σ) sz)) 0 0 (va_A (cW a cs sh LP Z σ) sz)) (r : Int32) (u9 : Nat → Nat → Int32) (x1 : Int32) (x2 : Int32) (x4 : Int32) (x5 : Int32) (t0 : Int32) (σ : Nat → Nat → Int32) (H : Heap) (locs : List Loc) (ls : Array Slot) (hP : va_P D vwCl (cW a cs sh LP Z σ) H) (hD : va_D A (cW a cs sh LP Z σ)) (hS : va_S A s.heap H locs) (hl : lv_has ls 7 [(0, .ref (a 22)), (1, .int x1), (2, .int x2), (4, .int x4), (5, .int x5)]) (h : fX9_goesOn_J56 22 kg sh Z x1 x2 x4 x5 t0 σ = some (r, u9)) : W p l e (rmG (d + 1)) s m args below meth c H locs 0 0 (MQ below (va_Qi (fun x y => (x = r ∧ (r = 0 ∨ r = 1)) ∧ y = u9) (qB D (cW a cs sh LP Z) A) A) args s 0 0 A) (F0 m 56 ls [.int t0]) := by
  obtain ⟨hx, hb, hml, hown, hts, hr, hlk⟩ := id C
  unfold fX9_goesOn_J56 at h
  refine lv_istore (lv' := [(6, .int t0), (0, .ref (a 22)), (1, .int x1), (2, .int x2), (4, .int x4), (5, .int x5)]) hx hb dX9_goesOn_56 hl (by decide) rfl (fun ls hl => ?_)
  refine lv_iload hx hb dX9_goesOn_58 (lv_at hl 0 rfl) ?_
  refine lv_if_ne (tgt := 81) hx hb dX9_goesOn_60 (by decide) (fun c8 => ?_) (fun c8 => ?_)
  · have h := it_t c8 h
    exact wX9_goesOn_22_J81 C hZ hK hA hg r u9 x1 x2 x4 x5 σ _ _ ls hP hD hS (lv_sub hl [1, 2, 3, 4, 5] rfl) h
  · have h := it_n c8 h
    refine lv_iload hx hb dX9_goesOn_63 (lv_at hl 5 rfl) ?_
    refine lv_if_le (tgt := 85) hx hb dX9_goesOn_65 (by decide) (fun c9 => ?_) (fun c9 => ?_)
    · have h := it_t c9 h
      exact wX9_goesOn_22_J85 C hZ hK hA hg r u9 x1 x2 x4 x5 σ _ _ ls hP hD hS (lv_sub hl [1, 2, 3, 4, 5] rfl) h
    · have h := it_f c9 h
      refine lv_aload_n hx hb dX9_goesOn_68 rfl (lv_at hl 1 rfl) ?_
      refine lv_iload_n hx hb dX9_goesOn_69 rfl (lv_at hl 2 rfl) ?_
      refine lv_iload_n hx hb dX9_goesOn_70 rfl (lv_at hl 3 rfl) ?_
      refine lv_iconst (v := (1 : Int32)) hx hb dX9_goesOn_71 (by decide) ?_
      refine lv_isub hx hb dX9_goesOn_72 ?_
      refine lv_iload hx hb dX9_goesOn_73 (lv_at hl 4 rfl) ?_
      obtain ⟨⟨v10, σ11⟩, hc_v10, h⟩ := bd_some h
      refine mcallQZ (wf := (cW a cs sh LP Z)) (va_runS (As := [.ref (a 22), .int x1, .int (x2 - (1 : Int32)), .int x4]) (rest := []) ⟨hx, hb, hml, hown, hts⟩ (kX9_triesOn_22 l D cs a sh LP Z hZ σ d kg hg x1 (x2 - (1 : Int32)) x4 v10 σ11 hc_v10 _) (va_cwS 4 hts gX9_goesOn_X9_triesOn rfl rfl rfl (by decide +kernel) ⟨by show 2 * d + 1 + 1 ≤ 2 * (d + 1); omega, by show 8 + (4 + 11) + (8 + (7 + 11) + 60 * d) ≤ 60 * (d + 1); omega⟩) (pQ_s hP hK hD) rfl rfl hl.1 rfl (lv_room (Nat.le_of_ble_eq_true rfl)) dX9_goesOn_75 ⟨Nat.zero_le _, Nat.zero_le _⟩) hD hS hA (fun z_v10 H locs hP hD hS => ?_)
      refine lv_if_eq (tgt := 85) hx hb dX9_goesOn_78 (by decide) (fun c12 => ?_) (fun c12 => ?_)
      · have h := it_t c12 h
        exact wX9_goesOn_22_J85 C hZ hK hA hg r u9 x1 x2 x4 x5 σ11 _ _ ls hP hD hS (lv_sub hl [1, 2, 3, 4, 5] rfl) h
      · have h := it_f c12 h
        exact wX9_goesOn_22_J81 C hZ hK hA hg r u9 x1 x2 x4 x5 σ11 _ _ ls hP hD hS (lv_sub hl [1, 2, 3, 4, 5] rfl) h
set_option maxHeartbeats 4000000 in
set_option maxRecDepth 100000 in
theorem wX9_goesOn_22_J55 {p : Program} {l : Launch} {e : Env} {s : State} {m : MethodId} {args : Array Value} {below : List Frame} {meth : Method} {c : Code} (C : cxt p s m args meth c cX9_goesOn 7 RX9 wsX9_goesOn (some .boolean)) {D : va_G} {cs : Nat → ClassId} {a : Nat → Nat} {sh : Nat → Option Nat} {LP : List Nat} {Z : ZT} (hZ : shOK sh LP Z) (hK : KK D cs s) {A : Nat → Prop} (hA : ∀ q, s.heap.size ≤ q → A q) {d : Nat} {kg : (Nat → Nat → Int32) → Int32 → Int32 → Int32 → Option (Int32 × (Nat → Nat → Int32))} (hg : ∀ (σ : Nat → Nat → Int32) (x1 x2 x3 : Int32) (r : Int32) (u9 : Nat → Nat → Int32), kg σ x1 x2 x3 = some (r, u9) → ∀ sz : Nat, Met l yX9_goesOn wsX9_goesOn (rmG d) (va_Pc [.ref (a 22), .int x1, .int x2, .int x3] (pQ D cs (cW a cs sh LP Z σ) sz)) (va_Qi (fun x y => (x = r ∧ (r = 0 ∨ r = 1)) ∧ y = u9) (qB D (cW a cs sh LP Z) (va_A (cW a cs sh LP Z σ) sz)) (va_A (cW a cs sh LP Z σ) sz)) 0 0 (va_A (cW a cs sh LP Z σ) sz)) (r : Int32) (u9 : Nat → Nat → Int32) (x1 : Int32) (x2 : Int32) (x4 : Int32) (x5 : Int32) (σ : Nat → Nat → Int32) (H : Heap) (locs : List Loc) (ls : Array Slot) (hP : va_P D vwCl (cW a cs sh LP Z σ) H) (hD : va_D A (cW a cs sh LP Z σ)) (hS : va_S A s.heap H locs) (hl : lv_has ls 7 [(0, .ref (a 22)), (1, .int x1), (2, .int x2), (4, .int x4), (5, .int x5)]) (h : fX9_goesOn_J55 22 kg sh Z x1 x2 x4 x5 σ = some (r, u9)) : W p l e (rmG (d + 1)) s m args below meth c H locs 0 0 (MQ below (va_Qi (fun x y => (x = r ∧ (r = 0 ∨ r = 1)) ∧ y = u9) (qB D (cW a cs sh LP Z) A) A) args s 0 0 A) (F0 m 55 ls []) := by
  obtain ⟨hx, hb, hml, hown, hts, hr, hlk⟩ := id C
  unfold fX9_goesOn_J55 at h
  refine lv_iconst (v := (0 : Int32)) hx hb dX9_goesOn_55 (by decide) ?_
  exact wX9_goesOn_22_J56 C hZ hK hA hg r u9 x1 x2 x4 x5 (0 : Int32) σ _ _ ls hP hD hS (lv_sub hl [0, 1, 2, 3, 4] rfl) h
set_option maxHeartbeats 4000000 in
set_option maxRecDepth 100000 in
theorem kX9_goesOn_22 (l : Launch) (D : va_G) (cs : Nat → ClassId) (a : Nat → Nat) (sh : Nat → Option Nat) (LP : List Nat) (Z : ZT) (hZ : shOK sh LP Z) (σ : Nat → Nat → Int32) (d : Nat) (x1 : Int32) (x2 : Int32) (x3 : Int32) (r : Int32) (u9 : Nat → Nat → Int32) (h : fX9_goesOn 22 d sh Z σ x1 x2 x3 = some (r, u9)) (sz : Nat) : Met l yX9_goesOn wsX9_goesOn (rmG d) (va_Pc [.ref (a 22), .int x1, .int x2, .int x3] (pQ D cs (cW a cs sh LP Z σ) sz)) (va_Qi (fun x y => (x = r ∧ (r = 0 ∨ r = 1)) ∧ y = u9) (qB D (cW a cs sh LP Z) (va_A (cW a cs sh LP Z σ) sz)) (va_A (cW a cs sh LP Z σ) sz)) 0 0 (va_A (cW a cs sh LP Z σ) sz) := by
  induction d generalizing σ x1 x2 x3 r u9 sz with
  | zero => cases h
  | succ d ih =>
    refine Met.ofW (cc := cX9_goesOn) (maxL := 7) (ret := (some .boolean)) (by decide) rfl ?_
    intro p e s m args below meth c s₁ B hml hv
    obtain ⟨rfl, hsz, hP, hK, hD0⟩ := hv
    have C : cxt p s m _ meth c cX9_goesOn 7 RX9 wsX9_goesOn (some .boolean) := ⟨B.exec, B.bytes, hml, findClass_of_methodNamed B.named, atoms_spec (ws := wsX9_goesOn) B.pre, B.returns, B.notSynchronized⟩
    obtain ⟨hx, hb, -, hown, hts, hr, hlk⟩ := id C
    subst hsz
    have hD := hD0.self (sz := s.heap.size)
    generalize hAe : va_A (cW a cs sh LP Z σ) s.heap.size = A at hD ⊢
    have hA : ∀ q : Nat, s.heap.size ≤ q → A q := fun q h => by rw [← hAe]; exact Or.inr h
    have hS : va_S A s.heap s.heap [] := va_S.rf
    refine entryW [.ref (a 22), .int x1, .int x2, .int x3] (n := 7) (Nat.le_of_ble_eq_true rfl) (fun ls hl => ?_)
    have hl : lv_has ls 7 [(0, .ref (a 22)), (1, .int x1), (2, .int x2), (3, .int x3)] := hl
    rw [fX9_goesOn] at h
    obtain ⟨kg, hg, h⟩ := nb_some (P := fun (kg : (Nat → Nat → Int32) → Int32 → Int32 → Int32 → Option (Int32 × (Nat → Nat → Int32))) => ∀ (σ : Nat → Nat → Int32) (x1 x2 x3 : Int32) (r : Int32) (u9 : Nat → Nat → Int32), kg σ x1 x2 x3 = some (r, u9) → ∀ sz : Nat, Met l yX9_goesOn wsX9_goesOn (rmG d) (va_Pc [.ref (a 22), .int x1, .int x2, .int x3] (pQ D cs (cW a cs sh LP Z σ) sz)) (va_Qi (fun x y => (x = r ∧ (r = 0 ∨ r = 1)) ∧ y = u9) (qB D (cW a cs sh LP Z) (va_A (cW a cs sh LP Z σ) sz)) (va_A (cW a cs sh LP Z σ) sz)) 0 0 (va_A (cW a cs sh LP Z σ) sz)) h ih
    refine lv_iload_n hx hb dX9_goesOn_0 rfl (lv_at hl 1 rfl) ?_
    refine lv_bipush (v := (16 : Int32)) hx hb dX9_goesOn_1 (by decide) ?_
    refine lv_icmp_lt (tgt := 8) hx hb dX9_goesOn_3 (by decide) (fun c1 => ?_) (fun c1 => ?_)
    · have h := it_t c1 h
      refine lv_aload_n hx hb dX9_goesOn_8 rfl (lv_at hl 0 rfl) ?_
      refine lv_iload_n hx hb dX9_goesOn_9 rfl (lv_at hl 1 rfl) ?_
      refine lv_iload_n hx hb dX9_goesOn_10 rfl (lv_at hl 2 rfl) ?_
      obtain ⟨i2, h⟩ := aS_some h
      refine va_iast hx hb hK.1 hP hD hS 22 0 rfl rfl i2 dX9_goesOn_11 (fun H locs hP hD hS => ?_)
      obtain ⟨σ3, e_σ3, h⟩ := nm_some h
      have hP : va_P D vwCl (cW a cs sh LP Z σ3) H := by rw [← e_σ3]; exact hP
      have hD : va_D A (cW a cs sh LP Z σ3) := by rw [← e_σ3]; exact hD
      refine lv_iload_n hx hb dX9_goesOn_12 rfl (lv_at hl 3 rfl) ?_
      refine lv_iconst (v := (1 : Int32)) hx hb dX9_goesOn_13 (by decide) ?_
      refine lv_iload_n hx hb dX9_goesOn_14 rfl (lv_at hl 2 rfl) ?_
      refine lv_ishl hx hb dX9_goesOn_15 ?_
      refine lv_iconst (v := ((-1) : Int32)) hx hb dX9_goesOn_16 (by decide) ?_
      refine lv_ixor hx hb dX9_goesOn_17 ?_
      refine lv_iand hx hb dX9_goesOn_18 ?_
      obtain ⟨z4, e_z4, h⟩ := nm_some h
      refine tpi e_z4 ?_
      refine lv_istore (lv' := [(4, .int z4), (0, .ref (a 22)), (1, .int x1), (2, .int x2), (3, .int x3)]) hx hb dX9_goesOn_19 hl (by decide) rfl (fun ls hl => ?_)
      refine lv_iload hx hb dX9_goesOn_21 (lv_at hl 0 rfl) ?_
      refine lv_if_ne (tgt := 28) hx hb dX9_goesOn_23 (by decide) (fun c5 => ?_) (fun c5 => ?_)
      · have h := it_t c5 h
        refine lv_iload_n hx hb dX9_goesOn_28 rfl (lv_at hl 3 rfl) ?_
        refine lv_iconst (v := (4 : Int32)) hx hb dX9_goesOn_29 (by decide) ?_
        refine lv_irem hx hb dX9_goesOn_30 (by decide) ?_
        obtain ⟨z6, e_z6, h⟩ := nm_some h
        refine tpi e_z6 ?_
        refine lv_istore (lv' := [(5, .int z6), (4, .int z4), (0, .ref (a 22)), (1, .int x1), (2, .int x2), (3, .int x3)]) hx hb dX9_goesOn_31 hl (by decide) rfl (fun ls hl => ?_)
        refine lv_iload_n hx hb dX9_goesOn_33 rfl (lv_at hl 4 rfl) ?_
        refine lv_iconst (v := (4 : Int32)) hx hb dX9_goesOn_34 (by decide) ?_
        refine lv_icmp_lt (tgt := 55) hx hb dX9_goesOn_35 (by decide) (fun c7 => ?_) (fun c7 => ?_)
        · have h := it_t c7 h
          exact wX9_goesOn_22_J55 C hZ hK hA hg r u9 x1 x2 z4 z6 σ3 _ _ ls hP hD hS (lv_sub hl [2, 3, 4, 1, 0] rfl) h
        · have h := it_f c7 h
          refine lv_aload_n hx hb dX9_goesOn_38 rfl (lv_at hl 2 rfl) ?_
          refine lv_iload_n hx hb dX9_goesOn_39 rfl (lv_at hl 3 rfl) ?_
          refine lv_iload_n hx hb dX9_goesOn_40 rfl (lv_at hl 4 rfl) ?_
          refine lv_iconst (v := (4 : Int32)) hx hb dX9_goesOn_41 (by decide) ?_
          refine lv_isub hx hb dX9_goesOn_42 ?_
          refine lv_iload hx hb dX9_goesOn_43 (lv_at hl 1 rfl) ?_
          obtain ⟨⟨v8, σ9⟩, hc_v8, h⟩ := bd_some h
          refine mcallQZ (wf := (cW a cs sh LP Z)) (va_runS (As := [.ref (a 22), .int x1, .int (x2 - (4 : Int32)), .int z4]) (rest := []) ⟨hx, hb, hml, hown, hts⟩ (kX9_triesOn_22 l D cs a sh LP Z hZ σ3 d kg hg x1 (x2 - (4 : Int32)) z4 v8 σ9 hc_v8 _) (va_cwS 4 hts gX9_goesOn_X9_triesOn rfl rfl rfl (by decide +kernel) ⟨by show 2 * d + 1 + 1 ≤ 2 * (d + 1); omega, by show 8 + (4 + 11) + (8 + (7 + 11) + 60 * d) ≤ 60 * (d + 1); omega⟩) (pQ_s hP hK hD) rfl rfl hl.1 rfl (lv_room (Nat.le_of_ble_eq_true rfl)) dX9_goesOn_45 ⟨Nat.zero_le _, Nat.zero_le _⟩) hD hS hA (fun z_v8 H locs hP hD hS => ?_)
          refine lv_if_eq (tgt := 55) hx hb dX9_goesOn_48 (by decide) (fun c10 => ?_) (fun c10 => ?_)
          · have h := it_t c10 h
            exact wX9_goesOn_22_J55 C hZ hK hA hg r u9 x1 x2 z4 z6 σ9 _ _ ls hP hD hS (lv_sub hl [2, 3, 4, 1, 0] rfl) h
          · have h := it_f c10 h
            refine lv_iconst (v := (1 : Int32)) hx hb dX9_goesOn_51 (by decide) ?_
            refine lv_goto (tgt := 56) hx hb dX9_goesOn_52 (by decide) ?_
            exact wX9_goesOn_22_J56 C hZ hK hA hg r u9 x1 x2 z4 z6 (1 : Int32) σ9 _ _ ls hP hD hS (lv_sub hl [2, 3, 4, 1, 0] rfl) h
      · have h := it_n c5 h
        refine lv_iconst (v := (1 : Int32)) hx hb dX9_goesOn_26 (by decide) ?_
        exact mretQZ hx hb hr hlk h (Or.inr rfl) hP hD hS dX9_goesOn_27
    · have h := it_f c1 h
      refine lv_iconst (v := (0 : Int32)) hx hb dX9_goesOn_6 (by decide) ?_
      exact mretQZ hx hb hr hlk h (Or.inl rfl) hP hD hS dX9_goesOn_7
def fX9_lengthFrom_J77 (sh : Nat → Option Nat) (Z : ZT) (x1 : Int32) (σ : Nat → Nat → Int32) : Option (Int32 × (Nat → Nat → Int32)) :=
  aI (σ 23) 4 x1 fun v3 => some (v3, σ)
def fX9_lengthFrom_J76 (sh : Nat → Option Nat) (Z : ZT) (x1 : Int32) (t0 : Int32) (t1 : Int32) (σ : Nat → Nat → Int32) : Option (Int32 × (Nat → Nat → Int32)) :=
  aS 4 t1 (nm (sg σ 23 (upd (σ 23) t1.toNatClampNeg t0)) fun σ9 => fX9_lengthFrom_J77 sh Z x1 σ9)
def fX9_lengthFrom_J57 (sh : Nat → Option Nat) (Z : ZT) (x1 : Int32) (x2 : Int32) (t0 : Int32) (σ : Nat → Nat → Int32) : Option (Int32 × (Nat → Nat → Int32)) :=
  if t0 = 0 then (fX9_lengthFrom_J76 sh Z x1 ((-4) : Int32) x1 σ) else (bd (fJ6_bitCount_0f7a4 x2) fun v8 => fX9_lengthFrom_J76 sh Z x1 v8 x1 σ)
def fX9_lengthFrom_J56 (sh : Nat → Option Nat) (Z : ZT) (x1 : Int32) (x2 : Int32) (σ : Nat → Nat → Int32) : Option (Int32 × (Nat → Nat → Int32)) :=
  fX9_lengthFrom_J57 sh Z x1 x2 (0 : Int32) σ
def fX9_lengthFrom (sh : Nat → Option Nat) (Z : ZT) (σ : Nat → Nat → Int32) (x1 : Int32) : Option (Int32 × (Nat → Nat → Int32)) :=
  aI (σ 23) 4 x1 fun v1 => if ¬ v1 = ((-9) : Int32) then (fX9_lengthFrom_J77 sh Z x1 σ) else (nm ((65535 : Int32) &&& ((σ 39 0) ^^^ ((-1) : Int32))) fun z3 => aI gates 4 x1 fun v4 => bd (fX9_isOpen v4 z3) fun v5 => if v5 = 0 then (fX9_lengthFrom_J56 sh Z x1 z3 σ) else (sr4 x1 fun k8a => aI gates 4 x1 fun v9 => bd (fX9_goesOn k8a 17 sh Z σ (0 : Int32) v9 z3) fun (v10, σ11) => if v10 = 0 then (fX9_lengthFrom_J56 sh Z x1 z3 σ11) else (fX9_lengthFrom_J57 sh Z x1 z3 (1 : Int32) σ11)))
abbrev rmX9_lengthFrom : Room := { frames := 35, cells := 0, slots := 0, locals := 1046 }
theorem inX9_X9_lengthFrom : ∀ w ∈ wsX90, w ∈ wsX9_lengthFrom := by intro w h; simp only [wsX9_lengthFrom, List.mem_cons, List.mem_append]; simp only [h, true_or, or_true]
set_option maxHeartbeats 4000000 in
set_option maxRecDepth 100000 in
theorem wX9_lengthFrom_J77 {p : Program} {l : Launch} {e : Env} {s : State} {m : MethodId} {args : Array Value} {below : List Frame} {meth : Method} {c : Code} (C : cxt p s m args meth c cX9_lengthFrom 4 RX9 wsX9_lengthFrom (some .int)) {D : va_G} {cs : Nat → ClassId} {a : Nat → Nat} {sh : Nat → Option Nat} {LP : List Nat} {Z : ZT} (hZ : shOK sh LP Z) (hK : KK D cs s) {A : Nat → Prop} (hA : ∀ q, s.heap.size ≤ q → A q) (hG : GT A s) (r : Int32) (u9 : Nat → Nat → Int32) (x1 : Int32) (σ : Nat → Nat → Int32) (H : Heap) (locs : List Loc) (ls : Array Slot) (hP : va_P D vwCl (cW a cs sh LP Z σ) H) (hD : va_D A (cW a cs sh LP Z σ)) (hS : va_S A s.heap H locs) (hl : lv_has ls 4 [(0, .ref (a 17)), (1, .int x1)]) (h : fX9_lengthFrom_J77 sh Z x1 σ = some (r, u9)) : W p l e rmX9_lengthFrom s m args below meth c H locs 0 0 (MQ below (va_Qi (fun x y => x = r ∧ y = u9) (qB D (cW a cs sh LP Z) A) A) args s 0 0 A) (F0 m 77 ls []) := by
  obtain ⟨hx, hb, hml, hown, hts, hr, hlk⟩ := id C
  obtain ⟨t9, hZs, hT⟩ := id hG
  unfold fX9_lengthFrom_J77 at h
  refine lv_aload_n hx hb dX9_lengthFrom_77 rfl (lv_at hl 0 rfl) ?_
  refine va_get (D := D) (ci := 8) (v := .ref (a 23)) (C := RX9) (T := TX9) (N := 3) hx hb hts inX9_X9_lengthFrom hown hK.1 hP 17 rfl rfl 2 (by decide) (hts (.fieldLink RX9 16 "SandPalace$Sweeper" "lengths" "[I") (by decide +kernel)) (fun _ h9 => h9) rfl dX9_lengthFrom_78 ?_
  refine lv_iload_n hx hb dX9_lengthFrom_81 rfl (lv_at hl 1 rfl) ?_
  obtain ⟨v3, i_v3, e_v3, h⟩ := aI_some h
  refine miald hx hb hK.1 hP 23 0 rfl rfl i_v3 e_v3 dX9_lengthFrom_82 ?_
  exact mretQ hx hb hr hlk h hP hD hS dX9_lengthFrom_83
set_option maxHeartbeats 4000000 in
set_option maxRecDepth 100000 in
theorem wX9_lengthFrom_J76 {p : Program} {l : Launch} {e : Env} {s : State} {m : MethodId} {args : Array Value} {below : List Frame} {meth : Method} {c : Code} (C : cxt p s m args meth c cX9_lengthFrom 4 RX9 wsX9_lengthFrom (some .int)) {D : va_G} {cs : Nat → ClassId} {a : Nat → Nat} {sh : Nat → Option Nat} {LP : List Nat} {Z : ZT} (hZ : shOK sh LP Z) (hK : KK D cs s) {A : Nat → Prop} (hA : ∀ q, s.heap.size ≤ q → A q) (hG : GT A s) (r : Int32) (u9 : Nat → Nat → Int32) (x1 : Int32) (t0 : Int32) (t1 : Int32) (σ : Nat → Nat → Int32) (H : Heap) (locs : List Loc) (ls : Array Slot) (hP : va_P D vwCl (cW a cs sh LP Z σ) H) (hD : va_D A (cW a cs sh LP Z σ)) (hS : va_S A s.heap H locs) (hl : lv_has ls 4 [(0, .ref (a 17)), (1, .int x1)]) (h : fX9_lengthFrom_J76 sh Z x1 t0 t1 σ = some (r, u9)) : W p l e rmX9_lengthFrom s m args below meth c H locs 0 0 (MQ below (va_Qi (fun x y => x = r ∧ y = u9) (qB D (cW a cs sh LP Z) A) A) args s 0 0 A) (F0 m 76 ls [.int t0, .int t1, .ref (a 23)]) := by
  obtain ⟨hx, hb, hml, hown, hts, hr, hlk⟩ := id C
  obtain ⟨t9, hZs, hT⟩ := id hG
  unfold fX9_lengthFrom_J76 at h
  obtain ⟨i8, h⟩ := aS_some h
  refine va_iast hx hb hK.1 hP hD hS 23 0 rfl rfl i8 dX9_lengthFrom_76 (fun H locs hP hD hS => ?_)
  obtain ⟨σ9, e_σ9, h⟩ := nm_some h
  have hP : va_P D vwCl (cW a cs sh LP Z σ9) H := by rw [← e_σ9]; exact hP
  have hD : va_D A (cW a cs sh LP Z σ9) := by rw [← e_σ9]; exact hD
  exact wX9_lengthFrom_J77 C hZ hK hA hG r u9 x1 σ9 _ _ ls hP hD hS (lv_sub hl [0, 1] rfl) h
set_option maxHeartbeats 4000000 in
set_option maxRecDepth 100000 in
theorem wX9_lengthFrom_J57 {p : Program} {l : Launch} {e : Env} {s : State} {m : MethodId} {args : Array Value} {below : List Frame} {meth : Method} {c : Code} (C : cxt p s m args meth c cX9_lengthFrom 4 RX9 wsX9_lengthFrom (some .int)) {D : va_G} {cs : Nat → ClassId} {a : Nat → Nat} {sh : Nat → Option Nat} {LP : List Nat} {Z : ZT} (hZ : shOK sh LP Z) (hK : KK D cs s) {A : Nat → Prop} (hA : ∀ q, s.heap.size ≤ q → A q) (hG : GT A s) (r : Int32) (u9 : Nat → Nat → Int32) (x1 : Int32) (x2 : Int32) (t0 : Int32) (σ : Nat → Nat → Int32) (H : Heap) (locs : List Loc) (ls : Array Slot) (hP : va_P D vwCl (cW a cs sh LP Z σ) H) (hD : va_D A (cW a cs sh LP Z σ)) (hS : va_S A s.heap H locs) (hl : lv_has ls 4 [(0, .ref (a 17)), (1, .int x1), (2, .int x2)]) (h : fX9_lengthFrom_J57 sh Z x1 x2 t0 σ = some (r, u9)) : W p l e rmX9_lengthFrom s m args below meth c H locs 0 0 (MQ below (va_Qi (fun x y => x = r ∧ y = u9) (qB D (cW a cs sh LP Z) A) A) args s 0 0 A) (F0 m 57 ls [.int t0]) := by
  obtain ⟨hx, hb, hml, hown, hts, hr, hlk⟩ := id C
  obtain ⟨t9, hZs, hT⟩ := id hG
  unfold fX9_lengthFrom_J57 at h
  refine lv_istore_n (lv' := [(3, .int t0), (0, .ref (a 17)), (1, .int x1), (2, .int x2)]) hx hb dX9_lengthFrom_57 rfl hl (by decide) rfl (fun ls hl => ?_)
  refine lv_aload_n hx hb dX9_lengthFrom_58 rfl (lv_at hl 1 rfl) ?_
  refine va_get (D := D) (ci := 8) (v := .ref (a 23)) (C := RX9) (T := TX9) (N := 3) hx hb hts inX9_X9_lengthFrom hown hK.1 hP 17 rfl rfl 2 (by decide) (hts (.fieldLink RX9 16 "SandPalace$Sweeper" "lengths" "[I") (by decide +kernel)) (fun _ h9 => h9) rfl dX9_lengthFrom_59 ?_
  refine lv_iload_n hx hb dX9_lengthFrom_62 rfl (lv_at hl 2 rfl) ?_
  refine lv_iload_n hx hb dX9_lengthFrom_63 rfl (lv_at hl 0 rfl) ?_
  refine lv_if_eq (tgt := 74) hx hb dX9_lengthFrom_64 (by decide) (fun c7 => ?_) (fun c7 => ?_)
  · have h := it_t c7 h
    refine lv_bipush (v := ((-4) : Int32)) hx hb dX9_lengthFrom_74 (by decide) ?_
    exact wX9_lengthFrom_J76 C hZ hK hA hG r u9 x1 ((-4) : Int32) x1 σ _ _ ls hP hD hS (lv_sub hl [1, 2] rfl) h
  · have h := it_f c7 h
    refine lv_iload_n hx hb dX9_lengthFrom_67 rfl (lv_at hl 3 rfl) ?_
    obtain ⟨v8, hc_v8, h⟩ := bd_some h
    refine mcallS (va_runS (As := [.int x2]) (rest := [.int x1, .ref (a 23)]) ⟨hx, hb, hml, hown, hts⟩ (kJ6_bitCount_0f7a4 l x2 v8 hc_v8) (va_cwS 1 hts gX9_lengthFrom_J6_bitCount_0f7a4 rfl rfl rfl (by decide +kernel) ⟨Nat.le_of_ble_eq_true rfl, Nat.le_of_ble_eq_true rfl⟩) p0_s rfl rfl hl.1 rfl (lv_room (Nat.le_of_ble_eq_true rfl)) dX9_lengthFrom_68 ⟨Nat.zero_le _, Nat.zero_le _⟩) ?_
    refine lv_goto (tgt := 76) hx hb dX9_lengthFrom_71 (by decide) ?_
    exact wX9_lengthFrom_J76 C hZ hK hA hG r u9 x1 v8 x1 σ _ _ ls hP hD hS (lv_sub hl [1, 2] rfl) h
set_option maxHeartbeats 4000000 in
set_option maxRecDepth 100000 in
theorem wX9_lengthFrom_J56 {p : Program} {l : Launch} {e : Env} {s : State} {m : MethodId} {args : Array Value} {below : List Frame} {meth : Method} {c : Code} (C : cxt p s m args meth c cX9_lengthFrom 4 RX9 wsX9_lengthFrom (some .int)) {D : va_G} {cs : Nat → ClassId} {a : Nat → Nat} {sh : Nat → Option Nat} {LP : List Nat} {Z : ZT} (hZ : shOK sh LP Z) (hK : KK D cs s) {A : Nat → Prop} (hA : ∀ q, s.heap.size ≤ q → A q) (hG : GT A s) (r : Int32) (u9 : Nat → Nat → Int32) (x1 : Int32) (x2 : Int32) (σ : Nat → Nat → Int32) (H : Heap) (locs : List Loc) (ls : Array Slot) (hP : va_P D vwCl (cW a cs sh LP Z σ) H) (hD : va_D A (cW a cs sh LP Z σ)) (hS : va_S A s.heap H locs) (hl : lv_has ls 4 [(0, .ref (a 17)), (1, .int x1), (2, .int x2)]) (h : fX9_lengthFrom_J56 sh Z x1 x2 σ = some (r, u9)) : W p l e rmX9_lengthFrom s m args below meth c H locs 0 0 (MQ below (va_Qi (fun x y => x = r ∧ y = u9) (qB D (cW a cs sh LP Z) A) A) args s 0 0 A) (F0 m 56 ls []) := by
  obtain ⟨hx, hb, hml, hown, hts, hr, hlk⟩ := id C
  obtain ⟨t9, hZs, hT⟩ := id hG
  unfold fX9_lengthFrom_J56 at h
  refine lv_iconst (v := (0 : Int32)) hx hb dX9_lengthFrom_56 (by decide) ?_
  exact wX9_lengthFrom_J57 C hZ hK hA hG r u9 x1 x2 (0 : Int32) σ _ _ ls hP hD hS (lv_sub hl [0, 1, 2] rfl) h
set_option maxHeartbeats 4000000 in
set_option maxRecDepth 100000 in
theorem kX9_lengthFrom (l : Launch) (D : va_G) (cs : Nat → ClassId) (a : Nat → Nat) (sh : Nat → Option Nat) (LP : List Nat) (Z : ZT) (hZ : shOK sh LP Z) (σ : Nat → Nat → Int32) (x1 : Int32) (r : Int32) (u9 : Nat → Nat → Int32) (h : fX9_lengthFrom sh Z σ x1 = some (r, u9)) (sz : Nat) : Met l yX9_lengthFrom wsX9_lengthFrom rmX9_lengthFrom (va_Pc [.ref (a 17), .int x1] (pG D cs (cW a cs sh LP Z σ) sz)) (va_Qi (fun x y => x = r ∧ y = u9) (qB D (cW a cs sh LP Z) (va_A (cW a cs sh LP Z σ) sz)) (va_A (cW a cs sh LP Z σ) sz)) 0 0 (va_A (cW a cs sh LP Z σ) sz) := by
  refine Met.ofW (cc := cX9_lengthFrom) (maxL := 4) (ret := (some .int)) (by decide) rfl ?_
  intro p e s m args below meth c s₁ B hml hv
  obtain ⟨rfl, hsz, hP, hK, hD0, hG⟩ := hv
  have C : cxt p s m _ meth c cX9_lengthFrom 4 RX9 wsX9_lengthFrom (some .int) := ⟨B.exec, B.bytes, hml, findClass_of_methodNamed B.named, atoms_spec (ws := wsX9_lengthFrom) B.pre, B.returns, B.notSynchronized⟩
  obtain ⟨hx, hb, -, hown, hts, hr, hlk⟩ := id C
  subst hsz
  have hD := hD0.self (sz := s.heap.size)
  generalize hAe : va_A (cW a cs sh LP Z σ) s.heap.size = A at hD hG ⊢
  obtain ⟨t9, hZs, hT⟩ := id hG
  have hA : ∀ q : Nat, s.heap.size ≤ q → A q := fun q h => by rw [← hAe]; exact Or.inr h
  have hS : va_S A s.heap s.heap [] := va_S.rf
  refine entryW [.ref (a 17), .int x1] (n := 4) (Nat.le_of_ble_eq_true rfl) (fun ls hl => ?_)
  have hl : lv_has ls 4 [(0, .ref (a 17)), (1, .int x1)] := hl
  unfold fX9_lengthFrom at h
  refine lv_aload_n hx hb dX9_lengthFrom_0 rfl (lv_at hl 0 rfl) ?_
  refine va_get (D := D) (ci := 8) (v := .ref (a 23)) (C := RX9) (T := TX9) (N := 3) hx hb hts inX9_X9_lengthFrom hown hK.1 hP 17 rfl rfl 2 (by decide) (hts (.fieldLink RX9 16 "SandPalace$Sweeper" "lengths" "[I") (by decide +kernel)) (fun _ h9 => h9) rfl dX9_lengthFrom_1 ?_
  refine lv_iload_n hx hb dX9_lengthFrom_4 rfl (lv_at hl 1 rfl) ?_
  obtain ⟨v1, i_v1, e_v1, h⟩ := aI_some h
  refine miald hx hb hK.1 hP 23 0 rfl rfl i_v1 e_v1 dX9_lengthFrom_5 ?_
  refine lv_bipush (v := ((-9) : Int32)) hx hb dX9_lengthFrom_6 (by decide) ?_
  refine lv_icmp_ne (tgt := 77) hx hb dX9_lengthFrom_8 (by decide) (fun c2 => ?_) (fun c2 => ?_)
  · have h := it_t c2 h
    exact wX9_lengthFrom_J77 C hZ hK hA hG r u9 x1 σ _ _ ls hP hD hS (lv_sub hl [0, 1] rfl) h
  · have h := it_n c2 h
    refine lv_ldc hx hb hown (hts (.constant RX9 24 (65535)) (by decide +kernel)) dX9_lengthFrom_11 ?_
    refine lv_aload_n hx hb dX9_lengthFrom_13 rfl (lv_at hl 0 rfl) ?_
    refine va_get (D := D) (ci := 8) (v := .int (σ 39 0)) (C := RX9) (T := TX9) (N := 3) hx hb hts inX9_X9_lengthFrom hown hK.1 hP 17 rfl rfl 0 (by decide) (hts (.fieldLink RX9 20 "SandPalace$Sweeper" "barred" "I") (by decide +kernel)) (fun _ h9 => h9) rfl dX9_lengthFrom_14 ?_
    refine lv_iconst (v := ((-1) : Int32)) hx hb dX9_lengthFrom_17 (by decide) ?_
    refine lv_ixor hx hb dX9_lengthFrom_18 ?_
    refine lv_iand hx hb dX9_lengthFrom_19 ?_
    obtain ⟨z3, e_z3, h⟩ := nm_some h
    refine tpi e_z3 ?_
    refine lv_istore_n (lv' := [(2, .int z3), (0, .ref (a 17)), (1, .int x1)]) hx hb dX9_lengthFrom_20 rfl hl (by decide) rfl (fun ls hl => ?_)
    refine va_getsN hx hb hZs hS hown (hK.2.2.1.use rfl) (fun _ h9 => h9) dX9_lengthFrom_21 ?_
    refine lv_iload_n hx hb dX9_lengthFrom_24 rfl (lv_at hl 2 rfl) ?_
    obtain ⟨v4, i_v4, e_v4, h⟩ := aI_some h
    refine va_ti hx hb hT hS i_v4 (v := .int v4) (by show Value.int _ = _; rw [e_v4]) dX9_lengthFrom_25 ?_
    refine lv_iload_n hx hb dX9_lengthFrom_26 rfl (lv_at hl 0 rfl) ?_
    obtain ⟨v5, hc_v5, h⟩ := bd_some h
    refine mcallSZ (va_runS (As := [.int v4, .int z3]) (rest := []) ⟨hx, hb, hml, hown, hts⟩ (kX9_isOpen l v4 z3 v5 hc_v5) (va_cwS 2 hts gX9_lengthFrom_X9_isOpen rfl rfl rfl (by decide +kernel) ⟨Nat.le_of_ble_eq_true rfl, Nat.le_of_ble_eq_true rfl⟩) p0_s rfl rfl hl.1 rfl (lv_room (Nat.le_of_ble_eq_true rfl)) dX9_lengthFrom_27 ⟨Nat.zero_le _, Nat.zero_le _⟩) (fun z_v5 => ?_)
    refine lv_if_eq (tgt := 56) hx hb dX9_lengthFrom_30 (by decide) (fun c6 => ?_) (fun c6 => ?_)
    · have h := it_t c6 h
      exact wX9_lengthFrom_J56 C hZ hK hA hG r u9 x1 z3 σ _ _ ls hP hD hS (lv_sub hl [1, 2, 0] rfl) h
    · have h := it_f c6 h
      refine lv_aload_n hx hb dX9_lengthFrom_33 rfl (lv_at hl 1 rfl) ?_
      refine va_get (D := D) (ci := 8) (v := .ref (a 18)) (C := RX9) (T := TX9) (N := 3) hx hb hts inX9_X9_lengthFrom hown hK.1 hP 17 rfl rfl 1 (by decide) (hts (.fieldLink RX9 11 "SandPalace$Sweeper" "ways" "[[I") (by decide +kernel)) (fun _ h9 => h9) rfl dX9_lengthFrom_34 ?_
      refine lv_iload_n hx hb dX9_lengthFrom_37 rfl (lv_at hl 2 rfl) ?_
      rcases sr4_some h with ⟨c7, h⟩ | ⟨c7, h⟩ | ⟨c7, h⟩ | ⟨c7, h⟩
      · refine mwald hx hb hK.1 hP 18 4 rfl rfl (vin4_0 c7) (by rw [c7] <;> rfl) dX9_lengthFrom_38 ?_
        refine lv_iconst (v := (0 : Int32)) hx hb dX9_lengthFrom_39 (by decide) ?_
        refine va_getsN hx hb hZs hS hown (hK.2.2.1.use rfl) (fun _ h9 => h9) dX9_lengthFrom_40 ?_
        refine lv_iload_n hx hb dX9_lengthFrom_43 rfl (lv_at hl 2 rfl) ?_
        obtain ⟨v9, i_v9, e_v9, h⟩ := aI_some h
        refine va_ti hx hb hT hS i_v9 (v := .int v9) (by show Value.int _ = _; rw [e_v9]) dX9_lengthFrom_44 ?_
        refine lv_iload_n hx hb dX9_lengthFrom_45 rfl (lv_at hl 0 rfl) ?_
        obtain ⟨⟨v10, σ11⟩, hc_v10, h⟩ := bd_some h
        refine mcallQZ (wf := (cW a cs sh LP Z)) (va_runS (As := [.ref (a 19), .int (0 : Int32), .int v9, .int z3]) (rest := []) ⟨hx, hb, hml, hown, hts⟩ (kX9_goesOn_19 l D cs a sh LP Z hZ σ 17 (0 : Int32) v9 z3 v10 σ11 hc_v10 _) (va_cwS 4 hts gX9_lengthFrom_X9_goesOn rfl rfl rfl (by decide +kernel) ⟨Nat.le_of_ble_eq_true rfl, Nat.le_of_ble_eq_true rfl⟩) (pQ_s hP hK hD) rfl rfl hl.1 rfl (lv_room (Nat.le_of_ble_eq_true rfl)) dX9_lengthFrom_46 ⟨Nat.zero_le _, Nat.zero_le _⟩) hD hS hA (fun z_v10 H locs hP hD hS => ?_)
        refine lv_if_eq (tgt := 56) hx hb dX9_lengthFrom_49 (by decide) (fun c12 => ?_) (fun c12 => ?_)
        · have h := it_t c12 h
          exact wX9_lengthFrom_J56 C hZ hK hA hG r u9 x1 z3 σ11 _ _ ls hP hD hS (lv_sub hl [1, 2, 0] rfl) h
        · have h := it_f c12 h
          refine lv_iconst (v := (1 : Int32)) hx hb dX9_lengthFrom_52 (by decide) ?_
          refine lv_goto (tgt := 57) hx hb dX9_lengthFrom_53 (by decide) ?_
          exact wX9_lengthFrom_J57 C hZ hK hA hG r u9 x1 z3 (1 : Int32) σ11 _ _ ls hP hD hS (lv_sub hl [1, 2, 0] rfl) h
      · refine mwald hx hb hK.1 hP 18 4 rfl rfl (vin4_1 c7) (by rw [c7] <;> rfl) dX9_lengthFrom_38 ?_
        refine lv_iconst (v := (0 : Int32)) hx hb dX9_lengthFrom_39 (by decide) ?_
        refine va_getsN hx hb hZs hS hown (hK.2.2.1.use rfl) (fun _ h9 => h9) dX9_lengthFrom_40 ?_
        refine lv_iload_n hx hb dX9_lengthFrom_43 rfl (lv_at hl 2 rfl) ?_
        obtain ⟨v9, i_v9, e_v9, h⟩ := aI_some h
        refine va_ti hx hb hT hS i_v9 (v := .int v9) (by show Value.int _ = _; rw [e_v9]) dX9_lengthFrom_44 ?_
        refine lv_iload_n hx hb dX9_lengthFrom_45 rfl (lv_at hl 0 rfl) ?_
        obtain ⟨⟨v10, σ11⟩, hc_v10, h⟩ := bd_some h
        refine mcallQZ (wf := (cW a cs sh LP Z)) (va_runS (As := [.ref (a 20), .int (0 : Int32), .int v9, .int z3]) (rest := []) ⟨hx, hb, hml, hown, hts⟩ (kX9_goesOn_20 l D cs a sh LP Z hZ σ 17 (0 : Int32) v9 z3 v10 σ11 hc_v10 _) (va_cwS 4 hts gX9_lengthFrom_X9_goesOn rfl rfl rfl (by decide +kernel) ⟨Nat.le_of_ble_eq_true rfl, Nat.le_of_ble_eq_true rfl⟩) (pQ_s hP hK hD) rfl rfl hl.1 rfl (lv_room (Nat.le_of_ble_eq_true rfl)) dX9_lengthFrom_46 ⟨Nat.zero_le _, Nat.zero_le _⟩) hD hS hA (fun z_v10 H locs hP hD hS => ?_)
        refine lv_if_eq (tgt := 56) hx hb dX9_lengthFrom_49 (by decide) (fun c12 => ?_) (fun c12 => ?_)
        · have h := it_t c12 h
          exact wX9_lengthFrom_J56 C hZ hK hA hG r u9 x1 z3 σ11 _ _ ls hP hD hS (lv_sub hl [1, 2, 0] rfl) h
        · have h := it_f c12 h
          refine lv_iconst (v := (1 : Int32)) hx hb dX9_lengthFrom_52 (by decide) ?_
          refine lv_goto (tgt := 57) hx hb dX9_lengthFrom_53 (by decide) ?_
          exact wX9_lengthFrom_J57 C hZ hK hA hG r u9 x1 z3 (1 : Int32) σ11 _ _ ls hP hD hS (lv_sub hl [1, 2, 0] rfl) h
      · refine mwald hx hb hK.1 hP 18 4 rfl rfl (vin4_2 c7) (by rw [c7] <;> rfl) dX9_lengthFrom_38 ?_
        refine lv_iconst (v := (0 : Int32)) hx hb dX9_lengthFrom_39 (by decide) ?_
        refine va_getsN hx hb hZs hS hown (hK.2.2.1.use rfl) (fun _ h9 => h9) dX9_lengthFrom_40 ?_
        refine lv_iload_n hx hb dX9_lengthFrom_43 rfl (lv_at hl 2 rfl) ?_
        obtain ⟨v9, i_v9, e_v9, h⟩ := aI_some h
        refine va_ti hx hb hT hS i_v9 (v := .int v9) (by show Value.int _ = _; rw [e_v9]) dX9_lengthFrom_44 ?_
        refine lv_iload_n hx hb dX9_lengthFrom_45 rfl (lv_at hl 0 rfl) ?_
        obtain ⟨⟨v10, σ11⟩, hc_v10, h⟩ := bd_some h
        refine mcallQZ (wf := (cW a cs sh LP Z)) (va_runS (As := [.ref (a 21), .int (0 : Int32), .int v9, .int z3]) (rest := []) ⟨hx, hb, hml, hown, hts⟩ (kX9_goesOn_21 l D cs a sh LP Z hZ σ 17 (0 : Int32) v9 z3 v10 σ11 hc_v10 _) (va_cwS 4 hts gX9_lengthFrom_X9_goesOn rfl rfl rfl (by decide +kernel) ⟨Nat.le_of_ble_eq_true rfl, Nat.le_of_ble_eq_true rfl⟩) (pQ_s hP hK hD) rfl rfl hl.1 rfl (lv_room (Nat.le_of_ble_eq_true rfl)) dX9_lengthFrom_46 ⟨Nat.zero_le _, Nat.zero_le _⟩) hD hS hA (fun z_v10 H locs hP hD hS => ?_)
        refine lv_if_eq (tgt := 56) hx hb dX9_lengthFrom_49 (by decide) (fun c12 => ?_) (fun c12 => ?_)
        · have h := it_t c12 h
          exact wX9_lengthFrom_J56 C hZ hK hA hG r u9 x1 z3 σ11 _ _ ls hP hD hS (lv_sub hl [1, 2, 0] rfl) h
        · have h := it_f c12 h
          refine lv_iconst (v := (1 : Int32)) hx hb dX9_lengthFrom_52 (by decide) ?_
          refine lv_goto (tgt := 57) hx hb dX9_lengthFrom_53 (by decide) ?_
          exact wX9_lengthFrom_J57 C hZ hK hA hG r u9 x1 z3 (1 : Int32) σ11 _ _ ls hP hD hS (lv_sub hl [1, 2, 0] rfl) h
      · refine mwald hx hb hK.1 hP 18 4 rfl rfl (vin4_3 c7) (by rw [c7] <;> rfl) dX9_lengthFrom_38 ?_
        refine lv_iconst (v := (0 : Int32)) hx hb dX9_lengthFrom_39 (by decide) ?_
        refine va_getsN hx hb hZs hS hown (hK.2.2.1.use rfl) (fun _ h9 => h9) dX9_lengthFrom_40 ?_
        refine lv_iload_n hx hb dX9_lengthFrom_43 rfl (lv_at hl 2 rfl) ?_
        obtain ⟨v9, i_v9, e_v9, h⟩ := aI_some h
        refine va_ti hx hb hT hS i_v9 (v := .int v9) (by show Value.int _ = _; rw [e_v9]) dX9_lengthFrom_44 ?_
        refine lv_iload_n hx hb dX9_lengthFrom_45 rfl (lv_at hl 0 rfl) ?_
        obtain ⟨⟨v10, σ11⟩, hc_v10, h⟩ := bd_some h
        refine mcallQZ (wf := (cW a cs sh LP Z)) (va_runS (As := [.ref (a 22), .int (0 : Int32), .int v9, .int z3]) (rest := []) ⟨hx, hb, hml, hown, hts⟩ (kX9_goesOn_22 l D cs a sh LP Z hZ σ 17 (0 : Int32) v9 z3 v10 σ11 hc_v10 _) (va_cwS 4 hts gX9_lengthFrom_X9_goesOn rfl rfl rfl (by decide +kernel) ⟨Nat.le_of_ble_eq_true rfl, Nat.le_of_ble_eq_true rfl⟩) (pQ_s hP hK hD) rfl rfl hl.1 rfl (lv_room (Nat.le_of_ble_eq_true rfl)) dX9_lengthFrom_46 ⟨Nat.zero_le _, Nat.zero_le _⟩) hD hS hA (fun z_v10 H locs hP hD hS => ?_)
        refine lv_if_eq (tgt := 56) hx hb dX9_lengthFrom_49 (by decide) (fun c12 => ?_) (fun c12 => ?_)
        · have h := it_t c12 h
          exact wX9_lengthFrom_J56 C hZ hK hA hG r u9 x1 z3 σ11 _ _ ls hP hD hS (lv_sub hl [1, 2, 0] rfl) h
        · have h := it_f c12 h
          refine lv_iconst (v := (1 : Int32)) hx hb dX9_lengthFrom_52 (by decide) ?_
          refine lv_goto (tgt := 57) hx hb dX9_lengthFrom_53 (by decide) ?_
          exact wX9_lengthFrom_J57 C hZ hK hA hG r u9 x1 z3 (1 : Int32) σ11 _ _ ls hP hD hS (lv_sub hl [1, 2, 0] rfl) h
def fX9_fieldAt (sh : Nat → Option Nat) (Z : ZT) (σ : Nat → Nat → Int32) (x1 : Int32) (x2 : Int32) : Option (Int32 × (Nat → Nat → Int32)) :=
  bd (fX9_lengthFrom sh Z σ x1) fun (v1, σ2) => if ¬ v1 = ((-4) : Int32) then (if v1 ≤ x2 then (some (((-1) : Int32), σ2)) else (sr4 x1 fun k6a => aI (σ2 k6a) 16 x2 fun v7 => some (v7, σ2))) else (some (((-4) : Int32), σ2))
abbrev rmX9_fieldAt : Room := { frames := 36, cells := 0, slots := 0, locals := 1069 }
theorem inX9_X9_fieldAt : ∀ w ∈ wsX90, w ∈ wsX9_fieldAt := by intro w h; simp only [wsX9_fieldAt, List.mem_cons, List.mem_append]; simp only [h, true_or, or_true]
set_option maxHeartbeats 4000000 in
set_option maxRecDepth 100000 in
theorem kX9_fieldAt (l : Launch) (D : va_G) (cs : Nat → ClassId) (a : Nat → Nat) (sh : Nat → Option Nat) (LP : List Nat) (Z : ZT) (hZ : shOK sh LP Z) (σ : Nat → Nat → Int32) (x1 : Int32) (x2 : Int32) (r : Int32) (u9 : Nat → Nat → Int32) (h : fX9_fieldAt sh Z σ x1 x2 = some (r, u9)) (sz : Nat) : Met l yX9_fieldAt wsX9_fieldAt rmX9_fieldAt (va_Pc [.ref (a 17), .int x1, .int x2] (pG D cs (cW a cs sh LP Z σ) sz)) (va_Qi (fun x y => x = r ∧ y = u9) (qB D (cW a cs sh LP Z) (va_A (cW a cs sh LP Z σ) sz)) (va_A (cW a cs sh LP Z σ) sz)) 0 0 (va_A (cW a cs sh LP Z σ) sz) := by
  refine Met.ofW (cc := cX9_fieldAt) (maxL := 4) (ret := (some .int)) (by decide) rfl ?_
  intro p e s m args below meth c s₁ B hml hv
  obtain ⟨rfl, hsz, hP, hK, hD0, hG⟩ := hv
  have C : cxt p s m _ meth c cX9_fieldAt 4 RX9 wsX9_fieldAt (some .int) := ⟨B.exec, B.bytes, hml, findClass_of_methodNamed B.named, atoms_spec (ws := wsX9_fieldAt) B.pre, B.returns, B.notSynchronized⟩
  obtain ⟨hx, hb, -, hown, hts, hr, hlk⟩ := id C
  subst hsz
  have hD := hD0.self (sz := s.heap.size)
  generalize hAe : va_A (cW a cs sh LP Z σ) s.heap.size = A at hD hG ⊢
  obtain ⟨t9, hZs, hT⟩ := id hG
  have hA : ∀ q : Nat, s.heap.size ≤ q → A q := fun q h => by rw [← hAe]; exact Or.inr h
  have hS : va_S A s.heap s.heap [] := va_S.rf
  refine entryW [.ref (a 17), .int x1, .int x2] (n := 4) (Nat.le_of_ble_eq_true rfl) (fun ls hl => ?_)
  have hl : lv_has ls 4 [(0, .ref (a 17)), (1, .int x1), (2, .int x2)] := hl
  unfold fX9_fieldAt at h
  refine lv_aload_n hx hb dX9_fieldAt_0 rfl (lv_at hl 0 rfl) ?_
  refine lv_iload_n hx hb dX9_fieldAt_1 rfl (lv_at hl 1 rfl) ?_
  obtain ⟨⟨v1, σ2⟩, hc_v1, h⟩ := bd_some h
  refine mcallQ (wf := (cW a cs sh LP Z)) (va_runV (As := [.int x1]) (rest := []) ⟨hx, hb, hml, hown, hts⟩ (kX9_lengthFrom l D cs a sh LP Z hZ σ x1 v1 σ2 hc_v1 _) (cwV 1 hts gX9_fieldAt_X9_lengthFrom rfl rfl rfl (by decide +kernel) ⟨Nat.le_of_ble_eq_true rfl, Nat.le_of_ble_eq_true rfl⟩) (pG_v hP hK hD hS hA hG (va_recv hK.1 hP (ci := 8) (q0 := 17) rfl rfl)) rfl rfl hl.1 rfl (lv_room (Nat.le_of_ble_eq_true rfl)) dX9_fieldAt_2 ⟨Nat.zero_le _, Nat.zero_le _⟩) hD hS hA (fun H locs hP hD hS => ?_)
  refine lv_istore_n (lv' := [(3, .int v1), (0, .ref (a 17)), (1, .int x1), (2, .int x2)]) hx hb dX9_fieldAt_5 rfl hl (by decide) rfl (fun ls hl => ?_)
  refine lv_iload_n hx hb dX9_fieldAt_6 rfl (lv_at hl 0 rfl) ?_
  refine lv_bipush (v := ((-4) : Int32)) hx hb dX9_fieldAt_7 (by decide) ?_
  refine lv_icmp_ne (tgt := 15) hx hb dX9_fieldAt_9 (by decide) (fun c3 => ?_) (fun c3 => ?_)
  · have h := it_t c3 h
    refine lv_iload_n hx hb dX9_fieldAt_15 rfl (lv_at hl 3 rfl) ?_
    refine lv_iload_n hx hb dX9_fieldAt_16 rfl (lv_at hl 0 rfl) ?_
    refine lv_icmp_ge (tgt := 31) hx hb dX9_fieldAt_17 (by decide) (fun c4 => ?_) (fun c4 => ?_)
    · have h := it_t c4 h
      refine lv_iconst (v := ((-1) : Int32)) hx hb dX9_fieldAt_31 (by decide) ?_
      exact mretQ hx hb hr hlk h hP hD hS dX9_fieldAt_32
    · have h := it_f c4 h
      refine lv_aload_n hx hb dX9_fieldAt_20 rfl (lv_at hl 1 rfl) ?_
      refine va_get (D := D) (ci := 8) (v := .ref (a 18)) (C := RX9) (T := TX9) (N := 3) hx hb hts inX9_X9_fieldAt hown hK.1 hP 17 rfl rfl 1 (by decide) (hts (.fieldLink RX9 11 "SandPalace$Sweeper" "ways" "[[I") (by decide +kernel)) (fun _ h9 => h9) rfl dX9_fieldAt_21 ?_
      refine lv_iload_n hx hb dX9_fieldAt_24 rfl (lv_at hl 2 rfl) ?_
      rcases sr4_some h with ⟨c5, h⟩ | ⟨c5, h⟩ | ⟨c5, h⟩ | ⟨c5, h⟩
      · refine mwald hx hb hK.1 hP 18 4 rfl rfl (vin4_0 c5) (by rw [c5] <;> rfl) dX9_fieldAt_25 ?_
        refine lv_iload_n hx hb dX9_fieldAt_26 rfl (lv_at hl 3 rfl) ?_
        obtain ⟨v7, i_v7, e_v7, h⟩ := aI_some h
        refine miald hx hb hK.1 hP 19 0 rfl rfl i_v7 e_v7 dX9_fieldAt_27 ?_
        refine lv_goto (tgt := 32) hx hb dX9_fieldAt_28 (by decide) ?_
        exact mretQ hx hb hr hlk h hP hD hS dX9_fieldAt_32
      · refine mwald hx hb hK.1 hP 18 4 rfl rfl (vin4_1 c5) (by rw [c5] <;> rfl) dX9_fieldAt_25 ?_
        refine lv_iload_n hx hb dX9_fieldAt_26 rfl (lv_at hl 3 rfl) ?_
        obtain ⟨v7, i_v7, e_v7, h⟩ := aI_some h
        refine miald hx hb hK.1 hP 20 0 rfl rfl i_v7 e_v7 dX9_fieldAt_27 ?_
        refine lv_goto (tgt := 32) hx hb dX9_fieldAt_28 (by decide) ?_
        exact mretQ hx hb hr hlk h hP hD hS dX9_fieldAt_32
      · refine mwald hx hb hK.1 hP 18 4 rfl rfl (vin4_2 c5) (by rw [c5] <;> rfl) dX9_fieldAt_25 ?_
        refine lv_iload_n hx hb dX9_fieldAt_26 rfl (lv_at hl 3 rfl) ?_
        obtain ⟨v7, i_v7, e_v7, h⟩ := aI_some h
        refine miald hx hb hK.1 hP 21 0 rfl rfl i_v7 e_v7 dX9_fieldAt_27 ?_
        refine lv_goto (tgt := 32) hx hb dX9_fieldAt_28 (by decide) ?_
        exact mretQ hx hb hr hlk h hP hD hS dX9_fieldAt_32
      · refine mwald hx hb hK.1 hP 18 4 rfl rfl (vin4_3 c5) (by rw [c5] <;> rfl) dX9_fieldAt_25 ?_
        refine lv_iload_n hx hb dX9_fieldAt_26 rfl (lv_at hl 3 rfl) ?_
        obtain ⟨v7, i_v7, e_v7, h⟩ := aI_some h
        refine miald hx hb hK.1 hP 22 0 rfl rfl i_v7 e_v7 dX9_fieldAt_27 ?_
        refine lv_goto (tgt := 32) hx hb dX9_fieldAt_28 (by decide) ?_
        exact mretQ hx hb hr hlk h hP hD hS dX9_fieldAt_32
  · have h := it_n c3 h
    refine lv_bipush (v := ((-4) : Int32)) hx hb dX9_fieldAt_12 (by decide) ?_
    exact mretQ hx hb hr hlk h hP hD hS dX9_fieldAt_14
def fX11_way (sh : Nat → Option Nat) (Z : ZT) (σ : Nat → Nat → Int32) (x1 : Int32) : Option (Int32 × (Nat → Nat → Int32)) :=
  bd (fX11_within x1 (0 : Int32) ((4 : Int32) - (1 : Int32))) fun v1 => if v1 = 0 then (some (((-1) : Int32), σ)) else (bd (fX9_lengthFrom sh Z σ x1) fun (v3, σ4) => some (v3, σ4))
abbrev rmX11_way : Room := { frames := 36, cells := 0, slots := 0, locals := 1069 }
theorem inX11_X11_way : ∀ w ∈ wsX110, w ∈ wsX11_way := by intro w h; simp only [wsX11_way, List.mem_cons, List.mem_append]; simp only [h, true_or, or_true]
set_option maxHeartbeats 4000000 in
set_option maxRecDepth 100000 in
theorem kX11_way (l : Launch) (D : va_G) (cs : Nat → ClassId) (a : Nat → Nat) (sh : Nat → Option Nat) (LP : List Nat) (Z : ZT) (hZ : shOK sh LP Z) (σ : Nat → Nat → Int32) (x1 : Int32) (r : Int32) (u9 : Nat → Nat → Int32) (h : fX11_way sh Z σ x1 = some (r, u9)) (sz : Nat) : Met l yX11_way wsX11_way rmX11_way (va_Pc [.ref (a 0), .int x1] (pG D cs (cW a cs sh LP Z σ) sz)) (va_Qi (fun x y => x = r ∧ y = u9) (qB D (cW a cs sh LP Z) (va_A (cW a cs sh LP Z σ) sz)) (va_A (cW a cs sh LP Z σ) sz)) 0 0 (va_A (cW a cs sh LP Z σ) sz) := by
  refine Met.ofW (cc := cX11_way) (maxL := 2) (ret := (some .int)) (by decide) rfl ?_
  intro p e s m args below meth c s₁ B hml hv
  obtain ⟨rfl, hsz, hP, hK, hD0, hG⟩ := hv
  have C : cxt p s m _ meth c cX11_way 2 RX11 wsX11_way (some .int) := ⟨B.exec, B.bytes, hml, findClass_of_methodNamed B.named, atoms_spec (ws := wsX11_way) B.pre, B.returns, B.notSynchronized⟩
  obtain ⟨hx, hb, -, hown, hts, hr, hlk⟩ := id C
  subst hsz
  have hD := hD0.self (sz := s.heap.size)
  generalize hAe : va_A (cW a cs sh LP Z σ) s.heap.size = A at hD hG ⊢
  obtain ⟨t9, hZs, hT⟩ := id hG
  have hA : ∀ q : Nat, s.heap.size ≤ q → A q := fun q h => by rw [← hAe]; exact Or.inr h
  have hS : va_S A s.heap s.heap [] := va_S.rf
  refine entryW [.ref (a 0), .int x1] (n := 2) (Nat.le_of_ble_eq_true rfl) (fun ls hl => ?_)
  have hl : lv_has ls 2 [(0, .ref (a 0)), (1, .int x1)] := hl
  unfold fX11_way at h
  refine lv_iload_n hx hb dX11_way_0 rfl (lv_at hl 1 rfl) ?_
  refine lv_iconst (v := (0 : Int32)) hx hb dX11_way_1 (by decide) ?_
  refine va_gets hx hb hZs hS hown (hts (.fieldLink RX11 222 "SandPalace" "GATES" "[I") (by decide +kernel)) (fun _ h9 => h9) dX11_way_2 ?_
  refine va_tlen hx hb hT hS (v := (4 : Int32)) (by decide) dX11_way_5 ?_
  refine lv_iconst (v := (1 : Int32)) hx hb dX11_way_6 (by decide) ?_
  refine lv_isub hx hb dX11_way_7 ?_
  obtain ⟨v1, hc_v1, h⟩ := bd_some h
  refine mcallSZ (va_runS (As := [.int x1, .int (0 : Int32), .int ((4 : Int32) - (1 : Int32))]) (rest := []) ⟨hx, hb, hml, hown, hts⟩ (kX11_within l x1 (0 : Int32) ((4 : Int32) - (1 : Int32)) v1 hc_v1) (va_cwS 3 hts gX11_way_X11_within rfl rfl rfl (by decide +kernel) ⟨Nat.le_of_ble_eq_true rfl, Nat.le_of_ble_eq_true rfl⟩) p0_s rfl rfl hl.1 rfl (lv_room (Nat.le_of_ble_eq_true rfl)) dX11_way_8 ⟨Nat.zero_le _, Nat.zero_le _⟩) (fun z_v1 => ?_)
  refine lv_if_eq (tgt := 25) hx hb dX11_way_11 (by decide) (fun c2 => ?_) (fun c2 => ?_)
  · have h := it_t c2 h
    refine lv_iconst (v := ((-1) : Int32)) hx hb dX11_way_25 (by decide) ?_
    exact mretQ hx hb hr hlk h hP hD hS dX11_way_26
  · have h := it_f c2 h
    refine lv_aload_n hx hb dX11_way_14 rfl (lv_at hl 0 rfl) ?_
    refine va_get (D := D) (ci := 10) (v := .ref (a 17)) (C := RX11) (T := TX11) (N := 5) hx hb hts inX11_X11_way hown hK.1 hP 0 rfl rfl 3 (by decide) (hts (.fieldLink RX11 33 "SandPalace" "sweeper" "LSandPalace$Sweeper;") (by decide +kernel)) (fun _ h9 => h9) rfl dX11_way_15 ?_
    refine lv_iload_n hx hb dX11_way_18 rfl (lv_at hl 1 rfl) ?_
    obtain ⟨⟨v3, σ4⟩, hc_v3, h⟩ := bd_some h
    refine mcallQ (wf := (cW a cs sh LP Z)) (va_runV (As := [.int x1]) (rest := []) ⟨hx, hb, hml, hown, hts⟩ (kX9_lengthFrom l D cs a sh LP Z hZ σ x1 v3 σ4 hc_v3 _) (cwV 1 hts gX11_way_X9_lengthFrom rfl rfl rfl (by decide +kernel) ⟨Nat.le_of_ble_eq_true rfl, Nat.le_of_ble_eq_true rfl⟩) (pG_v hP hK hD hS hA hG (va_recv hK.1 hP (ci := 8) (q0 := 17) rfl rfl)) rfl rfl hl.1 rfl (lv_room (Nat.le_of_ble_eq_true rfl)) dX11_way_19 ⟨Nat.zero_le _, Nat.zero_le _⟩) hD hS hA (fun H locs hP hD hS => ?_)
    refine lv_goto (tgt := 26) hx hb dX11_way_22 (by decide) ?_
    exact mretQ hx hb hr hlk h hP hD hS dX11_way_26
def fX11_wayAt (sh : Nat → Option Nat) (Z : ZT) (σ : Nat → Nat → Int32) (x1 : Int32) (x2 : Int32) : Option (Int32 × (Nat → Nat → Int32)) :=
  bd (fX11_within x1 (0 : Int32) ((4 : Int32) - (1 : Int32))) fun v1 => if v1 = 0 then (some (((-1) : Int32), σ)) else (if 0 ≤ x2 then (bd (fX9_fieldAt sh Z σ x1 x2) fun (v4, σ5) => some (v4, σ5)) else (some (((-1) : Int32), σ)))
abbrev rmX11_wayAt : Room := { frames := 37, cells := 0, slots := 0, locals := 1092 }
theorem inX11_X11_wayAt : ∀ w ∈ wsX110, w ∈ wsX11_wayAt := by intro w h; simp only [wsX11_wayAt, List.mem_cons, List.mem_append]; simp only [h, true_or, or_true]
set_option maxHeartbeats 4000000 in
set_option maxRecDepth 100000 in
theorem kX11_wayAt (l : Launch) (D : va_G) (cs : Nat → ClassId) (a : Nat → Nat) (sh : Nat → Option Nat) (LP : List Nat) (Z : ZT) (hZ : shOK sh LP Z) (σ : Nat → Nat → Int32) (x1 : Int32) (x2 : Int32) (r : Int32) (u9 : Nat → Nat → Int32) (h : fX11_wayAt sh Z σ x1 x2 = some (r, u9)) (sz : Nat) : Met l yX11_wayAt wsX11_wayAt rmX11_wayAt (va_Pc [.ref (a 0), .int x1, .int x2] (pG D cs (cW a cs sh LP Z σ) sz)) (va_Qi (fun x y => x = r ∧ y = u9) (qB D (cW a cs sh LP Z) (va_A (cW a cs sh LP Z σ) sz)) (va_A (cW a cs sh LP Z σ) sz)) 0 0 (va_A (cW a cs sh LP Z σ) sz) := by
  refine Met.ofW (cc := cX11_wayAt) (maxL := 3) (ret := (some .int)) (by decide) rfl ?_
  intro p e s m args below meth c s₁ B hml hv
  obtain ⟨rfl, hsz, hP, hK, hD0, hG⟩ := hv
  have C : cxt p s m _ meth c cX11_wayAt 3 RX11 wsX11_wayAt (some .int) := ⟨B.exec, B.bytes, hml, findClass_of_methodNamed B.named, atoms_spec (ws := wsX11_wayAt) B.pre, B.returns, B.notSynchronized⟩
  obtain ⟨hx, hb, -, hown, hts, hr, hlk⟩ := id C
  subst hsz
  have hD := hD0.self (sz := s.heap.size)
  generalize hAe : va_A (cW a cs sh LP Z σ) s.heap.size = A at hD hG ⊢
  obtain ⟨t9, hZs, hT⟩ := id hG
  have hA : ∀ q : Nat, s.heap.size ≤ q → A q := fun q h => by rw [← hAe]; exact Or.inr h
  have hS : va_S A s.heap s.heap [] := va_S.rf
  refine entryW [.ref (a 0), .int x1, .int x2] (n := 3) (Nat.le_of_ble_eq_true rfl) (fun ls hl => ?_)
  have hl : lv_has ls 3 [(0, .ref (a 0)), (1, .int x1), (2, .int x2)] := hl
  unfold fX11_wayAt at h
  refine lv_iload_n hx hb dX11_wayAt_0 rfl (lv_at hl 1 rfl) ?_
  refine lv_iconst (v := (0 : Int32)) hx hb dX11_wayAt_1 (by decide) ?_
  refine va_gets hx hb hZs hS hown (hts (.fieldLink RX11 222 "SandPalace" "GATES" "[I") (by decide +kernel)) (fun _ h9 => h9) dX11_wayAt_2 ?_
  refine va_tlen hx hb hT hS (v := (4 : Int32)) (by decide) dX11_wayAt_5 ?_
  refine lv_iconst (v := (1 : Int32)) hx hb dX11_wayAt_6 (by decide) ?_
  refine lv_isub hx hb dX11_wayAt_7 ?_
  obtain ⟨v1, hc_v1, h⟩ := bd_some h
  refine mcallSZ (va_runS (As := [.int x1, .int (0 : Int32), .int ((4 : Int32) - (1 : Int32))]) (rest := []) ⟨hx, hb, hml, hown, hts⟩ (kX11_within l x1 (0 : Int32) ((4 : Int32) - (1 : Int32)) v1 hc_v1) (va_cwS 3 hts gX11_wayAt_X11_within rfl rfl rfl (by decide +kernel) ⟨Nat.le_of_ble_eq_true rfl, Nat.le_of_ble_eq_true rfl⟩) p0_s rfl rfl hl.1 rfl (lv_room (Nat.le_of_ble_eq_true rfl)) dX11_wayAt_8 ⟨Nat.zero_le _, Nat.zero_le _⟩) (fun z_v1 => ?_)
  refine lv_if_eq (tgt := 18) hx hb dX11_wayAt_11 (by decide) (fun c2 => ?_) (fun c2 => ?_)
  · have h := it_t c2 h
    refine lv_iconst (v := ((-1) : Int32)) hx hb dX11_wayAt_18 (by decide) ?_
    exact mretQ hx hb hr hlk h hP hD hS dX11_wayAt_19
  · have h := it_f c2 h
    refine lv_iload_n hx hb dX11_wayAt_14 rfl (lv_at hl 2 rfl) ?_
    refine lv_if_ge (tgt := 20) hx hb dX11_wayAt_15 (by decide) (fun c3 => ?_) (fun c3 => ?_)
    · have h := it_t c3 h
      refine lv_aload_n hx hb dX11_wayAt_20 rfl (lv_at hl 0 rfl) ?_
      refine va_get (D := D) (ci := 10) (v := .ref (a 17)) (C := RX11) (T := TX11) (N := 5) hx hb hts inX11_X11_wayAt hown hK.1 hP 0 rfl rfl 3 (by decide) (hts (.fieldLink RX11 33 "SandPalace" "sweeper" "LSandPalace$Sweeper;") (by decide +kernel)) (fun _ h9 => h9) rfl dX11_wayAt_21 ?_
      refine lv_iload_n hx hb dX11_wayAt_24 rfl (lv_at hl 1 rfl) ?_
      refine lv_iload_n hx hb dX11_wayAt_25 rfl (lv_at hl 2 rfl) ?_
      obtain ⟨⟨v4, σ5⟩, hc_v4, h⟩ := bd_some h
      refine mcallQ (wf := (cW a cs sh LP Z)) (va_runV (As := [.int x1, .int x2]) (rest := []) ⟨hx, hb, hml, hown, hts⟩ (kX9_fieldAt l D cs a sh LP Z hZ σ x1 x2 v4 σ5 hc_v4 _) (cwV 2 hts gX11_wayAt_X9_fieldAt rfl rfl rfl (by decide +kernel) ⟨Nat.le_of_ble_eq_true rfl, Nat.le_of_ble_eq_true rfl⟩) (pG_v hP hK hD hS hA hG (va_recv hK.1 hP (ci := 8) (q0 := 17) rfl rfl)) rfl rfl hl.1 rfl (lv_room (Nat.le_of_ble_eq_true rfl)) dX11_wayAt_26 ⟨Nat.zero_le _, Nat.zero_le _⟩) hD hS hA (fun H locs hP hD hS => ?_)
      exact mretQ hx hb hr hlk h hP hD hS dX11_wayAt_29
    · have h := it_f c3 h
      refine lv_iconst (v := ((-1) : Int32)) hx hb dX11_wayAt_18 (by decide) ?_
      exact mretQ hx hb hr hlk h hP hD hS dX11_wayAt_19
