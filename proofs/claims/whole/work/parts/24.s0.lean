/-! which SHAPES stand: how a call changes it -/
theorem shOK_put {sh : Nat → Option Nat} {LP : List Nat} {Z : ZT} {i q : Nat} (hZ : shOK sh LP Z) (h : q ∈ LP ∧ okK (Z q).1) : shOK (va_up sh i (some q)) LP Z := by
  intro j r hj
  unfold va_up at hj
  by_cases e : j = i
  · rw [if_pos e] at hj; cases hj; exact h
  · rw [if_neg e] at hj; exact hZ j r hj
theorem shOK_del {sh : Nat → Option Nat} {LP : List Nat} {Z : ZT} {i : Nat} (hZ : shOK sh LP Z) : shOK (va_up sh i none) LP Z := by
  intro j r hj
  unfold va_up at hj
  by_cases e : j = i
  · rw [if_pos e] at hj; cases hj
  · rw [if_neg e] at hj; exact hZ j r hj
def shPut (σ : Nat → Nat → Int32) (sh : Nat → Option Nat) (q : Nat) : Nat → Option Nat := if σ 33 0 = 10 then sh else va_up sh (σ 33 0).toNatClampNeg (some q)
def shUndo (σ : Nat → Nat → Int32) (sh : Nat → Option Nat) : Nat → Option Nat := if σ 33 0 = 0 then sh else va_up sh ((σ 33 0) - (1 : Int32)).toNatClampNeg none
theorem shOK_grow {sh : Nat → Option Nat} {LP : List Nat} {Z : ZT} {q : Nat} {v : Nat × Int32 × Int64 × Int32} (hZ : shOK sh LP Z) (hq : q ∉ LP) : shOK sh (LP ++ [q]) (va_up Z q v) := by
  intro j r hj
  obtain ⟨h1, h2⟩ := hZ j r hj
  refine ⟨List.mem_append_left _ h1, ?_⟩
  unfold va_up
  rw [if_neg (fun e => hq (by rw [← e]; exact h1))]
  exact h2
def shEv (v : Nat × Int32 × Int64 × Int32) : va_E := if v.1 = 7 then .inr (7, [.int v.2.1, .long v.2.2.1, .int v.2.2.2]) else .inr (v.1, [.int v.2.1, .long v.2.2.1])
theorem pool_push {a : Nat → Nat} {cs : Nat → ClassId} {sh : Nat → Option Nat} {LP : List Nat} {Z : ZT} {σ : Nat → Nat → Int32} {q : Nat} (v : Nat × Int32 × Int64 × Int32) (hq : q ∉ LP) : cW a cs sh LP Z σ ++ [(q, shEv v)] = cW a cs sh (LP ++ [q]) (va_up Z q v) σ := by
  unfold cW
  rw [List.append_assoc, va_pl_push hq]
  congr 1
  apply va_pl_congr
  intro b
  unfold va_up shE
  by_cases e : b = q
  · subst e; simp [shEv]
  · simp [e]
section SROWS
variable {p : Program} {l : Launch} {e : Env} {R : Room} {s : State} {m : MethodId} {args : Array Value} {below : List Frame} {meth : Method} {c : Code} {H : Heap} {locs : List Loc} {cells slots : Nat} {Q : State → Prop}
variable {cc : ByteArray} {pc : Nat} {ls : Array Slot} {rest st0 : List Value} {a0 : Array Value} {D : va_G} {cs : Nat → ClassId} {a : Nat → Nat} {sh : Nat → Option Nat} {LP : List Nat} {Z : ZT} {σ : Nat → Nat → Int32} {A : Nat → Prop} {H0 : Heap} {q : Nat} {i : Int32}
theorem mastN (hx : p.tables.exec = Jvm.exec) (hb : c.code = cc) (hK : KK D cs s) (hP : va_P D vwCl (cW a cs sh LP Z σ) H) (hD : va_D A (cW a cs sh LP Z σ)) (hS : va_S A H0 H locs) (hin : vp_in i 10) (hdg : decode cc pc = .ok (.aastore, 1))
    (kk : ∀ (H1 : Heap) (locs1 : List Loc), va_P D vwCl (cW a cs (va_up sh i.toNatClampNeg none) LP Z σ) H1 → va_D A (cW a cs (va_up sh i.toNatClampNeg none) LP Z σ) → va_S A H0 H1 locs1 → W p l e R s m args below meth c H1 locs1 cells slots Q (F0 m (pc + 1) ls rest)) : W p l e R s m args below meth c H locs cells slots Q (F0 m pc ls (.null :: .int i :: .ref (a 2) :: rest)) :=
  va_astqN hx hb hK.1 hP hD hS 2 2 rfl rfl hin hdg kk
theorem mastS (hx : p.tables.exec = Jvm.exec) (hb : c.code = cc) (hK : KK D cs s) (hP : va_P D vwCl (cW a cs sh LP Z σ) H) (hD : va_D A (cW a cs sh LP Z σ)) (hS : va_S A H0 H locs) (hq : q ∈ LP) (hk : okK (Z q).1) (hin : vp_in i 10) (hdg : decode cc pc = .ok (.aastore, 1))
    (kk : ∀ (H1 : Heap) (locs1 : List Loc), va_P D vwCl (cW a cs (va_up sh i.toNatClampNeg (some q)) LP Z σ) H1 → va_D A (cW a cs (va_up sh i.toNatClampNeg (some q)) LP Z σ) → va_S A H0 H1 locs1 → W p l e R s m args below meth c H1 locs1 cells slots Q (F0 m (pc + 1) ls rest)) : W p l e R s m args below meth c H locs cells slots Q (F0 m pc ls (.ref q :: .int i :: .ref (a 2) :: rest)) := by
  obtain ⟨k, hk9⟩ := va_pl_get (X := cX a cs sh σ) (f := shE Z) hq
  rcases hk with h | h | h | h | h
  · rw [shE0 h] at hk9
    exact va_astqO hx hb hK.1 hP hD hS 2 2 k 0 rfl rfl (hK.2.2.2.1 ("SandPalace$Block", "SandPalace$Shape") (by decide +kernel)) hk9 rfl hin hdg kk
  · rw [shE1 h] at hk9
    exact va_astqO hx hb hK.1 hP hD hS 2 2 k 1 rfl rfl (hK.2.2.2.1 ("SandPalace$Disc", "SandPalace$Shape") (by decide +kernel)) hk9 rfl hin hdg kk
  · rw [shE2 h] at hk9
    exact va_astqO hx hb hK.1 hP hD hS 2 2 k 2 rfl rfl (hK.2.2.2.1 ("SandPalace$Line", "SandPalace$Shape") (by decide +kernel)) hk9 rfl hin hdg kk
  · rw [shE5 h] at hk9
    exact va_astqO hx hb hK.1 hP hD hS 2 2 k 5 rfl rfl (hK.2.2.2.1 ("SandPalace$Rim", "SandPalace$Shape") (by decide +kernel)) hk9 rfl hin hdg kk
  · rw [shE7 h] at hk9
    exact va_astqO hx hb hK.1 hP hD hS 2 2 k 7 rfl rfl (hK.2.2.2.1 ("SandPalace$Sign", "SandPalace$Shape") (by decide +kernel)) hk9 rfl hin hdg kk
/-- a constructor's call on the cell that was just made, behind a world that stays -/
theorem mcallI {ws : va_W} {e1 e2 : va_E} (hr : va_Run p l e R s m args below meth c H locs cells slots 0 0 (F0 m pc ls st0) rest (va_Qv (fun y : Unit => y = ()) (qB D (fun _ : Unit => [(q, e2)]) (va_A [(q, e1)] H.size)) (va_A [(q, e1)] H.size) a0) (va_A [(q, e1)] H.size)) (hP : va_P D vwCl (ws ++ [(q, e1)]) H) (hD : va_D A (ws ++ [(q, e1)])) (hS : va_S A H0 H locs) (hA : ∀ q, H0.size ≤ q → A q)
    (kk : ∀ (H1 : Heap) (locs1 : List Loc), va_P D vwCl (ws ++ [(q, e2)]) H1 → va_D A (ws ++ [(q, e2)]) → va_S A H0 H1 locs1 → W p l e R s m args below meth c H1 locs1 cells slots Q (F0 m (pc + 3) ls rest)) : W p l e R s m args below meth c H locs cells slots Q (F0 m pc ls st0) := by
  have hlast : (ws ++ [(q, e1)])[ws.length]? = some (q, e1) := by simp
  have hF : ∀ x, va_A [(q, e1)] H.size x → A x := by
    intro x h
    rcases h with ⟨k, e, h⟩ | h
    · have hk : k = 0 := by
        have := (List.getElem?_eq_some_iff.mp h).1
        simp at this
        exact this
      subst hk
      cases h
      exact hD.2 _ _ hlast
    · exact hA x (Nat.le_trans hS.1 h)
  refine va_callv hr hS (fun q _ h => hF q h) hF (fun u2 t H1 locs1 ht hvm hw hB hz hk hS1 => ?_)
  have hB1 := hB.1
  rw [ht] at hB1
  have hne : ∀ (k : Nat) (x : Nat × va_E), ws[k]? = some x → x.1 ≠ q := fun k x hx e => by
    have hkl := (List.getElem?_eq_some_iff.mp hx).1
    have h1 : (ws ++ [(q, e1)])[k]? = some x := by rw [List.getElem?_append_left hkl]; exact hx
    have := hD.1 k ws.length x (q, e1) h1 hlast e
    omega
  refine kk H1 locs1 (va_P.app (fun k x hx => ?_) hB1) (va_D.app ?_ (hB.2.weaken (fun _ x _ h => hF x.1 h)) ?_) hS1
  · have hkl := (List.getElem?_eq_some_iff.mp hx).1
    have h1 : (ws ++ [(q, e1)])[k]? = some x := by rw [List.getElem?_append_left hkl]; exact hx
    have hlt := (hP k x h1).lt
    refine (hP k x h1).kept (hk x.1 hlt (fun h => ?_))
    rcases h with ⟨k2, e, h⟩ | h
    · have hk : k2 = 0 := by
        have := (List.getElem?_eq_some_iff.mp h).1
        simp at this
        exact this
      subst hk
      have : q = x.1 := by
        have h9 : (q, e1) = (x.1, e) := Option.some.inj h
        exact congrArg Prod.fst h9
      exact hne k x hx this.symm
    · omega
  · refine ⟨fun i j x y hi hj hxy => hD.1 i j x y ?_ ?_ hxy, fun k x hx => hD.2 k x ?_⟩
    · rw [List.getElem?_append_left (List.getElem?_eq_some_iff.mp hi).1]; exact hi
    · rw [List.getElem?_append_left (List.getElem?_eq_some_iff.mp hj).1]; exact hj
    · rw [List.getElem?_append_left (List.getElem?_eq_some_iff.mp hx).1]; exact hx
  · intro i j x y hi hj hxy
    have hj0 : j = 0 := by
      have := (List.getElem?_eq_some_iff.mp hj).1
      simp at this
      exact this
    subst hj0
    cases hj
    exact hne i x hi hxy
end SROWS
def fX4_add (sh : Nat → Option Nat) (Z : ZT) (σ : Nat → Nat → Int32)  : Option (Int32 × (Nat → Nat → Int32)) :=
  aS 10 (σ 33 0) (aS 10 (σ 33 0) (nm (sg σ 3 (upd (σ 3) (σ 33 0).toNatClampNeg (0 : Int32))) fun σ3 => nm (sg σ3 33 (fun _ => (σ3 33 0) + (1 : Int32))) fun σ4 => some (σ3 33 0, σ4)))
abbrev rmX4_add : Room := { frames := 0, cells := 0, slots := 0, locals := 0 }
theorem inX4_X4_add : ∀ w ∈ wsX40, w ∈ wsX4_add := by intro w h; simp only [wsX4_add, List.mem_cons, List.mem_append]; simp only [h, true_or, or_true]
set_option maxHeartbeats 4000000 in
set_option maxRecDepth 100000 in
theorem kX4_add (l : Launch) (D : va_G) (cs : Nat → ClassId) (a : Nat → Nat) (sh : Nat → Option Nat) (LP : List Nat) (Z : ZT) (hZ : shOK sh LP Z) (σ : Nat → Nat → Int32) (q1 : Nat) (fq1 : q1 ∈ LP ∧ okK (Z q1).1)  (r : Int32) (u9 : Nat → Nat → Int32) (h : fX4_add sh Z σ = some (r, u9)) (sz : Nat) : Met l yX4_add wsX4_add rmX4_add (va_Pc [.ref (a 1), .ref q1] (pQ D cs (cW a cs sh LP Z σ) sz)) (va_Qi (fun x y => x = r ∧ y = u9) (qB D (cW a cs (va_up sh (σ 33 0).toNatClampNeg (some q1)) LP Z) (va_A (cW a cs sh LP Z σ) sz)) (va_A (cW a cs sh LP Z σ) sz)) 0 0 (va_A (cW a cs sh LP Z σ) sz) := by
  refine Met.ofW (cc := cX4_add) (maxL := 2) (ret := (some .int)) (by decide) rfl ?_
  intro p e s m args below meth c s₁ B hml hv
  obtain ⟨rfl, hsz, hP, hK, hD0⟩ := hv
  have C : cxt p s m _ meth c cX4_add 2 RX4 wsX4_add (some .int) := ⟨B.exec, B.bytes, hml, findClass_of_methodNamed B.named, atoms_spec (ws := wsX4_add) B.pre, B.returns, B.notSynchronized⟩
  obtain ⟨hx, hb, -, hown, hts, hr, hlk⟩ := id C
  subst hsz
  have hD := hD0.self (sz := s.heap.size)
  generalize hAe : va_A (cW a cs sh LP Z σ) s.heap.size = A at hD ⊢
  have hA : ∀ q : Nat, s.heap.size ≤ q → A q := fun q h => by rw [← hAe]; exact Or.inr h
  have hS : va_S A s.heap s.heap [] := va_S.rf
  refine entryW [.ref (a 1), .ref q1] (n := 2) (Nat.le_of_ble_eq_true rfl) (fun ls hl => ?_)
  have hl : lv_has ls 2 [(0, .ref (a 1)), (1, .ref q1)] := hl
  unfold fX4_add at h
  refine lv_aload_n hx hb dX4_add_0 rfl (lv_at hl 0 rfl) ?_
  refine va_get (D := D) (ci := 4) (v := .ref (a 2)) (C := RX4) (T := TX4) (N := 3) hx hb hts inX4_X4_add hown hK.1 hP 1 rfl rfl 0 (by decide) (hts (.fieldLink RX4 11 "SandPalace$Picture" "shapes" "[LSandPalace$Shape;") (by decide +kernel)) (fun _ h9 => h9) rfl dX4_add_1 ?_
  refine lv_aload_n hx hb dX4_add_4 rfl (lv_at hl 0 rfl) ?_
  refine va_get (D := D) (ci := 4) (v := .int (σ 33 0)) (C := RX4) (T := TX4) (N := 3) hx hb hts inX4_X4_add hown hK.1 hP 1 rfl rfl 2 (by decide) (hts (.fieldLink RX4 21 "SandPalace$Picture" "size" "I") (by decide +kernel)) (fun _ h9 => h9) rfl dX4_add_5 ?_
  refine lv_aload_n hx hb dX4_add_8 rfl (lv_at hl 1 rfl) ?_
  obtain ⟨i1, h⟩ := aS_some h
  refine mastS hx hb hK hP hD hS fq1.1 fq1.2 i1 dX4_add_9 (fun H locs hP hD hS => ?_)
  have hZ : shOK (va_up sh (σ 33 0).toNatClampNeg (some q1)) LP Z := shOK_put hZ fq1
  refine lv_aload_n hx hb dX4_add_10 rfl (lv_at hl 0 rfl) ?_
  refine va_get (D := D) (ci := 4) (v := .ref (a 3)) (C := RX4) (T := TX4) (N := 3) hx hb hts inX4_X4_add hown hK.1 hP 1 rfl rfl 1 (by decide) (hts (.fieldLink RX4 17 "SandPalace$Picture" "hemmed" "[I") (by decide +kernel)) (fun _ h9 => h9) rfl dX4_add_11 ?_
  refine lv_aload_n hx hb dX4_add_14 rfl (lv_at hl 0 rfl) ?_
  refine va_get (D := D) (ci := 4) (v := .int (σ 33 0)) (C := RX4) (T := TX4) (N := 3) hx hb hts inX4_X4_add hown hK.1 hP 1 rfl rfl 2 (by decide) (hts (.fieldLink RX4 21 "SandPalace$Picture" "size" "I") (by decide +kernel)) (fun _ h9 => h9) rfl dX4_add_15 ?_
  refine lv_iconst (v := (0 : Int32)) hx hb dX4_add_18 (by decide) ?_
  obtain ⟨i2, h⟩ := aS_some h
  refine va_iast hx hb hK.1 hP hD hS 3 0 rfl rfl i2 dX4_add_19 (fun H locs hP hD hS => ?_)
  obtain ⟨σ3, e_σ3, h⟩ := nm_some h
  have hP : va_P D vwCl (cW a cs (va_up sh (σ 33 0).toNatClampNeg (some q1)) LP Z σ3) H := by rw [← e_σ3]; exact hP
  have hD : va_D A (cW a cs (va_up sh (σ 33 0).toNatClampNeg (some q1)) LP Z σ3) := by rw [← e_σ3]; exact hD
  refine lv_aload_n hx hb dX4_add_20 rfl (lv_at hl 0 rfl) ?_
  refine lv_dup hx hb dX4_add_21 rfl ?_
  refine va_get (D := D) (ci := 4) (v := .int (σ3 33 0)) (C := RX4) (T := TX4) (N := 3) hx hb hts inX4_X4_add hown hK.1 hP 1 rfl rfl 2 (by decide) (hts (.fieldLink RX4 21 "SandPalace$Picture" "size" "I") (by decide +kernel)) (fun _ h9 => h9) rfl dX4_add_22 ?_
  refine lv_dup_x1 hx hb dX4_add_25 rfl rfl ?_
  refine lv_iconst (v := (1 : Int32)) hx hb dX4_add_26 (by decide) ?_
  refine lv_iadd hx hb dX4_add_27 ?_
  refine va_put (D := D) (ci := 4) (v := .int ((σ3 33 0) + (1 : Int32))) (ty := .int) (C := RX4) (T := TX4) (N := 3) hx hb hts inX4_X4_add tyX4 tyX4_ok nmX4 hown hK.1 hP hD hS 1 rfl rfl 2 (by decide) (hts (.fieldLink RX4 21 "SandPalace$Picture" "size" "I") (by decide +kernel)) (fun _ h9 => h9) rfl (by decide +kernel) rfl rfl (Nat.le_of_ble_eq_true rfl) dX4_add_28 (fun H locs hP hD hS => ?_)
  obtain ⟨σ4, e_σ4, h⟩ := nm_some h
  have hP : va_P D vwCl (cW a cs (va_up sh (σ 33 0).toNatClampNeg (some q1)) LP Z σ4) H := by rw [← e_σ4]; exact hP
  have hD : va_D A (cW a cs (va_up sh (σ 33 0).toNatClampNeg (some q1)) LP Z σ4) := by rw [← e_σ4]; exact hD
  exact mretQ hx hb hr hlk h hP hD hS dX4_add_31
def fX4_removeLatest_L22 (F : Nat) (sh : Nat → Option Nat) (Z : ZT) (kx : (Nat → Nat → Int32) → Option ((Nat → Nat → Int32))) : Nat → Int32 → (Nat → Nat → Int32) → Option ((Nat → Nat → Int32))
  | 0, _, _ => none
  | n+1, x1, σ =>
    nb ((fun x1 σ => fX4_removeLatest_L22 F sh Z kx n x1 σ)) fun kb =>
    if (σ 33 0) ≤ x1 then (kx σ) else (aI (σ 3) 10 x1 fun v4 => aS 10 x1 (nm (sg σ 3 (upd (σ 3) x1.toNatClampNeg (v4 &&& (((1 : Int32) <<< ((σ 33 0) &&& 31)) ^^^ ((-1) : Int32))))) fun σ6 => kb (x1 + (1 : Int32)) σ6))
def fX4_removeLatest (F : Nat) (sh : Nat → Option Nat) (Z : ZT) (σ : Nat → Nat → Int32)  : Option ((Nat → Nat → Int32)) :=
  nm (sg σ 33 (fun _ => (σ 33 0) - (1 : Int32))) fun σ1 => aS 10 ((σ 33 0) - (1 : Int32)) (fX4_removeLatest_L22 F (va_up sh ((σ 33 0) - (1 : Int32)).toNatClampNeg none) Z (fun σ3 => some σ3) F (0 : Int32) σ1)
abbrev rmX4_removeLatest : Room := { frames := 0, cells := 0, slots := 0, locals := 0 }
theorem inX4_X4_removeLatest : ∀ w ∈ wsX40, w ∈ wsX4_removeLatest := by intro w h; simp only [wsX4_removeLatest, List.mem_cons, List.mem_append]; simp only [h, true_or, or_true]
set_option maxHeartbeats 4000000 in
set_option maxRecDepth 100000 in
theorem wX4_removeLatest_L22 {p : Program} {l : Launch} {e : Env} {s : State} {m : MethodId} {args : Array Value} {below : List Frame} {meth : Method} {c : Code} (C : cxt p s m args meth c cX4_removeLatest 2 RX4 wsX4_removeLatest none) {D : va_G} {cs : Nat → ClassId} {a : Nat → Nat} {sh : Nat → Option Nat} {LP : List Nat} {Z : ZT} (hZ : shOK sh LP Z) (hK : KK D cs s) {A : Nat → Prop} (hA : ∀ q, s.heap.size ≤ q → A q) (u9 : Nat → Nat → Int32) (F : Nat) (kx : (Nat → Nat → Int32) → Option ((Nat → Nat → Int32))) (hkx : ∀ (σ : Nat → Nat → Int32) (H : Heap) (locs : List Loc) (ls : Array Slot), va_P D vwCl (cW a cs sh LP Z σ) H → va_D A (cW a cs sh LP Z σ) → va_S A s.heap H locs → lv_has ls 2 [] → kx σ = some u9 → W p l e rmX4_removeLatest s m args below meth c H locs 0 0 (MQ below (va_Qv (fun y => y = u9) (qB D (cW a cs sh LP Z) A) A) args s 0 0 A) (F0 m 53 ls [])) : ∀ (n : Nat) (x1 : Int32) (σ : Nat → Nat → Int32) (H : Heap) (locs : List Loc) (ls : Array Slot), va_P D vwCl (cW a cs sh LP Z σ) H → va_D A (cW a cs sh LP Z σ) → va_S A s.heap H locs → lv_has ls 2 [(0, .ref (a 1)), (1, .int x1)] → fX4_removeLatest_L22 F sh Z kx n x1 σ = some u9 → W p l e rmX4_removeLatest s m args below meth c H locs 0 0 (MQ below (va_Qv (fun y => y = u9) (qB D (cW a cs sh LP Z) A) A) args s 0 0 A) (F0 m 22 ls []) := by
  obtain ⟨hx, hb, hml, hown, hts, hr, hlk⟩ := id C
  intro n
  induction n with
  | zero =>
    intros
    rename_i h
    cases h
  | succ n ih =>
    intro x1 σ H locs ls hP hD hS hl h
    rw [fX4_removeLatest_L22] at h
    obtain ⟨kb, hkb, h⟩ := nb_some (P := fun (kb : Int32 → (Nat → Nat → Int32) → Option ((Nat → Nat → Int32))) => ∀ (x1 : Int32) (σ : Nat → Nat → Int32) (H : Heap) (locs : List Loc) (ls : Array Slot), va_P D vwCl (cW a cs sh LP Z σ) H → va_D A (cW a cs sh LP Z σ) → va_S A s.heap H locs → lv_has ls 2 [(0, .ref (a 1)), (1, .int x1)] → kb x1 σ = some u9 → W p l e rmX4_removeLatest s m args below meth c H locs 0 0 (MQ below (va_Qv (fun y => y = u9) (qB D (cW a cs sh LP Z) A) A) args s 0 0 A) (F0 m 22 ls [])) h ih
    refine lv_iload_n hx hb dX4_removeLatest_22 rfl (lv_at hl 1 rfl) ?_
    refine lv_aload_n hx hb dX4_removeLatest_23 rfl (lv_at hl 0 rfl) ?_
    refine va_get (D := D) (ci := 4) (v := .int (σ 33 0)) (C := RX4) (T := TX4) (N := 3) hx hb hts inX4_X4_removeLatest hown hK.1 hP 1 rfl rfl 2 (by decide) (hts (.fieldLink RX4 21 "SandPalace$Picture" "size" "I") (by decide +kernel)) (fun _ h9 => h9) rfl dX4_removeLatest_24 ?_
    refine lv_icmp_ge (tgt := 53) hx hb dX4_removeLatest_27 (by decide) (fun c3 => ?_) (fun c3 => ?_)
    · have h := it_t c3 h
      exact hkx σ _ _ ls hP hD hS (lv_sub hl [] rfl) h
    · have h := it_f c3 h
      refine lv_aload_n hx hb dX4_removeLatest_30 rfl (lv_at hl 0 rfl) ?_
      refine va_get (D := D) (ci := 4) (v := .ref (a 3)) (C := RX4) (T := TX4) (N := 3) hx hb hts inX4_X4_removeLatest hown hK.1 hP 1 rfl rfl 1 (by decide) (hts (.fieldLink RX4 17 "SandPalace$Picture" "hemmed" "[I") (by decide +kernel)) (fun _ h9 => h9) rfl dX4_removeLatest_31 ?_
      refine lv_iload_n hx hb dX4_removeLatest_34 rfl (lv_at hl 1 rfl) ?_
      refine lv_dup2_11 hx hb dX4_removeLatest_35 rfl rfl ?_
      obtain ⟨v4, i_v4, e_v4, h⟩ := aI_some h
      refine miald hx hb hK.1 hP 3 0 rfl rfl i_v4 e_v4 dX4_removeLatest_36 ?_
      refine lv_iconst (v := (1 : Int32)) hx hb dX4_removeLatest_37 (by decide) ?_
      refine lv_aload_n hx hb dX4_removeLatest_38 rfl (lv_at hl 0 rfl) ?_
      refine va_get (D := D) (ci := 4) (v := .int (σ 33 0)) (C := RX4) (T := TX4) (N := 3) hx hb hts inX4_X4_removeLatest hown hK.1 hP 1 rfl rfl 2 (by decide) (hts (.fieldLink RX4 21 "SandPalace$Picture" "size" "I") (by decide +kernel)) (fun _ h9 => h9) rfl dX4_removeLatest_39 ?_
      refine lv_ishl hx hb dX4_removeLatest_42 ?_
      refine lv_iconst (v := ((-1) : Int32)) hx hb dX4_removeLatest_43 (by decide) ?_
      refine lv_ixor hx hb dX4_removeLatest_44 ?_
      refine lv_iand hx hb dX4_removeLatest_45 ?_
      obtain ⟨i5, h⟩ := aS_some h
      refine va_iast hx hb hK.1 hP hD hS 3 0 rfl rfl i5 dX4_removeLatest_46 (fun H locs hP hD hS => ?_)
      obtain ⟨σ6, e_σ6, h⟩ := nm_some h
      have hP : va_P D vwCl (cW a cs sh LP Z σ6) H := by rw [← e_σ6]; exact hP
      have hD : va_D A (cW a cs sh LP Z σ6) := by rw [← e_σ6]; exact hD
      refine lv_iinc (v := x1 + (1 : Int32)) (lv' := [(1, .int (x1 + (1 : Int32))), (0, .ref (a 1))]) hx hb dX4_removeLatest_47 hl (k := 1) rfl rfl (by decide) rfl (fun ls hl => ?_)
      refine lv_goto (tgt := 22) hx hb dX4_removeLatest_50 (by decide) ?_
      exact hkb (x1 + (1 : Int32)) σ6 _ _ ls hP hD hS (lv_sub hl [1, 0] rfl) h
set_option maxHeartbeats 4000000 in
set_option maxRecDepth 100000 in
theorem kX4_removeLatest (l : Launch) (D : va_G) (cs : Nat → ClassId) (a : Nat → Nat) (sh : Nat → Option Nat) (LP : List Nat) (Z : ZT) (hZ : shOK sh LP Z) (σ : Nat → Nat → Int32) (F : Nat)  (u9 : Nat → Nat → Int32) (h : fX4_removeLatest F sh Z σ = some u9) (sz : Nat) : Met l yX4_removeLatest wsX4_removeLatest rmX4_removeLatest (va_Pc [.ref (a 1)] (pQ D cs (cW a cs sh LP Z σ) sz)) (va_Qv (fun y => y = u9) (qB D (cW a cs (va_up sh ((σ 33 0) - (1 : Int32)).toNatClampNeg none) LP Z) (va_A (cW a cs sh LP Z σ) sz)) (va_A (cW a cs sh LP Z σ) sz)) 0 0 (va_A (cW a cs sh LP Z σ) sz) := by
  refine Met.ofW (cc := cX4_removeLatest) (maxL := 2) (ret := none) (by decide) rfl ?_
  intro p e s m args below meth c s₁ B hml hv
  obtain ⟨rfl, hsz, hP, hK, hD0⟩ := hv
  have C : cxt p s m _ meth c cX4_removeLatest 2 RX4 wsX4_removeLatest none := ⟨B.exec, B.bytes, hml, findClass_of_methodNamed B.named, atoms_spec (ws := wsX4_removeLatest) B.pre, B.returns, B.notSynchronized⟩
  obtain ⟨hx, hb, -, hown, hts, hr, hlk⟩ := id C
  subst hsz
  have hD := hD0.self (sz := s.heap.size)
  generalize hAe : va_A (cW a cs sh LP Z σ) s.heap.size = A at hD ⊢
  have hA : ∀ q : Nat, s.heap.size ≤ q → A q := fun q h => by rw [← hAe]; exact Or.inr h
  have hS : va_S A s.heap s.heap [] := va_S.rf
  refine entryW [.ref (a 1)] (n := 2) (Nat.le_of_ble_eq_true rfl) (fun ls hl => ?_)
  have hl : lv_has ls 2 [(0, .ref (a 1))] := hl
  unfold fX4_removeLatest at h
  refine lv_aload_n hx hb dX4_removeLatest_0 rfl (lv_at hl 0 rfl) ?_
  refine lv_dup hx hb dX4_removeLatest_1 rfl ?_
  refine va_get (D := D) (ci := 4) (v := .int (σ 33 0)) (C := RX4) (T := TX4) (N := 3) hx hb hts inX4_X4_removeLatest hown hK.1 hP 1 rfl rfl 2 (by decide) (hts (.fieldLink RX4 21 "SandPalace$Picture" "size" "I") (by decide +kernel)) (fun _ h9 => h9) rfl dX4_removeLatest_2 ?_
  refine lv_iconst (v := (1 : Int32)) hx hb dX4_removeLatest_5 (by decide) ?_
  refine lv_isub hx hb dX4_removeLatest_6 ?_
  refine va_put (D := D) (ci := 4) (v := .int ((σ 33 0) - (1 : Int32))) (ty := .int) (C := RX4) (T := TX4) (N := 3) hx hb hts inX4_X4_removeLatest tyX4 tyX4_ok nmX4 hown hK.1 hP hD hS 1 rfl rfl 2 (by decide) (hts (.fieldLink RX4 21 "SandPalace$Picture" "size" "I") (by decide +kernel)) (fun _ h9 => h9) rfl (by decide +kernel) rfl rfl (Nat.le_of_ble_eq_true rfl) dX4_removeLatest_7 (fun H locs hP hD hS => ?_)
  obtain ⟨σ1, e_σ1, h⟩ := nm_some h
  have hP : va_P D vwCl (cW a cs sh LP Z σ1) H := by rw [← e_σ1]; exact hP
  have hD : va_D A (cW a cs sh LP Z σ1) := by rw [← e_σ1]; exact hD
  refine lv_aload_n hx hb dX4_removeLatest_10 rfl (lv_at hl 0 rfl) ?_
  refine va_get (D := D) (ci := 4) (v := .ref (a 2)) (C := RX4) (T := TX4) (N := 3) hx hb hts inX4_X4_removeLatest hown hK.1 hP 1 rfl rfl 0 (by decide) (hts (.fieldLink RX4 11 "SandPalace$Picture" "shapes" "[LSandPalace$Shape;") (by decide +kernel)) (fun _ h9 => h9) rfl dX4_removeLatest_11 ?_
  refine lv_aload_n hx hb dX4_removeLatest_14 rfl (lv_at hl 0 rfl) ?_
  refine va_get (D := D) (ci := 4) (v := .int (σ1 33 0)) (C := RX4) (T := TX4) (N := 3) hx hb hts inX4_X4_removeLatest hown hK.1 hP 1 rfl rfl 2 (by decide) (hts (.fieldLink RX4 21 "SandPalace$Picture" "size" "I") (by decide +kernel)) (fun _ h9 => h9) rfl dX4_removeLatest_15 ?_
  refine tpi (show σ1 33 0 = (σ 33 0) - (1 : Int32) by rw [← e_σ1]; rfl) ?_
  refine lv_null hx hb dX4_removeLatest_18 ?_
  obtain ⟨i2, h⟩ := aS_some h
  refine mastN hx hb hK hP hD hS i2 dX4_removeLatest_19 (fun H locs hP hD hS => ?_)
  have hZ : shOK (va_up sh ((σ 33 0) - (1 : Int32)).toNatClampNeg none) LP Z := shOK_del hZ
  refine lv_iconst (v := (0 : Int32)) hx hb dX4_removeLatest_20 (by decide) ?_
  refine lv_istore_n (lv' := [(1, .int (0 : Int32)), (0, .ref (a 1))]) hx hb dX4_removeLatest_21 rfl hl (by decide) rfl (fun ls hl => ?_)
  refine wX4_removeLatest_L22 C hZ hK hA  u9 F  _ ?_ F (0 : Int32) σ1 _ _ ls hP hD hS (lv_sub hl [1, 0] rfl) h
  intro σ3 H locs ls hP hD hS hl h
  exact mretV hx hb hr hlk h hP hD hS dX4_removeLatest_53
def fX11_put (sh : Nat → Option Nat) (Z : ZT) (σ : Nat → Nat → Int32)  : Option (Int32 × (Nat → Nat → Int32)) :=
  bd (fX4_shapesTold sh Z σ) fun v1 => if ¬ v1 = (10 : Int32) then (bd (fX10_forget sh Z σ) fun σ4 => bd (fX4_add sh Z σ4) fun (v5, σ6) => some (v5, σ6)) else (some (((-3) : Int32), σ))
abbrev rmX11_put : Room := { frames := 1, cells := 0, slots := 0, locals := 21 }
theorem inX11_X11_put : ∀ w ∈ wsX110, w ∈ wsX11_put := by intro w h; simp only [wsX11_put, List.mem_cons, List.mem_append]; simp only [h, true_or, or_true]
set_option maxHeartbeats 4000000 in
set_option maxRecDepth 100000 in
theorem kX11_put (l : Launch) (D : va_G) (cs : Nat → ClassId) (a : Nat → Nat) (sh : Nat → Option Nat) (LP : List Nat) (Z : ZT) (hZ : shOK sh LP Z) (σ : Nat → Nat → Int32) (q1 : Nat) (fq1 : q1 ∈ LP ∧ okK (Z q1).1)  (r : Int32) (u9 : Nat → Nat → Int32) (h : fX11_put sh Z σ = some (r, u9)) (sz : Nat) : Met l yX11_put wsX11_put rmX11_put (va_Pc [.ref (a 0), .ref q1] (pQ D cs (cW a cs sh LP Z σ) sz)) (va_Qi (fun x y => x = r ∧ y = u9) (qB D (cW a cs (shPut σ sh q1) LP Z) (va_A (cW a cs sh LP Z σ) sz)) (va_A (cW a cs sh LP Z σ) sz)) 0 0 (va_A (cW a cs sh LP Z σ) sz) := by
  refine Met.ofW (cc := cX11_put) (maxL := 2) (ret := (some .int)) (by decide) rfl ?_
  intro p e s m args below meth c s₁ B hml hv
  obtain ⟨rfl, hsz, hP, hK, hD0⟩ := hv
  have C : cxt p s m _ meth c cX11_put 2 RX11 wsX11_put (some .int) := ⟨B.exec, B.bytes, hml, findClass_of_methodNamed B.named, atoms_spec (ws := wsX11_put) B.pre, B.returns, B.notSynchronized⟩
  obtain ⟨hx, hb, -, hown, hts, hr, hlk⟩ := id C
  subst hsz
  have hD := hD0.self (sz := s.heap.size)
  generalize hAe : va_A (cW a cs sh LP Z σ) s.heap.size = A at hD ⊢
  have hA : ∀ q : Nat, s.heap.size ≤ q → A q := fun q h => by rw [← hAe]; exact Or.inr h
  have hS : va_S A s.heap s.heap [] := va_S.rf
  refine entryW [.ref (a 0), .ref q1] (n := 2) (Nat.le_of_ble_eq_true rfl) (fun ls hl => ?_)
  have hl : lv_has ls 2 [(0, .ref (a 0)), (1, .ref q1)] := hl
  unfold fX11_put at h
  refine lv_aload_n hx hb dX11_put_0 rfl (lv_at hl 0 rfl) ?_
  refine va_get (D := D) (ci := 10) (v := .ref (a 1)) (C := RX11) (T := TX11) (N := 5) hx hb hts inX11_X11_put hown hK.1 hP 0 rfl rfl 0 (by decide) (hts (.fieldLink RX11 10 "SandPalace" "picture" "LSandPalace$Picture;") (by decide +kernel)) (fun _ h9 => h9) rfl dX11_put_1 ?_
  obtain ⟨v1, hc_v1, h⟩ := bd_some h
  refine mcallS (va_runV (As := []) (rest := []) ⟨hx, hb, hml, hown, hts⟩ (kX4_shapesTold l D cs a sh LP Z hZ σ v1 hc_v1) (cwV 0 hts gX11_put_X4_shapesTold rfl rfl rfl (by decide +kernel) ⟨Nat.le_of_ble_eq_true rfl, Nat.le_of_ble_eq_true rfl⟩) (pR_v hP hK (va_recv hK.1 hP (ci := 4) (q0 := 1) rfl rfl)) rfl rfl hl.1 rfl (lv_room (Nat.le_of_ble_eq_true rfl)) dX11_put_4 ⟨Nat.zero_le _, Nat.zero_le _⟩) ?_
  refine lv_bipush (v := (10 : Int32)) hx hb dX11_put_7 (by decide) ?_
  refine lv_icmp_ne (tgt := 15) hx hb dX11_put_9 (by decide) (fun c2 => ?_) (fun c2 => ?_)
  · have h := it_t c2 h
    refine lv_aload_n hx hb dX11_put_15 rfl (lv_at hl 0 rfl) ?_
    refine va_get (D := D) (ci := 10) (v := .ref (a 4)) (C := RX11) (T := TX11) (N := 5) hx hb hts inX11_X11_put hown hK.1 hP 0 rfl rfl 1 (by decide) (hts (.fieldLink RX11 19 "SandPalace" "work" "LSandPalace$Work;") (by decide +kernel)) (fun _ h9 => h9) rfl dX11_put_16 ?_
    obtain ⟨σ4, hc_v3, h⟩ := bd_some h
    refine mcallQV (wf := (cW a cs sh LP Z)) (va_runV (As := []) (rest := []) ⟨hx, hb, hml, hown, hts⟩ (kX10_forget l D cs a sh LP Z hZ σ σ4 hc_v3 _) (cwV 0 hts gX11_put_X10_forget rfl rfl rfl (by decide +kernel) ⟨Nat.le_of_ble_eq_true rfl, Nat.le_of_ble_eq_true rfl⟩) (pQ_v hP hK hD (va_recv hK.1 hP (ci := 9) (q0 := 4) rfl rfl)) rfl rfl hl.1 rfl (lv_room (Nat.le_of_ble_eq_true rfl)) dX11_put_19 ⟨Nat.zero_le _, Nat.zero_le _⟩) hD hS hA (fun H locs hP hD hS => ?_)
    refine lv_aload_n hx hb dX11_put_22 rfl (lv_at hl 0 rfl) ?_
    refine va_get (D := D) (ci := 10) (v := .ref (a 1)) (C := RX11) (T := TX11) (N := 5) hx hb hts inX11_X11_put hown hK.1 hP 0 rfl rfl 0 (by decide) (hts (.fieldLink RX11 10 "SandPalace" "picture" "LSandPalace$Picture;") (by decide +kernel)) (fun _ h9 => h9) rfl dX11_put_23 ?_
    refine lv_aload_n hx hb dX11_put_26 rfl (lv_at hl 1 rfl) ?_
    obtain ⟨⟨v5, σ6⟩, hc_v5, h⟩ := bd_some h
    refine mcallQ (wf := (cW a cs (va_up sh (σ4 33 0).toNatClampNeg (some q1)) LP Z)) (va_runV (As := [.ref q1]) (rest := []) ⟨hx, hb, hml, hown, hts⟩ (kX4_add l D cs a sh LP Z hZ σ4 q1 fq1 v5 σ6 hc_v5 _) (cwV 1 hts gX11_put_X4_add rfl rfl rfl (by decide +kernel) ⟨Nat.le_of_ble_eq_true rfl, Nat.le_of_ble_eq_true rfl⟩) (pQ_v hP hK hD (va_recv hK.1 hP (ci := 4) (q0 := 1) rfl rfl)) rfl rfl hl.1 rfl (lv_room (Nat.le_of_ble_eq_true rfl)) dX11_put_27 ⟨Nat.zero_le _, Nat.zero_le _⟩) hD hS hA (fun H locs hP hD hS => ?_)
    have hZ : shOK (va_up sh (σ4 33 0).toNatClampNeg (some q1)) LP Z := shOK_put hZ fq1
    exact mretQ hx hb hr hlk h (by rw [show shPut σ sh q1 = (va_up sh (σ4 33 0).toNatClampNeg (some q1)) from (if_neg (fun q => c2 ((Option.some.inj hc_v1).symm.trans q))).trans (by rw [← Option.some.inj hc_v3]; rfl)]; exact hP) (by rw [show shPut σ sh q1 = (va_up sh (σ4 33 0).toNatClampNeg (some q1)) from (if_neg (fun q => c2 ((Option.some.inj hc_v1).symm.trans q))).trans (by rw [← Option.some.inj hc_v3]; rfl)]; exact hD) hS dX11_put_30
  · have h := it_n c2 h
    refine lv_bipush (v := ((-3) : Int32)) hx hb dX11_put_12 (by decide) ?_
    exact mretQ hx hb hr hlk h (by rw [show shPut σ sh q1 = sh from if_pos ((Option.some.inj hc_v1).trans c2)]; exact hP) (by rw [show shPut σ sh q1 = sh from if_pos ((Option.some.inj hc_v1).trans c2)]; exact hD) hS dX11_put_14
def fX11_undo (F : Nat) (sh : Nat → Option Nat) (Z : ZT) (σ : Nat → Nat → Int32)  : Option (Int32 × (Nat → Nat → Int32)) :=
  bd (fX4_shapesTold sh Z σ) fun v1 => if ¬ v1 = 0 then (bd (fX4_removeLatest F sh Z σ) fun σ4 => bd (fX10_forget (va_up sh (σ 33 0 - (1 : Int32)).toNatClampNeg none) Z σ4) fun σ6 => bd (fX4_shapesTold (va_up sh (σ 33 0 - (1 : Int32)).toNatClampNeg none) Z σ6) fun v7 => some (v7, σ6)) else (some (((-2) : Int32), σ))
abbrev rmX11_undo : Room := { frames := 1, cells := 0, slots := 0, locals := 21 }
theorem inX11_X11_undo : ∀ w ∈ wsX110, w ∈ wsX11_undo := by intro w h; simp only [wsX11_undo, List.mem_cons, List.mem_append]; simp only [h, true_or, or_true]
set_option maxHeartbeats 4000000 in
set_option maxRecDepth 100000 in
theorem kX11_undo (l : Launch) (D : va_G) (cs : Nat → ClassId) (a : Nat → Nat) (sh : Nat → Option Nat) (LP : List Nat) (Z : ZT) (hZ : shOK sh LP Z) (σ : Nat → Nat → Int32) (F : Nat)  (r : Int32) (u9 : Nat → Nat → Int32) (h : fX11_undo F sh Z σ = some (r, u9)) (sz : Nat) : Met l yX11_undo wsX11_undo rmX11_undo (va_Pc [.ref (a 0)] (pQ D cs (cW a cs sh LP Z σ) sz)) (va_Qi (fun x y => x = r ∧ y = u9) (qB D (cW a cs (shUndo σ sh) LP Z) (va_A (cW a cs sh LP Z σ) sz)) (va_A (cW a cs sh LP Z σ) sz)) 0 0 (va_A (cW a cs sh LP Z σ) sz) := by
  refine Met.ofW (cc := cX11_undo) (maxL := 1) (ret := (some .int)) (by decide) rfl ?_
  intro p e s m args below meth c s₁ B hml hv
  obtain ⟨rfl, hsz, hP, hK, hD0⟩ := hv
  have C : cxt p s m _ meth c cX11_undo 1 RX11 wsX11_undo (some .int) := ⟨B.exec, B.bytes, hml, findClass_of_methodNamed B.named, atoms_spec (ws := wsX11_undo) B.pre, B.returns, B.notSynchronized⟩
  obtain ⟨hx, hb, -, hown, hts, hr, hlk⟩ := id C
  subst hsz
  have hD := hD0.self (sz := s.heap.size)
  generalize hAe : va_A (cW a cs sh LP Z σ) s.heap.size = A at hD ⊢
  have hA : ∀ q : Nat, s.heap.size ≤ q → A q := fun q h => by rw [← hAe]; exact Or.inr h
  have hS : va_S A s.heap s.heap [] := va_S.rf
  refine entryW [.ref (a 0)] (n := 1) (Nat.le_of_ble_eq_true rfl) (fun ls hl => ?_)
  have hl : lv_has ls 1 [(0, .ref (a 0))] := hl
  unfold fX11_undo at h
  refine lv_aload_n hx hb dX11_undo_0 rfl (lv_at hl 0 rfl) ?_
  refine va_get (D := D) (ci := 10) (v := .ref (a 1)) (C := RX11) (T := TX11) (N := 5) hx hb hts inX11_X11_undo hown hK.1 hP 0 rfl rfl 0 (by decide) (hts (.fieldLink RX11 10 "SandPalace" "picture" "LSandPalace$Picture;") (by decide +kernel)) (fun _ h9 => h9) rfl dX11_undo_1 ?_
  obtain ⟨v1, hc_v1, h⟩ := bd_some h
  refine mcallS (va_runV (As := []) (rest := []) ⟨hx, hb, hml, hown, hts⟩ (kX4_shapesTold l D cs a sh LP Z hZ σ v1 hc_v1) (cwV 0 hts gX11_undo_X4_shapesTold rfl rfl rfl (by decide +kernel) ⟨Nat.le_of_ble_eq_true rfl, Nat.le_of_ble_eq_true rfl⟩) (pR_v hP hK (va_recv hK.1 hP (ci := 4) (q0 := 1) rfl rfl)) rfl rfl hl.1 rfl (lv_room (Nat.le_of_ble_eq_true rfl)) dX11_undo_4 ⟨Nat.zero_le _, Nat.zero_le _⟩) ?_
  refine lv_if_ne (tgt := 13) hx hb dX11_undo_7 (by decide) (fun c2 => ?_) (fun c2 => ?_)
  · have h := it_t c2 h
    refine lv_aload_n hx hb dX11_undo_13 rfl (lv_at hl 0 rfl) ?_
    refine va_get (D := D) (ci := 10) (v := .ref (a 1)) (C := RX11) (T := TX11) (N := 5) hx hb hts inX11_X11_undo hown hK.1 hP 0 rfl rfl 0 (by decide) (hts (.fieldLink RX11 10 "SandPalace" "picture" "LSandPalace$Picture;") (by decide +kernel)) (fun _ h9 => h9) rfl dX11_undo_14 ?_
    obtain ⟨σ4, hc_v3, h⟩ := bd_some h
    refine mcallQV (wf := (cW a cs (va_up sh (σ 33 0 - (1 : Int32)).toNatClampNeg none) LP Z)) (va_runV (As := []) (rest := []) ⟨hx, hb, hml, hown, hts⟩ (kX4_removeLatest l D cs a sh LP Z hZ σ F σ4 hc_v3 _) (cwV 0 hts gX11_undo_X4_removeLatest rfl rfl rfl (by decide +kernel) ⟨Nat.le_of_ble_eq_true rfl, Nat.le_of_ble_eq_true rfl⟩) (pQ_v hP hK hD (va_recv hK.1 hP (ci := 4) (q0 := 1) rfl rfl)) rfl rfl hl.1 rfl (lv_room (Nat.le_of_ble_eq_true rfl)) dX11_undo_17 ⟨Nat.zero_le _, Nat.zero_le _⟩) hD hS hA (fun H locs hP hD hS => ?_)
    have hZ : shOK (va_up sh (σ 33 0 - (1 : Int32)).toNatClampNeg none) LP Z := shOK_del hZ
    refine lv_aload_n hx hb dX11_undo_20 rfl (lv_at hl 0 rfl) ?_
    refine va_get (D := D) (ci := 10) (v := .ref (a 4)) (C := RX11) (T := TX11) (N := 5) hx hb hts inX11_X11_undo hown hK.1 hP 0 rfl rfl 1 (by decide) (hts (.fieldLink RX11 19 "SandPalace" "work" "LSandPalace$Work;") (by decide +kernel)) (fun _ h9 => h9) rfl dX11_undo_21 ?_
    obtain ⟨σ6, hc_v5, h⟩ := bd_some h
    refine mcallQV (wf := (cW a cs (va_up sh (σ 33 0 - (1 : Int32)).toNatClampNeg none) LP Z)) (va_runV (As := []) (rest := []) ⟨hx, hb, hml, hown, hts⟩ (kX10_forget l D cs a (va_up sh (σ 33 0 - (1 : Int32)).toNatClampNeg none) LP Z hZ σ4 σ6 hc_v5 _) (cwV 0 hts gX11_undo_X10_forget rfl rfl rfl (by decide +kernel) ⟨Nat.le_of_ble_eq_true rfl, Nat.le_of_ble_eq_true rfl⟩) (pQ_v hP hK hD (va_recv hK.1 hP (ci := 9) (q0 := 4) rfl rfl)) rfl rfl hl.1 rfl (lv_room (Nat.le_of_ble_eq_true rfl)) dX11_undo_24 ⟨Nat.zero_le _, Nat.zero_le _⟩) hD hS hA (fun H locs hP hD hS => ?_)
    refine lv_aload_n hx hb dX11_undo_27 rfl (lv_at hl 0 rfl) ?_
    refine va_get (D := D) (ci := 10) (v := .ref (a 1)) (C := RX11) (T := TX11) (N := 5) hx hb hts inX11_X11_undo hown hK.1 hP 0 rfl rfl 0 (by decide) (hts (.fieldLink RX11 10 "SandPalace" "picture" "LSandPalace$Picture;") (by decide +kernel)) (fun _ h9 => h9) rfl dX11_undo_28 ?_
    obtain ⟨v7, hc_v7, h⟩ := bd_some h
    refine mcallS (va_runV (As := []) (rest := []) ⟨hx, hb, hml, hown, hts⟩ (kX4_shapesTold l D cs a (va_up sh (σ 33 0 - (1 : Int32)).toNatClampNeg none) LP Z hZ σ6 v7 hc_v7) (cwV 0 hts gX11_undo_X4_shapesTold rfl rfl rfl (by decide +kernel) ⟨Nat.le_of_ble_eq_true rfl, Nat.le_of_ble_eq_true rfl⟩) (pR_v hP hK (va_recv hK.1 hP (ci := 4) (q0 := 1) rfl rfl)) rfl rfl hl.1 rfl (lv_room (Nat.le_of_ble_eq_true rfl)) dX11_undo_31 ⟨Nat.zero_le _, Nat.zero_le _⟩) ?_
    exact mretQ hx hb hr hlk h (by rw [show shUndo σ sh = (va_up sh (σ 33 0 - (1 : Int32)).toNatClampNeg none) from if_neg (fun q => c2 ((Option.some.inj hc_v1).symm.trans q))]; exact hP) (by rw [show shUndo σ sh = (va_up sh (σ 33 0 - (1 : Int32)).toNatClampNeg none) from if_neg (fun q => c2 ((Option.some.inj hc_v1).symm.trans q))]; exact hD) hS dX11_undo_34
  · have h := it_n c2 h
    refine lv_bipush (v := ((-2) : Int32)) hx hb dX11_undo_10 (by decide) ?_
    exact mretQ hx hb hr hlk h (by rw [show shUndo σ sh = sh from if_pos ((Option.some.inj hc_v1).trans c2)]; exact hP) (by rw [show shUndo σ sh = sh from if_pos ((Option.some.inj hc_v1).trans c2)]; exact hD) hS dX11_undo_12
abbrev rmX6_init : Room := { frames := 1, cells := 0, slots := 0, locals := 12 }
theorem inX0_X6_init : ∀ w ∈ wsX00, w ∈ wsX6_init := by intro w h; simp only [wsX6_init, List.mem_cons, List.mem_append]; simp only [h, true_or, or_true]
set_option maxHeartbeats 4000000 in
set_option maxRecDepth 100000 in
theorem kX6_init_0 (l : Launch) (D : va_G) (cs : Nat → ClassId) (q sz : Nat) (c0 : Int32) (p0 : Int64) (x1 : Int32) (x2 : Int64) : Met l yX6_init wsX6_init rmX6_init (va_Pc [.ref q, .int x1, .long x2] (pQ D cs [(q, .inr (0, [.int c0, .long p0]))] sz)) (va_Qv (fun y : Unit => y = ()) (qB D (fun _ : Unit => [(q, .inr (0, [.int x1, .long x2]))]) (va_A [(q, .inr (0, [.int c0, .long p0]))] sz)) (va_A [(q, .inr (0, [.int c0, .long p0]))] sz)) 0 0 (va_A [(q, .inr (0, [.int c0, .long p0]))] sz) := by
  refine Met.ofW (cc := cX6_init) (maxL := 4) (ret := none) (by decide) rfl ?_
  intro p e s m args below meth c s₁ B hml hv
  obtain ⟨rfl, hsz, hP, hK, hD0⟩ := hv
  have C : cxt p s m _ meth c cX6_init 4 RX6 wsX6_init none := ⟨B.exec, B.bytes, hml, findClass_of_methodNamed B.named, atoms_spec (ws := wsX6_init) B.pre, B.returns, B.notSynchronized⟩
  obtain ⟨hx, hb, -, hown, hts, hr, hlk⟩ := id C
  have hin : meth.name = "<init>" := (name_of_methodNamed B.named B.method).1
  subst hsz
  have hD := hD0.self (sz := s.heap.size)
  generalize hAe : va_A [(q, .inr (0, [.int c0, .long p0]))] s.heap.size = A at hD ⊢
  have hA : ∀ q : Nat, s.heap.size ≤ q → A q := fun q h => by rw [← hAe]; exact Or.inr h
  have hS : va_S A s.heap s.heap [] := va_S.rf
  refine entryW [.ref q, .int x1, .long x2] (n := 4) (Nat.le_of_ble_eq_true rfl) (fun ls hl => ?_)
  have hl : lv_has ls 4 [(0, .ref q), (1, .int x1), (2, .long x2)] := hl
  refine lv_aload_n hx hb dX6_init_0 rfl (lv_at hl 0 rfl) ?_
  refine W.objInit hx hb hown (hts (.methodLink RX6 3 objectInit) (by decide +kernel)) (hts (.instanceMethod objectInit) (by decide +kernel)) (hts _ (List.mem_of_getElem? (l := wsX6_init) (i := 3) rfl)) rfl (by rw [hml]; exact hl.1) rfl dX6_init_1 (Nat.le_of_ble_eq_true rfl) (Nat.le_of_ble_eq_true rfl) ?_
  refine W.eq (g2 := F0 m 4 ls []) rfl ?_
  refine lv_aload_n hx hb dX6_init_4 rfl (lv_at hl 0 rfl) ?_
  refine lv_iload_n hx hb dX6_init_5 rfl (lv_at hl 1 rfl) ?_
  refine va_putF (D := D) (ci := 0) (v := .int x1) (ty := .int) (C := RX0) (T := TX0) (N := 2) hx hb hts inX0_X6_init tyX0 tyX0_ok nmX0 hown hK.1 hP hD hS 0 rfl rfl 0 (by decide) (hts (.fieldLink RX6 9 "SandPalace$Shape" "colour" "I") (by decide +kernel)) (fun _ h9 => h9) rfl hin rfl (by decide +kernel) rfl rfl (Nat.le_of_ble_eq_true rfl) dX6_init_6 (fun H locs hP hD hS => ?_)
  refine lv_aload_n hx hb dX6_init_9 rfl (lv_at hl 0 rfl) ?_
  refine lv_lload_n hx hb dX6_init_10 rfl (lv_at hl 2 rfl) ?_
  refine va_putF (D := D) (ci := 0) (v := .long x2) (ty := .long) (C := RX0) (T := TX0) (N := 2) hx hb hts inX0_X6_init tyX0 tyX0_ok nmX0 hown hK.1 hP hD hS 0 rfl rfl 1 (by decide) (hts (.fieldLink RX6 15 "SandPalace$Shape" "places" "J") (by decide +kernel)) (fun _ h9 => h9) rfl hin rfl (by decide +kernel) rfl rfl (Nat.le_of_ble_eq_true rfl) dX6_init_11 (fun H locs hP hD hS => ?_)
  exact mretV (wf := fun _ : Unit => [(q, .inr (0, [.int x1, .long x2]))]) (u := ()) hx hb hr hlk rfl hP hD hS dX6_init_14
theorem inX1_X6_init : ∀ w ∈ wsX10, w ∈ wsX6_init := by intro w h; simp only [wsX6_init, List.mem_cons, List.mem_append]; simp only [h, true_or, or_true]
set_option maxHeartbeats 4000000 in
set_option maxRecDepth 100000 in
theorem kX6_init_1 (l : Launch) (D : va_G) (cs : Nat → ClassId) (q sz : Nat) (c0 : Int32) (p0 : Int64) (x1 : Int32) (x2 : Int64) : Met l yX6_init wsX6_init rmX6_init (va_Pc [.ref q, .int x1, .long x2] (pQ D cs [(q, .inr (1, [.int c0, .long p0]))] sz)) (va_Qv (fun y : Unit => y = ()) (qB D (fun _ : Unit => [(q, .inr (1, [.int x1, .long x2]))]) (va_A [(q, .inr (1, [.int c0, .long p0]))] sz)) (va_A [(q, .inr (1, [.int c0, .long p0]))] sz)) 0 0 (va_A [(q, .inr (1, [.int c0, .long p0]))] sz) := by
  refine Met.ofW (cc := cX6_init) (maxL := 4) (ret := none) (by decide) rfl ?_
  intro p e s m args below meth c s₁ B hml hv
  obtain ⟨rfl, hsz, hP, hK, hD0⟩ := hv
  have C : cxt p s m _ meth c cX6_init 4 RX6 wsX6_init none := ⟨B.exec, B.bytes, hml, findClass_of_methodNamed B.named, atoms_spec (ws := wsX6_init) B.pre, B.returns, B.notSynchronized⟩
  obtain ⟨hx, hb, -, hown, hts, hr, hlk⟩ := id C
  have hin : meth.name = "<init>" := (name_of_methodNamed B.named B.method).1
  subst hsz
  have hD := hD0.self (sz := s.heap.size)
  generalize hAe : va_A [(q, .inr (1, [.int c0, .long p0]))] s.heap.size = A at hD ⊢
  have hA : ∀ q : Nat, s.heap.size ≤ q → A q := fun q h => by rw [← hAe]; exact Or.inr h
  have hS : va_S A s.heap s.heap [] := va_S.rf
  refine entryW [.ref q, .int x1, .long x2] (n := 4) (Nat.le_of_ble_eq_true rfl) (fun ls hl => ?_)
  have hl : lv_has ls 4 [(0, .ref q), (1, .int x1), (2, .long x2)] := hl
  refine lv_aload_n hx hb dX6_init_0 rfl (lv_at hl 0 rfl) ?_
  refine W.objInit hx hb hown (hts (.methodLink RX6 3 objectInit) (by decide +kernel)) (hts (.instanceMethod objectInit) (by decide +kernel)) (hts _ (List.mem_of_getElem? (l := wsX6_init) (i := 3) rfl)) rfl (by rw [hml]; exact hl.1) rfl dX6_init_1 (Nat.le_of_ble_eq_true rfl) (Nat.le_of_ble_eq_true rfl) ?_
  refine W.eq (g2 := F0 m 4 ls []) rfl ?_
  refine lv_aload_n hx hb dX6_init_4 rfl (lv_at hl 0 rfl) ?_
  refine lv_iload_n hx hb dX6_init_5 rfl (lv_at hl 1 rfl) ?_
  refine va_putF (D := D) (ci := 1) (v := .int x1) (ty := .int) (C := RX1) (T := TX1) (N := 2) hx hb hts inX1_X6_init tyX1 tyX1_ok nmX1 hown hK.1 hP hD hS 0 rfl rfl 0 (by decide) (hts (.fieldLink RX6 9 "SandPalace$Shape" "colour" "I") (by decide +kernel)) (fun _ h9 => h9) rfl hin rfl (by decide +kernel) rfl rfl (Nat.le_of_ble_eq_true rfl) dX6_init_6 (fun H locs hP hD hS => ?_)
  refine lv_aload_n hx hb dX6_init_9 rfl (lv_at hl 0 rfl) ?_
  refine lv_lload_n hx hb dX6_init_10 rfl (lv_at hl 2 rfl) ?_
  refine va_putF (D := D) (ci := 1) (v := .long x2) (ty := .long) (C := RX1) (T := TX1) (N := 2) hx hb hts inX1_X6_init tyX1 tyX1_ok nmX1 hown hK.1 hP hD hS 0 rfl rfl 1 (by decide) (hts (.fieldLink RX6 15 "SandPalace$Shape" "places" "J") (by decide +kernel)) (fun _ h9 => h9) rfl hin rfl (by decide +kernel) rfl rfl (Nat.le_of_ble_eq_true rfl) dX6_init_11 (fun H locs hP hD hS => ?_)
  exact mretV (wf := fun _ : Unit => [(q, .inr (1, [.int x1, .long x2]))]) (u := ()) hx hb hr hlk rfl hP hD hS dX6_init_14
theorem inX2_X6_init : ∀ w ∈ wsX20, w ∈ wsX6_init := by intro w h; simp only [wsX6_init, List.mem_cons, List.mem_append]; simp only [h, true_or, or_true]
set_option maxHeartbeats 4000000 in
set_option maxRecDepth 100000 in
theorem kX6_init_2 (l : Launch) (D : va_G) (cs : Nat → ClassId) (q sz : Nat) (c0 : Int32) (p0 : Int64) (x1 : Int32) (x2 : Int64) : Met l yX6_init wsX6_init rmX6_init (va_Pc [.ref q, .int x1, .long x2] (pQ D cs [(q, .inr (2, [.int c0, .long p0]))] sz)) (va_Qv (fun y : Unit => y = ()) (qB D (fun _ : Unit => [(q, .inr (2, [.int x1, .long x2]))]) (va_A [(q, .inr (2, [.int c0, .long p0]))] sz)) (va_A [(q, .inr (2, [.int c0, .long p0]))] sz)) 0 0 (va_A [(q, .inr (2, [.int c0, .long p0]))] sz) := by
  refine Met.ofW (cc := cX6_init) (maxL := 4) (ret := none) (by decide) rfl ?_
  intro p e s m args below meth c s₁ B hml hv
  obtain ⟨rfl, hsz, hP, hK, hD0⟩ := hv
  have C : cxt p s m _ meth c cX6_init 4 RX6 wsX6_init none := ⟨B.exec, B.bytes, hml, findClass_of_methodNamed B.named, atoms_spec (ws := wsX6_init) B.pre, B.returns, B.notSynchronized⟩
  obtain ⟨hx, hb, -, hown, hts, hr, hlk⟩ := id C
  have hin : meth.name = "<init>" := (name_of_methodNamed B.named B.method).1
  subst hsz
  have hD := hD0.self (sz := s.heap.size)
  generalize hAe : va_A [(q, .inr (2, [.int c0, .long p0]))] s.heap.size = A at hD ⊢
  have hA : ∀ q : Nat, s.heap.size ≤ q → A q := fun q h => by rw [← hAe]; exact Or.inr h
  have hS : va_S A s.heap s.heap [] := va_S.rf
  refine entryW [.ref q, .int x1, .long x2] (n := 4) (Nat.le_of_ble_eq_true rfl) (fun ls hl => ?_)
  have hl : lv_has ls 4 [(0, .ref q), (1, .int x1), (2, .long x2)] := hl
  refine lv_aload_n hx hb dX6_init_0 rfl (lv_at hl 0 rfl) ?_
  refine W.objInit hx hb hown (hts (.methodLink RX6 3 objectInit) (by decide +kernel)) (hts (.instanceMethod objectInit) (by decide +kernel)) (hts _ (List.mem_of_getElem? (l := wsX6_init) (i := 3) rfl)) rfl (by rw [hml]; exact hl.1) rfl dX6_init_1 (Nat.le_of_ble_eq_true rfl) (Nat.le_of_ble_eq_true rfl) ?_
  refine W.eq (g2 := F0 m 4 ls []) rfl ?_
  refine lv_aload_n hx hb dX6_init_4 rfl (lv_at hl 0 rfl) ?_
  refine lv_iload_n hx hb dX6_init_5 rfl (lv_at hl 1 rfl) ?_
  refine va_putF (D := D) (ci := 2) (v := .int x1) (ty := .int) (C := RX2) (T := TX2) (N := 2) hx hb hts inX2_X6_init tyX2 tyX2_ok nmX2 hown hK.1 hP hD hS 0 rfl rfl 0 (by decide) (hts (.fieldLink RX6 9 "SandPalace$Shape" "colour" "I") (by decide +kernel)) (fun _ h9 => h9) rfl hin rfl (by decide +kernel) rfl rfl (Nat.le_of_ble_eq_true rfl) dX6_init_6 (fun H locs hP hD hS => ?_)
  refine lv_aload_n hx hb dX6_init_9 rfl (lv_at hl 0 rfl) ?_
  refine lv_lload_n hx hb dX6_init_10 rfl (lv_at hl 2 rfl) ?_
  refine va_putF (D := D) (ci := 2) (v := .long x2) (ty := .long) (C := RX2) (T := TX2) (N := 2) hx hb hts inX2_X6_init tyX2 tyX2_ok nmX2 hown hK.1 hP hD hS 0 rfl rfl 1 (by decide) (hts (.fieldLink RX6 15 "SandPalace$Shape" "places" "J") (by decide +kernel)) (fun _ h9 => h9) rfl hin rfl (by decide +kernel) rfl rfl (Nat.le_of_ble_eq_true rfl) dX6_init_11 (fun H locs hP hD hS => ?_)
  exact mretV (wf := fun _ : Unit => [(q, .inr (2, [.int x1, .long x2]))]) (u := ()) hx hb hr hlk rfl hP hD hS dX6_init_14
theorem inX5_X6_init : ∀ w ∈ wsX50, w ∈ wsX6_init := by intro w h; simp only [wsX6_init, List.mem_cons, List.mem_append]; simp only [h, true_or, or_true]
set_option maxHeartbeats 4000000 in
set_option maxRecDepth 100000 in
theorem kX6_init_5 (l : Launch) (D : va_G) (cs : Nat → ClassId) (q sz : Nat) (c0 : Int32) (p0 : Int64) (x1 : Int32) (x2 : Int64) : Met l yX6_init wsX6_init rmX6_init (va_Pc [.ref q, .int x1, .long x2] (pQ D cs [(q, .inr (5, [.int c0, .long p0]))] sz)) (va_Qv (fun y : Unit => y = ()) (qB D (fun _ : Unit => [(q, .inr (5, [.int x1, .long x2]))]) (va_A [(q, .inr (5, [.int c0, .long p0]))] sz)) (va_A [(q, .inr (5, [.int c0, .long p0]))] sz)) 0 0 (va_A [(q, .inr (5, [.int c0, .long p0]))] sz) := by
  refine Met.ofW (cc := cX6_init) (maxL := 4) (ret := none) (by decide) rfl ?_
  intro p e s m args below meth c s₁ B hml hv
  obtain ⟨rfl, hsz, hP, hK, hD0⟩ := hv
  have C : cxt p s m _ meth c cX6_init 4 RX6 wsX6_init none := ⟨B.exec, B.bytes, hml, findClass_of_methodNamed B.named, atoms_spec (ws := wsX6_init) B.pre, B.returns, B.notSynchronized⟩
  obtain ⟨hx, hb, -, hown, hts, hr, hlk⟩ := id C
  have hin : meth.name = "<init>" := (name_of_methodNamed B.named B.method).1
  subst hsz
  have hD := hD0.self (sz := s.heap.size)
  generalize hAe : va_A [(q, .inr (5, [.int c0, .long p0]))] s.heap.size = A at hD ⊢
  have hA : ∀ q : Nat, s.heap.size ≤ q → A q := fun q h => by rw [← hAe]; exact Or.inr h
  have hS : va_S A s.heap s.heap [] := va_S.rf
  refine entryW [.ref q, .int x1, .long x2] (n := 4) (Nat.le_of_ble_eq_true rfl) (fun ls hl => ?_)
  have hl : lv_has ls 4 [(0, .ref q), (1, .int x1), (2, .long x2)] := hl
  refine lv_aload_n hx hb dX6_init_0 rfl (lv_at hl 0 rfl) ?_
  refine W.objInit hx hb hown (hts (.methodLink RX6 3 objectInit) (by decide +kernel)) (hts (.instanceMethod objectInit) (by decide +kernel)) (hts _ (List.mem_of_getElem? (l := wsX6_init) (i := 3) rfl)) rfl (by rw [hml]; exact hl.1) rfl dX6_init_1 (Nat.le_of_ble_eq_true rfl) (Nat.le_of_ble_eq_true rfl) ?_
  refine W.eq (g2 := F0 m 4 ls []) rfl ?_
  refine lv_aload_n hx hb dX6_init_4 rfl (lv_at hl 0 rfl) ?_
  refine lv_iload_n hx hb dX6_init_5 rfl (lv_at hl 1 rfl) ?_
  refine va_putF (D := D) (ci := 5) (v := .int x1) (ty := .int) (C := RX5) (T := TX5) (N := 2) hx hb hts inX5_X6_init tyX5 tyX5_ok nmX5 hown hK.1 hP hD hS 0 rfl rfl 0 (by decide) (hts (.fieldLink RX6 9 "SandPalace$Shape" "colour" "I") (by decide +kernel)) (fun _ h9 => h9) rfl hin rfl (by decide +kernel) rfl rfl (Nat.le_of_ble_eq_true rfl) dX6_init_6 (fun H locs hP hD hS => ?_)
  refine lv_aload_n hx hb dX6_init_9 rfl (lv_at hl 0 rfl) ?_
  refine lv_lload_n hx hb dX6_init_10 rfl (lv_at hl 2 rfl) ?_
  refine va_putF (D := D) (ci := 5) (v := .long x2) (ty := .long) (C := RX5) (T := TX5) (N := 2) hx hb hts inX5_X6_init tyX5 tyX5_ok nmX5 hown hK.1 hP hD hS 0 rfl rfl 1 (by decide) (hts (.fieldLink RX6 15 "SandPalace$Shape" "places" "J") (by decide +kernel)) (fun _ h9 => h9) rfl hin rfl (by decide +kernel) rfl rfl (Nat.le_of_ble_eq_true rfl) dX6_init_11 (fun H locs hP hD hS => ?_)
  exact mretV (wf := fun _ : Unit => [(q, .inr (5, [.int x1, .long x2]))]) (u := ()) hx hb hr hlk rfl hP hD hS dX6_init_14
theorem inX8_X6_init : ∀ w ∈ wsX80, w ∈ wsX6_init := by intro w h; simp only [wsX6_init, List.mem_cons, List.mem_append]; simp only [h, true_or, or_true]
set_option maxHeartbeats 4000000 in
set_option maxRecDepth 100000 in
theorem kX6_init_7 (l : Launch) (D : va_G) (cs : Nat → ClassId) (q sz : Nat) (c0 : Int32) (p0 : Int64) (s0 : Int32) (x1 : Int32) (x2 : Int64) : Met l yX6_init wsX6_init rmX6_init (va_Pc [.ref q, .int x1, .long x2] (pQ D cs [(q, .inr (7, [.int c0, .long p0, .int s0]))] sz)) (va_Qv (fun y : Unit => y = ()) (qB D (fun _ : Unit => [(q, .inr (7, [.int x1, .long x2, .int s0]))]) (va_A [(q, .inr (7, [.int c0, .long p0, .int s0]))] sz)) (va_A [(q, .inr (7, [.int c0, .long p0, .int s0]))] sz)) 0 0 (va_A [(q, .inr (7, [.int c0, .long p0, .int s0]))] sz) := by
  refine Met.ofW (cc := cX6_init) (maxL := 4) (ret := none) (by decide) rfl ?_
  intro p e s m args below meth c s₁ B hml hv
  obtain ⟨rfl, hsz, hP, hK, hD0⟩ := hv
  have C : cxt p s m _ meth c cX6_init 4 RX6 wsX6_init none := ⟨B.exec, B.bytes, hml, findClass_of_methodNamed B.named, atoms_spec (ws := wsX6_init) B.pre, B.returns, B.notSynchronized⟩
  obtain ⟨hx, hb, -, hown, hts, hr, hlk⟩ := id C
  have hin : meth.name = "<init>" := (name_of_methodNamed B.named B.method).1
  subst hsz
  have hD := hD0.self (sz := s.heap.size)
  generalize hAe : va_A [(q, .inr (7, [.int c0, .long p0, .int s0]))] s.heap.size = A at hD ⊢
  have hA : ∀ q : Nat, s.heap.size ≤ q → A q := fun q h => by rw [← hAe]; exact Or.inr h
  have hS : va_S A s.heap s.heap [] := va_S.rf
  refine entryW [.ref q, .int x1, .long x2] (n := 4) (Nat.le_of_ble_eq_true rfl) (fun ls hl => ?_)
  have hl : lv_has ls 4 [(0, .ref q), (1, .int x1), (2, .long x2)] := hl
  refine lv_aload_n hx hb dX6_init_0 rfl (lv_at hl 0 rfl) ?_
  refine W.objInit hx hb hown (hts (.methodLink RX6 3 objectInit) (by decide +kernel)) (hts (.instanceMethod objectInit) (by decide +kernel)) (hts _ (List.mem_of_getElem? (l := wsX6_init) (i := 3) rfl)) rfl (by rw [hml]; exact hl.1) rfl dX6_init_1 (Nat.le_of_ble_eq_true rfl) (Nat.le_of_ble_eq_true rfl) ?_
  refine W.eq (g2 := F0 m 4 ls []) rfl ?_
  refine lv_aload_n hx hb dX6_init_4 rfl (lv_at hl 0 rfl) ?_
  refine lv_iload_n hx hb dX6_init_5 rfl (lv_at hl 1 rfl) ?_
  refine va_putF (D := D) (ci := 7) (v := .int x1) (ty := .int) (C := RX8) (T := TX8) (N := 3) hx hb hts inX8_X6_init tyX8 tyX8_ok nmX8 hown hK.1 hP hD hS 0 rfl rfl 0 (by decide) (hts (.fieldLink RX6 9 "SandPalace$Shape" "colour" "I") (by decide +kernel)) (fun _ h9 => h9) rfl hin rfl (by decide +kernel) rfl rfl (Nat.le_of_ble_eq_true rfl) dX6_init_6 (fun H locs hP hD hS => ?_)
  refine lv_aload_n hx hb dX6_init_9 rfl (lv_at hl 0 rfl) ?_
  refine lv_lload_n hx hb dX6_init_10 rfl (lv_at hl 2 rfl) ?_
  refine va_putF (D := D) (ci := 7) (v := .long x2) (ty := .long) (C := RX8) (T := TX8) (N := 3) hx hb hts inX8_X6_init tyX8 tyX8_ok nmX8 hown hK.1 hP hD hS 0 rfl rfl 1 (by decide) (hts (.fieldLink RX6 15 "SandPalace$Shape" "places" "J") (by decide +kernel)) (fun _ h9 => h9) rfl hin rfl (by decide +kernel) rfl rfl (Nat.le_of_ble_eq_true rfl) dX6_init_11 (fun H locs hP hD hS => ?_)
  exact mretV (wf := fun _ : Unit => [(q, .inr (7, [.int x1, .long x2, .int s0]))]) (u := ()) hx hb hr hlk rfl hP hD hS dX6_init_14
abbrev rmX1_init : Room := { frames := 2, cells := 0, slots := 0, locals := 35 }
set_option maxHeartbeats 4000000 in
set_option maxRecDepth 100000 in
theorem kX1_init (l : Launch) (D : va_G) (cs : Nat → ClassId) (q sz : Nat) (c0 : Int32) (p0 : Int64) (F : Nat) (x1 x2 : Int32) (pl : Int64) (h : fX1_placesOf F x2 = some pl) : Met l yX1_init wsX1_init rmX1_init (va_Pc [.ref q, .int x1, .int x2] (pQ D cs [(q, .inr (1, [.int c0, .long p0]))] sz)) (va_Qv (fun y : Unit => y = ()) (qB D (fun _ : Unit => [(q, .inr (1, [.int x1, .long pl]))]) (va_A [(q, .inr (1, [.int c0, .long p0]))] sz)) (va_A [(q, .inr (1, [.int c0, .long p0]))] sz)) 0 0 (va_A [(q, .inr (1, [.int c0, .long p0]))] sz) := by
  refine Met.ofW (cc := cX1_init) (maxL := 3) (ret := none) (by decide) rfl ?_
  intro p e s m args below meth c s₁ B hml hv
  obtain ⟨rfl, hsz, hP, hK, hD0⟩ := hv
  have C : cxt p s m _ meth c cX1_init 3 RX1 wsX1_init none := ⟨B.exec, B.bytes, hml, findClass_of_methodNamed B.named, atoms_spec (ws := wsX1_init) B.pre, B.returns, B.notSynchronized⟩
  obtain ⟨hx, hb, -, hown, hts, hr, hlk⟩ := id C
  have hin : meth.name = "<init>" := (name_of_methodNamed B.named B.method).1
  subst hsz
  have hD := hD0.self (sz := s.heap.size)
  generalize hAe : va_A [(q, .inr (1, [.int c0, .long p0]))] s.heap.size = A at hD ⊢
  have hA : ∀ q : Nat, s.heap.size ≤ q → A q := fun q h => by rw [← hAe]; exact Or.inr h
  have hS : va_S A s.heap s.heap [] := va_S.rf
  refine entryW [.ref q, .int x1, .int x2] (n := 3) (Nat.le_of_ble_eq_true rfl) (fun ls hl => ?_)
  have hl : lv_has ls 3 [(0, .ref q), (1, .int x1), (2, .int x2)] := hl
  refine lv_aload_n hx hb dX1_init_0 rfl (lv_at hl 0 rfl) ?_
  refine lv_iload_n hx hb dX1_init_1 rfl (lv_at hl 1 rfl) ?_
  refine lv_iload_n hx hb dX1_init_2 rfl (lv_at hl 2 rfl) ?_
  refine mcallSL (va_runS (As := [.int x2]) (rest := [.int x1, .ref q]) ⟨hx, hb, hml, hown, hts⟩ (kX1_placesOf l F x2 pl h) (va_cwS 1 hts gX1_init_X1_placesOf rfl rfl rfl (by decide +kernel) ⟨Nat.le_of_ble_eq_true rfl, Nat.le_of_ble_eq_true rfl⟩) p0_s rfl rfl hl.1 rfl (lv_room (Nat.le_of_ble_eq_true rfl)) dX1_init_3 ⟨Nat.zero_le _, Nat.zero_le _⟩) ?_
  refine mcallQV (wf := fun _ : Unit => [(q, .inr (1, [.int x1, .long pl]))]) (va_runI (As := [.int x1, .long pl]) (rest := []) ⟨hx, hb, hml, hown, hts⟩ (kX6_init_1 l D cs q _ c0 p0 x1 pl) (cwI 2 hts gX1_init_X6_init rfl rfl rfl (hts (.initialized RX6) (by decide +kernel)) (hts (.methodLink RX1 9 yX6_init) (by decide +kernel)) (hts (.instanceMethod yX6_init) (by decide +kernel)) rfl (by decide +kernel) ⟨Nat.le_of_ble_eq_true rfl, Nat.le_of_ble_eq_true rfl⟩) (pQ_s hP hK hD) rfl rfl hl.1 rfl (lv_room (Nat.le_of_ble_eq_true rfl)) dX1_init_6 ⟨Nat.zero_le _, Nat.zero_le _⟩) hD hS hA (fun H locs hP hD hS => ?_)
  exact mretV (wf := fun _ : Unit => [(q, .inr (1, [.int x1, .long pl]))]) (u := ()) hx hb hr hlk rfl hP hD hS dX1_init_9
abbrev rmX5_init : Room := { frames := 2, cells := 0, slots := 0, locals := 44 }
set_option maxHeartbeats 4000000 in
set_option maxRecDepth 100000 in
theorem kX5_init (l : Launch) (D : va_G) (cs : Nat → ClassId) (q sz : Nat) (c0 : Int32) (p0 : Int64) (F : Nat) (x1 x2 : Int32) (pl : Int64) (h : fX5_placesOf F x2 = some pl) : Met l yX5_init wsX5_init rmX5_init (va_Pc [.ref q, .int x1, .int x2] (pQ D cs [(q, .inr (5, [.int c0, .long p0]))] sz)) (va_Qv (fun y : Unit => y = ()) (qB D (fun _ : Unit => [(q, .inr (5, [.int x1, .long pl]))]) (va_A [(q, .inr (5, [.int c0, .long p0]))] sz)) (va_A [(q, .inr (5, [.int c0, .long p0]))] sz)) 0 0 (va_A [(q, .inr (5, [.int c0, .long p0]))] sz) := by
  refine Met.ofW (cc := cX5_init) (maxL := 3) (ret := none) (by decide) rfl ?_
  intro p e s m args below meth c s₁ B hml hv
  obtain ⟨rfl, hsz, hP, hK, hD0⟩ := hv
  have C : cxt p s m _ meth c cX5_init 3 RX5 wsX5_init none := ⟨B.exec, B.bytes, hml, findClass_of_methodNamed B.named, atoms_spec (ws := wsX5_init) B.pre, B.returns, B.notSynchronized⟩
  obtain ⟨hx, hb, -, hown, hts, hr, hlk⟩ := id C
  have hin : meth.name = "<init>" := (name_of_methodNamed B.named B.method).1
  subst hsz
  have hD := hD0.self (sz := s.heap.size)
  generalize hAe : va_A [(q, .inr (5, [.int c0, .long p0]))] s.heap.size = A at hD ⊢
  have hA : ∀ q : Nat, s.heap.size ≤ q → A q := fun q h => by rw [← hAe]; exact Or.inr h
  have hS : va_S A s.heap s.heap [] := va_S.rf
  refine entryW [.ref q, .int x1, .int x2] (n := 3) (Nat.le_of_ble_eq_true rfl) (fun ls hl => ?_)
  have hl : lv_has ls 3 [(0, .ref q), (1, .int x1), (2, .int x2)] := hl
  refine lv_aload_n hx hb dX5_init_0 rfl (lv_at hl 0 rfl) ?_
  refine lv_iload_n hx hb dX5_init_1 rfl (lv_at hl 1 rfl) ?_
  refine lv_iload_n hx hb dX5_init_2 rfl (lv_at hl 2 rfl) ?_
  refine mcallSL (va_runS (As := [.int x2]) (rest := [.int x1, .ref q]) ⟨hx, hb, hml, hown, hts⟩ (kX5_placesOf l F x2 pl h) (va_cwS 1 hts gX5_init_X5_placesOf rfl rfl rfl (by decide +kernel) ⟨Nat.le_of_ble_eq_true rfl, Nat.le_of_ble_eq_true rfl⟩) p0_s rfl rfl hl.1 rfl (lv_room (Nat.le_of_ble_eq_true rfl)) dX5_init_3 ⟨Nat.zero_le _, Nat.zero_le _⟩) ?_
  refine mcallQV (wf := fun _ : Unit => [(q, .inr (5, [.int x1, .long pl]))]) (va_runI (As := [.int x1, .long pl]) (rest := []) ⟨hx, hb, hml, hown, hts⟩ (kX6_init_5 l D cs q _ c0 p0 x1 pl) (cwI 2 hts gX5_init_X6_init rfl rfl rfl (hts (.initialized RX6) (by decide +kernel)) (hts (.methodLink RX5 9 yX6_init) (by decide +kernel)) (hts (.instanceMethod yX6_init) (by decide +kernel)) rfl (by decide +kernel) ⟨Nat.le_of_ble_eq_true rfl, Nat.le_of_ble_eq_true rfl⟩) (pQ_s hP hK hD) rfl rfl hl.1 rfl (lv_room (Nat.le_of_ble_eq_true rfl)) dX5_init_6 ⟨Nat.zero_le _, Nat.zero_le _⟩) hD hS hA (fun H locs hP hD hS => ?_)
  exact mretV (wf := fun _ : Unit => [(q, .inr (5, [.int x1, .long pl]))]) (u := ()) hx hb hr hlk rfl hP hD hS dX5_init_9
abbrev rmX2_init : Room := { frames := 2, cells := 0, slots := 0, locals := 49 }
set_option maxHeartbeats 4000000 in
set_option maxRecDepth 100000 in
theorem kX2_init (l : Launch) (D : va_G) (cs : Nat → ClassId) (q sz : Nat) (c0 : Int32) (p0 : Int64) (F : Nat) (x1 x2 x3 x4 x5 : Int32) (pl : Int64) (h : fX2_placesOf F x2 x3 x4 x5 = some pl) : Met l yX2_init wsX2_init rmX2_init (va_Pc [.ref q, .int x1, .int x2, .int x3, .int x4, .int x5] (pQ D cs [(q, .inr (2, [.int c0, .long p0]))] sz)) (va_Qv (fun y : Unit => y = ()) (qB D (fun _ : Unit => [(q, .inr (2, [.int x1, .long pl]))]) (va_A [(q, .inr (2, [.int c0, .long p0]))] sz)) (va_A [(q, .inr (2, [.int c0, .long p0]))] sz)) 0 0 (va_A [(q, .inr (2, [.int c0, .long p0]))] sz) := by
  refine Met.ofW (cc := cX2_init) (maxL := 6) (ret := none) (by decide) rfl ?_
  intro p e s m args below meth c s₁ B hml hv
  obtain ⟨rfl, hsz, hP, hK, hD0⟩ := hv
  have C : cxt p s m _ meth c cX2_init 6 RX2 wsX2_init none := ⟨B.exec, B.bytes, hml, findClass_of_methodNamed B.named, atoms_spec (ws := wsX2_init) B.pre, B.returns, B.notSynchronized⟩
  obtain ⟨hx, hb, -, hown, hts, hr, hlk⟩ := id C
  have hin : meth.name = "<init>" := (name_of_methodNamed B.named B.method).1
  subst hsz
  have hD := hD0.self (sz := s.heap.size)
  generalize hAe : va_A [(q, .inr (2, [.int c0, .long p0]))] s.heap.size = A at hD ⊢
  have hA : ∀ q : Nat, s.heap.size ≤ q → A q := fun q h => by rw [← hAe]; exact Or.inr h
  have hS : va_S A s.heap s.heap [] := va_S.rf
  refine entryW [.ref q, .int x1, .int x2, .int x3, .int x4, .int x5] (n := 6) (Nat.le_of_ble_eq_true rfl) (fun ls hl => ?_)
  have hl : lv_has ls 6 [(0, .ref q), (1, .int x1), (2, .int x2), (3, .int x3), (4, .int x4), (5, .int x5)] := hl
  refine lv_aload_n hx hb dX2_init_0 rfl (lv_at hl 0 rfl) ?_
  refine lv_iload_n hx hb dX2_init_1 rfl (lv_at hl 1 rfl) ?_
  refine lv_iload_n hx hb dX2_init_2 rfl (lv_at hl 2 rfl) ?_
  refine lv_iload_n hx hb dX2_init_3 rfl (lv_at hl 3 rfl) ?_
  refine lv_iload hx hb dX2_init_4 (lv_at hl 4 rfl) ?_
  refine lv_iload hx hb dX2_init_6 (lv_at hl 5 rfl) ?_
  refine mcallSL (va_runS (As := [.int x2, .int x3, .int x4, .int x5]) (rest := [.int x1, .ref q]) ⟨hx, hb, hml, hown, hts⟩ (kX2_placesOf l F x2 x3 x4 x5 pl h) (va_cwS 4 hts gX2_init_X2_placesOf rfl rfl rfl (by decide +kernel) ⟨Nat.le_of_ble_eq_true rfl, Nat.le_of_ble_eq_true rfl⟩) p0_s rfl rfl hl.1 rfl (lv_room (Nat.le_of_ble_eq_true rfl)) dX2_init_8 ⟨Nat.zero_le _, Nat.zero_le _⟩) ?_
  refine mcallQV (wf := fun _ : Unit => [(q, .inr (2, [.int x1, .long pl]))]) (va_runI (As := [.int x1, .long pl]) (rest := []) ⟨hx, hb, hml, hown, hts⟩ (kX6_init_2 l D cs q _ c0 p0 x1 pl) (cwI 2 hts gX2_init_X6_init rfl rfl rfl (hts (.initialized RX6) (by decide +kernel)) (hts (.methodLink RX2 9 yX6_init) (by decide +kernel)) (hts (.instanceMethod yX6_init) (by decide +kernel)) rfl (by decide +kernel) ⟨Nat.le_of_ble_eq_true rfl, Nat.le_of_ble_eq_true rfl⟩) (pQ_s hP hK hD) rfl rfl hl.1 rfl (lv_room (Nat.le_of_ble_eq_true rfl)) dX2_init_11 ⟨Nat.zero_le _, Nat.zero_le _⟩) hD hS hA (fun H locs hP hD hS => ?_)
  exact mretV (wf := fun _ : Unit => [(q, .inr (2, [.int x1, .long pl]))]) (u := ()) hx hb hr hlk rfl hP hD hS dX2_init_14
abbrev rmX0_init : Room := { frames := 2, cells := 0, slots := 0, locals := 48 }
set_option maxHeartbeats 4000000 in
set_option maxRecDepth 100000 in
theorem kX0_init_0 (l : Launch) (D : va_G) (cs : Nat → ClassId) (q sz : Nat) (c0 : Int32) (p0 : Int64) (F : Nat) (x1 x2 x3 x4 x5 : Int32) (pl : Int64) (h : fX0_placesOf F x2 x3 x4 x5 = some pl) : Met l yX0_init wsX0_init rmX0_init (va_Pc [.ref q, .int x1, .int x2, .int x3, .int x4, .int x5] (pQ D cs [(q, .inr (0, [.int c0, .long p0]))] sz)) (va_Qv (fun y : Unit => y = ()) (qB D (fun _ : Unit => [(q, .inr (0, [.int x1, .long pl]))]) (va_A [(q, .inr (0, [.int c0, .long p0]))] sz)) (va_A [(q, .inr (0, [.int c0, .long p0]))] sz)) 0 0 (va_A [(q, .inr (0, [.int c0, .long p0]))] sz) := by
  refine Met.ofW (cc := cX0_init) (maxL := 6) (ret := none) (by decide) rfl ?_
  intro p e s m args below meth c s₁ B hml hv
  obtain ⟨rfl, hsz, hP, hK, hD0⟩ := hv
  have C : cxt p s m _ meth c cX0_init 6 RX0 wsX0_init none := ⟨B.exec, B.bytes, hml, findClass_of_methodNamed B.named, atoms_spec (ws := wsX0_init) B.pre, B.returns, B.notSynchronized⟩
  obtain ⟨hx, hb, -, hown, hts, hr, hlk⟩ := id C
  have hin : meth.name = "<init>" := (name_of_methodNamed B.named B.method).1
  subst hsz
  have hD := hD0.self (sz := s.heap.size)
  generalize hAe : va_A [(q, .inr (0, [.int c0, .long p0]))] s.heap.size = A at hD ⊢
  have hA : ∀ q : Nat, s.heap.size ≤ q → A q := fun q h => by rw [← hAe]; exact Or.inr h
  have hS : va_S A s.heap s.heap [] := va_S.rf
  refine entryW [.ref q, .int x1, .int x2, .int x3, .int x4, .int x5] (n := 6) (Nat.le_of_ble_eq_true rfl) (fun ls hl => ?_)
  have hl : lv_has ls 6 [(0, .ref q), (1, .int x1), (2, .int x2), (3, .int x3), (4, .int x4), (5, .int x5)] := hl
  refine lv_aload_n hx hb dX0_init_0 rfl (lv_at hl 0 rfl) ?_
  refine lv_iload_n hx hb dX0_init_1 rfl (lv_at hl 1 rfl) ?_
  refine lv_iload_n hx hb dX0_init_2 rfl (lv_at hl 2 rfl) ?_
  refine lv_iload_n hx hb dX0_init_3 rfl (lv_at hl 3 rfl) ?_
  refine lv_iload hx hb dX0_init_4 (lv_at hl 4 rfl) ?_
  refine lv_iload hx hb dX0_init_6 (lv_at hl 5 rfl) ?_
  refine mcallSL (va_runS (As := [.int x2, .int x3, .int x4, .int x5]) (rest := [.int x1, .ref q]) ⟨hx, hb, hml, hown, hts⟩ (kX0_placesOf l F x2 x3 x4 x5 pl h) (va_cwS 4 hts gX0_init_X0_placesOf rfl rfl rfl (by decide +kernel) ⟨Nat.le_of_ble_eq_true rfl, Nat.le_of_ble_eq_true rfl⟩) p0_s rfl rfl hl.1 rfl (lv_room (Nat.le_of_ble_eq_true rfl)) dX0_init_8 ⟨Nat.zero_le _, Nat.zero_le _⟩) ?_
  refine mcallQV (wf := fun _ : Unit => [(q, .inr (0, [.int x1, .long pl]))]) (va_runI (As := [.int x1, .long pl]) (rest := []) ⟨hx, hb, hml, hown, hts⟩ (kX6_init_0 l D cs q _ c0 p0 x1 pl) (cwI 2 hts gX0_init_X6_init rfl rfl rfl (hts (.initialized RX6) (by decide +kernel)) (hts (.methodLink RX0 9 yX6_init) (by decide +kernel)) (hts (.instanceMethod yX6_init) (by decide +kernel)) rfl (by decide +kernel) ⟨Nat.le_of_ble_eq_true rfl, Nat.le_of_ble_eq_true rfl⟩) (pQ_s hP hK hD) rfl rfl hl.1 rfl (lv_room (Nat.le_of_ble_eq_true rfl)) dX0_init_11 ⟨Nat.zero_le _, Nat.zero_le _⟩) hD hS hA (fun H locs hP hD hS => ?_)
  exact mretV (wf := fun _ : Unit => [(q, .inr (0, [.int x1, .long pl]))]) (u := ()) hx hb hr hlk rfl hP hD hS dX0_init_14
set_option maxHeartbeats 4000000 in
set_option maxRecDepth 100000 in
theorem kX0_init_7 (l : Launch) (D : va_G) (cs : Nat → ClassId) (q sz : Nat) (c0 : Int32) (p0 : Int64) (s0 : Int32) (F : Nat) (x1 x2 x3 x4 x5 : Int32) (pl : Int64) (h : fX0_placesOf F x2 x3 x4 x5 = some pl) : Met l yX0_init wsX0_init rmX0_init (va_Pc [.ref q, .int x1, .int x2, .int x3, .int x4, .int x5] (pQ D cs [(q, .inr (7, [.int c0, .long p0, .int s0]))] sz)) (va_Qv (fun y : Unit => y = ()) (qB D (fun _ : Unit => [(q, .inr (7, [.int x1, .long pl, .int s0]))]) (va_A [(q, .inr (7, [.int c0, .long p0, .int s0]))] sz)) (va_A [(q, .inr (7, [.int c0, .long p0, .int s0]))] sz)) 0 0 (va_A [(q, .inr (7, [.int c0, .long p0, .int s0]))] sz) := by
  refine Met.ofW (cc := cX0_init) (maxL := 6) (ret := none) (by decide) rfl ?_
  intro p e s m args below meth c s₁ B hml hv
  obtain ⟨rfl, hsz, hP, hK, hD0⟩ := hv
  have C : cxt p s m _ meth c cX0_init 6 RX0 wsX0_init none := ⟨B.exec, B.bytes, hml, findClass_of_methodNamed B.named, atoms_spec (ws := wsX0_init) B.pre, B.returns, B.notSynchronized⟩
  obtain ⟨hx, hb, -, hown, hts, hr, hlk⟩ := id C
  have hin : meth.name = "<init>" := (name_of_methodNamed B.named B.method).1
  subst hsz
  have hD := hD0.self (sz := s.heap.size)
  generalize hAe : va_A [(q, .inr (7, [.int c0, .long p0, .int s0]))] s.heap.size = A at hD ⊢
  have hA : ∀ q : Nat, s.heap.size ≤ q → A q := fun q h => by rw [← hAe]; exact Or.inr h
  have hS : va_S A s.heap s.heap [] := va_S.rf
  refine entryW [.ref q, .int x1, .int x2, .int x3, .int x4, .int x5] (n := 6) (Nat.le_of_ble_eq_true rfl) (fun ls hl => ?_)
  have hl : lv_has ls 6 [(0, .ref q), (1, .int x1), (2, .int x2), (3, .int x3), (4, .int x4), (5, .int x5)] := hl
  refine lv_aload_n hx hb dX0_init_0 rfl (lv_at hl 0 rfl) ?_
  refine lv_iload_n hx hb dX0_init_1 rfl (lv_at hl 1 rfl) ?_
  refine lv_iload_n hx hb dX0_init_2 rfl (lv_at hl 2 rfl) ?_
  refine lv_iload_n hx hb dX0_init_3 rfl (lv_at hl 3 rfl) ?_
  refine lv_iload hx hb dX0_init_4 (lv_at hl 4 rfl) ?_
  refine lv_iload hx hb dX0_init_6 (lv_at hl 5 rfl) ?_
  refine mcallSL (va_runS (As := [.int x2, .int x3, .int x4, .int x5]) (rest := [.int x1, .ref q]) ⟨hx, hb, hml, hown, hts⟩ (kX0_placesOf l F x2 x3 x4 x5 pl h) (va_cwS 4 hts gX0_init_X0_placesOf rfl rfl rfl (by decide +kernel) ⟨Nat.le_of_ble_eq_true rfl, Nat.le_of_ble_eq_true rfl⟩) p0_s rfl rfl hl.1 rfl (lv_room (Nat.le_of_ble_eq_true rfl)) dX0_init_8 ⟨Nat.zero_le _, Nat.zero_le _⟩) ?_
  refine mcallQV (wf := fun _ : Unit => [(q, .inr (7, [.int x1, .long pl, .int s0]))]) (va_runI (As := [.int x1, .long pl]) (rest := []) ⟨hx, hb, hml, hown, hts⟩ (kX6_init_7 l D cs q _ c0 p0 s0 x1 pl) (cwI 2 hts gX0_init_X6_init rfl rfl rfl (hts (.initialized RX6) (by decide +kernel)) (hts (.methodLink RX0 9 yX6_init) (by decide +kernel)) (hts (.instanceMethod yX6_init) (by decide +kernel)) rfl (by decide +kernel) ⟨Nat.le_of_ble_eq_true rfl, Nat.le_of_ble_eq_true rfl⟩) (pQ_s hP hK hD) rfl rfl hl.1 rfl (lv_room (Nat.le_of_ble_eq_true rfl)) dX0_init_11 ⟨Nat.zero_le _, Nat.zero_le _⟩) hD hS hA (fun H locs hP hD hS => ?_)
  exact mretV (wf := fun _ : Unit => [(q, .inr (7, [.int x1, .long pl, .int s0]))]) (u := ()) hx hb hr hlk rfl hP hD hS dX0_init_14
abbrev rmX8_init : Room := { frames := 3, cells := 0, slots := 0, locals := 73 }
theorem inX8_X8_init : ∀ w ∈ wsX80, w ∈ wsX8_init := by intro w h; simp only [wsX8_init, List.mem_cons, List.mem_append]; simp only [h, true_or, or_true]
set_option maxHeartbeats 4000000 in
set_option maxRecDepth 100000 in
theorem kX8_init (l : Launch) (D : va_G) (cs : Nat → ClassId) (q sz : Nat) (c0 : Int32) (p0 : Int64) (s0 : Int32) (F : Nat) (x1 x2 x3 x4 x5 x6 : Int32) (pl : Int64) (h : fX0_placesOf F x2 x3 x4 x5 = some pl) : Met l yX8_init wsX8_init rmX8_init (va_Pc [.ref q, .int x1, .int x2, .int x3, .int x4, .int x5, .int x6] (pQ D cs [(q, .inr (7, [.int c0, .long p0, .int s0]))] sz)) (va_Qv (fun y : Unit => y = ()) (qB D (fun _ : Unit => [(q, .inr (7, [.int x1, .long pl, .int x6]))]) (va_A [(q, .inr (7, [.int c0, .long p0, .int s0]))] sz)) (va_A [(q, .inr (7, [.int c0, .long p0, .int s0]))] sz)) 0 0 (va_A [(q, .inr (7, [.int c0, .long p0, .int s0]))] sz) := by
  refine Met.ofW (cc := cX8_init) (maxL := 7) (ret := none) (by decide) rfl ?_
  intro p e s m args below meth c s₁ B hml hv
  obtain ⟨rfl, hsz, hP, hK, hD0⟩ := hv
  have C : cxt p s m _ meth c cX8_init 7 RX8 wsX8_init none := ⟨B.exec, B.bytes, hml, findClass_of_methodNamed B.named, atoms_spec (ws := wsX8_init) B.pre, B.returns, B.notSynchronized⟩
  obtain ⟨hx, hb, -, hown, hts, hr, hlk⟩ := id C
  have hin : meth.name = "<init>" := (name_of_methodNamed B.named B.method).1
  subst hsz
  have hD := hD0.self (sz := s.heap.size)
  generalize hAe : va_A [(q, .inr (7, [.int c0, .long p0, .int s0]))] s.heap.size = A at hD ⊢
  have hA : ∀ q : Nat, s.heap.size ≤ q → A q := fun q h => by rw [← hAe]; exact Or.inr h
  have hS : va_S A s.heap s.heap [] := va_S.rf
  refine entryW [.ref q, .int x1, .int x2, .int x3, .int x4, .int x5, .int x6] (n := 7) (Nat.le_of_ble_eq_true rfl) (fun ls hl => ?_)
  have hl : lv_has ls 7 [(0, .ref q), (1, .int x1), (2, .int x2), (3, .int x3), (4, .int x4), (5, .int x5), (6, .int x6)] := hl
  refine lv_aload_n hx hb dX8_init_0 rfl (lv_at hl 0 rfl) ?_
  refine lv_iload_n hx hb dX8_init_1 rfl (lv_at hl 1 rfl) ?_
  refine lv_iload_n hx hb dX8_init_2 rfl (lv_at hl 2 rfl) ?_
  refine lv_iload_n hx hb dX8_init_3 rfl (lv_at hl 3 rfl) ?_
  refine lv_iload hx hb dX8_init_4 (lv_at hl 4 rfl) ?_
  refine lv_iload hx hb dX8_init_6 (lv_at hl 5 rfl) ?_
  refine mcallQV (wf := fun _ : Unit => [(q, .inr (7, [.int x1, .long pl, .int s0]))]) (va_runI (As := [.int x1, .int x2, .int x3, .int x4, .int x5]) (rest := []) ⟨hx, hb, hml, hown, hts⟩ (kX0_init_7 l D cs q _ c0 p0 s0 F x1 x2 x3 x4 x5 pl h) (cwI 5 hts gX8_init_X0_init rfl rfl rfl (hts (.initialized RX0) (by decide +kernel)) (hts (.methodLink RX8 1 yX0_init) (by decide +kernel)) (hts (.instanceMethod yX0_init) (by decide +kernel)) rfl (by decide +kernel) ⟨Nat.le_of_ble_eq_true rfl, Nat.le_of_ble_eq_true rfl⟩) (pQ_s hP hK hD) rfl rfl hl.1 rfl (lv_room (Nat.le_of_ble_eq_true rfl)) dX8_init_8 ⟨Nat.zero_le _, Nat.zero_le _⟩) hD hS hA (fun H locs hP hD hS => ?_)
  refine lv_aload_n hx hb dX8_init_11 rfl (lv_at hl 0 rfl) ?_
  refine lv_iload hx hb dX8_init_12 (lv_at hl 6 rfl) ?_
  refine va_putF (D := D) (ci := 7) (v := .int x6) (ty := .int) (C := RX8) (T := TX8) (N := 3) hx hb hts inX8_X8_init tyX8 tyX8_ok nmX8 hown hK.1 hP hD hS 0 rfl rfl 2 (by decide) (hts (.fieldLink RX8 7 "SandPalace$Sign" "step" "I") (by decide +kernel)) (fun _ h9 => h9) rfl hin rfl (by decide +kernel) rfl rfl (Nat.le_of_ble_eq_true rfl) dX8_init_14 (fun H locs hP hD hS => ?_)
  exact mretV (wf := fun _ : Unit => [(q, .inr (7, [.int x1, .long pl, .int x6]))]) (u := ()) hx hb hr hlk rfl hP hD hS dX8_init_17
