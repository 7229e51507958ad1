/-! small words of the functional reading: a partial step yields none -/
def aI {α : Type} (f : Nat → Int32) (n : Nat) (i : Int32) (k : Int32 → Option α) : Option α := if i < 0 ∨ n ≤ i.toNatClampNeg then none else k (f i.toNatClampNeg)
theorem aI_some {α : Type} {f : Nat → Int32} {n : Nat} {i : Int32} {k : Int32 → Option α} {r : α} (h : aI f n i k = some r) : ∃ v : Int32, vp_in i n ∧ f i.toNatClampNeg = v ∧ k v = some r := by
  unfold aI at h
  by_cases hc : i < 0 ∨ n ≤ i.toNatClampNeg
  · rw [if_pos hc] at h; cases h
  · rw [if_neg hc] at h; exact ⟨_, hc, rfl, h⟩
def aS {α : Type} (n : Nat) (i : Int32) (k : Option α) : Option α := if i < 0 ∨ n ≤ i.toNatClampNeg then none else k
theorem aS_some {α : Type} {n : Nat} {i : Int32} {k : Option α} {r : α} (h : aS n i k = some r) : vp_in i n ∧ k = some r := by
  unfold aS at h
  by_cases hc : i < 0 ∨ n ≤ i.toNatClampNeg
  · rw [if_pos hc] at h; cases h
  · rw [if_neg hc] at h; exact ⟨hc, h⟩
def bd {α β : Type} (x : Option α) (k : α → Option β) : Option β := match x with
  | none => none
  | some v => k v
theorem bd_some {α β : Type} {x : Option α} {k : α → Option β} {r : β} (h : bd x k = some r) : ∃ v, x = some v ∧ k v = some r := by
  cases x with
  | none => cases h
  | some v => exact ⟨v, rfl, h⟩
def nm {α β : Type} (x : α) (k : α → Option β) : Option β := k x
theorem nm_some {α β : Type} {x : α} {k : α → Option β} {r : β} (h : nm x k = some r) : ∃ v, x = v ∧ k v = some r := ⟨x, rfl, h⟩
def nb {α β : Type} (k : α) (f : α → Option β) : Option β := f k
theorem nb_some {α β : Type} {k : α} {f : α → Option β} {r : β} {P : α → Prop} (h : nb k f = some r) (hp : P k) : ∃ kb, P kb ∧ f kb = some r := ⟨k, hp, h⟩
theorem tb_out {x : Int32} {lo hi : Int} (h : ∀ k : Int, lo ≤ k → k ≤ hi → ¬ x.toInt = k) : x.toInt < lo ∨ hi < x.toInt := by
  rcases Int.lt_or_le x.toInt lo with q | q
  · exact Or.inl q
  · rcases Int.lt_or_le hi x.toInt with q2 | q2
    · exact Or.inr q2
    · exact absurd rfl (h x.toInt q q2)
theorem it_t {α : Type} {c : Prop} {dc : Decidable c} {a b : Option α} {r : α} (hc : c) (h : (@ite _ c dc a b) = some r) : a = some r := by
  rw [if_pos hc] at h; exact h
theorem it_f {α : Type} {c : Prop} {dc : Decidable c} {a b : Option α} {r : α} (hc : ¬ c) (h : (@ite _ c dc a b) = some r) : b = some r := by
  rw [if_neg hc] at h; exact h
theorem it_n {α : Type} {c : Prop} {dc : Decidable (¬ c)} {a b : Option α} {r : α} (hc : c) (h : (@ite _ (¬ c) dc a b) = some r) : b = some r := by
  rw [if_neg (fun q => q hc)] at h; exact h
/-- a row of a state is changed -/
def sg (σ : Nat → Nat → Int32) (k : Nat) (g : Nat → Int32) : Nat → Nat → Int32 := fun j => cond (Nat.beq j k) g (σ j)
/-! the tables' words beside the good ones -/
def TY (cs : Nat → ClassId) : List (ClassId × FieldType) := [(cs 0, .int), (cs 1, .boolean), (cs 2, .object "SandPalace$Shape"), (cs 3, .object "SandPalace$Sheet"), (cs 4, .array .int)]
def NWm : List (String × Nat × MethodName × String) := [("SandPalace", 9, yX4_init, "SandPalace"), ("SandPalace", 18, yX10_init, "SandPalace"), ("SandPalace", 25, yX3_init, "SandPalace"), ("SandPalace", 32, yX9_init, "SandPalace"), ("SandPalace", 43, yX7_init, "SandPalace"), ("SandPalace$Picture", 25, yX11_within, "SandPalace"), ("SandPalace$Sign", 16, yX11_shifted, "SandPalace"), ("SandPalace$Photo", 18, yX11_cellOf, "SandPalace"), ("SandPalace$Photo", 31, yX11_shifted, "SandPalace"), ("SandPalace$Photo", 45, yX11_placeOf, "SandPalace"), ("SandPalace$Photo", 53, yX11_within, "SandPalace")]
def NWc : List (String × String) := [("SandPalace$Block", "SandPalace$Shape"), ("SandPalace$Disc", "SandPalace$Shape"), ("SandPalace$Line", "SandPalace$Shape"), ("SandPalace$Rim", "SandPalace$Shape"), ("SandPalace$Sign", "SandPalace$Shape"), ("SandPalace$Sign", "SandPalace$Block")]
def NWn : List (String × String) := [("SandPalace$Block", "SandPalace$Sign"), ("SandPalace$Disc", "SandPalace$Sign"), ("SandPalace$Line", "SandPalace$Sign"), ("SandPalace$Rim", "SandPalace$Sign"), ("SandPalace$Disc", "SandPalace$Block"), ("SandPalace$Line", "SandPalace$Block"), ("SandPalace$Rim", "SandPalace$Block")]
def NW (U : State) : Prop := (∀ q ∈ NWm, va_Nw (.methodLinkNest q.1 q.2.1 q.2.2.1 q.2.2.2) U) ∧ va_Nw (.fieldLinkNest "SandPalace$Sweeper" 25 "SandPalace" "GATES" "[I" "SandPalace") U ∧ (∀ q ∈ NWc, va_Nw (.castable q.1 q.2) U) ∧ (∀ q ∈ NWn, va_Nc q.1 q.2 U) ∧ va_AO "SandPalace$Shape" U ∧ va_AO "SandPalace$Sheet" U ∧ va_Nw (.declares ⟨"SandPalace$Shape", "kind", "()I"⟩) U ∧ va_AOA .int U
theorem NWa_warm {s U : State} (hW : s.WarmedH U.vm) (h : va_AOA .int s) : va_AOA .int U := by
  have h2 : (Cond.arrayOver (.array .int)).before #[] (s.setVm U.vm) = true := by rw [Cond.arrayOver_setVmC hW.alike]; exact h
  exact h2
theorem NW.warm {s U : State} (hW : s.WarmedH U.vm) (h : NW s) : NW U := ⟨fun q hq => va_Nw.warmM hW (h.1 q hq), va_Nw.warmF hW h.2.1, fun q hq => va_Nw.warmC hW (h.2.2.1 q hq), fun q hq => va_Nc.moved hW.alike (h.2.2.2.1 q hq), va_AO.moved hW.alike h.2.2.2.2.1, va_AO.moved hW.alike h.2.2.2.2.2.1, va_Nw.warmD hW h.2.2.2.2.2.2.1, NWa_warm hW h.2.2.2.2.2.2.2⟩
def KK (D : va_G) (cs : Nat → ClassId) (U : State) : Prop := va_K D vwCl (TY cs) U ∧ NW U
theorem KK.warm {D : va_G} {cs : Nat → ClassId} {s U : State} (hW : s.WarmedH U.vm) (h : KK D cs s) : KK D cs U := ⟨va_K.moved hW.alike h.1, h.2.warm hW⟩
def cxt (p : Program) (s : State) (m : MethodId) (args : Array Value) (meth : Method) (c : Code) (cc : ByteArray) (nL : Nat) (own : String) (Ts : List Cond) (ret : Option FieldType) : Prop := p.tables.exec = Jvm.exec ∧ c.code = cc ∧ c.maxLocals = nL ∧ s.vm.findClass own = some m.cls ∧ (∀ w ∈ Ts, w.before args s = true) ∧ meth.sig.returnType = ret ∧ meth.locks = false
/-! starts of contracts -/
def p0 (_ : State) : Prop := True
def pR (D : va_G) (cs : Nat → ClassId) (ws : va_W) (U : State) : Prop := va_P D vwCl ws U.heap ∧ KK D cs U
def pQ (D : va_G) (cs : Nat → ClassId) (ws : va_W) (sz : Nat) (U : State) : Prop := U.heap.size = sz ∧ va_P D vwCl ws U.heap ∧ KK D cs U ∧ va_D (fun _ => True) ws
def qB {S : Type} (D : va_G) (wf : S → va_W) (A : Nat → Prop) (u : S) (t : State) : Prop := va_P D vwCl (wf u) t.heap ∧ va_D A (wf u)
theorem p0_s {s : State} {H : Heap} {As : List Value} : PreS s H (va_Pc As p0) As := ⟨fun _ _ _ _ q => q, fun _ _ _ => ⟨rfl, trivial⟩⟩
theorem pR_s {s : State} {H : Heap} {As : List Value} {D : va_G} {cs : Nat → ClassId} {ws : va_W} (hP : va_P D vwCl ws H) (hK : KK D cs s) : PreS s H (va_Pc As (pR D cs ws)) As := ⟨fun _ U _ _ q => ⟨q.1, q.2.1, q.2.2.warm (State.WarmedH.refl U)⟩, fun U hU hW => ⟨rfl, by rw [hU]; exact hP, hK.warm hW⟩⟩
theorem pR_v {s : State} {H : Heap} {C : String} {b : Addr} {As : List Value} {D : va_G} {cs : Nat → ClassId} {ws : va_W} (hP : va_P D vwCl ws H) (hK : KK D cs s) (hr : ∃ cellB : Cell, H[b]? = some cellB ∧ cellB.vm.isStatics = false ∧ s.vm.findClass C = some cellB.cls) : PreV s H C b (va_Pc (.ref b :: As) (pR D cs ws)) As := ⟨fun _ U _ _ q => ⟨q.1, q.2.1, q.2.2.warm (State.WarmedH.refl U)⟩, hr, fun U hU hW => ⟨rfl, by rw [hU]; exact hP, hK.warm hW⟩⟩
theorem pQ_s {s : State} {H : Heap} {As : List Value} {D : va_G} {cs : Nat → ClassId} {ws : va_W} {A : Nat → Prop} (hP : va_P D vwCl ws H) (hK : KK D cs s) (hD : va_D A ws) : PreS s H (va_Pc As (pQ D cs ws H.size)) As := ⟨fun _ U _ _ q => ⟨q.1, q.2.1, q.2.2.1, q.2.2.2.1.warm (State.WarmedH.refl U), q.2.2.2.2⟩, fun U hU hW => ⟨rfl, by rw [hU], by rw [hU]; exact hP, hK.warm hW, hD.weaken (fun _ _ _ _ => trivial)⟩⟩
theorem pQ_v {s : State} {H : Heap} {C : String} {b : Addr} {As : List Value} {D : va_G} {cs : Nat → ClassId} {ws : va_W} {A : Nat → Prop} (hP : va_P D vwCl ws H) (hK : KK D cs s) (hD : va_D A ws) (hr : ∃ cellB : Cell, H[b]? = some cellB ∧ cellB.vm.isStatics = false ∧ s.vm.findClass C = some cellB.cls) : PreV s H C b (va_Pc (.ref b :: As) (pQ D cs ws H.size)) As := ⟨fun _ U _ _ q => ⟨q.1, q.2.1, q.2.2.1, q.2.2.2.1.warm (State.WarmedH.refl U), q.2.2.2.2⟩, hr, fun U hU hW => ⟨rfl, by rw [hU], by rw [hU]; exact hP, hK.warm hW, hD.weaken (fun _ _ _ _ => trivial)⟩⟩
section BROWS
variable {p : Program} {l : Launch} {e : Env} {R : Room} {s : State} {m : MethodId} {args : Array Value} {below : List Frame} {meth : Method} {c : Code} {H : Heap} {locs : List Loc} {cells slots : Nat} {Q : State → Prop}
variable {cc : ByteArray} {pc : Nat} {ls : Array Slot} {rest st0 : List Value} {a0 : Array Value} {D : va_G} {A : Nat → Prop} {H0 : Heap} {ws : va_W} {S : Type} {wf : S → va_W}
theorem entryW (vs : List Value) {n : Nat} (hn : (lg_sl vs).length ≤ n) (kk : ∀ ls : Array Slot, lv_has ls n (lv_args 0 vs) → W p l e R s m args below meth c H locs cells slots Q (F0 m 0 ls [])) : W p l e R s m args below meth c H locs cells slots Q (entryFrame m vs.toArray n) := by
  rw [lg_entry_eq]
  exact kk _ (lv_entry vs hn)
theorem tpi {x y : Int32} (h : x = y) (k : W p l e R s m args below meth c H locs cells slots Q (F0 m pc ls (.int y :: rest))) : W p l e R s m args below meth c H locs cells slots Q (F0 m pc ls (.int x :: rest)) := by
  rw [h]; exact k
theorem tpl {x y : Int64} (h : x = y) (k : W p l e R s m args below meth c H locs cells slots Q (F0 m pc ls (.long y :: rest))) : W p l e R s m args below meth c H locs cells slots Q (F0 m pc ls (.long x :: rest)) := by
  rw [h]; exact k
theorem mcallS {r : Int32} (hr : va_Run p l e R s m args below meth c H locs cells slots 0 0 (F0 m pc ls st0) rest (vp_Si (fun x => x = r) a0) (fun _ => False)) (kk : W p l e R s m args below meth c H locs cells slots Q (F0 m (pc + 3) ls (.int r :: rest))) : W p l e R s m args below meth c H locs cells slots Q (F0 m pc ls st0) := by
  intro T hT X
  obtain ⟨v, st₀, t, T', L, h0, X', hL, e1, e2, ⟨r2, hv, hp, hh⟩, st⟩ := hr T hT X
  cases hv
  subst hp
  have hLn : L = [] := by
    cases L with
    | nil => rfl
    | cons q _ => exact absurd (hL q List.mem_cons_self) (fun h => h)
  subst hLn
  rw [List.append_nil] at X'
  obtain ⟨t2, a1, b1⟩ := kk T' (by rw [e1, hh, h0]) X'
  exact ⟨t2, st t2 a1, b1⟩
theorem mcallSZ {r : Int32} (hr : va_Run p l e R s m args below meth c H locs cells slots 0 0 (F0 m pc ls st0) rest (vp_Si (fun x => x = r ∧ (r = 0 ∨ r = 1)) a0) (fun _ => False)) (kk : (r = 0 ∨ r = 1) → W p l e R s m args below meth c H locs cells slots Q (F0 m (pc + 3) ls (.int r :: rest))) : W p l e R s m args below meth c H locs cells slots Q (F0 m pc ls st0) := by
  intro T hT X
  obtain ⟨v, st₀, t, T', L, h0, X', hL, e1, e2, ⟨r2, hv, ⟨hp, hz⟩, hh⟩, st⟩ := hr T hT X
  cases hv
  subst hp
  have hLn : L = [] := by
    cases L with
    | nil => rfl
    | cons q _ => exact absurd (hL q List.mem_cons_self) (fun h => h)
  subst hLn
  rw [List.append_nil] at X'
  obtain ⟨t2, a1, b1⟩ := kk hz T' (by rw [e1, hh, h0]) X'
  exact ⟨t2, st t2 a1, b1⟩
theorem mcallSL {r : Int64} (hr : va_Run p l e R s m args below meth c H locs cells slots 0 0 (F0 m pc ls st0) rest (vp_Sl (fun x => x = r) a0) (fun _ => False)) (kk : W p l e R s m args below meth c H locs cells slots Q (F0 m (pc + 3) ls (.long r :: rest))) : W p l e R s m args below meth c H locs cells slots Q (F0 m pc ls st0) := by
  intro T hT X
  obtain ⟨v, st₀, t, T', L, h0, X', hL, e1, e2, ⟨r2, hv, hp, hh⟩, st⟩ := hr T hT X
  cases hv
  subst hp
  have hLn : L = [] := by
    cases L with
    | nil => rfl
    | cons q _ => exact absurd (hL q List.mem_cons_self) (fun h => h)
  subst hLn
  rw [List.append_nil] at X'
  obtain ⟨t2, a1, b1⟩ := kk T' (by rw [e1, hh, h0]) X'
  exact ⟨t2, st t2 a1, b1⟩
theorem mfree (hD : va_D A ws) (hS : va_S A H0 H locs) (hA : ∀ q, H0.size ≤ q → A q) : ∀ q, va_A ws H.size q → A q := by
  intro q h
  rcases h with ⟨k, e, h⟩ | h
  · exact hD.2 k (q, e) h
  · exact hA q (Nat.le_trans hS.1 h)
theorem mcallQ {r : Int32} {u : S} (hr : va_Run p l e R s m args below meth c H locs cells slots 0 0 (F0 m pc ls st0) rest (va_Qi (fun x y => x = r ∧ y = u) (qB D wf (va_A ws H.size)) (va_A ws H.size) a0) (va_A ws H.size)) (hD : va_D A ws) (hS : va_S A H0 H locs) (hA : ∀ q, H0.size ≤ q → A q)
    (kk : ∀ (H1 : Heap) (locs1 : List Loc), va_P D vwCl (wf u) H1 → va_D A (wf u) → va_S A H0 H1 locs1 → W p l e R s m args below meth c H1 locs1 cells slots Q (F0 m (pc + 3) ls (.int r :: rest))) : W p l e R s m args below meth c H locs cells slots Q (F0 m pc ls st0) := by
  have hF := mfree hD hS hA
  refine va_calli hr hS (fun q _ h => hF q h) hF (fun r2 u2 t H1 locs1 ht hvm hw hB hz hk hS1 => ?_)
  obtain ⟨rfl, rfl⟩ := hw
  exact kk H1 locs1 (by rw [← ht]; exact hB.1) (hB.2.weaken (fun _ q _ h => hF q.1 h)) hS1
theorem mcallQZ {r : Int32} {u : S} (hr : va_Run p l e R s m args below meth c H locs cells slots 0 0 (F0 m pc ls st0) rest (va_Qi (fun x y => (x = r ∧ (r = 0 ∨ r = 1)) ∧ y = u) (qB D wf (va_A ws H.size)) (va_A ws H.size) a0) (va_A ws H.size)) (hD : va_D A ws) (hS : va_S A H0 H locs) (hA : ∀ q, H0.size ≤ q → A q)
    (kk : (r = 0 ∨ r = 1) → ∀ (H1 : Heap) (locs1 : List Loc), va_P D vwCl (wf u) H1 → va_D A (wf u) → va_S A H0 H1 locs1 → W p l e R s m args below meth c H1 locs1 cells slots Q (F0 m (pc + 3) ls (.int r :: rest))) : W p l e R s m args below meth c H locs cells slots Q (F0 m pc ls st0) := by
  have hF := mfree hD hS hA
  refine va_calli hr hS (fun q _ h => hF q h) hF (fun r2 u2 t H1 locs1 ht hvm hw hB hz hk hS1 => ?_)
  obtain ⟨⟨rfl, h01⟩, rfl⟩ := hw
  exact kk h01 H1 locs1 (by rw [← ht]; exact hB.1) (hB.2.weaken (fun _ q _ h => hF q.1 h)) hS1
theorem mcallQV {u : S} (hr : va_Run p l e R s m args below meth c H locs cells slots 0 0 (F0 m pc ls st0) rest (va_Qv (fun y => y = u) (qB D wf (va_A ws H.size)) (va_A ws H.size) a0) (va_A ws H.size)) (hD : va_D A ws) (hS : va_S A H0 H locs) (hA : ∀ q, H0.size ≤ q → A q)
    (kk : ∀ (H1 : Heap) (locs1 : List Loc), va_P D vwCl (wf u) H1 → va_D A (wf u) → va_S A H0 H1 locs1 → W p l e R s m args below meth c H1 locs1 cells slots Q (F0 m (pc + 3) ls rest)) : W p l e R s m args below meth c H locs cells slots Q (F0 m pc ls st0) := by
  have hF := mfree hD hS hA
  refine va_callv hr hS (fun q _ h => hF q h) hF (fun u2 t H1 locs1 ht hvm hw hB hz hk hS1 => ?_)
  subst hw
  exact kk H1 locs1 (by rw [← ht]; exact hB.1) (hB.2.weaken (fun _ q _ h => hF q.1 h)) hS1
theorem nz01 {v : Int32} (h : v = 0 ∨ v = 1) : narrow .boolean (.int v) = .int v := by
  rcases h with rfl | rfl <;> rfl
theorem mretS (hx : p.tables.exec = Jvm.exec) (hb : c.code = cc) (hr : meth.sig.returnType = some .int) (hlk : meth.locks = false) {v r : Int32} (h : some v = some r) (hdg : decode cc pc = .ok (.ireturn, 1)) : W p l e R s m args below meth c s.heap [] cells slots (MQ below (vp_Si (fun x => x = r)) args s cells slots (fun _ => False)) (F0 m pc ls [.int v]) :=
  W.iret hx hb hr (fun t ht _ => ⟨v, rfl, Option.some.inj h, ht⟩) (fun _ h => by cases h) hdg hlk
theorem mretSZ (hx : p.tables.exec = Jvm.exec) (hb : c.code = cc) (hr : meth.sig.returnType = some .boolean) (hlk : meth.locks = false) {v r : Int32} (h : some v = some r) (hz : v = 0 ∨ v = 1) (hdg : decode cc pc = .ok (.ireturn, 1)) : W p l e R s m args below meth c s.heap [] cells slots (MQ below (vp_Si (fun x => x = r ∧ (r = 0 ∨ r = 1))) args s cells slots (fun _ => False)) (F0 m pc ls [.int v]) :=
  W.zret hx hb hr (nz01 hz) (fun t ht _ => ⟨v, rfl, ⟨Option.some.inj h, Option.some.inj h ▸ hz⟩, ht⟩) (fun _ h => by cases h) hdg hlk
theorem mretSL (hx : p.tables.exec = Jvm.exec) (hb : c.code = cc) (hr : meth.sig.returnType = some .long) (hlk : meth.locks = false) {v r : Int64} (h : some v = some r) (hdg : decode cc pc = .ok (.lreturn, 1)) : W p l e R s m args below meth c s.heap [] cells slots (MQ below (vp_Sl (fun x => x = r)) args s cells slots (fun _ => False)) (F0 m pc ls [.long v]) :=
  W.lret hx hb hr (fun t ht _ => ⟨v, rfl, Option.some.inj h, ht⟩) (fun _ h => by cases h) hdg hlk
theorem mretQ (hx : p.tables.exec = Jvm.exec) (hb : c.code = cc) (hr : meth.sig.returnType = some .int) (hlk : meth.locks = false) {v r : Int32} {u u2 : S} (h : some (v, u) = some (r, u2)) (hP : va_P D vwCl (wf u) H) (hD : va_D A (wf u)) (hS : va_S A s.heap H locs) (hdg : decode cc pc = .ok (.ireturn, 1)) : W p l e R s m args below meth c H locs cells slots (MQ below (va_Qi (fun x y => x = r ∧ y = u2) (qB D wf A) A) args s cells slots A) (F0 m pc ls [.int v]) := by
  obtain ⟨h1, h2⟩ := Prod.mk.inj (Option.some.inj h)
  subst h1
  subst h2
  exact W.iret hx hb hr (fun t ht _ => ⟨⟨v, u, rfl, ⟨rfl, rfl⟩, by rw [ht]; exact hP, hD⟩, hS.F ht⟩) hS.2.2 hdg hlk
theorem mretQZ (hx : p.tables.exec = Jvm.exec) (hb : c.code = cc) (hr : meth.sig.returnType = some .boolean) (hlk : meth.locks = false) {v r : Int32} {u u2 : S} (h : some (v, u) = some (r, u2)) (hz : v = 0 ∨ v = 1) (hP : va_P D vwCl (wf u) H) (hD : va_D A (wf u)) (hS : va_S A s.heap H locs) (hdg : decode cc pc = .ok (.ireturn, 1)) : W p l e R s m args below meth c H locs cells slots (MQ below (va_Qi (fun x y => (x = r ∧ (r = 0 ∨ r = 1)) ∧ y = u2) (qB D wf A) A) args s cells slots A) (F0 m pc ls [.int v]) := by
  obtain ⟨h1, h2⟩ := Prod.mk.inj (Option.some.inj h)
  subst h1
  subst h2
  exact W.zret hx hb hr (nz01 hz) (fun t ht _ => ⟨⟨v, u, rfl, ⟨⟨rfl, hz⟩, rfl⟩, by rw [ht]; exact hP, hD⟩, hS.F ht⟩) hS.2.2 hdg hlk
theorem mretV (hx : p.tables.exec = Jvm.exec) (hb : c.code = cc) (hr : meth.sig.returnType = none) (hlk : meth.locks = false) {u u2 : S} (h : some u = some u2) (hP : va_P D vwCl (wf u) H) (hD : va_D A (wf u)) (hS : va_S A s.heap H locs) (hdg : decode cc pc = .ok (.return_, 1)) : W p l e R s m args below meth c H locs cells slots (MQ below (va_Qv (fun y => y = u2) (qB D wf A) A) args s cells slots A) (F0 m pc ls []) := by
  have h2 := Option.some.inj h
  subst h2
  exact W.vret hx hb hr (fun t ht _ => ⟨⟨u, rfl, rfl, by rw [ht]; exact hP, hD⟩, hS.F ht⟩) hS.2.2 hdg hlk
theorem miald (hexec : p.tables.exec = Jvm.exec) (hb : c.code = cc) {tys : List (ClassId × FieldType)} {a : Nat} (hK : va_K D vwCl tys s) (hP : va_P D vwCl ws H) (q0 t0 : Nat) {cA : ClassId} {n : Nat} {f : Nat → Int32} (ha : ws[q0]? = some (a, .inl (cA, n, .inl f))) (ht : tys[t0]? = some (cA, .int)) {i v : Int32} (hin : vp_in i n) (hv : f i.toNatClampNeg = v) (hdg : decode cc pc = .ok (.iaload, 1))
    (kk : W p l e R s m args below meth c H locs cells slots Q (F0 m (pc + 1) ls (.int v :: rest))) : W p l e R s m args below meth c H locs cells slots Q (F0 m pc ls (.int i :: .ref a :: rest)) := by
  subst hv
  exact va_iald hexec hb hK hP q0 t0 ha ht hin hdg kk
theorem mzald (hexec : p.tables.exec = Jvm.exec) (hb : c.code = cc) {tys : List (ClassId × FieldType)} {a : Nat} (hK : va_K D vwCl tys s) (hP : va_P D vwCl ws H) (q0 t0 : Nat) {cA : ClassId} {n : Nat} {f : Nat → Int32} (ha : ws[q0]? = some (a, .inl (cA, n, .inl f))) (ht : tys[t0]? = some (cA, .boolean)) {i v : Int32} (hin : vp_in i n) (hv : f i.toNatClampNeg = v) (hdg : decode cc pc = .ok (.baload, 1))
    (kk : W p l e R s m args below meth c H locs cells slots Q (F0 m (pc + 1) ls (.int v :: rest))) : W p l e R s m args below meth c H locs cells slots Q (F0 m pc ls (.int i :: .ref a :: rest)) := by
  subst hv
  exact va_zald hexec hb hK hP q0 t0 ha ht hin hdg kk
end BROWS
