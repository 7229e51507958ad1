/-! the class's world: thirty-three cells, and the pooled SHAPES -/
abbrev ZT : Type := Nat → Nat × Int32 × Int64 × Int32
def shE (Z : ZT) (q : Nat) : va_E := if (Z q).1 = 7 then .inr (7, [.int (Z q).2.1, .long (Z q).2.2.1, .int (Z q).2.2.2]) else .inr ((Z q).1, [.int (Z q).2.1, .long (Z q).2.2.1])
def okK (k : Nat) : Prop := k = 0 ∨ k = 1 ∨ k = 2 ∨ k = 5 ∨ k = 7
def shOK (sh : Nat → Option Nat) (LP : List Nat) (Z : ZT) : Prop := ∀ (j q : Nat), sh j = some q → q ∈ LP ∧ okK (Z q).1
def cX (a : Nat → Nat) (cs : Nat → ClassId) (sh : Nat → Option Nat) (σ : Nat → Nat → Int32) : va_W := [(a 0, .inr (10, [.ref (a 1), .ref (a 4), .ref (a 14), .ref (a 17), .ref (a 24)])), (a 1, .inr (4, [.ref (a 2), .ref (a 3), .int (σ 33 0)])), (a 2, .inl (cs 2, 10, .inr (.inr (.inr (.inr sh))))), (a 3, .inl (cs 0, 10, .inl (σ 3))), (a 4, .inr (9, [.int (σ 34 0), .int (σ 35 0), .int (σ 36 0), .int (σ 37 0), .int (σ 38 0), .ref (a 5), .ref (a 6), .ref (a 7), .ref (a 8), .ref (a 9), .ref (a 10), .ref (a 11), .ref (a 12), .ref (a 13)])), (a 5, .inl (cs 0, 10, .inl (σ 5))), (a 6, .inl (cs 0, 10, .inl (σ 6))), (a 7, .inl (cs 0, 10, .inl (σ 7))), (a 8, .inl (cs 0, 10, .inl (σ 8))), (a 9, .inl (cs 0, 1024, .inl (σ 9))), (a 10, .inl (cs 0, 1024, .inl (σ 10))), (a 11, .inl (cs 0, 1024, .inl (σ 11))), (a 12, .inl (cs 0, 10, .inl (σ 12))), (a 13, .inl (cs 0, 10, .inl (σ 13))), (a 14, .inr (3, [.ref (a 15), .ref (a 16)])), (a 15, .inl (cs 0, 256, .inl (σ 15))), (a 16, .inl (cs 0, 4, .inl (σ 16))), (a 17, .inr (8, [.int (σ 39 0), .ref (a 18), .ref (a 23)])), (a 18, .inl (cs 4, 4, .inr (.inr (.inr (.inr (fun j => some (a (19 + j)))))))), (a 19, .inl (cs 0, 16, .inl (σ 19))), (a 20, .inl (cs 0, 16, .inl (σ 20))), (a 21, .inl (cs 0, 16, .inl (σ 21))), (a 22, .inl (cs 0, 16, .inl (σ 22))), (a 23, .inl (cs 0, 4, .inl (σ 23))), (a 24, .inl (cs 3, 4, .inr (.inr (.inr (.inr (fun j => some (a (25 + j)))))))), (a 25, .inr (6, [.ref (a 29), .int (σ 40 0), .int (σ 44 0)])), (a 26, .inr (6, [.ref (a 30), .int (σ 41 0), .int (σ 45 0)])), (a 27, .inr (6, [.ref (a 31), .int (σ 42 0), .int (σ 46 0)])), (a 28, .inr (6, [.ref (a 32), .int (σ 43 0), .int (σ 47 0)])), (a 29, .inl (cs 0, 256, .inl (σ 29))), (a 30, .inl (cs 0, 256, .inl (σ 30))), (a 31, .inl (cs 0, 256, .inl (σ 31))), (a 32, .inl (cs 0, 256, .inl (σ 32)))]
def cW (a : Nat → Nat) (cs : Nat → ClassId) (sh : Nat → Option Nat) (LP : List Nat) (Z : ZT) (σ : Nat → Nat → Int32) : va_W := cX a cs sh σ ++ va_pl LP (shE Z)
theorem okK_7 {k : Nat} (h : k = 7) : okK k := Or.inr (Or.inr (Or.inr (Or.inr h)))
theorem okK_b {k : Nat} (h : k = 0 ∨ k = 7) : okK k := h.elim Or.inl okK_7
def dz {α : Type} (y : Int32) (k : Option α) : Option α := if y = 0 then none else k
theorem dz_some {α : Type} {y : Int32} {k : Option α} {r : α} (h : dz y k = some r) : ¬ y = 0 ∧ k = some r := by
  unfold dz at h
  by_cases hc : y = 0
  · rw [if_pos hc] at h; cases h
  · rw [if_neg hc] at h; exact ⟨hc, h⟩
def aO {α : Type} (f : Nat → Option Nat) (n : Nat) (i : Int32) (k : Nat → Option α) : Option α := if i < 0 ∨ n ≤ i.toNatClampNeg then none else match f i.toNatClampNeg with
  | none => none
  | some q => k q
theorem aO_some {α : Type} {f : Nat → Option Nat} {n : Nat} {i : Int32} {k : Nat → Option α} {r : α} (h : aO f n i k = some r) : ∃ q : Nat, vp_in i n ∧ f i.toNatClampNeg = some q ∧ k q = some r := by
  unfold aO at h
  by_cases hc : i < 0 ∨ n ≤ i.toNatClampNeg
  · rw [if_pos hc] at h; cases h
  · rw [if_neg hc] at h
    cases hf : f i.toNatClampNeg with
    | none => rw [hf] at h; cases h
    | some q => rw [hf] at h; exact ⟨q, hc, rfl, h⟩
def aOo {α : Type} (f : Nat → Option Nat) (n : Nat) (i : Int32) (k : Option Nat → Option α) : Option α := if i < 0 ∨ n ≤ i.toNatClampNeg then none else k (f i.toNatClampNeg)
theorem aOo_some {α : Type} {f : Nat → Option Nat} {n : Nat} {i : Int32} {k : Option Nat → Option α} {r : α} (h : aOo f n i k = some r) : ∃ o : Option Nat, vp_in i n ∧ f i.toNatClampNeg = o ∧ k o = some r := by
  unfold aOo at h
  by_cases hc : i < 0 ∨ n ≤ i.toNatClampNeg
  · rw [if_pos hc] at h; cases h
  · rw [if_neg hc] at h; exact ⟨_, hc, rfl, h⟩
/-- an answer that may be no cell -/
def oc {α : Type} (o : Option Nat) (a : Option α) (b : Nat → Option α) : Option α := match o with
  | none => a
  | some q => b q
/-- which of four sheets (items, lane, length), which of four rows -/
def sw4 {α : Type} (x : Int32) (k : Nat → Nat → Nat → Option α) : Option α := if x = 0 then k 29 40 44 else if x = 1 then k 30 41 45 else if x = 2 then k 31 42 46 else if x = 3 then k 32 43 47 else none
def sr4 {α : Type} (x : Int32) (k : Nat → Option α) : Option α := if x = 0 then k 19 else if x = 1 then k 20 else if x = 2 then k 21 else if x = 3 then k 22 else none
theorem sw4_0 {α : Type} {x : Int32} {k : Nat → Nat → Nat → Option α} {r : α} (hx : x = 0) (h : sw4 x k = some r) : k 29 40 44 = some r := by subst hx; exact h
theorem sw4_1 {α : Type} {x : Int32} {k : Nat → Nat → Nat → Option α} {r : α} (hx : x = 1) (h : sw4 x k = some r) : k 30 41 45 = some r := by subst hx; exact h
theorem sw4_2 {α : Type} {x : Int32} {k : Nat → Nat → Nat → Option α} {r : α} (hx : x = 2) (h : sw4 x k = some r) : k 31 42 46 = some r := by subst hx; exact h
theorem sw4_3 {α : Type} {x : Int32} {k : Nat → Nat → Nat → Option α} {r : α} (hx : x = 3) (h : sw4 x k = some r) : k 32 43 47 = some r := by subst hx; exact h
theorem sr4_0 {α : Type} {x : Int32} {k : Nat → Option α} {r : α} (hx : x = 0) (h : sr4 x k = some r) : k 19 = some r := by subst hx; exact h
theorem sr4_1 {α : Type} {x : Int32} {k : Nat → Option α} {r : α} (hx : x = 1) (h : sr4 x k = some r) : k 20 = some r := by subst hx; exact h
theorem sr4_2 {α : Type} {x : Int32} {k : Nat → Option α} {r : α} (hx : x = 2) (h : sr4 x k = some r) : k 21 = some r := by subst hx; exact h
theorem sr4_3 {α : Type} {x : Int32} {k : Nat → Option α} {r : α} (hx : x = 3) (h : sr4 x k = some r) : k 22 = some r := by subst hx; exact h
theorem sw4_some {α : Type} {x : Int32} {k : Nat → Nat → Nat → Option α} {r : α} (h : sw4 x k = some r) : (x = 0 ∧ k 29 40 44 = some r) ∨ (x = 1 ∧ k 30 41 45 = some r) ∨ (x = 2 ∧ k 31 42 46 = some r) ∨ (x = 3 ∧ k 32 43 47 = some r) := by
  unfold sw4 at h
  by_cases h0 : x = 0
  · rw [if_pos h0] at h; exact Or.inl ⟨h0, h⟩
  rw [if_neg h0] at h
  by_cases h1 : x = 1
  · rw [if_pos h1] at h; exact Or.inr (Or.inl ⟨h1, h⟩)
  rw [if_neg h1] at h
  by_cases h2 : x = 2
  · rw [if_pos h2] at h; exact Or.inr (Or.inr (Or.inl ⟨h2, h⟩))
  rw [if_neg h2] at h
  by_cases h3 : x = 3
  · rw [if_pos h3] at h; exact Or.inr (Or.inr (Or.inr ⟨h3, h⟩))
  rw [if_neg h3] at h
  cases h
theorem sr4_some {α : Type} {x : Int32} {k : Nat → Option α} {r : α} (h : sr4 x k = some r) : (x = 0 ∧ k 19 = some r) ∨ (x = 1 ∧ k 20 = some r) ∨ (x = 2 ∧ k 21 = some r) ∨ (x = 3 ∧ k 22 = some r) := by
  unfold sr4 at h
  by_cases h0 : x = 0
  · rw [if_pos h0] at h; exact Or.inl ⟨h0, h⟩
  rw [if_neg h0] at h
  by_cases h1 : x = 1
  · rw [if_pos h1] at h; exact Or.inr (Or.inl ⟨h1, h⟩)
  rw [if_neg h1] at h
  by_cases h2 : x = 2
  · rw [if_pos h2] at h; exact Or.inr (Or.inr (Or.inl ⟨h2, h⟩))
  rw [if_neg h2] at h
  by_cases h3 : x = 3
  · rw [if_pos h3] at h; exact Or.inr (Or.inr (Or.inr ⟨h3, h⟩))
  rw [if_neg h3] at h
  cases h
theorem vin4_0 {x : Int32} (h : x = 0) : vp_in x 4 := by subst h; exact (by decide : ¬ ((0 : Int32) < 0 ∨ 4 ≤ (0 : Int32).toNatClampNeg))
theorem vin4_1 {x : Int32} (h : x = 1) : vp_in x 4 := by subst h; exact (by decide : ¬ ((1 : Int32) < 0 ∨ 4 ≤ (1 : Int32).toNatClampNeg))
theorem vin4_2 {x : Int32} (h : x = 2) : vp_in x 4 := by subst h; exact (by decide : ¬ ((2 : Int32) < 0 ∨ 4 ≤ (2 : Int32).toNatClampNeg))
theorem vin4_3 {x : Int32} (h : x = 3) : vp_in x 4 := by subst h; exact (by decide : ¬ ((3 : Int32) < 0 ∨ 4 ≤ (3 : Int32).toNatClampNeg))
theorem shE0 {Z : ZT} {q : Nat} (h : (Z q).1 = 0) : shE Z q = .inr (0, [.int (Z q).2.1, .long (Z q).2.2.1]) := by simp [shE, h]
theorem shE1 {Z : ZT} {q : Nat} (h : (Z q).1 = 1) : shE Z q = .inr (1, [.int (Z q).2.1, .long (Z q).2.2.1]) := by simp [shE, h]
theorem shE2 {Z : ZT} {q : Nat} (h : (Z q).1 = 2) : shE Z q = .inr (2, [.int (Z q).2.1, .long (Z q).2.2.1]) := by simp [shE, h]
theorem shE5 {Z : ZT} {q : Nat} (h : (Z q).1 = 5) : shE Z q = .inr (5, [.int (Z q).2.1, .long (Z q).2.2.1]) := by simp [shE, h]
theorem shE7 {Z : ZT} {q : Nat} (h : (Z q).1 = 7) : shE Z q = .inr (7, [.int (Z q).2.1, .long (Z q).2.2.1, .int (Z q).2.2.2]) := by simp [shE, h]
theorem p0_v {s : State} {H : Heap} {C : String} {b : Addr} {As : List Value} (hr : ∃ cellB : Cell, H[b]? = some cellB ∧ cellB.vm.isStatics = false ∧ s.vm.findClass C = some cellB.cls) : PreV s H C b (va_Pc (.ref b :: As) p0) As := ⟨fun _ _ _ _ q => q, hr, fun _ _ _ => ⟨rfl, trivial⟩⟩
section CROWS
variable {p : Program} {l : Launch} {e : Env} {R : Room} {s : State} {m : MethodId} {args : Array Value} {below : List Frame} {meth : Method} {c : Code} {H : Heap} {locs : List Loc} {cells slots : Nat} {Q : State → Prop}
variable {cc : ByteArray} {pc : Nat} {ls : Array Slot} {rest st0 : List Value} {a0 : Array Value} {D : va_G} {cs : Nat → ClassId} {ws X : va_W} {a q : Nat} {tys : List (ClassId × FieldType)} {LP : List Nat} {Z : ZT} {own ref : String} {index : Nat} {Ts : List Cond}
theorem msald0 (hexec : p.tables.exec = Jvm.exec) (hb : c.code = cc) (hK : va_K D vwCl tys s) (hP : va_P D vwCl ws H) (q0 t0 : Nat) {cA : ClassId} {C : String} {n : Nat} {f : Nat → Option Nat} (ha : ws[q0]? = some (a, .inl (cA, n, .inr (.inr (.inr (.inr f)))))) (ht : tys[t0]? = some (cA, .object C)) {i : Int32} {o : Option Nat} (hin : vp_in i n) (hv : f i.toNatClampNeg = o) (hdg : decode cc pc = .ok (.aaload, 1))
    (kk : W p l e R s m args below meth c H locs cells slots Q (F0 m (pc + 1) ls (va_rf o :: rest))) : W p l e R s m args below meth c H locs cells slots Q (F0 m pc ls (.int i :: .ref a :: rest)) := by
  subst hv
  exact va_aldq hexec hb hK hP q0 t0 ha ht hin hdg kk
theorem msald (hexec : p.tables.exec = Jvm.exec) (hb : c.code = cc) (hK : va_K D vwCl tys s) (hP : va_P D vwCl ws H) (q0 t0 : Nat) {cA : ClassId} {C : String} {n : Nat} {f : Nat → Option Nat} (ha : ws[q0]? = some (a, .inl (cA, n, .inr (.inr (.inr (.inr f)))))) (ht : tys[t0]? = some (cA, .object C)) {i : Int32} {b : Nat} (hin : vp_in i n) (hv : f i.toNatClampNeg = some b) (hdg : decode cc pc = .ok (.aaload, 1))
    (kk : W p l e R s m args below meth c H locs cells slots Q (F0 m (pc + 1) ls (.ref b :: rest))) : W p l e R s m args below meth c H locs cells slots Q (F0 m pc ls (.int i :: .ref a :: rest)) :=
  msald0 hexec hb hK hP q0 t0 ha ht hin hv hdg kk
theorem mwald (hexec : p.tables.exec = Jvm.exec) (hb : c.code = cc) (hK : va_K D vwCl tys s) (hP : va_P D vwCl ws H) (q0 t0 : Nat) {cA : ClassId} {n : Nat} {f : Nat → Option Nat} (ha : ws[q0]? = some (a, .inl (cA, n, .inr (.inr (.inr (.inr f)))))) (ht : tys[t0]? = some (cA, .array .int)) {i : Int32} {b : Nat} (hin : vp_in i n) (hv : f i.toNatClampNeg = some b) (hdg : decode cc pc = .ok (.aaload, 1))
    (kk : W p l e R s m args below meth c H locs cells slots Q (F0 m (pc + 1) ls (.ref b :: rest))) : W p l e R s m args below meth c H locs cells slots Q (F0 m pc ls (.int i :: .ref a :: rest)) := by
  have hlt : i.toNatClampNeg < n := Nat.not_le.mp fun q => hin (Or.inr q)
  have hk2 : W p l e R s m args below meth c H locs cells slots Q (F0 m (pc + 1) ls (va_rf (f i.toNatClampNeg) :: rest)) := by rw [hv]; exact kk
  exact W.aald (v := va_rf (f i.toNatClampNeg)) (ty := .array .int) hexec hb (hP q0 _ ha) ((hK.2 t0 _ ht).1 n (fun j => va_rf (f j))) rfl (fun q => by cases q) (by show ¬ (i < 0 ∨ (arrV _ _ _).slots.size ≤ _); rw [arrV_size]; exact hin) (by show (arrV _ _ _).slots[_]? = _; rw [arrV_read _ _ hlt]) rfl rfl hdg hk2
theorem shgetP (hexec : p.tables.exec = Jvm.exec) (hb : c.code = cc) (hts : ∀ w ∈ Ts, w.before args s = true) (h0 : ∀ w ∈ wsX00, w ∈ Ts) (h1 : ∀ w ∈ wsX10, w ∈ Ts) (h2 : ∀ w ∈ wsX20, w ∈ Ts) (h5 : ∀ w ∈ wsX50, w ∈ Ts) (h8 : ∀ w ∈ wsX80, w ∈ Ts) (hown : s.vm.findClass own = some m.cls) (hK : va_K D vwCl tys s) (hP : va_P D vwCl (X ++ va_pl LP (shE Z)) H) (hq : q ∈ LP) (hk : okK (Z q).1) (hlink : (Cond.fieldLink own index ref "places" "J").before args s = true) (hsame : ∀ x, s.fieldFound? "SandPalace$Shape" "places" "J" = some x → s.fieldFound? ref "places" "J" = some x) (hdg : decode cc pc = .ok (.getfield index, 3))
    (kk : W p l e R s m args below meth c H locs cells slots Q (F0 m (pc + 3) ls (.long (Z q).2.2.1 :: rest))) : W p l e R s m args below meth c H locs cells slots Q (F0 m pc ls (.ref q :: rest)) := by
  obtain ⟨k, hk9⟩ := va_pl_get (X := X) (f := shE Z) hq
  rcases hk with h | h | h | h | h
  · rw [shE0 h] at hk9
    exact va_get (v := .long (Z q).2.2.1) (C := RX0) (T := TX0) (N := 2) hexec hb hts h0 hown hK hP k hk9 rfl 1 (by decide) hlink hsame rfl hdg kk
  · rw [shE1 h] at hk9
    exact va_get (v := .long (Z q).2.2.1) (C := RX1) (T := TX1) (N := 2) hexec hb hts h1 hown hK hP k hk9 rfl 1 (by decide) hlink hsame rfl hdg kk
  · rw [shE2 h] at hk9
    exact va_get (v := .long (Z q).2.2.1) (C := RX2) (T := TX2) (N := 2) hexec hb hts h2 hown hK hP k hk9 rfl 1 (by decide) hlink hsame rfl hdg kk
  · rw [shE5 h] at hk9
    exact va_get (v := .long (Z q).2.2.1) (C := RX5) (T := TX5) (N := 2) hexec hb hts h5 hown hK hP k hk9 rfl 1 (by decide) hlink hsame rfl hdg kk
  · rw [shE7 h] at hk9
    exact va_get (v := .long (Z q).2.2.1) (C := RX8) (T := TX8) (N := 3) hexec hb hts h8 hown hK hP k hk9 rfl 1 (by decide) hlink hsame rfl hdg kk
theorem shgetC (hexec : p.tables.exec = Jvm.exec) (hb : c.code = cc) (hts : ∀ w ∈ Ts, w.before args s = true) (h0 : ∀ w ∈ wsX00, w ∈ Ts) (h1 : ∀ w ∈ wsX10, w ∈ Ts) (h2 : ∀ w ∈ wsX20, w ∈ Ts) (h5 : ∀ w ∈ wsX50, w ∈ Ts) (h8 : ∀ w ∈ wsX80, w ∈ Ts) (hown : s.vm.findClass own = some m.cls) (hK : va_K D vwCl tys s) (hP : va_P D vwCl (X ++ va_pl LP (shE Z)) H) (hq : q ∈ LP) (hk : okK (Z q).1) (hlink : (Cond.fieldLink own index ref "colour" "I").before args s = true) (hsame : ∀ x, s.fieldFound? "SandPalace$Shape" "colour" "I" = some x → s.fieldFound? ref "colour" "I" = some x) (hdg : decode cc pc = .ok (.getfield index, 3))
    (kk : W p l e R s m args below meth c H locs cells slots Q (F0 m (pc + 3) ls (.int (Z q).2.1 :: rest))) : W p l e R s m args below meth c H locs cells slots Q (F0 m pc ls (.ref q :: rest)) := by
  obtain ⟨k, hk9⟩ := va_pl_get (X := X) (f := shE Z) hq
  rcases hk with h | h | h | h | h
  · rw [shE0 h] at hk9
    exact va_get (v := .int (Z q).2.1) (C := RX0) (T := TX0) (N := 2) hexec hb hts h0 hown hK hP k hk9 rfl 0 (by decide) hlink hsame rfl hdg kk
  · rw [shE1 h] at hk9
    exact va_get (v := .int (Z q).2.1) (C := RX1) (T := TX1) (N := 2) hexec hb hts h1 hown hK hP k hk9 rfl 0 (by decide) hlink hsame rfl hdg kk
  · rw [shE2 h] at hk9
    exact va_get (v := .int (Z q).2.1) (C := RX2) (T := TX2) (N := 2) hexec hb hts h2 hown hK hP k hk9 rfl 0 (by decide) hlink hsame rfl hdg kk
  · rw [shE5 h] at hk9
    exact va_get (v := .int (Z q).2.1) (C := RX5) (T := TX5) (N := 2) hexec hb hts h5 hown hK hP k hk9 rfl 0 (by decide) hlink hsame rfl hdg kk
  · rw [shE7 h] at hk9
    exact va_get (v := .int (Z q).2.1) (C := RX8) (T := TX8) (N := 3) hexec hb hts h8 hown hK hP k hk9 rfl 0 (by decide) hlink hsame rfl hdg kk
theorem shgetS (hexec : p.tables.exec = Jvm.exec) (hb : c.code = cc) (hts : ∀ w ∈ Ts, w.before args s = true) (h8 : ∀ w ∈ wsX80, w ∈ Ts) (hown : s.vm.findClass own = some m.cls) (hK : va_K D vwCl tys s) (hP : va_P D vwCl (X ++ va_pl LP (shE Z)) H) (hq : q ∈ LP) (h : (Z q).1 = 7) (hlink : (Cond.fieldLink own index ref "step" "I").before args s = true) (hsame : ∀ x, s.fieldFound? "SandPalace$Sign" "step" "I" = some x → s.fieldFound? ref "step" "I" = some x) (hdg : decode cc pc = .ok (.getfield index, 3))
    (kk : W p l e R s m args below meth c H locs cells slots Q (F0 m (pc + 3) ls (.int (Z q).2.2.2 :: rest))) : W p l e R s m args below meth c H locs cells slots Q (F0 m pc ls (.ref q :: rest)) := by
  obtain ⟨k, hk9⟩ := va_pl_get (X := X) (f := shE Z) hq
  rw [shE7 h] at hk9
  exact va_get (v := .int (Z q).2.2.2) (C := RX8) (T := TX8) (N := 3) hexec hb hts h8 hown hK hP k hk9 rfl 2 (by decide) hlink hsame rfl hdg kk
theorem shr0 (hK : va_K D vwCl tys s) (hP : va_P D vwCl (X ++ va_pl LP (shE Z)) H) (hq : q ∈ LP) (h : (Z q).1 = 0) : ∃ cell : Cell, H[q]? = some cell ∧ cell.vm.isStatics = false ∧ s.vm.findClass RX0 = some cell.cls := by
  obtain ⟨k, hk9⟩ := va_pl_get (X := X) (f := shE Z) hq
  rw [shE0 h] at hk9
  exact va_recv hK hP (ci := 0) (q0 := k) rfl hk9
theorem shr1 (hK : va_K D vwCl tys s) (hP : va_P D vwCl (X ++ va_pl LP (shE Z)) H) (hq : q ∈ LP) (h : (Z q).1 = 1) : ∃ cell : Cell, H[q]? = some cell ∧ cell.vm.isStatics = false ∧ s.vm.findClass RX1 = some cell.cls := by
  obtain ⟨k, hk9⟩ := va_pl_get (X := X) (f := shE Z) hq
  rw [shE1 h] at hk9
  exact va_recv hK hP (ci := 1) (q0 := k) rfl hk9
theorem shr2 (hK : va_K D vwCl tys s) (hP : va_P D vwCl (X ++ va_pl LP (shE Z)) H) (hq : q ∈ LP) (h : (Z q).1 = 2) : ∃ cell : Cell, H[q]? = some cell ∧ cell.vm.isStatics = false ∧ s.vm.findClass RX2 = some cell.cls := by
  obtain ⟨k, hk9⟩ := va_pl_get (X := X) (f := shE Z) hq
  rw [shE2 h] at hk9
  exact va_recv hK hP (ci := 2) (q0 := k) rfl hk9
theorem shr5 (hK : va_K D vwCl tys s) (hP : va_P D vwCl (X ++ va_pl LP (shE Z)) H) (hq : q ∈ LP) (h : (Z q).1 = 5) : ∃ cell : Cell, H[q]? = some cell ∧ cell.vm.isStatics = false ∧ s.vm.findClass RX5 = some cell.cls := by
  obtain ⟨k, hk9⟩ := va_pl_get (X := X) (f := shE Z) hq
  rw [shE5 h] at hk9
  exact va_recv hK hP (ci := 5) (q0 := k) rfl hk9
theorem shr7 (hK : va_K D vwCl tys s) (hP : va_P D vwCl (X ++ va_pl LP (shE Z)) H) (hq : q ∈ LP) (h : (Z q).1 = 7) : ∃ cell : Cell, H[q]? = some cell ∧ cell.vm.isStatics = false ∧ s.vm.findClass RX8 = some cell.cls := by
  obtain ⟨k, hk9⟩ := va_pl_get (X := X) (f := shE Z) hq
  rw [shE7 h] at hk9
  exact va_recv hK hP (ci := 7) (q0 := k) rfl hk9
theorem shInstSign1 (hexec : p.tables.exec = Jvm.exec) (hb : c.code = cc) (hown : s.vm.findClass own = some m.cls) (hlink : (Cond.classLink own index "SandPalace$Sign").before args s = true) (hK : KK D cs s) (hP : va_P D vwCl (X ++ va_pl LP (shE Z)) H) (hq : q ∈ LP) (h : (Z q).1 = 7) (hdg : decode cc pc = .ok (.instanceof index, 3))
    (k : W p l e R s m args below meth c H locs cells slots Q (F0 m (pc + 3) ls (.int 1 :: rest))) : W p l e R s m args below meth c H locs cells slots Q (F0 m pc ls (.ref q :: rest)) :=
  va_instS hexec hb hown hlink (hK.1.1 7 _ rfl).2 (shr7 hK.1 hP hq h) hdg k
theorem shInstSign0 (hexec : p.tables.exec = Jvm.exec) (hb : c.code = cc) (hown : s.vm.findClass own = some m.cls) (hlink : (Cond.classLink own index "SandPalace$Sign").before args s = true) (hK : KK D cs s) (hP : va_P D vwCl (X ++ va_pl LP (shE Z)) H) (hq : q ∈ LP) (h : ¬ (Z q).1 = 7) (hk : okK (Z q).1) (hdg : decode cc pc = .ok (.instanceof index, 3))
    (k : W p l e R s m args below meth c H locs cells slots Q (F0 m (pc + 3) ls (.int 0 :: rest))) : W p l e R s m args below meth c H locs cells slots Q (F0 m pc ls (.ref q :: rest)) := by
  rcases hk with h1 | h1 | h1 | h1 | h1
  · exact va_instNo hexec hb hown hlink (hK.2.2.2.2.1 ("SandPalace$Block", "SandPalace$Sign") (by decide +kernel)) (shr0 hK.1 hP hq h1) hdg k
  · exact va_instNo hexec hb hown hlink (hK.2.2.2.2.1 ("SandPalace$Disc", "SandPalace$Sign") (by decide +kernel)) (shr1 hK.1 hP hq h1) hdg k
  · exact va_instNo hexec hb hown hlink (hK.2.2.2.2.1 ("SandPalace$Line", "SandPalace$Sign") (by decide +kernel)) (shr2 hK.1 hP hq h1) hdg k
  · exact va_instNo hexec hb hown hlink (hK.2.2.2.2.1 ("SandPalace$Rim", "SandPalace$Sign") (by decide +kernel)) (shr5 hK.1 hP hq h1) hdg k
  · exact absurd h1 h
theorem shInstBlock1 (hexec : p.tables.exec = Jvm.exec) (hb : c.code = cc) (hown : s.vm.findClass own = some m.cls) (hlink : (Cond.classLink own index "SandPalace$Block").before args s = true) (hK : KK D cs s) (hP : va_P D vwCl (X ++ va_pl LP (shE Z)) H) (hq : q ∈ LP) (h : (Z q).1 = 0 ∨ (Z q).1 = 7) (hdg : decode cc pc = .ok (.instanceof index, 3))
    (k : W p l e R s m args below meth c H locs cells slots Q (F0 m (pc + 3) ls (.int 1 :: rest))) : W p l e R s m args below meth c H locs cells slots Q (F0 m pc ls (.ref q :: rest)) := by
  rcases h with h | h
  · exact va_instS hexec hb hown hlink (hK.1.1 0 _ rfl).2 (shr0 hK.1 hP hq h) hdg k
  · exact va_instY hexec hb hown hlink (hK.2.2.2.1 ("SandPalace$Sign", "SandPalace$Block") (by decide +kernel)) (shr7 hK.1 hP hq h) hdg k
theorem shInstBlock0 (hexec : p.tables.exec = Jvm.exec) (hb : c.code = cc) (hown : s.vm.findClass own = some m.cls) (hlink : (Cond.classLink own index "SandPalace$Block").before args s = true) (hK : KK D cs s) (hP : va_P D vwCl (X ++ va_pl LP (shE Z)) H) (hq : q ∈ LP) (h : ¬ ((Z q).1 = 0 ∨ (Z q).1 = 7)) (hk : okK (Z q).1) (hdg : decode cc pc = .ok (.instanceof index, 3))
    (k : W p l e R s m args below meth c H locs cells slots Q (F0 m (pc + 3) ls (.int 0 :: rest))) : W p l e R s m args below meth c H locs cells slots Q (F0 m pc ls (.ref q :: rest)) := by
  rcases hk with h1 | h1 | h1 | h1 | h1
  · exact absurd (Or.inl h1) h
  · exact va_instNo hexec hb hown hlink (hK.2.2.2.2.1 ("SandPalace$Disc", "SandPalace$Block") (by decide +kernel)) (shr1 hK.1 hP hq h1) hdg k
  · exact va_instNo hexec hb hown hlink (hK.2.2.2.2.1 ("SandPalace$Line", "SandPalace$Block") (by decide +kernel)) (shr2 hK.1 hP hq h1) hdg k
  · exact va_instNo hexec hb hown hlink (hK.2.2.2.2.1 ("SandPalace$Rim", "SandPalace$Block") (by decide +kernel)) (shr5 hK.1 hP hq h1) hdg k
  · exact absurd (Or.inr h1) h
theorem shCastSign (hexec : p.tables.exec = Jvm.exec) (hb : c.code = cc) (hown : s.vm.findClass own = some m.cls) (hlink : (Cond.classLink own index "SandPalace$Sign").before args s = true) (hK : KK D cs s) (hP : va_P D vwCl (X ++ va_pl LP (shE Z)) H) (hq : q ∈ LP) (h : (Z q).1 = 7) (hdg : decode cc pc = .ok (.checkcast index, 3))
    (k : W p l e R s m args below meth c H locs cells slots Q (F0 m (pc + 3) ls (.ref q :: rest))) : W p l e R s m args below meth c H locs cells slots Q (F0 m pc ls (.ref q :: rest)) :=
  va_castS hexec hb hown hlink (hK.1.1 7 _ rfl).2 (shr7 hK.1 hP hq h) hdg k
theorem shCastBlock (hexec : p.tables.exec = Jvm.exec) (hb : c.code = cc) (hown : s.vm.findClass own = some m.cls) (hlink : (Cond.classLink own index "SandPalace$Block").before args s = true) (hK : KK D cs s) (hP : va_P D vwCl (X ++ va_pl LP (shE Z)) H) (hq : q ∈ LP) (h : (Z q).1 = 0 ∨ (Z q).1 = 7) (hdg : decode cc pc = .ok (.checkcast index, 3))
    (k : W p l e R s m args below meth c H locs cells slots Q (F0 m (pc + 3) ls (.ref q :: rest))) : W p l e R s m args below meth c H locs cells slots Q (F0 m pc ls (.ref q :: rest)) := by
  rcases h with h | h
  · exact va_castS hexec hb hown hlink (hK.1.1 0 _ rfl).2 (shr0 hK.1 hP hq h) hdg k
  · exact va_castY hexec hb hown hlink (hK.2.2.2.1 ("SandPalace$Sign", "SandPalace$Block") (by decide +kernel)) (shr7 hK.1 hP hq h) hdg k
theorem mretSR {C : String} (hx : p.tables.exec = Jvm.exec) (hb : c.code = cc) (hr : meth.sig.returnType = some (.object C)) (hlk : meth.locks = false) {o r : Option Nat} (h : some o = some r) (hdg : decode cc pc = .ok (.areturn, 1)) : W p l e R s m args below meth c s.heap [] cells slots (MQ below (va_Sq (fun x => x = r)) args s cells slots (fun _ => False)) (F0 m pc ls [va_rf o]) :=
  W.aret hx hb hr (Or.inl ⟨_, rfl⟩) (by cases o with | none => exact Or.inl rfl | some a => exact Or.inr ⟨a, rfl⟩) (fun t ht _ => ⟨o, rfl, Option.some.inj h, ht⟩) (fun _ h => by cases h) hdg hlk
theorem mcallSR {r : Option Nat} (hr : va_Run p l e R s m args below meth c H locs cells slots 0 0 (F0 m pc ls st0) rest (va_Sq (fun x => x = r) a0) (fun _ => False)) (kk : W p l e R s m args below meth c H locs cells slots Q (F0 m (pc + 3) ls (va_rf r :: rest))) : W p l e R s m args below meth c H locs cells slots Q (F0 m pc ls st0) := by
  intro T hT X
  obtain ⟨v, st₀, t, T', L, h0, X', hL, e1, e2, ⟨r2, hv, hp, hh⟩, st⟩ := hr T hT X
  cases hv
  subst hp
  have hLn : L = [] := by
    cases L with
    | nil => rfl
    | cons q _ => exact absurd (hL q List.mem_cons_self) (fun h => h)
  subst hLn
  rw [List.append_nil] at X'
  obtain ⟨t2, a1, b1⟩ := kk T' (by rw [e1, hh, h0]) X'
  exact ⟨t2, st t2 a1, b1⟩
end CROWS
theorem metOfWF {l : Launch} {y : MethodName} {ws ws' : List Cond} {rm : Room} {Pc : Array Value → State → Prop} {Qc : Array Value → State → Outcome → State → Prop} {mc ms : Nat} {free : Addr → Prop} {cc : ByteArray} {maxL : Nat} {ret : Option FieldType}
    (hy : plainFor y = true) (hw : ws = Cond.code y cc maxL ret :: ws')
    (body : ∀ p e s m args below meth c s₁, BodyLoose p l y (headSpec ws rm) cc maxL ret e s m args below meth c s₁ → c.maxLocals = maxL → Pc args s →
      W p l e (headSpec ws rm).room s m args below meth c s.heap [] 0 0 (MQ below Qc args s mc ms free) (entryFrame m args maxL)) : Met l y ws rm Pc Qc mc ms free := by
  refine MetFree.of_bodySF (code := cc) (maxLocals := maxL) (ret := ret) hy ?_ ?_
  · intro args s m h hn
    obtain ⟨meth, c, h1, h2, h3, h4, h5, h6, -, -⟩ := Cond.code_spec hn (atoms_spec (ws := ws) h _ (by rw [hw]; exact List.mem_cons_self))
    exact ⟨meth, c, h1, h2, h3, h4, h5, h6⟩
  · intro p e s m args below meth c s₁ B hml hP _
    have hh0 : s₁.heap = s.heap := by rw [B.state]; rfl
    obtain ⟨t, a1, o, b1, b2, b3⟩ := body p e s m args below meth c s₁ B hml hP s₁ hh0 (Stand.of_body B)
    exact ⟨t, o, a1, b1, b2, ⟨b3.1, b3.2⟩⟩
