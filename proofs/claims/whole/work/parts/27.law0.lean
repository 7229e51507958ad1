/-! THE CLAIM OUT OF ONE WALK OF THE LAW'S BODY. Your part is whole_start (and what it stands on); all else here is the same for every law, but numbers. -/
def R_law : String := "SandPalaceLaw"
theorem rs_ge : 7300000 ≤ room_1.slots := by decide
def lw_P (b : Addr) (xs : List Int32) (args : Array Value) (s : State) : Prop := args = #[.ref b] ∧ s.IntsAt b xs ∧ xs.length ≤ 3584 ∧ (Jvm.Cond.and given_1 narrow_1).before args s = true
def lw_Q (_ : Array Value) (s : State) (o : Outcome) (t : State) : Prop := o = .returned (some (.int 1)) ∧ Framed s o t [] 600000 room_1.slots
def lw_Z (below : List Frame) (a : Array Value) (s : State) : State → Prop := fun t => ∃ o, t.status = .running ∧ Ended t below o ∧ lw_Q a s o t
/-- the law's own end, with 1 on the stack, nothing written that was there before, its room as the claim has it -/
theorem lw_ret {p : Program} {l : Launch} {e : Env} {s : State} {m : MethodId} {below : List Frame} {meth : Method} {c : Code} {b : Nat} (hx : p.tables.exec = Jvm.exec) (hb : c.code = code) (hr : meth.sig.returnType = ret) (hlocks : meth.locks = false) {pc : Nat} {H : Heap} {ls : Array Slot} (hdg : decode code pc = .ok (.ireturn, 1)) : W p l e room_1 s m #[Value.ref b] below meth c H [] 600000 room_1.slots (lw_Z below #[Value.ref b] s) (F0 m pc ls [.int 1]) := by
  intro T hT X
  obtain ⟨fs, hret, hrun, hended, hW, hframe⟩ := X.leave (v := some (.int 1)) (hlocks := hlocks) (fun h => by rw [hr] at h; cases h)
  have hmeth' : T.vm.method? m = some meth := X.method'
  refine ⟨T.setFrames fs, ?_, .returned (some (.int 1)), hrun, hended, rfl, ⟨_, rfl⟩, hW, hframe⟩
  jvm_step X.here [X.here.top, hx, hb, hdg, hmeth', hr, ret, narrow_b1]
  (try refine ⟨rfl, ?_⟩); (try refine ⟨rfl, ?_⟩)
  first | (intro acts; rw [hret _ acts rfl rfl rfl]) | rw [hret _ _ rfl rfl rfl]
  exact Steps.refl _
/-- what holds at the law's entry: the machine, the code, the tables' words (any of lw_tbl by 'hts w (by decide +kernel)'), the script of L ints xs at the cell b, what the Statement gives of the start (any of its parts by flat_of_before) -/
def lw_At (p : Program) (s : State) (m : MethodId) (meth : Method) (c : Code) (b L : Nat) (xs : Nat → Int32) : Prop :=
  p.tables.exec = Jvm.exec ∧ c.code = code ∧ meth.sig.returnType = ret ∧ c.maxLocals = 4 ∧ s.vm.findClass R_law = some m.cls ∧ (∀ w ∈ lw_tbl, w.before #[Value.ref b] s = true) ∧ va_X b L xs s s.heap ∧ b < s.heap.size ∧ meth.locks = false ∧ (Jvm.Cond.and given_1 narrow_1).before #[Value.ref b] s = true
/-! what each call must keep: a relation between the class's state and the reference's -/
def dj (w1 w2 : va_W) : Prop := ∀ (i j : Nat) (x y : Nat × va_E), w1[i]? = some x → w2[j]? = some y → x.1 ≠ y.1
theorem dj.symm {w1 w2 : va_W} (h : dj w1 w2) : dj w2 w1 := fun i j x y hi hj e => h j i y x hj hi e.symm
abbrev sA (s : State) : Nat → Prop := fun q => s.heap.size ≤ q
section LROWS
variable {p : Program} {l : Launch} {e : Env} {R : Room} {s : State} {m : MethodId} {args : Array Value} {below : List Frame} {meth : Method} {c : Code} {H : Heap} {locs : List Loc} {cells slots : Nat} {Q : State → Prop}
variable {cc : ByteArray} {pc : Nat} {ls : Array Slot} {rest st0 : List Value} {a0 : Array Value} {D : va_G} {A : Nat → Prop} {H0 : Heap}
theorem lcall {S : Type} {post : Int32 → S → Prop} {wf : S → va_W} {wc wr : va_W} {mc ms : Nat} (hr : va_Run p l e R s m args below meth c H locs cells slots mc ms (F0 m pc ls st0) rest (va_Qi post (qB D wf (va_A wc H.size)) (va_A wc H.size) a0) (va_A wc H.size)) (hDc : va_D A wc) (hPr : va_P D vwCl wr H) (hdj : dj wc wr) (hS : va_S A H0 H locs) (hA : ∀ q, H0.size ≤ q → A q)
    (kk : ∀ (r : Int32) (u : S) (H1 : Heap) (locs1 : List Loc), post r u → va_P D vwCl (wf u) H1 → va_D A (wf u) → va_P D vwCl wr H1 → dj (wf u) wr → va_S A H0 H1 locs1 → W p l e R s m args below meth c H1 locs1 (cells + mc) (slots + ms) Q (F0 m (pc + 3) ls (.int r :: rest))) : W p l e R s m args below meth c H locs cells slots Q (F0 m pc ls st0) := by
  have hF := mfree hDc hS hA
  have hnA : ∀ (k : Nat) (x : Nat × va_E), wr[k]? = some x → ¬ va_A wc H.size x.1 := fun k x hx h => by
    rcases h with ⟨k2, e, h⟩ | h
    · exact hdj k2 k (x.1, e) x h hx rfl
    · have := (hPr k x hx).lt
      omega
  refine va_calli hr hS (fun q _ h => hF q h) hF (fun r u t H1 locs1 ht hvm hw hB hz hk hS1 => ?_)
  have hB1 := hB.1
  rw [ht] at hB1
  exact kk r u H1 locs1 hw hB1 (hB.2.weaken (fun _ q _ h => hF q.1 h)) (fun k x hx => (hPr k x hx).kept (hk x.1 (hPr k x hx).lt (hnA k x hx))) (fun i j x y hi hj e => hnA j y hj (by rw [← e]; exact hB.2.2 i x hi)) hS1
end LROWS
theorem lw_in {x3 kI : Int32} {i L k : Nat} (ex : x3 = nI i) (hi : i + 7 ≤ L) (hL : L ≤ 3584) (hk : k < 7) (ek : kI = nI k) : vp_in (x3 + kI) L := by
  rw [ex, ek, nI_add]
  exact vp_in_nI (by omega) (by omega)
def st_disc (Rel : SS → (Nat → Nat → Int32) → Prop) : Prop := ∀ (u : SS) (v : Nat → Nat → Int32) (x1 x2 : Int32) , Rel u v → ∃ (F : Nat) (r : Int32) (o : Option (Int64 × (Nat → Nat → Int32))) (v2 : Nat → Nat → Int32), fX11_disc F u.2.1 u.2.2.2 u.1 x1 x2 = some (r, o) ∧ fX12_disc F v x1 x2 = some (r, v2) ∧ ∀ y : SS, aPost u.1 u.2.1 u.2.2.1 u.2.2.2 1 x1 0 r o r y → Rel y v2
def st_rim (Rel : SS → (Nat → Nat → Int32) → Prop) : Prop := ∀ (u : SS) (v : Nat → Nat → Int32) (x1 x2 : Int32) , Rel u v → ∃ (F : Nat) (r : Int32) (o : Option (Int64 × (Nat → Nat → Int32))) (v2 : Nat → Nat → Int32), fX11_rim F u.2.1 u.2.2.2 u.1 x1 x2 = some (r, o) ∧ fX12_rim F v x1 x2 = some (r, v2) ∧ ∀ y : SS, aPost u.1 u.2.1 u.2.2.1 u.2.2.2 5 x1 0 r o r y → Rel y v2
def st_line (Rel : SS → (Nat → Nat → Int32) → Prop) : Prop := ∀ (u : SS) (v : Nat → Nat → Int32) (x1 x2 x3 x4 x5 : Int32) , Rel u v → ∃ (F : Nat) (r : Int32) (o : Option (Int64 × (Nat → Nat → Int32))) (v2 : Nat → Nat → Int32), fX11_line F u.2.1 u.2.2.2 u.1 x1 x2 x3 x4 x5 = some (r, o) ∧ fX12_line F v x1 x2 x3 x4 x5 = some (r, v2) ∧ ∀ y : SS, aPost u.1 u.2.1 u.2.2.1 u.2.2.2 2 x1 0 r o r y → Rel y v2
def st_block (Rel : SS → (Nat → Nat → Int32) → Prop) : Prop := ∀ (u : SS) (v : Nat → Nat → Int32) (x1 x2 x3 x4 x5 : Int32) , Rel u v → ∃ (F : Nat) (r : Int32) (o : Option (Int64 × (Nat → Nat → Int32))) (v2 : Nat → Nat → Int32), fX11_block F u.2.1 u.2.2.2 u.1 x1 x2 x3 x4 x5 = some (r, o) ∧ fX12_block F v x1 x2 x3 x4 x5 = some (r, v2) ∧ ∀ y : SS, aPost u.1 u.2.1 u.2.2.1 u.2.2.2 0 x1 0 r o r y → Rel y v2
def st_sign (Rel : SS → (Nat → Nat → Int32) → Prop) : Prop := ∀ (u : SS) (v : Nat → Nat → Int32) (x1 x2 x3 x4 x5 x6 : Int32) , Rel u v → ∃ (F : Nat) (r : Int32) (o : Option (Int64 × (Nat → Nat → Int32))) (v2 : Nat → Nat → Int32), fX11_sign F u.2.1 u.2.2.2 u.1 x1 x2 x3 x4 x5 x6 = some (r, o) ∧ fX12_sign F v x1 x2 x3 x4 x5 x6 = some (r, v2) ∧ ∀ y : SS, aPost u.1 u.2.1 u.2.2.1 u.2.2.2 7 x1 x6 r o r y → Rel y v2
def st_undo (Rel : SS → (Nat → Nat → Int32) → Prop) : Prop := ∀ (u : SS) (v : Nat → Nat → Int32), Rel u v → ∃ (F : Nat) (r : Int32) (σ2 : Nat → Nat → Int32) (v2 : Nat → Nat → Int32), fX11_undo F u.2.1 u.2.2.2 u.1 = some (r, σ2) ∧ fX12_undo F v = some (r, v2) ∧ Rel (σ2, (shUndo u.1 u.2.1), u.2.2.1, u.2.2.2) v2
def st_told (Rel : SS → (Nat → Nat → Int32) → Prop) : Prop := ∀ (u : SS) (v : Nat → Nat → Int32) (x1 x2 : Int32) , Rel u v → ∃ (F : Nat) (r : Int32), fX11_told F u.2.1 u.2.2.2 u.1 x1 x2 = some r ∧ fX12_told F v x1 x2 = some r ∧ Rel u v
def st_step (Rel : SS → (Nat → Nat → Int32) → Prop) : Prop := ∀ (u : SS) (v : Nat → Nat → Int32) (x1 : Int32) , Rel u v → ∃ (F : Nat) (r : Int32), fX11_step u.2.1 u.2.2.2 u.1 x1 = some r ∧ fX12_step v x1 = some r ∧ Rel u v
def st_quarter (Rel : SS → (Nat → Nat → Int32) → Prop) : Prop := ∀ (u : SS) (v : Nat → Nat → Int32) (x1 : Int32) , Rel u v → ∃ (F : Nat) (r : Int32), fX11_quarter u.2.1 u.2.2.2 u.1 x1 = some r ∧ fX12_quarter v x1 = some r ∧ Rel u v
def st_cell (Rel : SS → (Nat → Nat → Int32) → Prop) : Prop := ∀ (u : SS) (v : Nat → Nat → Int32) (x1 x2 x3 : Int32) , Rel u v → ∃ (F : Nat) (r : Int32), fX11_cell F u.2.1 u.2.2.2 u.1 x1 x2 x3 = some r ∧ fX12_cell F v x1 x2 x3 = some r ∧ Rel u v
def st_count (Rel : SS → (Nat → Nat → Int32) → Prop) : Prop := ∀ (u : SS) (v : Nat → Nat → Int32) (x1 : Int32) , Rel u v → ∃ (F : Nat) (r : Int32), fX11_count F u.2.1 u.2.2.2 u.1 x1 = some r ∧ fX12_count F v x1 = some r ∧ Rel u v
def st_unlike (Rel : SS → (Nat → Nat → Int32) → Prop) : Prop := ∀ (u : SS) (v : Nat → Nat → Int32), Rel u v → ∃ (F : Nat) (r : Int32), fX11_unlike F u.2.1 u.2.2.2 u.1 = some r ∧ fX12_unlike F v = some r ∧ Rel u v
def st_hem (Rel : SS → (Nat → Nat → Int32) → Prop) : Prop := ∀ (u : SS) (v : Nat → Nat → Int32) (x1 x2 x3 : Int32) , Rel u v → (x3 = 0 ∨ x3 = 1) → ∃ (F : Nat) (r : Int32) (σ2 : Nat → Nat → Int32) (v2 : Nat → Nat → Int32), fX11_hem u.2.1 u.2.2.2 u.1 x1 x2 x3 = some (r, σ2) ∧ fX12_hem v x1 x2 x3 = some (r, v2) ∧ Rel (σ2, u.2.1, u.2.2.1, u.2.2.2) v2
def st_after (Rel : SS → (Nat → Nat → Int32) → Prop) : Prop := ∀ (u : SS) (v : Nat → Nat → Int32) (x1 x2 : Int32) , Rel u v → ∃ (F : Nat) (r : Int32), fX11_after F u.2.1 u.2.2.2 u.1 x1 x2 = some r ∧ fX12_after F v x1 x2 = some r ∧ Rel u v
def st_sand (Rel : SS → (Nat → Nat → Int32) → Prop) : Prop := ∀ (u : SS) (v : Nat → Nat → Int32) (x1 : Int32) , Rel u v → ∃ (F : Nat) (r : Int32) (σ2 : Nat → Nat → Int32) (v2 : Nat → Nat → Int32), fX11_sand u.2.1 u.2.2.2 u.1 x1 = some (r, σ2) ∧ fX12_sand v x1 = some (r, v2) ∧ Rel (σ2, u.2.1, u.2.2.1, u.2.2.2) v2
def st_days (Rel : SS → (Nat → Nat → Int32) → Prop) : Prop := ∀ (u : SS) (v : Nat → Nat → Int32), Rel u v → ∃ (F : Nat) (r : Int32) (σ2 : Nat → Nat → Int32) (v2 : Nat → Nat → Int32), fX11_days F u.2.1 u.2.2.2 u.1 = some (r, σ2) ∧ fX12_days F v = some (r, v2) ∧ Rel (σ2, u.2.1, u.2.2.1, u.2.2.2) v2
def st_day (Rel : SS → (Nat → Nat → Int32) → Prop) : Prop := ∀ (u : SS) (v : Nat → Nat → Int32) (x1 : Int32) , Rel u v → ∃ (F : Nat) (r : Int32) (σ2 : Nat → Nat → Int32) (v2 : Nat → Nat → Int32), fX11_day F u.2.1 u.2.2.2 u.1 x1 = some (r, σ2) ∧ fX12_day F v x1 = some (r, v2) ∧ Rel (σ2, u.2.1, u.2.2.1, u.2.2.2) v2
def st_poured (Rel : SS → (Nat → Nat → Int32) → Prop) : Prop := ∀ (u : SS) (v : Nat → Nat → Int32) (x1 : Int32) , Rel u v → ∃ (F : Nat) (r : Int32) (σ2 : Nat → Nat → Int32) (v2 : Nat → Nat → Int32), fX11_poured F u.2.1 u.2.2.2 u.1 x1 = some (r, σ2) ∧ fX12_poured F v x1 = some (r, v2) ∧ Rel (σ2, u.2.1, u.2.2.1, u.2.2.2) v2
def st_photo (Rel : SS → (Nat → Nat → Int32) → Prop) : Prop := ∀ (u : SS) (v : Nat → Nat → Int32), Rel u v → ∃ (F : Nat) (r : Int32) (σ2 : Nat → Nat → Int32) (v2 : Nat → Nat → Int32), fX11_photo F u.2.1 u.2.2.2 u.1 = some (r, σ2) ∧ fX12_photo F v = some (r, v2) ∧ Rel (σ2, u.2.1, u.2.2.1, u.2.2.2) v2
def st_smear (Rel : SS → (Nat → Nat → Int32) → Prop) : Prop := ∀ (u : SS) (v : Nat → Nat → Int32) (x1 x2 : Int32) , Rel u v → ∃ (F : Nat) (r : Int32) (σ2 : Nat → Nat → Int32) (v2 : Nat → Nat → Int32), fX11_smear u.2.1 u.2.2.2 u.1 x1 x2 = some (r, σ2) ∧ fX12_smear v x1 x2 = some (r, v2) ∧ Rel (σ2, u.2.1, u.2.2.1, u.2.2.2) v2
def st_cat (Rel : SS → (Nat → Nat → Int32) → Prop) : Prop := ∀ (u : SS) (v : Nat → Nat → Int32) (x1 x2 x3 x4 x5 : Int32) , Rel u v → ∃ (F : Nat) (r : Int32) (σ2 : Nat → Nat → Int32) (v2 : Nat → Nat → Int32), fX11_cat F u.2.1 u.2.2.2 u.1 x1 x2 x3 x4 x5 = some (r, σ2) ∧ fX12_cat F v x1 x2 x3 x4 x5 = some (r, v2) ∧ Rel (σ2, u.2.1, u.2.2.1, u.2.2.2) v2
def st_seen (Rel : SS → (Nat → Nat → Int32) → Prop) : Prop := ∀ (u : SS) (v : Nat → Nat → Int32) (x1 x2 : Int32) , Rel u v → ∃ (F : Nat) (r : Int32), fX11_seen u.2.1 u.2.2.2 u.1 x1 x2 = some r ∧ fX12_seen v x1 x2 = some r ∧ Rel u v
def st_back (Rel : SS → (Nat → Nat → Int32) → Prop) : Prop := ∀ (u : SS) (v : Nat → Nat → Int32) (x1 x2 : Int32) , Rel u v → ∃ (F : Nat) (r : Int32), fX11_back F u.2.1 u.2.2.2 u.1 x1 x2 = some r ∧ fX12_back F v x1 x2 = some r ∧ Rel u v
def st_mend (Rel : SS → (Nat → Nat → Int32) → Prop) : Prop := ∀ (u : SS) (v : Nat → Nat → Int32), Rel u v → ∃ (F : Nat) (r : Int32) (σ2 : Nat → Nat → Int32) (v2 : Nat → Nat → Int32), fX11_mend F u.2.1 u.2.2.2 u.1 = some (r, σ2) ∧ fX12_mend F v = some (r, v2) ∧ Rel (σ2, u.2.1, u.2.2.1, u.2.2.2) v2
def st_harm (Rel : SS → (Nat → Nat → Int32) → Prop) : Prop := ∀ (u : SS) (v : Nat → Nat → Int32) (x1 : Int32) , Rel u v → ∃ (F : Nat) (r : Int32), fX11_harm F u.2.1 u.2.2.2 u.1 x1 = some r ∧ fX12_harm F v x1 = some r ∧ Rel u v
def st_again (Rel : SS → (Nat → Nat → Int32) → Prop) : Prop := ∀ (u : SS) (v : Nat → Nat → Int32), Rel u v → ∃ (F : Nat) (r : Int32), fX11_again F u.2.1 u.2.2.2 u.1 = some r ∧ fX12_again F v = some r ∧ Rel u v
def st_bar (Rel : SS → (Nat → Nat → Int32) → Prop) : Prop := ∀ (u : SS) (v : Nat → Nat → Int32) (x1 : Int32) , Rel u v → ∃ (F : Nat) (r : Int32) (σ2 : Nat → Nat → Int32) (v2 : Nat → Nat → Int32), fX11_bar F u.2.1 u.2.2.2 u.1 x1 = some (r, σ2) ∧ fX12_bar v x1 = some (r, v2) ∧ Rel (σ2, u.2.1, u.2.2.1, u.2.2.2) v2
def st_way (Rel : SS → (Nat → Nat → Int32) → Prop) : Prop := ∀ (u : SS) (v : Nat → Nat → Int32) (x1 : Int32) , Rel u v → ∃ (F : Nat) (r : Int32) (σ2 : Nat → Nat → Int32) (v2 : Nat → Nat → Int32), fX11_way u.2.1 u.2.2.2 u.1 x1 = some (r, σ2) ∧ fX12_way F v x1 = some (r, v2) ∧ Rel (σ2, u.2.1, u.2.2.1, u.2.2.2) v2
def st_wayAt (Rel : SS → (Nat → Nat → Int32) → Prop) : Prop := ∀ (u : SS) (v : Nat → Nat → Int32) (x1 x2 : Int32) , Rel u v → ∃ (F : Nat) (r : Int32) (σ2 : Nat → Nat → Int32) (v2 : Nat → Nat → Int32), fX11_wayAt u.2.1 u.2.2.2 u.1 x1 x2 = some (r, σ2) ∧ fX12_wayAt F v x1 x2 = some (r, v2) ∧ Rel (σ2, u.2.1, u.2.2.1, u.2.2.2) v2
def st_heap (Rel : SS → (Nat → Nat → Int32) → Prop) : Prop := ∀ (u : SS) (v : Nat → Nat → Int32) (x1 : Int32) , Rel u v → ∃ (F : Nat) (r : Int32), fX11_heap F u.2.1 u.2.2.2 u.1 x1 = some r ∧ fX12_heap F v x1 = some r ∧ Rel u v
def st_sheet (Rel : SS → (Nat → Nat → Int32) → Prop) : Prop := ∀ (u : SS) (v : Nat → Nat → Int32) (x1 x2 x3 : Int32) , Rel u v → ∃ (F : Nat) (r : Int32) (σ2 : Nat → Nat → Int32) (v2 : Nat → Nat → Int32), fX11_sheet F u.2.1 u.2.2.2 u.1 x1 x2 x3 = some (r, σ2) ∧ fX12_sheet F v x1 x2 x3 = some (r, v2) ∧ Rel (σ2, u.2.1, u.2.2.1, u.2.2.2) v2
def st_drop (Rel : SS → (Nat → Nat → Int32) → Prop) : Prop := ∀ (u : SS) (v : Nat → Nat → Int32) (x1 : Int32) , Rel u v → ∃ (F : Nat) (r : Int32) (σ2 : Nat → Nat → Int32) (v2 : Nat → Nat → Int32), fX11_drop u.2.1 u.2.2.2 u.1 x1 = some (r, σ2) ∧ fX12_drop v x1 = some (r, v2) ∧ Rel (σ2, u.2.1, u.2.2.1, u.2.2.2) v2
def st_item (Rel : SS → (Nat → Nat → Int32) → Prop) : Prop := ∀ (u : SS) (v : Nat → Nat → Int32) (x1 x2 x3 x4 : Int32) , Rel u v → ∃ (F : Nat) (r : Int32) (σ2 : Nat → Nat → Int32) (v2 : Nat → Nat → Int32), fX11_item u.2.1 u.2.2.2 u.1 x1 x2 x3 x4 = some (r, σ2) ∧ fX12_item v x1 x2 x3 x4 = some (r, v2) ∧ Rel (σ2, u.2.1, u.2.2.1, u.2.2.2) v2
def st_show (Rel : SS → (Nat → Nat → Int32) → Prop) : Prop := ∀ (u : SS) (v : Nat → Nat → Int32) (x1 x2 x3 x4 x5 : Int32) , Rel u v → ∃ (F : Nat) (r : Int32) (σ2 : Nat → Nat → Int32) (v2 : Nat → Nat → Int32), fX11_show F u.2.1 u.2.2.2 u.1 x1 x2 x3 x4 x5 = some (r, σ2) ∧ fX12_show F v x1 x2 x3 x4 x5 = some (r, v2) ∧ Rel (σ2, u.2.1, u.2.2.1, u.2.2.2) v2
def st_keep (Rel : SS → (Nat → Nat → Int32) → Prop) : Prop := ∀ (u : SS) (v : Nat → Nat → Int32) (x1 x2 x3 x4 x5 : Int32) , Rel u v → ∃ (F : Nat) (r : Int32) (σ2 : Nat → Nat → Int32) (v2 : Nat → Nat → Int32), fX11_keep F u.2.1 u.2.2.2 u.1 x1 x2 x3 x4 x5 = some (r, σ2) ∧ fX12_keep F v x1 x2 x3 x4 x5 = some (r, v2) ∧ Rel (σ2, u.2.1, u.2.2.1, u.2.2.2) v2
