/-! photo, heap, what is told back -/
def wrQ (val : Nat → Nat → Int32) (g : Nat → Int32) (p : Nat) : Nat → Nat → Int32
  | 0 => g
  | q + 1 => upd (wrQ val g p q) (cel p q) (val p q)
def wrP (val : Nat → Nat → Int32) (g : Nat → Int32) : Nat → Nat → Int32
  | 0 => g
  | p + 1 => wrQ val (wrP val g p) p 4
theorem wrQ_at (val : Nat → Nat → Int32) (g : Nat → Int32) {p c : Nat} (hp : p < 64) (hc : c < 256) : ∀ q, q ≤ 4 → wrQ val g p q c = if plc c = p ∧ qrt c < q then val p (qrt c) else g c := by
  intro q
  induction q with
  | zero => intro _; rw [if_neg (by omega)]; rfl
  | succ q ih =>
    intro hq
    obtain ⟨k1, k2, k3⟩ := cel_p p hp q (by omega)
    obtain ⟨j1, j2, j3⟩ := cel_c c hc
    unfold wrQ
    by_cases e : c = cel p q
    · subst e
      rw [pk_us, if_pos ⟨k2, by omega⟩, k3]
    · rw [pk_un e, ih (by omega)]
      by_cases z : plc c = p ∧ qrt c < q
      · rw [if_pos z, if_pos ⟨z.1, by omega⟩]
      · rw [if_neg z, if_neg]
        rintro ⟨z1, z2⟩
        apply e
        have : qrt c = q := by
          rcases Nat.lt_or_ge (qrt c) q with y | y
          · exact absurd ⟨z1, y⟩ z
          · omega
        rw [← z1, ← this, j3]
theorem wrP_at (val : Nat → Nat → Int32) (g : Nat → Int32) {c : Nat} (hc : c < 256) : ∀ p, p ≤ 64 → wrP val g p c = if plc c < p then val (plc c) (qrt c) else g c := by
  intro p
  induction p with
  | zero => intro _; rw [if_neg (by omega)]; rfl
  | succ p ih =>
    intro hp
    obtain ⟨j1, j2, j3⟩ := cel_c c hc
    unfold wrP
    rw [wrQ_at val _ (by omega) hc 4 (Nat.le_refl _), ih (by omega)]
    by_cases z : plc c = p
    · rw [if_pos ⟨z, j2⟩, if_pos (by omega), z]
    · rw [if_neg (fun y => z y.1)]
      by_cases y : plc c < p
      · rw [if_pos y, if_pos (by omega)]
      · rw [if_neg y, if_neg (by omega)]
theorem look0 {a b : Nat} (h : a + b = 256) : (256 : Int32) - nI a = nI b := by
  rw [show (256 : Int32) = nI 256 from rfl, pk_sub (by omega), show 256 - a = b by omega]
section PHOTO
variable {PP : PPT} {WP : WPT}
variable {σ v : Nat → Nat → Int32} {sh : Nat → Option Nat} {Z : ZT} {n : Nat} {K C T H : Nat → Nat} {B : Nat → Nat → Bool} {F : Nat}
theorem c_takeIn (hp : PicOK n K C T H) (hc : CVs σ sh Z n K C T H B) (hF : 300 ≤ F) {p : Nat} (hpp : p < 64) (g : Nat → Int32) (kx : (Nat → Nat → Int32) → Option (Nat → Nat → Int32)) : fX3_take_L10 F sh Z (nI p) kx F 0 (sg σ 15 g) = kx (sg σ 15 (wrQ (fun p q => nI (lookN K C T B p q n)) g p 4)) := by
  refine lp_up (fun m (z : Int32 × (Nat → Nat → Int32)) => fX3_take_L10 F sh Z (nI p) kx m z.1 z.2) (fun i => (nI i, sg σ 15 (wrQ (fun p q => nI (lookN K C T B p q n)) g p i))) _ 4 (fun m i hi => ?_) (fun m => ?_) F 0 (Nat.zero_le _) (by omega)
  · show fX3_take_L10 F sh Z (nI p) kx (m + 1) (nI i) (sg σ 15 (wrQ (fun p q => nI (lookN K C T B p q n)) g p i)) = fX3_take_L10 F sh Z (nI p) kx m (nI (i + 1)) (sg σ 15 (wrQ (fun p q => nI (lookN K C T B p q n)) g p (i + 1)))
    have hc2 : CVs (sg σ 15 (wrQ (fun p q => nI (lookN K C T B p q n)) g p i)) sh Z n K C T H B := hc
    obtain ⟨k1, k2, k3⟩ := cel_p p hpp i hi
    rw [fX3_take_L10, nb_s, if_neg (show ¬ (4 : Int32) ≤ nI i from nI_ge (b := 4) hi (by decide)), c_cell F (by omega) p hpp i hi, bd_s, c_look hp hc2 (by omega) hpp hi, bd_s, aS_n k1 (by decide), nm_s, sg_at, sg_sg, nI_clamp (by omega), nI_1]
    rfl
  · show fX3_take_L10 F sh Z (nI p) kx (m + 1) (nI 4) (sg σ 15 (wrQ (fun p q => nI (lookN K C T B p q n)) g p 4)) = _
    rw [fX3_take_L10, nb_s, if_pos (by decide)]
theorem c_take (hp : PicOK n K C T H) (hc : CVs σ sh Z n K C T H B) (hF : 300 ≤ F) : fX3_take F sh Z σ = some (sg σ 15 (wrP (fun p q => nI (lookN K C T B p q n)) (σ 15) 64)) := by
  have := lp_up (fun m (z : Int32 × (Nat → Nat → Int32)) => fX3_take_L2 F sh Z (fun σ1 => some σ1) m z.1 z.2) (fun i => (nI i, sg σ 15 (wrP (fun p q => nI (lookN K C T B p q n)) (σ 15) i))) (some (sg σ 15 (wrP (fun p q => nI (lookN K C T B p q n)) (σ 15) 64))) 64 (fun m i hi => ?_) (fun m => ?_) F 0 (Nat.zero_le _) (by omega)
  · dsimp only [wrP] at this
    rw [sg_same] at this
    exact this
  · show fX3_take_L2 F sh Z (fun σ1 => some σ1) (m + 1) (nI i) (sg σ 15 (wrP (fun p q => nI (lookN K C T B p q n)) (σ 15) i)) = fX3_take_L2 F sh Z (fun σ1 => some σ1) m (nI (i + 1)) (sg σ 15 (wrP (fun p q => nI (lookN K C T B p q n)) (σ 15) (i + 1)))
    rw [fX3_take_L2, nb_s, if_neg (show ¬ (64 : Int32) ≤ nI i from nI_ge (b := 64) hi (by decide)), c_takeIn hp hc hF hi, nI_1]
    rfl
  · show fX3_take_L2 F sh Z (fun σ1 => some σ1) (m + 1) (nI 64) (sg σ 15 (wrP (fun p q => nI (lookN K C T B p q n)) (σ 15) 64)) = _
    rw [fX3_take_L2, nb_s, if_pos (by decide)]
theorem r_photo (hp : PicOK n K C T H) (hm : MVs v n K C T H B) (hF : 300 ≤ F) : fX12_photo F v = some (nI (fb_sm (fun c => if lookN K C T B (plc c) (qrt c) n = 0 then 0 else 1) 256), sg v 19 (fa_fill (fun c => nI (lookN K C T B (plc c) (qrt c) n)) (v 19) 256)) := by
  have := lp_up (fun m (z : Int32 × Int32 × (Nat → Nat → Int32)) => fX12_photo_L4 F (fun y1 σ2 => some (y1, σ2)) m z.1 z.2.1 z.2.2) (fun i => (nI (fb_sm (fun c => if lookN K C T B (plc c) (qrt c) n = 0 then 0 else 1) i), nI i, sg v 19 (fa_fill (fun c => nI (lookN K C T B (plc c) (qrt c) n)) (v 19) i))) (some (nI (fb_sm (fun c => if lookN K C T B (plc c) (qrt c) n = 0 then 0 else 1) 256), sg v 19 (fa_fill (fun c => nI (lookN K C T B (plc c) (qrt c) n)) (v 19) 256))) 256 (fun m i hi => ?_) (fun m => ?_) F 0 (Nat.zero_le _) (by omega)
  · dsimp only at this
    rw [fa_fill_0, sg_same] at this
    exact this
  · show fX12_photo_L4 F (fun y1 σ2 => some (y1, σ2)) (m + 1) (nI (fb_sm (fun c => if lookN K C T B (plc c) (qrt c) n = 0 then 0 else 1) i)) (nI i) (sg v 19 (fa_fill (fun c => nI (lookN K C T B (plc c) (qrt c) n)) (v 19) i)) = fX12_photo_L4 F (fun y1 σ2 => some (y1, σ2)) m (nI (fb_sm (fun c => if lookN K C T B (plc c) (qrt c) n = 0 then 0 else 1) (i + 1))) (nI (i + 1)) (sg v 19 (fa_fill (fun c => nI (lookN K C T B (plc c) (qrt c) n)) (v 19) (i + 1)))
    have hm2 : MVs (sg v 19 (fa_fill (fun c => nI (lookN K C T B (plc c) (qrt c) n)) (v 19) i)) n K C T H B := hm
    have hl := lookN_le (B := B) hp (plc i) (qrt i) n (Nat.le_refl n)
    rw [fX12_photo_L4, nb_s, if_neg (show ¬ (256 : Int32) ≤ nI i from nI_ge (b := 256) hi (by decide)), r_look hp hm2 (by omega) hi, bd_s, aS_n hi (by decide), nm_s, aI_n hi (by decide), sg_at, sg_at, sg_sg, nI_clamp (by omega), pk_us, fb_sm_succ _ i, ← fa_fill_succ]
    unfold fX12_photo_J37
    by_cases e : lookN K C T B (plc i) (qrt i) n = 0
    · rw [if_neg (fun z => z (by rw [e]; rfl)), if_pos e, nI_1, show (0 : Int32) = nI 0 from rfl, nI_add]
    · rw [if_pos (nI_ne0 (by omega) (by omega)), if_neg e, nI_1, nI_1]
  · show fX12_photo_L4 F (fun y1 σ2 => some (y1, σ2)) (m + 1) (nI (fb_sm (fun c => if lookN K C T B (plc c) (qrt c) n = 0 then 0 else 1) 256)) (nI 256) (sg v 19 (fa_fill (fun c => nI (lookN K C T B (plc c) (qrt c) n)) (v 19) 256)) = _
    rw [fX12_photo_L4, nb_s, if_pos (by decide)]
theorem t_photo : st_photo (Rel PP WP) := by
  intro u v hR
  obtain ⟨n, K, C, T, H, B, S, hOK, hP, hC, hM, hS, hPl, hPh, hRest⟩ := id hR
  refine ⟨300, nI (fb_sm (fun c => if lookN K C T B (plc c) (qrt c) n = 0 then 0 else 1) 256), sg u.1 15 (wrP (fun p q => nI (lookN K C T B p q n)) (u.1 15) 64), sg v 19 (fa_fill (fun c => nI (lookN K C T B (plc c) (qrt c) n)) (v 19) 256), ?_, r_photo hP hM (by decide), ?_⟩
  · have hC2 : CVs (sg u.1 15 (wrP (fun p q => nI (lookN K C T B p q n)) (u.1 15) 64)) u.2.1 u.2.2.2 n K C T H B := hC
    have ec := c_ct (F := 300) (k := 0) hP hC2 (by decide) (by decide)
    have es : (fun p => fb_sm (fun q => if lookN K C T B p q n = 0 then 1 else 0) 4) = (fun p => (if lookN K C T B p 0 n = 0 then 1 else 0) + (if lookN K C T B p 1 n = 0 then 1 else 0) + (if lookN K C T B p 2 n = 0 then 1 else 0) + (if lookN K C T B p 3 n = 0 then 1 else 0)) := by
      funext p; rw [sm4]
    rw [es, ← sum_cells (fun p q => if lookN K C T B p q n = 0 then 1 else 0)] at ec
    unfold fX11_photo
    rw [c_take hP hC (by decide), bd_s]
    refine (congrArg (fun z => bd z _) ec).trans ?_
    rw [bd_s, look0 (b := fb_sm (fun c => if lookN K C T B (plc c) (qrt c) n = 0 then 0 else 1) 256)]
    rw [← fb_sm_add]
    have : (fun k => (if lookN K C T B (plc k) (qrt k) n = 0 then 1 else 0) + (if lookN K C T B (plc k) (qrt k) n = 0 then 0 else 1)) = (fun _ => 1) := by
      funext k; split <;> rfl
    rw [this, fb_sm_const]
  · refine ⟨n, K, C, T, H, B, S, hOK, hP, hC, hM, hS, hPl, ?_, hRest⟩
    intro c hc
    have hl := lookN_le (B := B) hP (plc c) (qrt c) n (Nat.le_refl n)
    have e1 : wrP (fun p q => nI (lookN K C T B p q n)) (u.1 15) 64 c = nI (lookN K C T B (plc c) (qrt c) n) := by
      rw [wrP_at _ _ hc 64 (Nat.le_refl _), if_pos (cel_c c hc).1]
    have e2 : fa_fill (fun c => nI (lookN K C T B (plc c) (qrt c) n)) (v 19) 256 c = nI (lookN K C T B (plc c) (qrt c) n) := fa_fill_in hc
    refine ⟨e2.trans e1.symm, Or.inr ⟨_, hl, e1⟩⟩
/-! heap -/
def fld (c : Nat) : Nat := 4 * (c / 16 / 4) + c % 16 / 4
theorem sml_filter (P : Nat → Bool) (f : Nat → Nat) : ∀ l : List Nat, sml (l.map (fun c => if P c then f c else 0)) = sml ((l.filter P).map f) := by
  intro l
  induction l with
  | nil => rfl
  | cons a l ih =>
    by_cases h : P a = true
    · simp only [List.map_cons, List.filter_cons, h, if_true, sml, ih]
    · have h2 : P a = false := ts_nt h
      simp [List.map_cons, List.filter_cons, h2, sml, ih]
def fl4 (k : Nat) : List Nat := (List.range 4).flatMap (fun i => (List.range 4).map (fun j => 16 * (4 * (k / 4) + i) + (4 * (k % 4) + j)))
theorem fl4_eq : ∀ k, k < 16 → (List.range 256).filter (fun c => decide (fld c = k)) = fl4 k := by decide +kernel
theorem sum_fld (f : Nat → Nat) {k : Nat} (hk : k < 16) : fb_sm (fun c => if fld c = k then f c else 0) 256 = fb_sm (fun i => fb_sm (fun j => f (16 * (4 * (k / 4) + i) + (4 * (k % 4) + j))) 4) 4 := by
  have h := sml_filter (fun c => decide (fld c = k)) f (List.range 256)
  rw [fl4_eq k hk] at h
  simp only [decide_eq_true_eq] at h
  rw [sml_range] at h
  rw [h]
  simp only [fl4, List.range, List.range.loop, List.flatMap_cons, List.flatMap_nil, List.map_cons, List.map_nil, List.cons_append, List.nil_append, List.map_append, sml, sm4]
  omega
theorem c_heapIn (hp : PicOK n K C T H) (hc : CVs σ sh Z n K C T H B) (hF : 300 ≤ F) {l y : Nat} (hl : l ≤ 12) (hy : y < 16) (x3 : Int32) (a : Nat) (kx : Int32 → Option Int32) : fX11_heap_L41 F sh Z σ (nI l) x3 (nI y) kx F (nI a) (nI l) = kx (nI (a + fb_sm (fun j => popF 30 (layN B (plc (16 * y + (l + j))) n)) 4)) := by
  refine lp_up (fun m (z : Int32 × Int32) => fX11_heap_L41 F sh Z σ (nI l) x3 (nI y) kx m z.1 z.2) (fun i => (nI (a + fb_sm (fun j => popF 30 (layN B (plc (16 * y + (l + j))) n)) i), nI (l + i))) _ 4 (fun m i hi => ?_) (fun m => ?_) F 0 (Nat.zero_le _) (by omega)
  · show fX11_heap_L41 F sh Z σ (nI l) x3 (nI y) kx (m + 1) (nI (a + fb_sm (fun j => popF 30 (layN B (plc (16 * y + (l + j))) n)) i)) (nI (l + i)) = fX11_heap_L41 F sh Z σ (nI l) x3 (nI y) kx m (nI (a + fb_sm (fun j => popF 30 (layN B (plc (16 * y + (l + j))) n)) (i + 1))) (nI (l + (i + 1)))
    have hw := pw10 hp.1
    have hl2 := layN_lt B (plc (16 * y + (l + i))) n
    rw [fX11_heap_L41, nb_s, show (4 : Int32) = nI 4 from rfl, nI_add l 4, if_neg (nI_ge (by omega) (by omega)), c_place F (by omega) (l + i) (by omega) y hy, bd_s, c_layers hp hc (by omega) (cel_c _ (by omega)).1, bd_s, c_pop32 (by omega), bd_s, nI_add, nI_1, fb_sm_succ _ i, ← Nat.add_assoc a]
    rfl
  · show fX11_heap_L41 F sh Z σ (nI l) x3 (nI y) kx (m + 1) (nI (a + fb_sm (fun j => popF 30 (layN B (plc (16 * y + (l + j))) n)) 4)) (nI (l + 4)) = _
    rw [fX11_heap_L41, nb_s, show (4 : Int32) = nI 4 from rfl, nI_add l 4, if_pos (nI_le (Nat.le_refl _) (by omega))]
theorem c_heap (hp : PicOK n K C T H) (hc : CVs σ sh Z n K C T H B) (hF : 300 ≤ F) {l y : Nat} (hl : l ≤ 12) (hy : y ≤ 12) : fX11_heap_L30 F sh Z σ (nI l) (nI y) (fun y5 => some y5) F 0 (nI y) = some (nI (fb_sm (fun i => fb_sm (fun j => popF 30 (layN B (plc (16 * (y + i) + (l + j))) n)) 4) 4)) := by
  refine lp_up (fun m (z : Int32 × Int32) => fX11_heap_L30 F sh Z σ (nI l) (nI y) (fun y5 => some y5) m z.1 z.2) (fun i => (nI (fb_sm (fun i => fb_sm (fun j => popF 30 (layN B (plc (16 * (y + i) + (l + j))) n)) 4) i), nI (y + i))) _ 4 (fun m i hi => ?_) (fun m => ?_) F 0 (Nat.zero_le _) (by omega)
  · show fX11_heap_L30 F sh Z σ (nI l) (nI y) (fun y5 => some y5) (m + 1) (nI (fb_sm (fun i => fb_sm (fun j => popF 30 (layN B (plc (16 * (y + i) + (l + j))) n)) 4) i)) (nI (y + i)) = fX11_heap_L30 F sh Z σ (nI l) (nI y) (fun y5 => some y5) m (nI (fb_sm (fun i => fb_sm (fun j => popF 30 (layN B (plc (16 * (y + i) + (l + j))) n)) 4) (i + 1))) (nI (y + (i + 1)))
    rw [fX11_heap_L30, nb_s, show (4 : Int32) = nI 4 from rfl, nI_add y 4, if_neg (nI_ge (by omega) (by omega)), c_heapIn hp hc hF hl (by omega), nI_1, fb_sm_succ _ i]
    rfl
  · show fX11_heap_L30 F sh Z σ (nI l) (nI y) (fun y5 => some y5) (m + 1) (nI (fb_sm (fun i => fb_sm (fun j => popF 30 (layN B (plc (16 * (y + i) + (l + j))) n)) 4) 4)) (nI (y + 4)) = _
    rw [fX11_heap_L30, nb_s, show (4 : Int32) = nI 4 from rfl, nI_add y 4, if_pos (nI_le (Nat.le_refl _) (by omega))]
theorem fld_I : ∀ c, c < 256 → ∀ k, k < 16 → ((((nI c - nI c / (16 : Int32) * (16 : Int32)) / (4 : Int32)) = (nI k - nI k / (4 : Int32) * (4 : Int32)) ∧ ((nI c / (16 : Int32)) / (4 : Int32)) = (nI k / (4 : Int32))) ↔ fld c = k) := by decide +kernel
theorem r_heap (hp : PicOK n K C T H) (hm : MVs v n K C T H B) (hF : 300 ≤ F) {k : Nat} (hk : k < 16) : fX12_heap_L18 F v (nI k) (fun y3 => some y3) F 0 0 = some (nI (fb_sm (fun c => if fld c = k then popF 30 (layN B (plc c) n) else 0) 256)) := by
  refine lp_up (fun m (z : Int32 × Int32) => fX12_heap_L18 F v (nI k) (fun y3 => some y3) m z.1 z.2) (fun i => (nI (fb_sm (fun c => if fld c = k then popF 30 (layN B (plc c) n) else 0) i), nI i)) _ 256 (fun m i hi => ?_) (fun m => ?_) F 0 (Nat.zero_le _) (by omega)
  · show fX12_heap_L18 F v (nI k) (fun y3 => some y3) (m + 1) (nI (fb_sm (fun c => if fld c = k then popF 30 (layN B (plc c) n) else 0) i)) (nI i) = fX12_heap_L18 F v (nI k) (fun y3 => some y3) m (nI (fb_sm (fun c => if fld c = k then popF 30 (layN B (plc c) n) else 0) (i + 1))) (nI (i + 1))
    have hw := pw10 hp.1
    have hl2 := layN_lt B (plc i) n
    have e0 : fX12_heap_J53 F (fun x2 x3 => fX12_heap_L18 F v (nI k) (fun y3 => some y3) m x2 x3) (nI k) (nI (fb_sm (fun c => if fld c = k then popF 30 (layN B (plc c) n) else 0) i)) (nI i) v = fX12_heap_L18 F v (nI k) (fun y3 => some y3) m (nI (fb_sm (fun c => if fld c = k then popF 30 (layN B (plc c) n) else 0) i)) (nI (i + 1)) := by
      unfold fX12_heap_J53 fX12_heap_J54 fX12_heap_J74
      rw [if_pos rfl, Int32.add_zero, nI_1]
    have hf := fld_I i hi k hk
    rw [fX12_heap_L18, nb_s, if_neg (show ¬ (256 : Int32) ≤ nI i from nI_ge (b := 256) hi (by decide)), fb_sm_succ _ i]
    by_cases e : fld i = k
    · obtain ⟨f1, f2⟩ := hf.mpr e
      rw [if_neg (fun z => z f1), if_neg (fun z => z f2), if_pos e]
      unfold fX12_heap_J54 fX12_heap_J74
      rw [if_neg (by decide), r_layers hp hm (by omega) hi, bd_s, r_ones (by omega) (by omega), bd_s, nI_add, nI_1]
    · rw [if_neg e, Nat.add_zero]
      by_cases f1 : ((nI i - nI i / (16 : Int32) * (16 : Int32)) / (4 : Int32)) = (nI k - nI k / (4 : Int32) * (4 : Int32))
      · rw [if_neg (fun z => z f1), if_pos (fun z => e (hf.mp ⟨f1, z⟩)), e0]
      · rw [if_pos f1, e0]
  · show fX12_heap_L18 F v (nI k) (fun y3 => some y3) (m + 1) (nI (fb_sm (fun c => if fld c = k then popF 30 (layN B (plc c) n) else 0) 256)) (nI 256) = _
    rw [fX12_heap_L18, nb_s, if_pos (by decide)]
theorem t_heap : st_heap (Rel PP WP) := by
  intro u v x1 hR
  obtain ⟨n, K, C, T, H, B, S, hOK, hP, hC, hM, hRest⟩ := id hR
  have ei : fX12_in x1.toInt64 (0 : Int64) (15 : Int64) = fX11_within x1 0 (nI 15) := r_inw x1 0 15
  rcases w0 x1 15 (by decide) with h | ⟨h, k, hk, rfl⟩
  · refine ⟨0, -1, ?_, ?_, hR⟩
    · unfold fX11_heap; rw [show (15 : Int32) = nI 15 from rfl, h]; rfl
    · unfold fX12_heap; rw [ei, h]; rfl
  · refine ⟨300, nI (fb_sm (fun c => if fld c = k then popF 30 (layN B (plc c) n) else 0) 256), ?_, ?_, hR⟩
    · have e1 : (nI k - nI k / (4 : Int32) * (4 : Int32)) * (4 : Int32) = nI (4 * (k % 4)) := (by decide +kernel : ∀ k, k < 16 → (nI k - nI k / (4 : Int32) * (4 : Int32)) * (4 : Int32) = nI (4 * (k % 4))) k (by omega)
      have e2 : (nI k / (4 : Int32)) * (4 : Int32) = nI (4 * (k / 4)) := (by decide +kernel : ∀ k, k < 16 → (nI k / (4 : Int32)) * (4 : Int32) = nI (4 * (k / 4))) k (by omega)
      unfold fX11_heap; rw [show (15 : Int32) = nI 15 from rfl, h, bd_s, if_pos (by decide), nm_s, nm_s, e1, e2, c_heap hP hC (by decide) (by omega) (by omega), sum_fld (fun c => popF 30 (layN B (plc c) n)) (by omega)]
    · unfold fX12_heap; rw [ei, h, bd_s, if_pos (by decide), r_heap hP hM (by decide) (by omega)]
end PHOTO
