/-! cell, count, unlike, photo, heap -/
theorem sm4 (f : Nat → Nat) : fb_sm f 4 = f 0 + f 1 + f 2 + f 3 := by
  simp [fb_sm]
theorem ind1 (p : Prop) [Decidable p] : (if p then 1 else 0 : Nat) ≤ 1 := by split <;> omega
section CELLS
variable {PP : PPT} {WP : WPT}
variable {σ v : Nat → Nat → Int32} {sh : Nat → Option Nat} {Z : ZT} {n : Nat} {K C T H : Nat → Nat} {B : Nat → Nat → Bool} {F : Nat}
theorem c_ctIn (hp : PicOK n K C T H) (hc : CVs σ sh Z n K C T H B) (hF : 300 ≤ F) {k p : Nat} (hk : k ≤ 9) (hpp : p < 64) (a : Nat) (kx : Int32 → Option Int32) : fX4_cellsThatLook_L13 F sh Z σ (nI k) (nI p) kx F (nI a) 0 = kx (nI (a + fb_sm (fun q => if lookN K C T B p q n = k then 1 else 0) 4)) := by
  refine lp_up (fun m (z : Int32 × Int32) => fX4_cellsThatLook_L13 F sh Z σ (nI k) (nI p) kx m z.1 z.2) (fun i => (nI (a + fb_sm (fun q => if lookN K C T B p q n = k then 1 else 0) i), nI i)) _ 4 (fun m i hi => ?_) (fun m => ?_) F 0 (Nat.zero_le _) (by omega)
  · show fX4_cellsThatLook_L13 F sh Z σ (nI k) (nI p) kx (m + 1) (nI (a + fb_sm (fun q => if lookN K C T B p q n = k then 1 else 0) i)) (nI i) = fX4_cellsThatLook_L13 F sh Z σ (nI k) (nI p) kx m (nI (a + fb_sm (fun q => if lookN K C T B p q n = k then 1 else 0) (i + 1))) (nI (i + 1))
    have hl := lookN_le (B := B) hp p i n (Nat.le_refl n)
    rw [fX4_cellsThatLook_L13, nb_s, if_neg (show ¬ (4 : Int32) ≤ nI i from nI_ge (b := 4) hi (by decide)), c_look hp hc (by omega) hpp hi, bd_s, fb_sm_succ]
    unfold fX4_cellsThatLook_J33
    by_cases e : lookN K C T B p i n = k
    · rw [if_neg (fun z => z (by rw [e])), if_pos e, nI_1, nI_1]; rfl
    · rw [if_pos (fun z => e ((nI_eq (by omega) (by omega)).mp z)), if_neg e, nI_1]; rfl
  · show fX4_cellsThatLook_L13 F sh Z σ (nI k) (nI p) kx (m + 1) (nI (a + fb_sm (fun q => if lookN K C T B p q n = k then 1 else 0) 4)) (nI 4) = _
    rw [fX4_cellsThatLook_L13, nb_s, if_pos (by decide)]
theorem c_ct (hp : PicOK n K C T H) (hc : CVs σ sh Z n K C T H B) (hF : 300 ≤ F) {k : Nat} (hk : k ≤ 9) : fX4_cellsThatLook F sh Z σ (nI k) = some (nI (fb_sm (fun p => fb_sm (fun q => if lookN K C T B p q n = k then 1 else 0) 4) 64)) := by
  refine lp_up (fun m (z : Int32 × Int32) => fX4_cellsThatLook_L4 F sh Z σ (nI k) (fun y1 => some y1) m z.1 z.2) (fun i => (nI (fb_sm (fun p => fb_sm (fun q => if lookN K C T B p q n = k then 1 else 0) 4) i), nI i)) _ 64 (fun m i hi => ?_) (fun m => ?_) F 0 (Nat.zero_le _) (by omega)
  · show fX4_cellsThatLook_L4 F sh Z σ (nI k) (fun y1 => some y1) (m + 1) (nI (fb_sm (fun p => fb_sm (fun q => if lookN K C T B p q n = k then 1 else 0) 4) i)) (nI i) = fX4_cellsThatLook_L4 F sh Z σ (nI k) (fun y1 => some y1) m (nI (fb_sm (fun p => fb_sm (fun q => if lookN K C T B p q n = k then 1 else 0) 4) (i + 1))) (nI (i + 1))
    rw [fX4_cellsThatLook_L4, nb_s, if_neg (show ¬ (64 : Int32) ≤ nI i from nI_ge (b := 64) hi (by decide)), c_ctIn hp hc hF hk hi, nI_1, fb_sm_succ _ i]
  · show fX4_cellsThatLook_L4 F sh Z σ (nI k) (fun y1 => some y1) (m + 1) (nI (fb_sm (fun p => fb_sm (fun q => if lookN K C T B p q n = k then 1 else 0) 4) 64)) (nI 64) = _
    rw [fX4_cellsThatLook_L4, nb_s, if_pos (by decide)]
theorem r_ct (hp : PicOK n K C T H) (hm : MVs v n K C T H B) (hF : 300 ≤ F) {k : Nat} (hk : k ≤ 9) : fX12_count_L18 F v (nI k) (fun y3 => some y3) F 0 0 = some (nI (fb_sm (fun c => if lookN K C T B (plc c) (qrt c) n = k then 1 else 0) 256)) := by
  refine lp_up (fun m (z : Int32 × Int32) => fX12_count_L18 F v (nI k) (fun y3 => some y3) m z.1 z.2) (fun i => (nI (fb_sm (fun c => if lookN K C T B (plc c) (qrt c) n = k then 1 else 0) i), nI i)) _ 256 (fun m i hi => ?_) (fun m => ?_) F 0 (Nat.zero_le _) (by omega)
  · show fX12_count_L18 F v (nI k) (fun y3 => some y3) (m + 1) (nI (fb_sm (fun c => if lookN K C T B (plc c) (qrt c) n = k then 1 else 0) i)) (nI i) = fX12_count_L18 F v (nI k) (fun y3 => some y3) m (nI (fb_sm (fun c => if lookN K C T B (plc c) (qrt c) n = k then 1 else 0) (i + 1))) (nI (i + 1))
    have hl := lookN_le (B := B) hp (plc i) (qrt i) n (Nat.le_refl n)
    rw [fX12_count_L18, nb_s, if_neg (show ¬ (256 : Int32) ≤ nI i from nI_ge (b := 256) hi (by decide)), r_look hp hm (by omega) hi, bd_s, fb_sm_succ]
    unfold fX12_count_J40
    by_cases e : lookN K C T B (plc i) (qrt i) n = k
    · rw [if_neg (fun z => z (by rw [e])), if_pos e, nI_1, nI_1]
    · rw [if_pos (fun z => e ((nI_eq (by omega) (by omega)).mp z)), if_neg e, nI_1, show (0 : Int32) = nI 0 from rfl, nI_add]
  · show fX12_count_L18 F v (nI k) (fun y3 => some y3) (m + 1) (nI (fb_sm (fun c => if lookN K C T B (plc c) (qrt c) n = k then 1 else 0) 256)) (nI 256) = _
    rw [fX12_count_L18, nb_s, if_pos (by decide)]
theorem t_count : st_count (Rel PP WP) := by
  intro u v x1 hR
  obtain ⟨n, K, C, T, H, B, S, hOK, hP, hC, hM, hRest⟩ := id hR
  have ei : fX12_in x1.toInt64 (0 : Int64) (9 : Int64) = fX11_within x1 0 (nI 9) := r_inw x1 0 9
  rcases w0 x1 9 (by decide) with h | ⟨h, k, hk, rfl⟩
  · refine ⟨0, -1, ?_, ?_, hR⟩
    · unfold fX11_count; rw [show (9 : Int32) = nI 9 from rfl, h]; rfl
    · unfold fX12_count; rw [ei, h]; rfl
  · refine ⟨300, nI (fb_sm (fun c => if lookN K C T B (plc c) (qrt c) n = k then 1 else 0) 256), ?_, ?_, hR⟩
    · unfold fX11_count; rw [show (9 : Int32) = nI 9 from rfl, h, bd_s, if_neg (by decide), c_ct hP hC (by decide) hk, bd_s, sum_cells (fun p q => if lookN K C T B p q n = k then 1 else 0)]
      congr 3
      funext p
      rw [sm4]
    · unfold fX12_count; rw [ei, h, bd_s, if_pos (by decide), r_ct hP hM (by decide) hk]
theorem t_cell : st_cell (Rel PP WP) := by
  intro u v x1 x2 x3 hR
  obtain ⟨n, K, C, T, H, B, S, hOK, hP, hC, hM, hRest⟩ := id hR
  have ei : fX12_in x3.toInt64 (0 : Int64) (2 : Int64) = fX11_within x3 0 (nI 2) := r_inw x3 0 2
  rcases isC x1 x2 with h | ⟨h, a, b, ha, hb, rfl, rfl⟩
  · refine ⟨0, -1, ?_, ?_, hR⟩
    · unfold fX11_cell; rw [h]; rfl
    · unfold fX12_cell; rw [rc_cell, h]; rfl
  · have hc : 16 * b + a < 256 := by omega
    obtain ⟨p1, p2, p3⟩ := cel_c (16 * b + a) hc
    have hl := layN_lt B (plc (16 * b + a)) n
    have hw := pw10 hP.1
    have ec : fX11_cell 300 u.2.1 u.2.2.2 u.1 (nI a) (nI b) x3 = (if x3 = (0 : Int32) then some (nI (lookN K C T B (plc (16 * b + a)) (qrt (16 * b + a)) n)) else if x3 = (1 : Int32) then some (nI (popF 30 (layN B (plc (16 * b + a)) n))) else if x3 = (2 : Int32) then some (nI (layN B (plc (16 * b + a)) n)) else some (-1)) := by
      unfold fX11_cell
      rw [h, bd_s, if_pos (by decide), c_place 300 (by decide) a ha b hb, bd_s, c_quarter a ha b hb, bd_s, c_look hP hC (by decide) p1 p2, bd_s, c_layers hP hC (by decide) p1, bd_s, c_pop32 (by omega), bd_s, bd_s]
    have er : fX12_cell 300 v (nI a) (nI b) x3 = (if x3 = (0 : Int32) then some (nI (lookN K C T B (plc (16 * b + a)) (qrt (16 * b + a)) n)) else if x3 = (1 : Int32) then some (nI (popF 30 (layN B (plc (16 * b + a)) n))) else if x3 = (2 : Int32) then some (nI (layN B (plc (16 * b + a)) n)) else some (-1)) := by
      unfold fX12_cell
      rw [rc_cell, h, bd_s, if_neg (by decide), ei, ix16, r_look hP hM (by decide) hc, r_layers hP hM (by decide) hc, bd_s, bd_s, bd_s, r_ones (by decide) (by omega), bd_s]
      rcases w0 x3 2 (by decide) with g | ⟨g, k, hk, rfl⟩
      · rw [g, bd_s, if_neg (by decide)]
        have n0 : ¬ x3 = 0 := fun z => by rw [z] at g; exact absurd g (by decide)
        have n1 : ¬ x3 = 1 := fun z => by rw [z] at g; exact absurd g (by decide)
        have n2 : ¬ x3 = 2 := fun z => by rw [z] at g; exact absurd g (by decide)
        rw [if_neg n0, if_neg n1, if_neg n2]
      · rw [g, bd_s, if_pos (by decide)]
        rcases (by omega : k = 0 ∨ k = 1 ∨ k = 2) with rfl | rfl | rfl <;> rfl
    have : ∃ r, (if x3 = (0 : Int32) then some (nI (lookN K C T B (plc (16 * b + a)) (qrt (16 * b + a)) n)) else if x3 = (1 : Int32) then some (nI (popF 30 (layN B (plc (16 * b + a)) n))) else if x3 = (2 : Int32) then some (nI (layN B (plc (16 * b + a)) n)) else some (-1)) = some r := by
      repeat' split
      all_goals exact ⟨_, rfl⟩
    obtain ⟨r, hr⟩ := this
    exact ⟨300, r, ec.trans hr, er.trans hr, hR⟩
theorem c_ulIn (hp : PicOK n K C T H) (hc : CVs σ sh Z n K C T H B) (hF : 300 ≤ F) {p : Nat} (hpp : p < 64) (a : Nat) (kx : Int32 → Option Int32) : fX4_cellsUnlikeQuarterNought_L20 F sh Z σ (nI p) (nI (lookN K C T B p 0 n)) kx F (nI a) 1 = kx (nI (a + fb_sm (fun q => if lookN K C T B p q n = lookN K C T B p 0 n then 0 else 1) 4)) := by
  refine Eq.trans ?_ (lp_up (fun m (z : Int32 × Int32) => fX4_cellsUnlikeQuarterNought_L20 F sh Z σ (nI p) (nI (lookN K C T B p 0 n)) kx m z.1 z.2) (fun i => (nI (a + fb_sm (fun q => if lookN K C T B p q n = lookN K C T B p 0 n then 0 else 1) (i + 1)), nI (i + 1))) _ 3 (fun m i hi => ?_) (fun m => ?_) F 0 (Nat.zero_le _) (by omega))
  · show fX4_cellsUnlikeQuarterNought_L20 F sh Z σ (nI p) (nI (lookN K C T B p 0 n)) kx F (nI a) 1 = fX4_cellsUnlikeQuarterNought_L20 F sh Z σ (nI p) (nI (lookN K C T B p 0 n)) kx F (nI (a + fb_sm (fun q => if lookN K C T B p q n = lookN K C T B p 0 n then 0 else 1) 1)) (nI 1)
    rw [fb_sm_succ, if_pos rfl]; rfl
  · show fX4_cellsUnlikeQuarterNought_L20 F sh Z σ (nI p) (nI (lookN K C T B p 0 n)) kx (m + 1) (nI (a + fb_sm (fun q => if lookN K C T B p q n = lookN K C T B p 0 n then 0 else 1) (i + 1))) (nI (i + 1)) = fX4_cellsUnlikeQuarterNought_L20 F sh Z σ (nI p) (nI (lookN K C T B p 0 n)) kx m (nI (a + fb_sm (fun q => if lookN K C T B p q n = lookN K C T B p 0 n then 0 else 1) (i + 1 + 1))) (nI (i + 1 + 1))
    have hl := lookN_le (B := B) hp p (i + 1) n (Nat.le_refl n)
    have hl0 := lookN_le (B := B) hp p 0 n (Nat.le_refl n)
    rw [fX4_cellsUnlikeQuarterNought_L20, nb_s, if_neg (show ¬ (4 : Int32) ≤ nI (i + 1) from nI_ge (b := 4) (by omega) (by decide)), c_look hp hc (by omega) hpp (by omega), bd_s, fb_sm_succ _ (i + 1)]
    unfold fX4_cellsUnlikeQuarterNought_J40
    by_cases e : lookN K C T B p (i + 1) n = lookN K C T B p 0 n
    · rw [if_pos (by rw [e]), if_pos e, nI_1]; rfl
    · rw [if_neg (fun z => e ((nI_eq (by omega) (by omega)).mp z)), if_neg e, nI_1, nI_1]; rfl
  · show fX4_cellsUnlikeQuarterNought_L20 F sh Z σ (nI p) (nI (lookN K C T B p 0 n)) kx (m + 1) (nI (a + fb_sm (fun q => if lookN K C T B p q n = lookN K C T B p 0 n then 0 else 1) 4)) (nI 4) = _
    rw [fX4_cellsUnlikeQuarterNought_L20, nb_s, if_pos (by decide)]
theorem c_ul (hp : PicOK n K C T H) (hc : CVs σ sh Z n K C T H B) (hF : 300 ≤ F) : fX4_cellsUnlikeQuarterNought F sh Z σ = some (nI (fb_sm (fun p => fb_sm (fun q => if lookN K C T B p q n = lookN K C T B p 0 n then 0 else 1) 4) 64)) := by
  refine lp_up (fun m (z : Int32 × Int32) => fX4_cellsUnlikeQuarterNought_L4 F sh Z σ (fun y1 => some y1) m z.1 z.2) (fun i => (nI (fb_sm (fun p => fb_sm (fun q => if lookN K C T B p q n = lookN K C T B p 0 n then 0 else 1) 4) i), nI i)) _ 64 (fun m i hi => ?_) (fun m => ?_) F 0 (Nat.zero_le _) (by omega)
  · show fX4_cellsUnlikeQuarterNought_L4 F sh Z σ (fun y1 => some y1) (m + 1) (nI (fb_sm (fun p => fb_sm (fun q => if lookN K C T B p q n = lookN K C T B p 0 n then 0 else 1) 4) i)) (nI i) = fX4_cellsUnlikeQuarterNought_L4 F sh Z σ (fun y1 => some y1) m (nI (fb_sm (fun p => fb_sm (fun q => if lookN K C T B p q n = lookN K C T B p 0 n then 0 else 1) 4) (i + 1))) (nI (i + 1))
    have h0 : fX4_look F sh Z σ (nI i) (0 : Int32) = some (nI (lookN K C T B i 0 n)) := c_look (k := 0) hp hc (by omega) hi (by decide)
    rw [fX4_cellsUnlikeQuarterNought_L4, nb_s, if_neg (show ¬ (64 : Int32) ≤ nI i from nI_ge (b := 64) hi (by decide)), h0, bd_s, c_ulIn hp hc hF hi, nI_1, fb_sm_succ _ i]
  · show fX4_cellsUnlikeQuarterNought_L4 F sh Z σ (fun y1 => some y1) (m + 1) (nI (fb_sm (fun p => fb_sm (fun q => if lookN K C T B p q n = lookN K C T B p 0 n then 0 else 1) 4) 64)) (nI 64) = _
    rw [fX4_cellsUnlikeQuarterNought_L4, nb_s, if_pos (by decide)]
theorem r_ul (hp : PicOK n K C T H) (hm : MVs v n K C T H B) (hF : 300 ≤ F) : fX12_unlike F v = some (nI (fb_sm (fun c => if lookN K C T B (plc c) (qrt c) n = lookN K C T B (plc c) 0 n then 0 else 1) 256)) := by
  refine lp_up (fun m (z : Int32 × Int32) => fX12_unlike_L4 F v (fun y1 => some y1) m z.1 z.2) (fun i => (nI (fb_sm (fun c => if lookN K C T B (plc c) (qrt c) n = lookN K C T B (plc c) 0 n then 0 else 1) i), nI i)) _ 256 (fun m i hi => ?_) (fun m => ?_) F 0 (Nat.zero_le _) (by omega)
  · show fX12_unlike_L4 F v (fun y1 => some y1) (m + 1) (nI (fb_sm (fun c => if lookN K C T B (plc c) (qrt c) n = lookN K C T B (plc c) 0 n then 0 else 1) i)) (nI i) = fX12_unlike_L4 F v (fun y1 => some y1) m (nI (fb_sm (fun c => if lookN K C T B (plc c) (qrt c) n = lookN K C T B (plc c) 0 n then 0 else 1) (i + 1))) (nI (i + 1))
    have hl := lookN_le (B := B) hp (plc i) (qrt i) n (Nat.le_refl n)
    have hl0 := lookN_le (B := B) hp (plc i) 0 n (Nat.le_refl n)
    obtain ⟨k1, k2, k3⟩ := cel_p (plc i) (cel_c i hi).1 0 (by decide)
    have h0 := r_look (c := cel (plc i) 0) hp hm (show 40 ≤ F by omega) k1
    rw [k2, k3] at h0
    rw [fX12_unlike_L4, nb_s, if_neg (show ¬ (256 : Int32) ≤ nI i from nI_ge (b := 256) hi (by decide)), r_look hp hm (by omega) hi, bd_s, r_place F (by omega) i hi, bd_s, h0, bd_s, fb_sm_succ]
    unfold fX12_unlike_J33
    by_cases e : lookN K C T B (plc i) (qrt i) n = lookN K C T B (plc i) 0 n
    · rw [if_neg (fun z => z (by rw [e])), if_pos e, nI_1, show (0 : Int32) = nI 0 from rfl, nI_add]
    · rw [if_pos (fun z => e ((nI_eq (by omega) (by omega)).mp z)), if_neg e, nI_1, nI_1]
  · show fX12_unlike_L4 F v (fun y1 => some y1) (m + 1) (nI (fb_sm (fun c => if lookN K C T B (plc c) (qrt c) n = lookN K C T B (plc c) 0 n then 0 else 1) 256)) (nI 256) = _
    rw [fX12_unlike_L4, nb_s, if_pos (by decide)]
theorem t_unlike : st_unlike (Rel PP WP) := by
  intro u v hR
  obtain ⟨n, K, C, T, H, B, S, hOK, hP, hC, hM, hRest⟩ := id hR
  refine ⟨300, nI (fb_sm (fun c => if lookN K C T B (plc c) (qrt c) n = lookN K C T B (plc c) 0 n then 0 else 1) 256), ?_, r_ul hP hM (by decide), hR⟩
  unfold fX11_unlike; rw [c_ul hP hC (by decide), bd_s, sum_cells (fun p q => if lookN K C T B p q n = lookN K C T B p 0 n then 0 else 1)]
  congr 3
  funext p
  rw [sm4]
end CELLS
