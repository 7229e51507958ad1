/-! sheets -/
theorem sg_same (σ : Nat → Nat → Int32) (k : Nat) : sg σ k (σ k) = σ := by
  funext j
  unfold sg
  cases h : Nat.beq j k with
  | false => rfl
  | true => rw [Nat.eq_of_beq_eq_true h]; rfl
theorem sg_at (σ : Nat → Nat → Int32) (k : Nat) (g : Nat → Int32) : sg σ k g k = g := by
  unfold sg; rw [Nat.beq_refl]; rfl
theorem sg_sg (σ : Nat → Nat → Int32) (k : Nat) (f g : Nat → Int32) : sg (sg σ k f) k g = sg σ k g := by
  funext j
  unfold sg
  cases h : Nat.beq j k <;> rfl
theorem nI_nm1 {l : Nat} (h : l < 2 ^ 31) : ¬ nI l = -1 := fun q => nI_pos h (by rw [q]; decide)
theorem RSht.out {la ln : Int32} {it : Nat → Int32} {ml mn : Int32} {mi mi' : Nat → Int32} (h : RSht la ln it ml mn mi) (e : ∀ k, k < 256 → mi' k = mi k) : RSht la ln it ml mn mi' := by
  rcases h with h | ⟨l, n, h1, h2, h3, h4, h5, h6, h7⟩
  · exact Or.inl h
  · exact Or.inr ⟨l, n, h1, h2, h3, h4, h5, h6, fun k hk => by rw [e k (by omega)]; exact h7 k hk⟩
theorem c_begin {F : Nat} {sh : Nat → Option Nat} {Z : ZT} (KI KL KN : Nat) (kx : (Nat → Nat → Int32) → Option (Nat → Nat → Int32)) (σ : Nat → Nat → Int32) (m : Nat) (hm : m ≤ 256) (hF : 300 ≤ F) : fX7_begin_L12 KI KL KN F sh Z (nI m) kx F 0 σ = kx (sg σ KI (fa_fill (fun _ => 0) (σ KI) m)) := by
  have := lp_up (fun q (s : Int32 × (Nat → Nat → Int32)) => fX7_begin_L12 KI KL KN F sh Z (nI m) kx q s.1 s.2) (fun i => (nI i, sg σ KI (fa_fill (fun _ => 0) (σ KI) i))) (kx (sg σ KI (fa_fill (fun _ => 0) (σ KI) m))) m (fun q i hi => ?_) (fun q => ?_) F 0 (Nat.zero_le _) (by omega)
  · dsimp only at this
    rw [fa_fill_0, sg_same] at this
    exact this
  · show fX7_begin_L12 KI KL KN F sh Z (nI m) kx (q + 1) (nI i) (sg σ KI (fa_fill (fun _ => 0) (σ KI) i)) = fX7_begin_L12 KI KL KN F sh Z (nI m) kx q (nI (i + 1)) (sg σ KI (fa_fill (fun _ => 0) (σ KI) (i + 1)))
    rw [fX7_begin_L12, nb_s, if_neg (nI_ge hi (by omega)), aS_n (by omega) (by decide), nm_s, sg_at, nI_clamp (by omega), sg_sg, nI_succ, ← fa_fill_succ]
  · show fX7_begin_L12 KI KL KN F sh Z (nI m) kx (q + 1) (nI m) (sg σ KI (fa_fill (fun _ => 0) (σ KI) m)) = _
    rw [fX7_begin_L12, nb_s, if_pos (nI_le (Nat.le_refl m) (by omega))]
theorem r_begin {F : Nat} (j : Nat) (hj : j < 4) (x3 : Int32) (kx : (Nat → Nat → Int32) → Option (Int32 × (Nat → Nat → Int32))) (σ : Nat → Nat → Int32) (hF : 300 ≤ F) : fX12_sheet_L41 F (nI j) x3 kx F 0 σ = kx (sg σ 26 (fb_put (σ 26) (fun _ => 0) (256 * j) 256)) := by
  have := lp_up (fun q (s : Int32 × (Nat → Nat → Int32)) => fX12_sheet_L41 F (nI j) x3 kx q s.1 s.2) (fun i => (nI i, sg σ 26 (fb_put (σ 26) (fun _ => 0) (256 * j) i))) (kx (sg σ 26 (fb_put (σ 26) (fun _ => 0) (256 * j) 256))) 256 (fun q i hi => ?_) (fun q => ?_) F 0 (Nat.zero_le _) (by omega)
  · dsimp only at this
    rw [fb_put_0, sg_same] at this
    exact this
  · show fX12_sheet_L41 F (nI j) x3 kx (q + 1) (nI i) (sg σ 26 (fb_put (σ 26) (fun _ => 0) (256 * j) i)) = fX12_sheet_L41 F (nI j) x3 kx q (nI (i + 1)) (sg σ 26 (fb_put (σ 26) (fun _ => 0) (256 * j) (i + 1)))
    rw [fX12_sheet_L41, nb_s, if_neg (show ¬ (256 : Int32) ≤ nI i from nI_ge (b := 256) hi (by decide)), r_ix, aS_n (by omega) (by decide), nm_s, sg_at, nI_clamp (by omega), sg_sg, nI_succ, ← fb_put_succ]
  · show fX12_sheet_L41 F (nI j) x3 kx (q + 1) (nI 256) (sg σ 26 (fb_put (σ 26) (fun _ => 0) (256 * j) 256)) = _
    rw [fX12_sheet_L41, nb_s, if_pos (show (256 : Int32) ≤ nI 256 from nI_le (a := 256) (Nat.le_refl _) (by decide))]
theorem rc_sheet (x y : Int32) : fX12_isSheet x y = fX11_isSheetAndLane x y := by
  unfold fX12_isSheet fX11_isSheetAndLane
  rw [show (0 : Int64) = (0 : Int32).toInt64 from rfl, show (3 : Int64) = (3 : Int32).toInt64 from rfl, show (2 : Int64) = (2 : Int32).toInt64 from rfl, r_inw, r_inw]
theorem isS (x y : Int32) : fX11_isSheetAndLane x y = some 0 ∨ (fX11_isSheetAndLane x y = some 1 ∧ ∃ a b, a < 4 ∧ b ≤ 2 ∧ x = nI a ∧ y = nI b) := by
  unfold fX11_isSheetAndLane
  rcases w0 x 3 (by decide) with h | ⟨h, a, ha, rfl⟩
  · left; rw [show (3 : Int32) = nI 3 from rfl, h]; rfl
  · rcases w0 y 2 (by decide) with h2 | ⟨h2, b, hb, rfl⟩
    · left; rw [show (3 : Int32) = nI 3 from rfl, show (2 : Int32) = nI 2 from rfl, h, bd_s, if_neg (by decide), h2]; rfl
    · right
      refine ⟨?_, a, b, by omega, by omega, rfl, rfl⟩
      rw [show (3 : Int32) = nI 3 from rfl, show (2 : Int32) = nI 2 from rfl, h, bd_s, if_neg (by decide), h2]; rfl
theorem isCs (x y : Int32) : (fX12_isCells x y = some 0 ∧ fX11_areCells x y = some 0) ∨ (fX12_isCells x y = some 1 ∧ fX11_areCells x y = some 1 ∧ ∃ c m, c + m ≤ 256 ∧ x = nI c ∧ y = nI m) := by
  unfold fX12_isCells fX11_areCells
  rw [show (0 : Int64) = (0 : Int32).toInt64 from rfl, show (256 : Int64) = (256 : Int32).toInt64 from rfl, r_inw, r_inw, show (256 : Int32) = nI 256 from rfl]
  rcases w0 y 256 (by decide) with h | ⟨h, m, hm, rfl⟩
  · left
    refine ⟨by rw [h]; rfl, ?_⟩
    rcases w0 x 256 (by decide) with g | ⟨g, c, hc, rfl⟩
    · rw [g]; rfl
    · rw [g, bd_s, if_neg (by decide), pk_sub hc]
      rcases w0 y (256 - c) (by omega) with f | ⟨f, m, hm, rfl⟩
      · rw [f]; rfl
      · rw [c_within, decide_eq_true ⟨nI_pos' (by omega), nI_le (by omega) (by decide)⟩] at h
        cases h
  · rw [h, bd_s, if_neg (by decide), pk_sub hm]
    rcases w0 x (256 - m) (by omega) with g | ⟨g, c, hc, rfl⟩
    · left
      refine ⟨by rw [g]; rfl, ?_⟩
      rcases w0 x 256 (by decide) with f | ⟨f, c, hc, rfl⟩
      · rw [f]; rfl
      · rw [f, bd_s, if_neg (by decide), pk_sub hc]
        rcases w0 (nI m) (256 - c) (by omega) with f2 | ⟨f2, k, hk, ek⟩
        · rw [f2]; rfl
        · have e := (nI_eq (a := m) (b := k) (by omega) (by omega)).mp ek
          rw [c_within, decide_eq_true ⟨nI_pos' (by omega), nI_le (by omega) (by omega)⟩] at g
          cases g
    · right
      refine ⟨by rw [g]; rfl, ?_, c, m, by omega, rfl, rfl⟩
      rw [c_within, decide_eq_true ⟨nI_pos' (by omega), nI_le (by omega) (by decide)⟩]
      show bd (some 1) _ = _
      rw [bd_s, if_neg (by decide), pk_sub (by omega), c_within, decide_eq_true ⟨nI_pos' (by omega), nI_le (by omega) (by omega)⟩]
      rfl
theorem refu {KI KL KN j l m : Nat} {σ v : Nat → Nat → Int32} {sh : Nat → Option Nat} {Z : ZT} {mi : Nat → Int32} {x3 : Int32} (h : RSht (σ KL 0) (σ KN 0) (σ KI) (v 24 j) (v 25 j) mi) (hl : l ≤ 2) (hm : m ≤ 256) (hj : j < 4) : ∃ r, fX7_refusal KI KL KN sh Z σ (nI l) x3 (nI m) = some r ∧ fX12_against v (nI j) (nI l) x3 (nI m) = some r ∧ ((¬ 0 ≤ r ∧ ¬ r = 0) ∨ (r = 0 ∧ ∃ f k, σ KL 0 = nI l ∧ v 24 j = nI l ∧ x3 = nI f ∧ f + m ≤ k ∧ k ≤ 256 ∧ σ KN 0 = nI k ∧ v 25 j = nI k ∧ ∀ i, i < k → σ KI i = mi i)) := by
  unfold fX7_refusal fX7_isMissing fX12_against
  rw [aI_n hj (by decide)]
  rcases h with ⟨h1, h2⟩ | ⟨l2, k, h1, h2, h3, h4, h5, h6, h7⟩
  · refine ⟨-11, ?_, ?_, Or.inl (by decide)⟩
    · rw [h1]; rfl
    · rw [h2, if_neg (fun q => nI_nm1 (by omega) q.symm), aI_n hj (by decide), h2]; rfl
  · rw [h3, h4, if_pos (nI_nm1 (by omega)), bd_s, if_pos rfl]
    by_cases e : l2 = l
    · subst e
      rw [if_pos rfl, if_pos rfl, aI_n hj (by decide), h5, h6]
      rw [show (0 : Int64) = (0 : Int32).toInt64 from rfl, r_inw]
      by_cases g : x3 < 0
      · refine ⟨-13, by rw [if_pos g], ?_, Or.inl (by decide)⟩
        unfold fX11_within
        rw [if_pos g]; rfl
      · rw [if_neg g]
        by_cases g2 : x3 ≤ nI k - nI m
        · refine ⟨0, by rw [if_pos g2], ?_, Or.inr ⟨rfl, ?_⟩⟩
          · unfold fX11_within
            rw [if_neg g, if_neg (fun q => by have := (fa_lt _ _).mp q; have := (fa_le _ _).mp g2; omega)]; rfl
          · obtain ⟨f, hf, rfl⟩ := nI_of g
            have g3 := (fa_le _ _).mp g2
            rw [pk_sub_toInt (by omega) (by omega), nI_toInt hf] at g3
            exact ⟨f, k, rfl, rfl, rfl, by omega, h2, rfl, rfl, h7⟩
        · refine ⟨-13, by rw [if_neg g2], ?_, Or.inl (by decide)⟩
          unfold fX11_within
          rw [if_neg g, if_pos ((fa_lt _ _).mpr (by have := mt (fa_le _ _).mpr g2; omega))]; rfl
    · have en : ¬ nI l2 = nI l := fun q => e ((nI_eq (by omega) (by omega)).mp q)
      refine ⟨-12, by rw [if_neg en], ?_, Or.inl (by decide)⟩
      rw [if_neg en, aI_n hj (by decide), h4, if_pos (nI_pos' (by omega))]
theorem sx8 (x : Int32) : (x <<< ((24 : Int32) &&& 31)) >>> ((24 : Int32) &&& 31) = x.toInt8.toInt32 := by
  apply b_ext
  intro i hi
  have e := b_sshr 24 (by decide) (x <<< ((24 : Int32) &&& 31)) hi
  have e8 : bt (x.toInt8.toInt32) i = if i < 8 then bt x i else bt x 7 := by
    show (((x.toBitVec).signExtend 8).signExtend 32).getLsbD i = _
    rw [BitVec.getLsbD_signExtend]
    simp only [hi, decide_true, Bool.true_and]
    by_cases h : i < 8
    · rw [if_pos h, if_pos h, BitVec.getLsbD_signExtend]
      simp [h, bt]; omega
    · rw [if_neg h, if_neg h, BitVec.msb_eq_getLsbD_last, BitVec.getLsbD_signExtend]
      simp [bt]
  rw [e8]
  refine Eq.trans e ?_
  by_cases h : i < 8
  · rw [if_pos (by omega), if_pos h, b_shl24 x (by omega)]
    simp [show 24 + i - 24 = i by omega]
  · rw [if_neg (by omega), if_neg h, b_shl24 x (by omega)]
    simp
theorem sx16 (x : Int32) : (x <<< ((16 : Int32) &&& 31)) >>> ((16 : Int32) &&& 31) = x.toInt16.toInt32 := by
  apply b_ext
  intro i hi
  have e := b_sshr 16 (by decide) (x <<< ((16 : Int32) &&& 31)) hi
  have e8 : bt (x.toInt16.toInt32) i = if i < 16 then bt x i else bt x 15 := by
    show (((x.toBitVec).signExtend 16).signExtend 32).getLsbD i = _
    rw [BitVec.getLsbD_signExtend]
    simp only [hi, decide_true, Bool.true_and]
    by_cases h : i < 16
    · rw [if_pos h, if_pos h, BitVec.getLsbD_signExtend]
      simp [h, bt]; omega
    · rw [if_neg h, if_neg h, BitVec.msb_eq_getLsbD_last, BitVec.getLsbD_signExtend]
      simp [bt]
  rw [e8]
  refine Eq.trans e ?_
  by_cases h : i < 16
  · rw [if_pos (by omega), if_pos h, b_shl16 x (by omega)]
    simp [show 16 + i - 16 = i by omega]
  · rw [if_neg (by omega), if_neg h, b_shl16 x (by omega)]
    simp
/-- an item as a lane cuts it -/
def cut (l : Nat) (x : Int32) : Int32 := if l = 0 then x.toInt8.toInt32 else if l = 1 then x.toInt16.toInt32 else x
theorem c_write {KI KL KN l f : Nat} {σ : Nat → Nat → Int32} {sh : Nat → Option Nat} {Z : ZT} (hl : l ≤ 2) (h : σ KL 0 = nI l) (hf : f < 256) (x : Int32) : fX7_write KI KL KN sh Z σ (nI f) x = some (sg σ KI (upd (σ KI) f (cut l x))) := by
  unfold fX7_write cut
  rw [h]
  match l, hl with
  | 0, _ => rw [if_neg (by decide), aS_n hf (by decide), nm_s, nI_clamp (by omega)]; rfl
  | 1, _ => rw [if_pos (by decide), if_neg (by decide), aS_n hf (by decide), nm_s, nI_clamp (by omega)]; rfl
  | 2, _ => rw [if_pos (by decide), if_pos (by decide), aS_n hf (by decide), nm_s, nI_clamp (by omega)]; rfl
theorem cut_small : ∀ l, l ≤ 2 → ∀ x : Int32, (x = -5 ∨ ∃ k, k ≤ 9 ∧ x = nI k) → cut l x = x := by
  intro l hl x h
  rcases h with rfl | ⟨k, hk, rfl⟩
  · match l, hl with
    | 0, _ => decide
    | 1, _ => decide
    | 2, _ => decide
  · exact (by decide +kernel : ∀ l, l ≤ 2 → ∀ k, k ≤ 9 → cut l (nI k) = nI k) l hl k hk

section OPS2
variable {PP : PPT} {WP : WPT}
theorem t_drop0 (u : SS) (v : Nat → Nat → Int32) (hR : Rel PP WP u v) (h : fX11_within (nI 0) 0 (nI 3) = some 1) : ∃ (F : Nat) (r : Int32) (σ2 : Nat → Nat → Int32) (v2 : Nat → Nat → Int32), fX11_drop u.2.1 u.2.2.2 u.1 (nI 0) = some (r, σ2) ∧ fX12_drop v (nI 0) = some (r, v2) ∧ Rel PP WP (σ2, u.2.1, u.2.2.1, u.2.2.2) v2 := by
  obtain ⟨n, K, C, T, H, B, S, hOK, hP, hC, hM, hS, hPl, hPh, hBr, s0, s1, s2, s3⟩ := id hR
  have ei : fX12_in (nI 0).toInt64 (0 : Int64) (3 : Int64) = fX11_within (nI 0) 0 (nI 3) := r_inw (nI 0) 0 3
  have ew : ∀ (α : Type) (k : Nat → Nat → Nat → Option α), sw4 (nI 0) k = k 29 40 44 := fun _ _ => rfl
  rcases id s0 with ⟨h1, h2⟩ | ⟨l, m, h1, h2, h3, h4, h5, h6, h7⟩
  · refine ⟨0, -11, u.1, v, ?_, ?_, hR⟩
    · unfold fX11_drop fX7_isMissing; rw [show (3 : Int32) = nI 3 from rfl, h, bd_s, if_pos (by decide), ew, h1]; rfl
    · unfold fX12_drop; rw [ei, h, bd_s, if_pos (by decide), aI_n (by decide) (by decide), h2]; rfl
  · refine ⟨0, nI m, sg (sg u.1 40 (fun _ => -1)) 44 (fun _ => 0), sg v 24 (upd (v 24) 0 (-1)), ?_, ?_, ?_⟩
    · unfold fX11_drop fX7_isMissing fX7_clearAway; rw [show (3 : Int32) = nI 3 from rfl, h, bd_s, if_pos (by decide), ew, h3, if_pos (nI_nm1 (by omega)), bd_s, if_pos rfl, ew, nm_s, nm_s, bd_s, h5]
    · unfold fX12_drop; rw [ei, h, bd_s, if_pos (by decide), aI_n (by decide) (by decide), h4, if_pos (nI_pos' (by omega)), aS_n (by decide) (by decide), nm_s, aI_n (by decide) (by decide), nI_clamp (by decide)]
      show some (v 25 0, _) = _
      rw [h6]
    · exact ⟨n, K, C, T, H, B, S, hOK, hP, hC, hM, hS, hPl, hPh, hBr, Or.inl ⟨rfl, rfl⟩, s1, s2, s3⟩
theorem t_drop1 (u : SS) (v : Nat → Nat → Int32) (hR : Rel PP WP u v) (h : fX11_within (nI 1) 0 (nI 3) = some 1) : ∃ (F : Nat) (r : Int32) (σ2 : Nat → Nat → Int32) (v2 : Nat → Nat → Int32), fX11_drop u.2.1 u.2.2.2 u.1 (nI 1) = some (r, σ2) ∧ fX12_drop v (nI 1) = some (r, v2) ∧ Rel PP WP (σ2, u.2.1, u.2.2.1, u.2.2.2) v2 := by
  obtain ⟨n, K, C, T, H, B, S, hOK, hP, hC, hM, hS, hPl, hPh, hBr, s0, s1, s2, s3⟩ := id hR
  have ei : fX12_in (nI 1).toInt64 (0 : Int64) (3 : Int64) = fX11_within (nI 1) 0 (nI 3) := r_inw (nI 1) 0 3
  have ew : ∀ (α : Type) (k : Nat → Nat → Nat → Option α), sw4 (nI 1) k = k 30 41 45 := fun _ _ => rfl
  rcases id s1 with ⟨h1, h2⟩ | ⟨l, m, h1, h2, h3, h4, h5, h6, h7⟩
  · refine ⟨0, -11, u.1, v, ?_, ?_, hR⟩
    · unfold fX11_drop fX7_isMissing; rw [show (3 : Int32) = nI 3 from rfl, h, bd_s, if_pos (by decide), ew, h1]; rfl
    · unfold fX12_drop; rw [ei, h, bd_s, if_pos (by decide), aI_n (by decide) (by decide), h2]; rfl
  · refine ⟨0, nI m, sg (sg u.1 41 (fun _ => -1)) 45 (fun _ => 0), sg v 24 (upd (v 24) 1 (-1)), ?_, ?_, ?_⟩
    · unfold fX11_drop fX7_isMissing fX7_clearAway; rw [show (3 : Int32) = nI 3 from rfl, h, bd_s, if_pos (by decide), ew, h3, if_pos (nI_nm1 (by omega)), bd_s, if_pos rfl, ew, nm_s, nm_s, bd_s, h5]
    · unfold fX12_drop; rw [ei, h, bd_s, if_pos (by decide), aI_n (by decide) (by decide), h4, if_pos (nI_pos' (by omega)), aS_n (by decide) (by decide), nm_s, aI_n (by decide) (by decide), nI_clamp (by decide)]
      show some (v 25 1, _) = _
      rw [h6]
    · exact ⟨n, K, C, T, H, B, S, hOK, hP, hC, hM, hS, hPl, hPh, hBr, s0, Or.inl ⟨rfl, rfl⟩, s2, s3⟩
theorem t_drop2 (u : SS) (v : Nat → Nat → Int32) (hR : Rel PP WP u v) (h : fX11_within (nI 2) 0 (nI 3) = some 1) : ∃ (F : Nat) (r : Int32) (σ2 : Nat → Nat → Int32) (v2 : Nat → Nat → Int32), fX11_drop u.2.1 u.2.2.2 u.1 (nI 2) = some (r, σ2) ∧ fX12_drop v (nI 2) = some (r, v2) ∧ Rel PP WP (σ2, u.2.1, u.2.2.1, u.2.2.2) v2 := by
  obtain ⟨n, K, C, T, H, B, S, hOK, hP, hC, hM, hS, hPl, hPh, hBr, s0, s1, s2, s3⟩ := id hR
  have ei : fX12_in (nI 2).toInt64 (0 : Int64) (3 : Int64) = fX11_within (nI 2) 0 (nI 3) := r_inw (nI 2) 0 3
  have ew : ∀ (α : Type) (k : Nat → Nat → Nat → Option α), sw4 (nI 2) k = k 31 42 46 := fun _ _ => rfl
  rcases id s2 with ⟨h1, h2⟩ | ⟨l, m, h1, h2, h3, h4, h5, h6, h7⟩
  · refine ⟨0, -11, u.1, v, ?_, ?_, hR⟩
    · unfold fX11_drop fX7_isMissing; rw [show (3 : Int32) = nI 3 from rfl, h, bd_s, if_pos (by decide), ew, h1]; rfl
    · unfold fX12_drop; rw [ei, h, bd_s, if_pos (by decide), aI_n (by decide) (by decide), h2]; rfl
  · refine ⟨0, nI m, sg (sg u.1 42 (fun _ => -1)) 46 (fun _ => 0), sg v 24 (upd (v 24) 2 (-1)), ?_, ?_, ?_⟩
    · unfold fX11_drop fX7_isMissing fX7_clearAway; rw [show (3 : Int32) = nI 3 from rfl, h, bd_s, if_pos (by decide), ew, h3, if_pos (nI_nm1 (by omega)), bd_s, if_pos rfl, ew, nm_s, nm_s, bd_s, h5]
    · unfold fX12_drop; rw [ei, h, bd_s, if_pos (by decide), aI_n (by decide) (by decide), h4, if_pos (nI_pos' (by omega)), aS_n (by decide) (by decide), nm_s, aI_n (by decide) (by decide), nI_clamp (by decide)]
      show some (v 25 2, _) = _
      rw [h6]
    · exact ⟨n, K, C, T, H, B, S, hOK, hP, hC, hM, hS, hPl, hPh, hBr, s0, s1, Or.inl ⟨rfl, rfl⟩, s3⟩
theorem t_drop3 (u : SS) (v : Nat → Nat → Int32) (hR : Rel PP WP u v) (h : fX11_within (nI 3) 0 (nI 3) = some 1) : ∃ (F : Nat) (r : Int32) (σ2 : Nat → Nat → Int32) (v2 : Nat → Nat → Int32), fX11_drop u.2.1 u.2.2.2 u.1 (nI 3) = some (r, σ2) ∧ fX12_drop v (nI 3) = some (r, v2) ∧ Rel PP WP (σ2, u.2.1, u.2.2.1, u.2.2.2) v2 := by
  obtain ⟨n, K, C, T, H, B, S, hOK, hP, hC, hM, hS, hPl, hPh, hBr, s0, s1, s2, s3⟩ := id hR
  have ei : fX12_in (nI 3).toInt64 (0 : Int64) (3 : Int64) = fX11_within (nI 3) 0 (nI 3) := r_inw (nI 3) 0 3
  have ew : ∀ (α : Type) (k : Nat → Nat → Nat → Option α), sw4 (nI 3) k = k 32 43 47 := fun _ _ => rfl
  rcases id s3 with ⟨h1, h2⟩ | ⟨l, m, h1, h2, h3, h4, h5, h6, h7⟩
  · refine ⟨0, -11, u.1, v, ?_, ?_, hR⟩
    · unfold fX11_drop fX7_isMissing; rw [show (3 : Int32) = nI 3 from rfl, h, bd_s, if_pos (by decide), ew, h1]; rfl
    · unfold fX12_drop; rw [ei, h, bd_s, if_pos (by decide), aI_n (by decide) (by decide), h2]; rfl
  · refine ⟨0, nI m, sg (sg u.1 43 (fun _ => -1)) 47 (fun _ => 0), sg v 24 (upd (v 24) 3 (-1)), ?_, ?_, ?_⟩
    · unfold fX11_drop fX7_isMissing fX7_clearAway; rw [show (3 : Int32) = nI 3 from rfl, h, bd_s, if_pos (by decide), ew, h3, if_pos (nI_nm1 (by omega)), bd_s, if_pos rfl, ew, nm_s, nm_s, bd_s, h5]
    · unfold fX12_drop; rw [ei, h, bd_s, if_pos (by decide), aI_n (by decide) (by decide), h4, if_pos (nI_pos' (by omega)), aS_n (by decide) (by decide), nm_s, aI_n (by decide) (by decide), nI_clamp (by decide)]
      show some (v 25 3, _) = _
      rw [h6]
    · exact ⟨n, K, C, T, H, B, S, hOK, hP, hC, hM, hS, hPl, hPh, hBr, s0, s1, s2, Or.inl ⟨rfl, rfl⟩⟩
theorem t_drop : st_drop (Rel PP WP) := by
  intro u v x1 hR
  have ei : fX12_in x1.toInt64 (0 : Int64) (3 : Int64) = fX11_within x1 0 (nI 3) := r_inw x1 0 3
  rcases w0 x1 3 (by decide) with h | ⟨h, a, ha, rfl⟩
  · refine ⟨0, -1, u.1, v, ?_, ?_, hR⟩
    · unfold fX11_drop; rw [show (3 : Int32) = nI 3 from rfl, h]; rfl
    · unfold fX12_drop; rw [ei, h]; rfl
  · clear ei
    rcases (by omega : a = 0 ∨ a = 1 ∨ a = 2 ∨ a = 3) with rfl | rfl | rfl | rfl
    · exact t_drop0 u v hR h
    · exact t_drop1 u v hR h
    · exact t_drop2 u v hR h
    · exact t_drop3 u v hR h
theorem t_item0 (u : SS) (v : Nat → Nat → Int32) (l : Nat) (x3 x4 : Int32) (hl : l ≤ 2) (hR : Rel PP WP u v) (h : fX11_isSheetAndLane (nI 0) (nI l) = some 1) : ∃ (F : Nat) (r : Int32) (σ2 : Nat → Nat → Int32) (v2 : Nat → Nat → Int32), fX11_item u.2.1 u.2.2.2 u.1 (nI 0) (nI l) x3 x4 = some (r, σ2) ∧ fX12_item v (nI 0) (nI l) x3 x4 = some (r, v2) ∧ Rel PP WP (σ2, u.2.1, u.2.2.1, u.2.2.2) v2 := by
  obtain ⟨n, K, C, T, H, B, S, hOK, hP, hC, hM, hS, hPl, hPh, hBr, s0, s1, s2, s3⟩ := id hR
  have ew : ∀ (α : Type) (k : Nat → Nat → Nat → Option α), sw4 (nI 0) k = k 29 40 44 := fun _ _ => rfl
  obtain ⟨r, e1, e2, h3⟩ := refu (KI := 29) (KL := 40) (KN := 44) (j := 0) (l := l) (m := 1) (sh := u.2.1) (Z := u.2.2.2) (x3 := x3) s0 hl (by decide) (by decide)
  rcases h3 with ⟨h3, h4⟩ | ⟨rfl, f, k, g1, g2, rfl, g4, g5, g6, g7, g8⟩
  · refine ⟨0, r, u.1, v, ?_, ?_, hR⟩
    · unfold fX11_item; rw [h, bd_s, if_pos (by decide), ew, show (1 : Int32) = nI 1 from rfl, e1, bd_s, if_neg h4]
    · unfold fX12_item; rw [rc_sheet, h, bd_s, if_pos (by decide), show (1 : Int32) = nI 1 from rfl, e2, bd_s, if_neg h3]
  · refine ⟨0, 1, sg u.1 29 (upd (u.1 29) f (cut l x4)), sg v 26 (upd (v 26) (256 * 0 + f) (cut l x4)), ?_, ?_, ?_⟩
    · unfold fX11_item; rw [h, bd_s, if_pos (by decide), ew, show (1 : Int32) = nI 1 from rfl, e1, bd_s, if_pos rfl, ew, c_write hl g1 (by omega), bd_s]
    · unfold fX12_item; rw [rc_sheet, h, bd_s, if_pos (by decide), show (1 : Int32) = nI 1 from rfl, e2, bd_s, if_pos (by decide)]
      have ej : ∀ y : Int32, fX12_item_J72 y (((256 : Int32) * nI 0) + nI f) v = some (nI 1, sg v 26 (upd (v 26) (256 * 0 + f) y)) := by
        intro y
        unfold fX12_item_J72
        rw [r_ix, aS_n (by omega) (by decide), nm_s, nI_clamp (by omega)]; rfl
      unfold cut
      match l, hl with
      | 0, _ => rw [if_neg (by decide), ej, sx8]; rfl
      | 1, _ => rw [if_pos (by decide), if_neg (by decide), ej, sx16]; rfl
      | 2, _ => rw [if_pos (by decide), if_pos (by decide), ej]; rfl
    · refine ⟨n, K, C, T, H, B, S, hOK, hP, hC, hM, hS, hPl, hPh, hBr, ?_, RSht.out s1 (fun i hi => pk_un (by omega)), RSht.out s2 (fun i hi => pk_un (by omega)), RSht.out s3 (fun i hi => pk_un (by omega))⟩
      refine Or.inr ⟨l, k, hl, g5, g1, g2, g6, g7, fun i hi => ?_⟩
      by_cases e : i = f
      · subst e
        show upd (u.1 29) i (cut l x4) i = upd (v 26) (256 * 0 + i) (cut l x4) (256 * 0 + i)
        rw [pk_us, pk_us]
      · show upd (u.1 29) f (cut l x4) i = upd (v 26) (256 * 0 + f) (cut l x4) (256 * 0 + i)
        rw [pk_un e, pk_un (by omega)]; exact g8 i hi
theorem t_item1 (u : SS) (v : Nat → Nat → Int32) (l : Nat) (x3 x4 : Int32) (hl : l ≤ 2) (hR : Rel PP WP u v) (h : fX11_isSheetAndLane (nI 1) (nI l) = some 1) : ∃ (F : Nat) (r : Int32) (σ2 : Nat → Nat → Int32) (v2 : Nat → Nat → Int32), fX11_item u.2.1 u.2.2.2 u.1 (nI 1) (nI l) x3 x4 = some (r, σ2) ∧ fX12_item v (nI 1) (nI l) x3 x4 = some (r, v2) ∧ Rel PP WP (σ2, u.2.1, u.2.2.1, u.2.2.2) v2 := by
  obtain ⟨n, K, C, T, H, B, S, hOK, hP, hC, hM, hS, hPl, hPh, hBr, s0, s1, s2, s3⟩ := id hR
  have ew : ∀ (α : Type) (k : Nat → Nat → Nat → Option α), sw4 (nI 1) k = k 30 41 45 := fun _ _ => rfl
  obtain ⟨r, e1, e2, h3⟩ := refu (KI := 30) (KL := 41) (KN := 45) (j := 1) (l := l) (m := 1) (sh := u.2.1) (Z := u.2.2.2) (x3 := x3) s1 hl (by decide) (by decide)
  rcases h3 with ⟨h3, h4⟩ | ⟨rfl, f, k, g1, g2, rfl, g4, g5, g6, g7, g8⟩
  · refine ⟨0, r, u.1, v, ?_, ?_, hR⟩
    · unfold fX11_item; rw [h, bd_s, if_pos (by decide), ew, show (1 : Int32) = nI 1 from rfl, e1, bd_s, if_neg h4]
    · unfold fX12_item; rw [rc_sheet, h, bd_s, if_pos (by decide), show (1 : Int32) = nI 1 from rfl, e2, bd_s, if_neg h3]
  · refine ⟨0, 1, sg u.1 30 (upd (u.1 30) f (cut l x4)), sg v 26 (upd (v 26) (256 * 1 + f) (cut l x4)), ?_, ?_, ?_⟩
    · unfold fX11_item; rw [h, bd_s, if_pos (by decide), ew, show (1 : Int32) = nI 1 from rfl, e1, bd_s, if_pos rfl, ew, c_write hl g1 (by omega), bd_s]
    · unfold fX12_item; rw [rc_sheet, h, bd_s, if_pos (by decide), show (1 : Int32) = nI 1 from rfl, e2, bd_s, if_pos (by decide)]
      have ej : ∀ y : Int32, fX12_item_J72 y (((256 : Int32) * nI 1) + nI f) v = some (nI 1, sg v 26 (upd (v 26) (256 * 1 + f) y)) := by
        intro y
        unfold fX12_item_J72
        rw [r_ix, aS_n (by omega) (by decide), nm_s, nI_clamp (by omega)]; rfl
      unfold cut
      match l, hl with
      | 0, _ => rw [if_neg (by decide), ej, sx8]; rfl
      | 1, _ => rw [if_pos (by decide), if_neg (by decide), ej, sx16]; rfl
      | 2, _ => rw [if_pos (by decide), if_pos (by decide), ej]; rfl
    · refine ⟨n, K, C, T, H, B, S, hOK, hP, hC, hM, hS, hPl, hPh, hBr, RSht.out s0 (fun i hi => pk_un (by omega)), ?_, RSht.out s2 (fun i hi => pk_un (by omega)), RSht.out s3 (fun i hi => pk_un (by omega))⟩
      refine Or.inr ⟨l, k, hl, g5, g1, g2, g6, g7, fun i hi => ?_⟩
      by_cases e : i = f
      · subst e
        show upd (u.1 30) i (cut l x4) i = upd (v 26) (256 * 1 + i) (cut l x4) (256 * 1 + i)
        rw [pk_us, pk_us]
      · show upd (u.1 30) f (cut l x4) i = upd (v 26) (256 * 1 + f) (cut l x4) (256 * 1 + i)
        rw [pk_un e, pk_un (by omega)]; exact g8 i hi
theorem t_item2 (u : SS) (v : Nat → Nat → Int32) (l : Nat) (x3 x4 : Int32) (hl : l ≤ 2) (hR : Rel PP WP u v) (h : fX11_isSheetAndLane (nI 2) (nI l) = some 1) : ∃ (F : Nat) (r : Int32) (σ2 : Nat → Nat → Int32) (v2 : Nat → Nat → Int32), fX11_item u.2.1 u.2.2.2 u.1 (nI 2) (nI l) x3 x4 = some (r, σ2) ∧ fX12_item v (nI 2) (nI l) x3 x4 = some (r, v2) ∧ Rel PP WP (σ2, u.2.1, u.2.2.1, u.2.2.2) v2 := by
  obtain ⟨n, K, C, T, H, B, S, hOK, hP, hC, hM, hS, hPl, hPh, hBr, s0, s1, s2, s3⟩ := id hR
  have ew : ∀ (α : Type) (k : Nat → Nat → Nat → Option α), sw4 (nI 2) k = k 31 42 46 := fun _ _ => rfl
  obtain ⟨r, e1, e2, h3⟩ := refu (KI := 31) (KL := 42) (KN := 46) (j := 2) (l := l) (m := 1) (sh := u.2.1) (Z := u.2.2.2) (x3 := x3) s2 hl (by decide) (by decide)
  rcases h3 with ⟨h3, h4⟩ | ⟨rfl, f, k, g1, g2, rfl, g4, g5, g6, g7, g8⟩
  · refine ⟨0, r, u.1, v, ?_, ?_, hR⟩
    · unfold fX11_item; rw [h, bd_s, if_pos (by decide), ew, show (1 : Int32) = nI 1 from rfl, e1, bd_s, if_neg h4]
    · unfold fX12_item; rw [rc_sheet, h, bd_s, if_pos (by decide), show (1 : Int32) = nI 1 from rfl, e2, bd_s, if_neg h3]
  · refine ⟨0, 1, sg u.1 31 (upd (u.1 31) f (cut l x4)), sg v 26 (upd (v 26) (256 * 2 + f) (cut l x4)), ?_, ?_, ?_⟩
    · unfold fX11_item; rw [h, bd_s, if_pos (by decide), ew, show (1 : Int32) = nI 1 from rfl, e1, bd_s, if_pos rfl, ew, c_write hl g1 (by omega), bd_s]
    · unfold fX12_item; rw [rc_sheet, h, bd_s, if_pos (by decide), show (1 : Int32) = nI 1 from rfl, e2, bd_s, if_pos (by decide)]
      have ej : ∀ y : Int32, fX12_item_J72 y (((256 : Int32) * nI 2) + nI f) v = some (nI 1, sg v 26 (upd (v 26) (256 * 2 + f) y)) := by
        intro y
        unfold fX12_item_J72
        rw [r_ix, aS_n (by omega) (by decide), nm_s, nI_clamp (by omega)]; rfl
      unfold cut
      match l, hl with
      | 0, _ => rw [if_neg (by decide), ej, sx8]; rfl
      | 1, _ => rw [if_pos (by decide), if_neg (by decide), ej, sx16]; rfl
      | 2, _ => rw [if_pos (by decide), if_pos (by decide), ej]; rfl
    · refine ⟨n, K, C, T, H, B, S, hOK, hP, hC, hM, hS, hPl, hPh, hBr, RSht.out s0 (fun i hi => pk_un (by omega)), RSht.out s1 (fun i hi => pk_un (by omega)), ?_, RSht.out s3 (fun i hi => pk_un (by omega))⟩
      refine Or.inr ⟨l, k, hl, g5, g1, g2, g6, g7, fun i hi => ?_⟩
      by_cases e : i = f
      · subst e
        show upd (u.1 31) i (cut l x4) i = upd (v 26) (256 * 2 + i) (cut l x4) (256 * 2 + i)
        rw [pk_us, pk_us]
      · show upd (u.1 31) f (cut l x4) i = upd (v 26) (256 * 2 + f) (cut l x4) (256 * 2 + i)
        rw [pk_un e, pk_un (by omega)]; exact g8 i hi
theorem t_item3 (u : SS) (v : Nat → Nat → Int32) (l : Nat) (x3 x4 : Int32) (hl : l ≤ 2) (hR : Rel PP WP u v) (h : fX11_isSheetAndLane (nI 3) (nI l) = some 1) : ∃ (F : Nat) (r : Int32) (σ2 : Nat → Nat → Int32) (v2 : Nat → Nat → Int32), fX11_item u.2.1 u.2.2.2 u.1 (nI 3) (nI l) x3 x4 = some (r, σ2) ∧ fX12_item v (nI 3) (nI l) x3 x4 = some (r, v2) ∧ Rel PP WP (σ2, u.2.1, u.2.2.1, u.2.2.2) v2 := by
  obtain ⟨n, K, C, T, H, B, S, hOK, hP, hC, hM, hS, hPl, hPh, hBr, s0, s1, s2, s3⟩ := id hR
  have ew : ∀ (α : Type) (k : Nat → Nat → Nat → Option α), sw4 (nI 3) k = k 32 43 47 := fun _ _ => rfl
  obtain ⟨r, e1, e2, h3⟩ := refu (KI := 32) (KL := 43) (KN := 47) (j := 3) (l := l) (m := 1) (sh := u.2.1) (Z := u.2.2.2) (x3 := x3) s3 hl (by decide) (by decide)
  rcases h3 with ⟨h3, h4⟩ | ⟨rfl, f, k, g1, g2, rfl, g4, g5, g6, g7, g8⟩
  · refine ⟨0, r, u.1, v, ?_, ?_, hR⟩
    · unfold fX11_item; rw [h, bd_s, if_pos (by decide), ew, show (1 : Int32) = nI 1 from rfl, e1, bd_s, if_neg h4]
    · unfold fX12_item; rw [rc_sheet, h, bd_s, if_pos (by decide), show (1 : Int32) = nI 1 from rfl, e2, bd_s, if_neg h3]
  · refine ⟨0, 1, sg u.1 32 (upd (u.1 32) f (cut l x4)), sg v 26 (upd (v 26) (256 * 3 + f) (cut l x4)), ?_, ?_, ?_⟩
    · unfold fX11_item; rw [h, bd_s, if_pos (by decide), ew, show (1 : Int32) = nI 1 from rfl, e1, bd_s, if_pos rfl, ew, c_write hl g1 (by omega), bd_s]
    · unfold fX12_item; rw [rc_sheet, h, bd_s, if_pos (by decide), show (1 : Int32) = nI 1 from rfl, e2, bd_s, if_pos (by decide)]
      have ej : ∀ y : Int32, fX12_item_J72 y (((256 : Int32) * nI 3) + nI f) v = some (nI 1, sg v 26 (upd (v 26) (256 * 3 + f) y)) := by
        intro y
        unfold fX12_item_J72
        rw [r_ix, aS_n (by omega) (by decide), nm_s, nI_clamp (by omega)]; rfl
      unfold cut
      match l, hl with
      | 0, _ => rw [if_neg (by decide), ej, sx8]; rfl
      | 1, _ => rw [if_pos (by decide), if_neg (by decide), ej, sx16]; rfl
      | 2, _ => rw [if_pos (by decide), if_pos (by decide), ej]; rfl
    · refine ⟨n, K, C, T, H, B, S, hOK, hP, hC, hM, hS, hPl, hPh, hBr, RSht.out s0 (fun i hi => pk_un (by omega)), RSht.out s1 (fun i hi => pk_un (by omega)), RSht.out s2 (fun i hi => pk_un (by omega)), ?_⟩
      refine Or.inr ⟨l, k, hl, g5, g1, g2, g6, g7, fun i hi => ?_⟩
      by_cases e : i = f
      · subst e
        show upd (u.1 32) i (cut l x4) i = upd (v 26) (256 * 3 + i) (cut l x4) (256 * 3 + i)
        rw [pk_us, pk_us]
      · show upd (u.1 32) f (cut l x4) i = upd (v 26) (256 * 3 + f) (cut l x4) (256 * 3 + i)
        rw [pk_un e, pk_un (by omega)]; exact g8 i hi
theorem t_item : st_item (Rel PP WP) := by
  intro u v x1 x2 x3 x4 hR
  rcases isS x1 x2 with h | ⟨h, a, l, ha, hl, rfl, rfl⟩
  · refine ⟨0, -1, u.1, v, ?_, ?_, hR⟩
    · unfold fX11_item; rw [h]; rfl
    · unfold fX12_item; rw [rc_sheet, h]; rfl
  · match a, ha with
    | 0, _ => exact t_item0 u v l x3 x4 hl hR h
    | 1, _ => exact t_item1 u v l x3 x4 hl hR h
    | 2, _ => exact t_item2 u v l x3 x4 hl hR h
    | 3, _ => exact t_item3 u v l x3 x4 hl hR h
theorem t_sheet0 (u : SS) (v : Nat → Nat → Int32) (l m : Nat) (hl : l ≤ 2) (hm : m ≤ 256) (hR : Rel PP WP u v) (h : fX11_isSheetAndLane (nI 0) (nI l) = some 1) : ∃ (F : Nat) (r : Int32) (σ2 : Nat → Nat → Int32) (v2 : Nat → Nat → Int32), fX11_sheet F u.2.1 u.2.2.2 u.1 (nI 0) (nI l) (nI m) = some (r, σ2) ∧ fX12_sheet F v (nI 0) (nI l) (nI m) = some (r, v2) ∧ Rel PP WP (σ2, u.2.1, u.2.2.1, u.2.2.2) v2 := by
  obtain ⟨n, K, C, T, H, B, S, hOK, hP, hC, hM, hS, hPl, hPh, hBr, s0, s1, s2, s3⟩ := id hR
  have ew : ∀ (α : Type) (k : Nat → Nat → Nat → Option α), sw4 (nI 0) k = k 29 40 44 := fun _ _ => rfl
  have c1 : nI m ≤ (256 : Int32) := nI_le (b := 256) hm (by decide)
  have c2 : (0 : Int32) ≤ nI m := nI_pos' (by omega)
  refine ⟨300, nI m, sg (sg (sg u.1 40 (fun _ => nI l)) 44 (fun _ => nI m)) 29 (fa_fill (fun _ => 0) (u.1 29) m), sg (sg (sg v 24 (upd (v 24) 0 (nI l))) 25 (upd (v 25) 0 (nI m))) 26 (fb_put (v 26) (fun _ => 0) (256 * 0) 256), ?_, ?_, ?_⟩
  · unfold fX11_sheet fX7_begin; rw [h, bd_s, if_neg (by decide), if_pos c1, if_pos c2, ew, nm_s, nm_s, c_begin 29 40 44 _ _ m hm (by decide)]; rfl
  · unfold fX12_sheet; rw [rc_sheet, h, bd_s, if_neg (by decide), if_pos c1, if_pos c2, aS_n (by decide) (by decide), nm_s, aS_n (by decide) (by decide), nm_s, r_begin 0 (by decide) _ _ _ (by decide), nI_clamp (by decide)]; rfl
  · refine ⟨n, K, C, T, H, B, S, hOK, hP, hC, hM, hS, hPl, hPh, hBr, ?_, RSht.out s1 (fun i hi => show fb_put (v 26) (fun _ => 0) (256 * 0) 256 (256 * 1 + i) = v 26 (256 * 1 + i) from fb_put_out (by omega)), RSht.out s2 (fun i hi => show fb_put (v 26) (fun _ => 0) (256 * 0) 256 (256 * 2 + i) = v 26 (256 * 2 + i) from fb_put_out (by omega)), RSht.out s3 (fun i hi => show fb_put (v 26) (fun _ => 0) (256 * 0) 256 (256 * 3 + i) = v 26 (256 * 3 + i) from fb_put_out (by omega))⟩
    exact Or.inr ⟨l, m, hl, hm, rfl, rfl, rfl, rfl, fun i hi => (show fa_fill (fun _ => 0) (u.1 29) m i = 0 from fa_fill_in hi).trans (show fb_put (v 26) (fun _ => 0) (256 * 0) 256 (256 * 0 + i) = 0 from fb_put_in (by omega) (by omega)).symm⟩
theorem t_sheet1 (u : SS) (v : Nat → Nat → Int32) (l m : Nat) (hl : l ≤ 2) (hm : m ≤ 256) (hR : Rel PP WP u v) (h : fX11_isSheetAndLane (nI 1) (nI l) = some 1) : ∃ (F : Nat) (r : Int32) (σ2 : Nat → Nat → Int32) (v2 : Nat → Nat → Int32), fX11_sheet F u.2.1 u.2.2.2 u.1 (nI 1) (nI l) (nI m) = some (r, σ2) ∧ fX12_sheet F v (nI 1) (nI l) (nI m) = some (r, v2) ∧ Rel PP WP (σ2, u.2.1, u.2.2.1, u.2.2.2) v2 := by
  obtain ⟨n, K, C, T, H, B, S, hOK, hP, hC, hM, hS, hPl, hPh, hBr, s0, s1, s2, s3⟩ := id hR
  have ew : ∀ (α : Type) (k : Nat → Nat → Nat → Option α), sw4 (nI 1) k = k 30 41 45 := fun _ _ => rfl
  have c1 : nI m ≤ (256 : Int32) := nI_le (b := 256) hm (by decide)
  have c2 : (0 : Int32) ≤ nI m := nI_pos' (by omega)
  refine ⟨300, nI m, sg (sg (sg u.1 41 (fun _ => nI l)) 45 (fun _ => nI m)) 30 (fa_fill (fun _ => 0) (u.1 30) m), sg (sg (sg v 24 (upd (v 24) 1 (nI l))) 25 (upd (v 25) 1 (nI m))) 26 (fb_put (v 26) (fun _ => 0) (256 * 1) 256), ?_, ?_, ?_⟩
  · unfold fX11_sheet fX7_begin; rw [h, bd_s, if_neg (by decide), if_pos c1, if_pos c2, ew, nm_s, nm_s, c_begin 30 41 45 _ _ m hm (by decide)]; rfl
  · unfold fX12_sheet; rw [rc_sheet, h, bd_s, if_neg (by decide), if_pos c1, if_pos c2, aS_n (by decide) (by decide), nm_s, aS_n (by decide) (by decide), nm_s, r_begin 1 (by decide) _ _ _ (by decide), nI_clamp (by decide)]; rfl
  · refine ⟨n, K, C, T, H, B, S, hOK, hP, hC, hM, hS, hPl, hPh, hBr, RSht.out s0 (fun i hi => show fb_put (v 26) (fun _ => 0) (256 * 1) 256 (256 * 0 + i) = v 26 (256 * 0 + i) from fb_put_out (by omega)), ?_, RSht.out s2 (fun i hi => show fb_put (v 26) (fun _ => 0) (256 * 1) 256 (256 * 2 + i) = v 26 (256 * 2 + i) from fb_put_out (by omega)), RSht.out s3 (fun i hi => show fb_put (v 26) (fun _ => 0) (256 * 1) 256 (256 * 3 + i) = v 26 (256 * 3 + i) from fb_put_out (by omega))⟩
    exact Or.inr ⟨l, m, hl, hm, rfl, rfl, rfl, rfl, fun i hi => (show fa_fill (fun _ => 0) (u.1 30) m i = 0 from fa_fill_in hi).trans (show fb_put (v 26) (fun _ => 0) (256 * 1) 256 (256 * 1 + i) = 0 from fb_put_in (by omega) (by omega)).symm⟩
theorem t_sheet2 (u : SS) (v : Nat → Nat → Int32) (l m : Nat) (hl : l ≤ 2) (hm : m ≤ 256) (hR : Rel PP WP u v) (h : fX11_isSheetAndLane (nI 2) (nI l) = some 1) : ∃ (F : Nat) (r : Int32) (σ2 : Nat → Nat → Int32) (v2 : Nat → Nat → Int32), fX11_sheet F u.2.1 u.2.2.2 u.1 (nI 2) (nI l) (nI m) = some (r, σ2) ∧ fX12_sheet F v (nI 2) (nI l) (nI m) = some (r, v2) ∧ Rel PP WP (σ2, u.2.1, u.2.2.1, u.2.2.2) v2 := by
  obtain ⟨n, K, C, T, H, B, S, hOK, hP, hC, hM, hS, hPl, hPh, hBr, s0, s1, s2, s3⟩ := id hR
  have ew : ∀ (α : Type) (k : Nat → Nat → Nat → Option α), sw4 (nI 2) k = k 31 42 46 := fun _ _ => rfl
  have c1 : nI m ≤ (256 : Int32) := nI_le (b := 256) hm (by decide)
  have c2 : (0 : Int32) ≤ nI m := nI_pos' (by omega)
  refine ⟨300, nI m, sg (sg (sg u.1 42 (fun _ => nI l)) 46 (fun _ => nI m)) 31 (fa_fill (fun _ => 0) (u.1 31) m), sg (sg (sg v 24 (upd (v 24) 2 (nI l))) 25 (upd (v 25) 2 (nI m))) 26 (fb_put (v 26) (fun _ => 0) (256 * 2) 256), ?_, ?_, ?_⟩
  · unfold fX11_sheet fX7_begin; rw [h, bd_s, if_neg (by decide), if_pos c1, if_pos c2, ew, nm_s, nm_s, c_begin 31 42 46 _ _ m hm (by decide)]; rfl
  · unfold fX12_sheet; rw [rc_sheet, h, bd_s, if_neg (by decide), if_pos c1, if_pos c2, aS_n (by decide) (by decide), nm_s, aS_n (by decide) (by decide), nm_s, r_begin 2 (by decide) _ _ _ (by decide), nI_clamp (by decide)]; rfl
  · refine ⟨n, K, C, T, H, B, S, hOK, hP, hC, hM, hS, hPl, hPh, hBr, RSht.out s0 (fun i hi => show fb_put (v 26) (fun _ => 0) (256 * 2) 256 (256 * 0 + i) = v 26 (256 * 0 + i) from fb_put_out (by omega)), RSht.out s1 (fun i hi => show fb_put (v 26) (fun _ => 0) (256 * 2) 256 (256 * 1 + i) = v 26 (256 * 1 + i) from fb_put_out (by omega)), ?_, RSht.out s3 (fun i hi => show fb_put (v 26) (fun _ => 0) (256 * 2) 256 (256 * 3 + i) = v 26 (256 * 3 + i) from fb_put_out (by omega))⟩
    exact Or.inr ⟨l, m, hl, hm, rfl, rfl, rfl, rfl, fun i hi => (show fa_fill (fun _ => 0) (u.1 31) m i = 0 from fa_fill_in hi).trans (show fb_put (v 26) (fun _ => 0) (256 * 2) 256 (256 * 2 + i) = 0 from fb_put_in (by omega) (by omega)).symm⟩
theorem t_sheet3 (u : SS) (v : Nat → Nat → Int32) (l m : Nat) (hl : l ≤ 2) (hm : m ≤ 256) (hR : Rel PP WP u v) (h : fX11_isSheetAndLane (nI 3) (nI l) = some 1) : ∃ (F : Nat) (r : Int32) (σ2 : Nat → Nat → Int32) (v2 : Nat → Nat → Int32), fX11_sheet F u.2.1 u.2.2.2 u.1 (nI 3) (nI l) (nI m) = some (r, σ2) ∧ fX12_sheet F v (nI 3) (nI l) (nI m) = some (r, v2) ∧ Rel PP WP (σ2, u.2.1, u.2.2.1, u.2.2.2) v2 := by
  obtain ⟨n, K, C, T, H, B, S, hOK, hP, hC, hM, hS, hPl, hPh, hBr, s0, s1, s2, s3⟩ := id hR
  have ew : ∀ (α : Type) (k : Nat → Nat → Nat → Option α), sw4 (nI 3) k = k 32 43 47 := fun _ _ => rfl
  have c1 : nI m ≤ (256 : Int32) := nI_le (b := 256) hm (by decide)
  have c2 : (0 : Int32) ≤ nI m := nI_pos' (by omega)
  refine ⟨300, nI m, sg (sg (sg u.1 43 (fun _ => nI l)) 47 (fun _ => nI m)) 32 (fa_fill (fun _ => 0) (u.1 32) m), sg (sg (sg v 24 (upd (v 24) 3 (nI l))) 25 (upd (v 25) 3 (nI m))) 26 (fb_put (v 26) (fun _ => 0) (256 * 3) 256), ?_, ?_, ?_⟩
  · unfold fX11_sheet fX7_begin; rw [h, bd_s, if_neg (by decide), if_pos c1, if_pos c2, ew, nm_s, nm_s, c_begin 32 43 47 _ _ m hm (by decide)]; rfl
  · unfold fX12_sheet; rw [rc_sheet, h, bd_s, if_neg (by decide), if_pos c1, if_pos c2, aS_n (by decide) (by decide), nm_s, aS_n (by decide) (by decide), nm_s, r_begin 3 (by decide) _ _ _ (by decide), nI_clamp (by decide)]; rfl
  · refine ⟨n, K, C, T, H, B, S, hOK, hP, hC, hM, hS, hPl, hPh, hBr, RSht.out s0 (fun i hi => show fb_put (v 26) (fun _ => 0) (256 * 3) 256 (256 * 0 + i) = v 26 (256 * 0 + i) from fb_put_out (by omega)), RSht.out s1 (fun i hi => show fb_put (v 26) (fun _ => 0) (256 * 3) 256 (256 * 1 + i) = v 26 (256 * 1 + i) from fb_put_out (by omega)), RSht.out s2 (fun i hi => show fb_put (v 26) (fun _ => 0) (256 * 3) 256 (256 * 2 + i) = v 26 (256 * 2 + i) from fb_put_out (by omega)), ?_⟩
    exact Or.inr ⟨l, m, hl, hm, rfl, rfl, rfl, rfl, fun i hi => (show fa_fill (fun _ => 0) (u.1 32) m i = 0 from fa_fill_in hi).trans (show fb_put (v 26) (fun _ => 0) (256 * 3) 256 (256 * 3 + i) = 0 from fb_put_in (by omega) (by omega)).symm⟩
theorem t_sheet : st_sheet (Rel PP WP) := by
  intro u v x1 x2 x3 hR
  rcases isS x1 x2 with h | ⟨h, a, l, ha, hl, rfl, rfl⟩
  · refine ⟨0, -1, u.1, v, ?_, ?_, hR⟩
    · unfold fX11_sheet; rw [h]; rfl
    · unfold fX12_sheet; rw [rc_sheet, h]; rfl
  · by_cases c1 : x3 ≤ (256 : Int32)
    · by_cases c2 : (0 : Int32) ≤ x3
      · obtain ⟨m, hm, rfl⟩ := nI_of2 (n := 256) (M := 256) (by decide) (fun q => by have := (fa_lt _ _).mp q; have := (fa_le _ _).mp c2; omega) c1
        match a, ha with
        | 0, _ => exact t_sheet0 u v l m hl hm hR h
        | 1, _ => exact t_sheet1 u v l m hl hm hR h
        | 2, _ => exact t_sheet2 u v l m hl hm hR h
        | 3, _ => exact t_sheet3 u v l m hl hm hR h
      · refine ⟨0, -14, u.1, v, ?_, ?_, hR⟩
        · unfold fX11_sheet; rw [h, bd_s, if_neg (by decide), if_pos c1, if_neg c2]
        · unfold fX12_sheet; rw [rc_sheet, h, bd_s, if_neg (by decide), if_pos c1, if_neg c2]
    · refine ⟨0, -1, u.1, v, ?_, ?_, hR⟩
      · unfold fX11_sheet; rw [h, bd_s, if_neg (by decide), if_neg c1]
      · unfold fX12_sheet; rw [rc_sheet, h, bd_s, if_neg (by decide), if_neg c1]
end OPS2
