/-! harm, mend -/
section HARM
variable {PP : PPT} {WP : WPT}
variable {σ v : Nat → Nat → Int32} {sh : Nat → Option Nat} {Z : ZT} {n : Nat} {K C T H : Nat → Nat} {B : Nat → Nat → Bool} {F : Nat}
/-- told back at a place, in a quarter -/
def bkP (ph : Nat → Int32) (K T : Nat → Nat) (B : Nat → Nat → Bool) (n p q : Nat) : Int32 := bkS ph p q (stpN K T B p n) 4
def hmI (ph : Nat → Int32) (K C T : Nat → Nat) (B : Nat → Nat → Bool) (n k p q : Nat) : Nat :=
  if k = 0 then (if ph (cel p q) = -5 then 1 else 0) else if k = 1 then (if ph (cel p q) = -5 then 0 else if ph (cel p q) = nI (lookN K C T B p q n) then 0 else 1) else if k = 2 then (if ph (cel p q) = -5 then (if bkP ph K T B n p q = -5 then 1 else 0) else 0) else (if ph (cel p q) = -5 then (if bkP ph K T B n p q = -6 then 1 else 0) else 0)
theorem c_sm (hF : 300 ≤ F) : fX3_cellsSmeared F sh Z σ = some (nI (fb_sm (fun c => if σ 15 c = -5 then 1 else 0) 256)) := by
  refine lp_up (fun m (z : Int32 × Int32) => fX3_cellsSmeared_L4 F sh Z σ (fun y1 => some y1) m z.1 z.2) (fun i => (nI (fb_sm (fun c => if σ 15 c = -5 then 1 else 0) i), nI i)) _ 256 (fun m i hi => ?_) (fun m => ?_) F 0 (Nat.zero_le _) (by omega)
  · show fX3_cellsSmeared_L4 F sh Z σ (fun y1 => some y1) (m + 1) (nI (fb_sm (fun c => if σ 15 c = -5 then 1 else 0) i)) (nI i) = fX3_cellsSmeared_L4 F sh Z σ (fun y1 => some y1) m (nI (fb_sm (fun c => if σ 15 c = -5 then 1 else 0) (i + 1))) (nI (i + 1))
    rw [fX3_cellsSmeared_L4, nb_s, if_neg (show ¬ (256 : Int32) ≤ nI i from nI_ge (b := 256) hi (by decide)), aI_n hi (by decide), fb_sm_succ _ i]
    unfold fX3_cellsSmeared_J25
    by_cases e : σ 15 i = -5
    · rw [if_neg (fun z => z e), if_pos e, nI_1, nI_1]
    · rw [if_pos e, if_neg e, nI_1]; rfl
  · show fX3_cellsSmeared_L4 F sh Z σ (fun y1 => some y1) (m + 1) (nI (fb_sm (fun c => if σ 15 c = -5 then 1 else 0) 256)) (nI 256) = _
    rw [fX3_cellsSmeared_L4, nb_s, if_pos (by decide)]
theorem c_offIn (hp : PicOK n K C T H) (hc : CVs σ sh Z n K C T H B) (hF : 300 ≤ F) {p : Nat} (hpp : p < 64) (a : Nat) (kx : Int32 → Option Int32) : fX3_cellsOff_L13 F sh Z σ (nI p) kx F (nI a) 0 = kx (nI (a + fb_sm (fun q => hmI (σ 15) K C T B n 1 p q) 4)) := by
  refine lp_up (fun m (z : Int32 × Int32) => fX3_cellsOff_L13 F sh Z σ (nI p) kx m z.1 z.2) (fun i => (nI (a + fb_sm (fun q => hmI (σ 15) K C T B n 1 p q) i), nI i)) _ 4 (fun m i hi => ?_) (fun m => ?_) F 0 (Nat.zero_le _) (by omega)
  · show fX3_cellsOff_L13 F sh Z σ (nI p) kx (m + 1) (nI (a + fb_sm (fun q => hmI (σ 15) K C T B n 1 p q) i)) (nI i) = fX3_cellsOff_L13 F sh Z σ (nI p) kx m (nI (a + fb_sm (fun q => hmI (σ 15) K C T B n 1 p q) (i + 1))) (nI (i + 1))
    obtain ⟨k1, k2, k3⟩ := cel_p p hpp i hi
    have e1 : hmI (σ 15) K C T B n 1 p i = (if σ 15 (cel p i) = -5 then 0 else if σ 15 (cel p i) = nI (lookN K C T B p i n) then 0 else 1) := by
      unfold hmI; rw [if_neg (by decide), if_pos rfl]
    rw [fX3_cellsOff_L13, nb_s, if_neg (show ¬ (4 : Int32) ≤ nI i from nI_ge (b := 4) hi (by decide)), c_smeared (by omega) hpp hi, bd_s, fb_sm_succ _ i, e1]
    unfold fX3_cellsOff_J53
    by_cases e : σ 15 (cel p i) = -5
    · rw [if_pos e, if_pos e, if_pos (by decide), nI_1]; rfl
    · rw [if_neg e, if_neg e, if_neg (by decide), c_cell F (by omega) p hpp i hi, bd_s, aI_n k1 (by decide), c_look hp hc (by omega) hpp hi, bd_s]
      by_cases e2 : σ 15 (cel p i) = nI (lookN K C T B p i n)
      · rw [if_pos e2, if_pos e2, nI_1]; rfl
      · rw [if_neg e2, if_neg e2, nI_1, nI_1]; rfl
  · show fX3_cellsOff_L13 F sh Z σ (nI p) kx (m + 1) (nI (a + fb_sm (fun q => hmI (σ 15) K C T B n 1 p q) 4)) (nI 4) = _
    rw [fX3_cellsOff_L13, nb_s, if_pos (by decide)]
theorem c_off (hp : PicOK n K C T H) (hc : CVs σ sh Z n K C T H B) (hF : 300 ≤ F) : fX3_cellsOff F sh Z σ = some (nI (fb_sm (fun p => fb_sm (fun q => hmI (σ 15) K C T B n 1 p q) 4) 64)) := by
  refine lp_up (fun m (z : Int32 × Int32) => fX3_cellsOff_L4 F sh Z σ (fun y1 => some y1) m z.1 z.2) (fun i => (nI (fb_sm (fun p => fb_sm (fun q => hmI (σ 15) K C T B n 1 p q) 4) i), nI i)) _ 64 (fun m i hi => ?_) (fun m => ?_) F 0 (Nat.zero_le _) (by omega)
  · show fX3_cellsOff_L4 F sh Z σ (fun y1 => some y1) (m + 1) (nI (fb_sm (fun p => fb_sm (fun q => hmI (σ 15) K C T B n 1 p q) 4) i)) (nI i) = fX3_cellsOff_L4 F sh Z σ (fun y1 => some y1) m (nI (fb_sm (fun p => fb_sm (fun q => hmI (σ 15) K C T B n 1 p q) 4) (i + 1))) (nI (i + 1))
    rw [fX3_cellsOff_L4, nb_s, if_neg (show ¬ (64 : Int32) ≤ nI i from nI_ge (b := 64) hi (by decide)), c_offIn hp hc hF hi, nI_1, fb_sm_succ _ i]
  · show fX3_cellsOff_L4 F sh Z σ (fun y1 => some y1) (m + 1) (nI (fb_sm (fun p => fb_sm (fun q => hmI (σ 15) K C T B n 1 p q) 4) 64)) (nI 64) = _
    rw [fX3_cellsOff_L4, nb_s, if_pos (by decide)]
def hmB (ph : Nat → Int32) (K T : Nat → Nat) (B : Nat → Nat → Bool) (n : Nat) (x : Int32) (p q : Nat) : Nat := if ph (cel p q) = -5 then (if bkP ph K T B n p q = x then 1 else 0) else 0
theorem c_tbIn (hp : PicOK n K C T H) (hg : ∀ c, c < 256 → gdp (σ 15 c)) (hF : 300 ≤ F) (x : Int32) {p : Nat} (hpp : p < 64) (a : Nat) (kx : Int32 → Option Int32) : fX3_cellsToldBackAs_L23 F sh Z σ x (nI p) (nI (stpN K T B p n)) kx F (nI a) 0 = kx (nI (a + fb_sm (fun q => hmB (σ 15) K T B n x p q) 4)) := by
  have ht := stpN_le (B := B) hp p n (Nat.le_refl n)
  refine lp_up (fun m (z : Int32 × Int32) => fX3_cellsToldBackAs_L23 F sh Z σ x (nI p) (nI (stpN K T B p n)) kx m z.1 z.2) (fun i => (nI (a + fb_sm (fun q => hmB (σ 15) K T B n x p q) i), nI i)) _ 4 (fun m i hi => ?_) (fun m => ?_) F 0 (Nat.zero_le _) (by omega)
  · show fX3_cellsToldBackAs_L23 F sh Z σ x (nI p) (nI (stpN K T B p n)) kx (m + 1) (nI (a + fb_sm (fun q => hmB (σ 15) K T B n x p q) i)) (nI i) = fX3_cellsToldBackAs_L23 F sh Z σ x (nI p) (nI (stpN K T B p n)) kx m (nI (a + fb_sm (fun q => hmB (σ 15) K T B n x p q) (i + 1))) (nI (i + 1))
    rw [fX3_cellsToldBackAs_L23, nb_s, if_neg (show ¬ (4 : Int32) ≤ nI i from nI_ge (b := 4) hi (by decide)), c_smeared (by omega) hpp hi, bd_s, fb_sm_succ _ i]
    unfold fX3_cellsToldBackAs_J57 hmB
    by_cases e : σ 15 (cel p i) = -5
    · rw [if_pos e, if_pos e, if_neg (by decide), c_back hg (by omega) hpp hi ht, bd_s]
      by_cases e2 : bkP (σ 15) K T B n p i = x
      · rw [if_neg (fun z => z e2), if_pos e2, nI_1, nI_1]; rfl
      · rw [if_pos (show ¬ bkS (σ 15) p i (stpN K T B p n) 4 = x from e2), if_neg e2, nI_1]; rfl
    · rw [if_neg e, if_neg e, if_pos rfl, nI_1]; rfl
  · show fX3_cellsToldBackAs_L23 F sh Z σ x (nI p) (nI (stpN K T B p n)) kx (m + 1) (nI (a + fb_sm (fun q => hmB (σ 15) K T B n x p q) 4)) (nI 4) = _
    rw [fX3_cellsToldBackAs_L23, nb_s, if_pos (by decide)]
theorem c_tb (hp : PicOK n K C T H) (hc : CVs σ sh Z n K C T H B) (hg : ∀ c, c < 256 → gdp (σ 15 c)) (hF : 300 ≤ F) (x : Int32) : fX3_cellsToldBackAs F sh Z σ x = some (nI (fb_sm (fun p => fb_sm (fun q => hmB (σ 15) K T B n x p q) 4) 64)) := by
  refine lp_up (fun m (z : Int32 × Int32) => fX3_cellsToldBackAs_L5 F sh Z σ x (fun y1 => some y1) m z.1 z.2) (fun i => (nI (fb_sm (fun p => fb_sm (fun q => hmB (σ 15) K T B n x p q) 4) i), nI i)) _ 64 (fun m i hi => ?_) (fun m => ?_) F 0 (Nat.zero_le _) (by omega)
  · show fX3_cellsToldBackAs_L5 F sh Z σ x (fun y1 => some y1) (m + 1) (nI (fb_sm (fun p => fb_sm (fun q => hmB (σ 15) K T B n x p q) 4) i)) (nI i) = fX3_cellsToldBackAs_L5 F sh Z σ x (fun y1 => some y1) m (nI (fb_sm (fun p => fb_sm (fun q => hmB (σ 15) K T B n x p q) 4) (i + 1))) (nI (i + 1))
    rw [fX3_cellsToldBackAs_L5, nb_s, if_neg (show ¬ (64 : Int32) ≤ nI i from nI_ge (b := 64) hi (by decide)), c_step hp hc (by omega) hi, bd_s, c_tbIn hp hg hF x hi, nI_1, fb_sm_succ _ i]
  · show fX3_cellsToldBackAs_L5 F sh Z σ x (fun y1 => some y1) (m + 1) (nI (fb_sm (fun p => fb_sm (fun q => hmB (σ 15) K T B n x p q) 4) 64)) (nI 64) = _
    rw [fX3_cellsToldBackAs_L5, nb_s, if_pos (by decide)]
theorem sum4 (f : Nat → Nat → Nat) : fb_sm (fun p => fb_sm (fun q => f p q) 4) 64 = fb_sm (fun c => f (plc c) (qrt c)) 256 := by
  rw [sum_cells f]
  congr 1
  funext p
  rw [sm4]
theorem r_harm (hp : PicOK n K C T H) (hm : MVs v n K C T H B) (hg : ∀ c, c < 256 → gdp (v 19 c)) (hF : 300 ≤ F) {k : Nat} (hk : k ≤ 3) : fX12_harm_L18 F v (nI k) (fun y3 => some y3) F 0 0 = some (nI (fb_sm (fun c => hmI (v 19) K C T B n k (plc c) (qrt c)) 256)) := by
  refine lp_up (fun m (z : Int32 × Int32) => fX12_harm_L18 F v (nI k) (fun y3 => some y3) m z.1 z.2) (fun i => (nI (fb_sm (fun c => hmI (v 19) K C T B n k (plc c) (qrt c)) i), nI i)) _ 256 (fun m i hi => ?_) (fun m => ?_) F 0 (Nat.zero_le _) (by omega)
  · show fX12_harm_L18 F v (nI k) (fun y3 => some y3) (m + 1) (nI (fb_sm (fun c => hmI (v 19) K C T B n k (plc c) (qrt c)) i)) (nI i) = fX12_harm_L18 F v (nI k) (fun y3 => some y3) m (nI (fb_sm (fun c => hmI (v 19) K C T B n k (plc c) (qrt c)) (i + 1))) (nI (i + 1))
    obtain ⟨j1, j2, j3⟩ := cel_c i hi
    have hb := r_back hp hm hg hF hi
    have hl := r_look hp hm (show 40 ≤ F by omega) hi
    have e0 : ∀ a : Nat, fX12_harm_J114 F (fun x2 x3 => fX12_harm_L18 F v (nI k) (fun y3 => some y3) m x2 x3) (nI k) (nI a) (nI i) 0 v = fX12_harm_L18 F v (nI k) (fun y3 => some y3) m (nI (a + 0)) (nI (i + 1)) := by
      intro a
      unfold fX12_harm_J114 fX12_harm_J127
      rw [if_pos rfl, Int32.add_zero, nI_1]; rfl
    have e1 : ∀ a : Nat, fX12_harm_J114 F (fun x2 x3 => fX12_harm_L18 F v (nI k) (fun y3 => some y3) m x2 x3) (nI k) (nI a) (nI i) 1 v = fX12_harm_L18 F v (nI k) (fun y3 => some y3) m (nI (a + 1)) (nI (i + 1)) := by
      intro a
      unfold fX12_harm_J114 fX12_harm_J127
      rw [if_neg (by decide), nI_1, nI_1]
    rw [fX12_harm_L18, nb_s, if_neg (show ¬ (256 : Int32) ≤ nI i from nI_ge (b := 256) hi (by decide)), aI_n hi (by decide), fb_sm_succ _ i]
    unfold hmI bkP
    rw [j3]
    generalize fb_sm (fun c => if k = 0 then (if v 19 (cel (plc c) (qrt c)) = -5 then 1 else 0) else if k = 1 then (if v 19 (cel (plc c) (qrt c)) = -5 then 0 else if v 19 (cel (plc c) (qrt c)) = nI (lookN K C T B (plc c) (qrt c) n) then 0 else 1) else if k = 2 then (if v 19 (cel (plc c) (qrt c)) = -5 then (if bkS (v 19) (plc c) (qrt c) (stpN K T B (plc c) n) 4 = -5 then 1 else 0) else 0) else (if v 19 (cel (plc c) (qrt c)) = -5 then (if bkS (v 19) (plc c) (qrt c) (stpN K T B (plc c) n) 4 = -6 then 1 else 0) else 0)) i = a
    unfold fX12_harm_J41 fX12_harm_J80 fX12_harm_J106 fX12_harm_J113
    rw [hb, hl, aI_n hi (by decide), bd_s, bd_s]
    by_cases e : v 19 i = -5
    · rw [if_neg (fun z => z e), if_pos e, if_pos e, if_pos e, if_pos e]
      rcases (by omega : k = 0 ∨ k = 1 ∨ k = 2 ∨ k = 3) with rfl | rfl | rfl | rfl
      · rw [if_neg (by decide), e1]; rfl
      · rw [if_pos (by decide), if_neg (by decide), if_pos (by decide), e0]; rfl
      · rw [if_pos (by decide), if_pos (by decide), if_neg (by decide), if_neg (by decide)]
        by_cases e2 : bkS (v 19) (plc i) (qrt i) (stpN K T B (plc i) n) 4 = -5
        · rw [if_neg (fun z => z e2), e1, if_pos e2]; rfl
        · rw [if_pos e2, e0, if_neg e2]; rfl
      · rw [if_pos (by decide), if_pos (by decide), if_neg (by decide), if_pos (by decide)]
        by_cases e2 : bkS (v 19) (plc i) (qrt i) (stpN K T B (plc i) n) 4 = -6
        · rw [if_neg (fun z => z e2), e1, if_pos e2]; rfl
        · rw [if_pos e2, e0, if_neg e2]; rfl
    · rw [if_pos e, if_neg e, if_neg e, if_neg e, if_neg e]
      rcases (by omega : k = 0 ∨ k = 1 ∨ k = 2 ∨ k = 3) with rfl | rfl | rfl | rfl
      · rw [if_neg (by decide), e0]; rfl
      · rw [if_pos (by decide), if_neg (by decide), if_neg (by decide)]
        by_cases e2 : v 19 i = nI (lookN K C T B (plc i) (qrt i) n)
        · rw [if_pos e2, e0, if_pos e2]; rfl
        · rw [if_neg e2, e1, if_neg e2]; rfl
      · rw [if_pos (by decide), if_pos (by decide), if_pos rfl, e0]; rfl
      · rw [if_pos (by decide), if_pos (by decide), if_pos rfl, e0]; rfl
  · show fX12_harm_L18 F v (nI k) (fun y3 => some y3) (m + 1) (nI (fb_sm (fun c => hmI (v 19) K C T B n k (plc c) (qrt c)) 256)) (nI 256) = _
    rw [fX12_harm_L18, nb_s, if_pos (by decide)]
theorem hm_cong {ph ph' : Nat → Int32} (h : ∀ c, c < 256 → ph c = ph' c) (k : Nat) {p q : Nat} (hp : p < 64) (hq : q < 4) : hmI ph K C T B n k p q = hmI ph' K C T B n k p q := by
  have e : bkP ph K T B n p q = bkP ph' K T B n p q := bkS_cong hp (fun r hr => h _ (cel_p p hp r hr).1) _ _ 4 (Nat.le_refl _)
  unfold hmI
  rw [h _ (cel_p p hp q hq).1, e]
theorem t_harm : st_harm (Rel PP WP) := by
  intro u v x1 hR
  obtain ⟨n, K, C, T, H, B, S, hOK, hP, hC, hM, hS, hPl, hPh, hRest⟩ := id hR
  have ei : fX12_in x1.toInt64 (0 : Int64) (3 : Int64) = fX11_within x1 0 (nI 3) := r_inw x1 0 3
  have hv : ∀ c, c < 256 → gdp (v 19 c) := fun c hc => by rw [(hPh c hc).1]; exact (hPh c hc).2
  have hg : ∀ c, c < 256 → gdp (u.1 15 c) := fun c hc => (hPh c hc).2
  have hvu : ∀ k, fb_sm (fun c => hmI (v 19) K C T B n k (plc c) (qrt c)) 256 = fb_sm (fun c => hmI (u.1 15) K C T B n k (plc c) (qrt c)) 256 := fun k => fb_sm_cong (fun c hc => hm_cong (fun d hd => (hPh d hd).1) k (cel_c c hc).1 (cel_c c hc).2.1)
  rcases w0 x1 3 (by decide) with h | ⟨h, k, hk, rfl⟩
  · refine ⟨300, -1, ?_, ?_, hR⟩
    · unfold fX11_harm
      have n0 : ¬ x1 = 0 := fun z => by rw [z] at h; exact absurd h (by decide)
      have n1 : ¬ x1 = 1 := fun z => by rw [z] at h; exact absurd h (by decide)
      have n2 : ¬ x1 = 2 := fun z => by rw [z] at h; exact absurd h (by decide)
      have n3 : ¬ x1 = 3 := fun z => by rw [z] at h; exact absurd h (by decide)
      rw [if_neg n0, if_neg n1, if_neg n2, if_neg n3]
    · unfold fX12_harm; rw [ei, h]; rfl
  · refine ⟨300, nI (fb_sm (fun c => hmI (u.1 15) K C T B n k (plc c) (qrt c)) 256), ?_, ?_, hR⟩
    · unfold fX11_harm
      rcases (by omega : k = 0 ∨ k = 1 ∨ k = 2 ∨ k = 3) with rfl | rfl | rfl | rfl
      · rw [if_pos (by decide), c_sm (by decide), bd_s]
        refine congrArg (fun z => some (nI z)) (fb_sm_cong (fun c hc => ?_))
        unfold hmI; rw [if_pos rfl, (cel_c c hc).2.2]
      · rw [if_neg (by decide), if_pos (by decide), c_off hP hC (by decide), bd_s, sum4 (fun p q => hmI (u.1 15) K C T B n 1 p q)]
      · rw [if_neg (by decide), if_neg (by decide), if_pos (by decide), c_tb hP hC hg (by decide), bd_s, sum4 (fun p q => hmB (u.1 15) K T B n (-5) p q)]
        rfl
      · rw [if_neg (by decide), if_neg (by decide), if_neg (by decide), if_pos (by decide), c_tb hP hC hg (by decide), bd_s, sum4 (fun p q => hmB (u.1 15) K T B n (-6) p q)]
        rfl
    · unfold fX12_harm; rw [ei, h, bd_s, if_pos (by decide), r_harm hP hM hv (by decide) hk, hvu]
end HARM
