/-! mend -/
theorem sg_comm {σ : Nat → Nat → Int32} {i j : Nat} (h : i ≠ j) (f g : Nat → Int32) : sg (sg σ i f) j g = sg (sg σ j g) i f := by
  funext k
  unfold sg
  cases h1 : Nat.beq k i <;> cases h2 : Nat.beq k j <;> try rfl
  exact absurd ((Nat.eq_of_beq_eq_true h1).symm.trans (Nat.eq_of_beq_eq_true h2)) h
section MEND
variable {PP : PPT} {WP : WPT}
variable {σ v : Nat → Nat → Int32} {sh : Nat → Option Nat} {Z : ZT} {n : Nat} {K C T H : Nat → Nat} {B : Nat → Nat → Bool} {F : Nat}
def nvP (ph : Nat → Int32) (K T : Nat → Nat) (B : Nat → Nat → Bool) (n p q : Nat) : Int32 := if ph (cel p q) = -5 then (if bkP ph K T B n p q < 0 then ph (cel p q) else bkP ph K T B n p q) else ph (cel p q)
def ncP (ph : Nat → Int32) (K T : Nat → Nat) (B : Nat → Nat → Bool) (n p q : Nat) : Nat := if ph (cel p q) = -5 then (if bkP ph K T B n p q < 0 then 0 else 1) else 0
def fbV (ph : Nat → Int32) (K T : Nat → Nat) (B : Nat → Nat → Bool) (n p q : Nat) : Int32 := if ph (cel p q) = -5 then bkP ph K T B n p q else -2
theorem c_mpA (hp : PicOK n K C T H) {ph : Nat → Int32} (hg : ∀ c, c < 256 → gdp (σ 15 c)) (hF : 300 ≤ F) {p : Nat} (hpp : p < 64) (hph : ∀ r, r < 4 → σ 15 (cel p r) = ph (cel p r)) (kx : (Nat → Nat → Int32) → Option (Int32 × (Nat → Nat → Int32))) : fX3_mendPlace_L2 F sh Z (nI p) (nI (stpN K T B p n)) kx F 0 σ = kx (sg σ 16 (fa_fill (fbV ph K T B n p) (σ 16) 4)) := by
  have ht := stpN_le (B := B) hp p n (Nat.le_refl n)
  have := lp_up (fun m (z : Int32 × (Nat → Nat → Int32)) => fX3_mendPlace_L2 F sh Z (nI p) (nI (stpN K T B p n)) kx m z.1 z.2) (fun i => (nI i, sg σ 16 (fa_fill (fbV ph K T B n p) (σ 16) i))) (kx (sg σ 16 (fa_fill (fbV ph K T B n p) (σ 16) 4))) 4 (fun m i hi => ?_) (fun m => ?_) F 0 (Nat.zero_le _) (by omega)
  · dsimp only at this
    rw [fa_fill_0, sg_same] at this
    exact this
  · show fX3_mendPlace_L2 F sh Z (nI p) (nI (stpN K T B p n)) kx (m + 1) (nI i) (sg σ 16 (fa_fill (fbV ph K T B n p) (σ 16) i)) = fX3_mendPlace_L2 F sh Z (nI p) (nI (stpN K T B p n)) kx m (nI (i + 1)) (sg σ 16 (fa_fill (fbV ph K T B n p) (σ 16) (i + 1)))
    have hs := c_smeared (sh := sh) (Z := Z) (σ := sg σ 16 (fa_fill (fbV ph K T B n p) (σ 16) i)) (show 6 ≤ F by omega) hpp hi
    have hb := c_back (sh := sh) (Z := Z) (σ := sg σ 16 (fa_fill (fbV ph K T B n p) (σ 16) i)) hg (show 6 ≤ F by omega) hpp hi ht
    have ef : fbV ph K T B n p i = if σ 15 (cel p i) = -5 then bkS (σ 15) p i (stpN K T B p n) 4 else -2 := by
      unfold fbV
      rw [hph i hi, bkS_cong hpp hph i (stpN K T B p n) 4 (Nat.le_refl _)]; rfl
    rw [fX3_mendPlace_L2, nb_s, if_neg (show ¬ (4 : Int32) ≤ nI i from nI_ge (b := 4) hi (by decide)), hs, bd_s, ← fa_fill_succ, ef]
    unfold fX3_mendPlace_J33
    by_cases e : σ 15 (cel p i) = -5
    · rw [if_pos (show sg σ 16 (fa_fill (fbV ph K T B n p) (σ 16) i) 15 (cel p i) = -5 from e), if_neg (by decide), hb, bd_s, aS_n hi (by decide), nm_s, sg_at, sg_sg, nI_clamp (by omega), nI_1, if_pos e]; rfl
    · rw [if_neg (show ¬ sg σ 16 (fa_fill (fbV ph K T B n p) (σ 16) i) 15 (cel p i) = -5 from e), if_pos rfl, aS_n hi (by decide), nm_s, sg_at, sg_sg, nI_clamp (by omega), nI_1, if_neg e]
  · show fX3_mendPlace_L2 F sh Z (nI p) (nI (stpN K T B p n)) kx (m + 1) (nI 4) (sg σ 16 (fa_fill (fbV ph K T B n p) (σ 16) 4)) = _
    rw [fX3_mendPlace_L2, nb_s, if_pos (by decide)]
theorem c_mpB {ph : Nat → Int32} (hF : 300 ≤ F) {p : Nat} (hpp : p < 64) (hph : ∀ r, r < 4 → σ 15 (cel p r) = ph (cel p r)) (h16 : ∀ q, q < 4 → σ 16 q = fbV ph K T B n p q) : fX3_mendPlace_L45 F sh Z (nI p) (fun y2 σ3 => some (y2, σ3)) F 0 0 σ = some (nI (fb_sm (ncP ph K T B n p) 4), sg σ 15 (wrQ (nvP ph K T B n) (σ 15) p 4)) := by
  have := lp_up (fun m (z : Int32 × Int32 × (Nat → Nat → Int32)) => fX3_mendPlace_L45 F sh Z (nI p) (fun y2 σ3 => some (y2, σ3)) m z.1 z.2.1 z.2.2) (fun i => (nI (fb_sm (ncP ph K T B n p) i), nI i, sg σ 15 (wrQ (nvP ph K T B n) (σ 15) p i))) (some (nI (fb_sm (ncP ph K T B n p) 4), sg σ 15 (wrQ (nvP ph K T B n) (σ 15) p 4))) 4 (fun m i hi => ?_) (fun m => ?_) F 0 (Nat.zero_le _) (by omega)
  · dsimp only [wrQ] at this
    rw [sg_same] at this
    exact this
  · show fX3_mendPlace_L45 F sh Z (nI p) (fun y2 σ3 => some (y2, σ3)) (m + 1) (nI (fb_sm (ncP ph K T B n p) i)) (nI i) (sg σ 15 (wrQ (nvP ph K T B n) (σ 15) p i)) = fX3_mendPlace_L45 F sh Z (nI p) (fun y2 σ3 => some (y2, σ3)) m (nI (fb_sm (ncP ph K T B n p) (i + 1))) (nI (i + 1)) (sg σ 15 (wrQ (nvP ph K T B n) (σ 15) p (i + 1)))
    obtain ⟨k1, k2, k3⟩ := cel_p p hpp i hi
    have e16 : sg σ 15 (wrQ (nvP ph K T B n) (σ 15) p i) 16 i = fbV ph K T B n p i := h16 i hi
    have eat : wrQ (nvP ph K T B n) (σ 15) p i (cel p i) = ph (cel p i) := by
      rw [wrQ_at _ _ hpp k1 i (by omega), if_neg (by omega), hph i hi]
    rw [fX3_mendPlace_L45, nb_s, if_neg (show ¬ (4 : Int32) ≤ nI i from nI_ge (b := 4) hi (by decide)), aI_n hi (by decide), e16, fb_sm_succ _ i]
    unfold fX3_mendPlace_J82
    have ew : wrQ (nvP ph K T B n) (σ 15) p (i + 1) = upd (wrQ (nvP ph K T B n) (σ 15) p i) (cel p i) (nvP ph K T B n p i) := rfl
    by_cases e : ph (cel p i) = -5
    · have ef : fbV ph K T B n p i = bkP ph K T B n p i := by unfold fbV; rw [if_pos e]
      by_cases e2 : bkP ph K T B n p i < 0
      · have en : nvP ph K T B n p i = ph (cel p i) := by unfold nvP; rw [if_pos e, if_pos e2]
        have ec : ncP ph K T B n p i = 0 := by unfold ncP; rw [if_pos e, if_pos e2]
        rw [ef, if_pos e2, ew, en, fa_upd_same eat, ec, nI_1]; rfl
      · have en : nvP ph K T B n p i = bkP ph K T B n p i := by unfold nvP; rw [if_pos e, if_neg e2]
        have ec : ncP ph K T B n p i = 1 := by unfold ncP; rw [if_pos e, if_neg e2]
        rw [ef, if_neg e2, c_cell F (by omega) p hpp i hi, bd_s, aI_n hi (by decide), e16, ef, aS_n k1 (by decide), nm_s, sg_at, sg_sg, nI_clamp (by omega), ew, en, ec, nI_1, nI_1]
    · have ef : fbV ph K T B n p i = -2 := by unfold fbV; rw [if_neg e]
      have en : nvP ph K T B n p i = ph (cel p i) := by unfold nvP; rw [if_neg e]
      have ec : ncP ph K T B n p i = 0 := by unfold ncP; rw [if_neg e]
      rw [ef, if_pos (by decide), ew, en, fa_upd_same eat, ec, nI_1]; rfl
  · show fX3_mendPlace_L45 F sh Z (nI p) (fun y2 σ3 => some (y2, σ3)) (m + 1) (nI (fb_sm (ncP ph K T B n p) 4)) (nI 4) (sg σ 15 (wrQ (nvP ph K T B n) (σ 15) p 4)) = _
    rw [fX3_mendPlace_L45, nb_s, if_pos (by decide)]
theorem nvP_gd {ph : Nat → Int32} (hg : ∀ c, c < 256 → gdp (ph c)) {p q : Nat} (hp : p < 64) (hq : q < 4) : gdp (nvP ph K T B n p q) := by
  unfold nvP
  have h := hg _ (cel_p p hp q hq).1
  split
  · split
    · exact h
    · rename_i h2
      rcases bkS_val ph p q (stpN K T B p n) 4 with z | z | ⟨k, hk, z⟩
      · exact absurd (show bkP ph K T B n p q < 0 by unfold bkP; rw [z]; decide) h2
      · exact absurd (show bkP ph K T B n p q < 0 by unfold bkP; rw [z]; decide) h2
      · exact Or.inr ⟨k, hk, z⟩
  · exact h
theorem c_mendL (hp : PicOK n K C T H) (hc : CVs σ sh Z n K C T H B) (hg : ∀ c, c < 256 → gdp (σ 15 c)) (hF : 300 ≤ F) : ∀ N p G, p ≤ 64 → 64 - p < N → ∃ G', fX3_mendAll_L4 F sh Z (fun y1 σ2 => some (y1, σ2)) N (nI (fb_sm (fun p => fb_sm (ncP (σ 15) K T B n p) 4) p)) (nI p) (sg (sg σ 15 (wrP (nvP (σ 15) K T B n) (σ 15) p)) 16 G) = some (nI (fb_sm (fun p => fb_sm (ncP (σ 15) K T B n p) 4) 64), sg (sg σ 15 (wrP (nvP (σ 15) K T B n) (σ 15) 64)) 16 G') := by
  intro N
  induction N with
  | zero => intro p G _ h; omega
  | succ N ih =>
    intro p G hpp hN
    rw [fX3_mendAll_L4, nb_s]
    rcases Nat.lt_or_ge p 64 with h | h
    · have hc2 : CVs (sg (sg σ 15 (wrP (nvP (σ 15) K T B n) (σ 15) p)) 16 G) sh Z n K C T H B := hc
      have hph : ∀ r, r < 4 → wrP (nvP (σ 15) K T B n) (σ 15) p (cel p r) = σ 15 (cel p r) := fun r hr => by
        obtain ⟨k1, k2, k3⟩ := cel_p p h r hr
        rw [wrP_at _ _ k1 p (by omega), if_neg (by omega)]
      have hg2 : ∀ c, c < 256 → gdp (wrP (nvP (σ 15) K T B n) (σ 15) p c) := fun c hc' => by
        rw [wrP_at _ _ hc' p (by omega)]
        split
        · exact nvP_gd hg (cel_c c hc').1 (cel_c c hc').2.1
        · exact hg c hc'
      rw [if_neg (show ¬ (64 : Int32) ≤ nI p from nI_ge (b := 64) h (by decide)), c_step hp hc2 (by omega) h, bd_s]
      have hA := c_mpA (B := B) (sh := sh) (Z := Z) (σ := sg (sg σ 15 (wrP (nvP (σ 15) K T B n) (σ 15) p)) 16 G) (ph := σ 15) hp hg2 hF h hph (fun σ1 => fX3_mendPlace_L45 F sh Z (nI p) (fun y2 σ3 => some (y2, σ3)) F 0 0 σ1)
      have hB := c_mpB (K := K) (T := T) (B := B) (n := n) (F := F) (sh := sh) (Z := Z) (σ := sg (sg (sg σ 15 (wrP (nvP (σ 15) K T B n) (σ 15) p)) 16 G) 16 (fa_fill (fbV (σ 15) K T B n p) (sg (sg σ 15 (wrP (nvP (σ 15) K T B n) (σ 15) p)) 16 G 16) 4)) (ph := σ 15) hF h hph (fun q hq => by rw [sg_at]; exact fa_fill_in hq)
      have hM : fX3_mendPlace F sh Z (sg (sg σ 15 (wrP (nvP (σ 15) K T B n) (σ 15) p)) 16 G) (nI p) (nI (stpN K T B p n)) = some (nI (fb_sm (ncP (σ 15) K T B n p) 4), sg (sg σ 15 (wrP (nvP (σ 15) K T B n) (σ 15) (p + 1))) 16 (fa_fill (fbV (σ 15) K T B n p) (sg (sg σ 15 (wrP (nvP (σ 15) K T B n) (σ 15) p)) 16 G 16) 4)) := by
        unfold fX3_mendPlace
        refine hA.trans (hB.trans ?_)
        rw [sg_sg, sg_comm (σ := sg σ 15 (wrP (nvP (σ 15) K T B n) (σ 15) p)) (by decide : (16 : Nat) ≠ 15), sg_sg]
        rfl
      rw [hM, bd_s]
      obtain ⟨G', hG⟩ := ih (p + 1) (fa_fill (fbV (σ 15) K T B n p) (sg (sg σ 15 (wrP (nvP (σ 15) K T B n) (σ 15) p)) 16 G 16) 4) (by omega) (by omega)
      refine ⟨G', ?_⟩
      rw [← hG, fb_sm_succ _ p, ← nI_add, nI_succ]
    · have e : p = 64 := by omega
      subst e
      rw [if_pos (by decide)]
      exact ⟨G, rfl⟩
theorem r_mendA (hp : PicOK n K C T H) (hm : MVs v n K C T H B) (hg : ∀ c, c < 256 → gdp (v 19 c)) (hF : 300 ≤ F) (kx : (Nat → Nat → Int32) → Option (Int32 × (Nat → Nat → Int32))) : fX12_mend_L4 F 0 kx F 0 v = kx (sg v 20 (fa_fill (fun c => if v 19 c = -5 then bkP (v 19) K T B n (plc c) (qrt c) else v 19 c) (v 20) 256)) := by
  have := lp_up (fun m (z : Int32 × (Nat → Nat → Int32)) => fX12_mend_L4 F 0 kx m z.1 z.2) (fun i => (nI i, sg v 20 (fa_fill (fun c => if v 19 c = -5 then bkP (v 19) K T B n (plc c) (qrt c) else v 19 c) (v 20) i))) (kx (sg v 20 (fa_fill (fun c => if v 19 c = -5 then bkP (v 19) K T B n (plc c) (qrt c) else v 19 c) (v 20) 256))) 256 (fun m i hi => ?_) (fun m => ?_) F 0 (Nat.zero_le _) (by omega)
  · dsimp only at this
    rw [fa_fill_0, sg_same] at this
    exact this
  · show fX12_mend_L4 F 0 kx (m + 1) (nI i) (sg v 20 (fa_fill (fun c => if v 19 c = -5 then bkP (v 19) K T B n (plc c) (qrt c) else v 19 c) (v 20) i)) = fX12_mend_L4 F 0 kx m (nI (i + 1)) (sg v 20 (fa_fill (fun c => if v 19 c = -5 then bkP (v 19) K T B n (plc c) (qrt c) else v 19 c) (v 20) (i + 1)))
    have hb := r_back (v := sg v 20 (fa_fill (fun c => if v 19 c = -5 then bkP (v 19) K T B n (plc c) (qrt c) else v 19 c) (v 20) i)) (F := F) (c := i) hp hm hg hF hi
    rw [fX12_mend_L4, nb_s, if_neg (show ¬ (256 : Int32) ≤ nI i from nI_ge (b := 256) hi (by decide)), aI_n hi (by decide), ← fa_fill_succ]
    unfold fX12_mend_J41
    by_cases e : v 19 i = -5
    · rw [if_neg (fun z => z e), hb, bd_s, aS_n hi (by decide), nm_s, sg_at, sg_sg, nI_clamp (by omega), nI_1, if_pos e]; rfl
    · rw [if_pos (show ¬ sg v 20 (fa_fill (fun c => if v 19 c = -5 then bkP (v 19) K T B n (plc c) (qrt c) else v 19 c) (v 20) i) 19 i = -5 from e), aI_n hi (by decide), aS_n hi (by decide), nm_s, sg_at, sg_sg, nI_clamp (by omega), nI_1, if_neg e]; rfl
  · show fX12_mend_L4 F 0 kx (m + 1) (nI 256) (sg v 20 (fa_fill (fun c => if v 19 c = -5 then bkP (v 19) K T B n (plc c) (qrt c) else v 19 c) (v 20) 256)) = _
    rw [fX12_mend_L4, nb_s, if_pos (by decide)]
theorem r_mendB (hF : 300 ≤ F) (h20 : ∀ c, c < 256 → v 20 c = if v 19 c = -5 then bkP (v 19) K T B n (plc c) (qrt c) else v 19 c) : fX12_mend_L50 F (fun y2 σ3 => some (y2, σ3)) F 0 0 v = some (nI (fb_sm (fun c => ncP (v 19) K T B n (plc c) (qrt c)) 256), sg v 19 (fa_fill (fun c => nvP (v 19) K T B n (plc c) (qrt c)) (v 19) 256)) := by
  have := lp_up (fun m (z : Int32 × Int32 × (Nat → Nat → Int32)) => fX12_mend_L50 F (fun y2 σ3 => some (y2, σ3)) m z.1 z.2.1 z.2.2) (fun i => (nI (fb_sm (fun c => ncP (v 19) K T B n (plc c) (qrt c)) i), nI i, sg v 19 (fa_fill (fun c => nvP (v 19) K T B n (plc c) (qrt c)) (v 19) i))) (some (nI (fb_sm (fun c => ncP (v 19) K T B n (plc c) (qrt c)) 256), sg v 19 (fa_fill (fun c => nvP (v 19) K T B n (plc c) (qrt c)) (v 19) 256))) 256 (fun m i hi => ?_) (fun m => ?_) F 0 (Nat.zero_le _) (by omega)
  · dsimp only at this
    rw [fa_fill_0, sg_same] at this
    exact this
  · show fX12_mend_L50 F (fun y2 σ3 => some (y2, σ3)) (m + 1) (nI (fb_sm (fun c => ncP (v 19) K T B n (plc c) (qrt c)) i)) (nI i) (sg v 19 (fa_fill (fun c => nvP (v 19) K T B n (plc c) (qrt c)) (v 19) i)) = fX12_mend_L50 F (fun y2 σ3 => some (y2, σ3)) m (nI (fb_sm (fun c => ncP (v 19) K T B n (plc c) (qrt c)) (i + 1))) (nI (i + 1)) (sg v 19 (fa_fill (fun c => nvP (v 19) K T B n (plc c) (qrt c)) (v 19) (i + 1)))
    obtain ⟨j1, j2, j3⟩ := cel_c i hi
    have e19 : sg v 19 (fa_fill (fun c => nvP (v 19) K T B n (plc c) (qrt c)) (v 19) i) 19 i = v 19 i := by
      rw [sg_at, fa_fill_out (Nat.le_refl i)]
    have eat : fa_fill (fun c => nvP (v 19) K T B n (plc c) (qrt c)) (v 19) i i = v 19 i := fa_fill_out (Nat.le_refl i)
    have e20 : sg v 19 (fa_fill (fun c => nvP (v 19) K T B n (plc c) (qrt c)) (v 19) i) 20 i = if v 19 i = -5 then bkP (v 19) K T B n (plc i) (qrt i) else v 19 i := h20 i hi
    rw [fX12_mend_L50, nb_s, if_neg (show ¬ (256 : Int32) ≤ nI i from nI_ge (b := 256) hi (by decide)), aI_n hi (by decide), e19, ← fa_fill_succ, fb_sm_succ _ i]
    unfold fX12_mend_J92
    by_cases e : v 19 i = -5
    · rw [if_neg (fun z => z e), aI_n hi (by decide), e20, if_pos e]
      by_cases e2 : bkP (v 19) K T B n (plc i) (qrt i) < 0
      · have en : nvP (v 19) K T B n (plc i) (qrt i) = v 19 i := by unfold nvP; rw [j3, if_pos e, if_pos e2]
        have ec : ncP (v 19) K T B n (plc i) (qrt i) = 0 := by unfold ncP; rw [j3, if_pos e, if_pos e2]
        rw [if_pos e2, en, fa_upd_same eat, ec, nI_1]; rfl
      · have en : nvP (v 19) K T B n (plc i) (qrt i) = bkP (v 19) K T B n (plc i) (qrt i) := by unfold nvP; rw [j3, if_pos e, if_neg e2]
        have ec : ncP (v 19) K T B n (plc i) (qrt i) = 1 := by unfold ncP; rw [j3, if_pos e, if_neg e2]
        rw [if_neg e2, aI_n hi (by decide), e20, if_pos e, aS_n hi (by decide), nm_s, sg_at, sg_sg, nI_clamp (by omega), en, ec, nI_1, nI_1]
    · have en : nvP (v 19) K T B n (plc i) (qrt i) = v 19 i := by unfold nvP; rw [j3, if_neg e]
      have ec : ncP (v 19) K T B n (plc i) (qrt i) = 0 := by unfold ncP; rw [j3, if_neg e]
      rw [if_pos e, en, fa_upd_same eat, ec, nI_1]; rfl
  · show fX12_mend_L50 F (fun y2 σ3 => some (y2, σ3)) (m + 1) (nI (fb_sm (fun c => ncP (v 19) K T B n (plc c) (qrt c)) 256)) (nI 256) (sg v 19 (fa_fill (fun c => nvP (v 19) K T B n (plc c) (qrt c)) (v 19) 256)) = _
    rw [fX12_mend_L50, nb_s, if_pos (by decide)]
theorem nv_cong {ph ph' : Nat → Int32} (h : ∀ c, c < 256 → ph c = ph' c) {p q : Nat} (hp : p < 64) (hq : q < 4) : nvP ph K T B n p q = nvP ph' K T B n p q ∧ ncP ph K T B n p q = ncP ph' K T B n p q := by
  have e : bkP ph K T B n p q = bkP ph' K T B n p q := bkS_cong hp (fun r hr => h _ (cel_p p hp r hr).1) _ _ 4 (Nat.le_refl _)
  unfold nvP ncP
  rw [h _ (cel_p p hp q hq).1, e]
  exact ⟨rfl, rfl⟩
theorem t_mend : st_mend (Rel PP WP) := by
  intro u v hR
  obtain ⟨n, K, C, T, H, B, S, hOK, hP, hC, hM, hS, hPl, hPh, hRest⟩ := id hR
  have hv : ∀ c, c < 256 → gdp (v 19 c) := fun c hc => by rw [(hPh c hc).1]; exact (hPh c hc).2
  have hg : ∀ c, c < 256 → gdp (u.1 15 c) := fun c hc => (hPh c hc).2
  have hcg : ∀ c, c < 256 → nvP (v 19) K T B n (plc c) (qrt c) = nvP (u.1 15) K T B n (plc c) (qrt c) ∧ ncP (v 19) K T B n (plc c) (qrt c) = ncP (u.1 15) K T B n (plc c) (qrt c) := fun c hc => nv_cong (fun d hd => (hPh d hd).1) (cel_c c hc).1 (cel_c c hc).2.1
  obtain ⟨G', hG⟩ := c_mendL hP hC hg (show 300 ≤ 300 by decide) 300 0 (u.1 16) (by omega) (by omega)
  have eG : fX11_mend 300 u.2.1 u.2.2.2 u.1 = some (nI (fb_sm (fun p => fb_sm (ncP (u.1 15) K T B n p) 4) 64), sg (sg u.1 15 (wrP (nvP (u.1 15) K T B n) (u.1 15) 64)) 16 G') := by
    unfold fX11_mend fX3_mendAll
    have e : sg (sg u.1 15 (wrP (nvP (u.1 15) K T B n) (u.1 15) 0)) 16 (u.1 16) = u.1 := by
      show sg (sg u.1 15 (u.1 15)) 16 (u.1 16) = u.1
      rw [sg_same, sg_same]
    rw [e] at hG
    have hG2 : fX3_mendAll_L4 300 u.2.1 u.2.2.2 (fun y1 σ2 => some (y1, σ2)) 300 0 0 u.1 = some (nI (fb_sm (fun p => fb_sm (ncP (u.1 15) K T B n p) 4) 64), sg (sg u.1 15 (wrP (nvP (u.1 15) K T B n) (u.1 15) 64)) 16 G') := hG
    rw [hG2]; rfl
  refine ⟨300, _, _, sg (sg v 20 (fa_fill (fun c => if v 19 c = -5 then bkP (v 19) K T B n (plc c) (qrt c) else v 19 c) (v 20) 256)) 19 (fa_fill (fun c => nvP (v 19) K T B n (plc c) (qrt c)) (v 19) 256), eG, ?_, ?_⟩
  · unfold fX12_mend
    rw [r_mendA hP hM hv (by decide)]
    have hB := r_mendB (v := sg v 20 (fa_fill (fun c => if v 19 c = -5 then bkP (v 19) K T B n (plc c) (qrt c) else v 19 c) (v 20) 256)) (F := 300) (K := K) (T := T) (B := B) (n := n) (by decide) (fun c hc => show fa_fill (fun c => if v 19 c = -5 then bkP (v 19) K T B n (plc c) (qrt c) else v 19 c) (v 20) 256 c = (if v 19 c = -5 then bkP (v 19) K T B n (plc c) (qrt c) else v 19 c) from fa_fill_in hc)
    refine hB.trans ?_
    have es : fb_sm (fun c => ncP (v 19) K T B n (plc c) (qrt c)) 256 = fb_sm (fun p => fb_sm (ncP (u.1 15) K T B n p) 4) 64 := by
      rw [sum4 (fun p q => ncP (u.1 15) K T B n p q)]
      exact fb_sm_cong (fun c hc => (hcg c hc).2)
    rw [← es]; rfl
  · refine ⟨n, K, C, T, H, B, S, hOK, hP, hC, hM, hS, hPl, ?_, hRest⟩
    intro c hc
    have e1 : wrP (nvP (u.1 15) K T B n) (u.1 15) 64 c = nvP (u.1 15) K T B n (plc c) (qrt c) := by
      rw [wrP_at _ _ hc 64 (Nat.le_refl _), if_pos (cel_c c hc).1]
    have e2 : fa_fill (fun c => nvP (v 19) K T B n (plc c) (qrt c)) (v 19) 256 c = nvP (v 19) K T B n (plc c) (qrt c) := fa_fill_in hc
    refine ⟨e2.trans ((hcg c hc).1.trans e1.symm), ?_⟩
    have := nvP_gd (K := K) (T := T) (B := B) (n := n) hg (cel_c c hc).1 (cel_c c hc).2.1
    rw [← e1] at this
    exact this
end MEND
