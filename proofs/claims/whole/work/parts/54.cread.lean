/-! the class: what it reads, and whether there are DAYS at all -/
def CS (σ : Nat → Nat → Int32) (n : Nat) (A W R : Nat → Nat) (S : Nat) : Prop := σ 38 0 = nI n ∧ σ 36 0 = nI (2 ^ n - 1) ∧ σ 34 0 = nI S ∧ ∀ s, s < n → σ 5 s = nI (A s) ∧ σ 6 s = nI (W s) ∧ σ 7 s = nI (R s)
theorem CS_to {σ σ' : Nat → Nat → Int32} {n : Nat} {A W R : Nat → Nat} {S : Nat} (h : CS σ n A W R S) (h38 : σ' 38 = σ 38) (h36 : σ' 36 = σ 36) (h34 : σ' 34 = σ 34) (h5 : σ' 5 = σ 5) (h6 : σ' 6 = σ 6) (h7 : σ' 7 = σ 7) : CS σ' n A W R S := by
  unfold CS
  rw [h38, h36, h34, h5, h6, h7]; exact h
theorem ez_I {n : Nat} (hn : n ≤ 10) : ((1 : Int32) <<< (nI n &&& 31)) - (1 : Int32) = nI (2 ^ n - 1) := by
  have hp0 := Nat.two_pow_pos n
  rw [sh1 (by omega)]
  obtain ⟨y, hy⟩ : ∃ y, 2 ^ n = y + 1 := ⟨2 ^ n - 1, by omega⟩
  rw [hy, nI_pred]; rfl
section CR
variable {sh : Nat → Option Nat} {Z : ZT} {F n : Nat} {K C T H : Nat → Nat} {B : Nat → Nat → Bool} {S : Nat}
theorem c_shAt {σ : Nat → Nat → Int32} (hp : PicOK n K C T H) (hc : CVs σ sh Z n K C T H B) {s : Nat} (hs : s < n) : ∃ q, fX4_shapeOf sh Z σ (nI s) = some (some q) ∧ ∀ p, p < 64 → bL (Z q).2.2.1 p = B s p := by
  have hn := hp.1
  obtain ⟨q0, h0, -, -, -, hB, -⟩ := hc.2 s hs
  rcases c_shapeOf hp hc (nI s) with ⟨h, -⟩ | ⟨-, s', q, h1, h2, h3, h4⟩
  · exfalso
    obtain ⟨m, rfl⟩ : ∃ m, n = m + 1 := ⟨n - 1, by omega⟩
    rw [nI_pred, c_within, decide_eq_true (show (0 : Int32) ≤ nI s ∧ nI s ≤ nI m from ⟨nI_pos' (by omega), nI_le (by omega) (by omega)⟩)] at h
    cases h
  · have e : s = s' := (nI_eq (by omega) (by omega)).mp h2
    subst e
    rw [h0] at h3
    cases h3
    exact ⟨q0, h4, hB⟩
theorem c_read (hF : 400 ≤ F) (hp : PicOK n K C T H) {σ : Nat → Nat → Int32} (hc : CVs σ sh Z n K C T H B) (h34 : σ 34 0 = nI S) : ∃ σ' : Nat → Nat → Int32, fX10_read F sh Z σ = some σ' ∧ (∀ j, j ≠ 5 → j ≠ 6 → j ≠ 7 → j ≠ 36 → j ≠ 38 → σ' j = σ j) ∧ CS σ' n (ahd H B) (wgt B) (rch B) S := by
  have hn := hp.1
  unfold fX10_read fX4_shapesTold
  rw [bd_s, hc.1, nm_s]
  show ∃ σ' : Nat → Nat → Int32, (nm (sg (sg σ 38 (fun _ => nI n)) 36 (fun _ => ((1 : Int32) <<< (nI n &&& 31)) - (1 : Int32))) fun σ3 => fX10_read_L22 F sh Z (fun σ4 => some σ4) F (0 : Int32) σ3) = some σ' ∧ _
  rw [ez_I hn, nm_s]
  have key : ∀ N i (τ : Nat → Nat → Int32), (∀ j, j ≠ 5 → j ≠ 6 → j ≠ 7 → τ j = sg (sg σ 38 (fun _ => nI n)) 36 (fun _ => nI (2 ^ n - 1)) j) → (∀ s, s < i → τ 5 s = nI (ahd H B s) ∧ τ 6 s = nI (wgt B s) ∧ τ 7 s = nI (rch B s)) → i ≤ n → n - i < N → ∃ σ' : Nat → Nat → Int32, fX10_read_L22 F sh Z (fun σ4 => some σ4) N (nI i) τ = some σ' ∧ (∀ j, j ≠ 5 → j ≠ 6 → j ≠ 7 → σ' j = sg (sg σ 38 (fun _ => nI n)) 36 (fun _ => nI (2 ^ n - 1)) j) ∧ ∀ s, s < n → σ' 5 s = nI (ahd H B s) ∧ σ' 6 s = nI (wgt B s) ∧ σ' 7 s = nI (rch B s) := by
    intro N
    induction N with
    | zero => intro i τ _ _ _ h; omega
    | succ N ih =>
      intro i τ h1 h2 hi hN
      have e38 : τ 38 0 = nI n := by rw [h1 38 (by decide) (by decide) (by decide)]; rfl
      rw [fX10_read_L22, nb_s, e38]
      rcases Nat.lt_or_ge i n with q | q
      · rw [if_neg (nI_ge q (by omega))]
        have hc' : CVs τ sh Z n K C T H B := by
          show CV (τ 33 0) (τ 3) sh Z n K C T H B
          rw [h1 33 (by decide) (by decide) (by decide), h1 3 (by decide) (by decide) (by decide)]
          exact hc
        obtain ⟨a, ha, hB⟩ := c_shAt hp hc' q
        rw [ha, bd_s]
        show ∃ σ' : Nat → Nat → Int32, (bd (fX4_comesAfter F sh Z τ (nI i)) fun v7 => aS 10 (nI i) (nm (sg τ 5 (upd (τ 5) (nI i).toNatClampNeg v7)) fun σ9 => bd (fX6_cells sh Z a σ9) fun v10 => aS 10 (nI i) (nm (sg σ9 6 (upd (σ9 6) (nI i).toNatClampNeg v10)) fun σ12 => bd (fX6_reach F sh Z a σ12) fun v13 => aS 10 (nI i) (nm (sg σ12 7 (upd (σ12 7) (nI i).toNatClampNeg v13)) fun σ15 => fX10_read_J71 F sh Z (fun x2 σ => fX10_read_L22 F sh Z (fun σ4 => some σ4) N x2 σ) (nI i) σ15)))) = some σ' ∧ _
        rw [c_ahead hp hc' (by omega) q, bd_s, aS_n (by omega) (by decide), nm_s, c_cells hB, bd_s, aS_n (by omega) (by decide), nm_s, c_reach hB (by omega), bd_s, aS_n (by omega) (by decide), nm_s, nI_clamp (by omega)]
        unfold fX10_read_J71
        rw [nI_1]
        refine ih (i + 1) _ (fun j j5 j6 j7 => ?_) (fun s hs => ?_) (by omega) (by omega)
        · rw [sg_ne j7, sg_ne j6, sg_ne j5]; exact h1 j j5 j6 j7
        · show upd (τ 5) i _ s = _ ∧ upd (τ 6) i _ s = _ ∧ upd (τ 7) i _ s = _
          by_cases e : s = i
          · subst e
            exact ⟨pk_us, pk_us, pk_us⟩
          · rw [pk_un e, pk_un e, pk_un e]
            exact h2 s (by omega)
      · have e : i = n := by omega
        subst e
        rw [if_pos (nI_le q (by omega))]
        exact ⟨τ, rfl, h1, h2⟩
  obtain ⟨σ', g1, g2, g3⟩ := key F 0 _ (fun _ _ _ _ => rfl) (fun s hs => absurd hs (Nat.not_lt_zero s)) (Nat.zero_le _) (by omega)
  refine ⟨σ', g1, fun j j5 j6 j7 j36 j38 => ?_, ?_, ?_, ?_, g3⟩
  · rw [g2 j j5 j6 j7, sg_ne j36, sg_ne j38]
  · rw [g2 38 (by decide) (by decide) (by decide)]; rfl
  · rw [g2 36 (by decide) (by decide) (by decide)]; rfl
  · rw [g2 34 (by decide) (by decide) (by decide)]; exact h34
end CR
section CL
variable {sh : Nat → Option Nat} {Z : ZT} {F n : Nat} {A W R : Nat → Nat} {S : Nat}
theorem c_large (hF : 20 ≤ F) (hD : DOK n A W R S) {σ : Nat → Nat → Int32} (hc : CS σ n A W R S) : (fX10_isOneTooLarge F sh Z σ = some 1 ∧ ∃ s, s < n ∧ S < W s) ∨ (fX10_isOneTooLarge F sh Z σ = some 0 ∧ ∀ s, s < n → W s ≤ S) := by
  obtain ⟨hn, -, hW, -, hS⟩ := hD
  obtain ⟨c38, c36, c34, cs⟩ := hc
  unfold fX10_isOneTooLarge
  have key : ∀ N i, (∀ s, s < i → W s ≤ S) → i ≤ n → n - i < N → (fX10_isOneTooLarge_L2 F sh Z σ (some (0 : Int32)) N (nI i) = some 1 ∧ ∃ s, s < n ∧ S < W s) ∨ (fX10_isOneTooLarge_L2 F sh Z σ (some (0 : Int32)) N (nI i) = some 0 ∧ ∀ s, s < n → W s ≤ S) := by
    intro N
    induction N with
    | zero => intro i _ _ h; omega
    | succ N ih =>
      intro i h1 hi hN
      rw [fX10_isOneTooLarge_L2, nb_s, c38, c34]
      rcases Nat.lt_or_ge i n with q | q
      · have hWi := hW i q
        rw [if_neg (nI_ge q (by omega)), aI_n (by omega) (by decide), (cs i q).2.1]
        by_cases e : W i ≤ S
        · rw [if_pos (nI_le e (by omega)), nI_1]
          exact ih (i + 1) (fun s hs => by
            by_cases es : s = i
            · rw [es]; exact e
            · exact h1 s (by omega)) (by omega) (by omega)
        · rw [if_neg (nI_ge (by omega) (by omega))]
          exact Or.inl ⟨rfl, i, q, by omega⟩
      · have e : i = n := by omega
        subst e
        rw [if_pos (nI_le q (by omega))]
        exact Or.inr ⟨rfl, h1⟩
  exact key F 0 (fun s hs => absurd hs (Nat.not_lt_zero s)) (Nat.zero_le _) (by omega)
def gI (A : Nat → Nat) : Nat → Nat → Nat
  | 0, l => l
  | i + 1, l => if A i &&& gI A i l = 0 then clr (gI A i l) i else gI A i l
def gO (n : Nat) (A : Nat → Nat) : Nat → Nat
  | 0 => 2 ^ n - 1
  | r + 1 => gI A n (gO n A r)
theorem gI_le (A : Nat → Nat) (l : Nat) : ∀ i, gI A i l ≤ l := by
  intro i
  induction i with
  | zero => exact Nat.le_refl _
  | succ i ih =>
    unfold gI
    split
    · exact Nat.le_trans (clr_le _ _) ih
    · exact ih
theorem gO_lt (A : Nat → Nat) : ∀ r, gO n A r < 2 ^ n := by
  have := Nat.two_pow_pos n
  intro r
  induction r with
  | zero => unfold gO; omega
  | succ r ih => unfold gO; exact Nat.lt_of_le_of_lt (gI_le A _ n) ih
theorem gI_tb (A : Nat → Nat) {l : Nat} (hn : n ≤ 10) (hl : l < 2 ^ n) : ∀ i, i ≤ n → ∀ b, (gI A (i + 1) l).testBit b = true ↔ (gI A i l).testBit b = true ∧ ¬ (b = i ∧ A i &&& gI A i l = 0) := by
  intro i hi b
  have hlt := Nat.lt_of_le_of_lt (gI_le A l i) hl
  conv => lhs; unfold gI
  by_cases q : A i &&& gI A i l = 0
  · rw [if_pos q, clr_t hn hlt]
    constructor
    · intro ⟨h1, h2⟩; exact ⟨h1, fun z => h2 z.1⟩
    · intro ⟨h1, h2⟩; exact ⟨h1, fun z => h2 ⟨z, q⟩⟩
  · rw [if_neg q]
    constructor
    · intro h; exact ⟨h, fun z => q z.2⟩
    · intro h; exact h.1
theorem gI_sub (A : Nat → Nat) {l : Nat} (hn : n ≤ 10) (hl : l < 2 ^ n) {j : Nat} : ∀ d, j + d ≤ n + 1 → ∀ b, (gI A (j + d) l).testBit b = true → (gI A j l).testBit b = true := by
  intro d
  induction d with
  | zero => intro _ b h; exact h
  | succ d ih =>
    intro hd b h
    exact ih (by omega) b ((gI_tb A hn hl (j + d) (by omega) b).mp h).1
theorem cd_sub {x y : Nat} (h : ∀ i, x.testBit i = true → y.testBit i = true) : cd x ≤ cd y := by
  unfold cd
  rw [popF_ct, popF_ct]
  exact fb_ct_sub (fun k _ hk => h k hk)
def fixL (n : Nat) (A : Nat → Nat) (l : Nat) : Prop := ∀ s, s < n → l.testBit s = true → A s &&& l ≠ 0
theorem gI_fix (A : Nat → Nat) {l : Nat} (hn : n ≤ 10) (hl : l < 2 ^ n) (hf : fixL n A l) : ∀ i, i ≤ n → gI A i l = l := by
  intro i
  induction i with
  | zero => intro _; rfl
  | succ i ih =>
    intro hi
    apply tb_ext
    intro b
    apply Bool.eq_iff_iff.mpr
    rw [gI_tb A hn hl i (by omega) b, ih (by omega)]
    constructor
    · intro h; exact h.1
    · intro h
      refine ⟨h, fun z => ?_⟩
      exact hf i (by omega) (by rw [← z.1]; exact h) z.2
theorem gI_dec (A : Nat → Nat) {l : Nat} (hn : n ≤ 10) (hl : l < 2 ^ n) (hf : ¬ fixL n A l) : cd (gI A n l) + 1 ≤ cd l := by
  have : ∃ s, s < n ∧ l.testBit s = true ∧ A s &&& l = 0 := by
    rcases Classical.em (∃ s, s < n ∧ l.testBit s = true ∧ A s &&& l = 0) with q | q
    · exact q
    · exact absurd (fun s hs hb z => q ⟨s, hs, hb, z⟩) hf
  obtain ⟨s, hs, hb, h0⟩ := this
  have e1 : A s &&& gI A s l = 0 := by
    apply and0.mpr
    intro i hi
    apply ts_nt
    intro z
    have : l.testBit i = true := gI_sub A hn hl (j := 0) s (by omega) i (by rw [Nat.zero_add]; exact z)
    rw [and0.mp h0 i hi] at this
    cases this
  have e2 : ∀ b, (gI A n l).testBit b = true → (clr l s).testBit b = true := by
    intro b h
    have h1 := gI_sub A hn hl (j := s + 1) (n - (s + 1)) (by omega) b (by rw [show s + 1 + (n - (s + 1)) = n by omega]; exact h)
    have h2 := (gI_tb A hn hl s (by omega) b).mp h1
    refine (clr_t hn hl).mpr ⟨?_, fun z => h2.2 ⟨z, e1⟩⟩
    exact gI_sub A hn hl (j := 0) s (by omega) b (by rw [Nat.zero_add]; exact h2.1)
  have := cd_sub e2
  have := cd_clr10 hn hl hb
  omega
theorem gO_p (A : Nat → Nat) (hn : n ≤ 10) : ∀ r, cd (gO n A r) + r ≤ n ∨ fixL n A (gO n A r) := by
  intro r
  induction r with
  | zero => exact Or.inl (by show cd (2 ^ n - 1) + 0 ≤ n; rw [cd_all hn]; omega)
  | succ r ih =>
    have hl := gO_lt (n := n) A r
    rcases Classical.em (fixL n A (gO n A r)) with q | q
    · right
      show fixL n A (gI A n (gO n A r))
      rw [gI_fix A hn hl q n (Nat.le_refl n)]; exact q
    · left
      have := gI_dec A hn hl q
      show cd (gI A n (gO n A r)) + (r + 1) ≤ n
      rcases ih with h | h
      · omega
      · exact absurd h q
theorem gO_keep (A : Nat → Nat) (hn : n ≤ 10) {Y : Nat} (hY : Y < 2 ^ n) (h : ∀ s, s < n → Y.testBit s = true → ∃ i, (A s).testBit i = true ∧ Y.testBit i = true) : ∀ r b, Y.testBit b = true → (gO n A r).testBit b = true := by
  intro r
  induction r with
  | zero =>
    intro b hb
    show (2 ^ n - 1).testBit b = true
    rw [Nat.testBit_two_pow_sub_one]
    exact decide_eq_true (bit_lt hY hb)
  | succ r ih =>
    have hl := gO_lt (n := n) A r
    have : ∀ i, i ≤ n → ∀ b, Y.testBit b = true → (gI A i (gO n A r)).testBit b = true := by
      intro i
      induction i with
      | zero => intro _ b hb; exact ih b hb
      | succ i ih2 =>
        intro hi b hb
        refine (gI_tb A hn hl i (by omega) b).mpr ⟨ih2 (by omega) b hb, fun z => ?_⟩
        obtain ⟨j, j1, j2⟩ := h i (by omega) (by rw [← z.1]; exact hb)
        have := and0.mp z.2 j j1
        rw [ih2 (by omega) j j2] at this
        cases this
    exact this n (Nat.le_refl n)
theorem gO_acy (A : Nat → Nat) (hn : n ≤ 10) (h : gO n A n = 0) : acy n A := by
  intro Y hY h0
  rcases Classical.em (∃ s, s < n ∧ Y.testBit s = true ∧ ∀ i, (A s).testBit i = true → Y.testBit i = false) with q | q
  · exact q
  · exfalso
    obtain ⟨b, hb⟩ := ne0 h0
    have := gO_keep A hn hY (fun s hs hYs => by
      rcases Classical.em (∃ i, (A s).testBit i = true ∧ Y.testBit i = true) with e | e
      · exact e
      · exact absurd ⟨s, hs, hYs, fun i hi => ts_nt (fun z => e ⟨i, hi, z⟩)⟩ q) n b hb
    rw [h, Nat.zero_testBit] at this
    cases this
theorem gO_cyc (A : Nat → Nat) (hn : n ≤ 10) (h : gO n A n ≠ 0) : ∃ Y, Y ≠ 0 ∧ Y < 2 ^ n ∧ ∀ s, s < n → Y.testBit s = true → ∃ i, (A s).testBit i = true ∧ Y.testBit i = true := by
  have hl := gO_lt (n := n) A n
  refine ⟨gO n A n, h, hl, fun s hs hb => ?_⟩
  rcases gO_p A hn n with q | q
  · have := cd_pos hn hl h
    omega
  · obtain ⟨i, hi⟩ := ne0 (q s hs hb)
    rw [Nat.testBit_and, Bool.and_eq_true_iff] at hi
    exact ⟨i, hi.1, hi.2⟩
theorem c_round (hF : 20 ≤ F) (hD : DOK n A W R S) {σ : Nat → Nat → Int32} (hc : CS σ n A W R S) : fX10_goesRound F sh Z σ = some (b2 (decide (gO n A n ≠ 0))) := by
  obtain ⟨hn, hA, -, -, hS⟩ := hD
  obtain ⟨c38, c36, c34, cs⟩ := hc
  have h10 := pw10 hn
  have inner : ∀ (x2 : Int32) (kx : Int32 → Option Int32) l, l < 2 ^ n → fX10_goesRound_L17 F sh Z σ x2 kx F (nI l) (0 : Int32) = kx (nI (gI A n l)) := by
    intro x2 kx l hl
    refine lp_up (fun m (z : Int32 × Int32) => fX10_goesRound_L17 F sh Z σ x2 kx m z.1 z.2) (fun i => (nI (gI A i l), nI i)) _ n (fun m i hi => ?_) (fun m => ?_) F 0 (Nat.zero_le _) (by omega)
    · show fX10_goesRound_L17 F sh Z σ x2 kx (m + 1) (nI (gI A i l)) (nI i) = fX10_goesRound_L17 F sh Z σ x2 kx m (nI (gI A (i + 1) l)) (nI (i + 1))
      have hlt := Nat.lt_of_le_of_lt (gI_le A l i) hl
      rw [fX10_goesRound_L17, nb_s, c38, if_neg (nI_ge hi (by omega)), aI_n (by omega) (by decide), (cs i hi).1, fa_and]
      unfold fX10_goesRound_J44
      conv => rhs; unfold gI
      by_cases q : A i &&& gI A i l = 0
      · rw [q, if_neg (fun z => z (by decide)), clr_nI (by omega), nm_s, if_pos rfl, nI_1]
      · have hb : A i &&& gI A i l ≤ gI A i l := Nat.and_le_right
        rw [if_pos (nI_ne0 (Nat.pos_of_ne_zero q) (by omega)), if_neg q, nI_1]
    · show fX10_goesRound_L17 F sh Z σ x2 kx (m + 1) (nI (gI A n l)) (nI n) = _
      rw [fX10_goesRound_L17, nb_s, c38, if_pos (nI_le (Nat.le_refl n) (by omega))]
  unfold fX10_goesRound
  have outer : ∀ kx : Int32 → Option Int32, fX10_goesRound_L7 F sh Z σ kx F (σ 36 0) (0 : Int32) = kx (nI (gO n A n)) := by
    intro kx
    rw [c36]
    refine lp_up (fun m (z : Int32 × Int32) => fX10_goesRound_L7 F sh Z σ kx m z.1 z.2) (fun r => (nI (gO n A r), nI r)) _ n (fun m i hi => ?_) (fun m => ?_) F 0 (Nat.zero_le _) (by omega)
    · show fX10_goesRound_L7 F sh Z σ kx (m + 1) (nI (gO n A i)) (nI i) = fX10_goesRound_L7 F sh Z σ kx m (nI (gO n A (i + 1))) (nI (i + 1))
      rw [fX10_goesRound_L7, nb_s, c38, if_neg (nI_ge hi (by omega)), inner _ _ _ (gO_lt A i), nI_1]
      rfl
    · show fX10_goesRound_L7 F sh Z σ kx (m + 1) (nI (gO n A n)) (nI n) = _
      rw [fX10_goesRound_L7, nb_s, c38, if_pos (nI_le (Nat.le_refl n) (by omega))]
  rw [outer]
  have hl := gO_lt (n := n) A n
  by_cases q : gO n A n = 0
  · rw [q, if_pos (by decide)]; rfl
  · rw [if_neg (nI_ne0 (Nat.pos_of_ne_zero q) (by omega)), decide_eq_true q]; rfl
end CL
