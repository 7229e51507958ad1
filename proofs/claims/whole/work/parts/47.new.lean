/-! disc, rim, line, block, sign -/
def dsI (x3 : Int32) : Int32 := ((((2 : Int32) * (x3 - x3 / (8 : Int32) * (8 : Int32))) + (1 : Int32)) * (((2 : Int32) * (x3 - x3 / (8 : Int32) * (8 : Int32))) + (1 : Int32))) + ((((2 : Int32) * (x3 / (8 : Int32))) + (1 : Int32)) * (((2 : Int32) * (x3 / (8 : Int32))) + (1 : Int32)))
theorem dsI_r : ∀ c, c < 256 → ((((2 : Int32) * (nI c - nI c / (16 : Int32) * (16 : Int32))) - (15 : Int32)) * (((2 : Int32) * (nI c - nI c / (16 : Int32) * (16 : Int32))) - (15 : Int32))) + ((((2 : Int32) * (nI c / (16 : Int32))) - (15 : Int32)) * (((2 : Int32) * (nI c / (16 : Int32))) - (15 : Int32))) = dsI (nI (plc c)) := by decide +kernel
theorem stp_b {x : Int64} {P : Nat → Bool} {i : Nat} (hi : i < 64) (hx : ∀ p, p < 64 → bL x p = (decide (p < i) && P p)) : (P i = false → ∀ p, p < 64 → bL x p = (decide (p < i + 1) && P p)) ∧ (P i = true → ∀ p, p < 64 → bL (x ||| ((1 : Int64) <<< ((nI i).toInt64 &&& 63))) p = (decide (p < i + 1) && P p)) := by
  refine ⟨fun h p hp => ?_, fun h p hp => ?_⟩
  · rw [hx p hp]
    by_cases e : p = i
    · subst e; rw [h, Bool.and_false, Bool.and_false]
    · congr 1
      exact decide_eq_decide.mpr (by omega)
  · rw [bL_set hi hp, hx p hp]
    by_cases e : p = i
    · subst e
      rw [h, decide_eq_true (rfl : p = p), decide_eq_true (Nat.lt_succ_self p), Bool.or_true]; rfl
    · rw [decide_eq_false e, Bool.or_false]
      congr 1
      exact decide_eq_decide.mpr (by omega)
theorem c_discL (F : Nat) (x0 : Int32) (kx : Int64 → Option Int64) : ∀ N i x, i ≤ 64 → 64 - i < N → (∀ p, p < 64 → bL x p = (decide (p < i) && !decide (x0 < dsI (nI p)))) → ∃ pl, fX1_placesOf_L4 F x0 kx N x (nI i) = kx pl ∧ ∀ p, p < 64 → bL pl p = !decide (x0 < dsI (nI p)) := by
  intro N
  induction N with
  | zero => intro i x _ h; omega
  | succ N ih =>
    intro i x hi hN hx
    rw [fX1_placesOf_L4, nb_s]
    rcases Nat.lt_or_ge i 64 with h | h
    · rw [if_neg (show ¬ (64 : Int32) ≤ nI i from nI_ge (b := 64) h (by decide)), nm_s, nm_s]
      obtain ⟨s1, s2⟩ := stp_b h hx
      unfold fX1_placesOf_J51
      by_cases g : x0 < dsI (nI i)
      · have g' := g
        unfold dsI at g'
        rw [if_pos g']
        obtain ⟨pl, h1, h2⟩ := ih (i + 1) x (by omega) (by omega) (s1 (by rw [decide_eq_true g]; rfl))
        exact ⟨pl, by rw [← nI_1] at h1; exact h1, h2⟩
      · have g' := g
        unfold dsI at g'
        rw [if_neg g', nm_s]
        obtain ⟨pl, h1, h2⟩ := ih (i + 1) _ (by omega) (by omega) (s2 (by rw [decide_eq_false g]; rfl))
        exact ⟨pl, by rw [← nI_1] at h1; exact h1, h2⟩
    · have e : i = 64 := by omega
      subst e
      rw [if_pos (by decide)]
      exact ⟨x, rfl, fun p hp => by rw [hx p hp, decide_eq_true hp, Bool.true_and]⟩
theorem c_disc {F : Nat} (hF : 65 ≤ F) (x0 : Int32) : ∃ pl, fX1_placesOf F x0 = some pl ∧ ∀ p, p < 64 → bL pl p = !decide (x0 < dsI (nI p)) := by
  unfold fX1_placesOf
  exact c_discL F x0 _ F 0 0 (by omega) (by omega) (fun p _ => by rw [bL_0]; rfl)
theorem c_rimL (F : Nat) (x0 : Int32) (kx : Int64 → Option Int64) : ∀ N i x, i ≤ 64 → 64 - i < N → (∀ p, p < 64 → bL x p = (decide (p < i) && decide (nI (rmx p) = x0))) → ∃ pl, fX5_placesOf_L4 F x0 kx N x (nI i) = kx pl ∧ ∀ p, p < 64 → bL pl p = decide (nI (rmx p) = x0) := by
  intro N
  induction N with
  | zero => intro i x _ h; omega
  | succ N ih =>
    intro i x hi hN hx
    rw [fX5_placesOf_L4, nb_s]
    rcases Nat.lt_or_ge i 64 with h | h
    · rw [if_neg (show ¬ (64 : Int32) ≤ nI i from nI_ge (b := 64) h (by decide)), rmx_I i h]
      obtain ⟨s1, s2⟩ := stp_b h hx
      unfold fX5_placesOf_J31
      by_cases g : nI (rmx i) = x0
      · rw [if_neg (fun z => z g), nm_s]
        obtain ⟨pl, h1, h2⟩ := ih (i + 1) _ (by omega) (by omega) (s2 (decide_eq_true g))
        exact ⟨pl, by rw [← nI_1] at h1; exact h1, h2⟩
      · rw [if_pos g]
        obtain ⟨pl, h1, h2⟩ := ih (i + 1) x (by omega) (by omega) (s1 (decide_eq_false g))
        exact ⟨pl, by rw [← nI_1] at h1; exact h1, h2⟩
    · have e : i = 64 := by omega
      subst e
      rw [if_pos (by decide)]
      exact ⟨x, rfl, fun p hp => by rw [hx p hp, decide_eq_true hp, Bool.true_and]⟩
theorem c_rim {F : Nat} (hF : 65 ≤ F) (x0 : Int32) : ∃ pl, fX5_placesOf F x0 = some pl ∧ ∀ p, p < 64 → bL pl p = decide (nI (rmx p) = x0) := by
  unfold fX5_placesOf
  exact c_rimL F x0 _ F 0 0 (by omega) (by omega) (fun p _ => by rw [bL_0]; rfl)
def mnN (a c : Nat) : Nat := if c < a then c else a
def mxM (a c : Nat) : Nat := if a < c then c else a
theorem mn_I {a c : Nat} (ha : a < 8) (hc : c < 8) : ((if nI c < nI a then nI c else nI a) : Int32) = nI (mnN a c) := by
  unfold mnN
  by_cases h : c < a
  · rw [if_pos (nI_lt h (by omega)), if_pos h]
  · rw [if_neg (nI_nlt (by omega) (by omega)), if_neg h]
theorem mx_I {a c : Nat} (ha : a < 8) (hc : c < 8) : ((if nI a < nI c then nI c else nI a) : Int32) = nI (mxM a c) := by
  unfold mxM
  by_cases h : a < c
  · rw [if_pos (nI_lt h (by omega)), if_pos h]
  · rw [if_neg (nI_nlt (by omega) (by omega)), if_neg h]
theorem ix8 (y i : Nat) : ((8 : Int32) * nI y) + nI i = nI (8 * y + i) := by
  rw [show (8 : Int32) = nI 8 from rfl, pk_mul, nI_add]
def inB (a b c d : Nat) (p : Nat) : Bool := decide ((mnN b d ≤ p / 8 ∧ p / 8 ≤ mxM b d) ∧ mnN a c ≤ p % 8 ∧ p % 8 ≤ mxM a c)
theorem c_blkI (F a b c d y : Nat) (ha : a < 8) (hc : c < 8) (hy : y < 8) (kx : Int64 → Option Int64) : ∀ N i x, i ≤ mxM a c + 1 → mxM a c + 1 - i < N → ∃ z, fX0_placesOf_L27 F (nI a) (nI b) (nI c) (nI d) (nI y) kx N x (nI i) = kx z ∧ ∀ p, p < 64 → bL z p = (bL x p || decide (p / 8 = y ∧ i ≤ p % 8 ∧ p % 8 ≤ mxM a c)) := by
  have hm : mxM a c < 8 := by unfold mxM; split <;> omega
  intro N
  induction N with
  | zero => intro i x _ h; omega
  | succ N ih =>
    intro i x hi hN
    rw [fX0_placesOf_L27, nb_s, mx_I ha hc]
    rcases Nat.lt_or_ge (mxM a c) i with h | h
    · rw [if_pos (nI_lt h (by omega))]
      exact ⟨x, rfl, fun p hp => by rw [decide_eq_false (by omega), Bool.or_false]⟩
    · rw [if_neg (nI_nlt h (by omega)), nm_s, ix8, nI_1]
      obtain ⟨z, h1, h2⟩ := ih (i + 1) (x ||| ((1 : Int64) <<< ((nI (8 * y + i)).toInt64 &&& 63))) (by omega) (by omega)
      refine ⟨z, h1, fun p hp => ?_⟩
      rw [h2 p hp, bL_set (by omega) hp, Bool.or_assoc]
      congr 1
      rw [← Bool.decide_or]
      exact decide_eq_decide.mpr (by omega)
theorem c_blkO (F a b c d : Nat) (hF : 9 ≤ F) (ha : a < 8) (hb : b < 8) (hc : c < 8) (hd : d < 8) (kx : Int64 → Option Int64) : ∀ N j x, j ≤ mxM b d + 1 → mxM b d + 1 - j < N → ∃ z, fX0_placesOf_L10 F (nI a) (nI b) (nI c) (nI d) kx N x (nI j) = kx z ∧ ∀ p, p < 64 → bL z p = (bL x p || decide ((j ≤ p / 8 ∧ p / 8 ≤ mxM b d) ∧ mnN a c ≤ p % 8 ∧ p % 8 ≤ mxM a c)) := by
  have hm : mxM a c < 8 := by unfold mxM; split <;> omega
  have hm2 : mxM b d < 8 := by unfold mxM; split <;> omega
  have hm3 : mnN a c ≤ mxM a c := by unfold mxM mnN; split <;> split <;> omega
  intro N
  induction N with
  | zero => intro i x _ h; omega
  | succ N ih =>
    intro j x hi hN
    rw [fX0_placesOf_L10, nb_s, mx_I hb hd]
    rcases Nat.lt_or_ge (mxM b d) j with h | h
    · rw [if_pos (nI_lt h (by omega))]
      exact ⟨x, rfl, fun p hp => by rw [decide_eq_false (by omega), Bool.or_false]⟩
    · rw [if_neg (nI_nlt h (by omega)), mn_I ha hc, nm_s, nI_1]
      obtain ⟨z, h1, h2⟩ := c_blkI F a b c d j ha hc (by omega) (fun y4 => (fun x4 x6 => fX0_placesOf_L10 F (nI a) (nI b) (nI c) (nI d) kx N x4 x6) y4 (nI (j + 1))) F (mnN a c) x (by omega) (by omega)
      obtain ⟨z2, h3, h4⟩ := ih (j + 1) z (by omega) (by omega)
      refine ⟨z2, h1.trans h3, fun p hp => ?_⟩
      rw [h4 p hp, h2 p hp, Bool.or_assoc]
      congr 1
      rw [← Bool.decide_or]
      exact decide_eq_decide.mpr (by omega)
theorem c_block {F a b c d : Nat} (hF : 9 ≤ F) (ha : a < 8) (hb : b < 8) (hc : c < 8) (hd : d < 8) : ∃ pl, fX0_placesOf F (nI a) (nI b) (nI c) (nI d) = some pl ∧ ∀ p, p < 64 → bL pl p = inB a b c d p := by
  unfold fX0_placesOf
  have hm2 : mxM b d < 8 := by unfold mxM; split <;> omega
  have hm3 : mnN b d ≤ mxM b d := by unfold mxM mnN; split <;> split <;> omega
  rw [mn_I hb hd, nm_s]
  obtain ⟨z, h1, h2⟩ := c_blkO F a b c d hF ha hb hc hd (fun y2 => some y2) F (mnN b d) 0 (by omega) (by omega)
  exact ⟨z, h1, fun p hp => by rw [h2 p hp, bL_0, Bool.false_or]; rfl⟩
def abI (x : Int32) : Int32 := if 0 ≤ x then x else 0 - x
theorem r_size (x : Int32) : fX12_size x = some (abI x) := by
  unfold fX12_size abI
  by_cases h : 0 ≤ x
  · rw [if_pos h, if_pos h]
  · rw [if_neg h, if_neg h, Int32.zero_sub]
def lnE (a b c d p : Nat) : Int32 := (2 : Int32) * abI (((nI (p % 8) - nI a) * (nI d - nI b)) - ((nI (p / 8) - nI b) * (nI c - nI a)))
def lnQ (g : Int32) (a b c d p : Nat) : Bool := !decide (g < lnE a b c d p)
theorem c_linI (F a b c d y : Nat) (g : Int32) (ha : a < 8) (hc : c < 8) (hy : y < 8) (kx : Int64 → Option Int64) : ∀ N i x, i ≤ mxM a c + 1 → mxM a c + 1 - i < N → ∃ z, fX2_placesOf_L44 F (nI a) (nI b) (nI c) (nI d) g (nI y) kx N x (nI i) = kx z ∧ ∀ p, p < 64 → bL z p = (bL x p || (decide (p / 8 = y ∧ i ≤ p % 8 ∧ p % 8 ≤ mxM a c) && lnQ g a b c d p)) := by
  have hm : mxM a c < 8 := by unfold mxM; split <;> omega
  intro N
  induction N with
  | zero => intro i x _ h; omega
  | succ N ih =>
    intro i x hi hN
    rw [fX2_placesOf_L44, nb_s, mx_I ha hc]
    rcases Nat.lt_or_ge (mxM a c) i with h | h
    · rw [if_pos (nI_lt h (by omega))]
      exact ⟨x, rfl, fun p hp => by rw [decide_eq_false (by omega), Bool.false_and, Bool.or_false]⟩
    · rw [if_neg (nI_nlt h (by omega))]
      unfold fX2_placesOf_J96
      have e : ∀ p, p = 8 * y + i → lnE a b c d p = (2 : Int32) * abI (((nI i - nI a) * (nI d - nI b)) - ((nI y - nI b) * (nI c - nI a))) := by
        intro p hp
        have e1 : p % 8 = i := by omega
        have e2 : p / 8 = y := by omega
        unfold lnE
        rw [e1, e2]
      by_cases q : g < (2 : Int32) * abI (((nI i - nI a) * (nI d - nI b)) - ((nI y - nI b) * (nI c - nI a)))
      · have q' := q
        unfold abI at q'
        rw [if_pos q', nI_1]
        obtain ⟨z, h1, h2⟩ := ih (i + 1) x (by omega) (by omega)
        refine ⟨z, h1, fun p hp => ?_⟩
        rw [h2 p hp]
        congr 1
        by_cases ep : p = 8 * y + i
        · have : lnQ g a b c d p = false := by unfold lnQ; rw [e p ep, decide_eq_true q]; rfl
          rw [this, Bool.and_false, Bool.and_false]
        · congr 1
          exact decide_eq_decide.mpr (by omega)
      · have q' := q
        unfold abI at q'
        rw [if_neg q', nm_s, ix8, nI_1]
        obtain ⟨z, h1, h2⟩ := ih (i + 1) (x ||| ((1 : Int64) <<< ((nI (8 * y + i)).toInt64 &&& 63))) (by omega) (by omega)
        refine ⟨z, h1, fun p hp => ?_⟩
        rw [h2 p hp, bL_set (by omega) hp, Bool.or_assoc]
        congr 1
        by_cases ep : p = 8 * y + i
        · have : lnQ g a b c d p = true := by unfold lnQ; rw [e p ep, decide_eq_false q]; rfl
          rw [this, Bool.and_true, Bool.and_true, ← Bool.decide_or]
          exact decide_eq_decide.mpr (by omega)
        · rw [decide_eq_false ep, Bool.false_or]
          congr 1
          exact decide_eq_decide.mpr (by omega)
theorem c_linO (F a b c d : Nat) (g : Int32) (hF : 9 ≤ F) (ha : a < 8) (hb : b < 8) (hc : c < 8) (hd : d < 8) (kx : Int64 → Option Int64) : ∀ N j x, j ≤ mxM b d + 1 → mxM b d + 1 - j < N → ∃ z, fX2_placesOf_L27 F (nI a) (nI b) (nI c) (nI d) g kx N x (nI j) = kx z ∧ ∀ p, p < 64 → bL z p = (bL x p || (decide ((j ≤ p / 8 ∧ p / 8 ≤ mxM b d) ∧ mnN a c ≤ p % 8 ∧ p % 8 ≤ mxM a c) && lnQ g a b c d p)) := by
  have hm : mxM a c < 8 := by unfold mxM; split <;> omega
  have hm2 : mxM b d < 8 := by unfold mxM; split <;> omega
  have hm3 : mnN a c ≤ mxM a c := by unfold mxM mnN; split <;> split <;> omega
  intro N
  induction N with
  | zero => intro i x _ h; omega
  | succ N ih =>
    intro j x hi hN
    rw [fX2_placesOf_L27, nb_s, mx_I hb hd]
    rcases Nat.lt_or_ge (mxM b d) j with h | h
    · rw [if_pos (nI_lt h (by omega))]
      exact ⟨x, rfl, fun p hp => by rw [decide_eq_false (by omega), Bool.false_and, Bool.or_false]⟩
    · rw [if_neg (nI_nlt h (by omega)), mn_I ha hc, nm_s, nI_1]
      obtain ⟨z, h1, h2⟩ := c_linI F a b c d j g ha hc (by omega) (fun y4 => (fun x4 x6 => fX2_placesOf_L27 F (nI a) (nI b) (nI c) (nI d) g kx N x4 x6) y4 (nI (j + 1))) F (mnN a c) x (by omega) (by omega)
      obtain ⟨z2, h3, h4⟩ := ih (j + 1) z (by omega) (by omega)
      refine ⟨z2, h1.trans h3, fun p hp => ?_⟩
      rw [h4 p hp, h2 p hp, Bool.or_assoc]
      congr 1
      rw [← Bool.and_or_distrib_right, ← Bool.decide_or]
      congr 1
      exact decide_eq_decide.mpr (by omega)
def lnG (a b c d : Nat) : Int32 := if abI (nI c - nI a) < abI (nI d - nI b) then abI (nI d - nI b) else abI (nI c - nI a)
theorem c_line {F a b c d : Nat} (hF : 9 ≤ F) (ha : a < 8) (hb : b < 8) (hc : c < 8) (hd : d < 8) : ∃ pl, fX2_placesOf F (nI a) (nI b) (nI c) (nI d) = some pl ∧ ∀ p, p < 64 → bL pl p = (inB a b c d p && lnQ (lnG a b c d) a b c d p) := by
  unfold fX2_placesOf
  have hm2 : mxM b d < 8 := by unfold mxM; split <;> omega
  have hm3 : mnN b d ≤ mxM b d := by unfold mxM mnN; split <;> split <;> omega
  rw [nm_s, mn_I hb hd, nm_s]
  obtain ⟨z, h1, h2⟩ := c_linO F a b c d (lnG a b c d) hF ha hb hc hd (fun y2 => some y2) F (mnN b d) 0 (by omega) (by omega)
  exact ⟨z, h1, fun p hp => by rw [h2 p hp, bL_0, Bool.false_or]; rfl⟩
theorem r_btw : ∀ x, x < 8 → ∀ a, a < 8 → ∀ c, c < 8 → fX12_isBetween (nI x) (nI a) (nI c) = some (b2 (decide (mnN a c ≤ x ∧ x ≤ mxM a c))) := by decide +kernel
theorem r_z8 : ∀ p, p < 64 → (nI (cel p 0) - nI (cel p 0) / (16 : Int32) * (16 : Int32)) - (8 : Int32) = nI (p % 8) := by decide +kernel
theorem r_z9 : ∀ p, p < 64 → (nI (cel p 0) / (16 : Int32)) - (8 : Int32) = nI (p / 8) := by decide +kernel
theorem o_disc {F n : Nat} (hn : n < 10) {x : Int32} {σ' : Nat → Nat → Int32} (h1 : σ' 1 n = nI (kd 1)) (h3 : σ' 3 n = x) {c : Nat} (hc : c < 256) : fX12_isOf F σ' (nI n) (nI c) = some (b2 (!decide (x < dsI (nI (plc c))))) := by
  unfold fX12_isOf
  rw [nm_s, nm_s, aI_n hn (by decide), h1, if_neg (by decide), aI_n hn (by decide), h3, dsI_r c hc]
  by_cases g : x < dsI (nI (plc c))
  · rw [if_pos g, decide_eq_true g]; rfl
  · rw [if_neg g, decide_eq_false g]; rfl
theorem o_rim {F n : Nat} (hn : n < 10) {x : Int32} {σ' : Nat → Nat → Int32} (h1 : σ' 1 n = nI (kd 5)) (h3 : σ' 3 n = x) {c : Nat} (hc : c < 256) : fX12_isOf F σ' (nI n) (nI c) = some (b2 (decide (nI (rmx (plc c)) = x))) := by
  unfold fX12_isOf
  rw [nm_s, nm_s, aI_n hn (by decide), h1, if_pos (by decide), aI_n hn (by decide), h1, if_neg (by decide), r_rim c hc, bd_s, aI_n hn (by decide), h3]
  by_cases g : nI (rmx (plc c)) = x
  · rw [if_neg (fun z => z g), decide_eq_true g]; rfl
  · rw [if_pos g, decide_eq_false g]; rfl
theorem o_blk {F n a b c d k : Nat} (hF : 6 ≤ F) (hn : n < 10) (ha : a < 8) (hb : b < 8) (hc : c < 8) (hd : d < 8) (hk : k = 0 ∨ k = 7) {σ' : Nat → Nat → Int32} (h1 : σ' 1 n = nI (kd k)) (h3 : σ' 3 n = nI a) (h4 : σ' 4 n = nI b) (h5 : σ' 5 n = nI c) (h6 : σ' 6 n = nI d) {m : Nat} (hm : m < 256) : fX12_isOf F σ' (nI n) (nI m) = some (b2 (inB a b c d (plc m))) := by
  have hp := (cel_c m hm).1
  have k0 : ¬ nI (kd k) = 0 := by rcases hk with rfl | rfl <;> decide
  have k1 : ¬ nI (kd k) = 1 := by rcases hk with rfl | rfl <;> decide
  have k2 : ¬ nI (kd k) = 2 := by rcases hk with rfl | rfl <;> decide
  have jj : ∀ x6 x7 t, fX12_isOf_J154 F (nI n) x6 x7 t σ' = some t := by
    intro x6 x7 t
    unfold fX12_isOf_J154
    rw [aI_n hn (by decide), h1, if_pos k2]
  unfold fX12_isOf fX12_isOf_J153
  rw [nm_s, nm_s, aI_n hn (by decide), h1, if_pos k0, aI_n hn (by decide), h1, if_pos k1, r_place F hF m hm, bd_s, nm_s, nm_s, r_z8 _ hp, r_z9 _ hp, aI_n hn (by decide), aI_n hn (by decide), h3, h5, r_btw _ (Nat.mod_lt _ (by decide)) a ha c hc, bd_s, jj, jj, aI_n hn (by decide), aI_n hn (by decide), h4, h6, r_btw _ (by omega) b hb d hd, bd_s]
  unfold inB
  rw [Bool.decide_and (mnN b d ≤ plc m / 8 ∧ plc m / 8 ≤ mxM b d) (mnN a c ≤ plc m % 8 ∧ plc m % 8 ≤ mxM a c)]
  generalize decide (mnN b d ≤ plc m / 8 ∧ plc m / 8 ≤ mxM b d) = X
  generalize decide (mnN a c ≤ plc m % 8 ∧ plc m % 8 ≤ mxM a c) = Y
  cases X <;> cases Y <;> rfl
theorem o_lin {F n a b c d : Nat} (hF : 6 ≤ F) (hn : n < 10) (ha : a < 8) (hb : b < 8) (hc : c < 8) (hd : d < 8) {σ' : Nat → Nat → Int32} (h1 : σ' 1 n = nI (kd 2)) (h3 : σ' 3 n = nI a) (h4 : σ' 4 n = nI b) (h5 : σ' 5 n = nI c) (h6 : σ' 6 n = nI d) {m : Nat} (hm : m < 256) : fX12_isOf F σ' (nI n) (nI m) = some (b2 (inB a b c d (plc m) && lnQ (lnG a b c d) a b c d (plc m))) := by
  have hp := (cel_c m hm).1
  have jj0 : ∀ x6 x7, fX12_isOf_J154 F (nI n) x6 x7 0 σ' = some 0 := by
    intro x6 x7
    unfold fX12_isOf_J154
    rw [aI_n hn (by decide), h1, if_neg (by decide), if_neg (by decide)]
  have jj1 : fX12_isOf_J154 F (nI n) (nI (plc m % 8)) (nI (plc m / 8)) 1 σ' = some (b2 (lnQ (lnG a b c d) a b c d (plc m))) := by
    unfold fX12_isOf_J154
    rw [aI_n hn (by decide), h1, if_neg (by decide), if_pos (by decide), aI_n hn (by decide), aI_n hn (by decide), h3, h5, r_size, bd_s, aI_n hn (by decide), aI_n hn (by decide), h4, h6, r_size, bd_s, aI_n hn (by decide), aI_n hn (by decide), aI_n hn (by decide), aI_n hn (by decide), aI_n hn (by decide), aI_n hn (by decide), h3, h4, h5, h6, nm_s, r_size, bd_s]
    unfold fX12_isOf_J280
    have e : ∀ G : Int32, G = lnG a b c d → (if G < (2 : Int32) * abI (((nI (plc m % 8) - nI a) * (nI d - nI b)) - ((nI (plc m / 8) - nI b) * (nI c - nI a))) then some (0 : Int32) else some (1 : Int32)) = some (b2 (lnQ (lnG a b c d) a b c d (plc m))) := by
      intro G hG
      subst hG
      unfold lnQ lnE
      by_cases q : lnG a b c d < (2 : Int32) * abI (((nI (plc m % 8) - nI a) * (nI d - nI b)) - ((nI (plc m / 8) - nI b) * (nI c - nI a)))
      · rw [if_pos q, decide_eq_true q]; rfl
      · rw [if_neg q, decide_eq_false q]; rfl
    by_cases q : abI (nI c - nI a) ≤ abI (nI d - nI b)
    · rw [if_pos q]
      refine e _ ?_
      unfold lnG
      by_cases q2 : abI (nI c - nI a) < abI (nI d - nI b)
      · rw [if_pos q2]
      · rw [if_neg q2]
        exact (fa_eq _ _).mpr (by have := (fa_le _ _).mp q; have := mt (fa_lt _ _).mpr q2; omega)
    · rw [if_neg q]
      refine e _ ?_
      unfold lnG
      rw [if_neg (fun z => q (fa_of_lt z).1)]
  unfold fX12_isOf fX12_isOf_J153
  rw [nm_s, nm_s, aI_n hn (by decide), h1, if_pos (by decide), aI_n hn (by decide), h1, if_pos (by decide), r_place F hF m hm, bd_s, nm_s, nm_s, r_z8 _ hp, r_z9 _ hp, aI_n hn (by decide), aI_n hn (by decide), h3, h5, r_btw _ (Nat.mod_lt _ (by decide)) a ha c hc, bd_s, jj0, jj1, aI_n hn (by decide), aI_n hn (by decide), h4, h6, r_btw _ (by omega) b hb d hd, bd_s]
  unfold inB
  rw [Bool.decide_and (mnN b d ≤ plc m / 8 ∧ plc m / 8 ≤ mxM b d) (mnN a c ≤ plc m % 8 ∧ plc m % 8 ≤ mxM a c)]
  generalize decide (mnN b d ≤ plc m / 8 ∧ plc m / 8 ≤ mxM b d) = X
  generalize decide (mnN a c ≤ plc m % 8 ∧ plc m % 8 ≤ mxM a c) = Y
  cases X <;> cases Y <;> rfl
theorem isP (x y z w : Int32) : fX11_arePlaces x y z w = some 0 ∨ (fX11_arePlaces x y z w = some 1 ∧ ∃ a b c d, a < 8 ∧ b < 8 ∧ c < 8 ∧ d < 8 ∧ x = nI a ∧ y = nI b ∧ z = nI c ∧ w = nI d) := by
  unfold fX11_arePlaces
  rw [show (7 : Int32) = nI 7 from rfl]
  rcases w0 x 7 (by decide) with h | ⟨h, a, ha, rfl⟩
  · left; rw [h]; rfl
  rcases w0 y 7 (by decide) with h2 | ⟨h2, b, hb, rfl⟩
  · left; rw [h, bd_s, if_neg (by decide), h2]; rfl
  rcases w0 z 7 (by decide) with h3 | ⟨h3, c, hc, rfl⟩
  · left; rw [h, bd_s, if_neg (by decide), h2, bd_s, if_neg (by decide), h3]; rfl
  rcases w0 w 7 (by decide) with h4 | ⟨h4, d, hd, rfl⟩
  · left; rw [h, bd_s, if_neg (by decide), h2, bd_s, if_neg (by decide), h3, bd_s, if_neg (by decide), h4]; rfl
  · right
    refine ⟨?_, a, b, c, d, by omega, by omega, by omega, by omega, rfl, rfl, rfl, rfl⟩
    rw [h, bd_s, if_neg (by decide), h2, bd_s, if_neg (by decide), h3, bd_s, if_neg (by decide), h4]; rfl
theorem rc_pl (x y z w : Int32) : fX12_isPlaces x y z w = fX11_arePlaces x y z w := by
  unfold fX12_isPlaces fX11_arePlaces
  rw [show (0 : Int64) = (0 : Int32).toInt64 from rfl, show (7 : Int64) = (7 : Int32).toInt64 from rfl, r_inw, r_inw, r_inw, r_inw]
theorem rc_col (x : Int32) : fX12_isColour x = fX11_isSand x := by
  unfold fX12_isColour fX11_isSand
  rw [show (1 : Int64) = (1 : Int32).toInt64 from rfl, show (9 : Int64) = (9 : Int32).toInt64 from rfl, r_inw]
theorem isSd (x : Int32) : fX11_isSand x = some 0 ∨ (fX11_isSand x = some 1 ∧ ∃ c, 1 ≤ c ∧ c ≤ 9 ∧ x = nI c) := by
  unfold fX11_isSand
  rw [show (9 : Int32) = nI 9 from rfl]
  rcases w1 x 9 (by decide) with h | ⟨h, c, h1, h2, h3⟩
  · left; rw [h]; rfl
  · right; rw [h]; exact ⟨rfl, c, h1, h2, h3⟩
section NEW
variable {PP : PPT} {WP : WPT}
theorem rej {u : SS} {v : Nat → Nat → Int32} (hR : Rel PP WP u v) {k : Nat} {c st r : Int32} : ∀ y : SS, aPost u.1 u.2.1 u.2.2.1 u.2.2.2 k c st r none r y → Rel PP WP y v := by
  intro y hy
  have e : y = (u.1, u.2.1, u.2.2.1, u.2.2.2) := hy.2
  rw [e]; exact hR
theorem acc {u : SS} {v2 : Nat → Nat → Int32} {k : Nat} {c st r : Int32} {pl : Int64} {σ2 : Nat → Nat → Int32} (h : ∀ q, q ∉ u.2.2.1 → Rel PP WP (σ2, shPut u.1 u.2.1 q, u.2.2.1 ++ [q], va_up u.2.2.2 q (k, c, pl, st)) v2) : ∀ y : SS, aPost u.1 u.2.1 u.2.2.1 u.2.2.2 k c st r (some (pl, σ2)) r y → Rel PP WP y v2 := by
  intro y hy
  have e : ∃ q : Nat, q ∉ u.2.2.1 ∧ y = (σ2, shPut u.1 u.2.1 q, u.2.2.1 ++ [q], va_up u.2.2.2 q (k, c, pl, st)) := hy.2
  obtain ⟨q, hq, rfl⟩ := e
  exact h q hq
theorem t_disc : st_disc (Rel PP WP) := by
  intro u v x1 x2 hR
  have ei : fX12_in x2.toInt64 (1 : Int64) (450 : Int64) = fX11_within x2 1 (nI 450) := r_inw x2 1 450
  rcases isSd x1 with h | ⟨h, c, hc1, hc9, rfl⟩
  · refine ⟨300, -1, none, v, ?_, ?_, rej hR⟩
    · unfold fX11_disc; rw [h]; rfl
    · unfold fX12_disc; rw [rc_col, h]; rfl
  rcases w1 x2 450 (by decide) with h2 | ⟨h2, -⟩
  · refine ⟨300, -1, none, v, ?_, ?_, rej hR⟩
    · unfold fX11_disc; rw [h, show (450 : Int32) = nI 450 from rfl, bd_s, if_neg (by decide), h2]; rfl
    · unfold fX12_disc; rw [rc_col, h, bd_s, if_neg (by decide), ei, h2]; rfl
  obtain ⟨pl, hp1, hp2⟩ := c_disc (F := 300) (by decide) x2
  obtain ⟨r, σ2, v2, g1, g2, g3⟩ := add_gen hR (F := 300) (k := 1) (c := c) (t := 0) (xa := x2) (xb := 0) (xc := 0) (xd := 0) (by decide) (Or.inr (Or.inl rfl)) hc1 hc9 (by decide) hp2 (fun n hn σ' e1 e3 _ _ _ m hm => o_disc hn e1 e3 hm)
  refine ⟨300, r, some (pl, σ2), v2, ?_, ?_, acc g3⟩
  · unfold fX11_disc; rw [h, show (450 : Int32) = nI 450 from rfl, bd_s, if_neg (by decide), h2, bd_s, if_pos (by decide), hp1, bd_s, g1]; rfl
  · unfold fX12_disc; rw [rc_col, h, bd_s, if_neg (by decide), ei, h2, bd_s, if_neg (by decide)]
    show bd (fX12_add 300 v (nI (kd 1)) (nI c) x2 0 0 0 (nI 0)) _ = _
    rw [g2]; rfl
theorem t_rim : st_rim (Rel PP WP) := by
  intro u v x1 x2 hR
  have ei : fX12_in x2.toInt64 (0 : Int64) (7 : Int64) = fX11_within x2 0 (nI 7) := r_inw x2 0 7
  rcases isSd x1 with h | ⟨h, c, hc1, hc9, rfl⟩
  · refine ⟨300, -1, none, v, ?_, ?_, rej hR⟩
    · unfold fX11_rim; rw [h]; rfl
    · unfold fX12_rim; rw [rc_col, h]; rfl
  rcases w0 x2 7 (by decide) with h2 | ⟨h2, -⟩
  · refine ⟨300, -1, none, v, ?_, ?_, rej hR⟩
    · unfold fX11_rim; rw [h, show (7 : Int32) = nI 7 from rfl, bd_s, if_neg (by decide), h2]; rfl
    · unfold fX12_rim; rw [rc_col, h, bd_s, if_neg (by decide), ei, h2]; rfl
  obtain ⟨pl, hp1, hp2⟩ := c_rim (F := 300) (by decide) x2
  obtain ⟨r, σ2, v2, g1, g2, g3⟩ := add_gen hR (F := 300) (k := 5) (c := c) (t := 0) (xa := x2) (xb := 0) (xc := 0) (xd := 0) (by decide) (Or.inr (Or.inr (Or.inr (Or.inl rfl)))) hc1 hc9 (by decide) hp2 (fun n hn σ' e1 e3 _ _ _ m hm => o_rim hn e1 e3 hm)
  refine ⟨300, r, some (pl, σ2), v2, ?_, ?_, acc g3⟩
  · unfold fX11_rim; rw [h, show (7 : Int32) = nI 7 from rfl, bd_s, if_neg (by decide), h2, bd_s, if_pos (by decide), hp1, bd_s, g1]; rfl
  · unfold fX12_rim; rw [rc_col, h, bd_s, if_neg (by decide), ei, h2, bd_s, if_neg (by decide)]
    show bd (fX12_add 300 v (nI (kd 5)) (nI c) x2 0 0 0 (nI 0)) _ = _
    rw [g2]; rfl
theorem t_line : st_line (Rel PP WP) := by
  intro u v x1 x2 x3 x4 x5 hR
  rcases isSd x1 with h | ⟨h, k, hk1, hk9, rfl⟩
  · refine ⟨300, -1, none, v, ?_, ?_, rej hR⟩
    · unfold fX11_line; rw [h]; rfl
    · unfold fX12_line; rw [rc_col, h]; rfl
  rcases isP x2 x3 x4 x5 with h2 | ⟨h2, a, b, c, d, ha, hb, hc, hd, rfl, rfl, rfl, rfl⟩
  · refine ⟨300, -1, none, v, ?_, ?_, rej hR⟩
    · unfold fX11_line; rw [h, bd_s, if_neg (by decide), h2]; rfl
    · unfold fX12_line; rw [rc_col, h, bd_s, if_neg (by decide), rc_pl, h2]; rfl
  obtain ⟨pl, hp1, hp2⟩ := c_line (F := 300) (by decide) ha hb hc hd
  obtain ⟨r, σ2, v2, g1, g2, g3⟩ := add_gen hR (F := 300) (k := 2) (c := k) (t := 0) (xa := nI a) (xb := nI b) (xc := nI c) (xd := nI d) (by decide) (Or.inr (Or.inr (Or.inl rfl))) hk1 hk9 (by decide) hp2 (fun n hn σ' e1 e3 e4 e5 e6 m hm => o_lin (by decide) hn ha hb hc hd e1 e3 e4 e5 e6 hm)
  refine ⟨300, r, some (pl, σ2), v2, ?_, ?_, acc g3⟩
  · unfold fX11_line; rw [h, bd_s, if_neg (by decide), h2, bd_s, if_pos (by decide), hp1, bd_s, g1]; rfl
  · unfold fX12_line; rw [rc_col, h, bd_s, if_neg (by decide), rc_pl, h2, bd_s, if_neg (by decide)]
    show bd (fX12_add 300 v (nI (kd 2)) (nI k) (nI a) (nI b) (nI c) (nI d) (nI 0)) _ = _
    rw [g2]; rfl
theorem t_block : st_block (Rel PP WP) := by
  intro u v x1 x2 x3 x4 x5 hR
  rcases isSd x1 with h | ⟨h, k, hk1, hk9, rfl⟩
  · refine ⟨300, -1, none, v, ?_, ?_, rej hR⟩
    · unfold fX11_block; rw [h]; rfl
    · unfold fX12_block; rw [rc_col, h]; rfl
  rcases isP x2 x3 x4 x5 with h2 | ⟨h2, a, b, c, d, ha, hb, hc, hd, rfl, rfl, rfl, rfl⟩
  · refine ⟨300, -1, none, v, ?_, ?_, rej hR⟩
    · unfold fX11_block; rw [h, bd_s, if_neg (by decide), h2]; rfl
    · unfold fX12_block; rw [rc_col, h, bd_s, if_neg (by decide), rc_pl, h2]; rfl
  obtain ⟨pl, hp1, hp2⟩ := c_block (F := 300) (by decide) ha hb hc hd
  obtain ⟨r, σ2, v2, g1, g2, g3⟩ := add_gen hR (F := 300) (k := 0) (c := k) (t := 0) (xa := nI a) (xb := nI b) (xc := nI c) (xd := nI d) (by decide) (Or.inl rfl) hk1 hk9 (by decide) hp2 (fun n hn σ' e1 e3 e4 e5 e6 m hm => o_blk (by decide) hn ha hb hc hd (Or.inl rfl) e1 e3 e4 e5 e6 hm)
  refine ⟨300, r, some (pl, σ2), v2, ?_, ?_, acc g3⟩
  · unfold fX11_block; rw [h, bd_s, if_neg (by decide), h2, bd_s, if_pos (by decide), hp1, bd_s, g1]; rfl
  · unfold fX12_block; rw [rc_col, h, bd_s, if_neg (by decide), rc_pl, h2, bd_s, if_neg (by decide)]
    show bd (fX12_add 300 v (nI (kd 0)) (nI k) (nI a) (nI b) (nI c) (nI d) (nI 0)) _ = _
    rw [g2]; rfl
theorem t_sign : st_sign (Rel PP WP) := by
  intro u v x1 x2 x3 x4 x5 x6 hR
  have ei : fX12_in x6.toInt64 (0 : Int64) (8 : Int64) = fX11_within x6 0 (nI 8) := r_inw x6 0 8
  rcases isSd x1 with h | ⟨h, k, hk1, hk9, rfl⟩
  · refine ⟨300, -1, none, v, ?_, ?_, rej hR⟩
    · unfold fX11_sign; rw [h]; rfl
    · unfold fX12_sign; rw [rc_col, h]; rfl
  rcases isP x2 x3 x4 x5 with h2 | ⟨h2, a, b, c, d, ha, hb, hc, hd, rfl, rfl, rfl, rfl⟩
  · refine ⟨300, -1, none, v, ?_, ?_, rej hR⟩
    · unfold fX11_sign; rw [h, bd_s, if_neg (by decide), h2]; rfl
    · unfold fX12_sign; rw [rc_col, h, bd_s, if_neg (by decide), rc_pl, h2]; rfl
  rcases w0 x6 8 (by decide) with h3 | ⟨h3, t, ht, rfl⟩
  · refine ⟨300, -1, none, v, ?_, ?_, rej hR⟩
    · unfold fX11_sign; rw [h, bd_s, if_neg (by decide), h2, bd_s, if_neg (by decide), show (8 : Int32) = nI 8 from rfl, h3]; rfl
    · unfold fX12_sign; rw [rc_col, h, bd_s, if_neg (by decide), rc_pl, h2, bd_s, if_neg (by decide), ei, h3]; rfl
  obtain ⟨pl, hp1, hp2⟩ := c_block (F := 300) (by decide) ha hb hc hd
  obtain ⟨r, σ2, v2, g1, g2, g3⟩ := add_gen hR (F := 300) (k := 7) (c := k) (t := t) (xa := nI a) (xb := nI b) (xc := nI c) (xd := nI d) (by decide) (Or.inr (Or.inr (Or.inr (Or.inr rfl)))) hk1 hk9 ht hp2 (fun n hn σ' e1 e3 e4 e5 e6 m hm => o_blk (by decide) hn ha hb hc hd (Or.inr rfl) e1 e3 e4 e5 e6 hm)
  refine ⟨300, r, some (pl, σ2), v2, ?_, ?_, acc g3⟩
  · unfold fX11_sign; rw [h, bd_s, if_neg (by decide), h2, bd_s, if_neg (by decide), show (8 : Int32) = nI 8 from rfl, h3, bd_s, if_pos (by decide), hp1, bd_s, g1]; rfl
  · unfold fX12_sign; rw [rc_col, h, bd_s, if_neg (by decide), rc_pl, h2, bd_s, if_neg (by decide), ei, h3, bd_s, if_neg (by decide)]
    show bd (fX12_add 300 v (nI (kd 7)) (nI k) (nI a) (nI b) (nI c) (nI d) (nI t)) _ = _
    rw [g2]; rfl
end NEW
