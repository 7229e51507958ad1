/-! again -/
theorem ct_lt {p q : Nat → Bool} : ∀ {n : Nat}, (∀ k, k < n → p k = true → q k = true) → (∃ i, i < n ∧ q i = true ∧ p i = false) → fb_ct p n < fb_ct q n := by
  intro n
  induction n with
  | zero => rintro _ ⟨i, hi, -⟩; omega
  | succ n ih =>
    rintro h ⟨i, hi, h1, h2⟩
    rw [fb_ct_succ, fb_ct_succ]
    have hs := fb_ct_sub (n := n) (fun k hk => h k (by omega))
    by_cases e : i = n
    · subst e
      rw [h1, h2]
      simp only [if_true, Bool.false_eq_true, if_false]
      omega
    · have := ih (fun k hk => h k (by omega)) ⟨i, by omega, h1, h2⟩
      have hx : (if p n = true then 1 else 0) ≤ (if q n = true then 1 else 0) := by
        by_cases z : p n = true
        · rw [if_pos z, if_pos (h n (by omega) z)]; exact Nat.le_refl _
        · rw [if_neg z]; exact Nat.zero_le _
      omega
def psN (A : Nat → Nat) (x : Nat) : Nat → Nat
  | 0 => x
  | s + 1 => if A s &&& psN A x s = 0 then psN A x s else psN A x s ||| 2 ^ s
theorem psN_sub (A : Nat → Nat) (x : Nat) : ∀ s i, x.testBit i = true → (psN A x s).testBit i = true := by
  intro s
  induction s with
  | zero => intro i h; exact h
  | succ s ih =>
    intro i h
    unfold psN
    split
    · exact ih i h
    · rw [fb_bit_set, ih i h]; rfl
theorem psN_lt (A : Nat → Nat) (x n : Nat) (hx : x < 2 ^ n) : ∀ s, s ≤ n → psN A x s < 2 ^ n := by
  intro s
  induction s with
  | zero => intro _; exact hx
  | succ s ih =>
    intro hs
    unfold psN
    split
    · exact ih (by omega)
    · exact Nat.or_lt_two_pow (ih (by omega)) (Nat.pow_lt_pow_right (by omega) (by omega))
def itN (A : Nat → Nat) (n : Nat) : Nat → Nat → Nat
  | 0, x => x
  | k + 1, x => itN A n k (psN A x n)
theorem itN_fix {A : Nat → Nat} {n x : Nat} (h : psN A x n = x) : ∀ k, itN A n k x = x := by
  intro k
  induction k with
  | zero => rfl
  | succ k ih => rw [itN, h, ih]
theorem itN_lt {A : Nat → Nat} {n : Nat} : ∀ k x, x < 2 ^ n → itN A n k x < 2 ^ n := by
  intro k
  induction k with
  | zero => intro x h; exact h
  | succ k ih => intro x h; rw [itN]; exact ih _ (psN_lt A x n h n (Nat.le_refl _))
theorem ps_more {A : Nat → Nat} {n x : Nat} (hx : x < 2 ^ n) (h : ¬ psN A x n = x) : fb_ct x.testBit n < fb_ct (psN A x n).testBit n := by
  have hl := psN_lt A x n hx n (Nat.le_refl _)
  apply ct_lt
  · intro k _ hk; exact psN_sub A x n k hk
  · apply Classical.byContradiction
    intro hno
    apply h
    apply tb_ext
    intro i
    rcases Nat.lt_or_ge i n with q | q
    · cases h1 : x.testBit i with
      | true => exact psN_sub A x n i h1
      | false =>
        cases h2 : (psN A x n).testBit i with
        | false => rfl
        | true => exact absurd ⟨i, q, h2, h1⟩ hno
    · rw [tb_ge hx q, tb_ge hl q]
section AGAIN
variable {PP : PPT} {WP : WPT}
variable {σ v : Nat → Nat → Int32} {sh : Nat → Option Nat} {Z : ZT} {n : Nat} {K C T H : Nat → Nat} {B : Nat → Nat → Bool} {F : Nat}
theorem and_I0 {a b : Nat} (ha : a < 2 ^ 31) : (nI a &&& nI b = 0) ↔ (a &&& b = 0) := by
  rw [nx_and]
  have h : a &&& b ≤ a := Nat.and_le_left
  exact nI_eq (a := a &&& b) (b := 0) (by omega) (by decide)
theorem c_wa1 (hp : PicOK n K C T H) (hc : CVs σ sh Z n K C T H B) (hF : 300 ≤ F) (x3 : Int32) {x : Nat} (hx : x < 2 ^ n) (kx : Int32 → Option Int32) : fX4_withAllAfter_L15 F sh Z σ x3 kx F (nI x) 0 = kx (nI (psN (ahd H B) x n)) := by
  have hn := hp.1
  have hw := pw10 hn
  refine lp_up (fun m (z : Int32 × Int32) => fX4_withAllAfter_L15 F sh Z σ x3 kx m z.1 z.2) (fun i => (nI (psN (ahd H B) x i), nI i)) _ n (fun m i hi => ?_) (fun m => ?_) F 0 (Nat.zero_le _) (by omega)
  · show fX4_withAllAfter_L15 F sh Z σ x3 kx (m + 1) (nI (psN (ahd H B) x i)) (nI i) = fX4_withAllAfter_L15 F sh Z σ x3 kx m (nI (psN (ahd H B) x (i + 1))) (nI (i + 1))
    have hal := ahd_lt (B := B) hp hi
    rw [fX4_withAllAfter_L15, nb_s, hc.1, if_neg (nI_ge hi (by omega)), c_ahead hp hc hF hi, bd_s, psN]
    unfold fX4_withAllAfter_J42
    by_cases e : ahd H B i &&& psN (ahd H B) x i = 0
    · rw [if_pos ((and_I0 (by omega)).mpr e), if_pos e, nI_1]
    · rw [if_neg (fun z => e ((and_I0 (by omega)).mp z)), if_neg e, nm_s, sh1 (by omega), fa_or, nI_1]
  · show fX4_withAllAfter_L15 F sh Z σ x3 kx (m + 1) (nI (psN (ahd H B) x n)) (nI n) = _
    rw [fX4_withAllAfter_L15, nb_s, hc.1, if_pos (nI_le (Nat.le_refl n) (by omega))]
theorem itN_s (A : Nat → Nat) (n : Nat) : ∀ k x, itN A n (k + 1) x = psN A (itN A n k x) n := by
  intro k
  induction k with
  | zero => intro x; rfl
  | succ k ih => intro x; rw [itN, ih, itN]
theorem c_wa (hp : PicOK n K C T H) (hc : CVs σ sh Z n K C T H B) (hF : 300 ≤ F) {x : Nat} (hx : x < 2 ^ n) : fX4_withAllAfter F sh Z σ (nI x) = some (nI (itN (ahd H B) n n x)) := by
  have hn := hp.1
  refine lp_up (fun m (z : Int32 × Int32) => fX4_withAllAfter_L4 F sh Z σ (fun y1 => some y1) m z.1 z.2) (fun i => (nI (itN (ahd H B) n i x), nI i)) _ n (fun m i hi => ?_) (fun m => ?_) F 0 (Nat.zero_le _) (by omega)
  · show fX4_withAllAfter_L4 F sh Z σ (fun y1 => some y1) (m + 1) (nI (itN (ahd H B) n i x)) (nI i) = fX4_withAllAfter_L4 F sh Z σ (fun y1 => some y1) m (nI (itN (ahd H B) n (i + 1) x)) (nI (i + 1))
    rw [fX4_withAllAfter_L4, nb_s, hc.1, if_neg (nI_ge hi (by omega)), c_wa1 hp hc hF _ (itN_lt i x hx), nI_1, itN_s]
  · show fX4_withAllAfter_L4 F sh Z σ (fun y1 => some y1) (m + 1) (nI (itN (ahd H B) n n x)) (nI n) = _
    rw [fX4_withAllAfter_L4, nb_s, hc.1, if_pos (nI_le (Nat.le_refl n) (by omega))]
theorem r_wa1 (hp : PicOK n K C T H) (hm : MVs v n K C T H B) (hF : 300 ≤ F) (x3 : Int32) {x : Nat} (hx : x < 2 ^ n) (kx : Int32 → Option Int32) : fX12_again_L51 F v x3 kx F (nI x) 0 = kx (nI (psN (ahd H B) x n)) := by
  have hn := hp.1
  have hw := pw10 hn
  refine lp_up (fun m (z : Int32 × Int32) => fX12_again_L51 F v x3 kx m z.1 z.2) (fun i => (nI (psN (ahd H B) x i), nI i)) _ n (fun m i hi => ?_) (fun m => ?_) F 0 (Nat.zero_le _) (by omega)
  · show fX12_again_L51 F v x3 kx (m + 1) (nI (psN (ahd H B) x i)) (nI i) = fX12_again_L51 F v x3 kx m (nI (psN (ahd H B) x (i + 1))) (nI (i + 1))
    have hal := ahd_lt (B := B) hp hi
    rw [fX12_again_L51, nb_s, hm.1, if_neg (nI_ge hi (by omega)), r_ahead hp hm hF hi, bd_s, psN]
    unfold fX12_again_J80
    by_cases e : ahd H B i &&& psN (ahd H B) x i = 0
    · rw [if_pos ((and_I0 (by omega)).mpr e), if_pos e, nI_1, show (0 : Int32) = nI 0 from rfl, fa_or, Nat.or_zero]
    · rw [if_neg (fun z => e ((and_I0 (by omega)).mp z)), if_neg e, sh1 (by omega), fa_or, nI_1]
  · show fX12_again_L51 F v x3 kx (m + 1) (nI (psN (ahd H B) x n)) (nI n) = _
    rw [fX12_again_L51, nb_s, hm.1, if_pos (nI_le (Nat.le_refl n) (by omega))]
theorem r_wa (hp : PicOK n K C T H) (hm : MVs v n K C T H B) (hF : 300 ≤ F) : ∀ k N x, x < 2 ^ n → n - fb_ct x.testBit n ≤ k → k + 2 ≤ N → fX12_again_L42 F v (fun y2 => some y2) N (nI x) 1 = some (nI (itN (ahd H B) n k x)) := by
  have hn := hp.1
  have hw := pw10 hn
  intro k
  induction k with
  | zero =>
    intro N x hx hk hN
    obtain ⟨M, rfl⟩ : ∃ M, N = M + 2 := ⟨N - 2, by omega⟩
    have he : psN (ahd H B) x n = x := by
      apply Classical.byContradiction
      intro h
      have h1 := ps_more hx h
      have h2 := fb_ct_le (psN (ahd H B) x n).testBit n
      omega
    rw [show M + 2 = (M + 1) + 1 from rfl, fX12_again_L42, nb_s, if_neg (by decide), r_wa1 hp hm hF _ hx, he, if_pos rfl]
    unfold fX12_again_J98
    show fX12_again_L42 F v (fun y2 => some y2) (M + 1) (nI x) 0 = _
    rw [fX12_again_L42, nb_s, if_pos rfl]; rfl
  | succ k ih =>
    intro N x hx hk hN
    obtain ⟨M, rfl⟩ : ∃ M, N = M + 2 := ⟨N - 2, by omega⟩
    have hl := psN_lt (ahd H B) x n hx n (Nat.le_refl _)
    by_cases he : psN (ahd H B) x n = x
    · rw [show M + 2 = (M + 1) + 1 from rfl, fX12_again_L42, nb_s, if_neg (by decide), r_wa1 hp hm hF _ hx, he, if_pos rfl, itN_fix he]
      unfold fX12_again_J98
      show fX12_again_L42 F v (fun y2 => some y2) (M + 1) (nI x) 0 = _
      rw [fX12_again_L42, nb_s, if_pos rfl]
    · have h1 := ps_more hx he
      rw [show M + 2 = (M + 1) + 1 from rfl, fX12_again_L42, nb_s, if_neg (by decide), r_wa1 hp hm hF _ hx, if_neg (fun z => he ((nI_eq (by omega) (by omega)).mp z))]
      unfold fX12_again_J98
      show fX12_again_L42 F v (fun y2 => some y2) (M + 1) (nI (psN (ahd H B) x n)) 1 = _
      rw [ih (M + 1) _ hl (by omega) (by omega), itN]
def smN (ph : Nat → Int32) : Nat → Nat
  | 0 => 0
  | c + 1 => if ph c = -5 then smN ph c ||| 2 ^ plc c else smN ph c
theorem smN_tb (ph : Nat → Int32) (p : Nat) : ∀ m, (smN ph m).testBit p = true ↔ ∃ c, c < m ∧ ph c = -5 ∧ plc c = p := by
  intro m
  induction m with
  | zero => simp [smN]
  | succ m ih =>
    unfold smN
    by_cases e : ph m = -5
    · rw [if_pos e, fb_bit_set, Bool.or_eq_true, ih, decide_eq_true_eq]
      constructor
      · rintro (⟨c, h1, h2⟩ | h)
        · exact ⟨c, by omega, h2⟩
        · exact ⟨m, by omega, e, h.symm⟩
      · rintro ⟨c, h1, h2, h3⟩
        by_cases z : c = m
        · subst z; exact Or.inr h3.symm
        · exact Or.inl ⟨c, by omega, h2, h3⟩
    · rw [if_neg e, ih]
      constructor
      · rintro ⟨c, h1, h2⟩
        exact ⟨c, by omega, h2⟩
      · rintro ⟨c, h1, h2, h3⟩
        by_cases z : c = m
        · subst z; exact absurd h2 e
        · exact ⟨c, by omega, h2, h3⟩
theorem smN_lt (ph : Nat → Int32) : ∀ m, m ≤ 256 → smN ph m < 2 ^ 64 := by
  intro m hm
  apply tb_lt
  intro i hi
  apply ts_nt
  intro h
  obtain ⟨c, h1, h2, h3⟩ := (smN_tb ph i m).mp h
  have := (cel_c c (by omega)).1
  omega
theorem sh1L {k : Nat} (h : k < 64) : (1 : Int64) <<< ((nI k).toInt64 &&& 63) = lN (2 ^ k) := by
  have e := wb_shl 1 h
  rw [Nat.one_mul] at e
  exact e
theorem c_smp (hF : 300 ≤ F) : fX3_smearedPlaces F sh Z σ = some (lN (smN (σ 15) 256)) := by
  refine lp_up (fun m (z : Int64 × Int32) => fX3_smearedPlaces_L4 F sh Z σ (fun y1 => some y1) m z.1 z.2) (fun i => (lN (smN (σ 15) i), nI i)) _ 256 (fun m i hi => ?_) (fun m => ?_) F 0 (Nat.zero_le _) (by omega)
  · show fX3_smearedPlaces_L4 F sh Z σ (fun y1 => some y1) (m + 1) (lN (smN (σ 15) i)) (nI i) = fX3_smearedPlaces_L4 F sh Z σ (fun y1 => some y1) m (lN (smN (σ 15) (i + 1))) (nI (i + 1))
    rw [fX3_smearedPlaces_L4, nb_s, if_neg (show ¬ (256 : Int32) ≤ nI i from nI_ge (b := 256) hi (by decide)), aI_n hi (by decide), smN]
    unfold fX3_smearedPlaces_J38
    by_cases e : σ 15 i = -5
    · have e1 : nI i - nI i / (16 : Int32) * (16 : Int32) = nI (i % 16) := pk_rem (d := 16) (by omega) (by decide) (by decide)
      have e2 : nI i / (16 : Int32) = nI (i / 16) := pk_div (d := 16) (by omega) (by decide) (by decide)
      rw [if_neg (fun z => z e), if_pos e, e1, e2, c_place F (by omega) _ (by omega) _ (by omega), bd_s, show 16 * (i / 16) + i % 16 = i by omega, nm_s, sh1L (cel_c i hi).1, fb_orL, nI_1]
    · rw [if_pos e, if_neg e, nI_1]
  · show fX3_smearedPlaces_L4 F sh Z σ (fun y1 => some y1) (m + 1) (lN (smN (σ 15) 256)) (nI 256) = _
    rw [fX3_smearedPlaces_L4, nb_s, if_pos (by decide)]
def saN (B : Nat → Nat → Bool) (M : Nat) : Nat → Nat
  | 0 => 0
  | s + 1 => if (List.range 64).any (fun p => B s p && M.testBit p) then saN B M s ||| 2 ^ s else saN B M s
theorem saN_tb (B : Nat → Nat → Bool) (M : Nat) : ∀ m i, (saN B M m).testBit i = (decide (i < m) && (List.range 64).any (fun p => B i p && M.testBit p)) := by
  intro m
  induction m with
  | zero => intro i; simp [saN]
  | succ m ih =>
    intro i
    unfold saN
    by_cases e : i = m
    · subst e
      by_cases hb : (List.range 64).any (fun p => B i p && M.testBit p) = true
      · rw [if_pos hb, fb_bit_set, ih, hb]; simp
      · rw [if_neg hb, ih, ts_nt hb]; simp
    · have ed : decide (i < m + 1) = decide (i < m) := by apply decide_eq_decide.mpr; omega
      by_cases hb : (List.range 64).any (fun p => B m p && M.testBit p) = true
      · rw [if_pos hb, fb_bit_set, ih, ed]; simp [e]
      · rw [if_neg hb, ih, ed]
theorem c_sat (hp : PicOK n K C T H) (hc : CVs σ sh Z n K C T H B) (hF : 300 ≤ F) (M : Nat) : fX4_shapesAt F sh Z σ (lN M) = some (nI (saN B M n)) := by
  have hn := hp.1
  refine lp_up (fun m (z : Int32 × Int32) => fX4_shapesAt_L5 F sh Z σ (lN M) (fun y1 => some y1) m z.1 z.2) (fun i => (nI (saN B M i), nI i)) _ n (fun m i hi => ?_) (fun m => ?_) F 0 (Nat.zero_le _) (by omega)
  · show fX4_shapesAt_L5 F sh Z σ (lN M) (fun y1 => some y1) (m + 1) (nI (saN B M i)) (nI i) = fX4_shapesAt_L5 F sh Z σ (lN M) (fun y1 => some y1) m (nI (saN B M (i + 1))) (nI (i + 1))
    obtain ⟨q, h0, -, -, -, hB, -⟩ := hc.2 i hi
    have eo : (lg_cmp ((Z q).2.2.1 &&& lN M) 0 = 0) ↔ ¬ (List.range 64).any (fun p => B i p && M.testBit p) = true := by
      rw [L_and0]
      apply not_congr
      rw [List.any_eq_true]
      constructor
      · rintro ⟨p, hp', h1, h2⟩
        rw [hB p hp'] at h1
        rw [bL_lN hp'] at h2
        exact ⟨p, List.mem_range.mpr hp', by rw [h1, h2]; rfl⟩
      · rintro ⟨p, hp', h⟩
        have hp2 := List.mem_range.mp hp'
        obtain ⟨h1, h2⟩ := (Bool.and_eq_true _ _).mp h
        exact ⟨p, hp2, by rw [hB p hp2]; exact h1, by rw [bL_lN hp2]; exact h2⟩
    rw [fX4_shapesAt_L5, nb_s, hc.1, if_neg (nI_ge hi (by omega)), aO_n (by omega) (by decide) h0, saN]
    unfold fX4_shapesAt_J38
    by_cases hb : (List.range 64).any (fun p => B i p && M.testBit p) = true
    · rw [if_neg (fun z => eo.mp z hb), if_pos hb, nm_s, sh1 (by omega), fa_or, nI_1]
    · rw [if_pos (eo.mpr hb), if_neg hb, nI_1]
  · show fX4_shapesAt_L5 F sh Z σ (lN M) (fun y1 => some y1) (m + 1) (nI (saN B M n)) (nI n) = _
    rw [fX4_shapesAt_L5, nb_s, hc.1, if_pos (nI_le (Nat.le_refl n) (by omega))]
def lyN (ph : Nat → Int32) (B : Nat → Nat → Bool) (n : Nat) : Nat → Nat
  | 0 => 0
  | c + 1 => if ph c = -5 then lyN ph B n c ||| layN B (plc c) n else lyN ph B n c
theorem lyN_tb (ph : Nat → Int32) (B : Nat → Nat → Bool) (n i : Nat) : ∀ m, (lyN ph B n m).testBit i = true ↔ ∃ c, c < m ∧ ph c = -5 ∧ i < n ∧ B i (plc c) = true := by
  intro m
  induction m with
  | zero => simp [lyN]
  | succ m ih =>
    unfold lyN
    by_cases e : ph m = -5
    · rw [if_pos e, Nat.testBit_or, Bool.or_eq_true, ih, layN_tb, Bool.and_eq_true, decide_eq_true_eq]
      constructor
      · rintro (⟨c, h1, h2⟩ | h)
        · exact ⟨c, by omega, h2⟩
        · exact ⟨m, by omega, e, h⟩
      · rintro ⟨c, h1, h2, h3⟩
        by_cases z : c = m
        · subst z; exact Or.inr h3
        · exact Or.inl ⟨c, by omega, h2, h3⟩
    · rw [if_neg e, ih]
      constructor
      · rintro ⟨c, h1, h2⟩
        exact ⟨c, by omega, h2⟩
      · rintro ⟨c, h1, h2, h3⟩
        by_cases z : c = m
        · subst z; exact absurd h2 e
        · exact ⟨c, by omega, h2, h3⟩
theorem r_ly (hp : PicOK n K C T H) (hm : MVs v n K C T H B) (hF : 300 ≤ F) (kx : Int32 → Option Int32) : fX12_again_L4 F v kx F 0 0 = kx (nI (lyN (v 19) B n 256)) := by
  refine lp_up (fun m (z : Int32 × Int32) => fX12_again_L4 F v kx m z.1 z.2) (fun i => (nI (lyN (v 19) B n i), nI i)) _ 256 (fun m i hi => ?_) (fun m => ?_) F 0 (Nat.zero_le _) (by omega)
  · show fX12_again_L4 F v kx (m + 1) (nI (lyN (v 19) B n i)) (nI i) = fX12_again_L4 F v kx m (nI (lyN (v 19) B n (i + 1))) (nI (i + 1))
    rw [fX12_again_L4, nb_s, if_neg (show ¬ (256 : Int32) ≤ nI i from nI_ge (b := 256) hi (by decide)), aI_n hi (by decide), lyN]
    unfold fX12_again_J32
    by_cases e : v 19 i = -5
    · rw [if_neg (fun z => z e), if_pos e, r_layers hp hm (by omega) hi, bd_s, fa_or, nI_1]
    · rw [if_pos e, if_neg e, nI_1, show (0 : Int32) = nI 0 from rfl, fa_or, Nat.or_zero]
  · show fX12_again_L4 F v kx (m + 1) (nI (lyN (v 19) B n 256)) (nI 256) = _
    rw [fX12_again_L4, nb_s, if_pos (by decide)]
theorem t_again : st_again (Rel PP WP) := by
  intro u v hR
  obtain ⟨n, K, C, T, H, B, S, hOK, hP, hC, hM, hS, hPl, hPh, hRest⟩ := id hR
  have hn := hP.1
  have e0 : saN B (smN (u.1 15) 256) n = lyN (v 19) B n 256 := by
    apply tb_ext
    intro i
    rw [Bool.eq_iff_iff, saN_tb, lyN_tb, Bool.and_eq_true, decide_eq_true_eq, List.any_eq_true]
    constructor
    · rintro ⟨h1, p, hp, h2⟩
      obtain ⟨h3, h4⟩ := (Bool.and_eq_true _ _).mp h2
      obtain ⟨c, c1, c2, c3⟩ := (smN_tb _ _ _).mp h4
      exact ⟨c, c1, by rw [(hPh c c1).1]; exact c2, h1, by rw [c3]; exact h3⟩
    · rintro ⟨c, c1, c2, c3, c4⟩
      refine ⟨c3, plc c, List.mem_range.mpr (cel_c c c1).1, ?_⟩
      rw [c4, (smN_tb (u.1 15) (plc c) 256).mpr ⟨c, c1, by rw [← (hPh c c1).1]; exact c2, rfl⟩]; rfl
  have hlt : lyN (v 19) B n 256 < 2 ^ n := by
    rw [← e0]
    apply tb_lt
    intro i hi
    rw [saN_tb, decide_eq_false (by omega)]; rfl
  refine ⟨300, nI (itN (ahd H B) n n (lyN (v 19) B n 256)), ?_, ?_, hR⟩
  · unfold fX11_again
    rw [c_smp (by decide), bd_s, c_sat hP hC (by decide), bd_s, e0, c_wa hP hC (by decide) hlt]; rfl
  · unfold fX12_again
    rw [r_ly hP hM (by decide), r_wa hP hM (by decide) n 300 _ hlt (by omega) (by omega)]
end AGAIN
