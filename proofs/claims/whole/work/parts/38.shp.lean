/-! shapes: what they tell, what comes after what -/
theorem wS (x : Int32) (n : Nat) (hn : n ≤ 10) : fX11_within x 0 (nI n - 1) = some 0 ∨ (fX11_within x 0 (nI n - 1) = some 1 ∧ ∃ s, s < n ∧ x = nI s) := by
  cases n with
  | zero =>
    left
    rw [c_within, decide_eq_false]
    · rfl
    · intro h
      have h1 := (fa_le _ _).mp h.1
      have h2 := (fa_le _ _).mp h.2
      have e1 : (0 : Int32).toInt = 0 := by decide
      have e2 : (nI 0 - 1).toInt = -1 := by decide
      omega
  | succ n =>
    rw [nI_pred]
    rcases w0 x n (by omega) with h | ⟨h, a, ha, e⟩
    · exact Or.inl h
    · exact Or.inr ⟨h, a, by omega, e⟩
def ovl (B : Nat → Nat → Bool) (s t : Nat) : Bool := (List.range 64).any (fun p => B s p && B t p)
theorem ovl_t {B : Nat → Nat → Bool} {s t : Nat} : ovl B s t = true ↔ ∃ p, p < 64 ∧ B s p = true ∧ B t p = true := by
  unfold ovl
  rw [List.any_eq_true]
  constructor
  · rintro ⟨p, hp, h⟩
    exact ⟨p, List.mem_range.mp hp, (Bool.and_eq_true _ _).mp h⟩
  · rintro ⟨p, hp, h1, h2⟩
    exact ⟨p, List.mem_range.mpr hp, by rw [h1, h2]; rfl⟩
def acN (H : Nat → Nat) (B : Nat → Nat → Bool) (s : Nat) : Nat → Nat
  | 0 => H s
  | t + 1 => if ovl B s t then acN H B s t ||| 2 ^ t else acN H B s t
def ahd (H : Nat → Nat) (B : Nat → Nat → Bool) (s : Nat) : Nat := acN H B s s
theorem acN_tb (H : Nat → Nat) (B : Nat → Nat → Bool) (s : Nat) : ∀ m i, (acN H B s m).testBit i = ((H s).testBit i || (decide (i < m) && ovl B s i)) := by
  intro m
  induction m with
  | zero => intro i; simp [acN]
  | succ m ih =>
    intro i
    unfold acN
    by_cases e : i = m
    · subst e
      by_cases hb : ovl B s i = true
      · rw [if_pos hb, fb_bit_set, ih]; simp [hb]
      · rw [if_neg hb, ih]; simp [hb]
    · have ed : decide (i < m + 1) = decide (i < m) := by apply decide_eq_decide.mpr; omega
      by_cases hb : ovl B s m = true
      · rw [if_pos hb, fb_bit_set, ih, ed]; simp [e]
      · rw [if_neg hb, ih, ed]
def av (H : Nat → Nat) (B : Nat → Nat → Bool) (s t : Nat) : Bool := (H s).testBit t || (decide (t < s) && ovl B s t)
theorem ahd_tb (H : Nat → Nat) (B : Nat → Nat → Bool) (s i : Nat) : (ahd H B s).testBit i = av H B s i := acN_tb H B s s i
theorem ahd_lt {n : Nat} {K C T H : Nat → Nat} {B : Nat → Nat → Bool} (hp : PicOK n K C T H) {s : Nat} (hs : s < n) : ahd H B s < 2 ^ n := by
  apply tb_lt
  intro i hi
  rw [ahd_tb]
  unfold av
  rw [tb_ge (hp.2 s hs).2.2.2.2.1 hi, decide_eq_false (by omega)]; rfl
theorem ahd_s {n : Nat} {K C T H : Nat → Nat} {B : Nat → Nat → Bool} (hp : PicOK n K C T H) {s : Nat} (hs : s < n) : (ahd H B s).testBit s = false := by
  rw [ahd_tb]
  unfold av
  rw [(hp.2 s hs).2.2.2.2.2, decide_eq_false (Nat.lt_irrefl s)]; rfl
theorem pw10 {n : Nat} (h : n ≤ 10) : 2 ^ n ≤ 1024 := Nat.pow_le_pow_right (n := 2) (by omega) h
def arN (H : Nat → Nat) (B : Nat → Nat → Bool) (s : Nat) : Nat → Nat
  | 0 => 0
  | t + 1 => if t ≠ s ∧ av H B s t = true then arN H B s t ||| 2 ^ t else arN H B s t
theorem arN_tb (H : Nat → Nat) (B : Nat → Nat → Bool) (s : Nat) : ∀ m i, (arN H B s m).testBit i = (decide (i < m) && decide (i ≠ s) && av H B s i) := by
  intro m
  induction m with
  | zero => intro i; simp [arN]
  | succ m ih =>
    intro i
    unfold arN
    by_cases e : i = m
    · subst e
      by_cases hb : i ≠ s ∧ av H B s i = true
      · rw [if_pos hb, fb_bit_set, ih]; simp [hb.1, hb.2]
      · rw [if_neg hb, ih]
        by_cases z : i = s
        · simp [z]
        · have : av H B s i = false := ts_nt (fun q => hb ⟨z, q⟩)
          simp [this]
    · have ed : decide (i < m + 1) = decide (i < m) := by apply decide_eq_decide.mpr; omega
      by_cases hb : m ≠ s ∧ av H B s m = true
      · rw [if_pos hb, fb_bit_set, ih, ed]; simp [e]
      · rw [if_neg hb, ih, ed]
theorem arN_ahd {n : Nat} {K C T H : Nat → Nat} {B : Nat → Nat → Bool} (hp : PicOK n K C T H) {s : Nat} (hs : s < n) : arN H B s n = ahd H B s := by
  apply tb_ext
  intro i
  rw [arN_tb, ahd_tb]
  by_cases h1 : i < n
  · by_cases h2 : i = s
    · subst h2
      have := ahd_s (B := B) hp hs
      rw [ahd_tb] at this
      rw [this]; simp
    · simp [h1, h2]
  · have := tb_ge (ahd_lt (B := B) hp hs) (by omega : n ≤ i)
    rw [ahd_tb] at this
    rw [this]; simp
section RREAD2
variable {v : Nat → Nat → Int32} {n : Nat} {K C T H : Nat → Nat} {B : Nat → Nat → Bool} {F : Nat}
theorem r_caL (hp : PicOK n K C T H) (hm : MVs v n K C T H B) {s t : Nat} (hs : s < n) (ht : t < s) : ∀ N i, i ≤ 256 → 256 - i < N → ((∃ c, i ≤ c ∧ c < 256 ∧ B s (plc c) = true ∧ B t (plc c) = true) ∧ fX12_comesAfter_L18 F v (nI s) (nI t) (some 0) N (nI i) = some 1) ∨ ((¬ ∃ c, i ≤ c ∧ c < 256 ∧ B s (plc c) = true ∧ B t (plc c) = true) ∧ fX12_comesAfter_L18 F v (nI s) (nI t) (some 0) N (nI i) = some 0) := by
  have hn := hp.1
  intro N
  induction N with
  | zero => intro i _ h; omega
  | succ N ih =>
    intro i hi hN
    rw [fX12_comesAfter_L18, nb_s]
    rcases Nat.lt_or_ge i 256 with h | h
    · rw [if_neg (show ¬ (256 : Int32) ≤ nI i from nI_ge (b := 256) h (by decide)), if_neg (nI_ge ht (by omega)), r_ix, aI_n (by omega) (by decide), r_has hm hs h]
      have step : (B s (plc i) = true ∧ B t (plc i) = true) ∨ (¬ (B s (plc i) = true ∧ B t (plc i) = true)) := Classical.em _
      rcases step with ⟨b1, b2'⟩ | hb
      · left
        refine ⟨⟨i, Nat.le_refl _, h, b1, b2'⟩, ?_⟩
        rw [if_neg (b2_n.mpr b1), r_ix, aI_n (by omega) (by decide), r_has hm (by omega) h, if_neg (b2_n.mpr b2')]
      · have e : (if b2 (B s (plc i)) = 0 then fX12_comesAfter_J62 F (fun x3 => fX12_comesAfter_L18 F v (nI s) (nI t) (some 0) N x3) (nI s) (nI t) (nI i) v else aI (v 8) 2560 (256 * nI t + nI i) fun v7 => if v7 = 0 then fX12_comesAfter_J62 F (fun x3 => fX12_comesAfter_L18 F v (nI s) (nI t) (some 0) N x3) (nI s) (nI t) (nI i) v else some 1) = fX12_comesAfter_L18 F v (nI s) (nI t) (some 0) N (nI (i + 1)) := by
          have ej : fX12_comesAfter_J62 F (fun x3 => fX12_comesAfter_L18 F v (nI s) (nI t) (some 0) N x3) (nI s) (nI t) (nI i) v = fX12_comesAfter_L18 F v (nI s) (nI t) (some 0) N (nI (i + 1)) := by
            unfold fX12_comesAfter_J62
            rw [nI_1]
          by_cases b1 : B s (plc i) = true
          · rw [if_neg (b2_n.mpr b1), r_ix, aI_n (by omega) (by decide), r_has hm (by omega) h, if_pos (b2_0.mpr (ts_nt (fun q => hb ⟨b1, q⟩))), ej]
          · rw [if_pos (b2_0.mpr (ts_nt b1)), ej]
        rw [e]
        rcases ih (i + 1) (by omega) (by omega) with ⟨⟨c, c1, c2, c3⟩, q⟩ | ⟨c1, q⟩
        · exact Or.inl ⟨⟨c, by omega, c2, c3⟩, q⟩
        · refine Or.inr ⟨?_, q⟩
          rintro ⟨c, d1, d2, d3, d4⟩
          by_cases z : c = i
          · subst z; exact hb ⟨d3, d4⟩
          · exact c1 ⟨c, by omega, d2, d3, d4⟩
    · right
      refine ⟨?_, by rw [if_pos (show (256 : Int32) ≤ nI i from nI_le (a := 256) h (by omega))]⟩
      rintro ⟨c, d1, d2, -⟩
      omega
theorem r_ca (hp : PicOK n K C T H) (hm : MVs v n K C T H B) (hF : 300 ≤ F) {s t : Nat} (hs : s < n) (ht : t < n) : fX12_comesAfter F v (nI s) (nI t) = some (b2 (av H B s t)) := by
  have hn := hp.1
  have hh := (hp.2 s hs).2.2.2.2.1
  have h11 := (hm.2 s hs).2.2.2.2.2.2
  have hw := pw10 hn
  unfold fX12_comesAfter av
  rw [aI_n (by omega) (by decide), h11, shr_b (by omega) (by omega)]
  by_cases hb : (H s).testBit t = true
  · rw [if_neg (fun q => q (b2_1.mpr hb)), hb]; rfl
  · rw [if_pos (fun q => hb (b2_1.mp q)), ts_nt hb]
    rcases Nat.lt_or_ge t s with q | q
    · rw [decide_eq_true q]
      have eo : (∃ c, 0 ≤ c ∧ c < 256 ∧ B s (plc c) = true ∧ B t (plc c) = true) ↔ ovl B s t = true := by
        rw [ovl_t]
        constructor
        · rintro ⟨c, -, c2, c3⟩
          exact ⟨plc c, (cel_c c c2).1, c3⟩
        · rintro ⟨p, hp', h⟩
          obtain ⟨k1, k2, k3⟩ := cel_p p hp' 0 (by decide)
          exact ⟨cel p 0, Nat.zero_le _, k1, by rw [k2]; exact h⟩
      rcases r_caL (F := F) hp hm hs q F 0 (by omega) (by omega) with ⟨g1, g2⟩ | ⟨g1, g2⟩
      · rw [eo.mp g1]; exact g2
      · rw [ts_nt (fun z => g1 (eo.mpr z))]; exact g2
    · rw [decide_eq_false (by omega)]
      obtain ⟨G, rfl⟩ : ∃ G, F = G + 1 := ⟨F - 1, by omega⟩
      rw [fX12_comesAfter_L18, nb_s, if_neg (by decide), if_pos (nI_le q (by omega))]; rfl
theorem r_ahead (hp : PicOK n K C T H) (hm : MVs v n K C T H B) (hF : 300 ≤ F) {s : Nat} (hs : s < n) : fX12_aheadOf F v (nI s) = some (nI (ahd H B s)) := by
  have hn := hp.1
  rw [← arN_ahd hp hs]
  refine lp_up (fun m (z : Int32 × Int32) => fX12_aheadOf_L4 F v (nI s) (fun y1 => some y1) m z.1 z.2) (fun i => (nI (arN H B s i), nI i)) _ n (fun m i hi => ?_) (fun m => ?_) F 0 (Nat.zero_le _) (by omega)
  · show fX12_aheadOf_L4 F v (nI s) (fun y1 => some y1) (m + 1) (nI (arN H B s i)) (nI i) = fX12_aheadOf_L4 F v (nI s) (fun y1 => some y1) m (nI (arN H B s (i + 1))) (nI (i + 1))
    have e0 : fX12_aheadOf_J33 F (fun x2 x3 => fX12_aheadOf_L4 F v (nI s) (fun y1 => some y1) m x2 x3) (nI s) (nI i) (nI (arN H B s i)) v = fX12_aheadOf_L4 F v (nI s) (fun y1 => some y1) m (nI (arN H B s i)) (nI (i + 1)) := by
      unfold fX12_aheadOf_J33 fX12_aheadOf_J34
      rw [show (0 : Int32) = nI 0 from rfl, fa_or, Nat.or_zero, nI_1]
    rw [fX12_aheadOf_L4, nb_s, hm.1, if_neg (nI_ge hi (by omega))]
    by_cases z : i = s
    · rw [if_pos (by rw [z]), e0, arN, if_neg (fun q => q.1 z)]
    · rw [if_neg (fun q => z ((nI_eq (by omega) (by omega)).mp q)), r_ca hp hm hF hs hi, bd_s, arN]
      by_cases hb : av H B s i = true
      · rw [if_neg (b2_n.mpr hb), if_pos ⟨z, hb⟩]
        unfold fX12_aheadOf_J34
        rw [sh1 (by omega), fa_or, nI_1]
      · rw [if_pos (b2_0.mpr (ts_nt hb)), if_neg (fun q => hb q.2), e0]
  · show fX12_aheadOf_L4 F v (nI s) (fun y1 => some y1) (m + 1) (nI (arN H B s n)) (nI n) = _
    rw [fX12_aheadOf_L4, nb_s, hm.1, if_pos (nI_le (Nat.le_refl n) (by omega))]
theorem r_isShape (hm : MVs v n K C T H B) (x : Int32) : fX12_isShape v x = bd (fX11_within x 0 (nI n - 1)) fun v1 => some v1 := by
  unfold fX12_isShape
  rw [hm.1, show (0 : Int64) = (0 : Int32).toInt64 from rfl, r_inw]
end RREAD2
section CREAD2
variable {σ : Nat → Nat → Int32} {sh : Nat → Option Nat} {Z : ZT} {n : Nat} {K C T H : Nat → Nat} {B : Nat → Nat → Bool} {F : Nat}
theorem L_and0 (x y : Int64) : (lg_cmp (x &&& y) 0 = 0) ↔ ¬ ∃ p, p < 64 ∧ bL x p = true ∧ bL y p = true := by
  rw [lg_eq0, ← Int64.toBitVec_inj]
  constructor
  · rintro h ⟨p, hp, h1, h2⟩
    have h3 := congrArg (fun z => BitVec.getLsbD z p) h
    simp only [Int64.toBitVec_and, BitVec.getLsbD_and] at h3
    unfold bL at h1 h2
    rw [h1, h2] at h3
    simp at h3
  · intro h
    apply BitVec.eq_of_getLsbD_eq
    intro i hi
    rw [Int64.toBitVec_and, BitVec.getLsbD_and]
    have : ¬ (bL x i = true ∧ bL y i = true) := fun q => h ⟨i, hi, q⟩
    unfold bL at this
    cases h1 : x.toBitVec.getLsbD i <;> cases h2 : y.toBitVec.getLsbD i <;> simp_all
theorem c_ahead (hp : PicOK n K C T H) (hc : CVs σ sh Z n K C T H B) (hF : 300 ≤ F) {s : Nat} (hs : s < n) : fX4_comesAfter F sh Z σ (nI s) = some (nI (ahd H B s)) := by
  have hn := hp.1
  obtain ⟨q, h0, -, -, -, hB, hh⟩ := hc.2 s hs
  unfold fX4_comesAfter
  rw [aI_n (by omega) (by decide), hh]
  refine lp_up (fun m (z : Int32 × Int32) => fX4_comesAfter_L9 F sh Z σ (nI s) (fun y2 => some y2) m z.1 z.2) (fun i => (nI (acN H B s i), nI i)) _ s (fun m i hi => ?_) (fun m => ?_) F 0 (Nat.zero_le _) (by omega)
  · show fX4_comesAfter_L9 F sh Z σ (nI s) (fun y2 => some y2) (m + 1) (nI (acN H B s i)) (nI i) = fX4_comesAfter_L9 F sh Z σ (nI s) (fun y2 => some y2) m (nI (acN H B s (i + 1))) (nI (i + 1))
    obtain ⟨q2, g0, -, -, -, gB, -⟩ := hc.2 i (by omega)
    have eo : (lg_cmp ((Z q).2.2.1 &&& (Z q2).2.2.1) 0 = 0) ↔ ¬ ovl B s i = true := by
      rw [L_and0, ovl_t]
      apply not_congr
      constructor
      · rintro ⟨p, hp', h1, h2⟩
        exact ⟨p, hp', by rw [← hB p hp']; exact h1, by rw [← gB p hp']; exact h2⟩
      · rintro ⟨p, hp', h1, h2⟩
        exact ⟨p, hp', by rw [hB p hp']; exact h1, by rw [gB p hp']; exact h2⟩
    rw [fX4_comesAfter_L9, nb_s, if_neg (nI_ge hi (by omega)), aO_n (by omega) (by decide) h0, aO_n (by omega) (by decide) g0, acN]
    unfold fX4_comesAfter_J44
    by_cases hb : ovl B s i = true
    · rw [if_neg (fun z => eo.mp z hb), if_pos hb, nm_s, sh1 (by omega), fa_or, nI_1]
    · rw [if_pos (eo.mpr hb), if_neg hb, nI_1]
  · show fX4_comesAfter_L9 F sh Z σ (nI s) (fun y2 => some y2) (m + 1) (nI (acN H B s s)) (nI s) = _
    rw [fX4_comesAfter_L9, nb_s, if_pos (nI_le (Nat.le_refl s) (by omega))]; rfl
theorem c_kind {k : Nat} (h : okK k) : fV_kind k = some (nI (kd k)) := by
  rcases h with h | h | h | h | h <;> subst h <;> rfl
theorem c_cells {q : Nat} {b : Nat → Bool} (hB : ∀ p, p < 64 → bL (Z q).2.2.1 p = b p) : fX6_cells sh Z q σ = some (nI (4 * pcB b)) := by
  unfold fX6_cells pcB
  rw [c_pop64, bd_s, fb_ct_cong hB, show (4 : Int32) = nI 4 from rfl, pk_mul]
theorem c_cellsQ {q : Nat} {b : Nat → Bool} (hB : ∀ p, p < 64 → bL (Z q).2.2.1 p = b p) : fX0_cellsOfQuarter sh Z q σ = some (nI (pcB b)) := by
  unfold fX0_cellsOfQuarter pcB
  rw [c_pop64, bd_s, fb_ct_cong hB]
theorem rmx_I : ∀ p, p < 64 → ((if (nI p - nI p / (8 : Int32) * (8 : Int32)) < (nI p / (8 : Int32)) then (nI p / (8 : Int32)) else (nI p - nI p / (8 : Int32) * (8 : Int32))) : Int32) = nI (rmx p) := by decide +kernel
theorem rmx_lt : ∀ p, p < 64 → rmx p < 8 := by decide +kernel
theorem rcB_lt (b : Nat → Bool) : ∀ p, p ≤ 64 → rcB b p < 8 := by
  intro p
  induction p with
  | zero => intro _; exact Nat.zero_lt_succ 7
  | succ p ih =>
    intro h
    have := rmx_lt p (by omega)
    have := ih (by omega)
    unfold rcB
    split
    · split <;> omega
    · omega
theorem c_reach {q : Nat} {b : Nat → Bool} (hB : ∀ p, p < 64 → bL (Z q).2.2.1 p = b p) (hF : 100 ≤ F) : fX6_reach F sh Z q σ = some (nI (rcB b 64)) := by
  refine lp_up (fun m (z : Int32 × Int32) => fX6_reach_L4 F sh Z q σ (fun y1 => some y1) m z.1 z.2) (fun i => (nI (rcB b i), nI i)) _ 64 (fun m i hi => ?_) (fun m => ?_) F 0 (Nat.zero_le _) (by omega)
  · show fX6_reach_L4 F sh Z q σ (fun y1 => some y1) (m + 1) (nI (rcB b i)) (nI i) = fX6_reach_L4 F sh Z q σ (fun y1 => some y1) m (nI (rcB b (i + 1))) (nI (i + 1))
    have h1 := rmx_lt i hi
    have h2 := rcB_lt b i (by omega)
    rw [fX6_reach_L4, nb_s, if_neg (show ¬ (64 : Int32) ≤ nI i from nI_ge (b := 64) hi (by decide)), c_isAt hi (hB i hi), bd_s, rcB]
    unfold fX6_reach_J34
    by_cases hb : b i = true
    · rw [if_neg (b2_n.mpr hb), if_pos hb, nm_s, rmx_I i hi, nI_1]
      by_cases hl : rcB b i < rmx i
      · rw [if_pos (nI_lt hl (by omega)), if_pos hl]
      · rw [if_neg (nI_nlt (by omega) (by omega)), if_neg hl]
    · rw [if_pos (b2_0.mpr (ts_nt hb)), if_neg hb, nI_1]
  · show fX6_reach_L4 F sh Z q σ (fun y1 => some y1) (m + 1) (nI (rcB b 64)) (nI 64) = _
    rw [fX6_reach_L4, nb_s, if_pos (show (64 : Int32) ≤ nI 64 from nI_le (a := 64) (Nat.le_refl _) (by decide))]
theorem c_shapeOf (hp : PicOK n K C T H) (hc : CVs σ sh Z n K C T H B) (x : Int32) : (fX11_within x 0 (nI n - 1) = some 0 ∧ fX4_shapeOf sh Z σ x = some none) ∨ (fX11_within x 0 (nI n - 1) = some 1 ∧ ∃ s q, s < n ∧ x = nI s ∧ sh s = some q ∧ fX4_shapeOf sh Z σ x = some (some q)) := by
  have hn := hp.1
  unfold fX4_shapeOf
  rw [hc.1]
  rcases wS x n hn with h | ⟨h, s, hs, rfl⟩
  · left; rw [h]; exact ⟨rfl, rfl⟩
  · right
    obtain ⟨q, h0, -⟩ := hc.2 s hs
    refine ⟨h, s, q, hs, rfl, h0, ?_⟩
    rw [h, bd_s, if_neg (by decide), aOo_n (by omega) (by decide), h0]
end CREAD2
section OPS4
variable {PP : PPT} {WP : WPT}
theorem t_step : st_step (Rel PP WP) := by
  intro u v x1 hR
  obtain ⟨n, K, C, T, H, B, S, hOK, hP, hC, hM, hRest⟩ := id hR
  rcases c_shapeOf hP hC x1 with ⟨h, g⟩ | ⟨h, s, q, hs, rfl, h0, g⟩
  · refine ⟨0, -1, ?_, ?_, hR⟩
    · unfold fX11_step; rw [g]; rfl
    · unfold fX12_step; rw [r_isShape hM, h]; rfl
  · obtain ⟨q2, z0, z1, z2, z7, zB, zh⟩ := hC.2 s hs
    rw [h0] at z0; cases z0
    obtain ⟨m1, m2, m7, -⟩ := hM.2 s hs
    have hk := (hP.2 s hs).1
    have hn := hP.1
    have hl := kd_lt (K s)
    have e4 : (nI (kd (K s)) = (4 : Int32)) ↔ K s = 7 := (nI_eq (a := kd (K s)) (b := 4) (by omega) (by decide)).trans (kd4 hk)
    by_cases e : K s = 7
    · refine ⟨0, nI (T s), ?_, ?_, hR⟩
      · unfold fX11_step; rw [g, bd_s]; show (if (u.2.2.2 q).1 = 7 then _ else _) = _; rw [if_pos (z1.trans e), z7 e]
      · unfold fX12_step; rw [r_isShape hM, h, bd_s, bd_s, if_pos (by decide), aI_n (by omega) (by decide), m1, if_pos (e4.mpr e), aI_n (by omega) (by decide), m7 e]
    · refine ⟨0, -12, ?_, ?_, hR⟩
      · unfold fX11_step; rw [g, bd_s]; show (if (u.2.2.2 q).1 = 7 then _ else _) = _; rw [if_neg (fun z => e (z1.symm.trans z))]
      · unfold fX12_step; rw [r_isShape hM, h, bd_s, bd_s, if_pos (by decide), aI_n (by omega) (by decide), m1, if_neg (fun z => e (e4.mp z))]
theorem kd3 {k : Nat} (h : okK k) : 3 ≤ kd k ↔ (k = 0 ∨ k = 7) := by
  rcases h with h | h | h | h | h <;> subst h <;> decide
theorem pcB_le (b : Nat → Bool) : pcB b ≤ 64 := fb_ct_le _ _
theorem t_quarter : st_quarter (Rel PP WP) := by
  intro u v x1 hR
  obtain ⟨n, K, C, T, H, B, S, hOK, hP, hC, hM, hRest⟩ := id hR
  rcases c_shapeOf hP hC x1 with ⟨h, g⟩ | ⟨h, s, q, hs, rfl, h0, g⟩
  · refine ⟨0, -1, ?_, ?_, hR⟩
    · unfold fX11_quarter; rw [g]; rfl
    · unfold fX12_quarter; rw [r_isShape hM, h]; rfl
  · obtain ⟨q2, z0, z1, z2, z7, zB, zh⟩ := hC.2 s hs
    rw [h0] at z0; cases z0
    obtain ⟨m1, m2, m7, m8, m9, -⟩ := hM.2 s hs
    have hk := (hP.2 s hs).1
    have hn := hP.1
    have hl := kd_lt (K s)
    have hb := pcB_le (B s)
    have e4 : ((3 : Int32) ≤ nI (kd (K s))) ↔ (K s = 0 ∨ K s = 7) := (nI_leI (a := 3) (b := kd (K s)) (by decide) (by omega)).trans (kd3 hk)
    by_cases e : K s = 0 ∨ K s = 7
    · refine ⟨0, nI (pcB (B s)), ?_, ?_, hR⟩
      · unfold fX11_quarter; rw [g, bd_s]; show (if ((u.2.2.2 q).1 = 0 ∨ (u.2.2.2 q).1 = 7) then _ else _) = _; rw [if_pos (by rw [z1]; exact e), c_cellsQ zB]; rfl
      · unfold fX12_quarter; rw [r_isShape hM, h, bd_s, bd_s, if_pos (by decide), aI_n (by omega) (by decide), m1, if_pos (e4.mpr e), aI_n (by omega) (by decide), m9, show (4 : Int32) = nI 4 from rfl, pk_div (by omega) (by decide) (by decide), Nat.mul_div_cancel_left _ (by decide)]
    · refine ⟨0, -12, ?_, ?_, hR⟩
      · unfold fX11_quarter; rw [g, bd_s]; show (if ((u.2.2.2 q).1 = 0 ∨ (u.2.2.2 q).1 = 7) then _ else _) = _; rw [if_neg (by rw [z1]; exact e)]
      · unfold fX12_quarter; rw [r_isShape hM, h, bd_s, bd_s, if_pos (by decide), aI_n (by omega) (by decide), m1, if_neg (fun z => e (e4.mp z))]
theorem t_told : st_told (Rel PP WP) := by
  intro u v x1 x2 hR
  obtain ⟨n, K, C, T, H, B, S, hOK, hP, hC, hM, hRest⟩ := id hR
  rcases c_shapeOf hP hC x1 with ⟨h, g⟩ | ⟨h, s, q, hs, rfl, h0, g⟩
  · refine ⟨0, -1, ?_, ?_, hR⟩
    · unfold fX11_told; rw [g]; rfl
    · unfold fX12_told; rw [r_isShape hM, h]; rfl
  · obtain ⟨q2, z0, z1, z2, z7, zB, zh⟩ := hC.2 s hs
    rw [h0] at z0; cases z0
    obtain ⟨m1, m2, m7, m8, m9, m10, m11⟩ := hM.2 s hs
    have hk := (hP.2 s hs).1
    have hn := hP.1
    have hal := ahd_lt (B := B) hP hs
    have hw := pw10 hn
    have ec : fX11_told 300 u.2.1 u.2.2.2 u.1 (nI s) x2 = (if x2 = (0 : Int32) then some (nI (kd (K s))) else if x2 = (1 : Int32) then some (nI (C s)) else if x2 = (2 : Int32) then some (nI (4 * pcB (B s))) else if x2 = (3 : Int32) then some (nI (rcB (B s) 64)) else if x2 = (4 : Int32) then some (nI (popF 30 (ahd H B s))) else some (-1)) := by
      unfold fX11_told
      rw [g, bd_s, c_ahead hP hC (by decide) hs, bd_s, c_pop32 (by omega), bd_s]
      unfold oc
      dsimp only
      rw [z1, c_kind hk, c_cells zB, c_reach zB (by decide), z2]; rfl
    have er : fX12_told 300 v (nI s) x2 = (if x2 = (0 : Int32) then some (nI (kd (K s))) else if x2 = (1 : Int32) then some (nI (C s)) else if x2 = (2 : Int32) then some (nI (4 * pcB (B s))) else if x2 = (3 : Int32) then some (nI (rcB (B s) 64)) else if x2 = (4 : Int32) then some (nI (popF 30 (ahd H B s))) else some (-1)) := by
      unfold fX12_told
      rw [r_isShape hM, h, bd_s, bd_s, if_pos (by decide), aI_n (by omega) (by decide), aI_n (by omega) (by decide), aI_n (by omega) (by decide), aI_n (by omega) (by decide), m1, m2, m9, m10, r_ahead hP hM (by decide) hs, bd_s, r_ones (by decide) (by omega), bd_s]
    have : ∃ r, (if x2 = (0 : Int32) then some (nI (kd (K s))) else if x2 = (1 : Int32) then some (nI (C s)) else if x2 = (2 : Int32) then some (nI (4 * pcB (B s))) else if x2 = (3 : Int32) then some (nI (rcB (B s) 64)) else if x2 = (4 : Int32) then some (nI (popF 30 (ahd H B s))) else some (-1)) = some r := by
      repeat' split
      all_goals exact ⟨_, rfl⟩
    obtain ⟨r, hr⟩ := this
    exact ⟨300, r, ec.trans hr, er.trans hr, hR⟩
theorem c_areTwo {σ : Nat → Nat → Int32} {sh : Nat → Option Nat} {Z : ZT} {v : Nat → Nat → Int32} {n : Nat} {K C T H : Nat → Nat} {B : Nat → Nat → Bool} (hp : PicOK n K C T H) (hc : CVs σ sh Z n K C T H B) (hm : MVs v n K C T H B) (x y : Int32) : (fX4_areTwo sh Z σ x y = some 0 ∧ (fX12_isShape v x = some 0 ∨ (fX12_isShape v x = some 1 ∧ (fX12_isShape v y = some 0 ∨ (fX12_isShape v y = some 1 ∧ x = y))))) ∨ (fX4_areTwo sh Z σ x y = some 1 ∧ fX12_isShape v x = some 1 ∧ fX12_isShape v y = some 1 ∧ ∃ s t, s < n ∧ t < n ∧ s ≠ t ∧ x = nI s ∧ y = nI t) := by
  have hn := hp.1
  unfold fX4_areTwo
  rw [hc.1, r_isShape hm, r_isShape hm]
  rcases wS x n hn with h | ⟨h, s, hs, rfl⟩
  · left; rw [h]; exact ⟨rfl, Or.inl rfl⟩
  · rw [h]
    rcases wS y n hn with h2 | ⟨h2, t, ht, rfl⟩
    · left; rw [h2]; exact ⟨rfl, Or.inr ⟨rfl, Or.inl rfl⟩⟩
    · rw [h2, bd_s, if_neg (by decide), bd_s, if_neg (by decide)]
      by_cases e : s = t
      · left; rw [if_pos (by rw [e])]; exact ⟨rfl, Or.inr ⟨rfl, Or.inr ⟨rfl, by rw [e]⟩⟩⟩
      · right
        rw [if_neg (fun z => e ((nI_eq (by omega) (by omega)).mp z))]
        exact ⟨rfl, rfl, rfl, s, t, hs, ht, e, rfl, rfl⟩
theorem t_after : st_after (Rel PP WP) := by
  intro u v x1 x2 hR
  obtain ⟨n, K, C, T, H, B, S, hOK, hP, hC, hM, hRest⟩ := id hR
  have hn := hP.1
  have hw := pw10 hn
  rcases c_areTwo hP hC hM x1 x2 with ⟨h, h2⟩ | ⟨h, h1, h2, s, t, hs, ht, e, rfl, rfl⟩
  · refine ⟨0, -1, ?_, ?_, hR⟩
    · unfold fX11_after; rw [h]; rfl
    · unfold fX12_after
      rcases h2 with g | ⟨g, g2 | ⟨g2, g3⟩⟩
      · rw [g]; rfl
      · rw [g, g2]; rfl
      · rw [g, g2, bd_s, if_neg (by decide), bd_s, if_neg (by decide), if_neg (fun z => z g3)]
  · have hal := ahd_lt (B := B) hP hs
    refine ⟨300, b2 (av H B s t), ?_, ?_, hR⟩
    · unfold fX11_after; rw [h, bd_s, if_pos (by decide), c_ahead hP hC (by decide) hs, bd_s, shr_b (by omega) (by omega), ahd_tb]
    · unfold fX12_after; rw [h1, bd_s, if_neg (by decide), h2, bd_s, if_neg (by decide), if_pos (fun z => e ((nI_eq (by omega) (by omega)).mp z)), r_ca hP hM (by decide) hs ht, bd_s]
      cases av H B s t <;> rfl
end OPS4
