/-! days: the pure side -/
def lfN (n D : Nat) : Nat := (2 ^ n - 1) &&& (D ^^^ 4294967295)
theorem lf_tb {n : Nat} (hn : n ≤ 10) (D i : Nat) : (lfN n D).testBit i = (decide (i < n) && !D.testBit i) := by
  have := pw10 hn
  unfold lfN
  rw [sub_tb (by omega), Nat.testBit_two_pow_sub_one]
theorem lf_lt {n : Nat} (D : Nat) : lfN n D < 2 ^ n := by
  have := Nat.two_pow_pos n
  exact Nat.lt_of_le_of_lt Nat.and_le_left (by omega)
theorem bit_lt {x n i : Nat} (hx : x < 2 ^ n) (h : x.testBit i = true) : i < n := by
  rcases Nat.lt_or_ge i n with q | q
  · exact q
  · rw [tb_ge hx q] at h; cases h
theorem sub0 {a d : Nat} (ha : a < 2 ^ 31) : a &&& (d ^^^ 4294967295) = 0 ↔ ∀ i, a.testBit i = true → d.testBit i = true := by
  constructor
  · intro h i hi
    have e := sub_tb (d := d) ha i
    rw [h, Nat.zero_testBit, hi] at e
    cases hd : d.testBit i with
    | true => rfl
    | false => rw [hd] at e; cases e
  · intro h
    apply tb_ext
    intro i
    rw [Nat.zero_testBit, sub_tb ha]
    cases hi : a.testBit i with
    | false => rfl
    | true => rw [h i hi]; rfl
theorem and0 {a d : Nat} : a &&& d = 0 ↔ ∀ i, a.testBit i = true → d.testBit i = false := by
  constructor
  · intro h i hi
    have e := Nat.testBit_and a d i
    rw [h, Nat.zero_testBit, hi, Bool.true_and] at e
    exact e.symm
  · intro h
    apply tb_ext
    intro i
    rw [Nat.zero_testBit, Nat.testBit_and]
    cases hi : a.testBit i with
    | false => rfl
    | true => rw [h i hi]; rfl
theorem ne0 {x : Nat} (h : x ≠ 0) : ∃ i, x.testBit i = true := by
  rcases Classical.em (∃ i, x.testBit i = true) with q | q
  · exact q
  · exfalso
    apply h
    apply tb_ext
    intro i
    rw [Nat.zero_testBit]
    exact ts_nt (fun z => q ⟨i, z⟩)
theorem nz_of {x i : Nat} (h : x.testBit i = true) : x ≠ 0 := by
  intro z
  rw [z, Nat.zero_testBit] at h
  cases h
def mkN (p : Nat → Bool) : Nat → Nat
  | 0 => 0
  | i + 1 => if p i then mkN p i ||| 2 ^ i else mkN p i
theorem mkN_tb (p : Nat → Bool) : ∀ m i, (mkN p m).testBit i = (decide (i < m) && p i) := by
  intro m
  induction m with
  | zero => intro i; unfold mkN; rw [Nat.zero_testBit, decide_eq_false (Nat.not_lt_zero i)]; rfl
  | succ m ih =>
    intro i
    unfold mkN
    by_cases e : i = m
    · subst e
      cases h : p i with
      | true => rw [if_pos rfl, Nat.testBit_or, Nat.testBit_two_pow, decide_eq_true rfl, decide_eq_true (Nat.lt_succ_self i), Bool.or_true]; rfl
      | false => rw [if_neg (by decide), ih, h, Bool.and_false, Bool.and_false]
    · have e2 : decide (i < m + 1) = decide (i < m) := decide_eq_decide.mpr (by omega)
      rw [e2]
      split
      · rw [Nat.testBit_or, Nat.testBit_two_pow, decide_eq_false (fun z => e z.symm), Bool.or_false, ih]
      · exact ih i
theorem mkN_lt (p : Nat → Bool) (m : Nat) : mkN p m < 2 ^ m := tb_lt (fun i hi => by rw [mkN_tb, decide_eq_false (by omega)]; rfl)
/-- counts of sets -/
theorem cd_ct {n x : Nat} (hn : n ≤ 10) (hx : x < 2 ^ n) : cd x = fb_ct x.testBit n := by
  unfold cd
  rw [popF_ct, show 30 = n + (30 - n) by omega, fb_ct_split]
  have e : fb_ct (fun k => x.testBit (n + k)) (30 - n) = 0 := fb_ct_zero.mpr (fun k _ => tb_ge hx (by omega))
  rw [e]; rfl
theorem cd_le {n x : Nat} (hn : n ≤ 10) (hx : x < 2 ^ n) : cd x ≤ n := by
  rw [cd_ct hn hx]; exact fb_ct_le _ _
theorem cd_or {x y : Nat} (h : ∀ i, x.testBit i = true → y.testBit i = false) : cd (x ||| y) = cd x + cd y := by
  unfold cd
  rw [popF_ct, popF_ct, popF_ct, ← fb_ct_or (fun k _ z => by rw [h k z.1] at z; cases z.2)]
  exact fb_ct_cong (fun k _ => Nat.testBit_or x y k)
theorem cd_pos {n x : Nat} (hn : n ≤ 10) (hx : x < 2 ^ n) (h : x ≠ 0) : 0 < cd x := by
  obtain ⟨i, hi⟩ := ne0 h
  rw [cd_ct hn hx]
  exact fb_ct_pos.mpr ⟨i, bit_lt hx hi, hi⟩
theorem cd_clr10 {n x s : Nat} (hn : n ≤ 10) (hx : x < 2 ^ n) (h : x.testBit s = true) : cd (clr x s) + 1 = cd x := by
  have h2 := pw10 hn
  have := bit_lt hx h
  exact cd_clr (by omega) (by omega) h
theorem cd_all {n : Nat} (hn : n ≤ 10) : cd (2 ^ n - 1) = n := by
  have := Nat.two_pow_pos n
  rw [cd_ct hn (by omega)]
  exact fb_ct_all.mpr (fun k hk => by rw [Nat.testBit_two_pow_sub_one]; exact decide_eq_true hk)
theorem all_of {n x : Nat} (hx : x < 2 ^ n) (h : ∀ i, i < n → x.testBit i = true) : x = 2 ^ n - 1 := by
  apply tb_ext
  intro i
  rw [Nat.testBit_two_pow_sub_one]
  rcases Nat.lt_or_ge i n with q | q
  · rw [h i q, decide_eq_true q]
  · rw [tb_ge hx q, decide_eq_false (by omega)]
theorem clr_lt2 {n x s : Nat} (hx : x < 2 ^ n) : clr x s < 2 ^ n := Nat.lt_of_le_of_lt (clr_le x s) hx
/-! the next to be poured -/
def lrF (R : Nat → Nat) (x : Nat) : Nat → Option Nat
  | 0 => none
  | i + 1 => if x.testBit i then (match lrF R x i with | none => some (R i) | some m => if R i < m then some (R i) else some m) else lrF R x i
theorem lrF_p (R : Nat → Nat) (x : Nat) : ∀ i, (lrF R x i = none ∧ ∀ s, s < i → x.testBit s = false) ∨ ∃ m, lrF R x i = some m ∧ (∃ s, s < i ∧ x.testBit s = true ∧ R s = m) ∧ ∀ s, s < i → x.testBit s = true → m ≤ R s := by
  intro i
  induction i with
  | zero => exact Or.inl ⟨rfl, fun s h => by omega⟩
  | succ i ih =>
    unfold lrF
    cases hb : x.testBit i with
    | false =>
      rw [if_neg (by decide)]
      rcases ih with ⟨h1, h2⟩ | ⟨m, h1, ⟨s, h3, h4, h5⟩, h6⟩
      · exact Or.inl ⟨h1, fun s hs => by
          by_cases e : s = i
          · rw [e]; exact hb
          · exact h2 s (by omega)⟩
      · refine Or.inr ⟨m, h1, ⟨s, by omega, h4, h5⟩, fun t ht hxt => ?_⟩
        by_cases e : t = i
        · rw [e, hb] at hxt; cases hxt
        · exact h6 t (by omega) hxt
    | true =>
      rw [if_pos rfl]
      rcases ih with ⟨h1, h2⟩ | ⟨m, h1, ⟨s, h3, h4, h5⟩, h6⟩
      · rw [h1]
        refine Or.inr ⟨R i, rfl, ⟨i, by omega, hb, rfl⟩, fun t ht hxt => ?_⟩
        by_cases e : t = i
        · rw [e]; exact Nat.le_refl _
        · rw [h2 t (by omega)] at hxt; cases hxt
      · rw [h1]
        by_cases q : R i < m
        · refine Or.inr ⟨R i, if_pos q, ⟨i, by omega, hb, rfl⟩, fun t ht hxt => ?_⟩
          by_cases e : t = i
          · rw [e]; exact Nat.le_refl _
          · have := h6 t (by omega) hxt
            omega
        · refine Or.inr ⟨m, if_neg q, ⟨s, by omega, h4, h5⟩, fun t ht hxt => ?_⟩
          by_cases e : t = i
          · rw [e]; omega
          · exact h6 t (by omega) hxt
def nxP (A R : Nat → Nat) (x now m : Nat) : Nat → Bool := fun s => x.testBit s && (decide (R s = m) && decide (A s &&& (now ^^^ 4294967295) = 0))
def nxR (n : Nat) (A R : Nat → Nat) (x now : Nat) : Option Nat := match lrF R x n with
  | none => none
  | some m => if fa_first (nxP A R x now m) n < n then some (fa_first (nxP A R x now m) n) else none
theorem nxP_t {A R : Nat → Nat} {x now m s : Nat} (hA : A s < 2 ^ 31) : nxP A R x now m s = true ↔ x.testBit s = true ∧ R s = m ∧ ∀ i, (A s).testBit i = true → now.testBit i = true := by
  unfold nxP
  rw [Bool.and_eq_true_iff, Bool.and_eq_true_iff, decide_eq_true_iff, decide_eq_true_iff, sub0 hA]
def ADJ (n : Nat) (A : Nat → Nat) : Prop := ∀ s, s < n → A s < 2 ^ n
theorem adj31 {n : Nat} {A : Nat → Nat} (hn : n ≤ 10) (hA : ADJ n A) {s : Nat} (hs : s < n) : A s < 2 ^ 31 := by
  have h1 := pw10 hn
  have h2 := hA s hs
  omega
theorem nxR_p {n : Nat} {A R : Nat → Nat} {x now s : Nat} (hn : n ≤ 10) (hA : ADJ n A) (h : nxR n A R x now = some s) : s < n ∧ x.testBit s = true ∧ (∀ t, t < n → x.testBit t = true → R s ≤ R t) ∧ ∀ i, (A s).testBit i = true → now.testBit i = true := by
  unfold nxR at h
  rcases lrF_p R x n with ⟨h1, h2⟩ | ⟨m, h1, -, h6⟩
  · rw [h1] at h; cases h
  · rw [h1] at h
    dsimp only at h
    by_cases q : fa_first (nxP A R x now m) n < n
    · rw [if_pos q] at h
      have e := Option.some.inj h
      have hy := fa_first_yes _ n q
      rw [e] at hy q
      have hy2 := (nxP_t (adj31 hn hA q)).mp hy
      exact ⟨q, hy2.1, fun t ht hxt => by rw [hy2.2.1]; exact h6 t ht hxt, hy2.2.2⟩
    · rw [if_neg q] at h; cases h
def glN (n : Nat) (A R : Nat → Nat) : Nat → Nat → Nat → Option (List Nat)
  | 0, x, _ => if x = 0 then some [] else none
  | m + 1, x, now => if x = 0 then some [] else match nxR n A R x now with
    | none => none
    | some s => (glN n A R m (clr x s) (now ||| 2 ^ s)).map (fun L => s :: L)
def apN (n : Nat) (A R : Nat → Nat) (x : Nat) : Prop := ∀ s o, s < n → o < n → x.testBit s = true → x.testBit o = true → (A s).testBit o = true → R o ≤ R s
def clN (n : Nat) (A : Nat → Nat) (x D : Nat) : Prop := ∀ s, s < n → x.testBit s = true → ∀ i, (A s).testBit i = true → D.testBit i = true ∨ x.testBit i = true
def disj (x D : Nat) : Prop := ∀ i, D.testBit i = true → x.testBit i = false
theorem clr_t {n x s i : Nat} (hn : n ≤ 10) (hx : x < 2 ^ n) : (clr x s).testBit i = true ↔ x.testBit i = true ∧ i ≠ s := by
  have := pw10 hn
  rw [clr_tb (by omega), Bool.and_eq_true_iff]
  constructor
  · intro ⟨h1, h2⟩
    refine ⟨h1, fun z => ?_⟩
    rw [decide_eq_true z] at h2; cases h2
  · intro ⟨h1, h2⟩
    exact ⟨h1, by rw [decide_eq_false h2]; rfl⟩
theorem or_t {now s i : Nat} : (now ||| 2 ^ s).testBit i = true ↔ now.testBit i = true ∨ i = s := by
  rw [Nat.testBit_or, Bool.or_eq_true_iff, Nat.testBit_two_pow, decide_eq_true_iff]
  constructor
  · rintro (h | h)
    · exact Or.inl h
    · exact Or.inr h.symm
  · rintro (h | h)
    · exact Or.inl h
    · exact Or.inr h.symm
theorem disj_s {n x now s : Nat} (hn : n ≤ 10) (hx : x < 2 ^ n) (hd : disj x now) : disj (clr x s) (now ||| 2 ^ s) := by
  intro i hi
  apply ts_nt
  intro z
  have z2 := (clr_t hn hx).mp z
  rcases or_t.mp hi with h | h
  · rw [hd i h] at z2; cases z2.1
  · exact z2.2 h
theorem gl_inv {n : Nat} {A R : Nat → Nat} (hn : n ≤ 10) (hA : ADJ n A) : ∀ m x now L, glN n A R m x now = some L → x < 2 ^ n → disj x now → apN n A R x ∧ clN n A x now ∧ L.length = cd x ∧ (∀ Y : Nat, (∀ s, s < n → Y.testBit s = true → ∃ i, (A s).testBit i = true ∧ Y.testBit i = true) → (∀ i, now.testBit i = true → Y.testBit i = false) → ∀ i, x.testBit i = true → Y.testBit i = false) := by
  have z0 : ∀ (now : Nat) (L : List Nat), some [] = some L → apN n A R 0 ∧ clN n A 0 now ∧ L.length = cd 0 ∧ (∀ Y : Nat, (∀ s, s < n → Y.testBit s = true → ∃ i, (A s).testBit i = true ∧ Y.testBit i = true) → (∀ i, now.testBit i = true → Y.testBit i = false) → ∀ i, (0 : Nat).testBit i = true → Y.testBit i = false) := by
    intro now L h
    cases h
    refine ⟨fun s o _ _ h => ?_, fun s _ h => ?_, by decide, fun Y _ _ i h => ?_⟩
    · rw [Nat.zero_testBit] at h; cases h
    · rw [Nat.zero_testBit] at h; cases h
    · rw [Nat.zero_testBit] at h; cases h
  intro m
  induction m with
  | zero =>
    intro x now L h hx hd
    unfold glN at h
    by_cases q : x = 0
    · rw [if_pos q] at h
      rw [q]; exact z0 now L h
    · rw [if_neg q] at h; cases h
  | succ m ih =>
    intro x now L h hx hd
    unfold glN at h
    by_cases q : x = 0
    · rw [if_pos q] at h
      rw [q]; exact z0 now L h
    · rw [if_neg q] at h
      cases hs : nxR n A R x now with
      | none => rw [hs] at h; cases h
      | some s =>
        rw [hs] at h
        dsimp only at h
        cases hg : glN n A R m (clr x s) (now ||| 2 ^ s) with
        | none => rw [hg] at h; cases h
        | some L' =>
          rw [hg] at h
          cases h
          obtain ⟨p1, p2, p3, p4⟩ := nxR_p hn hA hs
          obtain ⟨i1, i2, i3, i4⟩ := ih (clr x s) (now ||| 2 ^ s) L' hg (clr_lt2 hx) (disj_s hn hx hd)
          refine ⟨?_, ?_, ?_, ?_⟩
          · intro a o ha ho hxa hxo hao
            by_cases ea : a = s
            · have hno := p4 o (by rw [← ea]; exact hao)
              rw [hd o hno] at hxo; cases hxo
            · by_cases eo : o = s
              · rw [eo]; exact p3 a ha hxa
              · exact i1 a o ha ho ((clr_t hn hx).mpr ⟨hxa, ea⟩) ((clr_t hn hx).mpr ⟨hxo, eo⟩) hao
          · intro a ha hxa i hi
            by_cases ea : a = s
            · exact Or.inl (p4 i (by rw [← ea]; exact hi))
            · rcases i2 a ha ((clr_t hn hx).mpr ⟨hxa, ea⟩) i hi with h | h
              · rcases or_t.mp h with h2 | h2
                · exact Or.inl h2
                · exact Or.inr (by rw [h2]; exact p2)
              · exact Or.inr ((clr_t hn hx).mp h).1
          · have := cd_clr10 hn hx p2
            rw [List.length_cons, i3]; exact this
          · intro Y hY hYn
            have hsY : Y.testBit s = false := by
              apply ts_nt
              intro z
              obtain ⟨i, h1, h2⟩ := hY s p1 z
              rw [hYn i (p4 i h1)] at h2; cases h2
            have := i4 Y hY (fun i hi => by
              rcases or_t.mp hi with h | h
              · exact hYn i h
              · rw [h]; exact hsY)
            intro i hi
            by_cases ei : i = s
            · rw [ei]; exact hsY
            · exact this i ((clr_t hn hx).mpr ⟨hi, ei⟩)
/-! the class's next -/
def frP (A : Nat → Nat) (x : Nat) : Nat → Bool := fun s => x.testBit s && decide (A s &&& x = 0)
def ncF (A R : Nat → Nat) (x : Nat) : Nat → Option Nat
  | 0 => none
  | i + 1 => if frP A x i then (match ncF A R x i with | none => some i | some m => if R i < R m then some i else some m) else ncF A R x i
theorem frP_t {A : Nat → Nat} {x s : Nat} : frP A x s = true ↔ x.testBit s = true ∧ ∀ i, (A s).testBit i = true → x.testBit i = false := by
  unfold frP
  rw [Bool.and_eq_true_iff, decide_eq_true_iff, and0]
theorem ncF_p (A R : Nat → Nat) (x : Nat) : ∀ i, (ncF A R x i = none ∧ ∀ s, s < i → frP A x s = false) ∨ ∃ m, ncF A R x i = some m ∧ m < i ∧ frP A x m = true ∧ ∀ s, s < i → frP A x s = true → R m ≤ R s ∧ (s < m → R m < R s) := by
  intro i
  induction i with
  | zero => exact Or.inl ⟨rfl, fun s h => by omega⟩
  | succ i ih =>
    unfold ncF
    cases hb : frP A x i with
    | false =>
      rw [if_neg (by decide)]
      rcases ih with ⟨h1, h2⟩ | ⟨m, h1, h3, h4, h6⟩
      · exact Or.inl ⟨h1, fun s hs => by
          by_cases e : s = i
          · rw [e]; exact hb
          · exact h2 s (by omega)⟩
      · refine Or.inr ⟨m, h1, by omega, h4, fun t ht hxt => ?_⟩
        by_cases e : t = i
        · rw [e, hb] at hxt; cases hxt
        · exact h6 t (by omega) hxt
    | true =>
      rw [if_pos rfl]
      rcases ih with ⟨h1, h2⟩ | ⟨m, h1, h3, h4, h6⟩
      · rw [h1]
        refine Or.inr ⟨i, rfl, by omega, hb, fun t ht hxt => ?_⟩
        by_cases e : t = i
        · rw [e]; exact ⟨Nat.le_refl _, fun h => by omega⟩
        · rw [h2 t (by omega)] at hxt; cases hxt
      · rw [h1]
        by_cases q : R i < R m
        · refine Or.inr ⟨i, if_pos q, by omega, hb, fun t ht hxt => ?_⟩
          by_cases e : t = i
          · rw [e]; exact ⟨Nat.le_refl _, fun h => by omega⟩
          · have := h6 t (by omega) hxt
            exact ⟨by omega, fun _ => by omega⟩
        · refine Or.inr ⟨m, if_neg q, by omega, h4, fun t ht hxt => ?_⟩
          by_cases e : t = i
          · rw [e]; exact ⟨by omega, fun h => by omega⟩
          · exact h6 t (by omega) hxt
def acy (n : Nat) (A : Nat → Nat) : Prop := ∀ Y, Y < 2 ^ n → Y ≠ 0 → ∃ s, s < n ∧ Y.testBit s = true ∧ ∀ i, (A s).testBit i = true → Y.testBit i = false
theorem nx_eq {n : Nat} {A R : Nat → Nat} (hn : n ≤ 10) (hA : ADJ n A) (hac : acy n A) {x now : Nat} (hx : x < 2 ^ n) (h0 : x ≠ 0) (hap : apN n A R x) (hcl : clN n A x now) (hd : disj x now) : ∃ s, nxR n A R x now = some s ∧ ncF A R x n = some s := by
  obtain ⟨i0, hi0⟩ := ne0 h0
  have hi0n := bit_lt hx hi0
  rcases lrF_p R x n with ⟨h1, h2⟩ | ⟨ρ, h1, ⟨s0, h3, h4, h5⟩, h6⟩
  · rw [h2 i0 hi0n] at hi0; cases hi0
  · have hM := hac (mkN (fun s => x.testBit s && decide (R s = ρ)) n) (mkN_lt _ _) (nz_of (i := s0) (by rw [mkN_tb, decide_eq_true h3, h4, decide_eq_true h5]; rfl))
    obtain ⟨t, ht1, ht2, ht3⟩ := hM
    rw [mkN_tb, decide_eq_true ht1, Bool.true_and, Bool.and_eq_true_iff, decide_eq_true_iff] at ht2
    have htn : ∀ i, (A t).testBit i = true → now.testBit i = true := by
      intro i hi
      rcases hcl t ht1 ht2.1 i hi with h | h
      · exact h
      · exfalso
        have hin := bit_lt hx h
        have e1 := hap t i ht1 hin ht2.1 h hi
        have e2 := h6 i hin h
        have e3 := ht3 i hi
        rw [mkN_tb, decide_eq_true hin, h, decide_eq_true (by rw [ht2.2] at e1; omega)] at e3
        cases e3
    have hpt : nxP A R x now ρ t = true := (nxP_t (adj31 hn hA ht1)).mpr ⟨ht2.1, ht2.2, htn⟩
    have hf : fa_first (nxP A R x now ρ) n < n := by
      rcases Nat.lt_or_ge (fa_first (nxP A R x now ρ) n) n with q | q
      · exact q
      · have := fa_first_no (nxP A R x now ρ) n t (by omega)
        rw [hpt] at this; cases this
    have hs := (nxP_t (adj31 hn hA hf)).mp (fa_first_yes _ n hf)
    have hno := fa_first_no (nxP A R x now ρ) n
    have hnx : nxR n A R x now = some (fa_first (nxP A R x now ρ) n) := by
      unfold nxR
      rw [h1]
      exact if_pos hf
    generalize fa_first (nxP A R x now ρ) n = s at *
    refine ⟨s, hnx, ?_⟩
    have hfs : frP A x s = true := frP_t.mpr ⟨hs.1, fun i hi => hd i (hs.2.2 i hi)⟩
    rcases ncF_p A R x n with ⟨-, g2⟩ | ⟨m, g1, g2, g3, g4⟩
    · rw [g2 s hf] at hfs; cases hfs
    · rw [g1]
      have g5 := frP_t.mp g3
      have g6 := g4 s hf hfs
      have e1 := h6 m g2 g5.1
      have hRm : R m = ρ := by rw [hs.2.1] at g6; omega
      have hpm : nxP A R x now ρ m = true := (nxP_t (adj31 hn hA g2)).mpr ⟨g5.1, hRm, fun i hi => by
        rcases hcl m g2 g5.1 i hi with h | h
        · exact h
        · rw [g5.2 i hi] at h; cases h⟩
      have e2 : ¬ m < s := fun z => by rw [hno m z] at hpm; cases hpm
      have e3 : ¬ s < m := fun z => by have := g6.2 z; rw [hs.2.1] at this; omega
      congr 1; omega
def ccN (n : Nat) (A R : Nat → Nat) : Nat → Nat → List Nat
  | 0, _ => []
  | m + 1, x => if x = 0 then [] else match ncF A R x n with
    | none => []
    | some s => s :: ccN n A R m (clr x s)
theorem gl_ok {n : Nat} {A R : Nat → Nat} (hn : n ≤ 10) (hA : ADJ n A) (hac : acy n A) : ∀ m x now, cd x ≤ m → x < 2 ^ n → apN n A R x → clN n A x now → disj x now → glN n A R m x now = some (ccN n A R m x) := by
  intro m
  induction m with
  | zero =>
    intro x now hm hx _ _ _
    have h2 := pw10 hn
    have : x = 0 := cd0 (by omega) (by omega)
    unfold glN ccN
    rw [if_pos this]
  | succ m ih =>
    intro x now hm hx hap hcl hd
    unfold glN ccN
    by_cases q : x = 0
    · rw [if_pos q, if_pos q]
    · rw [if_neg q, if_neg q]
      obtain ⟨s, e1, e2⟩ := nx_eq hn hA hac hx q hap hcl hd
      obtain ⟨p1, p2, p3, p4⟩ := nxR_p hn hA e1
      have hc := cd_clr10 hn hx p2
      rw [e1, e2]
      dsimp only
      rw [ih (clr x s) (now ||| 2 ^ s) (by omega) (clr_lt2 hx) (fun a o ha ho h1 h2 h3 => hap a o ha ho ((clr_t hn hx).mp h1).1 ((clr_t hn hx).mp h2).1 h3) (fun a ha h1 i hi => ?_) (disj_s hn hx hd)]
      · rfl
      · rcases hcl a ha ((clr_t hn hx).mp h1).1 i hi with h | h
        · exact Or.inl (or_t.mpr (Or.inl h))
        · by_cases e : i = s
          · exact Or.inl (or_t.mpr (Or.inr e))
          · exact Or.inr ((clr_t hn hx).mpr ⟨h, e⟩)
/-! what can be a DAY -/
def swN (n : Nat) (W : Nat → Nat) (x : Nat) : Nat := fb_sm (fun s => if x.testBit s then W s else 0) n
def canN (n : Nat) (A W R : Nat → Nat) (S x D : Nat) : Bool := decide (swN n W x ≤ S) && (glN n A R 10 x D).isSome
theorem can_p {n : Nat} {A W R : Nat → Nat} {S x D : Nat} (h : canN n A W R S x D = true) : swN n W x ≤ S ∧ ∃ L, glN n A R 10 x D = some L := by
  unfold canN at h
  rw [Bool.and_eq_true_iff, decide_eq_true_iff] at h
  exact ⟨h.1, Option.isSome_iff_exists.mp h.2⟩
theorem can_of {n : Nat} {A W R : Nat → Nat} {S x D : Nat} (hn : n ≤ 10) (hA : ADJ n A) (hac : acy n A) (hx : x < 2 ^ n) (hd : disj x D) (h1 : swN n W x ≤ S) (h2 : apN n A R x) (h3 : clN n A x D) : canN n A W R S x D = true := by
  unfold canN
  rw [decide_eq_true h1, gl_ok hn hA hac 10 x D (by have := cd_le hn hx; omega) hx h2 h3 hd]
  rfl
theorem sw_ge {n : Nat} {W : Nat → Nat} {x s : Nat} (hs : s < n) (hx : x.testBit s = true) : W s ≤ swN n W x := by
  unfold swN
  induction n with
  | zero => omega
  | succ n ih =>
    rw [fb_sm_succ]
    by_cases e : s = n
    · subst e; rw [if_pos hx]; omega
    · have := ih (by omega)
      omega
theorem sw_mono {n : Nat} {W : Nat → Nat} {x y : Nat} (h : ∀ i, x.testBit i = true → y.testBit i = true) : swN n W x ≤ swN n W y := by
  unfold swN
  induction n with
  | zero => exact Nat.le_refl _
  | succ n ih =>
    rw [fb_sm_succ, fb_sm_succ]
    cases hx : x.testBit n with
    | false => rw [if_neg (by decide)]; omega
    | true => rw [if_pos rfl, if_pos (h n hx)]; omega
theorem sw_one {n : Nat} {W : Nat → Nat} {s : Nat} : swN n W (2 ^ s) ≤ W s := by
  unfold swN
  have : ∀ n, fb_sm (fun t => if (2 ^ s).testBit t then W t else 0) n = if s < n then W s else 0 := by
    intro n
    induction n with
    | zero => rfl
    | succ n ih =>
      rw [fb_sm_succ, ih, Nat.testBit_two_pow]
      by_cases e : s = n
      · subst e
        rw [decide_eq_true rfl, if_pos rfl, if_neg (Nat.lt_irrefl s), if_pos (Nat.lt_succ_self s)]; omega
      · rw [decide_eq_false e, if_neg (show ¬ false = true by decide)]
        by_cases q : s < n
        · rw [if_pos q, if_pos (by omega)]; rfl
        · rw [if_neg q, if_neg (by omega)]
  rw [this n]
  split
  · exact Nat.le_refl _
  · exact Nat.zero_le _
/-! DAYS -/
def PkN (n : Nat) (can : Nat → Nat → Bool) : Nat → Nat → Prop
  | 0, D => D = 2 ^ n - 1
  | k + 1, D => ∃ z, z ≠ 0 ∧ z < 2 ^ n ∧ disj z D ∧ can z D = true ∧ PkN n can k (D ||| z)
def FwN (n : Nat) (can : Nat → Nat → Bool) (k D : Nat) : Prop := PkN n can k D ∧ ∀ j, j < k → ¬ PkN n can j D
theorem Fw_ex {n : Nat} {can : Nat → Nat → Bool} {D : Nat} : ∀ k, PkN n can k D → ∃ m, m ≤ k ∧ FwN n can m D := by
  intro k
  induction k using Nat.strongRecOn with
  | ind k ih =>
    intro h
    rcases Classical.em (∃ j, j < k ∧ PkN n can j D) with ⟨j, h1, h2⟩ | q
    · obtain ⟨m, h3, h4⟩ := ih j h1 h2
      exact ⟨m, by omega, h4⟩
    · exact ⟨k, Nat.le_refl k, h, fun j hj z => q ⟨j, hj, z⟩⟩
theorem Fw_le {n : Nat} {can : Nat → Nat → Bool} {k j D : Nat} (h : FwN n can k D) (h2 : PkN n can j D) : k ≤ j := by
  rcases Nat.lt_or_ge j k with q | q
  · exact absurd h2 (h.2 j q)
  · exact q
theorem Fw_one {n : Nat} {can : Nat → Nat → Bool} {k j D : Nat} (h : FwN n can k D) (h2 : FwN n can j D) : k = j := Nat.le_antisymm (Fw_le h h2.1) (Fw_le h2 h.1)
theorem or_lt2 {n x y : Nat} (hx : x < 2 ^ n) (hy : y < 2 ^ n) : x ||| y < 2 ^ n := Nat.or_lt_two_pow hx hy
theorem disj_c {x D : Nat} (h : disj x D) : ∀ i, x.testBit i = true → D.testBit i = false := by
  intro i hi
  apply ts_nt
  intro z
  rw [h i z] at hi; cases hi
theorem Pk_len {n : Nat} {can : Nat → Nat → Bool} (hn : n ≤ 10) : ∀ k D, D < 2 ^ n → PkN n can k D → k + cd D ≤ n := by
  intro k
  induction k with
  | zero => intro D hD _; have := cd_le hn hD; omega
  | succ k ih =>
    intro D hD h
    obtain ⟨z, h1, h2, h3, h4, h5⟩ := h
    have e1 := ih _ (or_lt2 hD h2) h5
    have e2 := cd_pos hn h2 h1
    rw [cd_or (fun i hi => h3 i hi)] at e1
    omega
theorem Pk_no {n : Nat} {A W R : Nat → Nat} {S : Nat} (hn : n ≤ 10) (hA : ADJ n A) {Y : Nat} (hY0 : Y ≠ 0) (hYn : Y < 2 ^ n) (hY : ∀ s, s < n → Y.testBit s = true → ∃ i, (A s).testBit i = true ∧ Y.testBit i = true) : ∀ k D, D < 2 ^ n → (∀ i, D.testBit i = true → Y.testBit i = false) → ¬ PkN n (canN n A W R S) k D := by
  intro k
  induction k with
  | zero =>
    intro D _ hD h
    have h : D = 2 ^ n - 1 := h
    obtain ⟨i, hi⟩ := ne0 hY0
    have hin := bit_lt hYn hi
    have := hD i (by rw [h, Nat.testBit_two_pow_sub_one]; exact decide_eq_true hin)
    rw [this] at hi; cases hi
  | succ k ih =>
    intro D hDn hD h
    obtain ⟨z, h1, h2, h3, h4, h5⟩ := h
    obtain ⟨-, L, hL⟩ := can_p h4
    obtain ⟨-, -, -, g⟩ := gl_inv hn hA 10 z D L hL h2 h3
    refine ih _ (or_lt2 hDn h2) (fun i hi => ?_) h5
    rw [Nat.testBit_or, Bool.or_eq_true_iff] at hi
    rcases hi with hi | hi
    · exact hD i hi
    · exact g Y hY hD i hi
theorem Pk_big {n : Nat} {A W R : Nat → Nat} {S : Nat} {s : Nat} (hs : s < n) (hW : S < W s) : ∀ k D, D.testBit s = false → ¬ PkN n (canN n A W R S) k D := by
  intro k
  induction k with
  | zero =>
    intro D hD h
    have h : D = 2 ^ n - 1 := h
    rw [h, Nat.testBit_two_pow_sub_one, decide_eq_true hs] at hD
    cases hD
  | succ k ih =>
    intro D hD h
    obtain ⟨z, h1, h2, h3, h4, h5⟩ := h
    obtain ⟨hw, -⟩ := can_p h4
    refine ih _ ?_ h5
    rw [Nat.testBit_or, hD, Bool.false_or]
    apply ts_nt
    intro q
    have := sw_ge (W := W) hs q
    omega
def clo (n : Nat) (A : Nat → Nat) (D : Nat) : Prop := ∀ s, s < n → D.testBit s = true → ∀ i, (A s).testBit i = true → D.testBit i = true
theorem clo_or {n : Nat} {A : Nat → Nat} {D z : Nat} (hD : clo n A D) : clo n A (D ||| z) ↔ clN n A z D := by
  constructor
  · intro h s hs hz i hi
    have := h s hs (by rw [Nat.testBit_or, hz, Bool.or_true]) i hi
    rw [Nat.testBit_or, Bool.or_eq_true_iff] at this
    exact this
  · intro h s hs hz i hi
    rw [Nat.testBit_or, Bool.or_eq_true_iff] at hz ⊢
    rcases hz with hz | hz
    · exact Or.inl (hD s hs hz i hi)
    · exact h s hs hz i hi
theorem can_iff {n : Nat} {A W R : Nat → Nat} {S z D : Nat} (hn : n ≤ 10) (hA : ADJ n A) (hac : acy n A) (hz : z < 2 ^ n) (hd : disj z D) (hD : clo n A D) : canN n A W R S z D = true ↔ (swN n W z ≤ S ∧ apN n A R z) ∧ clo n A (D ||| z) := by
  constructor
  · intro h
    obtain ⟨hw, L, hL⟩ := can_p h
    obtain ⟨g1, g2, -, -⟩ := gl_inv hn hA 10 z D L hL hz hd
    exact ⟨⟨hw, g1⟩, (clo_or hD).mpr g2⟩
  · intro ⟨⟨h1, h2⟩, h3⟩
    exact can_of hn hA hac hz hd h1 h2 ((clo_or hD).mp h3)
theorem Pk_ex {n : Nat} {A W R : Nat → Nat} {S : Nat} (hn : n ≤ 10) (hA : ADJ n A) (hac : acy n A) (hW : ∀ s, s < n → W s ≤ S) : ∀ m D, n ≤ cd D + m → D < 2 ^ n → clo n A D → ∃ k, PkN n (canN n A W R S) k D := by
  intro m
  induction m with
  | zero =>
    intro D hm hD hc
    refine ⟨0, all_of hD (fun i hi => ?_)⟩
    have e := cd_ct hn hD
    have := cd_le hn hD
    exact fb_ct_all.mp (by omega) i hi
  | succ m ih =>
    intro D hm hD hc
    by_cases q : lfN n D = 0
    · refine ⟨0, all_of hD (fun i hi => ?_)⟩
      have e := lf_tb hn D i
      rw [q, Nat.zero_testBit, decide_eq_true hi, Bool.true_and] at e
      cases h : D.testBit i with
      | true => rfl
      | false => rw [h] at e; cases e
    · obtain ⟨s, h1, h2, h3⟩ := hac (lfN n D) (lf_lt D) q
      rw [lf_tb hn, decide_eq_true h1, Bool.true_and] at h2
      have hDs : D.testBit s = false := by
        cases h : D.testBit s with
        | true => rw [h] at h2; cases h2
        | false => rfl
      have hp : 2 ^ s < 2 ^ n := Nat.pow_lt_pow_right (by omega) h1
      have hAs : ∀ i, (A s).testBit i = true → D.testBit i = true := by
        intro i hi
        have e := h3 i hi
        rw [lf_tb hn, decide_eq_true (bit_lt (hA s h1) hi), Bool.true_and] at e
        cases h : D.testBit i with
        | true => rfl
        | false => rw [h] at e; cases e
      have hdj : disj (2 ^ s) D := by
        intro i hi
        rw [Nat.testBit_two_pow]
        apply decide_eq_false
        intro z
        rw [← z, hDs] at hi; cases hi
      have hcl : clN n A (2 ^ s) D := by
        intro t ht hz i hi
        rw [Nat.testBit_two_pow, decide_eq_true_iff] at hz
        exact Or.inl (hAs i (by rw [hz]; exact hi))
      have hcan : canN n A W R S (2 ^ s) D = true := can_of hn hA hac hp hdj (Nat.le_trans sw_one (hW s h1)) (fun a o _ _ ha ho _ => by
        rw [Nat.testBit_two_pow, decide_eq_true_iff] at ha ho
        rw [← ha, ← ho]; exact Nat.le_refl _) hcl
      have hcd : cd (D ||| 2 ^ s) = cd D + cd (2 ^ s) := cd_or (fun i hi => hdj i hi)
      have hc1 := cd_pos hn hp (by have := Nat.two_pow_pos s; omega)
      obtain ⟨k, hk⟩ := ih (D ||| 2 ^ s) (by omega) (or_lt2 hD hp) ((clo_or hc).mpr hcl)
      exact ⟨k + 1, 2 ^ s, by have := Nat.two_pow_pos s; omega, hp, hdj, hcan, hk⟩
theorem Pk_mono {n : Nat} {A W R : Nat → Nat} {S : Nat} (hn : n ≤ 10) (hA : ADJ n A) (hac : acy n A) : ∀ k D E, D < 2 ^ n → E < 2 ^ n → clo n A D → clo n A E → (∀ i, D.testBit i = true → E.testBit i = true) → PkN n (canN n A W R S) k D → ∃ j, j ≤ k ∧ PkN n (canN n A W R S) j E := by
  intro k
  induction k with
  | zero =>
    intro D E hD hE _ _ hs h
    have h : D = 2 ^ n - 1 := h
    exact ⟨0, Nat.le_refl 0, all_of hE (fun i hi => hs i (by rw [h, Nat.testBit_two_pow_sub_one]; exact decide_eq_true hi))⟩
  | succ k ih =>
    intro D E hD hE cD cE hs h
    obtain ⟨z, h1, h2, h3, h4, h5⟩ := h
    have h4' := (can_iff hn hA hac h2 h3 cD).mp h4
    have h10 := pw10 hn
    have hzE : z &&& (E ^^^ 4294967295) < 2 ^ n := Nat.lt_of_le_of_lt Nat.and_le_left h2
    have htb : ∀ i, (z &&& (E ^^^ 4294967295)).testBit i = (z.testBit i && !E.testBit i) := fun i => sub_tb (by omega) i
    by_cases q : z &&& (E ^^^ 4294967295) = 0
    · have hsub := (sub0 (by omega)).mp q
      obtain ⟨j, hj1, hj2⟩ := ih (D ||| z) E (or_lt2 hD h2) hE h4'.2 cE (fun i hi => by
        rw [Nat.testBit_or, Bool.or_eq_true_iff] at hi
        rcases hi with hi | hi
        · exact hs i hi
        · exact hsub i hi) h5
      exact ⟨j, by omega, hj2⟩
    · have hdj : disj (z &&& (E ^^^ 4294967295)) E := by
        intro i hi
        rw [htb, hi]; simp
      have hor : ∀ i, (E ||| (z &&& (E ^^^ 4294967295))).testBit i = true ↔ E.testBit i = true ∨ (D ||| z).testBit i = true := by
        intro i
        rw [Nat.testBit_or, htb, Nat.testBit_or]
        cases hE' : E.testBit i with
        | true => simp
        | false =>
          cases hD' : D.testBit i with
          | true => rw [hs i hD'] at hE'; cases hE'
          | false => simp
      have hclo : clo n A (E ||| (z &&& (E ^^^ 4294967295))) := by
        intro s hs' hb i hi
        rw [hor] at hb ⊢
        rcases hb with hb | hb
        · exact Or.inl (cE s hs' hb i hi)
        · exact Or.inr (h4'.2 s hs' hb i hi)
      have hsz : ∀ i, (z &&& (E ^^^ 4294967295)).testBit i = true → z.testBit i = true := by
        intro i hi
        rw [htb, Bool.and_eq_true_iff] at hi
        exact hi.1
      have hcan : canN n A W R S (z &&& (E ^^^ 4294967295)) E = true := (can_iff hn hA hac hzE hdj cE).mpr ⟨⟨Nat.le_trans (sw_mono hsz) h4'.1.1, fun a o ha ho e1 e2 e3 => h4'.1.2 a o ha ho (hsz a e1) (hsz o e2) e3⟩, hclo⟩
      obtain ⟨j, hj1, hj2⟩ := ih (D ||| z) (E ||| (z &&& (E ^^^ 4294967295))) (or_lt2 hD h2) (or_lt2 hE hzE) h4'.2 hclo (fun i hi => (hor i).mpr (Or.inr hi)) h5
      exact ⟨j + 1, by omega, z &&& (E ^^^ 4294967295), q, hzE, hdj, hcan, hj2⟩
/-! the sets below a set, downward -/
theorem and_d2 (a b : Nat) : (a &&& b) / 2 = a / 2 &&& b / 2 := by
  apply tb_ext
  intro i
  rw [Nat.testBit_div_two, Nat.testBit_and, Nat.testBit_and, Nat.testBit_div_two, Nat.testBit_div_two]
theorem and_m2 (a b : Nat) : (a &&& b) % 2 = if a % 2 = 1 then b % 2 else 0 := by
  have e := Nat.testBit_and a b 0
  rw [Nat.testBit_zero, Nat.testBit_zero, Nat.testBit_zero] at e
  by_cases h : a % 2 = 1
  · rw [if_pos h]
    rw [decide_eq_true h, Bool.true_and] at e
    have := decide_eq_decide.mp e
    omega
  · rw [if_neg h]
    rw [decide_eq_false h, Bool.false_and] at e
    have := of_decide_eq_false e
    omega
theorem sub_nx : ∀ x l z : Nat, x &&& l = x → z &&& l = z → z < x → z ≤ (x - 1) &&& l := by
  intro x
  induction x using Nat.strongRecOn with
  | ind x ih =>
    intro l z hx hz hlt
    have hx2 : x / 2 &&& l / 2 = x / 2 := by rw [← and_d2, hx]
    have hz2 : z / 2 &&& l / 2 = z / 2 := by rw [← and_d2, hz]
    have hz1 := and_m2 z l
    rw [hz] at hz1
    have d := and_d2 (x - 1) l
    have m := and_m2 (x - 1) l
    rcases Nat.mod_two_eq_zero_or_one x with e | e
    · have e1 : (x - 1) / 2 = x / 2 - 1 := by omega
      have e2 : (x - 1) % 2 = 1 := by omega
      rw [e1] at d
      rw [if_pos e2] at m
      have := ih (x / 2) (by omega) (l / 2) (z / 2) hx2 hz2 (by omega)
      by_cases e3 : z % 2 = 1
      · rw [if_pos e3] at hz1; omega
      · omega
    · have e1 : (x - 1) / 2 = x / 2 := by omega
      rw [e1, hx2] at d
      omega
theorem sub_and {z l : Nat} (h : ∀ i, z.testBit i = true → l.testBit i = true) : z &&& l = z := by
  apply tb_ext
  intro i
  rw [Nat.testBit_and]
  cases hz : z.testBit i with
  | false => rfl
  | true => rw [h i hz]; rfl
theorem and_sub {z l i : Nat} (h : z &&& l = z) (hz : z.testBit i = true) : l.testBit i = true := by
  have e := Nat.testBit_and z l i
  rw [h, hz, Bool.true_and] at e
  exact e.symm
theorem sub_lf {n z D : Nat} (hn : n ≤ 10) : z &&& lfN n D = z ↔ z < 2 ^ n ∧ disj z D := by
  constructor
  · intro h
    refine ⟨tb_lt (fun i hi => ts_nt (fun q => ?_)), fun i hi => ts_nt (fun q => ?_)⟩
    · have := and_sub h q
      rw [lf_tb hn, decide_eq_false (by omega)] at this
      cases this
    · have := and_sub h q
      rw [lf_tb hn, hi, Bool.not_true, Bool.and_false] at this
      cases this
  · intro ⟨h1, h2⟩
    apply sub_and
    intro i hi
    rw [lf_tb hn, decide_eq_true (bit_lt h1 hi), disj_c h2 i hi]; rfl
