/-! the class: what lies apart, what sets weigh -/
section CW
variable {sh : Nat → Option Nat} {Z : ZT} {F n : Nat} {A W R : Nat → Nat} {S : Nat}
def cnd (A R : Nat → Nat) (a b : Nat) : Prop := (A a).testBit b = true ∧ R a < R b
def SVp (n : Nat) (A R : Nat → Nat) (row : Nat → Int32) (P : Nat → Nat → Prop) : Prop := ∀ a, a < n → ∃ m, m < 2 ^ n ∧ row a = nI m ∧ ∀ b, m.testBit b = true ↔ b < n ∧ ((cnd A R a b ∧ P a b) ∨ (cnd A R b a ∧ P b a))
def prc (s o a b : Nat) : Prop := a < s ∨ (a = s ∧ b < o)
theorem SV_skip {row : Nat → Int32} {s o : Nat} (h : SVp n A R row (prc s o)) (hc : ¬ cnd A R s o) : SVp n A R row (prc s (o + 1)) := by
  intro a ha
  obtain ⟨m, h1, h2, h3⟩ := h a ha
  have key : ∀ a b, cnd A R a b ∧ prc s o a b ↔ cnd A R a b ∧ prc s (o + 1) a b := by
    intro a b
    unfold prc
    constructor
    · intro ⟨g1, g2⟩
      refine ⟨g1, ?_⟩
      omega
    · intro ⟨g1, g2⟩
      refine ⟨g1, ?_⟩
      by_cases e : a = s ∧ b = o
      · rw [e.1, e.2] at g1; exact absurd g1 hc
      · omega
  refine ⟨m, h1, h2, fun b => ?_⟩
  rw [h3 b, key a b, key b a]
theorem SV_cong {row : Nat → Int32} {P Q : Nat → Nat → Prop} (h : SVp n A R row P) (e : ∀ a b, a < n → b < n → (P a b ↔ Q a b)) : SVp n A R row Q := by
  intro a ha
  obtain ⟨m, h1, h2, h3⟩ := h a ha
  refine ⟨m, h1, h2, fun b => ?_⟩
  rw [h3 b]
  constructor
  · intro ⟨hb, g⟩
    exact ⟨hb, by rw [← e a b ha hb, ← e b a hb ha]; exact g⟩
  · intro ⟨hb, g⟩
    exact ⟨hb, by rw [e a b ha hb, e b a hb ha]; exact g⟩
theorem SV_add {row : Nat → Int32} {s o ms mo : Nat} (hs : s < n) (ho : o < n) (h : SVp n A R row (prc s o)) (hc : cnd A R s o) (es : row s = nI ms) (eo' : row o = nI mo) (hms : ms < 2 ^ n) (hmo : mo < 2 ^ n) (hn : n ≤ 10) : SVp n A R (upd (upd row s (nI (ms ||| 2 ^ o))) o (nI (mo ||| 2 ^ s))) (prc s (o + 1)) := by
  have h10 := pw10 hn
  have hso : s ≠ o := fun z => by
    have := hc.2
    rw [z] at this
    omega
  have ps : 2 ^ s < 2 ^ n := Nat.pow_lt_pow_right (by omega) hs
  have po : 2 ^ o < 2 ^ n := Nat.pow_lt_pow_right (by omega) ho
  intro a ha
  obtain ⟨m, h1, h2, h3⟩ := h a ha
  by_cases e1 : a = o
  · subst e1
    rw [pk_us]
    have em : m = mo := (nI_eq (by omega) (by omega)).mp (h2.symm.trans eo')
    subst em
    refine ⟨m ||| 2 ^ s, or_lt2 h1 ps, rfl, fun b => ?_⟩
    rw [or_t, h3 b]
    unfold prc
    constructor
    · rintro (⟨hb, g⟩ | g)
      · refine ⟨hb, ?_⟩
        rcases g with ⟨g1, g2⟩ | ⟨g1, g2⟩
        · exact Or.inl ⟨g1, by omega⟩
        · exact Or.inr ⟨g1, by omega⟩
      · subst g
        exact ⟨hs, Or.inr ⟨hc, by omega⟩⟩
    · intro ⟨hb, g⟩
      by_cases eb : b = s
      · exact Or.inr eb
      · refine Or.inl ⟨hb, ?_⟩
        rcases g with ⟨g1, g2⟩ | ⟨g1, g2⟩
        · exact Or.inl ⟨g1, by omega⟩
        · exact Or.inr ⟨g1, by omega⟩
  · rw [pk_un e1]
    by_cases e2 : a = s
    · subst e2
      rw [pk_us]
      have em : m = ms := (nI_eq (by omega) (by omega)).mp (h2.symm.trans es)
      subst em
      refine ⟨m ||| 2 ^ o, or_lt2 h1 po, rfl, fun b => ?_⟩
      rw [or_t, h3 b]
      unfold prc
      constructor
      · rintro (⟨hb, g⟩ | g)
        · refine ⟨hb, ?_⟩
          rcases g with ⟨g1, g2⟩ | ⟨g1, g2⟩
          · exact Or.inl ⟨g1, by omega⟩
          · exact Or.inr ⟨g1, by omega⟩
        · subst g
          exact ⟨ho, Or.inl ⟨hc, by omega⟩⟩
      · intro ⟨hb, g⟩
        by_cases eb : b = o
        · exact Or.inr eb
        · refine Or.inl ⟨hb, ?_⟩
          rcases g with ⟨g1, g2⟩ | ⟨g1, g2⟩
          · exact Or.inl ⟨g1, by omega⟩
          · exact Or.inr ⟨g1, by omega⟩
    · rw [pk_un e2]
      refine ⟨m, h1, h2, fun b => ?_⟩
      rw [h3 b]
      unfold prc
      constructor
      · intro ⟨hb, g⟩
        refine ⟨hb, ?_⟩
        rcases g with ⟨g1, g2⟩ | ⟨g1, g2⟩
        · exact Or.inl ⟨g1, by omega⟩
        · exact Or.inr ⟨g1, by omega⟩
      · intro ⟨hb, g⟩
        refine ⟨hb, ?_⟩
        rcases g with ⟨g1, g2⟩ | ⟨g1, g2⟩
        · exact Or.inl ⟨g1, by omega⟩
        · exact Or.inr ⟨g1, by omega⟩
theorem CS8 {σ σ' : Nat → Nat → Int32} (h : CS σ n A W R S) (e : ∀ r, r ≠ 8 → σ' r = σ r) : CS σ' n A W R S := CS_to h (e 38 (by decide)) (e 36 (by decide)) (e 34 (by decide)) (e 5 (by decide)) (e 6 (by decide)) (e 7 (by decide))
theorem c_sep35 (hD : DOK n A W R S) {s : Nat} (hs : s < n) (kx : (Nat → Nat → Int32) → Option ((Nat → Nat → Int32))) : ∀ N o (σ : Nat → Nat → Int32), CS σ n A W R S → SVp n A R (σ 8) (prc s o) → o ≤ n → n - o < N → ∃ σ' : Nat → Nat → Int32, fX10_separate_L35 F sh Z (nI s) kx N (nI o) σ = kx σ' ∧ (∀ r, r ≠ 8 → σ' r = σ r) ∧ SVp n A R (σ' 8) (prc s n) := by
  have hn := hD.1
  have h10 := pw10 hn
  intro N
  induction N with
  | zero => intro o σ _ _ _ h; omega
  | succ N ih =>
    intro o σ hc hv ho hN
    have c38 := hc.1
    rw [fX10_separate_L35, nb_s, c38]
    rcases Nat.lt_or_ge o n with q | q
    · have hAs := hD.2.1 s hs
      rw [if_neg (nI_ge q (by omega)), aI_n (by omega) (by decide), (hc.2.2.2 s hs).1, shr_b (by omega) (by omega)]
      unfold fX10_separate_J95
      have skip : ¬ cnd A R s o → ∃ σ' : Nat → Nat → Int32, (fun x2 σ => fX10_separate_L35 F sh Z (nI s) kx N x2 σ) (nI o + (1 : Int32)) σ = kx σ' ∧ (∀ r, r ≠ 8 → σ' r = σ r) ∧ SVp n A R (σ' 8) (prc s n) := by
        intro hno
        rw [nI_1]
        exact ih (o + 1) σ hc (SV_skip hv hno) (by omega) (by omega)
      cases hb : (A s).testBit o with
      | false =>
        rw [if_pos (by decide)]
        exact skip (fun z => by rw [z.1] at hb; cases hb)
      | true =>
        have hR1 := hD.2.2.2.1 s hs
        have hR2 := hD.2.2.2.1 o q
        rw [if_neg (by decide), aI_n (by omega) (by decide), aI_n (by omega) (by decide), (hc.2.2.2 s hs).2.2, (hc.2.2.2 o q).2.2]
        by_cases g : R o ≤ R s
        · rw [if_pos (nI_le g (by omega))]
          exact skip (fun z => by have := z.2; omega)
        · obtain ⟨ms, a1, a2, -⟩ := hv s hs
          obtain ⟨mo, b1, b2', -⟩ := hv o q
          have hso : s ≠ o := fun z => by rw [z] at g; omega
          have hb8 : upd (σ 8) s (nI (ms ||| 2 ^ o)) o = nI mo := by rw [pk_un (fun z => hso z.symm)]; exact b2'
          rw [if_neg (nI_ge (by omega) (by omega)), aI_n (by omega) (by decide), a2, aS_n (by omega) (by decide), sh1 (by omega), fa_or, nm_s, nI_clamp (by omega), sg_at, aI_n (by omega) (by decide), hb8, aS_n (by omega) (by decide), sh1 (by omega), fa_or, nm_s, nI_clamp (by omega), sg_sg, nI_1]
          have hsv := SV_add hs q hv ⟨hb, by omega⟩ a2 b2' a1 b1 hn
          obtain ⟨σ', g1, g2, g3⟩ := ih (o + 1) (sg σ 8 (upd (upd (σ 8) s (nI (ms ||| 2 ^ o))) o (nI (mo ||| 2 ^ s)))) (CS8 hc (fun r hr => sg_ne hr _)) (by rw [sg_at]; exact hsv) (by omega) (by omega)
          exact ⟨σ', g1, fun r hr => (g2 r hr).trans (sg_ne hr _), g3⟩
    · have e : o = n := by omega
      subst e
      rw [if_pos (nI_le q (by omega))]
      exact ⟨σ, rfl, fun _ _ => rfl, hv⟩
theorem c_sep25 (hF : 20 ≤ F) (hD : DOK n A W R S) (kx : (Nat → Nat → Int32) → Option ((Nat → Nat → Int32))) : ∀ N s (σ : Nat → Nat → Int32), CS σ n A W R S → SVp n A R (σ 8) (prc s 0) → s ≤ n → n - s < N → ∃ σ' : Nat → Nat → Int32, fX10_separate_L25 F sh Z kx N (nI s) σ = kx σ' ∧ (∀ r, r ≠ 8 → σ' r = σ r) ∧ SVp n A R (σ' 8) (prc n 0) := by
  have hn := hD.1
  intro N
  induction N with
  | zero => intro o σ _ _ _ h; omega
  | succ N ih =>
    intro s σ hc hv hs hN
    rw [fX10_separate_L25, nb_s, hc.1]
    rcases Nat.lt_or_ge s n with q | q
    · rw [if_neg (nI_ge q (by omega))]
      obtain ⟨σ1, g1, g2, g3⟩ := c_sep35 (F := F) (sh := sh) (Z := Z) hD q (fun σ3 => (fun x1 σ => fX10_separate_L25 F sh Z kx N x1 σ) (nI s + (1 : Int32)) σ3) F 0 σ hc hv (Nat.zero_le _) (by omega)
      obtain ⟨σ', e1, e2, e3⟩ := ih (s + 1) σ1 (CS8 hc g2) (SV_cong g3 (fun a b _ hb => by unfold prc; omega)) (by omega) (by omega)
      refine ⟨σ', ?_, fun r hr => (e2 r hr).trans (g2 r hr), e3⟩
      refine Eq.trans g1 ?_
      show fX10_separate_L25 F sh Z kx N (nI s + (1 : Int32)) σ1 = _
      rw [nI_1]; exact e1
    · have e : s = n := by omega
      subst e
      rw [if_pos (nI_le q (by omega))]
      exact ⟨σ, rfl, fun _ _ => rfl, hv⟩
def APV (n : Nat) (A R : Nat → Nat) (row : Nat → Int32) : Prop := ∀ a, a < n → ∃ m, m < 2 ^ n ∧ row a = nI m ∧ ∀ b, m.testBit b = true ↔ b < n ∧ (cnd A R a b ∨ cnd A R b a)
theorem c_separate (hF : 20 ≤ F) (hD : DOK n A W R S) {σ : Nat → Nat → Int32} (hc : CS σ n A W R S) : ∃ σ' : Nat → Nat → Int32, fX10_separate F sh Z σ = some σ' ∧ (∀ r, r ≠ 8 → σ' r = σ r) ∧ APV n A R (σ' 8) := by
  have hn := hD.1
  have hp0 := Nat.two_pow_pos n
  unfold fX10_separate
  have fill : ∀ kx : (Nat → Nat → Int32) → Option ((Nat → Nat → Int32)), ∀ N i (τ : Nat → Nat → Int32), (∀ r, r ≠ 8 → τ r = σ r) → (∀ a, a < i → τ 8 a = 0) → i ≤ n → n - i < N → ∃ σ' : Nat → Nat → Int32, fX10_separate_L2 F sh Z kx N (nI i) τ = kx σ' ∧ (∀ r, r ≠ 8 → σ' r = σ r) ∧ ∀ a, a < n → σ' 8 a = 0 := by
    intro kx N
    induction N with
    | zero => intro i τ _ _ _ h; omega
    | succ N ih =>
      intro i τ h1 h2 hi hN
      have e38 : τ 38 0 = nI n := by rw [h1 38 (by decide)]; exact hc.1
      rw [fX10_separate_L2, nb_s, e38]
      rcases Nat.lt_or_ge i n with q | q
      · rw [if_neg (nI_ge q (by omega)), aS_n (by omega) (by decide), nm_s, nI_clamp (by omega), nI_1]
        refine ih (i + 1) _ (fun r hr => by rw [sg_ne hr]; exact h1 r hr) (fun a ha => ?_) (by omega) (by omega)
        rw [sg_at]
        by_cases e : a = i
        · subst e; exact pk_us
        · rw [pk_un e]; exact h2 a (by omega)
      · have e : i = n := by omega
        subst e
        rw [if_pos (nI_le q (by omega))]
        exact ⟨τ, rfl, h1, h2⟩
  obtain ⟨σ1, f1, f2, f3⟩ := fill (fun σ1 => fX10_separate_L25 F sh Z (fun σ2 => some σ2) F (0 : Int32) σ1) F 0 σ (fun _ _ => rfl) (fun a ha => absurd ha (Nat.not_lt_zero a)) (Nat.zero_le _) (by omega)
  obtain ⟨σ', e1, e2, e3⟩ := c_sep25 (F := F) (sh := sh) (Z := Z) hF hD (fun σ2 => some σ2) F 0 σ1 (CS8 hc f2) (fun a ha => ⟨0, hp0, f3 a ha, fun b => by
    rw [Nat.zero_testBit]
    unfold prc
    constructor
    · intro z; cases z
    · intro ⟨_, g⟩
      rcases g with ⟨_, g⟩ | ⟨_, g⟩ <;> omega⟩) (Nat.zero_le _) (by omega)
  refine ⟨σ', f1.trans e1, fun r hr => (e2 r hr).trans (f2 r hr), fun a ha => ?_⟩
  obtain ⟨m, m1, m2, m3⟩ := e3 a ha
  refine ⟨m, m1, m2, fun b => ?_⟩
  rw [m3 b]
  unfold prc
  constructor
  · intro ⟨hb, g⟩
    refine ⟨hb, ?_⟩
    rcases g with ⟨g, _⟩ | ⟨g, _⟩
    · exact Or.inl g
    · exact Or.inr g
  · intro ⟨hb, g⟩
    refine ⟨hb, ?_⟩
    rcases g with g | g
    · exact Or.inl ⟨g, Or.inl ha⟩
    · exact Or.inr ⟨g, Or.inl hb⟩
def tzN (x : Nat) : Nat := fa_first x.testBit 10
theorem tz_all : ∀ x, x < 1024 → x ≠ 0 → fJ6_numberOfTrailingZeros_0f7a4 (nI x) = some (nI (tzN x)) ∧ x.testBit (tzN x) = true ∧ nI x &&& (nI x - (1 : Int32)) = nI (clr x (tzN x)) := by decide +kernel
def NVp (n : Nat) (A : Nat → Nat) (y : Nat) (v : Int32) : Prop := ∃ m, m < 2 ^ n ∧ v = nI m ∧ ∀ i, m.testBit i = true ↔ ∃ s, s < n ∧ y.testBit s = true ∧ (A s).testBit i = true
def LVp (n : Nat) (A W R : Nat → Nat) (y : Nat) (v : Int32) : Prop := ∃ l, v = nI l ∧ l ≤ 4096 + swN n W y ∧ (apN n A R y → l = swN n W y) ∧ (¬ apN n A R y → 4096 ≤ l)
theorem sw_clr {t : Nat} {x : Nat} (hn : n ≤ 10) (hx : x < 2 ^ n) (ht : x.testBit t = true) : swN n W (clr x t) + W t = swN n W x := by
  have htn := bit_lt hx ht
  have key : ∀ k, fb_sm (fun s => if (clr x t).testBit s then W s else 0) k + (if t < k then W t else 0) = fb_sm (fun s => if x.testBit s then W s else 0) k := by
    intro k
    induction k with
    | zero => rfl
    | succ k ih =>
      rw [fb_sm_succ, fb_sm_succ, ← ih]
      have e := clr_t (s := t) (i := k) hn hx
      by_cases q : k = t
      · subst q
        rw [if_neg (fun z => (e.mp z).2 rfl), if_pos ht, if_pos (Nat.lt_succ_self k), if_neg (Nat.lt_irrefl k)]
      · have e2 : (clr x t).testBit k = x.testBit k := by
          apply Bool.eq_iff_iff.mpr
          rw [e]
          exact ⟨fun z => z.1, fun z => ⟨z, q⟩⟩
        rw [e2]
        have e3 : (if t < k + 1 then W t else 0) = (if t < k then W t else 0) := by
          by_cases z : t < k
          · rw [if_pos z, if_pos (by omega)]
          · rw [if_neg z, if_neg (by omega)]
        rw [e3]; omega
  have := key n
  rw [if_pos htn] at this
  exact this
theorem sw_2560 (hD : DOK n A W R S) (x : Nat) : swN n W x ≤ 2560 := by
  have hn := hD.1
  have key : ∀ i, i ≤ n → fb_sm (fun s => if x.testBit s then W s else 0) i ≤ 256 * i := by
    intro i
    induction i with
    | zero => intro _; exact Nat.le_refl _
    | succ i ih =>
      intro hi
      have := ih (by omega)
      have hw := hD.2.2.1 i (by omega)
      rw [fb_sm_succ]
      split <;> omega
  have := key n (Nat.le_refl n)
  unfold swN; omega
theorem CS910 {σ σ' : Nat → Nat → Int32} (h : CS σ n A W R S) (e : ∀ r, r ≠ 9 → r ≠ 10 → σ' r = σ r) : CS σ' n A W R S := CS_to h (e 38 (by decide) (by decide)) (e 36 (by decide) (by decide)) (e 34 (by decide) (by decide)) (e 5 (by decide) (by decide)) (e 6 (by decide) (by decide)) (e 7 (by decide) (by decide))
theorem c_weigh16 (hD : DOK n A W R S) (kx : (Nat → Nat → Int32) → Option ((Nat → Nat → Int32))) : ∀ N x (σ : Nat → Nat → Int32), CS σ n A W R S → APV n A R (σ 8) → x ≠ 0 → x ≤ 2 ^ n → (∀ y, y < x → NVp n A y (σ 9 y) ∧ LVp n A W R y (σ 10 y)) → 2 ^ n - x < N → ∃ σ' : Nat → Nat → Int32, fX10_weighSets_L16 F sh Z kx N (nI x) σ = kx σ' ∧ (∀ r, r ≠ 9 → r ≠ 10 → σ' r = σ r) ∧ ∀ y, y < 2 ^ n → NVp n A y (σ' 9 y) ∧ LVp n A W R y (σ' 10 y) := by
  have hn := hD.1
  have h10 := pw10 hn
  have hp0 := Nat.two_pow_pos n
  intro N
  induction N with
  | zero => intro x σ _ _ _ _ _ h; omega
  | succ N ih =>
    intro x σ hc hap hx0 hx hy hN
    rw [fX10_weighSets_L16, nb_s, hc.2.1]
    rcases Nat.lt_or_ge x (2 ^ n) with q | q
    · obtain ⟨t1, t2, t3⟩ := tz_all x (by omega) hx0
      have htn := bit_lt q t2
      generalize tzN x = t at t1 t2 t3 htn
      have hclt : clr x t < x := by
        have h1 := clr_le x t
        have h2 : clr x t ≠ x := fun z => by
          have := (clr_t (s := t) (i := t) hn q).mp (by rw [z]; exact t2)
          exact this.2 rfl
        omega
      obtain ⟨⟨mr, r1, r2, r3⟩, ⟨lr, l1, l2, l3, l4⟩⟩ := hy (clr x t) hclt
      have hAt := hD.2.1 t htn
      obtain ⟨ma, a1, a2, a3⟩ := hap t htn
      have hsw := sw_clr (W := W) hn q t2
      have hsb := sw_2560 hD x
      rw [if_neg (nI_nlt (by omega) (by omega)), t1, bd_s, t3, nm_s, aI_n (by omega) (by decide), r2, aI_n (by omega) (by decide), (hc.2.2.2 t htn).1, aS_n (by omega) (by decide), fa_or, nm_s, nI_clamp (by omega)]
      have c8 : sg σ 9 (upd (σ 9) x (nI (mr ||| A t))) 8 t = nI ma := a2
      rw [aI_n (by omega) (by decide), c8, fa_and]
      have hN9 : NVp n A x (nI (mr ||| A t)) := by
        refine ⟨mr ||| A t, or_lt2 r1 hAt, rfl, fun i => ?_⟩
        rw [Nat.testBit_or, Bool.or_eq_true_iff, r3 i]
        constructor
        · rintro (⟨s, s1, s2, s3⟩ | h)
          · exact ⟨s, s1, ((clr_t hn q).mp s2).1, s3⟩
          · exact ⟨t, htn, t2, h⟩
        · intro ⟨s, s1, s2, s3⟩
          by_cases e : s = t
          · rw [e] at s3; exact Or.inr s3
          · exact Or.inl ⟨s, s1, (clr_t hn q).mpr ⟨s2, e⟩, s3⟩
      have fin : ∀ l, LVp n A W R x (nI l) → ∃ σ' : Nat → Nat → Int32, fX10_weighSets_J89 F sh Z (fun x1 σ => fX10_weighSets_L16 F sh Z kx N x1 σ) (nI x) (nI l) (nI x) (sg σ 9 (upd (σ 9) x (nI (mr ||| A t)))) = kx σ' ∧ (∀ r, r ≠ 9 → r ≠ 10 → σ' r = σ r) ∧ ∀ y, y < 2 ^ n → NVp n A y (σ' 9 y) ∧ LVp n A W R y (σ' 10 y) := by
        intro l hl
        unfold fX10_weighSets_J89
        rw [aS_n (by omega) (by decide), nm_s, nI_clamp (by omega), nI_1]
        have hoff : ∀ r, r ≠ 9 → r ≠ 10 → sg (sg σ 9 (upd (σ 9) x (nI (mr ||| A t)))) 10 (upd (sg σ 9 (upd (σ 9) x (nI (mr ||| A t))) 10) x (nI l)) r = σ r := fun r h1 h2 => by rw [sg_ne h2, sg_ne h1]
        obtain ⟨σ', e1, e2, e3⟩ := ih (x + 1) (sg (sg σ 9 (upd (σ 9) x (nI (mr ||| A t)))) 10 (upd (sg σ 9 (upd (σ 9) x (nI (mr ||| A t))) 10) x (nI l))) (CS910 hc hoff) (by
          rw [hoff 8 (by decide) (by decide)]; exact hap) (by omega) (by omega) (fun y hyx => by
          show NVp n A y (upd (σ 9) x (nI (mr ||| A t)) y) ∧ LVp n A W R y (upd (σ 10) x (nI l) y)
          by_cases e : y = x
          · subst e; rw [pk_us, pk_us]; exact ⟨hN9, hl⟩
          · rw [pk_un e, pk_un e]; exact hy y (by omega)) (by omega)
        exact ⟨σ', e1, fun r h1 h2 => (e2 r h1 h2).trans (hoff r h1 h2), e3⟩
      have hbn : clr x t &&& ma ≤ ma := Nat.and_le_right
      by_cases g : clr x t &&& ma = 0
      · rw [g, if_pos (by decide), aI_n (by omega) (by decide), aI_n (by omega) (by decide)]
        have c10 : sg σ 9 (upd (σ 9) x (nI (mr ||| A t))) 10 (clr x t) = nI lr := l1
        have c6 : sg σ 9 (upd (σ 9) x (nI (mr ||| A t))) 6 t = nI (W t) := (hc.2.2.2 t htn).2.1
        rw [c10, c6, nI_add]
        have hno : ∀ b, (clr x t).testBit b = true → ¬ cnd A R t b ∧ ¬ cnd A R b t := by
          intro b hb
          have h0 := and0.mp g b hb
          have hbn := ((clr_t hn q).mp hb).1
          have hb2 := bit_lt q hbn
          refine ⟨fun z => ?_, fun z => ?_⟩
          · rw [(a3 b).mpr ⟨hb2, Or.inl z⟩] at h0; cases h0
          · rw [(a3 b).mpr ⟨hb2, Or.inr z⟩] at h0; cases h0
        have hiff : apN n A R x ↔ apN n A R (clr x t) := by
          constructor
          · intro h s o hs ho h1 h2 h3
            exact h s o hs ho ((clr_t hn q).mp h1).1 ((clr_t hn q).mp h2).1 h3
          · intro h s o hs ho h1 h2 h3
            by_cases es : s = t
            · by_cases eo' : o = t
              · rw [es, eo']; exact Nat.le_refl _
              · have := (hno o ((clr_t hn q).mpr ⟨h2, eo'⟩)).1
                rw [es] at h3 ⊢
                rcases Nat.lt_or_ge (R t) (R o) with z | z
                · exact absurd ⟨h3, z⟩ this
                · exact z
            · by_cases eo' : o = t
              · have := (hno s ((clr_t hn q).mpr ⟨h1, es⟩)).2
                rw [eo'] at h3 ⊢
                rcases Nat.lt_or_ge (R s) (R t) with z | z
                · exact absurd ⟨h3, z⟩ this
                · exact z
              · exact h s o hs ho ((clr_t hn q).mpr ⟨h1, es⟩) ((clr_t hn q).mpr ⟨h2, eo'⟩) h3
        refine fin (lr + W t) ⟨lr + W t, rfl, by omega, fun h => ?_, fun h => ?_⟩
        · have := l3 (hiff.mp h)
          omega
        · have := l4 (fun z => h (hiff.mpr z))
          omega
      · rw [if_neg (nI_ne0 (Nat.pos_of_ne_zero g) (by omega))]
        refine fin 4096 ⟨4096, rfl, by omega, fun h => ?_, fun _ => Nat.le_refl _⟩
        exfalso
        obtain ⟨b, hb⟩ := ne0 g
        rw [Nat.testBit_and, Bool.and_eq_true_iff] at hb
        have hbx := ((clr_t hn q).mp hb.1).1
        obtain ⟨hbn', hcd⟩ := (a3 b).mp hb.2
        rcases hcd with z | z
        · have := h t b htn hbn' t2 hbx z.1
          have := z.2
          omega
        · have := h b t hbn' htn hbx t2 z.1
          have := z.2
          omega
    · have e : x = 2 ^ n := by omega
      rw [if_pos (nI_lt (by omega) (by omega))]
      exact ⟨σ, rfl, fun _ _ _ => rfl, fun y hyn => hy y (by omega)⟩
theorem c_weigh (hF : 1100 ≤ F) (hD : DOK n A W R S) {σ : Nat → Nat → Int32} (hc : CS σ n A W R S) (hap : APV n A R (σ 8)) : ∃ σ' : Nat → Nat → Int32, fX10_weighSets F sh Z σ = some σ' ∧ (∀ r, r ≠ 9 → r ≠ 10 → σ' r = σ r) ∧ ∀ y, y < 2 ^ n → NVp n A y (σ' 9 y) ∧ LVp n A W R y (σ' 10 y) := by
  have hn := hD.1
  have h10 := pw10 hn
  have hp0 := Nat.two_pow_pos n
  unfold fX10_weighSets
  have a0 : ∀ (k : Option ((Nat → Nat → Int32))), aS 1024 (0 : Int32) k = k := fun k => aS_n (i := 0) (by decide) (by decide)
  have z0 : (0 : Int32).toNatClampNeg = 0 := rfl
  rw [a0, nm_s, a0, nm_s, z0]
  have hoff : ∀ r, r ≠ 9 → r ≠ 10 → sg (sg σ 9 (upd (σ 9) 0 0)) 10 (upd (sg σ 9 (upd (σ 9) 0 0) 10) 0 0) r = σ r := fun r h1 h2 => by rw [sg_ne h2, sg_ne h1]
  obtain ⟨σ', e1, e2, e3⟩ := c_weigh16 (F := F) (sh := sh) (Z := Z) hD (fun σ5 => some σ5) F 1 (sg (sg σ 9 (upd (σ 9) 0 0)) 10 (upd (sg σ 9 (upd (σ 9) 0 0) 10) 0 0)) (CS910 hc hoff) (by rw [hoff 8 (by decide) (by decide)]; exact hap) (by decide) (by omega) (fun y hy => by
    have e : y = 0 := by omega
    subst e
    show NVp n A 0 (upd (σ 9) 0 0 0) ∧ LVp n A W R 0 (upd (σ 10) 0 0 0)
    rw [pk_us, pk_us]
    have sw0 : swN n W 0 = 0 := by
      unfold swN
      have : ∀ k, fb_sm (fun s => if (0 : Nat).testBit s then W s else 0) k = 0 := by
        intro k
        induction k with
        | zero => rfl
        | succ k ih => rw [fb_sm_succ, ih, Nat.zero_testBit]; rfl
      exact this n
    refine ⟨⟨0, hp0, rfl, fun i => ?_⟩, ⟨0, rfl, by omega, fun _ => sw0.symm, fun h => ?_⟩⟩
    · rw [Nat.zero_testBit]
      constructor
      · intro z; cases z
      · intro ⟨s, _, z, _⟩
        rw [Nat.zero_testBit] at z; cases z
    · exact absurd (fun s o _ _ z => by rw [Nat.zero_testBit] at z; cases z) h) (by omega)
  exact ⟨σ', e1, fun r h1 h2 => (e2 r h1 h2).trans (hoff r h1 h2), e3⟩
end CW
