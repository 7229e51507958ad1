/-! the class: the fewest DAYS, which they are, in which order -/
section CP
variable {sh : Nat → Option Nat} {Z : ZT} {F n : Nat} {A W R : Nat → Nat} {S : Nat}
def CFp (n : Nat) (A : Nat → Nat) (can : Nat → Nat → Bool) (E : Nat) (x : Int32) : Prop := (clo n A E → ∃ k, FwN n can k E ∧ x = nI k) ∧ (¬ clo n A E → x = 99)
theorem clo_all (hn : n ≤ 10) (hA : ADJ n A) : clo n A (2 ^ n - 1) := by
  intro s hs _ i hi
  rw [Nat.testBit_two_pow_sub_one]
  exact decide_eq_true (bit_lt (hA s hs) hi)
theorem c_bound (hF : 20 ≤ F) (hD : DOK n A W R S) (hac : acy n A) {D kD : Nat} (hDn : D < 2 ^ n) (hcl : clo n A D) (hk : FwN n (canN n A W R S) kD D) (hk1 : 1 ≤ kD) {σ : Nat → Nat → Int32} (hc : CS σ n A W R S) (h11 : ∀ E, D < E → E < 2 ^ n → CFp n A (canN n A W R S) E (σ 11 E)) : ∃ b, 1 ≤ b ∧ b ≤ kD ∧ fX10_boundFrom F sh Z σ (nI D) = some (nI b) := by
  have hn := hD.1
  have h10 := pw10 hn
  have hk10 := Pk_len hn kD D hDn hk.1
  unfold fX10_boundFrom
  have key : ∀ N i b, 1 ≤ b → b ≤ kD → i ≤ n → n - i < N → ∃ b', 1 ≤ b' ∧ b' ≤ kD ∧ fX10_boundFrom_L4 F sh Z σ (nI D) (fun y1 => some y1) N (nI b) (nI i) = some (nI b') := by
    intro N
    induction N with
    | zero => intro i b _ _ _ h; omega
    | succ N ih =>
      intro i b hb1 hb2 hi hN
      rw [fX10_boundFrom_L4, nb_s, hc.1]
      rcases Nat.lt_or_ge i n with q | q
      · have hp : 2 ^ i < 2 ^ n := Nat.pow_lt_pow_right (by omega) q
        have hE := or_lt2 hDn hp
        rw [if_neg (nI_ge q (by omega)), sh1 (by omega), fa_or, nm_s]
        unfold fX10_boundFrom_J49
        by_cases e : D ||| 2 ^ i = D
        · rw [e, if_pos rfl, nI_1]
          exact ih (i + 1) b hb1 hb2 (by omega) (by omega)
        · have hgt : D < D ||| 2 ^ i := by
            have : D ≤ D ||| 2 ^ i := Nat.left_le_or
            omega
          rw [if_neg (fun z => e ((nI_eq (by omega) (by omega)).mp z)), aI_n (by omega) (by decide)]
          obtain ⟨f1, f2⟩ := h11 (D ||| 2 ^ i) hgt hE
          rcases Classical.em (clo n A (D ||| 2 ^ i)) with g | g
          · obtain ⟨k', hk', ek'⟩ := f1 g
            obtain ⟨j, hj1, hj2⟩ := Pk_mono hn hD.2.1 hac kD D (D ||| 2 ^ i) hDn hE hcl g (fun t ht => by rw [Nat.testBit_or, ht, Bool.true_or]) hk.1
            have hle := Fw_le hk' hj2
            rw [ek', if_neg (show ¬ (99 : Int32) ≤ nI k' from nI_ge (b := 99) (by omega) (by decide)), aI_n (by omega) (by decide), ek', nm_s, nI_1]
            by_cases z : b < k'
            · rw [if_pos (nI_lt z (by omega))]
              exact ih (i + 1) k' (by omega) (by omega) (by omega) (by omega)
            · rw [if_neg (nI_nlt (by omega) (by omega))]
              exact ih (i + 1) b hb1 hb2 (by omega) (by omega)
          · rw [f2 g, if_pos (show (99 : Int32) ≤ 99 by decide), nI_1]
            exact ih (i + 1) b hb1 hb2 (by omega) (by omega)
      · rw [if_pos (nI_le q (by omega))]
        exact ⟨b, hb1, hb2, rfl⟩
  exact key F 0 1 (by omega) hk1 (Nat.zero_le _) (by omega)
theorem load_ok {y l : Nat} (hS : S ≤ 256) (h3 : apN n A R y → l = swN n W y) (h4 : ¬ apN n A R y → 4096 ≤ l) : l ≤ S ↔ swN n W y ≤ S ∧ apN n A R y := by
  constructor
  · intro h
    rcases Classical.em (apN n A R y) with g | g
    · exact ⟨by rw [← h3 g]; exact h, g⟩
    · have := h4 g
      omega
  · intro ⟨h, g⟩
    rw [h3 g]; exact h
theorem c_few49 (hD : DOK n A W R S) (hac : acy n A) {D kD b0 : Nat} (hDn : D < 2 ^ n) (hcl : clo n A D) (hk : FwN n (canN n A W R S) kD D) (hk1 : 1 ≤ kD) (hb0 : b0 ≤ kD) {σ : Nat → Nat → Int32} (hc : CS σ n A W R S) (hL : ∀ y, y < 2 ^ n → LVp n A W R y (σ 10 y)) (h11 : ∀ E, D < E → E < 2 ^ n → CFp n A (canN n A W R S) E (σ 11 E)) (kx : Int32 → Option Int32) : ∀ x N b, x &&& lfN n D = x → x < N → kD ≤ b → b ≤ 99 → (∀ z, x < z → z &&& lfN n D = z → canN n A W R S z D = true → ∀ k, PkN n (canN n A W R S) k (D ||| z) → b ≤ k + 1) → fX10_fewestFrom_L49 F sh Z σ (nI D) (nI b0) (nI (lfN n D)) kx N (nI b) (nI x) = kx (nI kD) := by
  have hn := hD.1
  have h10 := pw10 hn
  have hk10 := Pk_len hn kD D hDn hk.1
  intro x
  induction x using Nat.strongRecOn with
  | ind x ih =>
    intro N b hx hN hb1 hb2 hq
    obtain ⟨M, rfl⟩ : ∃ M, N = M + 1 := ⟨N - 1, by omega⟩
    rw [fX10_fewestFrom_L49, nb_s]
    by_cases q : x = 0
    · subst q
      rw [if_pos (by decide)]
      obtain ⟨k, rfl⟩ : ∃ k, kD = k + 1 := ⟨kD - 1, by omega⟩
      obtain ⟨z, z2, z3, z4, z5⟩ := Fw_next hn hk
      have := hq z (Nat.pos_of_ne_zero z2) z3 z4 k z5.1
      rw [show b = k + 1 by omega]
    · have hxl := (sub_lf hn).mp hx
      have hgt := or_gt hn hx q
      have hE : D ||| x < 2 ^ n := or_lt2 hDn hxl.1
      rw [if_neg (nI_nle (Nat.pos_of_ne_zero q) (by omega))]
      by_cases hbb : b ≤ b0
      · rw [if_pos (nI_le hbb (by omega)), show b = kD by omega]
      · rw [if_neg (nI_ge (by omega) (by omega)), aI_n (by omega) (by decide)]
        obtain ⟨l, l1, l2, l3, l4⟩ := hL x hxl.1
        have hsw := sw_2560 hD x
        have hlo := load_ok hD.2.2.2.2 l3 l4
        have hS := hD.2.2.2.2
        have hlt := sub_nxlt (l := lfN n D) q
        unfold fX10_fewestFrom_J89
        rw [l1, hc.2.2.1]
        by_cases g : l ≤ S
        · have hsa := hlo.mp g
          rw [if_neg (nI_nlt g (by omega)), fa_or, aI_n (by omega) (by decide)]
          obtain ⟨f1, f2⟩ := h11 (D ||| x) hgt hE
          rcases Classical.em (clo n A (D ||| x)) with e | e
          · obtain ⟨k', hk', ek'⟩ := f1 e
            have hk'10 := Pk_len hn k' _ hE hk'.1
            have hcan : canN n A W R S x D = true := (can_iff hn hD.2.1 hac hxl.1 hxl.2 hcl).mpr ⟨hsa, e⟩
            have hle : kD ≤ k' + 1 := Fw_le hk ⟨x, q, hxl.1, hxl.2, hcan, hk'.1⟩
            rw [ek', show (1 : Int32) + nI k' = nI (1 + k') from nI_add 1 k', nx_I q]
            by_cases z : 1 + k' < b
            · rw [if_pos (nI_lt z (by omega)), nm_s, nm_s]
              refine ih _ hlt M (1 + k') (sub_nxl x _) (by omega) (by omega) (by omega) (sub_step hx (fun y h1 h2 h3 k h4 => ?_) (fun _ k h4 => ?_))
              · have := hq y h1 h2 h3 k h4
                omega
              · have := Fw_le hk' h4
                omega
            · rw [if_neg (nI_nlt (by omega) (by omega)), nm_s, nm_s]
              refine ih _ hlt M b (sub_nxl x _) (by omega) (by omega) (by omega) (sub_step hx hq (fun _ k h4 => ?_))
              have := Fw_le hk' h4
              omega
          · rw [f2 e, if_neg (show ¬ (1 : Int32) + 99 < nI b from nI_nlt (a := 100) (by omega) (by decide)), nm_s, nx_I q, nm_s]
            refine ih _ hlt M b (sub_nxl x _) (by omega) (by omega) (by omega) (sub_step hx hq (fun h3 => ?_))
            exact absurd ((can_iff hn hD.2.1 hac hxl.1 hxl.2 hcl).mp h3).2 e
        · rw [if_pos (nI_lt (by omega) (by omega)), nx_I q, nm_s]
          refine ih _ hlt M b (sub_nxl x _) (by omega) (by omega) (by omega) (sub_step hx hq (fun h3 => ?_))
          exact absurd (hlo.mpr ((can_iff hn hD.2.1 hac hxl.1 hxl.2 hcl).mp h3).1) g
theorem c_fewest (hF : 1100 ≤ F) (hD : DOK n A W R S) (hac : acy n A) (hW : ∀ s, s < n → W s ≤ S) {D : Nat} (hDn : D < 2 ^ n) {σ : Nat → Nat → Int32} (hc : CS σ n A W R S) (hNL : ∀ y, y < 2 ^ n → NVp n A y (σ 9 y) ∧ LVp n A W R y (σ 10 y)) (h11 : ∀ E, D < E → E < 2 ^ n → CFp n A (canN n A W R S) E (σ 11 E)) : ∃ x, fX10_fewestFrom F sh Z σ (nI D) = some x ∧ CFp n A (canN n A W R S) D x := by
  have hn := hD.1
  have h10 := pw10 hn
  have hp0 := Nat.two_pow_pos n
  unfold fX10_fewestFrom
  rw [hc.2.1]
  by_cases q : D = 2 ^ n - 1
  · subst q
    rw [if_neg (fun z => z rfl)]
    exact ⟨0, rfl, fun _ => ⟨0, Fw_all n _, rfl⟩, fun h => absurd (clo_all hn hD.2.1) h⟩
  · rw [if_pos (fun z => q ((nI_eq (by omega) (by omega)).mp z)), aI_n (by omega) (by decide)]
    obtain ⟨⟨m, m1, m2, m3⟩, -⟩ := hNL D hDn
    have hiff : m &&& (D ^^^ 4294967295) = 0 ↔ clo n A D := by
      rw [sub0 (by omega)]
      constructor
      · intro h s hs hb i hi
        exact h i ((m3 i).mpr ⟨s, hs, hb, hi⟩)
      · intro h i hi
        obtain ⟨s, s1, s2, s3⟩ := (m3 i).mp hi
        exact h s s1 s2 i s3
    have hml : m &&& (D ^^^ 4294967295) < 2 ^ 31 := Nat.lt_of_le_of_lt Nat.and_le_left (by omega)
    rw [m2, not_nI]
    rcases Classical.em (clo n A D) with g | g
    · rw [hiff.mpr g, if_pos (by decide)]
      obtain ⟨k0, hk0⟩ := Pk_ex (W := W) (R := R) (S := S) hn hD.2.1 hac hW n D (by omega) hDn g
      obtain ⟨kD, -, hk⟩ := Fw_ex k0 hk0
      have hk10 := Pk_len hn kD D hDn hk.1
      have hk1 : 1 ≤ kD := by
        rcases Nat.eq_zero_or_pos kD with z | z
        · rw [z] at hk
          exact absurd hk.1 q
        · exact z
      obtain ⟨b0, b1, b2', b3⟩ := c_bound (F := F) (sh := sh) (Z := Z) (by omega) hD hac hDn g hk hk1 hc h11
      rw [b3, bd_s, not_nI, nm_s]
      have hl := lf_lt (n := n) D
      have := c_few49 (F := F) (sh := sh) (Z := Z) hD hac hDn g hk hk1 b2' hc (fun y hy => (hNL y hy).2) h11 (fun y6 => some y6) (lfN n D) F 99 (Nat.and_self _) (by omega) (by omega) (by omega) (fun z h1 h2 => by
        have : z &&& lfN n D ≤ lfN n D := Nat.and_le_right
        omega)
      refine ⟨nI kD, this, fun _ => ⟨kD, hk, rfl⟩, fun h => absurd g h⟩
    · rw [if_neg (nI_ne0 (Nat.pos_of_ne_zero (fun z => g (hiff.mp z))) hml)]
      exact ⟨99, rfl, fun h => absurd h g, fun _ => rfl⟩
theorem CS_r {σ σ' : Nat → Nat → Int32} (h : CS σ n A W R S) {k : Nat} (hk : k = 11 ∨ k = 12 ∨ k = 13 ∨ k = 37) (e : ∀ r, r ≠ k → σ' r = σ r) : CS σ' n A W R S := CS_to h (e 38 (by omega)) (e 36 (by omega)) (e 34 (by omega)) (e 5 (by omega)) (e 6 (by omega)) (e 7 (by omega))
theorem c_L52 (hF : 1100 ≤ F) (hD : DOK n A W R S) (hac : acy n A) (hW : ∀ s, s < n → W s ≤ S) (kx : (Nat → Nat → Int32) → Option ((Nat → Nat → Int32))) : ∀ m N (σ : Nat → Nat → Int32), m ≤ 2 ^ n → CS σ n A W R S → (∀ y, y < 2 ^ n → NVp n A y (σ 9 y) ∧ LVp n A W R y (σ 10 y)) → (∀ E, m ≤ E → E < 2 ^ n → CFp n A (canN n A W R S) E (σ 11 E)) → m < N → ∃ σ' : Nat → Nat → Int32, fX10_plan_L52 F sh Z kx N (pmI m) σ = kx σ' ∧ (∀ r, r ≠ 11 → σ' r = σ r) ∧ ∀ E, E < 2 ^ n → CFp n A (canN n A W R S) E (σ' 11 E) := by
  have hn := hD.1
  have h10 := pw10 hn
  intro m
  induction m with
  | zero =>
    intro N σ _ hc hNL h11 hN
    obtain ⟨M, rfl⟩ : ∃ M, N = M + 1 := ⟨N - 1, by omega⟩
    refine ⟨σ, ?_, fun _ _ => rfl, fun E hE => h11 E (Nat.zero_le _) hE⟩
    rw [fX10_plan_L52, nb_s, if_pos (by decide)]
  | succ m ih =>
    intro N σ hle hc hNL h11 hN
    obtain ⟨M, rfl⟩ : ∃ M, N = M + 1 := ⟨N - 1, by omega⟩
    obtain ⟨x, x1, x2⟩ := c_fewest (F := F) (sh := sh) (Z := Z) hF hD hac hW (show m < 2 ^ n by omega) hc hNL (fun E h1 h2 => h11 E (by omega) h2)
    rw [fX10_plan_L52, nb_s, pmI_s, if_neg (nI_pos (by omega)), x1, bd_s, aS_n (by omega) (by decide), nm_s, nI_clamp (by omega), pmI_a]
    obtain ⟨σ', e1, e2, e3⟩ := ih M (sg σ 11 (upd (σ 11) m x)) (by omega) (CS_r hc (Or.inl rfl) (fun r hr => sg_ne hr _)) (fun y hy => hNL y hy) (fun E h1 h2 => by
      rw [sg_at]
      by_cases e : E = m
      · rw [e, pk_us]; exact x2
      · rw [pk_un e]; exact h11 E (by omega) h2) (by omega)
    exact ⟨σ', e1, fun r hr => (e2 r hr).trans (sg_ne hr _), e3⟩
theorem c_great (hD : DOK n A W R S) (hac : acy n A) {D k : Nat} (hDn : D < 2 ^ n) (hcl : clo n A D) (hfw : FwN n (canN n A W R S) (k + 1) D) {σ : Nat → Nat → Int32} (hc : CS σ n A W R S) (hL : ∀ y, y < 2 ^ n → LVp n A W R y (σ 10 y)) (h11 : ∀ E, E < 2 ^ n → CFp n A (canN n A W R S) E (σ 11 E)) (kx : Option Int32) : ∀ x N, x &&& lfN n D = x → x < N → (∃ z, z ≤ x ∧ z ≠ 0 ∧ z &&& lfN n D = z ∧ canN n A W R S z D = true ∧ FwN n (canN n A W R S) k (D ||| z)) → (∀ z, x < z → z &&& lfN n D = z → canN n A W R S z D = true → ¬ FwN n (canN n A W R S) k (D ||| z)) → ∃ z : Nat, fX10_greatestDay_L11 F sh Z σ (nI D) (nI (lfN n D)) kx N (nI x) = some (nI z) ∧ IsPick n (canN n A W R S) D k z := by
  have hn := hD.1
  have h10 := pw10 hn
  have hk10 := Pk_len hn (k + 1) D hDn hfw.1
  have e11 : σ 11 D = nI (k + 1) := by
    obtain ⟨j, hj, ej⟩ := (h11 D hDn).1 hcl
    rw [ej, Fw_one hfw hj]
  intro x
  induction x using Nat.strongRecOn with
  | ind x ih =>
    intro N hx hN hex hno
    obtain ⟨M, rfl⟩ : ∃ M, N = M + 1 := ⟨N - 1, by omega⟩
    have hx0 : x ≠ 0 := by
      obtain ⟨z, h1, h2, -⟩ := hex
      omega
    have hxl := (sub_lf hn).mp hx
    have hE : D ||| x < 2 ^ n := or_lt2 hDn hxl.1
    have hlt := sub_nxlt (l := lfN n D) hx0
    have fin : (canN n A W R S x D = true → ¬ FwN n (canN n A W R S) k (D ||| x)) → ∃ z : Nat, fX10_greatestDay_J49 F sh Z (fun x3 => fX10_greatestDay_L11 F sh Z σ (nI D) (nI (lfN n D)) kx M x3) (nI D) (nI (lfN n D)) (nI x) σ = some (nI z) ∧ IsPick n (canN n A W R S) D k z := by
      intro hq
      unfold fX10_greatestDay_J49
      rw [nx_I hx0, nm_s]
      obtain ⟨z, z1, z2, z3, z4, z5⟩ := hex
      have hzx : z ≠ x := fun e => by
        rw [e] at z4 z5
        exact hq z4 z5
      exact ih _ hlt M (sub_nxl x _) (by omega) ⟨z, sub_nx x _ z hx z3 (by omega), z2, z3, z4, z5⟩ (sub_step hx hno hq)
    obtain ⟨l, l1, l2, l3, l4⟩ := hL x hxl.1
    have hsw := sw_2560 hD x
    have hlo := load_ok hD.2.2.2.2 l3 l4
    have hS := hD.2.2.2.2
    have hci := can_iff (W := W) (R := R) (S := S) hn hD.2.1 hac hxl.1 hxl.2 hcl
    rw [fX10_greatestDay_L11, nb_s, if_neg (nI_nle (Nat.pos_of_ne_zero hx0) (by omega)), aI_n (by omega) (by decide), l1, hc.2.2.1]
    by_cases g : l ≤ S
    · rw [if_neg (nI_nlt g (by omega)), fa_or, aI_n (by omega) (by decide), aI_n (by omega) (by decide), e11, nI_pred]
      obtain ⟨f1, f2⟩ := h11 (D ||| x) hE
      rcases Classical.em (clo n A (D ||| x)) with e | e
      · obtain ⟨j, hj, ej⟩ := f1 e
        have hj10 := Pk_len hn j _ hE hj.1
        rw [ej]
        by_cases ejk : j = k
        · subst ejk
          rw [if_neg (fun z => z rfl)]
          exact ⟨x, rfl, hx0, hx, hci.mpr ⟨hlo.mp g, e⟩, hj, hno⟩
        · rw [if_pos (fun z => ejk ((nI_eq (by omega) (by omega)).mp z))]
          exact fin (fun _ z => ejk (Fw_one hj z))
      · rw [f2 e, if_pos (fun z => by
          have := (nI_eq (a := 99) (b := k) (by decide) (by omega)).mp z
          omega)]
        exact fin (fun h3 => absurd (hci.mp h3).2 e)
    · rw [if_pos (nI_lt (by omega) (by omega))]
      exact fin (fun h3 => absurd (hlo.mpr (hci.mp h3).1) g)
theorem c_choose (hF : 1100 ≤ F) (hD : DOK n A W R S) (hac : acy n A) {K : Nat} (hK : K ≤ 10) (kx : (Nat → Nat → Int32) → Option ((Nat → Nat → Int32))) : ∀ k D i N (σ : Nat → Nat → Int32), FwN n (canN n A W R S) k D → D < 2 ^ n → clo n A D → CS σ n A W R S → (∀ y, y < 2 ^ n → LVp n A W R y (σ 10 y)) → (∀ E, E < 2 ^ n → CFp n A (canN n A W R S) E (σ 11 E)) → σ 37 0 = nI K → i + k = K → k < N → ∃ (L : List Nat) (σ' : Nat → Nat → Int32), fX10_chooseDays_L4 F sh Z kx N (nI D) (nI i) σ = kx σ' ∧ Chn n (canN n A W R S) k D L ∧ (∀ r, r ≠ 12 → σ' r = σ r) ∧ (∀ j, j < i → σ' 12 j = σ 12 j) ∧ ∀ j, j < L.length → σ' 12 (i + j) = nI (L.getD j 0) := by
  have hn := hD.1
  have h10 := pw10 hn
  intro k
  induction k with
  | zero =>
    intro D i N σ hfw hDn hcl hc hL h11 h37 hi hN
    obtain ⟨M, rfl⟩ : ∃ M, N = M + 1 := ⟨N - 1, by omega⟩
    refine ⟨[], σ, ?_, rfl, fun _ _ => rfl, fun _ _ => rfl, fun j hj => absurd hj (Nat.not_lt_zero j)⟩
    rw [fX10_chooseDays_L4, nb_s, h37, if_pos (nI_le (by omega) (by omega))]
  | succ k ih =>
    intro D i N σ hfw hDn hcl hc hL h11 h37 hi hN
    obtain ⟨M, rfl⟩ : ∃ M, N = M + 1 := ⟨N - 1, by omega⟩
    have hl := lf_lt (n := n) D
    obtain ⟨z, z2, z3, z4, z5⟩ := Fw_next hn hfw
    have hzl : z ≤ lfN n D := by
      have : z &&& lfN n D ≤ lfN n D := Nat.and_le_right
      omega
    obtain ⟨y, g1, g3⟩ := c_great (F := F) (sh := sh) (Z := Z) hD hac hDn hcl hfw hc hL h11 (some (0 : Int32)) (lfN n D) F (Nat.and_self _) (by omega) ⟨z, hzl, z2, z3, z4, z5⟩ (fun z h1 h2 => by
      have : z &&& lfN n D ≤ lfN n D := Nat.and_le_right
      omega)
    have g1' : fX10_greatestDay F sh Z σ (nI D) = some (nI y) := by
      unfold fX10_greatestDay
      rw [hc.2.1, not_nI, nm_s]; exact g1
    have hyl := (sub_lf hn).mp g3.2.1
    have hcl2 := ((can_iff hn hD.2.1 hac hyl.1 hyl.2 hcl).mp g3.2.2.1).2
    rw [fX10_chooseDays_L4, nb_s, h37, if_neg (nI_ge (by omega) (by omega)), if_neg (show ¬ (10 : Int32) ≤ nI i from nI_ge (b := 10) (by omega) (by decide)), g1', bd_s, aS_n (by omega) (by decide), nm_s, nI_clamp (by omega), sg_at, aI_n (by omega) (by decide), pk_us, fa_or, nI_1]
    obtain ⟨L, σ', e1, e2, e3, e4, e5⟩ := ih (D ||| y) (i + 1) M (sg σ 12 (upd (σ 12) i (nI y))) g3.2.2.2.1 (or_lt2 hDn hyl.1) hcl2 (CS_r hc (Or.inr (Or.inl rfl)) (fun r hr => sg_ne hr _)) (fun w hw => hL w hw) (fun E hE => h11 E hE) h37 (by omega) (by omega)
    refine ⟨y :: L, σ', e1, ⟨y, L, rfl, g3, e2⟩, fun r hr => (e3 r hr).trans (sg_ne hr _), fun j hj => ?_, fun j hj => ?_⟩
    · rw [e4 j (by omega), sg_at, pk_un (by omega)]
    · cases j with
      | zero => rw [Nat.add_zero, e4 i (by omega), sg_at, pk_us]; rfl
      | succ j =>
        have := e5 j (by rw [List.length_cons] at hj; omega)
        rw [show i + (j + 1) = i + 1 + j by omega, this]; rfl
theorem c_next (hF : 20 ≤ F) (hD : DOK n A W R S) {σ : Nat → Nat → Int32} (hc : CS σ n A W R S) {x s : Nat} (hx : x < 2 ^ n) (h : ncF A R x n = some s) : fX10_nextOf F sh Z σ (nI x) = some (nI s) := by
  obtain ⟨hn, hA, hW, hR, hS⟩ := hD
  have h10 := pw10 hn
  have cs := hc.2.2.2
  unfold fX10_nextOf
  have step1 : ∀ kx : Int32 → Option Int32, fX10_nextOf_L4 F sh Z σ (nI x) kx F ((-1) : Int32) (0 : Int32) = kx (eo (ncF A R x n)) := by
    intro kx
    refine lp_up (fun m (z : Int32 × Int32) => fX10_nextOf_L4 F sh Z σ (nI x) kx m z.1 z.2) (fun i => (eo (ncF A R x i), nI i)) _ n (fun m i hi => ?_) (fun m => ?_) F 0 (Nat.zero_le _) (by omega)
    · show fX10_nextOf_L4 F sh Z σ (nI x) kx (m + 1) (eo (ncF A R x i)) (nI i) = fX10_nextOf_L4 F sh Z σ (nI x) kx m (eo (ncF A R x (i + 1))) (nI (i + 1))
      have hRi := hR i hi
      have hAi := adj31 hn hA hi
      rw [fX10_nextOf_L4, nb_s, hc.1, if_neg (nI_ge hi (by omega)), shr_b (by omega) (by omega), aI_n (by omega) (by decide), (cs i hi).1, fa_and]
      conv => rhs; unfold ncF
      have keep : frP A x i = false → fX10_nextOf_J35 F sh Z (fun x2 x3 => fX10_nextOf_L4 F sh Z σ (nI x) kx m x2 x3) (nI x) (eo (ncF A R x i)) (nI i) σ = fX10_nextOf_L4 F sh Z σ (nI x) kx m (eo (if frP A x i then (match ncF A R x i with | none => some i | some m => if R i < R m then some i else some m) else ncF A R x i)) (nI (i + 1)) := by
        intro hf
        unfold fX10_nextOf_J35 fX10_nextOf_J36 fX10_nextOf_J64
        rw [hf, if_pos rfl, if_neg (show ¬ false = true by decide), nI_1]
      cases hb : x.testBit i with
      | false =>
        rw [if_pos (by decide)]
        exact keep (by unfold frP; rw [hb]; rfl)
      | true =>
        rw [if_neg (show ¬ b2 true = 0 by decide)]
        by_cases g : A i &&& x = 0
        · have hf : frP A x i = true := by unfold frP; rw [hb, decide_eq_true g]; rfl
          rw [g, if_neg (show ¬ ¬ nI 0 = 0 from fun z => z (by decide))]
          unfold fX10_nextOf_J36 fX10_nextOf_J62 fX10_nextOf_J64
          rw [if_neg (show ¬ (1 : Int32) = 0 by decide), hf, if_pos (rfl : true = true)]
          rcases ncF_p A R x i with ⟨h1, -⟩ | ⟨k, h1, h2, -, -⟩
          · rw [h1, if_pos (show eo none < 0 by decide), nI_1]; rfl
          · have hRk := hR k (by omega)
            rw [h1]
            show (if nI k < 0 then _ else _) = _
            rw [if_neg (nI_pos (by omega)), aI_n (by omega) (by decide)]
            show (aI (σ 7) 10 (nI k) fun v6 => _) = _
            rw [aI_n (by omega) (by decide), (cs i hi).2.2, (cs k (by omega)).2.2, nI_1]
            by_cases z : R i < R k
            · rw [if_neg (nI_ge z (by omega))]
              dsimp only
              rw [if_pos z]; rfl
            · rw [if_pos (nI_le (by omega) (by omega))]
              dsimp only
              rw [if_neg z]
        · have hlt : A i &&& x < 2 ^ 31 := Nat.lt_of_le_of_lt Nat.and_le_left hAi
          rw [if_pos (nI_ne0 (Nat.pos_of_ne_zero g) hlt)]
          exact keep (by unfold frP; rw [hb, decide_eq_false g]; rfl)
    · show fX10_nextOf_L4 F sh Z σ (nI x) kx (m + 1) (eo (ncF A R x n)) (nI n) = _
      rw [fX10_nextOf_L4, nb_s, hc.1, if_pos (nI_le (Nat.le_refl n) (by omega))]
  rw [step1, h]
  have hs : s < n := by
    rcases ncF_p A R x n with ⟨h1, -⟩ | ⟨k, h1, h2, -, -⟩
    · rw [h1] at h; cases h
    · rw [h1] at h; cases h; exact h2
  show some (if nI s < (0 : Int32) then (0 : Int32) else nI s) = _
  rw [if_neg (nI_pos (by omega))]
theorem c_ord31 (hF : 20 ≤ F) (hD : DOK n A W R S) (hac : acy n A) (x2 : Int32) (kx : Int32 → (Nat → Nat → Int32) → Option ((Nat → Nat → Int32))) : ∀ M x now a N (σ : Nat → Nat → Int32), CS σ n A W R S → x < 2 ^ n → apN n A R x → clN n A x now → disj x now → cd x ≤ M → a + cd x ≤ n → cd x < N → ∃ σ' : Nat → Nat → Int32, fX10_orderShapes_L31 F sh Z x2 kx N (nI a) (nI x) (nI (cd x)) σ = kx (nI (a + cd x)) σ' ∧ (∀ r, r ≠ 13 → σ' r = σ r) ∧ (∀ k, k < a → σ' 13 k = σ 13 k) ∧ ∀ k, k < cd x → σ' 13 (a + k) = nI ((ccN n A R M x).getD k 0) := by
  have hn := hD.1
  have h10 := pw10 hn
  have zero : ∀ a N (σ : Nat → Nat → Int32) M, 0 < N → ∃ σ' : Nat → Nat → Int32, fX10_orderShapes_L31 F sh Z x2 kx N (nI a) (nI 0) (nI (cd 0)) σ = kx (nI (a + cd 0)) σ' ∧ (∀ r, r ≠ 13 → σ' r = σ r) ∧ (∀ k, k < a → σ' 13 k = σ 13 k) ∧ ∀ k, k < cd 0 → σ' 13 (a + k) = nI ((ccN n A R M 0).getD k 0) := by
    intro a N σ M hN
    obtain ⟨N', rfl⟩ : ∃ N', N = N' + 1 := ⟨N - 1, by omega⟩
    have e0 : cd 0 = 0 := by decide
    rw [e0]
    refine ⟨σ, ?_, fun _ _ => rfl, fun _ _ => rfl, fun k hk => absurd hk (Nat.not_lt_zero k)⟩
    rw [fX10_orderShapes_L31, nb_s, if_pos (show nI 0 ≤ 0 by decide), Nat.add_zero]
  intro M
  induction M with
  | zero =>
    intro x now a N σ hc hx hap hcl hdj hM ha hN
    have e0 : x = 0 := cd0 (by omega) (by omega)
    subst e0
    exact zero a N σ 0 (by omega)
  | succ M ih =>
    intro x now a N σ hc hx hap hcl hdj hM ha hN
    by_cases q : x = 0
    · subst q
      exact zero a N σ (M + 1) (by omega)
    · obtain ⟨N', rfl⟩ : ∃ N', N = N' + 1 := ⟨N - 1, by omega⟩
      have hcp := cd_pos hn hx q
      obtain ⟨s, s1, s2⟩ := nx_eq hn hD.2.1 hac hx q hap hcl hdj
      obtain ⟨p1, p2, -, -⟩ := nxR_p hn hD.2.1 s1
      have hcc := cd_clr10 hn hx p2
      have hcx : nI (cd x) + ((-1) : Int32) = nI (cd (clr x s)) := by rw [← hcc, pk_m1]
      rw [fX10_orderShapes_L31, nb_s, if_neg (nI_nle hcp (by omega)), hc.1, if_neg (nI_ge (by omega) (by omega)), c_next hF hD hc hx s2, bd_s, aS_n (by omega) (by decide), nm_s, nI_clamp (by omega), clr_nI (by omega), nm_s, nI_1, hcx]
      obtain ⟨σ', e1, e2, e3, e4⟩ := ih (clr x s) (now ||| 2 ^ s) (a + 1) N' (sg σ 13 (upd (σ 13) a (nI s))) (CS_r hc (Or.inr (Or.inr (Or.inl rfl))) (fun r hr => sg_ne hr _)) (clr_lt2 hx) (fun a o ha ho h1 h2 h3 => hap a o ha ho ((clr_t hn hx).mp h1).1 ((clr_t hn hx).mp h2).1 h3) (fun t ht h1 i hi => by
        rcases hcl t ht ((clr_t hn hx).mp h1).1 i hi with h | h
        · exact Or.inl (or_t.mpr (Or.inl h))
        · by_cases e : i = s
          · exact Or.inl (or_t.mpr (Or.inr e))
          · exact Or.inr ((clr_t hn hx).mpr ⟨h, e⟩)) (disj_s hn hx hdj) (by omega) (by omega) (by omega)
      have hcs : ccN n A R (M + 1) x = s :: ccN n A R M (clr x s) := by
        conv => lhs; unfold ccN
        rw [if_neg q, s2]
      refine ⟨σ', ?_, fun r hr => (e2 r hr).trans (sg_ne hr _), fun k hk => ?_, fun k hk => ?_⟩
      · refine Eq.trans e1 ?_
        rw [show a + 1 + cd (clr x s) = a + cd x by omega]
      · rw [e3 k (by omega), sg_at, pk_un (by omega)]
      · rw [hcs]
        cases k with
        | zero => rw [Nat.add_zero, e3 a (by omega), sg_at, pk_us]; rfl
        | succ k =>
          have := e4 k (by omega)
          rw [show a + (k + 1) = a + 1 + k by omega, this]; rfl
theorem c_order (hF : 20 ≤ F) (hD : DOK n A W R S) (hac : acy n A) (kx : (Nat → Nat → Int32) → Option ((Nat → Nat → Int32))) : ∀ (L : List Nat) D i N (σ : Nat → Nat → Int32), Chn n (canN n A W R S) L.length D L → D < 2 ^ n → clo n A D → CS σ n A W R S → σ 37 0 = nI (i + L.length) → (∀ j, j < L.length → σ 12 (i + j) = nI (L.getD j 0)) → i + L.length ≤ 10 → L.length < N → ∃ σ' : Nat → Nat → Int32, fX10_orderShapes_L4 F sh Z kx N (nI (cd D)) (nI i) σ = kx σ' ∧ (∀ r, r ≠ 13 → σ' r = σ r) ∧ (∀ k, k < cd D → σ' 13 k = σ 13 k) ∧ ∀ k, k < (OLN n A R D L).length → σ' 13 (cd D + k) = nI ((OLN n A R D L).getD k 0) := by
  have hn := hD.1
  have h10 := pw10 hn
  intro L
  induction L with
  | nil =>
    intro D i N σ _ hDn hcl hc h37 h12 hi hN
    have hi' : i ≤ 10 := hi
    obtain ⟨M, rfl⟩ : ∃ M, N = M + 1 := ⟨N - 1, by omega⟩
    refine ⟨σ, ?_, fun _ _ => rfl, fun _ _ => rfl, fun k hk => absurd hk (Nat.not_lt_zero k)⟩
    rw [fX10_orderShapes_L4, nb_s, h37, if_pos (show nI (i + ([] : List Nat).length) ≤ nI i from nI_le (a := i + ([] : List Nat).length) (Nat.le_refl i) (by omega))]
  | cons z L ih =>
    intro D i N σ hch hDn hcl hc h37 h12 hi hN
    rw [List.length_cons] at hch h37 hi hN
    obtain ⟨M, rfl⟩ : ∃ M, N = M + 1 := ⟨N - 1, by omega⟩
    obtain ⟨z', L', e, pk, ch⟩ := hch
    cases e
    have hzl := (sub_lf hn).mp pk.2.1
    have hz := hzl.1
    have hci := (can_iff hn hD.2.1 hac hz hzl.2 hcl).mp pk.2.2.1
    have hclz := (clo_or hcl).mp hci.2
    have hcor := cd_or (x := D) (y := z) (fun i hi => hzl.2 i hi)
    have hcle := cd_le hn (or_lt2 hDn hz)
    have hcz := cd_le hn hz
    have hz12 : σ 12 i = nI z := by
      have := h12 0 (by rw [List.length_cons]; omega)
      rw [Nat.add_zero] at this
      exact this
    have hgl := gl_ok (R := R) hn hD.2.1 hac 10 z D (by omega) hz hci.1.2 hclz hzl.2
    have hGl := (gl_inv hn hD.2.1 10 z D _ hgl hz hzl.2).2.2.1
    have hOL : OLN n A R D (z :: L) = ccN n A R 10 z ++ OLN n A R (D ||| z) L := by
      conv => lhs; unfold OLN
      rw [hgl]; rfl
    rw [fX10_orderShapes_L4, nb_s, h37, if_neg (nI_ge (by omega) (by omega)), if_neg (show ¬ (10 : Int32) ≤ nI i from nI_ge (b := 10) (by omega) (by decide)), aI_n (by omega) (by decide), hz12, c_pop32 (by omega), bd_s]
    obtain ⟨σ1, f1, f2, f3, f4⟩ := c_ord31 (F := F) (sh := sh) (Z := Z) hF hD hac (nI i) (fun y5 σ6 => (fun x1 x2 σ => fX10_orderShapes_L4 F sh Z kx M x1 x2 σ) y5 (nI i + (1 : Int32)) σ6) 10 z D (cd D) F σ hc hz hci.1.2 hclz hzl.2 (by omega) (by omega) (by omega)
    obtain ⟨σ', d1, d2, d3, d4⟩ := ih (D ||| z) (i + 1) M σ1 ch (or_lt2 hDn hz) hci.2 (CS_r hc (Or.inr (Or.inr (Or.inl rfl))) f2) (by rw [f2 37 (by decide), h37, show i + (L.length + 1) = i + 1 + L.length by omega]) (fun j hj => by
      rw [f2 12 (by decide), show i + 1 + j = i + (j + 1) by omega, h12 (j + 1) (by rw [List.length_cons]; omega)]; rfl) (by omega) (by omega)
    refine ⟨σ', ?_, fun r hr => (d2 r hr).trans (f2 r hr), fun k hk => ?_, fun k hk => ?_⟩
    · refine Eq.trans f1 ?_
      show fX10_orderShapes_L4 F sh Z kx M (nI (cd D + cd z)) (nI i + (1 : Int32)) σ1 = _
      rw [nI_1, ← hcor]; exact d1
    · rw [d3 k (by omega)]; exact f3 k hk
    · rw [hOL] at hk ⊢
      rw [List.length_append] at hk
      rcases Nat.lt_or_ge k (cd z) with q | q
      · rw [d3 (cd D + k) (by omega), getD_l (by omega)]
        exact f4 k q
      · rw [getD_r (by omega), hGl, ← d4 (k - cd z) (by omega), hcor, show cd D + cd z + (k - cd z) = cd D + k by omega]
end CP
