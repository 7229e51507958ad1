/-! the reference's plan -/
def FV (n : Nat) (can : Nat → Nat → Bool) (E : Nat) (x : Int32) : Prop := (∃ k, FwN n can k E ∧ x = nI k) ∨ ((∀ k, ¬ PkN n can k E) ∧ x = -1)
def BI (n : Nat) (can : Nat → Nat → Bool) (D : Nat) (x3 : Int32) (x : Nat) : Prop := (x3 = -1 ∧ ∀ z, x < z → z &&& lfN n D = z → can z D = true → ∀ k, ¬ PkN n can k (D ||| z)) ∨ ∃ b, x3 = nI b ∧ 1 ≤ b ∧ b ≤ 11 ∧ PkN n can b D ∧ ∀ z, x < z → z &&& lfN n D = z → can z D = true → ∀ k, PkN n can k (D ||| z) → b ≤ k + 1
theorem sub_step {l x : Nat} (hx : x &&& l = x) {Q : Nat → Prop} (h : ∀ z, x < z → z &&& l = z → Q z) (hq : Q x) : ∀ z, (x - 1) &&& l < z → z &&& l = z → Q z := by
  intro z hz hl
  rcases Nat.lt_or_ge x z with q | q
  · exact h z q hl
  · by_cases e : z = x
    · rw [e]; exact hq
    · have := sub_nx x l z hx hl (by omega)
      omega
theorem sub_nxl (x l : Nat) : ((x - 1) &&& l) &&& l = (x - 1) &&& l := by rw [Nat.and_assoc, Nat.and_self]
theorem sub_nxlt {x l : Nat} (h : x ≠ 0) : (x - 1) &&& l < x := by
  have : (x - 1) &&& l ≤ x - 1 := Nat.and_le_left
  omega
theorem nx_I {x l : Nat} (h : x ≠ 0) : (nI x - (1 : Int32)) &&& nI l = nI ((x - 1) &&& l) := by
  obtain ⟨y, rfl⟩ : ∃ y, x = y + 1 := ⟨x - 1, by omega⟩
  rw [nI_pred, fa_and]; rfl
theorem or_gt {n D x : Nat} (hn : n ≤ 10) (hx : x &&& lfN n D = x) (h0 : x ≠ 0) : D < D ||| x := by
  have hd := ((sub_lf hn).mp hx).2
  obtain ⟨i, hi⟩ := ne0 h0
  have h1 : D ≤ D ||| x := Nat.left_le_or
  have h2 : D ≠ D ||| x := by
    intro z
    have e : (D ||| x).testBit i = true := by rw [Nat.testBit_or, hi, Bool.or_true]
    rw [← z] at e
    rw [hd i e] at hi; cases hi
  omega
section RP
variable {F n : Nat} {A W R : Nat → Nat} {S : Nat}
theorem MS18 {σ σ' : Nat → Nat → Int32} (h : MS σ n A W R S) (e : ∀ r, r ≠ 18 → σ' r = σ r) : MS σ' n A W R S := MS_to h (e 0 (by decide)) (e 12 (by decide)) (e 9 (by decide)) (e 10 (by decide)) (e 14 (by decide))
set_option maxHeartbeats 2000000 in
theorem r_L77 (hF : 20 ≤ F) (hD : DOK n A W R S) {D : Nat} (hDn : D < 2 ^ n - 1) (x1 : Int32) (kx : Int32 → (Nat → Nat → Int32) → Option ((Nat → Nat → Int32))) : ∀ x N x3 (σ : Nat → Nat → Int32), MS σ n A W R S → (∀ E, D < E → E < 2 ^ n → FV n (canN n A W R S) E (σ 15 E)) → x &&& lfN n D = x → x < N → BI n (canN n A W R S) D x3 x → ∃ (x3' : Int32) (σ' : Nat → Nat → Int32), fX12_findPlan_L77 F x1 (nI D) (nI (lfN n D)) kx N x3 (nI x) σ = kx x3' σ' ∧ (∀ r, r ≠ 18 → σ' r = σ r) ∧ FV n (canN n A W R S) D x3' := by
  have hn := hD.1
  have h10 := pw10 hn
  intro x
  induction x using Nat.strongRecOn with
  | ind x ih =>
    intro N x3 σ hm h15 hx hN hB
    obtain ⟨M, rfl⟩ : ∃ M, N = M + 1 := ⟨N - 1, by omega⟩
    rw [fX12_findPlan_L77, nb_s]
    by_cases q : x = 0
    · subst q
      rw [if_pos (by decide)]
      refine ⟨x3, σ, rfl, fun _ _ => rfl, ?_⟩
      have n0 : ¬ PkN n (canN n A W R S) 0 D := fun z => by
        have z : D = 2 ^ n - 1 := z
        omega
      rcases hB with ⟨e, h⟩ | ⟨b, e, h1, h2, h3, h4⟩
      · refine Or.inr ⟨fun k hk => ?_, e⟩
        cases k with
        | zero => exact n0 hk
        | succ k =>
          obtain ⟨z, z1, z2, z3, z4, z5⟩ := hk
          exact h z (Nat.pos_of_ne_zero z1) ((sub_lf hn).mpr ⟨z2, z3⟩) z4 k z5
      · refine Or.inl ⟨b, ⟨h3, fun j hj hk => ?_⟩, e⟩
        cases j with
        | zero => exact n0 hk
        | succ k =>
          obtain ⟨z, z1, z2, z3, z4, z5⟩ := hk
          have := h4 z (Nat.pos_of_ne_zero z1) ((sub_lf hn).mpr ⟨z2, z3⟩) z4 k z5
          omega
    · have hxl := (sub_lf hn).mp hx
      have hgt := or_gt hn hx q
      have hE : D ||| x < 2 ^ n := or_lt2 (by omega) hxl.1
      have fin : ∀ (x3' : Int32) (σ1 : Nat → Nat → Int32), (∀ r, r ≠ 18 → σ1 r = σ r) → BI n (canN n A W R S) D x3' ((x - 1) &&& lfN n D) → ∃ (x3'' : Int32) (σ' : Nat → Nat → Int32), fX12_findPlan_J125 F (fun x3 x5 σ => fX12_findPlan_L77 F x1 (nI D) (nI (lfN n D)) kx M x3 x5 σ) x1 (nI D) x3' (nI (lfN n D)) (nI x) σ1 = kx x3'' σ' ∧ (∀ r, r ≠ 18 → σ' r = σ r) ∧ FV n (canN n A W R S) D x3'' := by
        intro x3' σ1 e1 hB'
        unfold fX12_findPlan_J125
        rw [nx_I q, nm_s]
        have hlt := sub_nxlt (l := lfN n D) q
        obtain ⟨y, σ', g1, g2, g3⟩ := ih _ hlt M x3' σ1 (MS18 hm e1) (fun E h1 h2 => by rw [e1 15 (by decide)]; exact h15 E h1 h2) (sub_nxl x _) (by omega) hB'
        exact ⟨y, σ', g1, fun r hr => (g2 r hr).trans (e1 r hr), g3⟩
      rw [if_neg (nI_nle (Nat.pos_of_ne_zero q) (by omega)), fa_or, aI_n (by omega) (by decide)]
      rcases h15 (D ||| x) hgt hE with ⟨k, hk, ek⟩ | ⟨hk, ek⟩
      · have hk10 := Pk_len hn k _ hE hk.1
        rw [ek, if_neg (nI_pos (by omega))]
        have pk1 : canN n A W R S x D = true → PkN n (canN n A W R S) (k + 1) D := fun hc => ⟨x, q, hxl.1, hxl.2, hc, hk.1⟩
        obtain ⟨σ1, c1, c2, -⟩ := r_can hF hD hm hxl.1 (show D < 2 ^ n by omega)
        rcases hB with ⟨e, h⟩ | ⟨b, e, h1, h2, h3, h4⟩
        · rw [e, if_pos (by decide)]
          unfold fX12_findPlan_J110
          rw [c1, bd_s]
          cases hc : canN n A W R S x D with
          | true =>
            rw [nI_1]
            refine fin _ σ1 c2 (Or.inr ⟨k + 1, rfl, by omega, by omega, pk1 hc, sub_step hx (fun z hz hl hcz k' hk' => absurd hk' (h z hz hl hcz k')) (fun _ k' hk' => ?_)⟩)
            have := Fw_le hk hk'
            omega
          | false =>
            exact fin _ σ1 c2 (Or.inl ⟨rfl, sub_step hx h (fun z => by rw [hc] at z; cases z)⟩)
        · rw [e, if_neg (nI_pos (by omega)), nI_1]
          by_cases hb : b ≤ k + 1
          · rw [if_pos (nI_le hb (by omega))]
            refine fin _ σ (fun _ _ => rfl) (Or.inr ⟨b, rfl, h1, h2, h3, sub_step hx h4 (fun _ k' hk' => ?_)⟩)
            have := Fw_le hk hk'
            omega
          · rw [if_neg (nI_ge (by omega) (by omega))]
            unfold fX12_findPlan_J110
            rw [c1, bd_s]
            cases hc : canN n A W R S x D with
            | true =>
              rw [nI_1]
              refine fin _ σ1 c2 (Or.inr ⟨k + 1, rfl, by omega, by omega, pk1 hc, sub_step hx (fun z hz hl hcz k' hk' => ?_) (fun _ k' hk' => ?_)⟩)
              · have := h4 z hz hl hcz k' hk'
                omega
              · have := Fw_le hk hk'
                omega
            | false =>
              exact fin _ σ1 c2 (Or.inr ⟨b, rfl, h1, h2, h3, sub_step hx h4 (fun z => by rw [hc] at z; cases z)⟩)
      · rw [ek, if_pos (by decide)]
        rcases hB with ⟨e, h⟩ | ⟨b, e, h1, h2, h3, h4⟩
        · exact fin _ σ (fun _ _ => rfl) (Or.inl ⟨e, sub_step hx h (fun _ => hk)⟩)
        · exact fin _ σ (fun _ _ => rfl) (Or.inr ⟨b, e, h1, h2, h3, sub_step hx h4 (fun _ k' hk' => absurd hk' (hk k'))⟩)
def pmI (m : Nat) : Int32 := if m = 0 then -1 else nI (m - 1)
theorem pmI_s (m : Nat) : pmI (m + 1) = nI m := rfl
theorem pmI_a (m : Nat) : nI m + ((-1) : Int32) = pmI m := by
  cases m with
  | zero => decide
  | succ m => rw [pk_m1, pmI_s]
theorem pmI_b (m : Nat) : nI m - (1 : Int32) = pmI m := by
  cases m with
  | zero => decide
  | succ m => rw [nI_pred, pmI_s]
theorem r_L60 (hF : 1100 ≤ F) (hD : DOK n A W R S) (kx : (Nat → Nat → Int32) → Option ((Nat → Nat → Int32))) : ∀ m N (σ : Nat → Nat → Int32), m ≤ 2 ^ n - 1 → MS σ n A W R S → (∀ E, m ≤ E → E < 2 ^ n → FV n (canN n A W R S) E (σ 15 E)) → m < N → ∃ σ' : Nat → Nat → Int32, fX12_findPlan_L60 F (nI (2 ^ n - 1)) kx N (pmI m) σ = kx σ' ∧ (∀ r, r ≠ 15 → r ≠ 18 → σ' r = σ r) ∧ ∀ E, E < 2 ^ n → FV n (canN n A W R S) E (σ' 15 E) := by
  have hn := hD.1
  have h10 := pw10 hn
  intro m
  induction m with
  | zero =>
    intro N σ _ hm h15 hN
    obtain ⟨M, rfl⟩ : ∃ M, N = M + 1 := ⟨N - 1, by omega⟩
    refine ⟨σ, ?_, fun _ _ _ => rfl, fun E hE => h15 E (Nat.zero_le _) hE⟩
    rw [fX12_findPlan_L60, nb_s, if_pos (by decide)]
  | succ m ih =>
    intro N σ hle hm h15 hN
    obtain ⟨M, rfl⟩ : ∃ M, N = M + 1 := ⟨N - 1, by omega⟩
    rw [fX12_findPlan_L60, nb_s, pmI_s, if_neg (nI_pos (by omega)), not_nI, nm_s]
    have hl := lf_lt (n := n) m
    obtain ⟨y, σ1, g1, g2, g3⟩ := r_L77 (F := F) (by omega) hD (show m < 2 ^ n - 1 by omega) (nI (2 ^ n - 1)) (fun y9 σ10 => aS 1024 (nI m) (nm (sg σ10 15 (upd (σ10 15) (nI m).toNatClampNeg y9)) fun σ12 => (fun x2 σ => fX12_findPlan_L60 F (nI (2 ^ n - 1)) kx M x2 σ) (nI m + ((-1) : Int32)) σ12)) (lfN n m) F (-1) σ hm (fun E h1 h2 => h15 E (by omega) h2) (Nat.and_self _) (by omega) (Or.inl ⟨rfl, fun z h1 h2 => by
      have : z &&& lfN n m ≤ lfN n m := Nat.and_le_right
      omega⟩)
    have g1' := g1
    unfold lfN at g1'
    have hms1 : MS σ1 n A W R S := MS18 hm g2
    obtain ⟨σ', e1, e2, e3⟩ := ih M (sg σ1 15 (upd (σ1 15) m y)) (by omega) (show MS (sg σ1 15 (upd (σ1 15) m y)) n A W R S from hms1) (fun E h1 h2 => by
      show FV n (canN n A W R S) E (upd (σ1 15) m y E)
      by_cases e : E = m
      · rw [e, pk_us]; exact g3
      · rw [pk_un e, g2 15 (by decide)]; exact h15 E (by omega) h2) (by omega)
    · refine ⟨σ', ?_, fun r hr hr2 => (e2 r hr hr2).trans ((sg_ne hr _).trans (g2 r hr2)), e3⟩
      refine g1'.trans ?_
      show aS 1024 (nI m) (nm (sg σ1 15 (upd (σ1 15) (nI m).toNatClampNeg y)) fun σ12 => (fun x2 σ => fX12_findPlan_L60 F (nI (2 ^ n - 1)) kx M x2 σ) (nI m + ((-1) : Int32)) σ12) = _
      rw [aS_n (by omega) (by decide), nm_s, nI_clamp (by omega), pmI_a]
      exact e1
def IsPick (n : Nat) (can : Nat → Nat → Bool) (D k z : Nat) : Prop := z ≠ 0 ∧ z &&& lfN n D = z ∧ can z D = true ∧ FwN n can k (D ||| z) ∧ ∀ y, z < y → y &&& lfN n D = y → can y D = true → ¬ FwN n can k (D ||| y)
theorem pick_one {can : Nat → Nat → Bool} {D k y z : Nat} (h1 : IsPick n can D k y) (h2 : IsPick n can D k z) : y = z := by
  obtain ⟨-, a2, a3, a4, a5⟩ := h1
  obtain ⟨-, b2, b3, b4, b5⟩ := h2
  rcases Nat.lt_trichotomy y z with q | q | q
  · exact absurd b4 (a5 z q b2 b3)
  · exact q
  · exact absurd a4 (b5 y q a2 a3)
theorem Fw_next {can : Nat → Nat → Bool} {k D : Nat} (hn : n ≤ 10) (h : FwN n can (k + 1) D) : ∃ z, z ≠ 0 ∧ z &&& lfN n D = z ∧ can z D = true ∧ FwN n can k (D ||| z) := by
  obtain ⟨⟨z, z1, z2, z3, z4, z5⟩, h2⟩ := h
  refine ⟨z, z1, (sub_lf hn).mpr ⟨z2, z3⟩, z4, z5, fun j hj hk => ?_⟩
  exact h2 (j + 1) (by omega) ⟨z, z1, z2, z3, z4, hk⟩
def Chn (n : Nat) (can : Nat → Nat → Bool) : Nat → Nat → List Nat → Prop
  | 0, _, L => L = []
  | k + 1, D, L => ∃ z L', L = z :: L' ∧ IsPick n can D k z ∧ Chn n can k (D ||| z) L'
theorem Chn_len {can : Nat → Nat → Bool} : ∀ k D L, Chn n can k D L → L.length = k := by
  intro k
  induction k with
  | zero => intro D L h; rw [show L = [] from h]; rfl
  | succ k ih =>
    intro D L h
    obtain ⟨z, L', rfl, -, h3⟩ := h
    rw [List.length_cons, ih _ _ h3]
theorem Chn_one {can : Nat → Nat → Bool} : ∀ k D L M, Chn n can k D L → Chn n can k D M → L = M := by
  intro k
  induction k with
  | zero => intro D L M h1 h2; rw [show L = [] from h1, show M = [] from h2]
  | succ k ih =>
    intro D L M h1 h2
    obtain ⟨y, L', rfl, a1, a2⟩ := h1
    obtain ⟨z, M', rfl, b1, b2⟩ := h2
    have e := pick_one a1 b1
    subst e
    rw [ih _ _ _ a2 b2]
theorem r_L183 (hF : 20 ≤ F) (hD : DOK n A W R S) {D k : Nat} (hDn : D < 2 ^ n) (hfw : FwN n (canN n A W R S) (k + 1) D) (x1 x3 : Int32) (kx : Int32 → (Nat → Nat → Int32) → Option ((Nat → Nat → Int32))) : ∀ x N (σ : Nat → Nat → Int32), MS σ n A W R S → (∀ E, E < 2 ^ n → FV n (canN n A W R S) E (σ 15 E)) → x &&& lfN n D = x → x < N → (∃ z, z ≤ x ∧ z ≠ 0 ∧ z &&& lfN n D = z ∧ canN n A W R S z D = true ∧ FwN n (canN n A W R S) k (D ||| z)) → (∀ z, x < z → z &&& lfN n D = z → canN n A W R S z D = true → ¬ FwN n (canN n A W R S) k (D ||| z)) → ∃ (z : Nat) (σ' : Nat → Nat → Int32), fX12_findPlan_L183 F x1 (nI D) x3 (nI (lfN n D)) kx N (nI x) σ = kx (nI z) σ' ∧ (∀ r, r ≠ 18 → σ' r = σ r) ∧ IsPick n (canN n A W R S) D k z := by
  have hn := hD.1
  have h10 := pw10 hn
  have hk10 := Pk_len hn (k + 1) D hDn hfw.1
  intro x
  induction x using Nat.strongRecOn with
  | ind x ih =>
    intro N σ hm h15 hx hN hex hno
    obtain ⟨M, rfl⟩ : ∃ M, N = M + 1 := ⟨N - 1, by omega⟩
    have hx0 : x ≠ 0 := by
      obtain ⟨z, h1, h2, -⟩ := hex
      omega
    have hxl := (sub_lf hn).mp hx
    have hE : D ||| x < 2 ^ n := or_lt2 hDn hxl.1
    have e15 : σ 15 D = nI (k + 1) := by
      rcases h15 D hDn with ⟨j, hj, ej⟩ | ⟨hj, -⟩
      · rw [ej, Fw_one hfw hj]
      · exact absurd hfw.1 (hj _)
    have fin : ∀ σ1 : Nat → Nat → Int32, (∀ r, r ≠ 18 → σ1 r = σ r) → (canN n A W R S x D = true → ¬ FwN n (canN n A W R S) k (D ||| x)) → ∃ (z : Nat) (σ' : Nat → Nat → Int32), fX12_findPlan_J213 F (fun x5 σ => fX12_findPlan_L183 F x1 (nI D) x3 (nI (lfN n D)) kx M x5 σ) x1 (nI D) x3 (nI (lfN n D)) (nI x) σ1 = kx (nI z) σ' ∧ (∀ r, r ≠ 18 → σ' r = σ r) ∧ IsPick n (canN n A W R S) D k z := by
      intro σ1 e1 hq
      unfold fX12_findPlan_J213
      rw [nx_I hx0, nm_s]
      have hlt := sub_nxlt (l := lfN n D) hx0
      obtain ⟨z, z1, z2, z3, z4, z5⟩ := hex
      have hzx : z ≠ x := fun e => by
        rw [e] at z4 z5
        exact hq z4 z5
      obtain ⟨y, σ', g1, g2, g3⟩ := ih _ hlt M σ1 (MS18 hm e1) (fun E hE => by rw [e1 15 (by decide)]; exact h15 E hE) (sub_nxl x _) (by omega) ⟨z, sub_nx x _ z hx z3 (by omega), z2, z3, z4, z5⟩ (sub_step hx hno hq)
      exact ⟨y, σ', g1, fun r hr => (g2 r hr).trans (e1 r hr), g3⟩
    rw [fX12_findPlan_L183, nb_s, fa_or, aI_n (by omega) (by decide), aI_n (by omega) (by decide), e15, nI_pred]
    rcases h15 (D ||| x) hE with ⟨j, hj, ej⟩ | ⟨hj, ej⟩
    · have hj10 := Pk_len hn j _ hE hj.1
      rw [ej]
      by_cases e : j = k
      · subst e
        rw [if_neg (fun z => z rfl)]
        obtain ⟨σ1, c1, c2, -⟩ := r_can hF hD hm hxl.1 hDn
        rw [c1, bd_s]
        cases hc : canN n A W R S x D with
        | true => exact ⟨x, σ1, rfl, c2, hx0, hx, hc, hj, hno⟩
        | false => exact fin σ1 c2 (fun z => by rw [hc] at z; cases z)
      · rw [if_pos (fun z => e ((nI_eq (by omega) (by omega)).mp z))]
        exact fin σ (fun _ _ => rfl) (fun _ z => e (Fw_one hj z))
    · rw [ej, if_pos (fun z => by
        have := (fa_eq _ _).mp z
        rw [nI_toInt (by omega)] at this
        have e4 : ((-1) : Int32).toInt = -1 := by decide
        rw [e4] at this; omega)]
      exact fin σ (fun _ _ => rfl) (fun _ z => hj k z.1)
theorem r_L164 (hF : 1100 ≤ F) (hD : DOK n A W R S) {K : Nat} (hK : K ≤ 10) (kx : (Nat → Nat → Int32) → Option ((Nat → Nat → Int32))) : ∀ k D i N (σ : Nat → Nat → Int32), FwN n (canN n A W R S) k D → D < 2 ^ n → MS σ n A W R S → (∀ E, E < 2 ^ n → FV n (canN n A W R S) E (σ 15 E)) → σ 16 0 = nI K → i + k = K → k < N → ∃ (L : List Nat) (σ' : Nat → Nat → Int32), fX12_findPlan_L164 F (nI (2 ^ n - 1)) kx N (nI D) (nI i) σ = kx σ' ∧ Chn n (canN n A W R S) k D L ∧ (∀ r, r ≠ 17 → r ≠ 18 → σ' r = σ r) ∧ (∀ j, j < i → σ' 17 j = σ 17 j) ∧ ∀ j, j < L.length → σ' 17 (i + j) = nI (L.getD j 0) := by
  have hn := hD.1
  have h10 := pw10 hn
  intro k
  induction k with
  | zero =>
    intro D i N σ hfw hDn hm h15 h16 hi hN
    obtain ⟨M, rfl⟩ : ∃ M, N = M + 1 := ⟨N - 1, by omega⟩
    refine ⟨[], σ, ?_, rfl, fun _ _ _ => rfl, fun _ _ => rfl, fun j hj => absurd hj (Nat.not_lt_zero j)⟩
    rw [fX12_findPlan_L164, nb_s, h16, if_pos (nI_le (by omega) (by omega))]
  | succ k ih =>
    intro D i N σ hfw hDn hm h15 h16 hi hN
    obtain ⟨M, rfl⟩ : ∃ M, N = M + 1 := ⟨N - 1, by omega⟩
    have hl := lf_lt (n := n) D
    obtain ⟨z, z2, z3, z4, z5⟩ := Fw_next hn hfw
    have hzl : z ≤ lfN n D := by
      have : z &&& lfN n D ≤ lfN n D := Nat.and_le_right
      omega
    rw [fX12_findPlan_L164, nb_s, h16, if_neg (nI_ge (by omega) (by omega)), not_nI, nm_s]
    obtain ⟨y, σ1, g1, g2, g3⟩ := r_L183 (F := F) (by omega) hD hDn hfw (nI (2 ^ n - 1)) (nI i) (fun y12 σ13 => aS 10 (nI i) (nm (sg σ13 17 (upd (σ13 17) (nI i).toNatClampNeg y12)) fun σ15 => (fun x2 x3 σ => fX12_findPlan_L164 F (nI (2 ^ n - 1)) kx M x2 x3 σ) (nI D ||| y12) (nI i + (1 : Int32)) σ15)) (lfN n D) F σ hm h15 (Nat.and_self _) (by omega) ⟨z, hzl, z2, z3, z4, z5⟩ (fun z h1 h2 => by
      have : z &&& lfN n D ≤ lfN n D := Nat.and_le_right
      omega)
    have g1' := g1
    unfold lfN at g1'
    have hyl := (sub_lf hn).mp g3.2.1
    have hms1 := MS18 hm g2
    have hms2 : MS (sg σ1 17 (upd (σ1 17) i (nI y))) n A W R S := hms1
    obtain ⟨L, σ', e1, e2, e3, e4, e5⟩ := ih (D ||| y) (i + 1) M (sg σ1 17 (upd (σ1 17) i (nI y))) g3.2.2.2.1 (or_lt2 hDn hyl.1) hms2 (fun E hE => by
      show FV n (canN n A W R S) E (σ1 15 E)
      rw [g2 15 (by decide)]; exact h15 E hE) (by
      show σ1 16 0 = nI K
      rw [g2 16 (by decide)]; exact h16) (by omega) (by omega)
    refine ⟨y :: L, σ', ?_, ⟨y, L, rfl, g3, e2⟩, fun r hr hr2 => (e3 r hr hr2).trans ((sg_ne hr _).trans (g2 r hr2)), fun j hj => ?_, fun j hj => ?_⟩
    · refine g1'.trans ?_
      show aS 10 (nI i) (nm (sg σ1 17 (upd (σ1 17) (nI i).toNatClampNeg (nI y))) fun σ15 => (fun x2 x3 σ => fX12_findPlan_L164 F (nI (2 ^ n - 1)) kx M x2 x3 σ) (nI D ||| nI y) (nI i + (1 : Int32)) σ15) = _
      rw [aS_n (by omega) (by decide), nm_s, nI_clamp (by omega), fa_or, nI_1]
      exact e1
    · rw [e4 j (by omega), sg_at, pk_un (by omega), g2 17 (by decide)]
    · cases j with
      | zero => rw [Nat.add_zero, e4 i (by omega), sg_at, pk_us]; rfl
      | succ j =>
        have := e5 j (by rw [List.length_cons] at hj; omega)
        rw [show i + (j + 1) = i + 1 + j by omega, this]; rfl
end RP
