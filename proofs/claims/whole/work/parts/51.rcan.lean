/-! the reference: the next, and what can be a DAY -/
def MS (σ : Nat → Nat → Int32) (n : Nat) (A W R : Nat → Nat) (S : Nat) : Prop := σ 0 0 = nI n ∧ σ 12 0 = nI S ∧ ∀ s, s < n → σ 9 s = nI (W s) ∧ σ 10 s = nI (R s) ∧ σ 14 s = nI (A s)
theorem MS_to {σ σ' : Nat → Nat → Int32} {n : Nat} {A W R : Nat → Nat} {S : Nat} (h : MS σ n A W R S) (h0 : σ' 0 = σ 0) (h12 : σ' 12 = σ 12) (h9 : σ' 9 = σ 9) (h10 : σ' 10 = σ 10) (h14 : σ' 14 = σ 14) : MS σ' n A W R S := by
  unfold MS
  rw [h0, h12, h9, h10, h14]; exact h
def eo : Option Nat → Int32
  | none => -1
  | some m => nI m
def DOK (n : Nat) (A W R : Nat → Nat) (S : Nat) : Prop := n ≤ 10 ∧ ADJ n A ∧ (∀ s, s < n → W s ≤ 256) ∧ (∀ s, s < n → R s < 8) ∧ S ≤ 256
theorem r_next {F n : Nat} {A W R : Nat → Nat} {S x now : Nat} {σ : Nat → Nat → Int32} (hF : 20 ≤ F) (hD : DOK n A W R S) (hm : MS σ n A W R S) (hx : x < 2 ^ n) (h0 : x ≠ 0) (hnow : now < 2 ^ n) : fX12_nextOf F σ (nI x) (nI now) = some (eo (nxR n A R x now)) := by
  obtain ⟨hn, hA, hW, hR, hS⟩ := hD
  obtain ⟨m0, m12, ms⟩ := hm
  have h10 := pw10 hn
  unfold fX12_nextOf
  have step1 : ∀ kx : Int32 → Option Int32, fX12_nextOf_L5 F σ (nI x) (nI now) kx F ((-1) : Int32) (0 : Int32) = kx (eo (lrF R x n)) := by
    intro kx
    refine lp_up (fun m (z : Int32 × Int32) => fX12_nextOf_L5 F σ (nI x) (nI now) kx m z.1 z.2) (fun i => (eo (lrF R x i), nI i)) _ n (fun m i hi => ?_) (fun m => ?_) F 0 (Nat.zero_le _) (by omega)
    · show fX12_nextOf_L5 F σ (nI x) (nI now) kx (m + 1) (eo (lrF R x i)) (nI i) = fX12_nextOf_L5 F σ (nI x) (nI now) kx m (eo (lrF R x (i + 1))) (nI (i + 1))
      rw [fX12_nextOf_L5, nb_s, m0, if_neg (nI_ge hi (by omega)), shr_b (by omega) (by omega)]
      unfold fX12_nextOf_J49 fX12_nextOf_J39 fX12_nextOf_J50
      have hRi := hR i hi
      conv => rhs; unfold lrF
      cases hb : x.testBit i with
      | false => rw [if_pos (by decide), if_neg (by decide), nI_1]
      | true =>
        rw [if_neg (by decide), if_pos rfl, aI_n (by omega) (by decide), (ms i hi).2.1]
        cases hl : lrF R x i with
        | none => rw [if_pos (by decide), nI_1]; rfl
        | some k =>
          have hk8 : k < 8 := by
            rcases lrF_p R x i with ⟨h1, -⟩ | ⟨k', h1, ⟨s, h3, -, h5⟩, -⟩
            · rw [h1] at hl; cases hl
            · rw [h1] at hl; cases hl
              rw [← h5]; exact hR s (by omega)
          show (if nI k < 0 then _ else _) = _
          rw [if_neg (nI_pos (by omega)), aI_n (by omega) (by decide), (ms i hi).2.1]
          by_cases q : R i < k
          · rw [if_neg (show ¬ eo (some k) ≤ nI (R i) from nI_ge q (by omega)), nI_1]
            dsimp only
            rw [if_pos q]; rfl
          · rw [if_pos (show eo (some k) ≤ nI (R i) from nI_le (by omega) (by omega)), nI_1]
            dsimp only
            rw [if_neg q]
    · show fX12_nextOf_L5 F σ (nI x) (nI now) kx (m + 1) (eo (lrF R x n)) (nI n) = _
      rw [fX12_nextOf_L5, nb_s, m0, if_pos (nI_le (Nat.le_refl n) (by omega))]
  rw [step1]
  rcases lrF_p R x n with ⟨h1, h2⟩ | ⟨ρ, h1, ⟨s0, h3, h4, h5⟩, h6⟩
  · obtain ⟨i, hi⟩ := ne0 h0
    rw [h2 i (bit_lt hx hi)] at hi; cases hi
  · have hρ : ρ < 8 := by rw [← h5]; exact hR s0 h3
    have key : ∀ N i, i ≤ fa_first (nxP A R x now ρ) n → n - i < N → fX12_nextOf_L60 F σ (nI x) (nI now) (nI ρ) (some ((-1) : Int32)) N (nI i) = if fa_first (nxP A R x now ρ) n < n then some (nI (fa_first (nxP A R x now ρ) n)) else some (-1) := by
      intro N
      induction N with
      | zero => intro i _ h; omega
      | succ N ih =>
        intro i hi hN
        have hle := fa_first_le (nxP A R x now ρ) n
        rw [fX12_nextOf_L60, nb_s, m0]
        rcases Nat.lt_or_ge i n with q | q
        · rw [if_neg (nI_ge q (by omega)), shr_b (by omega) (by omega)]
          unfold fX12_nextOf_J107
          rw [aI_n (by omega) (by decide), aI_n (by omega) (by decide), (ms i q).2.1, (ms i q).2.2, not_nI]
          have hAi := adj31 hn hA q
          rcases Nat.lt_or_ge i (fa_first (nxP A R x now ρ) n) with e | e
          · have hp := fa_first_no _ n i e
            have nx := ih (i + 1) (by omega) (by omega)
            rw [← nI_1] at nx
            cases hb : x.testBit i with
            | false => rw [if_pos (by decide)]; exact nx
            | true =>
              rw [if_neg (by decide)]
              by_cases hr : R i = ρ
              · rw [if_neg (fun z => z (by rw [hr]))]
                have ha : ¬ A i &&& (now ^^^ 4294967295) = 0 := by
                  intro z
                  unfold nxP at hp
                  rw [hb, decide_eq_true hr, decide_eq_true z] at hp
                  cases hp
                have hlt : A i &&& (now ^^^ 4294967295) < 2 ^ 31 := Nat.lt_of_le_of_lt Nat.and_le_left hAi
                rw [if_pos (nI_ne0 (Nat.pos_of_ne_zero ha) hlt)]
                exact nx
              · rw [if_pos (fun z => hr ((nI_eq (by have := hR i q; omega) (by omega)).mp z))]
                exact nx
          · have ei : fa_first (nxP A R x now ρ) n = i := by omega
            have hp := fa_first_yes _ n (by omega : fa_first (nxP A R x now ρ) n < n)
            rw [ei] at hp ⊢
            have hp2 := hp
            unfold nxP at hp2
            rw [Bool.and_eq_true_iff, Bool.and_eq_true_iff, decide_eq_true_iff, decide_eq_true_iff] at hp2
            rw [hp2.1, if_neg (by decide), hp2.2.1, if_neg (fun z => z rfl), hp2.2.2, if_neg (fun z => z (by decide)), if_pos q]
        · have ei : i = n := by omega
          rw [if_pos (nI_le q (by omega)), if_neg (by omega)]
    rw [h1]
    show fX12_nextOf_L60 F σ (nI x) (nI now) (nI ρ) (some ((-1) : Int32)) F (nI 0) = _
    rw [key F 0 (Nat.zero_le _) (by omega)]
    unfold nxR
    rw [h1]
    dsimp only
    split <;> rfl
theorem r_gl {F n : Nat} {A W R : Nat → Nat} {S : Nat} (hF : 20 ≤ F) (hD : DOK n A W R S) {w : Nat} (hw : w ≤ S) (kx : (Nat → Nat → Int32) → Option (Int32 × (Nat → Nat → Int32))) : ∀ m x now j N (σ : Nat → Nat → Int32), MS σ n A W R S → x < 2 ^ n → now < 2 ^ n → cd x ≤ m → j + cd x ≤ 10 → m < N → (glN n A R m x now = none ∧ ∃ σ' : Nat → Nat → Int32, fX12_canBeDay_L53 F (nI w) kx N (nI x) (nI j) (nI now) σ = some (0, σ') ∧ ∀ r, r ≠ 18 → σ' r = σ r) ∨ ∃ L, glN n A R m x now = some L ∧ ∃ σ' : Nat → Nat → Int32, fX12_canBeDay_L53 F (nI w) kx N (nI x) (nI j) (nI now) σ = kx σ' ∧ (∀ r, r ≠ 18 → σ' r = σ r) ∧ (∀ k, k < j → σ' 18 k = σ 18 k) ∧ ∀ k, k < L.length → σ' 18 (j + k) = nI (L.getD k 0) := by
  have hn := hD.1
  have hA := hD.2.1
  have hS := hD.2.2.2.2
  have h10 := pw10 hn
  intro m
  induction m with
  | zero =>
    intro x now j N σ hm hx hnow hc hj hN
    obtain ⟨M, rfl⟩ : ∃ M, N = M + 1 := ⟨N - 1, by omega⟩
    have e0 : x = 0 := cd0 (by omega) (by omega)
    subst e0
    refine Or.inr ⟨[], rfl, σ, ?_, fun _ _ => rfl, fun _ _ => rfl, fun k hk => absurd hk (Nat.not_lt_zero k)⟩
    rw [fX12_canBeDay_L53, nb_s, if_pos (by decide)]
  | succ m ih =>
    intro x now j N σ hm hx hnow hc hj hN
    obtain ⟨M, rfl⟩ : ∃ M, N = M + 1 := ⟨N - 1, by omega⟩
    by_cases q : x = 0
    · subst q
      refine Or.inr ⟨[], rfl, σ, ?_, fun _ _ => rfl, fun _ _ => rfl, fun k hk => absurd hk (Nat.not_lt_zero k)⟩
      rw [fX12_canBeDay_L53, nb_s, if_pos (by decide)]
    · have hcp := cd_pos hn hx q
      rw [fX12_canBeDay_L53, nb_s, if_neg (nI_ne0 (Nat.pos_of_ne_zero q) (by omega)), hm.2.1, if_neg (nI_nlt hw (by omega)), r_next hF hD hm hx q hnow, bd_s]
      have gs : glN n A R (m + 1) x now = match nxR n A R x now with
          | none => none
          | some s => (glN n A R m (clr x s) (now ||| 2 ^ s)).map (fun L => s :: L) := by
        conv => lhs; unfold glN
        rw [if_neg q]
        cases nxR n A R x now <;> rfl
      cases hs : nxR n A R x now with
      | none =>
        refine Or.inl ⟨by rw [gs, hs], σ, ?_, fun _ _ => rfl⟩
        rw [if_neg (by decide)]
      | some s =>
        obtain ⟨p1, p2, -, -⟩ := nxR_p hn hA hs
        have hcc := cd_clr10 hn hx p2
        have hps : 2 ^ s < 2 ^ n := Nat.pow_lt_pow_right (by omega) p1
        show (_ ∧ ∃ σ' : Nat → Nat → Int32, (if 0 ≤ nI s then _ else _) = _ ∧ _) ∨ _
        have e0 : (0 : Int32) ≤ eo (some s) := nI_pos' (by omega)
        have step : (if (0 : Int32) ≤ eo (some s) then (aS 10 (nI j) (nm (sg σ 18 (upd (σ 18) (nI j).toNatClampNeg (eo (some s)))) fun σ8 => nm (nI x &&& (((1 : Int32) <<< (eo (some s) &&& 31)) ^^^ ((-1) : Int32))) fun z9 => nm (nI now ||| ((1 : Int32) <<< (eo (some s) &&& 31))) fun z10 => (fun x4 x5 x6 σ => fX12_canBeDay_L53 F (nI w) kx M x4 x5 x6 σ) z9 (nI j + (1 : Int32)) z10 σ8)) else (some ((0 : Int32), σ))) = fX12_canBeDay_L53 F (nI w) kx M (nI (clr x s)) (nI (j + 1)) (nI (now ||| 2 ^ s)) (sg σ 18 (upd (σ 18) j (nI s))) := by
          rw [if_pos e0, aS_n (by omega) (by decide), nm_s, nI_clamp (by omega)]
          show nm (nI x &&& (((1 : Int32) <<< (nI s &&& 31)) ^^^ ((-1) : Int32))) _ = _
          rw [clr_nI (by omega), nm_s]
          show nm (nI now ||| ((1 : Int32) <<< (nI s &&& 31))) _ = _
          rw [sh1 (by omega), fa_or, nm_s, nI_1]
          rfl
        rw [gs, hs]
        dsimp only
        have hm' : MS (sg σ 18 (upd (σ 18) j (nI s))) n A W R S := hm
        rcases ih (clr x s) (now ||| 2 ^ s) (j + 1) M (sg σ 18 (upd (σ 18) j (nI s))) hm' (clr_lt2 hx) (or_lt2 hnow hps) (by omega) (by omega) (by omega) with ⟨g1, σ', g2, g3⟩ | ⟨L, g1, σ', g2, g3, g4, g5⟩
        · refine Or.inl ⟨by rw [g1]; rfl, σ', step.trans g2, fun r hr => (g3 r hr).trans (sg_ne hr _)⟩
        · refine Or.inr ⟨s :: L, by rw [g1]; rfl, σ', step.trans g2, fun r hr => (g3 r hr).trans (sg_ne hr _), fun k hk => ?_, fun k hk => ?_⟩
          · rw [g4 k (by omega), sg_at, pk_un (by omega)]
          · cases k with
            | zero => rw [Nat.add_zero, g4 j (by omega), sg_at, pk_us]; rfl
            | succ k =>
              have := g5 k (by rw [List.length_cons] at hk; omega)
              rw [show j + (k + 1) = j + 1 + k by omega, this]; rfl
theorem r_can {F n : Nat} {A W R : Nat → Nat} {S : Nat} (hF : 20 ≤ F) (hD : DOK n A W R S) {σ : Nat → Nat → Int32} (hm : MS σ n A W R S) {x D : Nat} (hx : x < 2 ^ n) (hDn : D < 2 ^ n) : ∃ σ' : Nat → Nat → Int32, fX12_canBeDay F σ (nI x) (nI D) = some (b2 (canN n A W R S x D), σ') ∧ (∀ r, r ≠ 18 → σ' r = σ r) ∧ (canN n A W R S x D = true → ∀ L, glN n A R 10 x D = some L → ∀ k, k < L.length → σ' 18 k = nI (L.getD k 0)) := by
  have hn := hD.1
  have hS := hD.2.2.2.2
  have h10 := pw10 hn
  have hsw : ∀ i, i ≤ n → fb_sm (fun s => if x.testBit s then W s else 0) i ≤ 256 * i := by
    intro i
    induction i with
    | zero => intro _; exact Nat.le_refl _
    | succ i ih =>
      intro hi
      have := ih (by omega)
      have hw := hD.2.2.1 i (by omega)
      rw [fb_sm_succ]
      split <;> omega
  unfold fX12_canBeDay
  have step1 : ∀ kx : Int32 → (Nat → Nat → Int32) → Option (Int32 × (Nat → Nat → Int32)), fX12_canBeDay_L5 F (nI x) (nI D) kx F (0 : Int32) (0 : Int32) σ = kx (nI (swN n W x)) σ := by
    intro kx
    refine lp_up (fun m (z : Int32 × Int32) => fX12_canBeDay_L5 F (nI x) (nI D) kx m z.1 z.2 σ) (fun i => (nI (fb_sm (fun s => if x.testBit s then W s else 0) i), nI i)) _ n (fun m i hi => ?_) (fun m => ?_) F 0 (Nat.zero_le _) (by omega)
    · show fX12_canBeDay_L5 F (nI x) (nI D) kx (m + 1) (nI (fb_sm (fun s => if x.testBit s then W s else 0) i)) (nI i) σ = fX12_canBeDay_L5 F (nI x) (nI D) kx m (nI (fb_sm (fun s => if x.testBit s then W s else 0) (i + 1))) (nI (i + 1)) σ
      rw [fX12_canBeDay_L5, nb_s, hm.1, if_neg (nI_ge hi (by omega)), shr_b (by omega) (by omega), fb_sm_succ _ i]
      unfold fX12_canBeDay_J36
      cases hb : x.testBit i with
      | false => rw [if_pos (by decide), if_neg (by decide), nI_1, Int32.add_zero]; rfl
      | true => rw [if_neg (by decide), if_pos rfl, aI_n (by omega) (by decide), (hm.2.2 i hi).1, nI_add, nI_1]
    · show fX12_canBeDay_L5 F (nI x) (nI D) kx (m + 1) (nI (fb_sm (fun s => if x.testBit s then W s else 0) n)) (nI n) σ = _
      rw [fX12_canBeDay_L5, nb_s, hm.1, if_pos (nI_le (Nat.le_refl n) (by omega))]
      rfl
  rw [step1]
  have hb := hsw n (Nat.le_refl n)
  have hb2 : swN n W x ≤ 2560 := by unfold swN; omega
  by_cases q : swN n W x ≤ S
  · have hcx := cd_le hn hx
    rcases r_gl hF hD q (fun σ3 => if (σ3 12 0) < nI (swN n W x) then (some ((0 : Int32), σ3)) else (some ((1 : Int32), σ3))) 10 x D 0 F σ hm hx hDn (by omega) (by omega) (by omega) with ⟨g1, σ', g2, g3⟩ | ⟨L, g1, σ', g2, g3, g4, g5⟩
    · refine ⟨σ', ?_, g3, fun h => ?_⟩
      · refine g2.trans ?_
        unfold canN
        rw [g1, decide_eq_true q]; rfl
      · obtain ⟨-, L, hL⟩ := can_p h
        rw [g1] at hL; cases hL
    · refine ⟨σ', ?_, g3, fun h L' hL' k hk => ?_⟩
      · refine g2.trans ?_
        unfold canN
        rw [g1, decide_eq_true q, g3 12 (by decide), hm.2.1, if_neg (nI_nlt q (by omega))]; rfl
      · rw [g1] at hL'
        cases hL'
        have := g5 k hk
        rw [Nat.zero_add] at this
        exact this
  · refine ⟨σ, ?_, fun _ _ => rfl, fun h => ?_⟩
    · obtain ⟨G, rfl⟩ : ∃ G, F = G + 1 := ⟨F - 1, by omega⟩
      have hlt : nI S < nI (swN n W x) := nI_lt (by omega) (by omega)
      have fin : (if σ 12 0 < nI (swN n W x) then some ((0 : Int32), σ) else some ((1 : Int32), σ)) = some (b2 (canN n A W R S x D), σ) := by
        unfold canN
        rw [hm.2.1, if_pos hlt, decide_eq_false q]; rfl
      rw [fX12_canBeDay_L53, nb_s, hm.2.1, if_pos hlt]
      rw [hm.2.1, if_pos hlt] at fin
      split
      · exact fin
      · exact fin
    · exact absurd (can_p h).1 q
