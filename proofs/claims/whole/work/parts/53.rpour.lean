/-! the reference's plan from the picture, and what is poured -/
def wgt (B : Nat → Nat → Bool) (s : Nat) : Nat := 4 * pcB (B s)
def rch (B : Nat → Nat → Bool) (s : Nat) : Nat := rcB (B s) 64
theorem dok_of {n : Nat} {K C T H : Nat → Nat} {B : Nat → Nat → Bool} {S : Nat} (hp : PicOK n K C T H) (hS : S ≤ 256) : DOK n (ahd H B) (wgt B) (rch B) S := by
  refine ⟨hp.1, fun s hs => ahd_lt hp hs, fun s hs => ?_, fun s hs => rcB_lt _ 64 (Nat.le_refl _), hS⟩
  have : pcB (B s) ≤ 64 := fb_ct_le _ _
  unfold wgt; omega
theorem Fw_all (n : Nat) (can : Nat → Nat → Bool) : FwN n can 0 (2 ^ n - 1) := ⟨rfl, fun j hj => absurd hj (Nat.not_lt_zero j)⟩
theorem r_plan {F n : Nat} {K C T H : Nat → Nat} {B : Nat → Nat → Bool} {S : Nat} {v : Nat → Nat → Int32} (hF : 1100 ≤ F) (hp : PicOK n K C T H) (hM : MVs v n K C T H B) (hS : S ≤ 256) (h12 : v 12 0 = nI S) (h13 : v 13 0 = 0) : ∃ v' : Nat → Nat → Int32, fX12_findPlan F v = some v' ∧ (∀ r, r < 13 ∨ 18 < r → v' r = v r) ∧ v' 13 0 = 1 ∧ MS v' n (ahd H B) (wgt B) (rch B) S ∧ (((∀ k, ¬ PkN n (canN n (ahd H B) (wgt B) (rch B) S) k 0) ∧ v' 16 0 = -1) ∨ ∃ L : List Nat, FwN n (canN n (ahd H B) (wgt B) (rch B) S) L.length 0 ∧ Chn n (canN n (ahd H B) (wgt B) (rch B) S) L.length 0 L ∧ v' 16 0 = nI L.length ∧ ∀ j, j < L.length → v' 17 j = nI (L.getD j 0)) := by
  have hD := dok_of (B := B) hp hS
  have hn := hp.1
  have h10 := pw10 hn
  have hp0 := Nat.two_pow_pos n
  unfold fX12_findPlan
  rw [h13, if_pos rfl, nm_s]
  have fill : ∀ kx : (Nat → Nat → Int32) → Option ((Nat → Nat → Int32)), fX12_findPlan_L15 F kx F (0 : Int32) (sg v 13 (fun _ => (1 : Int32))) = kx (sg (sg v 13 (fun _ => (1 : Int32))) 14 (fa_fill (fun s => nI (ahd H B s)) (v 14) n)) := by
    intro kx
    have start : sg v 13 (fun _ => (1 : Int32)) = sg (sg v 13 (fun _ => (1 : Int32))) 14 (fa_fill (fun s => nI (ahd H B s)) (v 14) 0) := by
      rw [fa_fill_0]; exact (sg_same (sg v 13 (fun _ => (1 : Int32))) 14).symm
    refine Eq.trans (congrArg (fX12_findPlan_L15 F kx F (0 : Int32)) start) ?_
    refine lp_up (fun m (z : Int32 × (Nat → Nat → Int32)) => fX12_findPlan_L15 F kx m z.1 z.2) (fun i => (nI i, sg (sg v 13 (fun _ => (1 : Int32))) 14 (fa_fill (fun s => nI (ahd H B s)) (v 14) i))) _ n (fun m i hi => ?_) (fun m => ?_) F 0 (Nat.zero_le _) (by omega)
    · show fX12_findPlan_L15 F kx (m + 1) (nI i) (sg (sg v 13 (fun _ => (1 : Int32))) 14 (fa_fill (fun s => nI (ahd H B s)) (v 14) i)) = fX12_findPlan_L15 F kx m (nI (i + 1)) (sg (sg v 13 (fun _ => (1 : Int32))) 14 (fa_fill (fun s => nI (ahd H B s)) (v 14) (i + 1)))
      have hM' : MVs (sg (sg v 13 (fun _ => (1 : Int32))) 14 (fa_fill (fun s => nI (ahd H B s)) (v 14) i)) n K C T H B := hM
      have e0 : sg (sg v 13 (fun _ => (1 : Int32))) 14 (fa_fill (fun s => nI (ahd H B s)) (v 14) i) 0 0 = nI n := hM.1
      rw [fX12_findPlan_L15, nb_s, e0, if_neg (nI_ge hi (by omega)), r_ahead hp hM' (by omega) hi, bd_s, aS_n (by omega) (by decide), nm_s, nI_clamp (by omega), nI_1, sg_sg, sg_at, ← fa_fill_succ]
    · show fX12_findPlan_L15 F kx (m + 1) (nI n) (sg (sg v 13 (fun _ => (1 : Int32))) 14 (fa_fill (fun s => nI (ahd H B s)) (v 14) n)) = _
      have e0 : sg (sg v 13 (fun _ => (1 : Int32))) 14 (fa_fill (fun s => nI (ahd H B s)) (v 14) n) 0 0 = nI n := hM.1
      rw [fX12_findPlan_L15, nb_s, e0, if_pos (nI_le (Nat.le_refl n) (by omega))]
  rw [fill]
  have w0 : sg (sg v 13 (fun _ => (1 : Int32))) 14 (fa_fill (fun s => nI (ahd H B s)) (v 14) n) 0 0 = nI n := hM.1
  have hms : MS (sg (sg v 13 (fun _ => (1 : Int32))) 14 (fa_fill (fun s => nI (ahd H B s)) (v 14) n)) n (ahd H B) (wgt B) (rch B) S := by
    refine ⟨hM.1, h12, fun s hs => ?_⟩
    obtain ⟨-, -, -, -, m9, m10, -⟩ := hM.2 s hs
    exact ⟨m9, m10, show fa_fill (fun s => nI (ahd H B s)) (v 14) n s = nI (ahd H B s) from fa_fill_in hs⟩
  have ez : ((1 : Int32) <<< (nI n &&& 31)) - (1 : Int32) = nI (2 ^ n - 1) := by
    rw [sh1 (by omega)]
    obtain ⟨y, hy⟩ : ∃ y, 2 ^ n = y + 1 := ⟨2 ^ n - 1, by omega⟩
    rw [hy, nI_pred]; rfl
  have hwr : ∀ r, r ≠ 13 → r ≠ 14 → sg (sg v 13 (fun _ => (1 : Int32))) 14 (fa_fill (fun s => nI (ahd H B s)) (v 14) n) r = v r := fun r h1 h2 => by rw [sg_ne h2, sg_ne h1]
  have hw13 : sg (sg v 13 (fun _ => (1 : Int32))) 14 (fa_fill (fun s => nI (ahd H B s)) (v 14) n) 13 0 = 1 := rfl
  generalize sg (sg v 13 (fun _ => (1 : Int32))) 14 (fa_fill (fun s => nI (ahd H B s)) (v 14) n) = w at w0 hms hwr hw13 ⊢
  show ∃ v' : Nat → Nat → Int32, (nm (((1 : Int32) <<< ((w 0 0) &&& 31)) - (1 : Int32)) fun z4 => aS 1024 z4 (nm (sg w 15 (upd (w 15) z4.toNatClampNeg (0 : Int32))) fun σ6 => fX12_findPlan_L60 F z4 (fun σ7 => aI (σ7 15) 1024 (0 : Int32) fun v8 => nm (sg σ7 16 (fun _ => v8)) fun σ9 => fX12_findPlan_L164 F z4 (fun σ10 => some σ10) F (0 : Int32) (0 : Int32) σ9) F (z4 - (1 : Int32)) σ6)) = some v' ∧ _
  rw [w0, ez, nm_s, aS_n (by omega) (by decide), nm_s, nI_clamp (by omega), pmI_b]
  have hms' : MS (sg w 15 (upd (w 15) (2 ^ n - 1) 0)) n (ahd H B) (wgt B) (rch B) S := hms
  obtain ⟨σ7, g1, g2, g3⟩ := r_L60 hF hD (fun σ7 => aI (σ7 15) 1024 (0 : Int32) fun v8 => nm (sg σ7 16 (fun _ => v8)) fun σ9 => fX12_findPlan_L164 F (nI (2 ^ n - 1)) (fun σ10 => some σ10) F (0 : Int32) (0 : Int32) σ9) (2 ^ n - 1) F (sg w 15 (upd (w 15) (2 ^ n - 1) 0)) (Nat.le_refl _) hms' (fun E h1 h2 => by
    have e : E = 2 ^ n - 1 := by omega
    rw [e]
    exact Or.inl ⟨0, Fw_all n _, pk_us⟩) (by omega)
  rw [g1]
  have a0 : ∀ {α : Type} (f : Nat → Int32) (k : Int32 → Option α), aI f 1024 (0 : Int32) k = k (f 0) := fun f k => aI_n (i := 0) (by decide) (by decide)
  show ∃ v' : Nat → Nat → Int32, (aI (σ7 15) 1024 (0 : Int32) fun v8 => nm (sg σ7 16 (fun _ => v8)) fun σ9 => fX12_findPlan_L164 F (nI (2 ^ n - 1)) (fun σ10 => some σ10) F (0 : Int32) (0 : Int32) σ9) = some v' ∧ _
  rw [a0, nm_s]
  have hms7 : MS σ7 n (ahd H B) (wgt B) (rch B) S := MS_to hms (g2 0 (by decide) (by decide)) (g2 12 (by decide) (by decide)) (g2 9 (by decide) (by decide)) (g2 10 (by decide) (by decide)) (g2 14 (by decide) (by decide))
  have h7 : ∀ r, r < 13 ∨ 18 < r → σ7 r = v r := fun r hr => by
    rw [g2 r (by omega) (by omega), sg_ne (by omega), hwr r (by omega) (by omega)]
  have h713 : σ7 13 0 = 1 := by rw [g2 13 (by decide) (by decide)]; exact hw13
  rcases g3 0 hp0 with ⟨k, hk, ek⟩ | ⟨hk, ek⟩
  · have hk10 := Pk_len hn k 0 hp0 hk.1
    rw [ek]
    have hms9 : MS (sg σ7 16 (fun _ => nI k)) n (ahd H B) (wgt B) (rch B) S := hms7
    obtain ⟨L, σ', e1, e2, e3, e4, e5⟩ := r_L164 (K := k) hF hD (by omega) (fun σ10 => some σ10) k 0 0 F (sg σ7 16 (fun _ => nI k)) hk hp0 hms9 (fun E hE => g3 E hE) rfl (Nat.zero_add k) (by omega)
    have hL := Chn_len _ _ _ e2
    refine ⟨σ', e1, fun r hr => ?_, ?_, ?_, Or.inr ⟨L, by rw [hL]; exact hk, by rw [hL]; exact e2, ?_, fun j hj => ?_⟩⟩
    · rw [e3 r (by omega) (by omega), sg_ne (by omega)]; exact h7 r hr
    · rw [e3 13 (by decide) (by decide)]; exact h713
    · exact MS_to hms9 (e3 0 (by decide) (by decide)) (e3 12 (by decide) (by decide)) (e3 9 (by decide) (by decide)) (e3 10 (by decide) (by decide)) (e3 14 (by decide) (by decide))
    · rw [e3 16 (by decide) (by decide), hL]; rfl
    · have := e5 j hj
      rw [Nat.zero_add] at this; exact this
  · rw [ek]
    refine ⟨sg σ7 16 (fun _ => -1), ?_, fun r hr => ?_, h713, hms7, Or.inl ⟨hk, rfl⟩⟩
    · obtain ⟨G, rfl⟩ : ∃ G, F = G + 1 := ⟨F - 1, by omega⟩
      rw [fX12_findPlan_L164, nb_s]
      exact if_pos (show ((-1) : Int32) ≤ 0 by decide)
    · rw [sg_ne (by omega)]; exact h7 r hr
def OLN (n : Nat) (A R : Nat → Nat) : Nat → List Nat → List Nat
  | _, [] => []
  | D, z :: L => (glN n A R 10 z D).getD [] ++ OLN n A R (D ||| z) L
theorem pick_gl {n : Nat} {A W R : Nat → Nat} {S D k z : Nat} (hD : DOK n A W R S) (h : IsPick n (canN n A W R S) D k z) : z < 2 ^ n ∧ disj z D ∧ ∃ L, glN n A R 10 z D = some L ∧ L.length = cd z := by
  have hzl := (sub_lf hD.1).mp h.2.1
  obtain ⟨-, L, hL⟩ := can_p h.2.2.1
  exact ⟨hzl.1, hzl.2, L, hL, (gl_inv hD.1 hD.2.1 10 z D L hL hzl.1 hzl.2).2.2.1⟩
theorem OLN_len {n : Nat} {A W R : Nat → Nat} {S : Nat} (hD : DOK n A W R S) : ∀ k D L, Chn n (canN n A W R S) k D L → FwN n (canN n A W R S) k D → D < 2 ^ n → (OLN n A R D L).length + cd D = n := by
  intro k
  induction k with
  | zero =>
    intro D L h1 h2 hDn
    rw [show L = [] from h1]
    have e : D = 2 ^ n - 1 := h2.1
    rw [e, cd_all hD.1]
    exact Nat.zero_add n
  | succ k ih =>
    intro D L h1 h2 hDn
    obtain ⟨z, L', rfl, p, c⟩ := h1
    obtain ⟨hz, hdj, G, hG, hGl⟩ := pick_gl hD p
    have e := ih (D ||| z) L' c p.2.2.2.1 (or_lt2 hDn hz)
    rw [cd_or (fun i hi => hdj i hi)] at e
    unfold OLN
    rw [hG, List.length_append]
    show G.length + _ + _ = n
    omega
theorem sub_I {p a : Nat} (h : a ≤ p) : nI p - nI a = nI (p - a) := by
  obtain ⟨d, rfl⟩ : ∃ d, p = d + a := ⟨p - a, by omega⟩
  rw [← nI_add, Int32.add_sub_cancel, Nat.add_sub_cancel]
theorem getD_l {L M : List Nat} {k : Nat} (h : k < L.length) : (L ++ M).getD k 0 = L.getD k 0 := by
  rw [List.getD_eq_getElem?_getD, List.getD_eq_getElem?_getD, List.getElem?_append_left h]
theorem getD_r {L M : List Nat} {k : Nat} (h : L.length ≤ k) : (L ++ M).getD k 0 = M.getD (k - L.length) 0 := by
  rw [List.getD_eq_getElem?_getD, List.getD_eq_getElem?_getD, List.getElem?_append_right h]
theorem r_pour {F n : Nat} {A W R : Nat → Nat} {S : Nat} (hF : 40 ≤ F) (hD : DOK n A W R S) {p : Nat} (hp : p < 2 ^ 31) (kx : (Nat → Nat → Int32) → Option (Int32 × (Nat → Nat → Int32))) : ∀ (L : List Nat) D i N (σ : Nat → Nat → Int32), Chn n (canN n A W R S) L.length D L → D < 2 ^ n → MS σ n A W R S → σ 16 0 = nI (i + L.length) → (∀ j, j < L.length → σ 17 (i + j) = nI (L.getD j 0)) → i + L.length ≤ 10 → cd D ≤ p → L.length < N → ∃ σ' : Nat → Nat → Int32, (∀ r, r ≠ 18 → σ' r = σ r) ∧ fX12_poured_L27 F (nI p) kx N (nI D) (nI (cd D)) (nI i) σ = (if p - cd D < (OLN n A R D L).length then some (nI ((OLN n A R D L).getD (p - cd D) 0), σ') else kx σ') := by
  have hn := hD.1
  have h10 := pw10 hn
  intro L
  induction L with
  | nil =>
    intro D i N σ _ hDn hm h16 h17 hi hcp hN
    obtain ⟨M, rfl⟩ : ∃ M, N = M + 1 := ⟨N - 1, by omega⟩
    refine ⟨σ, fun _ _ => rfl, ?_⟩
    have hi' : i ≤ 10 := hi
    rw [fX12_poured_L27, nb_s, h16, if_pos (show nI (i + ([] : List Nat).length) ≤ nI i from nI_le (a := i + ([] : List Nat).length) (Nat.le_refl i) (by omega))]
    exact (if_neg (Nat.not_lt_zero _)).symm
  | cons z L ih =>
    intro D i N σ hch hDn hm h16 h17 hi hcp hN
    rw [List.length_cons] at hch h16 hi hN
    obtain ⟨M, rfl⟩ : ∃ M, N = M + 1 := ⟨N - 1, by omega⟩
    obtain ⟨z', L', e, pk, ch⟩ := hch
    cases e
    obtain ⟨hz, hdj, G, hG, hGl⟩ := pick_gl hD pk
    have hcz := cd_le hn hz
    have hcD := cd_le hn hDn
    have hz17 : σ 17 i = nI z := by
      have := h17 0 (by rw [List.length_cons]; omega)
      rw [Nat.add_zero] at this
      exact this
    obtain ⟨σ1, c1, c2, c3⟩ := r_can (by omega : 20 ≤ F) hD hm hz hDn
    have hcor := cd_or (x := D) (y := z) (fun i hi => hdj i hi)
    rw [fX12_poured_L27, nb_s, h16, if_neg (nI_ge (by omega) (by omega)), aI_n (by omega) (by decide), hz17, r_ones hF (by omega), bd_s, aI_n (by omega) (by decide), hz17, c1, bd_s, pk.2.2.1]
    have hOL : OLN n A R D (z :: L) = G ++ OLN n A R (D ||| z) L := by
      conv => lhs; unfold OLN
      rw [hG]; rfl
    have e1 : nI (cd D) + nI (popF 30 z) = nI (cd (D ||| z)) := by rw [nI_add, hcor]; rfl
    show ∃ σ' : Nat → Nat → Int32, _ ∧ (if b2 true = 0 then (fX12_poured_J80 F (fun x2 x3 x4 σ => fX12_poured_L27 F (nI p) kx M x2 x3 x4 σ) (nI p) (nI D) (nI (cd D)) (nI i) (nI (popF 30 z)) σ1) else (if (nI (cd D) + nI (popF 30 z)) ≤ nI p then (fX12_poured_J80 F (fun x2 x3 x4 σ => fX12_poured_L27 F (nI p) kx M x2 x3 x4 σ) (nI p) (nI D) (nI (cd D)) (nI i) (nI (popF 30 z)) σ1) else (aI (σ1 18) 10 (nI p - nI (cd D)) fun v13 => some (v13, σ1)))) = _
    rw [if_neg (by decide), e1]
    by_cases q : cd (D ||| z) ≤ p
    · rw [if_pos (nI_le q hp)]
      unfold fX12_poured_J80
      rw [aI_n (by omega) (by decide), c2 17 (by decide), hz17, fa_or, e1, nI_1]
      obtain ⟨σ', d1, d2⟩ := ih (D ||| z) (i + 1) M σ1 ch (or_lt2 hDn hz) (MS18 hm c2) (by rw [c2 16 (by decide), h16, show i + (L.length + 1) = i + 1 + L.length by omega]) (fun j hj => by
        rw [c2 17 (by decide), show i + 1 + j = i + (j + 1) by omega, h17 (j + 1) (by rw [List.length_cons]; omega)]; rfl) (by omega) q (by omega)
      refine ⟨σ', fun r hr => (d1 r hr).trans (c2 r hr), ?_⟩
      refine Eq.trans d2 ?_
      rw [hOL, List.length_append]
      by_cases q2 : p - cd (D ||| z) < (OLN n A R (D ||| z) L).length
      · rw [if_pos q2, if_pos (by omega), getD_r (by omega), show p - cd D - G.length = p - cd (D ||| z) by omega]
      · rw [if_neg q2, if_neg (by omega)]
    · rw [if_neg (nI_ge (by omega) (by omega)), sub_I hcp, aI_n (by omega) (by decide), c3 pk.2.2.1 G hG (p - cd D) (by omega)]
      refine ⟨σ1, c2, ?_⟩
      rw [hOL, List.length_append, if_pos (by omega), getD_l (by omega)]
