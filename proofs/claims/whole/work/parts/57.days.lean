/-! days, day, poured -/
theorem clo_0 {n : Nat} {A : Nat → Nat} : clo n A 0 := fun s _ h => by rw [Nat.zero_testBit] at h; cases h
theorem c_plan {sh : Nat → Option Nat} {Z : ZT} {F n : Nat} {K C T H : Nat → Nat} {B : Nat → Nat → Bool} {S : Nat} {σ : Nat → Nat → Int32} (hF : 1100 ≤ F) (hp : PicOK n K C T H) (hC : CVs σ sh Z n K C T H B) (hS : S ≤ 256) (h34 : σ 34 0 = nI S) (h35 : σ 35 0 = 0) : ∃ σ' : Nat → Nat → Int32, fX10_plan F sh Z σ = some σ' ∧ (∀ r, (r < 5 ∨ 13 < r) → (r < 35 ∨ 38 < r) → σ' r = σ r) ∧ σ' 35 0 = 1 ∧ σ' 38 0 = nI n ∧ (((∀ k, ¬ PkN n (canN n (ahd H B) (wgt B) (rch B) S) k 0) ∧ σ' 37 0 = -4) ∨ ∃ L : List Nat, FwN n (canN n (ahd H B) (wgt B) (rch B) S) L.length 0 ∧ Chn n (canN n (ahd H B) (wgt B) (rch B) S) L.length 0 L ∧ σ' 37 0 = nI L.length ∧ (∀ j, j < L.length → σ' 12 j = nI (L.getD j 0)) ∧ ∀ p, p < n → σ' 13 p = nI ((OLN n (ahd H B) (rch B) 0 L).getD p 0)) := by
  have hD := dok_of (B := B) hp hS
  have hn := hp.1
  have h10 := pw10 hn
  have hp0 := Nat.two_pow_pos n
  unfold fX10_plan
  rw [h35, if_pos rfl, nm_s, nm_s]
  have hC3 : CVs (sg (sg σ 35 (fun _ => (1 : Int32))) 37 (fun _ => ((-4) : Int32))) sh Z n K C T H B := hC
  obtain ⟨σ5, r1, r2, hc5⟩ := c_read (F := F) (S := S) (by omega) hp hC3 h34
  have off5 : ∀ r, (r < 5 ∨ 13 < r) → (r < 35 ∨ 38 < r) → σ5 r = σ r := fun r h1 h2 => by
    rw [r2 r (by omega) (by omega) (by omega) (by omega) (by omega), sg_ne (by omega), sg_ne (by omega)]
  have e535 : σ5 35 0 = 1 := by rw [r2 35 (by decide) (by decide) (by decide) (by decide) (by decide)]; rfl
  have e537 : σ5 37 0 = -4 := by rw [r2 37 (by decide) (by decide) (by decide) (by decide) (by decide)]; rfl
  rw [r1, bd_s]
  rcases c_large (F := F) (sh := sh) (Z := Z) (by omega) hD hc5 with ⟨l1, s, hs, hW⟩ | ⟨l1, hW⟩
  · rw [l1, bd_s, if_pos (by decide)]
    exact ⟨σ5, rfl, off5, e535, hc5.1, Or.inl ⟨fun k => Pk_big hs hW k 0 (Nat.zero_testBit s), e537⟩⟩
  · rw [l1, bd_s, if_neg (fun z => z rfl), c_round (F := F) (sh := sh) (Z := Z) (by omega) hD hc5, bd_s]
    by_cases q : gO n (ahd H B) n = 0
    · have hac := gO_acy (ahd H B) hn q
      rw [decide_eq_false (fun z => z q), if_pos (by decide)]
      obtain ⟨σ11, s1, s2, s3⟩ := c_separate (F := F) (sh := sh) (Z := Z) (by omega) hD hc5
      have hc11 := CS8 hc5 s2
      obtain ⟨σ13, w1, w2, w3⟩ := c_weigh (F := F) (sh := sh) (Z := Z) hF hD hc11 s3
      have hc13 := CS910 hc11 w2
      rw [s1, bd_s, w1, bd_s, hc13.2.1]
      obtain ⟨σ14, f1, f2, f3⟩ := c_L52 (F := F) (sh := sh) (Z := Z) hF hD hac hW (fun σ14 => aI (σ14 11) 1024 (0 : Int32) fun v15 => nm (sg σ14 37 (fun _ => v15)) fun σ16 => bd (fX10_chooseDays F sh Z σ16) fun σ18 => bd (fX10_orderShapes F sh Z σ18) fun σ20 => some σ20) (2 ^ n) F σ13 (Nat.le_refl _) hc13 w3 (fun E h1 h2 => by omega) (by omega)
      have epm : pmI (2 ^ n) = nI (2 ^ n - 1) := by
        obtain ⟨y, hy⟩ : ∃ y, 2 ^ n = y + 1 := ⟨2 ^ n - 1, by omega⟩
        rw [hy]; rfl
      rw [epm] at f1
      rw [f1]
      have hc14 := CS_r hc13 (Or.inl rfl) f2
      have a0 : ∀ {α : Type} (f : Nat → Int32) (k : Int32 → Option α), aI f 1024 (0 : Int32) k = k (f 0) := fun f k => aI_n (i := 0) (by decide) (by decide)
      obtain ⟨k, hk, ek⟩ := (f3 0 hp0).1 clo_0
      have hk10 := Pk_len hn k 0 hp0 hk.1
      show ∃ σ' : Nat → Nat → Int32, (aI (σ14 11) 1024 (0 : Int32) fun v15 => nm (sg σ14 37 (fun _ => v15)) fun σ16 => bd (fX10_chooseDays F sh Z σ16) fun σ18 => bd (fX10_orderShapes F sh Z σ18) fun σ20 => some σ20) = some σ' ∧ _
      rw [a0, ek, nm_s]
      have hc16 : CS (sg σ14 37 (fun _ => nI k)) n (ahd H B) (wgt B) (rch B) S := hc14
      have h10' : ∀ y, y < 2 ^ n → LVp n (ahd H B) (wgt B) (rch B) y (sg σ14 37 (fun _ => nI k) 10 y) := fun y hy => by
        show LVp n (ahd H B) (wgt B) (rch B) y (σ14 10 y)
        rw [f2 10 (by decide)]; exact (w3 y hy).2
      obtain ⟨L, σ18, c1, c2, c3, -, c5⟩ := c_choose (F := F) (sh := sh) (Z := Z) (K := k) hF hD hac (by omega) (fun σ1 => some σ1) k 0 0 F (sg σ14 37 (fun _ => nI k)) hk hp0 clo_0 hc16 h10' (fun E hE => f3 E hE) rfl (Nat.zero_add k) (by omega)
      have hLk := Chn_len _ _ _ c2
      have c1' : fX10_chooseDays F sh Z (sg σ14 37 (fun _ => nI k)) = some σ18 := c1
      have hc18 := CS_r hc16 (Or.inr (Or.inl rfl)) c3
      have e1837 : σ18 37 0 = nI k := by rw [c3 37 (by decide)]; rfl
      obtain ⟨σ20, d1, d2, -, d4⟩ := c_order (F := F) (sh := sh) (Z := Z) (by omega) hD hac (fun σ1 => some σ1) L 0 0 F σ18 (by rw [hLk]; exact c2) hp0 clo_0 hc18 (by rw [Nat.zero_add, hLk]; exact e1837) c5 (by rw [Nat.zero_add, hLk]; omega) (by omega)
      have d1' : fX10_orderShapes F sh Z σ18 = some σ20 := d1
      rw [c1', bd_s, d1', bd_s]
      have cd00 : cd 0 = 0 := by decide
      have hOl := OLN_len hD k 0 L c2 hk hp0
      rw [cd00, Nat.add_zero] at hOl
      refine ⟨σ20, rfl, fun r h1 h2 => ?_, ?_, ?_, Or.inr ⟨L, by rw [hLk]; exact hk, by rw [hLk]; exact c2, ?_, fun j hj => ?_, fun p hpn => ?_⟩⟩
      · rw [d2 r (by omega), c3 r (by omega), sg_ne (by omega), f2 r (by omega), w2 r (by omega) (by omega), s2 r (by omega)]
        exact off5 r h1 h2
      · rw [d2 35 (by decide), c3 35 (by decide), sg_ne (by decide), f2 35 (by decide), w2 35 (by decide) (by decide), s2 35 (by decide)]
        exact e535
      · rw [d2 38 (by decide)]; exact hc18.1
      · rw [d2 37 (by decide), hLk]; exact e1837
      · have := c5 j hj
        rw [Nat.zero_add] at this
        rw [d2 12 (by decide)]; exact this
      · have := d4 p (by omega)
        rw [cd00, Nat.zero_add] at this
        exact this
    · rw [decide_eq_true q, if_neg (by decide)]
      obtain ⟨Y, y1, y2, y3⟩ := gO_cyc (ahd H B) hn q
      exact ⟨σ5, rfl, off5, e535, hc5.1, Or.inl ⟨fun k => Pk_no hn hD.2.1 y1 y2 y3 k 0 hp0 (fun i hi => by rw [Nat.zero_testBit] at hi; cases hi), e537⟩⟩
def PP0 : PPT := fun n H B S d0 c0 ds od ah md mp => c0 = nI n ∧ (∀ s, s < n → ah s = nI (ahd H B s)) ∧ ((d0 = -4 ∧ md = -1) ∨ ∃ L : List Nat, FwN n (canN n (ahd H B) (wgt B) (rch B) S) L.length 0 ∧ Chn n (canN n (ahd H B) (wgt B) (rch B) S) L.length 0 L ∧ d0 = nI L.length ∧ md = nI L.length ∧ (∀ j, j < L.length → ds j = nI (L.getD j 0) ∧ mp j = nI (L.getD j 0)) ∧ ∀ p, p < n → od p = nI ((OLN n (ahd H B) (rch B) 0 L).getD p 0))
def blendC (τ σ : Nat → Nat → Int32) : Nat → Nat → Int32 := fun j => cond ((Nat.ble 5 j && Nat.ble j 13) || (Nat.ble 35 j && Nat.ble j 38)) (τ j) (σ j)
def blendM (τ σ : Nat → Nat → Int32) : Nat → Nat → Int32 := fun j => cond (Nat.ble 13 j && Nat.ble j 18) (τ j) (σ j)
theorem ble_f {a b : Nat} (h : ¬ a ≤ b) : Nat.ble a b = false := by
  cases q : Nat.ble a b with
  | false => rfl
  | true => exact absurd (Nat.le_of_ble_eq_true q) h
theorem blendC_eq {τ σ : Nat → Nat → Int32} (h : ∀ r, (r < 5 ∨ 13 < r) → (r < 35 ∨ 38 < r) → τ r = σ r) : τ = blendC τ σ := by
  funext j
  unfold blendC
  cases q : ((Nat.ble 5 j && Nat.ble j 13) || (Nat.ble 35 j && Nat.ble j 38)) with
  | true => rfl
  | false =>
    rw [Bool.or_eq_false_iff, Bool.and_eq_false_iff, Bool.and_eq_false_iff] at q
    have n1 : ∀ a b, Nat.ble a b = false → b < a := fun a b h => by
      rcases Nat.lt_or_ge b a with z | z
      · exact z
      · rw [Nat.ble_eq_true_of_le z] at h; cases h
    refine h j ?_ ?_
    · rcases q.1 with z | z
      · exact Or.inl (n1 _ _ z)
      · exact Or.inr (n1 _ _ z)
    · rcases q.2 with z | z
      · exact Or.inl (n1 _ _ z)
      · exact Or.inr (n1 _ _ z)
theorem blendM_eq {τ σ : Nat → Nat → Int32} (h : ∀ r, r < 13 ∨ 18 < r → τ r = σ r) : τ = blendM τ σ := by
  funext j
  unfold blendM
  cases q : (Nat.ble 13 j && Nat.ble j 18) with
  | true => rfl
  | false =>
    rw [Bool.and_eq_false_iff] at q
    have n1 : ∀ a b, Nat.ble a b = false → b < a := fun a b h => by
      rcases Nat.lt_or_ge b a with z | z
      · exact z
      · rw [Nat.ble_eq_true_of_le z] at h; cases h
    refine h j ?_
    rcases q with z | z
    · exact Or.inl (n1 _ _ z)
    · exact Or.inr (n1 _ _ z)
section DAYS
variable {WP : WPT}
theorem plan_gen {u : SS} {v : Nat → Nat → Int32} (hR : Rel PP0 WP u v) : ∃ (σ' v' : Nat → Nat → Int32) (n : Nat) (K C T H : Nat → Nat) (B : Nat → Nat → Bool) (S : Nat), fX10_plan 2000 u.2.1 u.2.2.2 u.1 = some σ' ∧ fX12_findPlan 2000 v = some v' ∧ RelD PP0 WP σ' u.2.1 u.2.2.1 u.2.2.2 v' n K C T H B S ∧ PP0 n H B S (σ' 37 0) (σ' 38 0) (σ' 12) (σ' 13) (v' 14) (v' 16 0) (v' 17) := by
  obtain ⟨n, K, C, T, H, B, S, hOK, hP, hC, hM, hS, hPl, hRest⟩ := id hR
  rcases hPl with ⟨k0, m0⟩ | ⟨k1, m1, hpp⟩
  · obtain ⟨σ', c1, c2, c3, c4, c5⟩ := c_plan (F := 2000) (by decide) hP hC hS.2.1 hS.2.2.1 k0
    obtain ⟨v', r1, r2, r3, r4, r5⟩ := r_plan (F := 2000) (by decide) hP hM hS.2.1 hS.2.2.2 m0
    have hpp : PP0 n H B S (σ' 37 0) (σ' 38 0) (σ' 12) (σ' 13) (v' 14) (v' 16 0) (v' 17) := by
      refine ⟨c4, fun s hs => (r4.2.2 s hs).2.2, ?_⟩
      rcases c5 with ⟨g1, g2⟩ | ⟨L, g1, g2, g3, g4, g5⟩
      · rcases r5 with ⟨-, e2⟩ | ⟨L', e1, -⟩
        · exact Or.inl ⟨g2, e2⟩
        · exact absurd e1.1 (g1 _)
      · rcases r5 with ⟨e1, -⟩ | ⟨L', e1, e2, e3, e4⟩
        · exact absurd g1.1 (e1 _)
        · have hl := Fw_one g1 e1
          rw [← hl] at e2
          have he := Chn_one _ _ _ _ g2 e2
          subst he
          exact Or.inr ⟨L, g1, g2, g3, e3, fun j hj => ⟨g4 j hj, e4 j hj⟩, g5⟩
    obtain ⟨τ, rfl⟩ : ∃ τ, σ' = blendC τ u.1 := ⟨σ', blendC_eq c2⟩
    obtain ⟨ω, rfl⟩ : ∃ ω, v' = blendM ω v := ⟨v', blendM_eq r2⟩
    exact ⟨_, _, n, K, C, T, H, B, S, c1, r1, ⟨hOK, hP, hC, hM, hS, Or.inr ⟨c3, r3, hpp⟩, hRest⟩, hpp⟩
  · refine ⟨u.1, v, n, K, C, T, H, B, S, ?_, ?_, ⟨hOK, hP, hC, hM, hS, Or.inr ⟨k1, m1, hpp⟩, hRest⟩, hpp⟩
    · unfold fX10_plan; rw [k1, if_neg (by decide)]
    · unfold fX12_findPlan; rw [m1, if_neg (by decide)]
theorem pos_nI {x : Int32} (h : 0 ≤ x) : ∃ p, p < 2 ^ 31 ∧ x = nI p := by
  have h1 := (fa_le _ _).mp h
  have k0 : (0 : Int32).toInt = 0 := by decide
  rw [k0] at h1
  have h2 := Int32.toInt_lt x
  refine ⟨x.toInt.toNat, by omega, (fa_eq _ _).mpr ?_⟩
  rw [nI_toInt (by omega)]; omega
theorem n4_of {k : Nat} (h : k ≤ 10) : ¬ nI k = ((-4) : Int32) := fun z => by
  have := (fa_eq _ _).mp z
  rw [nI_toInt (by omega)] at this
  have e4 : ((-4) : Int32).toInt = -4 := by decide
  rw [e4] at this; omega
theorem t_days : st_days (Rel PP0 WP) := by
  intro u v hR
  obtain ⟨σ', v', n, K, C, T, H, B, S, p1, p2, hD, -, -, hpp⟩ := plan_gen hR
  have hn := hD.2.1.1
  have hp0 := Nat.two_pow_pos n
  have hRel : Rel PP0 WP (σ', u.2.1, u.2.2.1, u.2.2.2) v' := ⟨n, K, C, T, H, B, S, hD⟩
  refine ⟨2000, σ' 37 0, σ', v', ?_, ?_, hRel⟩
  · unfold fX11_days fX10_daysOfPlan; rw [p1]; rfl
  · unfold fX12_days
    rw [p2, bd_s]
    rcases hpp with ⟨h1, h2⟩ | ⟨L, g1, g2, g3, g4, g5, g6⟩
    · rw [h1, h2]; rfl
    · have hk := Pk_len hn _ 0 hp0 g1.1
      rw [g3, g4, if_pos (nI_pos' (by omega))]
theorem t_day : st_day (Rel PP0 WP) := by
  intro u v x1 hR
  by_cases hx : 0 ≤ x1
  · obtain ⟨σ', v', n, K, C, T, H, B, S, p1, p2, hD, -, -, hpp⟩ := plan_gen hR
    have hn := hD.2.1.1
    have hp0 := Nat.two_pow_pos n
    have hRel : Rel PP0 WP (σ', u.2.1, u.2.2.1, u.2.2.2) v' := ⟨n, K, C, T, H, B, S, hD⟩
    obtain ⟨p, hp, rfl⟩ := pos_nI hx
    rcases hpp with ⟨h1, h2⟩ | ⟨L, g1, g2, g3, g4, g5, g6⟩
    · refine ⟨2000, -4, σ', v', ?_, ?_, hRel⟩
      · unfold fX11_day fX10_shapesOfDay; rw [if_pos hx, p1, bd_s, h1]; rfl
      · unfold fX12_day; rw [if_pos hx, p2, bd_s, h2]; rfl
    · have hk := Pk_len hn _ 0 hp0 g1.1
      by_cases q : L.length ≤ p
      · refine ⟨2000, -1, σ', v', ?_, ?_, hRel⟩
        · unfold fX11_day fX10_shapesOfDay; rw [if_pos hx, p1, bd_s, g3, if_pos (n4_of (by omega)), if_pos (nI_le q hp)]; rfl
        · unfold fX12_day; rw [if_pos hx, p2, bd_s, g4, if_pos (nI_pos' (by omega)), if_pos (nI_le q hp)]
      · refine ⟨2000, nI (L.getD p 0), σ', v', ?_, ?_, hRel⟩
        · unfold fX11_day fX10_shapesOfDay; rw [if_pos hx, p1, bd_s, g3, if_pos (n4_of (by omega)), if_neg (nI_ge (by omega) (by omega)), aI_n (by omega) (by decide), (g5 p (by omega)).1]; rfl
        · unfold fX12_day; rw [if_pos hx, p2, bd_s, g4, if_pos (nI_pos' (by omega)), if_neg (nI_ge (by omega) (by omega)), aI_n (by omega) (by decide), (g5 p (by omega)).2]
  · refine ⟨0, -1, u.1, v, ?_, ?_, hR⟩
    · unfold fX11_day; rw [if_neg hx]
    · unfold fX12_day; rw [if_neg hx]
theorem t_poured : st_poured (Rel PP0 WP) := by
  intro u v x1 hR
  by_cases hx : 0 ≤ x1
  · obtain ⟨σ', v', n, K, C, T, H, B, S, p1, p2, hD, hc0, hah, hpp⟩ := plan_gen hR
    have hn := hD.2.1.1
    have hp0 := Nat.two_pow_pos n
    have hRel : Rel PP0 WP (σ', u.2.1, u.2.2.1, u.2.2.2) v' := ⟨n, K, C, T, H, B, S, hD⟩
    obtain ⟨p, hp, rfl⟩ := pos_nI hx
    rcases hpp with ⟨h1, h2⟩ | ⟨L, g1, g2, g3, g4, g5, g6⟩
    · refine ⟨2000, -4, σ', v', ?_, ?_, hRel⟩
      · unfold fX11_poured fX10_shapeAt; rw [if_pos hx, p1, bd_s, h1]; rfl
      · unfold fX12_poured; rw [if_pos hx, p2, bd_s, h2]; rfl
    · obtain ⟨hOK, hP, hC, hM, hS, hPl, hRest⟩ := id hD
      have hk := Pk_len hn _ 0 hp0 g1.1
      have hdok := dok_of (B := B) hP hS.2.1
      have hms : MS v' n (ahd H B) (wgt B) (rch B) S := by
        refine ⟨hM.1, hS.2.2.2, fun s hs => ?_⟩
        obtain ⟨-, -, -, -, m9, m10, -⟩ := hM.2 s hs
        exact ⟨m9, m10, hah s hs⟩
      have cd00 : cd 0 = 0 := by decide
      have hOl := OLN_len hdok _ 0 L g2 g1 hp0
      rw [cd00, Nat.add_zero] at hOl
      obtain ⟨v2, d1, d2⟩ := r_pour (F := 2000) (by decide) hdok hp (fun σ5 => some (((-1) : Int32), σ5)) L 0 0 2000 v' g2 hp0 hms (by rw [Nat.zero_add]; exact g4) (fun j hj => by rw [Nat.zero_add]; exact (g5 j hj).2) (by omega) (by rw [cd00]; omega) (by omega)
      rw [cd00, Nat.sub_zero, hOl] at d2
      have hRel2 : Rel PP0 WP (σ', u.2.1, u.2.2.1, u.2.2.2) v2 := by
        obtain ⟨Q, rfl⟩ : ∃ Q, v2 = sg v' 18 Q := ⟨v2 18, by
          funext j
          by_cases e : j = 18
          · subst e; rw [sg_at]
          · rw [sg_ne e]; exact d1 j e⟩
        exact ⟨n, K, C, T, H, B, S, hOK, hP, hC, hM, hS, hPl, hRest⟩
      have cm : fX12_poured 2000 v (nI p) = fX12_poured_L27 2000 (nI p) (fun σ5 => some (((-1) : Int32), σ5)) 2000 (nI 0) (nI 0) (nI 0) v' := by
        unfold fX12_poured
        rw [if_pos hx, p2, bd_s, g4, if_pos (nI_pos' (by omega))]; rfl
      by_cases q : p < n
      · rw [if_pos q] at d2
        refine ⟨2000, nI ((OLN n (ahd H B) (rch B) 0 L).getD p 0), σ', v2, ?_, cm.trans d2, hRel2⟩
        unfold fX11_poured fX10_shapeAt; rw [if_pos hx, p1, bd_s, g3, hc0, if_pos (n4_of (by omega)), if_neg (nI_ge q (by omega)), aI_n (by omega) (by decide), g6 p q]; rfl
      · rw [if_neg q] at d2
        refine ⟨2000, -1, σ', v2, ?_, cm.trans d2, hRel2⟩
        unfold fX11_poured fX10_shapeAt; rw [if_pos hx, p1, bd_s, g3, hc0, if_pos (n4_of (by omega)), if_pos (nI_le (by omega) hp)]; rfl
  · refine ⟨0, -1, u.1, v, ?_, ?_, hR⟩
    · unfold fX11_poured; rw [if_neg hx]
    · unfold fX12_poured; rw [if_neg hx]
end DAYS
