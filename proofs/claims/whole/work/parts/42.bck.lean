/-! what is told back: back, harm, mend -/
def hrv (k t q r : Nat) : Nat := if k = 0 then 0 else (k - 1 + 36 + t * q - t * r) % 9 + 1
theorem hrv_c : ∀ k, k < 10 → ∀ t, t < 9 → ∀ q, q < 4 → ∀ r, r < 4 → fX11_shifted (nI k) (nI t * (nI q - nI r)) = some (nI (hrv k t q r)) := by decide +kernel
theorem hrv_r : ∀ k, k < 10 → 0 < k → ∀ t, t < 9 → ∀ q, q < 4 → ∀ r, r < 4 → ((((nI k - (1 : Int32)) + (36 : Int32)) + (nI t * (nI q - nI r))) - (((nI k - (1 : Int32)) + (36 : Int32)) + (nI t * (nI q - nI r))) / (9 : Int32) * (9 : Int32)) + (1 : Int32) = nI (hrv k t q r) := by decide +kernel
theorem hrv_le (k t q r : Nat) : hrv k t q r ≤ 9 := by unfold hrv; split <;> omega
def hrx (x : Int32) (t q r : Nat) : Int32 := nI (hrv x.toNatClampNeg t q r)
def bkS (ph : Nat → Int32) (p q t : Nat) : Nat → Int32
  | 0 => -5
  | r + 1 => if r = q ∨ ph (cel p r) = -5 then bkS ph p q t r else if bkS ph p q t r = -5 ∨ bkS ph p q t r = hrx (ph (cel p r)) t q r then hrx (ph (cel p r)) t q r else -6
theorem hrx_n6 (x : Int32) (t q r : Nat) : ¬ hrx x t q r = -6 ∧ ¬ hrx x t q r = -5 ∧ ¬ hrx x t q r < 0 := by
  have h := hrv_le x.toNatClampNeg t q r
  have h2 : ¬ hrx x t q r < 0 := nI_pos (by omega)
  exact ⟨fun z => h2 (by rw [z]; decide), fun z => h2 (by rw [z]; decide), h2⟩
theorem bkS_stay (ph : Nat → Int32) (p q t : Nat) : ∀ d r, bkS ph p q t r = -6 → bkS ph p q t (r + d) = -6 := by
  intro d
  induction d with
  | zero => intro r h; exact h
  | succ d ih =>
    intro r h
    have h2 := ih r h
    rw [show r + (d + 1) = (r + d) + 1 by omega]
    unfold bkS
    rw [h2]
    have := hrx_n6 (ph (cel p (r + d))) t q (r + d)
    split
    · rfl
    · rw [if_neg]
      rintro (z | z)
      · exact absurd z (by decide)
      · exact this.1 z.symm
theorem bkS_val (ph : Nat → Int32) (p q t : Nat) : ∀ r, bkS ph p q t r = -5 ∨ bkS ph p q t r = -6 ∨ ∃ k, k ≤ 9 ∧ bkS ph p q t r = nI k := by
  intro r
  induction r with
  | zero => exact Or.inl rfl
  | succ r ih =>
    unfold bkS
    split
    · exact ih
    · split
      · exact Or.inr (Or.inr ⟨_, hrv_le _ _ _ _, rfl⟩)
      · exact Or.inr (Or.inl rfl)
theorem bkS_cong {ph ph' : Nat → Int32} {p : Nat} (hp : p < 64) (h : ∀ r, r < 4 → ph (cel p r) = ph' (cel p r)) (q t : Nat) : ∀ r, r ≤ 4 → bkS ph p q t r = bkS ph' p q t r := by
  intro r
  induction r with
  | zero => intro _; rfl
  | succ r ih =>
    intro hr
    unfold bkS
    rw [ih (by omega), h r (by omega)]
theorem stpN_le {K C T H : Nat → Nat} {B : Nat → Nat → Bool} {n : Nat} (hp : PicOK n K C T H) (p : Nat) : ∀ m, m ≤ n → stpN K T B p m ≤ 8 := by
  intro m
  induction m with
  | zero => intro _; exact Nat.zero_le _
  | succ m ih =>
    intro hm
    unfold stpN
    split
    · exact (hp.2 m (by omega)).2.2.2.1
    · exact ih (by omega)
section BACK
variable {PP : PPT} {WP : WPT}
variable {σ v : Nat → Nat → Int32} {sh : Nat → Option Nat} {Z : ZT} {n : Nat} {K C T H : Nat → Nat} {B : Nat → Nat → Bool} {F : Nat}
theorem c_smeared (hF : 6 ≤ F) {p q : Nat} (hp : p < 64) (hq : q < 4) : fX3_isSmeared F sh Z σ (nI p) (nI q) = some (if σ 15 (cel p q) = -5 then 1 else 0) := by
  unfold fX3_isSmeared
  rw [c_cell F hF p hp q hq, bd_s, aI_n (cel_p p hp q hq).1 (by decide)]
  by_cases h : σ 15 (cel p q) = -5
  · rw [if_neg (fun z => z h), if_pos h]
  · rw [if_pos h, if_neg h]
theorem hrx_of {x : Int32} {k t q r : Nat} (hk : k ≤ 9) (h : x = nI k) : hrx x t q r = nI (hrv k t q r) := by
  unfold hrx; rw [h, nI_clamp (by omega)]
theorem c_backL (hg : ∀ c, c < 256 → gdp (σ 15 c)) (hF : 6 ≤ F) {p q t : Nat} (hp : p < 64) (hq : q < 4) (ht : t ≤ 8) : ∀ N r, r ≤ 4 → 4 - r < N → ¬ bkS (σ 15) p q t r = -6 → fX3_toldBack_L7 F sh Z σ (nI p) (nI q) (nI t) (fun y1 => some y1) N (bkS (σ 15) p q t r) (nI r) = some (bkS (σ 15) p q t 4) := by
  intro N
  induction N with
  | zero => intro r _ h; omega
  | succ N ih =>
    intro r hr hN h6
    rw [fX3_toldBack_L7, nb_s]
    rcases Nat.lt_or_ge r 4 with h | h
    · rw [if_neg (show ¬ (4 : Int32) ≤ nI r from nI_ge (b := 4) h (by decide))]
      have go : ∀ a : Int32, bkS (σ 15) p q t (r + 1) = a → ¬ a = -6 → fX3_toldBack_L7 F sh Z σ (nI p) (nI q) (nI t) (fun y1 => some y1) N a (nI r + 1) = some (bkS (σ 15) p q t 4) := by
        intro a ha h6'
        rw [← ha, nI_1]
        exact ih (r + 1) h (by omega) (by rw [ha]; exact h6')
      by_cases e : r = q
      · rw [if_pos (by rw [e])]
        unfold fX3_toldBack_J75
        exact go _ (by rw [bkS, if_pos (Or.inl e)]) h6
      · rw [if_neg (fun z => e ((nI_eq (by omega) (by omega)).mp z)), c_smeared hF hp h, bd_s]
        obtain ⟨k1, k2, k3⟩ := cel_p p hp r h
        by_cases hs : σ 15 (cel p r) = -5
        · rw [if_pos hs, if_neg (by decide)]
          unfold fX3_toldBack_J75
          exact go _ (by rw [bkS, if_pos (Or.inr hs)]) h6
        · rw [if_neg hs, if_pos rfl, c_cell F hF p hp r h, bd_s, aI_n k1 (by decide)]
          rcases hg _ k1 with z | ⟨k, hk, hkx⟩
          · exact absurd z hs
          · have ehx : hrx (σ 15 (cel p r)) t q r = nI (hrv k t q r) := hrx_of hk hkx
            rw [hkx, hrv_c k (by omega) t (by omega) q hq r h, bd_s, ← ehx]
            have hx := hrx_n6 (σ 15 (cel p r)) t q r
            have eb : bkS (σ 15) p q t (r + 1) = if bkS (σ 15) p q t r = -5 ∨ bkS (σ 15) p q t r = hrx (σ 15 (cel p r)) t q r then hrx (σ 15 (cel p r)) t q r else -6 := by
              conv => lhs; unfold bkS
              rw [if_neg (by rintro (z | z); exact e z; exact hs z)]
            by_cases c5 : bkS (σ 15) p q t r = -5
            · rw [if_pos c5]
              unfold fX3_toldBack_J71 fX3_toldBack_J75
              exact go _ (by rw [eb, if_pos (Or.inl c5)]) hx.1
            · rw [if_neg c5]
              by_cases c6 : bkS (σ 15) p q t r = hrx (σ 15 (cel p r)) t q r
              · rw [if_pos c6]
                unfold fX3_toldBack_J71 fX3_toldBack_J75
                exact go _ (by rw [eb, if_pos (Or.inr c6)]) hx.1
              · rw [if_neg c6]
                have h7 : bkS (σ 15) p q t (r + 1) = -6 := by
                  rw [eb, if_neg]
                  rintro (z | z)
                  · exact c5 z
                  · exact c6 z
                have := bkS_stay (σ 15) p q t (4 - (r + 1)) (r + 1) h7
                rw [show r + 1 + (4 - (r + 1)) = 4 by omega] at this
                rw [this]
    · have e : r = 4 := by omega
      subst e
      rw [if_pos (by decide)]
theorem c_back (hg : ∀ c, c < 256 → gdp (σ 15 c)) (hF : 6 ≤ F) {p q t : Nat} (hp : p < 64) (hq : q < 4) (ht : t ≤ 8) : fX3_toldBack F sh Z σ (nI p) (nI q) (nI t) = some (bkS (σ 15) p q t 4) :=
  c_backL hg hF hp hq ht F 0 (by omega) (by omega) (show ¬ (-5 : Int32) = -6 by decide)
theorem r_back (hp : PicOK n K C T H) (hm : MVs v n K C T H B) (hg : ∀ c, c < 256 → gdp (v 19 c)) (hF : 300 ≤ F) {c : Nat} (hc : c < 256) : fX12_backOf F v (nI c) = some (bkS (v 19) (plc c) (qrt c) (stpN K T B (plc c) n) 4) := by
  obtain ⟨j1, j2, j3⟩ := cel_c c hc
  have ht := stpN_le (B := B) hp (plc c) n (Nat.le_refl n)
  unfold fX12_backOf
  rw [r_quarter c hc, bd_s, r_step hp hm (by omega) hc, bd_s]
  generalize stpN K T B (plc c) n = t at *
  refine lp_up (fun m (z : Int32 × Int32) => fX12_backOf_L25 F v (nI c) (nI (qrt c)) (nI t) (fun y3 => some y3) m z.1 z.2) (fun r => (bkS (v 19) (plc c) (qrt c) t r, nI r)) _ 4 (fun m r hr => ?_) (fun m => ?_) F 0 (Nat.zero_le _) (by omega)
  · show fX12_backOf_L25 F v (nI c) (nI (qrt c)) (nI t) (fun y3 => some y3) (m + 1) (bkS (v 19) (plc c) (qrt c) t r) (nI r) = fX12_backOf_L25 F v (nI c) (nI (qrt c)) (nI t) (fun y3 => some y3) m (bkS (v 19) (plc c) (qrt c) t (r + 1)) (nI (r + 1))
    obtain ⟨k1, k2, k3⟩ := cel_p (plc c) j1 r hr
    rw [fX12_backOf_L25, nb_s, if_neg (show ¬ (4 : Int32) ≤ nI r from nI_ge (b := 4) hr (by decide)), r_place F (by omega) c hc, bd_s, r_turned F (by omega) _ j1 r hr, bd_s, aI_n k1 (by decide)]
    by_cases e : r = qrt c
    · rw [if_pos (by rw [e])]
      unfold fX12_backOf_J113
      rw [nI_1]
      conv => rhs; unfold bkS
      rw [if_pos (Or.inl e)]
    · rw [if_neg (fun z => e ((nI_eq (by omega) (by omega)).mp z))]
      by_cases hs : v 19 (cel (plc c) r) = -5
      · rw [if_pos hs]
        unfold fX12_backOf_J113
        rw [nI_1]
        conv => rhs; unfold bkS
        rw [if_pos (Or.inr hs)]
      · rw [if_neg hs]
        rcases hg _ k1 with z | ⟨k, hk, hkx⟩
        · exact absurd z hs
        · have ehx : hrx (v 19 (cel (plc c) r)) t (qrt c) r = nI (hrv k t (qrt c) r) := hrx_of hk hkx
          have eb : bkS (v 19) (plc c) (qrt c) t (r + 1) = if bkS (v 19) (plc c) (qrt c) t r = -5 ∨ bkS (v 19) (plc c) (qrt c) t r = hrx (v 19 (cel (plc c) r)) t (qrt c) r then hrx (v 19 (cel (plc c) r)) t (qrt c) r else -6 := by
            conv => lhs; unfold bkS
            rw [if_neg (by rintro (z | z); exact e z; exact hs z)]
          have ej : ∀ x : Int32, x = hrx (v 19 (cel (plc c) r)) t (qrt c) r → fX12_backOf_J88 F (fun x4 x5 => fX12_backOf_L25 F v (nI c) (nI (qrt c)) (nI t) (fun y3 => some y3) m x4 x5) (nI c) (nI (qrt c)) (nI t) (bkS (v 19) (plc c) (qrt c) t r) (nI r) x v = fX12_backOf_L25 F v (nI c) (nI (qrt c)) (nI t) (fun y3 => some y3) m (bkS (v 19) (plc c) (qrt c) t (r + 1)) (nI (r + 1)) := by
            intro x hx
            subst hx
            unfold fX12_backOf_J88 fX12_backOf_J104 fX12_backOf_J111 fX12_backOf_J113
            rw [nI_1, eb]
            by_cases c5 : bkS (v 19) (plc c) (qrt c) t r = -5
            · rw [if_pos c5, if_pos (Or.inl c5)]
            · rw [if_neg c5]
              by_cases c6 : bkS (v 19) (plc c) (qrt c) t r = hrx (v 19 (cel (plc c) r)) t (qrt c) r
              · rw [if_neg (fun z => z c6), if_pos (Or.inr c6)]
              · rw [if_pos c6, if_neg]
                rintro (z | z)
                · exact c5 z
                · exact c6 z
          rw [hkx]
          by_cases hk0 : k = 0
          · subst hk0
            rw [if_neg (by decide)]
            exact ej 0 (by rw [ehx]; rfl)
          · rw [if_pos (nI_ne0 (by omega) (by omega)), hrv_r k (by omega) (by omega) t (by omega) (qrt c) j2 r hr]
            exact ej _ ehx.symm
  · show fX12_backOf_L25 F v (nI c) (nI (qrt c)) (nI t) (fun y3 => some y3) (m + 1) (bkS (v 19) (plc c) (qrt c) t 4) (nI 4) = _
    rw [fX12_backOf_L25, nb_s, if_pos (by decide)]
theorem t_back : st_back (Rel PP WP) := by
  intro u v x1 x2 hR
  obtain ⟨n, K, C, T, H, B, S, hOK, hP, hC, hM, hS, hPl, hPh, hRest⟩ := id hR
  rcases isC x1 x2 with h | ⟨h, a, b, ha, hb, rfl, rfl⟩
  · refine ⟨0, -1, ?_, ?_, hR⟩
    · unfold fX11_back; rw [h]; rfl
    · unfold fX12_back; rw [rc_cell, h]; rfl
  · have hc : 16 * b + a < 256 := by omega
    obtain ⟨p1, p2, p3⟩ := cel_c (16 * b + a) hc
    have ht := stpN_le (B := B) hP (plc (16 * b + a)) n (Nat.le_refl n)
    have eb : bkS (v 19) (plc (16 * b + a)) (qrt (16 * b + a)) (stpN K T B (plc (16 * b + a)) n) 4 = bkS (u.1 15) (plc (16 * b + a)) (qrt (16 * b + a)) (stpN K T B (plc (16 * b + a)) n) 4 := bkS_cong p1 (fun r hr => (hPh _ (cel_p _ p1 r hr).1).1) _ _ 4 (Nat.le_refl _)
    have hv : ∀ c, c < 256 → gdp (v 19 c) := fun c hc => by rw [(hPh c hc).1]; exact (hPh c hc).2
    by_cases h5 : u.1 15 (16 * b + a) = -5
    · refine ⟨300, bkS (u.1 15) (plc (16 * b + a)) (qrt (16 * b + a)) (stpN K T B (plc (16 * b + a)) n) 4, ?_, ?_, hR⟩
      · unfold fX11_back fX3_colourOf
        rw [h, bd_s, if_pos (by decide), ix16, aI_n hc (by decide), bd_s, if_pos h5, c_place 300 (by decide) a ha b hb, bd_s, c_quarter a ha b hb, bd_s, c_step hP hC (by decide) p1, bd_s, c_back (fun c hc => (hPh c hc).2) (by decide) p1 p2 ht]; rfl
      · unfold fX12_back
        rw [rc_cell, h, bd_s, if_pos (by decide), ix16, aI_n hc (by decide), (hPh _ hc).1, if_neg (fun z => z h5), r_back hP hM hv (by decide) hc, bd_s, eb]
    · refine ⟨300, -2, ?_, ?_, hR⟩
      · unfold fX11_back fX3_colourOf
        rw [h, bd_s, if_pos (by decide), ix16, aI_n hc (by decide), bd_s, if_neg h5]
      · unfold fX12_back
        rw [rc_cell, h, bd_s, if_pos (by decide), ix16, aI_n hc (by decide), (hPh _ hc).1, if_pos h5]
end BACK
