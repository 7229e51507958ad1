/-! keep, show, cat -/
section OPS3
variable {PP : PPT} {WP : WPT}
theorem c_keepL0 {F : Nat} {sh : Nat → Option Nat} {Z : ZT} {σ : Nat → Nat → Int32} {b : Nat → Int32} (hPh : RPh (σ 15) b) {l f c m : Nat} (hl : l ≤ 2) (hL : σ 40 0 = nI l) (hf : f + m ≤ 256) (hc : c + m ≤ 256) (hF : 300 ≤ F) (kx : (Nat → Nat → Int32) → Option (Int32 × (Nat → Nat → Int32))) : fX11_keep_L46 F sh Z (nI 0) (nI f) (nI c) (nI m) kx F 0 σ = kx (sg σ 29 (fb_put (σ 29) (fun t => σ 15 (c + t)) f m)) := by
  have ew : ∀ (α : Type) (k : Nat → Nat → Nat → Option α), sw4 (nI 0) k = k 29 40 44 := fun _ _ => rfl
  have := lp_up (fun q (s : Int32 × (Nat → Nat → Int32)) => fX11_keep_L46 F sh Z (nI 0) (nI f) (nI c) (nI m) kx q s.1 s.2) (fun i => (nI i, sg σ 29 (fb_put (σ 29) (fun t => σ 15 (c + t)) f i))) (kx (sg σ 29 (fb_put (σ 29) (fun t => σ 15 (c + t)) f m))) m (fun q i hi => ?_) (fun q => ?_) F 0 (Nat.zero_le _) (by omega)
  · dsimp only at this
    rw [fb_put_0, sg_same] at this
    exact this
  · show fX11_keep_L46 F sh Z (nI 0) (nI f) (nI c) (nI m) kx (q + 1) (nI i) (sg σ 29 (fb_put (σ 29) (fun t => σ 15 (c + t)) f i)) = fX11_keep_L46 F sh Z (nI 0) (nI f) (nI c) (nI m) kx q (nI (i + 1)) (sg σ 29 (fb_put (σ 29) (fun t => σ 15 (c + t)) f (i + 1)))
    have hg := (hPh (c + i) (by omega)).2
    rw [fX11_keep_L46, nb_s, if_neg (nI_ge hi (by omega)), ew]
    unfold fX3_colourOf
    have hw := c_write (KI := 29) (KL := 40) (KN := 44) (l := l) (f := f + i) (σ := sg σ 29 (fb_put (σ 29) (fun t => σ 15 (c + t)) f i)) (sh := sh) (Z := Z) hl hL (by omega) (σ 15 (c + i))
    rw [cut_small l hl _ hg, sg_at, sg_sg] at hw
    rw [nI_add, aI_n (by omega) (by decide), bd_s, nI_add]
    refine (congrArg (fun z => bd z _) hw).trans ?_
    rw [bd_s, ← fb_put_succ, nI_1]
  · show fX11_keep_L46 F sh Z (nI 0) (nI f) (nI c) (nI m) kx (q + 1) (nI m) (sg σ 29 (fb_put (σ 29) (fun t => σ 15 (c + t)) f m)) = _
    rw [fX11_keep_L46, nb_s, if_pos (nI_le (Nat.le_refl m) (by omega))]
theorem c_keepL1 {F : Nat} {sh : Nat → Option Nat} {Z : ZT} {σ : Nat → Nat → Int32} {b : Nat → Int32} (hPh : RPh (σ 15) b) {l f c m : Nat} (hl : l ≤ 2) (hL : σ 41 0 = nI l) (hf : f + m ≤ 256) (hc : c + m ≤ 256) (hF : 300 ≤ F) (kx : (Nat → Nat → Int32) → Option (Int32 × (Nat → Nat → Int32))) : fX11_keep_L46 F sh Z (nI 1) (nI f) (nI c) (nI m) kx F 0 σ = kx (sg σ 30 (fb_put (σ 30) (fun t => σ 15 (c + t)) f m)) := by
  have ew : ∀ (α : Type) (k : Nat → Nat → Nat → Option α), sw4 (nI 1) k = k 30 41 45 := fun _ _ => rfl
  have := lp_up (fun q (s : Int32 × (Nat → Nat → Int32)) => fX11_keep_L46 F sh Z (nI 1) (nI f) (nI c) (nI m) kx q s.1 s.2) (fun i => (nI i, sg σ 30 (fb_put (σ 30) (fun t => σ 15 (c + t)) f i))) (kx (sg σ 30 (fb_put (σ 30) (fun t => σ 15 (c + t)) f m))) m (fun q i hi => ?_) (fun q => ?_) F 0 (Nat.zero_le _) (by omega)
  · dsimp only at this
    rw [fb_put_0, sg_same] at this
    exact this
  · show fX11_keep_L46 F sh Z (nI 1) (nI f) (nI c) (nI m) kx (q + 1) (nI i) (sg σ 30 (fb_put (σ 30) (fun t => σ 15 (c + t)) f i)) = fX11_keep_L46 F sh Z (nI 1) (nI f) (nI c) (nI m) kx q (nI (i + 1)) (sg σ 30 (fb_put (σ 30) (fun t => σ 15 (c + t)) f (i + 1)))
    have hg := (hPh (c + i) (by omega)).2
    rw [fX11_keep_L46, nb_s, if_neg (nI_ge hi (by omega)), ew]
    unfold fX3_colourOf
    have hw := c_write (KI := 30) (KL := 41) (KN := 45) (l := l) (f := f + i) (σ := sg σ 30 (fb_put (σ 30) (fun t => σ 15 (c + t)) f i)) (sh := sh) (Z := Z) hl hL (by omega) (σ 15 (c + i))
    rw [cut_small l hl _ hg, sg_at, sg_sg] at hw
    rw [nI_add, aI_n (by omega) (by decide), bd_s, nI_add]
    refine (congrArg (fun z => bd z _) hw).trans ?_
    rw [bd_s, ← fb_put_succ, nI_1]
  · show fX11_keep_L46 F sh Z (nI 1) (nI f) (nI c) (nI m) kx (q + 1) (nI m) (sg σ 30 (fb_put (σ 30) (fun t => σ 15 (c + t)) f m)) = _
    rw [fX11_keep_L46, nb_s, if_pos (nI_le (Nat.le_refl m) (by omega))]
theorem c_keepL2 {F : Nat} {sh : Nat → Option Nat} {Z : ZT} {σ : Nat → Nat → Int32} {b : Nat → Int32} (hPh : RPh (σ 15) b) {l f c m : Nat} (hl : l ≤ 2) (hL : σ 42 0 = nI l) (hf : f + m ≤ 256) (hc : c + m ≤ 256) (hF : 300 ≤ F) (kx : (Nat → Nat → Int32) → Option (Int32 × (Nat → Nat → Int32))) : fX11_keep_L46 F sh Z (nI 2) (nI f) (nI c) (nI m) kx F 0 σ = kx (sg σ 31 (fb_put (σ 31) (fun t => σ 15 (c + t)) f m)) := by
  have ew : ∀ (α : Type) (k : Nat → Nat → Nat → Option α), sw4 (nI 2) k = k 31 42 46 := fun _ _ => rfl
  have := lp_up (fun q (s : Int32 × (Nat → Nat → Int32)) => fX11_keep_L46 F sh Z (nI 2) (nI f) (nI c) (nI m) kx q s.1 s.2) (fun i => (nI i, sg σ 31 (fb_put (σ 31) (fun t => σ 15 (c + t)) f i))) (kx (sg σ 31 (fb_put (σ 31) (fun t => σ 15 (c + t)) f m))) m (fun q i hi => ?_) (fun q => ?_) F 0 (Nat.zero_le _) (by omega)
  · dsimp only at this
    rw [fb_put_0, sg_same] at this
    exact this
  · show fX11_keep_L46 F sh Z (nI 2) (nI f) (nI c) (nI m) kx (q + 1) (nI i) (sg σ 31 (fb_put (σ 31) (fun t => σ 15 (c + t)) f i)) = fX11_keep_L46 F sh Z (nI 2) (nI f) (nI c) (nI m) kx q (nI (i + 1)) (sg σ 31 (fb_put (σ 31) (fun t => σ 15 (c + t)) f (i + 1)))
    have hg := (hPh (c + i) (by omega)).2
    rw [fX11_keep_L46, nb_s, if_neg (nI_ge hi (by omega)), ew]
    unfold fX3_colourOf
    have hw := c_write (KI := 31) (KL := 42) (KN := 46) (l := l) (f := f + i) (σ := sg σ 31 (fb_put (σ 31) (fun t => σ 15 (c + t)) f i)) (sh := sh) (Z := Z) hl hL (by omega) (σ 15 (c + i))
    rw [cut_small l hl _ hg, sg_at, sg_sg] at hw
    rw [nI_add, aI_n (by omega) (by decide), bd_s, nI_add]
    refine (congrArg (fun z => bd z _) hw).trans ?_
    rw [bd_s, ← fb_put_succ, nI_1]
  · show fX11_keep_L46 F sh Z (nI 2) (nI f) (nI c) (nI m) kx (q + 1) (nI m) (sg σ 31 (fb_put (σ 31) (fun t => σ 15 (c + t)) f m)) = _
    rw [fX11_keep_L46, nb_s, if_pos (nI_le (Nat.le_refl m) (by omega))]
theorem c_keepL3 {F : Nat} {sh : Nat → Option Nat} {Z : ZT} {σ : Nat → Nat → Int32} {b : Nat → Int32} (hPh : RPh (σ 15) b) {l f c m : Nat} (hl : l ≤ 2) (hL : σ 43 0 = nI l) (hf : f + m ≤ 256) (hc : c + m ≤ 256) (hF : 300 ≤ F) (kx : (Nat → Nat → Int32) → Option (Int32 × (Nat → Nat → Int32))) : fX11_keep_L46 F sh Z (nI 3) (nI f) (nI c) (nI m) kx F 0 σ = kx (sg σ 32 (fb_put (σ 32) (fun t => σ 15 (c + t)) f m)) := by
  have ew : ∀ (α : Type) (k : Nat → Nat → Nat → Option α), sw4 (nI 3) k = k 32 43 47 := fun _ _ => rfl
  have := lp_up (fun q (s : Int32 × (Nat → Nat → Int32)) => fX11_keep_L46 F sh Z (nI 3) (nI f) (nI c) (nI m) kx q s.1 s.2) (fun i => (nI i, sg σ 32 (fb_put (σ 32) (fun t => σ 15 (c + t)) f i))) (kx (sg σ 32 (fb_put (σ 32) (fun t => σ 15 (c + t)) f m))) m (fun q i hi => ?_) (fun q => ?_) F 0 (Nat.zero_le _) (by omega)
  · dsimp only at this
    rw [fb_put_0, sg_same] at this
    exact this
  · show fX11_keep_L46 F sh Z (nI 3) (nI f) (nI c) (nI m) kx (q + 1) (nI i) (sg σ 32 (fb_put (σ 32) (fun t => σ 15 (c + t)) f i)) = fX11_keep_L46 F sh Z (nI 3) (nI f) (nI c) (nI m) kx q (nI (i + 1)) (sg σ 32 (fb_put (σ 32) (fun t => σ 15 (c + t)) f (i + 1)))
    have hg := (hPh (c + i) (by omega)).2
    rw [fX11_keep_L46, nb_s, if_neg (nI_ge hi (by omega)), ew]
    unfold fX3_colourOf
    have hw := c_write (KI := 32) (KL := 43) (KN := 47) (l := l) (f := f + i) (σ := sg σ 32 (fb_put (σ 32) (fun t => σ 15 (c + t)) f i)) (sh := sh) (Z := Z) hl hL (by omega) (σ 15 (c + i))
    rw [cut_small l hl _ hg, sg_at, sg_sg] at hw
    rw [nI_add, aI_n (by omega) (by decide), bd_s, nI_add]
    refine (congrArg (fun z => bd z _) hw).trans ?_
    rw [bd_s, ← fb_put_succ, nI_1]
  · show fX11_keep_L46 F sh Z (nI 3) (nI f) (nI c) (nI m) kx (q + 1) (nI m) (sg σ 32 (fb_put (σ 32) (fun t => σ 15 (c + t)) f m)) = _
    rw [fX11_keep_L46, nb_s, if_pos (nI_le (Nat.le_refl m) (by omega))]
theorem r_keepL {F : Nat} {v : Nat → Nat → Int32} {j f c m : Nat} (hj : j < 4) (hf : f + m ≤ 256) (hc : c + m ≤ 256) (hF : 300 ≤ F) (kx : (Nat → Nat → Int32) → Option (Int32 × (Nat → Nat → Int32))) : fX12_keep_L42 F (nI j) (nI f) (nI c) (nI m) kx F 0 v = kx (sg v 26 (fb_put (v 26) (fun t => v 19 (c + t)) (256 * j + f) m)) := by
  have := lp_up (fun q (s : Int32 × (Nat → Nat → Int32)) => fX12_keep_L42 F (nI j) (nI f) (nI c) (nI m) kx q s.1 s.2) (fun i => (nI i, sg v 26 (fb_put (v 26) (fun t => v 19 (c + t)) (256 * j + f) i))) (kx (sg v 26 (fb_put (v 26) (fun t => v 19 (c + t)) (256 * j + f) m))) m (fun q i hi => ?_) (fun q => ?_) F 0 (Nat.zero_le _) (by omega)
  · dsimp only at this
    rw [fb_put_0, sg_same] at this
    exact this
  · show fX12_keep_L42 F (nI j) (nI f) (nI c) (nI m) kx (q + 1) (nI i) (sg v 26 (fb_put (v 26) (fun t => v 19 (c + t)) (256 * j + f) i)) = fX12_keep_L42 F (nI j) (nI f) (nI c) (nI m) kx q (nI (i + 1)) (sg v 26 (fb_put (v 26) (fun t => v 19 (c + t)) (256 * j + f) (i + 1)))
    rw [fX12_keep_L42, nb_s, if_neg (nI_ge hi (by omega)), nI_add, aI_n (by omega) (by decide), r_ix, nI_add, aS_n (by omega) (by decide), nm_s, sg_at, sg_sg, nI_clamp (by omega), nI_succ, ← fb_put_succ]
    rfl
  · show fX12_keep_L42 F (nI j) (nI f) (nI c) (nI m) kx (q + 1) (nI m) (sg v 26 (fb_put (v 26) (fun t => v 19 (c + t)) (256 * j + f) m)) = _
    rw [fX12_keep_L42, nb_s, if_pos (nI_le (Nat.le_refl m) (by omega))]
def gdp (x : Int32) : Prop := x = -5 ∨ ∃ k, k ≤ 9 ∧ x = nI k
theorem copy1 {F KI KL KN f c m p : Nat} {sh : Nat → Option Nat} {Z : ZT} {σ v : Nat → Nat → Int32} (hf : f + m ≤ 256) (hp : p + m ≤ 1024) (hA : ∀ t, t < m → σ KI (f + t) = v 26 (p + t)) (kx : (Nat → Nat → Int32) → Option (Int32 × (Nat → Nat → Int32))) (ky : (Nat → Nat → Int32) → Option (Int32 × (Nat → Nat → Int32))) : ∀ N i, i ≤ m → m - i < N → (fX3_copyFrom_L3 KI KL KN F sh Z (nI f) (nI c) (nI m) kx N (nI i) σ = kx σ ∧ fX12_show_L51 F (nI c) (nI m) (nI p) ky N (nI i) v = ky v ∧ ∀ t, i ≤ t → t < m → gdp (σ KI (f + t))) ∨ (fX3_copyFrom_L3 KI KL KN F sh Z (nI f) (nI c) (nI m) kx N (nI i) σ = some (-2, σ) ∧ fX12_show_L51 F (nI c) (nI m) (nI p) ky N (nI i) v = some (-2, v)) := by
  intro N
  induction N with
  | zero => intro i _ h; omega
  | succ N ih =>
    intro i hi hN
    rw [fX3_copyFrom_L3, fX12_show_L51, nb_s, nb_s]
    rcases Nat.lt_or_ge i m with h | h
    · rw [if_neg (nI_ge h (by omega)), if_neg (nI_ge h (by omega))]
      unfold fX7_read
      rw [nI_add, nI_add, aI_n (by omega) (by decide), bd_s, aI_n (by omega) (by decide), ← hA i h]
      have e : nI i + (1 : Int32) = nI (i + 1) := nI_1 i
      by_cases h5 : σ KI (f + i) = -5
      · rw [if_pos h5, if_pos h5]
        unfold fX3_copyFrom_J41 fX12_show_J97
        rw [e]
        rcases ih (i + 1) h (by omega) with ⟨g1, g2, g3⟩ | g
        · exact Or.inl ⟨g1, g2, fun t h1 h2 => by
            by_cases z : t = i
            · subst z; exact Or.inl h5
            · exact g3 t (by omega) h2⟩
        · exact Or.inr g
      · rw [if_neg h5, if_neg h5, aI_n (by omega) (by decide), ← hA i h, show (0 : Int64) = (0 : Int32).toInt64 from rfl, show (9 : Int64) = (9 : Int32).toInt64 from rfl, r_inw, show (9 : Int32) = nI 9 from rfl]
        rcases w0 (σ KI (f + i)) 9 (by decide) with q | ⟨q, a, ha, qe⟩
        · right
          rw [q]; exact ⟨rfl, rfl⟩
        · rw [q, bd_s, bd_s, if_pos (by decide), if_pos (by decide)]
          unfold fX3_copyFrom_J41 fX12_show_J97
          rw [e]
          rcases ih (i + 1) h (by omega) with ⟨g1, g2, g3⟩ | g
          · exact Or.inl ⟨g1, g2, fun t h1 h2 => by
              by_cases z : t = i
              · subst z; exact Or.inr ⟨a, ha, qe⟩
              · exact g3 t (by omega) h2⟩
          · exact Or.inr g
    · have e : i = m := by omega
      subst e
      left
      rw [if_pos (nI_le (Nat.le_refl i) (by omega)), if_pos (nI_le (Nat.le_refl i) (by omega))]
      exact ⟨rfl, rfl, fun t h1 h2 => by omega⟩
theorem r_showL {F : Nat} {v : Nat → Nat → Int32} {c m p : Nat} (hp : p + m ≤ 1024) (hc : c + m ≤ 256) (hF : 300 ≤ F) (kx : (Nat → Nat → Int32) → Option (Int32 × (Nat → Nat → Int32))) : fX12_show_L106 F (nI c) (nI m) (nI p) kx F 0 v = kx (sg v 19 (fb_put (v 19) (fun t => v 26 (p + t)) c m)) := by
  have := lp_up (fun q (s : Int32 × (Nat → Nat → Int32)) => fX12_show_L106 F (nI c) (nI m) (nI p) kx q s.1 s.2) (fun i => (nI i, sg v 19 (fb_put (v 19) (fun t => v 26 (p + t)) c i))) (kx (sg v 19 (fb_put (v 19) (fun t => v 26 (p + t)) c m))) m (fun q i hi => ?_) (fun q => ?_) F 0 (Nat.zero_le _) (by omega)
  · dsimp only at this
    rw [fb_put_0, sg_same] at this
    exact this
  · show fX12_show_L106 F (nI c) (nI m) (nI p) kx (q + 1) (nI i) (sg v 19 (fb_put (v 19) (fun t => v 26 (p + t)) c i)) = fX12_show_L106 F (nI c) (nI m) (nI p) kx q (nI (i + 1)) (sg v 19 (fb_put (v 19) (fun t => v 26 (p + t)) c (i + 1)))
    rw [fX12_show_L106, nb_s, if_neg (nI_ge hi (by omega)), nI_add, aI_n (by omega) (by decide), nI_add, aS_n (by omega) (by decide), nm_s, sg_at, sg_sg, nI_clamp (by omega), nI_succ, ← fb_put_succ]
    rfl
  · show fX12_show_L106 F (nI c) (nI m) (nI p) kx (q + 1) (nI m) (sg v 19 (fb_put (v 19) (fun t => v 26 (p + t)) c m)) = _
    rw [fX12_show_L106, nb_s, if_pos (nI_le (Nat.le_refl m) (by omega))]
theorem c_showL0 {F : Nat} {sh : Nat → Option Nat} {Z : ZT} {σ : Nat → Nat → Int32} {f c m : Nat} (hf : f + m ≤ 256) (hc : c + m ≤ 256) (hF : 300 ≤ F) (kx : (Nat → Nat → Int32) → Option (Int32 × (Nat → Nat → Int32))) : fX3_copyFrom_L50 29 40 44 F sh Z (nI f) (nI c) (nI m) kx F 0 σ = kx (sg σ 15 (fb_put (σ 15) (fun t => σ 29 (f + t)) c m)) := by
  have := lp_up (fun q (s : Int32 × (Nat → Nat → Int32)) => fX3_copyFrom_L50 29 40 44 F sh Z (nI f) (nI c) (nI m) kx q s.1 s.2) (fun i => (nI i, sg σ 15 (fb_put (σ 15) (fun t => σ 29 (f + t)) c i))) (kx (sg σ 15 (fb_put (σ 15) (fun t => σ 29 (f + t)) c m))) m (fun q i hi => ?_) (fun q => ?_) F 0 (Nat.zero_le _) (by omega)
  · dsimp only at this
    rw [fb_put_0, sg_same] at this
    exact this
  · show fX3_copyFrom_L50 29 40 44 F sh Z (nI f) (nI c) (nI m) kx (q + 1) (nI i) (sg σ 15 (fb_put (σ 15) (fun t => σ 29 (f + t)) c i)) = fX3_copyFrom_L50 29 40 44 F sh Z (nI f) (nI c) (nI m) kx q (nI (i + 1)) (sg σ 15 (fb_put (σ 15) (fun t => σ 29 (f + t)) c (i + 1)))
    rw [fX3_copyFrom_L50, nb_s, if_neg (nI_ge hi (by omega))]
    unfold fX7_read
    rw [nI_add, aI_n (by omega) (by decide), bd_s, nI_add, aS_n (by omega) (by decide), nm_s, sg_at, sg_sg, nI_clamp (by omega), nI_succ, ← fb_put_succ]
    rfl
  · show fX3_copyFrom_L50 29 40 44 F sh Z (nI f) (nI c) (nI m) kx (q + 1) (nI m) (sg σ 15 (fb_put (σ 15) (fun t => σ 29 (f + t)) c m)) = _
    rw [fX3_copyFrom_L50, nb_s, if_pos (nI_le (Nat.le_refl m) (by omega))]
theorem c_showL1 {F : Nat} {sh : Nat → Option Nat} {Z : ZT} {σ : Nat → Nat → Int32} {f c m : Nat} (hf : f + m ≤ 256) (hc : c + m ≤ 256) (hF : 300 ≤ F) (kx : (Nat → Nat → Int32) → Option (Int32 × (Nat → Nat → Int32))) : fX3_copyFrom_L50 30 41 45 F sh Z (nI f) (nI c) (nI m) kx F 0 σ = kx (sg σ 15 (fb_put (σ 15) (fun t => σ 30 (f + t)) c m)) := by
  have := lp_up (fun q (s : Int32 × (Nat → Nat → Int32)) => fX3_copyFrom_L50 30 41 45 F sh Z (nI f) (nI c) (nI m) kx q s.1 s.2) (fun i => (nI i, sg σ 15 (fb_put (σ 15) (fun t => σ 30 (f + t)) c i))) (kx (sg σ 15 (fb_put (σ 15) (fun t => σ 30 (f + t)) c m))) m (fun q i hi => ?_) (fun q => ?_) F 0 (Nat.zero_le _) (by omega)
  · dsimp only at this
    rw [fb_put_0, sg_same] at this
    exact this
  · show fX3_copyFrom_L50 30 41 45 F sh Z (nI f) (nI c) (nI m) kx (q + 1) (nI i) (sg σ 15 (fb_put (σ 15) (fun t => σ 30 (f + t)) c i)) = fX3_copyFrom_L50 30 41 45 F sh Z (nI f) (nI c) (nI m) kx q (nI (i + 1)) (sg σ 15 (fb_put (σ 15) (fun t => σ 30 (f + t)) c (i + 1)))
    rw [fX3_copyFrom_L50, nb_s, if_neg (nI_ge hi (by omega))]
    unfold fX7_read
    rw [nI_add, aI_n (by omega) (by decide), bd_s, nI_add, aS_n (by omega) (by decide), nm_s, sg_at, sg_sg, nI_clamp (by omega), nI_succ, ← fb_put_succ]
    rfl
  · show fX3_copyFrom_L50 30 41 45 F sh Z (nI f) (nI c) (nI m) kx (q + 1) (nI m) (sg σ 15 (fb_put (σ 15) (fun t => σ 30 (f + t)) c m)) = _
    rw [fX3_copyFrom_L50, nb_s, if_pos (nI_le (Nat.le_refl m) (by omega))]
theorem c_showL2 {F : Nat} {sh : Nat → Option Nat} {Z : ZT} {σ : Nat → Nat → Int32} {f c m : Nat} (hf : f + m ≤ 256) (hc : c + m ≤ 256) (hF : 300 ≤ F) (kx : (Nat → Nat → Int32) → Option (Int32 × (Nat → Nat → Int32))) : fX3_copyFrom_L50 31 42 46 F sh Z (nI f) (nI c) (nI m) kx F 0 σ = kx (sg σ 15 (fb_put (σ 15) (fun t => σ 31 (f + t)) c m)) := by
  have := lp_up (fun q (s : Int32 × (Nat → Nat → Int32)) => fX3_copyFrom_L50 31 42 46 F sh Z (nI f) (nI c) (nI m) kx q s.1 s.2) (fun i => (nI i, sg σ 15 (fb_put (σ 15) (fun t => σ 31 (f + t)) c i))) (kx (sg σ 15 (fb_put (σ 15) (fun t => σ 31 (f + t)) c m))) m (fun q i hi => ?_) (fun q => ?_) F 0 (Nat.zero_le _) (by omega)
  · dsimp only at this
    rw [fb_put_0, sg_same] at this
    exact this
  · show fX3_copyFrom_L50 31 42 46 F sh Z (nI f) (nI c) (nI m) kx (q + 1) (nI i) (sg σ 15 (fb_put (σ 15) (fun t => σ 31 (f + t)) c i)) = fX3_copyFrom_L50 31 42 46 F sh Z (nI f) (nI c) (nI m) kx q (nI (i + 1)) (sg σ 15 (fb_put (σ 15) (fun t => σ 31 (f + t)) c (i + 1)))
    rw [fX3_copyFrom_L50, nb_s, if_neg (nI_ge hi (by omega))]
    unfold fX7_read
    rw [nI_add, aI_n (by omega) (by decide), bd_s, nI_add, aS_n (by omega) (by decide), nm_s, sg_at, sg_sg, nI_clamp (by omega), nI_succ, ← fb_put_succ]
    rfl
  · show fX3_copyFrom_L50 31 42 46 F sh Z (nI f) (nI c) (nI m) kx (q + 1) (nI m) (sg σ 15 (fb_put (σ 15) (fun t => σ 31 (f + t)) c m)) = _
    rw [fX3_copyFrom_L50, nb_s, if_pos (nI_le (Nat.le_refl m) (by omega))]
theorem c_showL3 {F : Nat} {sh : Nat → Option Nat} {Z : ZT} {σ : Nat → Nat → Int32} {f c m : Nat} (hf : f + m ≤ 256) (hc : c + m ≤ 256) (hF : 300 ≤ F) (kx : (Nat → Nat → Int32) → Option (Int32 × (Nat → Nat → Int32))) : fX3_copyFrom_L50 32 43 47 F sh Z (nI f) (nI c) (nI m) kx F 0 σ = kx (sg σ 15 (fb_put (σ 15) (fun t => σ 32 (f + t)) c m)) := by
  have := lp_up (fun q (s : Int32 × (Nat → Nat → Int32)) => fX3_copyFrom_L50 32 43 47 F sh Z (nI f) (nI c) (nI m) kx q s.1 s.2) (fun i => (nI i, sg σ 15 (fb_put (σ 15) (fun t => σ 32 (f + t)) c i))) (kx (sg σ 15 (fb_put (σ 15) (fun t => σ 32 (f + t)) c m))) m (fun q i hi => ?_) (fun q => ?_) F 0 (Nat.zero_le _) (by omega)
  · dsimp only at this
    rw [fb_put_0, sg_same] at this
    exact this
  · show fX3_copyFrom_L50 32 43 47 F sh Z (nI f) (nI c) (nI m) kx (q + 1) (nI i) (sg σ 15 (fb_put (σ 15) (fun t => σ 32 (f + t)) c i)) = fX3_copyFrom_L50 32 43 47 F sh Z (nI f) (nI c) (nI m) kx q (nI (i + 1)) (sg σ 15 (fb_put (σ 15) (fun t => σ 32 (f + t)) c (i + 1)))
    rw [fX3_copyFrom_L50, nb_s, if_neg (nI_ge hi (by omega))]
    unfold fX7_read
    rw [nI_add, aI_n (by omega) (by decide), bd_s, nI_add, aS_n (by omega) (by decide), nm_s, sg_at, sg_sg, nI_clamp (by omega), nI_succ, ← fb_put_succ]
    rfl
  · show fX3_copyFrom_L50 32 43 47 F sh Z (nI f) (nI c) (nI m) kx (q + 1) (nI m) (sg σ 15 (fb_put (σ 15) (fun t => σ 32 (f + t)) c m)) = _
    rw [fX3_copyFrom_L50, nb_s, if_pos (nI_le (Nat.le_refl m) (by omega))]
theorem t_keep0 (u : SS) (v : Nat → Nat → Int32) (l : Nat) (x3 : Int32) (c m : Nat) (hcm : c + m ≤ 256) (hl : l ≤ 2) (hR : Rel PP WP u v) (h : fX11_isSheetAndLane (nI 0) (nI l) = some 1) (hx : fX12_isCells (nI c) (nI m) = some 1) (hy : fX11_areCells (nI c) (nI m) = some 1) : ∃ (F : Nat) (r : Int32) (σ2 : Nat → Nat → Int32) (v2 : Nat → Nat → Int32), fX11_keep F u.2.1 u.2.2.2 u.1 (nI 0) (nI l) x3 (nI c) (nI m) = some (r, σ2) ∧ fX12_keep F v (nI 0) (nI l) x3 (nI c) (nI m) = some (r, v2) ∧ Rel PP WP (σ2, u.2.1, u.2.2.1, u.2.2.2) v2 := by
  obtain ⟨n, K, C, T, H, B, S, hOK, hP, hC, hM, hS, hPl, hPh, hBr, s0, s1, s2, s3⟩ := id hR
  have ew : ∀ (α : Type) (k : Nat → Nat → Nat → Option α), sw4 (nI 0) k = k 29 40 44 := fun _ _ => rfl
  obtain ⟨r, e1, e2, h3⟩ := refu (KI := 29) (KL := 40) (KN := 44) (j := 0) (l := l) (m := m) (sh := u.2.1) (Z := u.2.2.2) (x3 := x3) s0 hl (by omega) (by decide)
  rcases h3 with ⟨h3, h4⟩ | ⟨rfl, f, k, g1, g2, rfl, g4, g5, g6, g7, g8⟩
  · refine ⟨0, r, u.1, v, ?_, ?_, hR⟩
    · unfold fX11_keep; rw [h, bd_s, if_neg (by decide), hy, bd_s, if_pos (by decide), ew, e1, bd_s, if_neg h4]
    · unfold fX12_keep; rw [rc_sheet, h, bd_s, if_neg (by decide), hx, bd_s, if_pos (by decide), e2, bd_s, if_neg h3]
  · refine ⟨300, nI m, sg u.1 29 (fb_put (u.1 29) (fun t => u.1 15 (c + t)) f m), sg v 26 (fb_put (v 26) (fun t => v 19 (c + t)) (256 * 0 + f) m), ?_, ?_, ?_⟩
    · unfold fX11_keep; rw [h, bd_s, if_neg (by decide), hy, bd_s, if_pos (by decide), ew, e1, bd_s, if_pos rfl, c_keepL0 hPh hl g1 (by omega) hcm (by decide)]
    · unfold fX12_keep; rw [rc_sheet, h, bd_s, if_neg (by decide), hx, bd_s, if_pos (by decide), e2, bd_s, if_pos (by decide), r_keepL (by decide) (by omega) hcm (by decide)]
    · refine ⟨n, K, C, T, H, B, S, hOK, hP, hC, hM, hS, hPl, hPh, hBr, ?_, RSht.out s1 (fun i hi => show fb_put (v 26) (fun t => v 19 (c + t)) (256 * 0 + f) m (256 * 1 + i) = v 26 (256 * 1 + i) from fb_put_out (by omega)), RSht.out s2 (fun i hi => show fb_put (v 26) (fun t => v 19 (c + t)) (256 * 0 + f) m (256 * 2 + i) = v 26 (256 * 2 + i) from fb_put_out (by omega)), RSht.out s3 (fun i hi => show fb_put (v 26) (fun t => v 19 (c + t)) (256 * 0 + f) m (256 * 3 + i) = v 26 (256 * 3 + i) from fb_put_out (by omega))⟩
      refine Or.inr ⟨l, k, hl, g5, g1, g2, g6, g7, fun i hi => ?_⟩
      show fb_put (u.1 29) (fun t => u.1 15 (c + t)) f m i = fb_put (v 26) (fun t => v 19 (c + t)) (256 * 0 + f) m (256 * 0 + i)
      by_cases e : f ≤ i ∧ i < f + m
      · rw [fb_put_in e.1 e.2, fb_put_in (by omega) (by omega), show 256 * 0 + i - (256 * 0 + f) = i - f by omega, (hPh (c + (i - f)) (by omega)).1]
      · rw [fb_put_out (by omega), fb_put_out (by omega)]; exact g8 i hi
theorem t_show0 (u : SS) (v : Nat → Nat → Int32) (l : Nat) (x3 : Int32) (c m : Nat) (hcm : c + m ≤ 256) (hl : l ≤ 2) (hR : Rel PP WP u v) (h : fX11_isSheetAndLane (nI 0) (nI l) = some 1) (hx : fX12_isCells (nI c) (nI m) = some 1) (hy : fX11_areCells (nI c) (nI m) = some 1) : ∃ (F : Nat) (r : Int32) (σ2 : Nat → Nat → Int32) (v2 : Nat → Nat → Int32), fX11_show F u.2.1 u.2.2.2 u.1 (nI 0) (nI l) x3 (nI c) (nI m) = some (r, σ2) ∧ fX12_show F v (nI 0) (nI l) x3 (nI c) (nI m) = some (r, v2) ∧ Rel PP WP (σ2, u.2.1, u.2.2.1, u.2.2.2) v2 := by
  obtain ⟨n, K, C, T, H, B, S, hOK, hP, hC, hM, hS, hPl, hPh, hBr, s0, s1, s2, s3⟩ := id hR
  have ew : ∀ (α : Type) (k : Nat → Nat → Nat → Option α), sw4 (nI 0) k = k 29 40 44 := fun _ _ => rfl
  obtain ⟨r, e1, e2, h3⟩ := refu (KI := 29) (KL := 40) (KN := 44) (j := 0) (l := l) (m := m) (sh := u.2.1) (Z := u.2.2.2) (x3 := x3) s0 hl (by omega) (by decide)
  rcases h3 with ⟨h3, h4⟩ | ⟨rfl, f, k, g1, g2, rfl, g4, g5, g6, g7, g8⟩
  · refine ⟨0, r, u.1, v, ?_, ?_, hR⟩
    · unfold fX11_show; rw [h, bd_s, if_neg (by decide), hy, bd_s, if_pos (by decide), ew, e1, bd_s, if_neg h4]
    · unfold fX12_show; rw [rc_sheet, h, bd_s, if_neg (by decide), hx, bd_s, if_pos (by decide), e2, bd_s, if_neg h3]
  · have e11 : fX11_show 300 u.2.1 u.2.2.2 u.1 (nI 0) (nI l) (nI f) (nI c) (nI m) = bd (fX3_copyFrom 29 40 44 300 u.2.1 u.2.2.2 u.1 (nI f) (nI c) (nI m)) fun (v10, σ11) => some (v10, σ11) := by
      unfold fX11_show; rw [h, bd_s, if_neg (by decide), hy, bd_s, if_pos (by decide), ew, e1, bd_s, if_pos rfl, ew]
    have e12 : fX12_show 300 v (nI 0) (nI l) (nI f) (nI c) (nI m) = fX12_show_L51 300 (nI c) (nI m) (nI (256 * 0 + f)) (fun σ8 => fX12_show_L106 300 (nI c) (nI m) (nI (256 * 0 + f)) (fun σ9 => some (nI m, σ9)) 300 0 σ8) 300 (nI 0) v := by
      unfold fX12_show; rw [rc_sheet, h, bd_s, if_neg (by decide), hx, bd_s, if_pos (by decide), e2, bd_s, if_pos (by decide), nm_s, r_ix]; rfl
    have hA : ∀ t, t < m → u.1 29 (f + t) = v 26 ((256 * 0 + f) + t) := fun t ht => (g8 (f + t) (by omega)).trans (by rw [Nat.add_assoc])
    rcases copy1 (F := 300) (KI := 29) (KL := 40) (KN := 44) (f := f) (c := c) (m := m) (p := 256 * 0 + f) (sh := u.2.1) (Z := u.2.2.2) (σ := u.1) (v := v) (by omega) (by omega) hA (fun σ1 => fX3_copyFrom_L50 29 40 44 300 u.2.1 u.2.2.2 (nI f) (nI c) (nI m) (fun σ2 => some (nI m, σ2)) 300 0 σ1) (fun σ8 => fX12_show_L106 300 (nI c) (nI m) (nI (256 * 0 + f)) (fun σ9 => some (nI m, σ9)) 300 0 σ8) 300 0 (Nat.zero_le _) (by omega) with ⟨k1, k2, k3⟩ | ⟨k1, k2⟩
    · refine ⟨300, nI m, sg u.1 15 (fb_put (u.1 15) (fun t => u.1 29 (f + t)) c m), sg v 19 (fb_put (v 19) (fun t => v 26 ((256 * 0 + f) + t)) c m), ?_, ?_, ?_⟩
      · have k1' : fX3_copyFrom 29 40 44 300 u.2.1 u.2.2.2 u.1 (nI f) (nI c) (nI m) = fX3_copyFrom_L50 29 40 44 300 u.2.1 u.2.2.2 (nI f) (nI c) (nI m) (fun σ2 => some (nI m, σ2)) 300 0 u.1 := k1
        rw [e11, k1', c_showL0 (by omega) hcm (by decide)]; rfl
      · rw [e12, k2]
        show fX12_show_L106 300 (nI c) (nI m) (nI (256 * 0 + f)) (fun σ9 => some (nI m, σ9)) 300 0 v = _
        rw [r_showL (by omega) hcm (by decide)]
      · refine ⟨n, K, C, T, H, B, S, hOK, hP, hC, hM, hS, hPl, ?_, hBr, s0, s1, s2, s3⟩
        intro d hd
        show fb_put (v 19) (fun t => v 26 ((256 * 0 + f) + t)) c m d = fb_put (u.1 15) (fun t => u.1 29 (f + t)) c m d ∧ gdp (fb_put (u.1 15) (fun t => u.1 29 (f + t)) c m d)
        by_cases e : c ≤ d ∧ d < c + m
        · rw [fb_put_in e.1 e.2, fb_put_in e.1 e.2]
          exact ⟨(hA (d - c) (by omega)).symm, k3 (d - c) (by omega) (by omega)⟩
        · rw [fb_put_out (by omega), fb_put_out (by omega)]; exact hPh d hd
    · refine ⟨300, -2, u.1, v, ?_, ?_, hR⟩
      · have k1' : fX3_copyFrom 29 40 44 300 u.2.1 u.2.2.2 u.1 (nI f) (nI c) (nI m) = some (-2, u.1) := k1
        rw [e11, k1']; rfl
      · rw [e12, k2]
theorem t_keep1 (u : SS) (v : Nat → Nat → Int32) (l : Nat) (x3 : Int32) (c m : Nat) (hcm : c + m ≤ 256) (hl : l ≤ 2) (hR : Rel PP WP u v) (h : fX11_isSheetAndLane (nI 1) (nI l) = some 1) (hx : fX12_isCells (nI c) (nI m) = some 1) (hy : fX11_areCells (nI c) (nI m) = some 1) : ∃ (F : Nat) (r : Int32) (σ2 : Nat → Nat → Int32) (v2 : Nat → Nat → Int32), fX11_keep F u.2.1 u.2.2.2 u.1 (nI 1) (nI l) x3 (nI c) (nI m) = some (r, σ2) ∧ fX12_keep F v (nI 1) (nI l) x3 (nI c) (nI m) = some (r, v2) ∧ Rel PP WP (σ2, u.2.1, u.2.2.1, u.2.2.2) v2 := by
  obtain ⟨n, K, C, T, H, B, S, hOK, hP, hC, hM, hS, hPl, hPh, hBr, s0, s1, s2, s3⟩ := id hR
  have ew : ∀ (α : Type) (k : Nat → Nat → Nat → Option α), sw4 (nI 1) k = k 30 41 45 := fun _ _ => rfl
  obtain ⟨r, e1, e2, h3⟩ := refu (KI := 30) (KL := 41) (KN := 45) (j := 1) (l := l) (m := m) (sh := u.2.1) (Z := u.2.2.2) (x3 := x3) s1 hl (by omega) (by decide)
  rcases h3 with ⟨h3, h4⟩ | ⟨rfl, f, k, g1, g2, rfl, g4, g5, g6, g7, g8⟩
  · refine ⟨0, r, u.1, v, ?_, ?_, hR⟩
    · unfold fX11_keep; rw [h, bd_s, if_neg (by decide), hy, bd_s, if_pos (by decide), ew, e1, bd_s, if_neg h4]
    · unfold fX12_keep; rw [rc_sheet, h, bd_s, if_neg (by decide), hx, bd_s, if_pos (by decide), e2, bd_s, if_neg h3]
  · refine ⟨300, nI m, sg u.1 30 (fb_put (u.1 30) (fun t => u.1 15 (c + t)) f m), sg v 26 (fb_put (v 26) (fun t => v 19 (c + t)) (256 * 1 + f) m), ?_, ?_, ?_⟩
    · unfold fX11_keep; rw [h, bd_s, if_neg (by decide), hy, bd_s, if_pos (by decide), ew, e1, bd_s, if_pos rfl, c_keepL1 hPh hl g1 (by omega) hcm (by decide)]
    · unfold fX12_keep; rw [rc_sheet, h, bd_s, if_neg (by decide), hx, bd_s, if_pos (by decide), e2, bd_s, if_pos (by decide), r_keepL (by decide) (by omega) hcm (by decide)]
    · refine ⟨n, K, C, T, H, B, S, hOK, hP, hC, hM, hS, hPl, hPh, hBr, RSht.out s0 (fun i hi => show fb_put (v 26) (fun t => v 19 (c + t)) (256 * 1 + f) m (256 * 0 + i) = v 26 (256 * 0 + i) from fb_put_out (by omega)), ?_, RSht.out s2 (fun i hi => show fb_put (v 26) (fun t => v 19 (c + t)) (256 * 1 + f) m (256 * 2 + i) = v 26 (256 * 2 + i) from fb_put_out (by omega)), RSht.out s3 (fun i hi => show fb_put (v 26) (fun t => v 19 (c + t)) (256 * 1 + f) m (256 * 3 + i) = v 26 (256 * 3 + i) from fb_put_out (by omega))⟩
      refine Or.inr ⟨l, k, hl, g5, g1, g2, g6, g7, fun i hi => ?_⟩
      show fb_put (u.1 30) (fun t => u.1 15 (c + t)) f m i = fb_put (v 26) (fun t => v 19 (c + t)) (256 * 1 + f) m (256 * 1 + i)
      by_cases e : f ≤ i ∧ i < f + m
      · rw [fb_put_in e.1 e.2, fb_put_in (by omega) (by omega), show 256 * 1 + i - (256 * 1 + f) = i - f by omega, (hPh (c + (i - f)) (by omega)).1]
      · rw [fb_put_out (by omega), fb_put_out (by omega)]; exact g8 i hi
theorem t_show1 (u : SS) (v : Nat → Nat → Int32) (l : Nat) (x3 : Int32) (c m : Nat) (hcm : c + m ≤ 256) (hl : l ≤ 2) (hR : Rel PP WP u v) (h : fX11_isSheetAndLane (nI 1) (nI l) = some 1) (hx : fX12_isCells (nI c) (nI m) = some 1) (hy : fX11_areCells (nI c) (nI m) = some 1) : ∃ (F : Nat) (r : Int32) (σ2 : Nat → Nat → Int32) (v2 : Nat → Nat → Int32), fX11_show F u.2.1 u.2.2.2 u.1 (nI 1) (nI l) x3 (nI c) (nI m) = some (r, σ2) ∧ fX12_show F v (nI 1) (nI l) x3 (nI c) (nI m) = some (r, v2) ∧ Rel PP WP (σ2, u.2.1, u.2.2.1, u.2.2.2) v2 := by
  obtain ⟨n, K, C, T, H, B, S, hOK, hP, hC, hM, hS, hPl, hPh, hBr, s0, s1, s2, s3⟩ := id hR
  have ew : ∀ (α : Type) (k : Nat → Nat → Nat → Option α), sw4 (nI 1) k = k 30 41 45 := fun _ _ => rfl
  obtain ⟨r, e1, e2, h3⟩ := refu (KI := 30) (KL := 41) (KN := 45) (j := 1) (l := l) (m := m) (sh := u.2.1) (Z := u.2.2.2) (x3 := x3) s1 hl (by omega) (by decide)
  rcases h3 with ⟨h3, h4⟩ | ⟨rfl, f, k, g1, g2, rfl, g4, g5, g6, g7, g8⟩
  · refine ⟨0, r, u.1, v, ?_, ?_, hR⟩
    · unfold fX11_show; rw [h, bd_s, if_neg (by decide), hy, bd_s, if_pos (by decide), ew, e1, bd_s, if_neg h4]
    · unfold fX12_show; rw [rc_sheet, h, bd_s, if_neg (by decide), hx, bd_s, if_pos (by decide), e2, bd_s, if_neg h3]
  · have e11 : fX11_show 300 u.2.1 u.2.2.2 u.1 (nI 1) (nI l) (nI f) (nI c) (nI m) = bd (fX3_copyFrom 30 41 45 300 u.2.1 u.2.2.2 u.1 (nI f) (nI c) (nI m)) fun (v10, σ11) => some (v10, σ11) := by
      unfold fX11_show; rw [h, bd_s, if_neg (by decide), hy, bd_s, if_pos (by decide), ew, e1, bd_s, if_pos rfl, ew]
    have e12 : fX12_show 300 v (nI 1) (nI l) (nI f) (nI c) (nI m) = fX12_show_L51 300 (nI c) (nI m) (nI (256 * 1 + f)) (fun σ8 => fX12_show_L106 300 (nI c) (nI m) (nI (256 * 1 + f)) (fun σ9 => some (nI m, σ9)) 300 0 σ8) 300 (nI 0) v := by
      unfold fX12_show; rw [rc_sheet, h, bd_s, if_neg (by decide), hx, bd_s, if_pos (by decide), e2, bd_s, if_pos (by decide), nm_s, r_ix]; rfl
    have hA : ∀ t, t < m → u.1 30 (f + t) = v 26 ((256 * 1 + f) + t) := fun t ht => (g8 (f + t) (by omega)).trans (by rw [Nat.add_assoc])
    rcases copy1 (F := 300) (KI := 30) (KL := 41) (KN := 45) (f := f) (c := c) (m := m) (p := 256 * 1 + f) (sh := u.2.1) (Z := u.2.2.2) (σ := u.1) (v := v) (by omega) (by omega) hA (fun σ1 => fX3_copyFrom_L50 30 41 45 300 u.2.1 u.2.2.2 (nI f) (nI c) (nI m) (fun σ2 => some (nI m, σ2)) 300 0 σ1) (fun σ8 => fX12_show_L106 300 (nI c) (nI m) (nI (256 * 1 + f)) (fun σ9 => some (nI m, σ9)) 300 0 σ8) 300 0 (Nat.zero_le _) (by omega) with ⟨k1, k2, k3⟩ | ⟨k1, k2⟩
    · refine ⟨300, nI m, sg u.1 15 (fb_put (u.1 15) (fun t => u.1 30 (f + t)) c m), sg v 19 (fb_put (v 19) (fun t => v 26 ((256 * 1 + f) + t)) c m), ?_, ?_, ?_⟩
      · have k1' : fX3_copyFrom 30 41 45 300 u.2.1 u.2.2.2 u.1 (nI f) (nI c) (nI m) = fX3_copyFrom_L50 30 41 45 300 u.2.1 u.2.2.2 (nI f) (nI c) (nI m) (fun σ2 => some (nI m, σ2)) 300 0 u.1 := k1
        rw [e11, k1', c_showL1 (by omega) hcm (by decide)]; rfl
      · rw [e12, k2]
        show fX12_show_L106 300 (nI c) (nI m) (nI (256 * 1 + f)) (fun σ9 => some (nI m, σ9)) 300 0 v = _
        rw [r_showL (by omega) hcm (by decide)]
      · refine ⟨n, K, C, T, H, B, S, hOK, hP, hC, hM, hS, hPl, ?_, hBr, s0, s1, s2, s3⟩
        intro d hd
        show fb_put (v 19) (fun t => v 26 ((256 * 1 + f) + t)) c m d = fb_put (u.1 15) (fun t => u.1 30 (f + t)) c m d ∧ gdp (fb_put (u.1 15) (fun t => u.1 30 (f + t)) c m d)
        by_cases e : c ≤ d ∧ d < c + m
        · rw [fb_put_in e.1 e.2, fb_put_in e.1 e.2]
          exact ⟨(hA (d - c) (by omega)).symm, k3 (d - c) (by omega) (by omega)⟩
        · rw [fb_put_out (by omega), fb_put_out (by omega)]; exact hPh d hd
    · refine ⟨300, -2, u.1, v, ?_, ?_, hR⟩
      · have k1' : fX3_copyFrom 30 41 45 300 u.2.1 u.2.2.2 u.1 (nI f) (nI c) (nI m) = some (-2, u.1) := k1
        rw [e11, k1']; rfl
      · rw [e12, k2]
theorem t_keep2 (u : SS) (v : Nat → Nat → Int32) (l : Nat) (x3 : Int32) (c m : Nat) (hcm : c + m ≤ 256) (hl : l ≤ 2) (hR : Rel PP WP u v) (h : fX11_isSheetAndLane (nI 2) (nI l) = some 1) (hx : fX12_isCells (nI c) (nI m) = some 1) (hy : fX11_areCells (nI c) (nI m) = some 1) : ∃ (F : Nat) (r : Int32) (σ2 : Nat → Nat → Int32) (v2 : Nat → Nat → Int32), fX11_keep F u.2.1 u.2.2.2 u.1 (nI 2) (nI l) x3 (nI c) (nI m) = some (r, σ2) ∧ fX12_keep F v (nI 2) (nI l) x3 (nI c) (nI m) = some (r, v2) ∧ Rel PP WP (σ2, u.2.1, u.2.2.1, u.2.2.2) v2 := by
  obtain ⟨n, K, C, T, H, B, S, hOK, hP, hC, hM, hS, hPl, hPh, hBr, s0, s1, s2, s3⟩ := id hR
  have ew : ∀ (α : Type) (k : Nat → Nat → Nat → Option α), sw4 (nI 2) k = k 31 42 46 := fun _ _ => rfl
  obtain ⟨r, e1, e2, h3⟩ := refu (KI := 31) (KL := 42) (KN := 46) (j := 2) (l := l) (m := m) (sh := u.2.1) (Z := u.2.2.2) (x3 := x3) s2 hl (by omega) (by decide)
  rcases h3 with ⟨h3, h4⟩ | ⟨rfl, f, k, g1, g2, rfl, g4, g5, g6, g7, g8⟩
  · refine ⟨0, r, u.1, v, ?_, ?_, hR⟩
    · unfold fX11_keep; rw [h, bd_s, if_neg (by decide), hy, bd_s, if_pos (by decide), ew, e1, bd_s, if_neg h4]
    · unfold fX12_keep; rw [rc_sheet, h, bd_s, if_neg (by decide), hx, bd_s, if_pos (by decide), e2, bd_s, if_neg h3]
  · refine ⟨300, nI m, sg u.1 31 (fb_put (u.1 31) (fun t => u.1 15 (c + t)) f m), sg v 26 (fb_put (v 26) (fun t => v 19 (c + t)) (256 * 2 + f) m), ?_, ?_, ?_⟩
    · unfold fX11_keep; rw [h, bd_s, if_neg (by decide), hy, bd_s, if_pos (by decide), ew, e1, bd_s, if_pos rfl, c_keepL2 hPh hl g1 (by omega) hcm (by decide)]
    · unfold fX12_keep; rw [rc_sheet, h, bd_s, if_neg (by decide), hx, bd_s, if_pos (by decide), e2, bd_s, if_pos (by decide), r_keepL (by decide) (by omega) hcm (by decide)]
    · refine ⟨n, K, C, T, H, B, S, hOK, hP, hC, hM, hS, hPl, hPh, hBr, RSht.out s0 (fun i hi => show fb_put (v 26) (fun t => v 19 (c + t)) (256 * 2 + f) m (256 * 0 + i) = v 26 (256 * 0 + i) from fb_put_out (by omega)), RSht.out s1 (fun i hi => show fb_put (v 26) (fun t => v 19 (c + t)) (256 * 2 + f) m (256 * 1 + i) = v 26 (256 * 1 + i) from fb_put_out (by omega)), ?_, RSht.out s3 (fun i hi => show fb_put (v 26) (fun t => v 19 (c + t)) (256 * 2 + f) m (256 * 3 + i) = v 26 (256 * 3 + i) from fb_put_out (by omega))⟩
      refine Or.inr ⟨l, k, hl, g5, g1, g2, g6, g7, fun i hi => ?_⟩
      show fb_put (u.1 31) (fun t => u.1 15 (c + t)) f m i = fb_put (v 26) (fun t => v 19 (c + t)) (256 * 2 + f) m (256 * 2 + i)
      by_cases e : f ≤ i ∧ i < f + m
      · rw [fb_put_in e.1 e.2, fb_put_in (by omega) (by omega), show 256 * 2 + i - (256 * 2 + f) = i - f by omega, (hPh (c + (i - f)) (by omega)).1]
      · rw [fb_put_out (by omega), fb_put_out (by omega)]; exact g8 i hi
theorem t_show2 (u : SS) (v : Nat → Nat → Int32) (l : Nat) (x3 : Int32) (c m : Nat) (hcm : c + m ≤ 256) (hl : l ≤ 2) (hR : Rel PP WP u v) (h : fX11_isSheetAndLane (nI 2) (nI l) = some 1) (hx : fX12_isCells (nI c) (nI m) = some 1) (hy : fX11_areCells (nI c) (nI m) = some 1) : ∃ (F : Nat) (r : Int32) (σ2 : Nat → Nat → Int32) (v2 : Nat → Nat → Int32), fX11_show F u.2.1 u.2.2.2 u.1 (nI 2) (nI l) x3 (nI c) (nI m) = some (r, σ2) ∧ fX12_show F v (nI 2) (nI l) x3 (nI c) (nI m) = some (r, v2) ∧ Rel PP WP (σ2, u.2.1, u.2.2.1, u.2.2.2) v2 := by
  obtain ⟨n, K, C, T, H, B, S, hOK, hP, hC, hM, hS, hPl, hPh, hBr, s0, s1, s2, s3⟩ := id hR
  have ew : ∀ (α : Type) (k : Nat → Nat → Nat → Option α), sw4 (nI 2) k = k 31 42 46 := fun _ _ => rfl
  obtain ⟨r, e1, e2, h3⟩ := refu (KI := 31) (KL := 42) (KN := 46) (j := 2) (l := l) (m := m) (sh := u.2.1) (Z := u.2.2.2) (x3 := x3) s2 hl (by omega) (by decide)
  rcases h3 with ⟨h3, h4⟩ | ⟨rfl, f, k, g1, g2, rfl, g4, g5, g6, g7, g8⟩
  · refine ⟨0, r, u.1, v, ?_, ?_, hR⟩
    · unfold fX11_show; rw [h, bd_s, if_neg (by decide), hy, bd_s, if_pos (by decide), ew, e1, bd_s, if_neg h4]
    · unfold fX12_show; rw [rc_sheet, h, bd_s, if_neg (by decide), hx, bd_s, if_pos (by decide), e2, bd_s, if_neg h3]
  · have e11 : fX11_show 300 u.2.1 u.2.2.2 u.1 (nI 2) (nI l) (nI f) (nI c) (nI m) = bd (fX3_copyFrom 31 42 46 300 u.2.1 u.2.2.2 u.1 (nI f) (nI c) (nI m)) fun (v10, σ11) => some (v10, σ11) := by
      unfold fX11_show; rw [h, bd_s, if_neg (by decide), hy, bd_s, if_pos (by decide), ew, e1, bd_s, if_pos rfl, ew]
    have e12 : fX12_show 300 v (nI 2) (nI l) (nI f) (nI c) (nI m) = fX12_show_L51 300 (nI c) (nI m) (nI (256 * 2 + f)) (fun σ8 => fX12_show_L106 300 (nI c) (nI m) (nI (256 * 2 + f)) (fun σ9 => some (nI m, σ9)) 300 0 σ8) 300 (nI 0) v := by
      unfold fX12_show; rw [rc_sheet, h, bd_s, if_neg (by decide), hx, bd_s, if_pos (by decide), e2, bd_s, if_pos (by decide), nm_s, r_ix]; rfl
    have hA : ∀ t, t < m → u.1 31 (f + t) = v 26 ((256 * 2 + f) + t) := fun t ht => (g8 (f + t) (by omega)).trans (by rw [Nat.add_assoc])
    rcases copy1 (F := 300) (KI := 31) (KL := 42) (KN := 46) (f := f) (c := c) (m := m) (p := 256 * 2 + f) (sh := u.2.1) (Z := u.2.2.2) (σ := u.1) (v := v) (by omega) (by omega) hA (fun σ1 => fX3_copyFrom_L50 31 42 46 300 u.2.1 u.2.2.2 (nI f) (nI c) (nI m) (fun σ2 => some (nI m, σ2)) 300 0 σ1) (fun σ8 => fX12_show_L106 300 (nI c) (nI m) (nI (256 * 2 + f)) (fun σ9 => some (nI m, σ9)) 300 0 σ8) 300 0 (Nat.zero_le _) (by omega) with ⟨k1, k2, k3⟩ | ⟨k1, k2⟩
    · refine ⟨300, nI m, sg u.1 15 (fb_put (u.1 15) (fun t => u.1 31 (f + t)) c m), sg v 19 (fb_put (v 19) (fun t => v 26 ((256 * 2 + f) + t)) c m), ?_, ?_, ?_⟩
      · have k1' : fX3_copyFrom 31 42 46 300 u.2.1 u.2.2.2 u.1 (nI f) (nI c) (nI m) = fX3_copyFrom_L50 31 42 46 300 u.2.1 u.2.2.2 (nI f) (nI c) (nI m) (fun σ2 => some (nI m, σ2)) 300 0 u.1 := k1
        rw [e11, k1', c_showL2 (by omega) hcm (by decide)]; rfl
      · rw [e12, k2]
        show fX12_show_L106 300 (nI c) (nI m) (nI (256 * 2 + f)) (fun σ9 => some (nI m, σ9)) 300 0 v = _
        rw [r_showL (by omega) hcm (by decide)]
      · refine ⟨n, K, C, T, H, B, S, hOK, hP, hC, hM, hS, hPl, ?_, hBr, s0, s1, s2, s3⟩
        intro d hd
        show fb_put (v 19) (fun t => v 26 ((256 * 2 + f) + t)) c m d = fb_put (u.1 15) (fun t => u.1 31 (f + t)) c m d ∧ gdp (fb_put (u.1 15) (fun t => u.1 31 (f + t)) c m d)
        by_cases e : c ≤ d ∧ d < c + m
        · rw [fb_put_in e.1 e.2, fb_put_in e.1 e.2]
          exact ⟨(hA (d - c) (by omega)).symm, k3 (d - c) (by omega) (by omega)⟩
        · rw [fb_put_out (by omega), fb_put_out (by omega)]; exact hPh d hd
    · refine ⟨300, -2, u.1, v, ?_, ?_, hR⟩
      · have k1' : fX3_copyFrom 31 42 46 300 u.2.1 u.2.2.2 u.1 (nI f) (nI c) (nI m) = some (-2, u.1) := k1
        rw [e11, k1']; rfl
      · rw [e12, k2]
theorem t_keep3 (u : SS) (v : Nat → Nat → Int32) (l : Nat) (x3 : Int32) (c m : Nat) (hcm : c + m ≤ 256) (hl : l ≤ 2) (hR : Rel PP WP u v) (h : fX11_isSheetAndLane (nI 3) (nI l) = some 1) (hx : fX12_isCells (nI c) (nI m) = some 1) (hy : fX11_areCells (nI c) (nI m) = some 1) : ∃ (F : Nat) (r : Int32) (σ2 : Nat → Nat → Int32) (v2 : Nat → Nat → Int32), fX11_keep F u.2.1 u.2.2.2 u.1 (nI 3) (nI l) x3 (nI c) (nI m) = some (r, σ2) ∧ fX12_keep F v (nI 3) (nI l) x3 (nI c) (nI m) = some (r, v2) ∧ Rel PP WP (σ2, u.2.1, u.2.2.1, u.2.2.2) v2 := by
  obtain ⟨n, K, C, T, H, B, S, hOK, hP, hC, hM, hS, hPl, hPh, hBr, s0, s1, s2, s3⟩ := id hR
  have ew : ∀ (α : Type) (k : Nat → Nat → Nat → Option α), sw4 (nI 3) k = k 32 43 47 := fun _ _ => rfl
  obtain ⟨r, e1, e2, h3⟩ := refu (KI := 32) (KL := 43) (KN := 47) (j := 3) (l := l) (m := m) (sh := u.2.1) (Z := u.2.2.2) (x3 := x3) s3 hl (by omega) (by decide)
  rcases h3 with ⟨h3, h4⟩ | ⟨rfl, f, k, g1, g2, rfl, g4, g5, g6, g7, g8⟩
  · refine ⟨0, r, u.1, v, ?_, ?_, hR⟩
    · unfold fX11_keep; rw [h, bd_s, if_neg (by decide), hy, bd_s, if_pos (by decide), ew, e1, bd_s, if_neg h4]
    · unfold fX12_keep; rw [rc_sheet, h, bd_s, if_neg (by decide), hx, bd_s, if_pos (by decide), e2, bd_s, if_neg h3]
  · refine ⟨300, nI m, sg u.1 32 (fb_put (u.1 32) (fun t => u.1 15 (c + t)) f m), sg v 26 (fb_put (v 26) (fun t => v 19 (c + t)) (256 * 3 + f) m), ?_, ?_, ?_⟩
    · unfold fX11_keep; rw [h, bd_s, if_neg (by decide), hy, bd_s, if_pos (by decide), ew, e1, bd_s, if_pos rfl, c_keepL3 hPh hl g1 (by omega) hcm (by decide)]
    · unfold fX12_keep; rw [rc_sheet, h, bd_s, if_neg (by decide), hx, bd_s, if_pos (by decide), e2, bd_s, if_pos (by decide), r_keepL (by decide) (by omega) hcm (by decide)]
    · refine ⟨n, K, C, T, H, B, S, hOK, hP, hC, hM, hS, hPl, hPh, hBr, RSht.out s0 (fun i hi => show fb_put (v 26) (fun t => v 19 (c + t)) (256 * 3 + f) m (256 * 0 + i) = v 26 (256 * 0 + i) from fb_put_out (by omega)), RSht.out s1 (fun i hi => show fb_put (v 26) (fun t => v 19 (c + t)) (256 * 3 + f) m (256 * 1 + i) = v 26 (256 * 1 + i) from fb_put_out (by omega)), RSht.out s2 (fun i hi => show fb_put (v 26) (fun t => v 19 (c + t)) (256 * 3 + f) m (256 * 2 + i) = v 26 (256 * 2 + i) from fb_put_out (by omega)), ?_⟩
      refine Or.inr ⟨l, k, hl, g5, g1, g2, g6, g7, fun i hi => ?_⟩
      show fb_put (u.1 32) (fun t => u.1 15 (c + t)) f m i = fb_put (v 26) (fun t => v 19 (c + t)) (256 * 3 + f) m (256 * 3 + i)
      by_cases e : f ≤ i ∧ i < f + m
      · rw [fb_put_in e.1 e.2, fb_put_in (by omega) (by omega), show 256 * 3 + i - (256 * 3 + f) = i - f by omega, (hPh (c + (i - f)) (by omega)).1]
      · rw [fb_put_out (by omega), fb_put_out (by omega)]; exact g8 i hi
theorem t_show3 (u : SS) (v : Nat → Nat → Int32) (l : Nat) (x3 : Int32) (c m : Nat) (hcm : c + m ≤ 256) (hl : l ≤ 2) (hR : Rel PP WP u v) (h : fX11_isSheetAndLane (nI 3) (nI l) = some 1) (hx : fX12_isCells (nI c) (nI m) = some 1) (hy : fX11_areCells (nI c) (nI m) = some 1) : ∃ (F : Nat) (r : Int32) (σ2 : Nat → Nat → Int32) (v2 : Nat → Nat → Int32), fX11_show F u.2.1 u.2.2.2 u.1 (nI 3) (nI l) x3 (nI c) (nI m) = some (r, σ2) ∧ fX12_show F v (nI 3) (nI l) x3 (nI c) (nI m) = some (r, v2) ∧ Rel PP WP (σ2, u.2.1, u.2.2.1, u.2.2.2) v2 := by
  obtain ⟨n, K, C, T, H, B, S, hOK, hP, hC, hM, hS, hPl, hPh, hBr, s0, s1, s2, s3⟩ := id hR
  have ew : ∀ (α : Type) (k : Nat → Nat → Nat → Option α), sw4 (nI 3) k = k 32 43 47 := fun _ _ => rfl
  obtain ⟨r, e1, e2, h3⟩ := refu (KI := 32) (KL := 43) (KN := 47) (j := 3) (l := l) (m := m) (sh := u.2.1) (Z := u.2.2.2) (x3 := x3) s3 hl (by omega) (by decide)
  rcases h3 with ⟨h3, h4⟩ | ⟨rfl, f, k, g1, g2, rfl, g4, g5, g6, g7, g8⟩
  · refine ⟨0, r, u.1, v, ?_, ?_, hR⟩
    · unfold fX11_show; rw [h, bd_s, if_neg (by decide), hy, bd_s, if_pos (by decide), ew, e1, bd_s, if_neg h4]
    · unfold fX12_show; rw [rc_sheet, h, bd_s, if_neg (by decide), hx, bd_s, if_pos (by decide), e2, bd_s, if_neg h3]
  · have e11 : fX11_show 300 u.2.1 u.2.2.2 u.1 (nI 3) (nI l) (nI f) (nI c) (nI m) = bd (fX3_copyFrom 32 43 47 300 u.2.1 u.2.2.2 u.1 (nI f) (nI c) (nI m)) fun (v10, σ11) => some (v10, σ11) := by
      unfold fX11_show; rw [h, bd_s, if_neg (by decide), hy, bd_s, if_pos (by decide), ew, e1, bd_s, if_pos rfl, ew]
    have e12 : fX12_show 300 v (nI 3) (nI l) (nI f) (nI c) (nI m) = fX12_show_L51 300 (nI c) (nI m) (nI (256 * 3 + f)) (fun σ8 => fX12_show_L106 300 (nI c) (nI m) (nI (256 * 3 + f)) (fun σ9 => some (nI m, σ9)) 300 0 σ8) 300 (nI 0) v := by
      unfold fX12_show; rw [rc_sheet, h, bd_s, if_neg (by decide), hx, bd_s, if_pos (by decide), e2, bd_s, if_pos (by decide), nm_s, r_ix]; rfl
    have hA : ∀ t, t < m → u.1 32 (f + t) = v 26 ((256 * 3 + f) + t) := fun t ht => (g8 (f + t) (by omega)).trans (by rw [Nat.add_assoc])
    rcases copy1 (F := 300) (KI := 32) (KL := 43) (KN := 47) (f := f) (c := c) (m := m) (p := 256 * 3 + f) (sh := u.2.1) (Z := u.2.2.2) (σ := u.1) (v := v) (by omega) (by omega) hA (fun σ1 => fX3_copyFrom_L50 32 43 47 300 u.2.1 u.2.2.2 (nI f) (nI c) (nI m) (fun σ2 => some (nI m, σ2)) 300 0 σ1) (fun σ8 => fX12_show_L106 300 (nI c) (nI m) (nI (256 * 3 + f)) (fun σ9 => some (nI m, σ9)) 300 0 σ8) 300 0 (Nat.zero_le _) (by omega) with ⟨k1, k2, k3⟩ | ⟨k1, k2⟩
    · refine ⟨300, nI m, sg u.1 15 (fb_put (u.1 15) (fun t => u.1 32 (f + t)) c m), sg v 19 (fb_put (v 19) (fun t => v 26 ((256 * 3 + f) + t)) c m), ?_, ?_, ?_⟩
      · have k1' : fX3_copyFrom 32 43 47 300 u.2.1 u.2.2.2 u.1 (nI f) (nI c) (nI m) = fX3_copyFrom_L50 32 43 47 300 u.2.1 u.2.2.2 (nI f) (nI c) (nI m) (fun σ2 => some (nI m, σ2)) 300 0 u.1 := k1
        rw [e11, k1', c_showL3 (by omega) hcm (by decide)]; rfl
      · rw [e12, k2]
        show fX12_show_L106 300 (nI c) (nI m) (nI (256 * 3 + f)) (fun σ9 => some (nI m, σ9)) 300 0 v = _
        rw [r_showL (by omega) hcm (by decide)]
      · refine ⟨n, K, C, T, H, B, S, hOK, hP, hC, hM, hS, hPl, ?_, hBr, s0, s1, s2, s3⟩
        intro d hd
        show fb_put (v 19) (fun t => v 26 ((256 * 3 + f) + t)) c m d = fb_put (u.1 15) (fun t => u.1 32 (f + t)) c m d ∧ gdp (fb_put (u.1 15) (fun t => u.1 32 (f + t)) c m d)
        by_cases e : c ≤ d ∧ d < c + m
        · rw [fb_put_in e.1 e.2, fb_put_in e.1 e.2]
          exact ⟨(hA (d - c) (by omega)).symm, k3 (d - c) (by omega) (by omega)⟩
        · rw [fb_put_out (by omega), fb_put_out (by omega)]; exact hPh d hd
    · refine ⟨300, -2, u.1, v, ?_, ?_, hR⟩
      · have k1' : fX3_copyFrom 32 43 47 300 u.2.1 u.2.2.2 u.1 (nI f) (nI c) (nI m) = some (-2, u.1) := k1
        rw [e11, k1']; rfl
      · rw [e12, k2]
theorem t_keep : st_keep (Rel PP WP) := by
  intro u v x1 x2 x3 x4 x5 hR
  rcases isS x1 x2 with h | ⟨h, a, l, ha, hl, rfl, rfl⟩
  · refine ⟨0, -1, u.1, v, ?_, ?_, hR⟩
    · unfold fX11_keep; rw [h]; rfl
    · unfold fX12_keep; rw [rc_sheet, h]; rfl
  · rcases isCs x4 x5 with ⟨hx, hy⟩ | ⟨hx, hy, c, m, hcm, rfl, rfl⟩
    · refine ⟨0, -1, u.1, v, ?_, ?_, hR⟩
      · unfold fX11_keep; rw [h, bd_s, if_neg (by decide), hy]; rfl
      · unfold fX12_keep; rw [rc_sheet, h, bd_s, if_neg (by decide), hx]; rfl
    · rcases (by omega : a = 0 ∨ a = 1 ∨ a = 2 ∨ a = 3) with rfl | rfl | rfl | rfl
      · exact t_keep0 u v l x3 c m hcm hl hR h hx hy
      · exact t_keep1 u v l x3 c m hcm hl hR h hx hy
      · exact t_keep2 u v l x3 c m hcm hl hR h hx hy
      · exact t_keep3 u v l x3 c m hcm hl hR h hx hy
theorem t_show : st_show (Rel PP WP) := by
  intro u v x1 x2 x3 x4 x5 hR
  rcases isS x1 x2 with h | ⟨h, a, l, ha, hl, rfl, rfl⟩
  · refine ⟨0, -1, u.1, v, ?_, ?_, hR⟩
    · unfold fX11_show; rw [h]; rfl
    · unfold fX12_show; rw [rc_sheet, h]; rfl
  · rcases isCs x4 x5 with ⟨hx, hy⟩ | ⟨hx, hy, c, m, hcm, rfl, rfl⟩
    · refine ⟨0, -1, u.1, v, ?_, ?_, hR⟩
      · unfold fX11_show; rw [h, bd_s, if_neg (by decide), hy]; rfl
      · unfold fX12_show; rw [rc_sheet, h, bd_s, if_neg (by decide), hx]; rfl
    · rcases (by omega : a = 0 ∨ a = 1 ∨ a = 2 ∨ a = 3) with rfl | rfl | rfl | rfl
      · exact t_show0 u v l x3 c m hcm hl hR h hx hy
      · exact t_show1 u v l x3 c m hcm hl hR h hx hy
      · exact t_show2 u v l x3 c m hcm hl hR h hx hy
      · exact t_show3 u v l x3 c m hcm hl hR h hx hy
theorem catL {F m : Nat} {sh : Nat → Option Nat} {Z : ZT} {x1 x2 x3 x4 : Int32} (hm : m ≤ 15) : ∀ N i (cnt : Int32) (σ v : Nat → Nat → Int32), RPh (σ 15) (v 19) → i ≤ m + 1 → m + 1 - i < N → ∃ (r : Int32) (g h : Nat → Int32), fX11_cat_L36 F sh Z x1 x2 x3 x4 (nI m) (fun y7 σ8 => some (y7, σ8)) N cnt (nI i) σ = some (r, sg σ 15 g) ∧ fX12_cat_L63 F x1 x2 x3 x4 (nI m) (fun y10 σ11 => some (y10, σ11)) N cnt (nI i) v = some (r, sg v 19 h) ∧ RPh g h := by
  intro N
  induction N with
  | zero => intro i _ _ _ _ _ h; omega
  | succ N ih =>
    intro i cnt σ v hPh hi hN
    rw [fX11_cat_L36, fX12_cat_L63, nb_s, nb_s]
    rcases Nat.lt_or_ge m i with q | q
    · rw [if_pos (nI_lt q (by omega)), if_pos (nI_lt q (by omega))]
      exact ⟨cnt, σ 15, v 19, by rw [sg_same], by rw [sg_same], hPh⟩
    · rw [if_neg (nI_nlt q (by omega)), if_neg (nI_nlt q (by omega)), rc_cell]
      rcases isC (x1 + nI i * x3) (x2 + nI i * x4) with h | ⟨h, a, b, ha, hb, ea, eb⟩
      · rw [h]
        exact ⟨cnt, σ 15, v 19, by rw [sg_same]; rfl, by rw [sg_same]; rfl, hPh⟩
      · have e : (((16 : Int32) * (x2 + nI i * x4)) + x1) + nI i * x3 = nI (16 * b + a) := by
          rw [Int32.add_assoc, ea, eb, ix16]
        rw [h, bd_s, bd_s, if_neg (by decide), if_neg (by decide), e]
        unfold fX3_smearCell
        rw [nm_s, aI_n (by omega) (by decide), aS_n (by omega) (by decide), aI_n (by omega) (by decide), (hPh _ (by omega)).1, nm_s, bd_s, nI_clamp (by omega)]
        have hP2 : RPh (sg σ 15 (upd (σ 15) (16 * b + a) (-5)) 15) (sg v 19 (upd (v 19) (16 * b + a) (-5)) 19) := hPh.upd _ (Or.inl rfl)
        by_cases h5 : σ 15 (16 * b + a) = -5
        · obtain ⟨r, g, g2, k1, k2, k3⟩ := ih (i + 1) cnt (sg σ 15 (upd (σ 15) (16 * b + a) (-5))) (sg v 19 (upd (v 19) (16 * b + a) (-5))) hP2 (by omega) (by omega)
          rw [sg_sg] at k1
          rw [sg_sg] at k2
          refine ⟨r, g, g2, ?_, ?_, k3⟩
          · rw [← k1]
            show (if σ 15 (16 * b + a) = -5 then _ else _) = _
            rw [if_pos h5]
            unfold fX11_cat_J94
            rw [nI_1]
          · rw [if_neg (fun z => z h5)]
            unfold fX12_cat_J127
            rw [aS_n (by omega) (by decide), nm_s, nI_clamp (by omega), nI_1, Int32.add_zero]
            exact k2
        · obtain ⟨r, g, g2, k1, k2, k3⟩ := ih (i + 1) (cnt + 1) (sg σ 15 (upd (σ 15) (16 * b + a) (-5))) (sg v 19 (upd (v 19) (16 * b + a) (-5))) hP2 (by omega) (by omega)
          rw [sg_sg] at k1
          rw [sg_sg] at k2
          refine ⟨r, g, g2, ?_, ?_, k3⟩
          · rw [← k1]
            show (if σ 15 (16 * b + a) = -5 then _ else _) = _
            rw [if_neg h5]
            unfold fX11_cat_J94
            rw [nI_1]
          · rw [if_pos h5]
            unfold fX12_cat_J127
            rw [aS_n (by omega) (by decide), nm_s, nI_clamp (by omega), nI_1]
            exact k2
theorem w2 (x y : Int32) : fX11_within x y 1 = some 0 ∨ fX11_within x y 1 = some 1 := by
  rw [c_within]
  cases decide (y ≤ x ∧ x ≤ 1)
  · exact Or.inl rfl
  · exact Or.inr rfl
theorem t_cat : st_cat (Rel PP WP) := by
  intro u v x1 x2 x3 x4 x5 hR
  obtain ⟨n, K, C, T, H, B, S, hOK, hP, hC, hM, hS, hPl, hPh, hRest⟩ := id hR
  have ei : ∀ x : Int32, fX12_in x.toInt64 ((-1) : Int64) (1 : Int64) = fX11_within x (-1) 1 := fun x => r_inw x (-1) 1
  have ei5 : fX12_in x5.toInt64 (0 : Int64) (15 : Int64) = fX11_within x5 0 (nI 15) := r_inw x5 0 15
  have bad : (fX11_cat 20 u.2.1 u.2.2.2 u.1 x1 x2 x3 x4 x5 = some (-1, u.1) ∧ fX12_cat 20 v x1 x2 x3 x4 x5 = some (-1, v)) → ∃ (F : Nat) (r : Int32) (σ2 : Nat → Nat → Int32) (v2 : Nat → Nat → Int32), fX11_cat F u.2.1 u.2.2.2 u.1 x1 x2 x3 x4 x5 = some (r, σ2) ∧ fX12_cat F v x1 x2 x3 x4 x5 = some (r, v2) ∧ Rel PP WP (σ2, u.2.1, u.2.2.1, u.2.2.2) v2 := fun q => ⟨20, -1, u.1, v, q.1, q.2, hR⟩
  have fin : fX11_isCell x1 x2 = some 1 → fX11_isStride x3 x4 = some 1 → fX12_cat 20 v x1 x2 x3 x4 x5 = fX12_cat_J42 20 x1 x2 x3 x4 x5 v → ∃ (F : Nat) (r : Int32) (σ2 : Nat → Nat → Int32) (v2 : Nat → Nat → Int32), fX11_cat F u.2.1 u.2.2.2 u.1 x1 x2 x3 x4 x5 = some (r, σ2) ∧ fX12_cat F v x1 x2 x3 x4 x5 = some (r, v2) ∧ Rel PP WP (σ2, u.2.1, u.2.2.1, u.2.2.2) v2 := by
    intro h1 h2 h3
    rcases w0 x5 15 (by decide) with h | ⟨h, m, hm, rfl⟩
    · refine bad ⟨?_, ?_⟩
      · unfold fX11_cat; rw [h1, bd_s, if_neg (by decide), h2, bd_s, if_neg (by decide), show (15 : Int32) = nI 15 from rfl, h]; rfl
      · rw [h3]; unfold fX12_cat_J42; rw [ei5, h]; rfl
    · obtain ⟨r, g, g2, k1, k2, k3⟩ := catL (F := 20) (sh := u.2.1) (Z := u.2.2.2) (x1 := x1) (x2 := x2) (x3 := x3) (x4 := x4) hm 20 0 0 u.1 v hPh (by omega) (by omega)
      refine ⟨20, r, sg u.1 15 g, sg v 19 g2, ?_, ?_, ?_⟩
      · unfold fX11_cat; rw [h1, bd_s, if_neg (by decide), h2, bd_s, if_neg (by decide), show (15 : Int32) = nI 15 from rfl, h, bd_s, if_pos (by decide)]; exact k1
      · rw [h3]; unfold fX12_cat_J42; rw [ei5, h, bd_s, if_pos (by decide)]; exact k2
      · exact ⟨n, K, C, T, H, B, S, hOK, hP, hC, hM, hS, hPl, k3, hRest⟩
  rcases isC x1 x2 with h | ⟨h, -⟩
  · refine bad ⟨?_, ?_⟩
    · unfold fX11_cat; rw [h]; rfl
    · unfold fX12_cat; rw [rc_cell, h]; rfl
  rcases w2 x3 (-1) with h3 | h3
  · refine bad ⟨?_, ?_⟩
    · unfold fX11_cat fX11_isStride; rw [h, bd_s, if_neg (by decide), h3]; rfl
    · unfold fX12_cat; rw [rc_cell, h, bd_s, if_neg (by decide), ei, h3]; rfl
  rcases w2 x4 (-1) with h4 | h4
  · refine bad ⟨?_, ?_⟩
    · unfold fX11_cat fX11_isStride; rw [h, bd_s, if_neg (by decide), h3, bd_s, if_neg (by decide), h4]; rfl
    · unfold fX12_cat; rw [rc_cell, h, bd_s, if_neg (by decide), ei, h3, bd_s, if_neg (by decide), ei, h4]; rfl
  by_cases z3 : x3 = 0
  · by_cases z4 : x4 = 0
    · refine bad ⟨?_, ?_⟩
      · unfold fX11_cat fX11_isStride; rw [h, bd_s, if_neg (by decide), h3, bd_s, if_neg (by decide), h4, bd_s, if_neg (by decide), if_neg (fun q => q z3), if_pos z4]; rfl
      · unfold fX12_cat; rw [rc_cell, h, bd_s, if_neg (by decide), ei, h3, bd_s, if_neg (by decide), ei, h4, bd_s, if_neg (by decide), if_neg (fun q => q z3), if_pos z4]
    · refine fin h ?_ ?_
      · unfold fX11_isStride; rw [h3, bd_s, if_neg (by decide), h4, bd_s, if_neg (by decide), if_neg (fun q => q z3), if_neg z4]
      · unfold fX12_cat; rw [rc_cell, h, bd_s, if_neg (by decide), ei, h3, bd_s, if_neg (by decide), ei, h4, bd_s, if_neg (by decide), if_neg (fun q => q z3), if_neg z4]
  · refine fin h ?_ ?_
    · unfold fX11_isStride; rw [h3, bd_s, if_neg (by decide), h4, bd_s, if_neg (by decide), if_pos z3]
    · unfold fX12_cat; rw [rc_cell, h, bd_s, if_neg (by decide), ei, h3, bd_s, if_neg (by decide), ei, h4, bd_s, if_neg (by decide), if_pos z3]
end OPS3
