/-! the sweeper's way -/
def bes (f g : Nat) : Bool := (Nat.beq (f / 4) (g / 4) && (Nat.beq (f + 1) g || Nat.beq (g + 1) f)) || (Nat.beq (f + 4) g || Nat.beq (g + 4) f)
theorem r_bes : ∀ f, f < 16 → ∀ g, g < 16 → fX12_areBeside (nI f) (nI g) = some (b2 (bes f g)) := by decide +kernel
def cd (s : Nat) : Nat := popF 30 s
theorem cd_clr {s f : Nat} (hs : s < 65536) (hf : f < 16) (h : s.testBit f = true) : cd (clr s f) + 1 = cd s := by
  unfold cd
  rw [popF_ct, popF_ct]
  have e' : fb_ct (fun k => if k = f then false else s.testBit k) 30 + (if s.testBit f then 1 else 0) = fb_ct s.testBit 30 + (if false then 1 else 0) := fb_ct_upd s.testBit false (i := f) (n := 30) (by omega)
  have e2 : fb_ct (clr s f).testBit 30 = fb_ct (fun k => if k = f then false else s.testBit k) 30 := fb_ct_cong (fun k _ => by
    rw [clr_tb (by omega)]
    by_cases q : k = f
    · rw [if_pos q, decide_eq_true q, Bool.not_true, Bool.and_false]
    · rw [if_neg q, decide_eq_false q, Bool.not_false, Bool.and_true])
  rw [h, if_pos rfl, if_neg (by decide)] at e'
  rw [e2]; exact e'
theorem cd0 {s : Nat} (hs : s < 65536) (h : cd s = 0) : s = 0 := by
  unfold cd at h
  rw [popF_ct] at h
  have h2 := fb_ct_zero.mp h
  apply tb_ext
  intro i
  rw [Nat.zero_testBit]
  rcases Nat.lt_or_ge i 30 with q | q
  · exact h2 i q
  · exact tb_ge (n := 16) (by omega) (by omega)
theorem cd16 {s : Nat} (hs : s < 65536) : cd s ≤ 16 := by
  unfold cd
  rw [popF_ct, show 30 = 16 + 14 from rfl, fb_ct_split]
  have e : fb_ct (fun k => s.testBit (16 + k)) 14 = 0 := fb_ct_zero.mpr (fun k _ => tb_ge (n := 16) (by omega) (by omega))
  rw [e]
  exact fb_ct_le _ _
theorem clr_16 {s f : Nat} (hs : s < 65536) : clr s f < 65536 := Nat.lt_of_le_of_lt (clr_le s f) hs
def scanK (k : Nat → Option (List Nat)) (V : Nat → Bool) : Nat → Option (List Nat)
  | 0 => none
  | m + 1 => ((if V (15 - m) then k (15 - m) else none) : Option (List Nat)).or (scanK k V m)
def dfs : Nat → Nat → Nat → Option (List Nat)
  | 0, _, _ => none
  | d + 1, f, s => if clr s f = 0 then some [f] else (scanK (fun g => dfs d g (clr s f)) (fun g => bes f g && (clr s f).testBit g) 16).map (fun L => f :: L)
theorem dfs_s (d f s : Nat) : dfs (d + 1) f s = if clr s f = 0 then some [f] else (scanK (fun g => dfs d g (clr s f)) (fun g => bes f g && (clr s f).testBit g) 16).map (fun L => f :: L) := rfl
theorem scanK_some (k : Nat → Option (List Nat)) (V : Nat → Bool) : ∀ m L, scanK k V m = some L → ∃ g, g < 16 ∧ V g = true ∧ k g = some L := by
  intro m
  induction m with
  | zero => intro L h; cases h
  | succ m ih =>
    intro L h
    unfold scanK at h
    by_cases q : V (15 - m) = true
    · rw [if_pos q] at h
      cases e : k (15 - m) with
      | none => rw [e] at h; exact ih L h
      | some L' => rw [e] at h; exact ⟨15 - m, by omega, q, by rw [e]; exact h⟩
    · rw [if_neg q] at h; exact ih L h
theorem dfs_len : ∀ d f s, f < 16 → s < 65536 → s.testBit f = true → ∀ L, dfs d f s = some L → L.length = cd s := by
  intro d
  induction d with
  | zero => intro f s _ _ _ L h; cases h
  | succ d ih =>
    intro f s hf hs hb L h
    have hc := cd_clr hs hf hb
    rw [dfs_s] at h
    by_cases h0 : clr s f = 0
    · rw [if_pos h0] at h
      cases h
      rw [h0] at hc
      have : cd 0 = 0 := by decide
      rw [← hc, this]; rfl
    · rw [if_neg h0] at h
      cases e : scanK (fun g => dfs d g (clr s f)) (fun g => bes f g && (clr s f).testBit g) 16 with
      | none => rw [e] at h; cases h
      | some L' =>
        rw [e] at h
        cases h
        obtain ⟨g, hg, hv, hk⟩ := scanK_some _ _ _ _ e
        have := ih g (clr s f) hg (clr_16 hs) (by
          have hv' : (bes f g && (clr s f).testBit g) = true := hv
          exact (Bool.and_eq_true_iff.mp hv').2) L' hk
        rw [List.length_cons, this]; exact hc
set_option maxHeartbeats 4000000 in
theorem scan4 (k : Nat → Option (List Nat)) (s : Nat) : ∀ f, f < 16 → scanK k (fun g => bes f g && s.testBit g) 16 = ((if 4 ≤ f then (if s.testBit (f - 4) then k (f - 4) else none) else none) : Option (List Nat)).or (((if 0 < f % 4 then (if s.testBit (f - 1) then k (f - 1) else none) else none) : Option (List Nat)).or (((if f % 4 < 3 then (if s.testBit (f + 1) then k (f + 1) else none) else none) : Option (List Nat)).or (((if f < 12 then (if s.testBit (f + 4) then k (f + 4) else none) else none) : Option (List Nat)).or none))) := by
  intro f hf
  rcases (by omega : f = 0 ∨ f = 1 ∨ f = 2 ∨ f = 3 ∨ f = 4 ∨ f = 5 ∨ f = 6 ∨ f = 7 ∨ f = 8 ∨ f = 9 ∨ f = 10 ∨ f = 11 ∨ f = 12 ∨ f = 13 ∨ f = 14 ∨ f = 15) with rfl | rfl | rfl | rfl | rfl | rfl | rfl | rfl | rfl | rfl | rfl | rfl | rfl | rfl | rfl | rfl <;> rfl
def GW (KR : Nat) (σ : Nat → Nat → Int32) (i : Nat) (o : Option (List Nat)) (r : Option (Int32 × (Nat → Nat → Int32))) : Prop := ∃ σ', r = some (b2 o.isSome, σ') ∧ (∀ j, j ≠ KR → σ' j = σ j) ∧ (∀ k, k < i → σ' KR k = σ KR k) ∧ ∀ L, o = some L → ∀ k, k < L.length → σ' KR (i + k) = nI (L.getD k 0)
theorem GW_no {KR i : Nat} {σ : Nat → Nat → Int32} : GW KR σ i none (some (0, σ)) := ⟨σ, rfl, fun _ _ => rfl, fun _ _ => rfl, fun L h => by cases h⟩
theorem GW_or {KR i : Nat} {σ : Nat → Nat → Int32} {o1 o2 : Option (List Nat)} {r : Option (Int32 × (Nat → Nat → Int32))} {K : Int32 × (Nat → Nat → Int32) → Option (Int32 × (Nat → Nat → Int32))} (h1 : GW KR σ i o1 r) (hA : ∀ σ1, GW KR σ1 i o2 (K (0, σ1))) (hB : ∀ σ1, K (1, σ1) = some (1, σ1)) : GW KR σ i (o1.or o2) (bd r K) := by
  obtain ⟨σ1, e, a1, a2, a3⟩ := h1
  rw [e, bd_s]
  cases o1 with
  | none =>
    obtain ⟨σ2, e2, c1, c2, c3⟩ := hA σ1
    exact ⟨σ2, e2, fun j hj => (c1 j hj).trans (a1 j hj), fun k hk => (c2 k hk).trans (a2 k hk), c3⟩
  | some L => exact ⟨σ1, hB σ1, a1, a2, a3⟩
theorem f_m4 : ∀ f, f < 16 → 4 ≤ f → nI f - (4 : Int32) = nI (f - 4) := by decide +kernel
theorem f_m1 : ∀ f, f < 16 → 0 < f % 4 → nI f - (1 : Int32) = nI (f - 1) := by decide +kernel
theorem f_r4 : ∀ f, f < 16 → nI f - nI f / (4 : Int32) * (4 : Int32) = nI (f % 4) := by decide +kernel
section WAYC
variable {sh : Nat → Option Nat} {Z : ZT}
theorem c_open {s g : Nat} (hs : s < 65536) (hg : g < 16) : fX9_isOpen (nI g) (nI s) = some (b2 (s.testBit g)) := by
  unfold fX9_isOpen
  rw [shr_b (by omega) (by omega)]
  cases s.testBit g <;> rfl
theorem c_tries {KR d i g s : Nat} (ih : ∀ i f s σ, f < 16 → s < 65536 → s.testBit f = true → i + cd s ≤ 16 → cd s ≤ d → GW KR σ i (dfs d f s) (fX9_goesOn KR d sh Z σ (nI i) (nI f) (nI s))) (hg : g < 16) (hs : s < 65536) (hi : i + 1 + cd s ≤ 16) (hd : cd s ≤ d) (σ : Nat → Nat → Int32) : GW KR σ (i + 1) ((if s.testBit g then dfs d g s else none) : Option (List Nat)) (fX9_triesOn KR (fun σ x1 x2 x3 => fX9_goesOn KR d sh Z σ x1 x2 x3) sh Z σ (nI i) (nI g) (nI s)) := by
  unfold fX9_triesOn
  rw [c_open hs hg, bd_s]
  cases h : s.testBit g with
  | false =>
    rw [if_neg (by decide), if_pos (by decide)]
    exact GW_no
  | true =>
    rw [if_pos rfl, if_neg (by decide), nI_1]
    have e := GW_or (K := fun (v3, σ4) => if v3 = 0 then (some ((0 : Int32), σ4)) else (some ((1 : Int32), σ4))) (o2 := none) (ih (i + 1) g s σ hg hs h hi hd) (fun σ1 => GW_no) (fun σ1 => rfl)
    rw [Option.or_none] at e
    exact e
set_option maxHeartbeats 4000000 in
theorem c_goes (KR : Nat) : ∀ d i f s σ, f < 16 → s < 65536 → s.testBit f = true → i + cd s ≤ 16 → cd s ≤ d → GW KR σ i (dfs d f s) (fX9_goesOn KR d sh Z σ (nI i) (nI f) (nI s)) := by
  intro d
  induction d with
  | zero => intro i f s σ hf hs hb _ hd; have := cd_clr hs hf hb; omega
  | succ d ih =>
    intro i f s σ hf hs hb hi hd
    have hc := cd_clr hs hf hb
    have hs' := clr_16 (f := f) hs
    rw [fX9_goesOn, nb_s, if_pos (show nI i < (16 : Int32) from nI_lt (b := 16) (by omega) (by decide)), aS_n (by omega) (by decide), nm_s, clr_nI (by omega), nm_s, nI_clamp (by omega), dfs_s]
    by_cases h0 : clr s f = 0
    · rw [if_pos h0, h0, if_neg (fun z => z (by decide))]
      refine ⟨_, rfl, fun j hj => sg_ne hj _, fun k hk => ?_, fun L hL k hk => ?_⟩
      · rw [sg_at, pk_un (by omega)]
      · cases hL
        have hk0 : k = 0 := by
          have : k < 1 := hk
          omega
        subst hk0
        rw [sg_at]; exact pk_us
    · rw [if_neg h0, if_pos (nI_ne0 (by omega) (by omega)), f_r4 f hf, nm_s]
      have tr : ∀ g, g < 16 → ∀ σ1, GW KR σ1 (i + 1) ((if (clr s f).testBit g then dfs d g (clr s f) else none) : Option (List Nat)) (fX9_triesOn KR (fun σ x1 x2 x3 => fX9_goesOn KR d sh Z σ x1 x2 x3) sh Z σ1 (nI i) (nI g) (nI (clr s f))) := fun g hg σ1 => c_tries ih hg hs' (by omega) (by omega) σ1
      have j117 : ∀ σ1, GW KR σ1 (i + 1) (((if f < 12 then (if (clr s f).testBit (f + 4) then dfs d (f + 4) (clr s f) else none) else none) : Option (List Nat)).or none) (fX9_goesOn_J117 KR (fun σ x1 x2 x3 => fX9_goesOn KR d sh Z σ x1 x2 x3) sh Z (nI i) (nI f) (nI (clr s f)) 0 σ1) := by
        intro σ1
        unfold fX9_goesOn_J117
        rw [if_neg (show ¬ ¬ (0 : Int32) = 0 from fun z => z rfl)]
        by_cases q : f < 12
        · rw [if_pos q, if_neg (show ¬ (12 : Int32) ≤ nI f from nI_ge (b := 12) q (by decide)), show nI f + (4 : Int32) = nI (f + 4) from nI_add f 4]
          exact GW_or (tr (f + 4) (by omega) σ1) (fun σ2 => GW_no) (fun σ2 => rfl)
        · rw [if_neg q, if_pos (show (12 : Int32) ≤ nI f from nI_le (a := 12) (by omega) (by omega))]
          exact GW_no
      have j86 : ∀ σ1, GW KR σ1 (i + 1) (((if f % 4 < 3 then (if (clr s f).testBit (f + 1) then dfs d (f + 1) (clr s f) else none) else none) : Option (List Nat)).or (((if f < 12 then (if (clr s f).testBit (f + 4) then dfs d (f + 4) (clr s f) else none) else none) : Option (List Nat)).or none)) (fX9_goesOn_J86 KR (fun σ x1 x2 x3 => fX9_goesOn KR d sh Z σ x1 x2 x3) sh Z (nI i) (nI f) (nI (clr s f)) (nI (f % 4)) 0 σ1) := by
        intro σ1
        unfold fX9_goesOn_J86
        rw [if_neg (show ¬ ¬ (0 : Int32) = 0 from fun z => z rfl)]
        by_cases q : f % 4 < 3
        · rw [if_pos q, if_neg (show ¬ (3 : Int32) ≤ nI (f % 4) from nI_ge (b := 3) q (by decide)), nI_1]
          exact GW_or (tr (f + 1) (by omega) σ1) (fun σ2 => j117 σ2) (fun σ2 => rfl)
        · rw [if_neg q, if_pos (show (3 : Int32) ≤ nI (f % 4) from nI_le (a := 3) (by omega) (by omega))]
          exact j117 σ1
      have j56 : ∀ σ1, GW KR σ1 (i + 1) (((if 0 < f % 4 then (if (clr s f).testBit (f - 1) then dfs d (f - 1) (clr s f) else none) else none) : Option (List Nat)).or (((if f % 4 < 3 then (if (clr s f).testBit (f + 1) then dfs d (f + 1) (clr s f) else none) else none) : Option (List Nat)).or (((if f < 12 then (if (clr s f).testBit (f + 4) then dfs d (f + 4) (clr s f) else none) else none) : Option (List Nat)).or none))) (fX9_goesOn_J56 KR (fun σ x1 x2 x3 => fX9_goesOn KR d sh Z σ x1 x2 x3) sh Z (nI i) (nI f) (nI (clr s f)) (nI (f % 4)) 0 σ1) := by
        intro σ1
        unfold fX9_goesOn_J56
        rw [if_neg (show ¬ ¬ (0 : Int32) = 0 from fun z => z rfl)]
        by_cases q : 0 < f % 4
        · rw [if_pos q, if_neg (nI_nle q (by omega)), f_m1 f hf q]
          exact GW_or (tr (f - 1) (by omega) σ1) (fun σ2 => j86 σ2) (fun σ2 => rfl)
        · rw [if_neg q, if_pos (show nI (f % 4) ≤ 0 from nI_le (b := 0) (by omega) (by decide))]
          exact j86 σ1
      have all : GW KR (sg σ KR (upd (σ KR) i (nI f))) (i + 1) (scanK (fun g => dfs d g (clr s f)) (fun g => bes f g && (clr s f).testBit g) 16) (if nI f < (4 : Int32) then fX9_goesOn_J55 KR (fun σ x1 x2 x3 => fX9_goesOn KR d sh Z σ x1 x2 x3) sh Z (nI i) (nI f) (nI (clr s f)) (nI (f % 4)) (sg σ KR (upd (σ KR) i (nI f))) else bd (fX9_triesOn KR (fun σ x1 x2 x3 => fX9_goesOn KR d sh Z σ x1 x2 x3) sh Z (sg σ KR (upd (σ KR) i (nI f))) (nI i) (nI f - (4 : Int32)) (nI (clr s f))) fun (v8, σ9) => if v8 = 0 then (fX9_goesOn_J55 KR (fun σ x1 x2 x3 => fX9_goesOn KR d sh Z σ x1 x2 x3) sh Z (nI i) (nI f) (nI (clr s f)) (nI (f % 4)) σ9) else (fX9_goesOn_J56 KR (fun σ x1 x2 x3 => fX9_goesOn KR d sh Z σ x1 x2 x3) sh Z (nI i) (nI f) (nI (clr s f)) (nI (f % 4)) (1 : Int32) σ9)) := by
        rw [scan4 _ _ f hf]
        by_cases q : 4 ≤ f
        · rw [if_pos q, if_neg (show ¬ nI f < (4 : Int32) from nI_nlt (b := 4) q (by omega)), f_m4 f hf q]
          exact GW_or (tr (f - 4) (by omega) _) (fun σ2 => j56 σ2) (fun σ2 => rfl)
        · rw [if_neg q, if_pos (show nI f < (4 : Int32) from nI_lt (b := 4) (by omega) (by decide))]
          exact j56 _
      obtain ⟨σ', e, a1, a2, a3⟩ := all
      refine ⟨σ', ?_, fun j hj => (a1 j hj).trans (sg_ne hj _), fun k hk => ?_, fun L hL k hk => ?_⟩
      · rw [Option.isSome_map]; exact e
      · rw [a2 k (by omega), sg_at, pk_un (by omega)]
      · cases e2 : scanK (fun g => dfs d g (clr s f)) (fun g => bes f g && (clr s f).testBit g) 16 with
        | none => rw [e2] at hL; cases hL
        | some L' =>
          rw [e2] at hL
          cases hL
          cases k with
          | zero => rw [Nat.add_zero, a2 i (by omega), sg_at, pk_us]; rfl
          | succ k =>
            have := a3 L' e2 k (by rw [List.length_cons] at hk; omega)
            rw [show i + (k + 1) = i + 1 + k by omega, this]; rfl
end WAYC
/-! the reference goes back and forth -/
def nxt (V : Nat → Bool) : Nat → Nat
  | 0 => 16
  | m + 1 => if V (15 - m) then 15 - m else nxt V m
theorem nxt_p (V : Nat → Bool) : ∀ m, m ≤ 16 → 16 - m ≤ nxt V m ∧ nxt V m ≤ 16 ∧ (nxt V m < 16 → V (nxt V m) = true) := by
  intro m
  induction m with
  | zero => intro _; exact ⟨Nat.le_refl 16, Nat.le_refl 16, fun h => absurd h (Nat.lt_irrefl 16)⟩
  | succ m ih =>
    intro hm
    unfold nxt
    by_cases q : V (15 - m) = true
    · rw [if_pos q]; exact ⟨by omega, by omega, fun _ => q⟩
    · rw [if_neg q]
      obtain ⟨h1, h2, h3⟩ := ih (by omega)
      exact ⟨by omega, h2, h3⟩
theorem scan_nxt (k : Nat → Option (List Nat)) (V : Nat → Bool) : ∀ m, m ≤ 16 → scanK k V m = scanK k V (16 - nxt V m) := by
  intro m
  induction m with
  | zero => intro _; rfl
  | succ m ih =>
    intro hm
    by_cases q : V (15 - m) = true
    · have e : nxt V (m + 1) = 15 - m := by unfold nxt; rw [if_pos q]
      rw [e, show 16 - (15 - m) = m + 1 by omega]
    · have e : nxt V (m + 1) = nxt V m := by
        conv => lhs; unfold nxt
        rw [if_neg q]
      rw [e, ← ih (by omega)]
      conv => lhs; unfold scanK
      rw [if_neg q]; rfl
theorem r_L68 {F op u f i : Nat} {s : Nat → Bool} (hop : op < 65536) (hu : u < 65536) (hf : f < 16) (hi : i < 16) (hV : ∀ g, g < 16 → s g = (op.testBit g && !u.testBit g)) {σ : Nat → Nat → Int32} (hσ : σ 23 i = nI f) (x3 : Int32) (kx : Int32 → (Nat → Nat → Int32) → Option (Int32 × (Nat → Nat → Int32))) : ∀ N m, m ≤ 16 → m < N → fX12_findWay_L68 F (nI op) x3 (nI u) (nI (i + 1)) kx N (nI (16 - m)) σ = kx (nI (nxt (fun g => bes f g && s g) m)) σ := by
  intro N
  induction N with
  | zero => intro m _ h; omega
  | succ N ih =>
    intro m hm hN
    rw [fX12_findWay_L68, nb_s]
    cases m with
    | zero =>
      rw [if_pos (by decide)]; rfl
    | succ m =>
      have e15 : 16 - (m + 1) = 15 - m := by omega
      have hr := ih m (by omega) (by omega)
      have enx : nI (15 - m) + 1 = nI (16 - m) := by rw [nI_1]; congr 1; omega
      rw [e15, if_neg (show ¬ (16 : Int32) ≤ nI (15 - m) from nI_ge (b := 16) (by omega) (by decide)), shr_b (by omega) (by omega), shr_b (by omega) (by omega)]
      unfold fX12_findWay_J112
      have hv := hV (15 - m) (by omega)
      unfold nxt
      cases hu1 : u.testBit (15 - m) with
      | true =>
        rw [if_pos (by decide), enx]
        rw [hu1, Bool.not_true, Bool.and_false] at hv
        rw [if_neg (by rw [hv, Bool.and_false]; decide)]
        exact hr
      | false =>
        rw [if_neg (by decide)]
        rw [hu1, Bool.not_false, Bool.and_true] at hv
        cases ho : op.testBit (15 - m) with
        | false =>
          rw [if_pos (by decide), enx]
          rw [ho] at hv
          rw [if_neg (by rw [hv, Bool.and_false]; decide)]
          exact hr
        | true =>
          rw [ho] at hv
          rw [if_neg (by decide), nI_pred, aI_n hi (by decide), hσ, r_bes f hf (15 - m) (by omega), bd_s, hv, Bool.and_true]
          cases hb : bes f (15 - m) with
          | true => rw [if_pos (by decide), if_pos rfl]
          | false => rw [if_neg (by decide), if_neg (by decide), enx]; exact hr
def RA (op n d : Nat) : Prop := ∀ f s i u (σ : Nat → Nat → Int32), f < 16 → s < 65536 → s.testBit f = true → u < 65536 → u.testBit f = true → (∀ g, g < 16 → (clr s f).testBit g = (op.testBit g && !u.testBit g)) → i + cd s = n → cd s ≤ d → σ 23 i = nI f → (∀ L, dfs d f s = some L → ∃ (K : Nat) (σ' : Nat → Nat → Int32), (∀ j, j ≠ 23 → σ' j = σ j) ∧ (∀ k, k < i → σ' 23 k = σ 23 k) ∧ (∀ k, k < L.length → σ' 23 (i + k) = nI (L.getD k 0)) ∧ ∀ kx F, 17 ≤ F → ∀ N, fX12_findWay_L53 F (nI op) (nI n) kx (N + K) (nI u) (nI (i + 1)) 0 σ = kx (nI n) σ') ∧ (dfs d f s = none → ∃ (K : Nat) (σ' : Nat → Nat → Int32), (∀ j, j ≠ 23 → σ' j = σ j) ∧ (∀ k, k ≤ i → σ' 23 k = σ 23 k) ∧ ∀ kx F, 17 ≤ F → ∀ N, fX12_findWay_L53 F (nI op) (nI n) kx (N + K) (nI u) (nI (i + 1)) 0 σ = fX12_findWay_L53 F (nI op) (nI n) kx N (nI (clr u f)) (nI i) (nI (f + 1)) σ')
theorem or_clr {u g : Nat} (hu : u < 65536) (hg : g < 16) (h : u.testBit g = false) : clr (u ||| 2 ^ g) g = u := by
  have hp : 2 ^ g < 2 ^ 16 := Nat.pow_lt_pow_right (by omega) hg
  have hlt : u ||| 2 ^ g < 2 ^ 16 := Nat.or_lt_two_pow (by omega) hp
  apply tb_ext
  intro i
  rw [clr_tb (by omega), Nat.testBit_or, Nat.testBit_two_pow]
  by_cases e : i = g
  · subst e; rw [h]; simp
  · rw [decide_eq_false e, decide_eq_false (fun z => e z.symm)]; simp
set_option maxHeartbeats 4000000 in
theorem r_scan {op n d : Nat} (hop : op < 65536) (hn : n ≤ 16) (hA : RA op n d) {f s i u : Nat} (hf : f < 16) (hs : s < 65536) (hb : s.testBit f = true) (hu : u < 65536) (huf : u.testBit f = true) (hV : ∀ g, g < 16 → (clr s f).testBit g = (op.testBit g && !u.testBit g)) (hi : i + cd s = n) (hd : cd s ≤ d + 1) (h0 : clr s f ≠ 0) : ∀ m, m ≤ 16 → ∀ σ : Nat → Nat → Int32, σ 23 i = nI f → (∀ L, scanK (fun g => dfs d g (clr s f)) (fun g => bes f g && (clr s f).testBit g) m = some L → ∃ (K : Nat) (σ' : Nat → Nat → Int32), (∀ j, j ≠ 23 → σ' j = σ j) ∧ (∀ k, k ≤ i → σ' 23 k = σ 23 k) ∧ (∀ k, k < L.length → σ' 23 (i + 1 + k) = nI (L.getD k 0)) ∧ ∀ kx F, 17 ≤ F → ∀ N, fX12_findWay_L53 F (nI op) (nI n) kx (N + K) (nI u) (nI (i + 1)) (nI (16 - m)) σ = kx (nI n) σ') ∧ (scanK (fun g => dfs d g (clr s f)) (fun g => bes f g && (clr s f).testBit g) m = none → ∃ (K : Nat) (σ' : Nat → Nat → Int32), (∀ j, j ≠ 23 → σ' j = σ j) ∧ (∀ k, k ≤ i → σ' 23 k = σ 23 k) ∧ ∀ kx F, 17 ≤ F → ∀ N, fX12_findWay_L53 F (nI op) (nI n) kx (N + K) (nI u) (nI (i + 1)) (nI (16 - m)) σ = fX12_findWay_L53 F (nI op) (nI n) kx N (nI (clr u f)) (nI i) (nI (f + 1)) σ') := by
  have hc := cd_clr hs hf hb
  have hcp : 0 < cd (clr s f) := Nat.pos_of_ne_zero (fun z => h0 (cd0 (clr_16 hs) z))
  have hs' := clr_16 (f := f) hs
  intro m
  induction m using Nat.strongRecOn with
  | ind m ihm =>
    intro hm σ hσ
    obtain ⟨p1, p2, p3⟩ := nxt_p (fun g => bes f g && (clr s f).testBit g) m hm
    have hsc := scan_nxt (fun g => dfs d g (clr s f)) (fun g => bes f g && (clr s f).testBit g) m hm
    have step : ∀ kx F, 17 ≤ F → ∀ N, fX12_findWay_L53 F (nI op) (nI n) kx (N + 1) (nI u) (nI (i + 1)) (nI (16 - m)) σ = (if (16 : Int32) ≤ nI (nxt (fun g => bes f g && (clr s f).testBit g) m) then fX12_findWay_L53 F (nI op) (nI n) kx N (nI (clr u f)) (nI i) (nI (f + 1)) σ else fX12_findWay_L53 F (nI op) (nI n) kx N (nI (u ||| 2 ^ nxt (fun g => bes f g && (clr s f).testBit g) m)) (nI (i + 1 + 1)) 0 (sg σ 23 (upd (σ 23) (i + 1) (nI (nxt (fun g => bes f g && (clr s f).testBit g) m))))) := by
      intro kx F hF N
      rw [fX12_findWay_L53, nb_s, if_neg (nI_nle (by omega) (by omega)), if_neg (nI_ge (by omega) (by omega)), r_L68 hop hu hf (by omega) hV hσ _ _ F m hm (by omega)]
      by_cases q : nxt (fun g => bes f g && (clr s f).testBit g) m = 16
      · rw [q, if_pos (by decide), if_pos (by decide), pk_m1, aI_n (by omega) (by decide), hσ, clr_nI (by omega), nm_s, aI_n (by omega) (by decide), hσ, nI_1]
        rfl
      · have q2 : ¬ (16 : Int32) ≤ nI (nxt (fun g => bes f g && (clr s f).testBit g) m) := nI_ge (b := 16) (by omega) (by decide)
        rw [if_neg q2, if_neg q2, aS_n (by omega) (by decide), nm_s, nI_clamp (by omega), sh1 (by omega), fa_or, nm_s, nI_1]
        rfl
    by_cases q : nxt (fun g => bes f g && (clr s f).testBit g) m = 16
    · rw [q] at hsc
      refine ⟨fun L hL => ?_, fun _ => ?_⟩
      · rw [hsc] at hL; cases hL
      · refine ⟨1, σ, fun _ _ => rfl, fun _ _ => rfl, fun kx F hF N => ?_⟩
        rw [step kx F hF N, q, if_pos (by decide)]
    · have hg : nxt (fun g => bes f g && (clr s f).testBit g) m < 16 := by omega
      have hv := p3 hg
      generalize nxt (fun g => bes f g && (clr s f).testBit g) m = g at *
      have hv2 : (bes f g && (clr s f).testBit g) = true := hv
      have hv3 := (Bool.and_eq_true_iff.mp hv2).2
      have hog := hV g hg
      rw [hv3] at hog
      have hug : u.testBit g = false := by
        cases hx : u.testBit g with
        | false => rfl
        | true => rw [hx, Bool.not_true, Bool.and_false] at hog; cases hog
      have hp : 2 ^ g < 2 ^ 16 := Nat.pow_lt_pow_right (by omega) hg
      have hlt : u ||| 2 ^ g < 65536 := Nat.or_lt_two_pow (n := 16) (by omega) hp
      have q2 : ¬ (16 : Int32) ≤ nI g := nI_ge (b := 16) (by omega) (by decide)
      have hm1 : scanK (fun g => dfs d g (clr s f)) (fun g => bes f g && (clr s f).testBit g) m = (dfs d g (clr s f)).or (scanK (fun g => dfs d g (clr s f)) (fun g => bes f g && (clr s f).testBit g) (16 - (g + 1))) := by
        rw [hsc, show 16 - g = (16 - (g + 1)) + 1 by omega]
        conv => lhs; unfold scanK
        rw [show 15 - (16 - (g + 1)) = g by omega, if_pos hv]
      obtain ⟨A1, A2⟩ := hA g (clr s f) (i + 1) (u ||| 2 ^ g) (sg σ 23 (upd (σ 23) (i + 1) (nI g))) hg hs' hv3 hlt (by rw [Nat.testBit_or, Nat.testBit_two_pow, decide_eq_true rfl, Bool.or_true]) (fun h hh => by
        rw [clr_tb (by omega), hV h hh, Nat.testBit_or, Nat.testBit_two_pow]
        by_cases e : h = g
        · rw [decide_eq_true e, decide_eq_true e.symm]; simp
        · rw [decide_eq_false e, decide_eq_false (fun z => e z.symm)]; simp) (by omega) (by omega) (by rw [sg_at]; exact pk_us)
      cases hd1 : dfs d g (clr s f) with
      | some L1 =>
        obtain ⟨K, σ', b1, b2', b3, b4⟩ := A1 L1 hd1
        rw [hd1] at hm1
        refine ⟨fun L hL => ?_, fun hL => ?_⟩
        · rw [hm1] at hL
          cases hL
          refine ⟨K + 1, σ', fun j hj => (b1 j hj).trans (sg_ne hj _), fun k hk => ?_, b3, fun kx F hF N => ?_⟩
          · rw [b2' k (by omega), sg_at, pk_un (by omega)]
          · rw [show N + (K + 1) = (N + K) + 1 by omega, step kx F hF (N + K), if_neg q2]
            exact b4 kx F hF N
        · rw [hm1] at hL; cases hL
      | none =>
        obtain ⟨K, σ', b1, b2', b4⟩ := A2 hd1
        rw [hd1, Option.none_or] at hm1
        have h23 : ∀ k, k ≤ i → σ' 23 k = σ 23 k := fun k hk => by rw [b2' k (by omega), sg_at, pk_un (by omega)]
        have hoff : ∀ j, j ≠ 23 → σ' j = σ j := fun j hj => (b1 j hj).trans (sg_ne hj _)
        obtain ⟨B1, B2⟩ := ihm (16 - (g + 1)) (by omega) (by omega) σ' (by rw [h23 i (Nat.le_refl i)]; exact hσ)
        have st2 : ∀ kx F, 17 ≤ F → ∀ N, fX12_findWay_L53 F (nI op) (nI n) kx (N + (K + 1)) (nI u) (nI (i + 1)) (nI (16 - m)) σ = fX12_findWay_L53 F (nI op) (nI n) kx N (nI u) (nI (i + 1)) (nI (16 - (16 - (g + 1)))) σ' := by
          intro kx F hF N
          rw [show N + (K + 1) = (N + K) + 1 by omega, step kx F hF (N + K), if_neg q2, b4 kx F hF N, or_clr hu hg hug, show 16 - (16 - (g + 1)) = g + 1 by omega]
        refine ⟨fun L hL => ?_, fun hL => ?_⟩
        · obtain ⟨K2, σ2, c1, c2, c3, c4⟩ := B1 L (hm1.symm.trans hL)
          refine ⟨K2 + (K + 1), σ2, fun j hj => (c1 j hj).trans (hoff j hj), fun k hk => (c2 k hk).trans (h23 k hk), c3, fun kx F hF N => ?_⟩
          rw [show N + (K2 + (K + 1)) = (N + K2) + (K + 1) by omega, st2 kx F hF (N + K2)]
          exact c4 kx F hF N
        · obtain ⟨K2, σ2, c1, c2, c4⟩ := B2 (hm1.symm.trans hL)
          refine ⟨K2 + (K + 1), σ2, fun j hj => (c1 j hj).trans (hoff j hj), fun k hk => (c2 k hk).trans (h23 k hk), fun kx F hF N => ?_⟩
          rw [show N + (K2 + (K + 1)) = (N + K2) + (K + 1) by omega, st2 kx F hF (N + K2)]
          exact c4 kx F hF N
theorem r_all {op n : Nat} (hop : op < 65536) (hn : n ≤ 16) : ∀ d, RA op n d := by
  intro d
  induction d with
  | zero => intro f s i u σ hf hs hb _ _ _ _ hd; have := cd_clr hs hf hb; omega
  | succ d ih =>
    intro f s i u σ hf hs hb hu huf hV hi hd hσ
    have hc := cd_clr hs hf hb
    by_cases h0 : clr s f = 0
    · have hdf : dfs (d + 1) f s = some [f] := by rw [dfs_s, if_pos h0]
      have hc0 : cd (clr s f) = 0 := by rw [h0]; decide
      refine ⟨fun L hL => ?_, fun hL => by rw [hdf] at hL; cases hL⟩
      rw [hdf] at hL
      cases hL
      refine ⟨1, σ, fun _ _ => rfl, fun _ _ => rfl, fun k hk => ?_, fun kx F hF N => ?_⟩
      · have hk0 : k = 0 := by
          have : k < 1 := hk
          omega
        subst hk0
        exact hσ
      · rw [fX12_findWay_L53, nb_s, if_neg (nI_nle (by omega) (by omega)), if_pos (nI_le (by omega) (by omega))]
        rw [show i + 1 = n by omega]
    · obtain ⟨S1, S2⟩ := r_scan hop hn ih hf hs hb hu huf hV hi hd h0 16 (Nat.le_refl _) σ hσ
      refine ⟨fun L hL => ?_, fun hL => ?_⟩
      · rw [dfs_s, if_neg h0] at hL
        cases e2 : scanK (fun g => dfs d g (clr s f)) (fun g => bes f g && (clr s f).testBit g) 16 with
        | none => rw [e2] at hL; cases hL
        | some L' =>
          rw [e2] at hL
          cases hL
          obtain ⟨K, σ', c1, c2, c3, c4⟩ := S1 L' e2
          refine ⟨K, σ', c1, fun k hk => c2 k (by omega), fun k hk => ?_, c4⟩
          cases k with
          | zero => rw [Nat.add_zero, c2 i (Nat.le_refl i), hσ]; rfl
          | succ k =>
            have := c3 k (by rw [List.length_cons] at hk; omega)
            rw [show i + (k + 1) = i + 1 + k by omega, this]; rfl
      · rw [dfs_s, if_neg h0] at hL
        cases e2 : scanK (fun g => dfs d g (clr s f)) (fun g => bes f g && (clr s f).testBit g) 16 with
        | some L' => rw [e2] at hL; cases hL
        | none => exact S2 e2
