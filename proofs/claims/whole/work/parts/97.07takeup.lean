/-! A sequencer is taken up again: both. -/
/-- the reference with the new incarnation promised -/
def mnw (N : Nat → Nat → Nat) (s : Nat) : Nat → Nat → Nat := mpr (zup N 9 s (N 9 s + 1)) s 3 (N 9 s + 1)
theorem mnw_o (N : Nat → Nat → Nat) (s : Nat) {j : Nat} (q : Nat) (h9 : ¬ j = 9) (h14 : ¬ j = 14) : mnw N s j q = N j q := by
  unfold mnw
  rw [mpr_at, if_neg (by omega), zup_at, if_neg (by omega)]
theorem mnw_9 (N : Nat → Nat → Nat) (s q : Nat) : mnw N s 9 q = if q = s then N 9 s + 1 else N 9 q := by
  unfold mnw
  rw [mpr_at, if_neg (by omega), zup_at]
  by_cases g : q = s <;> simp [g]
theorem mnw_14 (N : Nat → Nat → Nat) (s l s' : Nat) (hl : l < 3) (hs : s < 2) (hs' : s' < 2) : mnw N s 14 (2 * l + s') = if s' = s ∧ N 1 l = 0 then N 9 s + 1 else N 14 (2 * l + s') := by
  unfold mnw
  have e : (2 * l + s') / 2 = l := by omega
  have z1 : zup N 9 s (N 9 s + 1) 1 l = N 1 l := by rw [zup_at, if_neg (by omega)]
  have z2 : zup N 9 s (N 9 s + 1) 14 (2 * l + s') = N 14 (2 * l + s') := by rw [zup_at, if_neg (by omega)]
  rw [mpr_at, e, z1, z2]
  by_cases g : s' = s ∧ N 1 l = 0
  · rw [if_pos g, if_pos ⟨rfl, by omega, hl, g.2⟩]
  · rw [if_neg g, if_neg (fun z => g ⟨by omega, z.2.2.2⟩)]
theorem mnw_lt {N : Nat → Nat → Nat} (h : ∀ j q, N j q < 100000) (s : Nat) (hv : N 9 s < 90000) : ∀ j q, mnw N s j q < 100000 := by
  intro j q
  unfold mnw
  rw [mpr_at]
  split
  · omega
  · exact zh_up h (by omega) 9 s j q
theorem magain_o (N : Nat → Nat → Nat) (s : Nat) {j : Nat} (q : Nat) (hj : ¬ (15 ≤ j ∧ j ≤ 19)) (hq : ¬ (j = 0 ∧ q = 16)) (h : ¬ (9 ≤ j ∧ j ≤ 10)) (h12 : ¬ j = 12) (h14 : ¬ j = 14) : magain N s j q = N j q := by
  show mag (mnw N s) s (N 8 s) j q = N j q
  rw [mag_o _ _ _ hj hq (by omega) h12, mnw_o _ _ _ (by omega) h14]
theorem magain_9 (N : Nat → Nat → Nat) (s q : Nat) : magain N s 9 q = if q = s then N 9 s + 1 else N 9 q := by
  show mag (mnw N s) s (N 8 s) 9 q = _
  rw [mag_o _ _ _ (by omega) (by omega) (by omega) (by omega), mnw_9]
theorem magain_14 (N : Nat → Nat → Nat) (s l s' : Nat) (hl : l < 3) (hs : s < 2) (hs' : s' < 2) : magain N s 14 (2 * l + s') = if s' = s ∧ N 1 l = 0 then N 9 s + 1 else N 14 (2 * l + s') := by
  show mag (mnw N s) s (N 8 s) 14 _ = _
  rw [mag_o _ _ _ (by omega) (by omega) (by omega) (by omega), mnw_14 _ _ _ _ hl hs hs']
theorem memp_nw (N : Nat → Nat → Nat) (s a : Nat) : memp (mnw N s) a = memp N a := by
  unfold memp
  rw [mbst_congr (N := N) (fun l _ => mnw_o _ _ _ (by omega) (by omega)) (fun l _ => mnw_o _ _ _ (by omega) (by omega)) 3 (Nat.le_refl _)]
theorem magain_10 (N : Nat → Nat → Nat) (s q : Nat) : magain N s 10 q = if 20 * s ≤ q ∧ q < 20 * s + N 8 s ∧ N 11 q = 0 then memp N q else N 10 q := by
  show mag (mnw N s) s (N 8 s) 10 q = _
  rw [(mag_rows _ _ _).1, memp_nw, mnw_o _ _ _ (by omega) (by omega), mnw_o _ _ _ (by omega) (by omega)]
theorem magain_12 (N : Nat → Nat → Nat) (s q : Nat) : magain N s 12 q = if 20 * s ≤ q ∧ q < 20 * s + N 8 s ∧ N 11 q = 0 then 0 else N 12 q := by
  show mag (mnw N s) s (N 8 s) 12 q = _
  rw [(mag_rows _ _ _).2, mnw_o _ _ _ (by omega) (by omega), mnw_o _ _ _ (by omega) (by omega)]
theorem magain_mpl (N : Nat → Nat → Nat) (s : Nat) (h8 : N 8 s ≤ 20) : mpl (magain N s) = mpl N ++ cstm s (N 9 s + 1) (fun e => if N 11 (20 * s + e) = 0 then 0 else 1) (fun e => memp N (20 * s + e)) (N 8 s) := by
  show mpl (mag (mnw N s) s (N 8 s)) = _
  rw [mag_mpl (mnw N s) s (N 9 s + 1) (by rw [mnw_9, if_pos rfl]) _ h8]
  have e : mpl (mnw N s) = mpl N := mpl_of (mnw_o _ _ _ (by omega) (by omega)) (fun i _ => ⟨mcode_of (fun m _ _ => mnw_o _ _ _ (by omega) (by omega)), mnw_o _ _ _ (by omega) (by omega)⟩)
  have f1 : (fun e => if mnw N s 11 (20 * s + e) = 0 then 0 else 1) = (fun e => if N 11 (20 * s + e) = 0 then 0 else 1) := by
    funext e
    rw [mnw_o _ _ _ (by omega) (by omega)]
  have f2 : (fun e => memp (mnw N s) (20 * s + e)) = (fun e => memp N (20 * s + e)) := by
    funext e
    rw [memp_nw]
  rw [e, f1, f2]
theorem magain_u (N : Nat → Nat → Nat) (s : Nat) (h8 : N 8 s ≤ 20) : magain N s 0 16 ≤ N 0 16 + 3 * mund N s := by
  have h := mpl_len (magain N s)
  rw [magain_mpl N s h8, List.length_append, mpl_len] at h
  have := cstm_und s (N 9 s + 1) N (fun e => memp N (20 * s + e)) (N 8 s)
  unfold mund
  omega
def mXn (X N : Nat → Nat → Nat) (s : Nat) : Nat → Nat → Nat := fun a w => if a < 40 ∧ a / 20 = s ∧ w = N 9 s + 1 then magain N s 10 a else X a w
theorem mXn_at (X N : Nat → Nat → Nat) (s a w : Nat) : mXn X N s a w = if a < 40 ∧ a / 20 = s ∧ w = N 9 s + 1 then magain N s 10 a else X a w := rfl
theorem again_inv {P k : Nat} {X N : Nat → Nat → Nat} {V : Nat → Nat → Int32} (h : inv P k X N V) {s : Nat} (hs : s < 2) (hu : ¬ 48 < N 0 16) (hk : k < 9000) : ∃ X', inv P (k + 1) X' (magain N s) V := by
  obtain ⟨ha, hb, hc, hd, he⟩ := h
  have c1 := hc.1 s hs
  have ml : ∀ r, mline (magain N s) V r = mline N V r := fun r => mline_of (magain_o N s _ (by omega) (by omega) (by omega) (by omega) (by omega)) (fun q => magain_o N s _ (by omega) (by omega) (by omega) (by omega) (by omega)) (fun q => magain_o N s _ (by omega) (by omega) (by omega) (by omega) (by omega)) (fun q => magain_o N s _ (by omega) (by omega) (by omega) (by omega) (by omega)) (fun _ => rfl)
  have h8' : ∀ q, magain N s 8 q = N 8 q := fun q => magain_o N s _ (by omega) (by omega) (by omega) (by omega) (by omega)
  have h11' : ∀ q, magain N s 11 q = N 11 q := fun q => magain_o N s _ (by omega) (by omega) (by omega) (by omega) (by omega)
  have h10lt : ∀ a, a < 40 → magain N s 10 a < 2 := by
    intro a h
    rw [magain_10]; split
    · exact memp_lt N a
    · exact (hc.2.1 a h).1
  refine ⟨mXn X N s, ?_, ?_, ⟨?_, ?_, ?_⟩, ⟨?_, ?_⟩, ?_⟩
  · refine iA_of ha ?_ (magain_o N s _ (by omega) (by omega) (by omega) (by omega) (by omega)) (fun q => magain_o N s _ (by omega) (by omega) (by omega) (by omega) (by omega))
    have hd1 := hd.1
    exact mag_lt (mnw_lt ha.1 s (by omega)) s hs (by rw [mnw_o _ _ _ (by omega) (by omega)]; omega) _ c1.2.2.1
  · exact iB_of hb (magain_o N s _ (by omega) (by omega) (by omega) (by omega) (by omega)) (fun q => magain_o N s _ (by omega) (by omega) (by omega) (by omega) (by omega)) (fun q => magain_o N s _ (by omega) (by omega) (by omega) (by omega) (by omega)) (fun q => magain_o N s _ (by omega) (by omega) (by omega) (by omega) (by omega)) (fun q _ => by rw [h8']; exact Nat.le_refl _) (fun _ => rfl) (fun _ => rfl) (fun _ => rfl)
  · intro s' hs'
    have c2 := hc.1 s' hs'
    rw [magain_9, h8', mund_of (h8' s') h11']
    refine ⟨?_, ?_, c2.2.2.1, c2.2.2.2⟩ <;> split <;> omega
  · intro a h40
    have is := hc.2.1 a h40
    refine ⟨h10lt a h40, ?_, ?_, ?_, ?_, ?_⟩
    · rw [magain_12]; split
      · omega
      · exact is.2.1
    · rw [h11', magain_10]
      rcases is.2.2.1 with z | z
      · exact Or.inl z
      · rw [if_neg (by omega)]; exact Or.inr z
    · rw [h8', h11', magain_10, magain_12]
      intro z
      have q := is.2.2.2.1 z
      have : ¬ (20 * s ≤ a ∧ a < 20 * s + N 8 s ∧ N 11 a = 0) := by
        rintro ⟨z1, z2, _⟩
        have e20 : a / 20 = s := by omega
        rw [e20] at z
        omega
      rw [if_neg this, if_neg this]
      exact q
    · rw [magain_9, mXn_at]
      by_cases g : a / 20 = s
      · rw [if_pos g, if_pos ⟨h40, g, rfl⟩]
      · rw [if_neg g, if_neg (fun z => g z.2.1), magain_10, if_neg (by omega)]
        exact is.2.2.2.2.1
    · intro l hl
      rw [magain_o N s _ (by omega) (by omega) (by omega) (by omega) (by omega), magain_9]
      rcases is.2.2.2.2.2 l hl with z | ⟨w, w1, w2, z⟩
      · exact Or.inl z
      · right
        refine ⟨w, w1, ?_, ?_⟩
        · split
          · rename_i g; rw [g] at w2; omega
          · exact w2
        · rw [mXn_at, if_neg (fun q => by have := q.2.2; rw [q.2.1] at w2; omega)]
          exact z
  · intro a w
    rw [mXn_at]
    split
    · rename_i g; exact h10lt a g.1
    · exact hc.2.2 a w
  · rw [mund_of (h8' 0) h11', mund_of (h8' 1) h11']
    have := magain_u N s c1.2.2.1
    have a0 := (hc.1 0 (by omega)).2.2.2
    have a1 := (hc.1 1 (by omega)).2.2.2
    have := c1.2.2.2
    omega
  · refine mal_mag (N := mnw N s) ?_ s (N 8 s) c1.2.2.1 ?_
    · refine mal_of (N := N) (mal_mono hd.2 (mwf_mono ?_ ?_ ?_ ?_ ?_ ?_ ?_)) (mnw_o _ _ _ (by omega) (by omega)) (fun j q _ _ => mnw_o _ _ _ (by omega) (by omega))
      · intro q _; rw [h8']; exact Nat.le_refl _
      · intro q _; rw [magain_9]; split
        · rename_i g; rw [g]; omega
        · exact Nat.le_refl _
      · intro a _ q; rw [h11']; exact q
      · rw [magain_o N s _ (by omega) (by omega) (by omega) (by omega) (by omega)]; exact Nat.le_refl _
      · exact magain_o N s _ (by omega) (by omega) (by omega) (by omega) (by omega)
      · intro r _ q; rw [magain_o N s _ (by omega) (by omega) (by omega) (by omega) (by omega)]; exact q
      · intro a w _ z
        rw [mXn_at, if_neg (fun q => by have := q.2.2; rw [q.2.1] at z; omega)]
    · intro e l he hl g
      rw [mnw_o _ _ _ (by omega) (by omega)] at g
      rw [memp_nw, mnw_9, if_pos rfl]
      have e1 : (20 * s + e) / 20 = s := by omega
      have e2 : (20 * s + e) % 20 = e := by omega
      have e10 : magain N s 10 (20 * s + e) = memp N (20 * s + e) := by rw [magain_10, if_pos ⟨by omega, by omega, g⟩]
      refine Or.inl ⟨rfl, hl, by omega, by rw [e1, e2, h8']; exact he, memp_lt _ _, by omega, by rw [e1, magain_9, if_pos rfl]; exact Nat.le_refl _, ?_⟩
      rw [mXn_at, if_pos ⟨by omega, e1, rfl⟩, e10]
  · intro r hr
    exact iE_of (he r hr) hb.1 ha.2.2.2.1 (ml r) (fun a _ q => by rw [h11']; exact q) (fun j q hj => magain_o N s _ (by omega) (by omega) (by omega) (by omega) (by omega))
/-! The class's slots, proposed anew. -/
theorem agr_cpm {τ ρ : zs_S} {c : Nat} (h : agr τ ρ c) (w b dd em : Nat → Nat) (m : Nat) (hw : ∀ e, e < m → ¬ c = w e) (hb : ∀ e, e < m → ¬ c = b e) : agr (cpm τ w b dd em m) ρ c := ⟨by rw [cpm_K]; exact h.1, fun q => by rw [cpm_o _ _ _ _ _ _ _ _ hb (Or.inr hw)]; exact h.2.1 q, fun q => by rw [cpm_R]; exact h.2.2 q⟩
theorem cpm_w (σ : zs_S) (w b dd em : Nat → Nat) (q : Nat) : ∀ m, (∀ i j, i < m → j < m → w i = w j → i = j) → (∀ i j, i < m → j < m → ¬ w i = b j) → ∀ e, e < m → zs_I (cpm σ w b dd em m) (w e) q = if dd e = 0 ∧ q = 1 then nI (em e) else zs_I σ (w e) q
  | 0, _, _, e, he => absurd he (Nat.not_lt_zero e)
  | m + 1, h1, h2, e, he => by
    have ih := cpm_w σ w b dd em q m (fun i j a c => h1 i j (by omega) (by omega)) (fun i j a c => h2 i j (by omega) (by omega))
    rw [cpm]
    by_cases g : e = m
    · subst g
      have o := cpm_o σ w b dd em (w e) q e (fun i hi => h2 e i (by omega) (by omega)) (Or.inr (fun i hi z => by have := h1 e i (by omega) (by omega) z; omega))
      by_cases d : dd e = 0
      · rw [if_pos d, cpa_I, if_neg (fun z => h2 e e (by omega) (by omega) z.1), zx_I_pI, o]
        simp only [d, true_and]
      · rw [if_neg d, o, if_neg (fun z => d z.1)]
    · have ihe := ih e (by omega)
      by_cases d : dd m = 0
      · rw [if_pos d, cpa_I, if_neg (fun z => h2 e m (by omega) (by omega) z.1), zx_I_ne _ _ _ _ (fun z => g (h1 e m (by omega) (by omega) z))]
        exact ihe
      · rw [if_neg d]
        exact ihe
theorem cpm_b (σ : zs_S) (w b dd em : Nat → Nat) (q : Nat) (hq : q < 3) : ∀ m, (∀ i j, i < m → j < m → b i = b j → i = j) → (∀ i j, i < m → j < m → ¬ w i = b j) → ∀ e, e < m → zs_I (cpm σ w b dd em m) (b e) q = if dd e = 0 then nI 0 else zs_I σ (b e) q
  | 0, _, _, e, he => absurd he (Nat.not_lt_zero e)
  | m + 1, h1, h2, e, he => by
    have ih := cpm_b σ w b dd em q hq m (fun i j a c => h1 i j (by omega) (by omega)) (fun i j a c => h2 i j (by omega) (by omega))
    rw [cpm]
    by_cases g : e = m
    · subst g
      have o := cpm_o σ w b dd em (b e) q e (fun i hi z => by have := h1 e i (by omega) (by omega) z; omega) (Or.inr (fun i hi z => h2 i e (by omega) (by omega) z.symm))
      by_cases d : dd e = 0
      · rw [if_pos d, cpa_I, if_pos ⟨rfl, hq⟩, if_pos d]
      · rw [if_neg d, o, if_neg d]
    · have ihe := ih e (by omega)
      by_cases d : dd m = 0
      · rw [if_pos d, cpa_I, if_neg (fun z => g (h1 e m (by omega) (by omega) z.1)), zx_I_ne _ _ _ _ (fun z => h2 m e (by omega) (by omega) z.symm)]
        exact ihe
      · rw [if_neg d]
        exact ihe
