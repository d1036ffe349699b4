/-! A batch is closed. -/
theorem any_f {C : Nat → Nat} {L : List Nat} {w : Nat} : (List.range L.length).any (fun j => w == C (L[j]?.getD 0)) = true ↔ ∃ t, t ∈ L ∧ w = C t := by
  rw [List.any_eq_true]
  constructor
  · rintro ⟨j, hj, h⟩
    have hj := List.mem_range.mp hj
    rw [List.getElem?_eq_getElem hj] at h
    exact ⟨L[j], List.getElem_mem hj, by simpa using h⟩
  · rintro ⟨t, ht, h⟩
    obtain ⟨j, hj⟩ := List.mem_iff_getElem?.mp ht
    refine ⟨j, List.mem_range.mpr (List.getElem?_eq_some_iff.mp hj).1, ?_⟩
    rw [hj]
    simpa using h
/-- the reference with a new slot that is not yet sent -/
def mns (N : Nat → Nat → Nat) (s : Nat) : Nat → Nat → Nat := zup N 8 s (N 8 s + 1)
theorem mns_o (N : Nat → Nat → Nat) (s : Nat) {j : Nat} (q : Nat) (h : ¬ j = 8) : mns N s j q = N j q := by
  unfold mns
  rw [zup_at, if_neg (by omega)]
theorem mns_8 (N : Nat → Nat → Nat) (s q : Nat) : mns N s 8 q = if q = s then N 8 s + 1 else N 8 q := by
  unfold mns
  rw [zup_at]
  by_cases z : q = s <;> simp [z]
theorem mns_le (N : Nat → Nat → Nat) (s q : Nat) : N 8 q ≤ mns N s 8 q := by
  rw [mns_8]; split
  · rename_i z; rw [z]; omega
  · exact Nat.le_refl _
theorem cls_bat {P k : Nat} {X N : Nat → Nat → Nat} {V : Nat → Nat → Int32} (h : inv P k X N V) {s : Nat} (hs : s < 2) (i : Nat) (hi : i < 2 ^ 31) : mbat (mns N s) (mep N V s (N 0 2) (nI (N 8 s))) i (mns N s 0 2) = if i = 2 * N 8 s + s then mbl N V s else mbat N V i (N 0 2) := by
  have h8 := (h.2.2.1.1 s hs).2.2.1
  rw [mns_o _ _ _ (by omega)]
  have q : ∀ t, t < N 0 2 → (V 7 t = nI (i / 2) ∧ N 6 t = i % 2 → ¬ i = 2 * N 8 s + s) := by
    rintro t ht ⟨z1, z2⟩ z3
    have it := h.2.1.2.1 t ht
    rcases it.2.2.2.2 with y | y | ⟨e, he, y⟩
    · rw [y] at z1; exact nI_m1 (by omega) z1.symm
    · rw [y] at z1; exact nI_m2 (by omega) z1.symm
    · have := (h.2.2.1.1 _ it.2.2.2.1).2.2.1
      rw [y, nI_eq (by omega) (by omega)] at z1
      have e1 : N 6 t = s := by omega
      rw [e1] at he
      omega
  split
  · rename_i z
    unfold mbat mbl
    refine List.filter_congr (fun t ht => decide_eq_decide.mpr ?_)
    have ht := List.mem_range.mp ht
    rw [mep_7, mns_o _ _ _ (by omega)]
    have e1 : i / 2 = N 8 s := by omega
    have e2 : i % 2 = s := by omega
    rw [e1, e2]
    split
    · rename_i y; exact ⟨fun _ => ⟨y.2.1, y.2.2⟩, fun _ => ⟨rfl, y.2.1⟩⟩
    · rename_i y
      constructor
      · intro x; exact absurd z (q t ht (by rw [e1, e2]; exact x))
      · intro x; exact absurd ⟨ht, x.1, x.2⟩ y
  · rename_i z
    refine mbat_congr 0 (fun t ht => ?_) (fun t a b => absurd b (by omega))
    rw [mep_7, mns_o _ _ _ (by omega)]
    split
    · rename_i y
      constructor
      · rintro ⟨x1, x2⟩
        rw [nI_eq (by omega) (by omega)] at x1
        omega
      · rintro ⟨x1, _⟩
        rw [y.2.2] at x1
        exact absurd x1.symm (nI_m1 (by omega))
    · exact Iff.rfl
theorem inv_new {P k : Nat} {X N : Nat → Nat → Nat} {V : Nat → Nat → Int32} (h : inv P k X N V) {s : Nat} (hs : s < 2) (h20 : N 8 s < 20) : N 10 (20 * s + N 8 s) = 0 ∧ N 11 (20 * s + N 8 s) = 0 ∧ N 12 (20 * s + N 8 s) = 0 := by
  have e1 : (20 * s + N 8 s) / 20 = s := by omega
  have e2 : (20 * s + N 8 s) % 20 = N 8 s := by omega
  have := (h.2.2.1.2.1 (20 * s + N 8 s) (by omega)).2.2.2.1
  rw [e1, e2] at this
  exact this (Nat.le_refl _)
theorem inv_known {P k : Nat} {X N : Nat → Nat → Nat} {V : Nat → Nat → Int32} (h : inv P k X N V) {r i : Nat} (hr : r < 2) (hi : i < 40) (hk : ¬ N 20 (40 * r + mat i) = 0) : i / 2 < N 8 (i % 2) ∧ ¬ N 11 (mat i) = 0 := by
  have hm : mat i = 20 * (i % 2) + i / 2 := rfl
  have h40 : mat i < 40 := by omega
  have g := (h.2.2.2.2 r hr).2.1 (mat i) h40 hk
  refine ⟨?_, g⟩
  apply Classical.byContradiction
  intro z
  have e1 : mat i / 20 = i % 2 := by omega
  have e2 : mat i % 20 = i / 2 := by omega
  have := (h.2.2.1.2.1 (mat i) h40).2.2.2.1
  rw [e1, e2] at this
  exact g (this (by omega)).2.1
theorem cls_line {P k : Nat} {X N : Nat → Nat → Nat} {V : Nat → Nat → Int32} (h : inv P k X N V) {s : Nat} (hs : s < 2) {r : Nat} (hr : r < 2) : mline (mns N s) (mep N V s (N 0 2) (nI (N 8 s))) r = mline N V r := by
  refine mline_congr (fun i _ => mns_o _ _ _ (by omega)) (fun i hi hk => mpart_congr (mns_o _ _ _ (by omega)) ?_)
  rw [cls_bat h hs i (by omega), if_neg]
  intro z
  have := (inv_known h hr hi hk).1
  have e1 : i / 2 = N 8 s := by omega
  have e2 : i % 2 = s := by omega
  rw [e1, e2] at this
  omega
theorem cls_mbl (N : Nat → Nat → Nat) (V : Nat → Nat → Int32) (s s' : Nat) (h : N 8 s < 2 ^ 31) : mbl (mns N s) (mep N V s (N 0 2) (nI (N 8 s))) s' = if s' = s then [] else mbl N V s' := by
  have e02 : mns N s 0 2 = N 0 2 := mns_o _ _ _ (by omega)
  split
  · rename_i e
    subst e
    refine List.filter_eq_nil_iff.mpr (fun t ht => ?_)
    rw [e02] at ht
    rw [mep_7, decide_eq_true_eq, mns_o _ _ _ (by omega)]
    have ht := List.mem_range.mp ht
    by_cases g : t < N 0 2 ∧ N 6 t = s' ∧ V 7 t = -1
    · rw [if_pos g]; exact fun z => nI_m1 h z.2
    · rw [if_neg g]; exact fun z => g ⟨ht, z⟩
  · rename_i e
    unfold mbl
    rw [e02]
    refine List.filter_congr (fun t ht => ?_)
    rw [mep_7, mns_o _ _ _ (by omega)]
    split
    · rename_i g
      have : ¬ N 6 t = s' := by omega
      simp [this]
    · rfl
theorem cls_und {P k : Nat} {X N : Nat → Nat → Nat} {V : Nat → Nat → Int32} (h : inv P k X N V) {s : Nat} (hs : s < 2) (h20 : N 8 s < 20) (s' : Nat) : mund (mns N s) s' = if s' = s then mund N s + 1 else mund N s' := by
  unfold mund
  rw [mns_8]
  split
  · rename_i z
    subst z
    rw [mC_s, mns_o _ _ _ (by omega), (inv_new h hs h20).2.1]
    rw [mC_congr (N 8 s') (Y := fun e => decide (N 11 (20 * s' + e) = 0)) (fun j _ => by rw [mns_o _ _ _ (by omega)])]
    simp
  · exact mC_congr _ (fun j _ => by rw [mns_o _ _ _ (by omega)])
theorem cls_inv {P k : Nat} {X N : Nat → Nat → Nat} {V : Nat → Nat → Int32} (h : inv P k X N V) {s : Nat} (hs : s < 2) (h20 : N 8 s < 20) (hu : ¬ 48 < N 0 16) (hd3 : mund N s < 3) : inv P k X (mns N s) (mep N V s (N 0 2) (nI (N 8 s))) := by
  have hl : ∀ r, r < 2 → _ := fun r hr => cls_line h hs (r := r) hr
  have hund := cls_und h hs h20
  have h' := h
  obtain ⟨ha, hb, hc, hd, he⟩ := h
  refine ⟨iA_of ha (zh_up ha.1 (by omega) 8 s) (mns_o _ _ _ (by omega)) (fun q => mns_o _ _ _ (by omega)), ⟨by rw [mns_o _ _ _ (by omega)]; exact hb.1, fun t ht => ?_, fun s' hs' => ?_⟩, ⟨fun s' hs' => ?_, fun a h40 => ?_, hc.2.2⟩, ⟨?_, ?_⟩, fun r hr => iE_of (he r hr) hb.1 ha.2.2.2.1 (hl r hr) (fun a _ q => by rw [mns_o _ _ _ (by omega)]; exact q) (fun j q hj => mns_o _ _ _ (by omega))⟩
  · rw [mns_o _ _ _ (by omega)] at ht
    have it := hb.2.1 t ht
    unfold iT
    rw [mns_o _ _ _ (by omega), mns_o _ _ _ (by omega), mns_o _ _ _ (by omega), mep_o _ _ _ _ _ (by omega), mep_o _ _ _ _ _ (by omega), mep_7]
    refine ⟨it.1, it.2.1, it.2.2.1, it.2.2.2.1, ?_⟩
    split
    · rename_i z
      refine Or.inr (Or.inr ⟨N 8 s, ?_, rfl⟩)
      rw [z.2.1, mns_8, if_pos rfl]
      omega
    · rcases it.2.2.2.2 with y | y | ⟨e, q, y⟩
      · exact Or.inl y
      · exact Or.inr (Or.inl y)
      · exact Or.inr (Or.inr ⟨e, Nat.lt_of_lt_of_le q (mns_le N s _), y⟩)
  · rw [cls_mbl N V s s' (by omega)]
    split
    · exact Nat.zero_le _
    · exact hb.2.2 s' hs'
  · have c1 := hc.1 s' hs'
    rw [hund, mns_o _ _ _ (by omega), mns_8]
    refine ⟨c1.1, c1.2.1, ?_, ?_⟩
    · split
      · omega
      · exact c1.2.2.1
    · split
      · omega
      · exact c1.2.2.2
  · have is := hc.2.1 a h40
    unfold iS
    rw [mns_o N s (j := 10) _ (by omega), mns_o N s (j := 12) _ (by omega), mns_o N s (j := 11) _ (by omega), mns_o N s (j := 9) _ (by omega)]
    refine ⟨is.1, is.2.1, is.2.2.1, fun z => is.2.2.2.1 (Nat.le_trans (mns_le N s _) z), is.2.2.2.2.1, fun l hl => ?_⟩
    rw [mns_o _ _ _ (by omega)]
    exact is.2.2.2.2.2 l hl
  · rw [hund 0, hund 1, mns_o _ _ _ (by omega)]
    have := und_le h'
    have u0 := (hc.1 0 (by omega)).2.2.2
    have u1 := (hc.1 1 (by omega)).2.2.2
    split <;> split <;> omega
  · refine mal_of (N := N) (mal_mono hd.2 (mwf_mono ?_ ?_ ?_ ?_ ?_ ?_ ?_)) (mns_o _ _ _ (by omega)) (fun j q _ _ => mns_o _ _ _ (by omega))
    · intro q _; exact mns_le N s q
    · intro q _; rw [mns_o _ _ _ (by omega)]; exact Nat.le_refl _
    · intro a _ q; rw [mns_o _ _ _ (by omega)]; exact q
    · rw [mns_o _ _ _ (by omega)]; exact Nat.le_refl _
    · exact mns_o _ _ _ (by omega)
    · intro r _ q; rw [mns_o _ _ _ (by omega)]; exact q
    · intro a w _ _; rfl
def cns (ρ : zs_S) (s c n : Nat) (f : Nat → Nat) : zs_S := zs_pI (zs_pR (zs_pI (cmk ρ c f c) (18 + 3 * s) 1 (nI 0)) (20 + 3 * s) n (some (zs_n ρ + 1))) (18 + 3 * s) 3 (nI (n + 1))
theorem cls_rel {P M k : Nat} {X : Nat → Nat → Nat} {C : Nat → Nat} {W : Nat → Nat → Nat} {ρ : zs_S} {N : Nat → Nat → Nat} {V : Nat → Nat → Int32} (hi : inv P k X N V) (hr : rel P M C W ρ N V) {s : Nat} (hs : s < 2) (h20 : N 8 s < 20) : rel P M C (fun s' e => if s' = s ∧ e = N 8 s then zs_n ρ + 1 else W s' e) (cns ρ s (mbl N V s).length (N 8 s) (fun i => C ((mbl N V s)[i]?.getD 0))) (mns N s) (mep N V s (N 0 2) (nI (N 8 s))) := by
  have hP := hi.1.2.2.2.1
  have hb4 := inv_b4 hi
  have hl : ∀ r, r < 2 → _ := fun r hr => cls_line hi hs (r := r) hr
  have hnew := inv_new hi hs h20
  have hr' := hr
  obtain ⟨⟨h1, hM, hn⟩, h3, h4, h5, h6, h7, h8, h9, h10⟩ := hr
  have nn : zs_n (cns ρ s (mbl N V s).length (N 8 s) (fun i => C ((mbl N V s)[i]?.getD 0))) = zs_n ρ + 3 := by
    unfold cns
    rw [zx_n_pI, zx_n_pR, zx_n_pI]; rfl
  have KK : ∀ w, zs_K (cns ρ s (mbl N V s).length (N 8 s) (fun i => C ((mbl N V s)[i]?.getD 0))) w = if w = zs_n ρ then (116, (mbl N V s).length) else if w = zs_n ρ + 1 then (5, 0) else if w = zs_n ρ + 2 then (101, 3) else zs_K ρ w := by
    intro w
    unfold cns
    rw [zx_K_pI, zx_K_pR, zx_K_pI, cmk_K]
  have II : ∀ w q, ¬ w = 18 + 3 * s → zs_I (cns ρ s (mbl N V s).length (N 8 s) (fun i => C ((mbl N V s)[i]?.getD 0))) w q = if zs_n ρ ≤ w ∧ w ≤ zs_n ρ + 2 then nI 0 else zs_I ρ w q := by
    intro w q hw
    unfold cns
    rw [zx_I_ne _ _ _ _ hw, zx_I_pR, zx_I_ne _ _ _ _ hw, cmk_I]
  have I18 : ∀ q, zs_I (cns ρ s (mbl N V s).length (N 8 s) (fun i => C ((mbl N V s)[i]?.getD 0))) (18 + 3 * s) q = if q = 3 then nI (N 8 s + 1) else if q = 1 then nI 0 else zs_I ρ (18 + 3 * s) q := by
    intro q
    unfold cns
    by_cases z : q = 3
    · rw [z, zx_I_eq, if_pos rfl]
    · rw [zx_I_ek _ _ _ _ _ z, zx_I_pR, if_neg z]
      by_cases y : q = 1
      · rw [y, zx_I_eq, if_pos rfl]
      · rw [zx_I_ek _ _ _ _ _ y, if_neg y, cmk_I, if_neg (by omega)]
  have RR : ∀ w q, ¬ w = 20 + 3 * s → zs_R (cns ρ s (mbl N V s).length (N 8 s) (fun i => C ((mbl N V s)[i]?.getD 0))) w q = zs_R (cmk ρ (mbl N V s).length (fun i => C ((mbl N V s)[i]?.getD 0)) (mbl N V s).length) w q := by
    intro w q hw
    unfold cns
    rw [zx_R_pI, zx_R_ne _ _ _ _ hw, zx_R_pI]
  have Ro : ∀ w q, ¬ w = 20 + 3 * s → w < zs_n ρ → (¬ q = 7 ∨ ∀ t, t ∈ mbl N V s → ¬ w = C t) → zs_R (cns ρ s (mbl N V s).length (N 8 s) (fun i => C ((mbl N V s)[i]?.getD 0))) w q = zs_R ρ w q := by
    intro w q hw hlt hq
    rw [RR w q hw, cmk_R, if_neg (by omega), if_neg (by omega), if_neg (by omega), if_neg]
    rintro ⟨z1, z2⟩
    obtain ⟨t, a, b⟩ := any_f.mp z2
    rcases hq with y | y
    · exact y z1
    · exact y t a b
  have R20 : ∀ q, zs_R (cns ρ s (mbl N V s).length (N 8 s) (fun i => C ((mbl N V s)[i]?.getD 0))) (20 + 3 * s) q = if q = N 8 s then some (zs_n ρ + 1) else zs_R ρ (20 + 3 * s) q := by
    intro q
    unfold cns
    rw [zx_R_pI]
    by_cases z : q = N 8 s
    · rw [z, zx_R_eq, if_pos rfl]
    · rw [zx_R_ek _ _ _ _ _ z, if_neg z, zx_R_pI, cmk_R, if_neg (by omega), if_neg (by omega), if_neg (by omega), if_neg]
      rintro ⟨_, z2⟩
      obtain ⟨t, a, b⟩ := any_f.mp z2
      have := (h5 t (mbl_mem.mp a).1).2.1
      omega
  have RC : ∀ t, t ∈ mbl N V s → zs_R (cns ρ s (mbl N V s).length (N 8 s) (fun i => C ((mbl N V s)[i]?.getD 0))) (C t) 7 = some (zs_n ρ + 1) := by
    intro t ht
    have tt := h5 t (mbl_mem.mp ht).1
    have c1 := tt.2.1
    have c2 := tt.2.2.1
    rw [RR _ _ (by omega), cmk_R, if_neg (by omega), if_neg (by omega), if_neg (by omega), if_pos ⟨rfl, any_f.mpr ⟨t, ht, rfl⟩⟩]
  have Rn : ∀ w q, zs_n ρ ≤ w → w ≤ zs_n ρ + 2 → zs_R (cns ρ s (mbl N V s).length (N 8 s) (fun i => C ((mbl N V s)[i]?.getD 0))) w q = if w = zs_n ρ then (if q < (mbl N V s).length then some (C ((mbl N V s)[q]?.getD 0)) else none) else if w = zs_n ρ + 1 then (if q = 0 then some (zs_n ρ) else if q = 3 then some (zs_n ρ + 2) else none) else none := by
    intro w q hw1 hw2
    rw [RR _ _ (by omega), cmk_R]
    by_cases z : w = zs_n ρ
    · rw [if_pos z, if_pos z]
    · rw [if_neg z, if_neg z]
      by_cases y : w = zs_n ρ + 1
      · rw [if_pos y, if_pos y]
      · rw [if_neg y, if_neg y, if_pos (by omega)]
  have ag : ∀ w, ¬ w = 18 + 3 * s → ¬ w = 20 + 3 * s → w < zs_n ρ → (∀ t, t ∈ mbl N V s → ¬ w = C t) → agr (cns ρ s (mbl N V s).length (N 8 s) (fun i => C ((mbl N V s)[i]?.getD 0))) ρ w := by
    intro w q1 q2 q3 q4
    exact ⟨by rw [KK, if_neg (by omega), if_neg (by omega), if_neg (by omega)], fun q => by rw [II _ _ q1, if_neg (by omega)], fun q => Ro w q q2 q3 (Or.inr q4)⟩
  have lo : ∀ w, w < M → ∀ t, t ∈ mbl N V s → ¬ w = C t := by
    intro w hw t ht
    have := (h5 t (mbl_mem.mp ht).1).2.1
    omega
  have agl : ∀ w, w < M → ¬ w = 18 + 3 * s → ¬ w = 20 + 3 * s → agr (cns ρ s (mbl N V s).length (N 8 s) (fun i => C ((mbl N V s)[i]?.getD 0))) ρ w := fun w hw a b => ag w a b (by omega) (lo w hw)
  generalize cns ρ s (mbl N V s).length (N 8 s) (fun i => C ((mbl N V s)[i]?.getD 0)) = τ at *
  have e02 : mns N s 0 2 = N 0 2 := mns_o _ _ _ (by omega)
  refine ⟨⟨csb_of (fun w hw => by rw [KK, if_neg (by omega), if_neg (by omega), if_neg (by omega)]) (by rw [II 0 0 (by omega), if_neg (by omega)]) (fun w q hw => Ro w q (by obtain ⟨w1, w2, w3, w4, w5, w6, w7⟩ := hw; omega) (by have := hw.1; omega) (Or.inr (lo w (by have := hw.1; omega)))) h1, hM, by omega⟩, cdn_of h3 (agl 1 (by omega) (by omega) (by omega)) (fun x _ => mns_o _ _ _ (by omega)), by rw [II 0 3 (by omega), if_neg (by omega), e02]; exact h4, fun t ht => ?_, fun s' hs' => ⟨?_, fun e he => ?_⟩, ?_, fun l hl => rL_of (h8 l hl) (agl _ (by omega) (by omega) (by omega)) (agl _ (by omega) (by omega) (by omega)) (fun q => mns_o _ _ _ (by omega)) (fun q => mns_o _ _ _ (by omega)), ?_, fun r hr => ⟨?_, fun p hp => ?_⟩⟩
  · rw [e02] at ht
    have tt := h5 t ht
    have c1 := tt.2.1
    have c2 := tt.2.2.1
    by_cases g : t ∈ mbl N V s
    · have m := mbl_mem.mp g
      have v7 : mep N V s (N 0 2) (nI (N 8 s)) 7 t = nI (N 8 s) := by rw [mep_7, if_pos ⟨ht, m.2.1, m.2.2⟩]
      have hR := mR_congr (N := N) (N' := mns N s) (V := V) (V' := mep N V s (N 0 2) (nI (N 8 s))) (t := t) (mns_o _ _ _ (by omega)) (mns_o _ _ _ (by omega)) (mep_o _ _ _ _ _ (by omega) _)
      have hW := mW_congr (N := N) (N' := mns N s) (V := V) (V' := mep N V s (N 0 2) (nI (N 8 s))) (t := t) (mns_o _ _ _ (by omega)) (mns_o _ _ _ (by omega)) (mep_o _ _ _ _ _ (by omega) _) (mep_o _ _ _ _ _ (by omega) _)
      have ic : ∀ q, zs_I τ (C t) q = zs_I ρ (C t) q := fun q => by rw [II _ _ (by omega), if_neg (by omega)]
      unfold rT
      rw [Ro 2 t (by omega) (by omega) (Or.inr (lo 2 (by omega))), KK, if_neg (by omega), if_neg (by omega), if_neg (by omega), nn, ic, ic, ic, ic, ic, ic, ic, ic, v7, hR, hW, mep_o _ _ _ _ _ (by omega), mep_o _ _ _ _ _ (by omega), mns_o _ _ _ (by omega), mns_o _ _ _ (by omega), mns_o _ _ _ (by omega), RC t g, if_neg (nI_m2 (by omega)), if_neg (fun z => by rcases z with z | z; exact nI_m1 (by omega) z; exact nI_m2 (by omega) z), nI_clamp (by omega), m.2.1]
      dsimp only
      rw [if_pos ⟨rfl, rfl⟩]
      have i8 := tt.2.2.2.2.2.2.2.2.2.2.2.1
      rw [m.2.2, if_neg (by decide)] at i8
      exact ⟨tt.1, tt.2.1, by omega, tt.2.2.2.1, tt.2.2.2.2.1, tt.2.2.2.2.2.1, tt.2.2.2.2.2.2.1, tt.2.2.2.2.2.2.2.1, tt.2.2.2.2.2.2.2.2.1, tt.2.2.2.2.2.2.2.2.2.1, tt.2.2.2.2.2.2.2.2.2.2.1, i8, rfl⟩
    · refine rT_of tt (by omega) (Ro 2 t (by omega) (by omega) (Or.inr (lo 2 (by omega)))) (ag _ (by omega) (by omega) (by omega) (fun u hu z => ?_)) (mns_o _ _ _ (by omega)) (mns_o _ _ _ (by omega)) (mns_o _ _ _ (by omega)) (mep_o _ _ _ _ _ (by omega) _) (mep_o _ _ _ _ _ (by omega) _) (by rw [mep_7, if_neg (fun z => g (mbl_mem.mpr z))]) ?_
      · have := rel_Ci hi hr' ht (mbl_mem.mp hu).1 z
        subst this
        exact g hu
      · have it := hi.2.1.2.1 t ht
        rcases it.2.2.2.2 with y | y | ⟨e, q, y⟩
        · exact Or.inr (Or.inl y)
        · exact Or.inr (Or.inr y)
        · have := (hi.2.2.1.1 _ it.2.2.2.1).2.2.1
          left
          rw [y, nI_clamp (by omega)]
          rw [if_neg]
          rintro ⟨z1, z2⟩
          rw [z1] at q
          omega
  · have q := (h6 s' hs').1
    by_cases g : s' = s
    · subst g
      unfold rQ
      rw [cls_mbl N V s' s' (by omega), if_pos rfl, I18, I18, I18, if_neg (by omega), if_pos rfl, if_pos rfl, if_neg (by omega), if_neg (by omega), mns_8, if_pos rfl, mns_o _ _ _ (by omega)]
      exact ⟨rfl, rfl, q.2.2.1, fun i t z => by simp at z⟩
    · exact rQ_of q (agl _ (by omega) (by omega) (by omega)) (agl _ (by omega) (by omega) (by omega)) (by rw [cls_mbl N V s s' (by omega), if_neg g]) (by rw [mns_8, if_neg g]) (mns_o _ _ _ (by omega))
  · by_cases g : s' = s ∧ e = N 8 s
    · obtain ⟨g1, g2⟩ := g
      subst g1
      subst g2
      unfold rS
      dsimp only
      rw [if_pos ⟨rfl, rfl⟩, cls_bat hi hs' _ (by omega), if_pos rfl, R20, if_pos rfl, show zs_n ρ + 1 - 1 = zs_n ρ by omega, nn, KK, if_neg (by omega), if_pos rfl, KK, if_neg (by omega), if_neg (by omega), if_pos rfl, KK, if_pos rfl, Rn _ _ (by omega) (by omega), if_neg (by omega), if_pos rfl, if_pos rfl, Rn _ _ (by omega) (by omega), if_neg (by omega), if_pos rfl, if_neg (by omega), if_pos rfl, II _ _ (by omega), if_pos (by omega), II _ _ (by omega), if_pos (by omega), mns_o _ _ _ (by omega), mns_o _ _ _ (by omega), mns_o _ _ _ (by omega), hnew.1, hnew.2.1, hnew.2.2]
      refine ⟨rfl, by omega, by omega, rfl, rfl, rfl, rfl, rfl, rfl, rfl, fun l hl => ?_, fun i t z => ?_⟩
      · rw [II _ _ (by omega), if_pos (by omega), Nat.zero_div]
      · have il := (List.getElem?_eq_some_iff.mp z).1
        rw [Rn _ _ (by omega) (by omega), if_pos rfl, if_pos il, z]
        rfl
    · have he' : e < N 8 s' := by
        rw [mns_8] at he
        split at he
        · rename_i z; subst z; omega
        · exact he
      have ss := (h6 s' hs').2 e he'
      have c1 := ss.2.1
      have c2 := ss.2.2.1
      have h20' := (hi.2.2.1.1 s' hs').2.2.1
      have cw : ∀ t, t ∈ mbl N V s → _ := fun t ht => rel_CW hr' (mbl_mem.mp ht).1 hs' he'
      have q := rS_of (τ := τ) (N' := mns N s) (V' := mep N V s (N 0 2) (nI (N 8 s))) ss (by omega) (by
        by_cases z : s' = s
        · subst z
          rw [R20, if_neg (by omega)]
        · exact Ro _ _ (by omega) (by omega) (Or.inr (lo _ (by omega)))) (ag _ (by omega) (by omega) (by omega) (fun t ht z => (cw t ht).1 z.symm)) (ag _ (by omega) (by omega) (by omega) (fun t ht z => (cw t ht).2.1 z.symm)) (ag _ (by omega) (by omega) (by omega) (fun t ht z => (cw t ht).2.2 z.symm)) (by rw [cls_bat hi hs _ (by omega), if_neg (by omega)]) (mns_o _ _ _ (by omega)) (mns_o _ _ _ (by omega)) (mns_o _ _ _ (by omega))
      unfold rS at q ⊢
      dsimp only
      rw [if_neg g]
      exact q
  · intro s1 e1 s2 e2 q1 q2 q3 q4 z
    dsimp only at z
    rw [mns_8] at q3 q4
    by_cases g1 : s1 = s ∧ e1 = N 8 s
    · by_cases g2 : s2 = s ∧ e2 = N 8 s
      · omega
      · rw [if_pos g1, if_neg g2] at z
        have he2 : e2 < N 8 s2 := by
          split at q4
          · rename_i y; subst y; omega
          · exact q4
        have := ((h6 s2 q2).2 e2 he2).2.2.1
        omega
    · have he1 : e1 < N 8 s1 := by
        split at q3
        · rename_i y; subst y; omega
        · exact q3
      by_cases g2 : s2 = s ∧ e2 = N 8 s
      · rw [if_neg g1, if_pos g2] at z
        have := ((h6 s1 q1).2 e1 he1).2.2.1
        omega
      · rw [if_neg g1, if_neg g2] at z
        have he2 : e2 < N 8 s2 := by
          split at q4
          · rename_i y; subst y; omega
          · exact q4
        exact h7 s1 e1 s2 e2 q1 q2 he1 he2 z
  · rw [mpl_of (N := N) (mns_o _ _ _ (by omega)) (fun i _ => ⟨mcode_of (fun m _ _ => mns_o _ _ _ (by omega)), mns_o _ _ _ (by omega)⟩)]
    exact cpl_of h9 (agl 3 (by omega) (by omega) (by omega)) (agl 4 (by omega) (by omega) (by omega)) (agl 5 (by omega) (by omega) (by omega))
  · have hv := crv_le (P := P) (r := r) hP hr
    have q := rR_of (τ := τ) (N' := mns N s) (V' := mep N V s (N 0 2) (nI (N 8 s))) (h10 r hr).1 (fun j _ => agl _ (by omega) (by omega) (by omega)) (hl r hr) e02 (fun q => mns_o _ _ _ (by omega)) (fun q => mns_o _ _ _ (by omega)) (mns_o _ _ _ (by omega)) (fun _ _ => mep_o _ _ _ _ _ (by omega) _) (fun _ _ => mep_o _ _ _ _ _ (by omega) _) (fun _ _ => mep_o _ _ _ _ _ (by omega) _) (fun _ _ => mep_o _ _ _ _ _ (by omega) _)
    refine ⟨fun i hi' => ?_, q.2⟩
    rw [q.1 i hi']
    split
    · rfl
    · rename_i z
      rw [mns_o _ _ _ (by omega)] at z
      have := (inv_known hi hr hi' z).1
      dsimp only
      rw [if_neg]
      rintro ⟨z1, z2⟩
      rw [z1, z2] at this
      omega
  · have hv := crv_le (P := P) (r := r) hP hr
    exact rP_of ((h10 r hr).2 p hp) (fun j _ => agl _ (by omega) (by omega) (by omega)) (mwin_congr [] (by rw [List.append_nil]; exact hl r hr) (mns_o _ _ _ (by omega)) (mns_o _ _ _ (by omega)) (hb4 r p hr hp) (fun t _ => mns_o _ _ _ (by omega))) (mns_o _ _ _ (by omega)) (fun t => mns_o _ _ _ (by omega)) (fun q => mns_o _ _ _ (by omega))
theorem st_close {P M k : Nat} {ρ : zs_S} {Q1 : zs_Q} (x : Int32) (h : st P M k ρ) (hQ : stq P M k (fun τ Q2 => zw_Md_close [.ref M, .int x] τ Q2) Q1) : zw_SB_close [.ref 0, .int x] ρ Q1 := by
  obtain ⟨X, C, W, N, V, hi, hr, hm⟩ := h
  have hu := inv_u hi
  have hM := rel_M hr
  have hM2 := hr.1.2.1
  have hn := hr.1.2.2
  have edd : ∀ s, mC (fun e => decide ((if N 11 (20 * s + e) = 0 then 0 else 1) = 0)) (N 8 s) = mund N s := by
    intro s
    unfold mund
    refine mC_congr _ (fun j _ => ?_)
    by_cases z : N 11 (20 * s + j) = 0 <;> simp [z]
  have hdd : ∀ s, s < 2 → ∀ e, e < N 8 s → (if N 11 (20 * s + e) = 0 then 0 else 1) < 2 ∧ ∃ w, zs_R ρ (20 + 3 * s) e = some w ∧ zs_K ρ w = (5, 0) ∧ zs_I ρ w 2 = nI (if N 11 (20 * s + e) = 0 then 0 else 1) := by
    intro s hs e he
    have ss := (hr.2.2.2.2.1 s hs).2 e he
    exact ⟨by split <;> omega, _, ss.1, ss.2.2.2.1, ss.2.2.2.2.2.2.2.2.2.1⟩
  by_cases g : ∃ s, s < 2 ∧ x = nI s ∧ N 1 (3 + s) = 0 ∧ ¬ 48 < N 0 16 ∧ N 8 s < 20 ∧ mund N s < 3
  · obtain ⟨s, h2, rfl, hup, gu, h20, hd3⟩ := g
    have rq := hr.2.2.2.2.1 s h2
    have hnew := inv_new hi h2 h20
    have hi1 := cls_inv hi h2 h20 gu hd3
    have hr1 := cls_rel hi hr h2 h20
    have e1 : (20 * s + N 8 s) / 20 = s := by omega
    have e2 : (20 * s + N 8 s) % 20 = N 8 s := by omega
    obtain ⟨p1, p2⟩ := spread_step hi1 hr1 (a := 20 * s + N 8 s) (by omega) (by rw [e1, e2, mns_8, if_pos rfl]; omega) (by rw [mns_o _ _ _ (by omega)]; omega)
    have ef : (fun l => mns N s 12 (20 * s + N 8 s) / 2 ^ l % 2) = (fun _ : Nat => 0) := by
      funext l
      rw [mns_o _ _ _ (by omega), hnew.2.2, Nat.zero_div]
    rw [e1, e2, ef, mns_o N s (j := 10) _ (by omega), hnew.1, mns_o N s (j := 9) _ (by omega), mns_o N s (j := 0) _ (by omega)] at p2
    refine cl_close_in P s (N 0 16) (N 8 s) (mbl N V s).length (N 9 s) 0 (fun i => C ((mbl N V s)[i]?.getD 0)) (N 1) (fun e => if N 11 (20 * s + e) = 0 then 0 else 1) ρ Q1 hr.1.1 hr.2.1 h2 hup (rel_u hr) gu rq.1.2.1 h20 (hdd s h2) (by rw [edd]; exact hd3) rq.1.1 (hi.2.1.2.2 s h2) (fun i hil => ?_) rq.1.2.2.1 (by omega) ?_
    · have e0 : (mbl N V s)[i]? = some (mbl N V s)[i] := List.getElem?_eq_getElem hil
      have tt := hr.2.2.2.1 _ (mbl_mem.mp (List.getElem_mem hil)).1
      have c1 := tt.2.1
      rw [e0]
      exact ⟨rq.1.2.2.2 i _ e0, tt.2.2.2.1, tt.2.2.1, by rw [Option.getD_some]; omega⟩
    · refine hQ _ _ (fun Q2 h3 => ?_)
      have hm' : mdb M (csnd (cns ρ s (mbl N V s).length (N 8 s) (fun i => C ((mbl N V s)[i]?.getD 0))) (N 0 16) (cstl s (N 8 s) 0 (N 9 s) (fun _ => 0) 3)) N V := by
        refine mdb_agw hm (fun w a b => agr_csnd ?_ _ _ (by omega))
        unfold cns
        refine agr_pI (agr_pR (agr_pI ?_ _ _ _ (by omega)) _ _ _ (by omega)) _ _ _ (by omega)
        refine ⟨by rw [cmk_K, if_neg (by omega), if_neg (by omega), if_neg (by omega)], fun q => by rw [cmk_I, if_neg (by omega)], fun q => ?_⟩
        rw [cmk_R, if_neg (by omega), if_neg (by omega), if_neg (by omega), if_neg]
        rintro ⟨_, z⟩
        obtain ⟨t, z1, z2⟩ := any_f.mp z
        have := (hr.2.2.2.1 t (mbl_mem.mp z1).1).2.1
        omega
      refine ⟨N, V, hm', ?_⟩
      show zw_Md_close [.ref M, .int (nI s)] (md M _ N V) Q2
      exact mo_close_in _ _ _ _ _ hi.1.1 s h2 hup gu h20 hi.2.1.1 hd3 (by rw [hnew.2.2]; omega) (by rw [hnew.1]; omega) (h3 _ (st_mk (inv_k p1) p2))
  · refine cl_close_out P (N 0 16) x (N 1) (N 8) (fun s e => if N 11 (20 * s + e) = 0 then 0 else 1) ρ Q1 hr.1.1 hr.2.1 (rel_u hr) (by omega) (fun s hs => ⟨(hr.2.2.2.2.1 s hs).1.2.1, (hi.2.2.1.1 s hs).2.2.1, hdd s hs⟩) ?_ (hQ _ _ (fun Q2 h3 => ?_))
    · rintro ⟨s, a1, a2, a3, a4, a5, a6⟩
      rw [edd] at a6
      exact g ⟨s, a1, a2, a3, a4, a5, a6⟩
    · refine ⟨N, V, hm, ?_⟩
      show zw_Md_close [.ref M, .int x] (md M _ N V) Q2
      exact mo_close_out _ _ _ _ _ hi.1.1 x (fun n hn => (hi.2.2.1.1 n hn).2.2.1) g (h3 _ (st_id hi hr))
