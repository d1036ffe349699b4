/-! Transactions are submitted. -/
theorem mgood_of {k a b n : Int32} (h : mgood k a b n = true) : (∃ j, j < 6 ∧ k = nI j) ∧ (∃ j, j < 12 ∧ a = nI j) ∧ ((¬ k = nI 2 ∧ ¬ k = nI 4) → ∃ j, j < 12 ∧ b = nI j) ∧ (k = nI 1 → ∃ j, j < 12 ∧ n = nI j) := by
  unfold mgood at h
  rw [decide_eq_true_eq] at h
  obtain ⟨h1, h2, h3, h4, h5, h6⟩ := h
  exact ⟨(zin_le (by decide)).mp h1, (zin_le (by decide)).mp h2, fun z => (zin_le (by decide)).mp (h3 z), fun z => (zin_le (by decide)).mp ⟨(h5 z).1, (h5 z).2.1⟩⟩
theorem crk_R {N : Nat → Nat → Nat} {V : Nat → Nat → Int32} {t : Nat} (h2 : N 2 t < 6) (h3 : N 3 t < 12) (hg : mgood (nI (N 2 t)) (nI (N 3 t)) (V 4 t) (V 5 t) = true) : crk (nI (N 2 t)) (nI (N 3 t)) (cbb (nI (N 2 t)) (nI (N 3 t)) (V 4 t)) = kset (mR N V t) := by
  obtain ⟨_, _, g3, _⟩ := mgood_of hg
  unfold crk
  by_cases e2 : N 2 t = 2
  · rw [if_pos (by rw [e2])]
    refine ((kset_0 _).mpr (fun k _ => ?_)).symm
    unfold mR
    simp [e2]
  · rw [if_neg (by rw [nI_eq (by omega) (by omega)]; exact e2), kset_1 _ h3]
    unfold cbb
    by_cases e4 : N 2 t = 4
    · rw [if_neg (by rw [e4]; simp), kset_1 _ h3, kset_or]
      apply kset_ext
      intro k hk
      unfold mR
      simp [e4]
      by_cases z : k = N 3 t <;> simp [z]
    · have q : ¬ nI (N 2 t) = nI 2 ∧ ¬ nI (N 2 t) = nI 4 := by
        rw [nI_eq (by omega) (by omega), nI_eq (by omega) (by omega)]
        exact ⟨e2, e4⟩
      obtain ⟨b, hb, eb⟩ := g3 q
      rw [if_pos q, eb, kset_1 _ hb, kset_or]
      apply kset_ext
      intro k hk
      unfold mR
      rw [eb, Bool.eq_iff_iff]
      simp only [Bool.or_eq_true, beq_iff_eq, decide_eq_true_eq]
      rw [nI_eq (by omega) (by omega)]
      constructor
      · rintro (z | z)
        · exact ⟨e2, Or.inl z⟩
        · exact ⟨e2, Or.inr ⟨⟨e2, e4⟩, z⟩⟩
      · rintro ⟨_, z | z⟩
        · exact Or.inl z
        · exact Or.inr z.2
theorem ckw_W {N : Nat → Nat → Nat} {V : Nat → Nat → Int32} {t : Nat} (h2 : N 2 t < 6) (h3 : N 3 t < 12) (hg : mgood (nI (N 2 t)) (nI (N 3 t)) (V 4 t) (V 5 t) = true) : ckw (nI (N 2 t)) (nI (N 3 t)) (cbb (nI (N 2 t)) (nI (N 3 t)) (V 4 t)) (V 5 t) = kset (mW N V t) := by
  obtain ⟨_, _, g3, g5⟩ := mgood_of hg
  have eq : ∀ j, j < 12 → (nI (N 2 t) = nI j ↔ N 2 t = j) := fun j hj => nI_eq (by omega) (by omega)
  unfold ckw
  by_cases e1 : N 2 t = 1
  · obtain ⟨j, hj, ej⟩ := g5 (by rw [e1])
    rw [if_pos (by rw [e1]), ej, kset_1 _ hj]
    apply kset_ext
    intro k hk
    unfold mW
    rw [if_pos e1, ej, Bool.eq_iff_iff, beq_iff_eq, decide_eq_true_eq, nI_eq (by omega) (by omega)]
  · rw [if_neg (by rw [eq 1 (by omega)]; exact e1)]
    unfold cbb
    by_cases e5 : N 2 t = 5
    · have q : ¬ nI (N 2 t) = nI 2 ∧ ¬ nI (N 2 t) = nI 4 := by
        rw [eq 2 (by omega), eq 4 (by omega)]; omega
      obtain ⟨b, hb, eb⟩ := g3 q
      rw [if_pos (by rw [e5]), if_pos q, eb, kset_1 _ hb]
      apply kset_ext
      intro k hk
      unfold mW
      rw [if_neg e1, if_pos e5, eb, Bool.eq_iff_iff, beq_iff_eq, decide_eq_true_eq, nI_eq (by omega) (by omega)]
    · rw [if_neg (by rw [eq 5 (by omega)]; exact e5)]
      by_cases q : ¬ nI (N 2 t) = nI 2 ∧ ¬ nI (N 2 t) = nI 4
      · obtain ⟨b, hb, eb⟩ := g3 q
        rw [if_pos q, eb, kset_1 _ hb, kset_1 _ h3, kset_or]
        rw [eq 2 (by omega), eq 4 (by omega)] at q
        apply kset_ext
        intro k hk
        unfold mW
        rw [if_neg e1, if_neg e5, if_neg (by omega), eb, Bool.eq_iff_iff]
        simp only [Bool.or_eq_true, beq_iff_eq, decide_eq_true_eq]
        rw [nI_eq (by omega) (by omega)]
      · rw [if_neg q, kset_1 _ h3, kset_or]
        rw [eq 2 (by omega), eq 4 (by omega)] at q
        apply kset_ext
        intro k hk
        unfold mW
        rw [if_neg e1, if_neg e5, if_pos (by omega), Bool.eq_iff_iff]
        simp only [Bool.or_eq_true, beq_iff_eq, decide_eq_true_eq, or_self]
theorem msub_at (N : Nat → Nat → Nat) (s k a j q : Nat) : msub N s k a j q = if j = 0 ∧ q = 2 then N 0 2 + 1 else if j = 6 ∧ q = N 0 2 then s else if j = 3 ∧ q = N 0 2 then a else if j = 2 ∧ q = N 0 2 then k else N j q := rfl
theorem msubv_at (N : Nat → Nat → Nat) (V : Nat → Nat → Int32) (b n : Int32) (j q : Nat) : msubv N V b n j q = if j = 7 ∧ q = N 0 2 then -1 else if j = 5 ∧ q = N 0 2 then n else if j = 4 ∧ q = N 0 2 then b else V j q := rfl
theorem msub_o (N : Nat → Nat → Nat) (s k a : Nat) {j q : Nat} (h : ¬ (j = 0 ∧ q = 2)) (h2 : ¬ q = N 0 2 ∨ ¬ (j = 6 ∨ j = 3 ∨ j = 2)) : msub N s k a j q = N j q := by
  rw [msub_at, if_neg h, if_neg (by omega), if_neg (by omega), if_neg (by omega)]
theorem msubv_o (N : Nat → Nat → Nat) (V : Nat → Nat → Int32) (b n : Int32) {j q : Nat} (h2 : ¬ q = N 0 2 ∨ ¬ (j = 7 ∨ j = 5 ∨ j = 4)) : msubv N V b n j q = V j q := by
  rw [msubv_at, if_neg (by omega), if_neg (by omega), if_neg (by omega)]
theorem sub_bat (N : Nat → Nat → Nat) (V : Nat → Nat → Int32) (s k a : Nat) (b n : Int32) (i : Nat) (hi : i < 2 ^ 31) : mbat (msub N s k a) (msubv N V b n) i (msub N s k a 0 2) = mbat N V i (N 0 2) := by
  rw [msub_at, if_pos ⟨rfl, rfl⟩]
  refine mbat_congr 1 (fun t ht => ?_) (fun t h1 h2 => ?_)
  · rw [msubv_o _ _ _ _ (by omega), msub_o _ _ _ _ (by omega) (by omega)]
  · rw [msubv_at, if_pos ⟨rfl, by omega⟩]
    exact fun z => nI_m1 (by omega) z.symm
theorem sub_line (N : Nat → Nat → Nat) (V : Nat → Nat → Int32) (s k a : Nat) (b n : Int32) (r : Nat) : mline (msub N s k a) (msubv N V b n) r = mline N V r := mline_congr (fun _ _ => msub_o _ _ _ _ (by omega) (by omega)) (fun i hi _ => mpart_congr (msub_o _ _ _ _ (by omega) (by omega)) (sub_bat N V s k a b n i (by omega)))
theorem sub_mbl (N : Nat → Nat → Nat) (V : Nat → Nat → Int32) (s k a : Nat) (b n : Int32) (s' : Nat) : mbl (msub N s k a) (msubv N V b n) s' = mbl N V s' ++ if s' = s then [N 0 2] else [] := by
  unfold mbl
  rw [show msub N s k a 0 2 = N 0 2 + 1 from by rw [msub_at, if_pos ⟨rfl, rfl⟩], List.range_succ, List.filter_append]
  congr 1
  · refine List.filter_congr (fun t ht => ?_)
    have := List.mem_range.mp ht
    rw [msubv_o _ _ _ _ (by omega), msub_o _ _ _ _ (by omega) (by omega)]
  · have v7 : msubv N V b n 7 (N 0 2) = -1 := by rw [msubv_at, if_pos ⟨rfl, rfl⟩]
    have r6 : msub N s k a 6 (N 0 2) = s := by rw [msub_at, if_neg (by omega), if_pos ⟨rfl, rfl⟩]
    rw [List.filter_cons, v7, r6]
    by_cases z : s' = s
    · subst z; simp
    · have : ¬ s = s' := fun q => z q.symm
      simp [z, this]
theorem submit_inv {P k : Nat} {X N : Nat → Nat → Nat} {V : Nat → Nat → Int32} (h : inv P k X N V) {s kk a : Nat} {b n : Int32} (hs : s < 2) (hk : kk < 6) (ha : a < 12) (hg : mgood (nI kk) (nI a) b n = true) (hT : N 0 2 < 100) (h6 : (mbl N V s).length < 6) : inv P k X (msub N s kk a) (msubv N V b n) := by
  obtain ⟨iA, hb, hc, hd, he⟩ := h
  have hl := sub_line N V s kk a b n
  refine ⟨iA_of iA (fun j q => ?_) (msub_o _ _ _ _ (by omega) (by omega)) (fun q => msub_o _ _ _ _ (by omega) (by omega)), ⟨by rw [msub_at, if_pos ⟨rfl, rfl⟩]; omega, fun t ht => ?_, fun s' hs' => ?_⟩, iC_of hc (Nat.le_refl _) (fun j q _ _ => msub_o _ _ _ _ (by omega) (by omega)), ⟨?_, ?_⟩, fun r hr => iE_of (he r hr) hb.1 iA.2.2.2.1 (hl r) (fun a _ q => by rw [msub_o _ _ _ _ (by omega) (by omega)]; exact q) (fun j q hj => msub_o _ _ _ _ (by omega) (by omega))⟩
  · have := iA.1 j q
    rw [msub_at]
    split
    · omega
    · split
      · omega
      · split
        · omega
        · split <;> omega
  · rw [msub_at, if_pos ⟨rfl, rfl⟩] at ht
    by_cases z : t = N 0 2
    · subst z
      unfold iT
      have r2 : msub N s kk a 2 (N 0 2) = kk := by rw [msub_at, if_neg (by omega), if_neg (by omega), if_neg (by omega), if_pos ⟨rfl, rfl⟩]
      have r3 : msub N s kk a 3 (N 0 2) = a := by rw [msub_at, if_neg (by omega), if_neg (by omega), if_pos ⟨rfl, rfl⟩]
      have r6 : msub N s kk a 6 (N 0 2) = s := by rw [msub_at, if_neg (by omega), if_pos ⟨rfl, rfl⟩]
      have v4 : msubv N V b n 4 (N 0 2) = b := by rw [msubv_at, if_neg (by omega), if_neg (by omega), if_pos ⟨rfl, rfl⟩]
      have v5 : msubv N V b n 5 (N 0 2) = n := by rw [msubv_at, if_neg (by omega), if_pos ⟨rfl, rfl⟩]
      have v7 : msubv N V b n 7 (N 0 2) = -1 := by rw [msubv_at, if_pos ⟨rfl, rfl⟩]
      rw [r2, r3, r6, v4, v5, v7]
      exact ⟨hk, ha, hg, hs, Or.inl rfl⟩
    · exact iT_of (hb.2.1 t (by omega)) (msub_o _ _ _ _ (by omega) (by omega)) (msub_o _ _ _ _ (by omega) (by omega)) (msub_o _ _ _ _ (by omega) (by omega)) (fun s _ => by rw [msub_o _ _ _ _ (by omega) (by omega)]; exact Nat.le_refl _) (msubv_o _ _ _ _ (by omega)) (msubv_o _ _ _ _ (by omega)) (msubv_o _ _ _ _ (by omega))
  · rw [sub_mbl, List.length_append]
    have := hb.2.2 s' hs'
    split
    · rename_i z; subst z; simp only [List.length_cons, List.length_nil]; omega
    · simp only [List.length_nil]; omega
  · rw [msub_o _ _ _ _ (by omega) (by omega), mund_of (N := N) (msub_o _ _ _ _ (by omega) (by omega)) (fun q => msub_o _ _ _ _ (by omega) (by omega)), mund_of (N := N) (msub_o _ _ _ _ (by omega) (by omega)) (fun q => msub_o _ _ _ _ (by omega) (by omega))]
    exact hd.1
  · refine mal_of (N := N) (mal_mono hd.2 (mwf_mono ?_ ?_ ?_ ?_ ?_ ?_ ?_)) (msub_o _ _ _ _ (by omega) (by omega)) (fun j q _ _ => msub_o _ _ _ _ (by omega) (by omega))
    · intro s _; rw [msub_o _ _ _ _ (by omega) (by omega)]; exact Nat.le_refl _
    · intro s _; rw [msub_o _ _ _ _ (by omega) (by omega)]; exact Nat.le_refl _
    · intro a _ q; rw [msub_o _ _ _ _ (by omega) (by omega)]; exact q
    · rw [msub_at, if_pos ⟨rfl, rfl⟩]; omega
    · exact msub_o _ _ _ _ (by omega) (by omega)
    · intro r _ q; rw [msub_o _ _ _ _ (by omega) (by omega)]; exact q
    · intro a w _ _; rfl
theorem submit_rel {P M k : Nat} {X : Nat → Nat → Nat} {C : Nat → Nat} {W : Nat → Nat → Nat} {ρ : zs_S} {N : Nat → Nat → Nat} {V : Nat → Nat → Int32} (hi : inv P k X N V) (hr : rel P M C W ρ N V) {s kk a : Nat} {b n : Int32} (hs : s < 2) (hk : kk < 6) (ha : a < 12) (hg : mgood (nI kk) (nI a) b n = true) : rel P M (fun t => if t = N 0 2 then zs_n ρ else C t) W (csub ρ s (N 0 2) (mbl N V s).length (nI kk) (nI a) b n) (msub N s kk a) (msubv N V b n) := by
  have hP := hi.1.2.2.2.1
  have hb4 := inv_b4 hi
  have hl := sub_line N V s kk a b n
  obtain ⟨⟨h1, hM, hn⟩, h3, h4, h5, h6, h7, h8, h9, h10⟩ := hr
  have ag : ∀ w, ¬ w = 2 → ¬ w = 0 → ¬ w = 18 + 3 * s → ¬ w = 19 + 3 * s → ¬ w = zs_n ρ → agr (csub ρ s (N 0 2) (mbl N V s).length (nI kk) (nI a) b n) ρ w := by
    intro w q1 q2 q3 q4 q5
    unfold csub
    refine agr_pI (agr_pR (agr_pI (agr_pR ?_ _ _ _ q1) _ _ _ q2) _ _ _ q4) _ _ _ q3
    refine ⟨by rw [ctr_K, zx_K_nw, if_neg q5], fun q => by rw [ctr_o _ _ _ _ _ _ _ _ _ q5, zx_I_nw, if_neg q5], fun q => by rw [ctr_R, if_neg (fun z => q5 z.1), zx_R_nw, if_neg q5]⟩
  have nn : zs_n (csub ρ s (N 0 2) (mbl N V s).length (nI kk) (nI a) b n) = zs_n ρ + 1 := by
    unfold csub
    rw [zx_n_pI, zx_n_pR, zx_n_pI, zx_n_pR, ctr_n, zx_n_nw]
  have KK : ∀ w, ¬ w = zs_n ρ → zs_K (csub ρ s (N 0 2) (mbl N V s).length (nI kk) (nI a) b n) w = zs_K ρ w := by
    intro w hw
    unfold csub
    rw [zx_K_pI, zx_K_pR, zx_K_pI, zx_K_pR, ctr_K, zx_K_nw, if_neg hw]
  have Kn : zs_K (csub ρ s (N 0 2) (mbl N V s).length (nI kk) (nI a) b n) (zs_n ρ) = (6, 0) := by
    unfold csub
    rw [zx_K_pI, zx_K_pR, zx_K_pI, zx_K_pR, ctr_K, zx_K_nw, if_pos rfl]
  have R2 : ∀ q, zs_R (csub ρ s (N 0 2) (mbl N V s).length (nI kk) (nI a) b n) 2 q = if q = N 0 2 then some (zs_n ρ) else zs_R ρ 2 q := by
    intro q
    unfold csub
    rw [zx_R_pI, zx_R_ne _ _ _ _ (by omega), zx_R_pI]
    by_cases z : q = N 0 2
    · rw [z, zx_R_eq, if_pos rfl]
    · rw [zx_R_ek _ _ _ _ _ z, ctr_R, if_neg (by omega), zx_R_nw, if_neg (by omega), if_neg z]
  have R19 : ∀ q, zs_R (csub ρ s (N 0 2) (mbl N V s).length (nI kk) (nI a) b n) (19 + 3 * s) q = if q = (mbl N V s).length then some (zs_n ρ) else zs_R ρ (19 + 3 * s) q := by
    intro q
    unfold csub
    rw [zx_R_pI]
    by_cases z : q = (mbl N V s).length
    · rw [z, zx_R_eq, if_pos rfl]
    · rw [zx_R_ek _ _ _ _ _ z, zx_R_pI, zx_R_ne _ _ _ _ (by omega), ctr_R, if_neg (by omega), zx_R_nw, if_neg (by omega), if_neg z]
  have RR : ∀ w q, ¬ w = 2 → ¬ w = 19 + 3 * s → ¬ w = zs_n ρ → zs_R (csub ρ s (N 0 2) (mbl N V s).length (nI kk) (nI a) b n) w q = zs_R ρ w q := by
    intro w q q1 q2 q3
    unfold csub
    rw [zx_R_pI, zx_R_ne _ _ _ _ q2, zx_R_pI, zx_R_ne _ _ _ _ q1, ctr_R, if_neg (fun z => q3 z.1), zx_R_nw, if_neg q3]
  have I0 : ∀ q, zs_I (csub ρ s (N 0 2) (mbl N V s).length (nI kk) (nI a) b n) 0 q = if q = 3 then nI (N 0 2 + 1) else zs_I ρ 0 q := by
    intro q
    unfold csub
    rw [zx_I_ne _ _ _ _ (by omega), zx_I_pR]
    by_cases z : q = 3
    · rw [z, zx_I_eq, if_pos rfl]
    · rw [zx_I_ek _ _ _ _ _ z, zx_I_pR, ctr_o _ _ _ _ _ _ _ _ _ (by omega), zx_I_nw, if_neg (by omega), if_neg z]
  have I18 : ∀ q, zs_I (csub ρ s (N 0 2) (mbl N V s).length (nI kk) (nI a) b n) (18 + 3 * s) q = if q = 1 then nI ((mbl N V s).length + 1) else zs_I ρ (18 + 3 * s) q := by
    intro q
    unfold csub
    by_cases z : q = 1
    · rw [z, zx_I_eq, if_pos rfl]
    · rw [zx_I_ek _ _ _ _ _ z, zx_I_pR, zx_I_ne _ _ _ _ (by omega), zx_I_pR, ctr_o _ _ _ _ _ _ _ _ _ (by omega), zx_I_nw, if_neg (by omega), if_neg z]
  have In : ∀ q, zs_I (csub ρ s (N 0 2) (mbl N V s).length (nI kk) (nI a) b n) (zs_n ρ) q = zs_I (ctr (zs_nw ρ (6, 0)) (zs_n ρ) (nI (N 0 2)) (nI kk) (nI a) b n) (zs_n ρ) q := by
    intro q
    unfold csub
    rw [zx_I_ne _ _ _ _ (by omega), zx_I_pR, zx_I_ne _ _ _ _ (by omega), zx_I_pR]
  have Rn : zs_R (csub ρ s (N 0 2) (mbl N V s).length (nI kk) (nI a) b n) (zs_n ρ) 7 = none := by
    unfold csub
    rw [zx_R_pI, zx_R_ne _ _ _ _ (by omega), zx_R_pI, zx_R_ne _ _ _ _ (by omega), ctr_R, if_pos ⟨rfl, rfl⟩]
  generalize csub ρ s (N 0 2) (mbl N V s).length (nI kk) (nI a) b n = τ at *
  have e02 : msub N s kk a 0 2 = N 0 2 + 1 := by rw [msub_at, if_pos ⟨rfl, rfl⟩]
  have lt : ∀ r t i, (mline N V r)[i]? = some t → t < N 0 2 := fun r t i z => (mline_mem (List.mem_of_getElem? z)).1
  refine ⟨⟨csb_of (fun w hw => KK w (by omega)) (by rw [I0, if_neg (by omega)]) (fun w q hw => ?_) h1, hM, by omega⟩, cdn_of h3 (ag 1 (by omega) (by omega) (by omega) (by omega) (by omega)) (fun x _ => msub_o _ _ _ _ (by omega) (by omega)), by rw [I0, if_pos rfl, e02], fun t ht => ?_, fun s' hs' => ⟨?_, fun e he => ?_⟩, ?_, fun l hl => rL_of (h8 l hl) (ag _ (by omega) (by omega) (by omega) (by omega) (by omega)) (ag _ (by omega) (by omega) (by omega) (by omega) (by omega)) (fun q => msub_o _ _ _ _ (by omega) (by omega)) (fun q => msub_o _ _ _ _ (by omega) (by omega)), ?_, fun r hr => ⟨?_, fun p hp => ?_⟩⟩
  · obtain ⟨w1, w2, w3, w4, w5, w6, w7⟩ := hw
    exact RR w q w2 (by omega) (by omega)
  · rw [e02] at ht
    by_cases z : t = N 0 2
    · subst z
      have r2 : msub N s kk a 2 (N 0 2) = kk := by rw [msub_at, if_neg (by omega), if_neg (by omega), if_neg (by omega), if_pos ⟨rfl, rfl⟩]
      have r3 : msub N s kk a 3 (N 0 2) = a := by rw [msub_at, if_neg (by omega), if_neg (by omega), if_pos ⟨rfl, rfl⟩]
      have v4 : msubv N V b n 4 (N 0 2) = b := by rw [msubv_at, if_neg (by omega), if_neg (by omega), if_pos ⟨rfl, rfl⟩]
      have v5 : msubv N V b n 5 (N 0 2) = n := by rw [msubv_at, if_neg (by omega), if_pos ⟨rfl, rfl⟩]
      have v7 : msubv N V b n 7 (N 0 2) = -1 := by rw [msubv_at, if_pos ⟨rfl, rfl⟩]
      have ci := ctr_i (zs_nw ρ (6, 0)) (zs_n ρ) (nI (N 0 2)) (nI kk) (nI a) b n
      have hR := crk_R (N := msub N s kk a) (V := msubv N V b n) (t := N 0 2) (by rw [r2]; exact hk) (by rw [r3]; exact ha) (by rw [r2, r3, v4, v5]; exact hg)
      have hW := ckw_W (N := msub N s kk a) (V := msubv N V b n) (t := N 0 2) (by rw [r2]; exact hk) (by rw [r3]; exact ha) (by rw [r2, r3, v4, v5]; exact hg)
      rw [r2, r3, v4] at hR
      rw [r2, r3, v4, v5] at hW
      unfold rT
      dsimp only
      rw [if_pos rfl, r2, r3, v4, v5, v7, In, In, In, In, In, In, In, In, Rn, Kn, nn, R2, if_pos rfl, ← hR, ← hW]
      exact ⟨rfl, hn, by omega, rfl, ci.1, ci.2.1, ci.2.2.1, ci.2.2.2.1, ci.2.2.2.2.1, ci.2.2.2.2.2.1, ci.2.2.2.2.2.2.1, by rw [if_neg (by decide)]; exact ci.2.2.2.2.2.2.2, by rw [if_pos (Or.inl rfl)]⟩
    · have tt := h5 t (by omega)
      have c1 := tt.2.1
      have c2 := tt.2.2.1
      have q := rT_of (τ := τ) (N' := msub N s kk a) (V' := msubv N V b n) tt (by omega) (by rw [R2, if_neg z]) (ag _ (by omega) (by omega) (by omega) (by omega) (by omega)) (msub_o _ _ _ _ (by omega) (by omega)) (msub_o _ _ _ _ (by omega) (by omega)) (msub_o _ _ _ _ (by omega) (by omega)) (msubv_o _ _ _ _ (by omega)) (msubv_o _ _ _ _ (by omega)) (msubv_o _ _ _ _ (by omega)) (Or.inl rfl)
      unfold rT at q ⊢
      dsimp only
      rw [if_neg z]
      exact q
  · have q := (h6 s' hs').1
    have hlt : ∀ i t, (mbl N V s')[i]? = some t → ¬ t = N 0 2 := fun i t z => by have := (mbl_mem.mp (List.mem_of_getElem? z)).1; omega
    by_cases g : s' = s
    · subst g
      unfold rQ
      rw [sub_mbl, if_pos rfl, I18, I18, I18, if_pos rfl, if_neg (by omega), if_neg (by omega), msub_o _ _ _ _ (by omega) (by omega), msub_o _ _ _ _ (by omega) (by omega), List.length_append]
      refine ⟨rfl, q.2.1, q.2.2.1, fun i t z => ?_⟩
      dsimp only
      rw [R19]
      by_cases y : i = (mbl N V s').length
      · rw [if_pos y]
        rw [y, List.getElem?_append_right (Nat.le_refl _), Nat.sub_self, List.getElem?_cons_zero] at z
        simp only [Option.some.injEq] at z
        rw [if_pos z.symm]
      · rw [if_neg y]
        have il : i < (mbl N V s').length := by
          have := (List.getElem?_eq_some_iff.mp z).1
          rw [List.length_append, List.length_cons, List.length_nil] at this
          omega
        rw [List.getElem?_append_left il] at z
        rw [if_neg (hlt i t z)]
        exact q.2.2.2 i t z
    · unfold rQ
      have a1 := ag (18 + 3 * s') (by omega) (by omega) (by omega) (by omega) (by omega)
      have a2 := ag (19 + 3 * s') (by omega) (by omega) (by omega) (by omega) (by omega)
      rw [sub_mbl, if_neg g, List.append_nil, a1.2.1, a1.2.1, a1.2.1, msub_o _ _ _ _ (by omega) (by omega), msub_o _ _ _ _ (by omega) (by omega)]
      refine ⟨q.1, q.2.1, q.2.2.1, fun i t z => ?_⟩
      dsimp only
      rw [a2.2.2, if_neg (hlt i t z)]
      exact q.2.2.2 i t z
  · rw [msub_o _ _ _ _ (by omega) (by omega)] at he
    have ss := (h6 s' hs').2 e he
    have c1 := ss.2.1
    have c2 := ss.2.2.1
    have h20 := (hi.2.2.1.1 s' hs').2.2.1
    have bb := sub_bat N V s kk a b n (2 * e + s') (by omega)
    have q := rS_of (τ := τ) (N' := msub N s kk a) (V' := msubv N V b n) ss (by omega) ((ag _ (by omega) (by omega) (by omega) (by omega) (by omega)).2.2 _) (ag _ (by omega) (by omega) (by omega) (by omega) (by omega)) (ag _ (by omega) (by omega) (by omega) (by omega) (by omega)) (ag _ (by omega) (by omega) (by omega) (by omega) (by omega)) bb (msub_o _ _ _ _ (by omega) (by omega)) (msub_o _ _ _ _ (by omega) (by omega)) (msub_o _ _ _ _ (by omega) (by omega))
    unfold rS at q ⊢
    refine ⟨q.1, q.2.1, q.2.2.1, q.2.2.2.1, q.2.2.2.2.1, q.2.2.2.2.2.1, q.2.2.2.2.2.2.1, q.2.2.2.2.2.2.2.1, q.2.2.2.2.2.2.2.2.1, q.2.2.2.2.2.2.2.2.2.1, q.2.2.2.2.2.2.2.2.2.2.1, fun i t z => ?_⟩
    dsimp only
    rw [if_neg ?_]
    · exact q.2.2.2.2.2.2.2.2.2.2.2 i t z
    · rw [bb] at z
      have := List.mem_of_getElem? z
      unfold mbat at this
      rw [List.mem_filter, List.mem_range] at this
      omega
  · intro s1 e s' e' a b c d
    rw [msub_o _ _ _ _ (by omega) (by omega)] at c d
    exact h7 s1 e s' e' a b c d
  · rw [mpl_of (N := N) (msub_o _ _ _ _ (by omega) (by omega)) (fun i _ => ⟨mcode_of (fun m _ _ => msub_o _ _ _ _ (by omega) (by omega)), msub_o _ _ _ _ (by omega) (by omega)⟩)]
    exact cpl_of h9 (ag 3 (by omega) (by omega) (by omega) (by omega) (by omega)) (ag 4 (by omega) (by omega) (by omega) (by omega) (by omega)) (ag 5 (by omega) (by omega) (by omega) (by omega) (by omega))
  · have hv := crv_le (P := P) (r := r) hP hr
    obtain ⟨b1, b2, b3, ⟨s0, c1, c2, c3, c4⟩, b5, b6, b7⟩ := (h10 r hr).1
    have aj : ∀ j, j < 7 → agr τ ρ (crv P r + j) := fun j hj => ag _ (by omega) (by omega) (by omega) (by omega) (by omega)
    have a0 := aj 0 (by omega)
    rw [Nat.add_zero] at a0
    refine ⟨fun k hk => by rw [(aj 1 (by omega)).2.2, msub_o _ _ _ _ (by omega) (by omega)]; exact b1 k hk, by rw [a0.2.1, hl]; exact b2, fun i t z => ?_, ⟨s0, by rw [a0.2.1]; exact c1, c2, fun k hk => by rw [msub_o _ _ _ _ (by omega) (by omega)]; exact c3 k hk, by rw [msub_o _ _ _ _ (by omega) (by omega)]; exact c4⟩, by rw [a0.2.1, msub_o _ _ _ _ (by omega) (by omega)]; exact b5, fun k hk => ⟨by rw [(aj 3 (by omega)).2.1, msubv_o _ _ _ _ (by omega)]; exact (b6 k hk).1, by rw [(aj 4 (by omega)).2.1, msubv_o _ _ _ _ (by omega)]; exact (b6 k hk).2⟩, fun t ht => ⟨by rw [(aj 5 (by omega)).2.1, msubv_o _ _ _ _ (by omega)]; exact (b7 t ht).1, fun z => ?_⟩⟩
    · rw [hl] at z
      dsimp only
      rw [(aj 2 (by omega)).2.2, if_neg (by have := lt r t i z; omega)]
      exact b3 i t z
    · rw [(aj 6 (by omega)).2.1, msubv_o _ _ _ _ (by omega)]
      refine (b7 t ht).2 (fun q => ?_)
      have := z (by omega)
      rw [msub_o _ _ _ _ (by omega) (by omega)] at this
      exact this
  · have hv := crv_le (P := P) (r := r) hP hr
    have hw : mwin (msub N s kk a) (msubv N V b n) r p = mwin N V r p := mwin_congr [] (by rw [List.append_nil]; exact hl r) (msub_o _ _ _ _ (by omega) (by omega)) (msub_o _ _ _ _ (by omega) (by omega)) (hb4 r p hr hp) (fun t _ => msub_o _ _ _ _ (by omega) (by omega))
    have q := rP_of (τ := τ) (N' := msub N s kk a) (V' := msubv N V b n) ((h10 r hr).2 p hp) (fun j _ => ag _ (by omega) (by omega) (by omega) (by omega) (by omega)) hw (msub_o _ _ _ _ (by omega) (by omega)) (fun t => msub_o _ _ _ _ (by omega) (by omega)) (fun q => msub_o _ _ _ _ (by omega) (by omega))
    unfold rP at q ⊢
    refine ⟨q.1, q.2.1, q.2.2.1, fun j t z => ?_, q.2.2.2.2⟩
    dsimp only
    rw [if_neg ?_]
    · exact q.2.2.2.1 j t z
    · rw [hw] at z
      have := win_t hi (List.mem_of_getElem? z)
      omega
theorem st_submit {P M k : Nat} {ρ : zs_S} {Q1 : zs_Q} (s kk a b n : Int32) (h : st P M k ρ) (hQ : stq P M k (fun τ Q2 => zw_Md_submit [.ref M, .int s, .int kk, .int a, .int b, .int n] τ Q2) Q1) : zw_SB_submit [.ref 0, .int s, .int kk, .int a, .int b, .int n] ρ Q1 := by
  obtain ⟨X, C, W, N, V, hi, hr, hm⟩ := h
  have hM := hr.1.2.1
  by_cases g : (∃ j, j < 2 ∧ s = nI j ∧ N 1 (3 + j) = 0) ∧ mgood kk a b n = true
  · obtain ⟨⟨j, hj, rfl, hup⟩, hg⟩ := g
    obtain ⟨⟨k1, hk1, rfl⟩, ⟨a1, ha1, rfl⟩, _, _⟩ := mgood_of hg
    have rq := (hr.2.2.2.2.1 j hj).1
    have h6 := hi.2.1.2.2 j hj
    have eC : mC (fun t => decide (N 6 t = j ∧ V 7 t = -1)) (N 0 2) = (mbl N V j).length := mC_filter _ _
    have hT := hi.2.1.1
    by_cases gf : (mbl N V j).length < 6 ∧ N 0 2 < 100
    · rw [cl_submit_in P j (mbl N V j).length (N 0 2) (nI k1) (nI a1) b n (N 1) ρ Q1 hr.1.1 hr.2.1 hj hup hg rq.1 gf.1 hr.2.2.1 gf.2 (by have := hr.1.2.2; omega)]
      refine hQ _ _ (fun Q2 h3 => ?_)
      have hm' : mdb M (csub ρ j (N 0 2) (mbl N V j).length (nI k1) (nI a1) b n) N V := by
        have hn := hr.1.2.2
        refine mdb_agw hm (fun w a b => ?_)
        unfold csub
        refine agr_pI (agr_pR (agr_pI (agr_pR ?_ _ _ _ (by omega)) _ _ _ (by omega)) _ _ _ (by omega)) _ _ _ (by omega)
        have q5 : ¬ w = zs_n ρ := by omega
        refine ⟨by rw [ctr_K, zx_K_nw, if_neg q5], fun q => by rw [ctr_o _ _ _ _ _ _ _ _ _ q5, zx_I_nw, if_neg q5], fun q => by rw [ctr_R, if_neg (fun z => q5 z.1), zx_R_nw, if_neg q5]⟩
      refine ⟨N, V, hm', ?_⟩
      show zw_Md_submit [.ref M, .int (nI j), .int (nI k1), .int (nI a1), .int b, .int n] (md M _ N V) Q2
      exact mo_submit_in _ _ _ _ _ hi.1.1 j k1 a1 b n hj hk1 ha1 hg hup hT (fun _ => h3 _ (st_mk (inv_k (submit_inv hi hj hk1 ha1 hg gf.2 gf.1)) (submit_rel hi hr hj hk1 ha1 hg))) (fun z => absurd (by rw [eC]; exact gf) z)
    · rw [cl_submit_full P j (mbl N V j).length (N 0 2) (nI k1) (nI a1) b n (N 1) ρ Q1 hr.1.1 hr.2.1 hj hup hg rq.1 h6 hr.2.2.1 hT (by omega)]
      refine hQ _ _ (fun Q2 h3 => ?_)
      refine ⟨N, V, hm, ?_⟩
      show zw_Md_submit [.ref M, .int (nI j), .int (nI k1), .int (nI a1), .int b, .int n] (md M _ N V) Q2
      exact mo_submit_in _ _ _ _ _ hi.1.1 j k1 a1 b n hj hk1 ha1 hg hup hT (fun z => absurd (by rw [eC] at z; exact z) gf) (fun _ => h3 _ (st_id hi hr))
  · rw [cl_submit_out P s kk a b n (N 1) ρ Q1 hr.1.1 hr.2.1 g]
    refine hQ _ _ (fun Q2 h3 => ?_)
    refine ⟨N, V, hm, ?_⟩
    show zw_Md_submit [.ref M, .int s, .int kk, .int a, .int b, .int n] (md M _ N V) Q2
    rw [mo_submit_out _ _ _ _ _ hi.1.1 s kk a b n g]
    exact h3 _ (st_id hi hr)
