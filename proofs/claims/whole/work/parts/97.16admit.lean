/-! Transactions are admitted; checkpoints are made. -/
theorem line_t {P k : Nat} {X N : Nat → Nat → Nat} {V : Nat → Nat → Int32} (hi : inv P k X N V) {r p t : Nat} (h2 : r < 2) (hp : p < P) (ht : (mline N V r)[N 25 (4 * r + p)]? = some t) : t < N 0 2 ∧ N 26 (400 * r + 100 * p + t) = 0 ∧ N 27 (400 * r + 100 * p + t) = 0 := by
  have htT := (mline_mem (List.mem_of_getElem? ht)).1
  have hT := hi.2.1.1
  have ip := ((hi.2.2.2.2 r h2).2.2.2.2 p hp).2 t (by omega)
  have no : ¬ t ∈ mpre (mline N V r) (N 24 r) (N 25 (4 * r + p)) := by
    intro z
    obtain ⟨j, _, h3, h4⟩ := mpre_mem.mp z
    have := nodup_inj (mline_nodup N V r) h4 ht
    omega
  refine ⟨htT, ?_, ?_⟩
  · apply Classical.byContradiction
    intro z; exact no (ip.2.2 (Or.inl z))
  · apply Classical.byContradiction
    intro z; exact no (ip.2.2 (Or.inr z))
theorem mpre_mono {l : List Nat} {b i t : Nat} (h : t ∈ mpre l b i) : t ∈ mpre l b (i + 1) := by
  obtain ⟨j, h1, h2, h3⟩ := mpre_mem.mp h
  exact mpre_mem.mpr ⟨j, h1, by omega, h3⟩
theorem adm_step {P M k : Nat} {X : Nat → Nat → Nat} {C : Nat → Nat} {W : Nat → Nat → Nat} {ρ : zs_S} {N : Nat → Nat → Nat} {V : Nat → Nat → Int32} (hi : inv P k X N V) (hr : rel P M C W ρ N V) {r p t : Nat} (h2 : r < 2) (hp : p < P) (ht : (mline N V r)[N 25 (4 * r + p)]? = some t) (hc : (mwin N V r p).length < 10) : inv P k X (madm N V r p t) V ∧ (ctp ρ (C t) (zs_I ρ (crv P r + 8 + 4 * p) 0) → rel P M C W (zs_pI (zs_pI (zs_pR (zs_pI ρ (crv P r + 8 + 4 * p) 1 (nI (N 25 (4 * r + p) + 1))) (crv P r + 9 + 4 * p) (mwin N V r p).length (some (C t))) (crv P r + 10 + 4 * p) (mwin N V r p).length (nI 0)) (crv P r + 8 + 4 * p) 4 (nI ((mwin N V r p).length + 1))) (madm N V r p t) V) ∧ (¬ ctp ρ (C t) (zs_I ρ (crv P r + 8 + 4 * p) 0) → rel P M C W (zs_pI ρ (crv P r + 8 + 4 * p) 1 (nI (N 25 (4 * r + p) + 1))) (madm N V r p t) V) := by
  have hP := hi.1.2.2.2.1
  have eP := hi.1.2.1
  have hb4 := inv_b4 hi
  have hT := hi.2.1.1
  obtain ⟨htT, h26, h27⟩ := line_t hi h2 hp ht
  have hv := crv_le (P := P) (r := r) hP h2
  have hlen := (List.getElem?_eq_some_iff.mp ht).1
  have hle := ((hi.2.2.2.2 r h2).2.2.2.1 p (by omega)).1
  have tt := hr.2.2.2.1 t htT
  have rp := (hr.2.2.2.2.2.2.2.2 r h2).2 p hp
  have cA : ctp ρ (C t) (zs_I ρ (crv P r + 8 + 4 * p) 0) ↔ (mE (mR N V t) (N 0 0) p p = true ∨ mE (mW N V t) (N 0 0) p p = true) := by
    unfold ctp
    rw [tt.2.2.2.2.2.2.2.2.2.1, tt.2.2.2.2.2.2.2.2.2.2.1, rp.1, kset_E, kset_E, eP]
    cases mE (mR N V t) P p p <;> cases mE (mW N V t) P p p <;> simp
  have o : ∀ j q, ¬ j = 25 → ¬ j = 27 → madm N V r p t j q = N j q := by
    intro j q z1 z2
    unfold madm
    split
    · rw [zup_at, if_neg (by omega)]
    · rw [zup_at, if_neg (by omega), zup_at, if_neg (by omega)]
  have o25 : ∀ q, madm N V r p t 25 q = if q = 4 * r + p then N 25 (4 * r + p) + 1 else N 25 q := by
    intro q
    unfold madm
    split
    · rw [zup_at]; by_cases z : q = 4 * r + p <;> simp [z]
    · rw [zup_at, if_neg (by omega), zup_at]; by_cases z : q = 4 * r + p <;> simp [z]
  have o27 : ∀ q, ¬ q = 400 * r + 100 * p + t → madm N V r p t 27 q = N 27 q := by
    intro q z
    unfold madm
    split
    · rw [zup_at, if_neg (by omega)]
    · rw [zup_at, if_neg (by omega), zup_at, if_neg (by omega)]
  have o27t : madm N V r p t 27 (400 * r + 100 * p + t) = if mE (mR N V t) (N 0 0) p p = true ∨ mE (mW N V t) (N 0 0) p p = true then 0 else 1 := by
    unfold madm
    split
    · rw [zup_at, if_neg (by omega)]; exact h27
    · rw [zup_at, if_pos ⟨rfl, rfl⟩]
  have hlt : ∀ j q, madm N V r p t j q < 100000 := by
    have := hi.1.1 25 (4 * r + p)
    have hl := mline_len N V r
    unfold madm
    split
    · exact zh_up hi.1.1 (by omega) 25 _
    · exact zh_up (zh_up hi.1.1 (by omega) 25 _) (by omega) 27 _
  generalize madm N V r p t = N' at *
  have ml : ∀ r', mline N' V r' = mline N V r' := fun r' => mline_of (o 0 2 (by omega) (by omega)) (fun q => o 6 q (by omega) (by omega)) (fun q => o 11 q (by omega) (by omega)) (fun q => o 20 q (by omega) (by omega)) (fun _ => rfl)
  have wp : mwin N' V r p = mwin N V r p ++ (if N' 27 (400 * r + 100 * p + t) = 0 then [t] else []) := mwin_push (ml r) (o 24 _ (by omega) (by omega)) (by rw [o25, if_pos rfl]) hle ht (fun u z => o27 _ (by omega))
  have wo : ∀ r' p', r' < 2 → p' < P → ¬ (r' = r ∧ p' = p) → mwin N' V r' p' = mwin N V r' p' := by
    intro r' p' a b c
    refine mwin_congr [] (by rw [List.append_nil]; exact ml r') (o 24 _ (by omega) (by omega)) (by rw [o25, if_neg (by omega)]) (hb4 r' p' a b) (fun u hu => o27 _ (fun z => ?_))
    have := place_eq (by omega) (by omega) (by omega) (by omega) z
    exact c ⟨this.1, this.2.1⟩
  have hinv : inv P k X N' V := by
    obtain ⟨iA, hb, hc', hd, he⟩ := hi
    refine ⟨iA_of iA hlt (o 0 0 (by omega) (by omega)) (fun q => o 1 q (by omega) (by omega)), iB_of hb (o 0 2 (by omega) (by omega)) (fun q => o 2 q (by omega) (by omega)) (fun q => o 3 q (by omega) (by omega)) (fun q => o 6 q (by omega) (by omega)) (fun s _ => by rw [o 8 s (by omega) (by omega)]; exact Nat.le_refl _) (fun _ => rfl) (fun _ => rfl) (fun _ => rfl), iC_of hc' (Nat.le_refl _) (fun j q _ _ => o j q (by omega) (by omega)), ⟨?_, ?_⟩, fun r' hr' => ?_⟩
    · rw [o 0 16 (by omega) (by omega), mund_of (N := N) (o 8 _ (by omega) (by omega)) (fun q => o 11 q (by omega) (by omega)), mund_of (N := N) (o 8 _ (by omega) (by omega)) (fun q => o 11 q (by omega) (by omega))]
      exact hd.1
    · refine mal_of (N := N) (mal_mono hd.2 (mwf_mono ?_ ?_ ?_ ?_ ?_ ?_ ?_)) (o 0 16 (by omega) (by omega)) (fun j q _ _ => o j q (by omega) (by omega))
      · intro q _; rw [o 8 _ (by omega) (by omega)]; exact Nat.le_refl _
      · intro q _; rw [o 9 _ (by omega) (by omega)]; exact Nat.le_refl _
      · intro a _ q; rw [o 11 _ (by omega) (by omega)]; exact q
      · rw [o 0 2 (by omega) (by omega)]; exact Nat.le_refl _
      · exact o 0 0 (by omega) (by omega)
      · intro r _ q; rw [o 1 _ (by omega) (by omega)]; exact q
      · intro a w _ _; rfl
    · obtain ⟨e1, e2, e3, e4, e5⟩ := he r' hr'
      refine ⟨fun q => by rw [o 20 _ (by omega) (by omega)]; exact e1 q, fun a ha z => by rw [o 20 _ (by omega) (by omega)] at z; rw [o 11 _ (by omega) (by omega)]; exact e2 a ha z, by rw [o 23 _ (by omega) (by omega), ml]; exact e3, fun p' hp' => ?_, fun p' hp' => ?_⟩
      · rw [o 24 _ (by omega) (by omega), o25, ml]
        have := e4 p' hp'
        split
        · rename_i z
          have : r' = r := by omega
          subst this
          omega
        · exact this
      · by_cases g : r' = r ∧ p' = p
        · obtain ⟨g1, g2⟩ := g
          subst g1
          subst g2
          refine ⟨?_, fun u hu => ?_⟩
          · rw [wp, List.length_append]
            split
            · simp only [List.length_cons, List.length_nil]; omega
            · simp only [List.length_nil]; omega
          · have q := (e5 p' hp').2 u hu
            rw [o 26 _ (by omega) (by omega), o 24 _ (by omega) (by omega), ml, o25, if_pos rfl]
            by_cases z : u = t
            · subst z
              refine ⟨q.1, by rw [o27t]; split <;> omega, fun _ => ?_⟩
              exact mpre_mem.mpr ⟨_, hle, by omega, ht⟩
            · rw [o27 _ (by omega)]
              exact ⟨q.1, q.2.1, fun y => mpre_mono (q.2.2 y)⟩
        · unfold iP
          rw [wo r' p' hr' hp' g, ml, o 24 _ (by omega) (by omega), o25, if_neg (by omega)]
          refine ⟨(e5 p' hp').1, fun u hu => ?_⟩
          rw [o 26 _ (by omega) (by omega), o27]
          · exact (e5 p' hp').2 u hu
          · intro z
            have := place_eq (by omega) (by omega) (by omega) hu z
            exact g ⟨this.1, this.2.1⟩
  have core : ∀ τ : zs_S, zs_n τ = zs_n ρ → zs_K τ = zs_K ρ → (∀ w, ¬ w = crv P r + 8 + 4 * p → ¬ w = crv P r + 9 + 4 * p → ¬ w = crv P r + 10 + 4 * p → agr τ ρ w) → (∀ q, zs_R τ (crv P r + 8 + 4 * p) q = zs_R ρ (crv P r + 8 + 4 * p) q) → (∀ q, zs_R τ (crv P r + 10 + 4 * p) q = zs_R ρ (crv P r + 10 + 4 * p) q) → (∀ q, ¬ q = 1 → ¬ q = 4 → zs_I τ (crv P r + 8 + 4 * p) q = zs_I ρ (crv P r + 8 + 4 * p) q) → zs_I τ (crv P r + 8 + 4 * p) 1 = nI (N 25 (4 * r + p) + 1) → zs_I τ (crv P r + 8 + 4 * p) 4 = nI (mwin N' V r p).length → (∀ j u, (mwin N' V r p)[j]? = some u → zs_R τ (crv P r + 9 + 4 * p) j = some (C u) ∧ zs_I τ (crv P r + 10 + 4 * p) j = nI (N 26 (400 * r + 100 * p + u))) → rel P M C W τ N' V := by
    intro τ nn KK ag R8 R10 I8 I81 I84 hw
    obtain ⟨⟨h1, hM, hn⟩, h3, h4, h5, h6, h7, h8, h9, h10⟩ := hr
    have lo : ∀ w, w < 24 → agr τ ρ w := fun w hw => ag w (by omega) (by omega) (by omega)
    have hi' : ∀ w, M ≤ w → agr τ ρ w := fun w hw => ag w (by omega) (by omega) (by omega)
    have bb : ∀ i, mbat N' V i (N' 0 2) = mbat N V i (N 0 2) := by
      intro i
      unfold mbat
      simp only [o 0 2 (by omega) (by omega), fun q => o 6 q (by omega) (by omega)]
    refine ⟨⟨csb_of (σ := ρ) (fun w _ => by rw [KK]) ((lo 0 (by omega)).2.1 0) (fun w q hw => ?_) h1, hM, by omega⟩, cdn_of h3 (lo 1 (by omega)) (fun x _ => o 1 x (by omega) (by omega)), by rw [(lo 0 (by omega)).2.1, o 0 2 (by omega) (by omega)]; exact h4, fun u hu => ?_, fun s hs => ⟨?_, fun e he => ?_⟩, ?_, fun l hl => rL_of (h8 l hl) (lo _ (by omega)) (lo _ (by omega)) (fun q => o 13 q (by omega) (by omega)) (fun q => o 14 q (by omega) (by omega)), ?_, fun r' hr' => ?_⟩
    · obtain ⟨w1, w2, w3, w4, w5, w6, w7⟩ := hw
      have w8 := (w7 r h2).2.2 p hp
      by_cases z8 : w = crv P r + 8 + 4 * p
      · rw [z8]; exact R8 q
      · by_cases z10 : w = crv P r + 10 + 4 * p
        · rw [z10]; exact R10 q
        · exact (ag w z8 w8 z10).2.2 q
    · rw [o 0 2 (by omega) (by omega)] at hu
      have tu := h5 u hu
      have := tu.2.1
      exact rT_of tu (by omega) ((lo 2 (by omega)).2.2 u) (hi' _ (by omega)) (o 2 u (by omega) (by omega)) (o 3 u (by omega) (by omega)) (o 6 u (by omega) (by omega)) rfl rfl rfl (Or.inl rfl)
    · exact rQ_of (h6 s hs).1 (lo _ (by omega)) (lo _ (by omega)) (mbl_of (o 0 2 (by omega) (by omega)) (fun q => o 6 q (by omega) (by omega)) (fun _ => rfl)) (o 8 _ (by omega) (by omega)) (o 9 _ (by omega) (by omega))
    · rw [o 8 _ (by omega) (by omega)] at he
      have ss := (h6 s hs).2 e he
      have := ss.2.1
      exact rS_of ss (by omega) ((lo _ (by omega)).2.2 e) (hi' _ (by omega)) (hi' _ (by omega)) (hi' _ (by omega)) (bb _) (o 10 _ (by omega) (by omega)) (o 11 _ (by omega) (by omega)) (o 12 _ (by omega) (by omega))
    · intro s e s' e' a b c d
      rw [o 8 _ (by omega) (by omega)] at c d
      exact h7 s e s' e' a b c d
    · rw [mpl_of (N := N) (o 0 16 (by omega) (by omega)) (fun i _ => ⟨mcode_of (fun m _ _ => o _ _ (by omega) (by omega)), o _ _ (by omega) (by omega)⟩)]
      exact cpl_of h9 (lo 3 (by omega)) (lo 4 (by omega)) (lo 5 (by omega))
    · have hv' := crv_le (P := P) (r := r') hP hr'
      have hne : ¬ r' = r → crv P r' + 8 + 4 * P ≤ crv P r ∨ crv P r + 8 + 4 * P ≤ crv P r' := by
        intro g
        unfold crv
        rcases (show (r = 0 ∧ r' = 1) ∨ (r = 1 ∧ r' = 0) by omega) with ⟨rfl, rfl⟩ | ⟨rfl, rfl⟩ <;> simp <;> omega
      have aw : ∀ w, crv P r' ≤ w → w < crv P r' + 8 + 4 * P → (r' = r → w < crv P r + 8 + 4 * p ∨ crv P r + 10 + 4 * p < w) → agr τ ρ w := by
        intro w a b c
        by_cases g : r' = r
        · have := c g
          exact ag w (by omega) (by omega) (by omega)
        · have := hne g
          exact ag w (by omega) (by omega) (by omega)
      refine ⟨rR_of (h10 r' hr').1 (fun j hj => aw _ (by omega) (by omega) (fun g => by subst g; omega)) (ml r') (o 0 2 (by omega) (by omega)) (fun q => o 2 q (by omega) (by omega)) (fun q => o 20 q (by omega) (by omega)) (o 23 _ (by omega) (by omega)) (fun _ _ => rfl) (fun _ _ => rfl) (fun _ _ => rfl) (fun _ _ => rfl), fun p' hp' => ?_⟩
      by_cases g : r' = r ∧ p' = p
      · obtain ⟨g1, g2⟩ := g
        subst g1
        subst g2
        obtain ⟨d1, d2, d3, d4, d5⟩ := (h10 r' hr').2 p' hp'
        refine ⟨by rw [I8 0 (by omega) (by omega)]; exact d1, by rw [I81, o25, if_pos rfl], I84, fun j u z => by rw [o 26 _ (by omega) (by omega)]; exact hw j u z, fun u hu => by rw [(ag _ (by omega) (by omega) (by omega)).2.1, d5 u hu]; simp only [fun q => o 28 q (by omega) (by omega)]⟩
      · exact rP_of ((h10 r' hr').2 p' hp') (fun j hj => aw _ (by omega) (by omega) (fun y => by subst y; omega)) (wo r' p' hr' hp' g) (by rw [o25, if_neg (by omega)]) (fun u => o 26 _ (by omega) (by omega)) (fun q => o 28 q (by omega) (by omega))
  obtain ⟨d1, d2, d3, d4, d5⟩ := rp
  refine ⟨hinv, fun hp1 => core _ rfl rfl ?_ (fun q => ?_) (fun q => ?_) (fun q z1 z4 => ?_) ?_ ?_ (fun j u z => ?_), fun hp1 => core _ rfl rfl ?_ (fun q => rfl) (fun q => rfl) (fun q z1 _ => ?_) ?_ ?_ (fun j u z => ?_)⟩
  · intro w q8 q9 q10
    exact agr_pI (agr_pI (agr_pR (agr_pI (agr_rfl ρ w) _ _ _ q8) _ _ _ q9) _ _ _ q10) _ _ _ q8
  · rw [zx_R_pI, zx_R_pI, zx_R_ne _ _ _ _ (by omega), zx_R_pI]
  · rw [zx_R_pI, zx_R_pI, zx_R_ne _ _ _ _ (by omega), zx_R_pI]
  · rw [zx_I_ek _ _ _ _ _ z4, zx_I_ne _ _ _ _ (by omega), zx_I_pR, zx_I_ek _ _ _ _ _ z1]
  · rw [zx_I_ek _ _ _ _ _ (by omega), zx_I_ne _ _ _ _ (by omega), zx_I_pR, zx_I_eq]
  · rw [zx_I_eq, wp, o27t, if_pos (cA.mp hp1), if_pos rfl, List.length_append]; rfl
  · rw [wp, o27t, if_pos (cA.mp hp1), if_pos rfl] at z
    rw [zx_R_pI, zx_R_pI, zx_R_pR, zx_R_pI, zx_I_ne _ _ _ _ (by omega), zx_I_pI, zx_I_pR, zx_I_ne _ _ _ _ (by omega)]
    by_cases y : j = (mwin N V r p).length
    · rw [y, List.getElem?_append_right (Nat.le_refl _), Nat.sub_self, List.getElem?_cons_zero] at z
      simp only [Option.some.injEq] at z
      rw [if_pos ⟨rfl, y⟩, if_pos ⟨rfl, y⟩, ← z, h26]
      exact ⟨rfl, rfl⟩
    · rw [if_neg (fun x => y x.2), if_neg (fun x => y x.2)]
      have hl := (List.getElem?_eq_some_iff.mp z).1
      rw [List.length_append, List.length_cons, List.length_nil] at hl
      rw [List.getElem?_append_left (by omega)] at z
      exact d4 j u z
  · intro w q8 q9 q10
    exact agr_pI (agr_rfl ρ w) _ _ _ q8
  · rw [zx_I_ek _ _ _ _ _ z1]
  · rw [zx_I_eq]
  · rw [zx_I_ek _ _ _ _ _ (by omega), wp, o27t, if_neg (fun z => hp1 (cA.mpr z)), if_neg (by omega), List.append_nil]
    exact d3
  · rw [wp, o27t, if_neg (fun z => hp1 (cA.mpr z)), if_neg (by omega), List.append_nil] at z
    rw [zx_I_ne _ _ _ _ (by omega)]
    exact d4 j u z
