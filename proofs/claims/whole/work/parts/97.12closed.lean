/-! CLOSED arrives. -/
theorem mcat_split (N : Nat → Nat → Nat) (V : Nat → Nat → Int32) (C e : Nat → Nat) (L : Nat → List Nat) (s0 : Nat) : ∀ m, (∀ k, s0 ≤ k → k < s0 + m → (if e k = 0 then L k else []) = (mpart N V k).map C) → (mcat N V (s0 + m)).map C = (mcat N V s0).map C ++ ccat e L s0 m
  | 0, _ => by rw [Nat.add_zero, ccat, List.append_nil]
  | m + 1, h => by
    have ih := mcat_split N V C e L s0 m (fun k a b => h k a (by omega))
    rw [← Nat.add_assoc, mcat, List.map_append, ih, ccat, h (s0 + m) (by omega) (by omega), List.append_assoc]
theorem mcat_zup (N : Nat → Nat → Nat) (V : Nat → Nat → Int32) (q x m : Nat) : mcat (zup N 20 q x) V m = mcat N V m := by
  refine mcat_congr m (fun k _ => mpart_congr (by rw [zup_at, if_neg (by omega)]) ?_)
  have e02 : zup N 20 q x 0 2 = N 0 2 := by rw [zup_at, if_neg (by omega)]
  unfold mbat
  rw [e02]
  refine List.filter_congr (fun t _ => ?_)
  rw [zup_at, if_neg (by omega)]
theorem mcat_pre (N : Nat → Nat → Nat) (V : Nat → Nat → Int32) (a : Nat) : ∀ d, ∃ l2, mcat N V (a + d) = mcat N V a ++ l2
  | 0 => ⟨[], by rw [Nat.add_zero, List.append_nil]⟩
  | d + 1 => by
    obtain ⟨l2, h⟩ := mcat_pre N V a d
    exact ⟨l2 ++ mpart N V (a + d), by rw [← Nat.add_assoc, mcat, h, List.append_assoc]⟩
/-- a slot becomes known: how the log grows -/
theorem kn_grow (N : Nat → Nat → Nat) (V : Nat → Nat → Int32) (r a s0 : Nat) (h40 : s0 ≤ 40) (hk : ∀ k, k < s0 → ¬ N 20 (40 * r + mat k) = 0) (he : s0 = 40 ∨ N 20 (40 * r + mat s0) = 0) : ∃ m, s0 + m ≤ 40 ∧ (∀ k, k < s0 + m → ¬ zup N 20 (40 * r + a) 1 20 (40 * r + mat k) = 0) ∧ (s0 + m = 40 ∨ zup N 20 (40 * r + a) 1 20 (40 * r + mat (s0 + m)) = 0) ∧ mline (zup N 20 (40 * r + a) 1) V r = mcat N V (s0 + m) ∧ mline N V r = mcat N V s0 := by
  obtain ⟨s1, b1, b2, b3⟩ := mfu_ex (zup N 20 (40 * r + a) 1) r
  have hle : s0 ≤ s1 := by
    apply Classical.byContradiction
    intro z
    rcases b3 with b3 | b3
    · omega
    · have := hk s1 (by omega)
      rw [zup_at] at b3
      split at b3
      · omega
      · exact this b3
  refine ⟨s1 - s0, by omega, ?_, ?_, ?_, mline_cat h40 hk he⟩
  · rw [show s0 + (s1 - s0) = s1 by omega]; exact b2
  · rw [show s0 + (s1 - s0) = s1 by omega]; exact b3
  · rw [show s0 + (s1 - s0) = s1 by omega, mline_cat b1 b2 b3, mcat_zup]
theorem mat_pl (s e : Nat) (h : s < 2) : mat (2 * e + s) = 20 * s + e := by unfold mat; omega
theorem closed_inv {P k : Nat} {X N : Nat → Nat → Nat} {V : Nat → Nat → Int32} (h : inv P k X N V) {r a : Nat} (hr : r < 2) (ha : a < 40) (h11 : ¬ N 11 a = 0) : inv P k X (zup N 20 (40 * r + a) 1) V := by
  have o : ∀ j q, ¬ j = 20 → zup N 20 (40 * r + a) 1 j q = N j q := fun j q c => by rw [zup_at, if_neg (by omega)]
  have o20 : ∀ q, ¬ q = 40 * r + a → zup N 20 (40 * r + a) 1 20 q = N 20 q := fun q c => by rw [zup_at, if_neg (by omega)]
  have ml : ∀ r', ∃ l2, mline (zup N 20 (40 * r + a) 1) V r' = mline N V r' ++ l2 ∧ (¬ r' = r → l2 = [] ∨ 2 ≤ r') := by
    intro r'
    by_cases g : r' = r
    · subst g
      obtain ⟨s0, b1, b2, b3⟩ := mfu_ex N r'
      obtain ⟨m, _, _, _, d4, d5⟩ := kn_grow N V r' a s0 b1 b2 b3
      obtain ⟨l2, e⟩ := mcat_pre N V s0 m
      exact ⟨l2, by rw [d4, d5, e], fun z => absurd rfl z⟩
    · refine ⟨[], ?_, fun _ => Or.inl rfl⟩
      rw [List.append_nil]
      refine mline_congr (fun i hi => o20 _ ?_) (fun i hi _ => mpart_congr (o _ _ (by omega)) ?_)
      · have : mat i < 40 := by unfold mat; omega
        omega
      · unfold mbat
        simp only [o 0 2 (by omega), fun q => o 6 q (by omega)]
  obtain ⟨iA, hb, hc, hd, he⟩ := h
  refine ⟨iA_of iA (zh_up iA.1 (by omega) 20 _) (o 0 0 (by omega)) (fun q => o 1 q (by omega)), iB_of hb (o 0 2 (by omega)) (fun q => o 2 q (by omega)) (fun q => o 3 q (by omega)) (fun q => o 6 q (by omega)) (fun s _ => by rw [o 8 s (by omega)]; exact Nat.le_refl _) (fun _ => rfl) (fun _ => rfl) (fun _ => rfl), iC_of hc (Nat.le_refl _) (fun j q _ _ => o j q (by omega)), ⟨?_, ?_⟩, fun r' hr' => ?_⟩
  · rw [o 0 16 (by omega), mund_of (N := N) (o 8 _ (by omega)) (fun q => o 11 q (by omega)), mund_of (N := N) (o 8 _ (by omega)) (fun q => o 11 q (by omega))]
    exact hd.1
  · refine mal_of (N := N) (mal_mono hd.2 (mwf_mono ?_ ?_ ?_ ?_ ?_ ?_ ?_)) (o 0 16 (by omega)) (fun j q _ _ => o j q (by omega))
    · intro q _; rw [o 8 _ (by omega)]; exact Nat.le_refl _
    · intro q _; rw [o 9 _ (by omega)]; exact Nat.le_refl _
    · intro a _ q; rw [o 11 _ (by omega)]; exact q
    · rw [o 0 2 (by omega)]; exact Nat.le_refl _
    · exact o 0 0 (by omega)
    · intro r _ q; rw [o 1 _ (by omega)]; exact q
    · intro a w _ _; rfl
  · obtain ⟨e1, e2, e3, e4, e5⟩ := he r' hr'
    obtain ⟨l2, el, _⟩ := ml r'
    refine ⟨fun q => ?_, fun a' ha' z => ?_, ?_, fun p hp => ?_, fun p hp => ?_⟩
    · rw [zup_at]; split
      · omega
      · exact e1 q
    · rw [o 11 _ (by omega)]
      by_cases y : 40 * r' + a' = 40 * r + a
      · have : a' = a := by omega
        rw [this]; exact h11
      · rw [o20 _ y] at z; exact e2 a' ha' z
    · rw [o 23 _ (by omega), el, List.length_append]; omega
    · rw [o 24 _ (by omega), o 25 _ (by omega), el, List.length_append]
      have := e4 p hp
      omega
    · exact iP_of l2 (e5 p hp) hb.1 el (o 24 _ (by omega)) (o 25 _ (by omega)) (e4 p (by have := iA.2.2.2.1; omega)).2 (fun t _ => o 26 _ (by omega)) (fun t _ => o 27 _ (by omega))
theorem capl_n (σ : zs_S) (v n : Nat) (L : List Nat) : zs_n (capl σ v n L) = zs_n σ := rfl
/-- the class learns of a slot -/
theorem closed_step {P M k : Nat} {X : Nat → Nat → Nat} {C : Nat → Nat} {W : Nat → Nat → Nat} {ρ : zs_S} {N : Nat → Nat → Nat} {V : Nat → Nat → Int32} (hi : inv P k X N V) (hr : rel P M C W ρ N V) {r s1 e1 c : Nat} (h2 : r < 2) (hs : s1 < 2) (he : e1 < 20) (h11 : ¬ N 11 (20 * s1 + e1) = 0) (hup : N 1 (5 + r) = 0) (hc : c < 2 ^ 31) (c1 : c / 100000 % 10 = s1) (c2 : c / 1000 % 100 = e1) (c3 : c / 10 % 100 = r) (Q : zs_Q) (hQ : ∀ τ, rel P M C W τ (zup N 20 (40 * r + (20 * s1 + e1)) 1) V → (∀ w, M ≤ w → w < M + 32 → agr τ ρ w) → Q none τ) : zw_SB_closedArrives [.ref 0, .int (nI c)] ρ Q := by
  have hP := hi.1.2.2.2.1
  have hb4 := inv_b4 hi
  have hT := hi.2.1.1
  have hr' := hr
  have hv := crv_le (P := P) (r := r) hP h2
  have he8 : e1 < N 8 s1 := by
    apply Classical.byContradiction
    intro z
    have q := (hi.2.2.1.2.1 (20 * s1 + e1) (by omega)).2.2.2.1
    rw [show (20 * s1 + e1) / 20 = s1 by omega, show (20 * s1 + e1) % 20 = e1 by omega] at q
    exact h11 (q (by omega)).2.1
  have hinv' := closed_inv hi h2 (a := 20 * s1 + e1) (by omega) h11
  obtain ⟨⟨h1, hM, hn⟩, h3, h4, h5, h6, h7, h8, h9, h10⟩ := hr
  obtain ⟨⟨b1, b2, b3, ⟨s0, d1, d2, d3, d4⟩, b5, b6, b7⟩, rp⟩ := h10 r h2
  obtain ⟨m, g1, g2, g3, g4, g5⟩ := kn_grow N V r (20 * s1 + e1) s0 d2 d3 d4
  have hmat := mat_pl s1 e1 hs
  have o : ∀ j q, ¬ j = 20 → zup N 20 (40 * r + (20 * s1 + e1)) 1 j q = N j q := fun j q c => by rw [zup_at, if_neg (by omega)]
  have o20 : ∀ i, i < 40 → zup N 20 (40 * r + (20 * s1 + e1)) 1 20 (40 * r + mat i) = if i = 2 * e1 + s1 then 1 else N 20 (40 * r + mat i) := by
    intro i hi
    rw [zup_at]
    by_cases z : i = 2 * e1 + s1
    · rw [if_pos z, z, hmat, if_pos ⟨rfl, rfl⟩]
    · rw [if_neg z, if_neg]
      have : mat i = 20 * (i % 2) + i / 2 := rfl
      omega
  have hw0 := (h6 s1 hs).2 e1 he8
  have kn' : ∀ i, i < s0 + m → i / 2 < N 8 (i % 2) ∧ ¬ N 11 (mat i) = 0 := by
    intro i hi'
    have z := g2 i hi'
    have := inv_known hinv' h2 (show i < 40 by omega) z
    rw [o 8 _ (by omega), o 11 _ (by omega)] at this
    exact this
  have rs : ∀ i, i < s0 + m → rS M C W ρ N V (i % 2) (i / 2) := fun i hi' => (h6 (i % 2) (by omega)).2 (i / 2) (kn' i hi').1
  have e2 : ∀ i, 2 * (i / 2) + i % 2 = i := fun i => by omega
  have hpart : ∀ i, i < s0 + m → (if N 10 (mat i) = 0 then (mbat N V i (N 0 2)).map C else []) = (mpart N V i).map C := by
    intro i hi'
    have is := hi.2.2.1.2.1 (mat i) (by unfold mat; omega)
    have z := (kn' i hi').2
    unfold mpart
    rcases is.2.2.1 with y | y
    · exact absurd y z
    · by_cases x : N 10 (mat i) = 0
      · rw [if_pos x, if_pos (by omega)]
      · rw [if_neg x, if_neg (by omega)]; rfl
  have sp := mcat_split N V C (fun i => N 10 (mat i)) (fun i => (mbat N V i (N 0 2)).map C) s0 m (fun i _ b => hpart i b)
  have hlen : (mline N V r).length + (ccat (fun i => N 10 (mat i)) (fun i => (mbat N V i (N 0 2)).map C) s0 m).length = (mline (zup N 20 (40 * r + (20 * s1 + e1)) 1) V r).length := by
    have := congrArg List.length sp
    rw [List.length_append, List.length_map, List.length_map, ← g4, ← g5] at this
    omega
  have hl100 := mline_len (zup N 20 (40 * r + (20 * s1 + e1)) 1) V r
  rw [o 0 2 (by omega)] at hl100
  refine cl_closedArrives P c s0 m (mline N V r).length s1 e1 r (W s1 e1) (N 1) (fun i => W (i % 2) (i / 2)) (fun i => N 10 (mat i)) (fun i => W (i % 2) (i / 2) - 1) (fun i => (mbat N V i (N 0 2)).map C) ρ Q h1 h3 hc c1 c2 c3 h2 hs he hw0.1 hw0.2.2.2.1 hup b2 d1 g1 (fun q hq => ?_) ?_ (by omega) ?_
  · have ss := rs (s0 + q) (by omega)
    have l1 := ss.2.1
    have is := hi.2.2.1.2.1 (mat (s0 + q)) (by unfold mat; omega)
    refine ⟨?_, ⟨ss.2.2.2.1, ss.2.2.2.2.2.2.2.2.1, is.1, ss.2.2.2.2.2.2.1, ?_, fun i t z => ?_⟩, by omega, by omega, by omega, by omega, by omega⟩
    · rw [zx_R_pR]
      by_cases z : s0 + q = 2 * e1 + s1
      · rw [if_pos ⟨rfl, z⟩, z, show (2 * e1 + s1) % 2 = s1 by omega, show (2 * e1 + s1) / 2 = e1 by omega]
      · rw [if_neg (fun y => z y.2), b1 (s0 + q) (by omega), if_neg]
        have y := g2 (s0 + q) (by omega)
        rw [o20 _ (by omega), if_neg z] at y
        exact y
    · rw [ss.2.2.2.2.2.1, List.length_map, e2]
    · rw [List.getElem?_map] at z
      cases y : (mbat N V (s0 + q) (N 0 2))[i]? with
      | none => rw [y] at z; simp at z
      | some u =>
        rw [y] at z
        simp only [Option.map_some, Option.some.injEq] at z
        have z2 := ss.2.2.2.2.2.2.2.2.2.2.2 i u (by rw [e2]; exact y)
        rw [← z]
        refine ⟨z2, (h5 u ?_).2.2.2.1⟩
        have := List.mem_of_getElem? y
        unfold mbat at this
        rw [List.mem_filter, List.mem_range] at this
        exact this.1
  · rcases g3 with z | z
    · exact Or.inl z
    · by_cases y : s0 + m = 40
      · exact Or.inl y
      · right
        rw [o20 _ (by omega)] at z
        by_cases x : s0 + m = 2 * e1 + s1
        · rw [if_pos x] at z; omega
        · rw [if_neg x] at z
          rw [zx_R_pR, if_neg (fun y => x y.2), b1 _ (by omega), if_pos z]
  · have ag : ∀ w, ¬ w = crv P r → ¬ w = crv P r + 1 → ¬ w = crv P r + 2 → agr (zs_pI (capl (zs_pR ρ (crv P r + 1) (2 * e1 + s1) (some (W s1 e1))) (crv P r) (mline N V r).length (ccat (fun i => N 10 (mat i)) (fun i => (mbat N V i (N 0 2)).map C) s0 m)) (crv P r) 1 (nI (s0 + m))) ρ w := by
      intro w q0 q1 q2
      refine agr_pI (τ := capl (zs_pR ρ (crv P r + 1) (2 * e1 + s1) (some (W s1 e1))) (crv P r) (mline N V r).length (ccat (fun i => N 10 (mat i)) (fun i => (mbat N V i (N 0 2)).map C) s0 m)) (ρ := ρ) ⟨rfl, fun q => ?_, fun q => ?_⟩ _ _ _ q0
      · rw [capl_I, if_neg (fun z => q0 z.1)]; rfl
      · rw [capl_R, if_neg (fun z => q2 z.1), zx_R_ne _ _ _ _ q1]
    refine hQ _ ?_ (fun w a b => ag w (by omega) (by omega) (by omega))
    have I0 : ∀ q, zs_I (zs_pI (capl (zs_pR ρ (crv P r + 1) (2 * e1 + s1) (some (W s1 e1))) (crv P r) (mline N V r).length (ccat (fun i => N 10 (mat i)) (fun i => (mbat N V i (N 0 2)).map C) s0 m)) (crv P r) 1 (nI (s0 + m))) (crv P r) q = if q = 1 then nI (s0 + m) else if q = 3 then nI (mline (zup N 20 (40 * r + (20 * s1 + e1)) 1) V r).length else zs_I ρ (crv P r) q := by
      intro q
      by_cases z : q = 1
      · rw [z, zx_I_eq, if_pos rfl]
      · rw [zx_I_ek _ _ _ _ _ z, if_neg z, capl_I, hlen]
        by_cases y : q = 3
        · rw [if_pos ⟨rfl, y⟩, if_pos y]
        · rw [if_neg (fun x => y x.2), if_neg y]; rfl
    have R1 : ∀ q, zs_R (zs_pI (capl (zs_pR ρ (crv P r + 1) (2 * e1 + s1) (some (W s1 e1))) (crv P r) (mline N V r).length (ccat (fun i => N 10 (mat i)) (fun i => (mbat N V i (N 0 2)).map C) s0 m)) (crv P r) 1 (nI (s0 + m))) (crv P r + 1) q = if q = 2 * e1 + s1 then some (W s1 e1) else zs_R ρ (crv P r + 1) q := by
      intro q
      rw [zx_R_pI, capl_R, if_neg (by omega)]
      by_cases z : q = 2 * e1 + s1
      · rw [z, zx_R_eq, if_pos rfl]
      · rw [zx_R_ek _ _ _ _ _ z, if_neg z]
    have R2 : ∀ q, zs_R (zs_pI (capl (zs_pR ρ (crv P r + 1) (2 * e1 + s1) (some (W s1 e1))) (crv P r) (mline N V r).length (ccat (fun i => N 10 (mat i)) (fun i => (mbat N V i (N 0 2)).map C) s0 m)) (crv P r) 1 (nI (s0 + m))) (crv P r + 2) q = if (mline N V r).length ≤ q ∧ q < (mline N V r).length + (ccat (fun i => N 10 (mat i)) (fun i => (mbat N V i (N 0 2)).map C) s0 m).length then (ccat (fun i => N 10 (mat i)) (fun i => (mbat N V i (N 0 2)).map C) s0 m)[q - (mline N V r).length]? else zs_R ρ (crv P r + 2) q := by
      intro q
      rw [zx_R_pI, capl_R]
      by_cases z : (mline N V r).length ≤ q ∧ q < (mline N V r).length + (ccat (fun i => N 10 (mat i)) (fun i => (mbat N V i (N 0 2)).map C) s0 m).length
      · rw [if_pos ⟨rfl, z.1, z.2⟩, if_pos z]
      · rw [if_neg (fun y => z y.2), if_neg z, zx_R_ne _ _ _ _ (by omega)]
    have R0 : ∀ q, zs_R (zs_pI (capl (zs_pR ρ (crv P r + 1) (2 * e1 + s1) (some (W s1 e1))) (crv P r) (mline N V r).length (ccat (fun i => N 10 (mat i)) (fun i => (mbat N V i (N 0 2)).map C) s0 m)) (crv P r) 1 (nI (s0 + m))) (crv P r) q = zs_R ρ (crv P r) q := by
      intro q
      rw [zx_R_pI, capl_R, if_neg (by omega), zx_R_ne _ _ _ _ (by omega)]
    have nn : zs_n (zs_pI (capl (zs_pR ρ (crv P r + 1) (2 * e1 + s1) (some (W s1 e1))) (crv P r) (mline N V r).length (ccat (fun i => N 10 (mat i)) (fun i => (mbat N V i (N 0 2)).map C) s0 m)) (crv P r) 1 (nI (s0 + m))) = zs_n ρ := rfl
    have KK : zs_K (zs_pI (capl (zs_pR ρ (crv P r + 1) (2 * e1 + s1) (some (W s1 e1))) (crv P r) (mline N V r).length (ccat (fun i => N 10 (mat i)) (fun i => (mbat N V i (N 0 2)).map C) s0 m)) (crv P r) 1 (nI (s0 + m))) = zs_K ρ := rfl
    generalize zs_pI (capl (zs_pR ρ (crv P r + 1) (2 * e1 + s1) (some (W s1 e1))) (crv P r) (mline N V r).length (ccat (fun i => N 10 (mat i)) (fun i => (mbat N V i (N 0 2)).map C) s0 m)) (crv P r) 1 (nI (s0 + m)) = τ at *
    have bb : ∀ i, mbat (zup N 20 (40 * r + (20 * s1 + e1)) 1) V i (zup N 20 (40 * r + (20 * s1 + e1)) 1 0 2) = mbat N V i (N 0 2) := by
      intro i
      unfold mbat
      simp only [o 0 2 (by omega), fun q => o 6 q (by omega)]
    obtain ⟨l2, el2⟩ := mcat_pre N V s0 m
    have elr : mline (zup N 20 (40 * r + (20 * s1 + e1)) 1) V r = mline N V r ++ l2 := by rw [g4, g5, el2]
    refine ⟨⟨csb_of (σ := ρ) (fun w _ => by rw [KK]) ((ag 0 (by omega) (by omega) (by omega)).2.1 0) (fun w q hw => ?_) h1, hM, by omega⟩, cdn_of h3 (ag 1 (by omega) (by omega) (by omega)) (fun x _ => o 1 x (by omega)), by rw [(ag 0 (by omega) (by omega) (by omega)).2.1, o 0 2 (by omega)]; exact h4, fun t ht => ?_, fun s hs' => ⟨?_, fun e he' => ?_⟩, ?_, fun l hl => rL_of (h8 l hl) (ag _ (by omega) (by omega) (by omega)) (ag _ (by omega) (by omega) (by omega)) (fun q => o 13 q (by omega)) (fun q => o 14 q (by omega)), ?_, fun r' hr2 => ?_⟩
    · obtain ⟨w1, w2, w3, w4, w5, w6, w7⟩ := hw
      have := w7 r h2
      by_cases z : w = crv P r
      · rw [z]; exact R0 q
      · exact (ag w z this.1 this.2.1).2.2 q
    · rw [o 0 2 (by omega)] at ht
      have tt := h5 t ht
      have := tt.2.1
      exact rT_of tt (by omega) ((ag 2 (by omega) (by omega) (by omega)).2.2 t) (ag _ (by omega) (by omega) (by omega)) (o 2 t (by omega)) (o 3 t (by omega)) (o 6 t (by omega)) rfl rfl rfl (Or.inl rfl)
    · exact rQ_of (h6 s hs').1 (ag _ (by omega) (by omega) (by omega)) (ag _ (by omega) (by omega) (by omega)) (mbl_of (o 0 2 (by omega)) (fun q => o 6 q (by omega)) (fun _ => rfl)) (o 8 _ (by omega)) (o 9 _ (by omega))
    · rw [o 8 _ (by omega)] at he'
      have ss := (h6 s hs').2 e he'
      have := ss.2.1
      exact rS_of ss (by omega) ((ag _ (by omega) (by omega) (by omega)).2.2 e) (ag _ (by omega) (by omega) (by omega)) (ag _ (by omega) (by omega) (by omega)) (ag _ (by omega) (by omega) (by omega)) (bb _) (o 10 _ (by omega)) (o 11 _ (by omega)) (o 12 _ (by omega))
    · intro s e s' e' a b c d
      rw [o 8 _ (by omega)] at c d
      exact h7 s e s' e' a b c d
    · rw [mpl_of (N := N) (o 0 16 (by omega)) (fun i _ => ⟨mcode_of (fun m _ _ => o _ _ (by omega)), o _ _ (by omega)⟩)]
      exact cpl_of h9 (ag 3 (by omega) (by omega) (by omega)) (ag 4 (by omega) (by omega) (by omega)) (ag 5 (by omega) (by omega) (by omega))
    · have hv' := crv_le (P := P) (r := r') hP hr2
      by_cases g : r' = r
      · subst g
        refine ⟨⟨fun i hi' => ?_, by rw [I0, if_neg (by omega), if_pos rfl], fun i t z => ?_, ⟨s0 + m, by rw [I0, if_pos rfl], g1, g2, g3⟩, by rw [I0, if_neg (by omega), if_neg (by omega), o 23 _ (by omega)]; exact b5, fun i hi' => ⟨by rw [(ag _ (by omega) (by omega) (by omega)).2.1]; exact (b6 i hi').1, by rw [(ag _ (by omega) (by omega) (by omega)).2.1]; exact (b6 i hi').2⟩, fun t ht => ⟨by rw [(ag _ (by omega) (by omega) (by omega)).2.1]; exact (b7 t ht).1, fun z => ?_⟩⟩, fun p hp => ?_⟩
        · rw [R1, o20 i hi']
          by_cases z : i = 2 * e1 + s1
          · rw [if_pos z, if_pos z, if_neg (by omega), z, show (2 * e1 + s1) % 2 = s1 by omega, show (2 * e1 + s1) / 2 = e1 by omega]
          · rw [if_neg z, if_neg z]; exact b1 i hi'
        · rw [R2]
          have zl := (List.getElem?_eq_some_iff.mp z).1
          by_cases y : (mline N V r').length ≤ i
          · rw [if_pos ⟨y, by omega⟩]
            have q : ((mcat N V (s0 + m)).map C)[i]? = some (C t) := by rw [List.getElem?_map, ← g4, z]; rfl
            rw [sp, List.getElem?_append_right (by rw [List.length_map, ← g5]; exact y), List.length_map, ← g5] at q
            exact q
          · rw [if_neg (by omega)]
            rw [elr, List.getElem?_append_left (by omega)] at z
            exact b3 i t z
        · rw [(ag _ (by omega) (by omega) (by omega)).2.1]
          refine (b7 t ht).2 (fun q => ?_)
          have := z (by rw [o 0 2 (by omega)]; exact q)
          rw [o 2 _ (by omega)] at this
          exact this
        · exact rP_of (rp p hp) (fun j _ => ag _ (by omega) (by omega) (by omega)) (mwin_congr l2 elr (o 24 _ (by omega)) (o 25 _ (by omega)) (hb4 r' p hr2 hp) (fun t _ => o 27 _ (by omega))) (o 25 _ (by omega)) (fun t => o 26 _ (by omega)) (fun q => o 28 q (by omega))
      · have hne : crv P r' + 8 + 4 * P ≤ crv P r ∨ crv P r + 8 + 4 * P ≤ crv P r' := by
          unfold crv
          rcases (show (r = 0 ∧ r' = 1) ∨ (r = 1 ∧ r' = 0) by omega) with ⟨rfl, rfl⟩ | ⟨rfl, rfl⟩ <;> simp <;> omega
        have o20' : ∀ i, i < 40 → zup N 20 (40 * r + (20 * s1 + e1)) 1 20 (40 * r' + mat i) = N 20 (40 * r' + mat i) := by
          intro i hi'
          have : mat i < 40 := by unfold mat; omega
          rw [zup_at, if_neg (by omega)]
        have ml : mline (zup N 20 (40 * r + (20 * s1 + e1)) 1) V r' = mline N V r' := mline_congr o20' (fun i _ _ => mpart_congr (o _ _ (by omega)) (bb i))
        obtain ⟨⟨f1, f2, f3, ⟨t0, u1, u2, u3, u4⟩, f5, f6, f7⟩, rp'⟩ := h10 r' hr2
        have aj : ∀ j, j < 7 → agr τ ρ (crv P r' + j) := fun j hj => ag _ (by omega) (by omega) (by omega)
        have a0 := aj 0 (by omega)
        rw [Nat.add_zero] at a0
        refine ⟨⟨fun i hi' => by rw [(aj 1 (by omega)).2.2, o20' i hi']; exact f1 i hi', by rw [a0.2.1, ml]; exact f2, fun i t z => by rw [ml] at z; rw [(aj 2 (by omega)).2.2]; exact f3 i t z, ⟨t0, by rw [a0.2.1]; exact u1, u2, fun i hi' => by rw [o20' i (by omega)]; exact u3 i hi', ?_⟩, by rw [a0.2.1, o 23 _ (by omega)]; exact f5, fun i hi' => ⟨by rw [(aj 3 (by omega)).2.1]; exact (f6 i hi').1, by rw [(aj 4 (by omega)).2.1]; exact (f6 i hi').2⟩, fun t ht => ⟨by rw [(aj 5 (by omega)).2.1]; exact (f7 t ht).1, fun z => ?_⟩⟩, fun p hp => ?_⟩
        · rcases u4 with y | y
          · exact Or.inl y
          · by_cases x : t0 = 40
            · exact Or.inl x
            · right; rw [o20' t0 (by omega)]; exact y
        · rw [(aj 6 (by omega)).2.1]
          refine (f7 t ht).2 (fun q => ?_)
          have := z (by rw [o 0 2 (by omega)]; exact q)
          rw [o 2 _ (by omega)] at this
          exact this
        · exact rP_of (rp' p hp) (fun j _ => ag _ (by omega) (by omega) (by omega)) (mwin_congr [] (by rw [List.append_nil]; exact ml) (o 24 _ (by omega)) (o 25 _ (by omega)) (hb4 r' p hr2 hp) (fun t _ => o 27 _ (by omega))) (o 25 _ (by omega)) (fun t => o 26 _ (by omega)) (fun q => o 28 q (by omega))
