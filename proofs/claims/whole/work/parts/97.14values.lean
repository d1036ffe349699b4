/-! VALUES arrive. -/
theorem cfi_step {P M k : Nat} {X : Nat → Nat → Nat} {C : Nat → Nat} {W : Nat → Nat → Nat} {ρ : zs_S} {N : Nat → Nat → Nat} {V : Nat → Nat → Int32} (hi : inv P k X N V) (hr : rel P M C W ρ N V) {r p j t : Nat} (h2 : r < 2) (hp : p < P) (hj : (mwin N V r p)[j]? = some t) (hlk : ¬ N 26 (400 * r + 100 * p + t) = 0) : (mfins N V r p t → inv P k X (zup N 27 (400 * r + 100 * p + t) 1) (mfinV N V r p t 12) ∧ rel P M C W (cfi ρ (crv P r) p (mwin N V r p).length j (C t) t (N 2 t)) (zup N 27 (400 * r + 100 * p + t) 1) (mfinV N V r p t 12)) ∧ (¬ mfins N V r p t → cfi ρ (crv P r) p (mwin N V r p).length j (C t) t (N 2 t) = ρ) ∧ (∀ w, w < 24 ∨ M ≤ w → agr (cfi ρ (crv P r) p (mwin N V r p).length j (C t) t (N 2 t)) ρ w) ∧ zs_K (cfi ρ (crv P r) p (mwin N V r p).length j (C t) t (N 2 t)) = zs_K ρ ∧ (∀ p', p' < P → zs_I (cfi ρ (crv P r) p (mwin N V r p).length j (C t) t (N 2 t)) (crv P r + 8 + 4 * p') 0 = zs_I ρ (crv P r + 8 + 4 * p') 0) := by
  have hP := hi.1.2.2.2.1
  have hP0 := hi.1.2.2.1
  have eP := hi.1.2.1
  have hT := hi.2.1.1
  have htT := win_t hi (List.mem_of_getElem? hj)
  have hw := mwin_mem.mp (List.mem_of_getElem? hj)
  have hv := crv_le (P := P) (r := r) hP h2
  have hM := hr.1.2.1
  have tt := hr.2.2.2.1 t htT
  have t1 := tt.2.1
  have i5 : zs_I ρ (C t) 5 = kset (mR N V t) := tt.2.2.2.2.2.2.2.2.2.1
  have i6 : zs_I ρ (C t) 6 = kset (mW N V t) := tt.2.2.2.2.2.2.2.2.2.2.1
  have rr := (hr.2.2.2.2.2.2.2.2 r h2).1
  have rp := (hr.2.2.2.2.2.2.2.2 r h2).2 p hp
  have iK : zs_I ρ (crv P r + 8 + 4 * p) 0 = kset (fun k => k % P == p) := rp.1
  have i11 := rp.2.2.2.2 t (by omega)
  have cA : zs_I ρ (C t) 6 &&& zs_I ρ (crv P r + 8 + 4 * p) 0 = nI 0 ↔ mE (mW N V t) P p p = false := by rw [i6, iK]; exact kset_E _ _ _
  have cB : zs_I ρ (C t) 5 &&& ((zs_I ρ (crv P r + 8 + 4 * p) 0 ||| zs_I ρ (crv P r + 11 + 4 * p) t) ^^^ -1) = nI 0 ↔ mall N V r p t P = true := by
    rw [i5, iK, i11, kset_or, kset_not, mall_iff N V r p t P eP hP0]
    constructor
    · intro h k hk hR
      have := h k hk hR
      simp only [Bool.or_eq_true, beq_iff_eq, decide_eq_true_eq] at this
      exact this
    · intro h k hk hR
      simp only [Bool.or_eq_true, beq_iff_eq, decide_eq_true_eq]
      exact h k hk hR
  have fA : mE (mW N V t) P p p = false → mfins N V r p t := fun z => ⟨⟨hlk, hw.2⟩, fun q => by rw [eP, z] at q; exact absurd q (by decide)⟩
  have vA : mE (mW N V t) P p p = false → ∀ q, q < 12 → mfinV N V r p t 12 21 (12 * r + q) = V 21 (12 * r + q) := by
    intro z q hq
    rw [mfinV_at, if_neg]
    rintro ⟨_, _, y1, _, y2, y3⟩
    rw [show 12 * r + q - 12 * r = q by omega] at y2 y3
    rw [eP] at y2
    have : mE (mW N V t) P p p = true := (mE_set _ _ _).mpr ⟨q, hq, y3, y2⟩
    rw [z] at this
    exact absurd this (by decide)
  have eW : ∀ q, q < 12 → cwf ρ (crv P r) (C t) (N 2 t) (zs_I ρ (crv P r + 8 + 4 * p) 0) (zs_I ρ (crv P r + 5) t) (zs_I ρ (crv P r + 6) t) 12 q = mfinV N V r p t 12 21 (12 * r + q) := by
    intro q hq
    unfold cwf
    rw [mfinV_at, show 12 * r + q - 12 * r = q by omega, i6, iK, kset_1 q hq, kset_and, kset_and, tt.2.2.2.2.2.2.2.2.1, tt.2.2.2.2.2.2.1, eP]
    have c : (¬ ∀ k, k < 12 → (mW N V t k && ((k % P == p) && (k == q))) = false) ↔ (q % P = p ∧ mW N V t q = true) := by
      constructor
      · intro h
        apply Classical.byContradiction
        intro g
        apply h
        intro k hk
        by_cases z : k = q
        · subst z
          rw [← Bool.not_eq_true]
          intro y
          simp at y
          exact g ⟨y.2, y.1⟩
        · simp [z]
      · rintro ⟨g1, g2⟩ h
        have := h q hq
        simp [g1, g2] at this
    have c2 : (q < 12 ∧ ¬ kset (fun k => mW N V t k && ((k % P == p) && (k == q))) = nI 0) ↔ (21 = 21 ∧ 12 * r ≤ 12 * r + q ∧ q < 12 ∧ q < 12 ∧ q % P = p ∧ mW N V t q = true) := by
      rw [kset_0, c]
      constructor
      · rintro ⟨a, b⟩; exact ⟨rfl, by omega, a, a, b⟩
      · rintro ⟨_, _, a, _, b⟩; exact ⟨a, b⟩
    by_cases g : 21 = 21 ∧ 12 * r ≤ 12 * r + q ∧ q < 12 ∧ q < 12 ∧ q % P = p ∧ mW N V t q = true
    · rw [if_pos (c2.mpr g), if_pos g, (rr.2.2.2.2.2.2 t (by omega)).1]
      have ed : decide (nI q = nI (N 3 t)) = decide (q = N 3 t) := by
        rw [decide_eq_decide]
        have := (hi.2.1.2.1 t htT).2.1
        exact nI_eq (by omega) (by omega)
      rw [ed]
      by_cases g24 : N 2 t = 2 ∨ N 2 t = 4
      · exact mout_24 _ _ _ _ _ _ g24
      · rw [(rr.2.2.2.2.2.2 t (by omega)).2 (fun _ => by omega)]
    · rw [if_neg (fun z => g (c2.mp z)), if_neg g]
      exact (rr.2.2.2.2.2.1 q hq).2
  unfold cfi
  by_cases gA : zs_I ρ (C t) 6 &&& zs_I ρ (crv P r + 8 + 4 * p) 0 = nI 0
  · rw [if_pos gA]
    have mA := cA.mp gA
    refine ⟨fun _ => ⟨fin_inv hi h2 hp hj, fin_rel hi hr h2 hp hj rfl rfl ?_ (fun q => ?_) (fun q => ?_) (fun q => ?_) (fun q hq => ?_) (fun q => ?_) (fun q => ?_) (fun q => ?_)⟩, fun z => absurd (fA mA) z, fun w hw => ?_, rfl, fun p' hp' => ?_⟩
    · intro w q4 q8 q9 q10
      exact ⟨rfl, fun q => by rw [cfin_I, if_neg q10, if_neg (fun z => q8 z.1)], fun q => by rw [cfin_R, if_neg q9]⟩
    · rw [cfin_R, if_neg (by omega)]
    · rw [cfin_R, if_neg (by omega)]
    · rw [cfin_R, if_neg (by omega)]
    · rw [cfin_I, if_neg (by omega), if_neg (by omega), vA mA q hq]
      exact (rr.2.2.2.2.2.1 q hq).2
    · rw [cfin_I, if_neg (by omega)]
      by_cases z : q = 4
      · rw [if_pos ⟨rfl, z⟩, if_pos z]
      · rw [if_neg (fun y => z y.2), if_neg z]
    · rw [cfin_R, if_pos rfl]
    · rw [cfin_I, if_pos rfl]
    · exact ⟨rfl, fun q => by rw [cfin_I, if_neg (by omega), if_neg (by omega)], fun q => by rw [cfin_R, if_neg (by omega)]⟩
    · rw [cfin_I, if_neg (by omega), if_neg (by omega)]
  · rw [if_neg gA]
    have mA : mE (mW N V t) P p p = true := by
      cases z : mE (mW N V t) P p p with
      | true => rfl
      | false => exact absurd (cA.mpr z) gA
    by_cases gB : zs_I ρ (C t) 5 &&& ((zs_I ρ (crv P r + 8 + 4 * p) 0 ||| zs_I ρ (crv P r + 11 + 4 * p) t) ^^^ -1) = nI 0
    · rw [if_pos gB]
      have mB := cB.mp gB
      have hf : mfins N V r p t := ⟨⟨hlk, hw.2⟩, fun _ => by rw [eP]; exact mB⟩
      have cI : ∀ w q, ¬ w = crv P r + 4 → zs_I (cwr ρ (crv P r) (C t) t (N 2 t) (zs_I ρ (crv P r + 8 + 4 * p) 0) 12) w q = zs_I ρ w q := by
        intro w q z
        unfold cwr
        rw [zx_I_pF, if_neg z]
      have cI4 : ∀ q, zs_I (cwr ρ (crv P r) (C t) t (N 2 t) (zs_I ρ (crv P r + 8 + 4 * p) 0) 12) (crv P r + 4) q = cwf ρ (crv P r) (C t) (N 2 t) (zs_I ρ (crv P r + 8 + 4 * p) 0) (zs_I ρ (crv P r + 5) t) (zs_I ρ (crv P r + 6) t) 12 q := by
        intro q
        unfold cwr
        rw [zx_I_pF, if_pos rfl]
      have cRw : zs_R (cwr ρ (crv P r) (C t) t (N 2 t) (zs_I ρ (crv P r + 8 + 4 * p) 0) 12) = zs_R ρ := rfl
      refine ⟨fun _ => ⟨fin_inv hi h2 hp hj, fin_rel hi hr h2 hp hj rfl rfl ?_ (fun q => ?_) (fun q => ?_) (fun q => ?_) (fun q hq => ?_) (fun q => ?_) (fun q => ?_) (fun q => ?_)⟩, fun z => absurd hf z, fun w hw => ?_, rfl, fun p' hp' => ?_⟩
      · intro w q4 q8 q9 q10
        exact ⟨rfl, fun q => by rw [cfin_I, if_neg q10, if_neg (fun z => q8 z.1), cI _ _ q4], fun q => by rw [cfin_R, if_neg q9, cRw]⟩
      · rw [cfin_R, if_neg (by omega), cRw]
      · rw [cfin_R, if_neg (by omega), cRw]
      · rw [cfin_R, if_neg (by omega), cRw]
      · rw [cfin_I, if_neg (by omega), if_neg (by omega), cI4, eW q hq]
      · rw [cfin_I, if_neg (by omega)]
        by_cases z : q = 4
        · rw [if_pos ⟨rfl, z⟩, if_pos z]
        · rw [if_neg (fun y => z y.2), if_neg z, cI _ _ (by omega)]
      · rw [cfin_R, if_pos rfl, cRw]
      · rw [cfin_I, if_pos rfl]
        unfold cshf
        rw [cI _ _ (by omega), cI _ _ (by omega)]
      · exact ⟨rfl, fun q => by rw [cfin_I, if_neg (by omega), if_neg (by omega), cI _ _ (by omega)], fun q => by rw [cfin_R, if_neg (by omega), cRw]⟩
      · rw [cfin_I, if_neg (by omega), if_neg (by omega), cI _ _ (by omega)]
    · rw [if_neg gB]
      refine ⟨fun hf => ?_, fun _ => rfl, fun w _ => agr_rfl ρ w, rfl, fun _ _ => rfl⟩
      have := hf.2 (by rw [eP]; exact mA)
      rw [eP] at this
      exact absurd (cB.mpr this) gB
theorem has_step {P M k : Nat} {X : Nat → Nat → Nat} {C : Nat → Nat} {W : Nat → Nat → Nat} {ρ : zs_S} {N : Nat → Nat → Nat} {V : Nat → Nat → Int32} (hi : inv P k X N V) (hr : rel P M C W ρ N V) {r p q t : Nat} (h2 : r < 2) (hp : p < P) (hq : q < P) (ht : t < 100) : inv P k X (zup N 28 (16 * (100 * r + t) + (4 * p + q)) 1) V ∧ rel P M C W (zs_pI ρ (crv P r + 11 + 4 * q) t (zs_I ρ (crv P r + 11 + 4 * q) t ||| zs_I ρ (crv P r + 8 + 4 * p) 0)) (zup N 28 (16 * (100 * r + t) + (4 * p + q)) 1) V := by
  have hP := hi.1.2.2.2.1
  have hP0 := hi.1.2.2.1
  have hb4 := inv_b4 hi
  have hv := crv_le (P := P) (r := r) hP h2
  have o : ∀ j i, ¬ j = 28 → zup N 28 (16 * (100 * r + t) + (4 * p + q)) 1 j i = N j i := fun j i c => by rw [zup_at, if_neg (by omega)]
  have ml : ∀ r', mline (zup N 28 (16 * (100 * r + t) + (4 * p + q)) 1) V r' = mline N V r' := fun r' => mline_of (o 0 2 (by omega)) (fun q => o 6 q (by omega)) (fun q => o 11 q (by omega)) (fun q => o 20 q (by omega)) (fun _ => rfl)
  have hlt := zh_up hi.1.1 (show 1 < 100000 by omega) 28 (16 * (100 * r + t) + (4 * p + q))
  have o28 : ∀ r' t' c q', r' < 2 → t' < 100 → c < 4 → q' < 4 → (zup N 28 (16 * (100 * r + t) + (4 * p + q)) 1 28 (16 * (100 * r' + t') + 4 * c + q') = if r' = r ∧ t' = t ∧ c = p ∧ q' = q then 1 else N 28 (16 * (100 * r' + t') + 4 * c + q')) := by
    intro r' t' c q' a1 a2 a3 a4
    rw [zup_at]
    by_cases z : r' = r ∧ t' = t ∧ c = p ∧ q' = q
    · rw [if_pos z, if_pos]
      obtain ⟨z1, z2, z3, z4⟩ := z
      rw [z1, z2, z3, z4]
      exact ⟨rfl, by omega⟩
    · rw [if_neg z, if_neg (by omega)]
  constructor
  · generalize zup N 28 (16 * (100 * r + t) + (4 * p + q)) 1 = N' at *
    obtain ⟨iA, hb, hc, hd, he⟩ := hi
    refine ⟨iA_of iA hlt (o 0 0 (by omega)) (fun q => o 1 q (by omega)), iB_of hb (o 0 2 (by omega)) (fun q => o 2 q (by omega)) (fun q => o 3 q (by omega)) (fun q => o 6 q (by omega)) (fun s _ => by rw [o 8 s (by omega)]; exact Nat.le_refl _) (fun _ => rfl) (fun _ => rfl) (fun _ => rfl), iC_of hc (Nat.le_refl _) (fun j q _ _ => o j q (by omega)), ⟨?_, ?_⟩, fun r' hr' => iE_of (he r' hr') hb.1 hP (ml r') (fun a _ q => by rw [o 11 _ (by omega)]; exact q) (fun j q hj => o j q (by omega))⟩
    · rw [o 0 16 (by omega), mund_of (N := N) (o 8 _ (by omega)) (fun q => o 11 q (by omega)), mund_of (N := N) (o 8 _ (by omega)) (fun q => o 11 q (by omega))]
      exact hd.1
    · refine mal_of (N := N) (mal_mono hd.2 (mwf_mono ?_ ?_ ?_ ?_ ?_ ?_ ?_)) (o 0 16 (by omega)) (fun j q _ _ => o j q (by omega))
      · intro q _; rw [o 8 _ (by omega)]; exact Nat.le_refl _
      · intro q _; rw [o 9 _ (by omega)]; exact Nat.le_refl _
      · intro a _ q; rw [o 11 _ (by omega)]; exact q
      · rw [o 0 2 (by omega)]; exact Nat.le_refl _
      · exact o 0 0 (by omega)
      · intro r _ q; rw [o 1 _ (by omega)]; exact q
      · intro a w _ _; rfl
  · obtain ⟨⟨h1, hM, hn⟩, h3, h4, h5, h6, h7, h8, h9, h10⟩ := hr
    have ag : ∀ w, ¬ w = crv P r + 11 + 4 * q → agr (zs_pI ρ (crv P r + 11 + 4 * q) t (zs_I ρ (crv P r + 11 + 4 * q) t ||| zs_I ρ (crv P r + 8 + 4 * p) 0)) ρ w := fun w z => agr_pI (agr_rfl ρ w) _ _ _ z
    have bb : ∀ i, mbat (zup N 28 (16 * (100 * r + t) + (4 * p + q)) 1) V i (zup N 28 (16 * (100 * r + t) + (4 * p + q)) 1 0 2) = mbat N V i (N 0 2) := by
      intro i
      unfold mbat
      simp only [o 0 2 (by omega), fun q => o 6 q (by omega)]
    refine ⟨⟨csb_of (σ := ρ) (fun w _ => rfl) ((ag 0 (by omega)).2.1 0) (fun w q _ => rfl) h1, hM, hn⟩, cdn_of h3 (ag 1 (by omega)) (fun x _ => o 1 x (by omega)), by rw [(ag 0 (by omega)).2.1, o 0 2 (by omega)]; exact h4, fun u hu => ?_, fun s hs => ⟨?_, fun e he => ?_⟩, ?_, fun l hl => rL_of (h8 l hl) (ag _ (by omega)) (ag _ (by omega)) (fun q => o 13 q (by omega)) (fun q => o 14 q (by omega)), ?_, fun r' hr' => ?_⟩
    · rw [o 0 2 (by omega)] at hu
      have tt := h5 u hu
      have := tt.2.1
      exact rT_of tt (Nat.le_refl _) rfl (ag _ (by omega)) (o 2 u (by omega)) (o 3 u (by omega)) (o 6 u (by omega)) rfl rfl rfl (Or.inl rfl)
    · exact rQ_of (h6 s hs).1 (ag _ (by omega)) (ag _ (by omega)) (mbl_of (o 0 2 (by omega)) (fun q => o 6 q (by omega)) (fun _ => rfl)) (o 8 _ (by omega)) (o 9 _ (by omega))
    · rw [o 8 _ (by omega)] at he
      have ss := (h6 s hs).2 e he
      have := ss.2.1
      exact rS_of ss (Nat.le_refl _) rfl (ag _ (by omega)) (ag _ (by omega)) (ag _ (by omega)) (bb _) (o 10 _ (by omega)) (o 11 _ (by omega)) (o 12 _ (by omega))
    · intro s e s' e' a b c d
      rw [o 8 _ (by omega)] at c d
      exact h7 s e s' e' a b c d
    · rw [mpl_of (N := N) (o 0 16 (by omega)) (fun i _ => ⟨mcode_of (fun m _ _ => o _ _ (by omega)), o _ _ (by omega)⟩)]
      exact cpl_of h9 (ag 3 (by omega)) (ag 4 (by omega)) (ag 5 (by omega))
    · have hv' := crv_le (P := P) (r := r') hP hr'
      have hne : ¬ r' = r → crv P r' + 8 + 4 * P ≤ crv P r ∨ crv P r + 8 + 4 * P ≤ crv P r' := by
        intro g
        unfold crv
        rcases (show (r = 0 ∧ r' = 1) ∨ (r = 1 ∧ r' = 0) by omega) with ⟨rfl, rfl⟩ | ⟨rfl, rfl⟩ <;> simp <;> omega
      have hd : ∀ w, crv P r' ≤ w → w < crv P r' + 8 + 4 * P → (r' = r → ¬ w = crv P r + 11 + 4 * q) → ¬ w = crv P r + 11 + 4 * q := by
        intro w a b c z
        by_cases g : r' = r
        · exact c g z
        · have := hne g
          omega
      refine ⟨rR_of (h10 r' hr').1 (fun j hj => ag _ (hd _ (by omega) (by omega) (fun g => by subst g; omega))) (ml r') (o 0 2 (by omega)) (fun q => o 2 q (by omega)) (fun q => o 20 q (by omega)) (o 23 _ (by omega)) (fun _ _ => rfl) (fun _ _ => rfl) (fun _ _ => rfl) (fun _ _ => rfl), fun p' hp' => ?_⟩
      obtain ⟨d1, d2, d3, d4, d5⟩ := (h10 r' hr').2 p' hp'
      have hw : mwin (zup N 28 (16 * (100 * r + t) + (4 * p + q)) 1) V r' p' = mwin N V r' p' := mwin_congr [] (by rw [List.append_nil]; exact ml r') (o 24 _ (by omega)) (o 25 _ (by omega)) (hb4 r' p' hr' hp') (fun u _ => o 27 _ (by omega))
      have a8 := ag (crv P r' + 8 + 4 * p') (hd _ (by omega) (by omega) (fun g => by subst g; omega))
      have a9 := ag (crv P r' + 9 + 4 * p') (hd _ (by omega) (by omega) (fun g => by subst g; omega))
      have a10 := ag (crv P r' + 10 + 4 * p') (hd _ (by omega) (by omega) (fun g => by subst g; omega))
      refine ⟨by rw [a8.2.1]; exact d1, by rw [a8.2.1, o 25 _ (by omega)]; exact d2, by rw [a8.2.1, hw]; exact d3, fun j u z => by rw [hw] at z; rw [a9.2.2, a10.2.1, o 26 _ (by omega)]; exact d4 j u z, fun u hu => ?_⟩
      by_cases g : (r' = r ∧ p' = q) ∧ u = t
      · obtain ⟨⟨g1, g2⟩, g3⟩ := g
        subst g1
        subst g2
        subst g3
        rw [zx_I_eq, d5 u hu, ((h10 r' hr').2 p hp).1, kset_or]
        apply kset_ext
        intro k hk
        have hm : k % P < 4 := by have := Nat.mod_lt k hP0; omega
        rw [o28 r' u (k % P) p' hr' hu hm (by omega)]
        by_cases z : k % P = p
        · rw [if_pos ⟨rfl, rfl, z, rfl⟩]
          simp [z]
        · rw [if_neg (fun y => z y.2.2.1)]
          simp [z]
      · have e1 : zs_I (zs_pI ρ (crv P r + 11 + 4 * q) t (zs_I ρ (crv P r + 11 + 4 * q) t ||| zs_I ρ (crv P r + 8 + 4 * p) 0)) (crv P r' + 11 + 4 * p') u = zs_I ρ (crv P r' + 11 + 4 * p') u := by
          by_cases z : u = t
          · refine (ag _ (hd _ (by omega) (by omega) (fun y => ?_))).2.1 u
            subst y
            omega
          · rw [zx_I_ek _ _ _ _ _ z]
        rw [e1, d5 u hu]
        apply kset_ext
        intro k hk
        have hm : k % P < 4 := by have := Nat.mod_lt k hP0; omega
        rw [o28 r' u (k % P) p' hr' hu hm (by omega), if_neg (fun y => g ⟨⟨y.1, y.2.2.2⟩, y.2.1⟩)]
