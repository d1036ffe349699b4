/-! STORE and ACK arrive. -/
/-- one message is sent -/
theorem post_step {P M k : Nat} {X : Nat → Nat → Nat} {C : Nat → Nat} {W : Nat → Nat → Nat} {ρ : zs_S} {N : Nat → Nat → Nat} {V : Nat → Nat → Int32} (h : inv P k X N V) (hr : rel P M C W ρ N V) {kd to a x w : Nat} (hk : ¬ kd = 4) (hw : mwf X N kd to a x w) (hl : kd < 100000 ∧ to < 100000 ∧ a < 100000 ∧ x < 100000 ∧ w < 100000) (hu : N 0 16 + 1 + mund N 0 + mund N 1 ≤ 63) : inv P k X (mpost N kd to a x w) V ∧ rel P M C W (csnd ρ (N 0 16) [(1000000 * kd + 100000 * (a / 20) + 1000 * (a % 20) + 10 * to + x, w)]) (mpost N kd to a x w) V := by
  have g : nop (mpost N kd to a x w) N := fun j q a b => mpost_o N _ _ _ _ _ q a b
  refine ⟨post_inv h g (mpost_lt h.1.1 hl.1 hl.2.1 hl.2.2.1 hl.2.2.2.1 hl.2.2.2.2 (by omega)) (by rw [mpost_u]; exact hu) (mal_post h.2.2.2.1.2 hw), send_rel h hr g _ ?_⟩
  rw [mpost_mpl, if_neg hk]
theorem sto_step {P M k : Nat} {X : Nat → Nat → Nat} {C : Nat → Nat} {W : Nat → Nat → Nat} {ρ : zs_S} {N : Nat → Nat → Nat} {V : Nat → Nat → Int32} (h : inv P k X N V) (hr : rel P M C W ρ N V) {l a x w : Nat} (hl : l < 3) (ha : a < 40) (h1 : 1 ≤ w) (hw : w ≤ N 9 (a / 20)) (hx : x = X a w) (hwb : w < 9000) : inv P k X (zup (zup N 14 (2 * l + a / 20) w) 13 (40 * l + a) (2 * w + x)) V ∧ rel P M C W (zs_pI (zs_pI ρ (10 + 3 * l) (a / 20) (nI w)) (11 + 3 * l) (2 * (a % 20) + a / 20) (nI (2 * w + x))) (zup (zup N 14 (2 * l + a / 20) w) 13 (40 * l + a) (2 * w + x)) V := by
  have o : ∀ j q, ¬ j = 13 → ¬ j = 14 → zup (zup N 14 (2 * l + a / 20) w) 13 (40 * l + a) (2 * w + x) j q = N j q := fun j q c d => by rw [zup_at, if_neg (by omega), zup_at, if_neg (by omega)]
  have o13 : ∀ q, zup (zup N 14 (2 * l + a / 20) w) 13 (40 * l + a) (2 * w + x) 13 q = if q = 40 * l + a then 2 * w + x else N 13 q := by
    intro q
    rw [zup_at]
    by_cases z : q = 40 * l + a
    · rw [if_pos ⟨rfl, z⟩, if_pos z]
    · rw [if_neg (by omega), zup_at, if_neg (by omega), if_neg z]
  have o14 : ∀ q, zup (zup N 14 (2 * l + a / 20) w) 13 (40 * l + a) (2 * w + x) 14 q = if q = 2 * l + a / 20 then w else N 14 q := by
    intro q
    rw [zup_at, if_neg (by omega), zup_at]
    by_cases z : q = 2 * l + a / 20
    · rw [if_pos ⟨rfl, z⟩, if_pos z]
    · rw [if_neg (by omega), if_neg z]
  have hxx := h.2.2.1.2.2 a w
  have hlt := zh_up (zh_up h.1.1 (show w < 100000 by omega) 14 (2 * l + a / 20)) (show 2 * w + x < 100000 by omega) 13 (40 * l + a)
  generalize zup (zup N 14 (2 * l + a / 20) w) 13 (40 * l + a) (2 * w + x) = N' at *
  have ml : ∀ r, mline N' V r = mline N V r := fun r => mline_of (o 0 2 (by omega) (by omega)) (fun q => o 6 q (by omega) (by omega)) (fun q => o 11 q (by omega) (by omega)) (fun q => o 20 q (by omega) (by omega)) (fun _ => rfl)
  have hb4 := inv_b4 h
  constructor
  · obtain ⟨iA, hb, hc, hd, he⟩ := h
    refine ⟨iA_of iA hlt (o 0 0 (by omega) (by omega)) (fun q => o 1 q (by omega) (by omega)), iB_of hb (o 0 2 (by omega) (by omega)) (fun q => o 2 q (by omega) (by omega)) (fun q => o 3 q (by omega) (by omega)) (fun q => o 6 q (by omega) (by omega)) (fun s _ => by rw [o 8 s (by omega) (by omega)]; exact Nat.le_refl _) (fun _ => rfl) (fun _ => rfl) (fun _ => rfl), ⟨fun s hs => ?_, fun a' ha' => ?_, hc.2.2⟩, ⟨?_, ?_⟩, fun r hr => iE_of (he r hr) hb.1 iA.2.2.2.1 (ml r) (fun a _ q => by rw [o 11 a (by omega) (by omega)]; exact q) (fun j q hj => o j q (by omega) (by omega))⟩
    · rw [mund_of (o 8 _ (by omega) (by omega)) (fun q => o 11 q (by omega) (by omega)), o 8 _ (by omega) (by omega), o 9 _ (by omega) (by omega)]
      exact hc.1 s hs
    · have is := hc.2.1 a' ha'
      unfold iS
      rw [o 8 _ (by omega) (by omega), o 9 _ (by omega) (by omega), o 10 _ (by omega) (by omega), o 11 _ (by omega) (by omega), o 12 _ (by omega) (by omega)]
      refine ⟨is.1, is.2.1, is.2.2.1, is.2.2.2.1, is.2.2.2.2.1, fun l' hl' => ?_⟩
      rw [o13]
      split
      · rename_i z
        have e1 : a' = a := by omega
        subst e1
        exact Or.inr ⟨w, h1, hw, by rw [hx]⟩
      · exact is.2.2.2.2.2 l' hl'
    · rw [o 0 16 (by omega) (by omega), mund_of (N := N) (o 8 _ (by omega) (by omega)) (fun q => o 11 q (by omega) (by omega)), mund_of (N := N) (o 8 _ (by omega) (by omega)) (fun q => o 11 q (by omega) (by omega))]
      exact hd.1
    · refine mal_of (N := N) (mal_mono hd.2 (mwf_mono ?_ ?_ ?_ ?_ ?_ ?_ ?_)) (o 0 16 (by omega) (by omega)) (fun j q _ _ => o j q (by omega) (by omega))
      · intro q _; rw [o 8 _ (by omega) (by omega)]; exact Nat.le_refl _
      · intro q _; rw [o 9 _ (by omega) (by omega)]; exact Nat.le_refl _
      · intro a _ q; rw [o 11 _ (by omega) (by omega)]; exact q
      · rw [o 0 2 (by omega) (by omega)]; exact Nat.le_refl _
      · exact o 0 0 (by omega) (by omega)
      · intro r _ q; rw [o 1 _ (by omega) (by omega)]; exact q
      · intro a w _ _; rfl
  · have hP := h.1.2.2.2.1
    obtain ⟨⟨h1', hM, hn⟩, h3, h4, h5, h6, h7, h8, h9, h10⟩ := hr
    have ag : ∀ c, ¬ c = 10 + 3 * l → ¬ c = 11 + 3 * l → agr (zs_pI (zs_pI ρ (10 + 3 * l) (a / 20) (nI w)) (11 + 3 * l) (2 * (a % 20) + a / 20) (nI (2 * w + x))) ρ c := fun c q1 q2 => agr_pI (agr_pI (agr_rfl ρ c) _ _ _ q1) _ _ _ q2
    refine ⟨⟨csb_of (σ := ρ) (fun c _ => rfl) ((ag 0 (by omega) (by omega)).2.1 0) (fun c q _ => rfl) h1', hM, hn⟩, cdn_of h3 (ag 1 (by omega) (by omega)) (fun x _ => o 1 x (by omega) (by omega)), by rw [(ag 0 (by omega) (by omega)).2.1, o 0 2 (by omega) (by omega)]; exact h4, fun t ht => ?_, fun s hs => ⟨?_, fun e he => ?_⟩, ?_, fun l' hl' s hs => ?_, ?_, fun r hr => ⟨?_, fun p hp => ?_⟩⟩
    · rw [o 0 2 (by omega) (by omega)] at ht
      have tt := h5 t ht
      have := tt.2.1
      exact rT_of tt (Nat.le_refl _) rfl (ag _ (by omega) (by omega)) (o 2 t (by omega) (by omega)) (o 3 t (by omega) (by omega)) (o 6 t (by omega) (by omega)) rfl rfl rfl (Or.inl rfl)
    · exact rQ_of (h6 s hs).1 (ag _ (by omega) (by omega)) (ag _ (by omega) (by omega)) (mbl_of (o 0 2 (by omega) (by omega)) (fun q => o 6 q (by omega) (by omega)) (fun _ => rfl)) (o 8 _ (by omega) (by omega)) (o 9 _ (by omega) (by omega))
    · rw [o 8 _ (by omega) (by omega)] at he
      have ss := (h6 s hs).2 e he
      have := ss.2.1
      refine rS_of ss (Nat.le_refl _) rfl (ag _ (by omega) (by omega)) (ag _ (by omega) (by omega)) (ag _ (by omega) (by omega)) ?_ (o 10 _ (by omega) (by omega)) (o 11 _ (by omega) (by omega)) (o 12 _ (by omega) (by omega))
      unfold mbat
      simp only [o 0 2 (by omega) (by omega), fun q => o 6 q (by omega) (by omega)]
    · intro s1 e s' e' a b c d
      rw [o 8 _ (by omega) (by omega)] at c d
      exact h7 s1 e s' e' a b c d
    · have rl := h8 l' hl' s hs
      constructor
      · rw [zx_I_ne _ _ _ _ (by omega), zx_I_pI, o14, rl.1]
        by_cases z : 2 * l' + s = 2 * l + a / 20
        · rw [if_pos (by omega), if_pos z]
        · rw [if_neg (by omega), if_neg z]
      · intro e he
        rw [zx_I_pI, o13, zx_I_ne _ _ _ _ (by omega), rl.2 e he]
        by_cases z : 40 * l' + (20 * s + e) = 40 * l + a
        · rw [if_pos (by omega), if_pos z]
        · rw [if_neg (by omega), if_neg z]
    · rw [mpl_of (N := N) (o 0 16 (by omega) (by omega)) (fun i _ => ⟨mcode_of (fun m _ _ => o _ _ (by omega) (by omega)), o _ _ (by omega) (by omega)⟩)]
      exact cpl_of h9 (ag 3 (by omega) (by omega)) (ag 4 (by omega) (by omega)) (ag 5 (by omega) (by omega))
    · have hv := crv_le (P := P) (r := r) hP hr
      exact rR_of (h10 r hr).1 (fun j _ => ag _ (by omega) (by omega)) (ml r) (o 0 2 (by omega) (by omega)) (fun q => o 2 q (by omega) (by omega)) (fun q => o 20 q (by omega) (by omega)) (o 23 _ (by omega) (by omega)) (fun _ _ => rfl) (fun _ _ => rfl) (fun _ _ => rfl) (fun _ _ => rfl)
    · have hv := crv_le (P := P) (r := r) hP hr
      exact rP_of ((h10 r hr).2 p hp) (fun j _ => ag _ (by omega) (by omega)) (mwin_congr [] (by rw [List.append_nil]; exact ml r) (o 24 r (by omega) (by omega)) (o 25 _ (by omega) (by omega)) (hb4 r p hr hp) (fun t _ => o 27 _ (by omega) (by omega))) (o 25 _ (by omega) (by omega)) (fun t => o 26 _ (by omega) (by omega)) (fun q => o 28 q (by omega) (by omega))
/-! A log node has acknowledged. -/
theorem bit_or : ∀ x, x < 8 → ∀ l, l < 3 → (if x / 2 ^ l % 2 = 0 then x + 2 ^ l else x) < 8 ∧ ∀ i, i < 3 → (if x / 2 ^ l % 2 = 0 then x + 2 ^ l else x) / 2 ^ i % 2 = if i = l then 1 else x / 2 ^ i % 2 := by decide
theorem bit_cnt : ∀ x, x < 8 → ∀ l, l < 3 → (((if x / 2 ^ l % 2 = 0 then x + 2 ^ l else x) = 1 ∨ (if x / 2 ^ l % 2 = 0 then x + 2 ^ l else x) = 2 ∨ (if x / 2 ^ l % 2 = 0 then x + 2 ^ l else x) = 4) ↔ ¬ 2 ≤ cacn (fun i => x / 2 ^ i % 2) l 3) := by
  unfold cacn mC cacp
  decide
theorem ack_step {P M k : Nat} {X : Nat → Nat → Nat} {C : Nat → Nat} {W : Nat → Nat → Nat} {ρ : zs_S} {N : Nat → Nat → Nat} {V : Nat → Nat → Int32} (h : inv P k X N V) (hr : rel P M C W ρ N V) {l s e d : Nat} (hl : l < 3) (hs : s < 2) (he : e < N 8 s) (h11 : N 11 (20 * s + e) = 0) (hd : d = 0 ∨ d = 1 + N 10 (20 * s + e)) : inv P k X (zup (zup N 12 (20 * s + e) (mackx N l (20 * s + e))) 11 (20 * s + e) d) V ∧ rel P M C W (zs_pI (zs_pI ρ (W s e + 1) l (nI 1)) (W s e) 2 (nI (if d = 0 then 0 else 1))) (zup (zup N 12 (20 * s + e) (mackx N l (20 * s + e))) 11 (20 * s + e) d) V ∧ (∀ s', mund (zup (zup N 12 (20 * s + e) (mackx N l (20 * s + e))) 11 (20 * s + e) d) s' + (if s' = s ∧ ¬ d = 0 then 1 else 0) = mund N s') := by
  have h20 := (h.2.2.1.1 s hs).2.2.1
  have is := h.2.2.1.2.1 (20 * s + e) (by omega)
  have bo := bit_or (N 12 (20 * s + e)) is.2.1 l hl
  have o : ∀ j q, ¬ j = 11 → ¬ j = 12 → zup (zup N 12 (20 * s + e) (mackx N l (20 * s + e))) 11 (20 * s + e) d j q = N j q := fun j q c d => by rw [zup_at, if_neg (by omega), zup_at, if_neg (by omega)]
  have o11 : ∀ q, zup (zup N 12 (20 * s + e) (mackx N l (20 * s + e))) 11 (20 * s + e) d 11 q = if q = 20 * s + e then d else N 11 q := by
    intro q
    rw [zup_at]
    by_cases z : q = 20 * s + e
    · rw [if_pos ⟨rfl, z⟩, if_pos z]
    · rw [if_neg (by omega), zup_at, if_neg (by omega), if_neg z]
  have o12 : ∀ q, zup (zup N 12 (20 * s + e) (mackx N l (20 * s + e))) 11 (20 * s + e) d 12 q = if q = 20 * s + e then mackx N l (20 * s + e) else N 12 q := by
    intro q
    rw [zup_at, if_neg (by omega), zup_at]
    by_cases z : q = 20 * s + e
    · rw [if_pos ⟨rfl, z⟩, if_pos z]
    · rw [if_neg (by omega), if_neg z]
  have hlt := zh_up (zh_up h.1.1 (show mackx N l (20 * s + e) < 100000 by unfold mackx; have := bo.1; omega) 12 (20 * s + e)) (show d < 100000 by have := is.1; omega) 11 (20 * s + e)
  have mx : mackx N l (20 * s + e) = if N 12 (20 * s + e) / 2 ^ l % 2 = 0 then N 12 (20 * s + e) + 2 ^ l else N 12 (20 * s + e) := rfl
  have hm8 : mackx N l (20 * s + e) < 8 := bo.1
  have hmb := bo.2
  rw [← mx] at hmb
  generalize mackx N l (20 * s + e) = y at *
  generalize zup (zup N 12 (20 * s + e) y) 11 (20 * s + e) d = N' at *
  have ml : ∀ r, r < 2 → mline N' V r = mline N V r := by
    intro r hr
    refine mline_congr (fun k _ => o _ _ (by omega) (by omega)) (fun k hk hkn => mpart_congr ?_ ?_)
    · rw [o11, if_neg]
      intro z
      have := (inv_known h hr hk hkn).2
      rw [z] at this
      exact this h11
    · unfold mbat
      simp only [o 0 2 (by omega) (by omega), fun q => o 6 q (by omega) (by omega)]
  have mu : ∀ s', mund N' s' + (if s' = s ∧ ¬ d = 0 then 1 else 0) = mund N s' := by
    intro s'
    unfold mund
    rw [o 8 _ (by omega) (by omega)]
    by_cases g : s' = s ∧ ¬ d = 0
    · obtain ⟨g1, g2⟩ := g
      subst g1
      rw [if_pos ⟨rfl, g2⟩]
      have key : ∀ n, n ≤ 20 → mC (fun e' => decide (N' 11 (20 * s' + e') = 0)) n + (if e < n then 1 else 0) = mC (fun e' => decide (N 11 (20 * s' + e') = 0)) n := by
        intro n
        induction n with
        | zero => intro _; rfl
        | succ n ih =>
          intro hn
          have ih := ih (by omega)
          rw [mC_s, mC_s]
          by_cases z : n = e
          · subst z
            have e1 : decide (N' 11 (20 * s' + n) = 0) = false := by rw [o11, if_pos rfl]; simp [g2]
            have e2 : decide (N 11 (20 * s' + n) = 0) = true := by rw [h11]; rfl
            rw [if_neg (Nat.lt_irrefl n)] at ih
            rw [e1, e2, if_pos (Nat.lt_succ_self n)]
            simp only [Bool.false_eq_true, if_false, if_true]
            omega
          · have e3 : decide (N' 11 (20 * s' + n) = 0) = decide (N 11 (20 * s' + n) = 0) := by rw [o11, if_neg (by omega)]
            rw [e3]
            by_cases y1 : e < n
            · rw [if_pos y1] at ih
              rw [if_pos (show e < n + 1 by omega)]
              omega
            · rw [if_neg y1] at ih
              rw [if_neg (show ¬ e < n + 1 by omega)]
              omega
      have := key (N 8 s') h20
      rw [if_pos he] at this
      exact this
    · rw [if_neg g, Nat.add_zero]
      refine mC_congr _ (fun j hj => ?_)
      rw [o11]
      by_cases z : 20 * s' + j = 20 * s + e
      · rw [if_pos z, z, h11]
        have : d = 0 := by
          apply Classical.byContradiction
          intro q
          apply g
          refine ⟨?_, q⟩
          apply Classical.byContradiction
          intro q2
          by_cases hs'2 : s' < 2
          · have := (h.2.2.1.1 s' hs'2).2.2.1
            omega
          · omega
        rw [this]
      · rw [if_neg z]
  refine ⟨?_, ?_, mu⟩
  · obtain ⟨iA, hb, hc, hd', he'⟩ := h
    have m0 := mu 0
    have m1 := mu 1
    refine ⟨iA_of iA hlt (o 0 0 (by omega) (by omega)) (fun q => o 1 q (by omega) (by omega)), iB_of hb (o 0 2 (by omega) (by omega)) (fun q => o 2 q (by omega) (by omega)) (fun q => o 3 q (by omega) (by omega)) (fun q => o 6 q (by omega) (by omega)) (fun s _ => by rw [o 8 s (by omega) (by omega)]; exact Nat.le_refl _) (fun _ => rfl) (fun _ => rfl) (fun _ => rfl), ⟨fun s' hs' => ?_, fun a' ha' => ?_, hc.2.2⟩, ⟨?_, ?_⟩, fun r hr => iE_of (he' r hr) hb.1 iA.2.2.2.1 (ml r hr) (fun a _ q => ?_) (fun j q hj => o j q (by omega) (by omega))⟩
    · have := hc.1 s' hs'
      have m := mu s'
      rw [o 8 _ (by omega) (by omega), o 9 _ (by omega) (by omega)]
      refine ⟨this.1, this.2.1, this.2.2.1, ?_⟩
      have := this.2.2.2
      omega
    · have ia := hc.2.1 a' ha'
      unfold iS
      rw [o 8 _ (by omega) (by omega), o 9 _ (by omega) (by omega), o 10 _ (by omega) (by omega), o11, o12]
      by_cases z : a' = 20 * s + e
      · subst z
        rw [if_pos rfl, if_pos rfl]
        refine ⟨ia.1, hm8, hd, fun q => ?_, ia.2.2.2.2.1, fun l' hl' => by rw [o 13 _ (by omega) (by omega)]; exact ia.2.2.2.2.2 l' hl'⟩
        have e1 : (20 * s + e) / 20 = s := by omega
        have e2 : (20 * s + e) % 20 = e := by omega
        rw [e1, e2] at q
        omega
      · rw [if_neg z, if_neg z]
        exact ⟨ia.1, ia.2.1, ia.2.2.1, ia.2.2.2.1, ia.2.2.2.2.1, fun l' hl' => by rw [o 13 _ (by omega) (by omega)]; exact ia.2.2.2.2.2 l' hl'⟩
    · rw [o 0 16 (by omega) (by omega)]
      have := hd'.1
      omega
    · refine mal_of (N := N) (mal_mono hd'.2 (mwf_mono ?_ ?_ ?_ ?_ ?_ ?_ ?_)) (o 0 16 (by omega) (by omega)) (fun j q _ _ => o j q (by omega) (by omega))
      · intro q _; rw [o 8 _ (by omega) (by omega)]; exact Nat.le_refl _
      · intro q _; rw [o 9 _ (by omega) (by omega)]; exact Nat.le_refl _
      · intro a _ q; rw [o11, if_neg (fun z => q (by rw [z]; exact h11))]; exact q
      · rw [o 0 2 (by omega) (by omega)]; exact Nat.le_refl _
      · exact o 0 0 (by omega) (by omega)
      · intro r _ q; rw [o 1 _ (by omega) (by omega)]; exact q
      · intro a w _ _; rfl
    · rw [o11, if_neg (fun z => q (by rw [z]; exact h11))]; exact q
  · have hP := h.1.2.2.2.1
    have hb4 := inv_b4 h
    have hr' := hr
    obtain ⟨⟨h1', hM, hn⟩, h3, h4, h5, h6, h7, h8, h9, h10⟩ := hr
    have lo := ((h6 s hs).2 e he).2.1
    have ag : ∀ c, ¬ c = W s e → ¬ c = W s e + 1 → agr (zs_pI (zs_pI ρ (W s e + 1) l (nI 1)) (W s e) 2 (nI (if d = 0 then 0 else 1))) ρ c := fun c q1 q2 => agr_pI (agr_pI (agr_rfl ρ c) _ _ _ q2) _ _ _ q1
    have bb : ∀ i, mbat N' V i (N' 0 2) = mbat N V i (N 0 2) := by
      intro i
      unfold mbat
      simp only [o 0 2 (by omega) (by omega), fun q => o 6 q (by omega) (by omega)]
    refine ⟨⟨csb_of (σ := ρ) (fun c _ => rfl) ((ag 0 (by omega) (by omega)).2.1 0) (fun c q _ => rfl) h1', hM, hn⟩, cdn_of h3 (ag 1 (by omega) (by omega)) (fun x _ => o 1 x (by omega) (by omega)), by rw [(ag 0 (by omega) (by omega)).2.1, o 0 2 (by omega) (by omega)]; exact h4, fun t ht => ?_, fun s' hs' => ⟨?_, fun e' he' => ?_⟩, ?_, fun l' hl' => rL_of (h8 l' hl') (ag _ (by omega) (by omega)) (ag _ (by omega) (by omega)) (fun q => o 13 q (by omega) (by omega)) (fun q => o 14 q (by omega) (by omega)), ?_, fun r hr => ⟨?_, fun p hp => ?_⟩⟩
    · rw [o 0 2 (by omega) (by omega)] at ht
      have tt := h5 t ht
      have cw := rel_CW hr' ht hs he
      exact rT_of tt (Nat.le_refl _) rfl (ag _ cw.1 cw.2.1) (o 2 t (by omega) (by omega)) (o 3 t (by omega) (by omega)) (o 6 t (by omega) (by omega)) rfl rfl rfl (Or.inl rfl)
    · exact rQ_of (h6 s' hs').1 (ag _ (by omega) (by omega)) (ag _ (by omega) (by omega)) (mbl_of (o 0 2 (by omega) (by omega)) (fun q => o 6 q (by omega) (by omega)) (fun _ => rfl)) (o 8 _ (by omega) (by omega)) (o 9 _ (by omega) (by omega))
    · rw [o 8 _ (by omega) (by omega)] at he'
      have ss := (h6 s' hs').2 e' he'
      have lo' := ss.2.1
      have h20' := (h.2.2.1.1 s' hs').2.2.1
      by_cases g : s' = s ∧ e' = e
      · obtain ⟨g1, g2⟩ := g
        subst g1
        subst g2
        have a3 := ag (W s' e' - 1) (by omega) (by omega)
        unfold rS
        rw [bb, o 10 _ (by omega) (by omega), o11, o12, if_pos rfl, if_pos rfl, zx_I_eq, zx_I_ek _ _ _ _ _ (by omega), zx_I_ne _ _ _ _ (by omega)]
        refine ⟨ss.1, ss.2.1, ss.2.2.1, ss.2.2.2.1, ss.2.2.2.2.1, ss.2.2.2.2.2.1, ss.2.2.2.2.2.2.1, ss.2.2.2.2.2.2.2.1, ss.2.2.2.2.2.2.2.2.1, rfl, fun i hi => ?_, ss.2.2.2.2.2.2.2.2.2.2.2⟩
        rw [zx_I_ne _ _ _ _ (by omega), zx_I_pI, hmb i hi]
        by_cases z : i = l
        · rw [if_pos ⟨rfl, z⟩, if_pos z]
        · rw [if_neg (by omega), if_neg z]
          exact ss.2.2.2.2.2.2.2.2.2.2.1 i hi
      · have w1 := rel_WW hr' hs' he' hs he
        have w2 := rel_WW hr' hs he hs' he'
        have w3 : ¬ W s' e' = W s e := fun z => g (h7 s' e' s e hs' hs he' he z)
        exact rS_of ss (Nat.le_refl _) rfl (ag _ w3 w1.1) (ag _ (fun z => w2.1 z.symm) (by omega)) (ag _ w1.2.1 w1.2.2) (bb _) (o 10 _ (by omega) (by omega)) (by rw [o11, if_neg (by omega)]) (by rw [o12, if_neg (by omega)])
    · intro s1 e1 s' e' a b c d
      rw [o 8 _ (by omega) (by omega)] at c d
      exact h7 s1 e1 s' e' a b c d
    · rw [mpl_of (N := N) (o 0 16 (by omega) (by omega)) (fun i _ => ⟨mcode_of (fun m _ _ => o _ _ (by omega) (by omega)), o _ _ (by omega) (by omega)⟩)]
      exact cpl_of h9 (ag 3 (by omega) (by omega)) (ag 4 (by omega) (by omega)) (ag 5 (by omega) (by omega))
    · have hv := crv_le (P := P) (r := r) hP hr
      exact rR_of (h10 r hr).1 (fun j _ => ag _ (by omega) (by omega)) (ml r hr) (o 0 2 (by omega) (by omega)) (fun q => o 2 q (by omega) (by omega)) (fun q => o 20 q (by omega) (by omega)) (o 23 _ (by omega) (by omega)) (fun _ _ => rfl) (fun _ _ => rfl) (fun _ _ => rfl) (fun _ _ => rfl)
    · have hv := crv_le (P := P) (r := r) hP hr
      exact rP_of ((h10 r hr).2 p hp) (fun j _ => ag _ (by omega) (by omega)) (mwin_congr [] (by rw [List.append_nil]; exact ml r hr) (o 24 r (by omega) (by omega)) (o 25 _ (by omega) (by omega)) (hb4 r p hr hp) (fun t _ => o 27 _ (by omega) (by omega))) (o 25 _ (by omega) (by omega)) (fun t => o 26 _ (by omega) (by omega)) (fun q => o 28 q (by omega) (by omega))
