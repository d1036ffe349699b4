/-! Nodes come up. -/
theorem rel_WW {P M : Nat} {C : Nat → Nat} {W : Nat → Nat → Nat} {ρ : zs_S} {N : Nat → Nat → Nat} {V : Nat → Nat → Int32} (hr : rel P M C W ρ N V) {s e s' e' : Nat} (hs : s < 2) (he : e < N 8 s) (hs' : s' < 2) (he' : e' < N 8 s') : ¬ W s e = W s' e' + 1 ∧ ¬ W s e - 1 = W s' e' ∧ ¬ W s e - 1 = W s' e' + 1 := by
  have a := (hr.2.2.2.2.1 s hs).2 e he
  have b := (hr.2.2.2.2.1 s' hs').2 e' he'
  refine ⟨fun q => ?_, fun q => ?_, fun q => ?_⟩
  · have z := a.2.2.2.1
    rw [q, b.2.2.2.2.1] at z
    exact absurd z (by decide)
  · have z := a.2.2.2.2.2.1
    rw [q, b.2.2.2.1] at z
    exact absurd (congrArg Prod.fst z) (by decide : ¬ (5 : Nat) = 116)
  · have z := a.2.2.2.2.2.1
    rw [q, b.2.2.2.2.1] at z
    exact absurd (congrArg Prod.fst z) (by decide : ¬ (101 : Nat) = 116)
theorem again_rel {P M k : Nat} {X : Nat → Nat → Nat} {C : Nat → Nat} {W : Nat → Nat → Nat} {ρ : zs_S} {N : Nat → Nat → Nat} {V : Nat → Nat → Int32} (hi : inv P k X N V) (hr : rel P M C W ρ N V) {s : Nat} (h2 : s < 2) : rel P M C W (csnd (cpm (cpr (zs_pI ρ (18 + 3 * s) 4 (nI (N 9 s + 1))) s (N 9 s + 1) (N 1) 3) (W s) (fun e => W s e + 1) (fun e => if N 11 (20 * s + e) = 0 then 0 else 1) (fun e => memp N (20 * s + e)) (N 8 s)) (N 0 16) (cstm s (N 9 s + 1) (fun e => if N 11 (20 * s + e) = 0 then 0 else 1) (fun e => memp N (20 * s + e)) (N 8 s))) (magain N s) V := by
  have hP := hi.1.2.2.2.1
  have hb4 := inv_b4 hi
  have h8 := (hi.2.2.1.1 s h2).2.2.1
  have hr' := hr
  obtain ⟨⟨h1, hM, hn⟩, h3, h4, h5, h6, h7, h8', h9, h10⟩ := hr
  have wi : ∀ i j, i < N 8 s → j < N 8 s → W s i = W s j → i = j := fun i j a b z => (h7 s i s j h2 h2 a b z).2
  have wb : ∀ i j, i < N 8 s → j < N 8 s → ¬ W s i = W s j + 1 := fun i j a b => (rel_WW hr' h2 a h2 b).1
  have bi : ∀ i j, i < N 8 s → j < N 8 s → W s i + 1 = W s j + 1 → i = j := fun i j a b z => wi i j a b (by omega)
  have lo : ∀ e, e < N 8 s → M + 33 ≤ W s e := fun e he => ((h6 s h2).2 e he).2.1
  have hcp : cpl (csnd (cpm (cpr (zs_pI ρ (18 + 3 * s) 4 (nI (N 9 s + 1))) s (N 9 s + 1) (N 1) 3) (W s) (fun e => W s e + 1) (fun e => if N 11 (20 * s + e) = 0 then 0 else 1) (fun e => memp N (20 * s + e)) (N 8 s)) (N 0 16) (cstm s (N 9 s + 1) (fun e => if N 11 (20 * s + e) = 0 then 0 else 1) (fun e => memp N (20 * s + e)) (N 8 s))) (mpl (magain N s)) := by
    rw [magain_mpl N s h8]
    have a3 : ∀ c, c < 6 → agr (cpm (cpr (zs_pI ρ (18 + 3 * s) 4 (nI (N 9 s + 1))) s (N 9 s + 1) (N 1) 3) (W s) (fun e => W s e + 1) (fun e => if N 11 (20 * s + e) = 0 then 0 else 1) (fun e => memp N (20 * s + e)) (N 8 s)) ρ c := by
      intro c hc
      refine agr_cpm (τ := cpr (zs_pI ρ (18 + 3 * s) 4 (nI (N 9 s + 1))) s (N 9 s + 1) (N 1) 3) (ρ := ρ) ⟨rfl, fun q => ?_, fun q => rfl⟩ _ _ _ _ _ (fun e he => ?_) (fun e he => ?_)
      · rw [cpr_o _ _ _ _ _ _ _ (by omega) (by omega) (by omega), zx_I_ne _ _ _ _ (by omega)]
      · have := lo e he; omega
      · have := lo e he; omega
    have := csnd_cpl _ (mpl N) (cstm s (N 9 s + 1) (fun e => if N 11 (20 * s + e) = 0 then 0 else 1) (fun e => memp N (20 * s + e)) (N 8 s)) (cpl_of h9 (a3 3 (by omega)) (a3 4 (by omega)) (a3 5 (by omega)))
    rw [mpl_len] at this
    exact this
  have ag0 : ∀ w, w < 3 ∨ 5 < w → ¬ w = 18 + 3 * s → ¬ w = 10 → ¬ w = 13 → ¬ w = 16 → (∀ e, e < N 8 s → ¬ w = W s e ∧ ¬ w = W s e + 1) → agr (csnd (cpm (cpr (zs_pI ρ (18 + 3 * s) 4 (nI (N 9 s + 1))) s (N 9 s + 1) (N 1) 3) (W s) (fun e => W s e + 1) (fun e => if N 11 (20 * s + e) = 0 then 0 else 1) (fun e => memp N (20 * s + e)) (N 8 s)) (N 0 16) (cstm s (N 9 s + 1) (fun e => if N 11 (20 * s + e) = 0 then 0 else 1) (fun e => memp N (20 * s + e)) (N 8 s))) ρ w := by
    intro w q1 q2 q3 q4 q5 q6
    refine agr_csnd (agr_cpm (τ := cpr (zs_pI ρ (18 + 3 * s) 4 (nI (N 9 s + 1))) s (N 9 s + 1) (N 1) 3) (ρ := ρ) ⟨rfl, fun q => ?_, fun q => rfl⟩ _ _ _ _ _ (fun e he => (q6 e he).1) (fun e he => (q6 e he).2)) _ _ q1
    rw [cpr_o _ _ _ _ _ _ _ q3 q4 q5, zx_I_ne _ _ _ _ q2]
  have ag : ∀ w, w < 3 ∨ 5 < w → w < M → ¬ w = 18 + 3 * s → ¬ w = 10 → ¬ w = 13 → ¬ w = 16 → agr (csnd (cpm (cpr (zs_pI ρ (18 + 3 * s) 4 (nI (N 9 s + 1))) s (N 9 s + 1) (N 1) 3) (W s) (fun e => W s e + 1) (fun e => if N 11 (20 * s + e) = 0 then 0 else 1) (fun e => memp N (20 * s + e)) (N 8 s)) (N 0 16) (cstm s (N 9 s + 1) (fun e => if N 11 (20 * s + e) = 0 then 0 else 1) (fun e => memp N (20 * s + e)) (N 8 s))) ρ w := fun w q1 qM q2 q3 q4 q5 => ag0 w q1 q2 q3 q4 q5 (fun e he => by have := lo e he; omega)
  have nn : zs_n (csnd (cpm (cpr (zs_pI ρ (18 + 3 * s) 4 (nI (N 9 s + 1))) s (N 9 s + 1) (N 1) 3) (W s) (fun e => W s e + 1) (fun e => if N 11 (20 * s + e) = 0 then 0 else 1) (fun e => memp N (20 * s + e)) (N 8 s)) (N 0 16) (cstm s (N 9 s + 1) (fun e => if N 11 (20 * s + e) = 0 then 0 else 1) (fun e => memp N (20 * s + e)) (N 8 s))) = zs_n ρ := by rw [csnd_n, cpm_n]; rfl
  have KK : zs_K (csnd (cpm (cpr (zs_pI ρ (18 + 3 * s) 4 (nI (N 9 s + 1))) s (N 9 s + 1) (N 1) 3) (W s) (fun e => W s e + 1) (fun e => if N 11 (20 * s + e) = 0 then 0 else 1) (fun e => memp N (20 * s + e)) (N 8 s)) (N 0 16) (cstm s (N 9 s + 1) (fun e => if N 11 (20 * s + e) = 0 then 0 else 1) (fun e => memp N (20 * s + e)) (N 8 s))) = zs_K ρ := by rw [csnd_K, cpm_K, cpr_K]; rfl
  have RR : zs_R (csnd (cpm (cpr (zs_pI ρ (18 + 3 * s) 4 (nI (N 9 s + 1))) s (N 9 s + 1) (N 1) 3) (W s) (fun e => W s e + 1) (fun e => if N 11 (20 * s + e) = 0 then 0 else 1) (fun e => memp N (20 * s + e)) (N 8 s)) (N 0 16) (cstm s (N 9 s + 1) (fun e => if N 11 (20 * s + e) = 0 then 0 else 1) (fun e => memp N (20 * s + e)) (N 8 s))) = zs_R ρ := by rw [csnd_R, cpm_R, cpr_R]; rfl
  have I18 : ∀ q, zs_I (csnd (cpm (cpr (zs_pI ρ (18 + 3 * s) 4 (nI (N 9 s + 1))) s (N 9 s + 1) (N 1) 3) (W s) (fun e => W s e + 1) (fun e => if N 11 (20 * s + e) = 0 then 0 else 1) (fun e => memp N (20 * s + e)) (N 8 s)) (N 0 16) (cstm s (N 9 s + 1) (fun e => if N 11 (20 * s + e) = 0 then 0 else 1) (fun e => memp N (20 * s + e)) (N 8 s))) (18 + 3 * s) q = if q = 4 then nI (N 9 s + 1) else zs_I ρ (18 + 3 * s) q := by
    intro q
    rw [csnd_o _ _ _ _ _ (by omega) (by omega) (by omega), cpm_o _ _ _ _ _ _ _ _ (fun e he z => by have := lo e he; omega) (Or.inr (fun e he z => by have := lo e he; omega)), cpr_o _ _ _ _ _ _ _ (by omega) (by omega) (by omega), zx_I_pI]
    by_cases z : q = 4 <;> simp [z]
  have I10 : ∀ l, l < 3 → ∀ q, zs_I (csnd (cpm (cpr (zs_pI ρ (18 + 3 * s) 4 (nI (N 9 s + 1))) s (N 9 s + 1) (N 1) 3) (W s) (fun e => W s e + 1) (fun e => if N 11 (20 * s + e) = 0 then 0 else 1) (fun e => memp N (20 * s + e)) (N 8 s)) (N 0 16) (cstm s (N 9 s + 1) (fun e => if N 11 (20 * s + e) = 0 then 0 else 1) (fun e => memp N (20 * s + e)) (N 8 s))) (10 + 3 * l) q = if q = s ∧ N 1 l = 0 then nI (N 9 s + 1) else zs_I ρ (10 + 3 * l) q := by
    intro l hl q
    rw [csnd_o _ _ _ _ _ (by omega) (by omega) (by omega), cpm_o _ _ _ _ _ _ _ _ (fun e he z => by have := lo e he; omega) (Or.inr (fun e he z => by have := lo e he; omega)), cpr_I, zx_I_ne _ _ _ _ (by omega)]
    rcases (show l = 0 ∨ l = 1 ∨ l = 2 by omega) with rfl | rfl | rfl <;> simp
  have IW : ∀ e, e < N 8 s → ∀ q, zs_I (csnd (cpm (cpr (zs_pI ρ (18 + 3 * s) 4 (nI (N 9 s + 1))) s (N 9 s + 1) (N 1) 3) (W s) (fun e => W s e + 1) (fun e => if N 11 (20 * s + e) = 0 then 0 else 1) (fun e => memp N (20 * s + e)) (N 8 s)) (N 0 16) (cstm s (N 9 s + 1) (fun e => if N 11 (20 * s + e) = 0 then 0 else 1) (fun e => memp N (20 * s + e)) (N 8 s))) (W s e) q = if N 11 (20 * s + e) = 0 ∧ q = 1 then nI (memp N (20 * s + e)) else zs_I ρ (W s e) q := by
    intro e he q
    have := lo e he
    rw [csnd_o _ _ _ _ _ (by omega) (by omega) (by omega), cpm_w _ _ _ _ _ _ _ wi wb e he, cpr_o _ _ _ _ _ _ _ (by omega) (by omega) (by omega), zx_I_ne _ _ _ _ (by omega)]
    by_cases z : N 11 (20 * s + e) = 0 <;> simp [z]
  have IB : ∀ e, e < N 8 s → ∀ q, q < 3 → zs_I (csnd (cpm (cpr (zs_pI ρ (18 + 3 * s) 4 (nI (N 9 s + 1))) s (N 9 s + 1) (N 1) 3) (W s) (fun e => W s e + 1) (fun e => if N 11 (20 * s + e) = 0 then 0 else 1) (fun e => memp N (20 * s + e)) (N 8 s)) (N 0 16) (cstm s (N 9 s + 1) (fun e => if N 11 (20 * s + e) = 0 then 0 else 1) (fun e => memp N (20 * s + e)) (N 8 s))) (W s e + 1) q = if N 11 (20 * s + e) = 0 then nI 0 else zs_I ρ (W s e + 1) q := by
    intro e he q hq
    have := lo e he
    have cb := cpm_b (cpr (zs_pI ρ (18 + 3 * s) 4 (nI (N 9 s + 1))) s (N 9 s + 1) (N 1) 3) (W s) (fun e => W s e + 1) (fun e => if N 11 (20 * s + e) = 0 then 0 else 1) (fun e => memp N (20 * s + e)) q hq (N 8 s) bi wb e he
    rw [csnd_o _ _ _ _ _ (by omega) (by omega) (by omega), cb, cpr_o _ _ _ _ _ _ _ (by omega) (by omega) (by omega), zx_I_ne _ _ _ _ (by omega)]
    by_cases z : N 11 (20 * s + e) = 0 <;> simp [z]
  generalize csnd (cpm (cpr (zs_pI ρ (18 + 3 * s) 4 (nI (N 9 s + 1))) s (N 9 s + 1) (N 1) 3) (W s) (fun e => W s e + 1) (fun e => if N 11 (20 * s + e) = 0 then 0 else 1) (fun e => memp N (20 * s + e)) (N 8 s)) (N 0 16) (cstm s (N 9 s + 1) (fun e => if N 11 (20 * s + e) = 0 then 0 else 1) (fun e => memp N (20 * s + e)) (N 8 s)) = τ at *
  have o : ∀ j q, ¬ (15 ≤ j ∧ j ≤ 19) → ¬ (j = 0 ∧ q = 16) → ¬ (9 ≤ j ∧ j ≤ 10) → ¬ j = 12 → ¬ j = 14 → magain N s j q = N j q := fun j q a b c d e => magain_o N s q a b c d e
  have e02 : magain N s 0 2 = N 0 2 := o 0 2 (by omega) (by omega) (by omega) (by omega) (by omega)
  have o6 : ∀ q, magain N s 6 q = N 6 q := fun q => o 6 q (by omega) (by omega) (by omega) (by omega) (by omega)
  have o8 : ∀ q, magain N s 8 q = N 8 q := fun q => o 8 q (by omega) (by omega) (by omega) (by omega) (by omega)
  have o11 : ∀ q, magain N s 11 q = N 11 q := fun q => o 11 q (by omega) (by omega) (by omega) (by omega) (by omega)
  have o20 : ∀ q, magain N s 20 q = N 20 q := fun q => o 20 q (by omega) (by omega) (by omega) (by omega) (by omega)
  have bb : ∀ k, mbat (magain N s) V k (magain N s 0 2) = mbat N V k (N 0 2) := by
    intro k
    unfold mbat
    simp only [e02, o6]
  have ml : ∀ r, mline (magain N s) V r = mline N V r := fun r => mline_of e02 o6 o11 o20 (fun _ => rfl)
  refine ⟨⟨csb_of (fun w _ => by rw [KK]) ((ag 0 (by omega) (by omega) (by omega) (by omega) (by omega) (by omega)).2.1 0) (fun w q _ => by rw [RR]) h1, hM, by omega⟩, cdn_of h3 (ag 1 (by omega) (by omega) (by omega) (by omega) (by omega) (by omega)) (fun x _ => o 1 x (by omega) (by omega) (by omega) (by omega) (by omega)), by rw [(ag 0 (by omega) (by omega) (by omega) (by omega) (by omega) (by omega)).2.1, e02]; exact h4, fun t ht => ?_, fun s' hs => ⟨?_, fun e he => ?_⟩, ?_, fun l hl s' hs => ⟨?_, fun e he => ?_⟩, hcp, fun r hr => ⟨?_, fun p hp => ?_⟩⟩
  · rw [e02] at ht
    have tt := h5 t ht
    have := tt.2.1
    exact rT_of tt (by omega) (by rw [RR]) (ag0 _ (by omega) (by omega) (by omega) (by omega) (by omega) (fun e he => ⟨(rel_CW hr' ht h2 he).1, (rel_CW hr' ht h2 he).2.1⟩)) (o 2 t (by omega) (by omega) (by omega) (by omega) (by omega)) (o 3 t (by omega) (by omega) (by omega) (by omega) (by omega)) (o6 t) rfl rfl rfl (Or.inl rfl)
  · have q := (h6 s' hs).1
    by_cases e : s' = s
    · subst e
      unfold rQ
      rw [mbl_of (N := N) e02 o6 (fun _ => rfl), I18, I18, I18, if_neg (by omega), if_neg (by omega), if_pos rfl, o8, magain_9, if_pos rfl]
      exact ⟨q.1, q.2.1, rfl, fun i t z => by rw [RR]; exact q.2.2.2 i t z⟩
    · exact rQ_of q (ag _ (by omega) (by omega) (by omega) (by omega) (by omega) (by omega)) (ag _ (by omega) (by omega) (by omega) (by omega) (by omega) (by omega)) (mbl_of (N := N) e02 o6 (fun _ => rfl)) (o8 _) (by rw [magain_9, if_neg e])
  · rw [o8] at he
    have ss := (h6 s' hs).2 e he
    have := ss.2.1
    by_cases g : s' = s
    · subst g
      unfold rS
      rw [RR, KK, nn, bb, IW e he 1, IW e he 2, if_neg (show ¬ (N 11 (20 * s' + e) = 0 ∧ 2 = 1) by omega), o11, magain_10, magain_12]
      have cnd : (20 * s' ≤ 20 * s' + e ∧ 20 * s' + e < 20 * s' + N 8 s' ∧ N 11 (20 * s' + e) = 0) ↔ N 11 (20 * s' + e) = 0 := by omega
      simp only [cnd, and_true]
      refine ⟨ss.1, ss.2.1, ss.2.2.1, ss.2.2.2.1, ss.2.2.2.2.1, ss.2.2.2.2.2.1, ss.2.2.2.2.2.2.1, ss.2.2.2.2.2.2.2.1, ?_, ss.2.2.2.2.2.2.2.2.2.1, fun l hl => ?_, ss.2.2.2.2.2.2.2.2.2.2.2⟩
      · by_cases z : N 11 (20 * s' + e) = 0
        · rw [if_pos z, if_pos z]
        · rw [if_neg z, if_neg z]; exact ss.2.2.2.2.2.2.2.2.1
      · rw [IB e he l hl]
        by_cases z : N 11 (20 * s' + e) = 0
        · rw [if_pos z, if_pos z, Nat.zero_div]
        · rw [if_neg z, if_neg z]; exact ss.2.2.2.2.2.2.2.2.2.2.1 l hl
    · have is := hi.2.2.1.1 s' hs
      have d1 : ∀ e', e' < N 8 s → ¬ W s' e = W s e' := fun e' he' z => g (h7 s' e s e' hs h2 he he' z).1
      have d2 : ∀ e', e' < N 8 s → _ := fun e' he' => rel_WW hr' hs he h2 he'
      have d3 : ∀ e', e' < N 8 s → _ := fun e' he' => rel_WW hr' h2 he' hs he
      refine rS_of ss (by omega) (by rw [RR]) (ag0 _ (by omega) (by omega) (by omega) (by omega) (by omega) (fun e' he' => ⟨d1 e' he', (d2 e' he').1⟩)) (ag0 _ (by omega) (by omega) (by omega) (by omega) (by omega) (fun e' he' => ⟨fun z => (d3 e' he').1 z.symm, fun z => d1 e' he' (by omega)⟩)) (ag0 _ (by omega) (by omega) (by omega) (by omega) (by omega) (fun e' he' => ⟨(d2 e' he').2.1, (d2 e' he').2.2⟩)) (bb _) ?_ (o11 _) ?_
      · rw [magain_10, if_neg (by omega)]
      · rw [magain_12, if_neg (by omega)]
  · intro s1 e s' e' a b c d
    rw [o8] at c d
    exact h7 s1 e s' e' a b c d
  · rw [I10 l hl, magain_14 N s l s' hl h2 hs, (h8' l hl s' hs).1]
    split <;> rfl
  · rw [(ag _ (by omega) (by omega) (by omega) (by omega) (by omega) (by omega)).2.1, o 13 _ (by omega) (by omega) (by omega) (by omega) (by omega)]
    exact (h8' l hl s' hs).2 e he
  · have hv := crv_le (P := P) (r := r) hP hr
    exact rR_of (h10 r hr).1 (fun j _ => ag _ (by omega) (by omega) (by omega) (by omega) (by omega) (by omega)) (ml r) e02 (fun q => o 2 q (by omega) (by omega) (by omega) (by omega) (by omega)) o20 (o 23 r (by omega) (by omega) (by omega) (by omega) (by omega)) (fun _ _ => rfl) (fun _ _ => rfl) (fun _ _ => rfl) (fun _ _ => rfl)
  · have hv := crv_le (P := P) (r := r) hP hr
    exact rP_of ((h10 r hr).2 p hp) (fun j _ => ag _ (by omega) (by omega) (by omega) (by omega) (by omega) (by omega)) (mwin_congr [] (by rw [List.append_nil]; exact ml r) (o 24 r (by omega) (by omega) (by omega) (by omega) (by omega)) (o 25 _ (by omega) (by omega) (by omega) (by omega) (by omega)) (hb4 r p hr hp) (fun t _ => o 27 _ (by omega) (by omega) (by omega) (by omega) (by omega))) (o 25 _ (by omega) (by omega) (by omega) (by omega) (by omega)) (fun t => o 26 _ (by omega) (by omega) (by omega) (by omega) (by omega)) (fun q => o 28 q (by omega) (by omega) (by omega) (by omega) (by omega))
theorem mC3 (N : Nat → Nat → Nat) (h : ∀ x, x < 7 → N 1 x < 2) : mC (fun l => decide (N 1 l = 0)) 3 = 3 - N 1 0 - N 1 1 - N 1 2 := by
  have a := h 0 (by omega)
  have b := h 1 (by omega)
  have c := h 2 (by omega)
  rw [mC_s, mC_s, mC_s]
  rcases (show N 1 0 = 0 ∨ N 1 0 = 1 by omega) with x | x <;> rcases (show N 1 1 = 0 ∨ N 1 1 = 1 by omega) with y | y <;> rcases (show N 1 2 = 0 ∨ N 1 2 = 1 by omega) with z | z <;> simp [x, y, z, mC]
theorem cpm_congr (σ : zs_S) (w b dd : Nat → Nat) {em em' : Nat → Nat} : ∀ m, (∀ e, e < m → em e = em' e) → cpm σ w b dd em m = cpm σ w b dd em' m
  | 0, _ => rfl
  | m + 1, h => by rw [cpm, cpm, cpm_congr σ w b dd m (fun e he => h e (by omega)), h m (by omega)]
theorem cstm_congr (s v : Nat) (dd : Nat → Nat) {em em' : Nat → Nat} : ∀ m, (∀ e, e < m → em e = em' e) → cstm s v dd em m = cstm s v dd em' m
  | 0, _ => rfl
  | m + 1, h => by rw [cstm, cstm, cstm_congr s v dd m (fun e he => h e (by omega)), h m (by omega)]
theorem mdb_agw {M : Nat} {τ ρ : zs_S} {N : Nat → Nat → Nat} {V : Nat → Nat → Int32} (h : mdb M ρ N V) (a : ∀ w, M ≤ w → w < M + 32 → agr τ ρ w) : mdb M τ N V := mdb_of h (fun w p q => (a w p q).1) (fun w k p q => (a w p q).2.1 k) (fun k => (a M (Nat.le_refl _) (by omega)).2.2 k)
theorem st_restart {P M k : Nat} {ρ : zs_S} {Q1 : zs_Q} (hk : k < 9000) (x : Int32) (h : st P M k ρ) (hQ : stq P M k (fun τ Q2 => zw_Md_restart [.ref M, .int x] τ Q2) Q1) : zw_SB_restart [.ref 0, .int x] ρ Q1 := by
  obtain ⟨X, C, W, N, V, hi, hr, hm⟩ := h
  have hu := inv_u hi
  have hM := rel_M hr
  have hM2 := hr.1.2.1
  have hdn := hi.1.2.2.2.2
  have m3 := mC3 N hdn
  by_cases g : ∃ n, n < 7 ∧ x = nI n ∧ ¬ N 1 n = 0 ∧ (n = 3 ∨ n = 4 → ¬ 3 - N 1 0 - N 1 1 - N 1 2 < 2 ∧ ¬ 48 < N 0 16)
  · obtain ⟨n, hn, rfl, hup, h34⟩ := g
    by_cases g3 : n < 3
    · rw [cl_restart_log P n (N 1) ρ Q1 hr.1.1 hr.2.1 g3 hup]
      refine hQ _ _ (fun Q2 h3 => ?_)
      have hm' := mdb_pI hm 1 n (nI 0) (by omega)
      refine ⟨N, V, hm', ?_⟩
      show zw_Md_restart [.ref M, .int (nI n)] (md M _ N V) Q2
      rw [mo_restart_log _ _ _ _ _ hi.1.1 n g3 hup]
      exact h3 _ (st_mk (inv_k (up_inv hi n 0 (by omega) (by omega))) (up_rel hi hr n 0 (by omega)))
    · by_cases g5 : n < 5
      · obtain ⟨s, rfl⟩ : ∃ s, n = 3 + s := ⟨n - 3, by omega⟩
        have h2 : s < 2 := by omega
        obtain ⟨gl, gu⟩ := h34 (by omega)
        have hi1 := up_inv hi (3 + s) 0 (by omega) (by omega)
        have hr1 := up_rel hi hr (3 + s) 0 (by omega)
        have zo : ∀ j q, ¬ j = 1 → zup N 1 (3 + s) 0 j q = N j q := fun j q z => by rw [zup_at, if_neg (by omega)]
        have hu1 : ¬ 48 < zup N 1 (3 + s) 0 0 16 := by rw [zo 0 16 (by omega)]; exact gu
        obtain ⟨X', hi2⟩ := again_inv hi1 h2 hu1 hk
        have hr2 := again_rel hi1 hr1 h2
        have hm1 := mdb_pI hm 1 (3 + s) (nI 0) (by omega)
        refine cl_restart_seq P s (N 0 16) (N 1) ρ Q1 hr.1.1 hr.2.1 h2 hup (rel_u hr) (by rw [m3]; exact gl) gu (fun Q' hQ' => ?_)
        generalize hρ1 : zs_pI ρ 1 (3 + s) (nI 0) = ρ1 at *
        generalize hN1 : zup N 1 (3 + s) 0 = N1 at *
        have n9 : N1 9 s = N 9 s := zo 9 s (by omega)
        have c1 := hi1.2.2.1.1 s h2
        have rq := hr1.2.2.2.2.1 s h2
        have emq : ∀ e, e < N1 8 s → cem (N1 1) (fun l => N1 13 (40 * l + (20 * s + e))) = memp N1 (20 * s + e) := by
          intro e he
          have is := hi1.2.2.1.2.1 (20 * s + e) (by omega)
          exact cem_bst (Y := X (20 * s + e)) (hi1.2.2.1.2.2 _) (fun l hl => by
            rcases is.2.2.2.2.2 l hl with z | ⟨w, w1, w2, z⟩
            · exact Or.inl z
            · exact Or.inr ⟨w, w1, z⟩)
        have cst1 := cstm_congr s (N1 9 s + 1) (fun e => if N1 11 (20 * s + e) = 0 then 0 else 1) (N1 8 s) emq
        have cpm1 := cpm_congr (cpr (zs_pI ρ1 (18 + 3 * s) 4 (nI (N1 9 s + 1))) s (N1 9 s + 1) (N1 1) 3) (W s) (fun e => W s e + 1) (fun e => if N1 11 (20 * s + e) = 0 then 0 else 1) (N1 8 s) emq
        have hlen := cstm_und s (N1 9 s + 1) N1 (fun e => memp N1 (20 * s + e)) (N1 8 s)
        have und : mC (fun e => decide (N1 11 (20 * s + e) = 0)) (N1 8 s) ≤ 3 := c1.2.2.2
        refine cl_takeUp P s (N1 8 s) (N1 9 s) (N1 0 16) (W s) (fun e => W s e + 1) (fun e => if N1 11 (20 * s + e) = 0 then 0 else 1) (N1 1) (fun e l => N1 13 (40 * l + (20 * s + e))) ρ1 Q' hr1.1.1 hr1.2.1 h2 rq.1.2.2.1 (hi1.1.1 _ _) rq.1.2.1 c1.2.2.1 (fun e he => ?_) (fun e he l hl => ?_) (rel_u hr1) (by rw [cst1]; omega) ?_
        · have ss := rq.2 e he
          exact ⟨ss.1, ss.2.2.2.1, ss.2.2.2.2.2.2.2.1, ss.2.2.2.2.1, ss.2.2.2.2.2.2.2.2.2.1, by split <;> omega⟩
        · refine ⟨(hr1.2.2.2.2.2.2.1 l hl s h2).2 e (by omega), ?_⟩
          have := hi1.1.1 13 (40 * l + (20 * s + e))
          omega
        · rw [cst1, cpm1]
          refine hQ' _ (hQ _ _ (fun Q2 h3 => ?_))
          have hm' : mdb M (csnd (cpm (cpr (zs_pI ρ1 (18 + 3 * s) 4 (nI (N1 9 s + 1))) s (N1 9 s + 1) (N1 1) 3) (W s) (fun e => W s e + 1) (fun e => if N1 11 (20 * s + e) = 0 then 0 else 1) (fun e => memp N1 (20 * s + e)) (N1 8 s)) (N1 0 16) (cstm s (N1 9 s + 1) (fun e => if N1 11 (20 * s + e) = 0 then 0 else 1) (fun e => memp N1 (20 * s + e)) (N1 8 s))) N V := by
            refine mdb_agw hm1 (fun w a b => ?_)
            refine agr_csnd (agr_cpm (τ := cpr (zs_pI ρ1 (18 + 3 * s) 4 (nI (N1 9 s + 1))) s (N1 9 s + 1) (N1 1) 3) (ρ := ρ1) ⟨rfl, fun q => ?_, fun q => rfl⟩ _ _ _ _ _ (fun e he => ?_) (fun e he => ?_)) _ _ (by omega)
            · rw [cpr_o _ _ _ _ _ _ _ (by omega) (by omega) (by omega), zx_I_ne _ _ _ _ (by omega)]
            · have := (rq.2 e he).2.1
              omega
            · have := (rq.2 e he).2.1
              omega
          refine ⟨N, V, hm', ?_⟩
          show zw_Md_restart [.ref M, .int (nI (3 + s))] (md M _ N V) Q2
          refine mo_restart_seq _ _ _ _ _ hi.1.1 hdn s h2 hup gl gu (by have := (hi.2.2.1.1 s h2).2.1; omega) (by have := (hi.2.2.1.1 s h2).2.2.1; omega) (fun e he => ?_) ?_
          · rw [hN1, ← n9]
            show mag (mnw N1 s) s e 0 16 ≤ 77
            have e1 := mpl_len (mag (mnw N1 s) s e)
            rw [← zo 8 s (by omega)] at he
            rw [mag_mpl (mnw N1 s) s (mnw N1 s 9 s) rfl e (by have := c1.2.2.1; omega), List.length_append, mpl_len, mnw_o _ _ _ (by omega) (by omega)] at e1
            have e2 := cstm_und s (mnw N1 s 9 s) (mnw N1 s) (fun e => memp (mnw N1 s) (20 * s + e)) e
            have e3 : mC (fun e => decide (mnw N1 s 11 (20 * s + e) = 0)) e ≤ mC (fun e => decide (N1 11 (20 * s + e) = 0)) (N1 8 s) := by
              rw [mC_congr e (Y := fun e => decide (N1 11 (20 * s + e) = 0)) (fun j _ => by rw [mnw_o _ _ _ (by omega) (by omega)])]
              have mono : ∀ d, mC (fun e => decide (N1 11 (20 * s + e) = 0)) e ≤ mC (fun e => decide (N1 11 (20 * s + e) = 0)) (e + d) := by
                intro d
                induction d with
                | zero => exact Nat.le_refl _
                | succ d ih => rw [← Nat.add_assoc, mC_s]; omega
              have := mono (N1 8 s - e)
              rw [show e + (N1 8 s - e) = N1 8 s by omega] at this
              exact this
            omega
          · rw [hN1]
            exact h3 _ (st_mk hi2 hr2)
      · obtain ⟨r, rfl⟩ : ∃ r, n = 5 + r := ⟨n - 5, by omega⟩
        have h2 : r < 2 := by omega
        have hi1 := up_inv hi (5 + r) 0 (by omega) (by omega)
        have hr1 := up_rel hi hr (5 + r) 0 (by omega)
        have hi2 := fresh_inv hi1 h2
        have hr2 := fresh_rel hi1 hr1 h2
        have hv := crv_le (P := P) (r := r) hi.1.2.2.2.1 h2
        refine cl_restart_rep P r (N 1) ρ Q1 hr.1.1 hr.2.1 h2 hup (hQ _ _ (fun Q2 h3 => ?_))
        have hm' : mdb M (cbg (zs_pI ρ 1 (5 + r) (nI 0)) (crv P r) P) N V := mdb_agw (mdb_pI hm 1 (5 + r) (nI 0) (by omega)) (fun w a b => agr_cbg _ _ _ _ (by omega))
        refine ⟨N, V, hm', ?_⟩
        show zw_Md_restart [.ref M, .int (nI (5 + r))] (md M _ N V) Q2
        exact mo_restart_rep _ _ _ _ _ hi.1.1 r h2 hup (h3 _ (st_mk (inv_k hi2) hr2))
  · refine cl_restart_out P (N 0 16) x (N 1) ρ Q1 hr.1.1 hr.2.1 (rel_u hr) (by omega) (by rw [m3]; exact g) (hQ _ _ (fun Q2 h3 => ?_))
    refine ⟨N, V, hm, ?_⟩
    show zw_Md_restart [.ref M, .int x] (md M _ N V) Q2
    rw [mo_restart_out _ _ _ _ _ hi.1.1 hdn x g]
    exact h3 _ (st_id hi hr)
