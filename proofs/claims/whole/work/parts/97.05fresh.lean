/-! A replica comes up. -/
theorem fr_line (N : Nat → Nat → Nat) (V : Nat → Nat → Int32) (r r' : Nat) : mline (mfrN N r 4 400 1600) (mfrV V r 12) r' = mline N V r' := by
  refine mline_of ?_ (fun q => ?_) (fun q => ?_) (fun q => ?_) (fun q => ?_)
  · rw [mfrN_at, if_neg (by omega), if_neg (by omega), if_neg (by omega), if_neg (by omega)]
  · rw [mfrN_at, if_neg (by omega), if_neg (by omega), if_neg (by omega), if_neg (by omega)]
  · rw [mfrN_at, if_neg (by omega), if_neg (by omega), if_neg (by omega), if_neg (by omega)]
  · rw [mfrN_at, if_neg (by omega), if_neg (by omega), if_neg (by omega), if_neg (by omega)]
  · rw [mfrV_at, if_neg (by omega)]
theorem fr_o (N : Nat → Nat → Nat) (r : Nat) {j : Nat} (q : Nat) (h : ¬ (24 ≤ j ∧ j ≤ 28)) : mfrN N r 4 400 1600 j q = N j q := by
  rw [mfrN_at, if_neg (by omega), if_neg (by omega), if_neg (by omega), if_neg (by omega)]
theorem fr_24 (N : Nat → Nat → Nat) (r : Nat) : mfrN N r 4 400 1600 24 r = N 23 r := by rw [mfrN_at, if_pos ⟨rfl, rfl⟩]
theorem fr_25 (N : Nat → Nat → Nat) (r p : Nat) (hp : p < 4) : mfrN N r 4 400 1600 25 (4 * r + p) = N 23 r := by rw [mfrN_at, if_neg (by omega), if_pos (by omega)]
theorem fr_26 (N : Nat → Nat → Nat) (r q : Nat) (hp : q < 400) : mfrN N r 4 400 1600 26 (400 * r + q) = 0 := by rw [mfrN_at, if_neg (by omega), if_neg (by omega), if_pos (by omega)]
theorem fr_27 (N : Nat → Nat → Nat) (r q : Nat) (hp : q < 400) : mfrN N r 4 400 1600 27 (400 * r + q) = 0 := by rw [mfrN_at, if_neg (by omega), if_neg (by omega), if_pos (by omega)]
theorem fr_28 (N : Nat → Nat → Nat) (r q : Nat) (hp : q < 1600) : mfrN N r 4 400 1600 28 (1600 * r + q) = 0 := by rw [mfrN_at, if_neg (by omega), if_neg (by omega), if_neg (by omega), if_pos (by omega)]
theorem fr_x (N : Nat → Nat → Nat) (r r' : Nat) (h : ¬ r' = r) : mfrN N r 4 400 1600 24 r' = N 24 r' ∧ (∀ p, p < 4 → mfrN N r 4 400 1600 25 (4 * r' + p) = N 25 (4 * r' + p)) ∧ (∀ q, q < 400 → mfrN N r 4 400 1600 26 (400 * r' + q) = N 26 (400 * r' + q) ∧ mfrN N r 4 400 1600 27 (400 * r' + q) = N 27 (400 * r' + q)) ∧ ∀ q, q < 1600 → mfrN N r 4 400 1600 28 (1600 * r' + q) = N 28 (1600 * r' + q) := by
  refine ⟨?_, fun p hp => ?_, fun q hq => ⟨?_, ?_⟩, fun q hq => ?_⟩ <;> rw [mfrN_at, if_neg (by omega), if_neg (by omega), if_neg (by omega), if_neg (by omega)]
theorem fr_win (N : Nat → Nat → Nat) (V : Nat → Nat → Int32) (r p : Nat) (hp : p < 4) : mwin (mfrN N r 4 400 1600) (mfrV V r 12) r p = [] := by
  unfold mwin
  rw [fr_24, fr_25 N r p hp, mpre_0]
  rfl
theorem fresh_inv {P k : Nat} {X N : Nat → Nat → Nat} {V : Nat → Nat → Int32} (h : inv P k X N V) {r : Nat} (hr : r < 2) : inv P k X (mfrN N r 4 400 1600) (mfrV V r 12) := by
  obtain ⟨ha, hb, hc, hd, he⟩ := h
  have hP := ha.2.2.2.1
  refine ⟨iA_of ha (fun j q => ?_) (fr_o N r 0 (by omega)) (fun q => fr_o N r q (by omega)), iB_of hb (fr_o N r _ (by omega)) (fun q => fr_o N r q (by omega)) (fun q => fr_o N r q (by omega)) (fun q => fr_o N r q (by omega)) (fun s _ => by rw [fr_o N r s (by omega)]; exact Nat.le_refl _) (fun q => by rw [mfrV_at, if_neg (by omega)]) (fun q => by rw [mfrV_at, if_neg (by omega)]) (fun q => by rw [mfrV_at, if_neg (by omega)]), iC_of hc (Nat.le_refl _) (fun j q _ _ => fr_o N r q (by omega)), ⟨?_, ?_⟩, fun r' hr' => ?_⟩
  · have z := ha.1 j q
    have z2 := ha.1 23 r
    rw [mfrN_at]
    split
    · exact z2
    · split
      · exact z2
      · split
        · omega
        · split
          · omega
          · exact z
  · rw [fr_o N r 16 (by omega), mund_of (fr_o N r 0 (by omega)) (fun q => fr_o N r q (by omega)), mund_of (fr_o N r 1 (by omega)) (fun q => fr_o N r q (by omega))]
    exact hd.1
  · refine mal_of (N := N) (mal_mono hd.2 (mwf_mono ?_ ?_ ?_ ?_ ?_ ?_ ?_)) (fr_o N r _ (by omega)) (fun j q _ _ => fr_o N r q (by omega))
    · intro s _; rw [fr_o N r _ (by omega)]; exact Nat.le_refl _
    · intro s _; rw [fr_o N r _ (by omega)]; exact Nat.le_refl _
    · intro a _ q; rw [fr_o N r _ (by omega)]; exact q
    · rw [fr_o N r _ (by omega)]; exact Nat.le_refl _
    · exact fr_o N r _ (by omega)
    · intro r _ q; rw [fr_o N _ _ (by omega)]; exact q
    · intro a w _ _; rfl
  · obtain ⟨e1, e2, e3, e4, e5⟩ := he r' hr'
    refine ⟨fun q => by rw [fr_o N r q (by omega)]; exact e1 q, fun a ha q => ?_, by rw [fr_line, fr_o N r _ (by omega)]; exact e3, fun p hp => ?_, fun p hp => ?_⟩
    · rw [fr_o N r _ (by omega)] at q ⊢
      exact e2 a ha q
    · rw [fr_line]
      by_cases g : r' = r
      · subst g
        rw [fr_24, fr_25 _ _ _ hp]
        exact ⟨Nat.le_refl _, e3⟩
      · rw [(fr_x N r r' g).1, (fr_x N r r' g).2.1 p hp]
        exact e4 p hp
    · by_cases g : r' = r
      · subst g
        refine ⟨by rw [fr_win _ _ _ _ (by omega)]; exact Nat.zero_le _, fun t ht => ?_⟩
        rw [Nat.add_assoc, fr_26 N r' _ (by omega), fr_27 N r' _ (by omega)]
        exact ⟨by omega, by omega, fun z => by omega⟩
      · have x := fr_x N r r' g
        refine iP_of [] (e5 p hp) hb.1 (by rw [List.append_nil, fr_line]) x.1 (x.2.1 p (by omega)) (e4 p (by omega)).2 (fun t ht => ?_) (fun t ht => ?_)
        · rw [Nat.add_assoc]; exact (x.2.2.1 _ (by omega)).1
        · rw [Nat.add_assoc]; exact (x.2.2.1 _ (by omega)).2
theorem agr_cbg (ρ : zs_S) (v n w : Nat) (h : w < v ∨ w = v ∨ w = v + 1 ∨ w = v + 2 ∨ w = v + 3 ∨ w = v + 5 ∨ w = v + 6 ∨ w = v + 7 ∨ v + 8 + 4 * n ≤ w) : agr (cbg ρ v n) ρ w := ⟨rfl, fun q => by rw [cbg_I, if_neg (by omega), if_neg (by omega), if_neg (by omega), if_neg (by omega)], fun _ => rfl⟩
theorem fresh_rel {P M k : Nat} {X : Nat → Nat → Nat} {C : Nat → Nat} {W : Nat → Nat → Nat} {ρ : zs_S} {N : Nat → Nat → Nat} {V : Nat → Nat → Int32} (hi : inv P k X N V) (hr : rel P M C W ρ N V) {r : Nat} (h2 : r < 2) : rel P M C W (cbg ρ (crv P r) P) (mfrN N r 4 400 1600) (mfrV V r 12) := by
  have hP := hi.1.2.2.2.1
  have hb4 := inv_b4 hi
  have hv := crv_le (P := P) (r := r) hP h2
  obtain ⟨⟨h1, hM, hn⟩, h3, h4, h5, h6, h7, h8, h9, h10⟩ := hr
  have ag : ∀ w, (w < crv P r ∨ crv P r + 8 + 4 * P ≤ w) → agr (cbg ρ (crv P r) P) ρ w := fun w hw => agr_cbg ρ _ _ _ (by omega)
  have e02 := fr_o N r (j := 0) 2 (by omega)
  have bb : ∀ k, mbat (mfrN N r 4 400 1600) (mfrV V r 12) k (mfrN N r 4 400 1600 0 2) = mbat N V k (N 0 2) := by
    intro k
    unfold mbat
    rw [e02]
    refine List.filter_congr (fun t _ => ?_)
    rw [mfrV_at, if_neg (by omega), fr_o N r _ (by omega)]
  refine ⟨⟨csb_of (fun w _ => rfl) ((ag 0 (by omega)).2.1 0) (fun w q _ => rfl) h1, hM, hn⟩, cdn_of h3 (ag 1 (by omega)) (fun x _ => fr_o N r _ (by omega)), by rw [(ag 0 (by omega)).2.1, e02]; exact h4, fun t ht => ?_, fun s hs => ⟨?_, fun e he => ?_⟩, ?_, fun l hl => rL_of (h8 l hl) (ag _ (by omega)) (ag _ (by omega)) (fun q => fr_o N r q (by omega)) (fun q => fr_o N r q (by omega)), ?_, fun r' hr' => ?_⟩
  · rw [e02] at ht
    have tt := h5 t ht
    have := tt.2.1
    exact rT_of tt (Nat.le_refl _) rfl (ag _ (by omega)) (fr_o N r _ (by omega)) (fr_o N r _ (by omega)) (fr_o N r _ (by omega)) (by rw [mfrV_at, if_neg (by omega)]) (by rw [mfrV_at, if_neg (by omega)]) (by rw [mfrV_at, if_neg (by omega)]) (Or.inl rfl)
  · exact rQ_of (h6 s hs).1 (ag _ (by omega)) (ag _ (by omega)) (mbl_of e02 (fun q => fr_o N r q (by omega)) (fun q => by rw [mfrV_at, if_neg (by omega)])) (fr_o N r _ (by omega)) (fr_o N r _ (by omega))
  · rw [fr_o N r _ (by omega)] at he
    have ss := (h6 s hs).2 e he
    have := ss.2.1
    exact rS_of ss (Nat.le_refl _) rfl (ag _ (by omega)) (ag _ (by omega)) (ag _ (by omega)) (bb _) (fr_o N r _ (by omega)) (fr_o N r _ (by omega)) (fr_o N r _ (by omega))
  · intro s e s' e' a b c d
    rw [fr_o N r _ (by omega)] at c d
    exact h7 s e s' e' a b c d
  · rw [mpl_of (N := N) (fr_o N r _ (by omega)) (fun i _ => ⟨mcode_of (fun m _ _ => fr_o N r _ (by omega)), fr_o N r _ (by omega)⟩)]
    exact cpl_of h9 (ag 3 (by omega)) (ag 4 (by omega)) (ag 5 (by omega))
  · by_cases g : r' = r
    · subst g
      obtain ⟨⟨b1, b2, b3, ⟨s0, c1, c2, c3, c4⟩, b5, b6, b7⟩, rp⟩ := h10 r' hr'
      have a0 := agr_cbg ρ (crv P r') P (crv P r') (by omega)
      have a1 := agr_cbg ρ (crv P r') P (crv P r' + 1) (by omega)
      have a2 := agr_cbg ρ (crv P r') P (crv P r' + 2) (by omega)
      have a3 := agr_cbg ρ (crv P r') P (crv P r' + 3) (by omega)
      have a5 := agr_cbg ρ (crv P r') P (crv P r' + 5) (by omega)
      have a6 := agr_cbg ρ (crv P r') P (crv P r' + 6) (by omega)
      refine ⟨⟨fun k hk => by rw [a1.2.2, fr_o N r' _ (by omega)]; exact b1 k hk, by rw [a0.2.1, fr_line]; exact b2, fun i t z => by rw [fr_line] at z; rw [a2.2.2]; exact b3 i t z, ⟨s0, by rw [a0.2.1]; exact c1, c2, fun k hk => by rw [fr_o N r' _ (by omega)]; exact c3 k hk, by rw [fr_o N r' _ (by omega)]; exact c4⟩, by rw [a0.2.1, fr_o N r' _ (by omega)]; exact b5, fun k hk => ⟨by rw [a3.2.1, mfrV_at, if_neg (by omega)]; exact (b6 k hk).1, ?_⟩, fun t ht => ⟨by rw [a5.2.1, mfrV_at, if_neg (by omega)]; exact (b7 t ht).1, fun z => ?_⟩⟩, fun p hp => ?_⟩
      · rw [cbg_I, if_pos rfl, if_pos hk, mfrV_at, if_pos (by omega)]
        exact (b6 k hk).1
      · rw [a6.2.1, mfrV_at, if_neg (by omega)]
        refine (b7 t ht).2 (fun q => ?_)
        have := z (by rw [e02]; exact q)
        rw [fr_o N r' _ (by omega)] at this
        exact this
      · obtain ⟨d1, d2, d3, d4, d5⟩ := rp p hp
        refine ⟨?_, ?_, ?_, ?_, ?_⟩
        · rw [cbg_I, if_neg (by omega), if_neg (by omega), if_neg (by omega), if_neg (by omega)]
          exact d1
        · rw [cbg_I, if_neg (by omega), if_pos ⟨by omega, by omega, by omega, rfl⟩, fr_25 _ _ _ (by omega)]
          exact b5
        · rw [cbg_I, if_neg (by omega), if_neg (by omega), if_pos ⟨by omega, by omega, by omega, rfl⟩, fr_win _ _ _ _ (by omega)]
          rfl
        · intro j t z
          rw [fr_win _ _ _ _ (by omega)] at z
          simp at z
        · intro t ht
          rw [cbg_I, if_neg (by omega), if_neg (by omega), if_neg (by omega), if_pos ⟨by omega, by omega, by omega, ht⟩]
          refine ((kset_0 _).mpr (fun k hk => ?_)).symm
          have hm : k % P < 4 := by have := Nat.mod_lt k hi.1.2.2.1; omega
          rw [show 16 * (100 * r' + t) + 4 * (k % P) + p = 1600 * r' + (16 * t + 4 * (k % P) + p) by omega, fr_28 N r' _ (by omega)]
          rfl
    · have x := fr_x N r r' g
      have hv' := crv_le (P := P) (r := r') hP hr'
      have hne : crv P r' + 8 + 4 * P ≤ crv P r ∨ crv P r + 8 + 4 * P ≤ crv P r' := by
        unfold crv
        rcases (show (r = 0 ∧ r' = 1) ∨ (r = 1 ∧ r' = 0) by omega) with ⟨rfl, rfl⟩ | ⟨rfl, rfl⟩ <;> simp <;> omega
      refine ⟨rR_of (h10 r' hr').1 (fun j hj => ag _ (by omega)) (fr_line N V r r') e02 (fun q => fr_o N r q (by omega)) (fun q => fr_o N r q (by omega)) (fr_o N r _ (by omega)) (fun k hk => by rw [mfrV_at, if_neg (by omega)]) (fun k hk => by rw [mfrV_at, if_neg (by omega)]) (fun k hk => by rw [mfrV_at, if_neg (by omega)]) (fun k hk => by rw [mfrV_at, if_neg (by omega)]), fun p hp => ?_⟩
      obtain ⟨d1, d2, d3, d4, d5⟩ := (h10 r' hr').2 p hp
      have hw : mwin (mfrN N r 4 400 1600) (mfrV V r 12) r' p = mwin N V r' p := mwin_congr [] (by rw [List.append_nil]; exact fr_line N V r r') x.1 (x.2.1 p (by omega)) (hb4 r' p hr' hp) (fun t ht => by rw [Nat.add_assoc]; exact (x.2.2.1 _ (by have := hi.2.1.1; omega)).2)
      refine ⟨by rw [(ag _ (by omega)).2.1]; exact d1, by rw [(ag _ (by omega)).2.1, x.2.1 p (by omega)]; exact d2, by rw [(ag _ (by omega)).2.1, hw]; exact d3, fun j t z => ?_, fun t ht => ?_⟩
      · rw [hw] at z
        have ht := win_t hi (List.mem_of_getElem? z)
        have e26 : mfrN N r 4 400 1600 26 (400 * r' + 100 * p + t) = N 26 (400 * r' + 100 * p + t) := by
          rw [Nat.add_assoc]; exact (x.2.2.1 _ (by have := hi.2.1.1; omega)).1
        rw [(ag _ (by omega)).2.2, (ag _ (by omega)).2.1, e26]
        exact d4 j t z
      · rw [(ag _ (by omega)).2.1, d5 t ht]
        apply kset_ext
        intro k hk
        have hm : k % P < 4 := by have := Nat.mod_lt k hi.1.2.2.1; omega
        rw [show 16 * (100 * r' + t) + 4 * (k % P) + p = 1600 * r' + (16 * t + 4 * (k % P) + p) by omega, x.2.2.2 _ (by omega)]
