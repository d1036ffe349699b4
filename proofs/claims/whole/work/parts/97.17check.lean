/-! The calls admits and checkpoint. -/
theorem st_admit {P M k : Nat} {ρ : zs_S} {Q1 : zs_Q} (x y : Int32) (h : st P M k ρ) (hQ : stq P M k (fun τ Q2 => zw_Md_admit [.ref M, .int x, .int y] τ Q2) Q1) : zw_SB_admit [.ref 0, .int x, .int y] ρ Q1 := by
  obtain ⟨X, C, W, N, V, hi, hr, hm⟩ := h
  have hM2 := hr.1.2.1
  have hP := hi.1.2.2.2.1
  have eP := hi.1.2.1
  by_cases g : (∃ n, n < 2 ∧ x = nI n ∧ N 1 (5 + n) = 0) ∧ ∃ n, n < N 0 0 ∧ y = nI n
  · obtain ⟨⟨r, h2, rfl, hup⟩, p, hp, rfl⟩ := g
    rw [eP] at hp
    have ho := mlok_of hi h2
    have rr := (hr.2.2.2.2.2.2.2.2 r h2).1
    have rp := (hr.2.2.2.2.2.2.2.2 r h2).2 p hp
    have ip := (hi.2.2.2.2 r h2).2.2.2.2 p hp
    have hle := ((hi.2.2.2.2 r h2).2.2.2.1 p (by omega)).2
    have hv := crv_le (P := P) (r := r) hP h2
    refine cl_admit_in P r p (N 1) ρ Q1 hr.1.1 hr.2.1 h2 hp hup (fun Q' hQ' => ?_)
    by_cases gn : (mline N V r).length ≤ N 25 (4 * r + p) ∨ (mwin N V r p).length = 10
    · rw [cl_admit_no (crv P r) P p (N 25 (4 * r + p)) (mline N V r).length (mwin N V r p).length ρ Q' (hr.1.1.2.2.2.2.2.2.2.2.2.2.2.2.2.2.2.2.1 r h2).2 hp hP rp.2.1 rr.2.1 rp.2.2.1 ip.1 ho.2.1 (by have := ho.2.1; omega) gn]
      refine hQ' _ _ (hQ _ _ (fun Q2 h3 => ?_))
      refine ⟨N, V, hm, ?_⟩
      show zw_Md_admit [.ref M, .int (nI r), .int (nI p)] (md M _ N V) Q2
      refine mo_admit_in _ _ _ _ _ hi.1.1 r p h2 (by omega) hup ho (fun _ N' hl => h3 _ (st_lk hi hr (mlaid_like hl))) (fun t ht hc N' hl => ?_)
      exfalso
      have := (List.getElem?_eq_some_iff.mp ht).1
      omega
    · have hlt : N 25 (4 * r + p) < (mline N V r).length := by omega
      have hc : (mwin N V r p).length < 10 := by have := ip.1; omega
      have e0 : (mline N V r)[N 25 (4 * r + p)]? = some (mline N V r)[N 25 (4 * r + p)] := List.getElem?_eq_getElem hlt
      generalize (mline N V r)[N 25 (4 * r + p)] = t at e0
      have tt := hr.2.2.2.1 t (line_t hi h2 hp e0).1
      have go : ∀ τ, mdb M τ N V → (∀ N', mlike N N' → rel P M C W τ (madm N' V r p t) V) → Q' (some (.int (nI t))) τ := by
        intro τ hmt hrl
        refine hQ' _ _ (hQ _ _ (fun Q2 h3 => ?_))
        refine ⟨N, V, hmt, ?_⟩
        show zw_Md_admit [.ref M, .int (nI r), .int (nI p)] (md M _ N V) Q2
        refine mo_admit_in _ _ _ _ _ hi.1.1 r p h2 (by omega) hup ho (fun z N' hl => ?_) (fun t' ht' hc' N' hl => ?_)
        · exfalso
          rcases z with z | z
          · rw [e0] at z; simp at z
          · omega
        · rw [e0] at ht'
          simp only [Option.some.injEq] at ht'
          subst ht'
          have lk := mlaid_like hl
          have g' : ∀ j q, ¬ j = 31 → ¬ (j = 0 ∧ q = 34) → N' j q = N j q := lk.1
          have hi' := inv_like hi lk
          have hr' := rel_like hi hr lk
          have el := mlaid_mline hl V r
          have ew := mlaid_win hl V r p
          have st' := adm_step hi' hr' (t := t) h2 hp (by rw [el, g' 25 _ (by omega) (by omega)]; exact e0) (by rw [ew]; exact hc)
          exact h3 _ (st_mk (inv_k st'.1) (hrl N' lk))
      have steps : ∀ N', mlike N N' → (ctp ρ (C t) (zs_I ρ (crv P r + 8 + 4 * p) 0) → rel P M C W (zs_pI (zs_pI (zs_pR (zs_pI ρ (crv P r + 8 + 4 * p) 1 (nI (N 25 (4 * r + p) + 1))) (crv P r + 9 + 4 * p) (mwin N V r p).length (some (C t))) (crv P r + 10 + 4 * p) (mwin N V r p).length (nI 0)) (crv P r + 8 + 4 * p) 4 (nI ((mwin N V r p).length + 1))) (madm N' V r p t) V) ∧ (¬ ctp ρ (C t) (zs_I ρ (crv P r + 8 + 4 * p) 0) → rel P M C W (zs_pI ρ (crv P r + 8 + 4 * p) 1 (nI (N 25 (4 * r + p) + 1))) (madm N' V r p t) V) := by
        intro N' lk
        have g' : ∀ j q, ¬ j = 31 → ¬ (j = 0 ∧ q = 34) → N' j q = N j q := lk.1
        have hi' := inv_like hi lk
        have hr' := rel_like hi hr lk
        have el : mline N' V r = mline N V r := mline_of (g' 0 2 (by omega) (by omega)) (fun q => g' 6 q (by omega) (by omega)) (fun q => g' 11 q (by omega) (by omega)) (fun q => g' 20 q (by omega) (by omega)) (fun _ => rfl)
        have ew : mwin N' V r p = mwin N V r p := mwin_congr [] (by rw [List.append_nil]; exact el) (g' 24 _ (by omega) (by omega)) (g' 25 _ (by omega) (by omega)) hle (fun u _ => g' 27 _ (by omega) (by omega))
        have e25 := g' 25 (4 * r + p) (by omega) (by omega)
        have st' := adm_step hi' hr' (t := t) h2 hp (by rw [el, e25]; exact e0) (by rw [ew]; exact hc)
        rw [ew, e25] at st'
        exact st'.2
      refine cl_admit_yes (crv P r) P p (N 25 (4 * r + p)) (mline N V r).length (mwin N V r p).length (C t) t ρ Q' (hr.1.1.2.2.2.2.2.2.2.2.2.2.2.2.2.2.2.2.1 r h2).2 hp hP rp.2.1 rr.2.1 rp.2.2.1 hc ho.2.1 hlt (rr.2.2.1 _ t e0) tt.2.2.2.1 tt.2.2.2.2.1 (fun z => go _ ?_ (fun N' lk => (steps N' lk).1 z)) (fun z => go _ ?_ (fun N' lk => (steps N' lk).2 z))
      · exact mdb_agw hm (fun w a b => agr_pI (agr_pI (agr_pR (agr_pI (agr_rfl ρ w) _ _ _ (by omega)) _ _ _ (by omega)) _ _ _ (by omega)) _ _ _ (by omega))
      · exact mdb_agw hm (fun w a b => agr_pI (agr_rfl ρ w) _ _ _ (by omega))
  · rw [cl_admit_out P x y (N 1) ρ Q1 hr.1.1 hr.2.1 (by rw [← eP]; exact g)]
    refine hQ _ _ (fun Q2 h3 => ?_)
    refine ⟨N, V, hm, ?_⟩
    show zw_Md_admit [.ref M, .int x, .int y] (md M _ N V) Q2
    rw [mo_admit_out _ _ _ _ _ hi.1.1 x y g]
    exact h3 _ (st_id hi hr)
/-! A checkpoint. -/
theorem chk_step {P M k : Nat} {X : Nat → Nat → Nat} {C : Nat → Nat} {W : Nat → Nat → Nat} {ρ : zs_S} {N : Nat → Nat → Nat} {V : Nat → Nat → Int32} (hi : inv P k X N V) (hr : rel P M C W ρ N V) {r : Nat} (h2 : r < 2) : inv P k X (zup N 23 r (N 25 (4 * r))) (mckV V r 12) ∧ rel P M C W (cckp ρ (crv P r) (N 25 (4 * r))) (zup N 23 r (N 25 (4 * r))) (mckV V r 12) := by
  have hP := hi.1.2.2.2.1
  have hb4 := inv_b4 hi
  have hv := crv_le (P := P) (r := r) hP h2
  have o : ∀ j q, ¬ j = 23 → zup N 23 r (N 25 (4 * r)) j q = N j q := fun j q z => by rw [zup_at, if_neg (by omega)]
  have o23 : ∀ q, zup N 23 r (N 25 (4 * r)) 23 q = if q = r then N 25 (4 * r) else N 23 q := fun q => by
    rw [zup_at]; by_cases z : q = r <;> simp [z]
  have v : ∀ j q, ¬ j = 22 → mckV V r 12 j q = V j q := fun j q z => by rw [mckV_at, if_neg (by omega)]
  have hlt := zh_up hi.1.1 (hi.1.1 25 (4 * r)) 23 r
  have ml : ∀ r', mline (zup N 23 r (N 25 (4 * r))) (mckV V r 12) r' = mline N V r' := fun r' => mline_of (o 0 2 (by omega)) (fun q => o 6 q (by omega)) (fun q => o 11 q (by omega)) (fun q => o 20 q (by omega)) (fun q => v 7 q (by omega))
  generalize zup N 23 r (N 25 (4 * r)) = N' at *
  constructor
  · obtain ⟨iA, hb, hc', hd, he⟩ := hi
    refine ⟨iA_of iA hlt (o 0 0 (by omega)) (fun q => o 1 q (by omega)), iB_of hb (o 0 2 (by omega)) (fun q => o 2 q (by omega)) (fun q => o 3 q (by omega)) (fun q => o 6 q (by omega)) (fun s _ => by rw [o 8 s (by omega)]; exact Nat.le_refl _) (fun q => v _ _ (by omega)) (fun q => v _ _ (by omega)) (fun q => v _ _ (by omega)), iC_of hc' (Nat.le_refl _) (fun j q _ _ => o j q (by omega)), ⟨?_, ?_⟩, fun r' hr' => ?_⟩
    · rw [o 0 16 (by omega), mund_of (N := N) (o 8 _ (by omega)) (fun q => o 11 q (by omega)), mund_of (N := N) (o 8 _ (by omega)) (fun q => o 11 q (by omega))]
      exact hd.1
    · refine mal_of (N := N) (mal_mono hd.2 (mwf_mono ?_ ?_ ?_ ?_ ?_ ?_ ?_)) (o 0 16 (by omega)) (fun j q _ _ => o j q (by omega))
      · intro q _; rw [o 8 _ (by omega)]; exact Nat.le_refl _
      · intro q _; rw [o 9 _ (by omega)]; exact Nat.le_refl _
      · intro a _ q; rw [o 11 _ (by omega)]; exact q
      · rw [o 0 2 (by omega)]; exact Nat.le_refl _
      · exact o 0 0 (by omega)
      · intro r _ q; rw [o 1 _ (by omega)]; exact q
      · intro a w _ _; rfl
    · obtain ⟨e1, e2, e3, e4, e5⟩ := he r' hr'
      refine ⟨fun q => by rw [o 20 _ (by omega)]; exact e1 q, fun a ha z => by rw [o 20 _ (by omega)] at z; rw [o 11 _ (by omega)]; exact e2 a ha z, ?_, fun p' hp' => by rw [o 24 _ (by omega), o 25 _ (by omega), ml]; exact e4 p' hp', fun p' hp' => iP_of [] (e5 p' hp') hb.1 (by rw [List.append_nil]; exact ml r') (o 24 _ (by omega)) (o 25 _ (by omega)) (e4 p' (by omega)).2 (fun u _ => o 26 _ (by omega)) (fun u _ => o 27 _ (by omega))⟩
      rw [o23, ml]
      split
      · rename_i z; subst z; exact (e4 0 (by omega)).2
      · exact e3
  · obtain ⟨⟨h1, hM, hn⟩, h3, h4, h5, h6, h7, h8, h9, h10⟩ := hr
    have ag : ∀ w, ¬ w = crv P r → ¬ w = crv P r + 3 → agr (cckp ρ (crv P r) (N 25 (4 * r))) ρ w := fun w q1 q2 => agr_pI (agr_pF (agr_rfl ρ w) _ _ q2) _ _ _ q1
    have I0 : ∀ q, zs_I (cckp ρ (crv P r) (N 25 (4 * r))) (crv P r) q = if q = 5 then nI (N 25 (4 * r)) else zs_I ρ (crv P r) q := by
      intro q
      unfold cckp
      by_cases z : q = 5
      · rw [z, zx_I_eq, if_pos rfl]
      · rw [zx_I_ek _ _ _ _ _ z, zx_I_pF, if_neg (by omega), if_neg z]
    have I3 : ∀ q, q < 12 → zs_I (cckp ρ (crv P r) (N 25 (4 * r))) (crv P r + 3) q = zs_I ρ (crv P r + 4) q := by
      intro q hq
      unfold cckp
      rw [zx_I_ne _ _ _ _ (by omega), zx_I_pF, if_pos rfl, if_pos hq]
    have bb : ∀ i, mbat N' (mckV V r 12) i (N' 0 2) = mbat N V i (N 0 2) := by
      intro i
      unfold mbat
      simp only [o 0 2 (by omega), fun q => o 6 q (by omega), fun q => v 7 q (by omega)]
    refine ⟨⟨csb_of (σ := ρ) (fun w _ => rfl) ((ag 0 (by omega) (by omega)).2.1 0) (fun w q _ => rfl) h1, hM, hn⟩, cdn_of h3 (ag 1 (by omega) (by omega)) (fun x _ => o 1 x (by omega)), by rw [(ag 0 (by omega) (by omega)).2.1, o 0 2 (by omega)]; exact h4, fun u hu => ?_, fun s hs => ⟨?_, fun e he => ?_⟩, ?_, fun l hl => rL_of (h8 l hl) (ag _ (by omega) (by omega)) (ag _ (by omega) (by omega)) (fun q => o 13 q (by omega)) (fun q => o 14 q (by omega)), ?_, fun r' hr' => ?_⟩
    · rw [o 0 2 (by omega)] at hu
      have tu := h5 u hu
      have := tu.2.1
      exact rT_of tu (Nat.le_refl _) rfl (ag _ (by omega) (by omega)) (o 2 u (by omega)) (o 3 u (by omega)) (o 6 u (by omega)) (v _ _ (by omega)) (v _ _ (by omega)) (v _ _ (by omega)) (Or.inl rfl)
    · exact rQ_of (h6 s hs).1 (ag _ (by omega) (by omega)) (ag _ (by omega) (by omega)) (mbl_of (o 0 2 (by omega)) (fun q => o 6 q (by omega)) (fun q => v 7 q (by omega))) (o 8 _ (by omega)) (o 9 _ (by omega))
    · rw [o 8 _ (by omega)] at he
      have ss := (h6 s hs).2 e he
      have := ss.2.1
      exact rS_of ss (Nat.le_refl _) rfl (ag _ (by omega) (by omega)) (ag _ (by omega) (by omega)) (ag _ (by omega) (by omega)) (bb _) (o 10 _ (by omega)) (o 11 _ (by omega)) (o 12 _ (by omega))
    · intro s e s' e' a b c d
      rw [o 8 _ (by omega)] at c d
      exact h7 s e s' e' a b c d
    · rw [mpl_of (N := N) (o 0 16 (by omega)) (fun i _ => ⟨mcode_of (fun m _ _ => o _ _ (by omega)), o _ _ (by omega)⟩)]
      exact cpl_of h9 (ag 3 (by omega) (by omega)) (ag 4 (by omega) (by omega)) (ag 5 (by omega) (by omega))
    · have hv' := crv_le (P := P) (r := r') hP hr'
      have hw : ∀ p', p' < P → mwin N' (mckV V r 12) r' p' = mwin N V r' p' := fun p' hp' => mwin_congr [] (by rw [List.append_nil]; exact ml r') (o 24 _ (by omega)) (o 25 _ (by omega)) (hb4 r' p' hr' hp') (fun u _ => o 27 _ (by omega))
      by_cases g : r' = r
      · subst g
        obtain ⟨⟨b1, b2, b3, ⟨s0, c1, c2, c3, c4⟩, b5, b6, b7⟩, rp⟩ := h10 r' hr'
        have aj : ∀ j, 0 < j → ¬ j = 3 → agr (cckp ρ (crv P r') (N 25 (4 * r'))) ρ (crv P r' + j) := fun j z1 z2 => ag _ (by omega) (by omega)
        refine ⟨⟨fun k hk => by rw [(aj 1 (by omega) (by omega)).2.2, o 20 _ (by omega)]; exact b1 k hk, by rw [I0, if_neg (by omega), ml]; exact b2, fun i u z => by rw [ml] at z; rw [(aj 2 (by omega) (by omega)).2.2]; exact b3 i u z, ⟨s0, by rw [I0, if_neg (by omega)]; exact c1, c2, fun k hk => by rw [o 20 _ (by omega)]; exact c3 k hk, by rw [o 20 _ (by omega)]; exact c4⟩, by rw [I0, if_pos rfl, o23, if_pos rfl], fun k hk => ⟨by rw [I3 k hk, mckV_at, if_pos (by omega)]; exact (b6 k hk).2, by rw [(aj 4 (by omega) (by omega)).2.1, v 21 _ (by omega)]; exact (b6 k hk).2⟩, fun u hu => ⟨by rw [(aj 5 (by omega) (by omega)).2.1, v 29 _ (by omega)]; exact (b7 u hu).1, fun z => ?_⟩⟩, fun p' hp' => rP_of (rp p' hp') (fun j hj => ag _ (by omega) (by omega)) (hw p' hp') (o 25 _ (by omega)) (fun u => o 26 _ (by omega)) (fun q => o 28 q (by omega))⟩
        rw [(aj 6 (by omega) (by omega)).2.1, v 30 _ (by omega)]
        refine (b7 u hu).2 (fun q => ?_)
        have := z (by rw [o 0 2 (by omega)]; exact q)
        rw [o 2 _ (by omega)] at this
        exact this
      · have hne : crv P r' + 8 + 4 * P ≤ crv P r ∨ crv P r + 8 + 4 * P ≤ crv P r' := by
          unfold crv
          rcases (show (r = 0 ∧ r' = 1) ∨ (r = 1 ∧ r' = 0) by omega) with ⟨rfl, rfl⟩ | ⟨rfl, rfl⟩ <;> simp <;> omega
        exact ⟨rR_of (h10 r' hr').1 (fun j hj => ag _ (by omega) (by omega)) (ml r') (o 0 2 (by omega)) (fun q => o 2 q (by omega)) (fun q => o 20 q (by omega)) (by rw [o23, if_neg g]) (fun i hi => v _ _ (by omega)) (fun i hi => by rw [mckV_at, if_neg (by omega)]) (fun i hi => v _ _ (by omega)) (fun i hi => v _ _ (by omega)), fun p' hp' => rP_of ((h10 r' hr').2 p' hp') (fun j hj => ag _ (by omega) (by omega)) (hw p' hp') (o 25 _ (by omega)) (fun u => o 26 _ (by omega)) (fun q => o 28 q (by omega))⟩
theorem st_checkpoint {P M k : Nat} {ρ : zs_S} {Q1 : zs_Q} (x : Int32) (h : st P M k ρ) (hQ : stq P M k (fun τ Q2 => zw_Md_checkpoint [.ref M, .int x] τ Q2) Q1) : zw_SB_checkpoint [.ref 0, .int x] ρ Q1 := by
  obtain ⟨X, C, W, N, V, hi, hr, hm⟩ := h
  have hM2 := hr.1.2.1
  have hP := hi.1.2.2.2.1
  have hP0 := hi.1.2.2.1
  have eP := hi.1.2.1
  by_cases g : ∃ n, n < 2 ∧ x = nI n ∧ N 1 (5 + n) = 0
  · obtain ⟨r, h2, rfl, hup⟩ := g
    have ho := mlok_of hi h2
    have hv := crv_le (P := P) (r := r) hP h2
    refine cl_check_in P r (N 1) ρ Q1 hr.1.1 hr.2.1 h2 hup (fun Q' hQ' => ?_)
    refine cl_makeCheckpoint (crv P r) P (fun p => N 25 (4 * r + p)) (fun p => (mwin N V r p).length) ρ Q' (hr.1.1.2.2.2.2.2.2.2.2.2.2.2.2.2.2.2.2.1 r h2).2 hP hP0 (fun p hp => ?_) (fun hc => ?_) (fun hc => ?_)
    · have rp := (hr.2.2.2.2.2.2.2.2 r h2).2 p hp
      exact ⟨rp.2.1, rp.2.2.1, (mwin_len ho (by omega)).2, by have := (ho.2.2.2.2.2 p (by omega)).2; have := ho.2.1; omega⟩
    · refine hQ' _ _ (hQ _ _ (fun Q2 h3 => ?_))
      have hm' : mdb M (cckp ρ (crv P r) (N 25 (4 * r + 0))) N V := mdb_agw hm (fun w a b => agr_pI (agr_pF (agr_rfl ρ w) _ _ (by omega)) _ _ _ (by omega))
      refine ⟨N, V, hm', ?_⟩
      show zw_Md_checkpoint [.ref M, .int (nI r)] (md M _ N V) Q2
      refine mo_check_in _ _ _ _ _ hi.1.1 r h2 hup ho (fun _ N' lk => ?_) (fun z => absurd (fun p hp => hc p (by omega)) z)
      have hi' := inv_like hi lk
      have hr' := rel_like hi hr lk
      have e25 := lk.1 25 (4 * r) (by omega) (by omega)
      have st' := chk_step hi' hr' h2
      rw [e25] at st'
      exact h3 _ (st_mk (inv_k st'.1) st'.2)
    · refine hQ' _ _ (hQ _ _ (fun Q2 h3 => ?_))
      refine ⟨N, V, hm, ?_⟩
      show zw_Md_checkpoint [.ref M, .int (nI r)] (md M _ N V) Q2
      exact mo_check_in _ _ _ _ _ hi.1.1 r h2 hup ho (fun z N' lk => absurd (fun p hp => z p (by omega)) hc) (fun _ N' lk => h3 _ (st_lk hi hr lk))
  · rw [cl_check_out P x (N 1) ρ Q1 hr.1.1 hr.2.1 g]
    refine hQ _ _ (fun Q2 h3 => ?_)
    refine ⟨N, V, hm, ?_⟩
    show zw_Md_checkpoint [.ref M, .int x] (md M _ N V) Q2
    rw [mo_check_out _ _ _ _ _ hi.1.1 (by omega) x g]
    exact h3 _ (st_id hi hr)
