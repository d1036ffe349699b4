/-! A step of both: what a call must show. -/
def st (P M k : Nat) (ρ : zs_S) : Prop := ∃ X C W N V, inv P k X N V ∧ rel P M C W ρ N V ∧ mdb M ρ N V
def stq (P M k : Nat) (mw : zs_S → zs_Q → Prop) (Q1 : zs_Q) : Prop := ∀ i τ, (∀ Q2 : zs_Q, (∀ ρ', st P M (k + 1) ρ' → Q2 (some (.int i)) ρ') → ∃ N V, mdb M τ N V ∧ mw (md M τ N V) Q2) → Q1 (some (.int i)) τ
theorem inv_k {P k : Nat} {X N : Nat → Nat → Nat} {V : Nat → Nat → Int32} (h : inv P k X N V) : inv P (k + 1) X N V := ⟨h.1, h.2.1, iC_of h.2.2.1 (by omega) (fun _ _ _ _ => rfl), h.2.2.2⟩
theorem st_mk {P M k : Nat} {X : Nat → Nat → Nat} {C : Nat → Nat} {W : Nat → Nat → Nat} {τ : zs_S} {N : Nat → Nat → Nat} {V : Nat → Nat → Int32} (hi : inv P k X N V) (hr : rel P M C W τ N V) : st P M k (md M τ N V) := ⟨X, C, W, N, V, hi, rel_md hr, mdb_md M τ N V⟩
theorem inv_like {P k : Nat} {X N N' : Nat → Nat → Nat} {V : Nat → Nat → Int32} (h : inv P k X N V) (hm : mlike N N') : inv P k X N' V := by
  obtain ⟨ha, hb, hc, hd, he⟩ := h
  have g : ∀ j q, ¬ j = 31 → ¬ (j = 0 ∧ q = 34) → N' j q = N j q := hm.1
  refine ⟨iA_of ha hm.2 (g 0 0 (by omega) (by omega)) (fun q => g 1 q (by omega) (by omega)), iB_of hb (g 0 2 (by omega) (by omega)) (fun q => g 2 q (by omega) (by omega)) (fun q => g 3 q (by omega) (by omega)) (fun q => g 6 q (by omega) (by omega)) (fun s _ => by rw [g 8 s (by omega) (by omega)]; exact Nat.le_refl _) (fun _ => rfl) (fun _ => rfl) (fun _ => rfl), iC_of hc (Nat.le_refl _) (fun j q _ _ => g j q (by omega) (by omega)), ⟨?_, ?_⟩, fun r hr => ?_⟩
  · rw [g 0 16 (by omega) (by omega), mund_of (g 8 0 (by omega) (by omega)) (fun q => g 11 q (by omega) (by omega)), mund_of (g 8 1 (by omega) (by omega)) (fun q => g 11 q (by omega) (by omega))]
    exact hd.1
  · refine mal_of (mal_mono hd.2 (mwf_mono ?_ ?_ ?_ ?_ ?_ ?_ ?_)) (g 0 16 (by omega) (by omega)) (fun j q _ _ => g j q (by omega) (by omega))
    · intro s _; rw [g 8 s (by omega) (by omega)]; exact Nat.le_refl _
    · intro s _; rw [g 9 s (by omega) (by omega)]; exact Nat.le_refl _
    · intro a _ q; rw [g 11 a (by omega) (by omega)]; exact q
    · rw [g 0 2 (by omega) (by omega)]; exact Nat.le_refl _
    · exact g 0 0 (by omega) (by omega)
    · intro r _ q; rw [g 1 _ (by omega) (by omega)]; exact q
    · intro a w _ _; rfl
  · exact iE_of (he r hr) hb.1 ha.2.2.2.1 (mline_of (g 0 2 (by omega) (by omega)) (fun q => g 6 q (by omega) (by omega)) (fun q => g 11 q (by omega) (by omega)) (fun q => g 20 q (by omega) (by omega)) (fun _ => rfl)) (fun a _ q => by rw [g 11 a (by omega) (by omega)]; exact q) (fun j q hj => g j q (by omega) (by omega))
theorem rel_like {P M k : Nat} {X : Nat → Nat → Nat} {C : Nat → Nat} {W : Nat → Nat → Nat} {ρ : zs_S} {N N' : Nat → Nat → Nat} {V : Nat → Nat → Int32} (hi : inv P k X N V) (h : rel P M C W ρ N V) (hm : mlike N N') : rel P M C W ρ N' V := by
  obtain ⟨h1, h3, h4, h5, h6, h7, h8, h9, h10⟩ := h
  have g : ∀ j q, ¬ j = 31 → ¬ (j = 0 ∧ q = 34) → N' j q = N j q := hm.1
  have e02 : N' 0 2 = N 0 2 := g 0 2 (by omega) (by omega)
  have hl : ∀ r, mline N' V r = mline N V r := fun r => mline_of e02 (fun q => g 6 q (by omega) (by omega)) (fun q => g 11 q (by omega) (by omega)) (fun q => g 20 q (by omega) (by omega)) (fun _ => rfl)
  refine ⟨h1, cdn_of h3 (agr_rfl ρ 1) (fun x _ => g 1 x (by omega) (by omega)), by rw [e02]; exact h4, fun t ht => rT_of (h5 t (by omega)) (Nat.le_refl _) rfl (agr_rfl ρ _) (g 2 t (by omega) (by omega)) (g 3 t (by omega) (by omega)) (g 6 t (by omega) (by omega)) rfl rfl rfl (Or.inl rfl), fun s hs => ⟨rQ_of (h6 s hs).1 (agr_rfl ρ _) (agr_rfl ρ _) (mbl_of e02 (fun q => g 6 q (by omega) (by omega)) (fun _ => rfl)) (g 8 s (by omega) (by omega)) (g 9 s (by omega) (by omega)), fun e he => ?_⟩, ?_, fun l hl' => rL_of (h8 l hl') (agr_rfl ρ _) (agr_rfl ρ _) (fun q => g 13 q (by omega) (by omega)) (fun q => g 14 q (by omega) (by omega)), ?_, fun r hr => ⟨?_, fun p hp => ?_⟩⟩
  · rw [g 8 s (by omega) (by omega)] at he
    refine rS_of ((h6 s hs).2 e he) (Nat.le_refl _) rfl (agr_rfl ρ _) (agr_rfl ρ _) (agr_rfl ρ _) ?_ (g 10 _ (by omega) (by omega)) (g 11 _ (by omega) (by omega)) (g 12 _ (by omega) (by omega))
    unfold mbat
    simp only [e02, fun q => g 6 q (by omega) (by omega)]
  · intro s e s' e' a b c d
    rw [g 8 s (by omega) (by omega)] at c
    rw [g 8 s' (by omega) (by omega)] at d
    exact h7 s e s' e' a b c d
  · rw [mpl_of (g 0 16 (by omega) (by omega)) (fun i _ => ⟨mcode_of (fun m _ _ => g m i (by omega) (by omega)), g 19 i (by omega) (by omega)⟩)]
    exact h9
  · exact rR_of (h10 r hr).1 (fun j _ => agr_rfl ρ _) (hl r) e02 (fun q => g 2 q (by omega) (by omega)) (fun q => g 20 q (by omega) (by omega)) (g 23 r (by omega) (by omega)) (fun _ _ => rfl) (fun _ _ => rfl) (fun _ _ => rfl) (fun _ _ => rfl)
  · have e4 := ((hi.2.2.2.2 r hr).2.2.2.1 p (by have := hi.1.2.2.2.1; omega)).2
    exact rP_of ((h10 r hr).2 p hp) (fun j _ => agr_rfl ρ _) (mwin_congr [] (by rw [List.append_nil]; exact hl r) (g 24 r (by omega) (by omega)) (g 25 _ (by omega) (by omega)) e4 (fun t _ => g 27 _ (by omega) (by omega))) (g 25 _ (by omega) (by omega)) (fun t => g 26 _ (by omega) (by omega)) (fun q => g 28 q (by omega) (by omega))
theorem st_lk {P M k : Nat} {X : Nat → Nat → Nat} {C : Nat → Nat} {W : Nat → Nat → Nat} {ρ : zs_S} {N N' : Nat → Nat → Nat} {V : Nat → Nat → Int32} (hi : inv P k X N V) (hr : rel P M C W ρ N V) (hm : mlike N N') : st P M (k + 1) (md M ρ N' V) := st_mk (inv_k (inv_like hi hm)) (rel_like hi hr hm)
theorem st_id {P M k : Nat} {X : Nat → Nat → Nat} {C : Nat → Nat} {W : Nat → Nat → Nat} {ρ : zs_S} {N : Nat → Nat → Nat} {V : Nat → Nat → Int32} (hi : inv P k X N V) (hr : rel P M C W ρ N V) : st P M (k + 1) (md M ρ N V) := st_mk (inv_k hi) hr
/-! Calls that only read. -/
theorem st_messages {P M k : Nat} {ρ : zs_S} {Q1 : zs_Q} (h : st P M k ρ) (hQ : stq P M k (fun τ Q2 => zw_Md_messages [.ref M] τ Q2) Q1) : zw_SB_messages [.ref 0] ρ Q1 := by
  obtain ⟨X, C, W, N, V, hi, hr, hm⟩ := h
  rw [cl_messages P ρ Q1 hr.1.1]
  refine hQ _ _ (fun Q2 h2 => ?_)
  refine ⟨N, V, hm, ?_⟩
  show zw_Md_messages [.ref M] (md M _ N V) Q2
  rw [mo_messages]
  have e : zs_I ρ 3 2 = nI (N 0 16) := by rw [hr.2.2.2.2.2.2.2.1.1, mpl_len]
  rw [e] at h2
  exact h2 _ (st_id hi hr)
theorem inv_u {P k : Nat} {X N : Nat → Nat → Nat} {V : Nat → Nat → Int32} (h : inv P k X N V) : N 0 16 ≤ 63 := by
  have := h.2.2.2.1.1
  omega
theorem rel_u {P M : Nat} {C : Nat → Nat} {W : Nat → Nat → Nat} {ρ : zs_S} {N : Nat → Nat → Nat} {V : Nat → Nat → Int32} (hr : rel P M C W ρ N V) : zs_I ρ 3 2 = nI (N 0 16) := by rw [hr.2.2.2.2.2.2.2.1.1, mpl_len]
theorem rel_m {P M : Nat} {C : Nat → Nat} {W : Nat → Nat → Nat} {ρ : zs_S} {N : Nat → Nat → Nat} {V : Nat → Nat → Int32} (hr : rel P M C W ρ N V) (i : Nat) (h : i < N 0 16) : zs_I ρ 4 i = nI (mcode N i) ∧ zs_I ρ 5 i = nI (N 19 i) := hr.2.2.2.2.2.2.2.1.2 i _ _ (mpl_at N i h)
theorem st_message {P M k : Nat} {ρ : zs_S} {Q1 : zs_Q} (x : Int32) (h : st P M k ρ) (hQ : stq P M k (fun τ Q2 => zw_Md_message [.ref M, .int x] τ Q2) Q1) : zw_SB_message [.ref 0, .int x] ρ Q1 := by
  obtain ⟨X, C, W, N, V, hi, hr, hm⟩ := h
  have hu := inv_u hi
  by_cases g : ∃ n, n < N 0 16 ∧ x = nI n
  · obtain ⟨n, hn, rfl⟩ := g
    rw [cl_message_in P (N 0 16) n ρ Q1 hr.1.1 (rel_u hr) (by omega) hn]
    refine hQ _ _ (fun Q2 h2 => ?_)
    refine ⟨N, V, hm, ?_⟩
    show zw_Md_message [.ref M, .int (nI n)] (md M _ N V) Q2
    rw [mo_message_in _ _ _ _ _ hi.1.1 (by omega) n hn, ← (rel_m hr n hn).1]
    exact h2 _ (st_id hi hr)
  · rw [cl_message_out P (N 0 16) x ρ Q1 hr.1.1 (rel_u hr) (by omega) g]
    refine hQ _ _ (fun Q2 h2 => ?_)
    refine ⟨N, V, hm, ?_⟩
    show zw_Md_message [.ref M, .int x] (md M _ N V) Q2
    rw [mo_message_out _ _ _ _ _ (by omega) x g]
    exact h2 _ (st_id hi hr)
theorem st_value {P M k : Nat} {ρ : zs_S} {Q1 : zs_Q} (x y : Int32) (h : st P M k ρ) (hQ : stq P M k (fun τ Q2 => zw_Md_value [.ref M, .int x, .int y] τ Q2) Q1) : zw_SB_value [.ref 0, .int x, .int y] ρ Q1 := by
  obtain ⟨X, C, W, N, V, hi, hr, hm⟩ := h
  have hP : 0 < N 0 0 := by rw [hi.1.2.1]; exact hi.1.2.2.1
  by_cases g : (∃ n, n < 2 ∧ x = nI n) ∧ ∃ n, n < 12 ∧ y = nI n
  · obtain ⟨⟨r, h2, rfl⟩, ⟨q, hq, rfl⟩⟩ := g
    by_cases gu : N 1 (5 + r) = 0
    · rw [cl_value_in P r q (N 1) ρ Q1 hr.1.1 hr.2.1 h2 hq gu]
      refine hQ _ _ (fun Q2 h3 => ?_)
      refine ⟨N, V, hm, ?_⟩
      show zw_Md_value [.ref M, .int (nI r), .int (nI q)] (md M _ N V) Q2
      rw [mo_value_in _ _ _ _ _ hi.1.1 hP r h2 q hq, if_pos gu, ← ((hr.2.2.2.2.2.2.2.2 r h2).1.2.2.2.2.2.1 q hq).2]
      exact h3 _ (st_id hi hr)
    · rw [cl_value_out P (nI r) (nI q) (N 1) ρ Q1 hr.1.1 hr.2.1 (by
        rintro ⟨⟨r', a, b, c⟩, _⟩
        rw [nI_eq (by omega) (by omega)] at b
        subst b
        exact gu c)]
      refine hQ _ _ (fun Q2 h3 => ?_)
      refine ⟨N, V, hm, ?_⟩
      show zw_Md_value [.ref M, .int (nI r), .int (nI q)] (md M _ N V) Q2
      rw [mo_value_in _ _ _ _ _ hi.1.1 hP r h2 q hq, if_neg gu]
      exact h3 _ (st_id hi hr)
  · rw [cl_value_out P x y (N 1) ρ Q1 hr.1.1 hr.2.1 (fun ⟨⟨r, a, b, _⟩, c⟩ => g ⟨⟨r, a, b⟩, c⟩)]
    refine hQ _ _ (fun Q2 h3 => ?_)
    refine ⟨N, V, hm, ?_⟩
    show zw_Md_value [.ref M, .int x, .int y] (md M _ N V) Q2
    rw [mo_value_out _ _ _ _ _ hi.1.1 hP x y g]
    exact h3 _ (st_id hi hr)
