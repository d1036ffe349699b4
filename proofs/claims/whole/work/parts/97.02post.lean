/-! Steps that change the messages alone. -/
def agp (τ ρ : zs_S) : Prop := zs_n τ = zs_n ρ ∧ zs_K τ = zs_K ρ ∧ zs_R τ = zs_R ρ ∧ ∀ w q, (w < 3 ∨ 5 < w) → zs_I τ w q = zs_I ρ w q
theorem agp_csnd (ρ : zs_S) (u : Nat) (L : List (Nat × Nat)) : agp (csnd ρ u L) ρ := ⟨rfl, rfl, rfl, fun w q hw => csnd_o _ _ _ _ _ (by omega) (by omega) (by omega)⟩
theorem agp_ctake (ρ : zs_S) (u i k : Nat) : agp (ctake ρ u i k) ρ := ⟨rfl, rfl, rfl, fun w q hw => by rw [ctake_I, if_neg (by omega), if_neg (by omega), if_neg (by omega)]⟩
theorem agp_agr {τ ρ : zs_S} (h : agp τ ρ) {w : Nat} (hw : w < 3 ∨ 5 < w) : agr τ ρ w := ⟨by rw [h.2.1], fun q => h.2.2.2 w q hw, fun q => by rw [h.2.2.1]⟩
/-- N' is N but for the messages -/
def nop (N' N : Nat → Nat → Nat) : Prop := ∀ j q, ¬ (15 ≤ j ∧ j ≤ 19) → ¬ (j = 0 ∧ q = 16) → N' j q = N j q
theorem post_inv {P k : Nat} {X N N' : Nat → Nat → Nat} {V : Nat → Nat → Int32} (h : inv P k X N V) (g : nop N' N) (hl : ∀ j q, N' j q < 100000) (hu : N' 0 16 + mund N 0 + mund N 1 ≤ 63) (hm : mal N' (mwf X N)) : inv P k X N' V := by
  obtain ⟨ha, hb, hc, hd, he⟩ := h
  refine ⟨iA_of ha hl (g 0 0 (by omega) (by omega)) (fun q => g 1 q (by omega) (by omega)), iB_of hb (g 0 2 (by omega) (by omega)) (fun q => g 2 q (by omega) (by omega)) (fun q => g 3 q (by omega) (by omega)) (fun q => g 6 q (by omega) (by omega)) (fun s _ => by rw [g 8 s (by omega) (by omega)]; exact Nat.le_refl _) (fun _ => rfl) (fun _ => rfl) (fun _ => rfl), iC_of hc (Nat.le_refl _) (fun j q _ _ => g j q (by omega) (by omega)), ⟨?_, ?_⟩, fun r hr => ?_⟩
  · rw [mund_of (g 8 0 (by omega) (by omega)) (fun q => g 11 q (by omega) (by omega)), mund_of (g 8 1 (by omega) (by omega)) (fun q => g 11 q (by omega) (by omega))]
    exact hu
  · refine mal_mono hm (mwf_mono ?_ ?_ ?_ ?_ ?_ ?_ ?_)
    · intro s _; rw [g 8 s (by omega) (by omega)]; exact Nat.le_refl _
    · intro s _; rw [g 9 s (by omega) (by omega)]; exact Nat.le_refl _
    · intro a _ q; rw [g 11 a (by omega) (by omega)]; exact q
    · rw [g 0 2 (by omega) (by omega)]; exact Nat.le_refl _
    · exact g 0 0 (by omega) (by omega)
    · intro r _ q; rw [g 1 _ (by omega) (by omega)]; exact q
    · intro a w _ _; rfl
  · exact iE_of (he r hr) hb.1 ha.2.2.2.1 (mline_of (g 0 2 (by omega) (by omega)) (fun q => g 6 q (by omega) (by omega)) (fun q => g 11 q (by omega) (by omega)) (fun q => g 20 q (by omega) (by omega)) (fun _ => rfl)) (fun a _ q => by rw [g 11 a (by omega) (by omega)]; exact q) (fun j q hj => g j q (by omega) (by omega))
theorem post_rel {P M k : Nat} {X : Nat → Nat → Nat} {C : Nat → Nat} {W : Nat → Nat → Nat} {τ ρ : zs_S} {N N' : Nat → Nat → Nat} {V : Nat → Nat → Int32} (hi : inv P k X N V) (h : rel P M C W ρ N V) (g : nop N' N) (a : agp τ ρ) (hc : cpl τ (mpl N')) : rel P M C W τ N' V := by
  obtain ⟨⟨h1, hM, h2⟩, h3, h4, h5, h6, h7, h8, h9, h10⟩ := h
  have e02 : N' 0 2 = N 0 2 := g 0 2 (by omega) (by omega)
  have hl : ∀ r, mline N' V r = mline N V r := fun r => mline_of e02 (fun q => g 6 q (by omega) (by omega)) (fun q => g 11 q (by omega) (by omega)) (fun q => g 20 q (by omega) (by omega)) (fun _ => rfl)
  have ag : ∀ w, (w < 3 ∨ 5 < w) → agr τ ρ w := fun w hw => agp_agr a hw
  have hn : zs_n ρ ≤ zs_n τ := by rw [a.1]; exact Nat.le_refl _
  refine ⟨⟨csb_of (fun w _ => by rw [a.2.1]) ((ag 0 (by omega)).2.1 0) (fun w q _ => by rw [a.2.2.1]) h1, hM, by omega⟩, cdn_of h3 (ag 1 (by omega)) (fun x _ => g 1 x (by omega) (by omega)), by rw [e02, (ag 0 (by omega)).2.1]; exact h4, fun t ht => ?_, fun s hs => ⟨rQ_of (h6 s hs).1 (ag _ (by omega)) (ag _ (by omega)) (mbl_of e02 (fun q => g 6 q (by omega) (by omega)) (fun _ => rfl)) (g 8 s (by omega) (by omega)) (g 9 s (by omega) (by omega)), fun e he => ?_⟩, ?_, fun l hl' => rL_of (h8 l hl') (ag _ (by omega)) (ag _ (by omega)) (fun q => g 13 q (by omega) (by omega)) (fun q => g 14 q (by omega) (by omega)), hc, fun r hr => ⟨?_, fun p hp => ?_⟩⟩
  · have tt := h5 t (by omega)
    have := tt.2.1
    exact rT_of tt hn (by rw [a.2.2.1]) (ag _ (by omega)) (g 2 t (by omega) (by omega)) (g 3 t (by omega) (by omega)) (g 6 t (by omega) (by omega)) rfl rfl rfl (Or.inl rfl)
  · rw [g 8 s (by omega) (by omega)] at he
    have ss := (h6 s hs).2 e he
    have := ss.2.1
    refine rS_of ss hn (by rw [a.2.2.1]) (ag _ (by omega)) (ag _ (by omega)) (ag _ (by omega)) ?_ (g 10 _ (by omega) (by omega)) (g 11 _ (by omega) (by omega)) (g 12 _ (by omega) (by omega))
    unfold mbat
    simp only [e02, fun q => g 6 q (by omega) (by omega)]
  · intro s e s' e' a b c d
    rw [g 8 s (by omega) (by omega)] at c
    rw [g 8 s' (by omega) (by omega)] at d
    exact h7 s e s' e' a b c d
  · have hv := crv_le (P := P) (r := r) hi.1.2.2.2.1 hr
    exact rR_of (h10 r hr).1 (fun j _ => ag _ (by omega)) (hl r) e02 (fun q => g 2 q (by omega) (by omega)) (fun q => g 20 q (by omega) (by omega)) (g 23 r (by omega) (by omega)) (fun _ _ => rfl) (fun _ _ => rfl) (fun _ _ => rfl) (fun _ _ => rfl)
  · have e4 := ((hi.2.2.2.2 r hr).2.2.2.1 p (by have := hi.1.2.2.2.1; omega)).2
    have hv := crv_le (P := P) (r := r) hi.1.2.2.2.1 hr
    exact rP_of ((h10 r hr).2 p hp) (fun j _ => ag _ (by omega)) (mwin_congr [] (by rw [List.append_nil]; exact hl r) (g 24 r (by omega) (by omega)) (g 25 _ (by omega) (by omega)) e4 (fun t _ => g 27 _ (by omega) (by omega))) (g 25 _ (by omega) (by omega)) (fun t => g 26 _ (by omega) (by omega)) (fun q => g 28 q (by omega) (by omega))
theorem mdb_agp {M : Nat} {τ ρ : zs_S} {N : Nat → Nat → Nat} {V : Nat → Nat → Int32} (h : mdb M ρ N V) (hM : 6 ≤ M) (a : agp τ ρ) : mdb M τ N V := mdb_of h (fun w _ _ => by rw [a.2.1]) (fun w q h1 _ => a.2.2.2 w q (by omega)) (fun q => by rw [a.2.2.1])
/-- a message is taken out -/
theorem take_inv {P k : Nat} {X N : Nat → Nat → Nat} {V : Nat → Nat → Int32} (h : inv P k X N V) {i : Nat} (hi : i < N 0 16) : inv P k X (mtake N i) V := by
  refine post_inv h (fun j q a b => mtake_o N i q a b) (mtake_lt h.1.1 i) ?_ (mal_take h.2.2.2.1.2 i)
  have := h.2.2.2.1.1
  rw [mtake_u]
  omega
theorem take_rel {P M k : Nat} {X : Nat → Nat → Nat} {C : Nat → Nat} {W : Nat → Nat → Nat} {ρ : zs_S} {N : Nat → Nat → Nat} {V : Nat → Nat → Int32} (h : inv P k X N V) (hr : rel P M C W ρ N V) {i : Nat} (hi : i < N 0 16) : rel P M C W (ctake ρ (N 0 16) i (N 0 16 - 1)) (mtake N i) V := by
  refine post_rel h hr (fun j q a b => mtake_o N i q a b) (agp_ctake _ _ _ _) ?_
  rw [mtake_mpl N i hi]
  have := ctake_cpl ρ (mpl N) i (by rw [mpl_len]; exact hi) hr.2.2.2.2.2.2.2.1
  rw [mpl_len] at this
  exact this
/-- messages are sent -/
theorem send_rel {P M k : Nat} {X : Nat → Nat → Nat} {C : Nat → Nat} {W : Nat → Nat → Nat} {ρ : zs_S} {N N' : Nat → Nat → Nat} {V : Nat → Nat → Int32} (h : inv P k X N V) (hr : rel P M C W ρ N V) (g : nop N' N) (L : List (Nat × Nat)) (hL : mpl N' = mpl N ++ L) : rel P M C W (csnd ρ (N 0 16) L) N' V := by
  refine post_rel h hr g (agp_csnd _ _ _) ?_
  rw [hL]
  have := csnd_cpl ρ (mpl N) L hr.2.2.2.2.2.2.2.1
  rw [mpl_len] at this
  exact this
theorem und_le {P k : Nat} {X N : Nat → Nat → Nat} {V : Nat → Nat → Int32} (h : inv P k X N V) : mund N 0 + mund N 1 ≤ 6 := by
  have a := (h.2.2.1.1 0 (by omega)).2.2.2
  have b := (h.2.2.1.1 1 (by omega)).2.2.2
  omega
/-- STOREs of a slot are sent -/
theorem spread_step {P M k : Nat} {X : Nat → Nat → Nat} {C : Nat → Nat} {W : Nat → Nat → Nat} {ρ : zs_S} {N : Nat → Nat → Nat} {V : Nat → Nat → Int32} (h : inv P k X N V) (hr : rel P M C W ρ N V) {a : Nat} (ha : a < 40) (he : a % 20 < N 8 (a / 20)) (hu : N 0 16 ≤ 51) : inv P k X (mspread N a) V ∧ rel P M C W (csnd ρ (N 0 16) (cstl (a / 20) (a % 20) (N 10 a) (N 9 (a / 20)) (fun l => N 12 a / 2 ^ l % 2) 3)) (mspread N a) V := by
  have g : nop (mspread N a) N := fun j q a b => mspread_o N _ q a b
  have is := h.2.2.1.2.1 a ha
  have hs := h.2.2.1.1 (a / 20) (by omega)
  refine ⟨post_inv h g (mspread_lt h.1.1 ha (by omega)) ?_ (mal_spread h.2.2.2.1.2 a (fun l hl => Or.inl ⟨rfl, hl, ha, he, is.1, hs.1, Nat.le_refl _, is.2.2.2.2.1.symm⟩)), send_rel h hr g _ (mspread_mpl N a)⟩
  have := mspread_u N a
  have := und_le h
  omega
theorem mtell_lt {N : Nat → Nat → Nat} (hN : ∀ j k, N j k < 100000) {a : Nat} (ha : a < 40) (hu : N 0 16 < 900) : ∀ j q, mtell N a j q < 100000 := by
  unfold mtell
  have := hN 11 a
  exact mpost_lt (mpost_lt hN (by omega) (by omega) (by omega) (by omega) (by omega) (by omega)) (by omega) (by omega) (by omega) (by omega) (by omega) (by rw [mpost_u]; omega)
/-- CLOSEDs of a slot are sent -/
theorem tell_step {P M k : Nat} {X : Nat → Nat → Nat} {C : Nat → Nat} {W : Nat → Nat → Nat} {ρ : zs_S} {N : Nat → Nat → Nat} {V : Nat → Nat → Int32} (h : inv P k X N V) (hr : rel P M C W ρ N V) {a : Nat} (ha : a < 40) (hd : ¬ N 11 a = 0) (hu : N 0 16 + 2 + mund N 0 + mund N 1 ≤ 63) : inv P k X (mtell N a) V ∧ rel P M C W (csnd ρ (N 0 16) [(1000000 * 3 + 100000 * (a / 20) + 1000 * (a % 20) + 10 * 0 + N 10 a, 0), (1000000 * 3 + 100000 * (a / 20) + 1000 * (a % 20) + 10 * 1 + N 10 a, 0)]) (mtell N a) V := by
  have g : nop (mtell N a) N := fun j q a b => mtell_o N _ q a b
  have is := h.2.2.1.2.1 a ha
  have e : N 11 a - 1 = N 10 a := by rcases is.2.2.1 with z | z <;> omega
  have e1 := is.1
  refine ⟨post_inv h g (mtell_lt h.1.1 ha (by omega)) ?_ (mal_tell h.2.2.2.1.2 a (fun r hr => Or.inr (Or.inr (Or.inl ⟨rfl, hr, ha, hd, by omega, rfl⟩)))), send_rel h hr g _ ?_⟩
  · rw [mtell_u]; exact hu
  · rw [mtell_mpl, e]
theorem cstl_len (s e x v : Nat) (a : Nat) : (cstl s e x v (fun l => a / 2 ^ l % 2) 3).length = msent a := by
  rw [cstl_s, cstl_s, cstl_s, List.length_append, List.length_append, List.length_append]
  unfold msent
  have e0 : cstl s e x v (fun l => a / 2 ^ l % 2) 0 = [] := rfl
  rw [e0]
  simp only [Nat.pow_zero, Nat.div_one, Nat.pow_one, List.length_nil, Nat.zero_add, show (2 : Nat) ^ 2 = 4 by decide]
  congr 1
  · congr 1 <;> (split <;> rfl)
  · split <;> rfl
theorem rel_M {P M : Nat} {C : Nat → Nat} {W : Nat → Nat → Nat} {ρ : zs_S} {N : Nat → Nat → Nat} {V : Nat → Nat → Int32} (h : rel P M C W ρ N V) : 6 ≤ M := by have := h.1.2.1; omega
theorem st_resend {P M k : Nat} {ρ : zs_S} {Q1 : zs_Q} (x y : Int32) (h : st P M k ρ) (hQ : stq P M k (fun τ Q2 => zw_Md_resend [.ref M, .int x, .int y] τ Q2) Q1) : zw_SB_resend [.ref 0, .int x, .int y] ρ Q1 := by
  obtain ⟨X, C, W, N, V, hi, hr, hm⟩ := h
  have hu := inv_u hi
  by_cases g : (∃ n, n < 2 ∧ x = nI n ∧ N 1 (3 + n) = 0 ∧ ∃ e, e < N 8 n ∧ y = nI e) ∧ ¬ 48 < N 0 16
  · obtain ⟨⟨s, h2, rfl, hup, e, he, rfl⟩, gu⟩ := g
    have h8 := (hi.2.2.1.1 s h2).2.2.1
    have rq := hr.2.2.2.2.1 s h2
    have ss := rq.2 e he
    have is := hi.2.2.1.2.1 (20 * s + e) (by omega)
    have e1 : (20 * s + e) / 20 = s := by omega
    have e2 : (20 * s + e) % 20 = e := by omega
    have hb : ∀ l, l < 3 → zs_I ρ (W s e + 1) l = nI (N 12 (20 * s + e) / 2 ^ l % 2) ∧ N 12 (20 * s + e) / 2 ^ l % 2 < 2 := fun l hl => ⟨ss.2.2.2.2.2.2.2.2.2.2.1 l hl, Nat.mod_lt _ (by decide)⟩
    refine cl_resend_in P s e (W s e) (W s e + 1) (N 10 (20 * s + e)) (N 9 s) (N 0 16) (N 8 s) (if N 11 (20 * s + e) = 0 then 0 else 1) (fun l => N 12 (20 * s + e) / 2 ^ l % 2) (N 1) ρ Q1 hr.1.1 hr.2.1 h2 hup rq.1.2.1 h8 he ss.1 ss.2.2.2.1 ss.2.2.2.2.2.2.2.1 ss.2.2.2.2.1 hb ss.2.2.2.2.2.2.2.2.1 is.1 ss.2.2.2.2.2.2.2.2.2.1 (by split <;> omega) rq.1.2.2.1 (rel_u hr) gu (fun q => ?_) (fun q => ?_)
    · have hd : N 11 (20 * s + e) = 0 := by
        apply Classical.byContradiction
        intro z
        rw [if_neg z] at q
        omega
      obtain ⟨p1, p2⟩ := spread_step hi hr (a := 20 * s + e) (by omega) (by rw [e1, e2]; exact he) (by omega)
      rw [e1, e2] at p2
      refine hQ _ _ (fun Q2 h3 => ?_)
      have hm' := mdb_agp hm (rel_M hr) (agp_csnd ρ (N 0 16) (cstl s e (N 10 (20 * s + e)) (N 9 s) (fun l => N 12 (20 * s + e) / 2 ^ l % 2) 3))
      refine ⟨N, V, hm', ?_⟩
      show zw_Md_resend [.ref M, .int (nI s), .int (nI e)] (md M _ N V) Q2
      refine mo_resend_in _ _ _ _ _ hi.1.1 s e h2 hup gu he h8 is.2.1 is.1 (fun _ => ?_) (fun z => absurd hd z)
      rw [← cstl_len s e (N 10 (20 * s + e)) (N 9 s)]
      exact h3 _ (st_mk (inv_k p1) p2)
    · have hd : ¬ N 11 (20 * s + e) = 0 := by
        intro z
        rw [if_pos z] at q
        omega
      have := und_le hi
      obtain ⟨p1, p2⟩ := tell_step hi hr (a := 20 * s + e) (by omega) hd (by omega)
      rw [e1, e2] at p2
      refine hQ _ _ (fun Q2 h3 => ?_)
      have hm' := mdb_agp hm (rel_M hr) (agp_csnd ρ (N 0 16) [(1000000 * 3 + 100000 * s + 1000 * e + 10 * 0 + N 10 (20 * s + e), 0), (1000000 * 3 + 100000 * s + 1000 * e + 10 * 1 + N 10 (20 * s + e), 0)])
      refine ⟨N, V, hm', ?_⟩
      show zw_Md_resend [.ref M, .int (nI s), .int (nI e)] (md M _ N V) Q2
      exact mo_resend_in _ _ _ _ _ hi.1.1 s e h2 hup gu he h8 is.2.1 is.1 (fun z => absurd z hd) (fun _ => h3 _ (st_mk (inv_k p1) p2))
  · rw [cl_resend_out P (N 0 16) x y (N 1) (N 8) ρ Q1 hr.1.1 hr.2.1 (rel_u hr) (by omega) (fun s hs => ⟨(hr.2.2.2.2.1 s hs).1.2.1, (hi.2.2.1.1 s hs).2.2.1⟩) g]
    refine hQ _ _ (fun Q2 h3 => ?_)
    refine ⟨N, V, hm, ?_⟩
    show zw_Md_resend [.ref M, .int x, .int y] (md M _ N V) Q2
    rw [mo_resend_out _ _ _ _ _ hi.1.1 x y g]
    exact h3 _ (st_id hi hr)
