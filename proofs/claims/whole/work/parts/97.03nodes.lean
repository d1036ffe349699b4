/-! Nodes go down and come up; messages are dropped. -/
def agd (τ ρ : zs_S) : Prop := zs_n τ = zs_n ρ ∧ zs_K τ = zs_K ρ ∧ zs_R τ = zs_R ρ ∧ ∀ w q, (w = 0 ∨ w = 2 ∨ 5 < w) → zs_I τ w q = zs_I ρ w q
def nod (N' N : Nat → Nat → Nat) : Prop := ∀ j q, ¬ (15 ≤ j ∧ j ≤ 19) → ¬ j = 1 → ¬ (j = 0 ∧ q = 16) → N' j q = N j q
theorem rel_dp {P M : Nat} {C : Nat → Nat} {W : Nat → Nat → Nat} {τ ρ : zs_S} {N N' : Nat → Nat → Nat} {V : Nat → Nat → Int32} (hP : P ≤ 4) (hb4 : ∀ r p, r < 2 → p < P → N 25 (4 * r + p) ≤ (mline N V r).length) (h : rel P M C W ρ N V) (g : nod N' N) (a : agd τ ρ) (hd : cdn τ (N' 1)) (hc : cpl τ (mpl N')) : rel P M C W τ N' V := by
  obtain ⟨⟨h1, hM, h2⟩, h3, h4, h5, h6, h7, h8, h9, h10⟩ := h
  have e02 : N' 0 2 = N 0 2 := g 0 2 (by omega) (by omega) (by omega)
  have hl : ∀ r, mline N' V r = mline N V r := fun r => mline_of e02 (fun q => g 6 q (by omega) (by omega) (by omega)) (fun q => g 11 q (by omega) (by omega) (by omega)) (fun q => g 20 q (by omega) (by omega) (by omega)) (fun _ => rfl)
  have ag : ∀ w, (w = 0 ∨ w = 2 ∨ 5 < w) → agr τ ρ w := fun w hw => ⟨by rw [a.2.1], fun q => a.2.2.2 w q hw, fun q => by rw [a.2.2.1]⟩
  have hn : zs_n ρ ≤ zs_n τ := by rw [a.1]; exact Nat.le_refl _
  refine ⟨⟨csb_of (fun w _ => by rw [a.2.1]) ((ag 0 (by omega)).2.1 0) (fun w q _ => by rw [a.2.2.1]) h1, hM, by omega⟩, hd, by rw [e02, (ag 0 (by omega)).2.1]; exact h4, fun t ht => ?_, fun s hs => ⟨rQ_of (h6 s hs).1 (ag _ (by omega)) (ag _ (by omega)) (mbl_of e02 (fun q => g 6 q (by omega) (by omega) (by omega)) (fun _ => rfl)) (g 8 s (by omega) (by omega) (by omega)) (g 9 s (by omega) (by omega) (by omega)), fun e he => ?_⟩, ?_, fun l hl' => rL_of (h8 l hl') (ag _ (by omega)) (ag _ (by omega)) (fun q => g 13 q (by omega) (by omega) (by omega)) (fun q => g 14 q (by omega) (by omega) (by omega)), hc, fun r hr => ⟨?_, fun p hp => ?_⟩⟩
  · have tt := h5 t (by omega)
    have := tt.2.1
    exact rT_of tt hn (by rw [a.2.2.1]) (ag _ (by omega)) (g 2 t (by omega) (by omega) (by omega)) (g 3 t (by omega) (by omega) (by omega)) (g 6 t (by omega) (by omega) (by omega)) rfl rfl rfl (Or.inl rfl)
  · rw [g 8 s (by omega) (by omega) (by omega)] at he
    have ss := (h6 s hs).2 e he
    have := ss.2.1
    refine rS_of ss hn (by rw [a.2.2.1]) (ag _ (by omega)) (ag _ (by omega)) (ag _ (by omega)) ?_ (g 10 _ (by omega) (by omega) (by omega)) (g 11 _ (by omega) (by omega) (by omega)) (g 12 _ (by omega) (by omega) (by omega))
    unfold mbat
    simp only [e02, fun q => g 6 q (by omega) (by omega) (by omega)]
  · intro s e s' e' a b c d
    rw [g 8 s (by omega) (by omega) (by omega)] at c
    rw [g 8 s' (by omega) (by omega) (by omega)] at d
    exact h7 s e s' e' a b c d
  · have hv := crv_le (P := P) (r := r) hP hr
    exact rR_of (h10 r hr).1 (fun j _ => ag _ (by omega)) (hl r) e02 (fun q => g 2 q (by omega) (by omega) (by omega)) (fun q => g 20 q (by omega) (by omega) (by omega)) (g 23 r (by omega) (by omega) (by omega)) (fun _ _ => rfl) (fun _ _ => rfl) (fun _ _ => rfl) (fun _ _ => rfl)
  · have hv := crv_le (P := P) (r := r) hP hr
    exact rP_of ((h10 r hr).2 p hp) (fun j _ => ag _ (by omega)) (mwin_congr [] (by rw [List.append_nil]; exact hl r) (g 24 r (by omega) (by omega) (by omega)) (g 25 _ (by omega) (by omega) (by omega)) (hb4 r p hr hp) (fun t _ => g 27 _ (by omega) (by omega) (by omega))) (g 25 _ (by omega) (by omega) (by omega)) (fun t => g 26 _ (by omega) (by omega) (by omega)) (fun q => g 28 q (by omega) (by omega) (by omega))
theorem inv_b4 {P k : Nat} {X N : Nat → Nat → Nat} {V : Nat → Nat → Int32} (h : inv P k X N V) : ∀ r p, r < 2 → p < P → N 25 (4 * r + p) ≤ (mline N V r).length := fun r p hr hp => ((h.2.2.2.2 r hr).2.2.2.1 p (by have := h.1.2.2.2.1; omega)).2
theorem inv_dp {P k : Nat} {X N N' : Nat → Nat → Nat} {V : Nat → Nat → Int32} (h : inv P k X N V) (g : nod N' N) (hl : ∀ j q, N' j q < 100000) (hd : ∀ x, x < 7 → N' 1 x < 2) (hu : N' 0 16 ≤ N 0 16) (hm : mal N' (mwf X N')) : inv P k X N' V := by
  obtain ⟨ha, hb, hc, hd', he⟩ := h
  refine ⟨⟨hl, by rw [g 0 0 (by omega) (by omega) (by omega)]; exact ha.2.1, ha.2.2.1, ha.2.2.2.1, hd⟩, iB_of hb (g 0 2 (by omega) (by omega) (by omega)) (fun q => g 2 q (by omega) (by omega) (by omega)) (fun q => g 3 q (by omega) (by omega) (by omega)) (fun q => g 6 q (by omega) (by omega) (by omega)) (fun s _ => by rw [g 8 s (by omega) (by omega) (by omega)]; exact Nat.le_refl _) (fun _ => rfl) (fun _ => rfl) (fun _ => rfl), iC_of hc (Nat.le_refl _) (fun j q _ _ => g j q (by omega) (by omega) (by omega)), ⟨?_, hm⟩, fun r hr => ?_⟩
  · rw [mund_of (g 8 0 (by omega) (by omega) (by omega)) (fun q => g 11 q (by omega) (by omega) (by omega)), mund_of (g 8 1 (by omega) (by omega) (by omega)) (fun q => g 11 q (by omega) (by omega) (by omega))]
    have := hd'.1
    omega
  · exact iE_of (he r hr) hb.1 ha.2.2.2.1 (mline_of (g 0 2 (by omega) (by omega) (by omega)) (fun q => g 6 q (by omega) (by omega) (by omega)) (fun q => g 11 q (by omega) (by omega) (by omega)) (fun q => g 20 q (by omega) (by omega) (by omega)) (fun _ => rfl)) (fun a _ q => by rw [g 11 a (by omega) (by omega) (by omega)]; exact q) (fun j q hj => g j q (by omega) (by omega) (by omega))
theorem agd_pI (ρ : zs_S) (x : Nat) (d : Int32) : agd (zs_pI ρ 1 x d) ρ := ⟨rfl, rfl, rfl, fun w q hw => zx_I_ne _ _ _ _ (by omega) _⟩
theorem nod_up (N : Nat → Nat → Nat) (x d : Nat) : nod (zup N 1 x d) N := fun j q _ b _ => by rw [zup_at, if_neg (by omega)]
theorem cdn_up {ρ : zs_S} {N : Nat → Nat → Nat} (h : cdn ρ (N 1)) (x d : Nat) (hd : d < 2) : cdn (zs_pI ρ 1 x (nI d)) (zup N 1 x d 1) := by
  intro y hy
  rw [zx_I_pI, zup_at]
  by_cases e : y = x
  · rw [if_pos ⟨rfl, e⟩, if_pos ⟨rfl, e⟩]; exact ⟨rfl, hd⟩
  · rw [if_neg (by omega), if_neg (by omega)]; exact h y hy
theorem up_rel {P M k : Nat} {X : Nat → Nat → Nat} {C : Nat → Nat} {W : Nat → Nat → Nat} {ρ : zs_S} {N : Nat → Nat → Nat} {V : Nat → Nat → Int32} (hi : inv P k X N V) (hr : rel P M C W ρ N V) (x d : Nat) (hd : d < 2) : rel P M C W (zs_pI ρ 1 x (nI d)) (zup N 1 x d) V := by
  refine rel_dp hi.1.2.2.2.1 (inv_b4 hi) hr (nod_up N x d) (agd_pI ρ x _) (cdn_up hr.2.1 x d hd) ?_
  rw [mpl_of (N := N) (N' := zup N 1 x d) (by rw [zup_at, if_neg (by omega)]) (fun i _ => ⟨mcode_of (fun m _ _ => by rw [zup_at, if_neg (by omega)]), by rw [zup_at, if_neg (by omega)]⟩)]
  have a := hr.2.2.2.2.2.2.2.1
  exact ⟨by rw [zx_I_ne _ _ _ _ (by omega)]; exact a.1, fun i c x g => by rw [zx_I_ne _ _ _ _ (by omega), zx_I_ne _ _ _ _ (by omega)]; exact a.2 i c x g⟩
theorem up_inv {P k : Nat} {X N : Nat → Nat → Nat} {V : Nat → Nat → Int32} (h : inv P k X N V) (x d : Nat) (hd : d < 2) (hx : x < 5 ∨ d = 0) : inv P k X (zup N 1 x d) V := by
  refine inv_dp h (nod_up N x d) (zh_up h.1.1 (by omega) 1 x) (fun y hy => ?_) (by rw [zup_at, if_neg (by omega)]; exact Nat.le_refl _) (mal_of (N := N) (mal_mono h.2.2.2.1.2 (mwf_mono ?_ ?_ ?_ ?_ ?_ ?_ ?_)) (by rw [zup_at, if_neg (by omega)]) (fun j q _ _ => by rw [zup_at, if_neg (by omega)]))
  · rw [zup_at]; split
    · exact hd
    · exact h.1.2.2.2.2 y hy
  · intro s _; rw [zup_at, if_neg (by omega)]; exact Nat.le_refl _
  · intro s _; rw [zup_at, if_neg (by omega)]; exact Nat.le_refl _
  · intro a _ q; rw [zup_at, if_neg (by omega)]; exact q
  · rw [zup_at, if_neg (by omega)]; exact Nat.le_refl _
  · rw [zup_at, if_neg (by omega)]
  · intro r _ q; rw [zup_at]; split
    · rcases hx with hx | hx <;> omega
    · exact q
  · intro a w _ _; rfl
/-- the parts of a message's code -/
theorem mcode_parts {X N : Nat → Nat → Nat} {i : Nat} (hT : N 0 2 ≤ 100) (hP : N 0 0 ≤ 4) (h : mwf X N (N 15 i) (N 17 i) (N 18 i) (N 16 i) (N 19 i)) : mcode N i / 1000000 = N 15 i ∧ mcode N i < 2 ^ 31 ∧ (¬ N 15 i = 4 → mcode N i / 100000 % 10 = N 18 i / 20 ∧ mcode N i / 1000 % 100 = N 18 i % 20 ∧ mcode N i / 10 % 100 = N 17 i ∧ mcode N i % 10 = N 16 i) ∧ (N 15 i = 4 → mcode N i / 100000 % 10 = N 17 i ∧ mcode N i / 1000 % 100 = N 18 i ∧ mcode N i / 10 % 100 = N 16 i / 4 ∧ mcode N i % 10 = N 16 i % 4) := by
  unfold mcode
  rcases h with ⟨a1, a2, a3, a4, a5, a6⟩ | ⟨a1, a2, a3, a4, a5, a6⟩ | ⟨a1, a2, a3, a4, a5, a6⟩ | ⟨a1, a2, a3, a4, a5, a6⟩
  · rw [if_neg (by omega)]
    refine ⟨by omega, by omega, fun _ => ⟨by omega, by omega, by omega, by omega⟩, fun z => by omega⟩
  · rw [if_neg (by omega)]
    refine ⟨by omega, by omega, fun _ => ⟨by omega, by omega, by omega, by omega⟩, fun z => by omega⟩
  · rw [if_neg (by omega)]
    refine ⟨by omega, by omega, fun _ => ⟨by omega, by omega, by omega, by omega⟩, fun z => by omega⟩
  · rw [if_pos a1]
    refine ⟨by omega, by omega, fun z => by omega, fun _ => ⟨by omega, by omega, by omega, by omega⟩⟩
theorem inv_code {P k : Nat} {X N : Nat → Nat → Nat} {V : Nat → Nat → Int32} (h : inv P k X N V) {i : Nat} (hi : i < N 0 16) : mcode N i / 1000000 = N 15 i ∧ mcode N i < 2 ^ 31 ∧ (¬ N 15 i = 4 → mcode N i / 100000 % 10 = N 18 i / 20 ∧ mcode N i / 1000 % 100 = N 18 i % 20 ∧ mcode N i / 10 % 100 = N 17 i ∧ mcode N i % 10 = N 16 i) ∧ (N 15 i = 4 → mcode N i / 100000 % 10 = N 17 i ∧ mcode N i / 1000 % 100 = N 18 i ∧ mcode N i / 10 % 100 = N 16 i / 4 ∧ mcode N i % 10 = N 16 i % 4) := mcode_parts h.2.1.1 (by rw [h.1.2.1]; exact h.1.2.2.2.1) (h.2.2.2.1.2 i hi)
theorem st_drop {P M k : Nat} {ρ : zs_S} {Q1 : zs_Q} (x : Int32) (h : st P M k ρ) (hQ : stq P M k (fun τ Q2 => zw_Md_drop [.ref M, .int x] τ Q2) Q1) : zw_SB_drop [.ref 0, .int x] ρ Q1 := by
  obtain ⟨X, C, W, N, V, hi, hr, hm⟩ := h
  have hu := inv_u hi
  by_cases g : ∃ n, n < N 0 16 ∧ x = nI n
  · obtain ⟨i, hn, rfl⟩ := g
    have cc := inv_code hi hn
    refine cl_drop_in P (N 0 16) i (mcode N i) ρ Q1 hr.1.1 (rel_u hr) (by omega) hn (rel_m hr i hn).1 cc.2.1 (fun q => ?_) (fun q => ?_)
    · refine hQ _ _ (fun Q2 h3 => ?_)
      refine ⟨N, V, hm, ?_⟩
      show zw_Md_drop [.ref M, .int (nI i)] (md M _ N V) Q2
      exact mo_drop_in _ _ _ _ _ hi.1.1 (by omega) i hn (fun _ => h3 _ (st_id hi hr)) (fun z => absurd (cc.1.symm.trans q) z)
    · refine hQ _ _ (fun Q2 h3 => ?_)
      have hm' := mdb_agp hm (rel_M hr) (agp_ctake ρ (N 0 16) i (N 0 16 - 1))
      refine ⟨N, V, hm', ?_⟩
      show zw_Md_drop [.ref M, .int (nI i)] (md M _ N V) Q2
      exact mo_drop_in _ _ _ _ _ hi.1.1 (by omega) i hn (fun z => absurd (cc.1.trans z) q) (fun _ => h3 _ (st_mk (inv_k (take_inv hi hn)) (take_rel hi hr hn)))
  · rw [cl_drop_out P (N 0 16) x ρ Q1 hr.1.1 (rel_u hr) (by omega) g]
    refine hQ _ _ (fun Q2 h3 => ?_)
    refine ⟨N, V, hm, ?_⟩
    show zw_Md_drop [.ref M, .int x] (md M _ N V) Q2
    rw [mo_drop_out _ _ _ _ _ hi.1.1 (by omega) x g]
    exact h3 _ (st_id hi hr)
