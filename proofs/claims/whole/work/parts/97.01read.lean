/-! More calls that only read. -/
theorem out_up {N : Nat → Nat → Nat} {r : Nat} (hr : r < 2) (gu : ¬ N 1 (5 + r) = 0) {A : Prop} : ¬ ((∃ n, n < 2 ∧ nI r = nI n ∧ N 1 (5 + n) = 0) ∧ A) := by
  rintro ⟨⟨r', a, b, c⟩, _⟩
  rw [nI_eq (by omega) (by omega)] at b
  subst b
  exact gu c
theorem st_admitted {P M k : Nat} {ρ : zs_S} {Q1 : zs_Q} (x y : Int32) (h : st P M k ρ) (hQ : stq P M k (fun τ Q2 => zw_Md_admitted [.ref M, .int x, .int y] τ Q2) Q1) : zw_SB_admitted [.ref 0, .int x, .int y] ρ Q1 := by
  obtain ⟨X, C, W, N, V, hi, hr, hm⟩ := h
  have eP := hi.1.2.1
  have hP4 := hi.1.2.2.2.1
  by_cases g : (∃ n, n < 2 ∧ x = nI n) ∧ ∃ n, n < N 0 0 ∧ y = nI n
  · obtain ⟨⟨r, h2, rfl⟩, ⟨p, hp, rfl⟩⟩ := g
    by_cases gu : N 1 (5 + r) = 0
    · rw [cl_admitted_in P r p (N 1) ρ Q1 hr.1.1 hr.2.1 h2 (by omega) gu]
      refine hQ _ _ (fun Q2 h3 => ?_)
      refine ⟨N, V, hm, ?_⟩
      show zw_Md_admitted [.ref M, .int (nI r), .int (nI p)] (md M _ N V) Q2
      rw [mo_admitted_in _ _ _ _ _ hi.1.1 (by omega) r h2 p hp, if_pos gu, ← ((hr.2.2.2.2.2.2.2.2 r h2).2 p (by omega)).2.1]
      exact h3 _ (st_id hi hr)
    · rw [cl_admitted_out P (nI r) (nI p) (N 1) ρ Q1 hr.1.1 hr.2.1 (out_up h2 gu)]
      refine hQ _ _ (fun Q2 h3 => ?_)
      refine ⟨N, V, hm, ?_⟩
      show zw_Md_admitted [.ref M, .int (nI r), .int (nI p)] (md M _ N V) Q2
      rw [mo_admitted_in _ _ _ _ _ hi.1.1 (by omega) r h2 p hp, if_neg gu]
      exact h3 _ (st_id hi hr)
  · rw [cl_admitted_out P x y (N 1) ρ Q1 hr.1.1 hr.2.1 (fun ⟨⟨r, a, b, _⟩, c⟩ => g ⟨⟨r, a, b⟩, by rw [eP]; exact c⟩)]
    refine hQ _ _ (fun Q2 h3 => ?_)
    refine ⟨N, V, hm, ?_⟩
    show zw_Md_admitted [.ref M, .int x, .int y] (md M _ N V) Q2
    rw [mo_admitted_out _ _ _ _ _ hi.1.1 x y g]
    exact h3 _ (st_id hi hr)
theorem st_finished {P M k : Nat} {ρ : zs_S} {Q1 : zs_Q} (x y : Int32) (h : st P M k ρ) (hQ : stq P M k (fun τ Q2 => zw_Md_finished [.ref M, .int x, .int y] τ Q2) Q1) : zw_SB_finished [.ref 0, .int x, .int y] ρ Q1 := by
  obtain ⟨X, C, W, N, V, hi, hr, hm⟩ := h
  have eP := hi.1.2.1
  have hP4 := hi.1.2.2.2.1
  by_cases g : (∃ n, n < 2 ∧ x = nI n) ∧ ∃ n, n < N 0 0 ∧ y = nI n
  · obtain ⟨⟨r, h2, rfl⟩, ⟨p, hp, rfl⟩⟩ := g
    have ho := mlok_of hi h2
    by_cases gu : N 1 (5 + r) = 0
    · have rp := (hr.2.2.2.2.2.2.2.2 r h2).2 p (by omega)
      rw [cl_finished_in P r p (N 25 (4 * r + p)) (mwin N V r p).length (N 1) ρ Q1 hr.1.1 hr.2.1 h2 (by omega) gu rp.2.2.1 rp.2.1 (mwin_len ho (by omega)).2]
      refine hQ _ _ (fun Q2 h3 => ?_)
      refine ⟨N, V, hm, ?_⟩
      show zw_Md_finished [.ref M, .int (nI r), .int (nI p)] (md M _ N V) Q2
      exact mo_finished_in _ _ _ _ _ hi.1.1 r p h2 hp ho (fun q => absurd gu q) (fun _ N' hl => h3 _ (st_lk hi hr (mlaid_like hl)))
    · rw [cl_finished_out P (nI r) (nI p) (N 1) ρ Q1 hr.1.1 hr.2.1 (out_up h2 gu)]
      refine hQ _ _ (fun Q2 h3 => ?_)
      refine ⟨N, V, hm, ?_⟩
      show zw_Md_finished [.ref M, .int (nI r), .int (nI p)] (md M _ N V) Q2
      exact mo_finished_in _ _ _ _ _ hi.1.1 r p h2 hp ho (fun _ => h3 _ (st_id hi hr)) (fun q => absurd q gu)
  · rw [cl_finished_out P x y (N 1) ρ Q1 hr.1.1 hr.2.1 (fun ⟨⟨r, a, b, _⟩, c⟩ => g ⟨⟨r, a, b⟩, by rw [eP]; exact c⟩)]
    refine hQ _ _ (fun Q2 h3 => ?_)
    refine ⟨N, V, hm, ?_⟩
    show zw_Md_finished [.ref M, .int x, .int y] (md M _ N V) Q2
    rw [mo_finished_out _ _ _ _ _ hi.1.1 x y g]
    exact h3 _ (st_id hi hr)
theorem win_t {P k : Nat} {X N : Nat → Nat → Nat} {V : Nat → Nat → Int32} {r p t : Nat} (_hi : inv P k X N V) (h : t ∈ mwin N V r p) : t < N 0 2 := by
  obtain ⟨j, _, _, hj⟩ := mpre_mem.mp (mwin_mem.mp h).1
  exact (mline_mem (List.mem_of_getElem? hj)).1
theorem rel_cun {P M k : Nat} {X : Nat → Nat → Nat} {C : Nat → Nat} {W : Nat → Nat → Nat} {ρ : zs_S} {N : Nat → Nat → Nat} {V : Nat → Nat → Int32} (hi : inv P k X N V) (hr : rel P M C W ρ N V) {r p : Nat} (h2 : r < 2) (hp : p < P) : cun ρ (crv P r + 9 + 4 * p) (crv P r + 10 + 4 * p) (mwin N V r p).length (fun i => C ((mwin N V r p)[i]?.getD 0)) (fun i => N 26 (400 * r + 100 * p + (mwin N V r p)[i]?.getD 0)) := by
  intro j hj
  have e0 : (mwin N V r p)[j]? = some (mwin N V r p)[j] := List.getElem?_eq_getElem hj
  have rp := ((hr.2.2.2.2.2.2.2.2 r h2).2 p hp).2.2.2.1 j _ e0
  have ht := win_t hi (List.getElem_mem hj)
  have tt := hr.2.2.2.1 _ ht
  have lk := ((hi.2.2.2.2 r h2).2.2.2.2 p hp).2 ((mwin N V r p)[j]) (by have := hi.2.1.1; omega)
  dsimp only
  rw [e0]
  exact ⟨rp.1, tt.2.2.2.1, rp.2, lk.1⟩
theorem rel_sets {P M k : Nat} {X : Nat → Nat → Nat} {C : Nat → Nat} {W : Nat → Nat → Nat} {ρ : zs_S} {N : Nat → Nat → Nat} {V : Nat → Nat → Int32} (hi : inv P k X N V) (hr : rel P M C W ρ N V) {r p : Nat} : ∀ t, t ∈ mwin N V r p → zs_I ρ (C t) 5 = kset (mR N V t) ∧ zs_I ρ (C t) 6 = kset (mW N V t) := by
  intro t ht
  have tt := hr.2.2.2.1 _ (win_t hi ht)
  exact ⟨tt.2.2.2.2.2.2.2.2.2.1, tt.2.2.2.2.2.2.2.2.2.2.1⟩
theorem st_ready {P M k : Nat} {ρ : zs_S} {Q1 : zs_Q} (x y : Int32) (h : st P M k ρ) (hQ : stq P M k (fun τ Q2 => zw_Md_ready [.ref M, .int x, .int y] τ Q2) Q1) : zw_SB_ready [.ref 0, .int x, .int y] ρ Q1 := by
  obtain ⟨X, C, W, N, V, hi, hr, hm⟩ := h
  have eP := hi.1.2.1
  have hP4 := hi.1.2.2.2.1
  by_cases g : (∃ n, n < 2 ∧ x = nI n) ∧ ∃ n, n < N 0 0 ∧ y = nI n
  · obtain ⟨⟨r, h2, rfl⟩, ⟨p, hp, rfl⟩⟩ := g
    have ho := mlok_of hi h2
    by_cases gu : N 1 (5 + r) = 0
    · have rp := (hr.2.2.2.2.2.2.2.2 r h2).2 p (by omega)
      refine cl_ready_in P r p (mwin N V r p).length (N 1) _ _ ρ Q1 hr.1.1 hr.2.1 h2 (by omega) gu rp.2.2.1 ((hi.2.2.2.2 r h2).2.2.2.2 p (by omega)).1 (rel_cun hi hr h2 (by omega)) ?_
      rw [rp.1, mC_congr (mwin N V r p).length (crdy_mri (mwin N V r p) eP (rel_sets hi hr)), ← (mrdl_win N V r p).1]
      refine hQ _ _ (fun Q2 h3 => ?_)
      refine ⟨N, V, hm, ?_⟩
      show zw_Md_ready [.ref M, .int (nI r), .int (nI p)] (md M _ N V) Q2
      exact mo_ready_in _ _ _ _ _ hi.1.1 r p h2 hp ho (fun q => absurd gu q) (fun _ N' hl => h3 _ (st_lk hi hr (mlaid_like hl)))
    · rw [cl_ready_out P (nI r) (nI p) (N 1) ρ Q1 hr.1.1 hr.2.1 (out_up h2 gu)]
      refine hQ _ _ (fun Q2 h3 => ?_)
      refine ⟨N, V, hm, ?_⟩
      show zw_Md_ready [.ref M, .int (nI r), .int (nI p)] (md M _ N V) Q2
      exact mo_ready_in _ _ _ _ _ hi.1.1 r p h2 hp ho (fun _ => h3 _ (st_id hi hr)) (fun q => absurd q gu)
  · rw [cl_ready_out P x y (N 1) ρ Q1 hr.1.1 hr.2.1 (fun ⟨⟨r, a, b, _⟩, c⟩ => g ⟨⟨r, a, b⟩, by rw [eP]; exact c⟩)]
    refine hQ _ _ (fun Q2 h3 => ?_)
    refine ⟨N, V, hm, ?_⟩
    show zw_Md_ready [.ref M, .int x, .int y] (md M _ N V) Q2
    rw [mo_ready_out _ _ _ _ _ hi.1.1 x y g]
    exact h3 _ (st_id hi hr)
theorem st_locks {P M k : Nat} {ρ : zs_S} {Q1 : zs_Q} (x y : Int32) (h : st P M k ρ) (hQ : stq P M k (fun τ Q2 => zw_Md_locks [.ref M, .int x, .int y] τ Q2) Q1) : zw_SB_locks [.ref 0, .int x, .int y] ρ Q1 := by
  obtain ⟨X, C, W, N, V, hi, hr, hm⟩ := h
  have eP := hi.1.2.1
  have hP4 := hi.1.2.2.2.1
  have hP0 := hi.1.2.2.1
  by_cases g : (∃ n, n < 2 ∧ x = nI n) ∧ ∃ n, n < 12 ∧ y = nI n
  · obtain ⟨⟨r, h2, rfl⟩, ⟨q, hq, rfl⟩⟩ := g
    have ho := mlok_of hi h2
    have hp : q % P < P := Nat.mod_lt _ hP0
    by_cases gu : N 1 (5 + r) = 0
    · have rp := (hr.2.2.2.2.2.2.2.2 r h2).2 (q % P) hp
      refine cl_locks_in P r q (mwin N V r (q % P)).length (N 1) _ _ ρ Q1 hr.1.1 hr.2.1 h2 hq gu rp.2.2.1 ((hi.2.2.2.2 r h2).2.2.2.2 (q % P) hp).1 (rel_cun hi hr h2 hp) ?_
      have e : mC (clkp ρ (fun i => C ((mwin N V r (q % P))[i]?.getD 0)) (nI 1 <<< (nI q &&& 31))) (mwin N V r (q % P)).length = mlks N V r q := by
        unfold mlks
        rw [eP, ← mC_list]
        refine mC_congr _ (fun j hj => ?_)
        have e0 : (mwin N V r (q % P))[j]? = some (mwin N V r (q % P))[j] := List.getElem?_eq_getElem hj
        have tt := rel_sets hi hr _ (List.getElem_mem hj)
        refine clkp_k hq ?_ ?_ <;> rw [e0]
        · exact tt.1
        · exact tt.2
      rw [e]
      refine hQ _ _ (fun Q2 h3 => ?_)
      refine ⟨N, V, hm, ?_⟩
      show zw_Md_locks [.ref M, .int (nI r), .int (nI q)] (md M _ N V) Q2
      exact mo_locks_in _ _ _ _ _ hi.1.1 r q h2 hq ho (fun q => absurd gu q) (fun _ N' hl => h3 _ (st_lk hi hr (mlaid_like hl)))
    · rw [cl_locks_out P (nI r) (nI q) (N 1) ρ Q1 hr.1.1 hr.2.1 (out_up h2 gu)]
      refine hQ _ _ (fun Q2 h3 => ?_)
      refine ⟨N, V, hm, ?_⟩
      show zw_Md_locks [.ref M, .int (nI r), .int (nI q)] (md M _ N V) Q2
      exact mo_locks_in _ _ _ _ _ hi.1.1 r q h2 hq ho (fun _ => h3 _ (st_id hi hr)) (fun q => absurd q gu)
  · rw [cl_locks_out P x y (N 1) ρ Q1 hr.1.1 hr.2.1 (fun ⟨⟨r, a, b, _⟩, c⟩ => g ⟨⟨r, a, b⟩, c⟩)]
    refine hQ _ _ (fun Q2 h3 => ?_)
    refine ⟨N, V, hm, ?_⟩
    show zw_Md_locks [.ref M, .int x, .int y] (md M _ N V) Q2
    rw [mo_locks_out _ _ _ _ _ hi.1.1 (by omega) x y g]
    exact h3 _ (st_id hi hr)
theorem st_stored {P M k : Nat} {ρ : zs_S} {Q1 : zs_Q} (x y z : Int32) (h : st P M k ρ) (hQ : stq P M k (fun τ Q2 => zw_Md_stored [.ref M, .int x, .int y, .int z] τ Q2) Q1) : zw_SB_stored [.ref 0, .int x, .int y, .int z] ρ Q1 := by
  obtain ⟨X, C, W, N, V, hi, hr, hm⟩ := h
  by_cases g : ∃ l n e, l < 3 ∧ n < 2 ∧ e < N 8 n ∧ x = nI l ∧ y = nI n ∧ z = nI e
  · obtain ⟨l, n, e, hl, hn, he, rfl, rfl, rfl⟩ := g
    have h8 := (hi.2.2.1.1 n hn).2.2.1
    have rq := hr.2.2.2.2.1 n hn
    rw [cl_stored_in P l n (N 8 n) e (W n e) ρ Q1 hr.1.1 hl hn rq.1.2.1 h8 he (rq.2 e he).1, ((hr.2.2.2.2.2.2.1 l hl) n hn).2 e (by omega)]
    refine hQ _ _ (fun Q2 h3 => ?_)
    refine ⟨N, V, hm, ?_⟩
    show zw_Md_stored [.ref M, .int (nI l), .int (nI n), .int (nI e)] (md M _ N V) Q2
    rw [mo_stored_in _ _ _ _ _ hi.1.1 l hl n hn e he h8, Nat.add_assoc]
    exact h3 _ (st_id hi hr)
  · rw [cl_stored_out P (N 8) x y z ρ Q1 hr.1.1 (fun s hs => ⟨(hr.2.2.2.2.1 s hs).1.2.1, (hi.2.2.1.1 s hs).2.2.1⟩) (fun ⟨⟨l, a, b⟩, s, c, d, e, f, i⟩ => g ⟨l, s, e, a, c, f, b, d, i⟩)]
    refine hQ _ _ (fun Q2 h3 => ?_)
    refine ⟨N, V, hm, ?_⟩
    show zw_Md_stored [.ref M, .int x, .int y, .int z] (md M _ N V) Q2
    rw [mo_stored_out _ _ _ _ _ hi.1.1 x y z g]
    exact h3 _ (st_id hi hr)
theorem st_logged {P M k : Nat} {ρ : zs_S} {Q1 : zs_Q} (x y : Int32) (h : st P M k ρ) (hQ : stq P M k (fun τ Q2 => zw_Md_logged [.ref M, .int x, .int y] τ Q2) Q1) : zw_SB_logged [.ref 0, .int x, .int y] ρ Q1 := by
  obtain ⟨X, C, W, N, V, hi, hr, hm⟩ := h
  by_cases g : ∃ n, n < 2 ∧ x = nI n
  · obtain ⟨r, h2, rfl⟩ := g
    have ho := mlok_of hi h2
    have rr := (hr.2.2.2.2.2.2.2.2 r h2).1
    by_cases gy : ∃ i, i < (mline N V r).length ∧ y = nI i
    · obtain ⟨i, hil, rfl⟩ := gy
      have e0 : (mline N V r)[i]? = some (mline N V r)[i] := List.getElem?_eq_getElem hil
      have tt := hr.2.2.2.1 _ (mline_mem (List.getElem_mem hil)).1
      rw [cl_logged_in P r (mline N V r).length i _ _ ρ Q1 hr.1.1 h2 rr.2.1 ho.2.1 hil (rr.2.2.1 i _ e0) tt.2.2.2.1 tt.2.2.2.2.1]
      refine hQ _ _ (fun Q2 h3 => ?_)
      refine ⟨N, V, hm, ?_⟩
      show zw_Md_logged [.ref M, .int (nI r), .int (nI i)] (md M _ N V) Q2
      refine mo_logged_in _ _ _ _ _ hi.1.1 r (nI i) h2 ho (fun N' hl => ⟨fun j t a b => ?_, fun q => absurd ⟨i, hil, rfl⟩ q⟩)
      have hj := (List.getElem?_eq_some_iff.mp b).1
      have hle := ho.2.1
      rw [nI_eq (by omega) (by omega)] at a
      subst a
      rw [e0] at b
      simp only [Option.some.injEq] at b
      rw [← b]
      exact h3 _ (st_lk hi hr (mlaid_like hl))
    · rw [cl_logged_no P r (mline N V r).length y ρ Q1 hr.1.1 h2 rr.2.1 ho.2.1 gy]
      refine hQ _ _ (fun Q2 h3 => ?_)
      refine ⟨N, V, hm, ?_⟩
      show zw_Md_logged [.ref M, .int (nI r), .int y] (md M _ N V) Q2
      refine mo_logged_in _ _ _ _ _ hi.1.1 r y h2 ho (fun N' hl => ⟨fun j t a b => ?_, fun q => h3 _ (st_lk hi hr (mlaid_like hl))⟩)
      exact absurd ⟨j, (List.getElem?_eq_some_iff.mp b).1, a⟩ gy
  · rw [cl_logged_out x y ρ Q1 g]
    refine hQ _ _ (fun Q2 h3 => ?_)
    refine ⟨N, V, hm, ?_⟩
    show zw_Md_logged [.ref M, .int x, .int y] (md M _ N V) Q2
    rw [mo_logged_out _ _ _ _ _ x y g]
    exact h3 _ (st_id hi hr)
theorem st_status {P M k : Nat} {ρ : zs_S} {Q1 : zs_Q} (x : Int32) (h : st P M k ρ) (hQ : stq P M k (fun τ Q2 => zw_Md_status [.ref M, .int x] τ Q2) Q1) : zw_SB_status [.ref 0, .int x] ρ Q1 := by
  obtain ⟨X, C, W, N, V, hi, hr, hm⟩ := h
  by_cases g : ∃ t, t < N 0 2 ∧ x = nI t
  · obtain ⟨t, ht, rfl⟩ := g
    have tt := hr.2.2.2.1 t ht
    have it := hi.2.1.2.1 t ht
    have h7 : V 7 t = -1 ∨ V 7 t = -2 ∨ ∃ e, e < 20 ∧ V 7 t = nI e := by
      rcases it.2.2.2.2 with a | a | ⟨e, a, b⟩
      · exact Or.inl a
      · exact Or.inr (Or.inl a)
      · exact Or.inr (Or.inr ⟨e, by have := (hi.2.2.1.1 _ it.2.2.2.1).2.2.1; omega, b⟩)
    have fin : ∀ v, nI v = nI (mstat N V t) → Q1 (some (.int (nI v))) ρ := by
      intro v hv
      rw [hv]
      refine hQ _ _ (fun Q2 h3 => ?_)
      refine ⟨N, V, hm, ?_⟩
      show zw_Md_status [.ref M, .int (nI t)] (md M _ N V) Q2
      rw [mo_status_in _ _ _ _ _ hi.1.1 t ht hi.2.1.1 it.2.2.2.1 h7]
      exact h3 _ (st_id hi hr)
    refine cl_status_in P (N 0 2) t (C t) ρ Q1 hr.1.1 hr.2.2.1 hi.2.1.1 ht tt.1 tt.2.2.2.1 (if V 7 t = -2 then 1 else 0) tt.2.2.2.2.2.2.2.2.2.2.2.1 (by split <;> omega) (fun q => ?_) (fun q1 q2 => ?_) (fun q1 w q2 => ?_)
    · have a : V 7 t = -2 := by
        apply Classical.byContradiction
        intro z
        rw [if_neg z] at q
        omega
      apply fin
      unfold mstat
      rw [if_neg (by rw [a]; decide), if_pos a]
    · have a : ¬ V 7 t = -2 := by
        intro z
        rw [if_pos z] at q1
        omega
      have b := tt.2.2.2.2.2.2.2.2.2.2.2.2
      rw [q2] at b
      have a1 : V 7 t = -1 := by
        apply Classical.byContradiction
        intro z
        rw [if_neg (by intro q; rcases q with q | q; exact z q; exact a q)] at b
        simp at b
      apply fin
      unfold mstat
      rw [if_pos a1]
    · have a : ¬ V 7 t = -2 := by
        intro z
        rw [if_pos z] at q1
        omega
      have b := tt.2.2.2.2.2.2.2.2.2.2.2.2
      rw [q2] at b
      have a1 : ¬ V 7 t = -1 := by
        intro z
        rw [if_pos (Or.inl z)] at b
        simp at b
      rw [if_neg (by intro q; rcases q with q | q; exact a1 q; exact a q)] at b
      simp only [Option.some.injEq] at b
      rcases it.2.2.2.2 with c | c | ⟨e, he, c⟩
      · exact absurd c a1
      · exact absurd c a
      · have h20 := (hi.2.2.1.1 _ it.2.2.2.1).2.2.1
        have h2 := it.2.2.2.1
        rw [c, nI_clamp (by omega)] at b
        have ss := (hr.2.2.2.2.1 _ h2).2 e he
        have is := hi.2.2.1.2.1 (20 * N 6 t + e) (by omega)
        rw [b]
        refine ⟨ss.2.2.2.1, _, _, ss.2.2.2.2.2.2.2.2.2.1, ss.2.2.2.2.2.2.2.2.1, by split <;> omega, is.1, ?_⟩
        apply fin
        unfold mstat
        rw [if_neg a1, if_neg a, c, nI_clamp (by omega)]
        rcases is.2.2.1 with z | z
        · rw [if_pos z, if_pos rfl, z]
        · have := is.1
          rcases (show N 10 (20 * N 6 t + e) = 0 ∨ N 10 (20 * N 6 t + e) = 1 by omega) with y | y
          · rw [z, y]; rfl
          · rw [z, y]; rfl
  · rw [cl_status_out P (N 0 2) x ρ Q1 hr.1.1 hr.2.2.1 hi.2.1.1 g]
    refine hQ _ _ (fun Q2 h3 => ?_)
    refine ⟨N, V, hm, ?_⟩
    show zw_Md_status [.ref M, .int x] (md M _ N V) Q2
    rw [mo_status_out _ _ _ _ _ hi.1.1 x g]
    exact h3 _ (st_id hi hr)
