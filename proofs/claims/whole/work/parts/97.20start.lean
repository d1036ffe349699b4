/-! The start: both are new. -/
theorem mN0_at (P j q : Nat) : mN0 P j q = if j = 9 ∧ q = 1 then 1 else if j = 9 ∧ q = 0 then 1 else if j = 0 ∧ q = 0 then P else 0 := rfl
theorem mN0_o (P : Nat) {j : Nat} (q : Nat) (h9 : ¬ j = 9) (h0 : ¬ (j = 0 ∧ q = 0)) : mN0 P j q = 0 := by
  rw [mN0_at, if_neg (by omega), if_neg (by omega), if_neg h0]
theorem mN0_line (P : Nat) (V : Nat → Nat → Int32) (r : Nat) : mline (mN0 P) V r = [] := by
  rw [mline_cat (s0 := 0) (by omega) (fun k hk => absurd hk (Nat.not_lt_zero k)) (Or.inr (mN0_o P _ (by omega) (by omega)))]
  rfl
theorem mN0_win (P : Nat) (V : Nat → Nat → Int32) (r p : Nat) : mwin (mN0 P) V r p = [] := by
  unfold mwin
  rw [mN0_line]
  rfl
theorem mN0_mbl (P : Nat) (V : Nat → Nat → Int32) (s : Nat) : mbl (mN0 P) V s = [] := by
  unfold mbl
  rw [mN0_o P 2 (by omega) (by omega)]
  rfl
theorem mN0_und (P s : Nat) : mund (mN0 P) s = 0 := by
  unfold mund
  rw [mN0_o P s (by omega) (by omega)]
  rfl
theorem inv_start (P : Nat) (V : Nat → Nat → Int32) (h0 : 0 < P) (h4 : P ≤ 4) : inv P 1 (fun _ _ => 0) (mN0 P) V := by
  have e02 : mN0 P 0 2 = 0 := mN0_o P _ (by omega) (by omega)
  have e16 : mN0 P 0 16 = 0 := mN0_o P _ (by omega) (by omega)
  refine ⟨⟨fun j q => ?_, by rw [mN0_at, if_neg (by omega), if_neg (by omega), if_pos ⟨rfl, rfl⟩], h0, h4, fun x _ => by rw [mN0_o P _ (by omega) (by omega)]; omega⟩, ⟨by omega, fun t ht => by omega, fun s _ => by rw [mN0_mbl]; exact Nat.zero_le _⟩, ⟨fun s hs => ?_, fun a ha => ?_, fun _ _ => Nat.zero_lt_two⟩, ⟨by rw [e16, mN0_und, mN0_und]; omega, fun i hi => by omega⟩, fun r hr => ?_⟩
  · rw [mN0_at]
    split
    · omega
    · split
      · omega
      · split <;> omega
  · rw [mN0_und, mN0_o P (j := 8) _ (by omega) (by omega), mN0_at]
    have : (if 9 = 9 ∧ s = 1 then 1 else if 9 = 9 ∧ s = 0 then 1 else if 9 = 0 ∧ s = 0 then P else 0) = 1 := by
      rcases (show s = 0 ∨ s = 1 by omega) with z | z <;> simp [z]
    rw [this]
    omega
  · unfold iS
    rw [mN0_o P (j := 10) _ (by omega) (by omega), mN0_o P (j := 11) _ (by omega) (by omega), mN0_o P (j := 12) _ (by omega) (by omega)]
    exact ⟨by omega, by omega, Or.inl rfl, fun _ => ⟨rfl, rfl, rfl⟩, rfl, fun l _ => Or.inl (mN0_o P _ (by omega) (by omega))⟩
  · refine ⟨fun q => by rw [mN0_o P _ (by omega) (by omega)]; omega, fun a _ z => absurd (mN0_o P _ (by omega) (by omega)) z, by rw [mN0_o P _ (by omega) (by omega)]; exact Nat.zero_le _, fun p _ => ⟨by rw [mN0_o P (j := 24) _ (by omega) (by omega)]; exact Nat.zero_le _, by rw [mN0_o P (j := 25) _ (by omega) (by omega)]; exact Nat.zero_le _⟩, fun p _ => ⟨by rw [mN0_win]; exact Nat.zero_le _, fun t _ => ?_⟩⟩
    rw [mN0_o P (j := 26) _ (by omega) (by omega), mN0_o P (j := 27) _ (by omega) (by omega)]
    exact ⟨by omega, by omega, fun z => by omega⟩
theorem rel_start (P : Nat) (τ : zs_S) (h0 : 0 < P) (h4 : P ≤ 4) (hn : 40 + 8 * P + 32 ≤ zs_n τ) (c1 : csb τ P) (c2 : csh τ P) (c3 : ∀ l, l < 3 → csl1 τ l) (c4 : ∀ s, s < 2 → css1 τ s) (c5 : ∀ r, r < 2 → csr1 τ P (crv P r)) : rel P (40 + 8 * P) (fun _ => 0) (fun _ _ => 0) τ (mN0 P) (mV0 24) := by
  have e02 : mN0 P 0 2 = 0 := mN0_o P _ (by omega) (by omega)
  have e16 : mN0 P 0 16 = 0 := mN0_o P _ (by omega) (by omega)
  obtain ⟨k1, k2, k3, k4, k5, k6, k7, k8, k9, k10, k11, k12, k13, k14, k15, k16, k17⟩ := c2
  refine ⟨⟨c1, rfl, hn⟩, fun x _ => ?_, by rw [e02]; exact k3, fun t ht => by omega, fun s hs => ⟨?_, fun e he => ?_⟩, ?_, fun l hl s hs => ⟨?_, fun e he => ?_⟩, ?_, fun r hr => ⟨?_, fun p hp => ?_⟩⟩
  · rw [mN0_o P _ (by omega) (by omega)]; exact ⟨k16 x, by omega⟩
  · have c := c4 s hs
    unfold rQ
    rw [mN0_mbl, mN0_o P (j := 8) _ (by omega) (by omega), c.2.2.1, c.2.2.2.1, c.2.2.2.2, mN0_at]
    refine ⟨rfl, rfl, ?_, fun i t z => by simp at z⟩
    rcases (show s = 0 ∨ s = 1 by omega) with z | z <;> simp [z]
  · rw [mN0_o P (j := 8) _ (by omega) (by omega)] at he; omega
  · intro s e s' e' _ _ c _
    rw [mN0_o P (j := 8) _ (by omega) (by omega)] at c; omega
  · rw [mN0_o P _ (by omega) (by omega)]; exact (c3 l hl).2.2.1 s
  · rw [mN0_o P _ (by omega) (by omega)]; exact (c3 l hl).2.2.2 _
  · have el : mpl (mN0 P) = [] := by
      unfold mpl
      rw [e16]
      rfl
    rw [el]
    exact ⟨k17, fun i c x z => by simp at z⟩
  · obtain ⟨⟨r1, r2, r3, r4, r5, r6, r7, r8, r9, r10, r11, r12, r13, r14, r15, r16, r17, r18, r19, r20, r21⟩, q2, q3⟩ := c5 r hr
    refine ⟨fun k hk => by rw [mN0_o P _ (by omega) (by omega), if_pos rfl]; exact r19 k, by rw [mN0_line]; exact r17, fun i t z => by rw [mN0_line] at z; simp at z, ⟨0, r16, by omega, fun k hk => absurd hk (Nat.not_lt_zero k), Or.inr (mN0_o P _ (by omega) (by omega))⟩, by rw [mN0_o P _ (by omega) (by omega)]; exact r18, fun k hk => ⟨?_, ?_⟩, fun t ht => ⟨?_, fun _ => ?_⟩⟩
    · rw [(q3 k hk).1, mV0_at, if_pos (by omega)]
    · rw [(q3 k hk).2, mV0_at, if_pos (by omega)]
    · rw [r20 t, mV0_at, if_neg (by omega)]
    · rw [r21 t, mV0_at, if_neg (by omega)]
  · obtain ⟨_, q2, _⟩ := c5 r hr
    obtain ⟨p1, p2, p3, p4, p5, p6⟩ := q2 p hp
    refine ⟨by rw [p3]; exact kset_cky P p h0 h4 hp, by rw [mN0_o P _ (by omega) (by omega)]; exact p4, by rw [mN0_win]; exact p5, fun j t z => by rw [mN0_win] at z; simp at z, fun t _ => ?_⟩
    rw [p6 t]
    refine ((kset_0 _).mpr (fun k _ => ?_)).symm
    rw [mN0_o P _ (by omega) (by omega)]
    rfl
theorem st_start (P M : Nat) (τ σ : zs_S) (h0 : 0 < P) (h4 : P ≤ 4) (hM : M = 40 + 8 * P) (c1 : csb τ P) (c2 : csh τ P) (c3 : ∀ l, l < 3 → csl1 τ l) (c4 : ∀ s, s < 2 → css1 τ s) (c5 : ∀ r, r < 2 → csr1 τ P (crv P r)) (hn : zs_n σ = M + 32) (hc : cold τ (md M σ (mN0 P) (mV0 24)) M) : st P M 1 (md M σ (mN0 P) (mV0 24)) := by
  subst hM
  refine ⟨fun _ _ => 0, fun _ => 0, fun _ _ => 0, mN0 P, mV0 24, inv_start P (mV0 24) h0 h4, ?_, mdb_md _ _ _ _⟩
  have e : zs_n (md (40 + 8 * P) σ (mN0 P) (mV0 24)) = zs_n σ := rfl
  refine rel_start P _ h0 h4 (by rw [e, hn]; exact Nat.le_refl _) ?_ ?_ (fun l hl => ?_) (fun s hs => ?_) (fun r hr => ?_)
  · exact csb_of (σ := τ) (fun w hw => (hc w hw).1) ((hc 0 (by omega)).2 0).1 (fun w q hw => ((hc w hw.1).2 q).2) c1
  · exact csh_of (σ := τ) (fun w hw => (hc w (by omega)).1) (fun w q hw => ((hc w (by omega)).2 q).1) (fun w q hw => ((hc w (by omega)).2 q).2) c2
  · exact csl1_of (σ := τ) (fun w hw => (hc w (by omega)).1) (fun w q hw => ((hc w (by omega)).2 q).1) (fun q => ((hc _ (by omega)).2 q).2) ((hc 6 (by omega)).2 l).2 (c3 l hl)
  · exact css1_of (σ := τ) (fun w hw => (hc w (by omega)).1) (fun w q hw => ((hc w (by omega)).2 q).1) (fun q => ((hc _ (by omega)).2 q).2) ((hc 7 (by omega)).2 s).2 (c4 s hs)
  · have hv := crv_le (P := P) (r := r) h4 hr
    exact csr1_of (c5 r hr) (fun w hw => hc w (by omega))
