/-! Class and reference side by side. -/
/-- cell w is in τ as it is in ρ -/
def agr (τ ρ : zs_S) (w : Nat) : Prop := zs_K τ w = zs_K ρ w ∧ (∀ q, zs_I τ w q = zs_I ρ w q) ∧ ∀ q, zs_R τ w q = zs_R ρ w q
theorem agr_rfl (ρ : zs_S) (w : Nat) : agr ρ ρ w := ⟨rfl, fun _ => rfl, fun _ => rfl⟩
theorem agr_trans {ρ σ τ : zs_S} {w : Nat} (h1 : agr τ σ w) (h2 : agr σ ρ w) : agr τ ρ w := ⟨h1.1.trans h2.1, fun q => (h1.2.1 q).trans (h2.2.1 q), fun q => (h1.2.2 q).trans (h2.2.2 q)⟩
theorem agr_pI {τ ρ : zs_S} {w : Nat} (h : agr τ ρ w) (v k : Nat) (x : Int32) (hw : ¬ w = v) : agr (zs_pI τ v k x) ρ w := ⟨h.1, fun q => by rw [zx_I_ne _ _ _ _ hw]; exact h.2.1 q, h.2.2⟩
theorem agr_pR {τ ρ : zs_S} {w : Nat} (h : agr τ ρ w) (v k : Nat) (x : Option Nat) (hw : ¬ w = v) : agr (zs_pR τ v k x) ρ w := ⟨h.1, h.2.1, fun q => by rw [zx_R_ne _ _ _ _ hw]; exact h.2.2 q⟩
theorem agr_pF {τ ρ : zs_S} {w : Nat} (h : agr τ ρ w) (v : Nat) (f : Nat → Int32) (hw : ¬ w = v) : agr (zs_pF τ v f) ρ w := ⟨h.1, fun q => by rw [zx_I_pF, if_neg hw]; exact h.2.1 q, h.2.2⟩
theorem agr_nw {τ ρ : zs_S} {w : Nat} (h : agr τ ρ w) (q : Nat × Nat) (hw : ¬ w = zs_n τ) : agr (zs_nw τ q) ρ w := ⟨by rw [zx_K_nw, if_neg hw]; exact h.1, fun k => by rw [zx_I_nw, if_neg hw]; exact h.2.1 k, fun k => by rw [zx_R_nw, if_neg hw]; exact h.2.2 k⟩
theorem agr_csnd {τ ρ : zs_S} {w : Nat} (h : agr τ ρ w) (u : Nat) (L : List (Nat × Nat)) (hw : w < 3 ∨ 5 < w) : agr (csnd τ u L) ρ w := ⟨h.1, fun q => by rw [csnd_o _ _ _ _ _ (by omega) (by omega) (by omega)]; exact h.2.1 q, h.2.2⟩
theorem agr_ctake {τ ρ : zs_S} {w : Nat} (h : agr τ ρ w) (u i k : Nat) (hw : w < 3 ∨ 5 < w) : agr (ctake τ u i k) ρ w := ⟨h.1, fun q => by rw [ctake_I, if_neg (by omega), if_neg (by omega), if_neg (by omega)]; exact h.2.1 q, h.2.2⟩
theorem agr_md {M : Nat} (τ : zs_S) (N : Nat → Nat → Nat) (V : Nat → Nat → Int32) {w : Nat} (hw : w < M ∨ M + 32 ≤ w) : agr (md M τ N V) τ w := ⟨md_Ko _ _ _ _ _ (by omega), fun q => md_Io _ _ _ _ _ _ (by omega), fun q => md_Ro _ _ _ _ _ _ (by omega)⟩
/-- a transaction -/
def rT (M : Nat) (C : Nat → Nat) (W : Nat → Nat → Nat) (ρ : zs_S) (N : Nat → Nat → Nat) (V : Nat → Nat → Int32) (t : Nat) : Prop := zs_R ρ 2 t = some (C t) ∧ M + 32 ≤ C t ∧ C t < zs_n ρ ∧ zs_K ρ (C t) = (6, 0) ∧ zs_I ρ (C t) 0 = nI t ∧ zs_I ρ (C t) 1 = nI (N 2 t) ∧ zs_I ρ (C t) 2 = nI (N 3 t) ∧ zs_I ρ (C t) 3 = cbb (nI (N 2 t)) (nI (N 3 t)) (V 4 t) ∧ zs_I ρ (C t) 4 = V 5 t ∧ zs_I ρ (C t) 5 = kset (mR N V t) ∧ zs_I ρ (C t) 6 = kset (mW N V t) ∧ zs_I ρ (C t) 8 = nI (if V 7 t = -2 then 1 else 0) ∧ zs_R ρ (C t) 7 = (if V 7 t = -1 ∨ V 7 t = -2 then none else some (W (N 6 t) (V 7 t).toNatClampNeg))
/-- a sequencer -/
def rQ (C : Nat → Nat) (ρ : zs_S) (N : Nat → Nat → Nat) (V : Nat → Nat → Int32) (s : Nat) : Prop := zs_I ρ (18 + 3 * s) 1 = nI (mbl N V s).length ∧ zs_I ρ (18 + 3 * s) 3 = nI (N 8 s) ∧ zs_I ρ (18 + 3 * s) 4 = nI (N 9 s) ∧ ∀ i t, (mbl N V s)[i]? = some t → zs_R ρ (19 + 3 * s) i = some (C t)
/-- a slot -/
def rS (M : Nat) (C : Nat → Nat) (W : Nat → Nat → Nat) (ρ : zs_S) (N : Nat → Nat → Nat) (V : Nat → Nat → Int32) (s e : Nat) : Prop := zs_R ρ (20 + 3 * s) e = some (W s e) ∧ M + 33 ≤ W s e ∧ W s e + 1 < zs_n ρ ∧ zs_K ρ (W s e) = (5, 0) ∧ zs_K ρ (W s e + 1) = (101, 3) ∧ zs_K ρ (W s e - 1) = (116, (mbat N V (2 * e + s) (N 0 2)).length) ∧ zs_R ρ (W s e) 0 = some (W s e - 1) ∧ zs_R ρ (W s e) 3 = some (W s e + 1) ∧ zs_I ρ (W s e) 1 = nI (N 10 (20 * s + e)) ∧ zs_I ρ (W s e) 2 = nI (if N 11 (20 * s + e) = 0 then 0 else 1) ∧ (∀ l, l < 3 → zs_I ρ (W s e + 1) l = nI (N 12 (20 * s + e) / 2 ^ l % 2)) ∧ ∀ i t, (mbat N V (2 * e + s) (N 0 2))[i]? = some t → zs_R ρ (W s e - 1) i = some (C t)
/-- a log node -/
def rL (ρ : zs_S) (N : Nat → Nat → Nat) (l : Nat) : Prop := ∀ s, s < 2 → zs_I ρ (10 + 3 * l) s = nI (N 14 (2 * l + s)) ∧ ∀ e, e < 20 → zs_I ρ (11 + 3 * l) (2 * e + s) = nI (N 13 (40 * l + (20 * s + e)))
/-- a replica -/
def rR (P : Nat) (C : Nat → Nat) (W : Nat → Nat → Nat) (ρ : zs_S) (N : Nat → Nat → Nat) (V : Nat → Nat → Int32) (r : Nat) : Prop := (∀ k, k < 40 → zs_R ρ (crv P r + 1) k = if N 20 (40 * r + mat k) = 0 then none else some (W (k % 2) (k / 2))) ∧ zs_I ρ (crv P r) 3 = nI (mline N V r).length ∧ (∀ i t, (mline N V r)[i]? = some t → zs_R ρ (crv P r + 2) i = some (C t)) ∧ (∃ s0, zs_I ρ (crv P r) 1 = nI s0 ∧ s0 ≤ 40 ∧ (∀ k, k < s0 → ¬ N 20 (40 * r + mat k) = 0) ∧ (s0 = 40 ∨ N 20 (40 * r + mat s0) = 0)) ∧ zs_I ρ (crv P r) 5 = nI (N 23 r) ∧ (∀ k, k < 12 → zs_I ρ (crv P r + 3) k = V 22 (12 * r + k) ∧ zs_I ρ (crv P r + 4) k = V 21 (12 * r + k)) ∧ ∀ t, t < 100 → zs_I ρ (crv P r + 5) t = V 29 (100 * r + t) ∧ ((t < N 0 2 → ¬ N 2 t = 2 ∧ ¬ N 2 t = 4) → zs_I ρ (crv P r + 6) t = V 30 (100 * r + t))
/-- a partition -/
def rP (P : Nat) (C : Nat → Nat) (ρ : zs_S) (N : Nat → Nat → Nat) (V : Nat → Nat → Int32) (r p : Nat) : Prop := zs_I ρ (crv P r + 8 + 4 * p) 0 = kset (fun k => k % P == p) ∧ zs_I ρ (crv P r + 8 + 4 * p) 1 = nI (N 25 (4 * r + p)) ∧ zs_I ρ (crv P r + 8 + 4 * p) 4 = nI (mwin N V r p).length ∧ (∀ j t, (mwin N V r p)[j]? = some t → zs_R ρ (crv P r + 9 + 4 * p) j = some (C t) ∧ zs_I ρ (crv P r + 10 + 4 * p) j = nI (N 26 (400 * r + 100 * p + t))) ∧ ∀ t, t < 100 → zs_I ρ (crv P r + 11 + 4 * p) t = kset (fun k => decide (¬ N 28 (16 * (100 * r + t) + 4 * (k % P) + p) = 0))
def rW (N W : Nat → Nat → Nat) : Prop := ∀ s e s' e', s < 2 → s' < 2 → e < N 8 s → e' < N 8 s' → W s e = W s' e' → s = s' ∧ e = e'
def rel (P M : Nat) (C : Nat → Nat) (W : Nat → Nat → Nat) (ρ : zs_S) (N : Nat → Nat → Nat) (V : Nat → Nat → Int32) : Prop := (csb ρ P ∧ M = 40 + 8 * P ∧ M + 32 ≤ zs_n ρ) ∧ cdn ρ (N 1) ∧ zs_I ρ 0 3 = nI (N 0 2) ∧ (∀ t, t < N 0 2 → rT M C W ρ N V t) ∧ (∀ s, s < 2 → rQ C ρ N V s ∧ ∀ e, e < N 8 s → rS M C W ρ N V s e) ∧ rW N W ∧ (∀ l, l < 3 → rL ρ N l) ∧ cpl ρ (mpl N) ∧ ∀ r, r < 2 → rR P C W ρ N V r ∧ ∀ p, p < P → rP P C ρ N V r p
/-! Frames. -/
theorem cdn_of {τ ρ : zs_S} {d d' : Nat → Nat} (h : cdn ρ d) (a : agr τ ρ 1) (hd : ∀ x, x < 7 → d' x = d x) : cdn τ d' := fun x hx => by rw [a.2.1, hd x hx]; exact h x hx
theorem rT_of {M : Nat} {C : Nat → Nat} {W W' : Nat → Nat → Nat} {τ ρ : zs_S} {N N' : Nat → Nat → Nat} {V V' : Nat → Nat → Int32} {t : Nat} (h : rT M C W ρ N V t) (hn : zs_n ρ ≤ zs_n τ) (a2 : zs_R τ 2 t = zs_R ρ 2 t) (a : agr τ ρ (C t)) (h2 : N' 2 t = N 2 t) (h3 : N' 3 t = N 3 t) (h6 : N' 6 t = N 6 t) (v4 : V' 4 t = V 4 t) (v5 : V' 5 t = V 5 t) (v7 : V' 7 t = V 7 t) (hW : W' (N 6 t) (V 7 t).toNatClampNeg = W (N 6 t) (V 7 t).toNatClampNeg ∨ V 7 t = -1 ∨ V 7 t = -2) : rT M C W' τ N' V' t := by
  unfold rT at h ⊢
  rw [a2, a.1, a.2.1, a.2.1, a.2.1, a.2.1, a.2.1, a.2.1, a.2.1, a.2.1, a.2.2, h2, h3, h6, v4, v5, v7, mR_congr h2 h3 v4, mW_congr h2 h3 v4 v5]
  refine ⟨h.1, h.2.1, Nat.lt_of_lt_of_le h.2.2.1 hn, h.2.2.2.1, h.2.2.2.2.1, h.2.2.2.2.2.1, h.2.2.2.2.2.2.1, h.2.2.2.2.2.2.2.1, h.2.2.2.2.2.2.2.2.1, h.2.2.2.2.2.2.2.2.2.1, h.2.2.2.2.2.2.2.2.2.2.1, h.2.2.2.2.2.2.2.2.2.2.2.1, ?_⟩
  rw [h.2.2.2.2.2.2.2.2.2.2.2.2]
  rcases hW with hW | hW
  · rw [hW]
  · rw [if_pos hW, if_pos hW]
theorem rQ_of {C : Nat → Nat} {τ ρ : zs_S} {N N' : Nat → Nat → Nat} {V V' : Nat → Nat → Int32} {s : Nat} (h : rQ C ρ N V s) (a1 : agr τ ρ (18 + 3 * s)) (a2 : agr τ ρ (19 + 3 * s)) (hb : mbl N' V' s = mbl N V s) (h8 : N' 8 s = N 8 s) (h9 : N' 9 s = N 9 s) : rQ C τ N' V' s := by
  unfold rQ at h ⊢
  rw [a1.2.1, a1.2.1, a1.2.1, hb, h8, h9]
  exact ⟨h.1, h.2.1, h.2.2.1, fun i t g => by rw [a2.2.2]; exact h.2.2.2 i t g⟩
theorem rS_of {M : Nat} {C : Nat → Nat} {W : Nat → Nat → Nat} {τ ρ : zs_S} {N N' : Nat → Nat → Nat} {V V' : Nat → Nat → Int32} {s e : Nat} (h : rS M C W ρ N V s e) (hn : zs_n ρ ≤ zs_n τ) (a0 : zs_R τ (20 + 3 * s) e = zs_R ρ (20 + 3 * s) e) (a1 : agr τ ρ (W s e)) (a2 : agr τ ρ (W s e + 1)) (a3 : agr τ ρ (W s e - 1)) (hb : mbat N' V' (2 * e + s) (N' 0 2) = mbat N V (2 * e + s) (N 0 2)) (h10 : N' 10 (20 * s + e) = N 10 (20 * s + e)) (h11 : N' 11 (20 * s + e) = N 11 (20 * s + e)) (h12 : N' 12 (20 * s + e) = N 12 (20 * s + e)) : rS M C W τ N' V' s e := by
  unfold rS at h ⊢
  rw [a0, a1.1, a2.1, a3.1, a1.2.2, a1.2.2, a1.2.1, a1.2.1, hb, h10, h11, h12]
  exact ⟨h.1, h.2.1, Nat.lt_of_lt_of_le h.2.2.1 hn, h.2.2.2.1, h.2.2.2.2.1, h.2.2.2.2.2.1, h.2.2.2.2.2.2.1, h.2.2.2.2.2.2.2.1, h.2.2.2.2.2.2.2.2.1, h.2.2.2.2.2.2.2.2.2.1, fun l hl => by rw [a2.2.1]; exact h.2.2.2.2.2.2.2.2.2.2.1 l hl, fun i t g => by rw [a3.2.2]; exact h.2.2.2.2.2.2.2.2.2.2.2 i t g⟩
theorem rL_of {τ ρ : zs_S} {N N' : Nat → Nat → Nat} {l : Nat} (h : rL ρ N l) (a1 : agr τ ρ (10 + 3 * l)) (a2 : agr τ ρ (11 + 3 * l)) (h13 : ∀ q, N' 13 q = N 13 q) (h14 : ∀ q, N' 14 q = N 14 q) : rL τ N' l := fun s hs => ⟨by rw [a1.2.1, h14]; exact (h s hs).1, fun e he => by rw [a2.2.1, h13]; exact (h s hs).2 e he⟩
theorem rR_of {P : Nat} {C : Nat → Nat} {W : Nat → Nat → Nat} {τ ρ : zs_S} {N N' : Nat → Nat → Nat} {V V' : Nat → Nat → Int32} {r : Nat} (h : rR P C W ρ N V r) (a : ∀ j, j < 7 → agr τ ρ (crv P r + j)) (hl : mline N' V' r = mline N V r) (h0 : N' 0 2 = N 0 2) (h2 : ∀ q, N' 2 q = N 2 q) (h20 : ∀ q, N' 20 q = N 20 q) (h23 : N' 23 r = N 23 r) (v21 : ∀ k, k < 12 → V' 21 (12 * r + k) = V 21 (12 * r + k)) (v22 : ∀ k, k < 12 → V' 22 (12 * r + k) = V 22 (12 * r + k)) (v29 : ∀ t, t < 100 → V' 29 (100 * r + t) = V 29 (100 * r + t)) (v30 : ∀ t, t < 100 → V' 30 (100 * r + t) = V 30 (100 * r + t)) : rR P C W τ N' V' r := by
  obtain ⟨b1, b2, b3, ⟨s0, c1, c2, c3, c4⟩, b5, b6, b7⟩ := h
  have a0 := a 0 (by omega)
  rw [Nat.add_zero] at a0
  refine ⟨fun k hk => by rw [(a 1 (by omega)).2.2, h20]; exact b1 k hk, by rw [a0.2.1, hl]; exact b2, fun i t g => by rw [(a 2 (by omega)).2.2]; exact b3 i t (by rw [← hl]; exact g), ⟨s0, by rw [a0.2.1]; exact c1, c2, fun k hk => by rw [h20]; exact c3 k hk, by rw [h20]; exact c4⟩, by rw [a0.2.1, h23]; exact b5, fun k hk => ⟨by rw [(a 3 (by omega)).2.1, v22 k hk]; exact (b6 k hk).1, by rw [(a 4 (by omega)).2.1, v21 k hk]; exact (b6 k hk).2⟩, fun t ht => ⟨by rw [(a 5 (by omega)).2.1, v29 t ht]; exact (b7 t ht).1, fun g => ?_⟩⟩
  rw [(a 6 (by omega)).2.1, v30 t ht]
  exact (b7 t ht).2 (fun q => by rw [← h2]; exact g (by rw [h0]; exact q))
theorem rP_of {P : Nat} {C : Nat → Nat} {τ ρ : zs_S} {N N' : Nat → Nat → Nat} {V V' : Nat → Nat → Int32} {r p : Nat} (h : rP P C ρ N V r p) (a : ∀ j, j < 4 → agr τ ρ (crv P r + 8 + 4 * p + j)) (hw : mwin N' V' r p = mwin N V r p) (h25 : N' 25 (4 * r + p) = N 25 (4 * r + p)) (h26 : ∀ t, N' 26 (400 * r + 100 * p + t) = N 26 (400 * r + 100 * p + t)) (h28 : ∀ q, N' 28 q = N 28 q) : rP P C τ N' V' r p := by
  obtain ⟨b1, b2, b3, b4, b5⟩ := h
  have e9 : crv P r + 9 + 4 * p = crv P r + 8 + 4 * p + 1 := by omega
  have e10 : crv P r + 10 + 4 * p = crv P r + 8 + 4 * p + 2 := by omega
  have e11 : crv P r + 11 + 4 * p = crv P r + 8 + 4 * p + 3 := by omega
  have a0 := a 0 (by omega)
  rw [Nat.add_zero] at a0
  refine ⟨by rw [a0.2.1]; exact b1, by rw [a0.2.1, h25]; exact b2, by rw [a0.2.1, hw]; exact b3, fun j t g => ?_, fun t ht => ?_⟩
  · rw [hw] at g
    rw [e9, e10, (a 1 (by omega)).2.2, (a 2 (by omega)).2.1, h26, ← e9, ← e10]
    exact b4 j t g
  · rw [e11, (a 3 (by omega)).2.1, ← e11, b5 t ht]
    simp only [h28]
theorem cpl_of {τ ρ : zs_S} {L : List (Nat × Nat)} (h : cpl ρ L) (a3 : agr τ ρ 3) (a4 : agr τ ρ 4) (a5 : agr τ ρ 5) : cpl τ L := ⟨by rw [a3.2.1]; exact h.1, fun i c x g => by rw [a4.2.1, a5.2.1]; exact h.2 i c x g⟩
theorem csb_agr {τ ρ : zs_S} {P : Nat} (h : csb ρ P) (hK : ∀ w, w < 40 + 8 * P → zs_K τ w = zs_K ρ w) (hI : zs_I τ 0 0 = zs_I ρ 0 0) (hR : ∀ w q, cst P w → zs_R τ w q = zs_R ρ w q) : csb τ P := csb_of hK hI hR h
theorem crv_le {P r : Nat} (hP : P ≤ 4) (hr : r < 2) : 24 ≤ crv P r ∧ crv P r + 8 + 4 * P ≤ 40 + 8 * P := by
  unfold crv
  split <;> omega
/-- the relation holds in every store with the same cells outside the reference's -/
theorem rel_ag {P M : Nat} {C : Nat → Nat} {W : Nat → Nat → Nat} {τ ρ : zs_S} {N : Nat → Nat → Nat} {V : Nat → Nat → Int32} (h : rel P M C W ρ N V) (hn : zs_n τ = zs_n ρ) (a : ∀ w, w < M ∨ M + 32 ≤ w → agr τ ρ w) : rel P M C W τ N V := by
  obtain ⟨⟨h1, hM, h2⟩, h3, h4, h5, h6, h7, h8, h9, h10⟩ := h
  have hP4 : P ≤ 4 := h1.2.2.2.2.2.2.2.2.2.2.2.2.2.2.2.2.2.2
  refine ⟨⟨csb_of (fun w hw => (a w (by omega)).1) ((a 0 (by omega)).2.1 0) (fun w q hw => (a w (by have := hw.1; omega)).2.2 q) h1, hM, by rw [hn]; exact h2⟩, cdn_of h3 (a 1 (by omega)) (fun _ _ => rfl), by rw [(a 0 (by omega)).2.1]; exact h4, fun t ht => ?_, fun s hs => ⟨?_, fun e he => ?_⟩, h7, fun l hl => rL_of (h8 l hl) (a _ (by omega)) (a _ (by omega)) (fun _ => rfl) (fun _ => rfl), cpl_of h9 (a 3 (by omega)) (a 4 (by omega)) (a 5 (by omega)), fun r hr => ?_⟩
  · have g := h5 t ht
    exact rT_of g (by omega) ((a 2 (by omega)).2.2 t) (a _ (Or.inr g.2.1)) rfl rfl rfl rfl rfl rfl (Or.inl rfl)
  · exact rQ_of (h6 s hs).1 (a _ (by omega)) (a _ (by omega)) rfl rfl rfl
  · have g := (h6 s hs).2 e he
    have := g.2.1
    exact rS_of g (by omega) ((a _ (by omega)).2.2 e) (a _ (by omega)) (a _ (by omega)) (a _ (by omega)) rfl rfl rfl rfl
  · have hv := crv_le (P := P) hP4 hr
    exact ⟨rR_of (h10 r hr).1 (fun j hj => a _ (by omega)) rfl rfl (fun _ => rfl) (fun _ => rfl) rfl (fun _ _ => rfl) (fun _ _ => rfl) (fun _ _ => rfl) (fun _ _ => rfl), fun p hp => rP_of ((h10 r hr).2 p hp) (fun j hj => a _ (by omega)) rfl rfl (fun _ => rfl) (fun _ => rfl)⟩
theorem rel_md {P M : Nat} {C : Nat → Nat} {W : Nat → Nat → Nat} {τ : zs_S} {N : Nat → Nat → Nat} {V : Nat → Nat → Int32} (h : rel P M C W τ N V) : rel P M C W (md M τ N V) N V := rel_ag h rfl (fun w hw => agr_md τ N V hw)
