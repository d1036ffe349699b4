/-! What always holds of the reference. -/
def mbl (N : Nat → Nat → Nat) (V : Nat → Nat → Int32) (s : Nat) : List Nat := (List.range (N 0 2)).filter (fun t => decide (N 6 t = s ∧ V 7 t = -1))
def mund (N : Nat → Nat → Nat) (s : Nat) : Nat := mC (fun e => decide (N 11 (20 * s + e) = 0)) (N 8 s)
def mwf (X N : Nat → Nat → Nat) (k to a x w : Nat) : Prop := (k = 1 ∧ to < 3 ∧ a < 40 ∧ a % 20 < N 8 (a / 20) ∧ x < 2 ∧ 1 ≤ w ∧ w ≤ N 9 (a / 20) ∧ x = X a w) ∨ (k = 2 ∧ to < 3 ∧ a < 40 ∧ a % 20 < N 8 (a / 20) ∧ x = 0 ∧ 1 ≤ w ∧ w ≤ N 9 (a / 20)) ∨ (k = 3 ∧ to < 2 ∧ a < 40 ∧ ¬ N 11 a = 0 ∧ x < 2 ∧ w = 0) ∨ (k = 4 ∧ to < 2 ∧ a < N 0 2 ∧ x / 4 < N 0 0 ∧ x % 4 < N 0 0 ∧ w = 0 ∧ N 1 (5 + to) = 0)
def iA (P : Nat) (N : Nat → Nat → Nat) : Prop := (∀ j q, N j q < 100000) ∧ N 0 0 = P ∧ 0 < P ∧ P ≤ 4 ∧ ∀ x, x < 7 → N 1 x < 2
def iT (N : Nat → Nat → Nat) (V : Nat → Nat → Int32) (t : Nat) : Prop := N 2 t < 6 ∧ N 3 t < 12 ∧ mgood (nI (N 2 t)) (nI (N 3 t)) (V 4 t) (V 5 t) = true ∧ N 6 t < 2 ∧ (V 7 t = -1 ∨ V 7 t = -2 ∨ ∃ e, e < N 8 (N 6 t) ∧ V 7 t = nI e)
def iB (N : Nat → Nat → Nat) (V : Nat → Nat → Int32) : Prop := N 0 2 ≤ 100 ∧ (∀ t, t < N 0 2 → iT N V t) ∧ ∀ s, s < 2 → (mbl N V s).length ≤ 6
def iS (X N : Nat → Nat → Nat) (a : Nat) : Prop := N 10 a < 2 ∧ N 12 a < 8 ∧ (N 11 a = 0 ∨ N 11 a = 1 + N 10 a) ∧ (N 8 (a / 20) ≤ a % 20 → N 10 a = 0 ∧ N 11 a = 0 ∧ N 12 a = 0) ∧ X a (N 9 (a / 20)) = N 10 a ∧ ∀ l, l < 3 → N 13 (40 * l + a) = 0 ∨ ∃ w, 1 ≤ w ∧ w ≤ N 9 (a / 20) ∧ N 13 (40 * l + a) = 2 * w + X a w
def iC (k : Nat) (X N : Nat → Nat → Nat) : Prop := (∀ s, s < 2 → 1 ≤ N 9 s ∧ N 9 s ≤ k ∧ N 8 s ≤ 20 ∧ mund N s ≤ 3) ∧ (∀ a, a < 40 → iS X N a) ∧ ∀ a w, X a w < 2
def iD (X N : Nat → Nat → Nat) : Prop := N 0 16 + mund N 0 + mund N 1 ≤ 63 ∧ mal N (mwf X N)
def iP (N : Nat → Nat → Nat) (V : Nat → Nat → Int32) (r p : Nat) : Prop := (mwin N V r p).length ≤ 10 ∧ ∀ t, t < 100 → N 26 (400 * r + 100 * p + t) < 2 ∧ N 27 (400 * r + 100 * p + t) < 2 ∧ (¬ N 26 (400 * r + 100 * p + t) = 0 ∨ ¬ N 27 (400 * r + 100 * p + t) = 0 → t ∈ mpre (mline N V r) (N 24 r) (N 25 (4 * r + p)))
def iE (P : Nat) (N : Nat → Nat → Nat) (V : Nat → Nat → Int32) (r : Nat) : Prop := (∀ q, N 20 q < 2) ∧ (∀ a, a < 40 → ¬ N 20 (40 * r + a) = 0 → ¬ N 11 a = 0) ∧ N 23 r ≤ (mline N V r).length ∧ (∀ p, p < 4 → N 24 r ≤ N 25 (4 * r + p) ∧ N 25 (4 * r + p) ≤ (mline N V r).length) ∧ ∀ p, p < P → iP N V r p
def inv (P k : Nat) (X N : Nat → Nat → Nat) (V : Nat → Nat → Int32) : Prop := iA P N ∧ iB N V ∧ iC k X N ∧ iD X N ∧ ∀ r, r < 2 → iE P N V r
/-! Frames. -/
theorem mbl_of {N N' : Nat → Nat → Nat} {V V' : Nat → Nat → Int32} {s : Nat} (h0 : N' 0 2 = N 0 2) (h6 : ∀ q, N' 6 q = N 6 q) (v7 : ∀ q, V' 7 q = V 7 q) : mbl N' V' s = mbl N V s := by
  unfold mbl
  simp only [h0, h6, v7]
theorem mund_of {N N' : Nat → Nat → Nat} {s : Nat} (h8 : N' 8 s = N 8 s) (h11 : ∀ q, N' 11 q = N 11 q) : mund N' s = mund N s := by
  unfold mund
  simp only [h8, h11]
theorem mline_of {N N' : Nat → Nat → Nat} {V V' : Nat → Nat → Int32} {r : Nat} (h0 : N' 0 2 = N 0 2) (h6 : ∀ q, N' 6 q = N 6 q) (h11 : ∀ q, N' 11 q = N 11 q) (h20 : ∀ q, N' 20 q = N 20 q) (v7 : ∀ q, V' 7 q = V 7 q) : mline N' V' r = mline N V r := by
  refine mline_congr (fun k _ => h20 _) (fun k _ _ => mpart_congr (h11 _) ?_)
  unfold mbat
  simp only [h0, h6, v7]
theorem iA_of {P : Nat} {N N' : Nat → Nat → Nat} (h : iA P N) (hl : ∀ j q, N' j q < 100000) (h0 : N' 0 0 = N 0 0) (h1 : ∀ q, N' 1 q = N 1 q) : iA P N' := ⟨hl, by rw [h0]; exact h.2.1, h.2.2.1, h.2.2.2.1, fun x hx => by rw [h1]; exact h.2.2.2.2 x hx⟩
theorem iT_of {N N' : Nat → Nat → Nat} {V V' : Nat → Nat → Int32} {t : Nat} (h : iT N V t) (h2 : N' 2 t = N 2 t) (h3 : N' 3 t = N 3 t) (h6 : N' 6 t = N 6 t) (h8 : ∀ s, s < 2 → N 8 s ≤ N' 8 s) (v4 : V' 4 t = V 4 t) (v5 : V' 5 t = V 5 t) (v7 : V' 7 t = V 7 t) : iT N' V' t := by
  obtain ⟨a1, a2, a3, a4, a5⟩ := h
  unfold iT
  rw [h2, h3, h6, v4, v5, v7]
  refine ⟨a1, a2, a3, a4, ?_⟩
  rcases a5 with a5 | a5 | ⟨e, h, g⟩
  · exact Or.inl a5
  · exact Or.inr (Or.inl a5)
  · exact Or.inr (Or.inr ⟨e, Nat.lt_of_lt_of_le h (h8 _ a4), g⟩)
theorem iB_of {N N' : Nat → Nat → Nat} {V V' : Nat → Nat → Int32} (h : iB N V) (h0 : N' 0 2 = N 0 2) (h2 : ∀ q, N' 2 q = N 2 q) (h3 : ∀ q, N' 3 q = N 3 q) (h6 : ∀ q, N' 6 q = N 6 q) (h8 : ∀ s, s < 2 → N 8 s ≤ N' 8 s) (v4 : ∀ q, V' 4 q = V 4 q) (v5 : ∀ q, V' 5 q = V 5 q) (v7 : ∀ q, V' 7 q = V 7 q) : iB N' V' := by
  obtain ⟨b1, b2, b3⟩ := h
  refine ⟨by rw [h0]; exact b1, fun t ht => iT_of (b2 t (by omega)) (h2 _) (h3 _) (h6 _) h8 (v4 _) (v5 _) (v7 _), fun s hs => ?_⟩
  rw [mbl_of h0 h6 v7]
  exact b3 s hs
theorem iS_of {X N N' : Nat → Nat → Nat} {a : Nat} (h : iS X N a) (hr : ∀ j q, 8 ≤ j → j ≤ 13 → N' j q = N j q) : iS X N' a := by
  unfold iS at h ⊢
  rw [hr 8 _ (by omega) (by omega), hr 9 _ (by omega) (by omega), hr 10 _ (by omega) (by omega), hr 11 _ (by omega) (by omega), hr 12 _ (by omega) (by omega)]
  refine ⟨h.1, h.2.1, h.2.2.1, h.2.2.2.1, h.2.2.2.2.1, fun l hl => ?_⟩
  rw [hr 13 _ (by omega) (by omega)]
  exact h.2.2.2.2.2 l hl
theorem iC_of {k k' : Nat} {X N N' : Nat → Nat → Nat} (h : iC k X N) (hk : k ≤ k') (hr : ∀ j q, 8 ≤ j → j ≤ 13 → N' j q = N j q) : iC k' X N' := by
  obtain ⟨c1, c2, c3⟩ := h
  refine ⟨fun s hs => ?_, fun a ha => iS_of (c2 a ha) hr, c3⟩
  have := c1 s hs
  rw [mund_of (hr 8 _ (by omega) (by omega)) (fun q => hr 11 q (by omega) (by omega)), hr 9 _ (by omega) (by omega), hr 8 _ (by omega) (by omega)]
  exact ⟨this.1, by omega, this.2.2⟩
theorem mwf_mono {X X' N N' : Nat → Nat → Nat} (h8 : ∀ s, s < 2 → N 8 s ≤ N' 8 s) (h9 : ∀ s, s < 2 → N 9 s ≤ N' 9 s) (h11 : ∀ a, a < 40 → ¬ N 11 a = 0 → ¬ N' 11 a = 0) (h0 : N 0 2 ≤ N' 0 2) (hP : N' 0 0 = N 0 0) (h1 : ∀ r, r < 2 → N 1 (5 + r) = 0 → N' 1 (5 + r) = 0) (hX : ∀ a w, a < 40 → w ≤ N 9 (a / 20) → X' a w = X a w) (k to a x w : Nat) (h : mwf X N k to a x w) : mwf X' N' k to a x w := by
  rcases h with ⟨a1, a2, a3, a4, a5, a6, a7, a8⟩ | ⟨a1, a2, a3, a4, a5, a6, a7⟩ | ⟨a1, a2, a3, a4, a5⟩ | ⟨a1, a2, a3, a4, a5, a6, a7⟩
  · have := h8 (a / 20) (by omega)
    have := h9 (a / 20) (by omega)
    exact Or.inl ⟨a1, a2, a3, by omega, a5, a6, by omega, by rw [hX a w a3 a7]; exact a8⟩
  · have := h8 (a / 20) (by omega)
    have := h9 (a / 20) (by omega)
    exact Or.inr (Or.inl ⟨a1, a2, a3, by omega, a5, a6, by omega⟩)
  · exact Or.inr (Or.inr (Or.inl ⟨a1, a2, a3, h11 a a3 a4, a5⟩))
  · exact Or.inr (Or.inr (Or.inr ⟨a1, a2, by omega, by omega, by omega, a6, h1 to a2 a7⟩))
theorem iP_of {N N' : Nat → Nat → Nat} {V V' : Nat → Nat → Int32} {r p : Nat} (l2 : List Nat) (h : iP N V r p) (hT : N 0 2 ≤ 100) (hl : mline N' V' r = mline N V r ++ l2) (h24 : N' 24 r = N 24 r) (h25 : N' 25 (4 * r + p) = N 25 (4 * r + p)) (hle : N 25 (4 * r + p) ≤ (mline N V r).length) (h26 : ∀ t, t < 100 → N' 26 (400 * r + 100 * p + t) = N 26 (400 * r + 100 * p + t)) (h27 : ∀ t, t < 100 → N' 27 (400 * r + 100 * p + t) = N 27 (400 * r + 100 * p + t)) : iP N' V' r p := by
  unfold iP
  rw [mwin_congr l2 hl h24 h25 hle (fun t ht => h27 t (by omega)), hl, h24, h25, mpre_app _ _ _ _ hle]
  refine ⟨h.1, fun t ht => ?_⟩
  rw [h26 t ht, h27 t ht]
  exact h.2 t ht
theorem iE_of {P : Nat} {N N' : Nat → Nat → Nat} {V V' : Nat → Nat → Int32} {r : Nat} (h : iE P N V r) (hT : N 0 2 ≤ 100) (hP : P ≤ 4) (hl : mline N' V' r = mline N V r) (h11 : ∀ a, a < 40 → ¬ N 11 a = 0 → ¬ N' 11 a = 0) (hr : ∀ j q, (j = 20 ∨ (23 ≤ j ∧ j ≤ 27)) → N' j q = N j q) : iE P N' V' r := by
  obtain ⟨e1, e2, e3, e4, e5⟩ := h
  refine ⟨fun q => by rw [hr 20 _ (by omega)]; exact e1 q, fun a ha g => h11 a ha (e2 a ha (by rw [hr 20 _ (by omega)] at g; exact g)), by rw [hl, hr 23 _ (by omega)]; exact e3, fun p hp => by rw [hl, hr 24 _ (by omega), hr 25 _ (by omega)]; exact e4 p hp, fun p hp => ?_⟩
  exact iP_of [] (e5 p hp) hT (by rw [List.append_nil]; exact hl) (hr 24 _ (by omega)) (hr 25 _ (by omega)) (e4 p (by omega)).2 (fun t _ => hr 26 _ (by omega)) (fun t _ => hr 27 _ (by omega))
theorem mlok_of {P k : Nat} {X N : Nat → Nat → Nat} {V : Nat → Nat → Int32} (h : inv P k X N V) {r : Nat} (hr : r < 2) : mlok N V r := by
  obtain ⟨ha, hb, hc, hd, he⟩ := h
  have e := he r hr
  have hl := mline_len N V r
  refine ⟨hb.1, Nat.le_trans hl hb.1, fun t ht => ?_, e.1, ⟨by rw [ha.2.1]; exact ha.2.2.1, by rw [ha.2.1]; exact ha.2.2.2.1⟩, e.2.2.2.1⟩
  have := (mline_mem ht).1
  have := hb.1
  omega
