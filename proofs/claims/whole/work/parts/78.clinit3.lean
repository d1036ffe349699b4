/-! The class: its constructor. -/
def cpx (a : Int32) : Int32 := if nI 1 < (if a < nI 4 then a else nI 4) then (if a < nI 4 then a else nI 4) else nI 1
def cpn (a : Int32) : Nat := if a < nI 2 then 1 else if a < nI 3 then 2 else if a < nI 4 then 3 else 4
theorem cpx_n (a : Int32) : cpx a = nI (cpn a) := by
  unfold cpx cpn
  by_cases g4 : a < nI 4
  · rw [if_pos g4]
    by_cases g1 : nI 1 < a
    · rw [if_pos g1]
      obtain ⟨n, hn, rfl⟩ := (zin_lt (u := 4) (by decide)).mp ⟨Int32.le_of_lt (Int32.lt_trans (show nI 0 < nI 1 by decide) g1), g4⟩
      have h1 : 1 < n := (nI_ltI (by decide) (by omega)).mp g1
      rcases (show n = 2 ∨ n = 3 by omega) with rfl | rfl <;> decide
    · rw [if_neg g1]
      have h2 : a < nI 2 := Int32.lt_of_le_of_lt (Int32.not_lt.mp g1) (by decide)
      rw [if_pos h2]
  · rw [if_neg g4, if_pos (by decide), if_neg (fun z => g4 (Int32.lt_trans z (by decide))), if_neg (fun z => g4 (Int32.lt_trans z (by decide))), if_neg g4]
theorem cpn_le (a : Int32) : 0 < cpn a ∧ cpn a ≤ 4 := by
  unfold cpn
  split
  · omega
  · split
    · omega
    · split <;> omega
def csh (σ : zs_S) (P : Nat) : Prop := zs_K σ 0 = (7, 0) ∧ zs_I σ 0 0 = nI P ∧ zs_I σ 0 3 = nI 0 ∧ zs_R σ 0 1 = some 1 ∧ zs_R σ 0 2 = some 2 ∧ zs_R σ 0 4 = some 3 ∧ zs_R σ 0 5 = some 6 ∧ zs_R σ 0 6 = some 7 ∧ zs_R σ 0 7 = some 8 ∧ zs_K σ 1 = (101, 7) ∧ zs_K σ 2 = (116, 100) ∧ zs_K σ 6 = (110, 3) ∧ zs_K σ 7 = (114, 2) ∧ zs_K σ 8 = (113, 2) ∧ cpo σ ∧ czI σ 1 ∧ zs_I σ 3 2 = nI 0
theorem csh_of {σ τ : zs_S} {P : Nat} (hK : ∀ w, w < 9 → zs_K τ w = zs_K σ w) (hI : ∀ w q, w < 9 → zs_I τ w q = zs_I σ w q) (hR : ∀ w q, w < 6 → zs_R τ w q = zs_R σ w q) (h : csh σ P) : csh τ P := by
  obtain ⟨s1, s2, s3, s4, s5, s6, s7, s8, s9, s10, s11, s12, s13, s14, ⟨a1, a2, a3, a4, a5⟩, s16, s17⟩ := h
  exact ⟨by rw [hK _ (by decide)]; exact s1, by rw [hI _ _ (by decide)]; exact s2, by rw [hI _ _ (by decide)]; exact s3, by rw [hR _ _ (by decide)]; exact s4, by rw [hR _ _ (by decide)]; exact s5, by rw [hR _ _ (by decide)]; exact s6, by rw [hR _ _ (by decide)]; exact s7, by rw [hR _ _ (by decide)]; exact s8, by rw [hR _ _ (by decide)]; exact s9, by rw [hK _ (by decide)]; exact s10, by rw [hK _ (by decide)]; exact s11, by rw [hK _ (by decide)]; exact s12, by rw [hK _ (by decide)]; exact s13, by rw [hK _ (by decide)]; exact s14, ⟨by rw [hK _ (by decide)]; exact a1, by rw [hR _ _ (by decide)]; exact a2, by rw [hR _ _ (by decide)]; exact a3, by rw [hK _ (by decide)]; exact a4, by rw [hK _ (by decide)]; exact a5⟩, fun q => by rw [hI _ _ (by decide)]; exact s16 q, by rw [hI _ _ (by decide)]; exact s17⟩
def csl1 (σ : zs_S) (l : Nat) : Prop := zs_R σ 6 l = some (9 + 3 * l) ∧ cln σ (9 + 3 * l) ∧ czI σ (10 + 3 * l) ∧ czI σ (11 + 3 * l)
theorem csl1_of {σ τ : zs_S} {l : Nat} (hK : ∀ w, w < 12 + 3 * l → zs_K τ w = zs_K σ w) (hI : ∀ w q, w < 12 + 3 * l → zs_I τ w q = zs_I σ w q) (hR : ∀ q, zs_R τ (9 + 3 * l) q = zs_R σ (9 + 3 * l) q) (h6 : zs_R τ 6 l = zs_R σ 6 l) (h : csl1 σ l) : csl1 τ l := by
  obtain ⟨a0, ⟨a1, a2, a3, a4, a5⟩, a6, a7⟩ := h
  exact ⟨by rw [h6]; exact a0, ⟨by rw [hK _ (by omega)]; exact a1, by rw [hR]; exact a2, by rw [hR]; exact a3, by rw [hK _ (by omega)]; exact a4, by rw [hK _ (by omega)]; exact a5⟩, fun q => by rw [hI _ _ (by omega)]; exact a6 q, fun q => by rw [hI _ _ (by omega)]; exact a7 q⟩
def css1 (σ : zs_S) (s : Nat) : Prop := zs_R σ 7 s = some (18 + 3 * s) ∧ csq σ (18 + 3 * s) ∧ zs_I σ (18 + 3 * s) 1 = nI 0 ∧ zs_I σ (18 + 3 * s) 3 = nI 0 ∧ zs_I σ (18 + 3 * s) 4 = nI 1
theorem css1_of {σ τ : zs_S} {s : Nat} (hK : ∀ w, w < 21 + 3 * s → zs_K τ w = zs_K σ w) (hI : ∀ w q, w < 21 + 3 * s → zs_I τ w q = zs_I σ w q) (hR : ∀ q, zs_R τ (18 + 3 * s) q = zs_R σ (18 + 3 * s) q) (h7 : zs_R τ 7 s = zs_R σ 7 s) (h : css1 σ s) : css1 τ s := by
  obtain ⟨a0, ⟨a1, a2, a3, a4, a5⟩, a6, a7, a8⟩ := h
  exact ⟨by rw [h7]; exact a0, ⟨by rw [hK _ (by omega)]; exact a1, by rw [hR]; exact a2, by rw [hR]; exact a3, by rw [hK _ (by omega)]; exact a4, by rw [hK _ (by omega)]; exact a5⟩, by rw [hI _ _ (by omega)]; exact a6, by rw [hI _ _ (by omega)]; exact a7, by rw [hI _ _ (by omega)]; exact a8⟩
def csr1 (σ : zs_S) (P v : Nat) : Prop := crh σ v P ∧ (∀ p, p < P → crq σ v P p) ∧ ∀ q, q < 12 → zs_I σ (v + 3) q = nI 100 ∧ zs_I σ (v + 4) q = nI 100
theorem csr1_of {σ τ : zs_S} {P v : Nat} (h : csr1 σ P v) (hc : cold σ τ (v + 8 + 4 * P)) : csr1 τ P v := by
  obtain ⟨a, b, c⟩ := h
  exact ⟨crh_of (fun w hw => (hc w (by omega)).1) (fun w q hw => ((hc w (by omega)).2 q).1) (fun q => ((hc v (by omega)).2 q).2) (fun q => ((hc (v + 1) (by omega)).2 q).2) a, fun p hp => crq_of (fun w hw => (hc w (by omega)).1) (fun w q _ hw => ((hc w (by omega)).2 q).1) (fun q => ((hc _ (by omega)).2 q).2) ((hc _ (by omega)).2 p).2 (b p hp), fun q hq => ⟨by rw [((hc _ (by omega)).2 q).1]; exact (c q hq).1, by rw [((hc _ (by omega)).2 q).1]; exact (c q hq).2⟩⟩
theorem csb_init {σ : zs_S} {P : Nat} (h0 : 0 < P) (h4 : P ≤ 4) (h : csh σ P) (hl : ∀ l, l < 3 → csl1 σ l) (hs : ∀ s, s < 2 → css1 σ s) (hr : ∀ r, r < 2 → zs_R σ 8 r = some (crv P r) ∧ csr1 σ P (crv P r)) : csb σ P := by
  obtain ⟨s1, s2, s3, s4, s5, s6, s7, s8, s9, s10, s11, s12, s13, s14, s15, s16, s17⟩ := h
  refine ⟨s1, s2, s4, s5, s6, s7, s8, s9, s10, s11, s12, s13, s14, s15, fun l z => ⟨(hl l z).1, (hl l z).2.1⟩, fun s z => ⟨(hs s z).1, (hs s z).2.1⟩, fun r z => ⟨(hr r z).1, ?_⟩, h0, h4⟩
  obtain ⟨_, ⟨t1, t2, t3, t4, t5, t6, t7, t8, t9, t10, t11, t12, t13, t14, t15, _⟩, b, _⟩ := hr r z
  exact ⟨t1, t2, t3, t4, t5, t6, t7, t8, t9, t10, t11, t12, t13, t14, t15, fun p hp => ⟨(b p hp).1, (b p hp).2.1⟩⟩
