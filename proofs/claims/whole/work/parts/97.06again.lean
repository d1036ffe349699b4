/-! A sequencer is taken up again: the reference. -/
theorem mbst_congr {N N' : Nat → Nat → Nat} {a : Nat} (h1 : ∀ l, l < 3 → N' 1 l = N 1 l) (h13 : ∀ l, l < 3 → N' 13 (40 * l + a) = N 13 (40 * l + a)) : ∀ n, n ≤ 3 → mbst N' a n = mbst N a n
  | 0, _ => rfl
  | n + 1, hn => by rw [mbst, mbst, mbst_congr h1 h13 n (by omega), h1 n (by omega), h13 n (by omega)]
theorem cem_bst {N : Nat → Nat → Nat} {a : Nat} {Y : Nat → Nat} (hY : ∀ w, Y w < 2) (h : ∀ l, l < 3 → N 13 (40 * l + a) = 0 ∨ ∃ w, 1 ≤ w ∧ N 13 (40 * l + a) = 2 * w + Y w) : cem (N 1) (fun l => N 13 (40 * l + a)) = if mbst N a 3 % 2 = 1 then 1 else 0 := by
  have key : ∀ n, n ≤ 3 → (cgr (N 1) (fun l => N 13 (40 * l + a)) n = 0 ∧ mbst N a n = 1) ∨ (cgr (N 1) (fun l => N 13 (40 * l + a)) n = mbst N a n ∧ ∃ w, 1 ≤ w ∧ mbst N a n = 2 * w + Y w) := by
    intro n
    induction n with
    | zero => intro _; exact Or.inl ⟨rfl, rfl⟩
    | succ n ih =>
      intro hn
      have ih := ih (by omega)
      rw [cgr, mbst]
      by_cases hd : N 1 n = 0
      · simp only [hd, if_true, true_and]
        rcases h n (by omega) with z | ⟨w, w1, z⟩
        · rw [if_neg (by omega), if_neg (by omega)]
          exact ih
        · have hw := hY w
          rcases ih with ⟨i1, i2⟩ | ⟨i1, w', w2, i2⟩
          · rw [if_pos (by omega), if_pos (by omega)]
            exact Or.inr ⟨rfl, w, w1, z⟩
          · have hw' := hY w'
            rcases Nat.lt_trichotomy w' w with q | q | q
            · rw [if_pos (by omega), if_pos (by omega)]
              exact Or.inr ⟨rfl, w, w1, z⟩
            · subst q
              rw [if_neg (by omega), if_neg (by omega)]
              exact Or.inr ⟨i1, w', w2, i2⟩
            · rw [if_neg (by omega), if_neg (by omega)]
              exact Or.inr ⟨i1, w', w2, i2⟩
      · simp only [hd, if_false, false_and]
        exact ih
  unfold cem
  rcases key 3 (Nat.le_refl _) with ⟨a1, a2⟩ | ⟨a1, w, w1, a2⟩
  · rw [a1, a2]; rfl
  · rw [a1]
    have : ¬ mbst N a 3 = 0 := by omega
    simp only [this, false_or]
/-- what a slot is proposed as -/
def memp (N : Nat → Nat → Nat) (a : Nat) : Nat := if mbst N a 3 % 2 = 1 then 1 else 0
theorem memp_lt (N : Nat → Nat → Nat) (a : Nat) : memp N a < 2 := by unfold memp; split <;> omega
theorem mag_rows (N : Nat → Nat → Nat) (s : Nat) : ∀ e, (∀ q, mag N s e 10 q = if 20 * s ≤ q ∧ q < 20 * s + e ∧ N 11 q = 0 then memp N q else N 10 q) ∧ (∀ q, mag N s e 12 q = if 20 * s ≤ q ∧ q < 20 * s + e ∧ N 11 q = 0 then 0 else N 12 q)
  | 0 => ⟨fun q => by rw [if_neg (by omega)]; rfl, fun q => by rw [if_neg (by omega)]; rfl⟩
  | e + 1 => by
    obtain ⟨i1, i2⟩ := mag_rows N s e
    have h11 := mag_o N s (j := 11) (20 * s + e) (by omega) (by omega) (by omega) (by omega) e
    have hb : mbst (mag N s e) (20 * s + e) 3 = mbst N (20 * s + e) 3 := mbst_congr (fun l _ => mag_o N s _ (by omega) (by omega) (by omega) (by omega) e) (fun l _ => mag_o N s _ (by omega) (by omega) (by omega) (by omega) e) 3 (Nat.le_refl _)
    have hm : (if mbst (mag N s e) (20 * s + e) 3 % 2 = 1 then 1 else 0) = memp N (20 * s + e) := by rw [hb]; rfl
    constructor
    · intro q
      rw [mag, mag1, h11]
      by_cases g : N 11 (20 * s + e) = 0
      · rw [if_pos g, mspread_o _ _ _ (by omega) (by omega), zup_at, if_neg (by omega), zup_at, hm]
        by_cases z : q = 20 * s + e
        · subst z
          rw [if_pos ⟨rfl, rfl⟩, if_pos (by omega)]
        · rw [if_neg (by omega), i1]
          have : (q < 20 * s + (e + 1)) ↔ (q < 20 * s + e) := by omega
          simp only [this]
      · rw [if_neg g, i1]
        by_cases z : q = 20 * s + e
        · subst z
          rw [if_neg (by omega), if_neg (by omega)]
        · have : (q < 20 * s + (e + 1)) ↔ (q < 20 * s + e) := by omega
          simp only [this]
    · intro q
      rw [mag, mag1, h11]
      by_cases g : N 11 (20 * s + e) = 0
      · rw [if_pos g, mspread_o _ _ _ (by omega) (by omega), zup_at]
        by_cases z : q = 20 * s + e
        · subst z
          rw [if_pos ⟨rfl, rfl⟩, if_pos (by omega)]
        · rw [if_neg (by omega), zup_at, if_neg (by omega), i2]
          have : (q < 20 * s + (e + 1)) ↔ (q < 20 * s + e) := by omega
          simp only [this]
      · rw [if_neg g, i2]
        by_cases z : q = 20 * s + e
        · subst z
          rw [if_neg (by omega), if_neg (by omega)]
        · have : (q < 20 * s + (e + 1)) ↔ (q < 20 * s + e) := by omega
          simp only [this]
theorem mag_mpl (N : Nat → Nat → Nat) (s v : Nat) (hv : N 9 s = v) : ∀ e, e ≤ 20 → mpl (mag N s e) = mpl N ++ cstm s v (fun e => if N 11 (20 * s + e) = 0 then 0 else 1) (fun e => memp N (20 * s + e)) e
  | 0, _ => by rw [cstm, List.append_nil]; rfl
  | e + 1, he => by
    have ih := mag_mpl N s v hv e (by omega)
    have h11 := mag_o N s (j := 11) (20 * s + e) (by omega) (by omega) (by omega) (by omega) e
    have h9 := mag_o N s (j := 9) s (by omega) (by omega) (by omega) (by omega) e
    have hb : mbst (mag N s e) (20 * s + e) 3 = mbst N (20 * s + e) 3 := mbst_congr (fun l _ => mag_o N s _ (by omega) (by omega) (by omega) (by omega) e) (fun l _ => mag_o N s _ (by omega) (by omega) (by omega) (by omega) e) 3 (Nat.le_refl _)
    have hm : (if mbst (mag N s e) (20 * s + e) 3 % 2 = 1 then 1 else 0) = memp N (20 * s + e) := by rw [hb]; rfl
    have e1 : (20 * s + e) / 20 = s := by omega
    have e2 : (20 * s + e) % 20 = e := by omega
    rw [cstm, mag, mag1, h11]
    by_cases g : N 11 (20 * s + e) = 0
    · rw [if_pos g, mspread_mpl, e1, e2, hm]
      simp only [g, if_true]
      rw [zup_at, if_neg (by omega), zup_at, if_pos ⟨rfl, rfl⟩, zup_at, if_neg (by omega), zup_at, if_neg (by omega), h9, hv, zup_at, if_pos ⟨rfl, rfl⟩]
      have em : mpl (zup (zup (mag N s e) 10 (20 * s + e) (memp N (20 * s + e))) 12 (20 * s + e) 0) = mpl (mag N s e) := by
        have z : ∀ j q, ¬ j = 10 → ¬ j = 12 → zup (zup (mag N s e) 10 (20 * s + e) (memp N (20 * s + e))) 12 (20 * s + e) 0 j q = mag N s e j q := fun j q a b => by rw [zup_at, if_neg (by omega), zup_at, if_neg (by omega)]
        exact mpl_of (z _ _ (by omega) (by omega)) (fun i _ => ⟨mcode_of (fun m _ _ => z _ _ (by omega) (by omega)), z _ _ (by omega) (by omega)⟩)
      have ef : (fun l => 0 / 2 ^ l % 2) = (fun _ : Nat => 0) := by funext l; rw [Nat.zero_div]
      rw [em, ih, List.append_assoc, ef]
    · rw [if_neg g]
      simp only [g, if_false]
      rw [if_neg (by decide), List.append_nil]
      exact ih
theorem cstm_und (s v : Nat) (N : Nat → Nat → Nat) (em : Nat → Nat) : ∀ m, (cstm s v (fun e => if N 11 (20 * s + e) = 0 then 0 else 1) em m).length ≤ 3 * mC (fun e => decide (N 11 (20 * s + e) = 0)) m
  | 0 => Nat.le_refl _
  | m + 1 => by
    have ih := cstm_und s v N em m
    rw [cstm, List.length_append, mC_s]
    by_cases g : N 11 (20 * s + m) = 0
    · have := cstl_le s m (em m) v (fun _ => 0) 3
      simp only [g, if_true, decide_true]
      omega
    · simp only [g, if_false, decide_false]
      rw [if_neg (by decide), List.length_nil]
      simp
      omega
theorem mal_mag {N : Nat → Nat → Nat} {F : Nat → Nat → Nat → Nat → Nat → Prop} (h : mal N F) (s : Nat) : ∀ m, m ≤ 20 → (∀ e l, e < m → l < 3 → N 11 (20 * s + e) = 0 → F 1 l (20 * s + e) (memp N (20 * s + e)) (N 9 s)) → mal (mag N s m) F
  | 0, _, _ => h
  | e + 1, he, hF => by
    have ih := mal_mag h s e (by omega) (fun e' l a b c => hF e' l (by omega) b c)
    have h11 := mag_o N s (j := 11) (20 * s + e) (by omega) (by omega) (by omega) (by omega) e
    have h9 := mag_o N s (j := 9) s (by omega) (by omega) (by omega) (by omega) e
    have hb : mbst (mag N s e) (20 * s + e) 3 = mbst N (20 * s + e) 3 := mbst_congr (fun l _ => mag_o N s _ (by omega) (by omega) (by omega) (by omega) e) (fun l _ => mag_o N s _ (by omega) (by omega) (by omega) (by omega) e) 3 (Nat.le_refl _)
    have hm : (if mbst (mag N s e) (20 * s + e) 3 % 2 = 1 then 1 else 0) = memp N (20 * s + e) := by rw [hb]; rfl
    have e1 : (20 * s + e) / 20 = s := by omega
    rw [mag, mag1, h11]
    by_cases g : N 11 (20 * s + e) = 0
    · rw [if_pos g, hm]
      have z : ∀ j q, ¬ j = 10 → ¬ j = 12 → zup (zup (mag N s e) 10 (20 * s + e) (memp N (20 * s + e))) 12 (20 * s + e) 0 j q = mag N s e j q := fun j q a b => by rw [zup_at, if_neg (by omega), zup_at, if_neg (by omega)]
      refine mal_spread (mal_of ih (z _ _ (by omega) (by omega)) (fun j q _ _ => z _ _ (by omega) (by omega))) _ (fun l hl => ?_)
      rw [z 9 _ (by omega) (by omega), e1, h9, zup_at, if_neg (by omega), zup_at, if_pos ⟨rfl, rfl⟩]
      exact hF e l (by omega) hl g
    · rw [if_neg g]
      exact ih
theorem mag_lt {N : Nat → Nat → Nat} (hN : ∀ j k, N j k < 100000) (s : Nat) (hs : s < 2) (hu : N 0 16 ≤ 100) : ∀ m, m ≤ 20 → ∀ j q, mag N s m j q < 100000
  | 0, _ => hN
  | e + 1, he => by
    have ih := mag_lt hN s hs hu e (by omega)
    rw [mag]
    refine mag1_lt ih (by omega) ?_
    have h := mag_mpl N s (N 9 s) rfl e (by omega)
    have hl : (mpl (mag N s e)).length = mag N s e 0 16 := mpl_len _
    rw [h, List.length_append, mpl_len] at hl
    have := cstm_und s (N 9 s) N (fun e => memp N (20 * s + e)) e
    have := mC_le (fun e => decide (N 11 (20 * s + e) = 0)) e
    omega
