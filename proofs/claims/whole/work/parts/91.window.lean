/-! Windows of the log, and what is ready in them. -/
theorem nodup_inj {l : List Nat} (hd : l.Nodup) {i j t : Nat} (h1 : l[i]? = some t) (h2 : l[j]? = some t) : i = j := by
  obtain ⟨q1, e1⟩ := List.getElem?_eq_some_iff.mp h1
  obtain ⟨q2, e2⟩ := List.getElem?_eq_some_iff.mp h2
  have h := List.pairwise_iff_getElem.mp hd
  rcases Nat.lt_trichotomy i j with g | g | g
  · exact absurd (e1.trans e2.symm) (h i j q1 q2 g)
  · exact g
  · exact absurd (e2.trans e1.symm) (h j i q2 q1 g)
theorem mpre_at (l : List Nat) (b i j : Nat) : (mpre l b i)[j]? = if b + j < i then l[b + j]? else none := by
  unfold mpre
  rw [List.getElem?_take]
  by_cases h : j < i - b
  · rw [if_pos h, if_pos (by omega), List.getElem?_drop]
  · rw [if_neg h, if_neg (by omega)]
theorem mpre_mem {l : List Nat} {b i t : Nat} : t ∈ mpre l b i ↔ ∃ j, b ≤ j ∧ j < i ∧ l[j]? = some t := by
  rw [List.mem_iff_getElem?]
  constructor
  · rintro ⟨j, h⟩
    rw [mpre_at] at h
    split at h
    · exact ⟨b + j, by omega, by assumption, h⟩
    · simp at h
  · rintro ⟨j, h1, h2, h3⟩
    refine ⟨j - b, ?_⟩
    rw [mpre_at, show b + (j - b) = j by omega, if_pos h2]
    exact h3
theorem mpre_nodup {l : List Nat} (h : l.Nodup) (b i : Nat) : (mpre l b i).Nodup := List.Nodup.sublist ((List.take_sublist _ _).trans (List.drop_sublist _ _)) h
theorem mpre_app (l l2 : List Nat) (b i : Nat) (h : i ≤ l.length) : mpre (l ++ l2) b i = mpre l b i := by
  apply List.ext_getElem?
  intro j
  rw [mpre_at, mpre_at]
  split
  · rw [List.getElem?_append_left (by omega)]
  · rfl
theorem mwin_nodup (N : Nat → Nat → Nat) (V : Nat → Nat → Int32) (r p : Nat) : (mwin N V r p).Nodup := List.Pairwise.filter _ (mpre_nodup (mline_nodup N V r) _ _)
theorem mwin_mem {N : Nat → Nat → Nat} {V : Nat → Nat → Int32} {r p t : Nat} : t ∈ mwin N V r p ↔ t ∈ mpre (mline N V r) (N 24 r) (N 25 (4 * r + p)) ∧ N 27 (400 * r + 100 * p + t) = 0 := by
  unfold mwin
  rw [List.mem_filter, mpnd, decide_eq_true_eq]
theorem mwin_congr {N N' : Nat → Nat → Nat} {V V' : Nat → Nat → Int32} {r p : Nat} (l2 : List Nat) (hl : mline N' V' r = mline N V r ++ l2) (h24 : N' 24 r = N 24 r) (h25 : N' 25 (4 * r + p) = N 25 (4 * r + p)) (hle : N 25 (4 * r + p) ≤ (mline N V r).length) (h27 : ∀ t, t < N 0 2 → N' 27 (400 * r + 100 * p + t) = N 27 (400 * r + 100 * p + t)) : mwin N' V' r p = mwin N V r p := by
  unfold mwin
  rw [hl, h24, h25, mpre_app _ _ _ _ hle]
  refine List.filter_congr (fun t ht => ?_)
  obtain ⟨j, _, _, hj⟩ := mpre_mem.mp ht
  have := (mline_mem (List.mem_of_getElem? hj)).1
  unfold mpnd
  rw [h27 t this]
theorem mwin_push {N N' : Nat → Nat → Nat} {V : Nat → Nat → Int32} {r p t : Nat} (hl : mline N' V r = mline N V r) (h24 : N' 24 r = N 24 r) (h25 : N' 25 (4 * r + p) = N 25 (4 * r + p) + 1) (hb : N 24 r ≤ N 25 (4 * r + p)) (ht : (mline N V r)[N 25 (4 * r + p)]? = some t) (h27 : ∀ u, ¬ u = t → N' 27 (400 * r + 100 * p + u) = N 27 (400 * r + 100 * p + u)) : mwin N' V r p = mwin N V r p ++ (if N' 27 (400 * r + 100 * p + t) = 0 then [t] else []) := by
  unfold mwin
  rw [hl, h24, h25, mpre_s hb ht, List.filter_append]
  congr 1
  · refine List.filter_congr (fun u hu => ?_)
    have : ¬ u = t := by
      rintro rfl
      obtain ⟨j, h1, h2, h3⟩ := mpre_mem.mp hu
      have := nodup_inj (mline_nodup N V r) h3 ht
      omega
    unfold mpnd
    rw [h27 u this]
  · rw [List.filter_cons, mpnd]
    by_cases g : N' 27 (400 * r + 100 * p + t) = 0 <;> simp [g]
theorem filter_erase {t : Nat} : ∀ {l : List Nat} {j : Nat}, l.Nodup → l[j]? = some t → l.filter (fun x => decide (¬ x = t)) = l.eraseIdx j
  | [], j, _, h => by simp at h
  | a :: l, 0, hd, h => by
    simp only [List.getElem?_cons_zero, Option.some.injEq] at h
    subst h
    rw [List.nodup_cons] at hd
    rw [List.filter_cons, List.eraseIdx_cons_zero]
    simp only [not_true_eq_false, decide_false, Bool.false_eq_true, if_false]
    refine List.filter_eq_self.mpr (fun x hx => ?_)
    simp only [decide_eq_true_eq]
    rintro rfl
    exact hd.1 hx
  | a :: l, j + 1, hd, h => by
    rw [List.getElem?_cons_succ] at h
    rw [List.nodup_cons] at hd
    have : ¬ a = t := by
      rintro rfl
      exact hd.1 (List.mem_of_getElem? h)
    rw [List.filter_cons, if_pos (by simpa using this), List.eraseIdx_cons_succ, filter_erase hd.2 h]
theorem mwin_fin {N N' : Nat → Nat → Nat} {V V' : Nat → Nat → Int32} {r p t j : Nat} (hl : mline N' V' r = mline N V r) (h24 : N' 24 r = N 24 r) (h25 : N' 25 (4 * r + p) = N 25 (4 * r + p)) (h27 : ∀ u, N' 27 (400 * r + 100 * p + u) = if u = t then 1 else N 27 (400 * r + 100 * p + u)) (hj : (mwin N V r p)[j]? = some t) : mwin N' V' r p = (mwin N V r p).eraseIdx j := by
  rw [← filter_erase (mwin_nodup N V r p) hj]
  unfold mwin
  rw [hl, h24, h25, List.filter_filter]
  refine List.filter_congr (fun u _ => ?_)
  unfold mpnd
  rw [h27]
  by_cases g : u = t <;> simp [g]
theorem mrl_filter (pend look : Nat → Bool) (qr : Nat → Nat → Bool) : ∀ (a pre : List Nat), mrl pend look qr pre a = mrl (fun _ => true) look qr (pre.filter pend) (a.filter pend)
  | [], pre => rfl
  | t :: a, pre => by
    rw [mrl, mrl_filter pend look qr a, List.filter_append]
    by_cases h : pend t = true
    · rw [List.filter_cons_of_pos h, List.filter_cons_of_pos h, List.filter_nil, mrl.eq_2 (fun _ => true)]
      congr 1
      unfold mrdy
      rw [h, List.all_filter]
      simp
    · rw [List.filter_cons_of_neg h, List.filter_cons_of_neg h, List.filter_nil, List.append_nil]
      unfold mrdy
      simp [h]
def mri (look : Nat → Bool) (qr : Nat → Nat → Bool) (W : List Nat) (j : Nat) : Bool := match W[j]? with
  | some t => mrdy (fun _ => true) look qr (W.take j) t
  | none => false
theorem mrl_take (look : Nat → Bool) (qr : Nat → Nat → Bool) (W : List Nat) : ∀ n, n ≤ W.length → (mrl (fun _ => true) look qr [] (W.take n)).length = mC (mri look qr W) n ∧ ∀ i t, (mrl (fun _ => true) look qr [] (W.take n))[i]? = some t ↔ ∃ j, j < n ∧ mri look qr W j = true ∧ mC (mri look qr W) j = i ∧ W[j]? = some t
  | 0, _ => by
    refine ⟨rfl, fun i t => ?_⟩
    simp [mrl]
  | n + 1, hn => by
    obtain ⟨h1, h2⟩ := mrl_take look qr W n (by omega)
    have hn' : n < W.length := by omega
    have e0 : W[n]? = some W[n] := List.getElem?_eq_getElem hn'
    have e1 : W.take (n + 1) = W.take n ++ [W[n]] := by
      rw [List.take_add_one, e0]; rfl
    have e2 : mri look qr W n = mrdy (fun _ => true) look qr (W.take n) W[n] := by
      unfold mri
      rw [e0]
    rw [e1, mrl_app, List.nil_append]
    have e3 : mrl (fun _ => true) look qr (W.take n) [W[n]] = if mri look qr W n = true then [W[n]] else [] := by
      rw [mrl, mrl, List.append_nil, e2]
    rw [e3]
    constructor
    · rw [List.length_append, h1, mC_s]
      split <;> simp
    · intro i t
      rw [List.getElem?_append]
      rw [h1]
      split
      · rename_i hi
        rw [h2]
        constructor
        · rintro ⟨j, a, b⟩; exact ⟨j, by omega, b⟩
        · rintro ⟨j, a, b, c, d⟩
          by_cases e : j = n
          · subst e; omega
          · exact ⟨j, by omega, b, c, d⟩
      · rename_i hi
        constructor
        · intro h
          split at h
          · rename_i hr
            by_cases e : i - mC (mri look qr W) n = 0
            · rw [e, List.getElem?_cons_zero] at h
              exact ⟨n, by omega, hr, by omega, by rw [e0]; exact h⟩
            · obtain ⟨q, hq⟩ : ∃ q, i - mC (mri look qr W) n = q + 1 := ⟨i - mC (mri look qr W) n - 1, by omega⟩
              rw [hq, List.getElem?_cons_succ, List.getElem?_nil] at h
              simp at h
          · rw [List.getElem?_nil] at h; simp at h
        · rintro ⟨j, a, b, c, d⟩
          by_cases e : j = n
          · subst e
            rw [if_pos b, ← c, Nat.sub_self, List.getElem?_cons_zero, ← e0]
            exact d
          · exfalso
            have hm : ∀ m, j + 1 ≤ m → mC (mri look qr W) (j + 1) ≤ mC (mri look qr W) m := by
              intro m hm
              induction m with
              | zero => omega
              | succ m ih =>
                by_cases e' : j + 1 = m + 1
                · rw [e']; exact Nat.le_refl _
                · have := ih (by omega)
                  rw [mC_s _ m]
                  omega
            have := hm n (by omega)
            rw [mC_s, b] at this
            simp at this
            omega
theorem mC_congr {X Y : Nat → Bool} : ∀ n, (∀ j, j < n → X j = Y j) → mC X n = mC Y n
  | 0, _ => rfl
  | n + 1, h => by rw [mC_s, mC_s, mC_congr n (fun j hj => h j (by omega)), h n (by omega)]
theorem mrdl_win (N : Nat → Nat → Nat) (V : Nat → Nat → Int32) (r p : Nat) : (mrdl N V r p).length = mC (mri (mlkd N r p) (mQ N V p) (mwin N V r p)) (mwin N V r p).length ∧ ∀ i t, (mrdl N V r p)[i]? = some t ↔ ∃ j, j < (mwin N V r p).length ∧ mri (mlkd N r p) (mQ N V p) (mwin N V r p) j = true ∧ mC (mri (mlkd N r p) (mQ N V p) (mwin N V r p)) j = i ∧ (mwin N V r p)[j]? = some t := by
  have h := mrl_take (mlkd N r p) (mQ N V p) (mwin N V r p) (mwin N V r p).length (Nat.le_refl _)
  rw [List.take_length] at h
  have e : mrdl N V r p = mrl (fun _ => true) (mlkd N r p) (mQ N V p) [] (mwin N V r p) := by
    unfold mrdl
    rw [mrl_filter]
    rfl
  rw [e]
  exact h
