/-! A transaction is finished at a partition. -/
theorem mall_iff (N : Nat → Nat → Nat) (V : Nat → Nat → Int32) (r p t P : Nat) (hP : N 0 0 = P) (h0 : 0 < P) : mall N V r p t P = true ↔ ∀ k, k < 12 → mR N V t k = true → (k % P = p ∨ ¬ N 28 (16 * (100 * r + t) + 4 * (k % P) + p) = 0) := by
  unfold mall
  rw [List.all_eq_true]
  constructor
  · intro h k hk hR
    have q := h (k % P) (List.mem_range.mpr (Nat.mod_lt _ h0))
    unfold mallx at q
    rw [hP] at q
    simp only [Bool.or_eq_true, decide_eq_true_eq, Bool.not_eq_true'] at q
    rcases q with (q | q) | q
    · exact Or.inl q
    · exfalso
      have : mE (mR N V t) P (k % P) (k % P) = true := (mE_set _ _ _).mpr ⟨k, hk, hR, rfl⟩
      rw [q] at this
      exact absurd this (by decide)
    · exact Or.inr q
  · intro h q hq
    have hq := List.mem_range.mp hq
    unfold mallx
    rw [hP]
    simp only [Bool.or_eq_true, decide_eq_true_eq, Bool.not_eq_true']
    by_cases g : q = p
    · exact Or.inl (Or.inl g)
    · cases e : mE (mR N V t) P q q with
      | false => exact Or.inl (Or.inr rfl)
      | true =>
        right
        obtain ⟨k, k1, k2, k3⟩ := (mE_set _ _ _).mp e
        rcases h k k1 k2 with y | y
        · omega
        · rw [k3] at y; exact y
theorem mout_24 (k : Nat) (n : Int32) (f : Bool) (x y y' : Int32) (h : k = 2 ∨ k = 4) : mout k n f x y = mout k n f x y' := by
  unfold mout
  rcases h with rfl | rfl <;> simp
theorem place_eq {r r' p p' t t' : Nat} (hp : p < 4) (hp' : p' < 4) (ht : t < 100) (ht' : t' < 100) (h : 400 * r' + 100 * p' + t' = 400 * r + 100 * p + t) : r' = r ∧ p' = p ∧ t' = t := by omega
theorem fin_inv {P k : Nat} {X N : Nat → Nat → Nat} {V : Nat → Nat → Int32} (h : inv P k X N V) {r p j t : Nat} (hr : r < 2) (hp : p < P) (hj : (mwin N V r p)[j]? = some t) : inv P k X (zup N 27 (400 * r + 100 * p + t) 1) (mfinV N V r p t 12) := by
  have o : ∀ j q, ¬ j = 27 → zup N 27 (400 * r + 100 * p + t) 1 j q = N j q := fun j q c => by rw [zup_at, if_neg (by omega)]
  have v : ∀ j q, ¬ j = 21 → mfinV N V r p t 12 j q = V j q := fun j q c => by rw [mfinV_o N V r p t 12 c]
  have ml : ∀ r', mline (zup N 27 (400 * r + 100 * p + t) 1) (mfinV N V r p t 12) r' = mline N V r' := fun r' => mline_of (o 0 2 (by omega)) (fun q => o 6 q (by omega)) (fun q => o 11 q (by omega)) (fun q => o 20 q (by omega)) (fun q => v 7 q (by omega))
  have htT := win_t h (List.mem_of_getElem? hj)
  obtain ⟨iA, hb, hc, hd, he⟩ := h
  have hT := hb.1
  have hP := iA.2.2.2.1
  refine ⟨iA_of iA (zh_up iA.1 (by omega) 27 _) (o 0 0 (by omega)) (fun q => o 1 q (by omega)), iB_of hb (o 0 2 (by omega)) (fun q => o 2 q (by omega)) (fun q => o 3 q (by omega)) (fun q => o 6 q (by omega)) (fun s _ => by rw [o 8 s (by omega)]; exact Nat.le_refl _) (fun q => v _ _ (by omega)) (fun q => v _ _ (by omega)) (fun q => v _ _ (by omega)), iC_of hc (Nat.le_refl _) (fun j q _ _ => o j q (by omega)), ⟨?_, ?_⟩, fun r' hr' => ?_⟩
  · rw [o 0 16 (by omega), mund_of (N := N) (o 8 _ (by omega)) (fun q => o 11 q (by omega)), mund_of (N := N) (o 8 _ (by omega)) (fun q => o 11 q (by omega))]
    exact hd.1
  · refine mal_of (N := N) (mal_mono hd.2 (mwf_mono ?_ ?_ ?_ ?_ ?_ ?_ ?_)) (o 0 16 (by omega)) (fun j q _ _ => o j q (by omega))
    · intro q _; rw [o 8 _ (by omega)]; exact Nat.le_refl _
    · intro q _; rw [o 9 _ (by omega)]; exact Nat.le_refl _
    · intro a _ q; rw [o 11 _ (by omega)]; exact q
    · rw [o 0 2 (by omega)]; exact Nat.le_refl _
    · exact o 0 0 (by omega)
    · intro r _ q; rw [o 1 _ (by omega)]; exact q
    · intro a w _ _; rfl
  · obtain ⟨e1, e2, e3, e4, e5⟩ := he r' hr'
    refine ⟨fun q => by rw [o 20 _ (by omega)]; exact e1 q, fun a ha z => by rw [o 20 _ (by omega)] at z; rw [o 11 _ (by omega)]; exact e2 a ha z, by rw [o 23 _ (by omega), ml]; exact e3, fun p' hp' => by rw [o 24 _ (by omega), o 25 _ (by omega), ml]; exact e4 p' hp', fun p' hp' => ?_⟩
    by_cases g : r' = r ∧ p' = p
    · obtain ⟨g1, g2⟩ := g
      subst g1
      subst g2
      have w' : mwin (zup N 27 (400 * r' + 100 * p' + t) 1) (mfinV N V r' p' t 12) r' p' = (mwin N V r' p').eraseIdx j := mwin_fin (ml r') (o 24 _ (by omega)) (o 25 _ (by omega)) (fun u => by
        rw [zup_at]
        by_cases z : u = t
        · rw [if_pos ⟨rfl, by rw [z]⟩, if_pos z]
        · rw [if_neg (by omega), if_neg z]) hj
      refine ⟨?_, fun u hu => ?_⟩
      · rw [w']
        have := (e5 p' hp').1
        have := List.length_eraseIdx_le (mwin N V r' p') j
        omega
      · have q := (e5 p' hp').2 u hu
        rw [o 26 _ (by omega), ml, o 24 _ (by omega), o 25 _ (by omega), zup_at]
        refine ⟨q.1, ?_, fun z => ?_⟩
        · split
          · omega
          · exact q.2.1
        · by_cases y : u = t
          · rw [y]; exact (mwin_mem.mp (List.mem_of_getElem? hj)).1
          · rw [if_neg (by omega)] at z
            exact q.2.2 z
    · refine iP_of [] (e5 p' hp') hb.1 (by rw [List.append_nil]; exact ml r') (o 24 _ (by omega)) (o 25 _ (by omega)) (e4 p' (by omega)).2 (fun u _ => o 26 _ (by omega)) (fun u hu => ?_)
      rw [zup_at, if_neg]
      rintro ⟨_, z⟩
      have := place_eq (by omega) (by omega) (by omega) hu z
      exact g ⟨this.1, this.2.1⟩
theorem erase_at {l : List Nat} {j i t : Nat} (hj : j < l.length) (h : (l.eraseIdx j)[i]? = some t) : (i < j ∧ l[i]? = some t) ∨ (j ≤ i ∧ i < l.length - 1 ∧ l[i + 1]? = some t) := by
  have hl := (List.getElem?_eq_some_iff.mp h).1
  rw [List.length_eraseIdx, if_pos hj] at hl
  rw [List.getElem?_eraseIdx] at h
  split at h
  · exact Or.inl ⟨by assumption, h⟩
  · exact Or.inr ⟨by omega, hl, h⟩
/-- the relation behind a finish: τ is what the class has made of ρ -/
theorem fin_rel {P M k : Nat} {X : Nat → Nat → Nat} {C : Nat → Nat} {W : Nat → Nat → Nat} {τ ρ : zs_S} {N : Nat → Nat → Nat} {V : Nat → Nat → Int32} (hi : inv P k X N V) (hr : rel P M C W ρ N V) {r p j t : Nat} (h2 : r < 2) (hp : p < P) (hj : (mwin N V r p)[j]? = some t) (nn : zs_n τ = zs_n ρ) (KK : zs_K τ = zs_K ρ)
    (ag : ∀ w, ¬ w = crv P r + 4 → ¬ w = crv P r + 8 + 4 * p → ¬ w = crv P r + 9 + 4 * p → ¬ w = crv P r + 10 + 4 * p → agr τ ρ w)
    (R4 : ∀ q, zs_R τ (crv P r + 4) q = zs_R ρ (crv P r + 4) q) (R8 : ∀ q, zs_R τ (crv P r + 8 + 4 * p) q = zs_R ρ (crv P r + 8 + 4 * p) q) (R10 : ∀ q, zs_R τ (crv P r + 10 + 4 * p) q = zs_R ρ (crv P r + 10 + 4 * p) q)
    (I4 : ∀ q, q < 12 → zs_I τ (crv P r + 4) q = mfinV N V r p t 12 21 (12 * r + q)) (I8 : ∀ q, zs_I τ (crv P r + 8 + 4 * p) q = if q = 4 then nI ((mwin N V r p).length - 1) else zs_I ρ (crv P r + 8 + 4 * p) q)
    (R9 : ∀ q, zs_R τ (crv P r + 9 + 4 * p) q = cshR (zs_R ρ (crv P r + 9 + 4 * p)) j ((mwin N V r p).length - 1) q) (I10 : ∀ q, zs_I τ (crv P r + 10 + 4 * p) q = cshf (zs_I ρ (crv P r + 10 + 4 * p)) j ((mwin N V r p).length - 1) q) : rel P M C W τ (zup N 27 (400 * r + 100 * p + t) 1) (mfinV N V r p t 12) := by
  have hP := hi.1.2.2.2.1
  have hb4 := inv_b4 hi
  have hT := hi.2.1.1
  have htT := win_t hi (List.mem_of_getElem? hj)
  have hjl := (List.getElem?_eq_some_iff.mp hj).1
  have hv := crv_le (P := P) (r := r) hP h2
  obtain ⟨⟨h1, hM, hn⟩, h3, h4, h5, h6, h7, h8, h9, h10⟩ := hr
  have o : ∀ j q, ¬ j = 27 → zup N 27 (400 * r + 100 * p + t) 1 j q = N j q := fun j q c => by rw [zup_at, if_neg (by omega)]
  have v : ∀ j q, ¬ j = 21 → mfinV N V r p t 12 j q = V j q := fun j q c => by rw [mfinV_o N V r p t 12 c]
  have ml : ∀ r', mline (zup N 27 (400 * r + 100 * p + t) 1) (mfinV N V r p t 12) r' = mline N V r' := fun r' => mline_of (o 0 2 (by omega)) (fun q => o 6 q (by omega)) (fun q => o 11 q (by omega)) (fun q => o 20 q (by omega)) (fun q => v 7 q (by omega))
  have bb : ∀ i, mbat (zup N 27 (400 * r + 100 * p + t) 1) (mfinV N V r p t 12) i (zup N 27 (400 * r + 100 * p + t) 1 0 2) = mbat N V i (N 0 2) := by
    intro i
    unfold mbat
    simp only [o 0 2 (by omega), fun q => o 6 q (by omega), fun q => v 7 q (by omega)]
  have lo : ∀ w, w < 24 → agr τ ρ w := fun w hw => ag w (by omega) (by omega) (by omega) (by omega)
  have hi' : ∀ w, M ≤ w → agr τ ρ w := fun w hw => ag w (by omega) (by omega) (by omega) (by omega)
  refine ⟨⟨csb_of (σ := ρ) (fun w _ => by rw [KK]) ((lo 0 (by omega)).2.1 0) (fun w q hw => ?_) h1, hM, by omega⟩, cdn_of h3 (lo 1 (by omega)) (fun x _ => o 1 x (by omega)), by rw [(lo 0 (by omega)).2.1, o 0 2 (by omega)]; exact h4, fun u hu => ?_, fun s hs => ⟨?_, fun e he => ?_⟩, ?_, fun l hl => rL_of (h8 l hl) (lo _ (by omega)) (lo _ (by omega)) (fun q => o 13 q (by omega)) (fun q => o 14 q (by omega)), ?_, fun r' hr' => ?_⟩
  · obtain ⟨w1, w2, w3, w4, w5, w6, w7⟩ := hw
    have w8 := (w7 r h2).2.2 p hp
    by_cases z4 : w = crv P r + 4
    · rw [z4]; exact R4 q
    · by_cases z8 : w = crv P r + 8 + 4 * p
      · rw [z8]; exact R8 q
      · by_cases z10 : w = crv P r + 10 + 4 * p
        · rw [z10]; exact R10 q
        · exact (ag w z4 z8 w8 z10).2.2 q
  · rw [o 0 2 (by omega)] at hu
    have tt := h5 u hu
    have := tt.2.1
    exact rT_of tt (by omega) ((lo 2 (by omega)).2.2 u) (hi' _ (by omega)) (o 2 u (by omega)) (o 3 u (by omega)) (o 6 u (by omega)) (v 4 u (by omega)) (v 5 u (by omega)) (v 7 u (by omega)) (Or.inl rfl)
  · exact rQ_of (h6 s hs).1 (lo _ (by omega)) (lo _ (by omega)) (mbl_of (o 0 2 (by omega)) (fun q => o 6 q (by omega)) (fun q => v 7 q (by omega))) (o 8 _ (by omega)) (o 9 _ (by omega))
  · rw [o 8 _ (by omega)] at he
    have ss := (h6 s hs).2 e he
    have := ss.2.1
    exact rS_of ss (by omega) ((lo _ (by omega)).2.2 e) (hi' _ (by omega)) (hi' _ (by omega)) (hi' _ (by omega)) (bb _) (o 10 _ (by omega)) (o 11 _ (by omega)) (o 12 _ (by omega))
  · intro s e s' e' a b c d
    rw [o 8 _ (by omega)] at c d
    exact h7 s e s' e' a b c d
  · rw [mpl_of (N := N) (o 0 16 (by omega)) (fun i _ => ⟨mcode_of (fun m _ _ => o _ _ (by omega)), o _ _ (by omega)⟩)]
    exact cpl_of h9 (lo 3 (by omega)) (lo 4 (by omega)) (lo 5 (by omega))
  · have hv' := crv_le (P := P) (r := r') hP hr'
    by_cases g : r' = r
    · subst g
      obtain ⟨⟨b1, b2, b3, ⟨s0, c1, c2, c3, c4⟩, b5, b6, b7⟩, rp⟩ := h10 r' hr'
      have aj : ∀ j, j < 8 → ¬ j = 4 → agr τ ρ (crv P r' + j) := fun j hj z => ag _ (by omega) (by omega) (by omega) (by omega)
      have a0 := aj 0 (by omega) (by omega)
      rw [Nat.add_zero] at a0
      refine ⟨⟨fun k hk => by rw [(aj 1 (by omega) (by omega)).2.2, o 20 _ (by omega)]; exact b1 k hk, by rw [a0.2.1, ml]; exact b2, fun i u z => by rw [ml] at z; rw [(aj 2 (by omega) (by omega)).2.2]; exact b3 i u z, ⟨s0, by rw [a0.2.1]; exact c1, c2, fun k hk => by rw [o 20 _ (by omega)]; exact c3 k hk, by rw [o 20 _ (by omega)]; exact c4⟩, by rw [a0.2.1, o 23 _ (by omega)]; exact b5, fun k hk => ⟨by rw [(aj 3 (by omega) (by omega)).2.1, v 22 _ (by omega)]; exact (b6 k hk).1, I4 k hk⟩, fun u hu => ⟨by rw [(aj 5 (by omega) (by omega)).2.1, v 29 _ (by omega)]; exact (b7 u hu).1, fun z => ?_⟩⟩, fun p' hp' => ?_⟩
      · rw [(aj 6 (by omega) (by omega)).2.1, v 30 _ (by omega)]
        refine (b7 u hu).2 (fun q => ?_)
        have := z (by rw [o 0 2 (by omega)]; exact q)
        rw [o 2 _ (by omega)] at this
        exact this
      · by_cases gp : p' = p
        · subst gp
          obtain ⟨d1, d2, d3, d4, d5⟩ := rp p' hp'
          have w' : mwin (zup N 27 (400 * r' + 100 * p' + t) 1) (mfinV N V r' p' t 12) r' p' = (mwin N V r' p').eraseIdx j := mwin_fin (ml r') (o 24 _ (by omega)) (o 25 _ (by omega)) (fun u => by
            rw [zup_at]
            by_cases z : u = t
            · rw [if_pos ⟨rfl, by rw [z]⟩, if_pos z]
            · rw [if_neg (by omega), if_neg z]) hj
          refine ⟨by rw [I8, if_neg (by omega)]; exact d1, by rw [I8, if_neg (by omega), o 25 _ (by omega)]; exact d2, by rw [I8, if_pos rfl, w', List.length_eraseIdx, if_pos hjl], fun i u z => ?_, fun u hu => by rw [(ag _ (by omega) (by omega) (by omega) (by omega)).2.1, d5 u hu]; simp only [fun q => o 28 q (by omega)]⟩
          rw [w'] at z
          rw [R9, I10, o 26 _ (by omega)]
          unfold cshR cshf
          rcases erase_at hjl z with ⟨y1, y2⟩ | ⟨y1, y2, y3⟩
          · rw [if_neg (by omega), if_neg (by omega)]
            exact d4 i u y2
          · rw [if_pos ⟨y1, y2⟩, if_pos ⟨y1, y2⟩]
            exact d4 (i + 1) u y3
        · refine rP_of (rp p' hp') (fun i _ => ag _ (by omega) (by omega) (by omega) (by omega)) (mwin_congr [] (by rw [List.append_nil]; exact ml r') (o 24 _ (by omega)) (o 25 _ (by omega)) (hb4 r' p' hr' hp') (fun u hu => ?_)) (o 25 _ (by omega)) (fun u => o 26 _ (by omega)) (fun q => o 28 q (by omega))
          rw [zup_at, if_neg]
          rintro ⟨_, z⟩
          have := place_eq (by omega) (by omega) (by omega) (by omega) z
          exact gp this.2.1
    · have hne : crv P r' + 8 + 4 * P ≤ crv P r ∨ crv P r + 8 + 4 * P ≤ crv P r' := by
        unfold crv
        rcases (show (r = 0 ∧ r' = 1) ∨ (r = 1 ∧ r' = 0) by omega) with ⟨rfl, rfl⟩ | ⟨rfl, rfl⟩ <;> simp <;> omega
      refine ⟨rR_of (h10 r' hr').1 (fun i _ => ag _ (by omega) (by omega) (by omega) (by omega)) (ml r') (o 0 2 (by omega)) (fun q => o 2 q (by omega)) (fun q => o 20 q (by omega)) (o 23 _ (by omega)) (fun i hi => by rw [mfinV_at, if_neg (by omega)]) (fun i hi => v 22 _ (by omega)) (fun i hi => v 29 _ (by omega)) (fun i hi => v 30 _ (by omega)), fun p' hp' => ?_⟩
      refine rP_of ((h10 r' hr').2 p' hp') (fun i _ => ag _ (by omega) (by omega) (by omega) (by omega)) (mwin_congr [] (by rw [List.append_nil]; exact ml r') (o 24 _ (by omega)) (o 25 _ (by omega)) (hb4 r' p' hr' hp') (fun u hu => ?_)) (o 25 _ (by omega)) (fun u => o 26 _ (by omega)) (fun q => o 28 q (by omega))
      rw [zup_at, if_neg]
      rintro ⟨_, z⟩
      have := place_eq (by omega) (by omega) (by omega) (by omega) z
      exact g this.1
