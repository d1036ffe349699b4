/-! A transaction looks. -/
theorem kset_k (X : Nat → Bool) (P p a : Nat) (ha : a < 12) : kset X &&& (kset (fun k => k % P == p) &&& (nI 1 <<< (nI a &&& 31))) = nI 0 ↔ ¬ (X a = true ∧ a % P = p) := by
  rw [kset_1 a ha, kset_and, kset_and, kset_0]
  constructor
  · rintro h ⟨g1, g2⟩
    have := h a ha
    simp [g1, g2] at this
  · intro h k hk
    by_cases z : k = a
    · subst z
      rw [← Bool.not_eq_true]
      intro y
      simp at y
      exact h ⟨y.1, y.2⟩
    · simp [z]
theorem mlkV_29 (N : Nat → Nat → Nat) (V : Nat → Nat → Int32) (r p t q : Nat) : mlkV N V r p t 29 q = if (¬ N 2 t = 2 ∧ N 3 t % N 0 0 = p) ∧ q = 100 * r + t then V 21 (12 * r + N 3 t) else V 29 q := by
  have key : ∀ V1 : Nat → Nat → Int32, (∀ x, zvp V1 30 (100 * r + t) x 29 q = V1 29 q) := fun V1 x => by rw [zvp_at, if_neg (by omega)]
  unfold mlkV
  split
  · rw [key]
    split
    · rename_i z
      rw [zvp_at]
      by_cases y : q = 100 * r + t
      · rw [if_pos ⟨rfl, y⟩, if_pos ⟨z, y⟩]
      · rw [if_neg (fun x => y x.2), if_neg (fun x => y x.2)]
    · rename_i z
      rw [if_neg (fun x => z x.1)]
  · split
    · rename_i z
      rw [zvp_at]
      by_cases y : q = 100 * r + t
      · rw [if_pos ⟨rfl, y⟩, if_pos ⟨z, y⟩]
      · rw [if_neg (fun x => y x.2), if_neg (fun x => y x.2)]
    · rename_i z
      rw [if_neg (fun x => z x.1)]
theorem mlkV_30 (N : Nat → Nat → Nat) (V : Nat → Nat → Int32) (r p t q : Nat) : mlkV N V r p t 30 q = if ((¬ N 2 t = 2 ∧ ¬ N 2 t = 4) ∧ (V 4 t).toNatClampNeg % N 0 0 = p) ∧ q = 100 * r + t then V 21 (12 * r + (V 4 t).toNatClampNeg) else V 30 q := by
  have key : (if ¬ N 2 t = 2 ∧ N 3 t % N 0 0 = p then zvp V 29 (100 * r + t) (V 21 (12 * r + N 3 t)) else V) 30 q = V 30 q := by
    split
    · rw [zvp_at, if_neg (by omega)]
    · rfl
  unfold mlkV
  split
  · rename_i z
    rw [zvp_at]
    by_cases y : q = 100 * r + t
    · rw [if_pos ⟨rfl, y⟩, if_pos ⟨z, y⟩]
    · rw [if_neg (fun x => y x.2), key, if_neg (fun x => y x.2)]
  · rename_i z
    rw [key, if_neg (fun x => z x.1)]
theorem ckr_n (σ : zs_S) (v t n a b : Nat) (x : Int32) : zs_n (ckr σ v t n a b x) = zs_n σ := by
  unfold ckr ckr1
  split <;> split <;> rfl
theorem rP_of2 {P : Nat} {C : Nat → Nat} {τ ρ : zs_S} {N N' : Nat → Nat → Nat} {V V' : Nat → Nat → Int32} {r p : Nat} (h : rP P C ρ N V r p) (a : ∀ j, j < 4 → agr τ ρ (crv P r + 8 + 4 * p + j)) (hw : mwin N' V' r p = mwin N V r p) (h25 : N' 25 (4 * r + p) = N 25 (4 * r + p)) (h26 : ∀ t, t ∈ mwin N V r p → N' 26 (400 * r + 100 * p + t) = N 26 (400 * r + 100 * p + t)) (h28 : ∀ q, N' 28 q = N 28 q) : rP P C τ N' V' r p := by
  obtain ⟨b1, b2, b3, b4, b5⟩ := h
  have e9 : crv P r + 9 + 4 * p = crv P r + 8 + 4 * p + 1 := by omega
  have e10 : crv P r + 10 + 4 * p = crv P r + 8 + 4 * p + 2 := by omega
  have e11 : crv P r + 11 + 4 * p = crv P r + 8 + 4 * p + 3 := by omega
  have a0 := a 0 (by omega)
  rw [Nat.add_zero] at a0
  refine ⟨by rw [a0.2.1]; exact b1, by rw [a0.2.1, h25]; exact b2, by rw [a0.2.1, hw]; exact b3, fun j t g => ?_, fun t ht => ?_⟩
  · rw [hw] at g
    rw [e9, e10, (a 1 (by omega)).2.2, (a 2 (by omega)).2.1, h26 t (List.mem_of_getElem? g), ← e9, ← e10]
    exact b4 j t g
  · rw [e11, (a 3 (by omega)).2.1, ← e11, b5 t ht]
    simp only [h28]
theorem look_step {P M k : Nat} {X : Nat → Nat → Nat} {C : Nat → Nat} {W : Nat → Nat → Nat} {ρ : zs_S} {N : Nat → Nat → Nat} {V : Nat → Nat → Int32} (hi : inv P k X N V) (hr : rel P M C W ρ N V) {r p j t : Nat} (h2 : r < 2) (hp : p < P) (hj : (mwin N V r p)[j]? = some t) : inv P k X (mlk1 N r p t) (mlkV N V r p t) ∧ rel P M C W (zs_pI (ckr ρ (crv P r) (C t) t (N 3 t) (zs_I ρ (C t) 3).toNatClampNeg (zs_I ρ (crv P r + 8 + 4 * p) 0)) (crv P r + 10 + 4 * p) j (nI 1)) (mlk1 N r p t) (mlkV N V r p t) := by
  have hi0 := hi
  have hP := hi.1.2.2.2.1
  have eP := hi.1.2.1
  have hb4 := inv_b4 hi
  have hT := hi.2.1.1
  have htT := win_t hi (List.mem_of_getElem? hj)
  have htw := mwin_mem.mp (List.mem_of_getElem? hj)
  have hv := crv_le (P := P) (r := r) hP h2
  have tt := hr.2.2.2.1 t htT
  have it := hi.2.1.2.1 t htT
  obtain ⟨cn, cb1, cb2⟩ := rel_ctn hi hr htT
  have rp := (hr.2.2.2.2.2.2.2.2 r h2).2 p hp
  have rr := (hr.2.2.2.2.2.2.2.2 r h2).1
  generalize hbt : (zs_I ρ (C t) 3).toNatClampNeg = bt at *
  have hb12 : bt < 12 := cn.2.2.2.2.2.2.2.2
  have o : ∀ j q, ¬ j = 26 → mlk1 N r p t j q = N j q := fun j q z => by unfold mlk1; rw [zup_at, if_neg (by omega)]
  have o26 : ∀ q, mlk1 N r p t 26 q = if q = 400 * r + 100 * p + t then 1 else N 26 q := fun q => by
    unfold mlk1
    rw [zup_at]; by_cases z : q = 400 * r + 100 * p + t <;> simp [z]
  have v : ∀ j q, ¬ j = 29 → ¬ j = 30 → mlkV N V r p t j q = V j q := fun j q z1 z2 => mlkV_o N V r p t q z1 z2
  have v29 := mlkV_29 N V r p t
  have v30 := mlkV_30 N V r p t
  have hlt : ∀ j q, mlk1 N r p t j q < 100000 := zh_up hi.1.1 (by omega) 26 _
  have mRa : mR N V t (N 3 t) = true ↔ ¬ N 2 t = 2 := by
    unfold mR
    rw [decide_eq_true_eq]
    exact ⟨fun z => z.1, fun z => ⟨z, Or.inl rfl⟩⟩
  have mRb : (¬ N 2 t = 2 ∧ ¬ N 2 t = 4) → mR N V t bt = true := by
    intro z
    unfold mR
    rw [decide_eq_true_eq]
    exact ⟨z.1, Or.inr ⟨z, (cb1 z).symm⟩⟩
  have cA : zs_I ρ (C t) 5 &&& (zs_I ρ (crv P r + 8 + 4 * p) 0 &&& (nI 1 <<< (nI (N 3 t) &&& 31))) = nI 0 ↔ ¬ (¬ N 2 t = 2 ∧ N 3 t % P = p) := by
    rw [tt.2.2.2.2.2.2.2.2.2.1, rp.1, kset_k _ _ _ _ it.2.1, mRa]
  have cB : (¬ N 2 t = 2 ∧ ¬ N 2 t = 4) → (zs_I ρ (C t) 5 &&& (zs_I ρ (crv P r + 8 + 4 * p) 0 &&& (nI 1 <<< (nI bt &&& 31))) = nI 0 ↔ ¬ bt % P = p) := by
    intro z
    rw [tt.2.2.2.2.2.2.2.2.2.1, rp.1, kset_k _ _ _ _ hb12]
    constructor
    · intro y x; exact y ⟨mRb z, x⟩
    · rintro y ⟨_, x⟩; exact y x
  have K5 : ∀ u, zs_I (ckr ρ (crv P r) (C t) t (N 3 t) bt (zs_I ρ (crv P r + 8 + 4 * p) 0)) (crv P r + 5) u = if (¬ N 2 t = 2 ∧ N 3 t % P = p) ∧ u = t then zs_I ρ (crv P r + 4) (N 3 t) else zs_I ρ (crv P r + 5) u := by
    intro u
    have k1 : zs_I (ckr1 ρ (crv P r) (C t) t (N 3 t) (zs_I ρ (crv P r + 8 + 4 * p) 0)) (crv P r + 5) u = if (¬ N 2 t = 2 ∧ N 3 t % P = p) ∧ u = t then zs_I ρ (crv P r + 4) (N 3 t) else zs_I ρ (crv P r + 5) u := by
      unfold ckr1
      by_cases z : zs_I ρ (C t) 5 &&& (zs_I ρ (crv P r + 8 + 4 * p) 0 &&& (nI 1 <<< (nI (N 3 t) &&& 31))) = nI 0
      · rw [if_pos z, if_neg (fun y => cA.mp z y.1)]
      · have z2 : ¬ N 2 t = 2 ∧ N 3 t % P = p := by
          apply Classical.byContradiction
          intro y; exact z (cA.mpr y)
        rw [if_neg z, zx_I_pI]
        by_cases y : u = t
        · rw [if_pos ⟨rfl, y⟩, if_pos ⟨z2, y⟩]
        · rw [if_neg (fun x => y x.2), if_neg (fun x => y x.2)]
    unfold ckr
    split
    · exact k1
    · rw [zx_I_ne _ _ _ _ (by omega)]; exact k1
  have K6 : ∀ u, (u = t → ¬ N 2 t = 2 ∧ ¬ N 2 t = 4) → zs_I (ckr ρ (crv P r) (C t) t (N 3 t) bt (zs_I ρ (crv P r + 8 + 4 * p) 0)) (crv P r + 6) u = if bt % P = p ∧ u = t then zs_I ρ (crv P r + 4) bt else zs_I ρ (crv P r + 6) u := by
    intro u hu
    have k1 : zs_I (ckr1 ρ (crv P r) (C t) t (N 3 t) (zs_I ρ (crv P r + 8 + 4 * p) 0)) (crv P r + 6) u = zs_I ρ (crv P r + 6) u := by
      unfold ckr1
      split
      · rfl
      · rw [zx_I_ne _ _ _ _ (by omega)]
    unfold ckr
    by_cases y : u = t
    · have cb := cB (hu y)
      by_cases z : zs_I ρ (C t) 5 &&& (zs_I ρ (crv P r + 8 + 4 * p) 0 &&& (nI 1 <<< (nI bt &&& 31))) = nI 0
      · rw [if_pos z, if_neg (fun x => cb.mp z x.1)]; exact k1
      · have z2 : bt % P = p := by
          apply Classical.byContradiction
          intro x; exact z (cb.mpr x)
        rw [if_neg z, zx_I_pI, if_pos ⟨rfl, y⟩, if_pos ⟨z2, y⟩]
    · have e6 : (if bt % P = p ∧ u = t then zs_I ρ (crv P r + 4) bt else zs_I ρ (crv P r + 6) u) = zs_I ρ (crv P r + 6) u := if_neg (fun x => y x.2)
      rw [e6]
      split
      · exact k1
      · rw [zx_I_ek _ _ _ _ _ y]; exact k1
  have ml : ∀ r', mline (mlk1 N r p t) (mlkV N V r p t) r' = mline N V r' := fun r' => mline_of (o 0 2 (by omega)) (fun q => o 6 q (by omega)) (fun q => o 11 q (by omega)) (fun q => o 20 q (by omega)) (fun q => v 7 q (by omega) (by omega))
  generalize mlk1 N r p t = N' at *
  generalize mlkV N V r p t = V' at *
  constructor
  · obtain ⟨iA, hb, hc', hd, he⟩ := hi
    refine ⟨iA_of iA hlt (o 0 0 (by omega)) (fun q => o 1 q (by omega)), iB_of hb (o 0 2 (by omega)) (fun q => o 2 q (by omega)) (fun q => o 3 q (by omega)) (fun q => o 6 q (by omega)) (fun s _ => by rw [o 8 s (by omega)]; exact Nat.le_refl _) (fun q => v _ _ (by omega) (by omega)) (fun q => v _ _ (by omega) (by omega)) (fun q => v _ _ (by omega) (by omega)), iC_of hc' (Nat.le_refl _) (fun j q _ _ => o j q (by omega)), ⟨?_, ?_⟩, fun r' hr' => ?_⟩
    · rw [o 0 16 (by omega), mund_of (N := N) (o 8 _ (by omega)) (fun q => o 11 q (by omega)), mund_of (N := N) (o 8 _ (by omega)) (fun q => o 11 q (by omega))]
      exact hd.1
    · refine mal_of (N := N) (mal_mono hd.2 (mwf_mono ?_ ?_ ?_ ?_ ?_ ?_ ?_)) (o 0 16 (by omega)) (fun j q _ _ => o j q (by omega))
      · intro q _; rw [o 8 _ (by omega)]; exact Nat.le_refl _
      · intro q _; rw [o 9 _ (by omega)]; exact Nat.le_refl _
      · intro a _ q; rw [o 11 _ (by omega)]; exact q
      · rw [o 0 2 (by omega)]; exact Nat.le_refl _
      · exact o 0 0 (by omega)
      · intro r _ q; rw [o 1 _ (by omega)]; exact q
      · intro a w _ _; rfl
    · obtain ⟨e1, e2, e3, e4, e5⟩ := he r' hr'
      refine ⟨fun q => by rw [o 20 _ (by omega)]; exact e1 q, fun a ha z => by rw [o 20 _ (by omega)] at z; rw [o 11 _ (by omega)]; exact e2 a ha z, by rw [o 23 _ (by omega), ml]; exact e3, fun p' hp' => by rw [o 24 _ (by omega), o 25 _ (by omega), ml]; exact e4 p' hp', fun p' hp' => ?_⟩
      have hw : mwin N' V' r' p' = mwin N V r' p' := mwin_congr [] (by rw [List.append_nil]; exact ml r') (o 24 _ (by omega)) (o 25 _ (by omega)) (hb4 r' p' hr' hp') (fun u _ => o 27 _ (by omega))
      refine ⟨by rw [hw]; exact (e5 p' hp').1, fun u hu => ?_⟩
      have q := (e5 p' hp').2 u hu
      rw [o 27 _ (by omega), ml, o 24 _ (by omega), o 25 _ (by omega), o26]
      by_cases z : 400 * r' + 100 * p' + u = 400 * r + 100 * p + t
      · obtain ⟨z1, z2, z3⟩ := place_eq (by omega) (by omega) (by omega) hu z
        subst z1
        subst z2
        subst z3
        rw [if_pos rfl]
        exact ⟨by omega, q.2.1, fun _ => htw.1⟩
      · rw [if_neg z]
        exact q
  · obtain ⟨⟨h1, hM, hn⟩, h3, h4, h5, h6, h7, h8, h9, h10⟩ := hr
    have ag : ∀ w, ¬ w = crv P r + 5 → ¬ w = crv P r + 6 → ¬ w = crv P r + 10 + 4 * p → agr (zs_pI (ckr ρ (crv P r) (C t) t (N 3 t) bt (zs_I ρ (crv P r + 8 + 4 * p) 0)) (crv P r + 10 + 4 * p) j (nI 1)) ρ w := by
      intro w q1 q2 q3
      refine agr_pI ?_ _ _ _ q3
      exact ⟨by rw [ckr_K], fun q => ckr_I _ _ _ _ _ _ _ _ _ q1 q2, fun q => by rw [ckr_R]⟩
    have nn : zs_n (zs_pI (ckr ρ (crv P r) (C t) t (N 3 t) bt (zs_I ρ (crv P r + 8 + 4 * p) 0)) (crv P r + 10 + 4 * p) j (nI 1)) = zs_n ρ := by rw [zx_n_pI, ckr_n]
    have KK : zs_K (zs_pI (ckr ρ (crv P r) (C t) t (N 3 t) bt (zs_I ρ (crv P r + 8 + 4 * p) 0)) (crv P r + 10 + 4 * p) j (nI 1)) = zs_K ρ := by rw [zx_K_pI, ckr_K]
    have RR : zs_R (zs_pI (ckr ρ (crv P r) (C t) t (N 3 t) bt (zs_I ρ (crv P r + 8 + 4 * p) 0)) (crv P r + 10 + 4 * p) j (nI 1)) = zs_R ρ := by rw [zx_R_pI, ckr_R]
    have I5 : ∀ u, zs_I (zs_pI (ckr ρ (crv P r) (C t) t (N 3 t) bt (zs_I ρ (crv P r + 8 + 4 * p) 0)) (crv P r + 10 + 4 * p) j (nI 1)) (crv P r + 5) u = zs_I (ckr ρ (crv P r) (C t) t (N 3 t) bt (zs_I ρ (crv P r + 8 + 4 * p) 0)) (crv P r + 5) u := fun u => zx_I_ne _ _ _ _ (by omega) _
    have I6 : ∀ u, zs_I (zs_pI (ckr ρ (crv P r) (C t) t (N 3 t) bt (zs_I ρ (crv P r + 8 + 4 * p) 0)) (crv P r + 10 + 4 * p) j (nI 1)) (crv P r + 6) u = zs_I (ckr ρ (crv P r) (C t) t (N 3 t) bt (zs_I ρ (crv P r + 8 + 4 * p) 0)) (crv P r + 6) u := fun u => zx_I_ne _ _ _ _ (by omega) _
    have I10 : ∀ i, zs_I (zs_pI (ckr ρ (crv P r) (C t) t (N 3 t) bt (zs_I ρ (crv P r + 8 + 4 * p) 0)) (crv P r + 10 + 4 * p) j (nI 1)) (crv P r + 10 + 4 * p) i = if i = j then nI 1 else zs_I ρ (crv P r + 10 + 4 * p) i := by
      intro i
      by_cases z : i = j
      · rw [z, zx_I_eq, if_pos rfl]
      · rw [zx_I_ek _ _ _ _ _ z, if_neg z, ckr_I _ _ _ _ _ _ _ _ _ (by omega) (by omega)]
    generalize zs_pI (ckr ρ (crv P r) (C t) t (N 3 t) bt (zs_I ρ (crv P r + 8 + 4 * p) 0)) (crv P r + 10 + 4 * p) j (nI 1) = τ at *
    have bb : ∀ i, mbat N' V' i (N' 0 2) = mbat N V i (N 0 2) := by
      intro i
      unfold mbat
      simp only [o 0 2 (by omega), fun q => o 6 q (by omega), fun q => v 7 q (by omega) (by omega)]
    have lo : ∀ w, w < 24 → agr τ ρ w := fun w hw => ag w (by omega) (by omega) (by omega)
    have hi' : ∀ w, M ≤ w → agr τ ρ w := fun w hw => ag w (by omega) (by omega) (by omega)
    refine ⟨⟨csb_of (σ := ρ) (fun w _ => by rw [KK]) ((lo 0 (by omega)).2.1 0) (fun w q _ => by rw [RR]) h1, hM, by omega⟩, cdn_of h3 (lo 1 (by omega)) (fun x _ => o 1 x (by omega)), by rw [(lo 0 (by omega)).2.1, o 0 2 (by omega)]; exact h4, fun u hu => ?_, fun s hs => ⟨?_, fun e he => ?_⟩, ?_, fun l hl => rL_of (h8 l hl) (lo _ (by omega)) (lo _ (by omega)) (fun q => o 13 q (by omega)) (fun q => o 14 q (by omega)), ?_, fun r' hr' => ?_⟩
    · rw [o 0 2 (by omega)] at hu
      have tu := h5 u hu
      have := tu.2.1
      exact rT_of tu (by omega) (by rw [RR]) (hi' _ (by omega)) (o 2 u (by omega)) (o 3 u (by omega)) (o 6 u (by omega)) (v _ _ (by omega) (by omega)) (v _ _ (by omega) (by omega)) (v _ _ (by omega) (by omega)) (Or.inl rfl)
    · exact rQ_of (h6 s hs).1 (lo _ (by omega)) (lo _ (by omega)) (mbl_of (o 0 2 (by omega)) (fun q => o 6 q (by omega)) (fun q => v 7 q (by omega) (by omega))) (o 8 _ (by omega)) (o 9 _ (by omega))
    · rw [o 8 _ (by omega)] at he
      have ss := (h6 s hs).2 e he
      have := ss.2.1
      exact rS_of ss (by omega) (by rw [RR]) (hi' _ (by omega)) (hi' _ (by omega)) (hi' _ (by omega)) (bb _) (o 10 _ (by omega)) (o 11 _ (by omega)) (o 12 _ (by omega))
    · intro s e s' e' a b c d
      rw [o 8 _ (by omega)] at c d
      exact h7 s e s' e' a b c d
    · rw [mpl_of (N := N) (o 0 16 (by omega)) (fun i _ => ⟨mcode_of (fun m _ _ => o _ _ (by omega)), o _ _ (by omega)⟩)]
      exact cpl_of h9 (lo 3 (by omega)) (lo 4 (by omega)) (lo 5 (by omega))
    · have hv' := crv_le (P := P) (r := r') hP hr'
      have hw : ∀ p', p' < P → mwin N' V' r' p' = mwin N V r' p' := fun p' hp' => mwin_congr [] (by rw [List.append_nil]; exact ml r') (o 24 _ (by omega)) (o 25 _ (by omega)) (hb4 r' p' hr' hp') (fun u _ => o 27 _ (by omega))
      by_cases g : r' = r
      · subst g
        obtain ⟨⟨b1, b2, b3, ⟨s0, c1, c2, c3, c4⟩, b5, b6, b7⟩, rps⟩ := h10 r' hr'
        have aj : ∀ i, i < 8 → ¬ i = 5 → ¬ i = 6 → agr τ ρ (crv P r' + i) := fun i z1 z2 z3 => ag _ (by omega) (by omega) (by omega)
        have a0 := aj 0 (by omega) (by omega) (by omega)
        rw [Nat.add_zero] at a0
        refine ⟨⟨fun k hk => by rw [RR, o 20 _ (by omega)]; exact b1 k hk, by rw [a0.2.1, ml]; exact b2, fun i u z => by rw [ml] at z; rw [RR]; exact b3 i u z, ⟨s0, by rw [a0.2.1]; exact c1, c2, fun k hk => by rw [o 20 _ (by omega)]; exact c3 k hk, by rw [o 20 _ (by omega)]; exact c4⟩, by rw [a0.2.1, o 23 _ (by omega)]; exact b5, fun k hk => ⟨by rw [(aj 3 (by omega) (by omega) (by omega)).2.1, v 22 _ (by omega) (by omega)]; exact (b6 k hk).1, by rw [(aj 4 (by omega) (by omega) (by omega)).2.1, v 21 _ (by omega) (by omega)]; exact (b6 k hk).2⟩, fun u hu => ⟨?_, fun z => ?_⟩⟩, fun p' hp' => ?_⟩
        · rw [I5, K5, v29, eP]
          by_cases y : (¬ N 2 t = 2 ∧ N 3 t % P = p) ∧ u = t
          · rw [if_pos y, if_pos ⟨y.1, by rw [y.2]⟩]
            exact (b6 _ it.2.1).2
          · rw [if_neg y, if_neg (fun x => y ⟨x.1, by omega⟩)]
            exact (b7 u hu).1
        · have z' : u < N 0 2 → ¬ N 2 u = 2 ∧ ¬ N 2 u = 4 := by
            intro q
            have := z (by rw [o 0 2 (by omega)]; exact q)
            rw [o 2 _ (by omega)] at this
            exact this
          rw [I6, K6 u (fun y => by subst y; exact z' htT), v30, eP]
          by_cases y : bt % P = p ∧ u = t
          · have q := z' (by rw [y.2]; exact htT)
            rw [y.2] at q
            have ev : (V 4 t).toNatClampNeg = bt := by rw [cb1 q, nI_clamp (by omega)]
            rw [if_pos y, ev, if_pos ⟨⟨q, y.1⟩, by rw [y.2]⟩]
            exact (b6 _ hb12).2
          · rw [if_neg y]
            rw [if_neg]
            · exact (b7 u hu).2 z'
            · rintro ⟨⟨x1, x2⟩, x3⟩
              have ev : (V 4 t).toNatClampNeg = bt := by rw [cb1 x1, nI_clamp (by omega)]
              rw [ev] at x2
              exact y ⟨x2, by omega⟩
        · by_cases gp : p' = p
          · subst gp
            obtain ⟨d1, d2, d3, d4, d5⟩ := rps p' hp'
            have a8 := ag (crv P r' + 8 + 4 * p') (by omega) (by omega) (by omega)
            refine ⟨by rw [a8.2.1]; exact d1, by rw [a8.2.1, o 25 _ (by omega)]; exact d2, by rw [a8.2.1, hw p' hp']; exact d3, fun i u z => ?_, fun u hu => by rw [(ag _ (by omega) (by omega) (by omega)).2.1, d5 u hu]; simp only [fun q => o 28 q (by omega)]⟩
            rw [hw p' hp'] at z
            have d := d4 i u z
            rw [RR, I10, o26]
            refine ⟨d.1, ?_⟩
            by_cases y : i = j
            · rw [if_pos y]
              rw [y, hj] at z
              simp only [Option.some.injEq] at z
              rw [if_pos (by rw [z])]
            · rw [if_neg y]
              have : ¬ u = t := by
                intro x
                subst x
                exact y (nodup_inj (mwin_nodup N V r' p') z hj)
              rw [if_neg (by omega)]
              exact d.2
          · refine rP_of2 (rps p' hp') (fun i hi => ag _ (by omega) (by omega) (by omega)) (hw p' hp') (o 25 _ (by omega)) (fun u hu => ?_) (fun q => o 28 q (by omega))
            have := win_t hi0 hu
            rw [o26, if_neg]
            intro x
            have := place_eq (by omega) (by omega) (by omega) (by omega) x
            exact gp this.2.1
      · have hne : crv P r' + 8 + 4 * P ≤ crv P r ∨ crv P r + 8 + 4 * P ≤ crv P r' := by
          unfold crv
          rcases (show (r = 0 ∧ r' = 1) ∨ (r = 1 ∧ r' = 0) by omega) with ⟨rfl, rfl⟩ | ⟨rfl, rfl⟩ <;> simp <;> omega
        refine ⟨rR_of (h10 r' hr').1 (fun i hi => ag _ (by omega) (by omega) (by omega)) (ml r') (o 0 2 (by omega)) (fun q => o 2 q (by omega)) (fun q => o 20 q (by omega)) (o 23 _ (by omega)) (fun i hi => v _ _ (by omega) (by omega)) (fun i hi => v _ _ (by omega) (by omega)) (fun i hi => by rw [v29, if_neg (by omega)]) (fun i hi => by rw [v30, if_neg (by omega)]), fun p' hp' => rP_of2 ((h10 r' hr').2 p' hp') (fun i hi => ag _ (by omega) (by omega) (by omega)) (hw p' hp') (o 25 _ (by omega)) (fun u hu => ?_) (fun q => o 28 q (by omega))⟩
        have := win_t hi0 hu
        rw [o26, if_neg]
        intro x
        have := place_eq (by omega) (by omega) (by omega) (by omega) x
        exact g this.1
