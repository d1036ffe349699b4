/-! The call look. -/
theorem msv_mpl (N : Nat → Nat → Nat) (V : Nat → Nat → Int32) (r p t : Nat) : ∀ n, n ≤ 4 → mpl (msv N V r p t n) = mpl N ++ (if mE (mR N V t) (N 0 0) p p = true then ((List.range n).filter (fun q => decide (¬ q = p ∧ mE (mW N V t) (N 0 0) q q = true))).map (fun q => (1000000 * 4 + 100000 * r + 1000 * t + 10 * p + q, 0)) else [])
  | 0, _ => by
    rw [msv]
    split <;> simp
  | n + 1, hn => by
    have ih := msv_mpl N V r p t n (by omega)
    rw [msv]
    by_cases g : mE (mR N V t) (N 0 0) p p = true
    · rw [if_pos g] at ih ⊢
      rw [List.range_succ, List.filter_append, List.map_append, ← List.append_assoc]
      by_cases z : ¬ n = p ∧ mE (mW N V t) (N 0 0) n n = true
      · rw [if_pos ⟨z.1, z.2, g⟩, mpost_mpl, if_pos rfl, ih, show (4 * p + n) / 4 = p by omega, show (4 * p + n) % 4 = n by omega]
        rw [List.filter_cons, if_pos (by rw [decide_eq_true_eq]; exact z)]
        simp
      · rw [if_neg (fun y => z ⟨y.1, y.2.1⟩), ih, List.filter_cons, if_neg (by rw [decide_eq_true_eq]; exact z)]
        simp
    · rw [if_neg (fun y => g y.2.2), if_neg g]
      rw [if_neg g] at ih
      exact ih
theorem mE_congr {X Y : Nat → Bool} (h : X = Y) (P p k : Nat) : mE X P p k = mE Y P p k := by rw [h]
theorem mfins_congr {N N' : Nat → Nat → Nat} {V V' : Nat → Nat → Int32} (r p t : Nat) (h00 : N' 0 0 = N 0 0) (h2 : N' 2 t = N 2 t) (h3 : N' 3 t = N 3 t) (h26 : ∀ q, N' 26 q = N 26 q) (h27 : ∀ q, N' 27 q = N 27 q) (h28 : ∀ q, N' 28 q = N 28 q) (v4 : V' 4 t = V 4 t) (v5 : V' 5 t = V 5 t) : mfins N' V' r p t ↔ mfins N V r p t := by
  unfold mfins mall
  have e : mallx N' V' r p t = mallx N V r p t := by
    funext q
    unfold mallx
    rw [mR_congr h2 h3 v4, h00, h28]
  rw [e, h26, h27, mW_congr h2 h3 v4 v5, h00]
theorem mfinV_congr {N N' : Nat → Nat → Nat} (V : Nat → Nat → Int32) (r p t : Nat) (h00 : N' 0 0 = N 0 0) (h2 : N' 2 t = N 2 t) (h3 : N' 3 t = N 3 t) : mfinV N' V r p t 12 = mfinV N V r p t 12 := by
  funext j q
  rw [mfinV_at, mfinV_at, h00, h2, h3, mW_congr (N := N) (N' := N') (V := V) (V' := V) h2 h3 rfl rfl]
theorem cvl_msv {P M k : Nat} {X : Nat → Nat → Nat} {C : Nat → Nat} {W : Nat → Nat → Nat} {ρ : zs_S} {N : Nat → Nat → Nat} {V : Nat → Nat → Int32} (hi : inv P k X N V) (hr : rel P M C W ρ N V) {r p t : Nat} (h2 : r < 2) (ht : t < N 0 2) : cvl ρ (crv P r) (C t) r t p P = ((List.range P).filter (fun q => decide (¬ q = p ∧ mE (mW N V t) (N 0 0) q q = true))).map (fun q => (1000000 * 4 + 100000 * r + 1000 * t + 10 * p + q, 0)) := by
  unfold cvl
  congr 1
  refine List.filter_congr (fun q hq => ?_)
  have hq := List.mem_range.mp hq
  have tt := hr.2.2.2.1 t ht
  have rp := (hr.2.2.2.2.2.2.2.2 r h2).2 q hq
  rw [decide_eq_decide, tt.2.2.2.2.2.2.2.2.2.2.1, rp.1, kset_E, hi.1.2.1]
  constructor
  · rintro ⟨z1, z2⟩
    refine ⟨z1, ?_⟩
    cases y : mE (mW N V t) P q q with
    | true => rfl
    | false => exact absurd y z2
  · rintro ⟨z1, z2⟩
    exact ⟨z1, by rw [z2]; decide⟩
theorem look_full {P M k : Nat} {X : Nat → Nat → Nat} {C : Nat → Nat} {W : Nat → Nat → Nat} {ρ ρ2 : zs_S} {N : Nat → Nat → Nat} {V : Nat → Nat → Int32} (hi : inv P k X N V) (hr : rel P M C W ρ N V) {r p j t : Nat} (h2 : r < 2) (hp : p < P) (hup : N 1 (5 + r) = 0) (hu : ¬ 48 < N 0 16) (hj : (mwin N V r p)[j]? = some t) (hρ2 : ρ2 = cfi (zs_pI (ckr ρ (crv P r) (C t) t (N 3 t) (zs_I ρ (C t) 3).toNatClampNeg (zs_I ρ (crv P r + 8 + 4 * p) 0)) (crv P r + 10 + 4 * p) j (nI 1)) (crv P r) p (mwin N V r p).length j (C t) t (N 2 t)) : (∀ w, w < 24 ∨ M ≤ w → agr ρ2 ρ w) ∧ (∃ N2 V2, inv P k X N2 V2 ∧ rel P M C W ρ2 N2 V2 ∧ N2 0 16 = N 0 16 ∧ N2 0 2 = N 0 2) ∧ ∀ τ, ((zs_I ρ2 (C t) 5 &&& zs_I ρ2 (crv P r + 8 + 4 * p) 0 = nI 0 ∧ τ = ρ2) ∨ (¬ zs_I ρ2 (C t) 5 &&& zs_I ρ2 (crv P r + 8 + 4 * p) 0 = nI 0 ∧ τ = csnd ρ2 (N 0 16) (cvl ρ2 (crv P r) (C t) r t p P))) → (mfins (msv (mlk1 N r p t) V r p t (N 0 0)) (mlkV N V r p t) r p t → inv P k X (zup (msv (mlk1 N r p t) V r p t (N 0 0)) 27 (400 * r + 100 * p + t) 1) (mfinV (msv (mlk1 N r p t) V r p t (N 0 0)) (mlkV N V r p t) r p t 12) ∧ rel P M C W τ (zup (msv (mlk1 N r p t) V r p t (N 0 0)) 27 (400 * r + 100 * p + t) 1) (mfinV (msv (mlk1 N r p t) V r p t (N 0 0)) (mlkV N V r p t) r p t 12)) ∧ (¬ mfins (msv (mlk1 N r p t) V r p t (N 0 0)) (mlkV N V r p t) r p t → inv P k X (msv (mlk1 N r p t) V r p t (N 0 0)) (mlkV N V r p t) ∧ rel P M C W τ (msv (mlk1 N r p t) V r p t (N 0 0)) (mlkV N V r p t)) := by
  have hP := hi.1.2.2.2.1
  have hP0 := hi.1.2.2.1
  have eP := hi.1.2.1
  have hT := hi.2.1.1
  have htT := win_t hi (List.mem_of_getElem? hj)
  have hM2 := hr.1.2.1
  have hv := crv_le (P := P) (r := r) hP h2
  obtain ⟨hi1, hr1⟩ := look_step hi hr h2 hp hj
  have o1 : ∀ j q, ¬ j = 26 → mlk1 N r p t j q = N j q := fun j q z => by unfold mlk1; rw [zup_at, if_neg (by omega)]
  have v1 : ∀ j q, ¬ j = 29 → ¬ j = 30 → mlkV N V r p t j q = V j q := fun j q z1 z2 => mlkV_o N V r p t q z1 z2
  have ew : mwin (mlk1 N r p t) (mlkV N V r p t) r p = mwin N V r p := mwin_congr [] (by rw [List.append_nil]; exact mline_of (o1 0 2 (by omega)) (fun q => o1 6 q (by omega)) (fun q => o1 11 q (by omega)) (fun q => o1 20 q (by omega)) (fun q => v1 7 q (by omega) (by omega))) (o1 24 _ (by omega)) (o1 25 _ (by omega)) (inv_b4 hi r p h2 hp) (fun u _ => o1 27 _ (by omega))
  have l26 : ¬ mlk1 N r p t 26 (400 * r + 100 * p + t) = 0 := by
    unfold mlk1
    rw [zup_at, if_pos ⟨rfl, rfl⟩]; omega
  have cs := cfi_step hi1 hr1 (r := r) (p := p) (j := j) (t := t) h2 hp (by rw [ew]; exact hj) l26
  rw [ew, o1 2 _ (by omega), ← hρ2] at cs
  obtain ⟨cs1, cs2, cs3, cs4, cs5⟩ := cs
  have agB : ∀ w, w < 24 ∨ M ≤ w → agr ρ2 ρ w := by
    intro w hw
    refine agr_trans (cs3 w hw) (agr_pI ?_ _ _ _ (by omega))
    exact ⟨by rw [ckr_K], fun q => ckr_I _ _ _ _ _ _ _ _ _ (by omega) (by omega), fun q => by rw [ckr_R]⟩
  have s00 : ∀ j q, ¬ (15 ≤ j ∧ j ≤ 19) → ¬ (j = 0 ∧ q = 16) → msv (mlk1 N r p t) V r p t (N 0 0) j q = mlk1 N r p t j q := fun j q a b => msv_o _ V r p t q a b _
  have fe : mfins (msv (mlk1 N r p t) V r p t (N 0 0)) (mlkV N V r p t) r p t ↔ mfins (mlk1 N r p t) (mlkV N V r p t) r p t := mfins_congr r p t (s00 0 0 (by omega) (by omega)) (s00 2 _ (by omega) (by omega)) (s00 3 _ (by omega) (by omega)) (fun q => s00 26 q (by omega) (by omega)) (fun q => s00 27 q (by omega) (by omega)) (fun q => s00 28 q (by omega) (by omega)) rfl rfl
  have ve : mfinV (msv (mlk1 N r p t) V r p t (N 0 0)) (mlkV N V r p t) r p t 12 = mfinV (mlk1 N r p t) (mlkV N V r p t) r p t 12 := mfinV_congr _ r p t (s00 0 0 (by omega) (by omega)) (s00 2 _ (by omega) (by omega)) (s00 3 _ (by omega) (by omega))
  have hul := msv_u (mlk1 N r p t) V r p t (N 0 0)
  have hlt := msv_lt hi1.1.1 V h2 (show p < 4 by omega) (show t < 100 by omega) (by rw [o1 0 16 (by omega)]; omega) (N 0 0) (by omega)
  rw [o1 0 16 (by omega)] at hul
  have und := und_le hi
  have mpls := msv_mpl (mlk1 N r p t) V r p t (N 0 0) (by omega)
  rw [o1 0 0 (by omega)] at mpls
  have eR : mR (mlk1 N r p t) V t = mR N V t := mR_congr (o1 2 _ (by omega)) (o1 3 _ (by omega)) rfl
  have eW : mW (mlk1 N r p t) V t = mW N V t := mW_congr (o1 2 _ (by omega)) (o1 3 _ (by omega)) rfl rfl
  rw [eR, eW, eP] at mpls
  have send : ∀ N2 V2, inv P k X N2 V2 → rel P M C W ρ2 N2 V2 → (∀ j q, ¬ (15 ≤ j ∧ j ≤ 19) → ¬ j = 26 → ¬ j = 27 → N2 j q = N j q) → (∀ q, V2 4 q = V 4 q) → (∀ q, V2 5 q = V 5 q) → mpl N2 = mpl N → ∀ N3, nop N3 N2 → (∀ j q, N3 j q < 100000) → N3 0 16 ≤ N 0 16 + N 0 0 → mal N3 (mwf X N2) → mpl N3 = mpl (msv (mlk1 N r p t) V r p t (N 0 0)) → ∀ τ, ((zs_I ρ2 (C t) 5 &&& zs_I ρ2 (crv P r + 8 + 4 * p) 0 = nI 0 ∧ τ = ρ2) ∨ (¬ zs_I ρ2 (C t) 5 &&& zs_I ρ2 (crv P r + 8 + 4 * p) 0 = nI 0 ∧ τ = csnd ρ2 (N 0 16) (cvl ρ2 (crv P r) (C t) r t p P))) → inv P k X N3 V2 ∧ rel P M C W τ N3 V2 := by
    intro N2 V2 hi2 hr2 o2 w4 w5 em N3 hnop hl3 hu3 hm3 em3 τ hτ
    have e02 : N2 0 2 = N 0 2 := o2 0 2 (by omega) (by omega) (by omega)
    have ht2 : t < N2 0 2 := by omega
    have tt2 := hr2.2.2.2.1 t ht2
    have rp2 := (hr2.2.2.2.2.2.2.2.2 r h2).2 p hp
    have eR2 : mR N2 V2 t = mR N V t := mR_congr (o2 2 _ (by omega) (by omega) (by omega)) (o2 3 _ (by omega) (by omega) (by omega)) (w4 t)
    have eW2 : mW N2 V2 t = mW N V t := mW_congr (o2 2 _ (by omega) (by omega) (by omega)) (o2 3 _ (by omega) (by omega) (by omega)) (w4 t) (w5 t)
    have eP2 := hi2.1.2.1
    have u2 : N2 0 16 = N 0 16 := o2 0 16 (by omega) (by omega) (by omega)
    have cR : zs_I ρ2 (C t) 5 &&& zs_I ρ2 (crv P r + 8 + 4 * p) 0 = nI 0 ↔ mE (mR N V t) P p p = false := by rw [tt2.2.2.2.2.2.2.2.2.2.1, rp2.1, eR2]; exact kset_E _ _ _
    have mu2 : ∀ s, mund N2 s = mund N s := fun s => mund_of (o2 8 _ (by omega) (by omega) (by omega)) (fun q => o2 11 q (by omega) (by omega) (by omega))
    refine ⟨post_inv hi2 hnop hl3 (by rw [mu2, mu2]; omega) hm3, ?_⟩
    rcases hτ with ⟨z, rfl⟩ | ⟨z, rfl⟩
    · refine post_rel hi2 hr2 hnop ⟨rfl, rfl, rfl, fun _ _ _ => rfl⟩ ?_
      rw [em3, eP, mpls, cR.mp z, if_neg (by decide), List.append_nil]
      have := hr2.2.2.2.2.2.2.2.1
      rw [em] at this
      have e1 : mpl (mlk1 N r p t) = mpl N := mpl_of (o1 0 16 (by omega)) (fun i _ => ⟨mcode_of (fun m _ _ => o1 _ _ (by omega)), o1 _ _ (by omega)⟩)
      rw [e1]
      exact this
    · have zR : mE (mR N V t) P p p = true := by
        cases y : mE (mR N V t) P p p with
        | true => rfl
        | false => exact absurd (cR.mpr y) z
      rw [← u2]
      refine send_rel hi2 hr2 hnop _ ?_
      have e1 : mpl (mlk1 N r p t) = mpl N := mpl_of (o1 0 16 (by omega)) (fun i _ => ⟨mcode_of (fun m _ _ => o1 _ _ (by omega)), o1 _ _ (by omega)⟩)
      rw [em3, eP, mpls, zR, if_pos rfl, em, e1, cvl_msv hi2 hr2 h2 ht2, eW2, eP2]
  have wfv : ∀ N2, N2 0 0 = P → N2 0 2 = N 0 2 → N2 1 (5 + r) = 0 → ∀ q, q < N 0 0 → mwf X N2 4 r t (4 * p + q) 0 := fun N2 z1 z2 z3 q hq => Or.inr (Or.inr (Or.inr ⟨rfl, h2, by omega, by omega, by omega, rfl, z3⟩))
  have n1u : mlk1 N r p t 1 (5 + r) = 0 := by rw [o1 1 _ (by omega)]; exact hup
  refine ⟨agB, ?_, fun τ hτ => ⟨fun hf => ?_, fun hf => ?_⟩⟩
  · by_cases g : mfins (mlk1 N r p t) (mlkV N V r p t) r p t
    · exact ⟨_, _, (cs1 g).1, (cs1 g).2, by rw [zup_at, if_neg (by omega), o1 0 16 (by omega)], by rw [zup_at, if_neg (by omega), o1 0 2 (by omega)]⟩
    · refine ⟨_, _, hi1, ?_, o1 0 16 (by omega), o1 0 2 (by omega)⟩
      rw [cs2 g]
      exact hr1
  · obtain ⟨p1, p2⟩ := cs1 (fe.mp hf)
    rw [ve]
    have e27 : ∀ j q, ¬ j = 27 → zup (mlk1 N r p t) 27 (400 * r + 100 * p + t) 1 j q = mlk1 N r p t j q := fun j q z => by rw [zup_at, if_neg (by omega)]
    have e27' : ∀ j q, ¬ j = 27 → zup (msv (mlk1 N r p t) V r p t (N 0 0)) 27 (400 * r + 100 * p + t) 1 j q = msv (mlk1 N r p t) V r p t (N 0 0) j q := fun j q z => by rw [zup_at, if_neg (by omega)]
    refine send _ _ p1 p2 (fun j q z1 z2 z3 => by rw [e27 _ _ z3, o1 _ _ z2]) (fun q => by rw [mfinV_o _ _ _ _ _ _ (by omega), v1 _ _ (by omega) (by omega)]) (fun q => by rw [mfinV_o _ _ _ _ _ _ (by omega), v1 _ _ (by omega) (by omega)]) ?_ _ ?_ (zh_up hlt (by omega) 27 _) (by rw [e27' 0 16 (by omega)]; exact hul) ?_ ?_ τ hτ
    · exact mpl_of (by rw [e27 _ _ (by omega), o1 _ _ (by omega)]) (fun i _ => ⟨mcode_of (fun m _ _ => by rw [e27 _ _ (by omega), o1 _ _ (by omega)]), by rw [e27 _ _ (by omega), o1 _ _ (by omega)]⟩)
    · intro j q a b
      rw [zup_at, zup_at]
      split
      · rfl
      · exact s00 j q a b
    · refine mal_of (N := msv (mlk1 N r p t) V r p t (N 0 0)) (mal_msv (mal_of (N := zup (mlk1 N r p t) 27 (400 * r + 100 * p + t) 1) p1.2.2.2.1.2 (e27 _ _ (by omega)).symm (fun j q _ _ => (e27 _ _ (by omega)).symm)) V r p t (N 0 0) (wfv _ (by rw [e27 _ _ (by omega), o1 _ _ (by omega)]; exact eP) (by rw [e27 _ _ (by omega), o1 _ _ (by omega)]) (by rw [e27 _ _ (by omega)]; exact n1u))) (e27' _ _ (by omega)) (fun j q _ _ => e27' _ _ (by omega))
    · exact mpl_of (e27' _ _ (by omega)) (fun i _ => ⟨mcode_of (fun m _ _ => e27' _ _ (by omega)), e27' _ _ (by omega)⟩)
  · have g : ¬ mfins (mlk1 N r p t) (mlkV N V r p t) r p t := fun z => hf (fe.mpr z)
    have hr1' : rel P M C W ρ2 (mlk1 N r p t) (mlkV N V r p t) := by rw [cs2 g]; exact hr1
    refine send _ _ hi1 hr1' (fun j q z1 z2 z3 => o1 _ _ z2) (fun q => v1 _ _ (by omega) (by omega)) (fun q => v1 _ _ (by omega) (by omega)) ?_ _ s00 hlt hul ?_ rfl τ hτ
    · exact mpl_of (o1 0 16 (by omega)) (fun i _ => ⟨mcode_of (fun m _ _ => o1 _ _ (by omega)), o1 _ _ (by omega)⟩)
    · exact mal_msv hi1.2.2.2.1.2 V r p t (N 0 0) (wfv _ (by rw [o1 _ _ (by omega)]; exact eP) (o1 _ _ (by omega)) n1u)
theorem st_look {P M k : Nat} {ρ : zs_S} {Q1 : zs_Q} (x y z : Int32) (h : st P M k ρ) (hQ : stq P M k (fun τ Q2 => zw_Md_look [.ref M, .int x, .int y, .int z] τ Q2) Q1) : zw_SB_look [.ref 0, .int x, .int y, .int z] ρ Q1 := by
  obtain ⟨X, C, W, N, V, hi, hr, hm⟩ := h
  have hM2 := hr.1.2.1
  have hP := hi.1.2.2.2.1
  have eP := hi.1.2.1
  have hu := inv_u hi
  have hT := hi.2.1.1
  by_cases g : (∃ n, n < 2 ∧ x = nI n ∧ N 1 (5 + n) = 0) ∧ (∃ n, n < P ∧ y = nI n) ∧ ¬ 48 < N 0 16
  · obtain ⟨⟨r, h2, rfl, hup⟩, ⟨p, hp, rfl⟩, gu⟩ := g
    have ho := mlok_of hi h2
    have rp := (hr.2.2.2.2.2.2.2.2 r h2).2 p hp
    have ip := (hi.2.2.2.2 r h2).2.2.2.2 p hp
    have hv := crv_le (P := P) (r := r) hP h2
    have mw := mrdl_win N V r p
    have crd := fun j hj => crdy_mri (p := p) (r := r) (mwin N V r p) eP (rel_sets hi hr) j hj
    have crdC : ∀ n, n ≤ (mwin N V r p).length → mC (crdy ρ (kset fun k => k % P == p) (fun i => C ((mwin N V r p)[i]?.getD 0)) (fun i => N 26 (400 * r + 100 * p + (mwin N V r p)[i]?.getD 0))) n = mC (mri (mlkd N r p) (mQ N V p) (mwin N V r p)) n := fun n hn => mC_congr n (fun j hj => crd j (by omega))
    have hkk : ∀ t, t ∈ mline N V r → N 2 t < 6 ∧ N 3 t < 12 ∧ (¬ N 2 t = 2 ∧ ¬ N 2 t = 4 → ∃ b, b < 12 ∧ V 4 t = nI b) := by
      intro t ht
      have it := hi.2.1.2.1 t (mline_mem ht).1
      refine ⟨it.1, it.2.1, fun q => ?_⟩
      obtain ⟨_, _, g3, _⟩ := mgood_of it.2.2.1
      refine g3 ?_
      have := it.1
      rw [nI_eq (by omega) (by omega), nI_eq (by omega) (by omega)]
      exact q
    refine cl_look_in P r p (N 0 16) z (N 1) ρ Q1 hr.1.1 hr.2.1 h2 hp hup (rel_u hr) gu (fun Q' hq0 hq1 => ?_)
    have wat : ∀ j, j < (mwin N V r p).length → (mwin N V r p)[j]? = some ((mwin N V r p)[j]?.getD 0) := fun j hj => by rw [List.getElem?_eq_getElem hj]; rfl
    have wlt : ∀ j, j < (mwin N V r p).length → (mwin N V r p)[j]?.getD 0 < N 0 2 := fun j hj => win_t hi (List.mem_of_getElem? (wat j hj))
    refine cl_look (crv P r) P p (mwin N V r p).length z (fun i => C ((mwin N V r p)[i]?.getD 0)) (fun i => N 26 (400 * r + 100 * p + (mwin N V r p)[i]?.getD 0)) (fun i => (mwin N V r p)[i]?.getD 0) (fun i => N 2 ((mwin N V r p)[i]?.getD 0)) (fun i => N 3 ((mwin N V r p)[i]?.getD 0)) (fun i => (zs_I ρ (C ((mwin N V r p)[i]?.getD 0)) 3).toNatClampNeg) ρ Q' (hr.1.1.2.2.2.2.2.2.2.2.2.2.2.2.2.2.2.2.1 r h2).2 hp hP rp.2.2.1 ip.1 (rel_cun hi hr h2 hp) (fun j hj => (rel_ctn hi hr (wlt j hj)).1) (fun j hj d1 d2 => ?_) (fun hno => ?_)
    · have hj2 := wat j hj
      have htT := wlt j hj
      generalize (mwin N V r p)[j]?.getD 0 = t at hj2 htT ⊢
      rw [rp.1] at d1 d2
      rw [crd j hj] at d1
      rw [crdC j (by omega)] at d2
      have hcl := mC_le (mri (mlkd N r p) (mQ N V p) (mwin N V r p)) j
      have hat := (mw.2 (mC (mri (mlkd N r p) (mQ N V p) (mwin N V r p)) j) t).mpr ⟨j, hj, d1, rfl, hj2⟩
      have tt := hr.2.2.2.1 t htT
      have c1 := tt.2.1
      generalize hρ2 : cfi (zs_pI (ckr ρ (crv P r) (C t) t (N 3 t) (zs_I ρ (C t) 3).toNatClampNeg (zs_I ρ (crv P r + 8 + 4 * p) 0)) (crv P r + 10 + 4 * p) j (nI 1)) (crv P r) p (mwin N V r p).length j (C t) t (N 2 t) = ρ2
      obtain ⟨f1, ⟨N2, V2, f2, f3, f4, f5⟩, _⟩ := look_full hi hr h2 hp hup gu hj2 hρ2.symm
      have tt2 := f3.2.2.2.1 t (by omega)
      have go : ∀ τ, ((zs_I ρ2 (C t) 5 &&& zs_I ρ2 (crv P r + 8 + 4 * p) 0 = nI 0 ∧ τ = ρ2) ∨ (¬ zs_I ρ2 (C t) 5 &&& zs_I ρ2 (crv P r + 8 + 4 * p) 0 = nI 0 ∧ τ = csnd ρ2 (N 0 16) (cvl ρ2 (crv P r) (C t) r t p P))) → mdb M τ N V → Q1 (some (.int (nI t))) τ := by
        intro τ hτ hmt
        refine hQ _ _ (fun Q2 h3 => ?_)
        refine ⟨N, V, hmt, ?_⟩
        show zw_Md_look [.ref M, .int (nI r), .int (nI p), .int z] (md M _ N V) Q2
        rw [d2]
        refine mo_look_in _ _ _ _ _ hi.1.1 r p _ h2 (by omega) ho (by have := ip.1; omega) hup gu hkk (fun e => ?_) (fun t' e N' hl => ?_)
        · rw [hat] at e; simp at e
        · rw [hat] at e
          simp only [Option.some.injEq] at e
          subst e
          have lk := mlaid_like hl
          have g' : ∀ j q, ¬ j = 31 → ¬ (j = 0 ∧ q = 34) → N' j q = N j q := lk.1
          have hi' := inv_like hi lk
          have hr' := rel_like hi hr lk
          have ew := mlaid_win hl V r p
          have e00 := g' 0 0 (by omega) (by omega)
          have e16 := g' 0 16 (by omega) (by omega)
          obtain ⟨_, _, s3⟩ := look_full (ρ2 := ρ2) hi' hr' h2 hp (by rw [g' 1 _ (by omega) (by omega)]; exact hup) (by rw [e16]; exact gu) (j := j) (t := t) (by rw [ew]; exact hj2) (by rw [ew, g' 2 _ (by omega) (by omega), g' 3 _ (by omega) (by omega)]; exact hρ2.symm)
          rw [e16, e00] at s3
          obtain ⟨s4, s5⟩ := s3 τ hτ
          exact ⟨fun hf => h3 _ (st_mk (inv_k (s4 hf).1) (s4 hf).2), fun hf => h3 _ (st_mk (inv_k (s5 hf).1) (s5 hf).2)⟩
      have hm2 : mdb M ρ2 N V := mdb_agw hm (fun w a b => f1 w (Or.inr a))
      refine hq1 (C t) ρ2 t (by rw [(f1 0 (by omega)).1]; exact hr.1.1.1) tt.2.2.2.1 (fun Q'' hq'' => ?_)
      refine cl_sendValues P r p (C t) t (N 0 16) ρ2 Q'' f3.1.1 h2 hp tt2.2.2.2.1 tt2.2.2.2.2.1 (by rw [rel_u f3, f4]) (by omega) (fun zz => hq'' _ tt2.2.2.2.1 tt2.2.2.2.2.1 (go _ (Or.inl ⟨zz, rfl⟩) hm2)) (fun zz => hq'' _ tt2.2.2.2.1 ?_ (go _ (Or.inr ⟨zz, rfl⟩) (mdb_csnd hm2 _ _ (by omega))))
      rw [csnd_o _ _ _ _ _ (by omega) (by omega) (by omega)]
      exact tt2.2.2.2.2.1
    · refine hq0 _ (hQ _ _ (fun Q2 h3 => ?_))
      refine ⟨N, V, hm, ?_⟩
      show zw_Md_look [.ref M, .int (nI r), .int (nI p), .int z] (md M _ N V) Q2
      by_cases gi : ∃ i, i < 100 ∧ z = nI i
      · obtain ⟨i, hil, rfl⟩ := gi
        refine mo_look_in _ _ _ _ _ hi.1.1 r p i h2 (by omega) ho hil hup gu hkk (fun _ N' hl => h3 _ (st_lk hi hr (mlaid_like hl))) (fun t' e => ?_)
        exfalso
        obtain ⟨j, q1, q2, q3, q4⟩ := (mw.2 i t').mp e
        refine hno j q1 ?_ ?_
        · rw [rp.1, crd j q1]; exact q2
        · rw [rp.1, crdC j (by omega), q3]
      · rw [mo_look_out _ _ _ _ _ hi.1.1 _ _ _ (by
          rintro ⟨n, p', i, _, _, _, _, _, b1, b2, _⟩
          exact gi ⟨i, b1, b2⟩)]
        exact h3 _ (st_id hi hr)
  · rw [cl_look_out P (N 0 16) x y z (N 1) ρ Q1 hr.1.1 hr.2.1 (rel_u hr) (by omega) g]
    refine hQ _ _ (fun Q2 h3 => ?_)
    refine ⟨N, V, hm, ?_⟩
    show zw_Md_look [.ref M, .int x, .int y, .int z] (md M _ N V) Q2
    rw [mo_look_out _ _ _ _ _ hi.1.1 x y z (by
      rintro ⟨n, p', i, b1, b2, b3, b4, b5, _, _, b6⟩
      exact g ⟨⟨n, b1, b2, b5⟩, ⟨p', by omega, b4⟩, b6⟩)]
    exact h3 _ (st_id hi hr)
