/-! A message is delivered. -/
theorem rel_ctn {P M k : Nat} {X : Nat → Nat → Nat} {C : Nat → Nat} {W : Nat → Nat → Nat} {ρ : zs_S} {N : Nat → Nat → Nat} {V : Nat → Nat → Int32} (hi : inv P k X N V) (hr : rel P M C W ρ N V) {t : Nat} (ht : t < N 0 2) : ctn ρ (C t) t (N 2 t) (N 3 t) (zs_I ρ (C t) 3).toNatClampNeg ∧ ((¬ N 2 t = 2 ∧ ¬ N 2 t = 4) → V 4 t = nI (zs_I ρ (C t) 3).toNatClampNeg) ∧ ((N 2 t = 2 ∨ N 2 t = 4) → (zs_I ρ (C t) 3).toNatClampNeg = N 3 t) := by
  have tt := hr.2.2.2.1 t ht
  have it := hi.2.1.2.1 t ht
  have hT := hi.2.1.1
  have i3 := tt.2.2.2.2.2.2.2.1
  obtain ⟨_, _, g3, _⟩ := mgood_of it.2.2.1
  have eq : ∀ j, j < 6 → (nI (N 2 t) = nI j ↔ N 2 t = j) := fun j hj => nI_eq (by have := it.1; omega) (by omega)
  by_cases z : ¬ nI (N 2 t) = nI 2 ∧ ¬ nI (N 2 t) = nI 4
  · obtain ⟨b, hb, eb⟩ := g3 z
    have e3 : zs_I ρ (C t) 3 = nI b := by rw [i3]; unfold cbb; rw [if_pos z, eb]
    have ec : (zs_I ρ (C t) 3).toNatClampNeg = b := by rw [e3, nI_clamp (by omega)]
    rw [ec]
    rw [eq 2 (by omega), eq 4 (by omega)] at z
    exact ⟨⟨tt.2.2.2.1, tt.2.2.2.2.1, tt.2.2.2.2.2.1, tt.2.2.2.2.2.2.1, e3, by omega, it.1, it.2.1, hb⟩, fun _ => eb, fun y => by omega⟩
  · have e3 : zs_I ρ (C t) 3 = nI (N 3 t) := by rw [i3]; unfold cbb; rw [if_neg z]
    have ec : (zs_I ρ (C t) 3).toNatClampNeg = N 3 t := by rw [e3, nI_clamp (by have := it.2.1; omega)]
    rw [ec]
    rw [eq 2 (by omega), eq 4 (by omega)] at z
    exact ⟨⟨tt.2.2.2.1, tt.2.2.2.2.1, tt.2.2.2.2.2.1, tt.2.2.2.2.2.2.1, e3, by omega, it.1, it.2.1, it.2.1⟩, fun y => absurd y z, fun _ => rfl⟩
theorem zup_same (N : Nat → Nat → Nat) (j q x : Nat) (h : N j q = x) : zup N j q x = N := by
  funext j' q'
  rw [zup_at]
  split
  · rename_i z; rw [z.1, z.2, h]
  · rfl
theorem st_deliver {P M k : Nat} {ρ : zs_S} {Q1 : zs_Q} (hk9 : k < 9000) (x : Int32) (h : st P M k ρ) (hQ : stq P M k (fun τ Q2 => zw_Md_deliver [.ref M, .int x] τ Q2) Q1) : zw_SB_deliver [.ref 0, .int x] ρ Q1 := by
  obtain ⟨X, C, W, N, V, hi, hr, hm⟩ := h
  have hu := inv_u hi
  have hM := rel_M hr
  have hM2 := hr.1.2.1
  have hP := hi.1.2.2.2.1
  have hP0 := hi.1.2.2.1
  have eP := hi.1.2.1
  have hT := hi.2.1.1
  by_cases g : ∃ n, n < N 0 16 ∧ x = nI n
  · obtain ⟨i, hn, rfl⟩ := g
    have cc := inv_code hi hn
    have wf := hi.2.2.2.1.2 i hn
    have hi1 := take_inv hi hn
    have hr1 := take_rel hi hr hn
    have hm1 := mdb_agp hm hM (agp_ctake ρ (N 0 16) i (N 0 16 - 1))
    have o1 : ∀ j q, ¬ (15 ≤ j ∧ j ≤ 19) → ¬ (j = 0 ∧ q = 16) → mtake N i j q = N j q := fun j q a b => mtake_o N i q a b
    have u1 : mtake N i 0 16 = N 0 16 - 1 := mtake_u N i
    have hsum := hi.2.2.2.1.1
    have hk14 : 1 ≤ N 15 i ∧ N 15 i ≤ 4 := by rcases wf with z | z | z | z <;> omega
    have rm := rel_m hr i hn
    have inc : ∀ s, s < 2 → N 9 s ≤ k := fun s hs => (hi.2.2.1.1 s hs).2.1
    refine cl_deliver_in P (N 0 16) i (mcode N i) (N 19 i) ρ Q1 hr.1.1 (rel_u hr) (by omega) hn rm.1 cc.2.1 rm.2 (by rw [cc.1]; exact hk14) (fun Q' hQ' => ⟨fun kq => ?_, fun kq => ?_, fun kq => ?_, fun kq => ?_⟩)
    · rw [cc.1] at kq
      obtain ⟨a2, a3, a4, a5, a6, a7, a8⟩ : N 17 i < 3 ∧ N 18 i < 40 ∧ N 18 i % 20 < N 8 (N 18 i / 20) ∧ N 16 i < 2 ∧ 1 ≤ N 19 i ∧ N 19 i ≤ N 9 (N 18 i / 20) ∧ N 16 i = X (N 18 i) (N 19 i) := by
        rcases wf with z | z | z | z
        · exact z.2
        · omega
        · omega
        · omega
      have c4 := cc.2.2.1 (by omega)
      have hs2 : N 18 i / 20 < 2 := by omega
      have h19 := inc _ hs2
      have hgo : ∀ τ, mdb M τ N V → st P M (k + 1) (md M τ (mstore (mtake N i) (N 17 i) (N 18 i) (N 16 i) (N 19 i)) V) → Q' none τ := by
        intro τ ht hst
        refine hQ' _ (hQ _ _ (fun Q2 h3 => ?_))
        refine ⟨N, V, ht, ?_⟩
        show zw_Md_deliver [.ref M, .int (nI i)] (md M _ N V) Q2
        exact mo_deliver_in _ _ _ _ _ hi.1.1 (by omega) (by rw [eP]; exact ⟨hP0, hP⟩) i hn (by omega) (fun _ => ⟨a2, a3, a5, by omega, h3 _ hst⟩) (fun z => by omega) (fun z => by omega) (fun z => by omega)
      have rl := hr1.2.2.2.2.2.2.1 (N 17 i) a2 (N 18 i / 20) hs2
      refine cl_storeArrives P (mcode N i) (N 18 i / 20) (N 18 i % 20) (N 17 i) (N 16 i) (N 19 i) (mtake N i 14 (2 * N 17 i + N 18 i / 20)) (mtake N i 0 16) (mtake N i 1) (ctake ρ (N 0 16) i (N 0 16 - 1)) Q' hr1.1.1 hr1.2.1 cc.2.1 c4.1 c4.2.1 c4.2.2.1 c4.2.2.2 hs2 (by omega) a2 rl.1 (hi1.1.1 _ _) (by omega) (rel_u hr1) (by omega) (fun d1 d2 => ?_) (fun d1 => ?_)
      · obtain ⟨p1, p2⟩ := sto_step hi1 hr1 (l := N 17 i) (a := N 18 i) (x := N 16 i) (w := N 19 i) a2 a3 a6 (by rw [o1 9 _ (by omega) (by omega)]; exact a7) a8 (by omega)
        have q8 : ∀ q, zup (zup (mtake N i) 14 (2 * N 17 i + N 18 i / 20) (N 19 i)) 13 (40 * N 17 i + N 18 i) (2 * N 19 i + N 16 i) 8 q = N 8 q := fun q => by rw [zup_at, if_neg (by omega), zup_at, if_neg (by omega), o1 8 _ (by omega) (by omega)]
        have q9 : ∀ q, zup (zup (mtake N i) 14 (2 * N 17 i + N 18 i / 20) (N 19 i)) 13 (40 * N 17 i + N 18 i) (2 * N 19 i + N 16 i) 9 q = N 9 q := fun q => by rw [zup_at, if_neg (by omega), zup_at, if_neg (by omega), o1 9 _ (by omega) (by omega)]
        have q11 : ∀ q, zup (zup (mtake N i) 14 (2 * N 17 i + N 18 i / 20) (N 19 i)) 13 (40 * N 17 i + N 18 i) (2 * N 19 i + N 16 i) 11 q = N 11 q := fun q => by rw [zup_at, if_neg (by omega), zup_at, if_neg (by omega), o1 11 _ (by omega) (by omega)]
        have q16 : zup (zup (mtake N i) 14 (2 * N 17 i + N 18 i / 20) (N 19 i)) 13 (40 * N 17 i + N 18 i) (2 * N 19 i + N 16 i) 0 16 = mtake N i 0 16 := by rw [zup_at, if_neg (by omega), zup_at, if_neg (by omega)]
        obtain ⟨p3, p4⟩ := post_step p1 p2 (kd := 2) (to := N 17 i) (a := N 18 i) (x := 0) (w := N 19 i) (by omega) (Or.inr (Or.inl ⟨rfl, a2, a3, by rw [q8]; exact a4, rfl, a6, by rw [q9]; exact a7⟩)) ⟨by omega, by omega, by omega, by omega, by omega⟩ (by
          rw [q16, mund_of (N := N) (q8 0) q11, mund_of (N := N) (q8 1) q11, u1]; omega)
        rw [q16] at p4
        have em : mstore (mtake N i) (N 17 i) (N 18 i) (N 16 i) (N 19 i) = mpost (zup (zup (mtake N i) 14 (2 * N 17 i + N 18 i / 20) (N 19 i)) 13 (40 * N 17 i + N 18 i) (2 * N 19 i + N 16 i)) 2 (N 17 i) (N 18 i) 0 (N 19 i) := by
          unfold mstore
          rw [if_pos ⟨d1, by omega⟩]
        refine hgo _ ?_ (by rw [em]; exact st_mk (inv_k p3) p4)
        exact mdb_agw hm1 (fun w a b => agr_csnd (agr_pI (agr_pI (agr_rfl _ w) _ _ _ (by omega)) _ _ _ (by omega)) _ _ (by omega))
      · have em : mstore (mtake N i) (N 17 i) (N 18 i) (N 16 i) (N 19 i) = mtake N i := by
          unfold mstore
          rw [if_neg (fun z => d1 ⟨z.1, by omega⟩)]
        exact hgo _ hm1 (by rw [em]; exact st_mk (inv_k hi1) hr1)
    · rw [cc.1] at kq
      obtain ⟨a2, a3, a4, a5, a6, a7⟩ : N 17 i < 3 ∧ N 18 i < 40 ∧ N 18 i % 20 < N 8 (N 18 i / 20) ∧ N 16 i = 0 ∧ 1 ≤ N 19 i ∧ N 19 i ≤ N 9 (N 18 i / 20) := by
        rcases wf with z | z | z | z
        · omega
        · exact z.2
        · omega
        · omega
      have c4 := cc.2.2.1 (by omega)
      have hs2 : N 18 i / 20 < 2 := by omega
      have h19 := inc _ hs2
      have ea : 20 * (N 18 i / 20) + N 18 i % 20 = N 18 i := by omega
      have is1 := hi1.2.2.1.2.1 (N 18 i) a3
      have is0 := hi.2.2.1.2.1 (N 18 i) a3
      have hgo : ∀ τ, mdb M τ N V → st P M (k + 1) (md M τ (mack (mtake N i) (N 17 i) (N 18 i) (N 19 i)) V) → Q' none τ := by
        intro τ ht hst
        refine hQ' _ (hQ _ _ (fun Q2 h3 => ?_))
        refine ⟨N, V, ht, ?_⟩
        show zw_Md_deliver [.ref M, .int (nI i)] (md M _ N V) Q2
        exact mo_deliver_in _ _ _ _ _ hi.1.1 (by omega) (by rw [eP]; exact ⟨hP0, hP⟩) i hn (by omega) (fun z => by omega) (fun _ => ⟨a2, a3, by omega, is0.2.1, is0.1, h3 _ hst⟩) (fun z => by omega) (fun z => by omega)
      have rq := hr1.2.2.2.2.1 (N 18 i / 20) hs2
      have he1 : N 18 i % 20 < mtake N i 8 (N 18 i / 20) := by rw [o1 8 _ (by omega) (by omega)]; exact a4
      have ss := rq.2 (N 18 i % 20) he1
      have lo := ss.2.1
      unfold rS at ss
      rw [ea] at ss
      have bc := bit_cnt (mtake N i 12 (N 18 i)) is1.2.1 (N 17 i) a2
      have mx : mackx (mtake N i) (N 17 i) (N 18 i) = if mtake N i 12 (N 18 i) / 2 ^ (N 17 i) % 2 = 0 then mtake N i 12 (N 18 i) + 2 ^ (N 17 i) else mtake N i 12 (N 18 i) := rfl
      rw [← mx] at bc
      refine cl_ackArrives P (mcode N i) (N 18 i / 20) (N 18 i % 20) (N 17 i) (W (N 18 i / 20) (N 18 i % 20)) (W (N 18 i / 20) (N 18 i % 20) + 1) (mtake N i 10 (N 18 i)) (N 19 i) (mtake N i 9 (N 18 i / 20)) (if mtake N i 11 (N 18 i) = 0 then 0 else 1) (mtake N i 0 16) (fun l => mtake N i 12 (N 18 i) / 2 ^ l % 2) (mtake N i 1) (ctake ρ (N 0 16) i (N 0 16 - 1)) Q' hr1.1.1 hr1.2.1 cc.2.1 c4.1 c4.2.1 c4.2.2.1 hs2 (by omega) a2 ss.1 ss.2.2.2.1 ss.2.2.2.2.2.2.2.1 ss.2.2.2.2.1 (fun l hl => ⟨ss.2.2.2.2.2.2.2.2.2.2.1 l hl, Nat.mod_lt _ (by decide)⟩) ss.2.2.2.2.2.2.2.2.1 is1.1 ss.2.2.2.2.2.2.2.2.2.1 (by split <;> omega) rq.1.2.2.1 (hi1.1.1 _ _) (by omega) (rel_u hr1) (by omega) (fun d1 d2 d3 d4 => ?_) (fun d1 d2 d3 d4 => ?_) (fun d1 => ?_)
      · have h11 : mtake N i 11 (N 18 i) = 0 := by
          apply Classical.byContradiction
          intro z; rw [if_neg z] at d3; omega
        obtain ⟨p1, p2, p3⟩ := ack_step hi1 hr1 (l := N 17 i) (s := N 18 i / 20) (e := N 18 i % 20) (d := 1 + mtake N i 10 (20 * (N 18 i / 20) + N 18 i % 20)) a2 hs2 he1 (by rw [ea]; exact h11) (Or.inr rfl)
        rw [ea] at p1 p2 p3
        rw [if_neg (by omega)] at p2
        have q10 : zup (zup (mtake N i) 12 (N 18 i) (mackx (mtake N i) (N 17 i) (N 18 i))) 11 (N 18 i) (1 + mtake N i 10 (N 18 i)) 10 (N 18 i) = mtake N i 10 (N 18 i) := by rw [zup_at, if_neg (by omega), zup_at, if_neg (by omega)]
        have q11 : zup (zup (mtake N i) 12 (N 18 i) (mackx (mtake N i) (N 17 i) (N 18 i))) 11 (N 18 i) (1 + mtake N i 10 (N 18 i)) 11 (N 18 i) = 1 + mtake N i 10 (N 18 i) := by rw [zup_at, if_pos ⟨rfl, rfl⟩]
        have q16 : zup (zup (mtake N i) 12 (N 18 i) (mackx (mtake N i) (N 17 i) (N 18 i))) 11 (N 18 i) (1 + mtake N i 10 (N 18 i)) 0 16 = mtake N i 0 16 := by rw [zup_at, if_neg (by omega), zup_at, if_neg (by omega)]
        have m0 := p3 0
        have m1 := p3 1
        have mN : ∀ s, mund (mtake N i) s = mund N s := fun s => mund_of (o1 8 _ (by omega) (by omega)) (fun q => o1 11 q (by omega) (by omega))
        rw [mN] at m0 m1
        obtain ⟨p4, p5⟩ := tell_step p1 p2 (a := N 18 i) a3 (by rw [q11]; omega) (by
          rw [q16, u1]
          rcases (show N 18 i / 20 = 0 ∨ N 18 i / 20 = 1 by omega) with z | z
          · rw [if_pos ⟨by omega, by omega⟩] at m0; omega
          · rw [if_pos ⟨by omega, by omega⟩] at m1; omega)
        rw [q10, q16] at p5
        have em : mack (mtake N i) (N 17 i) (N 18 i) (N 19 i) = mtell (zup (zup (mtake N i) 12 (N 18 i) (mackx (mtake N i) (N 17 i) (N 18 i))) 11 (N 18 i) (1 + mtake N i 10 (N 18 i))) (N 18 i) := by
          unfold mack
          rw [if_pos ⟨d1, d2, h11⟩, if_neg (fun z => bc.mp z d4)]
        refine hgo _ ?_ (by rw [em]; exact st_mk (inv_k p4) p5)
        exact mdb_agw hm1 (fun w a b => agr_csnd (agr_pI (agr_pI (agr_rfl _ w) _ _ _ (by omega)) _ _ _ (by omega)) _ _ (by omega))
      · have h11 : mtake N i 11 (N 18 i) = 0 := by
          apply Classical.byContradiction
          intro z; rw [if_neg z] at d3; omega
        obtain ⟨p1, p2, p3⟩ := ack_step hi1 hr1 (l := N 17 i) (s := N 18 i / 20) (e := N 18 i % 20) (d := 0) a2 hs2 he1 (by rw [ea]; exact h11) (Or.inl rfl)
        rw [ea, zup_same _ 11 (N 18 i) 0 (by rw [zup_at, if_neg (by omega)]; exact h11)] at p1 p2
        rw [if_pos rfl] at p2
        have em : mack (mtake N i) (N 17 i) (N 18 i) (N 19 i) = zup (mtake N i) 12 (N 18 i) (mackx (mtake N i) (N 17 i) (N 18 i)) := by
          unfold mack
          rw [if_pos ⟨d1, d2, h11⟩, if_pos (bc.mpr d4)]
        refine hgo _ ?_ (by rw [em]; exact st_mk (inv_k p1) p2)
        exact mdb_agw hm1 (fun w a b => agr_pI (agr_pI (agr_rfl _ w) _ _ _ (by omega)) _ _ _ (by omega))
      · have em : mack (mtake N i) (N 17 i) (N 18 i) (N 19 i) = mtake N i := by
          unfold mack
          rw [if_neg (fun z => d1 ⟨z.1, z.2.1, by rw [if_pos z.2.2]⟩)]
        exact hgo _ hm1 (by rw [em]; exact st_mk (inv_k hi1) hr1)
    · rw [cc.1] at kq
      obtain ⟨a2, a3, a4, a5, a6⟩ : N 17 i < 2 ∧ N 18 i < 40 ∧ ¬ N 11 (N 18 i) = 0 ∧ N 16 i < 2 ∧ N 19 i = 0 := by
        rcases wf with z | z | z | z
        · omega
        · omega
        · exact z.2
        · omega
      have c4 := cc.2.2.1 (by omega)
      have ea : 20 * (N 18 i / 20) + N 18 i % 20 = N 18 i := by omega
      have hgo : ∀ τ, mdb M τ N V → st P M (k + 1) (md M τ (if N 1 (5 + N 17 i) = 0 then zup (mtake N i) 20 (40 * N 17 i + N 18 i) 1 else mtake N i) V) → Q' none τ := by
        intro τ ht hst
        refine hQ' _ (hQ _ _ (fun Q2 h3 => ?_))
        refine ⟨N, V, ht, ?_⟩
        show zw_Md_deliver [.ref M, .int (nI i)] (md M _ N V) Q2
        exact mo_deliver_in _ _ _ _ _ hi.1.1 (by omega) (by rw [eP]; exact ⟨hP0, hP⟩) i hn (by omega) (fun z => by omega) (fun z => by omega) (fun _ => ⟨a2, a3, h3 _ hst⟩) (fun z => by omega)
      by_cases gd : N 1 (5 + N 17 i) = 0
      · rw [if_pos gd] at hgo
        refine closed_step hi1 hr1 (r := N 17 i) (s1 := N 18 i / 20) (e1 := N 18 i % 20) a2 (by omega) (by omega) (by rw [ea, o1 11 _ (by omega) (by omega)]; exact a4) (by rw [o1 1 _ (by omega) (by omega)]; exact gd) cc.2.1 c4.1 c4.2.1 c4.2.2.1 Q' (fun τ t1 t2 => ?_)
        rw [ea] at t1
        exact hgo _ (mdb_agw hm1 t2) (st_mk (inv_k (closed_inv hi1 a2 a3 (by rw [o1 11 _ (by omega) (by omega)]; exact a4))) t1)
      · rw [if_neg gd] at hgo
        exact cl_closedArrives_no P (mcode N i) (N 17 i) (mtake N i 1) _ Q' hr1.1.1 hr1.2.1 cc.2.1 c4.2.2.1 a2 (by rw [o1 1 _ (by omega) (by omega)]; exact gd) (hgo _ hm1 (st_mk (inv_k hi1) hr1))
    · rw [cc.1] at kq
      obtain ⟨a2, a3, a4, a5, a6, a7⟩ : N 17 i < 2 ∧ N 18 i < N 0 2 ∧ N 16 i / 4 < N 0 0 ∧ N 16 i % 4 < N 0 0 ∧ N 19 i = 0 ∧ N 1 (5 + N 17 i) = 0 := by
        rcases wf with z | z | z | z
        · omega
        · omega
        · omega
        · exact z.2
      have c4 := cc.2.2.2 kq
      rw [eP] at a4 a5
      have ex : 4 * (N 16 i / 4) + N 16 i % 4 = N 16 i := by omega
      obtain ⟨p1, p2⟩ := has_step hi1 hr1 (r := N 17 i) (p := N 16 i / 4) (q := N 16 i % 4) (t := N 18 i) a2 a4 a5 (by omega)
      rw [ex] at p1 p2
      have hgo : ∀ τ, mdb M τ N V → (mfins (zup (mtake N i) 28 (16 * (100 * N 17 i + N 18 i) + N 16 i) 1) V (N 17 i) (N 16 i % 4) (N 18 i) → st P M (k + 1) (md M τ (zup (zup (mtake N i) 28 (16 * (100 * N 17 i + N 18 i) + N 16 i) 1) 27 (400 * N 17 i + 100 * (N 16 i % 4) + N 18 i) 1) (mfinV (zup (mtake N i) 28 (16 * (100 * N 17 i + N 18 i) + N 16 i) 1) V (N 17 i) (N 16 i % 4) (N 18 i) 12))) → (¬ mfins (zup (mtake N i) 28 (16 * (100 * N 17 i + N 18 i) + N 16 i) 1) V (N 17 i) (N 16 i % 4) (N 18 i) → st P M (k + 1) (md M τ (zup (mtake N i) 28 (16 * (100 * N 17 i + N 18 i) + N 16 i) 1) V)) → Q' none τ := by
        intro τ ht s1 s2
        refine hQ' _ (hQ _ _ (fun Q2 h3 => ?_))
        refine ⟨N, V, ht, ?_⟩
        show zw_Md_deliver [.ref M, .int (nI i)] (md M _ N V) Q2
        exact mo_deliver_in _ _ _ _ _ hi.1.1 (by omega) (by rw [eP]; exact ⟨hP0, hP⟩) i hn (by omega) (fun z => by omega) (fun z => by omega) (fun z => by omega) (fun _ => ⟨a2, by omega, by omega, by omega, fun z => h3 _ (s1 z), fun z => h3 _ (s2 z)⟩)
      have hv := crv_le (P := P) (r := N 17 i) hP a2
      have o2 : ∀ j q, ¬ j = 28 → zup (mtake N i) 28 (16 * (100 * N 17 i + N 18 i) + N 16 i) 1 j q = mtake N i j q := fun j q z => by rw [zup_at, if_neg (by omega)]
      have ew : mwin (zup (mtake N i) 28 (16 * (100 * N 17 i + N 18 i) + N 16 i) 1) V (N 17 i) (N 16 i % 4) = mwin (mtake N i) V (N 17 i) (N 16 i % 4) := mwin_congr [] (by rw [List.append_nil]; exact mline_of (o2 0 2 (by omega)) (fun q => o2 6 q (by omega)) (fun q => o2 11 q (by omega)) (fun q => o2 20 q (by omega)) (fun _ => rfl)) (o2 24 _ (by omega)) (o2 25 _ (by omega)) (inv_b4 hi1 _ _ a2 a5) (fun u _ => o2 27 _ (by omega))
      have wat : ∀ j, j < (mwin (mtake N i) V (N 17 i) (N 16 i % 4)).length → (mwin (mtake N i) V (N 17 i) (N 16 i % 4))[j]? = some ((mwin (mtake N i) V (N 17 i) (N 16 i % 4))[j]?.getD 0) := fun j hj => by rw [List.getElem?_eq_getElem hj]; rfl
      have wlt : ∀ j, j < (mwin (mtake N i) V (N 17 i) (N 16 i % 4)).length → (mwin (mtake N i) V (N 17 i) (N 16 i % 4))[j]?.getD 0 < mtake N i 0 2 := fun j hj => win_t hi1 (List.mem_of_getElem? (wat j hj))
      have rp1 := (hr1.2.2.2.2.2.2.2.2 (N 17 i) a2).2 (N 16 i % 4) a5
      refine cl_valuesArrive P (mcode N i) (N 17 i) (N 16 i / 4) (N 16 i % 4) (N 18 i) (mwin (mtake N i) V (N 17 i) (N 16 i % 4)).length (fun j => C ((mwin (mtake N i) V (N 17 i) (N 16 i % 4))[j]?.getD 0)) (fun j => mtake N i 26 (400 * N 17 i + 100 * (N 16 i % 4) + (mwin (mtake N i) V (N 17 i) (N 16 i % 4))[j]?.getD 0)) (fun j => (mwin (mtake N i) V (N 17 i) (N 16 i % 4))[j]?.getD 0) (fun j => mtake N i 2 ((mwin (mtake N i) V (N 17 i) (N 16 i % 4))[j]?.getD 0)) (fun j => mtake N i 3 ((mwin (mtake N i) V (N 17 i) (N 16 i % 4))[j]?.getD 0)) (fun j => (zs_I (ctake ρ (N 0 16) i (N 0 16 - 1)) (C ((mwin (mtake N i) V (N 17 i) (N 16 i % 4))[j]?.getD 0)) 3).toNatClampNeg) (ctake ρ (N 0 16) i (N 0 16 - 1)) Q' hr1.1.1 cc.2.1 c4.1 c4.2.1 c4.2.2.1 c4.2.2.2 a2 a4 a5 (by omega) rp1.2.2.1 ((hi1.2.2.2.2 (N 17 i) a2).2.2.2.2 (N 16 i % 4) a5).1 (rel_cun hi1 hr1 a2 a5) (fun j hj => (rel_ctn hi1 hr1 (wlt j hj)).1) (fun d1 => ?_) (fun j hj d1 d2 d3 => ?_) (fun a b ha hb hab => ?_)
      · refine hgo _ (mdb_agw hm1 (fun w a b => agr_pI (agr_rfl _ w) _ _ _ (by omega))) (fun hf => ?_) (fun _ => st_mk (inv_k p1) p2)
        exfalso
        obtain ⟨⟨f1, f2⟩, _⟩ := hf
        rw [o2 26 _ (by omega)] at f1
        rw [o2 27 _ (by omega)] at f2
        have lk := ((hi1.2.2.2.2 (N 17 i) a2).2.2.2.2 (N 16 i % 4) a5).2 (N 18 i) (by omega)
        have tw : N 18 i ∈ mwin (mtake N i) V (N 17 i) (N 16 i % 4) := mwin_mem.mpr ⟨lk.2.2 (Or.inl f1), f2⟩
        obtain ⟨j, hj⟩ := List.mem_iff_getElem?.mp tw
        have e0 : (mwin (mtake N i) V (N 17 i) (N 16 i % 4))[j]?.getD 0 = N 18 i := by rw [hj]; rfl
        have := d1 j (List.getElem?_eq_some_iff.mp hj).1 e0
        rw [e0] at this
        exact f1 this
      · have d0 : True := trivial
        have hj2 : (mwin (mtake N i) V (N 17 i) (N 16 i % 4))[j]? = some (N 18 i) := by rw [wat j hj, d1]
        rw [d1] at d3
        have cs := cfi_step p1 p2 (r := N 17 i) (p := N 16 i % 4) (j := j) (t := N 18 i) a2 a5 (by rw [ew]; exact hj2) (by rw [o2 26 _ (by omega), d3]; omega)
        rw [ew, o2 2 _ (by omega)] at cs
        rw [d1]
        refine hgo _ ?_ (fun hf => st_mk (inv_k (cs.1 hf).1) (cs.1 hf).2) (fun hf => by rw [cs.2.1 hf]; exact st_mk (inv_k p1) p2)
        refine mdb_agw hm1 (fun w a b => agr_trans (cs.2.2.1 w (Or.inr a)) (agr_pI (agr_rfl _ w) _ _ _ (by omega)))
      · exact nodup_inj (mwin_nodup (mtake N i) V (N 17 i) (N 16 i % 4)) (wat a ha) (by rw [wat b hb]; exact congrArg some hab.symm)
  · rw [cl_deliver_out P (N 0 16) x ρ Q1 hr.1.1 (rel_u hr) (by omega) g]
    refine hQ _ _ (fun Q2 h3 => ?_)
    refine ⟨N, V, hm, ?_⟩
    show zw_Md_deliver [.ref M, .int x] (md M _ N V) Q2
    rw [mo_deliver_out _ _ _ _ _ hi.1.1 (by omega) x g]
    exact h3 _ (st_id hi hr)
