/-! Methods: Md_in, Md_crowded, Md_looksAtSecond, Md_good, Md_reads, Md_writes, Md_readsIn, Md_active, Md_submit (made by program) -/
-- SequencedBatchesModel.in(III)Z
theorem dd_Md_in_0 : decode bb_Md_in 0 = .ok (.iload_n 0, 1) := by decide +kernel
theorem dd_Md_in_1 : decode bb_Md_in 1 = .ok (.iload_n 1, 1) := by decide +kernel
theorem dd_Md_in_2 : decode bb_Md_in 2 = .ok (.if_icmp .lt 12, 3) := by decide +kernel
theorem dd_Md_in_5 : decode bb_Md_in 5 = .ok (.iload_n 0, 1) := by decide +kernel
theorem dd_Md_in_6 : decode bb_Md_in 6 = .ok (.iload_n 2, 1) := by decide +kernel
theorem dd_Md_in_7 : decode bb_Md_in 7 = .ok (.if_icmp .gt 7, 3) := by decide +kernel
theorem dd_Md_in_10 : decode bb_Md_in 10 = .ok (.iconst 1, 1) := by decide +kernel
theorem dd_Md_in_11 : decode bb_Md_in 11 = .ok (.goto 4, 3) := by decide +kernel
theorem dd_Md_in_14 : decode bb_Md_in 14 = .ok (.iconst 0, 1) := by decide +kernel
theorem dd_Md_in_15 : decode bb_Md_in 15 = .ok (.ireturn, 1) := by decide +kernel
def zk_Md_in : Room := { frames := 0, cells := 0, slots := 0, locals := 0 }
abbrev zA_Md_in (p : Program) (l : Launch) (e : Env) (s : State) (m : MethodId) (args : Array Value) (below : List Frame) (meth : Method) (c : Code) (G : zs_G) (Q : zs_Q) (pc : Nat) (P : zs_P) : Prop := zs_At p l e zk_Md_in s m args below meth c (MQ below (zs_Qc G Q) args s 0 0 (fun q => zg_z G ≤ q)) G 3 pc P
def zb_Md_in_15 (Q : zs_Q) : zs_P := zt_zrt 0 0 Q
def zb_Md_in_14 (Q : zs_Q) : zs_P := zt_psh 0 ((zb_Md_in_15 Q))
def zb_Md_in_10 (Q : zs_Q) : zs_P := zt_psh 1 ((zb_Md_in_15 Q))
def zb_Md_in_5 (Q : zs_Q) : zs_P := zt_ild 0 (zt_ild 2 (zt_cmp (fun x y => y < x) (zb_Md_in_14 Q) (zb_Md_in_10 Q)))
def zb_Md_in_0 (Q : zs_Q) : zs_P := zt_ild 0 (zt_ild 1 (zt_cmp (fun x y => x < y) (zb_Md_in_14 Q) (zb_Md_in_5 Q)))
def zw_Md_in : zs_W := fun As σ Q => match As with
  | [a0, a1, a2] => zs_c1 [a0, a1, a2] = true ∧ zb_Md_in_0 Q [some a0, some a1, some a2] [] σ 0 0
  | _ => False
section
variable {p : Program} {l : Launch} {e : Env} {s : State} {m : MethodId} {args : Array Value} {below : List Frame} {meth : Method} {c : Code} {G : zs_G} {Q : zs_Q}
theorem zr_Md_in_15 (B : zs_B p s m args meth c G bb_Md_in 3 yy_Md_in (some .boolean)) : zA_Md_in p l e s m args below meth c G Q 15 (zb_Md_in_15 Q) := by
  unfold zb_Md_in_15
  exact za_zrt B.1 0 0 B.2.1 B.2.2.1 dd_Md_in_15
theorem zr_Md_in_14 (B : zs_B p s m args meth c G bb_Md_in 3 yy_Md_in (some .boolean)) : zA_Md_in p l e s m args below meth c G Q 14 (zb_Md_in_14 Q) := by
  unfold zb_Md_in_14
  refine za_ico B.1 0 dd_Md_in_14 (by decide) ?_
  exact (zr_Md_in_15 B)
theorem zr_Md_in_10 (B : zs_B p s m args meth c G bb_Md_in 3 yy_Md_in (some .boolean)) : zA_Md_in p l e s m args below meth c G Q 10 (zb_Md_in_10 Q) := by
  unfold zb_Md_in_10
  refine za_ico B.1 1 dd_Md_in_10 (by decide) ?_
  refine za_goto B.1 15 dd_Md_in_11 (by decide) ?_
  exact (zr_Md_in_15 B)
theorem zr_Md_in_5 (B : zs_B p s m args meth c G bb_Md_in 3 yy_Md_in (some .boolean)) : zA_Md_in p l e s m args below meth c G Q 5 (zb_Md_in_5 Q) := by
  unfold zb_Md_in_5
  refine za_ild_n B.1 0 dd_Md_in_5 rfl ?_
  refine za_ild_n B.1 2 dd_Md_in_6 rfl ?_
  exact za_cmp_gt B.1 14 dd_Md_in_7 (by decide) (zr_Md_in_14 B) (zr_Md_in_10 B)
theorem zr_Md_in_0 (B : zs_B p s m args meth c G bb_Md_in 3 yy_Md_in (some .boolean)) : zA_Md_in p l e s m args below meth c G Q 0 (zb_Md_in_0 Q) := by
  unfold zb_Md_in_0
  refine za_ild_n B.1 0 dd_Md_in_0 rfl ?_
  refine za_ild_n B.1 1 dd_Md_in_1 rfl ?_
  exact za_cmp_lt B.1 14 dd_Md_in_2 (by decide) (zr_Md_in_14 B) (zr_Md_in_5 B)
end
theorem zm_Md_in (l : Launch) (G : zs_G) (As : List Value) (σ : zs_S) (Q : zs_Q) (h : zw_Md_in As σ Q) : zs_Met l yy_Md_in (Cond.code yy_Md_in bb_Md_in 3 (some .boolean) :: zw_all) zk_Md_in G As σ Q 0 0 := by
  unfold zw_Md_in at h
  split at h
  · exact zs_enter (by decide +kernel) h.1 (Nat.le_of_ble_eq_true rfl) h.2 (fun p e s m args below meth c B => zr_Md_in_0 B)
  · exact h.elim
-- SequencedBatchesModel.crowded()Z
theorem dd_Md_crowded_0 : decode bb_Md_crowded 0 = .ok (.aload_n 0, 1) := by decide +kernel
theorem dd_Md_crowded_1 : decode bb_Md_crowded 1 = .ok (.getfield 108, 3) := by decide +kernel
theorem dd_Md_crowded_4 : decode bb_Md_crowded 4 = .ok (.bipush 48, 2) := by decide +kernel
theorem dd_Md_crowded_6 : decode bb_Md_crowded 6 = .ok (.if_icmp .le 7, 3) := by decide +kernel
theorem dd_Md_crowded_9 : decode bb_Md_crowded 9 = .ok (.iconst 1, 1) := by decide +kernel
theorem dd_Md_crowded_10 : decode bb_Md_crowded 10 = .ok (.goto 4, 3) := by decide +kernel
theorem dd_Md_crowded_13 : decode bb_Md_crowded 13 = .ok (.iconst 0, 1) := by decide +kernel
theorem dd_Md_crowded_14 : decode bb_Md_crowded 14 = .ok (.ireturn, 1) := by decide +kernel
def zk_Md_crowded : Room := { frames := 0, cells := 0, slots := 0, locals := 0 }
abbrev zA_Md_crowded (p : Program) (l : Launch) (e : Env) (s : State) (m : MethodId) (args : Array Value) (below : List Frame) (meth : Method) (c : Code) (G : zs_G) (Q : zs_Q) (pc : Nat) (P : zs_P) : Prop := zs_At p l e zk_Md_crowded s m args below meth c (MQ below (zs_Qc G Q) args s 0 0 (fun q => zg_z G ≤ q)) G 1 pc P
def zb_Md_crowded_14 (Q : zs_Q) : zs_P := zt_zrt 0 0 Q
def zb_Md_crowded_13 (Q : zs_Q) : zs_P := zt_psh 0 ((zb_Md_crowded_14 Q))
def zb_Md_crowded_9 (Q : zs_Q) : zs_P := zt_psh 1 ((zb_Md_crowded_14 Q))
def zb_Md_crowded_0 (Q : zs_Q) : zs_P := zt_ald 0 (zt_gtI 8 16 (zt_psh 48 (zt_cmp (fun x y => x ≤ y) (zb_Md_crowded_13 Q) (zb_Md_crowded_9 Q))))
def zw_Md_crowded : zs_W := fun As σ Q => match As with
  | [a0] => zs_c1 [a0] = true ∧ zb_Md_crowded_0 Q [some a0] [] σ 0 0
  | _ => False
section
variable {p : Program} {l : Launch} {e : Env} {s : State} {m : MethodId} {args : Array Value} {below : List Frame} {meth : Method} {c : Code} {G : zs_G} {Q : zs_Q}
theorem zr_Md_crowded_14 (B : zs_B p s m args meth c G bb_Md_crowded 1 yy_Md_crowded (some .boolean)) : zA_Md_crowded p l e s m args below meth c G Q 14 (zb_Md_crowded_14 Q) := by
  unfold zb_Md_crowded_14
  exact za_zrt B.1 0 0 B.2.1 B.2.2.1 dd_Md_crowded_14
theorem zr_Md_crowded_13 (B : zs_B p s m args meth c G bb_Md_crowded 1 yy_Md_crowded (some .boolean)) : zA_Md_crowded p l e s m args below meth c G Q 13 (zb_Md_crowded_13 Q) := by
  unfold zb_Md_crowded_13
  refine za_ico B.1 0 dd_Md_crowded_13 (by decide) ?_
  exact (zr_Md_crowded_14 B)
theorem zr_Md_crowded_9 (B : zs_B p s m args meth c G bb_Md_crowded 1 yy_Md_crowded (some .boolean)) : zA_Md_crowded p l e s m args below meth c G Q 9 (zb_Md_crowded_9 Q) := by
  unfold zb_Md_crowded_9
  refine za_ico B.1 1 dd_Md_crowded_9 (by decide) ?_
  refine za_goto B.1 14 dd_Md_crowded_10 (by decide) ?_
  exact (zr_Md_crowded_14 B)
theorem zr_Md_crowded_0 (B : zs_B p s m args meth c G bb_Md_crowded 1 yy_Md_crowded (some .boolean)) : zA_Md_crowded p l e s m args below meth c G Q 0 (zb_Md_crowded_0 Q) := by
  unfold zb_Md_crowded_0
  refine za_ald_n B.1 0 dd_Md_crowded_0 rfl ?_
  refine za_gtI B.1 8 16 zi_8 rfl (by decide) (by decide) rfl zW_472 rfl dd_Md_crowded_1 ?_
  refine za_bip B.1 48 dd_Md_crowded_4 (by decide) ?_
  exact za_cmp_le B.1 13 dd_Md_crowded_6 (by decide) (zr_Md_crowded_13 B) (zr_Md_crowded_9 B)
end
theorem zm_Md_crowded (l : Launch) (G : zs_G) (As : List Value) (σ : zs_S) (Q : zs_Q) (h : zw_Md_crowded As σ Q) : zs_Met l yy_Md_crowded (Cond.code yy_Md_crowded bb_Md_crowded 1 (some .boolean) :: zw_all) zk_Md_crowded G As σ Q 0 0 := by
  unfold zw_Md_crowded at h
  split at h
  · exact zs_enter (by decide +kernel) h.1 (Nat.le_of_ble_eq_true rfl) h.2 (fun p e s m args below meth c B => zr_Md_crowded_0 B)
  · exact h.elim
-- SequencedBatchesModel.looksAtSecond(I)Z
theorem dd_Md_looksAtSecond_0 : decode bb_Md_looksAtSecond 0 = .ok (.iload_n 0, 1) := by decide +kernel
theorem dd_Md_looksAtSecond_1 : decode bb_Md_looksAtSecond 1 = .ok (.iconst 2, 1) := by decide +kernel
theorem dd_Md_looksAtSecond_2 : decode bb_Md_looksAtSecond 2 = .ok (.if_icmp .eq 12, 3) := by decide +kernel
theorem dd_Md_looksAtSecond_5 : decode bb_Md_looksAtSecond 5 = .ok (.iload_n 0, 1) := by decide +kernel
theorem dd_Md_looksAtSecond_6 : decode bb_Md_looksAtSecond 6 = .ok (.iconst 4, 1) := by decide +kernel
theorem dd_Md_looksAtSecond_7 : decode bb_Md_looksAtSecond 7 = .ok (.if_icmp .eq 7, 3) := by decide +kernel
theorem dd_Md_looksAtSecond_10 : decode bb_Md_looksAtSecond 10 = .ok (.iconst 1, 1) := by decide +kernel
theorem dd_Md_looksAtSecond_11 : decode bb_Md_looksAtSecond 11 = .ok (.goto 4, 3) := by decide +kernel
theorem dd_Md_looksAtSecond_14 : decode bb_Md_looksAtSecond 14 = .ok (.iconst 0, 1) := by decide +kernel
theorem dd_Md_looksAtSecond_15 : decode bb_Md_looksAtSecond 15 = .ok (.ireturn, 1) := by decide +kernel
def zk_Md_looksAtSecond : Room := { frames := 0, cells := 0, slots := 0, locals := 0 }
abbrev zA_Md_looksAtSecond (p : Program) (l : Launch) (e : Env) (s : State) (m : MethodId) (args : Array Value) (below : List Frame) (meth : Method) (c : Code) (G : zs_G) (Q : zs_Q) (pc : Nat) (P : zs_P) : Prop := zs_At p l e zk_Md_looksAtSecond s m args below meth c (MQ below (zs_Qc G Q) args s 0 0 (fun q => zg_z G ≤ q)) G 1 pc P
def zb_Md_looksAtSecond_15 (Q : zs_Q) : zs_P := zt_zrt 0 0 Q
def zb_Md_looksAtSecond_14 (Q : zs_Q) : zs_P := zt_psh 0 ((zb_Md_looksAtSecond_15 Q))
def zb_Md_looksAtSecond_10 (Q : zs_Q) : zs_P := zt_psh 1 ((zb_Md_looksAtSecond_15 Q))
def zb_Md_looksAtSecond_5 (Q : zs_Q) : zs_P := zt_ild 0 (zt_psh 4 (zt_cmp (fun x y => x = y) (zb_Md_looksAtSecond_14 Q) (zb_Md_looksAtSecond_10 Q)))
def zb_Md_looksAtSecond_0 (Q : zs_Q) : zs_P := zt_ild 0 (zt_psh 2 (zt_cmp (fun x y => x = y) (zb_Md_looksAtSecond_14 Q) (zb_Md_looksAtSecond_5 Q)))
def zw_Md_looksAtSecond : zs_W := fun As σ Q => match As with
  | [a0] => zs_c1 [a0] = true ∧ zb_Md_looksAtSecond_0 Q [some a0] [] σ 0 0
  | _ => False
section
variable {p : Program} {l : Launch} {e : Env} {s : State} {m : MethodId} {args : Array Value} {below : List Frame} {meth : Method} {c : Code} {G : zs_G} {Q : zs_Q}
theorem zr_Md_looksAtSecond_15 (B : zs_B p s m args meth c G bb_Md_looksAtSecond 1 yy_Md_looksAtSecond (some .boolean)) : zA_Md_looksAtSecond p l e s m args below meth c G Q 15 (zb_Md_looksAtSecond_15 Q) := by
  unfold zb_Md_looksAtSecond_15
  exact za_zrt B.1 0 0 B.2.1 B.2.2.1 dd_Md_looksAtSecond_15
theorem zr_Md_looksAtSecond_14 (B : zs_B p s m args meth c G bb_Md_looksAtSecond 1 yy_Md_looksAtSecond (some .boolean)) : zA_Md_looksAtSecond p l e s m args below meth c G Q 14 (zb_Md_looksAtSecond_14 Q) := by
  unfold zb_Md_looksAtSecond_14
  refine za_ico B.1 0 dd_Md_looksAtSecond_14 (by decide) ?_
  exact (zr_Md_looksAtSecond_15 B)
theorem zr_Md_looksAtSecond_10 (B : zs_B p s m args meth c G bb_Md_looksAtSecond 1 yy_Md_looksAtSecond (some .boolean)) : zA_Md_looksAtSecond p l e s m args below meth c G Q 10 (zb_Md_looksAtSecond_10 Q) := by
  unfold zb_Md_looksAtSecond_10
  refine za_ico B.1 1 dd_Md_looksAtSecond_10 (by decide) ?_
  refine za_goto B.1 15 dd_Md_looksAtSecond_11 (by decide) ?_
  exact (zr_Md_looksAtSecond_15 B)
theorem zr_Md_looksAtSecond_5 (B : zs_B p s m args meth c G bb_Md_looksAtSecond 1 yy_Md_looksAtSecond (some .boolean)) : zA_Md_looksAtSecond p l e s m args below meth c G Q 5 (zb_Md_looksAtSecond_5 Q) := by
  unfold zb_Md_looksAtSecond_5
  refine za_ild_n B.1 0 dd_Md_looksAtSecond_5 rfl ?_
  refine za_ico B.1 4 dd_Md_looksAtSecond_6 (by decide) ?_
  exact za_cmp_eq B.1 14 dd_Md_looksAtSecond_7 (by decide) (zr_Md_looksAtSecond_14 B) (zr_Md_looksAtSecond_10 B)
theorem zr_Md_looksAtSecond_0 (B : zs_B p s m args meth c G bb_Md_looksAtSecond 1 yy_Md_looksAtSecond (some .boolean)) : zA_Md_looksAtSecond p l e s m args below meth c G Q 0 (zb_Md_looksAtSecond_0 Q) := by
  unfold zb_Md_looksAtSecond_0
  refine za_ild_n B.1 0 dd_Md_looksAtSecond_0 rfl ?_
  refine za_ico B.1 2 dd_Md_looksAtSecond_1 (by decide) ?_
  exact za_cmp_eq B.1 14 dd_Md_looksAtSecond_2 (by decide) (zr_Md_looksAtSecond_14 B) (zr_Md_looksAtSecond_5 B)
end
theorem zm_Md_looksAtSecond (l : Launch) (G : zs_G) (As : List Value) (σ : zs_S) (Q : zs_Q) (h : zw_Md_looksAtSecond As σ Q) : zs_Met l yy_Md_looksAtSecond (Cond.code yy_Md_looksAtSecond bb_Md_looksAtSecond 1 (some .boolean) :: zw_all) zk_Md_looksAtSecond G As σ Q 0 0 := by
  unfold zw_Md_looksAtSecond at h
  split at h
  · exact zs_enter (by decide +kernel) h.1 (Nat.le_of_ble_eq_true rfl) h.2 (fun p e s m args below meth c B => zr_Md_looksAtSecond_0 B)
  · exact h.elim
-- SequencedBatchesModel.good(IIII)Z
theorem dd_Md_good_0 : decode bb_Md_good 0 = .ok (.iload_n 0, 1) := by decide +kernel
theorem dd_Md_good_1 : decode bb_Md_good 1 = .ok (.iconst 0, 1) := by decide +kernel
theorem dd_Md_good_2 : decode bb_Md_good 2 = .ok (.iconst 5, 1) := by decide +kernel
theorem dd_Md_good_3 : decode bb_Md_good 3 = .ok (.invokestatic 111, 3) := by decide +kernel
theorem dd_Md_good_6 : decode bb_Md_good 6 = .ok (.ifCond .eq 30, 3) := by decide +kernel
theorem dd_Md_good_9 : decode bb_Md_good 9 = .ok (.iload_n 1, 1) := by decide +kernel
theorem dd_Md_good_10 : decode bb_Md_good 10 = .ok (.iconst 0, 1) := by decide +kernel
theorem dd_Md_good_11 : decode bb_Md_good 11 = .ok (.bipush 11, 2) := by decide +kernel
theorem dd_Md_good_13 : decode bb_Md_good 13 = .ok (.invokestatic 111, 3) := by decide +kernel
theorem dd_Md_good_16 : decode bb_Md_good 16 = .ok (.ifCond .eq 20, 3) := by decide +kernel
theorem dd_Md_good_19 : decode bb_Md_good 19 = .ok (.iload_n 0, 1) := by decide +kernel
theorem dd_Md_good_20 : decode bb_Md_good 20 = .ok (.invokestatic 115, 3) := by decide +kernel
theorem dd_Md_good_23 : decode bb_Md_good 23 = .ok (.ifCond .eq 15, 3) := by decide +kernel
theorem dd_Md_good_26 : decode bb_Md_good 26 = .ok (.iload_n 2, 1) := by decide +kernel
theorem dd_Md_good_27 : decode bb_Md_good 27 = .ok (.iconst 0, 1) := by decide +kernel
theorem dd_Md_good_28 : decode bb_Md_good 28 = .ok (.bipush 11, 2) := by decide +kernel
theorem dd_Md_good_30 : decode bb_Md_good 30 = .ok (.invokestatic 111, 3) := by decide +kernel
theorem dd_Md_good_33 : decode bb_Md_good 33 = .ok (.ifCond .ne 5, 3) := by decide +kernel
theorem dd_Md_good_36 : decode bb_Md_good 36 = .ok (.iconst 0, 1) := by decide +kernel
theorem dd_Md_good_37 : decode bb_Md_good 37 = .ok (.ireturn, 1) := by decide +kernel
theorem dd_Md_good_38 : decode bb_Md_good 38 = .ok (.iload_n 0, 1) := by decide +kernel
theorem dd_Md_good_39 : decode bb_Md_good 39 = .ok (.ifCond .eq 8, 3) := by decide +kernel
theorem dd_Md_good_42 : decode bb_Md_good 42 = .ok (.iload_n 0, 1) := by decide +kernel
theorem dd_Md_good_43 : decode bb_Md_good 43 = .ok (.iconst 3, 1) := by decide +kernel
theorem dd_Md_good_44 : decode bb_Md_good 44 = .ok (.if_icmp .ne 10, 3) := by decide +kernel
theorem dd_Md_good_47 : decode bb_Md_good 47 = .ok (.iload_n 1, 1) := by decide +kernel
theorem dd_Md_good_48 : decode bb_Md_good 48 = .ok (.iload_n 2, 1) := by decide +kernel
theorem dd_Md_good_49 : decode bb_Md_good 49 = .ok (.if_icmp .ne 5, 3) := by decide +kernel
theorem dd_Md_good_52 : decode bb_Md_good 52 = .ok (.iconst 0, 1) := by decide +kernel
theorem dd_Md_good_53 : decode bb_Md_good 53 = .ok (.ireturn, 1) := by decide +kernel
theorem dd_Md_good_54 : decode bb_Md_good 54 = .ok (.iload_n 0, 1) := by decide +kernel
theorem dd_Md_good_55 : decode bb_Md_good 55 = .ok (.iconst 1, 1) := by decide +kernel
theorem dd_Md_good_56 : decode bb_Md_good 56 = .ok (.if_icmp .ne 29, 3) := by decide +kernel
theorem dd_Md_good_59 : decode bb_Md_good 59 = .ok (.iload_n 3, 1) := by decide +kernel
theorem dd_Md_good_60 : decode bb_Md_good 60 = .ok (.iconst 0, 1) := by decide +kernel
theorem dd_Md_good_61 : decode bb_Md_good 61 = .ok (.bipush 11, 2) := by decide +kernel
theorem dd_Md_good_63 : decode bb_Md_good 63 = .ok (.invokestatic 111, 3) := by decide +kernel
theorem dd_Md_good_66 : decode bb_Md_good 66 = .ok (.ifCond .eq 17, 3) := by decide +kernel
theorem dd_Md_good_69 : decode bb_Md_good 69 = .ok (.iload_n 3, 1) := by decide +kernel
theorem dd_Md_good_70 : decode bb_Md_good 70 = .ok (.iload_n 1, 1) := by decide +kernel
theorem dd_Md_good_71 : decode bb_Md_good 71 = .ok (.if_icmp .eq 12, 3) := by decide +kernel
theorem dd_Md_good_74 : decode bb_Md_good 74 = .ok (.iload_n 3, 1) := by decide +kernel
theorem dd_Md_good_75 : decode bb_Md_good 75 = .ok (.iload_n 2, 1) := by decide +kernel
theorem dd_Md_good_76 : decode bb_Md_good 76 = .ok (.if_icmp .eq 7, 3) := by decide +kernel
theorem dd_Md_good_79 : decode bb_Md_good 79 = .ok (.iconst 1, 1) := by decide +kernel
theorem dd_Md_good_80 : decode bb_Md_good 80 = .ok (.goto 4, 3) := by decide +kernel
theorem dd_Md_good_83 : decode bb_Md_good 83 = .ok (.iconst 0, 1) := by decide +kernel
theorem dd_Md_good_84 : decode bb_Md_good 84 = .ok (.ireturn, 1) := by decide +kernel
theorem dd_Md_good_85 : decode bb_Md_good 85 = .ok (.iload_n 0, 1) := by decide +kernel
theorem dd_Md_good_86 : decode bb_Md_good 86 = .ok (.ifCond .ne 7, 3) := by decide +kernel
theorem dd_Md_good_89 : decode bb_Md_good 89 = .ok (.iload_n 3, 1) := by decide +kernel
theorem dd_Md_good_90 : decode bb_Md_good 90 = .ok (.ifCond .lt 7, 3) := by decide +kernel
theorem dd_Md_good_93 : decode bb_Md_good 93 = .ok (.iconst 1, 1) := by decide +kernel
theorem dd_Md_good_94 : decode bb_Md_good 94 = .ok (.goto 4, 3) := by decide +kernel
theorem dd_Md_good_97 : decode bb_Md_good 97 = .ok (.iconst 0, 1) := by decide +kernel
theorem dd_Md_good_98 : decode bb_Md_good 98 = .ok (.ireturn, 1) := by decide +kernel
def zk_Md_good : Room := { frames := 1, cells := 0, slots := 0, locals := 22 }
abbrev zA_Md_good (p : Program) (l : Launch) (e : Env) (s : State) (m : MethodId) (args : Array Value) (below : List Frame) (meth : Method) (c : Code) (G : zs_G) (Q : zs_Q) (pc : Nat) (P : zs_P) : Prop := zs_At p l e zk_Md_good s m args below meth c (MQ below (zs_Qc G Q) args s 0 0 (fun q => zg_z G ≤ q)) G 4 pc P
def zb_Md_good_36 (Q : zs_Q) : zs_P := zt_psh 0 (zt_zrt 0 0 Q)
def zb_Md_good_98 (Q : zs_Q) : zs_P := zt_zrt 0 0 Q
def zb_Md_good_93 (Q : zs_Q) : zs_P := zt_psh 1 ((zb_Md_good_98 Q))
def zb_Md_good_97 (Q : zs_Q) : zs_P := zt_psh 0 ((zb_Md_good_98 Q))
def zb_Md_good_89 (Q : zs_Q) : zs_P := zt_ild 3 (zt_if (fun x => x < 0) (zb_Md_good_97 Q) (zb_Md_good_93 Q))
def zb_Md_good_85 (Q : zs_Q) : zs_P := zt_ild 0 (zt_if (fun x => x = 0) (zb_Md_good_89 Q) (zb_Md_good_93 Q))
def zb_Md_good_84 (Q : zs_Q) : zs_P := zt_zrt 0 0 Q
def zb_Md_good_83 (Q : zs_Q) : zs_P := zt_psh 0 ((zb_Md_good_84 Q))
def zb_Md_good_79 (Q : zs_Q) : zs_P := zt_psh 1 ((zb_Md_good_84 Q))
def zb_Md_good_74 (Q : zs_Q) : zs_P := zt_ild 3 (zt_ild 2 (zt_cmp (fun x y => x = y) (zb_Md_good_83 Q) (zb_Md_good_79 Q)))
def zb_Md_good_69 (Q : zs_Q) : zs_P := zt_ild 3 (zt_ild 1 (zt_cmp (fun x y => x = y) (zb_Md_good_83 Q) (zb_Md_good_74 Q)))
def zb_Md_good_59 (Q : zs_Q) : zs_P := zt_ild 3 (zt_psh 0 (zt_psh 11 (zt_cal zw_Md_in 3 0 0 0 0 (zt_if (fun x => x = 0) (zb_Md_good_83 Q) (zb_Md_good_69 Q)))))
def zb_Md_good_54 (Q : zs_Q) : zs_P := zt_ild 0 (zt_psh 1 (zt_cmp (fun x y => x = y) (zb_Md_good_59 Q) (zb_Md_good_85 Q)))
def zb_Md_good_52 (Q : zs_Q) : zs_P := zt_psh 0 (zt_zrt 0 0 Q)
def zb_Md_good_47 (Q : zs_Q) : zs_P := zt_ild 1 (zt_ild 2 (zt_cmp (fun x y => x = y) (zb_Md_good_52 Q) (zb_Md_good_54 Q)))
def zb_Md_good_42 (Q : zs_Q) : zs_P := zt_ild 0 (zt_psh 3 (zt_cmp (fun x y => x = y) (zb_Md_good_47 Q) (zb_Md_good_54 Q)))
def zb_Md_good_38 (Q : zs_Q) : zs_P := zt_ild 0 (zt_if (fun x => x = 0) (zb_Md_good_47 Q) (zb_Md_good_42 Q))
def zb_Md_good_26 (Q : zs_Q) : zs_P := zt_ild 2 (zt_psh 0 (zt_psh 11 (zt_cal zw_Md_in 3 0 0 0 0 (zt_if (fun x => x = 0) (zb_Md_good_36 Q) (zb_Md_good_38 Q)))))
def zb_Md_good_19 (Q : zs_Q) : zs_P := zt_ild 0 (zt_cal zw_Md_looksAtSecond 1 0 0 0 0 (zt_if (fun x => x = 0) (zb_Md_good_38 Q) (zb_Md_good_26 Q)))
def zb_Md_good_9 (Q : zs_Q) : zs_P := zt_ild 1 (zt_psh 0 (zt_psh 11 (zt_cal zw_Md_in 3 0 0 0 0 (zt_if (fun x => x = 0) (zb_Md_good_36 Q) (zb_Md_good_19 Q)))))
def zb_Md_good_0 (Q : zs_Q) : zs_P := zt_ild 0 (zt_psh 0 (zt_psh 5 (zt_cal zw_Md_in 3 0 0 0 0 (zt_if (fun x => x = 0) (zb_Md_good_36 Q) (zb_Md_good_9 Q)))))
def zw_Md_good : zs_W := fun As σ Q => match As with
  | [a0, a1, a2, a3] => zs_c1 [a0, a1, a2, a3] = true ∧ zb_Md_good_0 Q [some a0, some a1, some a2, some a3] [] σ 0 0
  | _ => False
section
variable {p : Program} {l : Launch} {e : Env} {s : State} {m : MethodId} {args : Array Value} {below : List Frame} {meth : Method} {c : Code} {G : zs_G} {Q : zs_Q}
theorem zr_Md_good_36 (B : zs_B p s m args meth c G bb_Md_good 4 yy_Md_good (some .boolean)) : zA_Md_good p l e s m args below meth c G Q 36 (zb_Md_good_36 Q) := by
  unfold zb_Md_good_36
  refine za_ico B.1 0 dd_Md_good_36 (by decide) ?_
  exact za_zrt B.1 0 0 B.2.1 B.2.2.1 dd_Md_good_37
theorem zr_Md_good_98 (B : zs_B p s m args meth c G bb_Md_good 4 yy_Md_good (some .boolean)) : zA_Md_good p l e s m args below meth c G Q 98 (zb_Md_good_98 Q) := by
  unfold zb_Md_good_98
  exact za_zrt B.1 0 0 B.2.1 B.2.2.1 dd_Md_good_98
theorem zr_Md_good_93 (B : zs_B p s m args meth c G bb_Md_good 4 yy_Md_good (some .boolean)) : zA_Md_good p l e s m args below meth c G Q 93 (zb_Md_good_93 Q) := by
  unfold zb_Md_good_93
  refine za_ico B.1 1 dd_Md_good_93 (by decide) ?_
  refine za_goto B.1 98 dd_Md_good_94 (by decide) ?_
  exact (zr_Md_good_98 B)
theorem zr_Md_good_97 (B : zs_B p s m args meth c G bb_Md_good 4 yy_Md_good (some .boolean)) : zA_Md_good p l e s m args below meth c G Q 97 (zb_Md_good_97 Q) := by
  unfold zb_Md_good_97
  refine za_ico B.1 0 dd_Md_good_97 (by decide) ?_
  exact (zr_Md_good_98 B)
theorem zr_Md_good_89 (B : zs_B p s m args meth c G bb_Md_good 4 yy_Md_good (some .boolean)) : zA_Md_good p l e s m args below meth c G Q 89 (zb_Md_good_89 Q) := by
  unfold zb_Md_good_89
  refine za_ild_n B.1 3 dd_Md_good_89 rfl ?_
  exact za_if_lt B.1 97 dd_Md_good_90 (by decide) (zr_Md_good_97 B) (zr_Md_good_93 B)
theorem zr_Md_good_85 (B : zs_B p s m args meth c G bb_Md_good 4 yy_Md_good (some .boolean)) : zA_Md_good p l e s m args below meth c G Q 85 (zb_Md_good_85 Q) := by
  unfold zb_Md_good_85
  refine za_ild_n B.1 0 dd_Md_good_85 rfl ?_
  exact za_if_ne B.1 93 dd_Md_good_86 (by decide) (zr_Md_good_89 B) (zr_Md_good_93 B)
theorem zr_Md_good_84 (B : zs_B p s m args meth c G bb_Md_good 4 yy_Md_good (some .boolean)) : zA_Md_good p l e s m args below meth c G Q 84 (zb_Md_good_84 Q) := by
  unfold zb_Md_good_84
  exact za_zrt B.1 0 0 B.2.1 B.2.2.1 dd_Md_good_84
theorem zr_Md_good_83 (B : zs_B p s m args meth c G bb_Md_good 4 yy_Md_good (some .boolean)) : zA_Md_good p l e s m args below meth c G Q 83 (zb_Md_good_83 Q) := by
  unfold zb_Md_good_83
  refine za_ico B.1 0 dd_Md_good_83 (by decide) ?_
  exact (zr_Md_good_84 B)
theorem zr_Md_good_79 (B : zs_B p s m args meth c G bb_Md_good 4 yy_Md_good (some .boolean)) : zA_Md_good p l e s m args below meth c G Q 79 (zb_Md_good_79 Q) := by
  unfold zb_Md_good_79
  refine za_ico B.1 1 dd_Md_good_79 (by decide) ?_
  refine za_goto B.1 84 dd_Md_good_80 (by decide) ?_
  exact (zr_Md_good_84 B)
theorem zr_Md_good_74 (B : zs_B p s m args meth c G bb_Md_good 4 yy_Md_good (some .boolean)) : zA_Md_good p l e s m args below meth c G Q 74 (zb_Md_good_74 Q) := by
  unfold zb_Md_good_74
  refine za_ild_n B.1 3 dd_Md_good_74 rfl ?_
  refine za_ild_n B.1 2 dd_Md_good_75 rfl ?_
  exact za_cmp_eq B.1 83 dd_Md_good_76 (by decide) (zr_Md_good_83 B) (zr_Md_good_79 B)
theorem zr_Md_good_69 (B : zs_B p s m args meth c G bb_Md_good 4 yy_Md_good (some .boolean)) : zA_Md_good p l e s m args below meth c G Q 69 (zb_Md_good_69 Q) := by
  unfold zb_Md_good_69
  refine za_ild_n B.1 3 dd_Md_good_69 rfl ?_
  refine za_ild_n B.1 1 dd_Md_good_70 rfl ?_
  exact za_cmp_eq B.1 83 dd_Md_good_71 (by decide) (zr_Md_good_83 B) (zr_Md_good_74 B)
theorem zr_Md_good_59 (B : zs_B p s m args meth c G bb_Md_good 4 yy_Md_good (some .boolean)) : zA_Md_good p l e s m args below meth c G Q 59 (zb_Md_good_59 Q) := by
  unfold zb_Md_good_59
  refine za_ild_n B.1 3 dd_Md_good_59 rfl ?_
  refine za_ico B.1 0 dd_Md_good_60 (by decide) ?_
  refine za_bip B.1 11 dd_Md_good_61 (by decide) ?_
  refine za_cS B.1 3 0 0 0 0 rfl rfl (zm_Md_in l G) ⟨callB_of 3 B.1.1.2.2.2.2 (zs_good zW_497) rfl rfl rfl (B.1.1.2.2.2.2 _ zW_8) (B.1.1.2.2.2.2 _ zW_495) (by decide +kernel) ⟨by decide, by decide⟩, (B.1.1.2.2.2.2 _ zW_496)⟩ dd_Md_good_63 ?_
  exact za_if_eq B.1 83 dd_Md_good_66 (by decide) (zr_Md_good_83 B) (zr_Md_good_69 B)
theorem zr_Md_good_54 (B : zs_B p s m args meth c G bb_Md_good 4 yy_Md_good (some .boolean)) : zA_Md_good p l e s m args below meth c G Q 54 (zb_Md_good_54 Q) := by
  unfold zb_Md_good_54
  refine za_ild_n B.1 0 dd_Md_good_54 rfl ?_
  refine za_ico B.1 1 dd_Md_good_55 (by decide) ?_
  exact za_cmp_ne B.1 85 dd_Md_good_56 (by decide) (zr_Md_good_59 B) (zr_Md_good_85 B)
theorem zr_Md_good_52 (B : zs_B p s m args meth c G bb_Md_good 4 yy_Md_good (some .boolean)) : zA_Md_good p l e s m args below meth c G Q 52 (zb_Md_good_52 Q) := by
  unfold zb_Md_good_52
  refine za_ico B.1 0 dd_Md_good_52 (by decide) ?_
  exact za_zrt B.1 0 0 B.2.1 B.2.2.1 dd_Md_good_53
theorem zr_Md_good_47 (B : zs_B p s m args meth c G bb_Md_good 4 yy_Md_good (some .boolean)) : zA_Md_good p l e s m args below meth c G Q 47 (zb_Md_good_47 Q) := by
  unfold zb_Md_good_47
  refine za_ild_n B.1 1 dd_Md_good_47 rfl ?_
  refine za_ild_n B.1 2 dd_Md_good_48 rfl ?_
  exact za_cmp_ne B.1 54 dd_Md_good_49 (by decide) (zr_Md_good_52 B) (zr_Md_good_54 B)
theorem zr_Md_good_42 (B : zs_B p s m args meth c G bb_Md_good 4 yy_Md_good (some .boolean)) : zA_Md_good p l e s m args below meth c G Q 42 (zb_Md_good_42 Q) := by
  unfold zb_Md_good_42
  refine za_ild_n B.1 0 dd_Md_good_42 rfl ?_
  refine za_ico B.1 3 dd_Md_good_43 (by decide) ?_
  exact za_cmp_ne B.1 54 dd_Md_good_44 (by decide) (zr_Md_good_47 B) (zr_Md_good_54 B)
theorem zr_Md_good_38 (B : zs_B p s m args meth c G bb_Md_good 4 yy_Md_good (some .boolean)) : zA_Md_good p l e s m args below meth c G Q 38 (zb_Md_good_38 Q) := by
  unfold zb_Md_good_38
  refine za_ild_n B.1 0 dd_Md_good_38 rfl ?_
  exact za_if_eq B.1 47 dd_Md_good_39 (by decide) (zr_Md_good_47 B) (zr_Md_good_42 B)
theorem zr_Md_good_26 (B : zs_B p s m args meth c G bb_Md_good 4 yy_Md_good (some .boolean)) : zA_Md_good p l e s m args below meth c G Q 26 (zb_Md_good_26 Q) := by
  unfold zb_Md_good_26
  refine za_ild_n B.1 2 dd_Md_good_26 rfl ?_
  refine za_ico B.1 0 dd_Md_good_27 (by decide) ?_
  refine za_bip B.1 11 dd_Md_good_28 (by decide) ?_
  refine za_cS B.1 3 0 0 0 0 rfl rfl (zm_Md_in l G) ⟨callB_of 3 B.1.1.2.2.2.2 (zs_good zW_497) rfl rfl rfl (B.1.1.2.2.2.2 _ zW_8) (B.1.1.2.2.2.2 _ zW_495) (by decide +kernel) ⟨by decide, by decide⟩, (B.1.1.2.2.2.2 _ zW_496)⟩ dd_Md_good_30 ?_
  exact za_if_ne B.1 38 dd_Md_good_33 (by decide) (zr_Md_good_36 B) (zr_Md_good_38 B)
theorem zr_Md_good_19 (B : zs_B p s m args meth c G bb_Md_good 4 yy_Md_good (some .boolean)) : zA_Md_good p l e s m args below meth c G Q 19 (zb_Md_good_19 Q) := by
  unfold zb_Md_good_19
  refine za_ild_n B.1 0 dd_Md_good_19 rfl ?_
  refine za_cS B.1 1 0 0 0 0 rfl rfl (zm_Md_looksAtSecond l G) ⟨callB_of 1 B.1.1.2.2.2.2 (zs_good zW_503) rfl rfl rfl (B.1.1.2.2.2.2 _ zW_8) (B.1.1.2.2.2.2 _ zW_501) (by decide +kernel) ⟨by decide, by decide⟩, (B.1.1.2.2.2.2 _ zW_502)⟩ dd_Md_good_20 ?_
  exact za_if_eq B.1 38 dd_Md_good_23 (by decide) (zr_Md_good_38 B) (zr_Md_good_26 B)
theorem zr_Md_good_9 (B : zs_B p s m args meth c G bb_Md_good 4 yy_Md_good (some .boolean)) : zA_Md_good p l e s m args below meth c G Q 9 (zb_Md_good_9 Q) := by
  unfold zb_Md_good_9
  refine za_ild_n B.1 1 dd_Md_good_9 rfl ?_
  refine za_ico B.1 0 dd_Md_good_10 (by decide) ?_
  refine za_bip B.1 11 dd_Md_good_11 (by decide) ?_
  refine za_cS B.1 3 0 0 0 0 rfl rfl (zm_Md_in l G) ⟨callB_of 3 B.1.1.2.2.2.2 (zs_good zW_497) rfl rfl rfl (B.1.1.2.2.2.2 _ zW_8) (B.1.1.2.2.2.2 _ zW_495) (by decide +kernel) ⟨by decide, by decide⟩, (B.1.1.2.2.2.2 _ zW_496)⟩ dd_Md_good_13 ?_
  exact za_if_eq B.1 36 dd_Md_good_16 (by decide) (zr_Md_good_36 B) (zr_Md_good_19 B)
theorem zr_Md_good_0 (B : zs_B p s m args meth c G bb_Md_good 4 yy_Md_good (some .boolean)) : zA_Md_good p l e s m args below meth c G Q 0 (zb_Md_good_0 Q) := by
  unfold zb_Md_good_0
  refine za_ild_n B.1 0 dd_Md_good_0 rfl ?_
  refine za_ico B.1 0 dd_Md_good_1 (by decide) ?_
  refine za_ico B.1 5 dd_Md_good_2 (by decide) ?_
  refine za_cS B.1 3 0 0 0 0 rfl rfl (zm_Md_in l G) ⟨callB_of 3 B.1.1.2.2.2.2 (zs_good zW_497) rfl rfl rfl (B.1.1.2.2.2.2 _ zW_8) (B.1.1.2.2.2.2 _ zW_495) (by decide +kernel) ⟨by decide, by decide⟩, (B.1.1.2.2.2.2 _ zW_496)⟩ dd_Md_good_3 ?_
  exact za_if_eq B.1 36 dd_Md_good_6 (by decide) (zr_Md_good_36 B) (zr_Md_good_9 B)
end
theorem zm_Md_good (l : Launch) (G : zs_G) (As : List Value) (σ : zs_S) (Q : zs_Q) (h : zw_Md_good As σ Q) : zs_Met l yy_Md_good (Cond.code yy_Md_good bb_Md_good 4 (some .boolean) :: zw_all) zk_Md_good G As σ Q 0 0 := by
  unfold zw_Md_good at h
  split at h
  · exact zs_enter (by decide +kernel) h.1 (Nat.le_of_ble_eq_true rfl) h.2 (fun p e s m args below meth c B => zr_Md_good_0 B)
  · exact h.elim
-- SequencedBatchesModel.reads(II)Z
theorem dd_Md_reads_0 : decode bb_Md_reads 0 = .ok (.aload_n 0, 1) := by decide +kernel
theorem dd_Md_reads_1 : decode bb_Md_reads 1 = .ok (.getfield 13, 3) := by decide +kernel
theorem dd_Md_reads_4 : decode bb_Md_reads 4 = .ok (.iload_n 1, 1) := by decide +kernel
theorem dd_Md_reads_5 : decode bb_Md_reads 5 = .ok (.iaload, 1) := by decide +kernel
theorem dd_Md_reads_6 : decode bb_Md_reads 6 = .ok (.iconst 2, 1) := by decide +kernel
theorem dd_Md_reads_7 : decode bb_Md_reads 7 = .ok (.if_icmp .eq 39, 3) := by decide +kernel
theorem dd_Md_reads_10 : decode bb_Md_reads 10 = .ok (.iload_n 2, 1) := by decide +kernel
theorem dd_Md_reads_11 : decode bb_Md_reads 11 = .ok (.aload_n 0, 1) := by decide +kernel
theorem dd_Md_reads_12 : decode bb_Md_reads 12 = .ok (.getfield 17, 3) := by decide +kernel
theorem dd_Md_reads_15 : decode bb_Md_reads 15 = .ok (.iload_n 1, 1) := by decide +kernel
theorem dd_Md_reads_16 : decode bb_Md_reads 16 = .ok (.iaload, 1) := by decide +kernel
theorem dd_Md_reads_17 : decode bb_Md_reads 17 = .ok (.if_icmp .eq 25, 3) := by decide +kernel
theorem dd_Md_reads_20 : decode bb_Md_reads 20 = .ok (.aload_n 0, 1) := by decide +kernel
theorem dd_Md_reads_21 : decode bb_Md_reads 21 = .ok (.getfield 13, 3) := by decide +kernel
theorem dd_Md_reads_24 : decode bb_Md_reads 24 = .ok (.iload_n 1, 1) := by decide +kernel
theorem dd_Md_reads_25 : decode bb_Md_reads 25 = .ok (.iaload, 1) := by decide +kernel
theorem dd_Md_reads_26 : decode bb_Md_reads 26 = .ok (.invokestatic 115, 3) := by decide +kernel
theorem dd_Md_reads_29 : decode bb_Md_reads 29 = .ok (.ifCond .eq 17, 3) := by decide +kernel
theorem dd_Md_reads_32 : decode bb_Md_reads 32 = .ok (.iload_n 2, 1) := by decide +kernel
theorem dd_Md_reads_33 : decode bb_Md_reads 33 = .ok (.aload_n 0, 1) := by decide +kernel
theorem dd_Md_reads_34 : decode bb_Md_reads 34 = .ok (.getfield 20, 3) := by decide +kernel
theorem dd_Md_reads_37 : decode bb_Md_reads 37 = .ok (.iload_n 1, 1) := by decide +kernel
theorem dd_Md_reads_38 : decode bb_Md_reads 38 = .ok (.iaload, 1) := by decide +kernel
theorem dd_Md_reads_39 : decode bb_Md_reads 39 = .ok (.if_icmp .ne 7, 3) := by decide +kernel
theorem dd_Md_reads_42 : decode bb_Md_reads 42 = .ok (.iconst 1, 1) := by decide +kernel
theorem dd_Md_reads_43 : decode bb_Md_reads 43 = .ok (.goto 4, 3) := by decide +kernel
theorem dd_Md_reads_46 : decode bb_Md_reads 46 = .ok (.iconst 0, 1) := by decide +kernel
theorem dd_Md_reads_47 : decode bb_Md_reads 47 = .ok (.ireturn, 1) := by decide +kernel
def zk_Md_reads : Room := { frames := 1, cells := 0, slots := 0, locals := 20 }
abbrev zA_Md_reads (p : Program) (l : Launch) (e : Env) (s : State) (m : MethodId) (args : Array Value) (below : List Frame) (meth : Method) (c : Code) (G : zs_G) (Q : zs_Q) (pc : Nat) (P : zs_P) : Prop := zs_At p l e zk_Md_reads s m args below meth c (MQ below (zs_Qc G Q) args s 0 0 (fun q => zg_z G ≤ q)) G 3 pc P
def zb_Md_reads_47 (Q : zs_Q) : zs_P := zt_zrt 0 0 Q
def zb_Md_reads_46 (Q : zs_Q) : zs_P := zt_psh 0 ((zb_Md_reads_47 Q))
def zb_Md_reads_42 (Q : zs_Q) : zs_P := zt_psh 1 ((zb_Md_reads_47 Q))
def zb_Md_reads_32 (Q : zs_Q) : zs_P := zt_ild 2 (zt_ald 0 (zt_gtR 8 5 (zt_ild 1 (zt_xld 100 (zt_cmp (fun x y => x = y) (zb_Md_reads_42 Q) (zb_Md_reads_46 Q))))))
def zb_Md_reads_20 (Q : zs_Q) : zs_P := zt_ald 0 (zt_gtR 8 3 (zt_ild 1 (zt_xld 100 (zt_cal zw_Md_looksAtSecond 1 0 0 0 0 (zt_if (fun x => x = 0) (zb_Md_reads_46 Q) (zb_Md_reads_32 Q))))))
def zb_Md_reads_10 (Q : zs_Q) : zs_P := zt_ild 2 (zt_ald 0 (zt_gtR 8 4 (zt_ild 1 (zt_xld 100 (zt_cmp (fun x y => x = y) (zb_Md_reads_42 Q) (zb_Md_reads_20 Q))))))
def zb_Md_reads_0 (Q : zs_Q) : zs_P := zt_ald 0 (zt_gtR 8 3 (zt_ild 1 (zt_xld 100 (zt_psh 2 (zt_cmp (fun x y => x = y) (zb_Md_reads_46 Q) (zb_Md_reads_10 Q))))))
def zw_Md_reads : zs_W := fun As σ Q => match As with
  | [a0, a1, a2] => zs_c1 [a0, a1, a2] = true ∧ zb_Md_reads_0 Q [some a0, some a1, some a2] [] σ 0 0
  | _ => False
section
variable {p : Program} {l : Launch} {e : Env} {s : State} {m : MethodId} {args : Array Value} {below : List Frame} {meth : Method} {c : Code} {G : zs_G} {Q : zs_Q}
theorem zr_Md_reads_47 (B : zs_B p s m args meth c G bb_Md_reads 3 yy_Md_reads (some .boolean)) : zA_Md_reads p l e s m args below meth c G Q 47 (zb_Md_reads_47 Q) := by
  unfold zb_Md_reads_47
  exact za_zrt B.1 0 0 B.2.1 B.2.2.1 dd_Md_reads_47
theorem zr_Md_reads_46 (B : zs_B p s m args meth c G bb_Md_reads 3 yy_Md_reads (some .boolean)) : zA_Md_reads p l e s m args below meth c G Q 46 (zb_Md_reads_46 Q) := by
  unfold zb_Md_reads_46
  refine za_ico B.1 0 dd_Md_reads_46 (by decide) ?_
  exact (zr_Md_reads_47 B)
theorem zr_Md_reads_42 (B : zs_B p s m args meth c G bb_Md_reads 3 yy_Md_reads (some .boolean)) : zA_Md_reads p l e s m args below meth c G Q 42 (zb_Md_reads_42 Q) := by
  unfold zb_Md_reads_42
  refine za_ico B.1 1 dd_Md_reads_42 (by decide) ?_
  refine za_goto B.1 47 dd_Md_reads_43 (by decide) ?_
  exact (zr_Md_reads_47 B)
theorem zr_Md_reads_32 (B : zs_B p s m args meth c G bb_Md_reads 3 yy_Md_reads (some .boolean)) : zA_Md_reads p l e s m args below meth c G Q 32 (zb_Md_reads_32 Q) := by
  unfold zb_Md_reads_32
  refine za_ild_n B.1 2 dd_Md_reads_32 rfl ?_
  refine za_ald_n B.1 0 dd_Md_reads_33 rfl ?_
  refine za_gtR B.1 8 5 zi_8 rfl (by decide) (by decide) rfl zW_461 rfl dd_Md_reads_34 ?_
  refine za_ild_n B.1 1 dd_Md_reads_37 rfl ?_
  refine za_iald B.1 dd_Md_reads_38 ?_
  exact za_cmp_ne B.1 46 dd_Md_reads_39 (by decide) (zr_Md_reads_42 B) (zr_Md_reads_46 B)
theorem zr_Md_reads_20 (B : zs_B p s m args meth c G bb_Md_reads 3 yy_Md_reads (some .boolean)) : zA_Md_reads p l e s m args below meth c G Q 20 (zb_Md_reads_20 Q) := by
  unfold zb_Md_reads_20
  refine za_ald_n B.1 0 dd_Md_reads_20 rfl ?_
  refine za_gtR B.1 8 3 zi_8 rfl (by decide) (by decide) rfl zW_459 rfl dd_Md_reads_21 ?_
  refine za_ild_n B.1 1 dd_Md_reads_24 rfl ?_
  refine za_iald B.1 dd_Md_reads_25 ?_
  refine za_cS B.1 1 0 0 0 0 rfl rfl (zm_Md_looksAtSecond l G) ⟨callB_of 1 B.1.1.2.2.2.2 (zs_good zW_503) rfl rfl rfl (B.1.1.2.2.2.2 _ zW_8) (B.1.1.2.2.2.2 _ zW_501) (by decide +kernel) ⟨by decide, by decide⟩, (B.1.1.2.2.2.2 _ zW_502)⟩ dd_Md_reads_26 ?_
  exact za_if_eq B.1 46 dd_Md_reads_29 (by decide) (zr_Md_reads_46 B) (zr_Md_reads_32 B)
theorem zr_Md_reads_10 (B : zs_B p s m args meth c G bb_Md_reads 3 yy_Md_reads (some .boolean)) : zA_Md_reads p l e s m args below meth c G Q 10 (zb_Md_reads_10 Q) := by
  unfold zb_Md_reads_10
  refine za_ild_n B.1 2 dd_Md_reads_10 rfl ?_
  refine za_ald_n B.1 0 dd_Md_reads_11 rfl ?_
  refine za_gtR B.1 8 4 zi_8 rfl (by decide) (by decide) rfl zW_460 rfl dd_Md_reads_12 ?_
  refine za_ild_n B.1 1 dd_Md_reads_15 rfl ?_
  refine za_iald B.1 dd_Md_reads_16 ?_
  exact za_cmp_eq B.1 42 dd_Md_reads_17 (by decide) (zr_Md_reads_42 B) (zr_Md_reads_20 B)
theorem zr_Md_reads_0 (B : zs_B p s m args meth c G bb_Md_reads 3 yy_Md_reads (some .boolean)) : zA_Md_reads p l e s m args below meth c G Q 0 (zb_Md_reads_0 Q) := by
  unfold zb_Md_reads_0
  refine za_ald_n B.1 0 dd_Md_reads_0 rfl ?_
  refine za_gtR B.1 8 3 zi_8 rfl (by decide) (by decide) rfl zW_459 rfl dd_Md_reads_1 ?_
  refine za_ild_n B.1 1 dd_Md_reads_4 rfl ?_
  refine za_iald B.1 dd_Md_reads_5 ?_
  refine za_ico B.1 2 dd_Md_reads_6 (by decide) ?_
  exact za_cmp_eq B.1 46 dd_Md_reads_7 (by decide) (zr_Md_reads_46 B) (zr_Md_reads_10 B)
end
theorem zm_Md_reads (l : Launch) (G : zs_G) (As : List Value) (σ : zs_S) (Q : zs_Q) (h : zw_Md_reads As σ Q) : zs_Met l yy_Md_reads (Cond.code yy_Md_reads bb_Md_reads 3 (some .boolean) :: zw_all) zk_Md_reads G As σ Q 0 0 := by
  unfold zw_Md_reads at h
  split at h
  · exact zs_enter (by decide +kernel) h.1 (Nat.le_of_ble_eq_true rfl) h.2 (fun p e s m args below meth c B => zr_Md_reads_0 B)
  · exact h.elim
-- SequencedBatchesModel.writes(II)Z
theorem dd_Md_writes_0 : decode bb_Md_writes 0 = .ok (.aload_n 0, 1) := by decide +kernel
theorem dd_Md_writes_1 : decode bb_Md_writes 1 = .ok (.getfield 13, 3) := by decide +kernel
theorem dd_Md_writes_4 : decode bb_Md_writes 4 = .ok (.iload_n 1, 1) := by decide +kernel
theorem dd_Md_writes_5 : decode bb_Md_writes 5 = .ok (.iaload, 1) := by decide +kernel
theorem dd_Md_writes_6 : decode bb_Md_writes 6 = .ok (.tableswitch 82 1 5 #[34, 66, 82, 66, 50], 34) := by decide +kernel
theorem dd_Md_writes_40 : decode bb_Md_writes 40 = .ok (.iload_n 2, 1) := by decide +kernel
theorem dd_Md_writes_41 : decode bb_Md_writes 41 = .ok (.aload_n 0, 1) := by decide +kernel
theorem dd_Md_writes_42 : decode bb_Md_writes 42 = .ok (.getfield 23, 3) := by decide +kernel
theorem dd_Md_writes_45 : decode bb_Md_writes 45 = .ok (.iload_n 1, 1) := by decide +kernel
theorem dd_Md_writes_46 : decode bb_Md_writes 46 = .ok (.iaload, 1) := by decide +kernel
theorem dd_Md_writes_47 : decode bb_Md_writes 47 = .ok (.if_icmp .ne 7, 3) := by decide +kernel
theorem dd_Md_writes_50 : decode bb_Md_writes 50 = .ok (.iconst 1, 1) := by decide +kernel
theorem dd_Md_writes_51 : decode bb_Md_writes 51 = .ok (.goto 4, 3) := by decide +kernel
theorem dd_Md_writes_54 : decode bb_Md_writes 54 = .ok (.iconst 0, 1) := by decide +kernel
theorem dd_Md_writes_55 : decode bb_Md_writes 55 = .ok (.ireturn, 1) := by decide +kernel
theorem dd_Md_writes_56 : decode bb_Md_writes 56 = .ok (.iload_n 2, 1) := by decide +kernel
theorem dd_Md_writes_57 : decode bb_Md_writes 57 = .ok (.aload_n 0, 1) := by decide +kernel
theorem dd_Md_writes_58 : decode bb_Md_writes 58 = .ok (.getfield 20, 3) := by decide +kernel
theorem dd_Md_writes_61 : decode bb_Md_writes 61 = .ok (.iload_n 1, 1) := by decide +kernel
theorem dd_Md_writes_62 : decode bb_Md_writes 62 = .ok (.iaload, 1) := by decide +kernel
theorem dd_Md_writes_63 : decode bb_Md_writes 63 = .ok (.if_icmp .ne 7, 3) := by decide +kernel
theorem dd_Md_writes_66 : decode bb_Md_writes 66 = .ok (.iconst 1, 1) := by decide +kernel
theorem dd_Md_writes_67 : decode bb_Md_writes 67 = .ok (.goto 4, 3) := by decide +kernel
theorem dd_Md_writes_70 : decode bb_Md_writes 70 = .ok (.iconst 0, 1) := by decide +kernel
theorem dd_Md_writes_71 : decode bb_Md_writes 71 = .ok (.ireturn, 1) := by decide +kernel
theorem dd_Md_writes_72 : decode bb_Md_writes 72 = .ok (.iload_n 2, 1) := by decide +kernel
theorem dd_Md_writes_73 : decode bb_Md_writes 73 = .ok (.aload_n 0, 1) := by decide +kernel
theorem dd_Md_writes_74 : decode bb_Md_writes 74 = .ok (.getfield 17, 3) := by decide +kernel
theorem dd_Md_writes_77 : decode bb_Md_writes 77 = .ok (.iload_n 1, 1) := by decide +kernel
theorem dd_Md_writes_78 : decode bb_Md_writes 78 = .ok (.iaload, 1) := by decide +kernel
theorem dd_Md_writes_79 : decode bb_Md_writes 79 = .ok (.if_icmp .ne 7, 3) := by decide +kernel
theorem dd_Md_writes_82 : decode bb_Md_writes 82 = .ok (.iconst 1, 1) := by decide +kernel
theorem dd_Md_writes_83 : decode bb_Md_writes 83 = .ok (.goto 4, 3) := by decide +kernel
theorem dd_Md_writes_86 : decode bb_Md_writes 86 = .ok (.iconst 0, 1) := by decide +kernel
theorem dd_Md_writes_87 : decode bb_Md_writes 87 = .ok (.ireturn, 1) := by decide +kernel
theorem dd_Md_writes_88 : decode bb_Md_writes 88 = .ok (.iload_n 2, 1) := by decide +kernel
theorem dd_Md_writes_89 : decode bb_Md_writes 89 = .ok (.aload_n 0, 1) := by decide +kernel
theorem dd_Md_writes_90 : decode bb_Md_writes 90 = .ok (.getfield 17, 3) := by decide +kernel
theorem dd_Md_writes_93 : decode bb_Md_writes 93 = .ok (.iload_n 1, 1) := by decide +kernel
theorem dd_Md_writes_94 : decode bb_Md_writes 94 = .ok (.iaload, 1) := by decide +kernel
theorem dd_Md_writes_95 : decode bb_Md_writes 95 = .ok (.if_icmp .eq 13, 3) := by decide +kernel
theorem dd_Md_writes_98 : decode bb_Md_writes 98 = .ok (.iload_n 2, 1) := by decide +kernel
theorem dd_Md_writes_99 : decode bb_Md_writes 99 = .ok (.aload_n 0, 1) := by decide +kernel
theorem dd_Md_writes_100 : decode bb_Md_writes 100 = .ok (.getfield 20, 3) := by decide +kernel
theorem dd_Md_writes_103 : decode bb_Md_writes 103 = .ok (.iload_n 1, 1) := by decide +kernel
theorem dd_Md_writes_104 : decode bb_Md_writes 104 = .ok (.iaload, 1) := by decide +kernel
theorem dd_Md_writes_105 : decode bb_Md_writes 105 = .ok (.if_icmp .ne 7, 3) := by decide +kernel
theorem dd_Md_writes_108 : decode bb_Md_writes 108 = .ok (.iconst 1, 1) := by decide +kernel
theorem dd_Md_writes_109 : decode bb_Md_writes 109 = .ok (.goto 4, 3) := by decide +kernel
theorem dd_Md_writes_112 : decode bb_Md_writes 112 = .ok (.iconst 0, 1) := by decide +kernel
theorem dd_Md_writes_113 : decode bb_Md_writes 113 = .ok (.ireturn, 1) := by decide +kernel
def zk_Md_writes : Room := { frames := 0, cells := 0, slots := 0, locals := 0 }
abbrev zA_Md_writes (p : Program) (l : Launch) (e : Env) (s : State) (m : MethodId) (args : Array Value) (below : List Frame) (meth : Method) (c : Code) (G : zs_G) (Q : zs_Q) (pc : Nat) (P : zs_P) : Prop := zs_At p l e zk_Md_writes s m args below meth c (MQ below (zs_Qc G Q) args s 0 0 (fun q => zg_z G ≤ q)) G 3 pc P
def zb_Md_writes_55 (Q : zs_Q) : zs_P := zt_zrt 0 0 Q
def zb_Md_writes_54 (Q : zs_Q) : zs_P := zt_psh 0 ((zb_Md_writes_55 Q))
def zb_Md_writes_50 (Q : zs_Q) : zs_P := zt_psh 1 ((zb_Md_writes_55 Q))
def zb_Md_writes_40 (Q : zs_Q) : zs_P := zt_ild 2 (zt_ald 0 (zt_gtR 8 6 (zt_ild 1 (zt_xld 100 (zt_cmp (fun x y => x = y) (zb_Md_writes_50 Q) (zb_Md_writes_54 Q))))))
def zb_Md_writes_87 (Q : zs_Q) : zs_P := zt_zrt 0 0 Q
def zb_Md_writes_86 (Q : zs_Q) : zs_P := zt_psh 0 ((zb_Md_writes_87 Q))
def zb_Md_writes_82 (Q : zs_Q) : zs_P := zt_psh 1 ((zb_Md_writes_87 Q))
def zb_Md_writes_72 (Q : zs_Q) : zs_P := zt_ild 2 (zt_ald 0 (zt_gtR 8 4 (zt_ild 1 (zt_xld 100 (zt_cmp (fun x y => x = y) (zb_Md_writes_82 Q) (zb_Md_writes_86 Q))))))
def zb_Md_writes_113 (Q : zs_Q) : zs_P := zt_zrt 0 0 Q
def zb_Md_writes_108 (Q : zs_Q) : zs_P := zt_psh 1 ((zb_Md_writes_113 Q))
def zb_Md_writes_112 (Q : zs_Q) : zs_P := zt_psh 0 ((zb_Md_writes_113 Q))
def zb_Md_writes_98 (Q : zs_Q) : zs_P := zt_ild 2 (zt_ald 0 (zt_gtR 8 5 (zt_ild 1 (zt_xld 100 (zt_cmp (fun x y => x = y) (zb_Md_writes_108 Q) (zb_Md_writes_112 Q))))))
def zb_Md_writes_88 (Q : zs_Q) : zs_P := zt_ild 2 (zt_ald 0 (zt_gtR 8 4 (zt_ild 1 (zt_xld 100 (zt_cmp (fun x y => x = y) (zb_Md_writes_108 Q) (zb_Md_writes_98 Q))))))
def zb_Md_writes_71 (Q : zs_Q) : zs_P := zt_zrt 0 0 Q
def zb_Md_writes_70 (Q : zs_Q) : zs_P := zt_psh 0 ((zb_Md_writes_71 Q))
def zb_Md_writes_66 (Q : zs_Q) : zs_P := zt_psh 1 ((zb_Md_writes_71 Q))
def zb_Md_writes_56 (Q : zs_Q) : zs_P := zt_ild 2 (zt_ald 0 (zt_gtR 8 5 (zt_ild 1 (zt_xld 100 (zt_cmp (fun x y => x = y) (zb_Md_writes_66 Q) (zb_Md_writes_70 Q))))))
def zb_Md_writes_0 (Q : zs_Q) : zs_P := zt_ald 0 (zt_gtR 8 3 (zt_ild 1 (zt_xld 100 (zt_cas 1 (zb_Md_writes_40 Q) (zt_cas 2 (zb_Md_writes_72 Q) (zt_cas 3 (zb_Md_writes_88 Q) (zt_cas 4 (zb_Md_writes_72 Q) (zt_cas 5 (zb_Md_writes_56 Q) (zt_dfl (zb_Md_writes_88 Q))))))))))
def zw_Md_writes : zs_W := fun As σ Q => match As with
  | [a0, a1, a2] => zs_c1 [a0, a1, a2] = true ∧ zb_Md_writes_0 Q [some a0, some a1, some a2] [] σ 0 0
  | _ => False
section
variable {p : Program} {l : Launch} {e : Env} {s : State} {m : MethodId} {args : Array Value} {below : List Frame} {meth : Method} {c : Code} {G : zs_G} {Q : zs_Q}
theorem zr_Md_writes_55 (B : zs_B p s m args meth c G bb_Md_writes 3 yy_Md_writes (some .boolean)) : zA_Md_writes p l e s m args below meth c G Q 55 (zb_Md_writes_55 Q) := by
  unfold zb_Md_writes_55
  exact za_zrt B.1 0 0 B.2.1 B.2.2.1 dd_Md_writes_55
theorem zr_Md_writes_54 (B : zs_B p s m args meth c G bb_Md_writes 3 yy_Md_writes (some .boolean)) : zA_Md_writes p l e s m args below meth c G Q 54 (zb_Md_writes_54 Q) := by
  unfold zb_Md_writes_54
  refine za_ico B.1 0 dd_Md_writes_54 (by decide) ?_
  exact (zr_Md_writes_55 B)
theorem zr_Md_writes_50 (B : zs_B p s m args meth c G bb_Md_writes 3 yy_Md_writes (some .boolean)) : zA_Md_writes p l e s m args below meth c G Q 50 (zb_Md_writes_50 Q) := by
  unfold zb_Md_writes_50
  refine za_ico B.1 1 dd_Md_writes_50 (by decide) ?_
  refine za_goto B.1 55 dd_Md_writes_51 (by decide) ?_
  exact (zr_Md_writes_55 B)
theorem zr_Md_writes_40 (B : zs_B p s m args meth c G bb_Md_writes 3 yy_Md_writes (some .boolean)) : zA_Md_writes p l e s m args below meth c G Q 40 (zb_Md_writes_40 Q) := by
  unfold zb_Md_writes_40
  refine za_ild_n B.1 2 dd_Md_writes_40 rfl ?_
  refine za_ald_n B.1 0 dd_Md_writes_41 rfl ?_
  refine za_gtR B.1 8 6 zi_8 rfl (by decide) (by decide) rfl zW_462 rfl dd_Md_writes_42 ?_
  refine za_ild_n B.1 1 dd_Md_writes_45 rfl ?_
  refine za_iald B.1 dd_Md_writes_46 ?_
  exact za_cmp_ne B.1 54 dd_Md_writes_47 (by decide) (zr_Md_writes_50 B) (zr_Md_writes_54 B)
theorem zr_Md_writes_87 (B : zs_B p s m args meth c G bb_Md_writes 3 yy_Md_writes (some .boolean)) : zA_Md_writes p l e s m args below meth c G Q 87 (zb_Md_writes_87 Q) := by
  unfold zb_Md_writes_87
  exact za_zrt B.1 0 0 B.2.1 B.2.2.1 dd_Md_writes_87
theorem zr_Md_writes_86 (B : zs_B p s m args meth c G bb_Md_writes 3 yy_Md_writes (some .boolean)) : zA_Md_writes p l e s m args below meth c G Q 86 (zb_Md_writes_86 Q) := by
  unfold zb_Md_writes_86
  refine za_ico B.1 0 dd_Md_writes_86 (by decide) ?_
  exact (zr_Md_writes_87 B)
theorem zr_Md_writes_82 (B : zs_B p s m args meth c G bb_Md_writes 3 yy_Md_writes (some .boolean)) : zA_Md_writes p l e s m args below meth c G Q 82 (zb_Md_writes_82 Q) := by
  unfold zb_Md_writes_82
  refine za_ico B.1 1 dd_Md_writes_82 (by decide) ?_
  refine za_goto B.1 87 dd_Md_writes_83 (by decide) ?_
  exact (zr_Md_writes_87 B)
theorem zr_Md_writes_72 (B : zs_B p s m args meth c G bb_Md_writes 3 yy_Md_writes (some .boolean)) : zA_Md_writes p l e s m args below meth c G Q 72 (zb_Md_writes_72 Q) := by
  unfold zb_Md_writes_72
  refine za_ild_n B.1 2 dd_Md_writes_72 rfl ?_
  refine za_ald_n B.1 0 dd_Md_writes_73 rfl ?_
  refine za_gtR B.1 8 4 zi_8 rfl (by decide) (by decide) rfl zW_460 rfl dd_Md_writes_74 ?_
  refine za_ild_n B.1 1 dd_Md_writes_77 rfl ?_
  refine za_iald B.1 dd_Md_writes_78 ?_
  exact za_cmp_ne B.1 86 dd_Md_writes_79 (by decide) (zr_Md_writes_82 B) (zr_Md_writes_86 B)
theorem zr_Md_writes_113 (B : zs_B p s m args meth c G bb_Md_writes 3 yy_Md_writes (some .boolean)) : zA_Md_writes p l e s m args below meth c G Q 113 (zb_Md_writes_113 Q) := by
  unfold zb_Md_writes_113
  exact za_zrt B.1 0 0 B.2.1 B.2.2.1 dd_Md_writes_113
theorem zr_Md_writes_108 (B : zs_B p s m args meth c G bb_Md_writes 3 yy_Md_writes (some .boolean)) : zA_Md_writes p l e s m args below meth c G Q 108 (zb_Md_writes_108 Q) := by
  unfold zb_Md_writes_108
  refine za_ico B.1 1 dd_Md_writes_108 (by decide) ?_
  refine za_goto B.1 113 dd_Md_writes_109 (by decide) ?_
  exact (zr_Md_writes_113 B)
theorem zr_Md_writes_112 (B : zs_B p s m args meth c G bb_Md_writes 3 yy_Md_writes (some .boolean)) : zA_Md_writes p l e s m args below meth c G Q 112 (zb_Md_writes_112 Q) := by
  unfold zb_Md_writes_112
  refine za_ico B.1 0 dd_Md_writes_112 (by decide) ?_
  exact (zr_Md_writes_113 B)
theorem zr_Md_writes_98 (B : zs_B p s m args meth c G bb_Md_writes 3 yy_Md_writes (some .boolean)) : zA_Md_writes p l e s m args below meth c G Q 98 (zb_Md_writes_98 Q) := by
  unfold zb_Md_writes_98
  refine za_ild_n B.1 2 dd_Md_writes_98 rfl ?_
  refine za_ald_n B.1 0 dd_Md_writes_99 rfl ?_
  refine za_gtR B.1 8 5 zi_8 rfl (by decide) (by decide) rfl zW_461 rfl dd_Md_writes_100 ?_
  refine za_ild_n B.1 1 dd_Md_writes_103 rfl ?_
  refine za_iald B.1 dd_Md_writes_104 ?_
  exact za_cmp_ne B.1 112 dd_Md_writes_105 (by decide) (zr_Md_writes_108 B) (zr_Md_writes_112 B)
theorem zr_Md_writes_88 (B : zs_B p s m args meth c G bb_Md_writes 3 yy_Md_writes (some .boolean)) : zA_Md_writes p l e s m args below meth c G Q 88 (zb_Md_writes_88 Q) := by
  unfold zb_Md_writes_88
  refine za_ild_n B.1 2 dd_Md_writes_88 rfl ?_
  refine za_ald_n B.1 0 dd_Md_writes_89 rfl ?_
  refine za_gtR B.1 8 4 zi_8 rfl (by decide) (by decide) rfl zW_460 rfl dd_Md_writes_90 ?_
  refine za_ild_n B.1 1 dd_Md_writes_93 rfl ?_
  refine za_iald B.1 dd_Md_writes_94 ?_
  exact za_cmp_eq B.1 108 dd_Md_writes_95 (by decide) (zr_Md_writes_108 B) (zr_Md_writes_98 B)
theorem zr_Md_writes_71 (B : zs_B p s m args meth c G bb_Md_writes 3 yy_Md_writes (some .boolean)) : zA_Md_writes p l e s m args below meth c G Q 71 (zb_Md_writes_71 Q) := by
  unfold zb_Md_writes_71
  exact za_zrt B.1 0 0 B.2.1 B.2.2.1 dd_Md_writes_71
theorem zr_Md_writes_70 (B : zs_B p s m args meth c G bb_Md_writes 3 yy_Md_writes (some .boolean)) : zA_Md_writes p l e s m args below meth c G Q 70 (zb_Md_writes_70 Q) := by
  unfold zb_Md_writes_70
  refine za_ico B.1 0 dd_Md_writes_70 (by decide) ?_
  exact (zr_Md_writes_71 B)
theorem zr_Md_writes_66 (B : zs_B p s m args meth c G bb_Md_writes 3 yy_Md_writes (some .boolean)) : zA_Md_writes p l e s m args below meth c G Q 66 (zb_Md_writes_66 Q) := by
  unfold zb_Md_writes_66
  refine za_ico B.1 1 dd_Md_writes_66 (by decide) ?_
  refine za_goto B.1 71 dd_Md_writes_67 (by decide) ?_
  exact (zr_Md_writes_71 B)
theorem zr_Md_writes_56 (B : zs_B p s m args meth c G bb_Md_writes 3 yy_Md_writes (some .boolean)) : zA_Md_writes p l e s m args below meth c G Q 56 (zb_Md_writes_56 Q) := by
  unfold zb_Md_writes_56
  refine za_ild_n B.1 2 dd_Md_writes_56 rfl ?_
  refine za_ald_n B.1 0 dd_Md_writes_57 rfl ?_
  refine za_gtR B.1 8 5 zi_8 rfl (by decide) (by decide) rfl zW_461 rfl dd_Md_writes_58 ?_
  refine za_ild_n B.1 1 dd_Md_writes_61 rfl ?_
  refine za_iald B.1 dd_Md_writes_62 ?_
  exact za_cmp_ne B.1 70 dd_Md_writes_63 (by decide) (zr_Md_writes_66 B) (zr_Md_writes_70 B)
theorem zr_Md_writes_0 (B : zs_B p s m args meth c G bb_Md_writes 3 yy_Md_writes (some .boolean)) : zA_Md_writes p l e s m args below meth c G Q 0 (zb_Md_writes_0 Q) := by
  unfold zb_Md_writes_0
  refine za_ald_n B.1 0 dd_Md_writes_0 rfl ?_
  refine za_gtR B.1 8 3 zi_8 rfl (by decide) (by decide) rfl zW_459 rfl dd_Md_writes_1 ?_
  refine za_ild_n B.1 1 dd_Md_writes_4 rfl ?_
  refine za_iald B.1 dd_Md_writes_5 ?_
  refine za_sw0 ?_
  refine za_swc (off := 34) B.1 0 1 40 dd_Md_writes_6 (by decide) (by decide) (by decide) (by decide) (zr_Md_writes_40 B) ?_
  refine za_swc (off := 66) B.1 1 2 72 dd_Md_writes_6 (by decide) (by decide) (by decide) (by decide) (zr_Md_writes_72 B) ?_
  refine za_swc (off := 82) B.1 2 3 88 dd_Md_writes_6 (by decide) (by decide) (by decide) (by decide) (zr_Md_writes_88 B) ?_
  refine za_swc (off := 66) B.1 3 4 72 dd_Md_writes_6 (by decide) (by decide) (by decide) (by decide) (zr_Md_writes_72 B) ?_
  refine za_swc (off := 50) B.1 4 5 56 dd_Md_writes_6 (by decide) (by decide) (by decide) (by decide) (zr_Md_writes_56 B) ?_
  exact za_swd B.1 88 dd_Md_writes_6 (fun x hx => by
    have h0 := lv_neT (a := 1) (hx 1 (by decide)) (by decide)
    have h1 := lv_neT (a := 2) (hx 2 (by decide)) (by decide)
    have h2 := lv_neT (a := 3) (hx 3 (by decide)) (by decide)
    have h3 := lv_neT (a := 4) (hx 4 (by decide)) (by decide)
    have h4 := lv_neT (a := 5) (hx 5 (by decide)) (by decide)
    omega) (by decide) (zr_Md_writes_88 B)
end
theorem zm_Md_writes (l : Launch) (G : zs_G) (As : List Value) (σ : zs_S) (Q : zs_Q) (h : zw_Md_writes As σ Q) : zs_Met l yy_Md_writes (Cond.code yy_Md_writes bb_Md_writes 3 (some .boolean) :: zw_all) zk_Md_writes G As σ Q 0 0 := by
  unfold zw_Md_writes at h
  split at h
  · exact zs_enter (by decide +kernel) h.1 (Nat.le_of_ble_eq_true rfl) h.2 (fun p e s m args below meth c B => zr_Md_writes_0 B)
  · exact h.elim
-- SequencedBatchesModel.readsIn(II)Z
theorem dd_Md_readsIn_0 : decode bb_Md_readsIn 0 = .ok (.iconst 0, 1) := by decide +kernel
theorem dd_Md_readsIn_1 : decode bb_Md_readsIn 1 = .ok (.istore_n 3, 1) := by decide +kernel
theorem dd_Md_readsIn_2 : decode bb_Md_readsIn 2 = .ok (.iload_n 2, 1) := by decide +kernel
theorem dd_Md_readsIn_3 : decode bb_Md_readsIn 3 = .ok (.istore 4, 2) := by decide +kernel
theorem dd_Md_readsIn_5 : decode bb_Md_readsIn 5 = .ok (.iload 4, 2) := by decide +kernel
theorem dd_Md_readsIn_7 : decode bb_Md_readsIn 7 = .ok (.bipush 12, 2) := by decide +kernel
theorem dd_Md_readsIn_9 : decode bb_Md_readsIn 9 = .ok (.if_icmp .ge 35, 3) := by decide +kernel
theorem dd_Md_readsIn_12 : decode bb_Md_readsIn 12 = .ok (.iload_n 3, 1) := by decide +kernel
theorem dd_Md_readsIn_13 : decode bb_Md_readsIn 13 = .ok (.ifCond .ne 13, 3) := by decide +kernel
theorem dd_Md_readsIn_16 : decode bb_Md_readsIn 16 = .ok (.aload_n 0, 1) := by decide +kernel
theorem dd_Md_readsIn_17 : decode bb_Md_readsIn 17 = .ok (.iload_n 1, 1) := by decide +kernel
theorem dd_Md_readsIn_18 : decode bb_Md_readsIn 18 = .ok (.iload 4, 2) := by decide +kernel
theorem dd_Md_readsIn_20 : decode bb_Md_readsIn 20 = .ok (.invokevirtual 119, 3) := by decide +kernel
theorem dd_Md_readsIn_23 : decode bb_Md_readsIn 23 = .ok (.ifCond .eq 7, 3) := by decide +kernel
theorem dd_Md_readsIn_26 : decode bb_Md_readsIn 26 = .ok (.iconst 1, 1) := by decide +kernel
theorem dd_Md_readsIn_27 : decode bb_Md_readsIn 27 = .ok (.goto 4, 3) := by decide +kernel
theorem dd_Md_readsIn_30 : decode bb_Md_readsIn 30 = .ok (.iconst 0, 1) := by decide +kernel
theorem dd_Md_readsIn_31 : decode bb_Md_readsIn 31 = .ok (.istore_n 3, 1) := by decide +kernel
theorem dd_Md_readsIn_32 : decode bb_Md_readsIn 32 = .ok (.iload 4, 2) := by decide +kernel
theorem dd_Md_readsIn_34 : decode bb_Md_readsIn 34 = .ok (.aload_n 0, 1) := by decide +kernel
theorem dd_Md_readsIn_35 : decode bb_Md_readsIn 35 = .ok (.getfield 104, 3) := by decide +kernel
theorem dd_Md_readsIn_38 : decode bb_Md_readsIn 38 = .ok (.iadd, 1) := by decide +kernel
theorem dd_Md_readsIn_39 : decode bb_Md_readsIn 39 = .ok (.istore 4, 2) := by decide +kernel
theorem dd_Md_readsIn_41 : decode bb_Md_readsIn 41 = .ok (.goto (-36), 3) := by decide +kernel
theorem dd_Md_readsIn_44 : decode bb_Md_readsIn 44 = .ok (.iload_n 3, 1) := by decide +kernel
theorem dd_Md_readsIn_45 : decode bb_Md_readsIn 45 = .ok (.ireturn, 1) := by decide +kernel
def zk_Md_readsIn : Room := { frames := 2, cells := 0, slots := 0, locals := 42 }
abbrev zA_Md_readsIn (p : Program) (l : Launch) (e : Env) (s : State) (m : MethodId) (args : Array Value) (below : List Frame) (meth : Method) (c : Code) (G : zs_G) (Q : zs_Q) (pc : Nat) (P : zs_P) : Prop := zs_At p l e zk_Md_readsIn s m args below meth c (MQ below (zs_Qc G Q) args s 0 0 (fun q => zg_z G ≤ q)) G 5 pc P
def zb_Md_readsIn_44 (Q : zs_Q) : zs_P := zt_ild 3 (zt_zrt 0 0 Q)
def zb_Md_readsIn_31 (Q : zs_Q) (K5 : zs_P) : zs_P := zt_ist 3 (zt_ild 4 (zt_ald 0 (zt_gtI 8 0 (zt_bin (fun x y => x + y) (zt_ist 4 (K5))))))
def zb_Md_readsIn_26 (Q : zs_Q) (K5 : zs_P) : zs_P := zt_psh 1 ((zb_Md_readsIn_31 Q K5))
def zb_Md_readsIn_30 (Q : zs_Q) (K5 : zs_P) : zs_P := zt_psh 0 ((zb_Md_readsIn_31 Q K5))
def zb_Md_readsIn_16 (Q : zs_Q) (K5 : zs_P) : zs_P := zt_ald 0 (zt_ild 1 (zt_ild 4 (zt_cav 8 zw_Md_reads (2 + 1) 0 0 0 0 (zt_if (fun x => x = 0) (zb_Md_readsIn_30 Q K5) (zb_Md_readsIn_26 Q K5)))))
def zb_Md_readsIn_12 (Q : zs_Q) (K5 : zs_P) : zs_P := zt_ild 3 (zt_if (fun x => x = 0) (zb_Md_readsIn_16 Q K5) (zb_Md_readsIn_26 Q K5))
def zb_Md_readsIn_5 (Q : zs_Q) (K5 : zs_P) : zs_P := zt_ild 4 (zt_psh 12 (zt_cmp (fun x y => y ≤ x) (zb_Md_readsIn_44 Q) (zb_Md_readsIn_12 Q K5)))
def zl_Md_readsIn_5 (Q : zs_Q) : zs_P := zt_ex (zb_Md_readsIn_5 Q)
def zb_Md_readsIn_0 (Q : zs_Q) : zs_P := zt_psh 0 (zt_ist 3 (zt_ild 2 (zt_ist 4 ((zl_Md_readsIn_5 Q)))))
def zw_Md_readsIn : zs_W := fun As σ Q => match As with
  | [a0, a1, a2] => zs_c1 [a0, a1, a2] = true ∧ zb_Md_readsIn_0 Q [some a0, some a1, some a2, none, none] [] σ 0 0
  | _ => False
section
variable {p : Program} {l : Launch} {e : Env} {s : State} {m : MethodId} {args : Array Value} {below : List Frame} {meth : Method} {c : Code} {G : zs_G} {Q : zs_Q}
theorem zr_Md_readsIn_44 (B : zs_B p s m args meth c G bb_Md_readsIn 5 yy_Md_readsIn (some .boolean)) : zA_Md_readsIn p l e s m args below meth c G Q 44 (zb_Md_readsIn_44 Q) := by
  unfold zb_Md_readsIn_44
  refine za_ild_n B.1 3 dd_Md_readsIn_44 rfl ?_
  exact za_zrt B.1 0 0 B.2.1 B.2.2.1 dd_Md_readsIn_45
theorem zr_Md_readsIn_31 (B : zs_B p s m args meth c G bb_Md_readsIn 5 yy_Md_readsIn (some .boolean)) {K5 : zs_P} (h5 : zA_Md_readsIn p l e s m args below meth c G Q 5 K5) : zA_Md_readsIn p l e s m args below meth c G Q 31 (zb_Md_readsIn_31 Q K5) := by
  unfold zb_Md_readsIn_31
  refine za_ist_n B.1 3 dd_Md_readsIn_31 rfl (by decide) ?_
  refine za_ild B.1 dd_Md_readsIn_32 ?_
  refine za_ald_n B.1 0 dd_Md_readsIn_34 rfl ?_
  refine za_gtI B.1 8 0 zi_8 rfl (by decide) (by decide) rfl zW_456 rfl dd_Md_readsIn_35 ?_
  refine za_add B.1 dd_Md_readsIn_38 ?_
  refine za_ist B.1 dd_Md_readsIn_39 (by decide) ?_
  refine za_goto B.1 5 dd_Md_readsIn_41 (by decide) ?_
  exact h5
theorem zr_Md_readsIn_26 (B : zs_B p s m args meth c G bb_Md_readsIn 5 yy_Md_readsIn (some .boolean)) {K5 : zs_P} (h5 : zA_Md_readsIn p l e s m args below meth c G Q 5 K5) : zA_Md_readsIn p l e s m args below meth c G Q 26 (zb_Md_readsIn_26 Q K5) := by
  unfold zb_Md_readsIn_26
  refine za_ico B.1 1 dd_Md_readsIn_26 (by decide) ?_
  refine za_goto B.1 31 dd_Md_readsIn_27 (by decide) ?_
  exact (zr_Md_readsIn_31 B h5)
theorem zr_Md_readsIn_30 (B : zs_B p s m args meth c G bb_Md_readsIn 5 yy_Md_readsIn (some .boolean)) {K5 : zs_P} (h5 : zA_Md_readsIn p l e s m args below meth c G Q 5 K5) : zA_Md_readsIn p l e s m args below meth c G Q 30 (zb_Md_readsIn_30 Q K5) := by
  unfold zb_Md_readsIn_30
  refine za_ico B.1 0 dd_Md_readsIn_30 (by decide) ?_
  exact (zr_Md_readsIn_31 B h5)
theorem zr_Md_readsIn_16 (B : zs_B p s m args meth c G bb_Md_readsIn 5 yy_Md_readsIn (some .boolean)) {K5 : zs_P} (h5 : zA_Md_readsIn p l e s m args below meth c G Q 5 K5) : zA_Md_readsIn p l e s m args below meth c G Q 16 (zb_Md_readsIn_16 Q K5) := by
  unfold zb_Md_readsIn_16
  refine za_ald_n B.1 0 dd_Md_readsIn_16 rfl ?_
  refine za_ild_n B.1 1 dd_Md_readsIn_17 rfl ?_
  refine za_ild B.1 dd_Md_readsIn_18 ?_
  refine za_cV B.1 8 2 0 0 0 0 rfl rfl rfl (by decide) (zm_Md_reads l G) ⟨callB_of 2 B.1.1.2.2.2.2 (zs_good zW_553) rfl rfl rfl (B.1.1.2.2.2.2 _ zW_8) (B.1.1.2.2.2.2 _ zW_551) (by decide +kernel) ⟨by decide, by decide⟩, (B.1.1.2.2.2.2 _ zW_552), (B.1.1.2.2.2.2 _ zW_684)⟩ dd_Md_readsIn_20 ?_
  exact za_if_eq B.1 30 dd_Md_readsIn_23 (by decide) (zr_Md_readsIn_30 B h5) (zr_Md_readsIn_26 B h5)
theorem zr_Md_readsIn_12 (B : zs_B p s m args meth c G bb_Md_readsIn 5 yy_Md_readsIn (some .boolean)) {K5 : zs_P} (h5 : zA_Md_readsIn p l e s m args below meth c G Q 5 K5) : zA_Md_readsIn p l e s m args below meth c G Q 12 (zb_Md_readsIn_12 Q K5) := by
  unfold zb_Md_readsIn_12
  refine za_ild_n B.1 3 dd_Md_readsIn_12 rfl ?_
  exact za_if_ne B.1 26 dd_Md_readsIn_13 (by decide) (zr_Md_readsIn_16 B h5) (zr_Md_readsIn_26 B h5)
theorem zr_Md_readsIn_5 (B : zs_B p s m args meth c G bb_Md_readsIn 5 yy_Md_readsIn (some .boolean)) {K5 : zs_P} (h5 : zA_Md_readsIn p l e s m args below meth c G Q 5 K5) : zA_Md_readsIn p l e s m args below meth c G Q 5 (zb_Md_readsIn_5 Q K5) := by
  unfold zb_Md_readsIn_5
  refine za_ild B.1 dd_Md_readsIn_5 ?_
  refine za_bip B.1 12 dd_Md_readsIn_7 (by decide) ?_
  exact za_cmp_ge B.1 44 dd_Md_readsIn_9 (by decide) (zr_Md_readsIn_44 B) (zr_Md_readsIn_12 B h5)
theorem zq_Md_readsIn_5 (B : zs_B p s m args meth c G bb_Md_readsIn 5 yy_Md_readsIn (some .boolean)) : zA_Md_readsIn p l e s m args below meth c G Q 5 (zl_Md_readsIn_5 Q) := za_lop (fun K hK => zr_Md_readsIn_5 B hK)
theorem zr_Md_readsIn_0 (B : zs_B p s m args meth c G bb_Md_readsIn 5 yy_Md_readsIn (some .boolean)) : zA_Md_readsIn p l e s m args below meth c G Q 0 (zb_Md_readsIn_0 Q) := by
  unfold zb_Md_readsIn_0
  refine za_ico B.1 0 dd_Md_readsIn_0 (by decide) ?_
  refine za_ist_n B.1 3 dd_Md_readsIn_1 rfl (by decide) ?_
  refine za_ild_n B.1 2 dd_Md_readsIn_2 rfl ?_
  refine za_ist B.1 dd_Md_readsIn_3 (by decide) ?_
  exact (zq_Md_readsIn_5 B)
end
theorem zm_Md_readsIn (l : Launch) (G : zs_G) (As : List Value) (σ : zs_S) (Q : zs_Q) (h : zw_Md_readsIn As σ Q) : zs_Met l yy_Md_readsIn (Cond.code yy_Md_readsIn bb_Md_readsIn 5 (some .boolean) :: zw_all) zk_Md_readsIn G As σ Q 0 0 := by
  unfold zw_Md_readsIn at h
  split at h
  · exact zs_enter (by decide +kernel) h.1 (Nat.le_of_ble_eq_true rfl) h.2 (fun p e s m args below meth c B => zr_Md_readsIn_0 B)
  · exact h.elim
-- SequencedBatchesModel.active(II)Z
theorem dd_Md_active_0 : decode bb_Md_active 0 = .ok (.iconst 0, 1) := by decide +kernel
theorem dd_Md_active_1 : decode bb_Md_active 1 = .ok (.istore_n 3, 1) := by decide +kernel
theorem dd_Md_active_2 : decode bb_Md_active 2 = .ok (.iload_n 2, 1) := by decide +kernel
theorem dd_Md_active_3 : decode bb_Md_active 3 = .ok (.istore 4, 2) := by decide +kernel
theorem dd_Md_active_5 : decode bb_Md_active 5 = .ok (.iload 4, 2) := by decide +kernel
theorem dd_Md_active_7 : decode bb_Md_active 7 = .ok (.bipush 12, 2) := by decide +kernel
theorem dd_Md_active_9 : decode bb_Md_active 9 = .ok (.if_icmp .ge 35, 3) := by decide +kernel
theorem dd_Md_active_12 : decode bb_Md_active 12 = .ok (.iload_n 3, 1) := by decide +kernel
theorem dd_Md_active_13 : decode bb_Md_active 13 = .ok (.ifCond .ne 13, 3) := by decide +kernel
theorem dd_Md_active_16 : decode bb_Md_active 16 = .ok (.aload_n 0, 1) := by decide +kernel
theorem dd_Md_active_17 : decode bb_Md_active 17 = .ok (.iload_n 1, 1) := by decide +kernel
theorem dd_Md_active_18 : decode bb_Md_active 18 = .ok (.iload 4, 2) := by decide +kernel
theorem dd_Md_active_20 : decode bb_Md_active 20 = .ok (.invokevirtual 123, 3) := by decide +kernel
theorem dd_Md_active_23 : decode bb_Md_active 23 = .ok (.ifCond .eq 7, 3) := by decide +kernel
theorem dd_Md_active_26 : decode bb_Md_active 26 = .ok (.iconst 1, 1) := by decide +kernel
theorem dd_Md_active_27 : decode bb_Md_active 27 = .ok (.goto 4, 3) := by decide +kernel
theorem dd_Md_active_30 : decode bb_Md_active 30 = .ok (.iconst 0, 1) := by decide +kernel
theorem dd_Md_active_31 : decode bb_Md_active 31 = .ok (.istore_n 3, 1) := by decide +kernel
theorem dd_Md_active_32 : decode bb_Md_active 32 = .ok (.iload 4, 2) := by decide +kernel
theorem dd_Md_active_34 : decode bb_Md_active 34 = .ok (.aload_n 0, 1) := by decide +kernel
theorem dd_Md_active_35 : decode bb_Md_active 35 = .ok (.getfield 104, 3) := by decide +kernel
theorem dd_Md_active_38 : decode bb_Md_active 38 = .ok (.iadd, 1) := by decide +kernel
theorem dd_Md_active_39 : decode bb_Md_active 39 = .ok (.istore 4, 2) := by decide +kernel
theorem dd_Md_active_41 : decode bb_Md_active 41 = .ok (.goto (-36), 3) := by decide +kernel
theorem dd_Md_active_44 : decode bb_Md_active 44 = .ok (.iload_n 3, 1) := by decide +kernel
theorem dd_Md_active_45 : decode bb_Md_active 45 = .ok (.ireturn, 1) := by decide +kernel
def zk_Md_active : Room := { frames := 1, cells := 0, slots := 0, locals := 22 }
abbrev zA_Md_active (p : Program) (l : Launch) (e : Env) (s : State) (m : MethodId) (args : Array Value) (below : List Frame) (meth : Method) (c : Code) (G : zs_G) (Q : zs_Q) (pc : Nat) (P : zs_P) : Prop := zs_At p l e zk_Md_active s m args below meth c (MQ below (zs_Qc G Q) args s 0 0 (fun q => zg_z G ≤ q)) G 5 pc P
def zb_Md_active_44 (Q : zs_Q) : zs_P := zt_ild 3 (zt_zrt 0 0 Q)
def zb_Md_active_31 (Q : zs_Q) (K5 : zs_P) : zs_P := zt_ist 3 (zt_ild 4 (zt_ald 0 (zt_gtI 8 0 (zt_bin (fun x y => x + y) (zt_ist 4 (K5))))))
def zb_Md_active_26 (Q : zs_Q) (K5 : zs_P) : zs_P := zt_psh 1 ((zb_Md_active_31 Q K5))
def zb_Md_active_30 (Q : zs_Q) (K5 : zs_P) : zs_P := zt_psh 0 ((zb_Md_active_31 Q K5))
def zb_Md_active_16 (Q : zs_Q) (K5 : zs_P) : zs_P := zt_ald 0 (zt_ild 1 (zt_ild 4 (zt_cav 8 zw_Md_writes (2 + 1) 0 0 0 0 (zt_if (fun x => x = 0) (zb_Md_active_30 Q K5) (zb_Md_active_26 Q K5)))))
def zb_Md_active_12 (Q : zs_Q) (K5 : zs_P) : zs_P := zt_ild 3 (zt_if (fun x => x = 0) (zb_Md_active_16 Q K5) (zb_Md_active_26 Q K5))
def zb_Md_active_5 (Q : zs_Q) (K5 : zs_P) : zs_P := zt_ild 4 (zt_psh 12 (zt_cmp (fun x y => y ≤ x) (zb_Md_active_44 Q) (zb_Md_active_12 Q K5)))
def zl_Md_active_5 (Q : zs_Q) : zs_P := zt_ex (zb_Md_active_5 Q)
def zb_Md_active_0 (Q : zs_Q) : zs_P := zt_psh 0 (zt_ist 3 (zt_ild 2 (zt_ist 4 ((zl_Md_active_5 Q)))))
def zw_Md_active : zs_W := fun As σ Q => match As with
  | [a0, a1, a2] => zs_c1 [a0, a1, a2] = true ∧ zb_Md_active_0 Q [some a0, some a1, some a2, none, none] [] σ 0 0
  | _ => False
section
variable {p : Program} {l : Launch} {e : Env} {s : State} {m : MethodId} {args : Array Value} {below : List Frame} {meth : Method} {c : Code} {G : zs_G} {Q : zs_Q}
theorem zr_Md_active_44 (B : zs_B p s m args meth c G bb_Md_active 5 yy_Md_active (some .boolean)) : zA_Md_active p l e s m args below meth c G Q 44 (zb_Md_active_44 Q) := by
  unfold zb_Md_active_44
  refine za_ild_n B.1 3 dd_Md_active_44 rfl ?_
  exact za_zrt B.1 0 0 B.2.1 B.2.2.1 dd_Md_active_45
theorem zr_Md_active_31 (B : zs_B p s m args meth c G bb_Md_active 5 yy_Md_active (some .boolean)) {K5 : zs_P} (h5 : zA_Md_active p l e s m args below meth c G Q 5 K5) : zA_Md_active p l e s m args below meth c G Q 31 (zb_Md_active_31 Q K5) := by
  unfold zb_Md_active_31
  refine za_ist_n B.1 3 dd_Md_active_31 rfl (by decide) ?_
  refine za_ild B.1 dd_Md_active_32 ?_
  refine za_ald_n B.1 0 dd_Md_active_34 rfl ?_
  refine za_gtI B.1 8 0 zi_8 rfl (by decide) (by decide) rfl zW_456 rfl dd_Md_active_35 ?_
  refine za_add B.1 dd_Md_active_38 ?_
  refine za_ist B.1 dd_Md_active_39 (by decide) ?_
  refine za_goto B.1 5 dd_Md_active_41 (by decide) ?_
  exact h5
theorem zr_Md_active_26 (B : zs_B p s m args meth c G bb_Md_active 5 yy_Md_active (some .boolean)) {K5 : zs_P} (h5 : zA_Md_active p l e s m args below meth c G Q 5 K5) : zA_Md_active p l e s m args below meth c G Q 26 (zb_Md_active_26 Q K5) := by
  unfold zb_Md_active_26
  refine za_ico B.1 1 dd_Md_active_26 (by decide) ?_
  refine za_goto B.1 31 dd_Md_active_27 (by decide) ?_
  exact (zr_Md_active_31 B h5)
theorem zr_Md_active_30 (B : zs_B p s m args meth c G bb_Md_active 5 yy_Md_active (some .boolean)) {K5 : zs_P} (h5 : zA_Md_active p l e s m args below meth c G Q 5 K5) : zA_Md_active p l e s m args below meth c G Q 30 (zb_Md_active_30 Q K5) := by
  unfold zb_Md_active_30
  refine za_ico B.1 0 dd_Md_active_30 (by decide) ?_
  exact (zr_Md_active_31 B h5)
theorem zr_Md_active_16 (B : zs_B p s m args meth c G bb_Md_active 5 yy_Md_active (some .boolean)) {K5 : zs_P} (h5 : zA_Md_active p l e s m args below meth c G Q 5 K5) : zA_Md_active p l e s m args below meth c G Q 16 (zb_Md_active_16 Q K5) := by
  unfold zb_Md_active_16
  refine za_ald_n B.1 0 dd_Md_active_16 rfl ?_
  refine za_ild_n B.1 1 dd_Md_active_17 rfl ?_
  refine za_ild B.1 dd_Md_active_18 ?_
  refine za_cV B.1 8 2 0 0 0 0 rfl rfl rfl (by decide) (zm_Md_writes l G) ⟨callB_of 2 B.1.1.2.2.2.2 (zs_good zW_559) rfl rfl rfl (B.1.1.2.2.2.2 _ zW_8) (B.1.1.2.2.2.2 _ zW_557) (by decide +kernel) ⟨by decide, by decide⟩, (B.1.1.2.2.2.2 _ zW_558), (B.1.1.2.2.2.2 _ zW_686)⟩ dd_Md_active_20 ?_
  exact za_if_eq B.1 30 dd_Md_active_23 (by decide) (zr_Md_active_30 B h5) (zr_Md_active_26 B h5)
theorem zr_Md_active_12 (B : zs_B p s m args meth c G bb_Md_active 5 yy_Md_active (some .boolean)) {K5 : zs_P} (h5 : zA_Md_active p l e s m args below meth c G Q 5 K5) : zA_Md_active p l e s m args below meth c G Q 12 (zb_Md_active_12 Q K5) := by
  unfold zb_Md_active_12
  refine za_ild_n B.1 3 dd_Md_active_12 rfl ?_
  exact za_if_ne B.1 26 dd_Md_active_13 (by decide) (zr_Md_active_16 B h5) (zr_Md_active_26 B h5)
theorem zr_Md_active_5 (B : zs_B p s m args meth c G bb_Md_active 5 yy_Md_active (some .boolean)) {K5 : zs_P} (h5 : zA_Md_active p l e s m args below meth c G Q 5 K5) : zA_Md_active p l e s m args below meth c G Q 5 (zb_Md_active_5 Q K5) := by
  unfold zb_Md_active_5
  refine za_ild B.1 dd_Md_active_5 ?_
  refine za_bip B.1 12 dd_Md_active_7 (by decide) ?_
  exact za_cmp_ge B.1 44 dd_Md_active_9 (by decide) (zr_Md_active_44 B) (zr_Md_active_12 B h5)
theorem zq_Md_active_5 (B : zs_B p s m args meth c G bb_Md_active 5 yy_Md_active (some .boolean)) : zA_Md_active p l e s m args below meth c G Q 5 (zl_Md_active_5 Q) := za_lop (fun K hK => zr_Md_active_5 B hK)
theorem zr_Md_active_0 (B : zs_B p s m args meth c G bb_Md_active 5 yy_Md_active (some .boolean)) : zA_Md_active p l e s m args below meth c G Q 0 (zb_Md_active_0 Q) := by
  unfold zb_Md_active_0
  refine za_ico B.1 0 dd_Md_active_0 (by decide) ?_
  refine za_ist_n B.1 3 dd_Md_active_1 rfl (by decide) ?_
  refine za_ild_n B.1 2 dd_Md_active_2 rfl ?_
  refine za_ist B.1 dd_Md_active_3 (by decide) ?_
  exact (zq_Md_active_5 B)
end
theorem zm_Md_active (l : Launch) (G : zs_G) (As : List Value) (σ : zs_S) (Q : zs_Q) (h : zw_Md_active As σ Q) : zs_Met l yy_Md_active (Cond.code yy_Md_active bb_Md_active 5 (some .boolean) :: zw_all) zk_Md_active G As σ Q 0 0 := by
  unfold zw_Md_active at h
  split at h
  · exact zs_enter (by decide +kernel) h.1 (Nat.le_of_ble_eq_true rfl) h.2 (fun p e s m args below meth c B => zr_Md_active_0 B)
  · exact h.elim
-- SequencedBatchesModel.submit(IIIII)I
theorem dd_Md_submit_0 : decode bb_Md_submit 0 = .ok (.iload_n 1, 1) := by decide +kernel
theorem dd_Md_submit_1 : decode bb_Md_submit 1 = .ok (.iconst 0, 1) := by decide +kernel
theorem dd_Md_submit_2 : decode bb_Md_submit 2 = .ok (.iconst 1, 1) := by decide +kernel
theorem dd_Md_submit_3 : decode bb_Md_submit 3 = .ok (.invokestatic 111, 3) := by decide +kernel
theorem dd_Md_submit_6 : decode bb_Md_submit 6 = .ok (.ifCond .eq 28, 3) := by decide +kernel
theorem dd_Md_submit_9 : decode bb_Md_submit 9 = .ok (.aload_n 0, 1) := by decide +kernel
theorem dd_Md_submit_10 : decode bb_Md_submit 10 = .ok (.getfield 7, 3) := by decide +kernel
theorem dd_Md_submit_13 : decode bb_Md_submit 13 = .ok (.iconst 3, 1) := by decide +kernel
theorem dd_Md_submit_14 : decode bb_Md_submit 14 = .ok (.iload_n 1, 1) := by decide +kernel
theorem dd_Md_submit_15 : decode bb_Md_submit 15 = .ok (.iconst 1, 1) := by decide +kernel
theorem dd_Md_submit_16 : decode bb_Md_submit 16 = .ok (.iand, 1) := by decide +kernel
theorem dd_Md_submit_17 : decode bb_Md_submit 17 = .ok (.iadd, 1) := by decide +kernel
theorem dd_Md_submit_18 : decode bb_Md_submit 18 = .ok (.baload, 1) := by decide +kernel
theorem dd_Md_submit_19 : decode bb_Md_submit 19 = .ok (.ifCond .ne 15, 3) := by decide +kernel
theorem dd_Md_submit_22 : decode bb_Md_submit 22 = .ok (.iload_n 2, 1) := by decide +kernel
theorem dd_Md_submit_23 : decode bb_Md_submit 23 = .ok (.iload_n 3, 1) := by decide +kernel
theorem dd_Md_submit_24 : decode bb_Md_submit 24 = .ok (.iload 4, 2) := by decide +kernel
theorem dd_Md_submit_26 : decode bb_Md_submit 26 = .ok (.iload 5, 2) := by decide +kernel
theorem dd_Md_submit_28 : decode bb_Md_submit 28 = .ok (.invokestatic 126, 3) := by decide +kernel
theorem dd_Md_submit_31 : decode bb_Md_submit 31 = .ok (.ifCond .ne 5, 3) := by decide +kernel
theorem dd_Md_submit_34 : decode bb_Md_submit 34 = .ok (.iconst (-1), 1) := by decide +kernel
theorem dd_Md_submit_35 : decode bb_Md_submit 35 = .ok (.ireturn, 1) := by decide +kernel
theorem dd_Md_submit_36 : decode bb_Md_submit 36 = .ok (.iconst 0, 1) := by decide +kernel
theorem dd_Md_submit_37 : decode bb_Md_submit 37 = .ok (.istore 6, 2) := by decide +kernel
theorem dd_Md_submit_39 : decode bb_Md_submit 39 = .ok (.iconst 0, 1) := by decide +kernel
theorem dd_Md_submit_40 : decode bb_Md_submit 40 = .ok (.istore 7, 2) := by decide +kernel
theorem dd_Md_submit_42 : decode bb_Md_submit 42 = .ok (.iload 7, 2) := by decide +kernel
theorem dd_Md_submit_44 : decode bb_Md_submit 44 = .ok (.aload_n 0, 1) := by decide +kernel
theorem dd_Md_submit_45 : decode bb_Md_submit 45 = .ok (.getfield 130, 3) := by decide +kernel
theorem dd_Md_submit_48 : decode bb_Md_submit 48 = .ok (.if_icmp .ge 42, 3) := by decide +kernel
theorem dd_Md_submit_51 : decode bb_Md_submit 51 = .ok (.aload_n 0, 1) := by decide +kernel
theorem dd_Md_submit_52 : decode bb_Md_submit 52 = .ok (.getfield 26, 3) := by decide +kernel
theorem dd_Md_submit_55 : decode bb_Md_submit 55 = .ok (.iload 7, 2) := by decide +kernel
theorem dd_Md_submit_57 : decode bb_Md_submit 57 = .ok (.iaload, 1) := by decide +kernel
theorem dd_Md_submit_58 : decode bb_Md_submit 58 = .ok (.iload_n 1, 1) := by decide +kernel
theorem dd_Md_submit_59 : decode bb_Md_submit 59 = .ok (.if_icmp .ne 21, 3) := by decide +kernel
theorem dd_Md_submit_62 : decode bb_Md_submit 62 = .ok (.aload_n 0, 1) := by decide +kernel
theorem dd_Md_submit_63 : decode bb_Md_submit 63 = .ok (.getfield 29, 3) := by decide +kernel
theorem dd_Md_submit_66 : decode bb_Md_submit 66 = .ok (.iload 7, 2) := by decide +kernel
theorem dd_Md_submit_68 : decode bb_Md_submit 68 = .ok (.iaload, 1) := by decide +kernel
theorem dd_Md_submit_69 : decode bb_Md_submit 69 = .ok (.iconst (-1), 1) := by decide +kernel
theorem dd_Md_submit_70 : decode bb_Md_submit 70 = .ok (.if_icmp .ne 10, 3) := by decide +kernel
theorem dd_Md_submit_73 : decode bb_Md_submit 73 = .ok (.iload 6, 2) := by decide +kernel
theorem dd_Md_submit_75 : decode bb_Md_submit 75 = .ok (.iconst 1, 1) := by decide +kernel
theorem dd_Md_submit_76 : decode bb_Md_submit 76 = .ok (.iadd, 1) := by decide +kernel
theorem dd_Md_submit_77 : decode bb_Md_submit 77 = .ok (.goto 5, 3) := by decide +kernel
theorem dd_Md_submit_80 : decode bb_Md_submit 80 = .ok (.iload 6, 2) := by decide +kernel
theorem dd_Md_submit_82 : decode bb_Md_submit 82 = .ok (.istore 6, 2) := by decide +kernel
theorem dd_Md_submit_84 : decode bb_Md_submit 84 = .ok (.iinc 7 1, 3) := by decide +kernel
theorem dd_Md_submit_87 : decode bb_Md_submit 87 = .ok (.goto (-45), 3) := by decide +kernel
theorem dd_Md_submit_90 : decode bb_Md_submit 90 = .ok (.iload 6, 2) := by decide +kernel
theorem dd_Md_submit_92 : decode bb_Md_submit 92 = .ok (.bipush 6, 2) := by decide +kernel
theorem dd_Md_submit_94 : decode bb_Md_submit 94 = .ok (.if_icmp .ge 12, 3) := by decide +kernel
theorem dd_Md_submit_97 : decode bb_Md_submit 97 = .ok (.aload_n 0, 1) := by decide +kernel
theorem dd_Md_submit_98 : decode bb_Md_submit 98 = .ok (.getfield 130, 3) := by decide +kernel
theorem dd_Md_submit_101 : decode bb_Md_submit 101 = .ok (.bipush 100, 2) := by decide +kernel
theorem dd_Md_submit_103 : decode bb_Md_submit 103 = .ok (.if_icmp .lt 5, 3) := by decide +kernel
theorem dd_Md_submit_106 : decode bb_Md_submit 106 = .ok (.iconst (-1), 1) := by decide +kernel
theorem dd_Md_submit_107 : decode bb_Md_submit 107 = .ok (.ireturn, 1) := by decide +kernel
theorem dd_Md_submit_108 : decode bb_Md_submit 108 = .ok (.aload_n 0, 1) := by decide +kernel
theorem dd_Md_submit_109 : decode bb_Md_submit 109 = .ok (.getfield 13, 3) := by decide +kernel
theorem dd_Md_submit_112 : decode bb_Md_submit 112 = .ok (.aload_n 0, 1) := by decide +kernel
theorem dd_Md_submit_113 : decode bb_Md_submit 113 = .ok (.getfield 130, 3) := by decide +kernel
theorem dd_Md_submit_116 : decode bb_Md_submit 116 = .ok (.iload_n 2, 1) := by decide +kernel
theorem dd_Md_submit_117 : decode bb_Md_submit 117 = .ok (.iastore, 1) := by decide +kernel
theorem dd_Md_submit_118 : decode bb_Md_submit 118 = .ok (.aload_n 0, 1) := by decide +kernel
theorem dd_Md_submit_119 : decode bb_Md_submit 119 = .ok (.getfield 17, 3) := by decide +kernel
theorem dd_Md_submit_122 : decode bb_Md_submit 122 = .ok (.aload_n 0, 1) := by decide +kernel
theorem dd_Md_submit_123 : decode bb_Md_submit 123 = .ok (.getfield 130, 3) := by decide +kernel
theorem dd_Md_submit_126 : decode bb_Md_submit 126 = .ok (.iload_n 3, 1) := by decide +kernel
theorem dd_Md_submit_127 : decode bb_Md_submit 127 = .ok (.iastore, 1) := by decide +kernel
theorem dd_Md_submit_128 : decode bb_Md_submit 128 = .ok (.aload_n 0, 1) := by decide +kernel
theorem dd_Md_submit_129 : decode bb_Md_submit 129 = .ok (.getfield 20, 3) := by decide +kernel
theorem dd_Md_submit_132 : decode bb_Md_submit 132 = .ok (.aload_n 0, 1) := by decide +kernel
theorem dd_Md_submit_133 : decode bb_Md_submit 133 = .ok (.getfield 130, 3) := by decide +kernel
theorem dd_Md_submit_136 : decode bb_Md_submit 136 = .ok (.iload 4, 2) := by decide +kernel
theorem dd_Md_submit_138 : decode bb_Md_submit 138 = .ok (.iastore, 1) := by decide +kernel
theorem dd_Md_submit_139 : decode bb_Md_submit 139 = .ok (.aload_n 0, 1) := by decide +kernel
theorem dd_Md_submit_140 : decode bb_Md_submit 140 = .ok (.getfield 23, 3) := by decide +kernel
theorem dd_Md_submit_143 : decode bb_Md_submit 143 = .ok (.aload_n 0, 1) := by decide +kernel
theorem dd_Md_submit_144 : decode bb_Md_submit 144 = .ok (.getfield 130, 3) := by decide +kernel
theorem dd_Md_submit_147 : decode bb_Md_submit 147 = .ok (.iload 5, 2) := by decide +kernel
theorem dd_Md_submit_149 : decode bb_Md_submit 149 = .ok (.iastore, 1) := by decide +kernel
theorem dd_Md_submit_150 : decode bb_Md_submit 150 = .ok (.aload_n 0, 1) := by decide +kernel
theorem dd_Md_submit_151 : decode bb_Md_submit 151 = .ok (.getfield 26, 3) := by decide +kernel
theorem dd_Md_submit_154 : decode bb_Md_submit 154 = .ok (.aload_n 0, 1) := by decide +kernel
theorem dd_Md_submit_155 : decode bb_Md_submit 155 = .ok (.getfield 130, 3) := by decide +kernel
theorem dd_Md_submit_158 : decode bb_Md_submit 158 = .ok (.iload_n 1, 1) := by decide +kernel
theorem dd_Md_submit_159 : decode bb_Md_submit 159 = .ok (.iastore, 1) := by decide +kernel
theorem dd_Md_submit_160 : decode bb_Md_submit 160 = .ok (.aload_n 0, 1) := by decide +kernel
theorem dd_Md_submit_161 : decode bb_Md_submit 161 = .ok (.getfield 29, 3) := by decide +kernel
theorem dd_Md_submit_164 : decode bb_Md_submit 164 = .ok (.aload_n 0, 1) := by decide +kernel
theorem dd_Md_submit_165 : decode bb_Md_submit 165 = .ok (.getfield 130, 3) := by decide +kernel
theorem dd_Md_submit_168 : decode bb_Md_submit 168 = .ok (.iconst (-1), 1) := by decide +kernel
theorem dd_Md_submit_169 : decode bb_Md_submit 169 = .ok (.iastore, 1) := by decide +kernel
theorem dd_Md_submit_170 : decode bb_Md_submit 170 = .ok (.aload_n 0, 1) := by decide +kernel
theorem dd_Md_submit_171 : decode bb_Md_submit 171 = .ok (.dup, 1) := by decide +kernel
theorem dd_Md_submit_172 : decode bb_Md_submit 172 = .ok (.getfield 130, 3) := by decide +kernel
theorem dd_Md_submit_175 : decode bb_Md_submit 175 = .ok (.iconst 1, 1) := by decide +kernel
theorem dd_Md_submit_176 : decode bb_Md_submit 176 = .ok (.iadd, 1) := by decide +kernel
theorem dd_Md_submit_177 : decode bb_Md_submit 177 = .ok (.putfield 130, 3) := by decide +kernel
theorem dd_Md_submit_180 : decode bb_Md_submit 180 = .ok (.aload_n 0, 1) := by decide +kernel
theorem dd_Md_submit_181 : decode bb_Md_submit 181 = .ok (.getfield 130, 3) := by decide +kernel
theorem dd_Md_submit_184 : decode bb_Md_submit 184 = .ok (.iconst 1, 1) := by decide +kernel
theorem dd_Md_submit_185 : decode bb_Md_submit 185 = .ok (.isub, 1) := by decide +kernel
theorem dd_Md_submit_186 : decode bb_Md_submit 186 = .ok (.ireturn, 1) := by decide +kernel
def zk_Md_submit : Room := { frames := 2, cells := 0, slots := 0, locals := 45 }
abbrev zA_Md_submit (p : Program) (l : Launch) (e : Env) (s : State) (m : MethodId) (args : Array Value) (below : List Frame) (meth : Method) (c : Code) (G : zs_G) (Q : zs_Q) (pc : Nat) (P : zs_P) : Prop := zs_At p l e zk_Md_submit s m args below meth c (MQ below (zs_Qc G Q) args s 0 0 (fun q => zg_z G ≤ q)) G 8 pc P
def zb_Md_submit_34 (Q : zs_Q) : zs_P := zt_psh (-1) (zt_irt 0 0 Q)
def zb_Md_submit_106 (Q : zs_Q) : zs_P := zt_psh (-1) (zt_irt 0 0 Q)
def zb_Md_submit_108 (Q : zs_Q) : zs_P := zt_ald 0 (zt_gtR 8 3 (zt_ald 0 (zt_gtI 8 2 (zt_ild 2 (zt_ias (zt_ald 0 (zt_gtR 8 4 (zt_ald 0 (zt_gtI 8 2 (zt_ild 3 (zt_ias (zt_ald 0 (zt_gtR 8 5 (zt_ald 0 (zt_gtI 8 2 (zt_ild 4 (zt_ias (zt_ald 0 (zt_gtR 8 6 (zt_ald 0 (zt_gtI 8 2 (zt_ild 5 (zt_ias (zt_ald 0 (zt_gtR 8 7 (zt_ald 0 (zt_gtI 8 2 (zt_ild 1 (zt_ias (zt_ald 0 (zt_gtR 8 8 (zt_ald 0 (zt_gtI 8 2 (zt_psh (-1) (zt_ias (zt_ald 0 (zt_dup (zt_gtI 8 2 (zt_psh 1 (zt_bin (fun x y => x + y) (zt_ptI 8 2 (zt_ald 0 (zt_gtI 8 2 (zt_psh 1 (zt_bin (fun x y => x - y) (zt_irt 0 0 Q))))))))))))))))))))))))))))))))))))))))))))))
def zb_Md_submit_97 (Q : zs_Q) : zs_P := zt_ald 0 (zt_gtI 8 2 (zt_psh 100 (zt_cmp (fun x y => x < y) (zb_Md_submit_108 Q) (zb_Md_submit_106 Q))))
def zb_Md_submit_90 (Q : zs_Q) : zs_P := zt_ild 6 (zt_psh 6 (zt_cmp (fun x y => y ≤ x) (zb_Md_submit_106 Q) (zb_Md_submit_97 Q)))
def zb_Md_submit_82 (Q : zs_Q) (K42 : zs_P) : zs_P := zt_ist 6 (zt_inc 7 1 (K42))
def zb_Md_submit_80 (Q : zs_Q) (K42 : zs_P) : zs_P := zt_ild 6 ((zb_Md_submit_82 Q K42))
def zb_Md_submit_73 (Q : zs_Q) (K42 : zs_P) : zs_P := zt_ild 6 (zt_psh 1 (zt_bin (fun x y => x + y) ((zb_Md_submit_82 Q K42))))
def zb_Md_submit_62 (Q : zs_Q) (K42 : zs_P) : zs_P := zt_ald 0 (zt_gtR 8 8 (zt_ild 7 (zt_xld 100 (zt_psh (-1) (zt_cmp (fun x y => x = y) (zb_Md_submit_73 Q K42) (zb_Md_submit_80 Q K42))))))
def zb_Md_submit_51 (Q : zs_Q) (K42 : zs_P) : zs_P := zt_ald 0 (zt_gtR 8 7 (zt_ild 7 (zt_xld 100 (zt_ild 1 (zt_cmp (fun x y => x = y) (zb_Md_submit_62 Q K42) (zb_Md_submit_80 Q K42))))))
def zb_Md_submit_42 (Q : zs_Q) (K42 : zs_P) : zs_P := zt_ild 7 (zt_ald 0 (zt_gtI 8 2 (zt_cmp (fun x y => y ≤ x) (zb_Md_submit_90 Q) (zb_Md_submit_51 Q K42))))
def zl_Md_submit_42 (Q : zs_Q) : zs_P := zt_ex (zb_Md_submit_42 Q)
def zb_Md_submit_36 (Q : zs_Q) : zs_P := zt_psh 0 (zt_ist 6 (zt_psh 0 (zt_ist 7 ((zl_Md_submit_42 Q)))))
def zb_Md_submit_22 (Q : zs_Q) : zs_P := zt_ild 2 (zt_ild 3 (zt_ild 4 (zt_ild 5 (zt_cal zw_Md_good 4 0 0 0 0 (zt_if (fun x => x = 0) (zb_Md_submit_34 Q) (zb_Md_submit_36 Q))))))
def zb_Md_submit_9 (Q : zs_Q) : zs_P := zt_ald 0 (zt_gtR 8 1 (zt_psh 3 (zt_ild 1 (zt_psh 1 (zt_bin (fun x y => x &&& y) (zt_bin (fun x y => x + y) (zt_xld 101 (zt_if (fun x => x = 0) (zb_Md_submit_22 Q) (zb_Md_submit_34 Q)))))))))
def zb_Md_submit_0 (Q : zs_Q) : zs_P := zt_ild 1 (zt_psh 0 (zt_psh 1 (zt_cal zw_Md_in 3 0 0 0 0 (zt_if (fun x => x = 0) (zb_Md_submit_34 Q) (zb_Md_submit_9 Q)))))
def zw_Md_submit : zs_W := fun As σ Q => match As with
  | [a0, a1, a2, a3, a4, a5] => zs_c1 [a0, a1, a2, a3, a4, a5] = true ∧ zb_Md_submit_0 Q [some a0, some a1, some a2, some a3, some a4, some a5, none, none] [] σ 0 0
  | _ => False
section
variable {p : Program} {l : Launch} {e : Env} {s : State} {m : MethodId} {args : Array Value} {below : List Frame} {meth : Method} {c : Code} {G : zs_G} {Q : zs_Q}
theorem zr_Md_submit_34 (B : zs_B p s m args meth c G bb_Md_submit 8 yy_Md_submit (some .int)) : zA_Md_submit p l e s m args below meth c G Q 34 (zb_Md_submit_34 Q) := by
  unfold zb_Md_submit_34
  refine za_ico B.1 (-1) dd_Md_submit_34 (by decide) ?_
  exact za_irt B.1 0 0 B.2.1 B.2.2.1 dd_Md_submit_35
theorem zr_Md_submit_106 (B : zs_B p s m args meth c G bb_Md_submit 8 yy_Md_submit (some .int)) : zA_Md_submit p l e s m args below meth c G Q 106 (zb_Md_submit_106 Q) := by
  unfold zb_Md_submit_106
  refine za_ico B.1 (-1) dd_Md_submit_106 (by decide) ?_
  exact za_irt B.1 0 0 B.2.1 B.2.2.1 dd_Md_submit_107
theorem zr_Md_submit_108 (B : zs_B p s m args meth c G bb_Md_submit 8 yy_Md_submit (some .int)) : zA_Md_submit p l e s m args below meth c G Q 108 (zb_Md_submit_108 Q) := by
  unfold zb_Md_submit_108
  refine za_ald_n B.1 0 dd_Md_submit_108 rfl ?_
  refine za_gtR B.1 8 3 zi_8 rfl (by decide) (by decide) rfl zW_459 rfl dd_Md_submit_109 ?_
  refine za_ald_n B.1 0 dd_Md_submit_112 rfl ?_
  refine za_gtI B.1 8 2 zi_8 rfl (by decide) (by decide) rfl zW_458 rfl dd_Md_submit_113 ?_
  refine za_ild_n B.1 2 dd_Md_submit_116 rfl ?_
  refine za_iast B.1 dd_Md_submit_117 ?_
  refine za_ald_n B.1 0 dd_Md_submit_118 rfl ?_
  refine za_gtR B.1 8 4 zi_8 rfl (by decide) (by decide) rfl zW_460 rfl dd_Md_submit_119 ?_
  refine za_ald_n B.1 0 dd_Md_submit_122 rfl ?_
  refine za_gtI B.1 8 2 zi_8 rfl (by decide) (by decide) rfl zW_458 rfl dd_Md_submit_123 ?_
  refine za_ild_n B.1 3 dd_Md_submit_126 rfl ?_
  refine za_iast B.1 dd_Md_submit_127 ?_
  refine za_ald_n B.1 0 dd_Md_submit_128 rfl ?_
  refine za_gtR B.1 8 5 zi_8 rfl (by decide) (by decide) rfl zW_461 rfl dd_Md_submit_129 ?_
  refine za_ald_n B.1 0 dd_Md_submit_132 rfl ?_
  refine za_gtI B.1 8 2 zi_8 rfl (by decide) (by decide) rfl zW_458 rfl dd_Md_submit_133 ?_
  refine za_ild B.1 dd_Md_submit_136 ?_
  refine za_iast B.1 dd_Md_submit_138 ?_
  refine za_ald_n B.1 0 dd_Md_submit_139 rfl ?_
  refine za_gtR B.1 8 6 zi_8 rfl (by decide) (by decide) rfl zW_462 rfl dd_Md_submit_140 ?_
  refine za_ald_n B.1 0 dd_Md_submit_143 rfl ?_
  refine za_gtI B.1 8 2 zi_8 rfl (by decide) (by decide) rfl zW_458 rfl dd_Md_submit_144 ?_
  refine za_ild B.1 dd_Md_submit_147 ?_
  refine za_iast B.1 dd_Md_submit_149 ?_
  refine za_ald_n B.1 0 dd_Md_submit_150 rfl ?_
  refine za_gtR B.1 8 7 zi_8 rfl (by decide) (by decide) rfl zW_463 rfl dd_Md_submit_151 ?_
  refine za_ald_n B.1 0 dd_Md_submit_154 rfl ?_
  refine za_gtI B.1 8 2 zi_8 rfl (by decide) (by decide) rfl zW_458 rfl dd_Md_submit_155 ?_
  refine za_ild_n B.1 1 dd_Md_submit_158 rfl ?_
  refine za_iast B.1 dd_Md_submit_159 ?_
  refine za_ald_n B.1 0 dd_Md_submit_160 rfl ?_
  refine za_gtR B.1 8 8 zi_8 rfl (by decide) (by decide) rfl zW_464 rfl dd_Md_submit_161 ?_
  refine za_ald_n B.1 0 dd_Md_submit_164 rfl ?_
  refine za_gtI B.1 8 2 zi_8 rfl (by decide) (by decide) rfl zW_458 rfl dd_Md_submit_165 ?_
  refine za_ico B.1 (-1) dd_Md_submit_168 (by decide) ?_
  refine za_iast B.1 dd_Md_submit_169 ?_
  refine za_ald_n B.1 0 dd_Md_submit_170 rfl ?_
  refine za_dup B.1 dd_Md_submit_171 ?_
  refine za_gtI B.1 8 2 zi_8 rfl (by decide) (by decide) rfl zW_458 rfl dd_Md_submit_172 ?_
  refine za_ico B.1 1 dd_Md_submit_175 (by decide) ?_
  refine za_add B.1 dd_Md_submit_176 ?_
  refine za_ptI B.1 8 2 zi_8 zy_Md zy_Md_ok zn_Md rfl (by decide) (by decide) rfl zW_458 rfl rfl rfl dd_Md_submit_177 ?_
  refine za_ald_n B.1 0 dd_Md_submit_180 rfl ?_
  refine za_gtI B.1 8 2 zi_8 rfl (by decide) (by decide) rfl zW_458 rfl dd_Md_submit_181 ?_
  refine za_ico B.1 1 dd_Md_submit_184 (by decide) ?_
  refine za_sub B.1 dd_Md_submit_185 ?_
  exact za_irt B.1 0 0 B.2.1 B.2.2.1 dd_Md_submit_186
theorem zr_Md_submit_97 (B : zs_B p s m args meth c G bb_Md_submit 8 yy_Md_submit (some .int)) : zA_Md_submit p l e s m args below meth c G Q 97 (zb_Md_submit_97 Q) := by
  unfold zb_Md_submit_97
  refine za_ald_n B.1 0 dd_Md_submit_97 rfl ?_
  refine za_gtI B.1 8 2 zi_8 rfl (by decide) (by decide) rfl zW_458 rfl dd_Md_submit_98 ?_
  refine za_bip B.1 100 dd_Md_submit_101 (by decide) ?_
  exact za_cmp_lt B.1 108 dd_Md_submit_103 (by decide) (zr_Md_submit_108 B) (zr_Md_submit_106 B)
theorem zr_Md_submit_90 (B : zs_B p s m args meth c G bb_Md_submit 8 yy_Md_submit (some .int)) : zA_Md_submit p l e s m args below meth c G Q 90 (zb_Md_submit_90 Q) := by
  unfold zb_Md_submit_90
  refine za_ild B.1 dd_Md_submit_90 ?_
  refine za_bip B.1 6 dd_Md_submit_92 (by decide) ?_
  exact za_cmp_ge B.1 106 dd_Md_submit_94 (by decide) (zr_Md_submit_106 B) (zr_Md_submit_97 B)
theorem zr_Md_submit_82 (B : zs_B p s m args meth c G bb_Md_submit 8 yy_Md_submit (some .int)) {K42 : zs_P} (h42 : zA_Md_submit p l e s m args below meth c G Q 42 K42) : zA_Md_submit p l e s m args below meth c G Q 82 (zb_Md_submit_82 Q K42) := by
  unfold zb_Md_submit_82
  refine za_ist B.1 dd_Md_submit_82 (by decide) ?_
  refine za_inc B.1 1 dd_Md_submit_84 (by decide) (by decide) ?_
  refine za_goto B.1 42 dd_Md_submit_87 (by decide) ?_
  exact h42
theorem zr_Md_submit_80 (B : zs_B p s m args meth c G bb_Md_submit 8 yy_Md_submit (some .int)) {K42 : zs_P} (h42 : zA_Md_submit p l e s m args below meth c G Q 42 K42) : zA_Md_submit p l e s m args below meth c G Q 80 (zb_Md_submit_80 Q K42) := by
  unfold zb_Md_submit_80
  refine za_ild B.1 dd_Md_submit_80 ?_
  exact (zr_Md_submit_82 B h42)
theorem zr_Md_submit_73 (B : zs_B p s m args meth c G bb_Md_submit 8 yy_Md_submit (some .int)) {K42 : zs_P} (h42 : zA_Md_submit p l e s m args below meth c G Q 42 K42) : zA_Md_submit p l e s m args below meth c G Q 73 (zb_Md_submit_73 Q K42) := by
  unfold zb_Md_submit_73
  refine za_ild B.1 dd_Md_submit_73 ?_
  refine za_ico B.1 1 dd_Md_submit_75 (by decide) ?_
  refine za_add B.1 dd_Md_submit_76 ?_
  refine za_goto B.1 82 dd_Md_submit_77 (by decide) ?_
  exact (zr_Md_submit_82 B h42)
theorem zr_Md_submit_62 (B : zs_B p s m args meth c G bb_Md_submit 8 yy_Md_submit (some .int)) {K42 : zs_P} (h42 : zA_Md_submit p l e s m args below meth c G Q 42 K42) : zA_Md_submit p l e s m args below meth c G Q 62 (zb_Md_submit_62 Q K42) := by
  unfold zb_Md_submit_62
  refine za_ald_n B.1 0 dd_Md_submit_62 rfl ?_
  refine za_gtR B.1 8 8 zi_8 rfl (by decide) (by decide) rfl zW_464 rfl dd_Md_submit_63 ?_
  refine za_ild B.1 dd_Md_submit_66 ?_
  refine za_iald B.1 dd_Md_submit_68 ?_
  refine za_ico B.1 (-1) dd_Md_submit_69 (by decide) ?_
  exact za_cmp_ne B.1 80 dd_Md_submit_70 (by decide) (zr_Md_submit_73 B h42) (zr_Md_submit_80 B h42)
theorem zr_Md_submit_51 (B : zs_B p s m args meth c G bb_Md_submit 8 yy_Md_submit (some .int)) {K42 : zs_P} (h42 : zA_Md_submit p l e s m args below meth c G Q 42 K42) : zA_Md_submit p l e s m args below meth c G Q 51 (zb_Md_submit_51 Q K42) := by
  unfold zb_Md_submit_51
  refine za_ald_n B.1 0 dd_Md_submit_51 rfl ?_
  refine za_gtR B.1 8 7 zi_8 rfl (by decide) (by decide) rfl zW_463 rfl dd_Md_submit_52 ?_
  refine za_ild B.1 dd_Md_submit_55 ?_
  refine za_iald B.1 dd_Md_submit_57 ?_
  refine za_ild_n B.1 1 dd_Md_submit_58 rfl ?_
  exact za_cmp_ne B.1 80 dd_Md_submit_59 (by decide) (zr_Md_submit_62 B h42) (zr_Md_submit_80 B h42)
theorem zr_Md_submit_42 (B : zs_B p s m args meth c G bb_Md_submit 8 yy_Md_submit (some .int)) {K42 : zs_P} (h42 : zA_Md_submit p l e s m args below meth c G Q 42 K42) : zA_Md_submit p l e s m args below meth c G Q 42 (zb_Md_submit_42 Q K42) := by
  unfold zb_Md_submit_42
  refine za_ild B.1 dd_Md_submit_42 ?_
  refine za_ald_n B.1 0 dd_Md_submit_44 rfl ?_
  refine za_gtI B.1 8 2 zi_8 rfl (by decide) (by decide) rfl zW_458 rfl dd_Md_submit_45 ?_
  exact za_cmp_ge B.1 90 dd_Md_submit_48 (by decide) (zr_Md_submit_90 B) (zr_Md_submit_51 B h42)
theorem zq_Md_submit_42 (B : zs_B p s m args meth c G bb_Md_submit 8 yy_Md_submit (some .int)) : zA_Md_submit p l e s m args below meth c G Q 42 (zl_Md_submit_42 Q) := za_lop (fun K hK => zr_Md_submit_42 B hK)
theorem zr_Md_submit_36 (B : zs_B p s m args meth c G bb_Md_submit 8 yy_Md_submit (some .int)) : zA_Md_submit p l e s m args below meth c G Q 36 (zb_Md_submit_36 Q) := by
  unfold zb_Md_submit_36
  refine za_ico B.1 0 dd_Md_submit_36 (by decide) ?_
  refine za_ist B.1 dd_Md_submit_37 (by decide) ?_
  refine za_ico B.1 0 dd_Md_submit_39 (by decide) ?_
  refine za_ist B.1 dd_Md_submit_40 (by decide) ?_
  exact (zq_Md_submit_42 B)
theorem zr_Md_submit_22 (B : zs_B p s m args meth c G bb_Md_submit 8 yy_Md_submit (some .int)) : zA_Md_submit p l e s m args below meth c G Q 22 (zb_Md_submit_22 Q) := by
  unfold zb_Md_submit_22
  refine za_ild_n B.1 2 dd_Md_submit_22 rfl ?_
  refine za_ild_n B.1 3 dd_Md_submit_23 rfl ?_
  refine za_ild B.1 dd_Md_submit_24 ?_
  refine za_ild B.1 dd_Md_submit_26 ?_
  refine za_cS B.1 4 0 0 0 0 rfl rfl (zm_Md_good l G) ⟨callB_of 4 B.1.1.2.2.2.2 (zs_good zW_500) rfl rfl rfl (B.1.1.2.2.2.2 _ zW_8) (B.1.1.2.2.2.2 _ zW_498) (by decide +kernel) ⟨by decide, by decide⟩, (B.1.1.2.2.2.2 _ zW_499)⟩ dd_Md_submit_28 ?_
  exact za_if_ne B.1 36 dd_Md_submit_31 (by decide) (zr_Md_submit_34 B) (zr_Md_submit_36 B)
theorem zr_Md_submit_9 (B : zs_B p s m args meth c G bb_Md_submit 8 yy_Md_submit (some .int)) : zA_Md_submit p l e s m args below meth c G Q 9 (zb_Md_submit_9 Q) := by
  unfold zb_Md_submit_9
  refine za_ald_n B.1 0 dd_Md_submit_9 rfl ?_
  refine za_gtR B.1 8 1 zi_8 rfl (by decide) (by decide) rfl zW_457 rfl dd_Md_submit_10 ?_
  refine za_ico B.1 3 dd_Md_submit_13 (by decide) ?_
  refine za_ild_n B.1 1 dd_Md_submit_14 rfl ?_
  refine za_ico B.1 1 dd_Md_submit_15 (by decide) ?_
  refine za_and B.1 dd_Md_submit_16 ?_
  refine za_add B.1 dd_Md_submit_17 ?_
  refine za_zald B.1 dd_Md_submit_18 ?_
  exact za_if_ne B.1 34 dd_Md_submit_19 (by decide) (zr_Md_submit_22 B) (zr_Md_submit_34 B)
theorem zr_Md_submit_0 (B : zs_B p s m args meth c G bb_Md_submit 8 yy_Md_submit (some .int)) : zA_Md_submit p l e s m args below meth c G Q 0 (zb_Md_submit_0 Q) := by
  unfold zb_Md_submit_0
  refine za_ild_n B.1 1 dd_Md_submit_0 rfl ?_
  refine za_ico B.1 0 dd_Md_submit_1 (by decide) ?_
  refine za_ico B.1 1 dd_Md_submit_2 (by decide) ?_
  refine za_cS B.1 3 0 0 0 0 rfl rfl (zm_Md_in l G) ⟨callB_of 3 B.1.1.2.2.2.2 (zs_good zW_497) rfl rfl rfl (B.1.1.2.2.2.2 _ zW_8) (B.1.1.2.2.2.2 _ zW_495) (by decide +kernel) ⟨by decide, by decide⟩, (B.1.1.2.2.2.2 _ zW_496)⟩ dd_Md_submit_3 ?_
  exact za_if_eq B.1 34 dd_Md_submit_6 (by decide) (zr_Md_submit_34 B) (zr_Md_submit_9 B)
end
theorem zm_Md_submit (l : Launch) (G : zs_G) (As : List Value) (σ : zs_S) (Q : zs_Q) (h : zw_Md_submit As σ Q) : zs_Met l yy_Md_submit (Cond.code yy_Md_submit bb_Md_submit 8 (some .int) :: zw_all) zk_Md_submit G As σ Q 0 0 := by
  unfold zw_Md_submit at h
  split at h
  · exact zs_enter (by decide +kernel) h.1 (Nat.le_of_ble_eq_true rfl) h.2 (fun p e s m args below meth c B => zr_Md_submit_0 B)
  · exact h.elim
