/-! Methods: Pa_beginBehind, Rp_beginFromCheckpoint, SB_restart, SB_partitionIsUp, Pa_isFull, Tr_takesPart, Pa_take, Rp_admitNext, SB_admit, Tr_excludes, Pa_isReady (made by program) -/
-- SequencedBatches$Partition.beginBehind(I)V
theorem dd_Pa_beginBehind_0 : decode bb_Pa_beginBehind 0 = .ok (.aload_n 0, 1) := by decide +kernel
theorem dd_Pa_beginBehind_1 : decode bb_Pa_beginBehind 1 = .ok (.iload_n 1, 1) := by decide +kernel
theorem dd_Pa_beginBehind_2 : decode bb_Pa_beginBehind 2 = .ok (.putfield 9, 3) := by decide +kernel
theorem dd_Pa_beginBehind_5 : decode bb_Pa_beginBehind 5 = .ok (.aload_n 0, 1) := by decide +kernel
theorem dd_Pa_beginBehind_6 : decode bb_Pa_beginBehind 6 = .ok (.iconst 0, 1) := by decide +kernel
theorem dd_Pa_beginBehind_7 : decode bb_Pa_beginBehind 7 = .ok (.putfield 25, 3) := by decide +kernel
theorem dd_Pa_beginBehind_10 : decode bb_Pa_beginBehind 10 = .ok (.iconst 0, 1) := by decide +kernel
theorem dd_Pa_beginBehind_11 : decode bb_Pa_beginBehind 11 = .ok (.istore_n 2, 1) := by decide +kernel
theorem dd_Pa_beginBehind_12 : decode bb_Pa_beginBehind 12 = .ok (.iload_n 2, 1) := by decide +kernel
theorem dd_Pa_beginBehind_13 : decode bb_Pa_beginBehind 13 = .ok (.bipush 100, 2) := by decide +kernel
theorem dd_Pa_beginBehind_15 : decode bb_Pa_beginBehind 15 = .ok (.if_icmp .ge 16, 3) := by decide +kernel
theorem dd_Pa_beginBehind_18 : decode bb_Pa_beginBehind 18 = .ok (.aload_n 0, 1) := by decide +kernel
theorem dd_Pa_beginBehind_19 : decode bb_Pa_beginBehind 19 = .ok (.getfield 28, 3) := by decide +kernel
theorem dd_Pa_beginBehind_22 : decode bb_Pa_beginBehind 22 = .ok (.iload_n 2, 1) := by decide +kernel
theorem dd_Pa_beginBehind_23 : decode bb_Pa_beginBehind 23 = .ok (.iconst 0, 1) := by decide +kernel
theorem dd_Pa_beginBehind_24 : decode bb_Pa_beginBehind 24 = .ok (.iastore, 1) := by decide +kernel
theorem dd_Pa_beginBehind_25 : decode bb_Pa_beginBehind 25 = .ok (.iinc 2 1, 3) := by decide +kernel
theorem dd_Pa_beginBehind_28 : decode bb_Pa_beginBehind 28 = .ok (.goto (-16), 3) := by decide +kernel
theorem dd_Pa_beginBehind_31 : decode bb_Pa_beginBehind 31 = .ok (.return_, 1) := by decide +kernel
def zk_Pa_beginBehind : Room := { frames := 0, cells := 0, slots := 0, locals := 0 }
abbrev zA_Pa_beginBehind (p : Program) (l : Launch) (e : Env) (s : State) (m : MethodId) (args : Array Value) (below : List Frame) (meth : Method) (c : Code) (G : zs_G) (Q : zs_Q) (pc : Nat) (P : zs_P) : Prop := zs_At p l e zk_Pa_beginBehind s m args below meth c (MQ below (zs_Qc G Q) args s 0 0 (fun q => zg_z G ≤ q)) G 3 pc P
def zb_Pa_beginBehind_31 (Q : zs_Q) : zs_P := zt_vrt 0 0 Q
def zb_Pa_beginBehind_18 (Q : zs_Q) (K12 : zs_P) : zs_P := zt_ald 0 (zt_gtR 1 5 (zt_ild 2 (zt_psh 0 (zt_ias (zt_inc 2 1 (K12))))))
def zb_Pa_beginBehind_12 (Q : zs_Q) (K12 : zs_P) : zs_P := zt_ild 2 (zt_psh 100 (zt_cmp (fun x y => y ≤ x) (zb_Pa_beginBehind_31 Q) (zb_Pa_beginBehind_18 Q K12)))
def zl_Pa_beginBehind_12 (Q : zs_Q) : zs_P := zt_ex (zb_Pa_beginBehind_12 Q)
def zb_Pa_beginBehind_0 (Q : zs_Q) : zs_P := zt_ald 0 (zt_ild 1 (zt_ptI 1 1 (zt_ald 0 (zt_psh 0 (zt_ptI 1 4 (zt_psh 0 (zt_ist 2 ((zl_Pa_beginBehind_12 Q)))))))))
def zw_Pa_beginBehind : zs_W := fun As σ Q => match As with
  | [a0, a1] => zs_c1 [a0, a1] = true ∧ zb_Pa_beginBehind_0 Q [some a0, some a1, none] [] σ 0 0
  | _ => False
section
variable {p : Program} {l : Launch} {e : Env} {s : State} {m : MethodId} {args : Array Value} {below : List Frame} {meth : Method} {c : Code} {G : zs_G} {Q : zs_Q}
theorem zr_Pa_beginBehind_31 (B : zs_B p s m args meth c G bb_Pa_beginBehind 3 yy_Pa_beginBehind none) : zA_Pa_beginBehind p l e s m args below meth c G Q 31 (zb_Pa_beginBehind_31 Q) := by
  unfold zb_Pa_beginBehind_31
  exact za_vrt B.1 0 0 B.2.1 B.2.2.1 dd_Pa_beginBehind_31
theorem zr_Pa_beginBehind_18 (B : zs_B p s m args meth c G bb_Pa_beginBehind 3 yy_Pa_beginBehind none) {K12 : zs_P} (h12 : zA_Pa_beginBehind p l e s m args below meth c G Q 12 K12) : zA_Pa_beginBehind p l e s m args below meth c G Q 18 (zb_Pa_beginBehind_18 Q K12) := by
  unfold zb_Pa_beginBehind_18
  refine za_ald_n B.1 0 dd_Pa_beginBehind_18 rfl ?_
  refine za_gtR B.1 1 5 zi_1 rfl (by decide) (by decide) rfl zW_77 rfl dd_Pa_beginBehind_19 ?_
  refine za_ild_n B.1 2 dd_Pa_beginBehind_22 rfl ?_
  refine za_ico B.1 0 dd_Pa_beginBehind_23 (by decide) ?_
  refine za_iast B.1 dd_Pa_beginBehind_24 ?_
  refine za_inc B.1 1 dd_Pa_beginBehind_25 (by decide) (by decide) ?_
  refine za_goto B.1 12 dd_Pa_beginBehind_28 (by decide) ?_
  exact h12
theorem zr_Pa_beginBehind_12 (B : zs_B p s m args meth c G bb_Pa_beginBehind 3 yy_Pa_beginBehind none) {K12 : zs_P} (h12 : zA_Pa_beginBehind p l e s m args below meth c G Q 12 K12) : zA_Pa_beginBehind p l e s m args below meth c G Q 12 (zb_Pa_beginBehind_12 Q K12) := by
  unfold zb_Pa_beginBehind_12
  refine za_ild_n B.1 2 dd_Pa_beginBehind_12 rfl ?_
  refine za_bip B.1 100 dd_Pa_beginBehind_13 (by decide) ?_
  exact za_cmp_ge B.1 31 dd_Pa_beginBehind_15 (by decide) (zr_Pa_beginBehind_31 B) (zr_Pa_beginBehind_18 B h12)
theorem zq_Pa_beginBehind_12 (B : zs_B p s m args meth c G bb_Pa_beginBehind 3 yy_Pa_beginBehind none) : zA_Pa_beginBehind p l e s m args below meth c G Q 12 (zl_Pa_beginBehind_12 Q) := za_lop (fun K hK => zr_Pa_beginBehind_12 B hK)
theorem zr_Pa_beginBehind_0 (B : zs_B p s m args meth c G bb_Pa_beginBehind 3 yy_Pa_beginBehind none) : zA_Pa_beginBehind p l e s m args below meth c G Q 0 (zb_Pa_beginBehind_0 Q) := by
  unfold zb_Pa_beginBehind_0
  refine za_ald_n B.1 0 dd_Pa_beginBehind_0 rfl ?_
  refine za_ild_n B.1 1 dd_Pa_beginBehind_1 rfl ?_
  refine za_ptI B.1 1 1 zi_1 zy_Pa zy_Pa_ok zn_Pa rfl (by decide) (by decide) rfl zW_73 rfl rfl rfl dd_Pa_beginBehind_2 ?_
  refine za_ald_n B.1 0 dd_Pa_beginBehind_5 rfl ?_
  refine za_ico B.1 0 dd_Pa_beginBehind_6 (by decide) ?_
  refine za_ptI B.1 1 4 zi_1 zy_Pa zy_Pa_ok zn_Pa rfl (by decide) (by decide) rfl zW_76 rfl rfl rfl dd_Pa_beginBehind_7 ?_
  refine za_ico B.1 0 dd_Pa_beginBehind_10 (by decide) ?_
  refine za_ist_n B.1 2 dd_Pa_beginBehind_11 rfl (by decide) ?_
  exact (zq_Pa_beginBehind_12 B)
end
theorem zm_Pa_beginBehind (l : Launch) (G : zs_G) (As : List Value) (σ : zs_S) (Q : zs_Q) (h : zw_Pa_beginBehind As σ Q) : zs_Met l yy_Pa_beginBehind (Cond.code yy_Pa_beginBehind bb_Pa_beginBehind 3 none :: zw_all) zk_Pa_beginBehind G As σ Q 0 0 := by
  unfold zw_Pa_beginBehind at h
  split at h
  · exact zs_enter (by decide +kernel) h.1 (Nat.le_of_ble_eq_true rfl) h.2 (fun p e s m args below meth c B => zr_Pa_beginBehind_0 B)
  · exact h.elim
-- SequencedBatches$Replica.beginFromCheckpoint()V
theorem dd_Rp_beginFromCheckpoint_0 : decode bb_Rp_beginFromCheckpoint 0 = .ok (.aload_n 0, 1) := by decide +kernel
theorem dd_Rp_beginFromCheckpoint_1 : decode bb_Rp_beginFromCheckpoint 1 = .ok (.getfield 30, 3) := by decide +kernel
theorem dd_Rp_beginFromCheckpoint_4 : decode bb_Rp_beginFromCheckpoint 4 = .ok (.iconst 0, 1) := by decide +kernel
theorem dd_Rp_beginFromCheckpoint_5 : decode bb_Rp_beginFromCheckpoint 5 = .ok (.aload_n 0, 1) := by decide +kernel
theorem dd_Rp_beginFromCheckpoint_6 : decode bb_Rp_beginFromCheckpoint 6 = .ok (.getfield 37, 3) := by decide +kernel
theorem dd_Rp_beginFromCheckpoint_9 : decode bb_Rp_beginFromCheckpoint 9 = .ok (.iconst 0, 1) := by decide +kernel
theorem dd_Rp_beginFromCheckpoint_10 : decode bb_Rp_beginFromCheckpoint 10 = .ok (.bipush 12, 2) := by decide +kernel
theorem dd_Rp_beginFromCheckpoint_12 : decode bb_Rp_beginFromCheckpoint 12 = .ok (.invokestatic 69, 3) := by decide +kernel
theorem dd_Rp_beginFromCheckpoint_15 : decode bb_Rp_beginFromCheckpoint 15 = .ok (.iconst 0, 1) := by decide +kernel
theorem dd_Rp_beginFromCheckpoint_16 : decode bb_Rp_beginFromCheckpoint 16 = .ok (.istore_n 1, 1) := by decide +kernel
theorem dd_Rp_beginFromCheckpoint_17 : decode bb_Rp_beginFromCheckpoint 17 = .ok (.iload_n 1, 1) := by decide +kernel
theorem dd_Rp_beginFromCheckpoint_18 : decode bb_Rp_beginFromCheckpoint 18 = .ok (.aload_n 0, 1) := by decide +kernel
theorem dd_Rp_beginFromCheckpoint_19 : decode bb_Rp_beginFromCheckpoint 19 = .ok (.getfield 48, 3) := by decide +kernel
theorem dd_Rp_beginFromCheckpoint_22 : decode bb_Rp_beginFromCheckpoint 22 = .ok (.arraylength, 1) := by decide +kernel
theorem dd_Rp_beginFromCheckpoint_23 : decode bb_Rp_beginFromCheckpoint 23 = .ok (.if_icmp .ge 22, 3) := by decide +kernel
theorem dd_Rp_beginFromCheckpoint_26 : decode bb_Rp_beginFromCheckpoint 26 = .ok (.aload_n 0, 1) := by decide +kernel
theorem dd_Rp_beginFromCheckpoint_27 : decode bb_Rp_beginFromCheckpoint 27 = .ok (.getfield 48, 3) := by decide +kernel
theorem dd_Rp_beginFromCheckpoint_30 : decode bb_Rp_beginFromCheckpoint 30 = .ok (.iload_n 1, 1) := by decide +kernel
theorem dd_Rp_beginFromCheckpoint_31 : decode bb_Rp_beginFromCheckpoint 31 = .ok (.aaload, 1) := by decide +kernel
theorem dd_Rp_beginFromCheckpoint_32 : decode bb_Rp_beginFromCheckpoint 32 = .ok (.aload_n 0, 1) := by decide +kernel
theorem dd_Rp_beginFromCheckpoint_33 : decode bb_Rp_beginFromCheckpoint 33 = .ok (.getfield 34, 3) := by decide +kernel
theorem dd_Rp_beginFromCheckpoint_36 : decode bb_Rp_beginFromCheckpoint 36 = .ok (.invokevirtual 75, 3) := by decide +kernel
theorem dd_Rp_beginFromCheckpoint_39 : decode bb_Rp_beginFromCheckpoint 39 = .ok (.iinc 1 1, 3) := by decide +kernel
theorem dd_Rp_beginFromCheckpoint_42 : decode bb_Rp_beginFromCheckpoint 42 = .ok (.goto (-25), 3) := by decide +kernel
theorem dd_Rp_beginFromCheckpoint_45 : decode bb_Rp_beginFromCheckpoint 45 = .ok (.return_, 1) := by decide +kernel
def zk_Rp_beginFromCheckpoint : Room := { frames := 1, cells := 0, slots := 0, locals := 40 }
abbrev zA_Rp_beginFromCheckpoint (p : Program) (l : Launch) (e : Env) (s : State) (m : MethodId) (args : Array Value) (below : List Frame) (meth : Method) (c : Code) (G : zs_G) (Q : zs_Q) (pc : Nat) (P : zs_P) : Prop := zs_At p l e zk_Rp_beginFromCheckpoint s m args below meth c (MQ below (zs_Qc G Q) args s 0 0 (fun q => zg_z G ≤ q)) G 2 pc P
def zb_Rp_beginFromCheckpoint_45 (Q : zs_Q) : zs_P := zt_vrt 0 0 Q
def zb_Rp_beginFromCheckpoint_26 (Q : zs_Q) (K17 : zs_P) : zs_P := zt_ald 0 (zt_gtR 3 7 (zt_ild 1 (zt_rld (110 + 1) (zt_ald 0 (zt_gtI 3 5 (zt_cav 1 zw_Pa_beginBehind (1 + 1) 0 0 0 0 (zt_inc 1 1 (K17))))))))
def zb_Rp_beginFromCheckpoint_17 (Q : zs_Q) (K17 : zs_P) : zs_P := zt_ild 1 (zt_ald 0 (zt_gtR 3 7 (zt_len (110 + 1) (zt_cmp (fun x y => y ≤ x) (zb_Rp_beginFromCheckpoint_45 Q) (zb_Rp_beginFromCheckpoint_26 Q K17)))))
def zl_Rp_beginFromCheckpoint_17 (Q : zs_Q) : zs_P := zt_ex (zb_Rp_beginFromCheckpoint_17 Q)
def zb_Rp_beginFromCheckpoint_0 (Q : zs_Q) : zs_P := zt_ald 0 (zt_gtR 3 4 (zt_psh 0 (zt_ald 0 (zt_gtR 3 6 (zt_psh 0 (zt_psh 12 (zt_jcp (zt_psh 0 (zt_ist 1 ((zl_Rp_beginFromCheckpoint_17 Q)))))))))))
def zw_Rp_beginFromCheckpoint : zs_W := fun As σ Q => match As with
  | [a0] => zs_c1 [a0] = true ∧ zb_Rp_beginFromCheckpoint_0 Q [some a0, none] [] σ 0 0
  | _ => False
section
variable {p : Program} {l : Launch} {e : Env} {s : State} {m : MethodId} {args : Array Value} {below : List Frame} {meth : Method} {c : Code} {G : zs_G} {Q : zs_Q}
theorem zr_Rp_beginFromCheckpoint_45 (B : zs_B p s m args meth c G bb_Rp_beginFromCheckpoint 2 yy_Rp_beginFromCheckpoint none) : zA_Rp_beginFromCheckpoint p l e s m args below meth c G Q 45 (zb_Rp_beginFromCheckpoint_45 Q) := by
  unfold zb_Rp_beginFromCheckpoint_45
  exact za_vrt B.1 0 0 B.2.1 B.2.2.1 dd_Rp_beginFromCheckpoint_45
theorem zr_Rp_beginFromCheckpoint_26 (B : zs_B p s m args meth c G bb_Rp_beginFromCheckpoint 2 yy_Rp_beginFromCheckpoint none) {K17 : zs_P} (h17 : zA_Rp_beginFromCheckpoint p l e s m args below meth c G Q 17 K17) : zA_Rp_beginFromCheckpoint p l e s m args below meth c G Q 26 (zb_Rp_beginFromCheckpoint_26 Q K17) := by
  unfold zb_Rp_beginFromCheckpoint_26
  refine za_ald_n B.1 0 dd_Rp_beginFromCheckpoint_26 rfl ?_
  refine za_gtR B.1 3 7 zi_3 rfl (by decide) (by decide) rfl zW_85 rfl dd_Rp_beginFromCheckpoint_27 ?_
  refine za_ild_n B.1 1 dd_Rp_beginFromCheckpoint_30 rfl ?_
  refine za_rld B.1 1 7 rfl dd_Rp_beginFromCheckpoint_31 ?_
  refine za_ald_n B.1 0 dd_Rp_beginFromCheckpoint_32 rfl ?_
  refine za_gtI B.1 3 5 zi_3 rfl (by decide) (by decide) rfl zW_83 rfl dd_Rp_beginFromCheckpoint_33 ?_
  refine za_cV B.1 1 1 0 0 0 0 rfl rfl rfl (by decide) (zm_Pa_beginBehind l G) ⟨callB_of 1 B.1.1.2.2.2.2 (zs_good zW_332) rfl rfl rfl (B.1.1.2.2.2.2 _ zW_7) (B.1.1.2.2.2.2 _ zW_329) (by decide +kernel) ⟨by decide, by decide⟩, (B.1.1.2.2.2.2 _ zW_330), (B.1.1.2.2.2.2 _ zW_331)⟩ dd_Rp_beginFromCheckpoint_36 ?_
  refine za_inc B.1 1 dd_Rp_beginFromCheckpoint_39 (by decide) (by decide) ?_
  refine za_goto B.1 17 dd_Rp_beginFromCheckpoint_42 (by decide) ?_
  exact h17
theorem zr_Rp_beginFromCheckpoint_17 (B : zs_B p s m args meth c G bb_Rp_beginFromCheckpoint 2 yy_Rp_beginFromCheckpoint none) {K17 : zs_P} (h17 : zA_Rp_beginFromCheckpoint p l e s m args below meth c G Q 17 K17) : zA_Rp_beginFromCheckpoint p l e s m args below meth c G Q 17 (zb_Rp_beginFromCheckpoint_17 Q K17) := by
  unfold zb_Rp_beginFromCheckpoint_17
  refine za_ild_n B.1 1 dd_Rp_beginFromCheckpoint_17 rfl ?_
  refine za_ald_n B.1 0 dd_Rp_beginFromCheckpoint_18 rfl ?_
  refine za_gtR B.1 3 7 zi_3 rfl (by decide) (by decide) rfl zW_85 rfl dd_Rp_beginFromCheckpoint_19 ?_
  refine za_len B.1 (110 + 1) 7 (by decide) rfl dd_Rp_beginFromCheckpoint_22 ?_
  exact za_cmp_ge B.1 45 dd_Rp_beginFromCheckpoint_23 (by decide) (zr_Rp_beginFromCheckpoint_45 B) (zr_Rp_beginFromCheckpoint_26 B h17)
theorem zq_Rp_beginFromCheckpoint_17 (B : zs_B p s m args meth c G bb_Rp_beginFromCheckpoint 2 yy_Rp_beginFromCheckpoint none) : zA_Rp_beginFromCheckpoint p l e s m args below meth c G Q 17 (zl_Rp_beginFromCheckpoint_17 Q) := za_lop (fun K hK => zr_Rp_beginFromCheckpoint_17 B hK)
theorem zr_Rp_beginFromCheckpoint_0 (B : zs_B p s m args meth c G bb_Rp_beginFromCheckpoint 2 yy_Rp_beginFromCheckpoint none) : zA_Rp_beginFromCheckpoint p l e s m args below meth c G Q 0 (zb_Rp_beginFromCheckpoint_0 Q) := by
  unfold zb_Rp_beginFromCheckpoint_0
  refine za_ald_n B.1 0 dd_Rp_beginFromCheckpoint_0 rfl ?_
  refine za_gtR B.1 3 4 zi_3 rfl (by decide) (by decide) rfl zW_82 rfl dd_Rp_beginFromCheckpoint_1 ?_
  refine za_ico B.1 0 dd_Rp_beginFromCheckpoint_4 (by decide) ?_
  refine za_ald_n B.1 0 dd_Rp_beginFromCheckpoint_5 rfl ?_
  refine za_gtR B.1 3 6 zi_3 rfl (by decide) (by decide) rfl zW_84 rfl dd_Rp_beginFromCheckpoint_6 ?_
  refine za_ico B.1 0 dd_Rp_beginFromCheckpoint_9 (by decide) ?_
  refine za_bip B.1 12 dd_Rp_beginFromCheckpoint_10 (by decide) ?_
  refine za_jcp B.1 (by decide) zW_326 zW_328 zW_327 zW_12 dd_Rp_beginFromCheckpoint_12 ?_
  refine za_ico B.1 0 dd_Rp_beginFromCheckpoint_15 (by decide) ?_
  refine za_ist_n B.1 1 dd_Rp_beginFromCheckpoint_16 rfl (by decide) ?_
  exact (zq_Rp_beginFromCheckpoint_17 B)
end
theorem zm_Rp_beginFromCheckpoint (l : Launch) (G : zs_G) (As : List Value) (σ : zs_S) (Q : zs_Q) (h : zw_Rp_beginFromCheckpoint As σ Q) : zs_Met l yy_Rp_beginFromCheckpoint (Cond.code yy_Rp_beginFromCheckpoint bb_Rp_beginFromCheckpoint 2 none :: zw_all) zk_Rp_beginFromCheckpoint G As σ Q 0 0 := by
  unfold zw_Rp_beginFromCheckpoint at h
  split at h
  · exact zs_enter (by decide +kernel) h.1 (Nat.le_of_ble_eq_true rfl) h.2 (fun p e s m args below meth c B => zr_Rp_beginFromCheckpoint_0 B)
  · exact h.elim
-- SequencedBatches.restart(I)Z
theorem dd_SB_restart_0 : decode bb_SB_restart 0 = .ok (.iload_n 1, 1) := by decide +kernel
theorem dd_SB_restart_1 : decode bb_SB_restart 1 = .ok (.ifCond .lt 18, 3) := by decide +kernel
theorem dd_SB_restart_4 : decode bb_SB_restart 4 = .ok (.iload_n 1, 1) := by decide +kernel
theorem dd_SB_restart_5 : decode bb_SB_restart 5 = .ok (.bipush 7, 2) := by decide +kernel
theorem dd_SB_restart_7 : decode bb_SB_restart 7 = .ok (.if_icmp .ge 12, 3) := by decide +kernel
theorem dd_SB_restart_10 : decode bb_SB_restart 10 = .ok (.aload_n 0, 1) := by decide +kernel
theorem dd_SB_restart_11 : decode bb_SB_restart 11 = .ok (.getfield 9, 3) := by decide +kernel
theorem dd_SB_restart_14 : decode bb_SB_restart 14 = .ok (.iload_n 1, 1) := by decide +kernel
theorem dd_SB_restart_15 : decode bb_SB_restart 15 = .ok (.baload, 1) := by decide +kernel
theorem dd_SB_restart_16 : decode bb_SB_restart 16 = .ok (.ifCond .ne 5, 3) := by decide +kernel
theorem dd_SB_restart_19 : decode bb_SB_restart 19 = .ok (.iconst 0, 1) := by decide +kernel
theorem dd_SB_restart_20 : decode bb_SB_restart 20 = .ok (.ireturn, 1) := by decide +kernel
theorem dd_SB_restart_21 : decode bb_SB_restart 21 = .ok (.iload_n 1, 1) := by decide +kernel
theorem dd_SB_restart_22 : decode bb_SB_restart 22 = .ok (.iconst 3, 1) := by decide +kernel
theorem dd_SB_restart_23 : decode bb_SB_restart 23 = .ok (.if_icmp .lt 12, 3) := by decide +kernel
theorem dd_SB_restart_26 : decode bb_SB_restart 26 = .ok (.iload_n 1, 1) := by decide +kernel
theorem dd_SB_restart_27 : decode bb_SB_restart 27 = .ok (.iconst 5, 1) := by decide +kernel
theorem dd_SB_restart_28 : decode bb_SB_restart 28 = .ok (.if_icmp .ge 7, 3) := by decide +kernel
theorem dd_SB_restart_31 : decode bb_SB_restart 31 = .ok (.iconst 1, 1) := by decide +kernel
theorem dd_SB_restart_32 : decode bb_SB_restart 32 = .ok (.goto 4, 3) := by decide +kernel
theorem dd_SB_restart_35 : decode bb_SB_restart 35 = .ok (.iconst 0, 1) := by decide +kernel
theorem dd_SB_restart_36 : decode bb_SB_restart 36 = .ok (.istore_n 2, 1) := by decide +kernel
theorem dd_SB_restart_37 : decode bb_SB_restart 37 = .ok (.iload_n 2, 1) := by decide +kernel
theorem dd_SB_restart_38 : decode bb_SB_restart 38 = .ok (.ifCond .eq 23, 3) := by decide +kernel
theorem dd_SB_restart_41 : decode bb_SB_restart 41 = .ok (.aload_n 0, 1) := by decide +kernel
theorem dd_SB_restart_42 : decode bb_SB_restart 42 = .ok (.invokevirtual 154, 3) := by decide +kernel
theorem dd_SB_restart_45 : decode bb_SB_restart 45 = .ok (.iconst 2, 1) := by decide +kernel
theorem dd_SB_restart_46 : decode bb_SB_restart 46 = .ok (.if_icmp .lt 13, 3) := by decide +kernel
theorem dd_SB_restart_49 : decode bb_SB_restart 49 = .ok (.aload_n 0, 1) := by decide +kernel
theorem dd_SB_restart_50 : decode bb_SB_restart 50 = .ok (.getfield 26, 3) := by decide +kernel
theorem dd_SB_restart_53 : decode bb_SB_restart 53 = .ok (.invokevirtual 90, 3) := by decide +kernel
theorem dd_SB_restart_56 : decode bb_SB_restart 56 = .ok (.ifCond .eq 5, 3) := by decide +kernel
theorem dd_SB_restart_59 : decode bb_SB_restart 59 = .ok (.iconst 0, 1) := by decide +kernel
theorem dd_SB_restart_60 : decode bb_SB_restart 60 = .ok (.ireturn, 1) := by decide +kernel
theorem dd_SB_restart_61 : decode bb_SB_restart 61 = .ok (.aload_n 0, 1) := by decide +kernel
theorem dd_SB_restart_62 : decode bb_SB_restart 62 = .ok (.getfield 9, 3) := by decide +kernel
theorem dd_SB_restart_65 : decode bb_SB_restart 65 = .ok (.iload_n 1, 1) := by decide +kernel
theorem dd_SB_restart_66 : decode bb_SB_restart 66 = .ok (.iconst 0, 1) := by decide +kernel
theorem dd_SB_restart_67 : decode bb_SB_restart 67 = .ok (.bastore, 1) := by decide +kernel
theorem dd_SB_restart_68 : decode bb_SB_restart 68 = .ok (.iload_n 2, 1) := by decide +kernel
theorem dd_SB_restart_69 : decode bb_SB_restart 69 = .ok (.ifCond .eq 13, 3) := by decide +kernel
theorem dd_SB_restart_72 : decode bb_SB_restart 72 = .ok (.aload_n 0, 1) := by decide +kernel
theorem dd_SB_restart_73 : decode bb_SB_restart 73 = .ok (.iload_n 1, 1) := by decide +kernel
theorem dd_SB_restart_74 : decode bb_SB_restart 74 = .ok (.iconst 3, 1) := by decide +kernel
theorem dd_SB_restart_75 : decode bb_SB_restart 75 = .ok (.isub, 1) := by decide +kernel
theorem dd_SB_restart_76 : decode bb_SB_restart 76 = .ok (.invokevirtual 157, 3) := by decide +kernel
theorem dd_SB_restart_79 : decode bb_SB_restart 79 = .ok (.goto 19, 3) := by decide +kernel
theorem dd_SB_restart_82 : decode bb_SB_restart 82 = .ok (.iload_n 1, 1) := by decide +kernel
theorem dd_SB_restart_83 : decode bb_SB_restart 83 = .ok (.iconst 5, 1) := by decide +kernel
theorem dd_SB_restart_84 : decode bb_SB_restart 84 = .ok (.if_icmp .lt 14, 3) := by decide +kernel
theorem dd_SB_restart_87 : decode bb_SB_restart 87 = .ok (.aload_n 0, 1) := by decide +kernel
theorem dd_SB_restart_88 : decode bb_SB_restart 88 = .ok (.getfield 44, 3) := by decide +kernel
theorem dd_SB_restart_91 : decode bb_SB_restart 91 = .ok (.iload_n 1, 1) := by decide +kernel
theorem dd_SB_restart_92 : decode bb_SB_restart 92 = .ok (.iconst 5, 1) := by decide +kernel
theorem dd_SB_restart_93 : decode bb_SB_restart 93 = .ok (.isub, 1) := by decide +kernel
theorem dd_SB_restart_94 : decode bb_SB_restart 94 = .ok (.aaload, 1) := by decide +kernel
theorem dd_SB_restart_95 : decode bb_SB_restart 95 = .ok (.invokevirtual 160, 3) := by decide +kernel
theorem dd_SB_restart_98 : decode bb_SB_restart 98 = .ok (.iconst 1, 1) := by decide +kernel
theorem dd_SB_restart_99 : decode bb_SB_restart 99 = .ok (.ireturn, 1) := by decide +kernel
def zk_SB_restart : Room := { frames := 3, cells := 0, slots := 0, locals := 88 }
abbrev zA_SB_restart (p : Program) (l : Launch) (e : Env) (s : State) (m : MethodId) (args : Array Value) (below : List Frame) (meth : Method) (c : Code) (G : zs_G) (Q : zs_Q) (pc : Nat) (P : zs_P) : Prop := zs_At p l e zk_SB_restart s m args below meth c (MQ below (zs_Qc G Q) args s 0 0 (fun q => zg_z G ≤ q)) G 3 pc P
def zb_SB_restart_19 (Q : zs_Q) : zs_P := zt_psh 0 (zt_zrt 0 0 Q)
def zb_SB_restart_98 (Q : zs_Q) : zs_P := zt_psh 1 (zt_zrt 0 0 Q)
def zb_SB_restart_87 (Q : zs_Q) : zs_P := zt_ald 0 (zt_gtR 7 7 (zt_ild 1 (zt_psh 5 (zt_bin (fun x y => x - y) (zt_rld (110 + 3) (zt_cav 3 zw_Rp_beginFromCheckpoint (0 + 1) 0 0 0 0 ((zb_SB_restart_98 Q))))))))
def zb_SB_restart_82 (Q : zs_Q) : zs_P := zt_ild 1 (zt_psh 5 (zt_cmp (fun x y => x < y) (zb_SB_restart_98 Q) (zb_SB_restart_87 Q)))
def zb_SB_restart_72 (Q : zs_Q) : zs_P := zt_ald 0 (zt_ild 1 (zt_psh 3 (zt_bin (fun x y => x - y) (zt_cav 7 zw_SB_takeUpSequencer (1 + 1) 0 0 0 0 ((zb_SB_restart_98 Q))))))
def zb_SB_restart_61 (Q : zs_Q) : zs_P := zt_ald 0 (zt_gtR 7 1 (zt_ild 1 (zt_psh 0 (zt_zas (zt_ild 2 (zt_if (fun x => x = 0) (zb_SB_restart_82 Q) (zb_SB_restart_72 Q)))))))
def zb_SB_restart_59 (Q : zs_Q) : zs_P := zt_psh 0 (zt_zrt 0 0 Q)
def zb_SB_restart_49 (Q : zs_Q) : zs_P := zt_ald 0 (zt_gtR 7 4 (zt_cav 2 zw_Po_isCrowded (0 + 1) 0 0 0 0 (zt_if (fun x => x = 0) (zb_SB_restart_61 Q) (zb_SB_restart_59 Q))))
def zb_SB_restart_41 (Q : zs_Q) : zs_P := zt_ald 0 (zt_cav 7 zw_SB_logNodesUp (0 + 1) 0 0 0 0 (zt_psh 2 (zt_cmp (fun x y => x < y) (zb_SB_restart_59 Q) (zb_SB_restart_49 Q))))
def zb_SB_restart_36 (Q : zs_Q) : zs_P := zt_ist 2 (zt_ild 2 (zt_if (fun x => x = 0) (zb_SB_restart_61 Q) (zb_SB_restart_41 Q)))
def zb_SB_restart_35 (Q : zs_Q) : zs_P := zt_psh 0 ((zb_SB_restart_36 Q))
def zb_SB_restart_31 (Q : zs_Q) : zs_P := zt_psh 1 ((zb_SB_restart_36 Q))
def zb_SB_restart_26 (Q : zs_Q) : zs_P := zt_ild 1 (zt_psh 5 (zt_cmp (fun x y => y ≤ x) (zb_SB_restart_35 Q) (zb_SB_restart_31 Q)))
def zb_SB_restart_21 (Q : zs_Q) : zs_P := zt_ild 1 (zt_psh 3 (zt_cmp (fun x y => x < y) (zb_SB_restart_35 Q) (zb_SB_restart_26 Q)))
def zb_SB_restart_10 (Q : zs_Q) : zs_P := zt_ald 0 (zt_gtR 7 1 (zt_ild 1 (zt_xld 101 (zt_if (fun x => x = 0) (zb_SB_restart_19 Q) (zb_SB_restart_21 Q)))))
def zb_SB_restart_4 (Q : zs_Q) : zs_P := zt_ild 1 (zt_psh 7 (zt_cmp (fun x y => y ≤ x) (zb_SB_restart_19 Q) (zb_SB_restart_10 Q)))
def zb_SB_restart_0 (Q : zs_Q) : zs_P := zt_ild 1 (zt_if (fun x => x < 0) (zb_SB_restart_19 Q) (zb_SB_restart_4 Q))
def zw_SB_restart : zs_W := fun As σ Q => match As with
  | [a0, a1] => zs_c1 [a0, a1] = true ∧ zb_SB_restart_0 Q [some a0, some a1, none] [] σ 0 0
  | _ => False
section
variable {p : Program} {l : Launch} {e : Env} {s : State} {m : MethodId} {args : Array Value} {below : List Frame} {meth : Method} {c : Code} {G : zs_G} {Q : zs_Q}
theorem zr_SB_restart_19 (B : zs_B p s m args meth c G bb_SB_restart 3 yy_SB_restart (some .boolean)) : zA_SB_restart p l e s m args below meth c G Q 19 (zb_SB_restart_19 Q) := by
  unfold zb_SB_restart_19
  refine za_ico B.1 0 dd_SB_restart_19 (by decide) ?_
  exact za_zrt B.1 0 0 B.2.1 B.2.2.1 dd_SB_restart_20
theorem zr_SB_restart_98 (B : zs_B p s m args meth c G bb_SB_restart 3 yy_SB_restart (some .boolean)) : zA_SB_restart p l e s m args below meth c G Q 98 (zb_SB_restart_98 Q) := by
  unfold zb_SB_restart_98
  refine za_ico B.1 1 dd_SB_restart_98 (by decide) ?_
  exact za_zrt B.1 0 0 B.2.1 B.2.2.1 dd_SB_restart_99
theorem zr_SB_restart_87 (B : zs_B p s m args meth c G bb_SB_restart 3 yy_SB_restart (some .boolean)) : zA_SB_restart p l e s m args below meth c G Q 87 (zb_SB_restart_87 Q) := by
  unfold zb_SB_restart_87
  refine za_ald_n B.1 0 dd_SB_restart_87 rfl ?_
  refine za_gtR B.1 7 7 zi_7 rfl (by decide) (by decide) rfl zW_95 rfl dd_SB_restart_88 ?_
  refine za_ild_n B.1 1 dd_SB_restart_91 rfl ?_
  refine za_ico B.1 5 dd_SB_restart_92 (by decide) ?_
  refine za_sub B.1 dd_SB_restart_93 ?_
  refine za_rld B.1 3 5 rfl dd_SB_restart_94 ?_
  refine za_cV B.1 3 0 0 0 0 0 rfl rfl rfl (by decide) (zm_Rp_beginFromCheckpoint l G) ⟨callB_of 0 B.1.1.2.2.2.2 (zs_good zW_325) rfl rfl rfl (B.1.1.2.2.2.2 _ zW_6) (B.1.1.2.2.2.2 _ zW_322) (by decide +kernel) ⟨by decide, by decide⟩, (B.1.1.2.2.2.2 _ zW_323), (B.1.1.2.2.2.2 _ zW_324)⟩ dd_SB_restart_95 ?_
  exact (zr_SB_restart_98 B)
theorem zr_SB_restart_82 (B : zs_B p s m args meth c G bb_SB_restart 3 yy_SB_restart (some .boolean)) : zA_SB_restart p l e s m args below meth c G Q 82 (zb_SB_restart_82 Q) := by
  unfold zb_SB_restart_82
  refine za_ild_n B.1 1 dd_SB_restart_82 rfl ?_
  refine za_ico B.1 5 dd_SB_restart_83 (by decide) ?_
  exact za_cmp_lt B.1 98 dd_SB_restart_84 (by decide) (zr_SB_restart_98 B) (zr_SB_restart_87 B)
theorem zr_SB_restart_72 (B : zs_B p s m args meth c G bb_SB_restart 3 yy_SB_restart (some .boolean)) : zA_SB_restart p l e s m args below meth c G Q 72 (zb_SB_restart_72 Q) := by
  unfold zb_SB_restart_72
  refine za_ald_n B.1 0 dd_SB_restart_72 rfl ?_
  refine za_ild_n B.1 1 dd_SB_restart_73 rfl ?_
  refine za_ico B.1 3 dd_SB_restart_74 (by decide) ?_
  refine za_sub B.1 dd_SB_restart_75 ?_
  refine za_cV B.1 7 1 0 0 0 0 rfl rfl rfl (by decide) (zm_SB_takeUpSequencer l G) ⟨callB_of 1 B.1.1.2.2.2.2 (zs_good zW_314) rfl rfl rfl (B.1.1.2.2.2.2 _ zW_1) (B.1.1.2.2.2.2 _ zW_312) (by decide +kernel) ⟨by decide, by decide⟩, (B.1.1.2.2.2.2 _ zW_313), (B.1.1.2.2.2.2 _ zW_670)⟩ dd_SB_restart_76 ?_
  refine za_goto B.1 98 dd_SB_restart_79 (by decide) ?_
  exact (zr_SB_restart_98 B)
theorem zr_SB_restart_61 (B : zs_B p s m args meth c G bb_SB_restart 3 yy_SB_restart (some .boolean)) : zA_SB_restart p l e s m args below meth c G Q 61 (zb_SB_restart_61 Q) := by
  unfold zb_SB_restart_61
  refine za_ald_n B.1 0 dd_SB_restart_61 rfl ?_
  refine za_gtR B.1 7 1 zi_7 rfl (by decide) (by decide) rfl zW_89 rfl dd_SB_restart_62 ?_
  refine za_ild_n B.1 1 dd_SB_restart_65 rfl ?_
  refine za_ico B.1 0 dd_SB_restart_66 (by decide) ?_
  refine za_zast B.1 dd_SB_restart_67 ?_
  refine za_ild_n B.1 2 dd_SB_restart_68 rfl ?_
  exact za_if_eq B.1 82 dd_SB_restart_69 (by decide) (zr_SB_restart_82 B) (zr_SB_restart_72 B)
theorem zr_SB_restart_59 (B : zs_B p s m args meth c G bb_SB_restart 3 yy_SB_restart (some .boolean)) : zA_SB_restart p l e s m args below meth c G Q 59 (zb_SB_restart_59 Q) := by
  unfold zb_SB_restart_59
  refine za_ico B.1 0 dd_SB_restart_59 (by decide) ?_
  exact za_zrt B.1 0 0 B.2.1 B.2.2.1 dd_SB_restart_60
theorem zr_SB_restart_49 (B : zs_B p s m args meth c G bb_SB_restart 3 yy_SB_restart (some .boolean)) : zA_SB_restart p l e s m args below meth c G Q 49 (zb_SB_restart_49 Q) := by
  unfold zb_SB_restart_49
  refine za_ald_n B.1 0 dd_SB_restart_49 rfl ?_
  refine za_gtR B.1 7 4 zi_7 rfl (by decide) (by decide) rfl zW_92 rfl dd_SB_restart_50 ?_
  refine za_cV B.1 2 0 0 0 0 0 rfl rfl rfl (by decide) (zm_Po_isCrowded l G) ⟨callB_of 0 B.1.1.2.2.2.2 (zs_good zW_147) rfl rfl rfl (B.1.1.2.2.2.2 _ zW_2) (B.1.1.2.2.2.2 _ zW_144) (by decide +kernel) ⟨by decide, by decide⟩, (B.1.1.2.2.2.2 _ zW_145), (B.1.1.2.2.2.2 _ zW_146)⟩ dd_SB_restart_53 ?_
  exact za_if_eq B.1 61 dd_SB_restart_56 (by decide) (zr_SB_restart_61 B) (zr_SB_restart_59 B)
theorem zr_SB_restart_41 (B : zs_B p s m args meth c G bb_SB_restart 3 yy_SB_restart (some .boolean)) : zA_SB_restart p l e s m args below meth c G Q 41 (zb_SB_restart_41 Q) := by
  unfold zb_SB_restart_41
  refine za_ald_n B.1 0 dd_SB_restart_41 rfl ?_
  refine za_cV B.1 7 0 0 0 0 0 rfl rfl rfl (by decide) (zm_SB_logNodesUp l G) ⟨callB_of 0 B.1.1.2.2.2.2 (zs_good zW_311) rfl rfl rfl (B.1.1.2.2.2.2 _ zW_1) (B.1.1.2.2.2.2 _ zW_309) (by decide +kernel) ⟨by decide, by decide⟩, (B.1.1.2.2.2.2 _ zW_310), (B.1.1.2.2.2.2 _ zW_669)⟩ dd_SB_restart_42 ?_
  refine za_ico B.1 2 dd_SB_restart_45 (by decide) ?_
  exact za_cmp_lt B.1 59 dd_SB_restart_46 (by decide) (zr_SB_restart_59 B) (zr_SB_restart_49 B)
theorem zr_SB_restart_36 (B : zs_B p s m args meth c G bb_SB_restart 3 yy_SB_restart (some .boolean)) : zA_SB_restart p l e s m args below meth c G Q 36 (zb_SB_restart_36 Q) := by
  unfold zb_SB_restart_36
  refine za_ist_n B.1 2 dd_SB_restart_36 rfl (by decide) ?_
  refine za_ild_n B.1 2 dd_SB_restart_37 rfl ?_
  exact za_if_eq B.1 61 dd_SB_restart_38 (by decide) (zr_SB_restart_61 B) (zr_SB_restart_41 B)
theorem zr_SB_restart_35 (B : zs_B p s m args meth c G bb_SB_restart 3 yy_SB_restart (some .boolean)) : zA_SB_restart p l e s m args below meth c G Q 35 (zb_SB_restart_35 Q) := by
  unfold zb_SB_restart_35
  refine za_ico B.1 0 dd_SB_restart_35 (by decide) ?_
  exact (zr_SB_restart_36 B)
theorem zr_SB_restart_31 (B : zs_B p s m args meth c G bb_SB_restart 3 yy_SB_restart (some .boolean)) : zA_SB_restart p l e s m args below meth c G Q 31 (zb_SB_restart_31 Q) := by
  unfold zb_SB_restart_31
  refine za_ico B.1 1 dd_SB_restart_31 (by decide) ?_
  refine za_goto B.1 36 dd_SB_restart_32 (by decide) ?_
  exact (zr_SB_restart_36 B)
theorem zr_SB_restart_26 (B : zs_B p s m args meth c G bb_SB_restart 3 yy_SB_restart (some .boolean)) : zA_SB_restart p l e s m args below meth c G Q 26 (zb_SB_restart_26 Q) := by
  unfold zb_SB_restart_26
  refine za_ild_n B.1 1 dd_SB_restart_26 rfl ?_
  refine za_ico B.1 5 dd_SB_restart_27 (by decide) ?_
  exact za_cmp_ge B.1 35 dd_SB_restart_28 (by decide) (zr_SB_restart_35 B) (zr_SB_restart_31 B)
theorem zr_SB_restart_21 (B : zs_B p s m args meth c G bb_SB_restart 3 yy_SB_restart (some .boolean)) : zA_SB_restart p l e s m args below meth c G Q 21 (zb_SB_restart_21 Q) := by
  unfold zb_SB_restart_21
  refine za_ild_n B.1 1 dd_SB_restart_21 rfl ?_
  refine za_ico B.1 3 dd_SB_restart_22 (by decide) ?_
  exact za_cmp_lt B.1 35 dd_SB_restart_23 (by decide) (zr_SB_restart_35 B) (zr_SB_restart_26 B)
theorem zr_SB_restart_10 (B : zs_B p s m args meth c G bb_SB_restart 3 yy_SB_restart (some .boolean)) : zA_SB_restart p l e s m args below meth c G Q 10 (zb_SB_restart_10 Q) := by
  unfold zb_SB_restart_10
  refine za_ald_n B.1 0 dd_SB_restart_10 rfl ?_
  refine za_gtR B.1 7 1 zi_7 rfl (by decide) (by decide) rfl zW_89 rfl dd_SB_restart_11 ?_
  refine za_ild_n B.1 1 dd_SB_restart_14 rfl ?_
  refine za_zald B.1 dd_SB_restart_15 ?_
  exact za_if_ne B.1 21 dd_SB_restart_16 (by decide) (zr_SB_restart_19 B) (zr_SB_restart_21 B)
theorem zr_SB_restart_4 (B : zs_B p s m args meth c G bb_SB_restart 3 yy_SB_restart (some .boolean)) : zA_SB_restart p l e s m args below meth c G Q 4 (zb_SB_restart_4 Q) := by
  unfold zb_SB_restart_4
  refine za_ild_n B.1 1 dd_SB_restart_4 rfl ?_
  refine za_bip B.1 7 dd_SB_restart_5 (by decide) ?_
  exact za_cmp_ge B.1 19 dd_SB_restart_7 (by decide) (zr_SB_restart_19 B) (zr_SB_restart_10 B)
theorem zr_SB_restart_0 (B : zs_B p s m args meth c G bb_SB_restart 3 yy_SB_restart (some .boolean)) : zA_SB_restart p l e s m args below meth c G Q 0 (zb_SB_restart_0 Q) := by
  unfold zb_SB_restart_0
  refine za_ild_n B.1 1 dd_SB_restart_0 rfl ?_
  exact za_if_lt B.1 19 dd_SB_restart_1 (by decide) (zr_SB_restart_19 B) (zr_SB_restart_4 B)
end
theorem zm_SB_restart (l : Launch) (G : zs_G) (As : List Value) (σ : zs_S) (Q : zs_Q) (h : zw_SB_restart As σ Q) : zs_Met l yy_SB_restart (Cond.code yy_SB_restart bb_SB_restart 3 (some .boolean) :: zw_all) zk_SB_restart G As σ Q 0 0 := by
  unfold zw_SB_restart at h
  split at h
  · exact zs_enter (by decide +kernel) h.1 (Nat.le_of_ble_eq_true rfl) h.2 (fun p e s m args below meth c B => zr_SB_restart_0 B)
  · exact h.elim
-- SequencedBatches.partitionIsUp(II)Z
theorem dd_SB_partitionIsUp_0 : decode bb_SB_partitionIsUp 0 = .ok (.aload_n 0, 1) := by decide +kernel
theorem dd_SB_partitionIsUp_1 : decode bb_SB_partitionIsUp 1 = .ok (.iload_n 1, 1) := by decide +kernel
theorem dd_SB_partitionIsUp_2 : decode bb_SB_partitionIsUp 2 = .ok (.invokevirtual 178, 3) := by decide +kernel
theorem dd_SB_partitionIsUp_5 : decode bb_SB_partitionIsUp 5 = .ok (.ifCond .eq 19, 3) := by decide +kernel
theorem dd_SB_partitionIsUp_8 : decode bb_SB_partitionIsUp 8 = .ok (.iload_n 2, 1) := by decide +kernel
theorem dd_SB_partitionIsUp_9 : decode bb_SB_partitionIsUp 9 = .ok (.ifCond .lt 15, 3) := by decide +kernel
theorem dd_SB_partitionIsUp_12 : decode bb_SB_partitionIsUp 12 = .ok (.iload_n 2, 1) := by decide +kernel
theorem dd_SB_partitionIsUp_13 : decode bb_SB_partitionIsUp 13 = .ok (.aload_n 0, 1) := by decide +kernel
theorem dd_SB_partitionIsUp_14 : decode bb_SB_partitionIsUp 14 = .ok (.getfield 57, 3) := by decide +kernel
theorem dd_SB_partitionIsUp_17 : decode bb_SB_partitionIsUp 17 = .ok (.if_icmp .ge 7, 3) := by decide +kernel
theorem dd_SB_partitionIsUp_20 : decode bb_SB_partitionIsUp 20 = .ok (.iconst 1, 1) := by decide +kernel
theorem dd_SB_partitionIsUp_21 : decode bb_SB_partitionIsUp 21 = .ok (.goto 4, 3) := by decide +kernel
theorem dd_SB_partitionIsUp_24 : decode bb_SB_partitionIsUp 24 = .ok (.iconst 0, 1) := by decide +kernel
theorem dd_SB_partitionIsUp_25 : decode bb_SB_partitionIsUp 25 = .ok (.ireturn, 1) := by decide +kernel
def zk_SB_partitionIsUp : Room := { frames := 1, cells := 0, slots := 0, locals := 21 }
abbrev zA_SB_partitionIsUp (p : Program) (l : Launch) (e : Env) (s : State) (m : MethodId) (args : Array Value) (below : List Frame) (meth : Method) (c : Code) (G : zs_G) (Q : zs_Q) (pc : Nat) (P : zs_P) : Prop := zs_At p l e zk_SB_partitionIsUp s m args below meth c (MQ below (zs_Qc G Q) args s 0 0 (fun q => zg_z G ≤ q)) G 3 pc P
def zb_SB_partitionIsUp_25 (Q : zs_Q) : zs_P := zt_zrt 0 0 Q
def zb_SB_partitionIsUp_24 (Q : zs_Q) : zs_P := zt_psh 0 ((zb_SB_partitionIsUp_25 Q))
def zb_SB_partitionIsUp_20 (Q : zs_Q) : zs_P := zt_psh 1 ((zb_SB_partitionIsUp_25 Q))
def zb_SB_partitionIsUp_12 (Q : zs_Q) : zs_P := zt_ild 2 (zt_ald 0 (zt_gtI 7 0 (zt_cmp (fun x y => y ≤ x) (zb_SB_partitionIsUp_24 Q) (zb_SB_partitionIsUp_20 Q))))
def zb_SB_partitionIsUp_8 (Q : zs_Q) : zs_P := zt_ild 2 (zt_if (fun x => x < 0) (zb_SB_partitionIsUp_24 Q) (zb_SB_partitionIsUp_12 Q))
def zb_SB_partitionIsUp_0 (Q : zs_Q) : zs_P := zt_ald 0 (zt_ild 1 (zt_cav 7 zw_SB_replicaIsUp (1 + 1) 0 0 0 0 (zt_if (fun x => x = 0) (zb_SB_partitionIsUp_24 Q) (zb_SB_partitionIsUp_8 Q))))
def zw_SB_partitionIsUp : zs_W := fun As σ Q => match As with
  | [a0, a1, a2] => zs_c1 [a0, a1, a2] = true ∧ zb_SB_partitionIsUp_0 Q [some a0, some a1, some a2] [] σ 0 0
  | _ => False
section
variable {p : Program} {l : Launch} {e : Env} {s : State} {m : MethodId} {args : Array Value} {below : List Frame} {meth : Method} {c : Code} {G : zs_G} {Q : zs_Q}
theorem zr_SB_partitionIsUp_25 (B : zs_B p s m args meth c G bb_SB_partitionIsUp 3 yy_SB_partitionIsUp (some .boolean)) : zA_SB_partitionIsUp p l e s m args below meth c G Q 25 (zb_SB_partitionIsUp_25 Q) := by
  unfold zb_SB_partitionIsUp_25
  exact za_zrt B.1 0 0 B.2.1 B.2.2.1 dd_SB_partitionIsUp_25
theorem zr_SB_partitionIsUp_24 (B : zs_B p s m args meth c G bb_SB_partitionIsUp 3 yy_SB_partitionIsUp (some .boolean)) : zA_SB_partitionIsUp p l e s m args below meth c G Q 24 (zb_SB_partitionIsUp_24 Q) := by
  unfold zb_SB_partitionIsUp_24
  refine za_ico B.1 0 dd_SB_partitionIsUp_24 (by decide) ?_
  exact (zr_SB_partitionIsUp_25 B)
theorem zr_SB_partitionIsUp_20 (B : zs_B p s m args meth c G bb_SB_partitionIsUp 3 yy_SB_partitionIsUp (some .boolean)) : zA_SB_partitionIsUp p l e s m args below meth c G Q 20 (zb_SB_partitionIsUp_20 Q) := by
  unfold zb_SB_partitionIsUp_20
  refine za_ico B.1 1 dd_SB_partitionIsUp_20 (by decide) ?_
  refine za_goto B.1 25 dd_SB_partitionIsUp_21 (by decide) ?_
  exact (zr_SB_partitionIsUp_25 B)
theorem zr_SB_partitionIsUp_12 (B : zs_B p s m args meth c G bb_SB_partitionIsUp 3 yy_SB_partitionIsUp (some .boolean)) : zA_SB_partitionIsUp p l e s m args below meth c G Q 12 (zb_SB_partitionIsUp_12 Q) := by
  unfold zb_SB_partitionIsUp_12
  refine za_ild_n B.1 2 dd_SB_partitionIsUp_12 rfl ?_
  refine za_ald_n B.1 0 dd_SB_partitionIsUp_13 rfl ?_
  refine za_gtI B.1 7 0 zi_7 rfl (by decide) (by decide) rfl zW_88 rfl dd_SB_partitionIsUp_14 ?_
  exact za_cmp_ge B.1 24 dd_SB_partitionIsUp_17 (by decide) (zr_SB_partitionIsUp_24 B) (zr_SB_partitionIsUp_20 B)
theorem zr_SB_partitionIsUp_8 (B : zs_B p s m args meth c G bb_SB_partitionIsUp 3 yy_SB_partitionIsUp (some .boolean)) : zA_SB_partitionIsUp p l e s m args below meth c G Q 8 (zb_SB_partitionIsUp_8 Q) := by
  unfold zb_SB_partitionIsUp_8
  refine za_ild_n B.1 2 dd_SB_partitionIsUp_8 rfl ?_
  exact za_if_lt B.1 24 dd_SB_partitionIsUp_9 (by decide) (zr_SB_partitionIsUp_24 B) (zr_SB_partitionIsUp_12 B)
theorem zr_SB_partitionIsUp_0 (B : zs_B p s m args meth c G bb_SB_partitionIsUp 3 yy_SB_partitionIsUp (some .boolean)) : zA_SB_partitionIsUp p l e s m args below meth c G Q 0 (zb_SB_partitionIsUp_0 Q) := by
  unfold zb_SB_partitionIsUp_0
  refine za_ald_n B.1 0 dd_SB_partitionIsUp_0 rfl ?_
  refine za_ild_n B.1 1 dd_SB_partitionIsUp_1 rfl ?_
  refine za_cV B.1 7 1 0 0 0 0 rfl rfl rfl (by decide) (zm_SB_replicaIsUp l G) ⟨callB_of 1 B.1.1.2.2.2.2 (zs_good zW_245) rfl rfl rfl (B.1.1.2.2.2.2 _ zW_1) (B.1.1.2.2.2.2 _ zW_243) (by decide +kernel) ⟨by decide, by decide⟩, (B.1.1.2.2.2.2 _ zW_244), (B.1.1.2.2.2.2 _ zW_664)⟩ dd_SB_partitionIsUp_2 ?_
  exact za_if_eq B.1 24 dd_SB_partitionIsUp_5 (by decide) (zr_SB_partitionIsUp_24 B) (zr_SB_partitionIsUp_8 B)
end
theorem zm_SB_partitionIsUp (l : Launch) (G : zs_G) (As : List Value) (σ : zs_S) (Q : zs_Q) (h : zw_SB_partitionIsUp As σ Q) : zs_Met l yy_SB_partitionIsUp (Cond.code yy_SB_partitionIsUp bb_SB_partitionIsUp 3 (some .boolean) :: zw_all) zk_SB_partitionIsUp G As σ Q 0 0 := by
  unfold zw_SB_partitionIsUp at h
  split at h
  · exact zs_enter (by decide +kernel) h.1 (Nat.le_of_ble_eq_true rfl) h.2 (fun p e s m args below meth c B => zr_SB_partitionIsUp_0 B)
  · exact h.elim
-- SequencedBatches$Partition.isFull()Z
theorem dd_Pa_isFull_0 : decode bb_Pa_isFull 0 = .ok (.aload_n 0, 1) := by decide +kernel
theorem dd_Pa_isFull_1 : decode bb_Pa_isFull 1 = .ok (.getfield 25, 3) := by decide +kernel
theorem dd_Pa_isFull_4 : decode bb_Pa_isFull 4 = .ok (.bipush 10, 2) := by decide +kernel
theorem dd_Pa_isFull_6 : decode bb_Pa_isFull 6 = .ok (.if_icmp .ne 7, 3) := by decide +kernel
theorem dd_Pa_isFull_9 : decode bb_Pa_isFull 9 = .ok (.iconst 1, 1) := by decide +kernel
theorem dd_Pa_isFull_10 : decode bb_Pa_isFull 10 = .ok (.goto 4, 3) := by decide +kernel
theorem dd_Pa_isFull_13 : decode bb_Pa_isFull 13 = .ok (.iconst 0, 1) := by decide +kernel
theorem dd_Pa_isFull_14 : decode bb_Pa_isFull 14 = .ok (.ireturn, 1) := by decide +kernel
def zk_Pa_isFull : Room := { frames := 0, cells := 0, slots := 0, locals := 0 }
abbrev zA_Pa_isFull (p : Program) (l : Launch) (e : Env) (s : State) (m : MethodId) (args : Array Value) (below : List Frame) (meth : Method) (c : Code) (G : zs_G) (Q : zs_Q) (pc : Nat) (P : zs_P) : Prop := zs_At p l e zk_Pa_isFull s m args below meth c (MQ below (zs_Qc G Q) args s 0 0 (fun q => zg_z G ≤ q)) G 1 pc P
def zb_Pa_isFull_14 (Q : zs_Q) : zs_P := zt_zrt 0 0 Q
def zb_Pa_isFull_13 (Q : zs_Q) : zs_P := zt_psh 0 ((zb_Pa_isFull_14 Q))
def zb_Pa_isFull_9 (Q : zs_Q) : zs_P := zt_psh 1 ((zb_Pa_isFull_14 Q))
def zb_Pa_isFull_0 (Q : zs_Q) : zs_P := zt_ald 0 (zt_gtI 1 4 (zt_psh 10 (zt_cmp (fun x y => x = y) (zb_Pa_isFull_9 Q) (zb_Pa_isFull_13 Q))))
def zw_Pa_isFull : zs_W := fun As σ Q => match As with
  | [a0] => zs_c1 [a0] = true ∧ zb_Pa_isFull_0 Q [some a0] [] σ 0 0
  | _ => False
section
variable {p : Program} {l : Launch} {e : Env} {s : State} {m : MethodId} {args : Array Value} {below : List Frame} {meth : Method} {c : Code} {G : zs_G} {Q : zs_Q}
theorem zr_Pa_isFull_14 (B : zs_B p s m args meth c G bb_Pa_isFull 1 yy_Pa_isFull (some .boolean)) : zA_Pa_isFull p l e s m args below meth c G Q 14 (zb_Pa_isFull_14 Q) := by
  unfold zb_Pa_isFull_14
  exact za_zrt B.1 0 0 B.2.1 B.2.2.1 dd_Pa_isFull_14
theorem zr_Pa_isFull_13 (B : zs_B p s m args meth c G bb_Pa_isFull 1 yy_Pa_isFull (some .boolean)) : zA_Pa_isFull p l e s m args below meth c G Q 13 (zb_Pa_isFull_13 Q) := by
  unfold zb_Pa_isFull_13
  refine za_ico B.1 0 dd_Pa_isFull_13 (by decide) ?_
  exact (zr_Pa_isFull_14 B)
theorem zr_Pa_isFull_9 (B : zs_B p s m args meth c G bb_Pa_isFull 1 yy_Pa_isFull (some .boolean)) : zA_Pa_isFull p l e s m args below meth c G Q 9 (zb_Pa_isFull_9 Q) := by
  unfold zb_Pa_isFull_9
  refine za_ico B.1 1 dd_Pa_isFull_9 (by decide) ?_
  refine za_goto B.1 14 dd_Pa_isFull_10 (by decide) ?_
  exact (zr_Pa_isFull_14 B)
theorem zr_Pa_isFull_0 (B : zs_B p s m args meth c G bb_Pa_isFull 1 yy_Pa_isFull (some .boolean)) : zA_Pa_isFull p l e s m args below meth c G Q 0 (zb_Pa_isFull_0 Q) := by
  unfold zb_Pa_isFull_0
  refine za_ald_n B.1 0 dd_Pa_isFull_0 rfl ?_
  refine za_gtI B.1 1 4 zi_1 rfl (by decide) (by decide) rfl zW_76 rfl dd_Pa_isFull_1 ?_
  refine za_bip B.1 10 dd_Pa_isFull_4 (by decide) ?_
  exact za_cmp_ne B.1 13 dd_Pa_isFull_6 (by decide) (zr_Pa_isFull_9 B) (zr_Pa_isFull_13 B)
end
theorem zm_Pa_isFull (l : Launch) (G : zs_G) (As : List Value) (σ : zs_S) (Q : zs_Q) (h : zw_Pa_isFull As σ Q) : zs_Met l yy_Pa_isFull (Cond.code yy_Pa_isFull bb_Pa_isFull 1 (some .boolean) :: zw_all) zk_Pa_isFull G As σ Q 0 0 := by
  unfold zw_Pa_isFull at h
  split at h
  · exact zs_enter (by decide +kernel) h.1 (Nat.le_of_ble_eq_true rfl) h.2 (fun p e s m args below meth c B => zr_Pa_isFull_0 B)
  · exact h.elim
-- SequencedBatches$Transaction.takesPart(I)Z
theorem dd_Tr_takesPart_0 : decode bb_Tr_takesPart 0 = .ok (.aload_n 0, 1) := by decide +kernel
theorem dd_Tr_takesPart_1 : decode bb_Tr_takesPart 1 = .ok (.iload_n 1, 1) := by decide +kernel
theorem dd_Tr_takesPart_2 : decode bb_Tr_takesPart 2 = .ok (.invokevirtual 52, 3) := by decide +kernel
theorem dd_Tr_takesPart_5 : decode bb_Tr_takesPart 5 = .ok (.ifCond .ne 11, 3) := by decide +kernel
theorem dd_Tr_takesPart_8 : decode bb_Tr_takesPart 8 = .ok (.aload_n 0, 1) := by decide +kernel
theorem dd_Tr_takesPart_9 : decode bb_Tr_takesPart 9 = .ok (.iload_n 1, 1) := by decide +kernel
theorem dd_Tr_takesPart_10 : decode bb_Tr_takesPart 10 = .ok (.invokevirtual 55, 3) := by decide +kernel
theorem dd_Tr_takesPart_13 : decode bb_Tr_takesPart 13 = .ok (.ifCond .eq 7, 3) := by decide +kernel
theorem dd_Tr_takesPart_16 : decode bb_Tr_takesPart 16 = .ok (.iconst 1, 1) := by decide +kernel
theorem dd_Tr_takesPart_17 : decode bb_Tr_takesPart 17 = .ok (.goto 4, 3) := by decide +kernel
theorem dd_Tr_takesPart_20 : decode bb_Tr_takesPart 20 = .ok (.iconst 0, 1) := by decide +kernel
theorem dd_Tr_takesPart_21 : decode bb_Tr_takesPart 21 = .ok (.ireturn, 1) := by decide +kernel
def zk_Tr_takesPart : Room := { frames := 1, cells := 0, slots := 0, locals := 21 }
abbrev zA_Tr_takesPart (p : Program) (l : Launch) (e : Env) (s : State) (m : MethodId) (args : Array Value) (below : List Frame) (meth : Method) (c : Code) (G : zs_G) (Q : zs_Q) (pc : Nat) (P : zs_P) : Prop := zs_At p l e zk_Tr_takesPart s m args below meth c (MQ below (zs_Qc G Q) args s 0 0 (fun q => zg_z G ≤ q)) G 2 pc P
def zb_Tr_takesPart_21 (Q : zs_Q) : zs_P := zt_zrt 0 0 Q
def zb_Tr_takesPart_16 (Q : zs_Q) : zs_P := zt_psh 1 ((zb_Tr_takesPart_21 Q))
def zb_Tr_takesPart_20 (Q : zs_Q) : zs_P := zt_psh 0 ((zb_Tr_takesPart_21 Q))
def zb_Tr_takesPart_8 (Q : zs_Q) : zs_P := zt_ald 0 (zt_ild 1 (zt_cav 6 zw_Tr_writes (1 + 1) 0 0 0 0 (zt_if (fun x => x = 0) (zb_Tr_takesPart_20 Q) (zb_Tr_takesPart_16 Q))))
def zb_Tr_takesPart_0 (Q : zs_Q) : zs_P := zt_ald 0 (zt_ild 1 (zt_cav 6 zw_Tr_reads (1 + 1) 0 0 0 0 (zt_if (fun x => x = 0) (zb_Tr_takesPart_8 Q) (zb_Tr_takesPart_16 Q))))
def zw_Tr_takesPart : zs_W := fun As σ Q => match As with
  | [a0, a1] => zs_c1 [a0, a1] = true ∧ zb_Tr_takesPart_0 Q [some a0, some a1] [] σ 0 0
  | _ => False
section
variable {p : Program} {l : Launch} {e : Env} {s : State} {m : MethodId} {args : Array Value} {below : List Frame} {meth : Method} {c : Code} {G : zs_G} {Q : zs_Q}
theorem zr_Tr_takesPart_21 (B : zs_B p s m args meth c G bb_Tr_takesPart 2 yy_Tr_takesPart (some .boolean)) : zA_Tr_takesPart p l e s m args below meth c G Q 21 (zb_Tr_takesPart_21 Q) := by
  unfold zb_Tr_takesPart_21
  exact za_zrt B.1 0 0 B.2.1 B.2.2.1 dd_Tr_takesPart_21
theorem zr_Tr_takesPart_16 (B : zs_B p s m args meth c G bb_Tr_takesPart 2 yy_Tr_takesPart (some .boolean)) : zA_Tr_takesPart p l e s m args below meth c G Q 16 (zb_Tr_takesPart_16 Q) := by
  unfold zb_Tr_takesPart_16
  refine za_ico B.1 1 dd_Tr_takesPart_16 (by decide) ?_
  refine za_goto B.1 21 dd_Tr_takesPart_17 (by decide) ?_
  exact (zr_Tr_takesPart_21 B)
theorem zr_Tr_takesPart_20 (B : zs_B p s m args meth c G bb_Tr_takesPart 2 yy_Tr_takesPart (some .boolean)) : zA_Tr_takesPart p l e s m args below meth c G Q 20 (zb_Tr_takesPart_20 Q) := by
  unfold zb_Tr_takesPart_20
  refine za_ico B.1 0 dd_Tr_takesPart_20 (by decide) ?_
  exact (zr_Tr_takesPart_21 B)
theorem zr_Tr_takesPart_8 (B : zs_B p s m args meth c G bb_Tr_takesPart 2 yy_Tr_takesPart (some .boolean)) : zA_Tr_takesPart p l e s m args below meth c G Q 8 (zb_Tr_takesPart_8 Q) := by
  unfold zb_Tr_takesPart_8
  refine za_ald_n B.1 0 dd_Tr_takesPart_8 rfl ?_
  refine za_ild_n B.1 1 dd_Tr_takesPart_9 rfl ?_
  refine za_cV B.1 6 1 0 0 0 0 rfl rfl rfl (by decide) (zm_Tr_writes l G) ⟨callB_of 1 B.1.1.2.2.2.2 (zs_good zW_270) rfl rfl rfl (B.1.1.2.2.2.2 _ zW_9) (B.1.1.2.2.2.2 _ zW_357) (by decide +kernel) ⟨by decide, by decide⟩, (B.1.1.2.2.2.2 _ zW_268), (B.1.1.2.2.2.2 _ zW_269)⟩ dd_Tr_takesPart_10 ?_
  exact za_if_eq B.1 20 dd_Tr_takesPart_13 (by decide) (zr_Tr_takesPart_20 B) (zr_Tr_takesPart_16 B)
theorem zr_Tr_takesPart_0 (B : zs_B p s m args meth c G bb_Tr_takesPart 2 yy_Tr_takesPart (some .boolean)) : zA_Tr_takesPart p l e s m args below meth c G Q 0 (zb_Tr_takesPart_0 Q) := by
  unfold zb_Tr_takesPart_0
  refine za_ald_n B.1 0 dd_Tr_takesPart_0 rfl ?_
  refine za_ild_n B.1 1 dd_Tr_takesPart_1 rfl ?_
  refine za_cV B.1 6 1 0 0 0 0 rfl rfl rfl (by decide) (zm_Tr_reads l G) ⟨callB_of 1 B.1.1.2.2.2.2 (zs_good zW_278) rfl rfl rfl (B.1.1.2.2.2.2 _ zW_9) (B.1.1.2.2.2.2 _ zW_356) (by decide +kernel) ⟨by decide, by decide⟩, (B.1.1.2.2.2.2 _ zW_276), (B.1.1.2.2.2.2 _ zW_277)⟩ dd_Tr_takesPart_2 ?_
  exact za_if_ne B.1 16 dd_Tr_takesPart_5 (by decide) (zr_Tr_takesPart_8 B) (zr_Tr_takesPart_16 B)
end
theorem zm_Tr_takesPart (l : Launch) (G : zs_G) (As : List Value) (σ : zs_S) (Q : zs_Q) (h : zw_Tr_takesPart As σ Q) : zs_Met l yy_Tr_takesPart (Cond.code yy_Tr_takesPart bb_Tr_takesPart 2 (some .boolean) :: zw_all) zk_Tr_takesPart G As σ Q 0 0 := by
  unfold zw_Tr_takesPart at h
  split at h
  · exact zs_enter (by decide +kernel) h.1 (Nat.le_of_ble_eq_true rfl) h.2 (fun p e s m args below meth c B => zr_Tr_takesPart_0 B)
  · exact h.elim
-- SequencedBatches$Partition.take(LSequencedBatches$Transaction;)V
theorem dd_Pa_take_0 : decode bb_Pa_take 0 = .ok (.aload_n 0, 1) := by decide +kernel
theorem dd_Pa_take_1 : decode bb_Pa_take 1 = .ok (.dup, 1) := by decide +kernel
theorem dd_Pa_take_2 : decode bb_Pa_take 2 = .ok (.getfield 9, 3) := by decide +kernel
theorem dd_Pa_take_5 : decode bb_Pa_take 5 = .ok (.iconst 1, 1) := by decide +kernel
theorem dd_Pa_take_6 : decode bb_Pa_take 6 = .ok (.iadd, 1) := by decide +kernel
theorem dd_Pa_take_7 : decode bb_Pa_take 7 = .ok (.putfield 9, 3) := by decide +kernel
theorem dd_Pa_take_10 : decode bb_Pa_take 10 = .ok (.aload_n 1, 1) := by decide +kernel
theorem dd_Pa_take_11 : decode bb_Pa_take 11 = .ok (.aload_n 0, 1) := by decide +kernel
theorem dd_Pa_take_12 : decode bb_Pa_take 12 = .ok (.getfield 32, 3) := by decide +kernel
theorem dd_Pa_take_15 : decode bb_Pa_take 15 = .ok (.invokevirtual 35, 3) := by decide +kernel
theorem dd_Pa_take_18 : decode bb_Pa_take 18 = .ok (.ifCond .eq 33, 3) := by decide +kernel
theorem dd_Pa_take_21 : decode bb_Pa_take 21 = .ok (.aload_n 0, 1) := by decide +kernel
theorem dd_Pa_take_22 : decode bb_Pa_take 22 = .ok (.getfield 17, 3) := by decide +kernel
theorem dd_Pa_take_25 : decode bb_Pa_take 25 = .ok (.aload_n 0, 1) := by decide +kernel
theorem dd_Pa_take_26 : decode bb_Pa_take 26 = .ok (.getfield 25, 3) := by decide +kernel
theorem dd_Pa_take_29 : decode bb_Pa_take 29 = .ok (.aload_n 1, 1) := by decide +kernel
theorem dd_Pa_take_30 : decode bb_Pa_take 30 = .ok (.aastore, 1) := by decide +kernel
theorem dd_Pa_take_31 : decode bb_Pa_take 31 = .ok (.aload_n 0, 1) := by decide +kernel
theorem dd_Pa_take_32 : decode bb_Pa_take 32 = .ok (.getfield 21, 3) := by decide +kernel
theorem dd_Pa_take_35 : decode bb_Pa_take 35 = .ok (.aload_n 0, 1) := by decide +kernel
theorem dd_Pa_take_36 : decode bb_Pa_take 36 = .ok (.getfield 25, 3) := by decide +kernel
theorem dd_Pa_take_39 : decode bb_Pa_take 39 = .ok (.iconst 0, 1) := by decide +kernel
theorem dd_Pa_take_40 : decode bb_Pa_take 40 = .ok (.bastore, 1) := by decide +kernel
theorem dd_Pa_take_41 : decode bb_Pa_take 41 = .ok (.aload_n 0, 1) := by decide +kernel
theorem dd_Pa_take_42 : decode bb_Pa_take 42 = .ok (.dup, 1) := by decide +kernel
theorem dd_Pa_take_43 : decode bb_Pa_take 43 = .ok (.getfield 25, 3) := by decide +kernel
theorem dd_Pa_take_46 : decode bb_Pa_take 46 = .ok (.iconst 1, 1) := by decide +kernel
theorem dd_Pa_take_47 : decode bb_Pa_take 47 = .ok (.iadd, 1) := by decide +kernel
theorem dd_Pa_take_48 : decode bb_Pa_take 48 = .ok (.putfield 25, 3) := by decide +kernel
theorem dd_Pa_take_51 : decode bb_Pa_take 51 = .ok (.return_, 1) := by decide +kernel
def zk_Pa_take : Room := { frames := 2, cells := 0, slots := 0, locals := 42 }
abbrev zA_Pa_take (p : Program) (l : Launch) (e : Env) (s : State) (m : MethodId) (args : Array Value) (below : List Frame) (meth : Method) (c : Code) (G : zs_G) (Q : zs_Q) (pc : Nat) (P : zs_P) : Prop := zs_At p l e zk_Pa_take s m args below meth c (MQ below (zs_Qc G Q) args s 0 0 (fun q => zg_z G ≤ q)) G 2 pc P
def zb_Pa_take_51 (Q : zs_Q) : zs_P := zt_vrt 0 0 Q
def zb_Pa_take_21 (Q : zs_Q) : zs_P := zt_ald 0 (zt_gtR 1 2 (zt_ald 0 (zt_gtI 1 4 (zt_ald 1 (zt_ras 6 (zt_ald 0 (zt_gtR 1 3 (zt_ald 0 (zt_gtI 1 4 (zt_psh 0 (zt_zas (zt_ald 0 (zt_dup (zt_gtI 1 4 (zt_psh 1 (zt_bin (fun x y => x + y) (zt_ptI 1 4 ((zb_Pa_take_51 Q)))))))))))))))))))
def zb_Pa_take_0 (Q : zs_Q) : zs_P := zt_ald 0 (zt_dup (zt_gtI 1 1 (zt_psh 1 (zt_bin (fun x y => x + y) (zt_ptI 1 1 (zt_ald 1 (zt_ald 0 (zt_gtI 1 0 (zt_cav 6 zw_Tr_takesPart (1 + 1) 0 0 0 0 (zt_if (fun x => x = 0) (zb_Pa_take_51 Q) (zb_Pa_take_21 Q)))))))))))
def zw_Pa_take : zs_W := fun As σ Q => match As with
  | [a0, a1] => zs_c1 [a0, a1] = true ∧ zb_Pa_take_0 Q [some a0, some a1] [] σ 0 0
  | _ => False
section
variable {p : Program} {l : Launch} {e : Env} {s : State} {m : MethodId} {args : Array Value} {below : List Frame} {meth : Method} {c : Code} {G : zs_G} {Q : zs_Q}
theorem zr_Pa_take_51 (B : zs_B p s m args meth c G bb_Pa_take 2 yy_Pa_take none) : zA_Pa_take p l e s m args below meth c G Q 51 (zb_Pa_take_51 Q) := by
  unfold zb_Pa_take_51
  exact za_vrt B.1 0 0 B.2.1 B.2.2.1 dd_Pa_take_51
theorem zr_Pa_take_21 (B : zs_B p s m args meth c G bb_Pa_take 2 yy_Pa_take none) : zA_Pa_take p l e s m args below meth c G Q 21 (zb_Pa_take_21 Q) := by
  unfold zb_Pa_take_21
  refine za_ald_n B.1 0 dd_Pa_take_21 rfl ?_
  refine za_gtR B.1 1 2 zi_1 rfl (by decide) (by decide) rfl zW_74 rfl dd_Pa_take_22 ?_
  refine za_ald_n B.1 0 dd_Pa_take_25 rfl ?_
  refine za_gtI B.1 1 4 zi_1 rfl (by decide) (by decide) rfl zW_76 rfl dd_Pa_take_26 ?_
  refine za_ald_n B.1 1 dd_Pa_take_29 rfl ?_
  refine za_rast B.1 6 2 (by decide) rfl rfl dd_Pa_take_30 ?_
  refine za_ald_n B.1 0 dd_Pa_take_31 rfl ?_
  refine za_gtR B.1 1 3 zi_1 rfl (by decide) (by decide) rfl zW_75 rfl dd_Pa_take_32 ?_
  refine za_ald_n B.1 0 dd_Pa_take_35 rfl ?_
  refine za_gtI B.1 1 4 zi_1 rfl (by decide) (by decide) rfl zW_76 rfl dd_Pa_take_36 ?_
  refine za_ico B.1 0 dd_Pa_take_39 (by decide) ?_
  refine za_zast B.1 dd_Pa_take_40 ?_
  refine za_ald_n B.1 0 dd_Pa_take_41 rfl ?_
  refine za_dup B.1 dd_Pa_take_42 ?_
  refine za_gtI B.1 1 4 zi_1 rfl (by decide) (by decide) rfl zW_76 rfl dd_Pa_take_43 ?_
  refine za_ico B.1 1 dd_Pa_take_46 (by decide) ?_
  refine za_add B.1 dd_Pa_take_47 ?_
  refine za_ptI B.1 1 4 zi_1 zy_Pa zy_Pa_ok zn_Pa rfl (by decide) (by decide) rfl zW_76 rfl rfl rfl dd_Pa_take_48 ?_
  exact (zr_Pa_take_51 B)
theorem zr_Pa_take_0 (B : zs_B p s m args meth c G bb_Pa_take 2 yy_Pa_take none) : zA_Pa_take p l e s m args below meth c G Q 0 (zb_Pa_take_0 Q) := by
  unfold zb_Pa_take_0
  refine za_ald_n B.1 0 dd_Pa_take_0 rfl ?_
  refine za_dup B.1 dd_Pa_take_1 ?_
  refine za_gtI B.1 1 1 zi_1 rfl (by decide) (by decide) rfl zW_73 rfl dd_Pa_take_2 ?_
  refine za_ico B.1 1 dd_Pa_take_5 (by decide) ?_
  refine za_add B.1 dd_Pa_take_6 ?_
  refine za_ptI B.1 1 1 zi_1 zy_Pa zy_Pa_ok zn_Pa rfl (by decide) (by decide) rfl zW_73 rfl rfl rfl dd_Pa_take_7 ?_
  refine za_ald_n B.1 1 dd_Pa_take_10 rfl ?_
  refine za_ald_n B.1 0 dd_Pa_take_11 rfl ?_
  refine za_gtI B.1 1 0 zi_1 rfl (by decide) (by decide) rfl zW_72 rfl dd_Pa_take_12 ?_
  refine za_cV B.1 6 1 0 0 0 0 rfl rfl rfl (by decide) (zm_Tr_takesPart l G) ⟨callB_of 1 B.1.1.2.2.2.2 (zs_good zW_355) rfl rfl rfl (B.1.1.2.2.2.2 _ zW_9) (B.1.1.2.2.2.2 _ zW_352) (by decide +kernel) ⟨by decide, by decide⟩, (B.1.1.2.2.2.2 _ zW_353), (B.1.1.2.2.2.2 _ zW_354)⟩ dd_Pa_take_15 ?_
  exact za_if_eq B.1 51 dd_Pa_take_18 (by decide) (zr_Pa_take_51 B) (zr_Pa_take_21 B)
end
theorem zm_Pa_take (l : Launch) (G : zs_G) (As : List Value) (σ : zs_S) (Q : zs_Q) (h : zw_Pa_take As σ Q) : zs_Met l yy_Pa_take (Cond.code yy_Pa_take bb_Pa_take 2 none :: zw_all) zk_Pa_take G As σ Q 0 0 := by
  unfold zw_Pa_take at h
  split at h
  · exact zs_enter (by decide +kernel) h.1 (Nat.le_of_ble_eq_true rfl) h.2 (fun p e s m args below meth c B => zr_Pa_take_0 B)
  · exact h.elim
-- SequencedBatches$Replica.admitNext(I)I
theorem dd_Rp_admitNext_0 : decode bb_Rp_admitNext 0 = .ok (.aload_n 0, 1) := by decide +kernel
theorem dd_Rp_admitNext_1 : decode bb_Rp_admitNext 1 = .ok (.getfield 48, 3) := by decide +kernel
theorem dd_Rp_admitNext_4 : decode bb_Rp_admitNext 4 = .ok (.iload_n 1, 1) := by decide +kernel
theorem dd_Rp_admitNext_5 : decode bb_Rp_admitNext 5 = .ok (.aaload, 1) := by decide +kernel
theorem dd_Rp_admitNext_6 : decode bb_Rp_admitNext 6 = .ok (.getfield 79, 3) := by decide +kernel
theorem dd_Rp_admitNext_9 : decode bb_Rp_admitNext 9 = .ok (.istore_n 2, 1) := by decide +kernel
theorem dd_Rp_admitNext_10 : decode bb_Rp_admitNext 10 = .ok (.iload_n 2, 1) := by decide +kernel
theorem dd_Rp_admitNext_11 : decode bb_Rp_admitNext 11 = .ok (.aload_n 0, 1) := by decide +kernel
theorem dd_Rp_admitNext_12 : decode bb_Rp_admitNext 12 = .ok (.getfield 27, 3) := by decide +kernel
theorem dd_Rp_admitNext_15 : decode bb_Rp_admitNext 15 = .ok (.if_icmp .ge 15, 3) := by decide +kernel
theorem dd_Rp_admitNext_18 : decode bb_Rp_admitNext 18 = .ok (.aload_n 0, 1) := by decide +kernel
theorem dd_Rp_admitNext_19 : decode bb_Rp_admitNext 19 = .ok (.getfield 48, 3) := by decide +kernel
theorem dd_Rp_admitNext_22 : decode bb_Rp_admitNext 22 = .ok (.iload_n 1, 1) := by decide +kernel
theorem dd_Rp_admitNext_23 : decode bb_Rp_admitNext 23 = .ok (.aaload, 1) := by decide +kernel
theorem dd_Rp_admitNext_24 : decode bb_Rp_admitNext 24 = .ok (.invokevirtual 86, 3) := by decide +kernel
theorem dd_Rp_admitNext_27 : decode bb_Rp_admitNext 27 = .ok (.ifCond .eq 5, 3) := by decide +kernel
theorem dd_Rp_admitNext_30 : decode bb_Rp_admitNext 30 = .ok (.iconst (-1), 1) := by decide +kernel
theorem dd_Rp_admitNext_31 : decode bb_Rp_admitNext 31 = .ok (.ireturn, 1) := by decide +kernel
theorem dd_Rp_admitNext_32 : decode bb_Rp_admitNext 32 = .ok (.aload_n 0, 1) := by decide +kernel
theorem dd_Rp_admitNext_33 : decode bb_Rp_admitNext 33 = .ok (.getfield 48, 3) := by decide +kernel
theorem dd_Rp_admitNext_36 : decode bb_Rp_admitNext 36 = .ok (.iload_n 1, 1) := by decide +kernel
theorem dd_Rp_admitNext_37 : decode bb_Rp_admitNext 37 = .ok (.aaload, 1) := by decide +kernel
theorem dd_Rp_admitNext_38 : decode bb_Rp_admitNext 38 = .ok (.aload_n 0, 1) := by decide +kernel
theorem dd_Rp_admitNext_39 : decode bb_Rp_admitNext 39 = .ok (.getfield 23, 3) := by decide +kernel
theorem dd_Rp_admitNext_42 : decode bb_Rp_admitNext 42 = .ok (.iload_n 2, 1) := by decide +kernel
theorem dd_Rp_admitNext_43 : decode bb_Rp_admitNext 43 = .ok (.aaload, 1) := by decide +kernel
theorem dd_Rp_admitNext_44 : decode bb_Rp_admitNext 44 = .ok (.invokevirtual 90, 3) := by decide +kernel
theorem dd_Rp_admitNext_47 : decode bb_Rp_admitNext 47 = .ok (.aload_n 0, 1) := by decide +kernel
theorem dd_Rp_admitNext_48 : decode bb_Rp_admitNext 48 = .ok (.getfield 23, 3) := by decide +kernel
theorem dd_Rp_admitNext_51 : decode bb_Rp_admitNext 51 = .ok (.iload_n 2, 1) := by decide +kernel
theorem dd_Rp_admitNext_52 : decode bb_Rp_admitNext 52 = .ok (.aaload, 1) := by decide +kernel
theorem dd_Rp_admitNext_53 : decode bb_Rp_admitNext 53 = .ok (.getfield 66, 3) := by decide +kernel
theorem dd_Rp_admitNext_56 : decode bb_Rp_admitNext 56 = .ok (.ireturn, 1) := by decide +kernel
def zk_Rp_admitNext : Room := { frames := 3, cells := 0, slots := 0, locals := 63 }
abbrev zA_Rp_admitNext (p : Program) (l : Launch) (e : Env) (s : State) (m : MethodId) (args : Array Value) (below : List Frame) (meth : Method) (c : Code) (G : zs_G) (Q : zs_Q) (pc : Nat) (P : zs_P) : Prop := zs_At p l e zk_Rp_admitNext s m args below meth c (MQ below (zs_Qc G Q) args s 0 0 (fun q => zg_z G ≤ q)) G 3 pc P
def zb_Rp_admitNext_30 (Q : zs_Q) : zs_P := zt_psh (-1) (zt_irt 0 0 Q)
def zb_Rp_admitNext_32 (Q : zs_Q) : zs_P := zt_ald 0 (zt_gtR 3 7 (zt_ild 1 (zt_rld (110 + 1) (zt_ald 0 (zt_gtR 3 2 (zt_ild 2 (zt_rld (110 + 6) (zt_cav 1 zw_Pa_take (1 + 1) 0 0 0 0 (zt_ald 0 (zt_gtR 3 2 (zt_ild 2 (zt_rld (110 + 6) (zt_gtI 6 0 (zt_irt 0 0 Q))))))))))))))
def zb_Rp_admitNext_18 (Q : zs_Q) : zs_P := zt_ald 0 (zt_gtR 3 7 (zt_ild 1 (zt_rld (110 + 1) (zt_cav 1 zw_Pa_isFull (0 + 1) 0 0 0 0 (zt_if (fun x => x = 0) (zb_Rp_admitNext_32 Q) (zb_Rp_admitNext_30 Q))))))
def zb_Rp_admitNext_0 (Q : zs_Q) : zs_P := zt_ald 0 (zt_gtR 3 7 (zt_ild 1 (zt_rld (110 + 1) (zt_gtI 1 1 (zt_ist 2 (zt_ild 2 (zt_ald 0 (zt_gtI 3 3 (zt_cmp (fun x y => y ≤ x) (zb_Rp_admitNext_30 Q) (zb_Rp_admitNext_18 Q))))))))))
def zw_Rp_admitNext : zs_W := fun As σ Q => match As with
  | [a0, a1] => zs_c1 [a0, a1] = true ∧ zb_Rp_admitNext_0 Q [some a0, some a1, none] [] σ 0 0
  | _ => False
section
variable {p : Program} {l : Launch} {e : Env} {s : State} {m : MethodId} {args : Array Value} {below : List Frame} {meth : Method} {c : Code} {G : zs_G} {Q : zs_Q}
theorem zr_Rp_admitNext_30 (B : zs_B p s m args meth c G bb_Rp_admitNext 3 yy_Rp_admitNext (some .int)) : zA_Rp_admitNext p l e s m args below meth c G Q 30 (zb_Rp_admitNext_30 Q) := by
  unfold zb_Rp_admitNext_30
  refine za_ico B.1 (-1) dd_Rp_admitNext_30 (by decide) ?_
  exact za_irt B.1 0 0 B.2.1 B.2.2.1 dd_Rp_admitNext_31
theorem zr_Rp_admitNext_32 (B : zs_B p s m args meth c G bb_Rp_admitNext 3 yy_Rp_admitNext (some .int)) : zA_Rp_admitNext p l e s m args below meth c G Q 32 (zb_Rp_admitNext_32 Q) := by
  unfold zb_Rp_admitNext_32
  refine za_ald_n B.1 0 dd_Rp_admitNext_32 rfl ?_
  refine za_gtR B.1 3 7 zi_3 rfl (by decide) (by decide) rfl zW_85 rfl dd_Rp_admitNext_33 ?_
  refine za_ild_n B.1 1 dd_Rp_admitNext_36 rfl ?_
  refine za_rld B.1 1 7 rfl dd_Rp_admitNext_37 ?_
  refine za_ald_n B.1 0 dd_Rp_admitNext_38 rfl ?_
  refine za_gtR B.1 3 2 zi_3 rfl (by decide) (by decide) rfl zW_80 rfl dd_Rp_admitNext_39 ?_
  refine za_ild_n B.1 2 dd_Rp_admitNext_42 rfl ?_
  refine za_rld B.1 6 2 rfl dd_Rp_admitNext_43 ?_
  refine za_cV B.1 1 1 0 0 0 0 rfl rfl rfl (by decide) (zm_Pa_take l G) ⟨callB_of 1 B.1.1.2.2.2.2 (zs_good zW_351) rfl rfl rfl (B.1.1.2.2.2.2 _ zW_7) (B.1.1.2.2.2.2 _ zW_348) (by decide +kernel) ⟨by decide, by decide⟩, (B.1.1.2.2.2.2 _ zW_349), (B.1.1.2.2.2.2 _ zW_350)⟩ dd_Rp_admitNext_44 ?_
  refine za_ald_n B.1 0 dd_Rp_admitNext_47 rfl ?_
  refine za_gtR B.1 3 2 zi_3 rfl (by decide) (by decide) rfl zW_80 rfl dd_Rp_admitNext_48 ?_
  refine za_ild_n B.1 2 dd_Rp_admitNext_51 rfl ?_
  refine za_rld B.1 6 2 rfl dd_Rp_admitNext_52 ?_
  refine za_gtIN (host := "SequencedBatches") B.1 6 0 zi_6 rfl (by decide) (by decide) rfl (by decide +kernel) rfl dd_Rp_admitNext_53 ?_
  exact za_irt B.1 0 0 B.2.1 B.2.2.1 dd_Rp_admitNext_56
theorem zr_Rp_admitNext_18 (B : zs_B p s m args meth c G bb_Rp_admitNext 3 yy_Rp_admitNext (some .int)) : zA_Rp_admitNext p l e s m args below meth c G Q 18 (zb_Rp_admitNext_18 Q) := by
  unfold zb_Rp_admitNext_18
  refine za_ald_n B.1 0 dd_Rp_admitNext_18 rfl ?_
  refine za_gtR B.1 3 7 zi_3 rfl (by decide) (by decide) rfl zW_85 rfl dd_Rp_admitNext_19 ?_
  refine za_ild_n B.1 1 dd_Rp_admitNext_22 rfl ?_
  refine za_rld B.1 1 7 rfl dd_Rp_admitNext_23 ?_
  refine za_cV B.1 1 0 0 0 0 0 rfl rfl rfl (by decide) (zm_Pa_isFull l G) ⟨callB_of 0 B.1.1.2.2.2.2 (zs_good zW_347) rfl rfl rfl (B.1.1.2.2.2.2 _ zW_7) (B.1.1.2.2.2.2 _ zW_344) (by decide +kernel) ⟨by decide, by decide⟩, (B.1.1.2.2.2.2 _ zW_345), (B.1.1.2.2.2.2 _ zW_346)⟩ dd_Rp_admitNext_24 ?_
  exact za_if_eq B.1 32 dd_Rp_admitNext_27 (by decide) (zr_Rp_admitNext_32 B) (zr_Rp_admitNext_30 B)
theorem zr_Rp_admitNext_0 (B : zs_B p s m args meth c G bb_Rp_admitNext 3 yy_Rp_admitNext (some .int)) : zA_Rp_admitNext p l e s m args below meth c G Q 0 (zb_Rp_admitNext_0 Q) := by
  unfold zb_Rp_admitNext_0
  refine za_ald_n B.1 0 dd_Rp_admitNext_0 rfl ?_
  refine za_gtR B.1 3 7 zi_3 rfl (by decide) (by decide) rfl zW_85 rfl dd_Rp_admitNext_1 ?_
  refine za_ild_n B.1 1 dd_Rp_admitNext_4 rfl ?_
  refine za_rld B.1 1 7 rfl dd_Rp_admitNext_5 ?_
  refine za_gtIN (host := "SequencedBatches") B.1 1 1 zi_1 rfl (by decide) (by decide) rfl (by decide +kernel) rfl dd_Rp_admitNext_6 ?_
  refine za_ist_n B.1 2 dd_Rp_admitNext_9 rfl (by decide) ?_
  refine za_ild_n B.1 2 dd_Rp_admitNext_10 rfl ?_
  refine za_ald_n B.1 0 dd_Rp_admitNext_11 rfl ?_
  refine za_gtI B.1 3 3 zi_3 rfl (by decide) (by decide) rfl zW_81 rfl dd_Rp_admitNext_12 ?_
  exact za_cmp_ge B.1 30 dd_Rp_admitNext_15 (by decide) (zr_Rp_admitNext_30 B) (zr_Rp_admitNext_18 B)
end
theorem zm_Rp_admitNext (l : Launch) (G : zs_G) (As : List Value) (σ : zs_S) (Q : zs_Q) (h : zw_Rp_admitNext As σ Q) : zs_Met l yy_Rp_admitNext (Cond.code yy_Rp_admitNext bb_Rp_admitNext 3 (some .int) :: zw_all) zk_Rp_admitNext G As σ Q 0 0 := by
  unfold zw_Rp_admitNext at h
  split at h
  · exact zs_enter (by decide +kernel) h.1 (Nat.le_of_ble_eq_true rfl) h.2 (fun p e s m args below meth c B => zr_Rp_admitNext_0 B)
  · exact h.elim
-- SequencedBatches.admit_(II)I
theorem dd_SB_admit_0 : decode bb_SB_admit 0 = .ok (.aload_n 0, 1) := by decide +kernel
theorem dd_SB_admit_1 : decode bb_SB_admit 1 = .ok (.iload_n 1, 1) := by decide +kernel
theorem dd_SB_admit_2 : decode bb_SB_admit 2 = .ok (.iload_n 2, 1) := by decide +kernel
theorem dd_SB_admit_3 : decode bb_SB_admit 3 = .ok (.invokevirtual 163, 3) := by decide +kernel
theorem dd_SB_admit_6 : decode bb_SB_admit 6 = .ok (.ifCond .eq 16, 3) := by decide +kernel
theorem dd_SB_admit_9 : decode bb_SB_admit 9 = .ok (.aload_n 0, 1) := by decide +kernel
theorem dd_SB_admit_10 : decode bb_SB_admit 10 = .ok (.getfield 44, 3) := by decide +kernel
theorem dd_SB_admit_13 : decode bb_SB_admit 13 = .ok (.iload_n 1, 1) := by decide +kernel
theorem dd_SB_admit_14 : decode bb_SB_admit 14 = .ok (.aaload, 1) := by decide +kernel
theorem dd_SB_admit_15 : decode bb_SB_admit 15 = .ok (.iload_n 2, 1) := by decide +kernel
theorem dd_SB_admit_16 : decode bb_SB_admit 16 = .ok (.invokevirtual 167, 3) := by decide +kernel
theorem dd_SB_admit_19 : decode bb_SB_admit 19 = .ok (.goto 4, 3) := by decide +kernel
theorem dd_SB_admit_22 : decode bb_SB_admit 22 = .ok (.iconst (-1), 1) := by decide +kernel
theorem dd_SB_admit_23 : decode bb_SB_admit 23 = .ok (.ireturn, 1) := by decide +kernel
def zk_SB_admit : Room := { frames := 4, cells := 0, slots := 0, locals := 85 }
abbrev zA_SB_admit (p : Program) (l : Launch) (e : Env) (s : State) (m : MethodId) (args : Array Value) (below : List Frame) (meth : Method) (c : Code) (G : zs_G) (Q : zs_Q) (pc : Nat) (P : zs_P) : Prop := zs_At p l e zk_SB_admit s m args below meth c (MQ below (zs_Qc G Q) args s 0 0 (fun q => zg_z G ≤ q)) G 3 pc P
def zb_SB_admit_23 (Q : zs_Q) : zs_P := zt_irt 0 0 Q
def zb_SB_admit_22 (Q : zs_Q) : zs_P := zt_psh (-1) ((zb_SB_admit_23 Q))
def zb_SB_admit_9 (Q : zs_Q) : zs_P := zt_ald 0 (zt_gtR 7 7 (zt_ild 1 (zt_rld (110 + 3) (zt_ild 2 (zt_cav 3 zw_Rp_admitNext (1 + 1) 0 0 0 0 ((zb_SB_admit_23 Q)))))))
def zb_SB_admit_0 (Q : zs_Q) : zs_P := zt_ald 0 (zt_ild 1 (zt_ild 2 (zt_cav 7 zw_SB_partitionIsUp (2 + 1) 0 0 0 0 (zt_if (fun x => x = 0) (zb_SB_admit_22 Q) (zb_SB_admit_9 Q)))))
def zw_SB_admit : zs_W := fun As σ Q => match As with
  | [a0, a1, a2] => zs_c1 [a0, a1, a2] = true ∧ zb_SB_admit_0 Q [some a0, some a1, some a2] [] σ 0 0
  | _ => False
section
variable {p : Program} {l : Launch} {e : Env} {s : State} {m : MethodId} {args : Array Value} {below : List Frame} {meth : Method} {c : Code} {G : zs_G} {Q : zs_Q}
theorem zr_SB_admit_23 (B : zs_B p s m args meth c G bb_SB_admit 3 yy_SB_admit (some .int)) : zA_SB_admit p l e s m args below meth c G Q 23 (zb_SB_admit_23 Q) := by
  unfold zb_SB_admit_23
  exact za_irt B.1 0 0 B.2.1 B.2.2.1 dd_SB_admit_23
theorem zr_SB_admit_22 (B : zs_B p s m args meth c G bb_SB_admit 3 yy_SB_admit (some .int)) : zA_SB_admit p l e s m args below meth c G Q 22 (zb_SB_admit_22 Q) := by
  unfold zb_SB_admit_22
  refine za_ico B.1 (-1) dd_SB_admit_22 (by decide) ?_
  exact (zr_SB_admit_23 B)
theorem zr_SB_admit_9 (B : zs_B p s m args meth c G bb_SB_admit 3 yy_SB_admit (some .int)) : zA_SB_admit p l e s m args below meth c G Q 9 (zb_SB_admit_9 Q) := by
  unfold zb_SB_admit_9
  refine za_ald_n B.1 0 dd_SB_admit_9 rfl ?_
  refine za_gtR B.1 7 7 zi_7 rfl (by decide) (by decide) rfl zW_95 rfl dd_SB_admit_10 ?_
  refine za_ild_n B.1 1 dd_SB_admit_13 rfl ?_
  refine za_rld B.1 3 5 rfl dd_SB_admit_14 ?_
  refine za_ild_n B.1 2 dd_SB_admit_15 rfl ?_
  refine za_cV B.1 3 1 0 0 0 0 rfl rfl rfl (by decide) (zm_Rp_admitNext l G) ⟨callB_of 1 B.1.1.2.2.2.2 (zs_good zW_343) rfl rfl rfl (B.1.1.2.2.2.2 _ zW_6) (B.1.1.2.2.2.2 _ zW_340) (by decide +kernel) ⟨by decide, by decide⟩, (B.1.1.2.2.2.2 _ zW_341), (B.1.1.2.2.2.2 _ zW_342)⟩ dd_SB_admit_16 ?_
  refine za_goto B.1 23 dd_SB_admit_19 (by decide) ?_
  exact (zr_SB_admit_23 B)
theorem zr_SB_admit_0 (B : zs_B p s m args meth c G bb_SB_admit 3 yy_SB_admit (some .int)) : zA_SB_admit p l e s m args below meth c G Q 0 (zb_SB_admit_0 Q) := by
  unfold zb_SB_admit_0
  refine za_ald_n B.1 0 dd_SB_admit_0 rfl ?_
  refine za_ild_n B.1 1 dd_SB_admit_1 rfl ?_
  refine za_ild_n B.1 2 dd_SB_admit_2 rfl ?_
  refine za_cV B.1 7 2 0 0 0 0 rfl rfl rfl (by decide) (zm_SB_partitionIsUp l G) ⟨callB_of 2 B.1.1.2.2.2.2 (zs_good zW_339) rfl rfl rfl (B.1.1.2.2.2.2 _ zW_1) (B.1.1.2.2.2.2 _ zW_337) (by decide +kernel) ⟨by decide, by decide⟩, (B.1.1.2.2.2.2 _ zW_338), (B.1.1.2.2.2.2 _ zW_672)⟩ dd_SB_admit_3 ?_
  exact za_if_eq B.1 22 dd_SB_admit_6 (by decide) (zr_SB_admit_22 B) (zr_SB_admit_9 B)
end
theorem zm_SB_admit (l : Launch) (G : zs_G) (As : List Value) (σ : zs_S) (Q : zs_Q) (h : zw_SB_admit As σ Q) : zs_Met l yy_SB_admit (Cond.code yy_SB_admit bb_SB_admit 3 (some .int) :: zw_all) zk_SB_admit G As σ Q 0 0 := by
  unfold zw_SB_admit at h
  split at h
  · exact zs_enter (by decide +kernel) h.1 (Nat.le_of_ble_eq_true rfl) h.2 (fun p e s m args below meth c B => zr_SB_admit_0 B)
  · exact h.elim
-- SequencedBatches$Transaction.excludes(LSequencedBatches$Transaction;I)Z
theorem dd_Tr_excludes_0 : decode bb_Tr_excludes 0 = .ok (.aload_n 0, 1) := by decide +kernel
theorem dd_Tr_excludes_1 : decode bb_Tr_excludes 1 = .ok (.iload_n 2, 1) := by decide +kernel
theorem dd_Tr_excludes_2 : decode bb_Tr_excludes 2 = .ok (.aload_n 1, 1) := by decide +kernel
theorem dd_Tr_excludes_3 : decode bb_Tr_excludes 3 = .ok (.getfield 37, 3) := by decide +kernel
theorem dd_Tr_excludes_6 : decode bb_Tr_excludes 6 = .ok (.aload_n 1, 1) := by decide +kernel
theorem dd_Tr_excludes_7 : decode bb_Tr_excludes 7 = .ok (.getfield 44, 3) := by decide +kernel
theorem dd_Tr_excludes_10 : decode bb_Tr_excludes 10 = .ok (.ior, 1) := by decide +kernel
theorem dd_Tr_excludes_11 : decode bb_Tr_excludes 11 = .ok (.iand, 1) := by decide +kernel
theorem dd_Tr_excludes_12 : decode bb_Tr_excludes 12 = .ok (.invokevirtual 55, 3) := by decide +kernel
theorem dd_Tr_excludes_15 : decode bb_Tr_excludes 15 = .ok (.ifCond .ne 16, 3) := by decide +kernel
theorem dd_Tr_excludes_18 : decode bb_Tr_excludes 18 = .ok (.aload_n 0, 1) := by decide +kernel
theorem dd_Tr_excludes_19 : decode bb_Tr_excludes 19 = .ok (.iload_n 2, 1) := by decide +kernel
theorem dd_Tr_excludes_20 : decode bb_Tr_excludes 20 = .ok (.aload_n 1, 1) := by decide +kernel
theorem dd_Tr_excludes_21 : decode bb_Tr_excludes 21 = .ok (.getfield 44, 3) := by decide +kernel
theorem dd_Tr_excludes_24 : decode bb_Tr_excludes 24 = .ok (.iand, 1) := by decide +kernel
theorem dd_Tr_excludes_25 : decode bb_Tr_excludes 25 = .ok (.invokevirtual 52, 3) := by decide +kernel
theorem dd_Tr_excludes_28 : decode bb_Tr_excludes 28 = .ok (.ifCond .eq 7, 3) := by decide +kernel
theorem dd_Tr_excludes_31 : decode bb_Tr_excludes 31 = .ok (.iconst 1, 1) := by decide +kernel
theorem dd_Tr_excludes_32 : decode bb_Tr_excludes 32 = .ok (.goto 4, 3) := by decide +kernel
theorem dd_Tr_excludes_35 : decode bb_Tr_excludes 35 = .ok (.iconst 0, 1) := by decide +kernel
theorem dd_Tr_excludes_36 : decode bb_Tr_excludes 36 = .ok (.ireturn, 1) := by decide +kernel
def zk_Tr_excludes : Room := { frames := 1, cells := 0, slots := 0, locals := 21 }
abbrev zA_Tr_excludes (p : Program) (l : Launch) (e : Env) (s : State) (m : MethodId) (args : Array Value) (below : List Frame) (meth : Method) (c : Code) (G : zs_G) (Q : zs_Q) (pc : Nat) (P : zs_P) : Prop := zs_At p l e zk_Tr_excludes s m args below meth c (MQ below (zs_Qc G Q) args s 0 0 (fun q => zg_z G ≤ q)) G 3 pc P
def zb_Tr_excludes_36 (Q : zs_Q) : zs_P := zt_zrt 0 0 Q
def zb_Tr_excludes_31 (Q : zs_Q) : zs_P := zt_psh 1 ((zb_Tr_excludes_36 Q))
def zb_Tr_excludes_35 (Q : zs_Q) : zs_P := zt_psh 0 ((zb_Tr_excludes_36 Q))
def zb_Tr_excludes_18 (Q : zs_Q) : zs_P := zt_ald 0 (zt_ild 2 (zt_ald 1 (zt_gtI 6 6 (zt_bin (fun x y => x &&& y) (zt_cav 6 zw_Tr_reads (1 + 1) 0 0 0 0 (zt_if (fun x => x = 0) (zb_Tr_excludes_35 Q) (zb_Tr_excludes_31 Q)))))))
def zb_Tr_excludes_0 (Q : zs_Q) : zs_P := zt_ald 0 (zt_ild 2 (zt_ald 1 (zt_gtI 6 5 (zt_ald 1 (zt_gtI 6 6 (zt_bin (fun x y => x ||| y) (zt_bin (fun x y => x &&& y) (zt_cav 6 zw_Tr_writes (1 + 1) 0 0 0 0 (zt_if (fun x => x = 0) (zb_Tr_excludes_18 Q) (zb_Tr_excludes_31 Q))))))))))
def zw_Tr_excludes : zs_W := fun As σ Q => match As with
  | [a0, a1, a2] => zs_c1 [a0, a1, a2] = true ∧ zb_Tr_excludes_0 Q [some a0, some a1, some a2] [] σ 0 0
  | _ => False
section
variable {p : Program} {l : Launch} {e : Env} {s : State} {m : MethodId} {args : Array Value} {below : List Frame} {meth : Method} {c : Code} {G : zs_G} {Q : zs_Q}
theorem zr_Tr_excludes_36 (B : zs_B p s m args meth c G bb_Tr_excludes 3 yy_Tr_excludes (some .boolean)) : zA_Tr_excludes p l e s m args below meth c G Q 36 (zb_Tr_excludes_36 Q) := by
  unfold zb_Tr_excludes_36
  exact za_zrt B.1 0 0 B.2.1 B.2.2.1 dd_Tr_excludes_36
theorem zr_Tr_excludes_31 (B : zs_B p s m args meth c G bb_Tr_excludes 3 yy_Tr_excludes (some .boolean)) : zA_Tr_excludes p l e s m args below meth c G Q 31 (zb_Tr_excludes_31 Q) := by
  unfold zb_Tr_excludes_31
  refine za_ico B.1 1 dd_Tr_excludes_31 (by decide) ?_
  refine za_goto B.1 36 dd_Tr_excludes_32 (by decide) ?_
  exact (zr_Tr_excludes_36 B)
theorem zr_Tr_excludes_35 (B : zs_B p s m args meth c G bb_Tr_excludes 3 yy_Tr_excludes (some .boolean)) : zA_Tr_excludes p l e s m args below meth c G Q 35 (zb_Tr_excludes_35 Q) := by
  unfold zb_Tr_excludes_35
  refine za_ico B.1 0 dd_Tr_excludes_35 (by decide) ?_
  exact (zr_Tr_excludes_36 B)
theorem zr_Tr_excludes_18 (B : zs_B p s m args meth c G bb_Tr_excludes 3 yy_Tr_excludes (some .boolean)) : zA_Tr_excludes p l e s m args below meth c G Q 18 (zb_Tr_excludes_18 Q) := by
  unfold zb_Tr_excludes_18
  refine za_ald_n B.1 0 dd_Tr_excludes_18 rfl ?_
  refine za_ild_n B.1 2 dd_Tr_excludes_19 rfl ?_
  refine za_ald_n B.1 1 dd_Tr_excludes_20 rfl ?_
  refine za_gtI B.1 6 6 zi_6 rfl (by decide) (by decide) rfl zW_129 rfl dd_Tr_excludes_21 ?_
  refine za_and B.1 dd_Tr_excludes_24 ?_
  refine za_cV B.1 6 1 0 0 0 0 rfl rfl rfl (by decide) (zm_Tr_reads l G) ⟨callB_of 1 B.1.1.2.2.2.2 (zs_good zW_278) rfl rfl rfl (B.1.1.2.2.2.2 _ zW_9) (B.1.1.2.2.2.2 _ zW_356) (by decide +kernel) ⟨by decide, by decide⟩, (B.1.1.2.2.2.2 _ zW_276), (B.1.1.2.2.2.2 _ zW_277)⟩ dd_Tr_excludes_25 ?_
  exact za_if_eq B.1 35 dd_Tr_excludes_28 (by decide) (zr_Tr_excludes_35 B) (zr_Tr_excludes_31 B)
theorem zr_Tr_excludes_0 (B : zs_B p s m args meth c G bb_Tr_excludes 3 yy_Tr_excludes (some .boolean)) : zA_Tr_excludes p l e s m args below meth c G Q 0 (zb_Tr_excludes_0 Q) := by
  unfold zb_Tr_excludes_0
  refine za_ald_n B.1 0 dd_Tr_excludes_0 rfl ?_
  refine za_ild_n B.1 2 dd_Tr_excludes_1 rfl ?_
  refine za_ald_n B.1 1 dd_Tr_excludes_2 rfl ?_
  refine za_gtI B.1 6 5 zi_6 rfl (by decide) (by decide) rfl zW_128 rfl dd_Tr_excludes_3 ?_
  refine za_ald_n B.1 1 dd_Tr_excludes_6 rfl ?_
  refine za_gtI B.1 6 6 zi_6 rfl (by decide) (by decide) rfl zW_129 rfl dd_Tr_excludes_7 ?_
  refine za_ior B.1 dd_Tr_excludes_10 ?_
  refine za_and B.1 dd_Tr_excludes_11 ?_
  refine za_cV B.1 6 1 0 0 0 0 rfl rfl rfl (by decide) (zm_Tr_writes l G) ⟨callB_of 1 B.1.1.2.2.2.2 (zs_good zW_270) rfl rfl rfl (B.1.1.2.2.2.2 _ zW_9) (B.1.1.2.2.2.2 _ zW_357) (by decide +kernel) ⟨by decide, by decide⟩, (B.1.1.2.2.2.2 _ zW_268), (B.1.1.2.2.2.2 _ zW_269)⟩ dd_Tr_excludes_12 ?_
  exact za_if_ne B.1 31 dd_Tr_excludes_15 (by decide) (zr_Tr_excludes_18 B) (zr_Tr_excludes_31 B)
end
theorem zm_Tr_excludes (l : Launch) (G : zs_G) (As : List Value) (σ : zs_S) (Q : zs_Q) (h : zw_Tr_excludes As σ Q) : zs_Met l yy_Tr_excludes (Cond.code yy_Tr_excludes bb_Tr_excludes 3 (some .boolean) :: zw_all) zk_Tr_excludes G As σ Q 0 0 := by
  unfold zw_Tr_excludes at h
  split at h
  · exact zs_enter (by decide +kernel) h.1 (Nat.le_of_ble_eq_true rfl) h.2 (fun p e s m args below meth c B => zr_Tr_excludes_0 B)
  · exact h.elim
-- SequencedBatches$Partition.isReady(I)Z
theorem dd_Pa_isReady_0 : decode bb_Pa_isReady 0 = .ok (.aload_n 0, 1) := by decide +kernel
theorem dd_Pa_isReady_1 : decode bb_Pa_isReady 1 = .ok (.getfield 21, 3) := by decide +kernel
theorem dd_Pa_isReady_4 : decode bb_Pa_isReady 4 = .ok (.iload_n 1, 1) := by decide +kernel
theorem dd_Pa_isReady_5 : decode bb_Pa_isReady 5 = .ok (.baload, 1) := by decide +kernel
theorem dd_Pa_isReady_6 : decode bb_Pa_isReady 6 = .ok (.ifCond .eq 5, 3) := by decide +kernel
theorem dd_Pa_isReady_9 : decode bb_Pa_isReady 9 = .ok (.iconst 0, 1) := by decide +kernel
theorem dd_Pa_isReady_10 : decode bb_Pa_isReady 10 = .ok (.ireturn, 1) := by decide +kernel
theorem dd_Pa_isReady_11 : decode bb_Pa_isReady 11 = .ok (.iconst 0, 1) := by decide +kernel
theorem dd_Pa_isReady_12 : decode bb_Pa_isReady 12 = .ok (.istore_n 2, 1) := by decide +kernel
theorem dd_Pa_isReady_13 : decode bb_Pa_isReady 13 = .ok (.iload_n 2, 1) := by decide +kernel
theorem dd_Pa_isReady_14 : decode bb_Pa_isReady 14 = .ok (.iload_n 1, 1) := by decide +kernel
theorem dd_Pa_isReady_15 : decode bb_Pa_isReady 15 = .ok (.if_icmp .ge 33, 3) := by decide +kernel
theorem dd_Pa_isReady_18 : decode bb_Pa_isReady 18 = .ok (.aload_n 0, 1) := by decide +kernel
theorem dd_Pa_isReady_19 : decode bb_Pa_isReady 19 = .ok (.getfield 17, 3) := by decide +kernel
theorem dd_Pa_isReady_22 : decode bb_Pa_isReady 22 = .ok (.iload_n 2, 1) := by decide +kernel
theorem dd_Pa_isReady_23 : decode bb_Pa_isReady 23 = .ok (.aaload, 1) := by decide +kernel
theorem dd_Pa_isReady_24 : decode bb_Pa_isReady 24 = .ok (.aload_n 0, 1) := by decide +kernel
theorem dd_Pa_isReady_25 : decode bb_Pa_isReady 25 = .ok (.getfield 17, 3) := by decide +kernel
theorem dd_Pa_isReady_28 : decode bb_Pa_isReady 28 = .ok (.iload_n 1, 1) := by decide +kernel
theorem dd_Pa_isReady_29 : decode bb_Pa_isReady 29 = .ok (.aaload, 1) := by decide +kernel
theorem dd_Pa_isReady_30 : decode bb_Pa_isReady 30 = .ok (.aload_n 0, 1) := by decide +kernel
theorem dd_Pa_isReady_31 : decode bb_Pa_isReady 31 = .ok (.getfield 32, 3) := by decide +kernel
theorem dd_Pa_isReady_34 : decode bb_Pa_isReady 34 = .ok (.invokevirtual 45, 3) := by decide +kernel
theorem dd_Pa_isReady_37 : decode bb_Pa_isReady 37 = .ok (.ifCond .eq 5, 3) := by decide +kernel
theorem dd_Pa_isReady_40 : decode bb_Pa_isReady 40 = .ok (.iconst 0, 1) := by decide +kernel
theorem dd_Pa_isReady_41 : decode bb_Pa_isReady 41 = .ok (.ireturn, 1) := by decide +kernel
theorem dd_Pa_isReady_42 : decode bb_Pa_isReady 42 = .ok (.iinc 2 1, 3) := by decide +kernel
theorem dd_Pa_isReady_45 : decode bb_Pa_isReady 45 = .ok (.goto (-32), 3) := by decide +kernel
theorem dd_Pa_isReady_48 : decode bb_Pa_isReady 48 = .ok (.iconst 1, 1) := by decide +kernel
theorem dd_Pa_isReady_49 : decode bb_Pa_isReady 49 = .ok (.ireturn, 1) := by decide +kernel
def zk_Pa_isReady : Room := { frames := 2, cells := 0, slots := 0, locals := 43 }
abbrev zA_Pa_isReady (p : Program) (l : Launch) (e : Env) (s : State) (m : MethodId) (args : Array Value) (below : List Frame) (meth : Method) (c : Code) (G : zs_G) (Q : zs_Q) (pc : Nat) (P : zs_P) : Prop := zs_At p l e zk_Pa_isReady s m args below meth c (MQ below (zs_Qc G Q) args s 0 0 (fun q => zg_z G ≤ q)) G 3 pc P
def zb_Pa_isReady_48 (Q : zs_Q) : zs_P := zt_psh 1 (zt_zrt 0 0 Q)
def zb_Pa_isReady_42 (Q : zs_Q) (K13 : zs_P) : zs_P := zt_inc 2 1 (K13)
def zb_Pa_isReady_40 (Q : zs_Q) : zs_P := zt_psh 0 (zt_zrt 0 0 Q)
def zb_Pa_isReady_18 (Q : zs_Q) (K13 : zs_P) : zs_P := zt_ald 0 (zt_gtR 1 2 (zt_ild 2 (zt_rld (110 + 6) (zt_ald 0 (zt_gtR 1 2 (zt_ild 1 (zt_rld (110 + 6) (zt_ald 0 (zt_gtI 1 0 (zt_cav 6 zw_Tr_excludes (2 + 1) 0 0 0 0 (zt_if (fun x => x = 0) (zb_Pa_isReady_42 Q K13) (zb_Pa_isReady_40 Q))))))))))))
def zb_Pa_isReady_13 (Q : zs_Q) (K13 : zs_P) : zs_P := zt_ild 2 (zt_ild 1 (zt_cmp (fun x y => y ≤ x) (zb_Pa_isReady_48 Q) (zb_Pa_isReady_18 Q K13)))
def zl_Pa_isReady_13 (Q : zs_Q) : zs_P := zt_ex (zb_Pa_isReady_13 Q)
def zb_Pa_isReady_11 (Q : zs_Q) : zs_P := zt_psh 0 (zt_ist 2 ((zl_Pa_isReady_13 Q)))
def zb_Pa_isReady_9 (Q : zs_Q) : zs_P := zt_psh 0 (zt_zrt 0 0 Q)
def zb_Pa_isReady_0 (Q : zs_Q) : zs_P := zt_ald 0 (zt_gtR 1 3 (zt_ild 1 (zt_xld 101 (zt_if (fun x => x = 0) (zb_Pa_isReady_11 Q) (zb_Pa_isReady_9 Q)))))
def zw_Pa_isReady : zs_W := fun As σ Q => match As with
  | [a0, a1] => zs_c1 [a0, a1] = true ∧ zb_Pa_isReady_0 Q [some a0, some a1, none] [] σ 0 0
  | _ => False
section
variable {p : Program} {l : Launch} {e : Env} {s : State} {m : MethodId} {args : Array Value} {below : List Frame} {meth : Method} {c : Code} {G : zs_G} {Q : zs_Q}
theorem zr_Pa_isReady_48 (B : zs_B p s m args meth c G bb_Pa_isReady 3 yy_Pa_isReady (some .boolean)) : zA_Pa_isReady p l e s m args below meth c G Q 48 (zb_Pa_isReady_48 Q) := by
  unfold zb_Pa_isReady_48
  refine za_ico B.1 1 dd_Pa_isReady_48 (by decide) ?_
  exact za_zrt B.1 0 0 B.2.1 B.2.2.1 dd_Pa_isReady_49
theorem zr_Pa_isReady_42 (B : zs_B p s m args meth c G bb_Pa_isReady 3 yy_Pa_isReady (some .boolean)) {K13 : zs_P} (h13 : zA_Pa_isReady p l e s m args below meth c G Q 13 K13) : zA_Pa_isReady p l e s m args below meth c G Q 42 (zb_Pa_isReady_42 Q K13) := by
  unfold zb_Pa_isReady_42
  refine za_inc B.1 1 dd_Pa_isReady_42 (by decide) (by decide) ?_
  refine za_goto B.1 13 dd_Pa_isReady_45 (by decide) ?_
  exact h13
theorem zr_Pa_isReady_40 (B : zs_B p s m args meth c G bb_Pa_isReady 3 yy_Pa_isReady (some .boolean)) : zA_Pa_isReady p l e s m args below meth c G Q 40 (zb_Pa_isReady_40 Q) := by
  unfold zb_Pa_isReady_40
  refine za_ico B.1 0 dd_Pa_isReady_40 (by decide) ?_
  exact za_zrt B.1 0 0 B.2.1 B.2.2.1 dd_Pa_isReady_41
theorem zr_Pa_isReady_18 (B : zs_B p s m args meth c G bb_Pa_isReady 3 yy_Pa_isReady (some .boolean)) {K13 : zs_P} (h13 : zA_Pa_isReady p l e s m args below meth c G Q 13 K13) : zA_Pa_isReady p l e s m args below meth c G Q 18 (zb_Pa_isReady_18 Q K13) := by
  unfold zb_Pa_isReady_18
  refine za_ald_n B.1 0 dd_Pa_isReady_18 rfl ?_
  refine za_gtR B.1 1 2 zi_1 rfl (by decide) (by decide) rfl zW_74 rfl dd_Pa_isReady_19 ?_
  refine za_ild_n B.1 2 dd_Pa_isReady_22 rfl ?_
  refine za_rld B.1 6 2 rfl dd_Pa_isReady_23 ?_
  refine za_ald_n B.1 0 dd_Pa_isReady_24 rfl ?_
  refine za_gtR B.1 1 2 zi_1 rfl (by decide) (by decide) rfl zW_74 rfl dd_Pa_isReady_25 ?_
  refine za_ild_n B.1 1 dd_Pa_isReady_28 rfl ?_
  refine za_rld B.1 6 2 rfl dd_Pa_isReady_29 ?_
  refine za_ald_n B.1 0 dd_Pa_isReady_30 rfl ?_
  refine za_gtI B.1 1 0 zi_1 rfl (by decide) (by decide) rfl zW_72 rfl dd_Pa_isReady_31 ?_
  refine za_cV B.1 6 2 0 0 0 0 rfl rfl rfl (by decide) (zm_Tr_excludes l G) ⟨callB_of 2 B.1.1.2.2.2.2 (zs_good zW_376) rfl rfl rfl (B.1.1.2.2.2.2 _ zW_9) (B.1.1.2.2.2.2 _ zW_373) (by decide +kernel) ⟨by decide, by decide⟩, (B.1.1.2.2.2.2 _ zW_374), (B.1.1.2.2.2.2 _ zW_375)⟩ dd_Pa_isReady_34 ?_
  exact za_if_eq B.1 42 dd_Pa_isReady_37 (by decide) (zr_Pa_isReady_42 B h13) (zr_Pa_isReady_40 B)
theorem zr_Pa_isReady_13 (B : zs_B p s m args meth c G bb_Pa_isReady 3 yy_Pa_isReady (some .boolean)) {K13 : zs_P} (h13 : zA_Pa_isReady p l e s m args below meth c G Q 13 K13) : zA_Pa_isReady p l e s m args below meth c G Q 13 (zb_Pa_isReady_13 Q K13) := by
  unfold zb_Pa_isReady_13
  refine za_ild_n B.1 2 dd_Pa_isReady_13 rfl ?_
  refine za_ild_n B.1 1 dd_Pa_isReady_14 rfl ?_
  exact za_cmp_ge B.1 48 dd_Pa_isReady_15 (by decide) (zr_Pa_isReady_48 B) (zr_Pa_isReady_18 B h13)
theorem zq_Pa_isReady_13 (B : zs_B p s m args meth c G bb_Pa_isReady 3 yy_Pa_isReady (some .boolean)) : zA_Pa_isReady p l e s m args below meth c G Q 13 (zl_Pa_isReady_13 Q) := za_lop (fun K hK => zr_Pa_isReady_13 B hK)
theorem zr_Pa_isReady_11 (B : zs_B p s m args meth c G bb_Pa_isReady 3 yy_Pa_isReady (some .boolean)) : zA_Pa_isReady p l e s m args below meth c G Q 11 (zb_Pa_isReady_11 Q) := by
  unfold zb_Pa_isReady_11
  refine za_ico B.1 0 dd_Pa_isReady_11 (by decide) ?_
  refine za_ist_n B.1 2 dd_Pa_isReady_12 rfl (by decide) ?_
  exact (zq_Pa_isReady_13 B)
theorem zr_Pa_isReady_9 (B : zs_B p s m args meth c G bb_Pa_isReady 3 yy_Pa_isReady (some .boolean)) : zA_Pa_isReady p l e s m args below meth c G Q 9 (zb_Pa_isReady_9 Q) := by
  unfold zb_Pa_isReady_9
  refine za_ico B.1 0 dd_Pa_isReady_9 (by decide) ?_
  exact za_zrt B.1 0 0 B.2.1 B.2.2.1 dd_Pa_isReady_10
theorem zr_Pa_isReady_0 (B : zs_B p s m args meth c G bb_Pa_isReady 3 yy_Pa_isReady (some .boolean)) : zA_Pa_isReady p l e s m args below meth c G Q 0 (zb_Pa_isReady_0 Q) := by
  unfold zb_Pa_isReady_0
  refine za_ald_n B.1 0 dd_Pa_isReady_0 rfl ?_
  refine za_gtR B.1 1 3 zi_1 rfl (by decide) (by decide) rfl zW_75 rfl dd_Pa_isReady_1 ?_
  refine za_ild_n B.1 1 dd_Pa_isReady_4 rfl ?_
  refine za_zald B.1 dd_Pa_isReady_5 ?_
  exact za_if_eq B.1 11 dd_Pa_isReady_6 (by decide) (zr_Pa_isReady_11 B) (zr_Pa_isReady_9 B)
end
theorem zm_Pa_isReady (l : Launch) (G : zs_G) (As : List Value) (σ : zs_S) (Q : zs_Q) (h : zw_Pa_isReady As σ Q) : zs_Met l yy_Pa_isReady (Cond.code yy_Pa_isReady bb_Pa_isReady 3 (some .boolean) :: zw_all) zk_Pa_isReady G As σ Q 0 0 := by
  unfold zw_Pa_isReady at h
  split at h
  · exact zs_enter (by decide +kernel) h.1 (Nat.le_of_ble_eq_true rfl) h.2 (fun p e s m args below meth c B => zr_Pa_isReady_0 B)
  · exact h.elim
