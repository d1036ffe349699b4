/-! Methods: SB_closedArrives, Pa_indexOfNumber, Tr_writes, Pa_finish, Tr_reads, Tr_newValue, Rp_write, Rp_finishIfComplete, Rp_receiveValues, SB_valuesArrive (made by program) -/
-- SequencedBatches.closedArrives(I)V
theorem dd_SB_closedArrives_0 : decode bb_SB_closedArrives 0 = .ok (.iload_n 1, 1) := by decide +kernel
theorem dd_SB_closedArrives_1 : decode bb_SB_closedArrives 1 = .ok (.invokestatic 248, 3) := by decide +kernel
theorem dd_SB_closedArrives_4 : decode bb_SB_closedArrives 4 = .ok (.istore_n 2, 1) := by decide +kernel
theorem dd_SB_closedArrives_5 : decode bb_SB_closedArrives 5 = .ok (.iload_n 1, 1) := by decide +kernel
theorem dd_SB_closedArrives_6 : decode bb_SB_closedArrives 6 = .ok (.invokestatic 251, 3) := by decide +kernel
theorem dd_SB_closedArrives_9 : decode bb_SB_closedArrives 9 = .ok (.istore_n 3, 1) := by decide +kernel
theorem dd_SB_closedArrives_10 : decode bb_SB_closedArrives 10 = .ok (.iload_n 1, 1) := by decide +kernel
theorem dd_SB_closedArrives_11 : decode bb_SB_closedArrives 11 = .ok (.invokestatic 254, 3) := by decide +kernel
theorem dd_SB_closedArrives_14 : decode bb_SB_closedArrives 14 = .ok (.istore 4, 2) := by decide +kernel
theorem dd_SB_closedArrives_16 : decode bb_SB_closedArrives 16 = .ok (.aload_n 0, 1) := by decide +kernel
theorem dd_SB_closedArrives_17 : decode bb_SB_closedArrives 17 = .ok (.iload 4, 2) := by decide +kernel
theorem dd_SB_closedArrives_19 : decode bb_SB_closedArrives 19 = .ok (.invokevirtual 178, 3) := by decide +kernel
theorem dd_SB_closedArrives_22 : decode bb_SB_closedArrives 22 = .ok (.ifCond .eq 29, 3) := by decide +kernel
theorem dd_SB_closedArrives_25 : decode bb_SB_closedArrives 25 = .ok (.aload_n 0, 1) := by decide +kernel
theorem dd_SB_closedArrives_26 : decode bb_SB_closedArrives 26 = .ok (.getfield 44, 3) := by decide +kernel
theorem dd_SB_closedArrives_29 : decode bb_SB_closedArrives 29 = .ok (.iload 4, 2) := by decide +kernel
theorem dd_SB_closedArrives_31 : decode bb_SB_closedArrives 31 = .ok (.aaload, 1) := by decide +kernel
theorem dd_SB_closedArrives_32 : decode bb_SB_closedArrives 32 = .ok (.iload_n 2, 1) := by decide +kernel
theorem dd_SB_closedArrives_33 : decode bb_SB_closedArrives 33 = .ok (.iload_n 3, 1) := by decide +kernel
theorem dd_SB_closedArrives_34 : decode bb_SB_closedArrives 34 = .ok (.invokestatic 216, 3) := by decide +kernel
theorem dd_SB_closedArrives_37 : decode bb_SB_closedArrives 37 = .ok (.aload_n 0, 1) := by decide +kernel
theorem dd_SB_closedArrives_38 : decode bb_SB_closedArrives 38 = .ok (.getfield 38, 3) := by decide +kernel
theorem dd_SB_closedArrives_41 : decode bb_SB_closedArrives 41 = .ok (.iload_n 2, 1) := by decide +kernel
theorem dd_SB_closedArrives_42 : decode bb_SB_closedArrives 42 = .ok (.aaload, 1) := by decide +kernel
theorem dd_SB_closedArrives_43 : decode bb_SB_closedArrives 43 = .ok (.getfield 219, 3) := by decide +kernel
theorem dd_SB_closedArrives_46 : decode bb_SB_closedArrives 46 = .ok (.iload_n 3, 1) := by decide +kernel
theorem dd_SB_closedArrives_47 : decode bb_SB_closedArrives 47 = .ok (.aaload, 1) := by decide +kernel
theorem dd_SB_closedArrives_48 : decode bb_SB_closedArrives 48 = .ok (.invokevirtual 266, 3) := by decide +kernel
theorem dd_SB_closedArrives_51 : decode bb_SB_closedArrives 51 = .ok (.return_, 1) := by decide +kernel
def zk_SB_closedArrives : Room := { frames := 2, cells := 0, slots := 0, locals := 44 }
abbrev zA_SB_closedArrives (p : Program) (l : Launch) (e : Env) (s : State) (m : MethodId) (args : Array Value) (below : List Frame) (meth : Method) (c : Code) (G : zs_G) (Q : zs_Q) (pc : Nat) (P : zs_P) : Prop := zs_At p l e zk_SB_closedArrives s m args below meth c (MQ below (zs_Qc G Q) args s 0 0 (fun q => zg_z G ≤ q)) G 5 pc P
def zb_SB_closedArrives_51 (Q : zs_Q) : zs_P := zt_vrt 0 0 Q
def zb_SB_closedArrives_25 (Q : zs_Q) : zs_P := zt_ald 0 (zt_gtR 7 7 (zt_ild 4 (zt_rld (110 + 3) (zt_ild 2 (zt_ild 3 (zt_cal zw_SB_placeInLog 2 0 0 0 0 (zt_ald 0 (zt_gtR 7 6 (zt_ild 2 (zt_rld (110 + 4) (zt_gtR 4 2 (zt_ild 3 (zt_rld (110 + 5) (zt_cav 3 zw_Rp_learn (2 + 1) 0 0 0 0 ((zb_SB_closedArrives_51 Q))))))))))))))))
def zb_SB_closedArrives_0 (Q : zs_Q) : zs_P := zt_ild 1 (zt_cal zw_Co_owner 1 0 0 0 0 (zt_ist 2 (zt_ild 1 (zt_cal zw_Co_item 1 0 0 0 0 (zt_ist 3 (zt_ild 1 (zt_cal zw_Co_node 1 0 0 0 0 (zt_ist 4 (zt_ald 0 (zt_ild 4 (zt_cav 7 zw_SB_replicaIsUp (1 + 1) 0 0 0 0 (zt_if (fun x => x = 0) (zb_SB_closedArrives_51 Q) (zb_SB_closedArrives_25 Q)))))))))))))
def zw_SB_closedArrives : zs_W := fun As σ Q => match As with
  | [a0, a1] => zs_c1 [a0, a1] = true ∧ zb_SB_closedArrives_0 Q [some a0, some a1, none, none, none] [] σ 0 0
  | _ => False
section
variable {p : Program} {l : Launch} {e : Env} {s : State} {m : MethodId} {args : Array Value} {below : List Frame} {meth : Method} {c : Code} {G : zs_G} {Q : zs_Q}
theorem zr_SB_closedArrives_51 (B : zs_B p s m args meth c G bb_SB_closedArrives 5 yy_SB_closedArrives none) : zA_SB_closedArrives p l e s m args below meth c G Q 51 (zb_SB_closedArrives_51 Q) := by
  unfold zb_SB_closedArrives_51
  exact za_vrt B.1 0 0 B.2.1 B.2.2.1 dd_SB_closedArrives_51
theorem zr_SB_closedArrives_25 (B : zs_B p s m args meth c G bb_SB_closedArrives 5 yy_SB_closedArrives none) : zA_SB_closedArrives p l e s m args below meth c G Q 25 (zb_SB_closedArrives_25 Q) := by
  unfold zb_SB_closedArrives_25
  refine za_ald_n B.1 0 dd_SB_closedArrives_25 rfl ?_
  refine za_gtR B.1 7 7 zi_7 rfl (by decide) (by decide) rfl zW_95 rfl dd_SB_closedArrives_26 ?_
  refine za_ild B.1 dd_SB_closedArrives_29 ?_
  refine za_rld B.1 3 5 rfl dd_SB_closedArrives_31 ?_
  refine za_ild_n B.1 2 dd_SB_closedArrives_32 rfl ?_
  refine za_ild_n B.1 3 dd_SB_closedArrives_33 rfl ?_
  refine za_cS B.1 2 0 0 0 0 rfl rfl (zm_SB_placeInLog l G) ⟨callB_of 2 B.1.1.2.2.2.2 (zs_good zW_229) rfl rfl rfl (B.1.1.2.2.2.2 _ zW_1) (B.1.1.2.2.2.2 _ zW_227) (by decide +kernel) ⟨by decide, by decide⟩, (B.1.1.2.2.2.2 _ zW_228)⟩ dd_SB_closedArrives_34 ?_
  refine za_ald_n B.1 0 dd_SB_closedArrives_37 rfl ?_
  refine za_gtR B.1 7 6 zi_7 rfl (by decide) (by decide) rfl zW_94 rfl dd_SB_closedArrives_38 ?_
  refine za_ild_n B.1 2 dd_SB_closedArrives_41 rfl ?_
  refine za_rld B.1 4 4 rfl dd_SB_closedArrives_42 ?_
  refine za_gtRN (host := "SequencedBatches") B.1 4 2 zi_4 rfl (by decide) (by decide) rfl (by decide +kernel) rfl dd_SB_closedArrives_43 ?_
  refine za_ild_n B.1 3 dd_SB_closedArrives_46 rfl ?_
  refine za_rld B.1 5 6 rfl dd_SB_closedArrives_47 ?_
  refine za_cV B.1 3 2 0 0 0 0 rfl rfl rfl (by decide) (zm_Rp_learn l G) ⟨callB_of 2 B.1.1.2.2.2.2 (zs_good zW_249) rfl rfl rfl (B.1.1.2.2.2.2 _ zW_6) (B.1.1.2.2.2.2 _ zW_246) (by decide +kernel) ⟨by decide, by decide⟩, (B.1.1.2.2.2.2 _ zW_247), (B.1.1.2.2.2.2 _ zW_248)⟩ dd_SB_closedArrives_48 ?_
  exact (zr_SB_closedArrives_51 B)
theorem zr_SB_closedArrives_0 (B : zs_B p s m args meth c G bb_SB_closedArrives 5 yy_SB_closedArrives none) : zA_SB_closedArrives p l e s m args below meth c G Q 0 (zb_SB_closedArrives_0 Q) := by
  unfold zb_SB_closedArrives_0
  refine za_ild_n B.1 1 dd_SB_closedArrives_0 rfl ?_
  refine za_cS B.1 1 0 0 0 0 rfl rfl (zm_Co_owner l G) ⟨callB_of 1 B.1.1.2.2.2.2 (zs_good zW_220) rfl rfl rfl (B.1.1.2.2.2.2 _ zW_11) (B.1.1.2.2.2.2 _ zW_218) (by decide +kernel) ⟨by decide, by decide⟩, (B.1.1.2.2.2.2 _ zW_219)⟩ dd_SB_closedArrives_1 ?_
  refine za_ist_n B.1 2 dd_SB_closedArrives_4 rfl (by decide) ?_
  refine za_ild_n B.1 1 dd_SB_closedArrives_5 rfl ?_
  refine za_cS B.1 1 0 0 0 0 rfl rfl (zm_Co_item l G) ⟨callB_of 1 B.1.1.2.2.2.2 (zs_good zW_223) rfl rfl rfl (B.1.1.2.2.2.2 _ zW_11) (B.1.1.2.2.2.2 _ zW_221) (by decide +kernel) ⟨by decide, by decide⟩, (B.1.1.2.2.2.2 _ zW_222)⟩ dd_SB_closedArrives_6 ?_
  refine za_ist_n B.1 3 dd_SB_closedArrives_9 rfl (by decide) ?_
  refine za_ild_n B.1 1 dd_SB_closedArrives_10 rfl ?_
  refine za_cS B.1 1 0 0 0 0 rfl rfl (zm_Co_node l G) ⟨callB_of 1 B.1.1.2.2.2.2 (zs_good zW_226) rfl rfl rfl (B.1.1.2.2.2.2 _ zW_11) (B.1.1.2.2.2.2 _ zW_224) (by decide +kernel) ⟨by decide, by decide⟩, (B.1.1.2.2.2.2 _ zW_225)⟩ dd_SB_closedArrives_11 ?_
  refine za_ist B.1 dd_SB_closedArrives_14 (by decide) ?_
  refine za_ald_n B.1 0 dd_SB_closedArrives_16 rfl ?_
  refine za_ild B.1 dd_SB_closedArrives_17 ?_
  refine za_cV B.1 7 1 0 0 0 0 rfl rfl rfl (by decide) (zm_SB_replicaIsUp l G) ⟨callB_of 1 B.1.1.2.2.2.2 (zs_good zW_245) rfl rfl rfl (B.1.1.2.2.2.2 _ zW_1) (B.1.1.2.2.2.2 _ zW_243) (by decide +kernel) ⟨by decide, by decide⟩, (B.1.1.2.2.2.2 _ zW_244), (B.1.1.2.2.2.2 _ zW_664)⟩ dd_SB_closedArrives_19 ?_
  exact za_if_eq B.1 51 dd_SB_closedArrives_22 (by decide) (zr_SB_closedArrives_51 B) (zr_SB_closedArrives_25 B)
end
theorem zm_SB_closedArrives (l : Launch) (G : zs_G) (As : List Value) (σ : zs_S) (Q : zs_Q) (h : zw_SB_closedArrives As σ Q) : zs_Met l yy_SB_closedArrives (Cond.code yy_SB_closedArrives bb_SB_closedArrives 5 none :: zw_all) zk_SB_closedArrives G As σ Q 0 0 := by
  unfold zw_SB_closedArrives at h
  split at h
  · exact zs_enter (by decide +kernel) h.1 (Nat.le_of_ble_eq_true rfl) h.2 (fun p e s m args below meth c B => zr_SB_closedArrives_0 B)
  · exact h.elim
-- SequencedBatches$Partition.indexOfNumber(I)I
theorem dd_Pa_indexOfNumber_0 : decode bb_Pa_indexOfNumber 0 = .ok (.iconst 0, 1) := by decide +kernel
theorem dd_Pa_indexOfNumber_1 : decode bb_Pa_indexOfNumber 1 = .ok (.istore_n 2, 1) := by decide +kernel
theorem dd_Pa_indexOfNumber_2 : decode bb_Pa_indexOfNumber 2 = .ok (.iload_n 2, 1) := by decide +kernel
theorem dd_Pa_indexOfNumber_3 : decode bb_Pa_indexOfNumber 3 = .ok (.aload_n 0, 1) := by decide +kernel
theorem dd_Pa_indexOfNumber_4 : decode bb_Pa_indexOfNumber 4 = .ok (.getfield 25, 3) := by decide +kernel
theorem dd_Pa_indexOfNumber_7 : decode bb_Pa_indexOfNumber 7 = .ok (.if_icmp .ge 24, 3) := by decide +kernel
theorem dd_Pa_indexOfNumber_10 : decode bb_Pa_indexOfNumber 10 = .ok (.aload_n 0, 1) := by decide +kernel
theorem dd_Pa_indexOfNumber_11 : decode bb_Pa_indexOfNumber 11 = .ok (.getfield 17, 3) := by decide +kernel
theorem dd_Pa_indexOfNumber_14 : decode bb_Pa_indexOfNumber 14 = .ok (.iload_n 2, 1) := by decide +kernel
theorem dd_Pa_indexOfNumber_15 : decode bb_Pa_indexOfNumber 15 = .ok (.aaload, 1) := by decide +kernel
theorem dd_Pa_indexOfNumber_16 : decode bb_Pa_indexOfNumber 16 = .ok (.getfield 42, 3) := by decide +kernel
theorem dd_Pa_indexOfNumber_19 : decode bb_Pa_indexOfNumber 19 = .ok (.iload_n 1, 1) := by decide +kernel
theorem dd_Pa_indexOfNumber_20 : decode bb_Pa_indexOfNumber 20 = .ok (.if_icmp .ne 5, 3) := by decide +kernel
theorem dd_Pa_indexOfNumber_23 : decode bb_Pa_indexOfNumber 23 = .ok (.iload_n 2, 1) := by decide +kernel
theorem dd_Pa_indexOfNumber_24 : decode bb_Pa_indexOfNumber 24 = .ok (.ireturn, 1) := by decide +kernel
theorem dd_Pa_indexOfNumber_25 : decode bb_Pa_indexOfNumber 25 = .ok (.iinc 2 1, 3) := by decide +kernel
theorem dd_Pa_indexOfNumber_28 : decode bb_Pa_indexOfNumber 28 = .ok (.goto (-26), 3) := by decide +kernel
theorem dd_Pa_indexOfNumber_31 : decode bb_Pa_indexOfNumber 31 = .ok (.iconst (-1), 1) := by decide +kernel
theorem dd_Pa_indexOfNumber_32 : decode bb_Pa_indexOfNumber 32 = .ok (.ireturn, 1) := by decide +kernel
def zk_Pa_indexOfNumber : Room := { frames := 0, cells := 0, slots := 0, locals := 0 }
abbrev zA_Pa_indexOfNumber (p : Program) (l : Launch) (e : Env) (s : State) (m : MethodId) (args : Array Value) (below : List Frame) (meth : Method) (c : Code) (G : zs_G) (Q : zs_Q) (pc : Nat) (P : zs_P) : Prop := zs_At p l e zk_Pa_indexOfNumber s m args below meth c (MQ below (zs_Qc G Q) args s 0 0 (fun q => zg_z G ≤ q)) G 3 pc P
def zb_Pa_indexOfNumber_31 (Q : zs_Q) : zs_P := zt_psh (-1) (zt_irt 0 0 Q)
def zb_Pa_indexOfNumber_25 (Q : zs_Q) (K2 : zs_P) : zs_P := zt_inc 2 1 (K2)
def zb_Pa_indexOfNumber_23 (Q : zs_Q) : zs_P := zt_ild 2 (zt_irt 0 0 Q)
def zb_Pa_indexOfNumber_10 (Q : zs_Q) (K2 : zs_P) : zs_P := zt_ald 0 (zt_gtR 1 2 (zt_ild 2 (zt_rld (110 + 6) (zt_gtI 6 0 (zt_ild 1 (zt_cmp (fun x y => x = y) (zb_Pa_indexOfNumber_23 Q) (zb_Pa_indexOfNumber_25 Q K2)))))))
def zb_Pa_indexOfNumber_2 (Q : zs_Q) (K2 : zs_P) : zs_P := zt_ild 2 (zt_ald 0 (zt_gtI 1 4 (zt_cmp (fun x y => y ≤ x) (zb_Pa_indexOfNumber_31 Q) (zb_Pa_indexOfNumber_10 Q K2))))
def zl_Pa_indexOfNumber_2 (Q : zs_Q) : zs_P := zt_ex (zb_Pa_indexOfNumber_2 Q)
def zb_Pa_indexOfNumber_0 (Q : zs_Q) : zs_P := zt_psh 0 (zt_ist 2 ((zl_Pa_indexOfNumber_2 Q)))
def zw_Pa_indexOfNumber : zs_W := fun As σ Q => match As with
  | [a0, a1] => zs_c1 [a0, a1] = true ∧ zb_Pa_indexOfNumber_0 Q [some a0, some a1, none] [] σ 0 0
  | _ => False
section
variable {p : Program} {l : Launch} {e : Env} {s : State} {m : MethodId} {args : Array Value} {below : List Frame} {meth : Method} {c : Code} {G : zs_G} {Q : zs_Q}
theorem zr_Pa_indexOfNumber_31 (B : zs_B p s m args meth c G bb_Pa_indexOfNumber 3 yy_Pa_indexOfNumber (some .int)) : zA_Pa_indexOfNumber p l e s m args below meth c G Q 31 (zb_Pa_indexOfNumber_31 Q) := by
  unfold zb_Pa_indexOfNumber_31
  refine za_ico B.1 (-1) dd_Pa_indexOfNumber_31 (by decide) ?_
  exact za_irt B.1 0 0 B.2.1 B.2.2.1 dd_Pa_indexOfNumber_32
theorem zr_Pa_indexOfNumber_25 (B : zs_B p s m args meth c G bb_Pa_indexOfNumber 3 yy_Pa_indexOfNumber (some .int)) {K2 : zs_P} (h2 : zA_Pa_indexOfNumber p l e s m args below meth c G Q 2 K2) : zA_Pa_indexOfNumber p l e s m args below meth c G Q 25 (zb_Pa_indexOfNumber_25 Q K2) := by
  unfold zb_Pa_indexOfNumber_25
  refine za_inc B.1 1 dd_Pa_indexOfNumber_25 (by decide) (by decide) ?_
  refine za_goto B.1 2 dd_Pa_indexOfNumber_28 (by decide) ?_
  exact h2
theorem zr_Pa_indexOfNumber_23 (B : zs_B p s m args meth c G bb_Pa_indexOfNumber 3 yy_Pa_indexOfNumber (some .int)) : zA_Pa_indexOfNumber p l e s m args below meth c G Q 23 (zb_Pa_indexOfNumber_23 Q) := by
  unfold zb_Pa_indexOfNumber_23
  refine za_ild_n B.1 2 dd_Pa_indexOfNumber_23 rfl ?_
  exact za_irt B.1 0 0 B.2.1 B.2.2.1 dd_Pa_indexOfNumber_24
theorem zr_Pa_indexOfNumber_10 (B : zs_B p s m args meth c G bb_Pa_indexOfNumber 3 yy_Pa_indexOfNumber (some .int)) {K2 : zs_P} (h2 : zA_Pa_indexOfNumber p l e s m args below meth c G Q 2 K2) : zA_Pa_indexOfNumber p l e s m args below meth c G Q 10 (zb_Pa_indexOfNumber_10 Q K2) := by
  unfold zb_Pa_indexOfNumber_10
  refine za_ald_n B.1 0 dd_Pa_indexOfNumber_10 rfl ?_
  refine za_gtR B.1 1 2 zi_1 rfl (by decide) (by decide) rfl zW_74 rfl dd_Pa_indexOfNumber_11 ?_
  refine za_ild_n B.1 2 dd_Pa_indexOfNumber_14 rfl ?_
  refine za_rld B.1 6 2 rfl dd_Pa_indexOfNumber_15 ?_
  refine za_gtIN (host := "SequencedBatches") B.1 6 0 zi_6 rfl (by decide) (by decide) rfl (by decide +kernel) rfl dd_Pa_indexOfNumber_16 ?_
  refine za_ild_n B.1 1 dd_Pa_indexOfNumber_19 rfl ?_
  exact za_cmp_ne B.1 25 dd_Pa_indexOfNumber_20 (by decide) (zr_Pa_indexOfNumber_23 B) (zr_Pa_indexOfNumber_25 B h2)
theorem zr_Pa_indexOfNumber_2 (B : zs_B p s m args meth c G bb_Pa_indexOfNumber 3 yy_Pa_indexOfNumber (some .int)) {K2 : zs_P} (h2 : zA_Pa_indexOfNumber p l e s m args below meth c G Q 2 K2) : zA_Pa_indexOfNumber p l e s m args below meth c G Q 2 (zb_Pa_indexOfNumber_2 Q K2) := by
  unfold zb_Pa_indexOfNumber_2
  refine za_ild_n B.1 2 dd_Pa_indexOfNumber_2 rfl ?_
  refine za_ald_n B.1 0 dd_Pa_indexOfNumber_3 rfl ?_
  refine za_gtI B.1 1 4 zi_1 rfl (by decide) (by decide) rfl zW_76 rfl dd_Pa_indexOfNumber_4 ?_
  exact za_cmp_ge B.1 31 dd_Pa_indexOfNumber_7 (by decide) (zr_Pa_indexOfNumber_31 B) (zr_Pa_indexOfNumber_10 B h2)
theorem zq_Pa_indexOfNumber_2 (B : zs_B p s m args meth c G bb_Pa_indexOfNumber 3 yy_Pa_indexOfNumber (some .int)) : zA_Pa_indexOfNumber p l e s m args below meth c G Q 2 (zl_Pa_indexOfNumber_2 Q) := za_lop (fun K hK => zr_Pa_indexOfNumber_2 B hK)
theorem zr_Pa_indexOfNumber_0 (B : zs_B p s m args meth c G bb_Pa_indexOfNumber 3 yy_Pa_indexOfNumber (some .int)) : zA_Pa_indexOfNumber p l e s m args below meth c G Q 0 (zb_Pa_indexOfNumber_0 Q) := by
  unfold zb_Pa_indexOfNumber_0
  refine za_ico B.1 0 dd_Pa_indexOfNumber_0 (by decide) ?_
  refine za_ist_n B.1 2 dd_Pa_indexOfNumber_1 rfl (by decide) ?_
  exact (zq_Pa_indexOfNumber_2 B)
end
theorem zm_Pa_indexOfNumber (l : Launch) (G : zs_G) (As : List Value) (σ : zs_S) (Q : zs_Q) (h : zw_Pa_indexOfNumber As σ Q) : zs_Met l yy_Pa_indexOfNumber (Cond.code yy_Pa_indexOfNumber bb_Pa_indexOfNumber 3 (some .int) :: zw_all) zk_Pa_indexOfNumber G As σ Q 0 0 := by
  unfold zw_Pa_indexOfNumber at h
  split at h
  · exact zs_enter (by decide +kernel) h.1 (Nat.le_of_ble_eq_true rfl) h.2 (fun p e s m args below meth c B => zr_Pa_indexOfNumber_0 B)
  · exact h.elim
-- SequencedBatches$Transaction.writes(I)Z
theorem dd_Tr_writes_0 : decode bb_Tr_writes 0 = .ok (.aload_n 0, 1) := by decide +kernel
theorem dd_Tr_writes_1 : decode bb_Tr_writes 1 = .ok (.getfield 44, 3) := by decide +kernel
theorem dd_Tr_writes_4 : decode bb_Tr_writes 4 = .ok (.iload_n 1, 1) := by decide +kernel
theorem dd_Tr_writes_5 : decode bb_Tr_writes 5 = .ok (.iand, 1) := by decide +kernel
theorem dd_Tr_writes_6 : decode bb_Tr_writes 6 = .ok (.ifCond .eq 7, 3) := by decide +kernel
theorem dd_Tr_writes_9 : decode bb_Tr_writes 9 = .ok (.iconst 1, 1) := by decide +kernel
theorem dd_Tr_writes_10 : decode bb_Tr_writes 10 = .ok (.goto 4, 3) := by decide +kernel
theorem dd_Tr_writes_13 : decode bb_Tr_writes 13 = .ok (.iconst 0, 1) := by decide +kernel
theorem dd_Tr_writes_14 : decode bb_Tr_writes 14 = .ok (.ireturn, 1) := by decide +kernel
def zk_Tr_writes : Room := { frames := 0, cells := 0, slots := 0, locals := 0 }
abbrev zA_Tr_writes (p : Program) (l : Launch) (e : Env) (s : State) (m : MethodId) (args : Array Value) (below : List Frame) (meth : Method) (c : Code) (G : zs_G) (Q : zs_Q) (pc : Nat) (P : zs_P) : Prop := zs_At p l e zk_Tr_writes s m args below meth c (MQ below (zs_Qc G Q) args s 0 0 (fun q => zg_z G ≤ q)) G 2 pc P
def zb_Tr_writes_14 (Q : zs_Q) : zs_P := zt_zrt 0 0 Q
def zb_Tr_writes_13 (Q : zs_Q) : zs_P := zt_psh 0 ((zb_Tr_writes_14 Q))
def zb_Tr_writes_9 (Q : zs_Q) : zs_P := zt_psh 1 ((zb_Tr_writes_14 Q))
def zb_Tr_writes_0 (Q : zs_Q) : zs_P := zt_ald 0 (zt_gtI 6 6 (zt_ild 1 (zt_bin (fun x y => x &&& y) (zt_if (fun x => x = 0) (zb_Tr_writes_13 Q) (zb_Tr_writes_9 Q)))))
def zw_Tr_writes : zs_W := fun As σ Q => match As with
  | [a0, a1] => zs_c1 [a0, a1] = true ∧ zb_Tr_writes_0 Q [some a0, some a1] [] σ 0 0
  | _ => False
section
variable {p : Program} {l : Launch} {e : Env} {s : State} {m : MethodId} {args : Array Value} {below : List Frame} {meth : Method} {c : Code} {G : zs_G} {Q : zs_Q}
theorem zr_Tr_writes_14 (B : zs_B p s m args meth c G bb_Tr_writes 2 yy_Tr_writes (some .boolean)) : zA_Tr_writes p l e s m args below meth c G Q 14 (zb_Tr_writes_14 Q) := by
  unfold zb_Tr_writes_14
  exact za_zrt B.1 0 0 B.2.1 B.2.2.1 dd_Tr_writes_14
theorem zr_Tr_writes_13 (B : zs_B p s m args meth c G bb_Tr_writes 2 yy_Tr_writes (some .boolean)) : zA_Tr_writes p l e s m args below meth c G Q 13 (zb_Tr_writes_13 Q) := by
  unfold zb_Tr_writes_13
  refine za_ico B.1 0 dd_Tr_writes_13 (by decide) ?_
  exact (zr_Tr_writes_14 B)
theorem zr_Tr_writes_9 (B : zs_B p s m args meth c G bb_Tr_writes 2 yy_Tr_writes (some .boolean)) : zA_Tr_writes p l e s m args below meth c G Q 9 (zb_Tr_writes_9 Q) := by
  unfold zb_Tr_writes_9
  refine za_ico B.1 1 dd_Tr_writes_9 (by decide) ?_
  refine za_goto B.1 14 dd_Tr_writes_10 (by decide) ?_
  exact (zr_Tr_writes_14 B)
theorem zr_Tr_writes_0 (B : zs_B p s m args meth c G bb_Tr_writes 2 yy_Tr_writes (some .boolean)) : zA_Tr_writes p l e s m args below meth c G Q 0 (zb_Tr_writes_0 Q) := by
  unfold zb_Tr_writes_0
  refine za_ald_n B.1 0 dd_Tr_writes_0 rfl ?_
  refine za_gtI B.1 6 6 zi_6 rfl (by decide) (by decide) rfl zW_129 rfl dd_Tr_writes_1 ?_
  refine za_ild_n B.1 1 dd_Tr_writes_4 rfl ?_
  refine za_and B.1 dd_Tr_writes_5 ?_
  exact za_if_eq B.1 13 dd_Tr_writes_6 (by decide) (zr_Tr_writes_13 B) (zr_Tr_writes_9 B)
end
theorem zm_Tr_writes (l : Launch) (G : zs_G) (As : List Value) (σ : zs_S) (Q : zs_Q) (h : zw_Tr_writes As σ Q) : zs_Met l yy_Tr_writes (Cond.code yy_Tr_writes bb_Tr_writes 2 (some .boolean) :: zw_all) zk_Tr_writes G As σ Q 0 0 := by
  unfold zw_Tr_writes at h
  split at h
  · exact zs_enter (by decide +kernel) h.1 (Nat.le_of_ble_eq_true rfl) h.2 (fun p e s m args below meth c B => zr_Tr_writes_0 B)
  · exact h.elim
-- SequencedBatches$Partition.finish(I)V
theorem dd_Pa_finish_0 : decode bb_Pa_finish 0 = .ok (.aload_n 0, 1) := by decide +kernel
theorem dd_Pa_finish_1 : decode bb_Pa_finish 1 = .ok (.dup, 1) := by decide +kernel
theorem dd_Pa_finish_2 : decode bb_Pa_finish 2 = .ok (.getfield 25, 3) := by decide +kernel
theorem dd_Pa_finish_5 : decode bb_Pa_finish 5 = .ok (.iconst 1, 1) := by decide +kernel
theorem dd_Pa_finish_6 : decode bb_Pa_finish 6 = .ok (.isub, 1) := by decide +kernel
theorem dd_Pa_finish_7 : decode bb_Pa_finish 7 = .ok (.putfield 25, 3) := by decide +kernel
theorem dd_Pa_finish_10 : decode bb_Pa_finish 10 = .ok (.iload_n 1, 1) := by decide +kernel
theorem dd_Pa_finish_11 : decode bb_Pa_finish 11 = .ok (.istore_n 2, 1) := by decide +kernel
theorem dd_Pa_finish_12 : decode bb_Pa_finish 12 = .ok (.iload_n 2, 1) := by decide +kernel
theorem dd_Pa_finish_13 : decode bb_Pa_finish 13 = .ok (.aload_n 0, 1) := by decide +kernel
theorem dd_Pa_finish_14 : decode bb_Pa_finish 14 = .ok (.getfield 25, 3) := by decide +kernel
theorem dd_Pa_finish_17 : decode bb_Pa_finish 17 = .ok (.if_icmp .ge 37, 3) := by decide +kernel
theorem dd_Pa_finish_20 : decode bb_Pa_finish 20 = .ok (.aload_n 0, 1) := by decide +kernel
theorem dd_Pa_finish_21 : decode bb_Pa_finish 21 = .ok (.getfield 17, 3) := by decide +kernel
theorem dd_Pa_finish_24 : decode bb_Pa_finish 24 = .ok (.iload_n 2, 1) := by decide +kernel
theorem dd_Pa_finish_25 : decode bb_Pa_finish 25 = .ok (.aload_n 0, 1) := by decide +kernel
theorem dd_Pa_finish_26 : decode bb_Pa_finish 26 = .ok (.getfield 17, 3) := by decide +kernel
theorem dd_Pa_finish_29 : decode bb_Pa_finish 29 = .ok (.iload_n 2, 1) := by decide +kernel
theorem dd_Pa_finish_30 : decode bb_Pa_finish 30 = .ok (.iconst 1, 1) := by decide +kernel
theorem dd_Pa_finish_31 : decode bb_Pa_finish 31 = .ok (.iadd, 1) := by decide +kernel
theorem dd_Pa_finish_32 : decode bb_Pa_finish 32 = .ok (.aaload, 1) := by decide +kernel
theorem dd_Pa_finish_33 : decode bb_Pa_finish 33 = .ok (.aastore, 1) := by decide +kernel
theorem dd_Pa_finish_34 : decode bb_Pa_finish 34 = .ok (.aload_n 0, 1) := by decide +kernel
theorem dd_Pa_finish_35 : decode bb_Pa_finish 35 = .ok (.getfield 21, 3) := by decide +kernel
theorem dd_Pa_finish_38 : decode bb_Pa_finish 38 = .ok (.iload_n 2, 1) := by decide +kernel
theorem dd_Pa_finish_39 : decode bb_Pa_finish 39 = .ok (.aload_n 0, 1) := by decide +kernel
theorem dd_Pa_finish_40 : decode bb_Pa_finish 40 = .ok (.getfield 21, 3) := by decide +kernel
theorem dd_Pa_finish_43 : decode bb_Pa_finish 43 = .ok (.iload_n 2, 1) := by decide +kernel
theorem dd_Pa_finish_44 : decode bb_Pa_finish 44 = .ok (.iconst 1, 1) := by decide +kernel
theorem dd_Pa_finish_45 : decode bb_Pa_finish 45 = .ok (.iadd, 1) := by decide +kernel
theorem dd_Pa_finish_46 : decode bb_Pa_finish 46 = .ok (.baload, 1) := by decide +kernel
theorem dd_Pa_finish_47 : decode bb_Pa_finish 47 = .ok (.bastore, 1) := by decide +kernel
theorem dd_Pa_finish_48 : decode bb_Pa_finish 48 = .ok (.iinc 2 1, 3) := by decide +kernel
theorem dd_Pa_finish_51 : decode bb_Pa_finish 51 = .ok (.goto (-39), 3) := by decide +kernel
theorem dd_Pa_finish_54 : decode bb_Pa_finish 54 = .ok (.return_, 1) := by decide +kernel
def zk_Pa_finish : Room := { frames := 0, cells := 0, slots := 0, locals := 0 }
abbrev zA_Pa_finish (p : Program) (l : Launch) (e : Env) (s : State) (m : MethodId) (args : Array Value) (below : List Frame) (meth : Method) (c : Code) (G : zs_G) (Q : zs_Q) (pc : Nat) (P : zs_P) : Prop := zs_At p l e zk_Pa_finish s m args below meth c (MQ below (zs_Qc G Q) args s 0 0 (fun q => zg_z G ≤ q)) G 3 pc P
def zb_Pa_finish_54 (Q : zs_Q) : zs_P := zt_vrt 0 0 Q
def zb_Pa_finish_20 (Q : zs_Q) (K12 : zs_P) : zs_P := zt_ald 0 (zt_gtR 1 2 (zt_ild 2 (zt_ald 0 (zt_gtR 1 2 (zt_ild 2 (zt_psh 1 (zt_bin (fun x y => x + y) (zt_rld (110 + 6) (zt_ras 6 (zt_ald 0 (zt_gtR 1 3 (zt_ild 2 (zt_ald 0 (zt_gtR 1 3 (zt_ild 2 (zt_psh 1 (zt_bin (fun x y => x + y) (zt_xld 101 (zt_zas (zt_inc 2 1 (K12)))))))))))))))))))))
def zb_Pa_finish_12 (Q : zs_Q) (K12 : zs_P) : zs_P := zt_ild 2 (zt_ald 0 (zt_gtI 1 4 (zt_cmp (fun x y => y ≤ x) (zb_Pa_finish_54 Q) (zb_Pa_finish_20 Q K12))))
def zl_Pa_finish_12 (Q : zs_Q) : zs_P := zt_ex (zb_Pa_finish_12 Q)
def zb_Pa_finish_0 (Q : zs_Q) : zs_P := zt_ald 0 (zt_dup (zt_gtI 1 4 (zt_psh 1 (zt_bin (fun x y => x - y) (zt_ptI 1 4 (zt_ild 1 (zt_ist 2 ((zl_Pa_finish_12 Q)))))))))
def zw_Pa_finish : zs_W := fun As σ Q => match As with
  | [a0, a1] => zs_c1 [a0, a1] = true ∧ zb_Pa_finish_0 Q [some a0, some a1, none] [] σ 0 0
  | _ => False
section
variable {p : Program} {l : Launch} {e : Env} {s : State} {m : MethodId} {args : Array Value} {below : List Frame} {meth : Method} {c : Code} {G : zs_G} {Q : zs_Q}
theorem zr_Pa_finish_54 (B : zs_B p s m args meth c G bb_Pa_finish 3 yy_Pa_finish none) : zA_Pa_finish p l e s m args below meth c G Q 54 (zb_Pa_finish_54 Q) := by
  unfold zb_Pa_finish_54
  exact za_vrt B.1 0 0 B.2.1 B.2.2.1 dd_Pa_finish_54
theorem zr_Pa_finish_20 (B : zs_B p s m args meth c G bb_Pa_finish 3 yy_Pa_finish none) {K12 : zs_P} (h12 : zA_Pa_finish p l e s m args below meth c G Q 12 K12) : zA_Pa_finish p l e s m args below meth c G Q 20 (zb_Pa_finish_20 Q K12) := by
  unfold zb_Pa_finish_20
  refine za_ald_n B.1 0 dd_Pa_finish_20 rfl ?_
  refine za_gtR B.1 1 2 zi_1 rfl (by decide) (by decide) rfl zW_74 rfl dd_Pa_finish_21 ?_
  refine za_ild_n B.1 2 dd_Pa_finish_24 rfl ?_
  refine za_ald_n B.1 0 dd_Pa_finish_25 rfl ?_
  refine za_gtR B.1 1 2 zi_1 rfl (by decide) (by decide) rfl zW_74 rfl dd_Pa_finish_26 ?_
  refine za_ild_n B.1 2 dd_Pa_finish_29 rfl ?_
  refine za_ico B.1 1 dd_Pa_finish_30 (by decide) ?_
  refine za_add B.1 dd_Pa_finish_31 ?_
  refine za_rld B.1 6 2 rfl dd_Pa_finish_32 ?_
  refine za_rast B.1 6 2 (by decide) rfl rfl dd_Pa_finish_33 ?_
  refine za_ald_n B.1 0 dd_Pa_finish_34 rfl ?_
  refine za_gtR B.1 1 3 zi_1 rfl (by decide) (by decide) rfl zW_75 rfl dd_Pa_finish_35 ?_
  refine za_ild_n B.1 2 dd_Pa_finish_38 rfl ?_
  refine za_ald_n B.1 0 dd_Pa_finish_39 rfl ?_
  refine za_gtR B.1 1 3 zi_1 rfl (by decide) (by decide) rfl zW_75 rfl dd_Pa_finish_40 ?_
  refine za_ild_n B.1 2 dd_Pa_finish_43 rfl ?_
  refine za_ico B.1 1 dd_Pa_finish_44 (by decide) ?_
  refine za_add B.1 dd_Pa_finish_45 ?_
  refine za_zald B.1 dd_Pa_finish_46 ?_
  refine za_zast B.1 dd_Pa_finish_47 ?_
  refine za_inc B.1 1 dd_Pa_finish_48 (by decide) (by decide) ?_
  refine za_goto B.1 12 dd_Pa_finish_51 (by decide) ?_
  exact h12
theorem zr_Pa_finish_12 (B : zs_B p s m args meth c G bb_Pa_finish 3 yy_Pa_finish none) {K12 : zs_P} (h12 : zA_Pa_finish p l e s m args below meth c G Q 12 K12) : zA_Pa_finish p l e s m args below meth c G Q 12 (zb_Pa_finish_12 Q K12) := by
  unfold zb_Pa_finish_12
  refine za_ild_n B.1 2 dd_Pa_finish_12 rfl ?_
  refine za_ald_n B.1 0 dd_Pa_finish_13 rfl ?_
  refine za_gtI B.1 1 4 zi_1 rfl (by decide) (by decide) rfl zW_76 rfl dd_Pa_finish_14 ?_
  exact za_cmp_ge B.1 54 dd_Pa_finish_17 (by decide) (zr_Pa_finish_54 B) (zr_Pa_finish_20 B h12)
theorem zq_Pa_finish_12 (B : zs_B p s m args meth c G bb_Pa_finish 3 yy_Pa_finish none) : zA_Pa_finish p l e s m args below meth c G Q 12 (zl_Pa_finish_12 Q) := za_lop (fun K hK => zr_Pa_finish_12 B hK)
theorem zr_Pa_finish_0 (B : zs_B p s m args meth c G bb_Pa_finish 3 yy_Pa_finish none) : zA_Pa_finish p l e s m args below meth c G Q 0 (zb_Pa_finish_0 Q) := by
  unfold zb_Pa_finish_0
  refine za_ald_n B.1 0 dd_Pa_finish_0 rfl ?_
  refine za_dup B.1 dd_Pa_finish_1 ?_
  refine za_gtI B.1 1 4 zi_1 rfl (by decide) (by decide) rfl zW_76 rfl dd_Pa_finish_2 ?_
  refine za_ico B.1 1 dd_Pa_finish_5 (by decide) ?_
  refine za_sub B.1 dd_Pa_finish_6 ?_
  refine za_ptI B.1 1 4 zi_1 zy_Pa zy_Pa_ok zn_Pa rfl (by decide) (by decide) rfl zW_76 rfl rfl rfl dd_Pa_finish_7 ?_
  refine za_ild_n B.1 1 dd_Pa_finish_10 rfl ?_
  refine za_ist_n B.1 2 dd_Pa_finish_11 rfl (by decide) ?_
  exact (zq_Pa_finish_12 B)
end
theorem zm_Pa_finish (l : Launch) (G : zs_G) (As : List Value) (σ : zs_S) (Q : zs_Q) (h : zw_Pa_finish As σ Q) : zs_Met l yy_Pa_finish (Cond.code yy_Pa_finish bb_Pa_finish 3 none :: zw_all) zk_Pa_finish G As σ Q 0 0 := by
  unfold zw_Pa_finish at h
  split at h
  · exact zs_enter (by decide +kernel) h.1 (Nat.le_of_ble_eq_true rfl) h.2 (fun p e s m args below meth c B => zr_Pa_finish_0 B)
  · exact h.elim
-- SequencedBatches$Transaction.reads(I)Z
theorem dd_Tr_reads_0 : decode bb_Tr_reads 0 = .ok (.aload_n 0, 1) := by decide +kernel
theorem dd_Tr_reads_1 : decode bb_Tr_reads 1 = .ok (.getfield 37, 3) := by decide +kernel
theorem dd_Tr_reads_4 : decode bb_Tr_reads 4 = .ok (.iload_n 1, 1) := by decide +kernel
theorem dd_Tr_reads_5 : decode bb_Tr_reads 5 = .ok (.iand, 1) := by decide +kernel
theorem dd_Tr_reads_6 : decode bb_Tr_reads 6 = .ok (.ifCond .eq 7, 3) := by decide +kernel
theorem dd_Tr_reads_9 : decode bb_Tr_reads 9 = .ok (.iconst 1, 1) := by decide +kernel
theorem dd_Tr_reads_10 : decode bb_Tr_reads 10 = .ok (.goto 4, 3) := by decide +kernel
theorem dd_Tr_reads_13 : decode bb_Tr_reads 13 = .ok (.iconst 0, 1) := by decide +kernel
theorem dd_Tr_reads_14 : decode bb_Tr_reads 14 = .ok (.ireturn, 1) := by decide +kernel
def zk_Tr_reads : Room := { frames := 0, cells := 0, slots := 0, locals := 0 }
abbrev zA_Tr_reads (p : Program) (l : Launch) (e : Env) (s : State) (m : MethodId) (args : Array Value) (below : List Frame) (meth : Method) (c : Code) (G : zs_G) (Q : zs_Q) (pc : Nat) (P : zs_P) : Prop := zs_At p l e zk_Tr_reads s m args below meth c (MQ below (zs_Qc G Q) args s 0 0 (fun q => zg_z G ≤ q)) G 2 pc P
def zb_Tr_reads_14 (Q : zs_Q) : zs_P := zt_zrt 0 0 Q
def zb_Tr_reads_13 (Q : zs_Q) : zs_P := zt_psh 0 ((zb_Tr_reads_14 Q))
def zb_Tr_reads_9 (Q : zs_Q) : zs_P := zt_psh 1 ((zb_Tr_reads_14 Q))
def zb_Tr_reads_0 (Q : zs_Q) : zs_P := zt_ald 0 (zt_gtI 6 5 (zt_ild 1 (zt_bin (fun x y => x &&& y) (zt_if (fun x => x = 0) (zb_Tr_reads_13 Q) (zb_Tr_reads_9 Q)))))
def zw_Tr_reads : zs_W := fun As σ Q => match As with
  | [a0, a1] => zs_c1 [a0, a1] = true ∧ zb_Tr_reads_0 Q [some a0, some a1] [] σ 0 0
  | _ => False
section
variable {p : Program} {l : Launch} {e : Env} {s : State} {m : MethodId} {args : Array Value} {below : List Frame} {meth : Method} {c : Code} {G : zs_G} {Q : zs_Q}
theorem zr_Tr_reads_14 (B : zs_B p s m args meth c G bb_Tr_reads 2 yy_Tr_reads (some .boolean)) : zA_Tr_reads p l e s m args below meth c G Q 14 (zb_Tr_reads_14 Q) := by
  unfold zb_Tr_reads_14
  exact za_zrt B.1 0 0 B.2.1 B.2.2.1 dd_Tr_reads_14
theorem zr_Tr_reads_13 (B : zs_B p s m args meth c G bb_Tr_reads 2 yy_Tr_reads (some .boolean)) : zA_Tr_reads p l e s m args below meth c G Q 13 (zb_Tr_reads_13 Q) := by
  unfold zb_Tr_reads_13
  refine za_ico B.1 0 dd_Tr_reads_13 (by decide) ?_
  exact (zr_Tr_reads_14 B)
theorem zr_Tr_reads_9 (B : zs_B p s m args meth c G bb_Tr_reads 2 yy_Tr_reads (some .boolean)) : zA_Tr_reads p l e s m args below meth c G Q 9 (zb_Tr_reads_9 Q) := by
  unfold zb_Tr_reads_9
  refine za_ico B.1 1 dd_Tr_reads_9 (by decide) ?_
  refine za_goto B.1 14 dd_Tr_reads_10 (by decide) ?_
  exact (zr_Tr_reads_14 B)
theorem zr_Tr_reads_0 (B : zs_B p s m args meth c G bb_Tr_reads 2 yy_Tr_reads (some .boolean)) : zA_Tr_reads p l e s m args below meth c G Q 0 (zb_Tr_reads_0 Q) := by
  unfold zb_Tr_reads_0
  refine za_ald_n B.1 0 dd_Tr_reads_0 rfl ?_
  refine za_gtI B.1 6 5 zi_6 rfl (by decide) (by decide) rfl zW_128 rfl dd_Tr_reads_1 ?_
  refine za_ild_n B.1 1 dd_Tr_reads_4 rfl ?_
  refine za_and B.1 dd_Tr_reads_5 ?_
  exact za_if_eq B.1 13 dd_Tr_reads_6 (by decide) (zr_Tr_reads_13 B) (zr_Tr_reads_9 B)
end
theorem zm_Tr_reads (l : Launch) (G : zs_G) (As : List Value) (σ : zs_S) (Q : zs_Q) (h : zw_Tr_reads As σ Q) : zs_Met l yy_Tr_reads (Cond.code yy_Tr_reads bb_Tr_reads 2 (some .boolean) :: zw_all) zk_Tr_reads G As σ Q 0 0 := by
  unfold zw_Tr_reads at h
  split at h
  · exact zs_enter (by decide +kernel) h.1 (Nat.le_of_ble_eq_true rfl) h.2 (fun p e s m args below meth c B => zr_Tr_reads_0 B)
  · exact h.elim
-- SequencedBatches$Transaction.newValue(III)I
theorem dd_Tr_newValue_0 : decode bb_Tr_newValue 0 = .ok (.aload_n 0, 1) := by decide +kernel
theorem dd_Tr_newValue_1 : decode bb_Tr_newValue 1 = .ok (.getfield 21, 3) := by decide +kernel
theorem dd_Tr_newValue_4 : decode bb_Tr_newValue 4 = .ok (.tableswitch 104 0 4 #[36, 74, 78, 83, 97], 36) := by decide +kernel
theorem dd_Tr_newValue_40 : decode bb_Tr_newValue 40 = .ok (.iload_n 2, 1) := by decide +kernel
theorem dd_Tr_newValue_41 : decode bb_Tr_newValue 41 = .ok (.aload_n 0, 1) := by decide +kernel
theorem dd_Tr_newValue_42 : decode bb_Tr_newValue 42 = .ok (.getfield 34, 3) := by decide +kernel
theorem dd_Tr_newValue_45 : decode bb_Tr_newValue 45 = .ok (.if_icmp .lt 10, 3) := by decide +kernel
theorem dd_Tr_newValue_48 : decode bb_Tr_newValue 48 = .ok (.aload_n 0, 1) := by decide +kernel
theorem dd_Tr_newValue_49 : decode bb_Tr_newValue 49 = .ok (.getfield 34, 3) := by decide +kernel
theorem dd_Tr_newValue_52 : decode bb_Tr_newValue 52 = .ok (.goto 4, 3) := by decide +kernel
theorem dd_Tr_newValue_55 : decode bb_Tr_newValue 55 = .ok (.iconst 0, 1) := by decide +kernel
theorem dd_Tr_newValue_56 : decode bb_Tr_newValue 56 = .ok (.istore 4, 2) := by decide +kernel
theorem dd_Tr_newValue_58 : decode bb_Tr_newValue 58 = .ok (.iload_n 1, 1) := by decide +kernel
theorem dd_Tr_newValue_59 : decode bb_Tr_newValue 59 = .ok (.aload_n 0, 1) := by decide +kernel
theorem dd_Tr_newValue_60 : decode bb_Tr_newValue 60 = .ok (.getfield 24, 3) := by decide +kernel
theorem dd_Tr_newValue_63 : decode bb_Tr_newValue 63 = .ok (.if_icmp .ne 10, 3) := by decide +kernel
theorem dd_Tr_newValue_66 : decode bb_Tr_newValue 66 = .ok (.iload_n 2, 1) := by decide +kernel
theorem dd_Tr_newValue_67 : decode bb_Tr_newValue 67 = .ok (.iload 4, 2) := by decide +kernel
theorem dd_Tr_newValue_69 : decode bb_Tr_newValue 69 = .ok (.isub, 1) := by decide +kernel
theorem dd_Tr_newValue_70 : decode bb_Tr_newValue 70 = .ok (.goto 7, 3) := by decide +kernel
theorem dd_Tr_newValue_73 : decode bb_Tr_newValue 73 = .ok (.iload_n 3, 1) := by decide +kernel
theorem dd_Tr_newValue_74 : decode bb_Tr_newValue 74 = .ok (.iload 4, 2) := by decide +kernel
theorem dd_Tr_newValue_76 : decode bb_Tr_newValue 76 = .ok (.iadd, 1) := by decide +kernel
theorem dd_Tr_newValue_77 : decode bb_Tr_newValue 77 = .ok (.ireturn, 1) := by decide +kernel
theorem dd_Tr_newValue_78 : decode bb_Tr_newValue 78 = .ok (.iload_n 2, 1) := by decide +kernel
theorem dd_Tr_newValue_79 : decode bb_Tr_newValue 79 = .ok (.iload_n 3, 1) := by decide +kernel
theorem dd_Tr_newValue_80 : decode bb_Tr_newValue 80 = .ok (.iadd, 1) := by decide +kernel
theorem dd_Tr_newValue_81 : decode bb_Tr_newValue 81 = .ok (.ireturn, 1) := by decide +kernel
theorem dd_Tr_newValue_82 : decode bb_Tr_newValue 82 = .ok (.aload_n 0, 1) := by decide +kernel
theorem dd_Tr_newValue_83 : decode bb_Tr_newValue 83 = .ok (.getfield 34, 3) := by decide +kernel
theorem dd_Tr_newValue_86 : decode bb_Tr_newValue 86 = .ok (.ireturn, 1) := by decide +kernel
theorem dd_Tr_newValue_87 : decode bb_Tr_newValue 87 = .ok (.iload_n 1, 1) := by decide +kernel
theorem dd_Tr_newValue_88 : decode bb_Tr_newValue 88 = .ok (.aload_n 0, 1) := by decide +kernel
theorem dd_Tr_newValue_89 : decode bb_Tr_newValue 89 = .ok (.getfield 24, 3) := by decide +kernel
theorem dd_Tr_newValue_92 : decode bb_Tr_newValue 92 = .ok (.if_icmp .ne 7, 3) := by decide +kernel
theorem dd_Tr_newValue_95 : decode bb_Tr_newValue 95 = .ok (.iload_n 3, 1) := by decide +kernel
theorem dd_Tr_newValue_96 : decode bb_Tr_newValue 96 = .ok (.goto 4, 3) := by decide +kernel
theorem dd_Tr_newValue_99 : decode bb_Tr_newValue 99 = .ok (.iload_n 2, 1) := by decide +kernel
theorem dd_Tr_newValue_100 : decode bb_Tr_newValue 100 = .ok (.ireturn, 1) := by decide +kernel
theorem dd_Tr_newValue_101 : decode bb_Tr_newValue 101 = .ok (.iload_n 2, 1) := by decide +kernel
theorem dd_Tr_newValue_102 : decode bb_Tr_newValue 102 = .ok (.aload_n 0, 1) := by decide +kernel
theorem dd_Tr_newValue_103 : decode bb_Tr_newValue 103 = .ok (.getfield 34, 3) := by decide +kernel
theorem dd_Tr_newValue_106 : decode bb_Tr_newValue 106 = .ok (.iadd, 1) := by decide +kernel
theorem dd_Tr_newValue_107 : decode bb_Tr_newValue 107 = .ok (.ireturn, 1) := by decide +kernel
theorem dd_Tr_newValue_108 : decode bb_Tr_newValue 108 = .ok (.iload_n 2, 1) := by decide +kernel
theorem dd_Tr_newValue_109 : decode bb_Tr_newValue 109 = .ok (.iload_n 3, 1) := by decide +kernel
theorem dd_Tr_newValue_110 : decode bb_Tr_newValue 110 = .ok (.invokestatic 58, 3) := by decide +kernel
theorem dd_Tr_newValue_113 : decode bb_Tr_newValue 113 = .ok (.ireturn, 1) := by decide +kernel
def zk_Tr_newValue : Room := { frames := 1, cells := 0, slots := 0, locals := 40 }
abbrev zA_Tr_newValue (p : Program) (l : Launch) (e : Env) (s : State) (m : MethodId) (args : Array Value) (below : List Frame) (meth : Method) (c : Code) (G : zs_G) (Q : zs_Q) (pc : Nat) (P : zs_P) : Prop := zs_At p l e zk_Tr_newValue s m args below meth c (MQ below (zs_Qc G Q) args s 0 0 (fun q => zg_z G ≤ q)) G 5 pc P
def zb_Tr_newValue_77 (Q : zs_Q) : zs_P := zt_irt 0 0 Q
def zb_Tr_newValue_73 (Q : zs_Q) : zs_P := zt_ild 3 (zt_ild 4 (zt_bin (fun x y => x + y) ((zb_Tr_newValue_77 Q))))
def zb_Tr_newValue_66 (Q : zs_Q) : zs_P := zt_ild 2 (zt_ild 4 (zt_bin (fun x y => x - y) ((zb_Tr_newValue_77 Q))))
def zb_Tr_newValue_56 (Q : zs_Q) : zs_P := zt_ist 4 (zt_ild 1 (zt_ald 0 (zt_gtI 6 2 (zt_cmp (fun x y => x = y) (zb_Tr_newValue_66 Q) (zb_Tr_newValue_73 Q)))))
def zb_Tr_newValue_55 (Q : zs_Q) : zs_P := zt_psh 0 ((zb_Tr_newValue_56 Q))
def zb_Tr_newValue_48 (Q : zs_Q) : zs_P := zt_ald 0 (zt_gtI 6 4 ((zb_Tr_newValue_56 Q)))
def zb_Tr_newValue_40 (Q : zs_Q) : zs_P := zt_ild 2 (zt_ald 0 (zt_gtI 6 4 (zt_cmp (fun x y => x < y) (zb_Tr_newValue_55 Q) (zb_Tr_newValue_48 Q))))
def zb_Tr_newValue_78 (Q : zs_Q) : zs_P := zt_ild 2 (zt_ild 3 (zt_bin (fun x y => x + y) (zt_irt 0 0 Q)))
def zb_Tr_newValue_82 (Q : zs_Q) : zs_P := zt_ald 0 (zt_gtI 6 4 (zt_irt 0 0 Q))
def zb_Tr_newValue_100 (Q : zs_Q) : zs_P := zt_irt 0 0 Q
def zb_Tr_newValue_99 (Q : zs_Q) : zs_P := zt_ild 2 ((zb_Tr_newValue_100 Q))
def zb_Tr_newValue_95 (Q : zs_Q) : zs_P := zt_ild 3 ((zb_Tr_newValue_100 Q))
def zb_Tr_newValue_87 (Q : zs_Q) : zs_P := zt_ild 1 (zt_ald 0 (zt_gtI 6 2 (zt_cmp (fun x y => x = y) (zb_Tr_newValue_95 Q) (zb_Tr_newValue_99 Q))))
def zb_Tr_newValue_101 (Q : zs_Q) : zs_P := zt_ild 2 (zt_ald 0 (zt_gtI 6 4 (zt_bin (fun x y => x + y) (zt_irt 0 0 Q))))
def zb_Tr_newValue_108 (Q : zs_Q) : zs_P := zt_ild 2 (zt_ild 3 (zt_jmm (fun x y => if x < y then y else x) 0 0 (zt_irt 0 0 Q)))
def zb_Tr_newValue_0 (Q : zs_Q) : zs_P := zt_ald 0 (zt_gtI 6 1 (zt_cas 0 (zb_Tr_newValue_40 Q) (zt_cas 1 (zb_Tr_newValue_78 Q) (zt_cas 2 (zb_Tr_newValue_82 Q) (zt_cas 3 (zb_Tr_newValue_87 Q) (zt_cas 4 (zb_Tr_newValue_101 Q) (zt_dfl (zb_Tr_newValue_108 Q))))))))
def zw_Tr_newValue : zs_W := fun As σ Q => match As with
  | [a0, a1, a2, a3] => zs_c1 [a0, a1, a2, a3] = true ∧ zb_Tr_newValue_0 Q [some a0, some a1, some a2, some a3, none] [] σ 0 0
  | _ => False
section
variable {p : Program} {l : Launch} {e : Env} {s : State} {m : MethodId} {args : Array Value} {below : List Frame} {meth : Method} {c : Code} {G : zs_G} {Q : zs_Q}
theorem zr_Tr_newValue_77 (B : zs_B p s m args meth c G bb_Tr_newValue 5 yy_Tr_newValue (some .int)) : zA_Tr_newValue p l e s m args below meth c G Q 77 (zb_Tr_newValue_77 Q) := by
  unfold zb_Tr_newValue_77
  exact za_irt B.1 0 0 B.2.1 B.2.2.1 dd_Tr_newValue_77
theorem zr_Tr_newValue_73 (B : zs_B p s m args meth c G bb_Tr_newValue 5 yy_Tr_newValue (some .int)) : zA_Tr_newValue p l e s m args below meth c G Q 73 (zb_Tr_newValue_73 Q) := by
  unfold zb_Tr_newValue_73
  refine za_ild_n B.1 3 dd_Tr_newValue_73 rfl ?_
  refine za_ild B.1 dd_Tr_newValue_74 ?_
  refine za_add B.1 dd_Tr_newValue_76 ?_
  exact (zr_Tr_newValue_77 B)
theorem zr_Tr_newValue_66 (B : zs_B p s m args meth c G bb_Tr_newValue 5 yy_Tr_newValue (some .int)) : zA_Tr_newValue p l e s m args below meth c G Q 66 (zb_Tr_newValue_66 Q) := by
  unfold zb_Tr_newValue_66
  refine za_ild_n B.1 2 dd_Tr_newValue_66 rfl ?_
  refine za_ild B.1 dd_Tr_newValue_67 ?_
  refine za_sub B.1 dd_Tr_newValue_69 ?_
  refine za_goto B.1 77 dd_Tr_newValue_70 (by decide) ?_
  exact (zr_Tr_newValue_77 B)
theorem zr_Tr_newValue_56 (B : zs_B p s m args meth c G bb_Tr_newValue 5 yy_Tr_newValue (some .int)) : zA_Tr_newValue p l e s m args below meth c G Q 56 (zb_Tr_newValue_56 Q) := by
  unfold zb_Tr_newValue_56
  refine za_ist B.1 dd_Tr_newValue_56 (by decide) ?_
  refine za_ild_n B.1 1 dd_Tr_newValue_58 rfl ?_
  refine za_ald_n B.1 0 dd_Tr_newValue_59 rfl ?_
  refine za_gtI B.1 6 2 zi_6 rfl (by decide) (by decide) rfl zW_125 rfl dd_Tr_newValue_60 ?_
  exact za_cmp_ne B.1 73 dd_Tr_newValue_63 (by decide) (zr_Tr_newValue_66 B) (zr_Tr_newValue_73 B)
theorem zr_Tr_newValue_55 (B : zs_B p s m args meth c G bb_Tr_newValue 5 yy_Tr_newValue (some .int)) : zA_Tr_newValue p l e s m args below meth c G Q 55 (zb_Tr_newValue_55 Q) := by
  unfold zb_Tr_newValue_55
  refine za_ico B.1 0 dd_Tr_newValue_55 (by decide) ?_
  exact (zr_Tr_newValue_56 B)
theorem zr_Tr_newValue_48 (B : zs_B p s m args meth c G bb_Tr_newValue 5 yy_Tr_newValue (some .int)) : zA_Tr_newValue p l e s m args below meth c G Q 48 (zb_Tr_newValue_48 Q) := by
  unfold zb_Tr_newValue_48
  refine za_ald_n B.1 0 dd_Tr_newValue_48 rfl ?_
  refine za_gtI B.1 6 4 zi_6 rfl (by decide) (by decide) rfl zW_127 rfl dd_Tr_newValue_49 ?_
  refine za_goto B.1 56 dd_Tr_newValue_52 (by decide) ?_
  exact (zr_Tr_newValue_56 B)
theorem zr_Tr_newValue_40 (B : zs_B p s m args meth c G bb_Tr_newValue 5 yy_Tr_newValue (some .int)) : zA_Tr_newValue p l e s m args below meth c G Q 40 (zb_Tr_newValue_40 Q) := by
  unfold zb_Tr_newValue_40
  refine za_ild_n B.1 2 dd_Tr_newValue_40 rfl ?_
  refine za_ald_n B.1 0 dd_Tr_newValue_41 rfl ?_
  refine za_gtI B.1 6 4 zi_6 rfl (by decide) (by decide) rfl zW_127 rfl dd_Tr_newValue_42 ?_
  exact za_cmp_lt B.1 55 dd_Tr_newValue_45 (by decide) (zr_Tr_newValue_55 B) (zr_Tr_newValue_48 B)
theorem zr_Tr_newValue_78 (B : zs_B p s m args meth c G bb_Tr_newValue 5 yy_Tr_newValue (some .int)) : zA_Tr_newValue p l e s m args below meth c G Q 78 (zb_Tr_newValue_78 Q) := by
  unfold zb_Tr_newValue_78
  refine za_ild_n B.1 2 dd_Tr_newValue_78 rfl ?_
  refine za_ild_n B.1 3 dd_Tr_newValue_79 rfl ?_
  refine za_add B.1 dd_Tr_newValue_80 ?_
  exact za_irt B.1 0 0 B.2.1 B.2.2.1 dd_Tr_newValue_81
theorem zr_Tr_newValue_82 (B : zs_B p s m args meth c G bb_Tr_newValue 5 yy_Tr_newValue (some .int)) : zA_Tr_newValue p l e s m args below meth c G Q 82 (zb_Tr_newValue_82 Q) := by
  unfold zb_Tr_newValue_82
  refine za_ald_n B.1 0 dd_Tr_newValue_82 rfl ?_
  refine za_gtI B.1 6 4 zi_6 rfl (by decide) (by decide) rfl zW_127 rfl dd_Tr_newValue_83 ?_
  exact za_irt B.1 0 0 B.2.1 B.2.2.1 dd_Tr_newValue_86
theorem zr_Tr_newValue_100 (B : zs_B p s m args meth c G bb_Tr_newValue 5 yy_Tr_newValue (some .int)) : zA_Tr_newValue p l e s m args below meth c G Q 100 (zb_Tr_newValue_100 Q) := by
  unfold zb_Tr_newValue_100
  exact za_irt B.1 0 0 B.2.1 B.2.2.1 dd_Tr_newValue_100
theorem zr_Tr_newValue_99 (B : zs_B p s m args meth c G bb_Tr_newValue 5 yy_Tr_newValue (some .int)) : zA_Tr_newValue p l e s m args below meth c G Q 99 (zb_Tr_newValue_99 Q) := by
  unfold zb_Tr_newValue_99
  refine za_ild_n B.1 2 dd_Tr_newValue_99 rfl ?_
  exact (zr_Tr_newValue_100 B)
theorem zr_Tr_newValue_95 (B : zs_B p s m args meth c G bb_Tr_newValue 5 yy_Tr_newValue (some .int)) : zA_Tr_newValue p l e s m args below meth c G Q 95 (zb_Tr_newValue_95 Q) := by
  unfold zb_Tr_newValue_95
  refine za_ild_n B.1 3 dd_Tr_newValue_95 rfl ?_
  refine za_goto B.1 100 dd_Tr_newValue_96 (by decide) ?_
  exact (zr_Tr_newValue_100 B)
theorem zr_Tr_newValue_87 (B : zs_B p s m args meth c G bb_Tr_newValue 5 yy_Tr_newValue (some .int)) : zA_Tr_newValue p l e s m args below meth c G Q 87 (zb_Tr_newValue_87 Q) := by
  unfold zb_Tr_newValue_87
  refine za_ild_n B.1 1 dd_Tr_newValue_87 rfl ?_
  refine za_ald_n B.1 0 dd_Tr_newValue_88 rfl ?_
  refine za_gtI B.1 6 2 zi_6 rfl (by decide) (by decide) rfl zW_125 rfl dd_Tr_newValue_89 ?_
  exact za_cmp_ne B.1 99 dd_Tr_newValue_92 (by decide) (zr_Tr_newValue_95 B) (zr_Tr_newValue_99 B)
theorem zr_Tr_newValue_101 (B : zs_B p s m args meth c G bb_Tr_newValue 5 yy_Tr_newValue (some .int)) : zA_Tr_newValue p l e s m args below meth c G Q 101 (zb_Tr_newValue_101 Q) := by
  unfold zb_Tr_newValue_101
  refine za_ild_n B.1 2 dd_Tr_newValue_101 rfl ?_
  refine za_ald_n B.1 0 dd_Tr_newValue_102 rfl ?_
  refine za_gtI B.1 6 4 zi_6 rfl (by decide) (by decide) rfl zW_127 rfl dd_Tr_newValue_103 ?_
  refine za_add B.1 dd_Tr_newValue_106 ?_
  exact za_irt B.1 0 0 B.2.1 B.2.2.1 dd_Tr_newValue_107
theorem zr_Tr_newValue_108 (B : zs_B p s m args meth c G bb_Tr_newValue 5 yy_Tr_newValue (some .int)) : zA_Tr_newValue p l e s m args below meth c G Q 108 (zb_Tr_newValue_108 Q) := by
  unfold zb_Tr_newValue_108
  refine za_ild_n B.1 2 dd_Tr_newValue_108 rfl ?_
  refine za_ild_n B.1 3 dd_Tr_newValue_109 rfl ?_
  refine za_max B.1 0 0 rfl rfl (by decide) zW_286 zW_39 zW_3 zW_40 dd_Tr_newValue_110 ?_
  exact za_irt B.1 0 0 B.2.1 B.2.2.1 dd_Tr_newValue_113
theorem zr_Tr_newValue_0 (B : zs_B p s m args meth c G bb_Tr_newValue 5 yy_Tr_newValue (some .int)) : zA_Tr_newValue p l e s m args below meth c G Q 0 (zb_Tr_newValue_0 Q) := by
  unfold zb_Tr_newValue_0
  refine za_ald_n B.1 0 dd_Tr_newValue_0 rfl ?_
  refine za_gtI B.1 6 1 zi_6 rfl (by decide) (by decide) rfl zW_124 rfl dd_Tr_newValue_1 ?_
  refine za_sw0 ?_
  refine za_swc (off := 36) B.1 0 0 40 dd_Tr_newValue_4 (by decide) (by decide) (by decide) (by decide) (zr_Tr_newValue_40 B) ?_
  refine za_swc (off := 74) B.1 1 1 78 dd_Tr_newValue_4 (by decide) (by decide) (by decide) (by decide) (zr_Tr_newValue_78 B) ?_
  refine za_swc (off := 78) B.1 2 2 82 dd_Tr_newValue_4 (by decide) (by decide) (by decide) (by decide) (zr_Tr_newValue_82 B) ?_
  refine za_swc (off := 83) B.1 3 3 87 dd_Tr_newValue_4 (by decide) (by decide) (by decide) (by decide) (zr_Tr_newValue_87 B) ?_
  refine za_swc (off := 97) B.1 4 4 101 dd_Tr_newValue_4 (by decide) (by decide) (by decide) (by decide) (zr_Tr_newValue_101 B) ?_
  exact za_swd B.1 108 dd_Tr_newValue_4 (fun x hx => by
    have h0 := lv_neT (a := 0) (hx 0 (by decide)) (by decide)
    have h1 := lv_neT (a := 1) (hx 1 (by decide)) (by decide)
    have h2 := lv_neT (a := 2) (hx 2 (by decide)) (by decide)
    have h3 := lv_neT (a := 3) (hx 3 (by decide)) (by decide)
    have h4 := lv_neT (a := 4) (hx 4 (by decide)) (by decide)
    omega) (by decide) (zr_Tr_newValue_108 B)
end
theorem zm_Tr_newValue (l : Launch) (G : zs_G) (As : List Value) (σ : zs_S) (Q : zs_Q) (h : zw_Tr_newValue As σ Q) : zs_Met l yy_Tr_newValue (Cond.code yy_Tr_newValue bb_Tr_newValue 5 (some .int) :: zw_all) zk_Tr_newValue G As σ Q 0 0 := by
  unfold zw_Tr_newValue at h
  split at h
  · exact zs_enter (by decide +kernel) h.1 (Nat.le_of_ble_eq_true rfl) h.2 (fun p e s m args below meth c B => zr_Tr_newValue_0 B)
  · exact h.elim
-- SequencedBatches$Replica.write(LSequencedBatches$Transaction;I)V
theorem dd_Rp_write_0 : decode bb_Rp_write 0 = .ok (.aload_n 0, 1) := by decide +kernel
theorem dd_Rp_write_1 : decode bb_Rp_write 1 = .ok (.getfield 40, 3) := by decide +kernel
theorem dd_Rp_write_4 : decode bb_Rp_write 4 = .ok (.aload_n 1, 1) := by decide +kernel
theorem dd_Rp_write_5 : decode bb_Rp_write 5 = .ok (.getfield 66, 3) := by decide +kernel
theorem dd_Rp_write_8 : decode bb_Rp_write 8 = .ok (.iaload, 1) := by decide +kernel
theorem dd_Rp_write_9 : decode bb_Rp_write 9 = .ok (.istore_n 3, 1) := by decide +kernel
theorem dd_Rp_write_10 : decode bb_Rp_write 10 = .ok (.aload_n 0, 1) := by decide +kernel
theorem dd_Rp_write_11 : decode bb_Rp_write 11 = .ok (.getfield 43, 3) := by decide +kernel
theorem dd_Rp_write_14 : decode bb_Rp_write 14 = .ok (.aload_n 1, 1) := by decide +kernel
theorem dd_Rp_write_15 : decode bb_Rp_write 15 = .ok (.getfield 66, 3) := by decide +kernel
theorem dd_Rp_write_18 : decode bb_Rp_write 18 = .ok (.iaload, 1) := by decide +kernel
theorem dd_Rp_write_19 : decode bb_Rp_write 19 = .ok (.istore 4, 2) := by decide +kernel
theorem dd_Rp_write_21 : decode bb_Rp_write 21 = .ok (.iconst 0, 1) := by decide +kernel
theorem dd_Rp_write_22 : decode bb_Rp_write 22 = .ok (.istore 5, 2) := by decide +kernel
theorem dd_Rp_write_24 : decode bb_Rp_write 24 = .ok (.iload 5, 2) := by decide +kernel
theorem dd_Rp_write_26 : decode bb_Rp_write 26 = .ok (.bipush 12, 2) := by decide +kernel
theorem dd_Rp_write_28 : decode bb_Rp_write 28 = .ok (.if_icmp .ge 38, 3) := by decide +kernel
theorem dd_Rp_write_31 : decode bb_Rp_write 31 = .ok (.aload_n 1, 1) := by decide +kernel
theorem dd_Rp_write_32 : decode bb_Rp_write 32 = .ok (.iload_n 2, 1) := by decide +kernel
theorem dd_Rp_write_33 : decode bb_Rp_write 33 = .ok (.iconst 1, 1) := by decide +kernel
theorem dd_Rp_write_34 : decode bb_Rp_write 34 = .ok (.iload 5, 2) := by decide +kernel
theorem dd_Rp_write_36 : decode bb_Rp_write 36 = .ok (.ishl, 1) := by decide +kernel
theorem dd_Rp_write_37 : decode bb_Rp_write 37 = .ok (.iand, 1) := by decide +kernel
theorem dd_Rp_write_38 : decode bb_Rp_write 38 = .ok (.invokevirtual 132, 3) := by decide +kernel
theorem dd_Rp_write_41 : decode bb_Rp_write 41 = .ok (.ifCond .eq 19, 3) := by decide +kernel
theorem dd_Rp_write_44 : decode bb_Rp_write 44 = .ok (.aload_n 0, 1) := by decide +kernel
theorem dd_Rp_write_45 : decode bb_Rp_write 45 = .ok (.getfield 37, 3) := by decide +kernel
theorem dd_Rp_write_48 : decode bb_Rp_write 48 = .ok (.iload 5, 2) := by decide +kernel
theorem dd_Rp_write_50 : decode bb_Rp_write 50 = .ok (.aload_n 1, 1) := by decide +kernel
theorem dd_Rp_write_51 : decode bb_Rp_write 51 = .ok (.iload 5, 2) := by decide +kernel
theorem dd_Rp_write_53 : decode bb_Rp_write 53 = .ok (.iload_n 3, 1) := by decide +kernel
theorem dd_Rp_write_54 : decode bb_Rp_write 54 = .ok (.iload 4, 2) := by decide +kernel
theorem dd_Rp_write_56 : decode bb_Rp_write 56 = .ok (.invokevirtual 141, 3) := by decide +kernel
theorem dd_Rp_write_59 : decode bb_Rp_write 59 = .ok (.iastore, 1) := by decide +kernel
theorem dd_Rp_write_60 : decode bb_Rp_write 60 = .ok (.iinc 5 1, 3) := by decide +kernel
theorem dd_Rp_write_63 : decode bb_Rp_write 63 = .ok (.goto (-39), 3) := by decide +kernel
theorem dd_Rp_write_66 : decode bb_Rp_write 66 = .ok (.return_, 1) := by decide +kernel
def zk_Rp_write : Room := { frames := 2, cells := 0, slots := 0, locals := 64 }
abbrev zA_Rp_write (p : Program) (l : Launch) (e : Env) (s : State) (m : MethodId) (args : Array Value) (below : List Frame) (meth : Method) (c : Code) (G : zs_G) (Q : zs_Q) (pc : Nat) (P : zs_P) : Prop := zs_At p l e zk_Rp_write s m args below meth c (MQ below (zs_Qc G Q) args s 0 0 (fun q => zg_z G ≤ q)) G 6 pc P
def zb_Rp_write_66 (Q : zs_Q) : zs_P := zt_vrt 0 0 Q
def zb_Rp_write_60 (Q : zs_Q) (K24 : zs_P) : zs_P := zt_inc 5 1 (K24)
def zb_Rp_write_44 (Q : zs_Q) (K24 : zs_P) : zs_P := zt_ald 0 (zt_gtR 3 6 (zt_ild 5 (zt_ald 1 (zt_ild 5 (zt_ild 3 (zt_ild 4 (zt_cav 6 zw_Tr_newValue (3 + 1) 0 0 0 0 (zt_ias ((zb_Rp_write_60 Q K24))))))))))
def zb_Rp_write_31 (Q : zs_Q) (K24 : zs_P) : zs_P := zt_ald 1 (zt_ild 2 (zt_psh 1 (zt_ild 5 (zt_bin (fun x y => x <<< (y &&& 31)) (zt_bin (fun x y => x &&& y) (zt_cav 6 zw_Tr_writes (1 + 1) 0 0 0 0 (zt_if (fun x => x = 0) (zb_Rp_write_60 Q K24) (zb_Rp_write_44 Q K24))))))))
def zb_Rp_write_24 (Q : zs_Q) (K24 : zs_P) : zs_P := zt_ild 5 (zt_psh 12 (zt_cmp (fun x y => y ≤ x) (zb_Rp_write_66 Q) (zb_Rp_write_31 Q K24)))
def zl_Rp_write_24 (Q : zs_Q) : zs_P := zt_ex (zb_Rp_write_24 Q)
def zb_Rp_write_0 (Q : zs_Q) : zs_P := zt_ald 0 (zt_gtR 3 8 (zt_ald 1 (zt_gtI 6 0 (zt_xld 100 (zt_ist 3 (zt_ald 0 (zt_gtR 3 9 (zt_ald 1 (zt_gtI 6 0 (zt_xld 100 (zt_ist 4 (zt_psh 0 (zt_ist 5 ((zl_Rp_write_24 Q)))))))))))))))
def zw_Rp_write : zs_W := fun As σ Q => match As with
  | [a0, a1, a2] => zs_c1 [a0, a1, a2] = true ∧ zb_Rp_write_0 Q [some a0, some a1, some a2, none, none, none] [] σ 0 0
  | _ => False
section
variable {p : Program} {l : Launch} {e : Env} {s : State} {m : MethodId} {args : Array Value} {below : List Frame} {meth : Method} {c : Code} {G : zs_G} {Q : zs_Q}
theorem zr_Rp_write_66 (B : zs_B p s m args meth c G bb_Rp_write 6 yy_Rp_write none) : zA_Rp_write p l e s m args below meth c G Q 66 (zb_Rp_write_66 Q) := by
  unfold zb_Rp_write_66
  exact za_vrt B.1 0 0 B.2.1 B.2.2.1 dd_Rp_write_66
theorem zr_Rp_write_60 (B : zs_B p s m args meth c G bb_Rp_write 6 yy_Rp_write none) {K24 : zs_P} (h24 : zA_Rp_write p l e s m args below meth c G Q 24 K24) : zA_Rp_write p l e s m args below meth c G Q 60 (zb_Rp_write_60 Q K24) := by
  unfold zb_Rp_write_60
  refine za_inc B.1 1 dd_Rp_write_60 (by decide) (by decide) ?_
  refine za_goto B.1 24 dd_Rp_write_63 (by decide) ?_
  exact h24
theorem zr_Rp_write_44 (B : zs_B p s m args meth c G bb_Rp_write 6 yy_Rp_write none) {K24 : zs_P} (h24 : zA_Rp_write p l e s m args below meth c G Q 24 K24) : zA_Rp_write p l e s m args below meth c G Q 44 (zb_Rp_write_44 Q K24) := by
  unfold zb_Rp_write_44
  refine za_ald_n B.1 0 dd_Rp_write_44 rfl ?_
  refine za_gtR B.1 3 6 zi_3 rfl (by decide) (by decide) rfl zW_84 rfl dd_Rp_write_45 ?_
  refine za_ild B.1 dd_Rp_write_48 ?_
  refine za_ald_n B.1 1 dd_Rp_write_50 rfl ?_
  refine za_ild B.1 dd_Rp_write_51 ?_
  refine za_ild_n B.1 3 dd_Rp_write_53 rfl ?_
  refine za_ild B.1 dd_Rp_write_54 ?_
  refine za_cV B.1 6 3 0 0 0 0 rfl rfl rfl (by decide) (zm_Tr_newValue l G) ⟨callB_of 3 B.1.1.2.2.2.2 (zs_good zW_285) rfl rfl rfl (B.1.1.2.2.2.2 _ zW_9) (B.1.1.2.2.2.2 _ zW_282) (by decide +kernel) ⟨by decide, by decide⟩, (B.1.1.2.2.2.2 _ zW_283), (B.1.1.2.2.2.2 _ zW_284)⟩ dd_Rp_write_56 ?_
  refine za_iast B.1 dd_Rp_write_59 ?_
  exact (zr_Rp_write_60 B h24)
theorem zr_Rp_write_31 (B : zs_B p s m args meth c G bb_Rp_write 6 yy_Rp_write none) {K24 : zs_P} (h24 : zA_Rp_write p l e s m args below meth c G Q 24 K24) : zA_Rp_write p l e s m args below meth c G Q 31 (zb_Rp_write_31 Q K24) := by
  unfold zb_Rp_write_31
  refine za_ald_n B.1 1 dd_Rp_write_31 rfl ?_
  refine za_ild_n B.1 2 dd_Rp_write_32 rfl ?_
  refine za_ico B.1 1 dd_Rp_write_33 (by decide) ?_
  refine za_ild B.1 dd_Rp_write_34 ?_
  refine za_shl B.1 dd_Rp_write_36 ?_
  refine za_and B.1 dd_Rp_write_37 ?_
  refine za_cV B.1 6 1 0 0 0 0 rfl rfl rfl (by decide) (zm_Tr_writes l G) ⟨callB_of 1 B.1.1.2.2.2.2 (zs_good zW_270) rfl rfl rfl (B.1.1.2.2.2.2 _ zW_9) (B.1.1.2.2.2.2 _ zW_267) (by decide +kernel) ⟨by decide, by decide⟩, (B.1.1.2.2.2.2 _ zW_268), (B.1.1.2.2.2.2 _ zW_269)⟩ dd_Rp_write_38 ?_
  exact za_if_eq B.1 60 dd_Rp_write_41 (by decide) (zr_Rp_write_60 B h24) (zr_Rp_write_44 B h24)
theorem zr_Rp_write_24 (B : zs_B p s m args meth c G bb_Rp_write 6 yy_Rp_write none) {K24 : zs_P} (h24 : zA_Rp_write p l e s m args below meth c G Q 24 K24) : zA_Rp_write p l e s m args below meth c G Q 24 (zb_Rp_write_24 Q K24) := by
  unfold zb_Rp_write_24
  refine za_ild B.1 dd_Rp_write_24 ?_
  refine za_bip B.1 12 dd_Rp_write_26 (by decide) ?_
  exact za_cmp_ge B.1 66 dd_Rp_write_28 (by decide) (zr_Rp_write_66 B) (zr_Rp_write_31 B h24)
theorem zq_Rp_write_24 (B : zs_B p s m args meth c G bb_Rp_write 6 yy_Rp_write none) : zA_Rp_write p l e s m args below meth c G Q 24 (zl_Rp_write_24 Q) := za_lop (fun K hK => zr_Rp_write_24 B hK)
theorem zr_Rp_write_0 (B : zs_B p s m args meth c G bb_Rp_write 6 yy_Rp_write none) : zA_Rp_write p l e s m args below meth c G Q 0 (zb_Rp_write_0 Q) := by
  unfold zb_Rp_write_0
  refine za_ald_n B.1 0 dd_Rp_write_0 rfl ?_
  refine za_gtR B.1 3 8 zi_3 rfl (by decide) (by decide) rfl zW_86 rfl dd_Rp_write_1 ?_
  refine za_ald_n B.1 1 dd_Rp_write_4 rfl ?_
  refine za_gtIN (host := "SequencedBatches") B.1 6 0 zi_6 rfl (by decide) (by decide) rfl (by decide +kernel) rfl dd_Rp_write_5 ?_
  refine za_iald B.1 dd_Rp_write_8 ?_
  refine za_ist_n B.1 3 dd_Rp_write_9 rfl (by decide) ?_
  refine za_ald_n B.1 0 dd_Rp_write_10 rfl ?_
  refine za_gtR B.1 3 9 zi_3 rfl (by decide) (by decide) rfl zW_87 rfl dd_Rp_write_11 ?_
  refine za_ald_n B.1 1 dd_Rp_write_14 rfl ?_
  refine za_gtIN (host := "SequencedBatches") B.1 6 0 zi_6 rfl (by decide) (by decide) rfl (by decide +kernel) rfl dd_Rp_write_15 ?_
  refine za_iald B.1 dd_Rp_write_18 ?_
  refine za_ist B.1 dd_Rp_write_19 (by decide) ?_
  refine za_ico B.1 0 dd_Rp_write_21 (by decide) ?_
  refine za_ist B.1 dd_Rp_write_22 (by decide) ?_
  exact (zq_Rp_write_24 B)
end
theorem zm_Rp_write (l : Launch) (G : zs_G) (As : List Value) (σ : zs_S) (Q : zs_Q) (h : zw_Rp_write As σ Q) : zs_Met l yy_Rp_write (Cond.code yy_Rp_write bb_Rp_write 6 none :: zw_all) zk_Rp_write G As σ Q 0 0 := by
  unfold zw_Rp_write at h
  split at h
  · exact zs_enter (by decide +kernel) h.1 (Nat.le_of_ble_eq_true rfl) h.2 (fun p e s m args below meth c B => zr_Rp_write_0 B)
  · exact h.elim
-- SequencedBatches$Replica.finishIfComplete(LSequencedBatches$Partition;I)V
theorem dd_Rp_finishIfComplete_0 : decode bb_Rp_finishIfComplete 0 = .ok (.aload_n 1, 1) := by decide +kernel
theorem dd_Rp_finishIfComplete_1 : decode bb_Rp_finishIfComplete 1 = .ok (.getfield 108, 3) := by decide +kernel
theorem dd_Rp_finishIfComplete_4 : decode bb_Rp_finishIfComplete 4 = .ok (.iload_n 2, 1) := by decide +kernel
theorem dd_Rp_finishIfComplete_5 : decode bb_Rp_finishIfComplete 5 = .ok (.baload, 1) := by decide +kernel
theorem dd_Rp_finishIfComplete_6 : decode bb_Rp_finishIfComplete 6 = .ok (.ifCond .ne 4, 3) := by decide +kernel
theorem dd_Rp_finishIfComplete_9 : decode bb_Rp_finishIfComplete 9 = .ok (.return_, 1) := by decide +kernel
theorem dd_Rp_finishIfComplete_10 : decode bb_Rp_finishIfComplete 10 = .ok (.aload_n 1, 1) := by decide +kernel
theorem dd_Rp_finishIfComplete_11 : decode bb_Rp_finishIfComplete 11 = .ok (.getfield 98, 3) := by decide +kernel
theorem dd_Rp_finishIfComplete_14 : decode bb_Rp_finishIfComplete 14 = .ok (.iload_n 2, 1) := by decide +kernel
theorem dd_Rp_finishIfComplete_15 : decode bb_Rp_finishIfComplete 15 = .ok (.aaload, 1) := by decide +kernel
theorem dd_Rp_finishIfComplete_16 : decode bb_Rp_finishIfComplete 16 = .ok (.astore_n 3, 1) := by decide +kernel
theorem dd_Rp_finishIfComplete_17 : decode bb_Rp_finishIfComplete 17 = .ok (.aload_n 1, 1) := by decide +kernel
theorem dd_Rp_finishIfComplete_18 : decode bb_Rp_finishIfComplete 18 = .ok (.getfield 101, 3) := by decide +kernel
theorem dd_Rp_finishIfComplete_21 : decode bb_Rp_finishIfComplete 21 = .ok (.aload_n 1, 1) := by decide +kernel
theorem dd_Rp_finishIfComplete_22 : decode bb_Rp_finishIfComplete 22 = .ok (.getfield 116, 3) := by decide +kernel
theorem dd_Rp_finishIfComplete_25 : decode bb_Rp_finishIfComplete 25 = .ok (.aload_n 3, 1) := by decide +kernel
theorem dd_Rp_finishIfComplete_26 : decode bb_Rp_finishIfComplete 26 = .ok (.getfield 66, 3) := by decide +kernel
theorem dd_Rp_finishIfComplete_29 : decode bb_Rp_finishIfComplete 29 = .ok (.iaload, 1) := by decide +kernel
theorem dd_Rp_finishIfComplete_30 : decode bb_Rp_finishIfComplete 30 = .ok (.ior, 1) := by decide +kernel
theorem dd_Rp_finishIfComplete_31 : decode bb_Rp_finishIfComplete 31 = .ok (.istore 4, 2) := by decide +kernel
theorem dd_Rp_finishIfComplete_33 : decode bb_Rp_finishIfComplete 33 = .ok (.aload_n 3, 1) := by decide +kernel
theorem dd_Rp_finishIfComplete_34 : decode bb_Rp_finishIfComplete 34 = .ok (.aload_n 1, 1) := by decide +kernel
theorem dd_Rp_finishIfComplete_35 : decode bb_Rp_finishIfComplete 35 = .ok (.getfield 101, 3) := by decide +kernel
theorem dd_Rp_finishIfComplete_38 : decode bb_Rp_finishIfComplete 38 = .ok (.invokevirtual 132, 3) := by decide +kernel
theorem dd_Rp_finishIfComplete_41 : decode bb_Rp_finishIfComplete 41 = .ok (.ifCond .ne 11, 3) := by decide +kernel
theorem dd_Rp_finishIfComplete_44 : decode bb_Rp_finishIfComplete 44 = .ok (.aload_n 1, 1) := by decide +kernel
theorem dd_Rp_finishIfComplete_45 : decode bb_Rp_finishIfComplete 45 = .ok (.iload_n 2, 1) := by decide +kernel
theorem dd_Rp_finishIfComplete_46 : decode bb_Rp_finishIfComplete 46 = .ok (.invokevirtual 135, 3) := by decide +kernel
theorem dd_Rp_finishIfComplete_49 : decode bb_Rp_finishIfComplete 49 = .ok (.goto 28, 3) := by decide +kernel
theorem dd_Rp_finishIfComplete_52 : decode bb_Rp_finishIfComplete 52 = .ok (.aload_n 3, 1) := by decide +kernel
theorem dd_Rp_finishIfComplete_53 : decode bb_Rp_finishIfComplete 53 = .ok (.iload 4, 2) := by decide +kernel
theorem dd_Rp_finishIfComplete_55 : decode bb_Rp_finishIfComplete 55 = .ok (.iconst (-1), 1) := by decide +kernel
theorem dd_Rp_finishIfComplete_56 : decode bb_Rp_finishIfComplete 56 = .ok (.ixor, 1) := by decide +kernel
theorem dd_Rp_finishIfComplete_57 : decode bb_Rp_finishIfComplete 57 = .ok (.invokevirtual 125, 3) := by decide +kernel
theorem dd_Rp_finishIfComplete_60 : decode bb_Rp_finishIfComplete 60 = .ok (.ifCond .ne 17, 3) := by decide +kernel
theorem dd_Rp_finishIfComplete_63 : decode bb_Rp_finishIfComplete 63 = .ok (.aload_n 0, 1) := by decide +kernel
theorem dd_Rp_finishIfComplete_64 : decode bb_Rp_finishIfComplete 64 = .ok (.aload_n 3, 1) := by decide +kernel
theorem dd_Rp_finishIfComplete_65 : decode bb_Rp_finishIfComplete 65 = .ok (.aload_n 1, 1) := by decide +kernel
theorem dd_Rp_finishIfComplete_66 : decode bb_Rp_finishIfComplete 66 = .ok (.getfield 101, 3) := by decide +kernel
theorem dd_Rp_finishIfComplete_69 : decode bb_Rp_finishIfComplete 69 = .ok (.invokevirtual 138, 3) := by decide +kernel
theorem dd_Rp_finishIfComplete_72 : decode bb_Rp_finishIfComplete 72 = .ok (.aload_n 1, 1) := by decide +kernel
theorem dd_Rp_finishIfComplete_73 : decode bb_Rp_finishIfComplete 73 = .ok (.iload_n 2, 1) := by decide +kernel
theorem dd_Rp_finishIfComplete_74 : decode bb_Rp_finishIfComplete 74 = .ok (.invokevirtual 135, 3) := by decide +kernel
theorem dd_Rp_finishIfComplete_77 : decode bb_Rp_finishIfComplete 77 = .ok (.return_, 1) := by decide +kernel
def zk_Rp_finishIfComplete : Room := { frames := 3, cells := 0, slots := 0, locals := 89 }
abbrev zA_Rp_finishIfComplete (p : Program) (l : Launch) (e : Env) (s : State) (m : MethodId) (args : Array Value) (below : List Frame) (meth : Method) (c : Code) (G : zs_G) (Q : zs_Q) (pc : Nat) (P : zs_P) : Prop := zs_At p l e zk_Rp_finishIfComplete s m args below meth c (MQ below (zs_Qc G Q) args s 0 0 (fun q => zg_z G ≤ q)) G 5 pc P
def zb_Rp_finishIfComplete_77 (Q : zs_Q) : zs_P := zt_vrt 0 0 Q
def zb_Rp_finishIfComplete_63 (Q : zs_Q) : zs_P := zt_ald 0 (zt_ald 3 (zt_ald 1 (zt_gtI 1 0 (zt_cav 3 zw_Rp_write (2 + 1) 0 0 0 0 (zt_ald 1 (zt_ild 2 (zt_cav 1 zw_Pa_finish (1 + 1) 0 0 0 0 ((zb_Rp_finishIfComplete_77 Q)))))))))
def zb_Rp_finishIfComplete_52 (Q : zs_Q) : zs_P := zt_ald 3 (zt_ild 4 (zt_psh (-1) (zt_bin (fun x y => x ^^^ y) (zt_cav 6 zw_Tr_reads (1 + 1) 0 0 0 0 (zt_if (fun x => x = 0) (zb_Rp_finishIfComplete_63 Q) (zb_Rp_finishIfComplete_77 Q))))))
def zb_Rp_finishIfComplete_44 (Q : zs_Q) : zs_P := zt_ald 1 (zt_ild 2 (zt_cav 1 zw_Pa_finish (1 + 1) 0 0 0 0 ((zb_Rp_finishIfComplete_77 Q))))
def zb_Rp_finishIfComplete_10 (Q : zs_Q) : zs_P := zt_ald 1 (zt_gtR 1 2 (zt_ild 2 (zt_rld (110 + 6) (zt_ast 3 (zt_ald 1 (zt_gtI 1 0 (zt_ald 1 (zt_gtR 1 5 (zt_ald 3 (zt_gtI 6 0 (zt_xld 100 (zt_bin (fun x y => x ||| y) (zt_ist 4 (zt_ald 3 (zt_ald 1 (zt_gtI 1 0 (zt_cav 6 zw_Tr_writes (1 + 1) 0 0 0 0 (zt_if (fun x => x = 0) (zb_Rp_finishIfComplete_44 Q) (zb_Rp_finishIfComplete_52 Q)))))))))))))))))))
def zb_Rp_finishIfComplete_9 (Q : zs_Q) : zs_P := zt_vrt 0 0 Q
def zb_Rp_finishIfComplete_0 (Q : zs_Q) : zs_P := zt_ald 1 (zt_gtR 1 3 (zt_ild 2 (zt_xld 101 (zt_if (fun x => x = 0) (zb_Rp_finishIfComplete_9 Q) (zb_Rp_finishIfComplete_10 Q)))))
def zw_Rp_finishIfComplete : zs_W := fun As σ Q => match As with
  | [a0, a1, a2] => zs_c1 [a0, a1, a2] = true ∧ zb_Rp_finishIfComplete_0 Q [some a0, some a1, some a2, none, none] [] σ 0 0
  | _ => False
section
variable {p : Program} {l : Launch} {e : Env} {s : State} {m : MethodId} {args : Array Value} {below : List Frame} {meth : Method} {c : Code} {G : zs_G} {Q : zs_Q}
theorem zr_Rp_finishIfComplete_77 (B : zs_B p s m args meth c G bb_Rp_finishIfComplete 5 yy_Rp_finishIfComplete none) : zA_Rp_finishIfComplete p l e s m args below meth c G Q 77 (zb_Rp_finishIfComplete_77 Q) := by
  unfold zb_Rp_finishIfComplete_77
  exact za_vrt B.1 0 0 B.2.1 B.2.2.1 dd_Rp_finishIfComplete_77
theorem zr_Rp_finishIfComplete_63 (B : zs_B p s m args meth c G bb_Rp_finishIfComplete 5 yy_Rp_finishIfComplete none) : zA_Rp_finishIfComplete p l e s m args below meth c G Q 63 (zb_Rp_finishIfComplete_63 Q) := by
  unfold zb_Rp_finishIfComplete_63
  refine za_ald_n B.1 0 dd_Rp_finishIfComplete_63 rfl ?_
  refine za_ald_n B.1 3 dd_Rp_finishIfComplete_64 rfl ?_
  refine za_ald_n B.1 1 dd_Rp_finishIfComplete_65 rfl ?_
  refine za_gtIN (host := "SequencedBatches") B.1 1 0 zi_1 rfl (by decide) (by decide) rfl (by decide +kernel) rfl dd_Rp_finishIfComplete_66 ?_
  refine za_cV B.1 3 2 0 0 0 0 rfl rfl rfl (by decide) (zm_Rp_write l G) ⟨callB_of 2 B.1.1.2.2.2.2 (zs_good zW_281) rfl rfl rfl (B.1.1.2.2.2.2 _ zW_6) (B.1.1.2.2.2.2 _ zW_279) (by decide +kernel) ⟨by decide, by decide⟩, (B.1.1.2.2.2.2 _ zW_280), (B.1.1.2.2.2.2 _ zW_668)⟩ dd_Rp_finishIfComplete_69 ?_
  refine za_ald_n B.1 1 dd_Rp_finishIfComplete_72 rfl ?_
  refine za_ild_n B.1 2 dd_Rp_finishIfComplete_73 rfl ?_
  refine za_cV B.1 1 1 0 0 0 0 rfl rfl rfl (by decide) (zm_Pa_finish l G) ⟨callB_of 1 B.1.1.2.2.2.2 (zs_good zW_274) rfl rfl rfl (B.1.1.2.2.2.2 _ zW_7) (B.1.1.2.2.2.2 _ zW_271) (by decide +kernel) ⟨by decide, by decide⟩, (B.1.1.2.2.2.2 _ zW_272), (B.1.1.2.2.2.2 _ zW_273)⟩ dd_Rp_finishIfComplete_74 ?_
  exact (zr_Rp_finishIfComplete_77 B)
theorem zr_Rp_finishIfComplete_52 (B : zs_B p s m args meth c G bb_Rp_finishIfComplete 5 yy_Rp_finishIfComplete none) : zA_Rp_finishIfComplete p l e s m args below meth c G Q 52 (zb_Rp_finishIfComplete_52 Q) := by
  unfold zb_Rp_finishIfComplete_52
  refine za_ald_n B.1 3 dd_Rp_finishIfComplete_52 rfl ?_
  refine za_ild B.1 dd_Rp_finishIfComplete_53 ?_
  refine za_ico B.1 (-1) dd_Rp_finishIfComplete_55 (by decide) ?_
  refine za_xor B.1 dd_Rp_finishIfComplete_56 ?_
  refine za_cV B.1 6 1 0 0 0 0 rfl rfl rfl (by decide) (zm_Tr_reads l G) ⟨callB_of 1 B.1.1.2.2.2.2 (zs_good zW_278) rfl rfl rfl (B.1.1.2.2.2.2 _ zW_9) (B.1.1.2.2.2.2 _ zW_275) (by decide +kernel) ⟨by decide, by decide⟩, (B.1.1.2.2.2.2 _ zW_276), (B.1.1.2.2.2.2 _ zW_277)⟩ dd_Rp_finishIfComplete_57 ?_
  exact za_if_ne B.1 77 dd_Rp_finishIfComplete_60 (by decide) (zr_Rp_finishIfComplete_63 B) (zr_Rp_finishIfComplete_77 B)
theorem zr_Rp_finishIfComplete_44 (B : zs_B p s m args meth c G bb_Rp_finishIfComplete 5 yy_Rp_finishIfComplete none) : zA_Rp_finishIfComplete p l e s m args below meth c G Q 44 (zb_Rp_finishIfComplete_44 Q) := by
  unfold zb_Rp_finishIfComplete_44
  refine za_ald_n B.1 1 dd_Rp_finishIfComplete_44 rfl ?_
  refine za_ild_n B.1 2 dd_Rp_finishIfComplete_45 rfl ?_
  refine za_cV B.1 1 1 0 0 0 0 rfl rfl rfl (by decide) (zm_Pa_finish l G) ⟨callB_of 1 B.1.1.2.2.2.2 (zs_good zW_274) rfl rfl rfl (B.1.1.2.2.2.2 _ zW_7) (B.1.1.2.2.2.2 _ zW_271) (by decide +kernel) ⟨by decide, by decide⟩, (B.1.1.2.2.2.2 _ zW_272), (B.1.1.2.2.2.2 _ zW_273)⟩ dd_Rp_finishIfComplete_46 ?_
  refine za_goto B.1 77 dd_Rp_finishIfComplete_49 (by decide) ?_
  exact (zr_Rp_finishIfComplete_77 B)
theorem zr_Rp_finishIfComplete_10 (B : zs_B p s m args meth c G bb_Rp_finishIfComplete 5 yy_Rp_finishIfComplete none) : zA_Rp_finishIfComplete p l e s m args below meth c G Q 10 (zb_Rp_finishIfComplete_10 Q) := by
  unfold zb_Rp_finishIfComplete_10
  refine za_ald_n B.1 1 dd_Rp_finishIfComplete_10 rfl ?_
  refine za_gtRN (host := "SequencedBatches") B.1 1 2 zi_1 rfl (by decide) (by decide) rfl (by decide +kernel) rfl dd_Rp_finishIfComplete_11 ?_
  refine za_ild_n B.1 2 dd_Rp_finishIfComplete_14 rfl ?_
  refine za_rld B.1 6 2 rfl dd_Rp_finishIfComplete_15 ?_
  refine za_ast_n B.1 3 dd_Rp_finishIfComplete_16 rfl (by decide) ?_
  refine za_ald_n B.1 1 dd_Rp_finishIfComplete_17 rfl ?_
  refine za_gtIN (host := "SequencedBatches") B.1 1 0 zi_1 rfl (by decide) (by decide) rfl (by decide +kernel) rfl dd_Rp_finishIfComplete_18 ?_
  refine za_ald_n B.1 1 dd_Rp_finishIfComplete_21 rfl ?_
  refine za_gtRN (host := "SequencedBatches") B.1 1 5 zi_1 rfl (by decide) (by decide) rfl (by decide +kernel) rfl dd_Rp_finishIfComplete_22 ?_
  refine za_ald_n B.1 3 dd_Rp_finishIfComplete_25 rfl ?_
  refine za_gtIN (host := "SequencedBatches") B.1 6 0 zi_6 rfl (by decide) (by decide) rfl (by decide +kernel) rfl dd_Rp_finishIfComplete_26 ?_
  refine za_iald B.1 dd_Rp_finishIfComplete_29 ?_
  refine za_ior B.1 dd_Rp_finishIfComplete_30 ?_
  refine za_ist B.1 dd_Rp_finishIfComplete_31 (by decide) ?_
  refine za_ald_n B.1 3 dd_Rp_finishIfComplete_33 rfl ?_
  refine za_ald_n B.1 1 dd_Rp_finishIfComplete_34 rfl ?_
  refine za_gtIN (host := "SequencedBatches") B.1 1 0 zi_1 rfl (by decide) (by decide) rfl (by decide +kernel) rfl dd_Rp_finishIfComplete_35 ?_
  refine za_cV B.1 6 1 0 0 0 0 rfl rfl rfl (by decide) (zm_Tr_writes l G) ⟨callB_of 1 B.1.1.2.2.2.2 (zs_good zW_270) rfl rfl rfl (B.1.1.2.2.2.2 _ zW_9) (B.1.1.2.2.2.2 _ zW_267) (by decide +kernel) ⟨by decide, by decide⟩, (B.1.1.2.2.2.2 _ zW_268), (B.1.1.2.2.2.2 _ zW_269)⟩ dd_Rp_finishIfComplete_38 ?_
  exact za_if_ne B.1 52 dd_Rp_finishIfComplete_41 (by decide) (zr_Rp_finishIfComplete_44 B) (zr_Rp_finishIfComplete_52 B)
theorem zr_Rp_finishIfComplete_9 (B : zs_B p s m args meth c G bb_Rp_finishIfComplete 5 yy_Rp_finishIfComplete none) : zA_Rp_finishIfComplete p l e s m args below meth c G Q 9 (zb_Rp_finishIfComplete_9 Q) := by
  unfold zb_Rp_finishIfComplete_9
  exact za_vrt B.1 0 0 B.2.1 B.2.2.1 dd_Rp_finishIfComplete_9
theorem zr_Rp_finishIfComplete_0 (B : zs_B p s m args meth c G bb_Rp_finishIfComplete 5 yy_Rp_finishIfComplete none) : zA_Rp_finishIfComplete p l e s m args below meth c G Q 0 (zb_Rp_finishIfComplete_0 Q) := by
  unfold zb_Rp_finishIfComplete_0
  refine za_ald_n B.1 1 dd_Rp_finishIfComplete_0 rfl ?_
  refine za_gtRN (host := "SequencedBatches") B.1 1 3 zi_1 rfl (by decide) (by decide) rfl (by decide +kernel) rfl dd_Rp_finishIfComplete_1 ?_
  refine za_ild_n B.1 2 dd_Rp_finishIfComplete_4 rfl ?_
  refine za_zald B.1 dd_Rp_finishIfComplete_5 ?_
  exact za_if_ne B.1 10 dd_Rp_finishIfComplete_6 (by decide) (zr_Rp_finishIfComplete_9 B) (zr_Rp_finishIfComplete_10 B)
end
theorem zm_Rp_finishIfComplete (l : Launch) (G : zs_G) (As : List Value) (σ : zs_S) (Q : zs_Q) (h : zw_Rp_finishIfComplete As σ Q) : zs_Met l yy_Rp_finishIfComplete (Cond.code yy_Rp_finishIfComplete bb_Rp_finishIfComplete 5 none :: zw_all) zk_Rp_finishIfComplete G As σ Q 0 0 := by
  unfold zw_Rp_finishIfComplete at h
  split at h
  · exact zs_enter (by decide +kernel) h.1 (Nat.le_of_ble_eq_true rfl) h.2 (fun p e s m args below meth c B => zr_Rp_finishIfComplete_0 B)
  · exact h.elim
-- SequencedBatches$Replica.receiveValues(III)V
theorem dd_Rp_receiveValues_0 : decode bb_Rp_receiveValues 0 = .ok (.aload_n 0, 1) := by decide +kernel
theorem dd_Rp_receiveValues_1 : decode bb_Rp_receiveValues 1 = .ok (.getfield 48, 3) := by decide +kernel
theorem dd_Rp_receiveValues_4 : decode bb_Rp_receiveValues 4 = .ok (.iload_n 3, 1) := by decide +kernel
theorem dd_Rp_receiveValues_5 : decode bb_Rp_receiveValues 5 = .ok (.aaload, 1) := by decide +kernel
theorem dd_Rp_receiveValues_6 : decode bb_Rp_receiveValues 6 = .ok (.astore 4, 2) := by decide +kernel
theorem dd_Rp_receiveValues_8 : decode bb_Rp_receiveValues 8 = .ok (.aload 4, 2) := by decide +kernel
theorem dd_Rp_receiveValues_10 : decode bb_Rp_receiveValues 10 = .ok (.getfield 116, 3) := by decide +kernel
theorem dd_Rp_receiveValues_13 : decode bb_Rp_receiveValues 13 = .ok (.iload_n 1, 1) := by decide +kernel
theorem dd_Rp_receiveValues_14 : decode bb_Rp_receiveValues 14 = .ok (.dup2, 1) := by decide +kernel
theorem dd_Rp_receiveValues_15 : decode bb_Rp_receiveValues 15 = .ok (.iaload, 1) := by decide +kernel
theorem dd_Rp_receiveValues_16 : decode bb_Rp_receiveValues 16 = .ok (.aload_n 0, 1) := by decide +kernel
theorem dd_Rp_receiveValues_17 : decode bb_Rp_receiveValues 17 = .ok (.getfield 48, 3) := by decide +kernel
theorem dd_Rp_receiveValues_20 : decode bb_Rp_receiveValues 20 = .ok (.iload_n 2, 1) := by decide +kernel
theorem dd_Rp_receiveValues_21 : decode bb_Rp_receiveValues 21 = .ok (.aaload, 1) := by decide +kernel
theorem dd_Rp_receiveValues_22 : decode bb_Rp_receiveValues 22 = .ok (.getfield 101, 3) := by decide +kernel
theorem dd_Rp_receiveValues_25 : decode bb_Rp_receiveValues 25 = .ok (.ior, 1) := by decide +kernel
theorem dd_Rp_receiveValues_26 : decode bb_Rp_receiveValues 26 = .ok (.iastore, 1) := by decide +kernel
theorem dd_Rp_receiveValues_27 : decode bb_Rp_receiveValues 27 = .ok (.aload 4, 2) := by decide +kernel
theorem dd_Rp_receiveValues_29 : decode bb_Rp_receiveValues 29 = .ok (.iload_n 1, 1) := by decide +kernel
theorem dd_Rp_receiveValues_30 : decode bb_Rp_receiveValues 30 = .ok (.invokevirtual 119, 3) := by decide +kernel
theorem dd_Rp_receiveValues_33 : decode bb_Rp_receiveValues 33 = .ok (.istore 5, 2) := by decide +kernel
theorem dd_Rp_receiveValues_35 : decode bb_Rp_receiveValues 35 = .ok (.iload 5, 2) := by decide +kernel
theorem dd_Rp_receiveValues_37 : decode bb_Rp_receiveValues 37 = .ok (.iconst (-1), 1) := by decide +kernel
theorem dd_Rp_receiveValues_38 : decode bb_Rp_receiveValues 38 = .ok (.if_icmp .eq 11, 3) := by decide +kernel
theorem dd_Rp_receiveValues_41 : decode bb_Rp_receiveValues 41 = .ok (.aload_n 0, 1) := by decide +kernel
theorem dd_Rp_receiveValues_42 : decode bb_Rp_receiveValues 42 = .ok (.aload 4, 2) := by decide +kernel
theorem dd_Rp_receiveValues_44 : decode bb_Rp_receiveValues 44 = .ok (.iload 5, 2) := by decide +kernel
theorem dd_Rp_receiveValues_46 : decode bb_Rp_receiveValues 46 = .ok (.invokevirtual 112, 3) := by decide +kernel
theorem dd_Rp_receiveValues_49 : decode bb_Rp_receiveValues 49 = .ok (.return_, 1) := by decide +kernel
def zk_Rp_receiveValues : Room := { frames := 4, cells := 0, slots := 0, locals := 113 }
abbrev zA_Rp_receiveValues (p : Program) (l : Launch) (e : Env) (s : State) (m : MethodId) (args : Array Value) (below : List Frame) (meth : Method) (c : Code) (G : zs_G) (Q : zs_Q) (pc : Nat) (P : zs_P) : Prop := zs_At p l e zk_Rp_receiveValues s m args below meth c (MQ below (zs_Qc G Q) args s 0 0 (fun q => zg_z G ≤ q)) G 6 pc P
def zb_Rp_receiveValues_49 (Q : zs_Q) : zs_P := zt_vrt 0 0 Q
def zb_Rp_receiveValues_41 (Q : zs_Q) : zs_P := zt_ald 0 (zt_ald 4 (zt_ild 5 (zt_cav 3 zw_Rp_finishIfComplete (2 + 1) 0 0 0 0 ((zb_Rp_receiveValues_49 Q)))))
def zb_Rp_receiveValues_0 (Q : zs_Q) : zs_P := zt_ald 0 (zt_gtR 3 7 (zt_ild 3 (zt_rld (110 + 1) (zt_ast 4 (zt_ald 4 (zt_gtR 1 5 (zt_ild 1 (zt_du2 (zt_xld 100 (zt_ald 0 (zt_gtR 3 7 (zt_ild 2 (zt_rld (110 + 1) (zt_gtI 1 0 (zt_bin (fun x y => x ||| y) (zt_ias (zt_ald 4 (zt_ild 1 (zt_cav 1 zw_Pa_indexOfNumber (1 + 1) 0 0 0 0 (zt_ist 5 (zt_ild 5 (zt_psh (-1) (zt_cmp (fun x y => x = y) (zb_Rp_receiveValues_49 Q) (zb_Rp_receiveValues_41 Q))))))))))))))))))))))))
def zw_Rp_receiveValues : zs_W := fun As σ Q => match As with
  | [a0, a1, a2, a3] => zs_c1 [a0, a1, a2, a3] = true ∧ zb_Rp_receiveValues_0 Q [some a0, some a1, some a2, some a3, none, none] [] σ 0 0
  | _ => False
section
variable {p : Program} {l : Launch} {e : Env} {s : State} {m : MethodId} {args : Array Value} {below : List Frame} {meth : Method} {c : Code} {G : zs_G} {Q : zs_Q}
theorem zr_Rp_receiveValues_49 (B : zs_B p s m args meth c G bb_Rp_receiveValues 6 yy_Rp_receiveValues none) : zA_Rp_receiveValues p l e s m args below meth c G Q 49 (zb_Rp_receiveValues_49 Q) := by
  unfold zb_Rp_receiveValues_49
  exact za_vrt B.1 0 0 B.2.1 B.2.2.1 dd_Rp_receiveValues_49
theorem zr_Rp_receiveValues_41 (B : zs_B p s m args meth c G bb_Rp_receiveValues 6 yy_Rp_receiveValues none) : zA_Rp_receiveValues p l e s m args below meth c G Q 41 (zb_Rp_receiveValues_41 Q) := by
  unfold zb_Rp_receiveValues_41
  refine za_ald_n B.1 0 dd_Rp_receiveValues_41 rfl ?_
  refine za_ald B.1 dd_Rp_receiveValues_42 ?_
  refine za_ild B.1 dd_Rp_receiveValues_44 ?_
  refine za_cV B.1 3 2 0 0 0 0 rfl rfl rfl (by decide) (zm_Rp_finishIfComplete l G) ⟨callB_of 2 B.1.1.2.2.2.2 (zs_good zW_266) rfl rfl rfl (B.1.1.2.2.2.2 _ zW_6) (B.1.1.2.2.2.2 _ zW_264) (by decide +kernel) ⟨by decide, by decide⟩, (B.1.1.2.2.2.2 _ zW_265), (B.1.1.2.2.2.2 _ zW_667)⟩ dd_Rp_receiveValues_46 ?_
  exact (zr_Rp_receiveValues_49 B)
theorem zr_Rp_receiveValues_0 (B : zs_B p s m args meth c G bb_Rp_receiveValues 6 yy_Rp_receiveValues none) : zA_Rp_receiveValues p l e s m args below meth c G Q 0 (zb_Rp_receiveValues_0 Q) := by
  unfold zb_Rp_receiveValues_0
  refine za_ald_n B.1 0 dd_Rp_receiveValues_0 rfl ?_
  refine za_gtR B.1 3 7 zi_3 rfl (by decide) (by decide) rfl zW_85 rfl dd_Rp_receiveValues_1 ?_
  refine za_ild_n B.1 3 dd_Rp_receiveValues_4 rfl ?_
  refine za_rld B.1 1 7 rfl dd_Rp_receiveValues_5 ?_
  refine za_ast B.1 dd_Rp_receiveValues_6 (by decide) ?_
  refine za_ald B.1 dd_Rp_receiveValues_8 ?_
  refine za_gtRN (host := "SequencedBatches") B.1 1 5 zi_1 rfl (by decide) (by decide) rfl (by decide +kernel) rfl dd_Rp_receiveValues_10 ?_
  refine za_ild_n B.1 1 dd_Rp_receiveValues_13 rfl ?_
  refine za_du2 B.1 dd_Rp_receiveValues_14 ?_
  refine za_iald B.1 dd_Rp_receiveValues_15 ?_
  refine za_ald_n B.1 0 dd_Rp_receiveValues_16 rfl ?_
  refine za_gtR B.1 3 7 zi_3 rfl (by decide) (by decide) rfl zW_85 rfl dd_Rp_receiveValues_17 ?_
  refine za_ild_n B.1 2 dd_Rp_receiveValues_20 rfl ?_
  refine za_rld B.1 1 7 rfl dd_Rp_receiveValues_21 ?_
  refine za_gtIN (host := "SequencedBatches") B.1 1 0 zi_1 rfl (by decide) (by decide) rfl (by decide +kernel) rfl dd_Rp_receiveValues_22 ?_
  refine za_ior B.1 dd_Rp_receiveValues_25 ?_
  refine za_iast B.1 dd_Rp_receiveValues_26 ?_
  refine za_ald B.1 dd_Rp_receiveValues_27 ?_
  refine za_ild_n B.1 1 dd_Rp_receiveValues_29 rfl ?_
  refine za_cV B.1 1 1 0 0 0 0 rfl rfl rfl (by decide) (zm_Pa_indexOfNumber l G) ⟨callB_of 1 B.1.1.2.2.2.2 (zs_good zW_263) rfl rfl rfl (B.1.1.2.2.2.2 _ zW_7) (B.1.1.2.2.2.2 _ zW_260) (by decide +kernel) ⟨by decide, by decide⟩, (B.1.1.2.2.2.2 _ zW_261), (B.1.1.2.2.2.2 _ zW_262)⟩ dd_Rp_receiveValues_30 ?_
  refine za_ist B.1 dd_Rp_receiveValues_33 (by decide) ?_
  refine za_ild B.1 dd_Rp_receiveValues_35 ?_
  refine za_ico B.1 (-1) dd_Rp_receiveValues_37 (by decide) ?_
  exact za_cmp_eq B.1 49 dd_Rp_receiveValues_38 (by decide) (zr_Rp_receiveValues_49 B) (zr_Rp_receiveValues_41 B)
end
theorem zm_Rp_receiveValues (l : Launch) (G : zs_G) (As : List Value) (σ : zs_S) (Q : zs_Q) (h : zw_Rp_receiveValues As σ Q) : zs_Met l yy_Rp_receiveValues (Cond.code yy_Rp_receiveValues bb_Rp_receiveValues 6 none :: zw_all) zk_Rp_receiveValues G As σ Q 0 0 := by
  unfold zw_Rp_receiveValues at h
  split at h
  · exact zs_enter (by decide +kernel) h.1 (Nat.le_of_ble_eq_true rfl) h.2 (fun p e s m args below meth c B => zr_Rp_receiveValues_0 B)
  · exact h.elim
-- SequencedBatches.valuesArrive(I)V
theorem dd_SB_valuesArrive_0 : decode bb_SB_valuesArrive 0 = .ok (.aload_n 0, 1) := by decide +kernel
theorem dd_SB_valuesArrive_1 : decode bb_SB_valuesArrive 1 = .ok (.getfield 44, 3) := by decide +kernel
theorem dd_SB_valuesArrive_4 : decode bb_SB_valuesArrive 4 = .ok (.iload_n 1, 1) := by decide +kernel
theorem dd_SB_valuesArrive_5 : decode bb_SB_valuesArrive 5 = .ok (.invokestatic 248, 3) := by decide +kernel
theorem dd_SB_valuesArrive_8 : decode bb_SB_valuesArrive 8 = .ok (.aaload, 1) := by decide +kernel
theorem dd_SB_valuesArrive_9 : decode bb_SB_valuesArrive 9 = .ok (.astore_n 2, 1) := by decide +kernel
theorem dd_SB_valuesArrive_10 : decode bb_SB_valuesArrive 10 = .ok (.aload_n 2, 1) := by decide +kernel
theorem dd_SB_valuesArrive_11 : decode bb_SB_valuesArrive 11 = .ok (.iload_n 1, 1) := by decide +kernel
theorem dd_SB_valuesArrive_12 : decode bb_SB_valuesArrive 12 = .ok (.invokestatic 251, 3) := by decide +kernel
theorem dd_SB_valuesArrive_15 : decode bb_SB_valuesArrive 15 = .ok (.iload_n 1, 1) := by decide +kernel
theorem dd_SB_valuesArrive_16 : decode bb_SB_valuesArrive 16 = .ok (.invokestatic 254, 3) := by decide +kernel
theorem dd_SB_valuesArrive_19 : decode bb_SB_valuesArrive 19 = .ok (.iload_n 1, 1) := by decide +kernel
theorem dd_SB_valuesArrive_20 : decode bb_SB_valuesArrive 20 = .ok (.invokestatic 260, 3) := by decide +kernel
theorem dd_SB_valuesArrive_23 : decode bb_SB_valuesArrive 23 = .ok (.invokevirtual 270, 3) := by decide +kernel
theorem dd_SB_valuesArrive_26 : decode bb_SB_valuesArrive 26 = .ok (.return_, 1) := by decide +kernel
def zk_SB_valuesArrive : Room := { frames := 5, cells := 0, slots := 0, locals := 138 }
abbrev zA_SB_valuesArrive (p : Program) (l : Launch) (e : Env) (s : State) (m : MethodId) (args : Array Value) (below : List Frame) (meth : Method) (c : Code) (G : zs_G) (Q : zs_Q) (pc : Nat) (P : zs_P) : Prop := zs_At p l e zk_SB_valuesArrive s m args below meth c (MQ below (zs_Qc G Q) args s 0 0 (fun q => zg_z G ≤ q)) G 3 pc P
def zb_SB_valuesArrive_0 (Q : zs_Q) : zs_P := zt_ald 0 (zt_gtR 7 7 (zt_ild 1 (zt_cal zw_Co_owner 1 0 0 0 0 (zt_rld (110 + 3) (zt_ast 2 (zt_ald 2 (zt_ild 1 (zt_cal zw_Co_item 1 0 0 0 0 (zt_ild 1 (zt_cal zw_Co_node 1 0 0 0 0 (zt_ild 1 (zt_cal zw_Co_last 1 0 0 0 0 (zt_cav 3 zw_Rp_receiveValues (3 + 1) 0 0 0 0 (zt_vrt 0 0 Q))))))))))))))
def zw_SB_valuesArrive : zs_W := fun As σ Q => match As with
  | [a0, a1] => zs_c1 [a0, a1] = true ∧ zb_SB_valuesArrive_0 Q [some a0, some a1, none] [] σ 0 0
  | _ => False
section
variable {p : Program} {l : Launch} {e : Env} {s : State} {m : MethodId} {args : Array Value} {below : List Frame} {meth : Method} {c : Code} {G : zs_G} {Q : zs_Q}
theorem zr_SB_valuesArrive_0 (B : zs_B p s m args meth c G bb_SB_valuesArrive 3 yy_SB_valuesArrive none) : zA_SB_valuesArrive p l e s m args below meth c G Q 0 (zb_SB_valuesArrive_0 Q) := by
  unfold zb_SB_valuesArrive_0
  refine za_ald_n B.1 0 dd_SB_valuesArrive_0 rfl ?_
  refine za_gtR B.1 7 7 zi_7 rfl (by decide) (by decide) rfl zW_95 rfl dd_SB_valuesArrive_1 ?_
  refine za_ild_n B.1 1 dd_SB_valuesArrive_4 rfl ?_
  refine za_cS B.1 1 0 0 0 0 rfl rfl (zm_Co_owner l G) ⟨callB_of 1 B.1.1.2.2.2.2 (zs_good zW_220) rfl rfl rfl (B.1.1.2.2.2.2 _ zW_11) (B.1.1.2.2.2.2 _ zW_218) (by decide +kernel) ⟨by decide, by decide⟩, (B.1.1.2.2.2.2 _ zW_219)⟩ dd_SB_valuesArrive_5 ?_
  refine za_rld B.1 3 5 rfl dd_SB_valuesArrive_8 ?_
  refine za_ast_n B.1 2 dd_SB_valuesArrive_9 rfl (by decide) ?_
  refine za_ald_n B.1 2 dd_SB_valuesArrive_10 rfl ?_
  refine za_ild_n B.1 1 dd_SB_valuesArrive_11 rfl ?_
  refine za_cS B.1 1 0 0 0 0 rfl rfl (zm_Co_item l G) ⟨callB_of 1 B.1.1.2.2.2.2 (zs_good zW_223) rfl rfl rfl (B.1.1.2.2.2.2 _ zW_11) (B.1.1.2.2.2.2 _ zW_221) (by decide +kernel) ⟨by decide, by decide⟩, (B.1.1.2.2.2.2 _ zW_222)⟩ dd_SB_valuesArrive_12 ?_
  refine za_ild_n B.1 1 dd_SB_valuesArrive_15 rfl ?_
  refine za_cS B.1 1 0 0 0 0 rfl rfl (zm_Co_node l G) ⟨callB_of 1 B.1.1.2.2.2.2 (zs_good zW_226) rfl rfl rfl (B.1.1.2.2.2.2 _ zW_11) (B.1.1.2.2.2.2 _ zW_224) (by decide +kernel) ⟨by decide, by decide⟩, (B.1.1.2.2.2.2 _ zW_225)⟩ dd_SB_valuesArrive_16 ?_
  refine za_ild_n B.1 1 dd_SB_valuesArrive_19 rfl ?_
  refine za_cS B.1 1 0 0 0 0 rfl rfl (zm_Co_last l G) ⟨callB_of 1 B.1.1.2.2.2.2 (zs_good zW_232) rfl rfl rfl (B.1.1.2.2.2.2 _ zW_11) (B.1.1.2.2.2.2 _ zW_230) (by decide +kernel) ⟨by decide, by decide⟩, (B.1.1.2.2.2.2 _ zW_231)⟩ dd_SB_valuesArrive_20 ?_
  refine za_cV B.1 3 3 0 0 0 0 rfl rfl rfl (by decide) (zm_Rp_receiveValues l G) ⟨callB_of 3 B.1.1.2.2.2.2 (zs_good zW_259) rfl rfl rfl (B.1.1.2.2.2.2 _ zW_6) (B.1.1.2.2.2.2 _ zW_256) (by decide +kernel) ⟨by decide, by decide⟩, (B.1.1.2.2.2.2 _ zW_257), (B.1.1.2.2.2.2 _ zW_258)⟩ dd_SB_valuesArrive_23 ?_
  exact za_vrt B.1 0 0 B.2.1 B.2.2.1 dd_SB_valuesArrive_26
end
theorem zm_SB_valuesArrive (l : Launch) (G : zs_G) (As : List Value) (σ : zs_S) (Q : zs_Q) (h : zw_SB_valuesArrive As σ Q) : zs_Met l yy_SB_valuesArrive (Cond.code yy_SB_valuesArrive bb_SB_valuesArrive 3 none :: zw_all) zk_SB_valuesArrive G As σ Q 0 0 := by
  unfold zw_SB_valuesArrive at h
  split at h
  · exact zs_enter (by decide +kernel) h.1 (Nat.le_of_ble_eq_true rfl) h.2 (fun p e s m args below meth c B => zr_SB_valuesArrive_0 B)
  · exact h.elim
