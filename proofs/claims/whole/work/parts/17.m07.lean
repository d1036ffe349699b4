/-! Methods: Pa_indexOfReady, Rp_keepReadValues, Rp_lookAtReady, SB_sendValues, SB_look, Pa_finishedCount, Rp_makeCheckpoint, SB_checkpoint, SB_value, Tr_currentStatus (made by program) -/
-- SequencedBatches$Partition.indexOfReady(I)I
theorem dd_Pa_indexOfReady_0 : decode bb_Pa_indexOfReady 0 = .ok (.iconst 0, 1) := by decide +kernel
theorem dd_Pa_indexOfReady_1 : decode bb_Pa_indexOfReady 1 = .ok (.istore_n 2, 1) := by decide +kernel
theorem dd_Pa_indexOfReady_2 : decode bb_Pa_indexOfReady 2 = .ok (.iconst 0, 1) := by decide +kernel
theorem dd_Pa_indexOfReady_3 : decode bb_Pa_indexOfReady 3 = .ok (.istore_n 3, 1) := by decide +kernel
theorem dd_Pa_indexOfReady_4 : decode bb_Pa_indexOfReady 4 = .ok (.iload_n 3, 1) := by decide +kernel
theorem dd_Pa_indexOfReady_5 : decode bb_Pa_indexOfReady 5 = .ok (.aload_n 0, 1) := by decide +kernel
theorem dd_Pa_indexOfReady_6 : decode bb_Pa_indexOfReady 6 = .ok (.getfield 25, 3) := by decide +kernel
theorem dd_Pa_indexOfReady_9 : decode bb_Pa_indexOfReady 9 = .ok (.if_icmp .ge 27, 3) := by decide +kernel
theorem dd_Pa_indexOfReady_12 : decode bb_Pa_indexOfReady 12 = .ok (.aload_n 0, 1) := by decide +kernel
theorem dd_Pa_indexOfReady_13 : decode bb_Pa_indexOfReady 13 = .ok (.iload_n 3, 1) := by decide +kernel
theorem dd_Pa_indexOfReady_14 : decode bb_Pa_indexOfReady 14 = .ok (.invokevirtual 39, 3) := by decide +kernel
theorem dd_Pa_indexOfReady_17 : decode bb_Pa_indexOfReady 17 = .ok (.ifCond .eq 13, 3) := by decide +kernel
theorem dd_Pa_indexOfReady_20 : decode bb_Pa_indexOfReady 20 = .ok (.iload_n 2, 1) := by decide +kernel
theorem dd_Pa_indexOfReady_21 : decode bb_Pa_indexOfReady 21 = .ok (.iload_n 1, 1) := by decide +kernel
theorem dd_Pa_indexOfReady_22 : decode bb_Pa_indexOfReady 22 = .ok (.if_icmp .ne 5, 3) := by decide +kernel
theorem dd_Pa_indexOfReady_25 : decode bb_Pa_indexOfReady 25 = .ok (.iload_n 3, 1) := by decide +kernel
theorem dd_Pa_indexOfReady_26 : decode bb_Pa_indexOfReady 26 = .ok (.ireturn, 1) := by decide +kernel
theorem dd_Pa_indexOfReady_27 : decode bb_Pa_indexOfReady 27 = .ok (.iinc 2 1, 3) := by decide +kernel
theorem dd_Pa_indexOfReady_30 : decode bb_Pa_indexOfReady 30 = .ok (.iinc 3 1, 3) := by decide +kernel
theorem dd_Pa_indexOfReady_33 : decode bb_Pa_indexOfReady 33 = .ok (.goto (-29), 3) := by decide +kernel
theorem dd_Pa_indexOfReady_36 : decode bb_Pa_indexOfReady 36 = .ok (.iconst (-1), 1) := by decide +kernel
theorem dd_Pa_indexOfReady_37 : decode bb_Pa_indexOfReady 37 = .ok (.ireturn, 1) := by decide +kernel
def zk_Pa_indexOfReady : Room := { frames := 3, cells := 0, slots := 0, locals := 65 }
abbrev zA_Pa_indexOfReady (p : Program) (l : Launch) (e : Env) (s : State) (m : MethodId) (args : Array Value) (below : List Frame) (meth : Method) (c : Code) (G : zs_G) (Q : zs_Q) (pc : Nat) (P : zs_P) : Prop := zs_At p l e zk_Pa_indexOfReady s m args below meth c (MQ below (zs_Qc G Q) args s 0 0 (fun q => zg_z G ≤ q)) G 4 pc P
def zb_Pa_indexOfReady_36 (Q : zs_Q) : zs_P := zt_psh (-1) (zt_irt 0 0 Q)
def zb_Pa_indexOfReady_30 (Q : zs_Q) (K4 : zs_P) : zs_P := zt_inc 3 1 (K4)
def zb_Pa_indexOfReady_27 (Q : zs_Q) (K4 : zs_P) : zs_P := zt_inc 2 1 ((zb_Pa_indexOfReady_30 Q K4))
def zb_Pa_indexOfReady_25 (Q : zs_Q) : zs_P := zt_ild 3 (zt_irt 0 0 Q)
def zb_Pa_indexOfReady_20 (Q : zs_Q) (K4 : zs_P) : zs_P := zt_ild 2 (zt_ild 1 (zt_cmp (fun x y => x = y) (zb_Pa_indexOfReady_25 Q) (zb_Pa_indexOfReady_27 Q K4)))
def zb_Pa_indexOfReady_12 (Q : zs_Q) (K4 : zs_P) : zs_P := zt_ald 0 (zt_ild 3 (zt_cav 1 zw_Pa_isReady (1 + 1) 0 0 0 0 (zt_if (fun x => x = 0) (zb_Pa_indexOfReady_30 Q K4) (zb_Pa_indexOfReady_20 Q K4))))
def zb_Pa_indexOfReady_4 (Q : zs_Q) (K4 : zs_P) : zs_P := zt_ild 3 (zt_ald 0 (zt_gtI 1 4 (zt_cmp (fun x y => y ≤ x) (zb_Pa_indexOfReady_36 Q) (zb_Pa_indexOfReady_12 Q K4))))
def zl_Pa_indexOfReady_4 (Q : zs_Q) : zs_P := zt_ex (zb_Pa_indexOfReady_4 Q)
def zb_Pa_indexOfReady_0 (Q : zs_Q) : zs_P := zt_psh 0 (zt_ist 2 (zt_psh 0 (zt_ist 3 ((zl_Pa_indexOfReady_4 Q)))))
def zw_Pa_indexOfReady : zs_W := fun As σ Q => match As with
  | [a0, a1] => zs_c1 [a0, a1] = true ∧ zb_Pa_indexOfReady_0 Q [some a0, some a1, none, none] [] σ 0 0
  | _ => False
section
variable {p : Program} {l : Launch} {e : Env} {s : State} {m : MethodId} {args : Array Value} {below : List Frame} {meth : Method} {c : Code} {G : zs_G} {Q : zs_Q}
theorem zr_Pa_indexOfReady_36 (B : zs_B p s m args meth c G bb_Pa_indexOfReady 4 yy_Pa_indexOfReady (some .int)) : zA_Pa_indexOfReady p l e s m args below meth c G Q 36 (zb_Pa_indexOfReady_36 Q) := by
  unfold zb_Pa_indexOfReady_36
  refine za_ico B.1 (-1) dd_Pa_indexOfReady_36 (by decide) ?_
  exact za_irt B.1 0 0 B.2.1 B.2.2.1 dd_Pa_indexOfReady_37
theorem zr_Pa_indexOfReady_30 (B : zs_B p s m args meth c G bb_Pa_indexOfReady 4 yy_Pa_indexOfReady (some .int)) {K4 : zs_P} (h4 : zA_Pa_indexOfReady p l e s m args below meth c G Q 4 K4) : zA_Pa_indexOfReady p l e s m args below meth c G Q 30 (zb_Pa_indexOfReady_30 Q K4) := by
  unfold zb_Pa_indexOfReady_30
  refine za_inc B.1 1 dd_Pa_indexOfReady_30 (by decide) (by decide) ?_
  refine za_goto B.1 4 dd_Pa_indexOfReady_33 (by decide) ?_
  exact h4
theorem zr_Pa_indexOfReady_27 (B : zs_B p s m args meth c G bb_Pa_indexOfReady 4 yy_Pa_indexOfReady (some .int)) {K4 : zs_P} (h4 : zA_Pa_indexOfReady p l e s m args below meth c G Q 4 K4) : zA_Pa_indexOfReady p l e s m args below meth c G Q 27 (zb_Pa_indexOfReady_27 Q K4) := by
  unfold zb_Pa_indexOfReady_27
  refine za_inc B.1 1 dd_Pa_indexOfReady_27 (by decide) (by decide) ?_
  exact (zr_Pa_indexOfReady_30 B h4)
theorem zr_Pa_indexOfReady_25 (B : zs_B p s m args meth c G bb_Pa_indexOfReady 4 yy_Pa_indexOfReady (some .int)) : zA_Pa_indexOfReady p l e s m args below meth c G Q 25 (zb_Pa_indexOfReady_25 Q) := by
  unfold zb_Pa_indexOfReady_25
  refine za_ild_n B.1 3 dd_Pa_indexOfReady_25 rfl ?_
  exact za_irt B.1 0 0 B.2.1 B.2.2.1 dd_Pa_indexOfReady_26
theorem zr_Pa_indexOfReady_20 (B : zs_B p s m args meth c G bb_Pa_indexOfReady 4 yy_Pa_indexOfReady (some .int)) {K4 : zs_P} (h4 : zA_Pa_indexOfReady p l e s m args below meth c G Q 4 K4) : zA_Pa_indexOfReady p l e s m args below meth c G Q 20 (zb_Pa_indexOfReady_20 Q K4) := by
  unfold zb_Pa_indexOfReady_20
  refine za_ild_n B.1 2 dd_Pa_indexOfReady_20 rfl ?_
  refine za_ild_n B.1 1 dd_Pa_indexOfReady_21 rfl ?_
  exact za_cmp_ne B.1 27 dd_Pa_indexOfReady_22 (by decide) (zr_Pa_indexOfReady_25 B) (zr_Pa_indexOfReady_27 B h4)
theorem zr_Pa_indexOfReady_12 (B : zs_B p s m args meth c G bb_Pa_indexOfReady 4 yy_Pa_indexOfReady (some .int)) {K4 : zs_P} (h4 : zA_Pa_indexOfReady p l e s m args below meth c G Q 4 K4) : zA_Pa_indexOfReady p l e s m args below meth c G Q 12 (zb_Pa_indexOfReady_12 Q K4) := by
  unfold zb_Pa_indexOfReady_12
  refine za_ald_n B.1 0 dd_Pa_indexOfReady_12 rfl ?_
  refine za_ild_n B.1 3 dd_Pa_indexOfReady_13 rfl ?_
  refine za_cV B.1 1 1 0 0 0 0 rfl rfl rfl (by decide) (zm_Pa_isReady l G) ⟨callB_of 1 B.1.1.2.2.2.2 (zs_good zW_372) rfl rfl rfl (B.1.1.2.2.2.2 _ zW_7) (B.1.1.2.2.2.2 _ zW_370) (by decide +kernel) ⟨by decide, by decide⟩, (B.1.1.2.2.2.2 _ zW_371), (B.1.1.2.2.2.2 _ zW_673)⟩ dd_Pa_indexOfReady_14 ?_
  exact za_if_eq B.1 30 dd_Pa_indexOfReady_17 (by decide) (zr_Pa_indexOfReady_30 B h4) (zr_Pa_indexOfReady_20 B h4)
theorem zr_Pa_indexOfReady_4 (B : zs_B p s m args meth c G bb_Pa_indexOfReady 4 yy_Pa_indexOfReady (some .int)) {K4 : zs_P} (h4 : zA_Pa_indexOfReady p l e s m args below meth c G Q 4 K4) : zA_Pa_indexOfReady p l e s m args below meth c G Q 4 (zb_Pa_indexOfReady_4 Q K4) := by
  unfold zb_Pa_indexOfReady_4
  refine za_ild_n B.1 3 dd_Pa_indexOfReady_4 rfl ?_
  refine za_ald_n B.1 0 dd_Pa_indexOfReady_5 rfl ?_
  refine za_gtI B.1 1 4 zi_1 rfl (by decide) (by decide) rfl zW_76 rfl dd_Pa_indexOfReady_6 ?_
  exact za_cmp_ge B.1 36 dd_Pa_indexOfReady_9 (by decide) (zr_Pa_indexOfReady_36 B) (zr_Pa_indexOfReady_12 B h4)
theorem zq_Pa_indexOfReady_4 (B : zs_B p s m args meth c G bb_Pa_indexOfReady 4 yy_Pa_indexOfReady (some .int)) : zA_Pa_indexOfReady p l e s m args below meth c G Q 4 (zl_Pa_indexOfReady_4 Q) := za_lop (fun K hK => zr_Pa_indexOfReady_4 B hK)
theorem zr_Pa_indexOfReady_0 (B : zs_B p s m args meth c G bb_Pa_indexOfReady 4 yy_Pa_indexOfReady (some .int)) : zA_Pa_indexOfReady p l e s m args below meth c G Q 0 (zb_Pa_indexOfReady_0 Q) := by
  unfold zb_Pa_indexOfReady_0
  refine za_ico B.1 0 dd_Pa_indexOfReady_0 (by decide) ?_
  refine za_ist_n B.1 2 dd_Pa_indexOfReady_1 rfl (by decide) ?_
  refine za_ico B.1 0 dd_Pa_indexOfReady_2 (by decide) ?_
  refine za_ist_n B.1 3 dd_Pa_indexOfReady_3 rfl (by decide) ?_
  exact (zq_Pa_indexOfReady_4 B)
end
theorem zm_Pa_indexOfReady (l : Launch) (G : zs_G) (As : List Value) (σ : zs_S) (Q : zs_Q) (h : zw_Pa_indexOfReady As σ Q) : zs_Met l yy_Pa_indexOfReady (Cond.code yy_Pa_indexOfReady bb_Pa_indexOfReady 4 (some .int) :: zw_all) zk_Pa_indexOfReady G As σ Q 0 0 := by
  unfold zw_Pa_indexOfReady at h
  split at h
  · exact zs_enter (by decide +kernel) h.1 (Nat.le_of_ble_eq_true rfl) h.2 (fun p e s m args below meth c B => zr_Pa_indexOfReady_0 B)
  · exact h.elim
-- SequencedBatches$Replica.keepReadValues(LSequencedBatches$Transaction;I)V
theorem dd_Rp_keepReadValues_0 : decode bb_Rp_keepReadValues 0 = .ok (.aload_n 1, 1) := by decide +kernel
theorem dd_Rp_keepReadValues_1 : decode bb_Rp_keepReadValues 1 = .ok (.iload_n 2, 1) := by decide +kernel
theorem dd_Rp_keepReadValues_2 : decode bb_Rp_keepReadValues 2 = .ok (.iconst 1, 1) := by decide +kernel
theorem dd_Rp_keepReadValues_3 : decode bb_Rp_keepReadValues 3 = .ok (.aload_n 1, 1) := by decide +kernel
theorem dd_Rp_keepReadValues_4 : decode bb_Rp_keepReadValues 4 = .ok (.getfield 122, 3) := by decide +kernel
theorem dd_Rp_keepReadValues_7 : decode bb_Rp_keepReadValues 7 = .ok (.ishl, 1) := by decide +kernel
theorem dd_Rp_keepReadValues_8 : decode bb_Rp_keepReadValues 8 = .ok (.iand, 1) := by decide +kernel
theorem dd_Rp_keepReadValues_9 : decode bb_Rp_keepReadValues 9 = .ok (.invokevirtual 125, 3) := by decide +kernel
theorem dd_Rp_keepReadValues_12 : decode bb_Rp_keepReadValues 12 = .ok (.ifCond .eq 21, 3) := by decide +kernel
theorem dd_Rp_keepReadValues_15 : decode bb_Rp_keepReadValues 15 = .ok (.aload_n 0, 1) := by decide +kernel
theorem dd_Rp_keepReadValues_16 : decode bb_Rp_keepReadValues 16 = .ok (.getfield 40, 3) := by decide +kernel
theorem dd_Rp_keepReadValues_19 : decode bb_Rp_keepReadValues 19 = .ok (.aload_n 1, 1) := by decide +kernel
theorem dd_Rp_keepReadValues_20 : decode bb_Rp_keepReadValues 20 = .ok (.getfield 66, 3) := by decide +kernel
theorem dd_Rp_keepReadValues_23 : decode bb_Rp_keepReadValues 23 = .ok (.aload_n 0, 1) := by decide +kernel
theorem dd_Rp_keepReadValues_24 : decode bb_Rp_keepReadValues 24 = .ok (.getfield 37, 3) := by decide +kernel
theorem dd_Rp_keepReadValues_27 : decode bb_Rp_keepReadValues 27 = .ok (.aload_n 1, 1) := by decide +kernel
theorem dd_Rp_keepReadValues_28 : decode bb_Rp_keepReadValues 28 = .ok (.getfield 122, 3) := by decide +kernel
theorem dd_Rp_keepReadValues_31 : decode bb_Rp_keepReadValues 31 = .ok (.iaload, 1) := by decide +kernel
theorem dd_Rp_keepReadValues_32 : decode bb_Rp_keepReadValues 32 = .ok (.iastore, 1) := by decide +kernel
theorem dd_Rp_keepReadValues_33 : decode bb_Rp_keepReadValues 33 = .ok (.aload_n 1, 1) := by decide +kernel
theorem dd_Rp_keepReadValues_34 : decode bb_Rp_keepReadValues 34 = .ok (.iload_n 2, 1) := by decide +kernel
theorem dd_Rp_keepReadValues_35 : decode bb_Rp_keepReadValues 35 = .ok (.iconst 1, 1) := by decide +kernel
theorem dd_Rp_keepReadValues_36 : decode bb_Rp_keepReadValues 36 = .ok (.aload_n 1, 1) := by decide +kernel
theorem dd_Rp_keepReadValues_37 : decode bb_Rp_keepReadValues 37 = .ok (.getfield 129, 3) := by decide +kernel
theorem dd_Rp_keepReadValues_40 : decode bb_Rp_keepReadValues 40 = .ok (.ishl, 1) := by decide +kernel
theorem dd_Rp_keepReadValues_41 : decode bb_Rp_keepReadValues 41 = .ok (.iand, 1) := by decide +kernel
theorem dd_Rp_keepReadValues_42 : decode bb_Rp_keepReadValues 42 = .ok (.invokevirtual 125, 3) := by decide +kernel
theorem dd_Rp_keepReadValues_45 : decode bb_Rp_keepReadValues 45 = .ok (.ifCond .eq 21, 3) := by decide +kernel
theorem dd_Rp_keepReadValues_48 : decode bb_Rp_keepReadValues 48 = .ok (.aload_n 0, 1) := by decide +kernel
theorem dd_Rp_keepReadValues_49 : decode bb_Rp_keepReadValues 49 = .ok (.getfield 43, 3) := by decide +kernel
theorem dd_Rp_keepReadValues_52 : decode bb_Rp_keepReadValues 52 = .ok (.aload_n 1, 1) := by decide +kernel
theorem dd_Rp_keepReadValues_53 : decode bb_Rp_keepReadValues 53 = .ok (.getfield 66, 3) := by decide +kernel
theorem dd_Rp_keepReadValues_56 : decode bb_Rp_keepReadValues 56 = .ok (.aload_n 0, 1) := by decide +kernel
theorem dd_Rp_keepReadValues_57 : decode bb_Rp_keepReadValues 57 = .ok (.getfield 37, 3) := by decide +kernel
theorem dd_Rp_keepReadValues_60 : decode bb_Rp_keepReadValues 60 = .ok (.aload_n 1, 1) := by decide +kernel
theorem dd_Rp_keepReadValues_61 : decode bb_Rp_keepReadValues 61 = .ok (.getfield 129, 3) := by decide +kernel
theorem dd_Rp_keepReadValues_64 : decode bb_Rp_keepReadValues 64 = .ok (.iaload, 1) := by decide +kernel
theorem dd_Rp_keepReadValues_65 : decode bb_Rp_keepReadValues 65 = .ok (.iastore, 1) := by decide +kernel
theorem dd_Rp_keepReadValues_66 : decode bb_Rp_keepReadValues 66 = .ok (.return_, 1) := by decide +kernel
def zk_Rp_keepReadValues : Room := { frames := 1, cells := 0, slots := 0, locals := 21 }
abbrev zA_Rp_keepReadValues (p : Program) (l : Launch) (e : Env) (s : State) (m : MethodId) (args : Array Value) (below : List Frame) (meth : Method) (c : Code) (G : zs_G) (Q : zs_Q) (pc : Nat) (P : zs_P) : Prop := zs_At p l e zk_Rp_keepReadValues s m args below meth c (MQ below (zs_Qc G Q) args s 0 0 (fun q => zg_z G ≤ q)) G 3 pc P
def zb_Rp_keepReadValues_66 (Q : zs_Q) : zs_P := zt_vrt 0 0 Q
def zb_Rp_keepReadValues_48 (Q : zs_Q) : zs_P := zt_ald 0 (zt_gtR 3 9 (zt_ald 1 (zt_gtI 6 0 (zt_ald 0 (zt_gtR 3 6 (zt_ald 1 (zt_gtI 6 3 (zt_xld 100 (zt_ias ((zb_Rp_keepReadValues_66 Q)))))))))))
def zb_Rp_keepReadValues_33 (Q : zs_Q) : zs_P := zt_ald 1 (zt_ild 2 (zt_psh 1 (zt_ald 1 (zt_gtI 6 3 (zt_bin (fun x y => x <<< (y &&& 31)) (zt_bin (fun x y => x &&& y) (zt_cav 6 zw_Tr_reads (1 + 1) 0 0 0 0 (zt_if (fun x => x = 0) (zb_Rp_keepReadValues_66 Q) (zb_Rp_keepReadValues_48 Q)))))))))
def zb_Rp_keepReadValues_15 (Q : zs_Q) : zs_P := zt_ald 0 (zt_gtR 3 8 (zt_ald 1 (zt_gtI 6 0 (zt_ald 0 (zt_gtR 3 6 (zt_ald 1 (zt_gtI 6 2 (zt_xld 100 (zt_ias ((zb_Rp_keepReadValues_33 Q)))))))))))
def zb_Rp_keepReadValues_0 (Q : zs_Q) : zs_P := zt_ald 1 (zt_ild 2 (zt_psh 1 (zt_ald 1 (zt_gtI 6 2 (zt_bin (fun x y => x <<< (y &&& 31)) (zt_bin (fun x y => x &&& y) (zt_cav 6 zw_Tr_reads (1 + 1) 0 0 0 0 (zt_if (fun x => x = 0) (zb_Rp_keepReadValues_33 Q) (zb_Rp_keepReadValues_15 Q)))))))))
def zw_Rp_keepReadValues : zs_W := fun As σ Q => match As with
  | [a0, a1, a2] => zs_c1 [a0, a1, a2] = true ∧ zb_Rp_keepReadValues_0 Q [some a0, some a1, some a2] [] σ 0 0
  | _ => False
section
variable {p : Program} {l : Launch} {e : Env} {s : State} {m : MethodId} {args : Array Value} {below : List Frame} {meth : Method} {c : Code} {G : zs_G} {Q : zs_Q}
theorem zr_Rp_keepReadValues_66 (B : zs_B p s m args meth c G bb_Rp_keepReadValues 3 yy_Rp_keepReadValues none) : zA_Rp_keepReadValues p l e s m args below meth c G Q 66 (zb_Rp_keepReadValues_66 Q) := by
  unfold zb_Rp_keepReadValues_66
  exact za_vrt B.1 0 0 B.2.1 B.2.2.1 dd_Rp_keepReadValues_66
theorem zr_Rp_keepReadValues_48 (B : zs_B p s m args meth c G bb_Rp_keepReadValues 3 yy_Rp_keepReadValues none) : zA_Rp_keepReadValues p l e s m args below meth c G Q 48 (zb_Rp_keepReadValues_48 Q) := by
  unfold zb_Rp_keepReadValues_48
  refine za_ald_n B.1 0 dd_Rp_keepReadValues_48 rfl ?_
  refine za_gtR B.1 3 9 zi_3 rfl (by decide) (by decide) rfl zW_87 rfl dd_Rp_keepReadValues_49 ?_
  refine za_ald_n B.1 1 dd_Rp_keepReadValues_52 rfl ?_
  refine za_gtIN (host := "SequencedBatches") B.1 6 0 zi_6 rfl (by decide) (by decide) rfl (by decide +kernel) rfl dd_Rp_keepReadValues_53 ?_
  refine za_ald_n B.1 0 dd_Rp_keepReadValues_56 rfl ?_
  refine za_gtR B.1 3 6 zi_3 rfl (by decide) (by decide) rfl zW_84 rfl dd_Rp_keepReadValues_57 ?_
  refine za_ald_n B.1 1 dd_Rp_keepReadValues_60 rfl ?_
  refine za_gtIN (host := "SequencedBatches") B.1 6 3 zi_6 rfl (by decide) (by decide) rfl (by decide +kernel) rfl dd_Rp_keepReadValues_61 ?_
  refine za_iald B.1 dd_Rp_keepReadValues_64 ?_
  refine za_iast B.1 dd_Rp_keepReadValues_65 ?_
  exact (zr_Rp_keepReadValues_66 B)
theorem zr_Rp_keepReadValues_33 (B : zs_B p s m args meth c G bb_Rp_keepReadValues 3 yy_Rp_keepReadValues none) : zA_Rp_keepReadValues p l e s m args below meth c G Q 33 (zb_Rp_keepReadValues_33 Q) := by
  unfold zb_Rp_keepReadValues_33
  refine za_ald_n B.1 1 dd_Rp_keepReadValues_33 rfl ?_
  refine za_ild_n B.1 2 dd_Rp_keepReadValues_34 rfl ?_
  refine za_ico B.1 1 dd_Rp_keepReadValues_35 (by decide) ?_
  refine za_ald_n B.1 1 dd_Rp_keepReadValues_36 rfl ?_
  refine za_gtIN (host := "SequencedBatches") B.1 6 3 zi_6 rfl (by decide) (by decide) rfl (by decide +kernel) rfl dd_Rp_keepReadValues_37 ?_
  refine za_shl B.1 dd_Rp_keepReadValues_40 ?_
  refine za_and B.1 dd_Rp_keepReadValues_41 ?_
  refine za_cV B.1 6 1 0 0 0 0 rfl rfl rfl (by decide) (zm_Tr_reads l G) ⟨callB_of 1 B.1.1.2.2.2.2 (zs_good zW_278) rfl rfl rfl (B.1.1.2.2.2.2 _ zW_9) (B.1.1.2.2.2.2 _ zW_275) (by decide +kernel) ⟨by decide, by decide⟩, (B.1.1.2.2.2.2 _ zW_276), (B.1.1.2.2.2.2 _ zW_277)⟩ dd_Rp_keepReadValues_42 ?_
  exact za_if_eq B.1 66 dd_Rp_keepReadValues_45 (by decide) (zr_Rp_keepReadValues_66 B) (zr_Rp_keepReadValues_48 B)
theorem zr_Rp_keepReadValues_15 (B : zs_B p s m args meth c G bb_Rp_keepReadValues 3 yy_Rp_keepReadValues none) : zA_Rp_keepReadValues p l e s m args below meth c G Q 15 (zb_Rp_keepReadValues_15 Q) := by
  unfold zb_Rp_keepReadValues_15
  refine za_ald_n B.1 0 dd_Rp_keepReadValues_15 rfl ?_
  refine za_gtR B.1 3 8 zi_3 rfl (by decide) (by decide) rfl zW_86 rfl dd_Rp_keepReadValues_16 ?_
  refine za_ald_n B.1 1 dd_Rp_keepReadValues_19 rfl ?_
  refine za_gtIN (host := "SequencedBatches") B.1 6 0 zi_6 rfl (by decide) (by decide) rfl (by decide +kernel) rfl dd_Rp_keepReadValues_20 ?_
  refine za_ald_n B.1 0 dd_Rp_keepReadValues_23 rfl ?_
  refine za_gtR B.1 3 6 zi_3 rfl (by decide) (by decide) rfl zW_84 rfl dd_Rp_keepReadValues_24 ?_
  refine za_ald_n B.1 1 dd_Rp_keepReadValues_27 rfl ?_
  refine za_gtIN (host := "SequencedBatches") B.1 6 2 zi_6 rfl (by decide) (by decide) rfl (by decide +kernel) rfl dd_Rp_keepReadValues_28 ?_
  refine za_iald B.1 dd_Rp_keepReadValues_31 ?_
  refine za_iast B.1 dd_Rp_keepReadValues_32 ?_
  exact (zr_Rp_keepReadValues_33 B)
theorem zr_Rp_keepReadValues_0 (B : zs_B p s m args meth c G bb_Rp_keepReadValues 3 yy_Rp_keepReadValues none) : zA_Rp_keepReadValues p l e s m args below meth c G Q 0 (zb_Rp_keepReadValues_0 Q) := by
  unfold zb_Rp_keepReadValues_0
  refine za_ald_n B.1 1 dd_Rp_keepReadValues_0 rfl ?_
  refine za_ild_n B.1 2 dd_Rp_keepReadValues_1 rfl ?_
  refine za_ico B.1 1 dd_Rp_keepReadValues_2 (by decide) ?_
  refine za_ald_n B.1 1 dd_Rp_keepReadValues_3 rfl ?_
  refine za_gtIN (host := "SequencedBatches") B.1 6 2 zi_6 rfl (by decide) (by decide) rfl (by decide +kernel) rfl dd_Rp_keepReadValues_4 ?_
  refine za_shl B.1 dd_Rp_keepReadValues_7 ?_
  refine za_and B.1 dd_Rp_keepReadValues_8 ?_
  refine za_cV B.1 6 1 0 0 0 0 rfl rfl rfl (by decide) (zm_Tr_reads l G) ⟨callB_of 1 B.1.1.2.2.2.2 (zs_good zW_278) rfl rfl rfl (B.1.1.2.2.2.2 _ zW_9) (B.1.1.2.2.2.2 _ zW_275) (by decide +kernel) ⟨by decide, by decide⟩, (B.1.1.2.2.2.2 _ zW_276), (B.1.1.2.2.2.2 _ zW_277)⟩ dd_Rp_keepReadValues_9 ?_
  exact za_if_eq B.1 33 dd_Rp_keepReadValues_12 (by decide) (zr_Rp_keepReadValues_33 B) (zr_Rp_keepReadValues_15 B)
end
theorem zm_Rp_keepReadValues (l : Launch) (G : zs_G) (As : List Value) (σ : zs_S) (Q : zs_Q) (h : zw_Rp_keepReadValues As σ Q) : zs_Met l yy_Rp_keepReadValues (Cond.code yy_Rp_keepReadValues bb_Rp_keepReadValues 3 none :: zw_all) zk_Rp_keepReadValues G As σ Q 0 0 := by
  unfold zw_Rp_keepReadValues at h
  split at h
  · exact zs_enter (by decide +kernel) h.1 (Nat.le_of_ble_eq_true rfl) h.2 (fun p e s m args below meth c B => zr_Rp_keepReadValues_0 B)
  · exact h.elim
-- SequencedBatches$Replica.lookAtReady(II)LSequencedBatches$Transaction;
theorem dd_Rp_lookAtReady_0 : decode bb_Rp_lookAtReady 0 = .ok (.aload_n 0, 1) := by decide +kernel
theorem dd_Rp_lookAtReady_1 : decode bb_Rp_lookAtReady 1 = .ok (.getfield 48, 3) := by decide +kernel
theorem dd_Rp_lookAtReady_4 : decode bb_Rp_lookAtReady 4 = .ok (.iload_n 1, 1) := by decide +kernel
theorem dd_Rp_lookAtReady_5 : decode bb_Rp_lookAtReady 5 = .ok (.aaload, 1) := by decide +kernel
theorem dd_Rp_lookAtReady_6 : decode bb_Rp_lookAtReady 6 = .ok (.astore_n 3, 1) := by decide +kernel
theorem dd_Rp_lookAtReady_7 : decode bb_Rp_lookAtReady 7 = .ok (.aload_n 3, 1) := by decide +kernel
theorem dd_Rp_lookAtReady_8 : decode bb_Rp_lookAtReady 8 = .ok (.iload_n 2, 1) := by decide +kernel
theorem dd_Rp_lookAtReady_9 : decode bb_Rp_lookAtReady 9 = .ok (.invokevirtual 94, 3) := by decide +kernel
theorem dd_Rp_lookAtReady_12 : decode bb_Rp_lookAtReady 12 = .ok (.istore 4, 2) := by decide +kernel
theorem dd_Rp_lookAtReady_14 : decode bb_Rp_lookAtReady 14 = .ok (.iload 4, 2) := by decide +kernel
theorem dd_Rp_lookAtReady_16 : decode bb_Rp_lookAtReady 16 = .ok (.iconst (-1), 1) := by decide +kernel
theorem dd_Rp_lookAtReady_17 : decode bb_Rp_lookAtReady 17 = .ok (.if_icmp .ne 5, 3) := by decide +kernel
theorem dd_Rp_lookAtReady_20 : decode bb_Rp_lookAtReady 20 = .ok (.aconst_null, 1) := by decide +kernel
theorem dd_Rp_lookAtReady_21 : decode bb_Rp_lookAtReady 21 = .ok (.areturn, 1) := by decide +kernel
theorem dd_Rp_lookAtReady_22 : decode bb_Rp_lookAtReady 22 = .ok (.aload_n 3, 1) := by decide +kernel
theorem dd_Rp_lookAtReady_23 : decode bb_Rp_lookAtReady 23 = .ok (.getfield 98, 3) := by decide +kernel
theorem dd_Rp_lookAtReady_26 : decode bb_Rp_lookAtReady 26 = .ok (.iload 4, 2) := by decide +kernel
theorem dd_Rp_lookAtReady_28 : decode bb_Rp_lookAtReady 28 = .ok (.aaload, 1) := by decide +kernel
theorem dd_Rp_lookAtReady_29 : decode bb_Rp_lookAtReady 29 = .ok (.astore 5, 2) := by decide +kernel
theorem dd_Rp_lookAtReady_31 : decode bb_Rp_lookAtReady 31 = .ok (.aload_n 0, 1) := by decide +kernel
theorem dd_Rp_lookAtReady_32 : decode bb_Rp_lookAtReady 32 = .ok (.aload 5, 2) := by decide +kernel
theorem dd_Rp_lookAtReady_34 : decode bb_Rp_lookAtReady 34 = .ok (.aload_n 3, 1) := by decide +kernel
theorem dd_Rp_lookAtReady_35 : decode bb_Rp_lookAtReady 35 = .ok (.getfield 101, 3) := by decide +kernel
theorem dd_Rp_lookAtReady_38 : decode bb_Rp_lookAtReady 38 = .ok (.invokevirtual 104, 3) := by decide +kernel
theorem dd_Rp_lookAtReady_41 : decode bb_Rp_lookAtReady 41 = .ok (.aload_n 3, 1) := by decide +kernel
theorem dd_Rp_lookAtReady_42 : decode bb_Rp_lookAtReady 42 = .ok (.getfield 108, 3) := by decide +kernel
theorem dd_Rp_lookAtReady_45 : decode bb_Rp_lookAtReady 45 = .ok (.iload 4, 2) := by decide +kernel
theorem dd_Rp_lookAtReady_47 : decode bb_Rp_lookAtReady 47 = .ok (.iconst 1, 1) := by decide +kernel
theorem dd_Rp_lookAtReady_48 : decode bb_Rp_lookAtReady 48 = .ok (.bastore, 1) := by decide +kernel
theorem dd_Rp_lookAtReady_49 : decode bb_Rp_lookAtReady 49 = .ok (.aload_n 0, 1) := by decide +kernel
theorem dd_Rp_lookAtReady_50 : decode bb_Rp_lookAtReady 50 = .ok (.aload_n 3, 1) := by decide +kernel
theorem dd_Rp_lookAtReady_51 : decode bb_Rp_lookAtReady 51 = .ok (.iload 4, 2) := by decide +kernel
theorem dd_Rp_lookAtReady_53 : decode bb_Rp_lookAtReady 53 = .ok (.invokevirtual 112, 3) := by decide +kernel
theorem dd_Rp_lookAtReady_56 : decode bb_Rp_lookAtReady 56 = .ok (.aload 5, 2) := by decide +kernel
theorem dd_Rp_lookAtReady_58 : decode bb_Rp_lookAtReady 58 = .ok (.areturn, 1) := by decide +kernel
def zk_Rp_lookAtReady : Room := { frames := 4, cells := 0, slots := 0, locals := 113 }
abbrev zA_Rp_lookAtReady (p : Program) (l : Launch) (e : Env) (s : State) (m : MethodId) (args : Array Value) (below : List Frame) (meth : Method) (c : Code) (G : zs_G) (Q : zs_Q) (pc : Nat) (P : zs_P) : Prop := zs_At p l e zk_Rp_lookAtReady s m args below meth c (MQ below (zs_Qc G Q) args s 0 0 (fun q => zg_z G ≤ q)) G 6 pc P
def zb_Rp_lookAtReady_22 (Q : zs_Q) : zs_P := zt_ald 3 (zt_gtR 1 2 (zt_ild 4 (zt_rld (110 + 6) (zt_ast 5 (zt_ald 0 (zt_ald 5 (zt_ald 3 (zt_gtI 1 0 (zt_cav 3 zw_Rp_keepReadValues (2 + 1) 0 0 0 0 (zt_ald 3 (zt_gtR 1 3 (zt_ild 4 (zt_psh 1 (zt_zas (zt_ald 0 (zt_ald 3 (zt_ild 4 (zt_cav 3 zw_Rp_finishIfComplete (2 + 1) 0 0 0 0 (zt_ald 5 (zt_art 0 0 Q))))))))))))))))))))
def zb_Rp_lookAtReady_20 (Q : zs_Q) : zs_P := zt_nul (zt_art 0 0 Q)
def zb_Rp_lookAtReady_0 (Q : zs_Q) : zs_P := zt_ald 0 (zt_gtR 3 7 (zt_ild 1 (zt_rld (110 + 1) (zt_ast 3 (zt_ald 3 (zt_ild 2 (zt_cav 1 zw_Pa_indexOfReady (1 + 1) 0 0 0 0 (zt_ist 4 (zt_ild 4 (zt_psh (-1) (zt_cmp (fun x y => x = y) (zb_Rp_lookAtReady_20 Q) (zb_Rp_lookAtReady_22 Q))))))))))))
def zw_Rp_lookAtReady : zs_W := fun As σ Q => match As with
  | [a0, a1, a2] => zs_c1 [a0, a1, a2] = true ∧ zb_Rp_lookAtReady_0 Q [some a0, some a1, some a2, none, none, none] [] σ 0 0
  | _ => False
section
variable {p : Program} {l : Launch} {e : Env} {s : State} {m : MethodId} {args : Array Value} {below : List Frame} {meth : Method} {c : Code} {G : zs_G} {Q : zs_Q}
theorem zr_Rp_lookAtReady_22 (B : zs_B p s m args meth c G bb_Rp_lookAtReady 6 yy_Rp_lookAtReady (some (.object "SequencedBatches$Transaction"))) : zA_Rp_lookAtReady p l e s m args below meth c G Q 22 (zb_Rp_lookAtReady_22 Q) := by
  unfold zb_Rp_lookAtReady_22
  refine za_ald_n B.1 3 dd_Rp_lookAtReady_22 rfl ?_
  refine za_gtRN (host := "SequencedBatches") B.1 1 2 zi_1 rfl (by decide) (by decide) rfl (by decide +kernel) rfl dd_Rp_lookAtReady_23 ?_
  refine za_ild B.1 dd_Rp_lookAtReady_26 ?_
  refine za_rld B.1 6 2 rfl dd_Rp_lookAtReady_28 ?_
  refine za_ast B.1 dd_Rp_lookAtReady_29 (by decide) ?_
  refine za_ald_n B.1 0 dd_Rp_lookAtReady_31 rfl ?_
  refine za_ald B.1 dd_Rp_lookAtReady_32 ?_
  refine za_ald_n B.1 3 dd_Rp_lookAtReady_34 rfl ?_
  refine za_gtIN (host := "SequencedBatches") B.1 1 0 zi_1 rfl (by decide) (by decide) rfl (by decide +kernel) rfl dd_Rp_lookAtReady_35 ?_
  refine za_cV B.1 3 2 0 0 0 0 rfl rfl rfl (by decide) (zm_Rp_keepReadValues l G) ⟨callB_of 2 B.1.1.2.2.2.2 (zs_good zW_379) rfl rfl rfl (B.1.1.2.2.2.2 _ zW_6) (B.1.1.2.2.2.2 _ zW_377) (by decide +kernel) ⟨by decide, by decide⟩, (B.1.1.2.2.2.2 _ zW_378), (B.1.1.2.2.2.2 _ zW_674)⟩ dd_Rp_lookAtReady_38 ?_
  refine za_ald_n B.1 3 dd_Rp_lookAtReady_41 rfl ?_
  refine za_gtRN (host := "SequencedBatches") B.1 1 3 zi_1 rfl (by decide) (by decide) rfl (by decide +kernel) rfl dd_Rp_lookAtReady_42 ?_
  refine za_ild B.1 dd_Rp_lookAtReady_45 ?_
  refine za_ico B.1 1 dd_Rp_lookAtReady_47 (by decide) ?_
  refine za_zast B.1 dd_Rp_lookAtReady_48 ?_
  refine za_ald_n B.1 0 dd_Rp_lookAtReady_49 rfl ?_
  refine za_ald_n B.1 3 dd_Rp_lookAtReady_50 rfl ?_
  refine za_ild B.1 dd_Rp_lookAtReady_51 ?_
  refine za_cV B.1 3 2 0 0 0 0 rfl rfl rfl (by decide) (zm_Rp_finishIfComplete l G) ⟨callB_of 2 B.1.1.2.2.2.2 (zs_good zW_266) rfl rfl rfl (B.1.1.2.2.2.2 _ zW_6) (B.1.1.2.2.2.2 _ zW_264) (by decide +kernel) ⟨by decide, by decide⟩, (B.1.1.2.2.2.2 _ zW_265), (B.1.1.2.2.2.2 _ zW_667)⟩ dd_Rp_lookAtReady_53 ?_
  refine za_ald B.1 dd_Rp_lookAtReady_56 ?_
  exact za_art B.1 0 0 B.2.1 (Or.inl ⟨_, rfl⟩) B.2.2.1 dd_Rp_lookAtReady_58
theorem zr_Rp_lookAtReady_20 (B : zs_B p s m args meth c G bb_Rp_lookAtReady 6 yy_Rp_lookAtReady (some (.object "SequencedBatches$Transaction"))) : zA_Rp_lookAtReady p l e s m args below meth c G Q 20 (zb_Rp_lookAtReady_20 Q) := by
  unfold zb_Rp_lookAtReady_20
  refine za_nul B.1 dd_Rp_lookAtReady_20 ?_
  exact za_art B.1 0 0 B.2.1 (Or.inl ⟨_, rfl⟩) B.2.2.1 dd_Rp_lookAtReady_21
theorem zr_Rp_lookAtReady_0 (B : zs_B p s m args meth c G bb_Rp_lookAtReady 6 yy_Rp_lookAtReady (some (.object "SequencedBatches$Transaction"))) : zA_Rp_lookAtReady p l e s m args below meth c G Q 0 (zb_Rp_lookAtReady_0 Q) := by
  unfold zb_Rp_lookAtReady_0
  refine za_ald_n B.1 0 dd_Rp_lookAtReady_0 rfl ?_
  refine za_gtR B.1 3 7 zi_3 rfl (by decide) (by decide) rfl zW_85 rfl dd_Rp_lookAtReady_1 ?_
  refine za_ild_n B.1 1 dd_Rp_lookAtReady_4 rfl ?_
  refine za_rld B.1 1 7 rfl dd_Rp_lookAtReady_5 ?_
  refine za_ast_n B.1 3 dd_Rp_lookAtReady_6 rfl (by decide) ?_
  refine za_ald_n B.1 3 dd_Rp_lookAtReady_7 rfl ?_
  refine za_ild_n B.1 2 dd_Rp_lookAtReady_8 rfl ?_
  refine za_cV B.1 1 1 0 0 0 0 rfl rfl rfl (by decide) (zm_Pa_indexOfReady l G) ⟨callB_of 1 B.1.1.2.2.2.2 (zs_good zW_369) rfl rfl rfl (B.1.1.2.2.2.2 _ zW_7) (B.1.1.2.2.2.2 _ zW_366) (by decide +kernel) ⟨by decide, by decide⟩, (B.1.1.2.2.2.2 _ zW_367), (B.1.1.2.2.2.2 _ zW_368)⟩ dd_Rp_lookAtReady_9 ?_
  refine za_ist B.1 dd_Rp_lookAtReady_12 (by decide) ?_
  refine za_ild B.1 dd_Rp_lookAtReady_14 ?_
  refine za_ico B.1 (-1) dd_Rp_lookAtReady_16 (by decide) ?_
  exact za_cmp_ne B.1 22 dd_Rp_lookAtReady_17 (by decide) (zr_Rp_lookAtReady_20 B) (zr_Rp_lookAtReady_22 B)
end
theorem zm_Rp_lookAtReady (l : Launch) (G : zs_G) (As : List Value) (σ : zs_S) (Q : zs_Q) (h : zw_Rp_lookAtReady As σ Q) : zs_Met l yy_Rp_lookAtReady (Cond.code yy_Rp_lookAtReady bb_Rp_lookAtReady 6 (some (.object "SequencedBatches$Transaction")) :: zw_all) zk_Rp_lookAtReady G As σ Q 0 0 := by
  unfold zw_Rp_lookAtReady at h
  split at h
  · exact zs_enter (by decide +kernel) h.1 (Nat.le_of_ble_eq_true rfl) h.2 (fun p e s m args below meth c B => zr_Rp_lookAtReady_0 B)
  · exact h.elim
-- SequencedBatches.sendValues(IILSequencedBatches$Transaction;)V
theorem dd_SB_sendValues_0 : decode bb_SB_sendValues 0 = .ok (.aload_n 0, 1) := by decide +kernel
theorem dd_SB_sendValues_1 : decode bb_SB_sendValues 1 = .ok (.getfield 44, 3) := by decide +kernel
theorem dd_SB_sendValues_4 : decode bb_SB_sendValues 4 = .ok (.iload_n 1, 1) := by decide +kernel
theorem dd_SB_sendValues_5 : decode bb_SB_sendValues 5 = .ok (.aaload, 1) := by decide +kernel
theorem dd_SB_sendValues_6 : decode bb_SB_sendValues 6 = .ok (.getfield 196, 3) := by decide +kernel
theorem dd_SB_sendValues_9 : decode bb_SB_sendValues 9 = .ok (.astore 4, 2) := by decide +kernel
theorem dd_SB_sendValues_11 : decode bb_SB_sendValues 11 = .ok (.aload_n 3, 1) := by decide +kernel
theorem dd_SB_sendValues_12 : decode bb_SB_sendValues 12 = .ok (.aload 4, 2) := by decide +kernel
theorem dd_SB_sendValues_14 : decode bb_SB_sendValues 14 = .ok (.iload_n 2, 1) := by decide +kernel
theorem dd_SB_sendValues_15 : decode bb_SB_sendValues 15 = .ok (.aaload, 1) := by decide +kernel
theorem dd_SB_sendValues_16 : decode bb_SB_sendValues 16 = .ok (.getfield 239, 3) := by decide +kernel
theorem dd_SB_sendValues_19 : decode bb_SB_sendValues 19 = .ok (.invokevirtual 242, 3) := by decide +kernel
theorem dd_SB_sendValues_22 : decode bb_SB_sendValues 22 = .ok (.ifCond .ne 4, 3) := by decide +kernel
theorem dd_SB_sendValues_25 : decode bb_SB_sendValues 25 = .ok (.return_, 1) := by decide +kernel
theorem dd_SB_sendValues_26 : decode bb_SB_sendValues 26 = .ok (.iconst 0, 1) := by decide +kernel
theorem dd_SB_sendValues_27 : decode bb_SB_sendValues 27 = .ok (.istore 5, 2) := by decide +kernel
theorem dd_SB_sendValues_29 : decode bb_SB_sendValues 29 = .ok (.iload 5, 2) := by decide +kernel
theorem dd_SB_sendValues_31 : decode bb_SB_sendValues 31 = .ok (.aload_n 0, 1) := by decide +kernel
theorem dd_SB_sendValues_32 : decode bb_SB_sendValues 32 = .ok (.getfield 57, 3) := by decide +kernel
theorem dd_SB_sendValues_35 : decode bb_SB_sendValues 35 = .ok (.if_icmp .ge 50, 3) := by decide +kernel
theorem dd_SB_sendValues_38 : decode bb_SB_sendValues 38 = .ok (.iload 5, 2) := by decide +kernel
theorem dd_SB_sendValues_40 : decode bb_SB_sendValues 40 = .ok (.iload_n 2, 1) := by decide +kernel
theorem dd_SB_sendValues_41 : decode bb_SB_sendValues 41 = .ok (.if_icmp .eq 38, 3) := by decide +kernel
theorem dd_SB_sendValues_44 : decode bb_SB_sendValues 44 = .ok (.aload_n 3, 1) := by decide +kernel
theorem dd_SB_sendValues_45 : decode bb_SB_sendValues 45 = .ok (.aload 4, 2) := by decide +kernel
theorem dd_SB_sendValues_47 : decode bb_SB_sendValues 47 = .ok (.iload 5, 2) := by decide +kernel
theorem dd_SB_sendValues_49 : decode bb_SB_sendValues 49 = .ok (.aaload, 1) := by decide +kernel
theorem dd_SB_sendValues_50 : decode bb_SB_sendValues 50 = .ok (.getfield 239, 3) := by decide +kernel
theorem dd_SB_sendValues_53 : decode bb_SB_sendValues 53 = .ok (.invokevirtual 245, 3) := by decide +kernel
theorem dd_SB_sendValues_56 : decode bb_SB_sendValues 56 = .ok (.ifCond .eq 23, 3) := by decide +kernel
theorem dd_SB_sendValues_59 : decode bb_SB_sendValues 59 = .ok (.aload_n 0, 1) := by decide +kernel
theorem dd_SB_sendValues_60 : decode bb_SB_sendValues 60 = .ok (.getfield 26, 3) := by decide +kernel
theorem dd_SB_sendValues_63 : decode bb_SB_sendValues 63 = .ok (.iconst 4, 1) := by decide +kernel
theorem dd_SB_sendValues_64 : decode bb_SB_sendValues 64 = .ok (.iload_n 1, 1) := by decide +kernel
theorem dd_SB_sendValues_65 : decode bb_SB_sendValues 65 = .ok (.aload_n 3, 1) := by decide +kernel
theorem dd_SB_sendValues_66 : decode bb_SB_sendValues 66 = .ok (.getfield 84, 3) := by decide +kernel
theorem dd_SB_sendValues_69 : decode bb_SB_sendValues 69 = .ok (.iload_n 2, 1) := by decide +kernel
theorem dd_SB_sendValues_70 : decode bb_SB_sendValues 70 = .ok (.iload 5, 2) := by decide +kernel
theorem dd_SB_sendValues_72 : decode bb_SB_sendValues 72 = .ok (.invokestatic 229, 3) := by decide +kernel
theorem dd_SB_sendValues_75 : decode bb_SB_sendValues 75 = .ok (.iconst 0, 1) := by decide +kernel
theorem dd_SB_sendValues_76 : decode bb_SB_sendValues 76 = .ok (.invokevirtual 236, 3) := by decide +kernel
theorem dd_SB_sendValues_79 : decode bb_SB_sendValues 79 = .ok (.iinc 5 1, 3) := by decide +kernel
theorem dd_SB_sendValues_82 : decode bb_SB_sendValues 82 = .ok (.goto (-53), 3) := by decide +kernel
theorem dd_SB_sendValues_85 : decode bb_SB_sendValues 85 = .ok (.return_, 1) := by decide +kernel
def zk_SB_sendValues : Room := { frames := 1, cells := 0, slots := 0, locals := 24 }
abbrev zA_SB_sendValues (p : Program) (l : Launch) (e : Env) (s : State) (m : MethodId) (args : Array Value) (below : List Frame) (meth : Method) (c : Code) (G : zs_G) (Q : zs_Q) (pc : Nat) (P : zs_P) : Prop := zs_At p l e zk_SB_sendValues s m args below meth c (MQ below (zs_Qc G Q) args s 0 0 (fun q => zg_z G ≤ q)) G 6 pc P
def zb_SB_sendValues_85 (Q : zs_Q) : zs_P := zt_vrt 0 0 Q
def zb_SB_sendValues_79 (Q : zs_Q) (K29 : zs_P) : zs_P := zt_inc 5 1 (K29)
def zb_SB_sendValues_59 (Q : zs_Q) (K29 : zs_P) : zs_P := zt_ald 0 (zt_gtR 7 4 (zt_psh 4 (zt_ild 1 (zt_ald 3 (zt_gtI 6 0 (zt_ild 2 (zt_ild 5 (zt_cal zw_Co_of 5 0 0 0 0 (zt_psh 0 (zt_cav 2 zw_Po_send (2 + 1) 0 0 0 0 ((zb_SB_sendValues_79 Q K29))))))))))))
def zb_SB_sendValues_44 (Q : zs_Q) (K29 : zs_P) : zs_P := zt_ald 3 (zt_ald 4 (zt_ild 5 (zt_rld (110 + 1) (zt_gtI 1 0 (zt_cav 6 zw_Tr_writes (1 + 1) 0 0 0 0 (zt_if (fun x => x = 0) (zb_SB_sendValues_79 Q K29) (zb_SB_sendValues_59 Q K29)))))))
def zb_SB_sendValues_38 (Q : zs_Q) (K29 : zs_P) : zs_P := zt_ild 5 (zt_ild 2 (zt_cmp (fun x y => x = y) (zb_SB_sendValues_79 Q K29) (zb_SB_sendValues_44 Q K29)))
def zb_SB_sendValues_29 (Q : zs_Q) (K29 : zs_P) : zs_P := zt_ild 5 (zt_ald 0 (zt_gtI 7 0 (zt_cmp (fun x y => y ≤ x) (zb_SB_sendValues_85 Q) (zb_SB_sendValues_38 Q K29))))
def zl_SB_sendValues_29 (Q : zs_Q) : zs_P := zt_ex (zb_SB_sendValues_29 Q)
def zb_SB_sendValues_26 (Q : zs_Q) : zs_P := zt_psh 0 (zt_ist 5 ((zl_SB_sendValues_29 Q)))
def zb_SB_sendValues_25 (Q : zs_Q) : zs_P := zt_vrt 0 0 Q
def zb_SB_sendValues_0 (Q : zs_Q) : zs_P := zt_ald 0 (zt_gtR 7 7 (zt_ild 1 (zt_rld (110 + 3) (zt_gtR 3 7 (zt_ast 4 (zt_ald 3 (zt_ald 4 (zt_ild 2 (zt_rld (110 + 1) (zt_gtI 1 0 (zt_cav 6 zw_Tr_reads (1 + 1) 0 0 0 0 (zt_if (fun x => x = 0) (zb_SB_sendValues_25 Q) (zb_SB_sendValues_26 Q)))))))))))))
def zw_SB_sendValues : zs_W := fun As σ Q => match As with
  | [a0, a1, a2, a3] => zs_c1 [a0, a1, a2, a3] = true ∧ zb_SB_sendValues_0 Q [some a0, some a1, some a2, some a3, none, none] [] σ 0 0
  | _ => False
section
variable {p : Program} {l : Launch} {e : Env} {s : State} {m : MethodId} {args : Array Value} {below : List Frame} {meth : Method} {c : Code} {G : zs_G} {Q : zs_Q}
theorem zr_SB_sendValues_85 (B : zs_B p s m args meth c G bb_SB_sendValues 6 yy_SB_sendValues none) : zA_SB_sendValues p l e s m args below meth c G Q 85 (zb_SB_sendValues_85 Q) := by
  unfold zb_SB_sendValues_85
  exact za_vrt B.1 0 0 B.2.1 B.2.2.1 dd_SB_sendValues_85
theorem zr_SB_sendValues_79 (B : zs_B p s m args meth c G bb_SB_sendValues 6 yy_SB_sendValues none) {K29 : zs_P} (h29 : zA_SB_sendValues p l e s m args below meth c G Q 29 K29) : zA_SB_sendValues p l e s m args below meth c G Q 79 (zb_SB_sendValues_79 Q K29) := by
  unfold zb_SB_sendValues_79
  refine za_inc B.1 1 dd_SB_sendValues_79 (by decide) (by decide) ?_
  refine za_goto B.1 29 dd_SB_sendValues_82 (by decide) ?_
  exact h29
theorem zr_SB_sendValues_59 (B : zs_B p s m args meth c G bb_SB_sendValues 6 yy_SB_sendValues none) {K29 : zs_P} (h29 : zA_SB_sendValues p l e s m args below meth c G Q 29 K29) : zA_SB_sendValues p l e s m args below meth c G Q 59 (zb_SB_sendValues_59 Q K29) := by
  unfold zb_SB_sendValues_59
  refine za_ald_n B.1 0 dd_SB_sendValues_59 rfl ?_
  refine za_gtR B.1 7 4 zi_7 rfl (by decide) (by decide) rfl zW_92 rfl dd_SB_sendValues_60 ?_
  refine za_ico B.1 4 dd_SB_sendValues_63 (by decide) ?_
  refine za_ild_n B.1 1 dd_SB_sendValues_64 rfl ?_
  refine za_ald_n B.1 3 dd_SB_sendValues_65 rfl ?_
  refine za_gtIN (host := "SequencedBatches") B.1 6 0 zi_6 rfl (by decide) (by decide) rfl (by decide +kernel) rfl dd_SB_sendValues_66 ?_
  refine za_ild_n B.1 2 dd_SB_sendValues_69 rfl ?_
  refine za_ild B.1 dd_SB_sendValues_70 ?_
  refine za_cS B.1 5 0 0 0 0 rfl rfl (zm_Co_of l G) ⟨callB_of 5 B.1.1.2.2.2.2 (zs_good zW_174) rfl rfl rfl (B.1.1.2.2.2.2 _ zW_11) (B.1.1.2.2.2.2 _ zW_172) (by decide +kernel) ⟨by decide, by decide⟩, (B.1.1.2.2.2.2 _ zW_173)⟩ dd_SB_sendValues_72 ?_
  refine za_ico B.1 0 dd_SB_sendValues_75 (by decide) ?_
  refine za_cV B.1 2 2 0 0 0 0 rfl rfl rfl (by decide) (zm_Po_send l G) ⟨callB_of 2 B.1.1.2.2.2.2 (zs_good zW_180) rfl rfl rfl (B.1.1.2.2.2.2 _ zW_2) (B.1.1.2.2.2.2 _ zW_177) (by decide +kernel) ⟨by decide, by decide⟩, (B.1.1.2.2.2.2 _ zW_178), (B.1.1.2.2.2.2 _ zW_179)⟩ dd_SB_sendValues_76 ?_
  exact (zr_SB_sendValues_79 B h29)
theorem zr_SB_sendValues_44 (B : zs_B p s m args meth c G bb_SB_sendValues 6 yy_SB_sendValues none) {K29 : zs_P} (h29 : zA_SB_sendValues p l e s m args below meth c G Q 29 K29) : zA_SB_sendValues p l e s m args below meth c G Q 44 (zb_SB_sendValues_44 Q K29) := by
  unfold zb_SB_sendValues_44
  refine za_ald_n B.1 3 dd_SB_sendValues_44 rfl ?_
  refine za_ald B.1 dd_SB_sendValues_45 ?_
  refine za_ild B.1 dd_SB_sendValues_47 ?_
  refine za_rld B.1 1 7 rfl dd_SB_sendValues_49 ?_
  refine za_gtIN (host := "SequencedBatches") B.1 1 0 zi_1 rfl (by decide) (by decide) rfl (by decide +kernel) rfl dd_SB_sendValues_50 ?_
  refine za_cV B.1 6 1 0 0 0 0 rfl rfl rfl (by decide) (zm_Tr_writes l G) ⟨callB_of 1 B.1.1.2.2.2.2 (zs_good zW_270) rfl rfl rfl (B.1.1.2.2.2.2 _ zW_9) (B.1.1.2.2.2.2 _ zW_384) (by decide +kernel) ⟨by decide, by decide⟩, (B.1.1.2.2.2.2 _ zW_268), (B.1.1.2.2.2.2 _ zW_269)⟩ dd_SB_sendValues_53 ?_
  exact za_if_eq B.1 79 dd_SB_sendValues_56 (by decide) (zr_SB_sendValues_79 B h29) (zr_SB_sendValues_59 B h29)
theorem zr_SB_sendValues_38 (B : zs_B p s m args meth c G bb_SB_sendValues 6 yy_SB_sendValues none) {K29 : zs_P} (h29 : zA_SB_sendValues p l e s m args below meth c G Q 29 K29) : zA_SB_sendValues p l e s m args below meth c G Q 38 (zb_SB_sendValues_38 Q K29) := by
  unfold zb_SB_sendValues_38
  refine za_ild B.1 dd_SB_sendValues_38 ?_
  refine za_ild_n B.1 2 dd_SB_sendValues_40 rfl ?_
  exact za_cmp_eq B.1 79 dd_SB_sendValues_41 (by decide) (zr_SB_sendValues_79 B h29) (zr_SB_sendValues_44 B h29)
theorem zr_SB_sendValues_29 (B : zs_B p s m args meth c G bb_SB_sendValues 6 yy_SB_sendValues none) {K29 : zs_P} (h29 : zA_SB_sendValues p l e s m args below meth c G Q 29 K29) : zA_SB_sendValues p l e s m args below meth c G Q 29 (zb_SB_sendValues_29 Q K29) := by
  unfold zb_SB_sendValues_29
  refine za_ild B.1 dd_SB_sendValues_29 ?_
  refine za_ald_n B.1 0 dd_SB_sendValues_31 rfl ?_
  refine za_gtI B.1 7 0 zi_7 rfl (by decide) (by decide) rfl zW_88 rfl dd_SB_sendValues_32 ?_
  exact za_cmp_ge B.1 85 dd_SB_sendValues_35 (by decide) (zr_SB_sendValues_85 B) (zr_SB_sendValues_38 B h29)
theorem zq_SB_sendValues_29 (B : zs_B p s m args meth c G bb_SB_sendValues 6 yy_SB_sendValues none) : zA_SB_sendValues p l e s m args below meth c G Q 29 (zl_SB_sendValues_29 Q) := za_lop (fun K hK => zr_SB_sendValues_29 B hK)
theorem zr_SB_sendValues_26 (B : zs_B p s m args meth c G bb_SB_sendValues 6 yy_SB_sendValues none) : zA_SB_sendValues p l e s m args below meth c G Q 26 (zb_SB_sendValues_26 Q) := by
  unfold zb_SB_sendValues_26
  refine za_ico B.1 0 dd_SB_sendValues_26 (by decide) ?_
  refine za_ist B.1 dd_SB_sendValues_27 (by decide) ?_
  exact (zq_SB_sendValues_29 B)
theorem zr_SB_sendValues_25 (B : zs_B p s m args meth c G bb_SB_sendValues 6 yy_SB_sendValues none) : zA_SB_sendValues p l e s m args below meth c G Q 25 (zb_SB_sendValues_25 Q) := by
  unfold zb_SB_sendValues_25
  exact za_vrt B.1 0 0 B.2.1 B.2.2.1 dd_SB_sendValues_25
theorem zr_SB_sendValues_0 (B : zs_B p s m args meth c G bb_SB_sendValues 6 yy_SB_sendValues none) : zA_SB_sendValues p l e s m args below meth c G Q 0 (zb_SB_sendValues_0 Q) := by
  unfold zb_SB_sendValues_0
  refine za_ald_n B.1 0 dd_SB_sendValues_0 rfl ?_
  refine za_gtR B.1 7 7 zi_7 rfl (by decide) (by decide) rfl zW_95 rfl dd_SB_sendValues_1 ?_
  refine za_ild_n B.1 1 dd_SB_sendValues_4 rfl ?_
  refine za_rld B.1 3 5 rfl dd_SB_sendValues_5 ?_
  refine za_gtRN (host := "SequencedBatches") B.1 3 7 zi_3 rfl (by decide) (by decide) rfl (by decide +kernel) rfl dd_SB_sendValues_6 ?_
  refine za_ast B.1 dd_SB_sendValues_9 (by decide) ?_
  refine za_ald_n B.1 3 dd_SB_sendValues_11 rfl ?_
  refine za_ald B.1 dd_SB_sendValues_12 ?_
  refine za_ild_n B.1 2 dd_SB_sendValues_14 rfl ?_
  refine za_rld B.1 1 7 rfl dd_SB_sendValues_15 ?_
  refine za_gtIN (host := "SequencedBatches") B.1 1 0 zi_1 rfl (by decide) (by decide) rfl (by decide +kernel) rfl dd_SB_sendValues_16 ?_
  refine za_cV B.1 6 1 0 0 0 0 rfl rfl rfl (by decide) (zm_Tr_reads l G) ⟨callB_of 1 B.1.1.2.2.2.2 (zs_good zW_278) rfl rfl rfl (B.1.1.2.2.2.2 _ zW_9) (B.1.1.2.2.2.2 _ zW_383) (by decide +kernel) ⟨by decide, by decide⟩, (B.1.1.2.2.2.2 _ zW_276), (B.1.1.2.2.2.2 _ zW_277)⟩ dd_SB_sendValues_19 ?_
  exact za_if_ne B.1 26 dd_SB_sendValues_22 (by decide) (zr_SB_sendValues_25 B) (zr_SB_sendValues_26 B)
end
theorem zm_SB_sendValues (l : Launch) (G : zs_G) (As : List Value) (σ : zs_S) (Q : zs_Q) (h : zw_SB_sendValues As σ Q) : zs_Met l yy_SB_sendValues (Cond.code yy_SB_sendValues bb_SB_sendValues 6 none :: zw_all) zk_SB_sendValues G As σ Q 0 0 := by
  unfold zw_SB_sendValues at h
  split at h
  · exact zs_enter (by decide +kernel) h.1 (Nat.le_of_ble_eq_true rfl) h.2 (fun p e s m args below meth c B => zr_SB_sendValues_0 B)
  · exact h.elim
-- SequencedBatches.look(III)I
theorem dd_SB_look_0 : decode bb_SB_look 0 = .ok (.aload_n 0, 1) := by decide +kernel
theorem dd_SB_look_1 : decode bb_SB_look 1 = .ok (.iload_n 1, 1) := by decide +kernel
theorem dd_SB_look_2 : decode bb_SB_look 2 = .ok (.iload_n 2, 1) := by decide +kernel
theorem dd_SB_look_3 : decode bb_SB_look 3 = .ok (.invokevirtual 163, 3) := by decide +kernel
theorem dd_SB_look_6 : decode bb_SB_look 6 = .ok (.ifCond .eq 13, 3) := by decide +kernel
theorem dd_SB_look_9 : decode bb_SB_look 9 = .ok (.aload_n 0, 1) := by decide +kernel
theorem dd_SB_look_10 : decode bb_SB_look 10 = .ok (.getfield 26, 3) := by decide +kernel
theorem dd_SB_look_13 : decode bb_SB_look 13 = .ok (.invokevirtual 90, 3) := by decide +kernel
theorem dd_SB_look_16 : decode bb_SB_look 16 = .ok (.ifCond .eq 5, 3) := by decide +kernel
theorem dd_SB_look_19 : decode bb_SB_look 19 = .ok (.iconst (-1), 1) := by decide +kernel
theorem dd_SB_look_20 : decode bb_SB_look 20 = .ok (.ireturn, 1) := by decide +kernel
theorem dd_SB_look_21 : decode bb_SB_look 21 = .ok (.aload_n 0, 1) := by decide +kernel
theorem dd_SB_look_22 : decode bb_SB_look 22 = .ok (.getfield 44, 3) := by decide +kernel
theorem dd_SB_look_25 : decode bb_SB_look 25 = .ok (.iload_n 1, 1) := by decide +kernel
theorem dd_SB_look_26 : decode bb_SB_look 26 = .ok (.aaload, 1) := by decide +kernel
theorem dd_SB_look_27 : decode bb_SB_look 27 = .ok (.iload_n 2, 1) := by decide +kernel
theorem dd_SB_look_28 : decode bb_SB_look 28 = .ok (.iload_n 3, 1) := by decide +kernel
theorem dd_SB_look_29 : decode bb_SB_look 29 = .ok (.invokevirtual 170, 3) := by decide +kernel
theorem dd_SB_look_32 : decode bb_SB_look 32 = .ok (.astore 4, 2) := by decide +kernel
theorem dd_SB_look_34 : decode bb_SB_look 34 = .ok (.aload 4, 2) := by decide +kernel
theorem dd_SB_look_36 : decode bb_SB_look 36 = .ok (.ifnonnull 5, 3) := by decide +kernel
theorem dd_SB_look_39 : decode bb_SB_look 39 = .ok (.iconst (-1), 1) := by decide +kernel
theorem dd_SB_look_40 : decode bb_SB_look 40 = .ok (.ireturn, 1) := by decide +kernel
theorem dd_SB_look_41 : decode bb_SB_look 41 = .ok (.aload_n 0, 1) := by decide +kernel
theorem dd_SB_look_42 : decode bb_SB_look 42 = .ok (.iload_n 1, 1) := by decide +kernel
theorem dd_SB_look_43 : decode bb_SB_look 43 = .ok (.iload_n 2, 1) := by decide +kernel
theorem dd_SB_look_44 : decode bb_SB_look 44 = .ok (.aload 4, 2) := by decide +kernel
theorem dd_SB_look_46 : decode bb_SB_look 46 = .ok (.invokevirtual 174, 3) := by decide +kernel
theorem dd_SB_look_49 : decode bb_SB_look 49 = .ok (.aload 4, 2) := by decide +kernel
theorem dd_SB_look_51 : decode bb_SB_look 51 = .ok (.getfield 84, 3) := by decide +kernel
theorem dd_SB_look_54 : decode bb_SB_look 54 = .ok (.ireturn, 1) := by decide +kernel
def zk_SB_look : Room := { frames := 5, cells := 0, slots := 0, locals := 138 }
abbrev zA_SB_look (p : Program) (l : Launch) (e : Env) (s : State) (m : MethodId) (args : Array Value) (below : List Frame) (meth : Method) (c : Code) (G : zs_G) (Q : zs_Q) (pc : Nat) (P : zs_P) : Prop := zs_At p l e zk_SB_look s m args below meth c (MQ below (zs_Qc G Q) args s 0 0 (fun q => zg_z G ≤ q)) G 5 pc P
def zb_SB_look_19 (Q : zs_Q) : zs_P := zt_psh (-1) (zt_irt 0 0 Q)
def zb_SB_look_41 (Q : zs_Q) : zs_P := zt_ald 0 (zt_ild 1 (zt_ild 2 (zt_ald 4 (zt_cav 7 zw_SB_sendValues (3 + 1) 0 0 0 0 (zt_ald 4 (zt_gtI 6 0 (zt_irt 0 0 Q)))))))
def zb_SB_look_39 (Q : zs_Q) : zs_P := zt_psh (-1) (zt_irt 0 0 Q)
def zb_SB_look_21 (Q : zs_Q) : zs_P := zt_ald 0 (zt_gtR 7 7 (zt_ild 1 (zt_rld (110 + 3) (zt_ild 2 (zt_ild 3 (zt_cav 3 zw_Rp_lookAtReady (2 + 1) 0 0 0 0 (zt_ast 4 (zt_ald 4 (zt_ifn (zb_SB_look_39 Q) (zb_SB_look_41 Q))))))))))
def zb_SB_look_9 (Q : zs_Q) : zs_P := zt_ald 0 (zt_gtR 7 4 (zt_cav 2 zw_Po_isCrowded (0 + 1) 0 0 0 0 (zt_if (fun x => x = 0) (zb_SB_look_21 Q) (zb_SB_look_19 Q))))
def zb_SB_look_0 (Q : zs_Q) : zs_P := zt_ald 0 (zt_ild 1 (zt_ild 2 (zt_cav 7 zw_SB_partitionIsUp (2 + 1) 0 0 0 0 (zt_if (fun x => x = 0) (zb_SB_look_19 Q) (zb_SB_look_9 Q)))))
def zw_SB_look : zs_W := fun As σ Q => match As with
  | [a0, a1, a2, a3] => zs_c1 [a0, a1, a2, a3] = true ∧ zb_SB_look_0 Q [some a0, some a1, some a2, some a3, none] [] σ 0 0
  | _ => False
section
variable {p : Program} {l : Launch} {e : Env} {s : State} {m : MethodId} {args : Array Value} {below : List Frame} {meth : Method} {c : Code} {G : zs_G} {Q : zs_Q}
theorem zr_SB_look_19 (B : zs_B p s m args meth c G bb_SB_look 5 yy_SB_look (some .int)) : zA_SB_look p l e s m args below meth c G Q 19 (zb_SB_look_19 Q) := by
  unfold zb_SB_look_19
  refine za_ico B.1 (-1) dd_SB_look_19 (by decide) ?_
  exact za_irt B.1 0 0 B.2.1 B.2.2.1 dd_SB_look_20
theorem zr_SB_look_41 (B : zs_B p s m args meth c G bb_SB_look 5 yy_SB_look (some .int)) : zA_SB_look p l e s m args below meth c G Q 41 (zb_SB_look_41 Q) := by
  unfold zb_SB_look_41
  refine za_ald_n B.1 0 dd_SB_look_41 rfl ?_
  refine za_ild_n B.1 1 dd_SB_look_42 rfl ?_
  refine za_ild_n B.1 2 dd_SB_look_43 rfl ?_
  refine za_ald B.1 dd_SB_look_44 ?_
  refine za_cV B.1 7 3 0 0 0 0 rfl rfl rfl (by decide) (zm_SB_sendValues l G) ⟨callB_of 3 B.1.1.2.2.2.2 (zs_good zW_382) rfl rfl rfl (B.1.1.2.2.2.2 _ zW_1) (B.1.1.2.2.2.2 _ zW_380) (by decide +kernel) ⟨by decide, by decide⟩, (B.1.1.2.2.2.2 _ zW_381), (B.1.1.2.2.2.2 _ zW_675)⟩ dd_SB_look_46 ?_
  refine za_ald B.1 dd_SB_look_49 ?_
  refine za_gtIN (host := "SequencedBatches") B.1 6 0 zi_6 rfl (by decide) (by decide) rfl (by decide +kernel) rfl dd_SB_look_51 ?_
  exact za_irt B.1 0 0 B.2.1 B.2.2.1 dd_SB_look_54
theorem zr_SB_look_39 (B : zs_B p s m args meth c G bb_SB_look 5 yy_SB_look (some .int)) : zA_SB_look p l e s m args below meth c G Q 39 (zb_SB_look_39 Q) := by
  unfold zb_SB_look_39
  refine za_ico B.1 (-1) dd_SB_look_39 (by decide) ?_
  exact za_irt B.1 0 0 B.2.1 B.2.2.1 dd_SB_look_40
theorem zr_SB_look_21 (B : zs_B p s m args meth c G bb_SB_look 5 yy_SB_look (some .int)) : zA_SB_look p l e s m args below meth c G Q 21 (zb_SB_look_21 Q) := by
  unfold zb_SB_look_21
  refine za_ald_n B.1 0 dd_SB_look_21 rfl ?_
  refine za_gtR B.1 7 7 zi_7 rfl (by decide) (by decide) rfl zW_95 rfl dd_SB_look_22 ?_
  refine za_ild_n B.1 1 dd_SB_look_25 rfl ?_
  refine za_rld B.1 3 5 rfl dd_SB_look_26 ?_
  refine za_ild_n B.1 2 dd_SB_look_27 rfl ?_
  refine za_ild_n B.1 3 dd_SB_look_28 rfl ?_
  refine za_cV B.1 3 2 0 0 0 0 rfl rfl rfl (by decide) (zm_Rp_lookAtReady l G) ⟨callB_of 2 B.1.1.2.2.2.2 (zs_good zW_365) rfl rfl rfl (B.1.1.2.2.2.2 _ zW_6) (B.1.1.2.2.2.2 _ zW_362) (by decide +kernel) ⟨by decide, by decide⟩, (B.1.1.2.2.2.2 _ zW_363), (B.1.1.2.2.2.2 _ zW_364)⟩ dd_SB_look_29 ?_
  refine za_ast B.1 dd_SB_look_32 (by decide) ?_
  refine za_ald B.1 dd_SB_look_34 ?_
  exact za_ifnonnull B.1 41 dd_SB_look_36 (by decide) (zr_SB_look_39 B) (zr_SB_look_41 B)
theorem zr_SB_look_9 (B : zs_B p s m args meth c G bb_SB_look 5 yy_SB_look (some .int)) : zA_SB_look p l e s m args below meth c G Q 9 (zb_SB_look_9 Q) := by
  unfold zb_SB_look_9
  refine za_ald_n B.1 0 dd_SB_look_9 rfl ?_
  refine za_gtR B.1 7 4 zi_7 rfl (by decide) (by decide) rfl zW_92 rfl dd_SB_look_10 ?_
  refine za_cV B.1 2 0 0 0 0 0 rfl rfl rfl (by decide) (zm_Po_isCrowded l G) ⟨callB_of 0 B.1.1.2.2.2.2 (zs_good zW_147) rfl rfl rfl (B.1.1.2.2.2.2 _ zW_2) (B.1.1.2.2.2.2 _ zW_144) (by decide +kernel) ⟨by decide, by decide⟩, (B.1.1.2.2.2.2 _ zW_145), (B.1.1.2.2.2.2 _ zW_146)⟩ dd_SB_look_13 ?_
  exact za_if_eq B.1 21 dd_SB_look_16 (by decide) (zr_SB_look_21 B) (zr_SB_look_19 B)
theorem zr_SB_look_0 (B : zs_B p s m args meth c G bb_SB_look 5 yy_SB_look (some .int)) : zA_SB_look p l e s m args below meth c G Q 0 (zb_SB_look_0 Q) := by
  unfold zb_SB_look_0
  refine za_ald_n B.1 0 dd_SB_look_0 rfl ?_
  refine za_ild_n B.1 1 dd_SB_look_1 rfl ?_
  refine za_ild_n B.1 2 dd_SB_look_2 rfl ?_
  refine za_cV B.1 7 2 0 0 0 0 rfl rfl rfl (by decide) (zm_SB_partitionIsUp l G) ⟨callB_of 2 B.1.1.2.2.2.2 (zs_good zW_339) rfl rfl rfl (B.1.1.2.2.2.2 _ zW_1) (B.1.1.2.2.2.2 _ zW_337) (by decide +kernel) ⟨by decide, by decide⟩, (B.1.1.2.2.2.2 _ zW_338), (B.1.1.2.2.2.2 _ zW_672)⟩ dd_SB_look_3 ?_
  exact za_if_eq B.1 19 dd_SB_look_6 (by decide) (zr_SB_look_19 B) (zr_SB_look_9 B)
end
theorem zm_SB_look (l : Launch) (G : zs_G) (As : List Value) (σ : zs_S) (Q : zs_Q) (h : zw_SB_look As σ Q) : zs_Met l yy_SB_look (Cond.code yy_SB_look bb_SB_look 5 (some .int) :: zw_all) zk_SB_look G As σ Q 0 0 := by
  unfold zw_SB_look at h
  split at h
  · exact zs_enter (by decide +kernel) h.1 (Nat.le_of_ble_eq_true rfl) h.2 (fun p e s m args below meth c B => zr_SB_look_0 B)
  · exact h.elim
-- SequencedBatches$Partition.finishedCount()I
theorem dd_Pa_finishedCount_0 : decode bb_Pa_finishedCount 0 = .ok (.aload_n 0, 1) := by decide +kernel
theorem dd_Pa_finishedCount_1 : decode bb_Pa_finishedCount 1 = .ok (.getfield 9, 3) := by decide +kernel
theorem dd_Pa_finishedCount_4 : decode bb_Pa_finishedCount 4 = .ok (.aload_n 0, 1) := by decide +kernel
theorem dd_Pa_finishedCount_5 : decode bb_Pa_finishedCount 5 = .ok (.getfield 25, 3) := by decide +kernel
theorem dd_Pa_finishedCount_8 : decode bb_Pa_finishedCount 8 = .ok (.isub, 1) := by decide +kernel
theorem dd_Pa_finishedCount_9 : decode bb_Pa_finishedCount 9 = .ok (.ireturn, 1) := by decide +kernel
def zk_Pa_finishedCount : Room := { frames := 0, cells := 0, slots := 0, locals := 0 }
abbrev zA_Pa_finishedCount (p : Program) (l : Launch) (e : Env) (s : State) (m : MethodId) (args : Array Value) (below : List Frame) (meth : Method) (c : Code) (G : zs_G) (Q : zs_Q) (pc : Nat) (P : zs_P) : Prop := zs_At p l e zk_Pa_finishedCount s m args below meth c (MQ below (zs_Qc G Q) args s 0 0 (fun q => zg_z G ≤ q)) G 1 pc P
def zb_Pa_finishedCount_0 (Q : zs_Q) : zs_P := zt_ald 0 (zt_gtI 1 1 (zt_ald 0 (zt_gtI 1 4 (zt_bin (fun x y => x - y) (zt_irt 0 0 Q)))))
def zw_Pa_finishedCount : zs_W := fun As σ Q => match As with
  | [a0] => zs_c1 [a0] = true ∧ zb_Pa_finishedCount_0 Q [some a0] [] σ 0 0
  | _ => False
section
variable {p : Program} {l : Launch} {e : Env} {s : State} {m : MethodId} {args : Array Value} {below : List Frame} {meth : Method} {c : Code} {G : zs_G} {Q : zs_Q}
theorem zr_Pa_finishedCount_0 (B : zs_B p s m args meth c G bb_Pa_finishedCount 1 yy_Pa_finishedCount (some .int)) : zA_Pa_finishedCount p l e s m args below meth c G Q 0 (zb_Pa_finishedCount_0 Q) := by
  unfold zb_Pa_finishedCount_0
  refine za_ald_n B.1 0 dd_Pa_finishedCount_0 rfl ?_
  refine za_gtI B.1 1 1 zi_1 rfl (by decide) (by decide) rfl zW_73 rfl dd_Pa_finishedCount_1 ?_
  refine za_ald_n B.1 0 dd_Pa_finishedCount_4 rfl ?_
  refine za_gtI B.1 1 4 zi_1 rfl (by decide) (by decide) rfl zW_76 rfl dd_Pa_finishedCount_5 ?_
  refine za_sub B.1 dd_Pa_finishedCount_8 ?_
  exact za_irt B.1 0 0 B.2.1 B.2.2.1 dd_Pa_finishedCount_9
end
theorem zm_Pa_finishedCount (l : Launch) (G : zs_G) (As : List Value) (σ : zs_S) (Q : zs_Q) (h : zw_Pa_finishedCount As σ Q) : zs_Met l yy_Pa_finishedCount (Cond.code yy_Pa_finishedCount bb_Pa_finishedCount 1 (some .int) :: zw_all) zk_Pa_finishedCount G As σ Q 0 0 := by
  unfold zw_Pa_finishedCount at h
  split at h
  · exact zs_enter (by decide +kernel) h.1 (Nat.le_of_ble_eq_true rfl) h.2 (fun p e s m args below meth c B => zr_Pa_finishedCount_0 B)
  · exact h.elim
-- SequencedBatches$Replica.makeCheckpoint()I
theorem dd_Rp_makeCheckpoint_0 : decode bb_Rp_makeCheckpoint 0 = .ok (.aload_n 0, 1) := by decide +kernel
theorem dd_Rp_makeCheckpoint_1 : decode bb_Rp_makeCheckpoint 1 = .ok (.getfield 48, 3) := by decide +kernel
theorem dd_Rp_makeCheckpoint_4 : decode bb_Rp_makeCheckpoint 4 = .ok (.iconst 0, 1) := by decide +kernel
theorem dd_Rp_makeCheckpoint_5 : decode bb_Rp_makeCheckpoint 5 = .ok (.aaload, 1) := by decide +kernel
theorem dd_Rp_makeCheckpoint_6 : decode bb_Rp_makeCheckpoint 6 = .ok (.getfield 79, 3) := by decide +kernel
theorem dd_Rp_makeCheckpoint_9 : decode bb_Rp_makeCheckpoint 9 = .ok (.istore_n 1, 1) := by decide +kernel
theorem dd_Rp_makeCheckpoint_10 : decode bb_Rp_makeCheckpoint 10 = .ok (.iconst 0, 1) := by decide +kernel
theorem dd_Rp_makeCheckpoint_11 : decode bb_Rp_makeCheckpoint 11 = .ok (.istore_n 2, 1) := by decide +kernel
theorem dd_Rp_makeCheckpoint_12 : decode bb_Rp_makeCheckpoint 12 = .ok (.iload_n 2, 1) := by decide +kernel
theorem dd_Rp_makeCheckpoint_13 : decode bb_Rp_makeCheckpoint 13 = .ok (.aload_n 0, 1) := by decide +kernel
theorem dd_Rp_makeCheckpoint_14 : decode bb_Rp_makeCheckpoint 14 = .ok (.getfield 48, 3) := by decide +kernel
theorem dd_Rp_makeCheckpoint_17 : decode bb_Rp_makeCheckpoint 17 = .ok (.arraylength, 1) := by decide +kernel
theorem dd_Rp_makeCheckpoint_18 : decode bb_Rp_makeCheckpoint 18 = .ok (.if_icmp .ge 37, 3) := by decide +kernel
theorem dd_Rp_makeCheckpoint_21 : decode bb_Rp_makeCheckpoint 21 = .ok (.aload_n 0, 1) := by decide +kernel
theorem dd_Rp_makeCheckpoint_22 : decode bb_Rp_makeCheckpoint 22 = .ok (.getfield 48, 3) := by decide +kernel
theorem dd_Rp_makeCheckpoint_25 : decode bb_Rp_makeCheckpoint 25 = .ok (.iload_n 2, 1) := by decide +kernel
theorem dd_Rp_makeCheckpoint_26 : decode bb_Rp_makeCheckpoint 26 = .ok (.aaload, 1) := by decide +kernel
theorem dd_Rp_makeCheckpoint_27 : decode bb_Rp_makeCheckpoint 27 = .ok (.getfield 79, 3) := by decide +kernel
theorem dd_Rp_makeCheckpoint_30 : decode bb_Rp_makeCheckpoint 30 = .ok (.iload_n 1, 1) := by decide +kernel
theorem dd_Rp_makeCheckpoint_31 : decode bb_Rp_makeCheckpoint 31 = .ok (.if_icmp .ne 16, 3) := by decide +kernel
theorem dd_Rp_makeCheckpoint_34 : decode bb_Rp_makeCheckpoint 34 = .ok (.aload_n 0, 1) := by decide +kernel
theorem dd_Rp_makeCheckpoint_35 : decode bb_Rp_makeCheckpoint 35 = .ok (.getfield 48, 3) := by decide +kernel
theorem dd_Rp_makeCheckpoint_38 : decode bb_Rp_makeCheckpoint 38 = .ok (.iload_n 2, 1) := by decide +kernel
theorem dd_Rp_makeCheckpoint_39 : decode bb_Rp_makeCheckpoint 39 = .ok (.aaload, 1) := by decide +kernel
theorem dd_Rp_makeCheckpoint_40 : decode bb_Rp_makeCheckpoint 40 = .ok (.invokevirtual 82, 3) := by decide +kernel
theorem dd_Rp_makeCheckpoint_43 : decode bb_Rp_makeCheckpoint 43 = .ok (.iload_n 1, 1) := by decide +kernel
theorem dd_Rp_makeCheckpoint_44 : decode bb_Rp_makeCheckpoint 44 = .ok (.if_icmp .eq 5, 3) := by decide +kernel
theorem dd_Rp_makeCheckpoint_47 : decode bb_Rp_makeCheckpoint 47 = .ok (.iconst (-1), 1) := by decide +kernel
theorem dd_Rp_makeCheckpoint_48 : decode bb_Rp_makeCheckpoint 48 = .ok (.ireturn, 1) := by decide +kernel
theorem dd_Rp_makeCheckpoint_49 : decode bb_Rp_makeCheckpoint 49 = .ok (.iinc 2 1, 3) := by decide +kernel
theorem dd_Rp_makeCheckpoint_52 : decode bb_Rp_makeCheckpoint 52 = .ok (.goto (-40), 3) := by decide +kernel
theorem dd_Rp_makeCheckpoint_55 : decode bb_Rp_makeCheckpoint 55 = .ok (.aload_n 0, 1) := by decide +kernel
theorem dd_Rp_makeCheckpoint_56 : decode bb_Rp_makeCheckpoint 56 = .ok (.getfield 37, 3) := by decide +kernel
theorem dd_Rp_makeCheckpoint_59 : decode bb_Rp_makeCheckpoint 59 = .ok (.iconst 0, 1) := by decide +kernel
theorem dd_Rp_makeCheckpoint_60 : decode bb_Rp_makeCheckpoint 60 = .ok (.aload_n 0, 1) := by decide +kernel
theorem dd_Rp_makeCheckpoint_61 : decode bb_Rp_makeCheckpoint 61 = .ok (.getfield 30, 3) := by decide +kernel
theorem dd_Rp_makeCheckpoint_64 : decode bb_Rp_makeCheckpoint 64 = .ok (.iconst 0, 1) := by decide +kernel
theorem dd_Rp_makeCheckpoint_65 : decode bb_Rp_makeCheckpoint 65 = .ok (.bipush 12, 2) := by decide +kernel
theorem dd_Rp_makeCheckpoint_67 : decode bb_Rp_makeCheckpoint 67 = .ok (.invokestatic 69, 3) := by decide +kernel
theorem dd_Rp_makeCheckpoint_70 : decode bb_Rp_makeCheckpoint 70 = .ok (.aload_n 0, 1) := by decide +kernel
theorem dd_Rp_makeCheckpoint_71 : decode bb_Rp_makeCheckpoint 71 = .ok (.iload_n 1, 1) := by decide +kernel
theorem dd_Rp_makeCheckpoint_72 : decode bb_Rp_makeCheckpoint 72 = .ok (.putfield 34, 3) := by decide +kernel
theorem dd_Rp_makeCheckpoint_75 : decode bb_Rp_makeCheckpoint 75 = .ok (.iload_n 1, 1) := by decide +kernel
theorem dd_Rp_makeCheckpoint_76 : decode bb_Rp_makeCheckpoint 76 = .ok (.ireturn, 1) := by decide +kernel
def zk_Rp_makeCheckpoint : Room := { frames := 1, cells := 0, slots := 0, locals := 40 }
abbrev zA_Rp_makeCheckpoint (p : Program) (l : Launch) (e : Env) (s : State) (m : MethodId) (args : Array Value) (below : List Frame) (meth : Method) (c : Code) (G : zs_G) (Q : zs_Q) (pc : Nat) (P : zs_P) : Prop := zs_At p l e zk_Rp_makeCheckpoint s m args below meth c (MQ below (zs_Qc G Q) args s 0 0 (fun q => zg_z G ≤ q)) G 3 pc P
def zb_Rp_makeCheckpoint_55 (Q : zs_Q) : zs_P := zt_ald 0 (zt_gtR 3 6 (zt_psh 0 (zt_ald 0 (zt_gtR 3 4 (zt_psh 0 (zt_psh 12 (zt_jcp (zt_ald 0 (zt_ild 1 (zt_ptI 3 5 (zt_ild 1 (zt_irt 0 0 Q))))))))))))
def zb_Rp_makeCheckpoint_47 (Q : zs_Q) : zs_P := zt_psh (-1) (zt_irt 0 0 Q)
def zb_Rp_makeCheckpoint_49 (Q : zs_Q) (K12 : zs_P) : zs_P := zt_inc 2 1 (K12)
def zb_Rp_makeCheckpoint_34 (Q : zs_Q) (K12 : zs_P) : zs_P := zt_ald 0 (zt_gtR 3 7 (zt_ild 2 (zt_rld (110 + 1) (zt_cav 1 zw_Pa_finishedCount (0 + 1) 0 0 0 0 (zt_ild 1 (zt_cmp (fun x y => x = y) (zb_Rp_makeCheckpoint_49 Q K12) (zb_Rp_makeCheckpoint_47 Q)))))))
def zb_Rp_makeCheckpoint_21 (Q : zs_Q) (K12 : zs_P) : zs_P := zt_ald 0 (zt_gtR 3 7 (zt_ild 2 (zt_rld (110 + 1) (zt_gtI 1 1 (zt_ild 1 (zt_cmp (fun x y => x = y) (zb_Rp_makeCheckpoint_34 Q K12) (zb_Rp_makeCheckpoint_47 Q)))))))
def zb_Rp_makeCheckpoint_12 (Q : zs_Q) (K12 : zs_P) : zs_P := zt_ild 2 (zt_ald 0 (zt_gtR 3 7 (zt_len (110 + 1) (zt_cmp (fun x y => y ≤ x) (zb_Rp_makeCheckpoint_55 Q) (zb_Rp_makeCheckpoint_21 Q K12)))))
def zl_Rp_makeCheckpoint_12 (Q : zs_Q) : zs_P := zt_ex (zb_Rp_makeCheckpoint_12 Q)
def zb_Rp_makeCheckpoint_0 (Q : zs_Q) : zs_P := zt_ald 0 (zt_gtR 3 7 (zt_psh 0 (zt_rld (110 + 1) (zt_gtI 1 1 (zt_ist 1 (zt_psh 0 (zt_ist 2 ((zl_Rp_makeCheckpoint_12 Q)))))))))
def zw_Rp_makeCheckpoint : zs_W := fun As σ Q => match As with
  | [a0] => zs_c1 [a0] = true ∧ zb_Rp_makeCheckpoint_0 Q [some a0, none, none] [] σ 0 0
  | _ => False
section
variable {p : Program} {l : Launch} {e : Env} {s : State} {m : MethodId} {args : Array Value} {below : List Frame} {meth : Method} {c : Code} {G : zs_G} {Q : zs_Q}
theorem zr_Rp_makeCheckpoint_55 (B : zs_B p s m args meth c G bb_Rp_makeCheckpoint 3 yy_Rp_makeCheckpoint (some .int)) : zA_Rp_makeCheckpoint p l e s m args below meth c G Q 55 (zb_Rp_makeCheckpoint_55 Q) := by
  unfold zb_Rp_makeCheckpoint_55
  refine za_ald_n B.1 0 dd_Rp_makeCheckpoint_55 rfl ?_
  refine za_gtR B.1 3 6 zi_3 rfl (by decide) (by decide) rfl zW_84 rfl dd_Rp_makeCheckpoint_56 ?_
  refine za_ico B.1 0 dd_Rp_makeCheckpoint_59 (by decide) ?_
  refine za_ald_n B.1 0 dd_Rp_makeCheckpoint_60 rfl ?_
  refine za_gtR B.1 3 4 zi_3 rfl (by decide) (by decide) rfl zW_82 rfl dd_Rp_makeCheckpoint_61 ?_
  refine za_ico B.1 0 dd_Rp_makeCheckpoint_64 (by decide) ?_
  refine za_bip B.1 12 dd_Rp_makeCheckpoint_65 (by decide) ?_
  refine za_jcp B.1 (by decide) zW_326 zW_328 zW_327 zW_12 dd_Rp_makeCheckpoint_67 ?_
  refine za_ald_n B.1 0 dd_Rp_makeCheckpoint_70 rfl ?_
  refine za_ild_n B.1 1 dd_Rp_makeCheckpoint_71 rfl ?_
  refine za_ptI B.1 3 5 zi_3 zy_Rp zy_Rp_ok zn_Rp rfl (by decide) (by decide) rfl zW_83 rfl rfl rfl dd_Rp_makeCheckpoint_72 ?_
  refine za_ild_n B.1 1 dd_Rp_makeCheckpoint_75 rfl ?_
  exact za_irt B.1 0 0 B.2.1 B.2.2.1 dd_Rp_makeCheckpoint_76
theorem zr_Rp_makeCheckpoint_47 (B : zs_B p s m args meth c G bb_Rp_makeCheckpoint 3 yy_Rp_makeCheckpoint (some .int)) : zA_Rp_makeCheckpoint p l e s m args below meth c G Q 47 (zb_Rp_makeCheckpoint_47 Q) := by
  unfold zb_Rp_makeCheckpoint_47
  refine za_ico B.1 (-1) dd_Rp_makeCheckpoint_47 (by decide) ?_
  exact za_irt B.1 0 0 B.2.1 B.2.2.1 dd_Rp_makeCheckpoint_48
theorem zr_Rp_makeCheckpoint_49 (B : zs_B p s m args meth c G bb_Rp_makeCheckpoint 3 yy_Rp_makeCheckpoint (some .int)) {K12 : zs_P} (h12 : zA_Rp_makeCheckpoint p l e s m args below meth c G Q 12 K12) : zA_Rp_makeCheckpoint p l e s m args below meth c G Q 49 (zb_Rp_makeCheckpoint_49 Q K12) := by
  unfold zb_Rp_makeCheckpoint_49
  refine za_inc B.1 1 dd_Rp_makeCheckpoint_49 (by decide) (by decide) ?_
  refine za_goto B.1 12 dd_Rp_makeCheckpoint_52 (by decide) ?_
  exact h12
theorem zr_Rp_makeCheckpoint_34 (B : zs_B p s m args meth c G bb_Rp_makeCheckpoint 3 yy_Rp_makeCheckpoint (some .int)) {K12 : zs_P} (h12 : zA_Rp_makeCheckpoint p l e s m args below meth c G Q 12 K12) : zA_Rp_makeCheckpoint p l e s m args below meth c G Q 34 (zb_Rp_makeCheckpoint_34 Q K12) := by
  unfold zb_Rp_makeCheckpoint_34
  refine za_ald_n B.1 0 dd_Rp_makeCheckpoint_34 rfl ?_
  refine za_gtR B.1 3 7 zi_3 rfl (by decide) (by decide) rfl zW_85 rfl dd_Rp_makeCheckpoint_35 ?_
  refine za_ild_n B.1 2 dd_Rp_makeCheckpoint_38 rfl ?_
  refine za_rld B.1 1 7 rfl dd_Rp_makeCheckpoint_39 ?_
  refine za_cV B.1 1 0 0 0 0 0 rfl rfl rfl (by decide) (zm_Pa_finishedCount l G) ⟨callB_of 0 B.1.1.2.2.2.2 (zs_good zW_396) rfl rfl rfl (B.1.1.2.2.2.2 _ zW_7) (B.1.1.2.2.2.2 _ zW_393) (by decide +kernel) ⟨by decide, by decide⟩, (B.1.1.2.2.2.2 _ zW_394), (B.1.1.2.2.2.2 _ zW_395)⟩ dd_Rp_makeCheckpoint_40 ?_
  refine za_ild_n B.1 1 dd_Rp_makeCheckpoint_43 rfl ?_
  exact za_cmp_eq B.1 49 dd_Rp_makeCheckpoint_44 (by decide) (zr_Rp_makeCheckpoint_49 B h12) (zr_Rp_makeCheckpoint_47 B)
theorem zr_Rp_makeCheckpoint_21 (B : zs_B p s m args meth c G bb_Rp_makeCheckpoint 3 yy_Rp_makeCheckpoint (some .int)) {K12 : zs_P} (h12 : zA_Rp_makeCheckpoint p l e s m args below meth c G Q 12 K12) : zA_Rp_makeCheckpoint p l e s m args below meth c G Q 21 (zb_Rp_makeCheckpoint_21 Q K12) := by
  unfold zb_Rp_makeCheckpoint_21
  refine za_ald_n B.1 0 dd_Rp_makeCheckpoint_21 rfl ?_
  refine za_gtR B.1 3 7 zi_3 rfl (by decide) (by decide) rfl zW_85 rfl dd_Rp_makeCheckpoint_22 ?_
  refine za_ild_n B.1 2 dd_Rp_makeCheckpoint_25 rfl ?_
  refine za_rld B.1 1 7 rfl dd_Rp_makeCheckpoint_26 ?_
  refine za_gtIN (host := "SequencedBatches") B.1 1 1 zi_1 rfl (by decide) (by decide) rfl (by decide +kernel) rfl dd_Rp_makeCheckpoint_27 ?_
  refine za_ild_n B.1 1 dd_Rp_makeCheckpoint_30 rfl ?_
  exact za_cmp_ne B.1 47 dd_Rp_makeCheckpoint_31 (by decide) (zr_Rp_makeCheckpoint_34 B h12) (zr_Rp_makeCheckpoint_47 B)
theorem zr_Rp_makeCheckpoint_12 (B : zs_B p s m args meth c G bb_Rp_makeCheckpoint 3 yy_Rp_makeCheckpoint (some .int)) {K12 : zs_P} (h12 : zA_Rp_makeCheckpoint p l e s m args below meth c G Q 12 K12) : zA_Rp_makeCheckpoint p l e s m args below meth c G Q 12 (zb_Rp_makeCheckpoint_12 Q K12) := by
  unfold zb_Rp_makeCheckpoint_12
  refine za_ild_n B.1 2 dd_Rp_makeCheckpoint_12 rfl ?_
  refine za_ald_n B.1 0 dd_Rp_makeCheckpoint_13 rfl ?_
  refine za_gtR B.1 3 7 zi_3 rfl (by decide) (by decide) rfl zW_85 rfl dd_Rp_makeCheckpoint_14 ?_
  refine za_len B.1 (110 + 1) 7 (by decide) rfl dd_Rp_makeCheckpoint_17 ?_
  exact za_cmp_ge B.1 55 dd_Rp_makeCheckpoint_18 (by decide) (zr_Rp_makeCheckpoint_55 B) (zr_Rp_makeCheckpoint_21 B h12)
theorem zq_Rp_makeCheckpoint_12 (B : zs_B p s m args meth c G bb_Rp_makeCheckpoint 3 yy_Rp_makeCheckpoint (some .int)) : zA_Rp_makeCheckpoint p l e s m args below meth c G Q 12 (zl_Rp_makeCheckpoint_12 Q) := za_lop (fun K hK => zr_Rp_makeCheckpoint_12 B hK)
theorem zr_Rp_makeCheckpoint_0 (B : zs_B p s m args meth c G bb_Rp_makeCheckpoint 3 yy_Rp_makeCheckpoint (some .int)) : zA_Rp_makeCheckpoint p l e s m args below meth c G Q 0 (zb_Rp_makeCheckpoint_0 Q) := by
  unfold zb_Rp_makeCheckpoint_0
  refine za_ald_n B.1 0 dd_Rp_makeCheckpoint_0 rfl ?_
  refine za_gtR B.1 3 7 zi_3 rfl (by decide) (by decide) rfl zW_85 rfl dd_Rp_makeCheckpoint_1 ?_
  refine za_ico B.1 0 dd_Rp_makeCheckpoint_4 (by decide) ?_
  refine za_rld B.1 1 7 rfl dd_Rp_makeCheckpoint_5 ?_
  refine za_gtIN (host := "SequencedBatches") B.1 1 1 zi_1 rfl (by decide) (by decide) rfl (by decide +kernel) rfl dd_Rp_makeCheckpoint_6 ?_
  refine za_ist_n B.1 1 dd_Rp_makeCheckpoint_9 rfl (by decide) ?_
  refine za_ico B.1 0 dd_Rp_makeCheckpoint_10 (by decide) ?_
  refine za_ist_n B.1 2 dd_Rp_makeCheckpoint_11 rfl (by decide) ?_
  exact (zq_Rp_makeCheckpoint_12 B)
end
theorem zm_Rp_makeCheckpoint (l : Launch) (G : zs_G) (As : List Value) (σ : zs_S) (Q : zs_Q) (h : zw_Rp_makeCheckpoint As σ Q) : zs_Met l yy_Rp_makeCheckpoint (Cond.code yy_Rp_makeCheckpoint bb_Rp_makeCheckpoint 3 (some .int) :: zw_all) zk_Rp_makeCheckpoint G As σ Q 0 0 := by
  unfold zw_Rp_makeCheckpoint at h
  split at h
  · exact zs_enter (by decide +kernel) h.1 (Nat.le_of_ble_eq_true rfl) h.2 (fun p e s m args below meth c B => zr_Rp_makeCheckpoint_0 B)
  · exact h.elim
-- SequencedBatches.checkpoint(I)I
theorem dd_SB_checkpoint_0 : decode bb_SB_checkpoint 0 = .ok (.aload_n 0, 1) := by decide +kernel
theorem dd_SB_checkpoint_1 : decode bb_SB_checkpoint 1 = .ok (.iload_n 1, 1) := by decide +kernel
theorem dd_SB_checkpoint_2 : decode bb_SB_checkpoint 2 = .ok (.invokevirtual 178, 3) := by decide +kernel
theorem dd_SB_checkpoint_5 : decode bb_SB_checkpoint 5 = .ok (.ifCond .eq 15, 3) := by decide +kernel
theorem dd_SB_checkpoint_8 : decode bb_SB_checkpoint 8 = .ok (.aload_n 0, 1) := by decide +kernel
theorem dd_SB_checkpoint_9 : decode bb_SB_checkpoint 9 = .ok (.getfield 44, 3) := by decide +kernel
theorem dd_SB_checkpoint_12 : decode bb_SB_checkpoint 12 = .ok (.iload_n 1, 1) := by decide +kernel
theorem dd_SB_checkpoint_13 : decode bb_SB_checkpoint 13 = .ok (.aaload, 1) := by decide +kernel
theorem dd_SB_checkpoint_14 : decode bb_SB_checkpoint 14 = .ok (.invokevirtual 181, 3) := by decide +kernel
theorem dd_SB_checkpoint_17 : decode bb_SB_checkpoint 17 = .ok (.goto 4, 3) := by decide +kernel
theorem dd_SB_checkpoint_20 : decode bb_SB_checkpoint 20 = .ok (.iconst (-1), 1) := by decide +kernel
theorem dd_SB_checkpoint_21 : decode bb_SB_checkpoint 21 = .ok (.ireturn, 1) := by decide +kernel
def zk_SB_checkpoint : Room := { frames := 2, cells := 0, slots := 0, locals := 62 }
abbrev zA_SB_checkpoint (p : Program) (l : Launch) (e : Env) (s : State) (m : MethodId) (args : Array Value) (below : List Frame) (meth : Method) (c : Code) (G : zs_G) (Q : zs_Q) (pc : Nat) (P : zs_P) : Prop := zs_At p l e zk_SB_checkpoint s m args below meth c (MQ below (zs_Qc G Q) args s 0 0 (fun q => zg_z G ≤ q)) G 2 pc P
def zb_SB_checkpoint_21 (Q : zs_Q) : zs_P := zt_irt 0 0 Q
def zb_SB_checkpoint_20 (Q : zs_Q) : zs_P := zt_psh (-1) ((zb_SB_checkpoint_21 Q))
def zb_SB_checkpoint_8 (Q : zs_Q) : zs_P := zt_ald 0 (zt_gtR 7 7 (zt_ild 1 (zt_rld (110 + 3) (zt_cav 3 zw_Rp_makeCheckpoint (0 + 1) 0 0 0 0 ((zb_SB_checkpoint_21 Q))))))
def zb_SB_checkpoint_0 (Q : zs_Q) : zs_P := zt_ald 0 (zt_ild 1 (zt_cav 7 zw_SB_replicaIsUp (1 + 1) 0 0 0 0 (zt_if (fun x => x = 0) (zb_SB_checkpoint_20 Q) (zb_SB_checkpoint_8 Q))))
def zw_SB_checkpoint : zs_W := fun As σ Q => match As with
  | [a0, a1] => zs_c1 [a0, a1] = true ∧ zb_SB_checkpoint_0 Q [some a0, some a1] [] σ 0 0
  | _ => False
section
variable {p : Program} {l : Launch} {e : Env} {s : State} {m : MethodId} {args : Array Value} {below : List Frame} {meth : Method} {c : Code} {G : zs_G} {Q : zs_Q}
theorem zr_SB_checkpoint_21 (B : zs_B p s m args meth c G bb_SB_checkpoint 2 yy_SB_checkpoint (some .int)) : zA_SB_checkpoint p l e s m args below meth c G Q 21 (zb_SB_checkpoint_21 Q) := by
  unfold zb_SB_checkpoint_21
  exact za_irt B.1 0 0 B.2.1 B.2.2.1 dd_SB_checkpoint_21
theorem zr_SB_checkpoint_20 (B : zs_B p s m args meth c G bb_SB_checkpoint 2 yy_SB_checkpoint (some .int)) : zA_SB_checkpoint p l e s m args below meth c G Q 20 (zb_SB_checkpoint_20 Q) := by
  unfold zb_SB_checkpoint_20
  refine za_ico B.1 (-1) dd_SB_checkpoint_20 (by decide) ?_
  exact (zr_SB_checkpoint_21 B)
theorem zr_SB_checkpoint_8 (B : zs_B p s m args meth c G bb_SB_checkpoint 2 yy_SB_checkpoint (some .int)) : zA_SB_checkpoint p l e s m args below meth c G Q 8 (zb_SB_checkpoint_8 Q) := by
  unfold zb_SB_checkpoint_8
  refine za_ald_n B.1 0 dd_SB_checkpoint_8 rfl ?_
  refine za_gtR B.1 7 7 zi_7 rfl (by decide) (by decide) rfl zW_95 rfl dd_SB_checkpoint_9 ?_
  refine za_ild_n B.1 1 dd_SB_checkpoint_12 rfl ?_
  refine za_rld B.1 3 5 rfl dd_SB_checkpoint_13 ?_
  refine za_cV B.1 3 0 0 0 0 0 rfl rfl rfl (by decide) (zm_Rp_makeCheckpoint l G) ⟨callB_of 0 B.1.1.2.2.2.2 (zs_good zW_392) rfl rfl rfl (B.1.1.2.2.2.2 _ zW_6) (B.1.1.2.2.2.2 _ zW_389) (by decide +kernel) ⟨by decide, by decide⟩, (B.1.1.2.2.2.2 _ zW_390), (B.1.1.2.2.2.2 _ zW_391)⟩ dd_SB_checkpoint_14 ?_
  refine za_goto B.1 21 dd_SB_checkpoint_17 (by decide) ?_
  exact (zr_SB_checkpoint_21 B)
theorem zr_SB_checkpoint_0 (B : zs_B p s m args meth c G bb_SB_checkpoint 2 yy_SB_checkpoint (some .int)) : zA_SB_checkpoint p l e s m args below meth c G Q 0 (zb_SB_checkpoint_0 Q) := by
  unfold zb_SB_checkpoint_0
  refine za_ald_n B.1 0 dd_SB_checkpoint_0 rfl ?_
  refine za_ild_n B.1 1 dd_SB_checkpoint_1 rfl ?_
  refine za_cV B.1 7 1 0 0 0 0 rfl rfl rfl (by decide) (zm_SB_replicaIsUp l G) ⟨callB_of 1 B.1.1.2.2.2.2 (zs_good zW_245) rfl rfl rfl (B.1.1.2.2.2.2 _ zW_1) (B.1.1.2.2.2.2 _ zW_243) (by decide +kernel) ⟨by decide, by decide⟩, (B.1.1.2.2.2.2 _ zW_244), (B.1.1.2.2.2.2 _ zW_664)⟩ dd_SB_checkpoint_2 ?_
  exact za_if_eq B.1 20 dd_SB_checkpoint_5 (by decide) (zr_SB_checkpoint_20 B) (zr_SB_checkpoint_8 B)
end
theorem zm_SB_checkpoint (l : Launch) (G : zs_G) (As : List Value) (σ : zs_S) (Q : zs_Q) (h : zw_SB_checkpoint As σ Q) : zs_Met l yy_SB_checkpoint (Cond.code yy_SB_checkpoint bb_SB_checkpoint 2 (some .int) :: zw_all) zk_SB_checkpoint G As σ Q 0 0 := by
  unfold zw_SB_checkpoint at h
  split at h
  · exact zs_enter (by decide +kernel) h.1 (Nat.le_of_ble_eq_true rfl) h.2 (fun p e s m args below meth c B => zr_SB_checkpoint_0 B)
  · exact h.elim
-- SequencedBatches.value(II)I
theorem dd_SB_value_0 : decode bb_SB_value 0 = .ok (.aload_n 0, 1) := by decide +kernel
theorem dd_SB_value_1 : decode bb_SB_value 1 = .ok (.iload_n 1, 1) := by decide +kernel
theorem dd_SB_value_2 : decode bb_SB_value 2 = .ok (.invokevirtual 178, 3) := by decide +kernel
theorem dd_SB_value_5 : decode bb_SB_value 5 = .ok (.ifCond .eq 24, 3) := by decide +kernel
theorem dd_SB_value_8 : decode bb_SB_value 8 = .ok (.iload_n 2, 1) := by decide +kernel
theorem dd_SB_value_9 : decode bb_SB_value 9 = .ok (.invokestatic 184, 3) := by decide +kernel
theorem dd_SB_value_12 : decode bb_SB_value 12 = .ok (.ifCond .eq 17, 3) := by decide +kernel
theorem dd_SB_value_15 : decode bb_SB_value 15 = .ok (.aload_n 0, 1) := by decide +kernel
theorem dd_SB_value_16 : decode bb_SB_value 16 = .ok (.getfield 44, 3) := by decide +kernel
theorem dd_SB_value_19 : decode bb_SB_value 19 = .ok (.iload_n 1, 1) := by decide +kernel
theorem dd_SB_value_20 : decode bb_SB_value 20 = .ok (.aaload, 1) := by decide +kernel
theorem dd_SB_value_21 : decode bb_SB_value 21 = .ok (.getfield 187, 3) := by decide +kernel
theorem dd_SB_value_24 : decode bb_SB_value 24 = .ok (.iload_n 2, 1) := by decide +kernel
theorem dd_SB_value_25 : decode bb_SB_value 25 = .ok (.iaload, 1) := by decide +kernel
theorem dd_SB_value_26 : decode bb_SB_value 26 = .ok (.goto 4, 3) := by decide +kernel
theorem dd_SB_value_29 : decode bb_SB_value 29 = .ok (.iconst 0, 1) := by decide +kernel
theorem dd_SB_value_30 : decode bb_SB_value 30 = .ok (.ireturn, 1) := by decide +kernel
def zk_SB_value : Room := { frames := 1, cells := 0, slots := 0, locals := 21 }
abbrev zA_SB_value (p : Program) (l : Launch) (e : Env) (s : State) (m : MethodId) (args : Array Value) (below : List Frame) (meth : Method) (c : Code) (G : zs_G) (Q : zs_Q) (pc : Nat) (P : zs_P) : Prop := zs_At p l e zk_SB_value s m args below meth c (MQ below (zs_Qc G Q) args s 0 0 (fun q => zg_z G ≤ q)) G 3 pc P
def zb_SB_value_30 (Q : zs_Q) : zs_P := zt_irt 0 0 Q
def zb_SB_value_29 (Q : zs_Q) : zs_P := zt_psh 0 ((zb_SB_value_30 Q))
def zb_SB_value_15 (Q : zs_Q) : zs_P := zt_ald 0 (zt_gtR 7 7 (zt_ild 1 (zt_rld (110 + 3) (zt_gtR 3 6 (zt_ild 2 (zt_xld 100 ((zb_SB_value_30 Q))))))))
def zb_SB_value_8 (Q : zs_Q) : zs_P := zt_ild 2 (zt_cal zw_SB_isKey 1 0 0 0 0 (zt_if (fun x => x = 0) (zb_SB_value_29 Q) (zb_SB_value_15 Q)))
def zb_SB_value_0 (Q : zs_Q) : zs_P := zt_ald 0 (zt_ild 1 (zt_cav 7 zw_SB_replicaIsUp (1 + 1) 0 0 0 0 (zt_if (fun x => x = 0) (zb_SB_value_29 Q) (zb_SB_value_8 Q))))
def zw_SB_value : zs_W := fun As σ Q => match As with
  | [a0, a1, a2] => zs_c1 [a0, a1, a2] = true ∧ zb_SB_value_0 Q [some a0, some a1, some a2] [] σ 0 0
  | _ => False
section
variable {p : Program} {l : Launch} {e : Env} {s : State} {m : MethodId} {args : Array Value} {below : List Frame} {meth : Method} {c : Code} {G : zs_G} {Q : zs_Q}
theorem zr_SB_value_30 (B : zs_B p s m args meth c G bb_SB_value 3 yy_SB_value (some .int)) : zA_SB_value p l e s m args below meth c G Q 30 (zb_SB_value_30 Q) := by
  unfold zb_SB_value_30
  exact za_irt B.1 0 0 B.2.1 B.2.2.1 dd_SB_value_30
theorem zr_SB_value_29 (B : zs_B p s m args meth c G bb_SB_value 3 yy_SB_value (some .int)) : zA_SB_value p l e s m args below meth c G Q 29 (zb_SB_value_29 Q) := by
  unfold zb_SB_value_29
  refine za_ico B.1 0 dd_SB_value_29 (by decide) ?_
  exact (zr_SB_value_30 B)
theorem zr_SB_value_15 (B : zs_B p s m args meth c G bb_SB_value 3 yy_SB_value (some .int)) : zA_SB_value p l e s m args below meth c G Q 15 (zb_SB_value_15 Q) := by
  unfold zb_SB_value_15
  refine za_ald_n B.1 0 dd_SB_value_15 rfl ?_
  refine za_gtR B.1 7 7 zi_7 rfl (by decide) (by decide) rfl zW_95 rfl dd_SB_value_16 ?_
  refine za_ild_n B.1 1 dd_SB_value_19 rfl ?_
  refine za_rld B.1 3 5 rfl dd_SB_value_20 ?_
  refine za_gtRN (host := "SequencedBatches") B.1 3 6 zi_3 rfl (by decide) (by decide) rfl (by decide +kernel) rfl dd_SB_value_21 ?_
  refine za_ild_n B.1 2 dd_SB_value_24 rfl ?_
  refine za_iald B.1 dd_SB_value_25 ?_
  refine za_goto B.1 30 dd_SB_value_26 (by decide) ?_
  exact (zr_SB_value_30 B)
theorem zr_SB_value_8 (B : zs_B p s m args meth c G bb_SB_value 3 yy_SB_value (some .int)) : zA_SB_value p l e s m args below meth c G Q 8 (zb_SB_value_8 Q) := by
  unfold zb_SB_value_8
  refine za_ild_n B.1 2 dd_SB_value_8 rfl ?_
  refine za_cS B.1 1 0 0 0 0 rfl rfl (zm_SB_isKey l G) ⟨callB_of 1 B.1.1.2.2.2.2 (zs_good zW_107) rfl rfl rfl (B.1.1.2.2.2.2 _ zW_1) (B.1.1.2.2.2.2 _ zW_401) (by decide +kernel) ⟨by decide, by decide⟩, (B.1.1.2.2.2.2 _ zW_106)⟩ dd_SB_value_9 ?_
  exact za_if_eq B.1 29 dd_SB_value_12 (by decide) (zr_SB_value_29 B) (zr_SB_value_15 B)
theorem zr_SB_value_0 (B : zs_B p s m args meth c G bb_SB_value 3 yy_SB_value (some .int)) : zA_SB_value p l e s m args below meth c G Q 0 (zb_SB_value_0 Q) := by
  unfold zb_SB_value_0
  refine za_ald_n B.1 0 dd_SB_value_0 rfl ?_
  refine za_ild_n B.1 1 dd_SB_value_1 rfl ?_
  refine za_cV B.1 7 1 0 0 0 0 rfl rfl rfl (by decide) (zm_SB_replicaIsUp l G) ⟨callB_of 1 B.1.1.2.2.2.2 (zs_good zW_245) rfl rfl rfl (B.1.1.2.2.2.2 _ zW_1) (B.1.1.2.2.2.2 _ zW_243) (by decide +kernel) ⟨by decide, by decide⟩, (B.1.1.2.2.2.2 _ zW_244), (B.1.1.2.2.2.2 _ zW_664)⟩ dd_SB_value_2 ?_
  exact za_if_eq B.1 29 dd_SB_value_5 (by decide) (zr_SB_value_29 B) (zr_SB_value_8 B)
end
theorem zm_SB_value (l : Launch) (G : zs_G) (As : List Value) (σ : zs_S) (Q : zs_Q) (h : zw_SB_value As σ Q) : zs_Met l yy_SB_value (Cond.code yy_SB_value bb_SB_value 3 (some .int) :: zw_all) zk_SB_value G As σ Q 0 0 := by
  unfold zw_SB_value at h
  split at h
  · exact zs_enter (by decide +kernel) h.1 (Nat.le_of_ble_eq_true rfl) h.2 (fun p e s m args below meth c B => zr_SB_value_0 B)
  · exact h.elim
-- SequencedBatches$Transaction.currentStatus()I
theorem dd_Tr_currentStatus_0 : decode bb_Tr_currentStatus 0 = .ok (.aload_n 0, 1) := by decide +kernel
theorem dd_Tr_currentStatus_1 : decode bb_Tr_currentStatus 1 = .ok (.getfield 13, 3) := by decide +kernel
theorem dd_Tr_currentStatus_4 : decode bb_Tr_currentStatus 4 = .ok (.ifCond .eq 5, 3) := by decide +kernel
theorem dd_Tr_currentStatus_7 : decode bb_Tr_currentStatus 7 = .ok (.iconst 3, 1) := by decide +kernel
theorem dd_Tr_currentStatus_8 : decode bb_Tr_currentStatus 8 = .ok (.ireturn, 1) := by decide +kernel
theorem dd_Tr_currentStatus_9 : decode bb_Tr_currentStatus 9 = .ok (.aload_n 0, 1) := by decide +kernel
theorem dd_Tr_currentStatus_10 : decode bb_Tr_currentStatus 10 = .ok (.getfield 7, 3) := by decide +kernel
theorem dd_Tr_currentStatus_13 : decode bb_Tr_currentStatus 13 = .ok (.ifnonnull 5, 3) := by decide +kernel
theorem dd_Tr_currentStatus_16 : decode bb_Tr_currentStatus 16 = .ok (.iconst 0, 1) := by decide +kernel
theorem dd_Tr_currentStatus_17 : decode bb_Tr_currentStatus 17 = .ok (.ireturn, 1) := by decide +kernel
theorem dd_Tr_currentStatus_18 : decode bb_Tr_currentStatus 18 = .ok (.aload_n 0, 1) := by decide +kernel
theorem dd_Tr_currentStatus_19 : decode bb_Tr_currentStatus 19 = .ok (.getfield 7, 3) := by decide +kernel
theorem dd_Tr_currentStatus_22 : decode bb_Tr_currentStatus 22 = .ok (.getfield 64, 3) := by decide +kernel
theorem dd_Tr_currentStatus_25 : decode bb_Tr_currentStatus 25 = .ok (.ifCond .ne 5, 3) := by decide +kernel
theorem dd_Tr_currentStatus_28 : decode bb_Tr_currentStatus 28 = .ok (.iconst 1, 1) := by decide +kernel
theorem dd_Tr_currentStatus_29 : decode bb_Tr_currentStatus 29 = .ok (.ireturn, 1) := by decide +kernel
theorem dd_Tr_currentStatus_30 : decode bb_Tr_currentStatus 30 = .ok (.aload_n 0, 1) := by decide +kernel
theorem dd_Tr_currentStatus_31 : decode bb_Tr_currentStatus 31 = .ok (.getfield 7, 3) := by decide +kernel
theorem dd_Tr_currentStatus_34 : decode bb_Tr_currentStatus 34 = .ok (.getfield 69, 3) := by decide +kernel
theorem dd_Tr_currentStatus_37 : decode bb_Tr_currentStatus 37 = .ok (.ifCond .eq 7, 3) := by decide +kernel
theorem dd_Tr_currentStatus_40 : decode bb_Tr_currentStatus 40 = .ok (.iconst 3, 1) := by decide +kernel
theorem dd_Tr_currentStatus_41 : decode bb_Tr_currentStatus 41 = .ok (.goto 4, 3) := by decide +kernel
theorem dd_Tr_currentStatus_44 : decode bb_Tr_currentStatus 44 = .ok (.iconst 2, 1) := by decide +kernel
theorem dd_Tr_currentStatus_45 : decode bb_Tr_currentStatus 45 = .ok (.ireturn, 1) := by decide +kernel
def zk_Tr_currentStatus : Room := { frames := 0, cells := 0, slots := 0, locals := 0 }
abbrev zA_Tr_currentStatus (p : Program) (l : Launch) (e : Env) (s : State) (m : MethodId) (args : Array Value) (below : List Frame) (meth : Method) (c : Code) (G : zs_G) (Q : zs_Q) (pc : Nat) (P : zs_P) : Prop := zs_At p l e zk_Tr_currentStatus s m args below meth c (MQ below (zs_Qc G Q) args s 0 0 (fun q => zg_z G ≤ q)) G 1 pc P
def zb_Tr_currentStatus_45 (Q : zs_Q) : zs_P := zt_irt 0 0 Q
def zb_Tr_currentStatus_44 (Q : zs_Q) : zs_P := zt_psh 2 ((zb_Tr_currentStatus_45 Q))
def zb_Tr_currentStatus_40 (Q : zs_Q) : zs_P := zt_psh 3 ((zb_Tr_currentStatus_45 Q))
def zb_Tr_currentStatus_30 (Q : zs_Q) : zs_P := zt_ald 0 (zt_gtR 6 7 (zt_gtI 5 1 (zt_if (fun x => x = 0) (zb_Tr_currentStatus_44 Q) (zb_Tr_currentStatus_40 Q))))
def zb_Tr_currentStatus_28 (Q : zs_Q) : zs_P := zt_psh 1 (zt_irt 0 0 Q)
def zb_Tr_currentStatus_18 (Q : zs_Q) : zs_P := zt_ald 0 (zt_gtR 6 7 (zt_gtI 5 2 (zt_if (fun x => x = 0) (zb_Tr_currentStatus_28 Q) (zb_Tr_currentStatus_30 Q))))
def zb_Tr_currentStatus_16 (Q : zs_Q) : zs_P := zt_psh 0 (zt_irt 0 0 Q)
def zb_Tr_currentStatus_9 (Q : zs_Q) : zs_P := zt_ald 0 (zt_gtR 6 7 (zt_ifn (zb_Tr_currentStatus_16 Q) (zb_Tr_currentStatus_18 Q)))
def zb_Tr_currentStatus_7 (Q : zs_Q) : zs_P := zt_psh 3 (zt_irt 0 0 Q)
def zb_Tr_currentStatus_0 (Q : zs_Q) : zs_P := zt_ald 0 (zt_gtI 6 8 (zt_if (fun x => x = 0) (zb_Tr_currentStatus_9 Q) (zb_Tr_currentStatus_7 Q)))
def zw_Tr_currentStatus : zs_W := fun As σ Q => match As with
  | [a0] => zs_c1 [a0] = true ∧ zb_Tr_currentStatus_0 Q [some a0] [] σ 0 0
  | _ => False
section
variable {p : Program} {l : Launch} {e : Env} {s : State} {m : MethodId} {args : Array Value} {below : List Frame} {meth : Method} {c : Code} {G : zs_G} {Q : zs_Q}
theorem zr_Tr_currentStatus_45 (B : zs_B p s m args meth c G bb_Tr_currentStatus 1 yy_Tr_currentStatus (some .int)) : zA_Tr_currentStatus p l e s m args below meth c G Q 45 (zb_Tr_currentStatus_45 Q) := by
  unfold zb_Tr_currentStatus_45
  exact za_irt B.1 0 0 B.2.1 B.2.2.1 dd_Tr_currentStatus_45
theorem zr_Tr_currentStatus_44 (B : zs_B p s m args meth c G bb_Tr_currentStatus 1 yy_Tr_currentStatus (some .int)) : zA_Tr_currentStatus p l e s m args below meth c G Q 44 (zb_Tr_currentStatus_44 Q) := by
  unfold zb_Tr_currentStatus_44
  refine za_ico B.1 2 dd_Tr_currentStatus_44 (by decide) ?_
  exact (zr_Tr_currentStatus_45 B)
theorem zr_Tr_currentStatus_40 (B : zs_B p s m args meth c G bb_Tr_currentStatus 1 yy_Tr_currentStatus (some .int)) : zA_Tr_currentStatus p l e s m args below meth c G Q 40 (zb_Tr_currentStatus_40 Q) := by
  unfold zb_Tr_currentStatus_40
  refine za_ico B.1 3 dd_Tr_currentStatus_40 (by decide) ?_
  refine za_goto B.1 45 dd_Tr_currentStatus_41 (by decide) ?_
  exact (zr_Tr_currentStatus_45 B)
theorem zr_Tr_currentStatus_30 (B : zs_B p s m args meth c G bb_Tr_currentStatus 1 yy_Tr_currentStatus (some .int)) : zA_Tr_currentStatus p l e s m args below meth c G Q 30 (zb_Tr_currentStatus_30 Q) := by
  unfold zb_Tr_currentStatus_30
  refine za_ald_n B.1 0 dd_Tr_currentStatus_30 rfl ?_
  refine za_gtR B.1 6 7 zi_6 rfl (by decide) (by decide) rfl zW_130 rfl dd_Tr_currentStatus_31 ?_
  refine za_gtIN (host := "SequencedBatches") B.1 5 1 zi_5 rfl (by decide) (by decide) rfl (by decide +kernel) rfl dd_Tr_currentStatus_34 ?_
  exact za_if_eq B.1 44 dd_Tr_currentStatus_37 (by decide) (zr_Tr_currentStatus_44 B) (zr_Tr_currentStatus_40 B)
theorem zr_Tr_currentStatus_28 (B : zs_B p s m args meth c G bb_Tr_currentStatus 1 yy_Tr_currentStatus (some .int)) : zA_Tr_currentStatus p l e s m args below meth c G Q 28 (zb_Tr_currentStatus_28 Q) := by
  unfold zb_Tr_currentStatus_28
  refine za_ico B.1 1 dd_Tr_currentStatus_28 (by decide) ?_
  exact za_irt B.1 0 0 B.2.1 B.2.2.1 dd_Tr_currentStatus_29
theorem zr_Tr_currentStatus_18 (B : zs_B p s m args meth c G bb_Tr_currentStatus 1 yy_Tr_currentStatus (some .int)) : zA_Tr_currentStatus p l e s m args below meth c G Q 18 (zb_Tr_currentStatus_18 Q) := by
  unfold zb_Tr_currentStatus_18
  refine za_ald_n B.1 0 dd_Tr_currentStatus_18 rfl ?_
  refine za_gtR B.1 6 7 zi_6 rfl (by decide) (by decide) rfl zW_130 rfl dd_Tr_currentStatus_19 ?_
  refine za_gtIN (host := "SequencedBatches") B.1 5 2 zi_5 rfl (by decide) (by decide) rfl (by decide +kernel) rfl dd_Tr_currentStatus_22 ?_
  exact za_if_ne B.1 30 dd_Tr_currentStatus_25 (by decide) (zr_Tr_currentStatus_28 B) (zr_Tr_currentStatus_30 B)
theorem zr_Tr_currentStatus_16 (B : zs_B p s m args meth c G bb_Tr_currentStatus 1 yy_Tr_currentStatus (some .int)) : zA_Tr_currentStatus p l e s m args below meth c G Q 16 (zb_Tr_currentStatus_16 Q) := by
  unfold zb_Tr_currentStatus_16
  refine za_ico B.1 0 dd_Tr_currentStatus_16 (by decide) ?_
  exact za_irt B.1 0 0 B.2.1 B.2.2.1 dd_Tr_currentStatus_17
theorem zr_Tr_currentStatus_9 (B : zs_B p s m args meth c G bb_Tr_currentStatus 1 yy_Tr_currentStatus (some .int)) : zA_Tr_currentStatus p l e s m args below meth c G Q 9 (zb_Tr_currentStatus_9 Q) := by
  unfold zb_Tr_currentStatus_9
  refine za_ald_n B.1 0 dd_Tr_currentStatus_9 rfl ?_
  refine za_gtR B.1 6 7 zi_6 rfl (by decide) (by decide) rfl zW_130 rfl dd_Tr_currentStatus_10 ?_
  exact za_ifnonnull B.1 18 dd_Tr_currentStatus_13 (by decide) (zr_Tr_currentStatus_16 B) (zr_Tr_currentStatus_18 B)
theorem zr_Tr_currentStatus_7 (B : zs_B p s m args meth c G bb_Tr_currentStatus 1 yy_Tr_currentStatus (some .int)) : zA_Tr_currentStatus p l e s m args below meth c G Q 7 (zb_Tr_currentStatus_7 Q) := by
  unfold zb_Tr_currentStatus_7
  refine za_ico B.1 3 dd_Tr_currentStatus_7 (by decide) ?_
  exact za_irt B.1 0 0 B.2.1 B.2.2.1 dd_Tr_currentStatus_8
theorem zr_Tr_currentStatus_0 (B : zs_B p s m args meth c G bb_Tr_currentStatus 1 yy_Tr_currentStatus (some .int)) : zA_Tr_currentStatus p l e s m args below meth c G Q 0 (zb_Tr_currentStatus_0 Q) := by
  unfold zb_Tr_currentStatus_0
  refine za_ald_n B.1 0 dd_Tr_currentStatus_0 rfl ?_
  refine za_gtI B.1 6 8 zi_6 rfl (by decide) (by decide) rfl zW_131 rfl dd_Tr_currentStatus_1 ?_
  exact za_if_eq B.1 9 dd_Tr_currentStatus_4 (by decide) (zr_Tr_currentStatus_9 B) (zr_Tr_currentStatus_7 B)
end
theorem zm_Tr_currentStatus (l : Launch) (G : zs_G) (As : List Value) (σ : zs_S) (Q : zs_Q) (h : zw_Tr_currentStatus As σ Q) : zs_Met l yy_Tr_currentStatus (Cond.code yy_Tr_currentStatus bb_Tr_currentStatus 1 (some .int) :: zw_all) zk_Tr_currentStatus G As σ Q 0 0 := by
  unfold zw_Tr_currentStatus at h
  split at h
  · exact zs_enter (by decide +kernel) h.1 (Nat.le_of_ble_eq_true rfl) h.2 (fun p e s m args below meth c B => zr_Tr_currentStatus_0 B)
  · exact h.elim
