/-! Methods: Md_checkpoint, Md_value, Md_admitted, Md_finished, Md_ready, Md_locks, Md_stored, Lw_cell (made by program) -/
-- SequencedBatchesModel.checkpoint(I)I
theorem dd_Md_checkpoint_0 : decode bb_Md_checkpoint 0 = .ok (.aload_n 0, 1) := by decide +kernel
theorem dd_Md_checkpoint_1 : decode bb_Md_checkpoint 1 = .ok (.iload_n 1, 1) := by decide +kernel
theorem dd_Md_checkpoint_2 : decode bb_Md_checkpoint 2 = .ok (.iconst 0, 1) := by decide +kernel
theorem dd_Md_checkpoint_3 : decode bb_Md_checkpoint 3 = .ok (.invokevirtual 192, 3) := by decide +kernel
theorem dd_Md_checkpoint_6 : decode bb_Md_checkpoint 6 = .ok (.ifCond .ne 5, 3) := by decide +kernel
theorem dd_Md_checkpoint_9 : decode bb_Md_checkpoint 9 = .ok (.iconst (-1), 1) := by decide +kernel
theorem dd_Md_checkpoint_10 : decode bb_Md_checkpoint 10 = .ok (.ireturn, 1) := by decide +kernel
theorem dd_Md_checkpoint_11 : decode bb_Md_checkpoint 11 = .ok (.iconst 0, 1) := by decide +kernel
theorem dd_Md_checkpoint_12 : decode bb_Md_checkpoint 12 = .ok (.istore_n 2, 1) := by decide +kernel
theorem dd_Md_checkpoint_13 : decode bb_Md_checkpoint 13 = .ok (.iload_n 2, 1) := by decide +kernel
theorem dd_Md_checkpoint_14 : decode bb_Md_checkpoint 14 = .ok (.aload_n 0, 1) := by decide +kernel
theorem dd_Md_checkpoint_15 : decode bb_Md_checkpoint 15 = .ok (.getfield 104, 3) := by decide +kernel
theorem dd_Md_checkpoint_18 : decode bb_Md_checkpoint 18 = .ok (.if_icmp .ge 41, 3) := by decide +kernel
theorem dd_Md_checkpoint_21 : decode bb_Md_checkpoint 21 = .ok (.aload_n 0, 1) := by decide +kernel
theorem dd_Md_checkpoint_22 : decode bb_Md_checkpoint 22 = .ok (.getfield 83, 3) := by decide +kernel
theorem dd_Md_checkpoint_25 : decode bb_Md_checkpoint 25 = .ok (.iconst 4, 1) := by decide +kernel
theorem dd_Md_checkpoint_26 : decode bb_Md_checkpoint 26 = .ok (.iload_n 1, 1) := by decide +kernel
theorem dd_Md_checkpoint_27 : decode bb_Md_checkpoint 27 = .ok (.imul, 1) := by decide +kernel
theorem dd_Md_checkpoint_28 : decode bb_Md_checkpoint 28 = .ok (.iload_n 2, 1) := by decide +kernel
theorem dd_Md_checkpoint_29 : decode bb_Md_checkpoint 29 = .ok (.iadd, 1) := by decide +kernel
theorem dd_Md_checkpoint_30 : decode bb_Md_checkpoint 30 = .ok (.iaload, 1) := by decide +kernel
theorem dd_Md_checkpoint_31 : decode bb_Md_checkpoint 31 = .ok (.aload_n 0, 1) := by decide +kernel
theorem dd_Md_checkpoint_32 : decode bb_Md_checkpoint 32 = .ok (.getfield 83, 3) := by decide +kernel
theorem dd_Md_checkpoint_35 : decode bb_Md_checkpoint 35 = .ok (.iconst 4, 1) := by decide +kernel
theorem dd_Md_checkpoint_36 : decode bb_Md_checkpoint 36 = .ok (.iload_n 1, 1) := by decide +kernel
theorem dd_Md_checkpoint_37 : decode bb_Md_checkpoint 37 = .ok (.imul, 1) := by decide +kernel
theorem dd_Md_checkpoint_38 : decode bb_Md_checkpoint 38 = .ok (.iaload, 1) := by decide +kernel
theorem dd_Md_checkpoint_39 : decode bb_Md_checkpoint 39 = .ok (.if_icmp .ne 12, 3) := by decide +kernel
theorem dd_Md_checkpoint_42 : decode bb_Md_checkpoint 42 = .ok (.aload_n 0, 1) := by decide +kernel
theorem dd_Md_checkpoint_43 : decode bb_Md_checkpoint 43 = .ok (.iload_n 1, 1) := by decide +kernel
theorem dd_Md_checkpoint_44 : decode bb_Md_checkpoint 44 = .ok (.iload_n 2, 1) := by decide +kernel
theorem dd_Md_checkpoint_45 : decode bb_Md_checkpoint 45 = .ok (.invokevirtual 195, 3) := by decide +kernel
theorem dd_Md_checkpoint_48 : decode bb_Md_checkpoint 48 = .ok (.ifCond .le 5, 3) := by decide +kernel
theorem dd_Md_checkpoint_51 : decode bb_Md_checkpoint 51 = .ok (.iconst (-1), 1) := by decide +kernel
theorem dd_Md_checkpoint_52 : decode bb_Md_checkpoint 52 = .ok (.ireturn, 1) := by decide +kernel
theorem dd_Md_checkpoint_53 : decode bb_Md_checkpoint 53 = .ok (.iinc 2 1, 3) := by decide +kernel
theorem dd_Md_checkpoint_56 : decode bb_Md_checkpoint 56 = .ok (.goto (-43), 3) := by decide +kernel
theorem dd_Md_checkpoint_59 : decode bb_Md_checkpoint 59 = .ok (.aload_n 0, 1) := by decide +kernel
theorem dd_Md_checkpoint_60 : decode bb_Md_checkpoint 60 = .ok (.getfield 77, 3) := by decide +kernel
theorem dd_Md_checkpoint_63 : decode bb_Md_checkpoint 63 = .ok (.iload_n 1, 1) := by decide +kernel
theorem dd_Md_checkpoint_64 : decode bb_Md_checkpoint 64 = .ok (.aload_n 0, 1) := by decide +kernel
theorem dd_Md_checkpoint_65 : decode bb_Md_checkpoint 65 = .ok (.getfield 83, 3) := by decide +kernel
theorem dd_Md_checkpoint_68 : decode bb_Md_checkpoint 68 = .ok (.iconst 4, 1) := by decide +kernel
theorem dd_Md_checkpoint_69 : decode bb_Md_checkpoint 69 = .ok (.iload_n 1, 1) := by decide +kernel
theorem dd_Md_checkpoint_70 : decode bb_Md_checkpoint 70 = .ok (.imul, 1) := by decide +kernel
theorem dd_Md_checkpoint_71 : decode bb_Md_checkpoint 71 = .ok (.iaload, 1) := by decide +kernel
theorem dd_Md_checkpoint_72 : decode bb_Md_checkpoint 72 = .ok (.iastore, 1) := by decide +kernel
theorem dd_Md_checkpoint_73 : decode bb_Md_checkpoint 73 = .ok (.iconst 0, 1) := by decide +kernel
theorem dd_Md_checkpoint_74 : decode bb_Md_checkpoint 74 = .ok (.istore_n 2, 1) := by decide +kernel
theorem dd_Md_checkpoint_75 : decode bb_Md_checkpoint 75 = .ok (.iload_n 2, 1) := by decide +kernel
theorem dd_Md_checkpoint_76 : decode bb_Md_checkpoint 76 = .ok (.bipush 12, 2) := by decide +kernel
theorem dd_Md_checkpoint_78 : decode bb_Md_checkpoint 78 = .ok (.if_icmp .ge 31, 3) := by decide +kernel
theorem dd_Md_checkpoint_81 : decode bb_Md_checkpoint 81 = .ok (.aload_n 0, 1) := by decide +kernel
theorem dd_Md_checkpoint_82 : decode bb_Md_checkpoint 82 = .ok (.getfield 74, 3) := by decide +kernel
theorem dd_Md_checkpoint_85 : decode bb_Md_checkpoint 85 = .ok (.bipush 12, 2) := by decide +kernel
theorem dd_Md_checkpoint_87 : decode bb_Md_checkpoint 87 = .ok (.iload_n 1, 1) := by decide +kernel
theorem dd_Md_checkpoint_88 : decode bb_Md_checkpoint 88 = .ok (.imul, 1) := by decide +kernel
theorem dd_Md_checkpoint_89 : decode bb_Md_checkpoint 89 = .ok (.iload_n 2, 1) := by decide +kernel
theorem dd_Md_checkpoint_90 : decode bb_Md_checkpoint 90 = .ok (.iadd, 1) := by decide +kernel
theorem dd_Md_checkpoint_91 : decode bb_Md_checkpoint 91 = .ok (.aload_n 0, 1) := by decide +kernel
theorem dd_Md_checkpoint_92 : decode bb_Md_checkpoint 92 = .ok (.getfield 71, 3) := by decide +kernel
theorem dd_Md_checkpoint_95 : decode bb_Md_checkpoint 95 = .ok (.bipush 12, 2) := by decide +kernel
theorem dd_Md_checkpoint_97 : decode bb_Md_checkpoint 97 = .ok (.iload_n 1, 1) := by decide +kernel
theorem dd_Md_checkpoint_98 : decode bb_Md_checkpoint 98 = .ok (.imul, 1) := by decide +kernel
theorem dd_Md_checkpoint_99 : decode bb_Md_checkpoint 99 = .ok (.iload_n 2, 1) := by decide +kernel
theorem dd_Md_checkpoint_100 : decode bb_Md_checkpoint 100 = .ok (.iadd, 1) := by decide +kernel
theorem dd_Md_checkpoint_101 : decode bb_Md_checkpoint 101 = .ok (.iaload, 1) := by decide +kernel
theorem dd_Md_checkpoint_102 : decode bb_Md_checkpoint 102 = .ok (.iastore, 1) := by decide +kernel
theorem dd_Md_checkpoint_103 : decode bb_Md_checkpoint 103 = .ok (.iinc 2 1, 3) := by decide +kernel
theorem dd_Md_checkpoint_106 : decode bb_Md_checkpoint 106 = .ok (.goto (-31), 3) := by decide +kernel
theorem dd_Md_checkpoint_109 : decode bb_Md_checkpoint 109 = .ok (.aload_n 0, 1) := by decide +kernel
theorem dd_Md_checkpoint_110 : decode bb_Md_checkpoint 110 = .ok (.getfield 77, 3) := by decide +kernel
theorem dd_Md_checkpoint_113 : decode bb_Md_checkpoint 113 = .ok (.iload_n 1, 1) := by decide +kernel
theorem dd_Md_checkpoint_114 : decode bb_Md_checkpoint 114 = .ok (.iaload, 1) := by decide +kernel
theorem dd_Md_checkpoint_115 : decode bb_Md_checkpoint 115 = .ok (.ireturn, 1) := by decide +kernel
def zk_Md_checkpoint : Room := { frames := 3, cells := 0, slots := 0, locals := 70 }
abbrev zA_Md_checkpoint (p : Program) (l : Launch) (e : Env) (s : State) (m : MethodId) (args : Array Value) (below : List Frame) (meth : Method) (c : Code) (G : zs_G) (Q : zs_Q) (pc : Nat) (P : zs_P) : Prop := zs_At p l e zk_Md_checkpoint s m args below meth c (MQ below (zs_Qc G Q) args s 0 0 (fun q => zg_z G ≤ q)) G 3 pc P
def zb_Md_checkpoint_109 (Q : zs_Q) : zs_P := zt_ald 0 (zt_gtR 8 25 (zt_ild 1 (zt_xld 100 (zt_irt 0 0 Q))))
def zb_Md_checkpoint_81 (Q : zs_Q) (K75 : zs_P) : zs_P := zt_ald 0 (zt_gtR 8 24 (zt_psh 12 (zt_ild 1 (zt_bin (fun x y => x * y) (zt_ild 2 (zt_bin (fun x y => x + y) (zt_ald 0 (zt_gtR 8 23 (zt_psh 12 (zt_ild 1 (zt_bin (fun x y => x * y) (zt_ild 2 (zt_bin (fun x y => x + y) (zt_xld 100 (zt_ias (zt_inc 2 1 (K75)))))))))))))))))
def zb_Md_checkpoint_75 (Q : zs_Q) (K75 : zs_P) : zs_P := zt_ild 2 (zt_psh 12 (zt_cmp (fun x y => y ≤ x) (zb_Md_checkpoint_109 Q) (zb_Md_checkpoint_81 Q K75)))
def zl_Md_checkpoint_75 (Q : zs_Q) : zs_P := zt_ex (zb_Md_checkpoint_75 Q)
def zb_Md_checkpoint_59 (Q : zs_Q) : zs_P := zt_ald 0 (zt_gtR 8 25 (zt_ild 1 (zt_ald 0 (zt_gtR 8 27 (zt_psh 4 (zt_ild 1 (zt_bin (fun x y => x * y) (zt_xld 100 (zt_ias (zt_psh 0 (zt_ist 2 ((zl_Md_checkpoint_75 Q)))))))))))))
def zb_Md_checkpoint_51 (Q : zs_Q) : zs_P := zt_psh (-1) (zt_irt 0 0 Q)
def zb_Md_checkpoint_53 (Q : zs_Q) (K13 : zs_P) : zs_P := zt_inc 2 1 (K13)
def zb_Md_checkpoint_42 (Q : zs_Q) (K13 : zs_P) : zs_P := zt_ald 0 (zt_ild 1 (zt_ild 2 (zt_cav 8 zw_Md_pendings (2 + 1) 0 0 0 0 (zt_if (fun x => x ≤ 0) (zb_Md_checkpoint_53 Q K13) (zb_Md_checkpoint_51 Q)))))
def zb_Md_checkpoint_21 (Q : zs_Q) (K13 : zs_P) : zs_P := zt_ald 0 (zt_gtR 8 27 (zt_psh 4 (zt_ild 1 (zt_bin (fun x y => x * y) (zt_ild 2 (zt_bin (fun x y => x + y) (zt_xld 100 (zt_ald 0 (zt_gtR 8 27 (zt_psh 4 (zt_ild 1 (zt_bin (fun x y => x * y) (zt_xld 100 (zt_cmp (fun x y => x = y) (zb_Md_checkpoint_42 Q K13) (zb_Md_checkpoint_51 Q)))))))))))))))
def zb_Md_checkpoint_13 (Q : zs_Q) (K13 : zs_P) : zs_P := zt_ild 2 (zt_ald 0 (zt_gtI 8 0 (zt_cmp (fun x y => y ≤ x) (zb_Md_checkpoint_59 Q) (zb_Md_checkpoint_21 Q K13))))
def zl_Md_checkpoint_13 (Q : zs_Q) : zs_P := zt_ex (zb_Md_checkpoint_13 Q)
def zb_Md_checkpoint_11 (Q : zs_Q) : zs_P := zt_psh 0 (zt_ist 2 ((zl_Md_checkpoint_13 Q)))
def zb_Md_checkpoint_9 (Q : zs_Q) : zs_P := zt_psh (-1) (zt_irt 0 0 Q)
def zb_Md_checkpoint_0 (Q : zs_Q) : zs_P := zt_ald 0 (zt_ild 1 (zt_psh 0 (zt_cav 8 zw_Md_there (2 + 1) 0 0 0 0 (zt_if (fun x => x = 0) (zb_Md_checkpoint_9 Q) (zb_Md_checkpoint_11 Q)))))
def zw_Md_checkpoint : zs_W := fun As σ Q => match As with
  | [a0, a1] => zs_c1 [a0, a1] = true ∧ zb_Md_checkpoint_0 Q [some a0, some a1, none] [] σ 0 0
  | _ => False
section
variable {p : Program} {l : Launch} {e : Env} {s : State} {m : MethodId} {args : Array Value} {below : List Frame} {meth : Method} {c : Code} {G : zs_G} {Q : zs_Q}
theorem zr_Md_checkpoint_109 (B : zs_B p s m args meth c G bb_Md_checkpoint 3 yy_Md_checkpoint (some .int)) : zA_Md_checkpoint p l e s m args below meth c G Q 109 (zb_Md_checkpoint_109 Q) := by
  unfold zb_Md_checkpoint_109
  refine za_ald_n B.1 0 dd_Md_checkpoint_109 rfl ?_
  refine za_gtR B.1 8 25 zi_8 rfl (by decide) (by decide) rfl zW_481 rfl dd_Md_checkpoint_110 ?_
  refine za_ild_n B.1 1 dd_Md_checkpoint_113 rfl ?_
  refine za_iald B.1 dd_Md_checkpoint_114 ?_
  exact za_irt B.1 0 0 B.2.1 B.2.2.1 dd_Md_checkpoint_115
theorem zr_Md_checkpoint_81 (B : zs_B p s m args meth c G bb_Md_checkpoint 3 yy_Md_checkpoint (some .int)) {K75 : zs_P} (h75 : zA_Md_checkpoint p l e s m args below meth c G Q 75 K75) : zA_Md_checkpoint p l e s m args below meth c G Q 81 (zb_Md_checkpoint_81 Q K75) := by
  unfold zb_Md_checkpoint_81
  refine za_ald_n B.1 0 dd_Md_checkpoint_81 rfl ?_
  refine za_gtR B.1 8 24 zi_8 rfl (by decide) (by decide) rfl zW_480 rfl dd_Md_checkpoint_82 ?_
  refine za_bip B.1 12 dd_Md_checkpoint_85 (by decide) ?_
  refine za_ild_n B.1 1 dd_Md_checkpoint_87 rfl ?_
  refine za_mul B.1 dd_Md_checkpoint_88 ?_
  refine za_ild_n B.1 2 dd_Md_checkpoint_89 rfl ?_
  refine za_add B.1 dd_Md_checkpoint_90 ?_
  refine za_ald_n B.1 0 dd_Md_checkpoint_91 rfl ?_
  refine za_gtR B.1 8 23 zi_8 rfl (by decide) (by decide) rfl zW_479 rfl dd_Md_checkpoint_92 ?_
  refine za_bip B.1 12 dd_Md_checkpoint_95 (by decide) ?_
  refine za_ild_n B.1 1 dd_Md_checkpoint_97 rfl ?_
  refine za_mul B.1 dd_Md_checkpoint_98 ?_
  refine za_ild_n B.1 2 dd_Md_checkpoint_99 rfl ?_
  refine za_add B.1 dd_Md_checkpoint_100 ?_
  refine za_iald B.1 dd_Md_checkpoint_101 ?_
  refine za_iast B.1 dd_Md_checkpoint_102 ?_
  refine za_inc B.1 1 dd_Md_checkpoint_103 (by decide) (by decide) ?_
  refine za_goto B.1 75 dd_Md_checkpoint_106 (by decide) ?_
  exact h75
theorem zr_Md_checkpoint_75 (B : zs_B p s m args meth c G bb_Md_checkpoint 3 yy_Md_checkpoint (some .int)) {K75 : zs_P} (h75 : zA_Md_checkpoint p l e s m args below meth c G Q 75 K75) : zA_Md_checkpoint p l e s m args below meth c G Q 75 (zb_Md_checkpoint_75 Q K75) := by
  unfold zb_Md_checkpoint_75
  refine za_ild_n B.1 2 dd_Md_checkpoint_75 rfl ?_
  refine za_bip B.1 12 dd_Md_checkpoint_76 (by decide) ?_
  exact za_cmp_ge B.1 109 dd_Md_checkpoint_78 (by decide) (zr_Md_checkpoint_109 B) (zr_Md_checkpoint_81 B h75)
theorem zq_Md_checkpoint_75 (B : zs_B p s m args meth c G bb_Md_checkpoint 3 yy_Md_checkpoint (some .int)) : zA_Md_checkpoint p l e s m args below meth c G Q 75 (zl_Md_checkpoint_75 Q) := za_lop (fun K hK => zr_Md_checkpoint_75 B hK)
theorem zr_Md_checkpoint_59 (B : zs_B p s m args meth c G bb_Md_checkpoint 3 yy_Md_checkpoint (some .int)) : zA_Md_checkpoint p l e s m args below meth c G Q 59 (zb_Md_checkpoint_59 Q) := by
  unfold zb_Md_checkpoint_59
  refine za_ald_n B.1 0 dd_Md_checkpoint_59 rfl ?_
  refine za_gtR B.1 8 25 zi_8 rfl (by decide) (by decide) rfl zW_481 rfl dd_Md_checkpoint_60 ?_
  refine za_ild_n B.1 1 dd_Md_checkpoint_63 rfl ?_
  refine za_ald_n B.1 0 dd_Md_checkpoint_64 rfl ?_
  refine za_gtR B.1 8 27 zi_8 rfl (by decide) (by decide) rfl zW_483 rfl dd_Md_checkpoint_65 ?_
  refine za_ico B.1 4 dd_Md_checkpoint_68 (by decide) ?_
  refine za_ild_n B.1 1 dd_Md_checkpoint_69 rfl ?_
  refine za_mul B.1 dd_Md_checkpoint_70 ?_
  refine za_iald B.1 dd_Md_checkpoint_71 ?_
  refine za_iast B.1 dd_Md_checkpoint_72 ?_
  refine za_ico B.1 0 dd_Md_checkpoint_73 (by decide) ?_
  refine za_ist_n B.1 2 dd_Md_checkpoint_74 rfl (by decide) ?_
  exact (zq_Md_checkpoint_75 B)
theorem zr_Md_checkpoint_51 (B : zs_B p s m args meth c G bb_Md_checkpoint 3 yy_Md_checkpoint (some .int)) : zA_Md_checkpoint p l e s m args below meth c G Q 51 (zb_Md_checkpoint_51 Q) := by
  unfold zb_Md_checkpoint_51
  refine za_ico B.1 (-1) dd_Md_checkpoint_51 (by decide) ?_
  exact za_irt B.1 0 0 B.2.1 B.2.2.1 dd_Md_checkpoint_52
theorem zr_Md_checkpoint_53 (B : zs_B p s m args meth c G bb_Md_checkpoint 3 yy_Md_checkpoint (some .int)) {K13 : zs_P} (h13 : zA_Md_checkpoint p l e s m args below meth c G Q 13 K13) : zA_Md_checkpoint p l e s m args below meth c G Q 53 (zb_Md_checkpoint_53 Q K13) := by
  unfold zb_Md_checkpoint_53
  refine za_inc B.1 1 dd_Md_checkpoint_53 (by decide) (by decide) ?_
  refine za_goto B.1 13 dd_Md_checkpoint_56 (by decide) ?_
  exact h13
theorem zr_Md_checkpoint_42 (B : zs_B p s m args meth c G bb_Md_checkpoint 3 yy_Md_checkpoint (some .int)) {K13 : zs_P} (h13 : zA_Md_checkpoint p l e s m args below meth c G Q 13 K13) : zA_Md_checkpoint p l e s m args below meth c G Q 42 (zb_Md_checkpoint_42 Q K13) := by
  unfold zb_Md_checkpoint_42
  refine za_ald_n B.1 0 dd_Md_checkpoint_42 rfl ?_
  refine za_ild_n B.1 1 dd_Md_checkpoint_43 rfl ?_
  refine za_ild_n B.1 2 dd_Md_checkpoint_44 rfl ?_
  refine za_cV B.1 8 2 0 0 0 0 rfl rfl rfl (by decide) (zm_Md_pendings l G) ⟨callB_of 2 B.1.1.2.2.2.2 (zs_good zW_613) rfl rfl rfl (B.1.1.2.2.2.2 _ zW_8) (B.1.1.2.2.2.2 _ zW_611) (by decide +kernel) ⟨by decide, by decide⟩, (B.1.1.2.2.2.2 _ zW_612), (B.1.1.2.2.2.2 _ zW_696)⟩ dd_Md_checkpoint_45 ?_
  exact za_if_le B.1 53 dd_Md_checkpoint_48 (by decide) (zr_Md_checkpoint_53 B h13) (zr_Md_checkpoint_51 B)
theorem zr_Md_checkpoint_21 (B : zs_B p s m args meth c G bb_Md_checkpoint 3 yy_Md_checkpoint (some .int)) {K13 : zs_P} (h13 : zA_Md_checkpoint p l e s m args below meth c G Q 13 K13) : zA_Md_checkpoint p l e s m args below meth c G Q 21 (zb_Md_checkpoint_21 Q K13) := by
  unfold zb_Md_checkpoint_21
  refine za_ald_n B.1 0 dd_Md_checkpoint_21 rfl ?_
  refine za_gtR B.1 8 27 zi_8 rfl (by decide) (by decide) rfl zW_483 rfl dd_Md_checkpoint_22 ?_
  refine za_ico B.1 4 dd_Md_checkpoint_25 (by decide) ?_
  refine za_ild_n B.1 1 dd_Md_checkpoint_26 rfl ?_
  refine za_mul B.1 dd_Md_checkpoint_27 ?_
  refine za_ild_n B.1 2 dd_Md_checkpoint_28 rfl ?_
  refine za_add B.1 dd_Md_checkpoint_29 ?_
  refine za_iald B.1 dd_Md_checkpoint_30 ?_
  refine za_ald_n B.1 0 dd_Md_checkpoint_31 rfl ?_
  refine za_gtR B.1 8 27 zi_8 rfl (by decide) (by decide) rfl zW_483 rfl dd_Md_checkpoint_32 ?_
  refine za_ico B.1 4 dd_Md_checkpoint_35 (by decide) ?_
  refine za_ild_n B.1 1 dd_Md_checkpoint_36 rfl ?_
  refine za_mul B.1 dd_Md_checkpoint_37 ?_
  refine za_iald B.1 dd_Md_checkpoint_38 ?_
  exact za_cmp_ne B.1 51 dd_Md_checkpoint_39 (by decide) (zr_Md_checkpoint_42 B h13) (zr_Md_checkpoint_51 B)
theorem zr_Md_checkpoint_13 (B : zs_B p s m args meth c G bb_Md_checkpoint 3 yy_Md_checkpoint (some .int)) {K13 : zs_P} (h13 : zA_Md_checkpoint p l e s m args below meth c G Q 13 K13) : zA_Md_checkpoint p l e s m args below meth c G Q 13 (zb_Md_checkpoint_13 Q K13) := by
  unfold zb_Md_checkpoint_13
  refine za_ild_n B.1 2 dd_Md_checkpoint_13 rfl ?_
  refine za_ald_n B.1 0 dd_Md_checkpoint_14 rfl ?_
  refine za_gtI B.1 8 0 zi_8 rfl (by decide) (by decide) rfl zW_456 rfl dd_Md_checkpoint_15 ?_
  exact za_cmp_ge B.1 59 dd_Md_checkpoint_18 (by decide) (zr_Md_checkpoint_59 B) (zr_Md_checkpoint_21 B h13)
theorem zq_Md_checkpoint_13 (B : zs_B p s m args meth c G bb_Md_checkpoint 3 yy_Md_checkpoint (some .int)) : zA_Md_checkpoint p l e s m args below meth c G Q 13 (zl_Md_checkpoint_13 Q) := za_lop (fun K hK => zr_Md_checkpoint_13 B hK)
theorem zr_Md_checkpoint_11 (B : zs_B p s m args meth c G bb_Md_checkpoint 3 yy_Md_checkpoint (some .int)) : zA_Md_checkpoint p l e s m args below meth c G Q 11 (zb_Md_checkpoint_11 Q) := by
  unfold zb_Md_checkpoint_11
  refine za_ico B.1 0 dd_Md_checkpoint_11 (by decide) ?_
  refine za_ist_n B.1 2 dd_Md_checkpoint_12 rfl (by decide) ?_
  exact (zq_Md_checkpoint_13 B)
theorem zr_Md_checkpoint_9 (B : zs_B p s m args meth c G bb_Md_checkpoint 3 yy_Md_checkpoint (some .int)) : zA_Md_checkpoint p l e s m args below meth c G Q 9 (zb_Md_checkpoint_9 Q) := by
  unfold zb_Md_checkpoint_9
  refine za_ico B.1 (-1) dd_Md_checkpoint_9 (by decide) ?_
  exact za_irt B.1 0 0 B.2.1 B.2.2.1 dd_Md_checkpoint_10
theorem zr_Md_checkpoint_0 (B : zs_B p s m args meth c G bb_Md_checkpoint 3 yy_Md_checkpoint (some .int)) : zA_Md_checkpoint p l e s m args below meth c G Q 0 (zb_Md_checkpoint_0 Q) := by
  unfold zb_Md_checkpoint_0
  refine za_ald_n B.1 0 dd_Md_checkpoint_0 rfl ?_
  refine za_ild_n B.1 1 dd_Md_checkpoint_1 rfl ?_
  refine za_ico B.1 0 dd_Md_checkpoint_2 (by decide) ?_
  refine za_cV B.1 8 2 0 0 0 0 rfl rfl rfl (by decide) (zm_Md_there l G) ⟨callB_of 2 B.1.1.2.2.2.2 (zs_good zW_610) rfl rfl rfl (B.1.1.2.2.2.2 _ zW_8) (B.1.1.2.2.2.2 _ zW_608) (by decide +kernel) ⟨by decide, by decide⟩, (B.1.1.2.2.2.2 _ zW_609), (B.1.1.2.2.2.2 _ zW_695)⟩ dd_Md_checkpoint_3 ?_
  exact za_if_ne B.1 11 dd_Md_checkpoint_6 (by decide) (zr_Md_checkpoint_9 B) (zr_Md_checkpoint_11 B)
end
theorem zm_Md_checkpoint (l : Launch) (G : zs_G) (As : List Value) (σ : zs_S) (Q : zs_Q) (h : zw_Md_checkpoint As σ Q) : zs_Met l yy_Md_checkpoint (Cond.code yy_Md_checkpoint bb_Md_checkpoint 3 (some .int) :: zw_all) zk_Md_checkpoint G As σ Q 0 0 := by
  unfold zw_Md_checkpoint at h
  split at h
  · exact zs_enter (by decide +kernel) h.1 (Nat.le_of_ble_eq_true rfl) h.2 (fun p e s m args below meth c B => zr_Md_checkpoint_0 B)
  · exact h.elim
-- SequencedBatchesModel.value(II)I
theorem dd_Md_value_0 : decode bb_Md_value 0 = .ok (.aload_n 0, 1) := by decide +kernel
theorem dd_Md_value_1 : decode bb_Md_value 1 = .ok (.iload_n 1, 1) := by decide +kernel
theorem dd_Md_value_2 : decode bb_Md_value 2 = .ok (.iconst 0, 1) := by decide +kernel
theorem dd_Md_value_3 : decode bb_Md_value 3 = .ok (.invokevirtual 192, 3) := by decide +kernel
theorem dd_Md_value_6 : decode bb_Md_value 6 = .ok (.ifCond .eq 27, 3) := by decide +kernel
theorem dd_Md_value_9 : decode bb_Md_value 9 = .ok (.iload_n 2, 1) := by decide +kernel
theorem dd_Md_value_10 : decode bb_Md_value 10 = .ok (.iconst 0, 1) := by decide +kernel
theorem dd_Md_value_11 : decode bb_Md_value 11 = .ok (.bipush 11, 2) := by decide +kernel
theorem dd_Md_value_13 : decode bb_Md_value 13 = .ok (.invokestatic 111, 3) := by decide +kernel
theorem dd_Md_value_16 : decode bb_Md_value 16 = .ok (.ifCond .eq 17, 3) := by decide +kernel
theorem dd_Md_value_19 : decode bb_Md_value 19 = .ok (.aload_n 0, 1) := by decide +kernel
theorem dd_Md_value_20 : decode bb_Md_value 20 = .ok (.getfield 71, 3) := by decide +kernel
theorem dd_Md_value_23 : decode bb_Md_value 23 = .ok (.bipush 12, 2) := by decide +kernel
theorem dd_Md_value_25 : decode bb_Md_value 25 = .ok (.iload_n 1, 1) := by decide +kernel
theorem dd_Md_value_26 : decode bb_Md_value 26 = .ok (.imul, 1) := by decide +kernel
theorem dd_Md_value_27 : decode bb_Md_value 27 = .ok (.iload_n 2, 1) := by decide +kernel
theorem dd_Md_value_28 : decode bb_Md_value 28 = .ok (.iadd, 1) := by decide +kernel
theorem dd_Md_value_29 : decode bb_Md_value 29 = .ok (.iaload, 1) := by decide +kernel
theorem dd_Md_value_30 : decode bb_Md_value 30 = .ok (.goto 4, 3) := by decide +kernel
theorem dd_Md_value_33 : decode bb_Md_value 33 = .ok (.iconst 0, 1) := by decide +kernel
theorem dd_Md_value_34 : decode bb_Md_value 34 = .ok (.ireturn, 1) := by decide +kernel
def zk_Md_value : Room := { frames := 2, cells := 0, slots := 0, locals := 44 }
abbrev zA_Md_value (p : Program) (l : Launch) (e : Env) (s : State) (m : MethodId) (args : Array Value) (below : List Frame) (meth : Method) (c : Code) (G : zs_G) (Q : zs_Q) (pc : Nat) (P : zs_P) : Prop := zs_At p l e zk_Md_value s m args below meth c (MQ below (zs_Qc G Q) args s 0 0 (fun q => zg_z G ≤ q)) G 3 pc P
def zb_Md_value_34 (Q : zs_Q) : zs_P := zt_irt 0 0 Q
def zb_Md_value_33 (Q : zs_Q) : zs_P := zt_psh 0 ((zb_Md_value_34 Q))
def zb_Md_value_19 (Q : zs_Q) : zs_P := zt_ald 0 (zt_gtR 8 23 (zt_psh 12 (zt_ild 1 (zt_bin (fun x y => x * y) (zt_ild 2 (zt_bin (fun x y => x + y) (zt_xld 100 ((zb_Md_value_34 Q)))))))))
def zb_Md_value_9 (Q : zs_Q) : zs_P := zt_ild 2 (zt_psh 0 (zt_psh 11 (zt_cal zw_Md_in 3 0 0 0 0 (zt_if (fun x => x = 0) (zb_Md_value_33 Q) (zb_Md_value_19 Q)))))
def zb_Md_value_0 (Q : zs_Q) : zs_P := zt_ald 0 (zt_ild 1 (zt_psh 0 (zt_cav 8 zw_Md_there (2 + 1) 0 0 0 0 (zt_if (fun x => x = 0) (zb_Md_value_33 Q) (zb_Md_value_9 Q)))))
def zw_Md_value : zs_W := fun As σ Q => match As with
  | [a0, a1, a2] => zs_c1 [a0, a1, a2] = true ∧ zb_Md_value_0 Q [some a0, some a1, some a2] [] σ 0 0
  | _ => False
section
variable {p : Program} {l : Launch} {e : Env} {s : State} {m : MethodId} {args : Array Value} {below : List Frame} {meth : Method} {c : Code} {G : zs_G} {Q : zs_Q}
theorem zr_Md_value_34 (B : zs_B p s m args meth c G bb_Md_value 3 yy_Md_value (some .int)) : zA_Md_value p l e s m args below meth c G Q 34 (zb_Md_value_34 Q) := by
  unfold zb_Md_value_34
  exact za_irt B.1 0 0 B.2.1 B.2.2.1 dd_Md_value_34
theorem zr_Md_value_33 (B : zs_B p s m args meth c G bb_Md_value 3 yy_Md_value (some .int)) : zA_Md_value p l e s m args below meth c G Q 33 (zb_Md_value_33 Q) := by
  unfold zb_Md_value_33
  refine za_ico B.1 0 dd_Md_value_33 (by decide) ?_
  exact (zr_Md_value_34 B)
theorem zr_Md_value_19 (B : zs_B p s m args meth c G bb_Md_value 3 yy_Md_value (some .int)) : zA_Md_value p l e s m args below meth c G Q 19 (zb_Md_value_19 Q) := by
  unfold zb_Md_value_19
  refine za_ald_n B.1 0 dd_Md_value_19 rfl ?_
  refine za_gtR B.1 8 23 zi_8 rfl (by decide) (by decide) rfl zW_479 rfl dd_Md_value_20 ?_
  refine za_bip B.1 12 dd_Md_value_23 (by decide) ?_
  refine za_ild_n B.1 1 dd_Md_value_25 rfl ?_
  refine za_mul B.1 dd_Md_value_26 ?_
  refine za_ild_n B.1 2 dd_Md_value_27 rfl ?_
  refine za_add B.1 dd_Md_value_28 ?_
  refine za_iald B.1 dd_Md_value_29 ?_
  refine za_goto B.1 34 dd_Md_value_30 (by decide) ?_
  exact (zr_Md_value_34 B)
theorem zr_Md_value_9 (B : zs_B p s m args meth c G bb_Md_value 3 yy_Md_value (some .int)) : zA_Md_value p l e s m args below meth c G Q 9 (zb_Md_value_9 Q) := by
  unfold zb_Md_value_9
  refine za_ild_n B.1 2 dd_Md_value_9 rfl ?_
  refine za_ico B.1 0 dd_Md_value_10 (by decide) ?_
  refine za_bip B.1 11 dd_Md_value_11 (by decide) ?_
  refine za_cS B.1 3 0 0 0 0 rfl rfl (zm_Md_in l G) ⟨callB_of 3 B.1.1.2.2.2.2 (zs_good zW_497) rfl rfl rfl (B.1.1.2.2.2.2 _ zW_8) (B.1.1.2.2.2.2 _ zW_495) (by decide +kernel) ⟨by decide, by decide⟩, (B.1.1.2.2.2.2 _ zW_496)⟩ dd_Md_value_13 ?_
  exact za_if_eq B.1 33 dd_Md_value_16 (by decide) (zr_Md_value_33 B) (zr_Md_value_19 B)
theorem zr_Md_value_0 (B : zs_B p s m args meth c G bb_Md_value 3 yy_Md_value (some .int)) : zA_Md_value p l e s m args below meth c G Q 0 (zb_Md_value_0 Q) := by
  unfold zb_Md_value_0
  refine za_ald_n B.1 0 dd_Md_value_0 rfl ?_
  refine za_ild_n B.1 1 dd_Md_value_1 rfl ?_
  refine za_ico B.1 0 dd_Md_value_2 (by decide) ?_
  refine za_cV B.1 8 2 0 0 0 0 rfl rfl rfl (by decide) (zm_Md_there l G) ⟨callB_of 2 B.1.1.2.2.2.2 (zs_good zW_610) rfl rfl rfl (B.1.1.2.2.2.2 _ zW_8) (B.1.1.2.2.2.2 _ zW_608) (by decide +kernel) ⟨by decide, by decide⟩, (B.1.1.2.2.2.2 _ zW_609), (B.1.1.2.2.2.2 _ zW_695)⟩ dd_Md_value_3 ?_
  exact za_if_eq B.1 33 dd_Md_value_6 (by decide) (zr_Md_value_33 B) (zr_Md_value_9 B)
end
theorem zm_Md_value (l : Launch) (G : zs_G) (As : List Value) (σ : zs_S) (Q : zs_Q) (h : zw_Md_value As σ Q) : zs_Met l yy_Md_value (Cond.code yy_Md_value bb_Md_value 3 (some .int) :: zw_all) zk_Md_value G As σ Q 0 0 := by
  unfold zw_Md_value at h
  split at h
  · exact zs_enter (by decide +kernel) h.1 (Nat.le_of_ble_eq_true rfl) h.2 (fun p e s m args below meth c B => zr_Md_value_0 B)
  · exact h.elim
-- SequencedBatchesModel.admitted(II)I
theorem dd_Md_admitted_0 : decode bb_Md_admitted 0 = .ok (.aload_n 0, 1) := by decide +kernel
theorem dd_Md_admitted_1 : decode bb_Md_admitted 1 = .ok (.iload_n 1, 1) := by decide +kernel
theorem dd_Md_admitted_2 : decode bb_Md_admitted 2 = .ok (.iload_n 2, 1) := by decide +kernel
theorem dd_Md_admitted_3 : decode bb_Md_admitted 3 = .ok (.invokevirtual 192, 3) := by decide +kernel
theorem dd_Md_admitted_6 : decode bb_Md_admitted 6 = .ok (.ifCond .eq 16, 3) := by decide +kernel
theorem dd_Md_admitted_9 : decode bb_Md_admitted 9 = .ok (.aload_n 0, 1) := by decide +kernel
theorem dd_Md_admitted_10 : decode bb_Md_admitted 10 = .ok (.getfield 83, 3) := by decide +kernel
theorem dd_Md_admitted_13 : decode bb_Md_admitted 13 = .ok (.iconst 4, 1) := by decide +kernel
theorem dd_Md_admitted_14 : decode bb_Md_admitted 14 = .ok (.iload_n 1, 1) := by decide +kernel
theorem dd_Md_admitted_15 : decode bb_Md_admitted 15 = .ok (.imul, 1) := by decide +kernel
theorem dd_Md_admitted_16 : decode bb_Md_admitted 16 = .ok (.iload_n 2, 1) := by decide +kernel
theorem dd_Md_admitted_17 : decode bb_Md_admitted 17 = .ok (.iadd, 1) := by decide +kernel
theorem dd_Md_admitted_18 : decode bb_Md_admitted 18 = .ok (.iaload, 1) := by decide +kernel
theorem dd_Md_admitted_19 : decode bb_Md_admitted 19 = .ok (.goto 4, 3) := by decide +kernel
theorem dd_Md_admitted_22 : decode bb_Md_admitted 22 = .ok (.iconst (-1), 1) := by decide +kernel
theorem dd_Md_admitted_23 : decode bb_Md_admitted 23 = .ok (.ireturn, 1) := by decide +kernel
def zk_Md_admitted : Room := { frames := 2, cells := 0, slots := 0, locals := 44 }
abbrev zA_Md_admitted (p : Program) (l : Launch) (e : Env) (s : State) (m : MethodId) (args : Array Value) (below : List Frame) (meth : Method) (c : Code) (G : zs_G) (Q : zs_Q) (pc : Nat) (P : zs_P) : Prop := zs_At p l e zk_Md_admitted s m args below meth c (MQ below (zs_Qc G Q) args s 0 0 (fun q => zg_z G ≤ q)) G 3 pc P
def zb_Md_admitted_23 (Q : zs_Q) : zs_P := zt_irt 0 0 Q
def zb_Md_admitted_22 (Q : zs_Q) : zs_P := zt_psh (-1) ((zb_Md_admitted_23 Q))
def zb_Md_admitted_9 (Q : zs_Q) : zs_P := zt_ald 0 (zt_gtR 8 27 (zt_psh 4 (zt_ild 1 (zt_bin (fun x y => x * y) (zt_ild 2 (zt_bin (fun x y => x + y) (zt_xld 100 ((zb_Md_admitted_23 Q)))))))))
def zb_Md_admitted_0 (Q : zs_Q) : zs_P := zt_ald 0 (zt_ild 1 (zt_ild 2 (zt_cav 8 zw_Md_there (2 + 1) 0 0 0 0 (zt_if (fun x => x = 0) (zb_Md_admitted_22 Q) (zb_Md_admitted_9 Q)))))
def zw_Md_admitted : zs_W := fun As σ Q => match As with
  | [a0, a1, a2] => zs_c1 [a0, a1, a2] = true ∧ zb_Md_admitted_0 Q [some a0, some a1, some a2] [] σ 0 0
  | _ => False
section
variable {p : Program} {l : Launch} {e : Env} {s : State} {m : MethodId} {args : Array Value} {below : List Frame} {meth : Method} {c : Code} {G : zs_G} {Q : zs_Q}
theorem zr_Md_admitted_23 (B : zs_B p s m args meth c G bb_Md_admitted 3 yy_Md_admitted (some .int)) : zA_Md_admitted p l e s m args below meth c G Q 23 (zb_Md_admitted_23 Q) := by
  unfold zb_Md_admitted_23
  exact za_irt B.1 0 0 B.2.1 B.2.2.1 dd_Md_admitted_23
theorem zr_Md_admitted_22 (B : zs_B p s m args meth c G bb_Md_admitted 3 yy_Md_admitted (some .int)) : zA_Md_admitted p l e s m args below meth c G Q 22 (zb_Md_admitted_22 Q) := by
  unfold zb_Md_admitted_22
  refine za_ico B.1 (-1) dd_Md_admitted_22 (by decide) ?_
  exact (zr_Md_admitted_23 B)
theorem zr_Md_admitted_9 (B : zs_B p s m args meth c G bb_Md_admitted 3 yy_Md_admitted (some .int)) : zA_Md_admitted p l e s m args below meth c G Q 9 (zb_Md_admitted_9 Q) := by
  unfold zb_Md_admitted_9
  refine za_ald_n B.1 0 dd_Md_admitted_9 rfl ?_
  refine za_gtR B.1 8 27 zi_8 rfl (by decide) (by decide) rfl zW_483 rfl dd_Md_admitted_10 ?_
  refine za_ico B.1 4 dd_Md_admitted_13 (by decide) ?_
  refine za_ild_n B.1 1 dd_Md_admitted_14 rfl ?_
  refine za_mul B.1 dd_Md_admitted_15 ?_
  refine za_ild_n B.1 2 dd_Md_admitted_16 rfl ?_
  refine za_add B.1 dd_Md_admitted_17 ?_
  refine za_iald B.1 dd_Md_admitted_18 ?_
  refine za_goto B.1 23 dd_Md_admitted_19 (by decide) ?_
  exact (zr_Md_admitted_23 B)
theorem zr_Md_admitted_0 (B : zs_B p s m args meth c G bb_Md_admitted 3 yy_Md_admitted (some .int)) : zA_Md_admitted p l e s m args below meth c G Q 0 (zb_Md_admitted_0 Q) := by
  unfold zb_Md_admitted_0
  refine za_ald_n B.1 0 dd_Md_admitted_0 rfl ?_
  refine za_ild_n B.1 1 dd_Md_admitted_1 rfl ?_
  refine za_ild_n B.1 2 dd_Md_admitted_2 rfl ?_
  refine za_cV B.1 8 2 0 0 0 0 rfl rfl rfl (by decide) (zm_Md_there l G) ⟨callB_of 2 B.1.1.2.2.2.2 (zs_good zW_610) rfl rfl rfl (B.1.1.2.2.2.2 _ zW_8) (B.1.1.2.2.2.2 _ zW_608) (by decide +kernel) ⟨by decide, by decide⟩, (B.1.1.2.2.2.2 _ zW_609), (B.1.1.2.2.2.2 _ zW_695)⟩ dd_Md_admitted_3 ?_
  exact za_if_eq B.1 22 dd_Md_admitted_6 (by decide) (zr_Md_admitted_22 B) (zr_Md_admitted_9 B)
end
theorem zm_Md_admitted (l : Launch) (G : zs_G) (As : List Value) (σ : zs_S) (Q : zs_Q) (h : zw_Md_admitted As σ Q) : zs_Met l yy_Md_admitted (Cond.code yy_Md_admitted bb_Md_admitted 3 (some .int) :: zw_all) zk_Md_admitted G As σ Q 0 0 := by
  unfold zw_Md_admitted at h
  split at h
  · exact zs_enter (by decide +kernel) h.1 (Nat.le_of_ble_eq_true rfl) h.2 (fun p e s m args below meth c B => zr_Md_admitted_0 B)
  · exact h.elim
-- SequencedBatchesModel.finished(II)I
theorem dd_Md_finished_0 : decode bb_Md_finished 0 = .ok (.aload_n 0, 1) := by decide +kernel
theorem dd_Md_finished_1 : decode bb_Md_finished 1 = .ok (.iload_n 1, 1) := by decide +kernel
theorem dd_Md_finished_2 : decode bb_Md_finished 2 = .ok (.iload_n 2, 1) := by decide +kernel
theorem dd_Md_finished_3 : decode bb_Md_finished 3 = .ok (.invokevirtual 192, 3) := by decide +kernel
theorem dd_Md_finished_6 : decode bb_Md_finished 6 = .ok (.ifCond .eq 23, 3) := by decide +kernel
theorem dd_Md_finished_9 : decode bb_Md_finished 9 = .ok (.aload_n 0, 1) := by decide +kernel
theorem dd_Md_finished_10 : decode bb_Md_finished 10 = .ok (.getfield 83, 3) := by decide +kernel
theorem dd_Md_finished_13 : decode bb_Md_finished 13 = .ok (.iconst 4, 1) := by decide +kernel
theorem dd_Md_finished_14 : decode bb_Md_finished 14 = .ok (.iload_n 1, 1) := by decide +kernel
theorem dd_Md_finished_15 : decode bb_Md_finished 15 = .ok (.imul, 1) := by decide +kernel
theorem dd_Md_finished_16 : decode bb_Md_finished 16 = .ok (.iload_n 2, 1) := by decide +kernel
theorem dd_Md_finished_17 : decode bb_Md_finished 17 = .ok (.iadd, 1) := by decide +kernel
theorem dd_Md_finished_18 : decode bb_Md_finished 18 = .ok (.iaload, 1) := by decide +kernel
theorem dd_Md_finished_19 : decode bb_Md_finished 19 = .ok (.aload_n 0, 1) := by decide +kernel
theorem dd_Md_finished_20 : decode bb_Md_finished 20 = .ok (.iload_n 1, 1) := by decide +kernel
theorem dd_Md_finished_21 : decode bb_Md_finished 21 = .ok (.iload_n 2, 1) := by decide +kernel
theorem dd_Md_finished_22 : decode bb_Md_finished 22 = .ok (.invokevirtual 195, 3) := by decide +kernel
theorem dd_Md_finished_25 : decode bb_Md_finished 25 = .ok (.isub, 1) := by decide +kernel
theorem dd_Md_finished_26 : decode bb_Md_finished 26 = .ok (.goto 4, 3) := by decide +kernel
theorem dd_Md_finished_29 : decode bb_Md_finished 29 = .ok (.iconst (-1), 1) := by decide +kernel
theorem dd_Md_finished_30 : decode bb_Md_finished 30 = .ok (.ireturn, 1) := by decide +kernel
def zk_Md_finished : Room := { frames := 3, cells := 0, slots := 0, locals := 70 }
abbrev zA_Md_finished (p : Program) (l : Launch) (e : Env) (s : State) (m : MethodId) (args : Array Value) (below : List Frame) (meth : Method) (c : Code) (G : zs_G) (Q : zs_Q) (pc : Nat) (P : zs_P) : Prop := zs_At p l e zk_Md_finished s m args below meth c (MQ below (zs_Qc G Q) args s 0 0 (fun q => zg_z G ≤ q)) G 3 pc P
def zb_Md_finished_30 (Q : zs_Q) : zs_P := zt_irt 0 0 Q
def zb_Md_finished_29 (Q : zs_Q) : zs_P := zt_psh (-1) ((zb_Md_finished_30 Q))
def zb_Md_finished_9 (Q : zs_Q) : zs_P := zt_ald 0 (zt_gtR 8 27 (zt_psh 4 (zt_ild 1 (zt_bin (fun x y => x * y) (zt_ild 2 (zt_bin (fun x y => x + y) (zt_xld 100 (zt_ald 0 (zt_ild 1 (zt_ild 2 (zt_cav 8 zw_Md_pendings (2 + 1) 0 0 0 0 (zt_bin (fun x y => x - y) ((zb_Md_finished_30 Q))))))))))))))
def zb_Md_finished_0 (Q : zs_Q) : zs_P := zt_ald 0 (zt_ild 1 (zt_ild 2 (zt_cav 8 zw_Md_there (2 + 1) 0 0 0 0 (zt_if (fun x => x = 0) (zb_Md_finished_29 Q) (zb_Md_finished_9 Q)))))
def zw_Md_finished : zs_W := fun As σ Q => match As with
  | [a0, a1, a2] => zs_c1 [a0, a1, a2] = true ∧ zb_Md_finished_0 Q [some a0, some a1, some a2] [] σ 0 0
  | _ => False
section
variable {p : Program} {l : Launch} {e : Env} {s : State} {m : MethodId} {args : Array Value} {below : List Frame} {meth : Method} {c : Code} {G : zs_G} {Q : zs_Q}
theorem zr_Md_finished_30 (B : zs_B p s m args meth c G bb_Md_finished 3 yy_Md_finished (some .int)) : zA_Md_finished p l e s m args below meth c G Q 30 (zb_Md_finished_30 Q) := by
  unfold zb_Md_finished_30
  exact za_irt B.1 0 0 B.2.1 B.2.2.1 dd_Md_finished_30
theorem zr_Md_finished_29 (B : zs_B p s m args meth c G bb_Md_finished 3 yy_Md_finished (some .int)) : zA_Md_finished p l e s m args below meth c G Q 29 (zb_Md_finished_29 Q) := by
  unfold zb_Md_finished_29
  refine za_ico B.1 (-1) dd_Md_finished_29 (by decide) ?_
  exact (zr_Md_finished_30 B)
theorem zr_Md_finished_9 (B : zs_B p s m args meth c G bb_Md_finished 3 yy_Md_finished (some .int)) : zA_Md_finished p l e s m args below meth c G Q 9 (zb_Md_finished_9 Q) := by
  unfold zb_Md_finished_9
  refine za_ald_n B.1 0 dd_Md_finished_9 rfl ?_
  refine za_gtR B.1 8 27 zi_8 rfl (by decide) (by decide) rfl zW_483 rfl dd_Md_finished_10 ?_
  refine za_ico B.1 4 dd_Md_finished_13 (by decide) ?_
  refine za_ild_n B.1 1 dd_Md_finished_14 rfl ?_
  refine za_mul B.1 dd_Md_finished_15 ?_
  refine za_ild_n B.1 2 dd_Md_finished_16 rfl ?_
  refine za_add B.1 dd_Md_finished_17 ?_
  refine za_iald B.1 dd_Md_finished_18 ?_
  refine za_ald_n B.1 0 dd_Md_finished_19 rfl ?_
  refine za_ild_n B.1 1 dd_Md_finished_20 rfl ?_
  refine za_ild_n B.1 2 dd_Md_finished_21 rfl ?_
  refine za_cV B.1 8 2 0 0 0 0 rfl rfl rfl (by decide) (zm_Md_pendings l G) ⟨callB_of 2 B.1.1.2.2.2.2 (zs_good zW_613) rfl rfl rfl (B.1.1.2.2.2.2 _ zW_8) (B.1.1.2.2.2.2 _ zW_611) (by decide +kernel) ⟨by decide, by decide⟩, (B.1.1.2.2.2.2 _ zW_612), (B.1.1.2.2.2.2 _ zW_696)⟩ dd_Md_finished_22 ?_
  refine za_sub B.1 dd_Md_finished_25 ?_
  refine za_goto B.1 30 dd_Md_finished_26 (by decide) ?_
  exact (zr_Md_finished_30 B)
theorem zr_Md_finished_0 (B : zs_B p s m args meth c G bb_Md_finished 3 yy_Md_finished (some .int)) : zA_Md_finished p l e s m args below meth c G Q 0 (zb_Md_finished_0 Q) := by
  unfold zb_Md_finished_0
  refine za_ald_n B.1 0 dd_Md_finished_0 rfl ?_
  refine za_ild_n B.1 1 dd_Md_finished_1 rfl ?_
  refine za_ild_n B.1 2 dd_Md_finished_2 rfl ?_
  refine za_cV B.1 8 2 0 0 0 0 rfl rfl rfl (by decide) (zm_Md_there l G) ⟨callB_of 2 B.1.1.2.2.2.2 (zs_good zW_610) rfl rfl rfl (B.1.1.2.2.2.2 _ zW_8) (B.1.1.2.2.2.2 _ zW_608) (by decide +kernel) ⟨by decide, by decide⟩, (B.1.1.2.2.2.2 _ zW_609), (B.1.1.2.2.2.2 _ zW_695)⟩ dd_Md_finished_3 ?_
  exact za_if_eq B.1 29 dd_Md_finished_6 (by decide) (zr_Md_finished_29 B) (zr_Md_finished_9 B)
end
theorem zm_Md_finished (l : Launch) (G : zs_G) (As : List Value) (σ : zs_S) (Q : zs_Q) (h : zw_Md_finished As σ Q) : zs_Met l yy_Md_finished (Cond.code yy_Md_finished bb_Md_finished 3 (some .int) :: zw_all) zk_Md_finished G As σ Q 0 0 := by
  unfold zw_Md_finished at h
  split at h
  · exact zs_enter (by decide +kernel) h.1 (Nat.le_of_ble_eq_true rfl) h.2 (fun p e s m args below meth c B => zr_Md_finished_0 B)
  · exact h.elim
-- SequencedBatchesModel.ready(II)I
theorem dd_Md_ready_0 : decode bb_Md_ready 0 = .ok (.aload_n 0, 1) := by decide +kernel
theorem dd_Md_ready_1 : decode bb_Md_ready 1 = .ok (.iload_n 1, 1) := by decide +kernel
theorem dd_Md_ready_2 : decode bb_Md_ready 2 = .ok (.iload_n 2, 1) := by decide +kernel
theorem dd_Md_ready_3 : decode bb_Md_ready 3 = .ok (.invokevirtual 192, 3) := by decide +kernel
theorem dd_Md_ready_6 : decode bb_Md_ready 6 = .ok (.ifCond .ne 5, 3) := by decide +kernel
theorem dd_Md_ready_9 : decode bb_Md_ready 9 = .ok (.iconst (-1), 1) := by decide +kernel
theorem dd_Md_ready_10 : decode bb_Md_ready 10 = .ok (.ireturn, 1) := by decide +kernel
theorem dd_Md_ready_11 : decode bb_Md_ready 11 = .ok (.aload_n 0, 1) := by decide +kernel
theorem dd_Md_ready_12 : decode bb_Md_ready 12 = .ok (.iload_n 1, 1) := by decide +kernel
theorem dd_Md_ready_13 : decode bb_Md_ready 13 = .ok (.iload_n 2, 1) := by decide +kernel
theorem dd_Md_ready_14 : decode bb_Md_ready 14 = .ok (.sipush 1000, 3) := by decide +kernel
theorem dd_Md_ready_17 : decode bb_Md_ready 17 = .ok (.invokevirtual 211, 3) := by decide +kernel
theorem dd_Md_ready_20 : decode bb_Md_ready 20 = .ok (.istore_n 3, 1) := by decide +kernel
theorem dd_Md_ready_21 : decode bb_Md_ready 21 = .ok (.iconst (-1), 1) := by decide +kernel
theorem dd_Md_ready_22 : decode bb_Md_ready 22 = .ok (.iload_n 3, 1) := by decide +kernel
theorem dd_Md_ready_23 : decode bb_Md_ready 23 = .ok (.isub, 1) := by decide +kernel
theorem dd_Md_ready_24 : decode bb_Md_ready 24 = .ok (.ireturn, 1) := by decide +kernel
def zk_Md_ready : Room := { frames := 5, cells := 0, slots := 0, locals := 118 }
abbrev zA_Md_ready (p : Program) (l : Launch) (e : Env) (s : State) (m : MethodId) (args : Array Value) (below : List Frame) (meth : Method) (c : Code) (G : zs_G) (Q : zs_Q) (pc : Nat) (P : zs_P) : Prop := zs_At p l e zk_Md_ready s m args below meth c (MQ below (zs_Qc G Q) args s 0 0 (fun q => zg_z G ≤ q)) G 4 pc P
def zb_Md_ready_11 (Q : zs_Q) : zs_P := zt_ald 0 (zt_ild 1 (zt_ild 2 (zt_psh 1000 (zt_cav 8 zw_Md_nthReady (3 + 1) 0 0 0 0 (zt_ist 3 (zt_psh (-1) (zt_ild 3 (zt_bin (fun x y => x - y) (zt_irt 0 0 Q)))))))))
def zb_Md_ready_9 (Q : zs_Q) : zs_P := zt_psh (-1) (zt_irt 0 0 Q)
def zb_Md_ready_0 (Q : zs_Q) : zs_P := zt_ald 0 (zt_ild 1 (zt_ild 2 (zt_cav 8 zw_Md_there (2 + 1) 0 0 0 0 (zt_if (fun x => x = 0) (zb_Md_ready_9 Q) (zb_Md_ready_11 Q)))))
def zw_Md_ready : zs_W := fun As σ Q => match As with
  | [a0, a1, a2] => zs_c1 [a0, a1, a2] = true ∧ zb_Md_ready_0 Q [some a0, some a1, some a2, none] [] σ 0 0
  | _ => False
section
variable {p : Program} {l : Launch} {e : Env} {s : State} {m : MethodId} {args : Array Value} {below : List Frame} {meth : Method} {c : Code} {G : zs_G} {Q : zs_Q}
theorem zr_Md_ready_11 (B : zs_B p s m args meth c G bb_Md_ready 4 yy_Md_ready (some .int)) : zA_Md_ready p l e s m args below meth c G Q 11 (zb_Md_ready_11 Q) := by
  unfold zb_Md_ready_11
  refine za_ald_n B.1 0 dd_Md_ready_11 rfl ?_
  refine za_ild_n B.1 1 dd_Md_ready_12 rfl ?_
  refine za_ild_n B.1 2 dd_Md_ready_13 rfl ?_
  refine za_sip B.1 1000 dd_Md_ready_14 (by decide) ?_
  refine za_cV B.1 8 3 0 0 0 0 rfl rfl rfl (by decide) (zm_Md_nthReady l G) ⟨callB_of 3 B.1.1.2.2.2.2 (zs_good zW_623) rfl rfl rfl (B.1.1.2.2.2.2 _ zW_8) (B.1.1.2.2.2.2 _ zW_621) (by decide +kernel) ⟨by decide, by decide⟩, (B.1.1.2.2.2.2 _ zW_622), (B.1.1.2.2.2.2 _ zW_698)⟩ dd_Md_ready_17 ?_
  refine za_ist_n B.1 3 dd_Md_ready_20 rfl (by decide) ?_
  refine za_ico B.1 (-1) dd_Md_ready_21 (by decide) ?_
  refine za_ild_n B.1 3 dd_Md_ready_22 rfl ?_
  refine za_sub B.1 dd_Md_ready_23 ?_
  exact za_irt B.1 0 0 B.2.1 B.2.2.1 dd_Md_ready_24
theorem zr_Md_ready_9 (B : zs_B p s m args meth c G bb_Md_ready 4 yy_Md_ready (some .int)) : zA_Md_ready p l e s m args below meth c G Q 9 (zb_Md_ready_9 Q) := by
  unfold zb_Md_ready_9
  refine za_ico B.1 (-1) dd_Md_ready_9 (by decide) ?_
  exact za_irt B.1 0 0 B.2.1 B.2.2.1 dd_Md_ready_10
theorem zr_Md_ready_0 (B : zs_B p s m args meth c G bb_Md_ready 4 yy_Md_ready (some .int)) : zA_Md_ready p l e s m args below meth c G Q 0 (zb_Md_ready_0 Q) := by
  unfold zb_Md_ready_0
  refine za_ald_n B.1 0 dd_Md_ready_0 rfl ?_
  refine za_ild_n B.1 1 dd_Md_ready_1 rfl ?_
  refine za_ild_n B.1 2 dd_Md_ready_2 rfl ?_
  refine za_cV B.1 8 2 0 0 0 0 rfl rfl rfl (by decide) (zm_Md_there l G) ⟨callB_of 2 B.1.1.2.2.2.2 (zs_good zW_610) rfl rfl rfl (B.1.1.2.2.2.2 _ zW_8) (B.1.1.2.2.2.2 _ zW_608) (by decide +kernel) ⟨by decide, by decide⟩, (B.1.1.2.2.2.2 _ zW_609), (B.1.1.2.2.2.2 _ zW_695)⟩ dd_Md_ready_3 ?_
  exact za_if_ne B.1 11 dd_Md_ready_6 (by decide) (zr_Md_ready_9 B) (zr_Md_ready_11 B)
end
theorem zm_Md_ready (l : Launch) (G : zs_G) (As : List Value) (σ : zs_S) (Q : zs_Q) (h : zw_Md_ready As σ Q) : zs_Met l yy_Md_ready (Cond.code yy_Md_ready bb_Md_ready 4 (some .int) :: zw_all) zk_Md_ready G As σ Q 0 0 := by
  unfold zw_Md_ready at h
  split at h
  · exact zs_enter (by decide +kernel) h.1 (Nat.le_of_ble_eq_true rfl) h.2 (fun p e s m args below meth c B => zr_Md_ready_0 B)
  · exact h.elim
-- SequencedBatchesModel.locks(II)I
theorem dd_Md_locks_0 : decode bb_Md_locks 0 = .ok (.aload_n 0, 1) := by decide +kernel
theorem dd_Md_locks_1 : decode bb_Md_locks 1 = .ok (.iload_n 1, 1) := by decide +kernel
theorem dd_Md_locks_2 : decode bb_Md_locks 2 = .ok (.iconst 0, 1) := by decide +kernel
theorem dd_Md_locks_3 : decode bb_Md_locks 3 = .ok (.invokevirtual 192, 3) := by decide +kernel
theorem dd_Md_locks_6 : decode bb_Md_locks 6 = .ok (.ifCond .eq 13, 3) := by decide +kernel
theorem dd_Md_locks_9 : decode bb_Md_locks 9 = .ok (.iload_n 2, 1) := by decide +kernel
theorem dd_Md_locks_10 : decode bb_Md_locks 10 = .ok (.iconst 0, 1) := by decide +kernel
theorem dd_Md_locks_11 : decode bb_Md_locks 11 = .ok (.bipush 11, 2) := by decide +kernel
theorem dd_Md_locks_13 : decode bb_Md_locks 13 = .ok (.invokestatic 111, 3) := by decide +kernel
theorem dd_Md_locks_16 : decode bb_Md_locks 16 = .ok (.ifCond .ne 5, 3) := by decide +kernel
theorem dd_Md_locks_19 : decode bb_Md_locks 19 = .ok (.iconst (-1), 1) := by decide +kernel
theorem dd_Md_locks_20 : decode bb_Md_locks 20 = .ok (.ireturn, 1) := by decide +kernel
theorem dd_Md_locks_21 : decode bb_Md_locks 21 = .ok (.iload_n 2, 1) := by decide +kernel
theorem dd_Md_locks_22 : decode bb_Md_locks 22 = .ok (.aload_n 0, 1) := by decide +kernel
theorem dd_Md_locks_23 : decode bb_Md_locks 23 = .ok (.getfield 104, 3) := by decide +kernel
theorem dd_Md_locks_26 : decode bb_Md_locks 26 = .ok (.irem, 1) := by decide +kernel
theorem dd_Md_locks_27 : decode bb_Md_locks 27 = .ok (.istore_n 3, 1) := by decide +kernel
theorem dd_Md_locks_28 : decode bb_Md_locks 28 = .ok (.iconst 0, 1) := by decide +kernel
theorem dd_Md_locks_29 : decode bb_Md_locks 29 = .ok (.istore 4, 2) := by decide +kernel
theorem dd_Md_locks_31 : decode bb_Md_locks 31 = .ok (.aload_n 0, 1) := by decide +kernel
theorem dd_Md_locks_32 : decode bb_Md_locks 32 = .ok (.iload_n 1, 1) := by decide +kernel
theorem dd_Md_locks_33 : decode bb_Md_locks 33 = .ok (.invokevirtual 182, 3) := by decide +kernel
theorem dd_Md_locks_36 : decode bb_Md_locks 36 = .ok (.aload_n 0, 1) := by decide +kernel
theorem dd_Md_locks_37 : decode bb_Md_locks 37 = .ok (.getfield 80, 3) := by decide +kernel
theorem dd_Md_locks_40 : decode bb_Md_locks 40 = .ok (.iload_n 1, 1) := by decide +kernel
theorem dd_Md_locks_41 : decode bb_Md_locks 41 = .ok (.iaload, 1) := by decide +kernel
theorem dd_Md_locks_42 : decode bb_Md_locks 42 = .ok (.istore 5, 2) := by decide +kernel
theorem dd_Md_locks_44 : decode bb_Md_locks 44 = .ok (.iload 5, 2) := by decide +kernel
theorem dd_Md_locks_46 : decode bb_Md_locks 46 = .ok (.aload_n 0, 1) := by decide +kernel
theorem dd_Md_locks_47 : decode bb_Md_locks 47 = .ok (.getfield 83, 3) := by decide +kernel
theorem dd_Md_locks_50 : decode bb_Md_locks 50 = .ok (.iconst 4, 1) := by decide +kernel
theorem dd_Md_locks_51 : decode bb_Md_locks 51 = .ok (.iload_n 1, 1) := by decide +kernel
theorem dd_Md_locks_52 : decode bb_Md_locks 52 = .ok (.imul, 1) := by decide +kernel
theorem dd_Md_locks_53 : decode bb_Md_locks 53 = .ok (.iload_n 3, 1) := by decide +kernel
theorem dd_Md_locks_54 : decode bb_Md_locks 54 = .ok (.iadd, 1) := by decide +kernel
theorem dd_Md_locks_55 : decode bb_Md_locks 55 = .ok (.iaload, 1) := by decide +kernel
theorem dd_Md_locks_56 : decode bb_Md_locks 56 = .ok (.if_icmp .ge 61, 3) := by decide +kernel
theorem dd_Md_locks_59 : decode bb_Md_locks 59 = .ok (.aload_n 0, 1) := by decide +kernel
theorem dd_Md_locks_60 : decode bb_Md_locks 60 = .ok (.iload_n 1, 1) := by decide +kernel
theorem dd_Md_locks_61 : decode bb_Md_locks 61 = .ok (.iload_n 3, 1) := by decide +kernel
theorem dd_Md_locks_62 : decode bb_Md_locks 62 = .ok (.iload 5, 2) := by decide +kernel
theorem dd_Md_locks_64 : decode bb_Md_locks 64 = .ok (.invokevirtual 189, 3) := by decide +kernel
theorem dd_Md_locks_67 : decode bb_Md_locks 67 = .ok (.ifCond .eq 40, 3) := by decide +kernel
theorem dd_Md_locks_70 : decode bb_Md_locks 70 = .ok (.aload_n 0, 1) := by decide +kernel
theorem dd_Md_locks_71 : decode bb_Md_locks 71 = .ok (.aload_n 0, 1) := by decide +kernel
theorem dd_Md_locks_72 : decode bb_Md_locks 72 = .ok (.getfield 101, 3) := by decide +kernel
theorem dd_Md_locks_75 : decode bb_Md_locks 75 = .ok (.iload 5, 2) := by decide +kernel
theorem dd_Md_locks_77 : decode bb_Md_locks 77 = .ok (.iaload, 1) := by decide +kernel
theorem dd_Md_locks_78 : decode bb_Md_locks 78 = .ok (.iload_n 2, 1) := by decide +kernel
theorem dd_Md_locks_79 : decode bb_Md_locks 79 = .ok (.invokevirtual 119, 3) := by decide +kernel
theorem dd_Md_locks_82 : decode bb_Md_locks 82 = .ok (.ifCond .ne 18, 3) := by decide +kernel
theorem dd_Md_locks_85 : decode bb_Md_locks 85 = .ok (.aload_n 0, 1) := by decide +kernel
theorem dd_Md_locks_86 : decode bb_Md_locks 86 = .ok (.aload_n 0, 1) := by decide +kernel
theorem dd_Md_locks_87 : decode bb_Md_locks 87 = .ok (.getfield 101, 3) := by decide +kernel
theorem dd_Md_locks_90 : decode bb_Md_locks 90 = .ok (.iload 5, 2) := by decide +kernel
theorem dd_Md_locks_92 : decode bb_Md_locks 92 = .ok (.iaload, 1) := by decide +kernel
theorem dd_Md_locks_93 : decode bb_Md_locks 93 = .ok (.iload_n 2, 1) := by decide +kernel
theorem dd_Md_locks_94 : decode bb_Md_locks 94 = .ok (.invokevirtual 123, 3) := by decide +kernel
theorem dd_Md_locks_97 : decode bb_Md_locks 97 = .ok (.ifCond .eq 10, 3) := by decide +kernel
theorem dd_Md_locks_100 : decode bb_Md_locks 100 = .ok (.iload 4, 2) := by decide +kernel
theorem dd_Md_locks_102 : decode bb_Md_locks 102 = .ok (.iconst 1, 1) := by decide +kernel
theorem dd_Md_locks_103 : decode bb_Md_locks 103 = .ok (.iadd, 1) := by decide +kernel
theorem dd_Md_locks_104 : decode bb_Md_locks 104 = .ok (.goto 5, 3) := by decide +kernel
theorem dd_Md_locks_107 : decode bb_Md_locks 107 = .ok (.iload 4, 2) := by decide +kernel
theorem dd_Md_locks_109 : decode bb_Md_locks 109 = .ok (.istore 4, 2) := by decide +kernel
theorem dd_Md_locks_111 : decode bb_Md_locks 111 = .ok (.iinc 5 1, 3) := by decide +kernel
theorem dd_Md_locks_114 : decode bb_Md_locks 114 = .ok (.goto (-70), 3) := by decide +kernel
theorem dd_Md_locks_117 : decode bb_Md_locks 117 = .ok (.iload 4, 2) := by decide +kernel
theorem dd_Md_locks_119 : decode bb_Md_locks 119 = .ok (.ireturn, 1) := by decide +kernel
def zk_Md_locks : Room := { frames := 2, cells := 0, slots := 0, locals := 46 }
abbrev zA_Md_locks (p : Program) (l : Launch) (e : Env) (s : State) (m : MethodId) (args : Array Value) (below : List Frame) (meth : Method) (c : Code) (G : zs_G) (Q : zs_Q) (pc : Nat) (P : zs_P) : Prop := zs_At p l e zk_Md_locks s m args below meth c (MQ below (zs_Qc G Q) args s 0 0 (fun q => zg_z G ≤ q)) G 6 pc P
def zb_Md_locks_19 (Q : zs_Q) : zs_P := zt_psh (-1) (zt_irt 0 0 Q)
def zb_Md_locks_117 (Q : zs_Q) : zs_P := zt_ild 4 (zt_irt 0 0 Q)
def zb_Md_locks_109 (Q : zs_Q) (K44 : zs_P) : zs_P := zt_ist 4 (zt_inc 5 1 (K44))
def zb_Md_locks_107 (Q : zs_Q) (K44 : zs_P) : zs_P := zt_ild 4 ((zb_Md_locks_109 Q K44))
def zb_Md_locks_100 (Q : zs_Q) (K44 : zs_P) : zs_P := zt_ild 4 (zt_psh 1 (zt_bin (fun x y => x + y) ((zb_Md_locks_109 Q K44))))
def zb_Md_locks_85 (Q : zs_Q) (K44 : zs_P) : zs_P := zt_ald 0 (zt_ald 0 (zt_gtR 8 33 (zt_ild 5 (zt_xld 100 (zt_ild 2 (zt_cav 8 zw_Md_writes (2 + 1) 0 0 0 0 (zt_if (fun x => x = 0) (zb_Md_locks_107 Q K44) (zb_Md_locks_100 Q K44))))))))
def zb_Md_locks_70 (Q : zs_Q) (K44 : zs_P) : zs_P := zt_ald 0 (zt_ald 0 (zt_gtR 8 33 (zt_ild 5 (zt_xld 100 (zt_ild 2 (zt_cav 8 zw_Md_reads (2 + 1) 0 0 0 0 (zt_if (fun x => x = 0) (zb_Md_locks_85 Q K44) (zb_Md_locks_100 Q K44))))))))
def zb_Md_locks_59 (Q : zs_Q) (K44 : zs_P) : zs_P := zt_ald 0 (zt_ild 1 (zt_ild 3 (zt_ild 5 (zt_cav 8 zw_Md_pending (3 + 1) 0 0 0 0 (zt_if (fun x => x = 0) (zb_Md_locks_107 Q K44) (zb_Md_locks_70 Q K44))))))
def zb_Md_locks_44 (Q : zs_Q) (K44 : zs_P) : zs_P := zt_ild 5 (zt_ald 0 (zt_gtR 8 27 (zt_psh 4 (zt_ild 1 (zt_bin (fun x y => x * y) (zt_ild 3 (zt_bin (fun x y => x + y) (zt_xld 100 (zt_cmp (fun x y => y ≤ x) (zb_Md_locks_117 Q) (zb_Md_locks_59 Q K44))))))))))
def zl_Md_locks_44 (Q : zs_Q) : zs_P := zt_ex (zb_Md_locks_44 Q)
def zb_Md_locks_21 (Q : zs_Q) : zs_P := zt_ild 2 (zt_ald 0 (zt_gtI 8 0 (zt_div (fun x y => x - x / y * y) (zt_ist 3 (zt_psh 0 (zt_ist 4 (zt_ald 0 (zt_ild 1 (zt_cav 8 zw_Md_lay (1 + 1) 0 0 0 0 (zt_ald 0 (zt_gtR 8 26 (zt_ild 1 (zt_xld 100 (zt_ist 5 ((zl_Md_locks_44 Q))))))))))))))))
def zb_Md_locks_9 (Q : zs_Q) : zs_P := zt_ild 2 (zt_psh 0 (zt_psh 11 (zt_cal zw_Md_in 3 0 0 0 0 (zt_if (fun x => x = 0) (zb_Md_locks_19 Q) (zb_Md_locks_21 Q)))))
def zb_Md_locks_0 (Q : zs_Q) : zs_P := zt_ald 0 (zt_ild 1 (zt_psh 0 (zt_cav 8 zw_Md_there (2 + 1) 0 0 0 0 (zt_if (fun x => x = 0) (zb_Md_locks_19 Q) (zb_Md_locks_9 Q)))))
def zw_Md_locks : zs_W := fun As σ Q => match As with
  | [a0, a1, a2] => zs_c1 [a0, a1, a2] = true ∧ zb_Md_locks_0 Q [some a0, some a1, some a2, none, none, none] [] σ 0 0
  | _ => False
section
variable {p : Program} {l : Launch} {e : Env} {s : State} {m : MethodId} {args : Array Value} {below : List Frame} {meth : Method} {c : Code} {G : zs_G} {Q : zs_Q}
theorem zr_Md_locks_19 (B : zs_B p s m args meth c G bb_Md_locks 6 yy_Md_locks (some .int)) : zA_Md_locks p l e s m args below meth c G Q 19 (zb_Md_locks_19 Q) := by
  unfold zb_Md_locks_19
  refine za_ico B.1 (-1) dd_Md_locks_19 (by decide) ?_
  exact za_irt B.1 0 0 B.2.1 B.2.2.1 dd_Md_locks_20
theorem zr_Md_locks_117 (B : zs_B p s m args meth c G bb_Md_locks 6 yy_Md_locks (some .int)) : zA_Md_locks p l e s m args below meth c G Q 117 (zb_Md_locks_117 Q) := by
  unfold zb_Md_locks_117
  refine za_ild B.1 dd_Md_locks_117 ?_
  exact za_irt B.1 0 0 B.2.1 B.2.2.1 dd_Md_locks_119
theorem zr_Md_locks_109 (B : zs_B p s m args meth c G bb_Md_locks 6 yy_Md_locks (some .int)) {K44 : zs_P} (h44 : zA_Md_locks p l e s m args below meth c G Q 44 K44) : zA_Md_locks p l e s m args below meth c G Q 109 (zb_Md_locks_109 Q K44) := by
  unfold zb_Md_locks_109
  refine za_ist B.1 dd_Md_locks_109 (by decide) ?_
  refine za_inc B.1 1 dd_Md_locks_111 (by decide) (by decide) ?_
  refine za_goto B.1 44 dd_Md_locks_114 (by decide) ?_
  exact h44
theorem zr_Md_locks_107 (B : zs_B p s m args meth c G bb_Md_locks 6 yy_Md_locks (some .int)) {K44 : zs_P} (h44 : zA_Md_locks p l e s m args below meth c G Q 44 K44) : zA_Md_locks p l e s m args below meth c G Q 107 (zb_Md_locks_107 Q K44) := by
  unfold zb_Md_locks_107
  refine za_ild B.1 dd_Md_locks_107 ?_
  exact (zr_Md_locks_109 B h44)
theorem zr_Md_locks_100 (B : zs_B p s m args meth c G bb_Md_locks 6 yy_Md_locks (some .int)) {K44 : zs_P} (h44 : zA_Md_locks p l e s m args below meth c G Q 44 K44) : zA_Md_locks p l e s m args below meth c G Q 100 (zb_Md_locks_100 Q K44) := by
  unfold zb_Md_locks_100
  refine za_ild B.1 dd_Md_locks_100 ?_
  refine za_ico B.1 1 dd_Md_locks_102 (by decide) ?_
  refine za_add B.1 dd_Md_locks_103 ?_
  refine za_goto B.1 109 dd_Md_locks_104 (by decide) ?_
  exact (zr_Md_locks_109 B h44)
theorem zr_Md_locks_85 (B : zs_B p s m args meth c G bb_Md_locks 6 yy_Md_locks (some .int)) {K44 : zs_P} (h44 : zA_Md_locks p l e s m args below meth c G Q 44 K44) : zA_Md_locks p l e s m args below meth c G Q 85 (zb_Md_locks_85 Q K44) := by
  unfold zb_Md_locks_85
  refine za_ald_n B.1 0 dd_Md_locks_85 rfl ?_
  refine za_ald_n B.1 0 dd_Md_locks_86 rfl ?_
  refine za_gtR B.1 8 33 zi_8 rfl (by decide) (by decide) rfl zW_489 rfl dd_Md_locks_87 ?_
  refine za_ild B.1 dd_Md_locks_90 ?_
  refine za_iald B.1 dd_Md_locks_92 ?_
  refine za_ild_n B.1 2 dd_Md_locks_93 rfl ?_
  refine za_cV B.1 8 2 0 0 0 0 rfl rfl rfl (by decide) (zm_Md_writes l G) ⟨callB_of 2 B.1.1.2.2.2.2 (zs_good zW_559) rfl rfl rfl (B.1.1.2.2.2.2 _ zW_8) (B.1.1.2.2.2.2 _ zW_557) (by decide +kernel) ⟨by decide, by decide⟩, (B.1.1.2.2.2.2 _ zW_558), (B.1.1.2.2.2.2 _ zW_686)⟩ dd_Md_locks_94 ?_
  exact za_if_eq B.1 107 dd_Md_locks_97 (by decide) (zr_Md_locks_107 B h44) (zr_Md_locks_100 B h44)
theorem zr_Md_locks_70 (B : zs_B p s m args meth c G bb_Md_locks 6 yy_Md_locks (some .int)) {K44 : zs_P} (h44 : zA_Md_locks p l e s m args below meth c G Q 44 K44) : zA_Md_locks p l e s m args below meth c G Q 70 (zb_Md_locks_70 Q K44) := by
  unfold zb_Md_locks_70
  refine za_ald_n B.1 0 dd_Md_locks_70 rfl ?_
  refine za_ald_n B.1 0 dd_Md_locks_71 rfl ?_
  refine za_gtR B.1 8 33 zi_8 rfl (by decide) (by decide) rfl zW_489 rfl dd_Md_locks_72 ?_
  refine za_ild B.1 dd_Md_locks_75 ?_
  refine za_iald B.1 dd_Md_locks_77 ?_
  refine za_ild_n B.1 2 dd_Md_locks_78 rfl ?_
  refine za_cV B.1 8 2 0 0 0 0 rfl rfl rfl (by decide) (zm_Md_reads l G) ⟨callB_of 2 B.1.1.2.2.2.2 (zs_good zW_553) rfl rfl rfl (B.1.1.2.2.2.2 _ zW_8) (B.1.1.2.2.2.2 _ zW_551) (by decide +kernel) ⟨by decide, by decide⟩, (B.1.1.2.2.2.2 _ zW_552), (B.1.1.2.2.2.2 _ zW_684)⟩ dd_Md_locks_79 ?_
  exact za_if_ne B.1 100 dd_Md_locks_82 (by decide) (zr_Md_locks_85 B h44) (zr_Md_locks_100 B h44)
theorem zr_Md_locks_59 (B : zs_B p s m args meth c G bb_Md_locks 6 yy_Md_locks (some .int)) {K44 : zs_P} (h44 : zA_Md_locks p l e s m args below meth c G Q 44 K44) : zA_Md_locks p l e s m args below meth c G Q 59 (zb_Md_locks_59 Q K44) := by
  unfold zb_Md_locks_59
  refine za_ald_n B.1 0 dd_Md_locks_59 rfl ?_
  refine za_ild_n B.1 1 dd_Md_locks_60 rfl ?_
  refine za_ild_n B.1 3 dd_Md_locks_61 rfl ?_
  refine za_ild B.1 dd_Md_locks_62 ?_
  refine za_cV B.1 8 3 0 0 0 0 rfl rfl rfl (by decide) (zm_Md_pending l G) ⟨callB_of 3 B.1.1.2.2.2.2 (zs_good zW_616) rfl rfl rfl (B.1.1.2.2.2.2 _ zW_8) (B.1.1.2.2.2.2 _ zW_614) (by decide +kernel) ⟨by decide, by decide⟩, (B.1.1.2.2.2.2 _ zW_615), (B.1.1.2.2.2.2 _ zW_697)⟩ dd_Md_locks_64 ?_
  exact za_if_eq B.1 107 dd_Md_locks_67 (by decide) (zr_Md_locks_107 B h44) (zr_Md_locks_70 B h44)
theorem zr_Md_locks_44 (B : zs_B p s m args meth c G bb_Md_locks 6 yy_Md_locks (some .int)) {K44 : zs_P} (h44 : zA_Md_locks p l e s m args below meth c G Q 44 K44) : zA_Md_locks p l e s m args below meth c G Q 44 (zb_Md_locks_44 Q K44) := by
  unfold zb_Md_locks_44
  refine za_ild B.1 dd_Md_locks_44 ?_
  refine za_ald_n B.1 0 dd_Md_locks_46 rfl ?_
  refine za_gtR B.1 8 27 zi_8 rfl (by decide) (by decide) rfl zW_483 rfl dd_Md_locks_47 ?_
  refine za_ico B.1 4 dd_Md_locks_50 (by decide) ?_
  refine za_ild_n B.1 1 dd_Md_locks_51 rfl ?_
  refine za_mul B.1 dd_Md_locks_52 ?_
  refine za_ild_n B.1 3 dd_Md_locks_53 rfl ?_
  refine za_add B.1 dd_Md_locks_54 ?_
  refine za_iald B.1 dd_Md_locks_55 ?_
  exact za_cmp_ge B.1 117 dd_Md_locks_56 (by decide) (zr_Md_locks_117 B) (zr_Md_locks_59 B h44)
theorem zq_Md_locks_44 (B : zs_B p s m args meth c G bb_Md_locks 6 yy_Md_locks (some .int)) : zA_Md_locks p l e s m args below meth c G Q 44 (zl_Md_locks_44 Q) := za_lop (fun K hK => zr_Md_locks_44 B hK)
theorem zr_Md_locks_21 (B : zs_B p s m args meth c G bb_Md_locks 6 yy_Md_locks (some .int)) : zA_Md_locks p l e s m args below meth c G Q 21 (zb_Md_locks_21 Q) := by
  unfold zb_Md_locks_21
  refine za_ild_n B.1 2 dd_Md_locks_21 rfl ?_
  refine za_ald_n B.1 0 dd_Md_locks_22 rfl ?_
  refine za_gtI B.1 8 0 zi_8 rfl (by decide) (by decide) rfl zW_456 rfl dd_Md_locks_23 ?_
  refine za_rem B.1 dd_Md_locks_26 ?_
  refine za_ist_n B.1 3 dd_Md_locks_27 rfl (by decide) ?_
  refine za_ico B.1 0 dd_Md_locks_28 (by decide) ?_
  refine za_ist B.1 dd_Md_locks_29 (by decide) ?_
  refine za_ald_n B.1 0 dd_Md_locks_31 rfl ?_
  refine za_ild_n B.1 1 dd_Md_locks_32 rfl ?_
  refine za_cV B.1 8 1 0 0 0 0 rfl rfl rfl (by decide) (zm_Md_lay l G) ⟨callB_of 1 B.1.1.2.2.2.2 (zs_good zW_603) rfl rfl rfl (B.1.1.2.2.2.2 _ zW_8) (B.1.1.2.2.2.2 _ zW_601) (by decide +kernel) ⟨by decide, by decide⟩, (B.1.1.2.2.2.2 _ zW_602), (B.1.1.2.2.2.2 _ zW_694)⟩ dd_Md_locks_33 ?_
  refine za_ald_n B.1 0 dd_Md_locks_36 rfl ?_
  refine za_gtR B.1 8 26 zi_8 rfl (by decide) (by decide) rfl zW_482 rfl dd_Md_locks_37 ?_
  refine za_ild_n B.1 1 dd_Md_locks_40 rfl ?_
  refine za_iald B.1 dd_Md_locks_41 ?_
  refine za_ist B.1 dd_Md_locks_42 (by decide) ?_
  exact (zq_Md_locks_44 B)
theorem zr_Md_locks_9 (B : zs_B p s m args meth c G bb_Md_locks 6 yy_Md_locks (some .int)) : zA_Md_locks p l e s m args below meth c G Q 9 (zb_Md_locks_9 Q) := by
  unfold zb_Md_locks_9
  refine za_ild_n B.1 2 dd_Md_locks_9 rfl ?_
  refine za_ico B.1 0 dd_Md_locks_10 (by decide) ?_
  refine za_bip B.1 11 dd_Md_locks_11 (by decide) ?_
  refine za_cS B.1 3 0 0 0 0 rfl rfl (zm_Md_in l G) ⟨callB_of 3 B.1.1.2.2.2.2 (zs_good zW_497) rfl rfl rfl (B.1.1.2.2.2.2 _ zW_8) (B.1.1.2.2.2.2 _ zW_495) (by decide +kernel) ⟨by decide, by decide⟩, (B.1.1.2.2.2.2 _ zW_496)⟩ dd_Md_locks_13 ?_
  exact za_if_ne B.1 21 dd_Md_locks_16 (by decide) (zr_Md_locks_19 B) (zr_Md_locks_21 B)
theorem zr_Md_locks_0 (B : zs_B p s m args meth c G bb_Md_locks 6 yy_Md_locks (some .int)) : zA_Md_locks p l e s m args below meth c G Q 0 (zb_Md_locks_0 Q) := by
  unfold zb_Md_locks_0
  refine za_ald_n B.1 0 dd_Md_locks_0 rfl ?_
  refine za_ild_n B.1 1 dd_Md_locks_1 rfl ?_
  refine za_ico B.1 0 dd_Md_locks_2 (by decide) ?_
  refine za_cV B.1 8 2 0 0 0 0 rfl rfl rfl (by decide) (zm_Md_there l G) ⟨callB_of 2 B.1.1.2.2.2.2 (zs_good zW_610) rfl rfl rfl (B.1.1.2.2.2.2 _ zW_8) (B.1.1.2.2.2.2 _ zW_608) (by decide +kernel) ⟨by decide, by decide⟩, (B.1.1.2.2.2.2 _ zW_609), (B.1.1.2.2.2.2 _ zW_695)⟩ dd_Md_locks_3 ?_
  exact za_if_eq B.1 19 dd_Md_locks_6 (by decide) (zr_Md_locks_19 B) (zr_Md_locks_9 B)
end
theorem zm_Md_locks (l : Launch) (G : zs_G) (As : List Value) (σ : zs_S) (Q : zs_Q) (h : zw_Md_locks As σ Q) : zs_Met l yy_Md_locks (Cond.code yy_Md_locks bb_Md_locks 6 (some .int) :: zw_all) zk_Md_locks G As σ Q 0 0 := by
  unfold zw_Md_locks at h
  split at h
  · exact zs_enter (by decide +kernel) h.1 (Nat.le_of_ble_eq_true rfl) h.2 (fun p e s m args below meth c B => zr_Md_locks_0 B)
  · exact h.elim
-- SequencedBatchesModel.stored(III)I
theorem dd_Md_stored_0 : decode bb_Md_stored 0 = .ok (.iload_n 1, 1) := by decide +kernel
theorem dd_Md_stored_1 : decode bb_Md_stored 1 = .ok (.iconst 0, 1) := by decide +kernel
theorem dd_Md_stored_2 : decode bb_Md_stored 2 = .ok (.iconst 2, 1) := by decide +kernel
theorem dd_Md_stored_3 : decode bb_Md_stored 3 = .ok (.invokestatic 111, 3) := by decide +kernel
theorem dd_Md_stored_6 : decode bb_Md_stored 6 = .ok (.ifCond .eq 30, 3) := by decide +kernel
theorem dd_Md_stored_9 : decode bb_Md_stored 9 = .ok (.iload_n 2, 1) := by decide +kernel
theorem dd_Md_stored_10 : decode bb_Md_stored 10 = .ok (.iconst 0, 1) := by decide +kernel
theorem dd_Md_stored_11 : decode bb_Md_stored 11 = .ok (.iconst 1, 1) := by decide +kernel
theorem dd_Md_stored_12 : decode bb_Md_stored 12 = .ok (.invokestatic 111, 3) := by decide +kernel
theorem dd_Md_stored_15 : decode bb_Md_stored 15 = .ok (.ifCond .eq 21, 3) := by decide +kernel
theorem dd_Md_stored_18 : decode bb_Md_stored 18 = .ok (.iload_n 3, 1) := by decide +kernel
theorem dd_Md_stored_19 : decode bb_Md_stored 19 = .ok (.iconst 0, 1) := by decide +kernel
theorem dd_Md_stored_20 : decode bb_Md_stored 20 = .ok (.aload_n 0, 1) := by decide +kernel
theorem dd_Md_stored_21 : decode bb_Md_stored 21 = .ok (.getfield 32, 3) := by decide +kernel
theorem dd_Md_stored_24 : decode bb_Md_stored 24 = .ok (.iload_n 2, 1) := by decide +kernel
theorem dd_Md_stored_25 : decode bb_Md_stored 25 = .ok (.iconst 1, 1) := by decide +kernel
theorem dd_Md_stored_26 : decode bb_Md_stored 26 = .ok (.iand, 1) := by decide +kernel
theorem dd_Md_stored_27 : decode bb_Md_stored 27 = .ok (.iaload, 1) := by decide +kernel
theorem dd_Md_stored_28 : decode bb_Md_stored 28 = .ok (.iconst 1, 1) := by decide +kernel
theorem dd_Md_stored_29 : decode bb_Md_stored 29 = .ok (.isub, 1) := by decide +kernel
theorem dd_Md_stored_30 : decode bb_Md_stored 30 = .ok (.invokestatic 111, 3) := by decide +kernel
theorem dd_Md_stored_33 : decode bb_Md_stored 33 = .ok (.ifCond .ne 5, 3) := by decide +kernel
theorem dd_Md_stored_36 : decode bb_Md_stored 36 = .ok (.iconst (-1), 1) := by decide +kernel
theorem dd_Md_stored_37 : decode bb_Md_stored 37 = .ok (.ireturn, 1) := by decide +kernel
theorem dd_Md_stored_38 : decode bb_Md_stored 38 = .ok (.aload_n 0, 1) := by decide +kernel
theorem dd_Md_stored_39 : decode bb_Md_stored 39 = .ok (.getfield 47, 3) := by decide +kernel
theorem dd_Md_stored_42 : decode bb_Md_stored 42 = .ok (.bipush 40, 2) := by decide +kernel
theorem dd_Md_stored_44 : decode bb_Md_stored 44 = .ok (.iload_n 1, 1) := by decide +kernel
theorem dd_Md_stored_45 : decode bb_Md_stored 45 = .ok (.imul, 1) := by decide +kernel
theorem dd_Md_stored_46 : decode bb_Md_stored 46 = .ok (.bipush 20, 2) := by decide +kernel
theorem dd_Md_stored_48 : decode bb_Md_stored 48 = .ok (.iload_n 2, 1) := by decide +kernel
theorem dd_Md_stored_49 : decode bb_Md_stored 49 = .ok (.imul, 1) := by decide +kernel
theorem dd_Md_stored_50 : decode bb_Md_stored 50 = .ok (.iadd, 1) := by decide +kernel
theorem dd_Md_stored_51 : decode bb_Md_stored 51 = .ok (.iload_n 3, 1) := by decide +kernel
theorem dd_Md_stored_52 : decode bb_Md_stored 52 = .ok (.iadd, 1) := by decide +kernel
theorem dd_Md_stored_53 : decode bb_Md_stored 53 = .ok (.iaload, 1) := by decide +kernel
theorem dd_Md_stored_54 : decode bb_Md_stored 54 = .ok (.ireturn, 1) := by decide +kernel
def zk_Md_stored : Room := { frames := 1, cells := 0, slots := 0, locals := 22 }
abbrev zA_Md_stored (p : Program) (l : Launch) (e : Env) (s : State) (m : MethodId) (args : Array Value) (below : List Frame) (meth : Method) (c : Code) (G : zs_G) (Q : zs_Q) (pc : Nat) (P : zs_P) : Prop := zs_At p l e zk_Md_stored s m args below meth c (MQ below (zs_Qc G Q) args s 0 0 (fun q => zg_z G ≤ q)) G 4 pc P
def zb_Md_stored_36 (Q : zs_Q) : zs_P := zt_psh (-1) (zt_irt 0 0 Q)
def zb_Md_stored_38 (Q : zs_Q) : zs_P := zt_ald 0 (zt_gtR 8 14 (zt_psh 40 (zt_ild 1 (zt_bin (fun x y => x * y) (zt_psh 20 (zt_ild 2 (zt_bin (fun x y => x * y) (zt_bin (fun x y => x + y) (zt_ild 3 (zt_bin (fun x y => x + y) (zt_xld 100 (zt_irt 0 0 Q))))))))))))
def zb_Md_stored_18 (Q : zs_Q) : zs_P := zt_ild 3 (zt_psh 0 (zt_ald 0 (zt_gtR 8 9 (zt_ild 2 (zt_psh 1 (zt_bin (fun x y => x &&& y) (zt_xld 100 (zt_psh 1 (zt_bin (fun x y => x - y) (zt_cal zw_Md_in 3 0 0 0 0 (zt_if (fun x => x = 0) (zb_Md_stored_36 Q) (zb_Md_stored_38 Q))))))))))))
def zb_Md_stored_9 (Q : zs_Q) : zs_P := zt_ild 2 (zt_psh 0 (zt_psh 1 (zt_cal zw_Md_in 3 0 0 0 0 (zt_if (fun x => x = 0) (zb_Md_stored_36 Q) (zb_Md_stored_18 Q)))))
def zb_Md_stored_0 (Q : zs_Q) : zs_P := zt_ild 1 (zt_psh 0 (zt_psh 2 (zt_cal zw_Md_in 3 0 0 0 0 (zt_if (fun x => x = 0) (zb_Md_stored_36 Q) (zb_Md_stored_9 Q)))))
def zw_Md_stored : zs_W := fun As σ Q => match As with
  | [a0, a1, a2, a3] => zs_c1 [a0, a1, a2, a3] = true ∧ zb_Md_stored_0 Q [some a0, some a1, some a2, some a3] [] σ 0 0
  | _ => False
section
variable {p : Program} {l : Launch} {e : Env} {s : State} {m : MethodId} {args : Array Value} {below : List Frame} {meth : Method} {c : Code} {G : zs_G} {Q : zs_Q}
theorem zr_Md_stored_36 (B : zs_B p s m args meth c G bb_Md_stored 4 yy_Md_stored (some .int)) : zA_Md_stored p l e s m args below meth c G Q 36 (zb_Md_stored_36 Q) := by
  unfold zb_Md_stored_36
  refine za_ico B.1 (-1) dd_Md_stored_36 (by decide) ?_
  exact za_irt B.1 0 0 B.2.1 B.2.2.1 dd_Md_stored_37
theorem zr_Md_stored_38 (B : zs_B p s m args meth c G bb_Md_stored 4 yy_Md_stored (some .int)) : zA_Md_stored p l e s m args below meth c G Q 38 (zb_Md_stored_38 Q) := by
  unfold zb_Md_stored_38
  refine za_ald_n B.1 0 dd_Md_stored_38 rfl ?_
  refine za_gtR B.1 8 14 zi_8 rfl (by decide) (by decide) rfl zW_470 rfl dd_Md_stored_39 ?_
  refine za_bip B.1 40 dd_Md_stored_42 (by decide) ?_
  refine za_ild_n B.1 1 dd_Md_stored_44 rfl ?_
  refine za_mul B.1 dd_Md_stored_45 ?_
  refine za_bip B.1 20 dd_Md_stored_46 (by decide) ?_
  refine za_ild_n B.1 2 dd_Md_stored_48 rfl ?_
  refine za_mul B.1 dd_Md_stored_49 ?_
  refine za_add B.1 dd_Md_stored_50 ?_
  refine za_ild_n B.1 3 dd_Md_stored_51 rfl ?_
  refine za_add B.1 dd_Md_stored_52 ?_
  refine za_iald B.1 dd_Md_stored_53 ?_
  exact za_irt B.1 0 0 B.2.1 B.2.2.1 dd_Md_stored_54
theorem zr_Md_stored_18 (B : zs_B p s m args meth c G bb_Md_stored 4 yy_Md_stored (some .int)) : zA_Md_stored p l e s m args below meth c G Q 18 (zb_Md_stored_18 Q) := by
  unfold zb_Md_stored_18
  refine za_ild_n B.1 3 dd_Md_stored_18 rfl ?_
  refine za_ico B.1 0 dd_Md_stored_19 (by decide) ?_
  refine za_ald_n B.1 0 dd_Md_stored_20 rfl ?_
  refine za_gtR B.1 8 9 zi_8 rfl (by decide) (by decide) rfl zW_465 rfl dd_Md_stored_21 ?_
  refine za_ild_n B.1 2 dd_Md_stored_24 rfl ?_
  refine za_ico B.1 1 dd_Md_stored_25 (by decide) ?_
  refine za_and B.1 dd_Md_stored_26 ?_
  refine za_iald B.1 dd_Md_stored_27 ?_
  refine za_ico B.1 1 dd_Md_stored_28 (by decide) ?_
  refine za_sub B.1 dd_Md_stored_29 ?_
  refine za_cS B.1 3 0 0 0 0 rfl rfl (zm_Md_in l G) ⟨callB_of 3 B.1.1.2.2.2.2 (zs_good zW_497) rfl rfl rfl (B.1.1.2.2.2.2 _ zW_8) (B.1.1.2.2.2.2 _ zW_495) (by decide +kernel) ⟨by decide, by decide⟩, (B.1.1.2.2.2.2 _ zW_496)⟩ dd_Md_stored_30 ?_
  exact za_if_ne B.1 38 dd_Md_stored_33 (by decide) (zr_Md_stored_36 B) (zr_Md_stored_38 B)
theorem zr_Md_stored_9 (B : zs_B p s m args meth c G bb_Md_stored 4 yy_Md_stored (some .int)) : zA_Md_stored p l e s m args below meth c G Q 9 (zb_Md_stored_9 Q) := by
  unfold zb_Md_stored_9
  refine za_ild_n B.1 2 dd_Md_stored_9 rfl ?_
  refine za_ico B.1 0 dd_Md_stored_10 (by decide) ?_
  refine za_ico B.1 1 dd_Md_stored_11 (by decide) ?_
  refine za_cS B.1 3 0 0 0 0 rfl rfl (zm_Md_in l G) ⟨callB_of 3 B.1.1.2.2.2.2 (zs_good zW_497) rfl rfl rfl (B.1.1.2.2.2.2 _ zW_8) (B.1.1.2.2.2.2 _ zW_495) (by decide +kernel) ⟨by decide, by decide⟩, (B.1.1.2.2.2.2 _ zW_496)⟩ dd_Md_stored_12 ?_
  exact za_if_eq B.1 36 dd_Md_stored_15 (by decide) (zr_Md_stored_36 B) (zr_Md_stored_18 B)
theorem zr_Md_stored_0 (B : zs_B p s m args meth c G bb_Md_stored 4 yy_Md_stored (some .int)) : zA_Md_stored p l e s m args below meth c G Q 0 (zb_Md_stored_0 Q) := by
  unfold zb_Md_stored_0
  refine za_ild_n B.1 1 dd_Md_stored_0 rfl ?_
  refine za_ico B.1 0 dd_Md_stored_1 (by decide) ?_
  refine za_ico B.1 2 dd_Md_stored_2 (by decide) ?_
  refine za_cS B.1 3 0 0 0 0 rfl rfl (zm_Md_in l G) ⟨callB_of 3 B.1.1.2.2.2.2 (zs_good zW_497) rfl rfl rfl (B.1.1.2.2.2.2 _ zW_8) (B.1.1.2.2.2.2 _ zW_495) (by decide +kernel) ⟨by decide, by decide⟩, (B.1.1.2.2.2.2 _ zW_496)⟩ dd_Md_stored_3 ?_
  exact za_if_eq B.1 36 dd_Md_stored_6 (by decide) (zr_Md_stored_36 B) (zr_Md_stored_9 B)
end
theorem zm_Md_stored (l : Launch) (G : zs_G) (As : List Value) (σ : zs_S) (Q : zs_Q) (h : zw_Md_stored As σ Q) : zs_Met l yy_Md_stored (Cond.code yy_Md_stored bb_Md_stored 4 (some .int) :: zw_all) zk_Md_stored G As σ Q 0 0 := by
  unfold zw_Md_stored at h
  split at h
  · exact zs_enter (by decide +kernel) h.1 (Nat.le_of_ble_eq_true rfl) h.2 (fun p e s m args below meth c B => zr_Md_stored_0 B)
  · exact h.elim
-- SequencedBatchesLaw.cell([II)I
theorem dd_Lw_cell_0 : decode bb_Lw_cell 0 = .ok (.iload_n 1, 1) := by decide +kernel
theorem dd_Lw_cell_1 : decode bb_Lw_cell 1 = .ok (.aload_n 0, 1) := by decide +kernel
theorem dd_Lw_cell_2 : decode bb_Lw_cell 2 = .ok (.arraylength, 1) := by decide +kernel
theorem dd_Lw_cell_3 : decode bb_Lw_cell 3 = .ok (.if_icmp .ge 9, 3) := by decide +kernel
theorem dd_Lw_cell_6 : decode bb_Lw_cell 6 = .ok (.aload_n 0, 1) := by decide +kernel
theorem dd_Lw_cell_7 : decode bb_Lw_cell 7 = .ok (.iload_n 1, 1) := by decide +kernel
theorem dd_Lw_cell_8 : decode bb_Lw_cell 8 = .ok (.iaload, 1) := by decide +kernel
theorem dd_Lw_cell_9 : decode bb_Lw_cell 9 = .ok (.goto 4, 3) := by decide +kernel
theorem dd_Lw_cell_12 : decode bb_Lw_cell 12 = .ok (.iconst 0, 1) := by decide +kernel
theorem dd_Lw_cell_13 : decode bb_Lw_cell 13 = .ok (.ireturn, 1) := by decide +kernel
def zk_Lw_cell : Room := { frames := 0, cells := 0, slots := 0, locals := 0 }
abbrev zA_Lw_cell (p : Program) (l : Launch) (e : Env) (s : State) (m : MethodId) (args : Array Value) (below : List Frame) (meth : Method) (c : Code) (G : zs_G) (Q : zs_Q) (pc : Nat) (P : zs_P) : Prop := zs_At p l e zk_Lw_cell s m args below meth c (MQ below (zs_Qc G Q) args s 0 0 (fun q => zg_z G ≤ q)) G 2 pc P
def zb_Lw_cell_13 (G : zs_G) (Q : zs_Q) : zs_P := zt_irt 0 0 Q
def zb_Lw_cell_12 (G : zs_G) (Q : zs_Q) : zs_P := zt_psh 0 ((zb_Lw_cell_13 G Q))
def zb_Lw_cell_6 (G : zs_G) (Q : zs_Q) : zs_P := zt_ald 0 (zt_ild 1 (zt_sld G ((zb_Lw_cell_13 G Q))))
def zb_Lw_cell_0 (G : zs_G) (Q : zs_Q) : zs_P := zt_ild 1 (zt_ald 0 (zt_sln G (zt_cmp (fun x y => y ≤ x) (zb_Lw_cell_12 G Q) (zb_Lw_cell_6 G Q))))
def zw_Lw_cell (G : zs_G) : zs_W := fun As σ Q => match As with
  | [a0, a1] => zs_c1 [a0, a1] = true ∧ zb_Lw_cell_0 G Q [some a0, some a1] [] σ 0 0
  | _ => False
section
variable {p : Program} {l : Launch} {e : Env} {s : State} {m : MethodId} {args : Array Value} {below : List Frame} {meth : Method} {c : Code} {G : zs_G} {Q : zs_Q}
theorem zr_Lw_cell_13 (B : zs_B p s m args meth c G bb_Lw_cell 2 yy_Lw_cell (some .int)) : zA_Lw_cell p l e s m args below meth c G Q 13 (zb_Lw_cell_13 G Q) := by
  unfold zb_Lw_cell_13
  exact za_irt B.1 0 0 B.2.1 B.2.2.1 dd_Lw_cell_13
theorem zr_Lw_cell_12 (B : zs_B p s m args meth c G bb_Lw_cell 2 yy_Lw_cell (some .int)) : zA_Lw_cell p l e s m args below meth c G Q 12 (zb_Lw_cell_12 G Q) := by
  unfold zb_Lw_cell_12
  refine za_ico B.1 0 dd_Lw_cell_12 (by decide) ?_
  exact (zr_Lw_cell_13 B)
theorem zr_Lw_cell_6 (B : zs_B p s m args meth c G bb_Lw_cell 2 yy_Lw_cell (some .int)) : zA_Lw_cell p l e s m args below meth c G Q 6 (zb_Lw_cell_6 G Q) := by
  unfold zb_Lw_cell_6
  refine za_ald_n B.1 0 dd_Lw_cell_6 rfl ?_
  refine za_ild_n B.1 1 dd_Lw_cell_7 rfl ?_
  refine za_sld B.1 dd_Lw_cell_8 ?_
  refine za_goto B.1 13 dd_Lw_cell_9 (by decide) ?_
  exact (zr_Lw_cell_13 B)
theorem zr_Lw_cell_0 (B : zs_B p s m args meth c G bb_Lw_cell 2 yy_Lw_cell (some .int)) : zA_Lw_cell p l e s m args below meth c G Q 0 (zb_Lw_cell_0 G Q) := by
  unfold zb_Lw_cell_0
  refine za_ild_n B.1 1 dd_Lw_cell_0 rfl ?_
  refine za_ald_n B.1 0 dd_Lw_cell_1 rfl ?_
  refine za_sln B.1 dd_Lw_cell_2 ?_
  exact za_cmp_ge B.1 12 dd_Lw_cell_3 (by decide) (zr_Lw_cell_12 B) (zr_Lw_cell_6 B)
end
theorem zm_Lw_cell (l : Launch) (G : zs_G) (As : List Value) (σ : zs_S) (Q : zs_Q) (h : zw_Lw_cell G As σ Q) : zs_Met l yy_Lw_cell (Cond.code yy_Lw_cell bb_Lw_cell 2 (some .int) :: zw_all) zk_Lw_cell G As σ Q 0 0 := by
  unfold zw_Lw_cell at h
  split at h
  · exact zs_enter (by decide +kernel) h.1 (Nat.le_of_ble_eq_true rfl) h.2 (fun p e s m args below meth c B => zr_Lw_cell_0 B)
  · exact h.elim
