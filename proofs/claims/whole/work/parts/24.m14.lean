/-! Methods: Md_restart, Md_lay, Md_logged, Md_there, Md_pending, Md_pendings, Md_admit (made by program) -/
-- SequencedBatchesModel.restart(I)Z
theorem dd_Md_restart_0 : decode bb_Md_restart 0 = .ok (.iload_n 1, 1) := by decide +kernel
theorem dd_Md_restart_1 : decode bb_Md_restart 1 = .ok (.iconst 0, 1) := by decide +kernel
theorem dd_Md_restart_2 : decode bb_Md_restart 2 = .ok (.bipush 6, 2) := by decide +kernel
theorem dd_Md_restart_4 : decode bb_Md_restart 4 = .ok (.invokestatic 111, 3) := by decide +kernel
theorem dd_Md_restart_7 : decode bb_Md_restart 7 = .ok (.ifCond .eq 26, 3) := by decide +kernel
theorem dd_Md_restart_10 : decode bb_Md_restart 10 = .ok (.aload_n 0, 1) := by decide +kernel
theorem dd_Md_restart_11 : decode bb_Md_restart 11 = .ok (.getfield 7, 3) := by decide +kernel
theorem dd_Md_restart_14 : decode bb_Md_restart 14 = .ok (.iload_n 1, 1) := by decide +kernel
theorem dd_Md_restart_15 : decode bb_Md_restart 15 = .ok (.ifCond .lt 9, 3) := by decide +kernel
theorem dd_Md_restart_18 : decode bb_Md_restart 18 = .ok (.iload_n 1, 1) := by decide +kernel
theorem dd_Md_restart_19 : decode bb_Md_restart 19 = .ok (.bipush 6, 2) := by decide +kernel
theorem dd_Md_restart_21 : decode bb_Md_restart 21 = .ok (.if_icmp .le 7, 3) := by decide +kernel
theorem dd_Md_restart_24 : decode bb_Md_restart 24 = .ok (.iconst 0, 1) := by decide +kernel
theorem dd_Md_restart_25 : decode bb_Md_restart 25 = .ok (.goto 4, 3) := by decide +kernel
theorem dd_Md_restart_28 : decode bb_Md_restart 28 = .ok (.iload_n 1, 1) := by decide +kernel
theorem dd_Md_restart_29 : decode bb_Md_restart 29 = .ok (.baload, 1) := by decide +kernel
theorem dd_Md_restart_30 : decode bb_Md_restart 30 = .ok (.ifCond .ne 5, 3) := by decide +kernel
theorem dd_Md_restart_33 : decode bb_Md_restart 33 = .ok (.iconst 0, 1) := by decide +kernel
theorem dd_Md_restart_34 : decode bb_Md_restart 34 = .ok (.ireturn, 1) := by decide +kernel
theorem dd_Md_restart_35 : decode bb_Md_restart 35 = .ok (.iload_n 1, 1) := by decide +kernel
theorem dd_Md_restart_36 : decode bb_Md_restart 36 = .ok (.iconst 3, 1) := by decide +kernel
theorem dd_Md_restart_37 : decode bb_Md_restart 37 = .ok (.if_icmp .eq 8, 3) := by decide +kernel
theorem dd_Md_restart_40 : decode bb_Md_restart 40 = .ok (.iload_n 1, 1) := by decide +kernel
theorem dd_Md_restart_41 : decode bb_Md_restart 41 = .ok (.iconst 4, 1) := by decide +kernel
theorem dd_Md_restart_42 : decode bb_Md_restart 42 = .ok (.if_icmp .ne 20, 3) := by decide +kernel
theorem dd_Md_restart_45 : decode bb_Md_restart 45 = .ok (.aload_n 0, 1) := by decide +kernel
theorem dd_Md_restart_46 : decode bb_Md_restart 46 = .ok (.invokevirtual 169, 3) := by decide +kernel
theorem dd_Md_restart_49 : decode bb_Md_restart 49 = .ok (.iconst 2, 1) := by decide +kernel
theorem dd_Md_restart_50 : decode bb_Md_restart 50 = .ok (.if_icmp .lt 10, 3) := by decide +kernel
theorem dd_Md_restart_53 : decode bb_Md_restart 53 = .ok (.aload_n 0, 1) := by decide +kernel
theorem dd_Md_restart_54 : decode bb_Md_restart 54 = .ok (.invokevirtual 161, 3) := by decide +kernel
theorem dd_Md_restart_57 : decode bb_Md_restart 57 = .ok (.ifCond .eq 5, 3) := by decide +kernel
theorem dd_Md_restart_60 : decode bb_Md_restart 60 = .ok (.iconst 0, 1) := by decide +kernel
theorem dd_Md_restart_61 : decode bb_Md_restart 61 = .ok (.ireturn, 1) := by decide +kernel
theorem dd_Md_restart_62 : decode bb_Md_restart 62 = .ok (.aload_n 0, 1) := by decide +kernel
theorem dd_Md_restart_63 : decode bb_Md_restart 63 = .ok (.getfield 7, 3) := by decide +kernel
theorem dd_Md_restart_66 : decode bb_Md_restart 66 = .ok (.iload_n 1, 1) := by decide +kernel
theorem dd_Md_restart_67 : decode bb_Md_restart 67 = .ok (.iconst 0, 1) := by decide +kernel
theorem dd_Md_restart_68 : decode bb_Md_restart 68 = .ok (.bastore, 1) := by decide +kernel
theorem dd_Md_restart_69 : decode bb_Md_restart 69 = .ok (.iload_n 1, 1) := by decide +kernel
theorem dd_Md_restart_70 : decode bb_Md_restart 70 = .ok (.iconst 3, 1) := by decide +kernel
theorem dd_Md_restart_71 : decode bb_Md_restart 71 = .ok (.if_icmp .eq 8, 3) := by decide +kernel
theorem dd_Md_restart_74 : decode bb_Md_restart 74 = .ok (.iload_n 1, 1) := by decide +kernel
theorem dd_Md_restart_75 : decode bb_Md_restart 75 = .ok (.iconst 4, 1) := by decide +kernel
theorem dd_Md_restart_76 : decode bb_Md_restart 76 = .ok (.if_icmp .ne 10, 3) := by decide +kernel
theorem dd_Md_restart_79 : decode bb_Md_restart 79 = .ok (.aload_n 0, 1) := by decide +kernel
theorem dd_Md_restart_80 : decode bb_Md_restart 80 = .ok (.iload_n 1, 1) := by decide +kernel
theorem dd_Md_restart_81 : decode bb_Md_restart 81 = .ok (.iconst 3, 1) := by decide +kernel
theorem dd_Md_restart_82 : decode bb_Md_restart 82 = .ok (.isub, 1) := by decide +kernel
theorem dd_Md_restart_83 : decode bb_Md_restart 83 = .ok (.invokevirtual 173, 3) := by decide +kernel
theorem dd_Md_restart_86 : decode bb_Md_restart 86 = .ok (.iload_n 1, 1) := by decide +kernel
theorem dd_Md_restart_87 : decode bb_Md_restart 87 = .ok (.iconst 5, 1) := by decide +kernel
theorem dd_Md_restart_88 : decode bb_Md_restart 88 = .ok (.if_icmp .lt 10, 3) := by decide +kernel
theorem dd_Md_restart_91 : decode bb_Md_restart 91 = .ok (.aload_n 0, 1) := by decide +kernel
theorem dd_Md_restart_92 : decode bb_Md_restart 92 = .ok (.iload_n 1, 1) := by decide +kernel
theorem dd_Md_restart_93 : decode bb_Md_restart 93 = .ok (.iconst 5, 1) := by decide +kernel
theorem dd_Md_restart_94 : decode bb_Md_restart 94 = .ok (.isub, 1) := by decide +kernel
theorem dd_Md_restart_95 : decode bb_Md_restart 95 = .ok (.invokevirtual 176, 3) := by decide +kernel
theorem dd_Md_restart_98 : decode bb_Md_restart 98 = .ok (.iconst 1, 1) := by decide +kernel
theorem dd_Md_restart_99 : decode bb_Md_restart 99 = .ok (.ireturn, 1) := by decide +kernel
def zk_Md_restart : Room := { frames := 3, cells := 0, slots := 0, locals := 72 }
abbrev zA_Md_restart (p : Program) (l : Launch) (e : Env) (s : State) (m : MethodId) (args : Array Value) (below : List Frame) (meth : Method) (c : Code) (G : zs_G) (Q : zs_Q) (pc : Nat) (P : zs_P) : Prop := zs_At p l e zk_Md_restart s m args below meth c (MQ below (zs_Qc G Q) args s 0 0 (fun q => zg_z G ≤ q)) G 2 pc P
def zb_Md_restart_33 (Q : zs_Q) : zs_P := zt_psh 0 (zt_zrt 0 0 Q)
def zb_Md_restart_60 (Q : zs_Q) : zs_P := zt_psh 0 (zt_zrt 0 0 Q)
def zb_Md_restart_98 (Q : zs_Q) : zs_P := zt_psh 1 (zt_zrt 0 0 Q)
def zb_Md_restart_91 (Q : zs_Q) : zs_P := zt_ald 0 (zt_ild 1 (zt_psh 5 (zt_bin (fun x y => x - y) (zt_cav 8 zw_Md_fresh (1 + 1) 0 0 0 0 ((zb_Md_restart_98 Q))))))
def zb_Md_restart_86 (Q : zs_Q) : zs_P := zt_ild 1 (zt_psh 5 (zt_cmp (fun x y => x < y) (zb_Md_restart_98 Q) (zb_Md_restart_91 Q)))
def zb_Md_restart_79 (Q : zs_Q) : zs_P := zt_ald 0 (zt_ild 1 (zt_psh 3 (zt_bin (fun x y => x - y) (zt_cav 8 zw_Md_again (1 + 1) 0 0 0 0 ((zb_Md_restart_86 Q))))))
def zb_Md_restart_74 (Q : zs_Q) : zs_P := zt_ild 1 (zt_psh 4 (zt_cmp (fun x y => x = y) (zb_Md_restart_79 Q) (zb_Md_restart_86 Q)))
def zb_Md_restart_62 (Q : zs_Q) : zs_P := zt_ald 0 (zt_gtR 8 1 (zt_ild 1 (zt_psh 0 (zt_zas (zt_ild 1 (zt_psh 3 (zt_cmp (fun x y => x = y) (zb_Md_restart_79 Q) (zb_Md_restart_74 Q))))))))
def zb_Md_restart_53 (Q : zs_Q) : zs_P := zt_ald 0 (zt_cav 8 zw_Md_crowded (0 + 1) 0 0 0 0 (zt_if (fun x => x = 0) (zb_Md_restart_62 Q) (zb_Md_restart_60 Q)))
def zb_Md_restart_45 (Q : zs_Q) : zs_P := zt_ald 0 (zt_cav 8 zw_Md_logNodesUp (0 + 1) 0 0 0 0 (zt_psh 2 (zt_cmp (fun x y => x < y) (zb_Md_restart_60 Q) (zb_Md_restart_53 Q))))
def zb_Md_restart_40 (Q : zs_Q) : zs_P := zt_ild 1 (zt_psh 4 (zt_cmp (fun x y => x = y) (zb_Md_restart_45 Q) (zb_Md_restart_62 Q)))
def zb_Md_restart_35 (Q : zs_Q) : zs_P := zt_ild 1 (zt_psh 3 (zt_cmp (fun x y => x = y) (zb_Md_restart_45 Q) (zb_Md_restart_40 Q)))
def zb_Md_restart_29 (Q : zs_Q) : zs_P := zt_xld 101 (zt_if (fun x => x = 0) (zb_Md_restart_33 Q) (zb_Md_restart_35 Q))
def zb_Md_restart_24 (Q : zs_Q) : zs_P := zt_psh 0 ((zb_Md_restart_29 Q))
def zb_Md_restart_28 (Q : zs_Q) : zs_P := zt_ild 1 ((zb_Md_restart_29 Q))
def zb_Md_restart_18 (Q : zs_Q) : zs_P := zt_ild 1 (zt_psh 6 (zt_cmp (fun x y => x ≤ y) (zb_Md_restart_28 Q) (zb_Md_restart_24 Q)))
def zb_Md_restart_10 (Q : zs_Q) : zs_P := zt_ald 0 (zt_gtR 8 1 (zt_ild 1 (zt_if (fun x => x < 0) (zb_Md_restart_24 Q) (zb_Md_restart_18 Q))))
def zb_Md_restart_0 (Q : zs_Q) : zs_P := zt_ild 1 (zt_psh 0 (zt_psh 6 (zt_cal zw_Md_in 3 0 0 0 0 (zt_if (fun x => x = 0) (zb_Md_restart_33 Q) (zb_Md_restart_10 Q)))))
def zw_Md_restart : zs_W := fun As σ Q => match As with
  | [a0, a1] => zs_c1 [a0, a1] = true ∧ zb_Md_restart_0 Q [some a0, some a1] [] σ 0 0
  | _ => False
section
variable {p : Program} {l : Launch} {e : Env} {s : State} {m : MethodId} {args : Array Value} {below : List Frame} {meth : Method} {c : Code} {G : zs_G} {Q : zs_Q}
theorem zr_Md_restart_33 (B : zs_B p s m args meth c G bb_Md_restart 2 yy_Md_restart (some .boolean)) : zA_Md_restart p l e s m args below meth c G Q 33 (zb_Md_restart_33 Q) := by
  unfold zb_Md_restart_33
  refine za_ico B.1 0 dd_Md_restart_33 (by decide) ?_
  exact za_zrt B.1 0 0 B.2.1 B.2.2.1 dd_Md_restart_34
theorem zr_Md_restart_60 (B : zs_B p s m args meth c G bb_Md_restart 2 yy_Md_restart (some .boolean)) : zA_Md_restart p l e s m args below meth c G Q 60 (zb_Md_restart_60 Q) := by
  unfold zb_Md_restart_60
  refine za_ico B.1 0 dd_Md_restart_60 (by decide) ?_
  exact za_zrt B.1 0 0 B.2.1 B.2.2.1 dd_Md_restart_61
theorem zr_Md_restart_98 (B : zs_B p s m args meth c G bb_Md_restart 2 yy_Md_restart (some .boolean)) : zA_Md_restart p l e s m args below meth c G Q 98 (zb_Md_restart_98 Q) := by
  unfold zb_Md_restart_98
  refine za_ico B.1 1 dd_Md_restart_98 (by decide) ?_
  exact za_zrt B.1 0 0 B.2.1 B.2.2.1 dd_Md_restart_99
theorem zr_Md_restart_91 (B : zs_B p s m args meth c G bb_Md_restart 2 yy_Md_restart (some .boolean)) : zA_Md_restart p l e s m args below meth c G Q 91 (zb_Md_restart_91 Q) := by
  unfold zb_Md_restart_91
  refine za_ald_n B.1 0 dd_Md_restart_91 rfl ?_
  refine za_ild_n B.1 1 dd_Md_restart_92 rfl ?_
  refine za_ico B.1 5 dd_Md_restart_93 (by decide) ?_
  refine za_sub B.1 dd_Md_restart_94 ?_
  refine za_cV B.1 8 1 0 0 0 0 rfl rfl rfl (by decide) (zm_Md_fresh l G) ⟨callB_of 1 B.1.1.2.2.2.2 (zs_good zW_596) rfl rfl rfl (B.1.1.2.2.2.2 _ zW_8) (B.1.1.2.2.2.2 _ zW_594) (by decide +kernel) ⟨by decide, by decide⟩, (B.1.1.2.2.2.2 _ zW_595), (B.1.1.2.2.2.2 _ zW_693)⟩ dd_Md_restart_95 ?_
  exact (zr_Md_restart_98 B)
theorem zr_Md_restart_86 (B : zs_B p s m args meth c G bb_Md_restart 2 yy_Md_restart (some .boolean)) : zA_Md_restart p l e s m args below meth c G Q 86 (zb_Md_restart_86 Q) := by
  unfold zb_Md_restart_86
  refine za_ild_n B.1 1 dd_Md_restart_86 rfl ?_
  refine za_ico B.1 5 dd_Md_restart_87 (by decide) ?_
  exact za_cmp_lt B.1 98 dd_Md_restart_88 (by decide) (zr_Md_restart_98 B) (zr_Md_restart_91 B)
theorem zr_Md_restart_79 (B : zs_B p s m args meth c G bb_Md_restart 2 yy_Md_restart (some .boolean)) : zA_Md_restart p l e s m args below meth c G Q 79 (zb_Md_restart_79 Q) := by
  unfold zb_Md_restart_79
  refine za_ald_n B.1 0 dd_Md_restart_79 rfl ?_
  refine za_ild_n B.1 1 dd_Md_restart_80 rfl ?_
  refine za_ico B.1 3 dd_Md_restart_81 (by decide) ?_
  refine za_sub B.1 dd_Md_restart_82 ?_
  refine za_cV B.1 8 1 0 0 0 0 rfl rfl rfl (by decide) (zm_Md_again l G) ⟨callB_of 1 B.1.1.2.2.2.2 (zs_good zW_593) rfl rfl rfl (B.1.1.2.2.2.2 _ zW_8) (B.1.1.2.2.2.2 _ zW_591) (by decide +kernel) ⟨by decide, by decide⟩, (B.1.1.2.2.2.2 _ zW_592), (B.1.1.2.2.2.2 _ zW_692)⟩ dd_Md_restart_83 ?_
  exact (zr_Md_restart_86 B)
theorem zr_Md_restart_74 (B : zs_B p s m args meth c G bb_Md_restart 2 yy_Md_restart (some .boolean)) : zA_Md_restart p l e s m args below meth c G Q 74 (zb_Md_restart_74 Q) := by
  unfold zb_Md_restart_74
  refine za_ild_n B.1 1 dd_Md_restart_74 rfl ?_
  refine za_ico B.1 4 dd_Md_restart_75 (by decide) ?_
  exact za_cmp_ne B.1 86 dd_Md_restart_76 (by decide) (zr_Md_restart_79 B) (zr_Md_restart_86 B)
theorem zr_Md_restart_62 (B : zs_B p s m args meth c G bb_Md_restart 2 yy_Md_restart (some .boolean)) : zA_Md_restart p l e s m args below meth c G Q 62 (zb_Md_restart_62 Q) := by
  unfold zb_Md_restart_62
  refine za_ald_n B.1 0 dd_Md_restart_62 rfl ?_
  refine za_gtR B.1 8 1 zi_8 rfl (by decide) (by decide) rfl zW_457 rfl dd_Md_restart_63 ?_
  refine za_ild_n B.1 1 dd_Md_restart_66 rfl ?_
  refine za_ico B.1 0 dd_Md_restart_67 (by decide) ?_
  refine za_zast B.1 dd_Md_restart_68 ?_
  refine za_ild_n B.1 1 dd_Md_restart_69 rfl ?_
  refine za_ico B.1 3 dd_Md_restart_70 (by decide) ?_
  exact za_cmp_eq B.1 79 dd_Md_restart_71 (by decide) (zr_Md_restart_79 B) (zr_Md_restart_74 B)
theorem zr_Md_restart_53 (B : zs_B p s m args meth c G bb_Md_restart 2 yy_Md_restart (some .boolean)) : zA_Md_restart p l e s m args below meth c G Q 53 (zb_Md_restart_53 Q) := by
  unfold zb_Md_restart_53
  refine za_ald_n B.1 0 dd_Md_restart_53 rfl ?_
  refine za_cV B.1 8 0 0 0 0 0 rfl rfl rfl (by decide) (zm_Md_crowded l G) ⟨callB_of 0 B.1.1.2.2.2.2 (zs_good zW_572) rfl rfl rfl (B.1.1.2.2.2.2 _ zW_8) (B.1.1.2.2.2.2 _ zW_570) (by decide +kernel) ⟨by decide, by decide⟩, (B.1.1.2.2.2.2 _ zW_571), (B.1.1.2.2.2.2 _ zW_689)⟩ dd_Md_restart_54 ?_
  exact za_if_eq B.1 62 dd_Md_restart_57 (by decide) (zr_Md_restart_62 B) (zr_Md_restart_60 B)
theorem zr_Md_restart_45 (B : zs_B p s m args meth c G bb_Md_restart 2 yy_Md_restart (some .boolean)) : zA_Md_restart p l e s m args below meth c G Q 45 (zb_Md_restart_45 Q) := by
  unfold zb_Md_restart_45
  refine za_ald_n B.1 0 dd_Md_restart_45 rfl ?_
  refine za_cV B.1 8 0 0 0 0 0 rfl rfl rfl (by decide) (zm_Md_logNodesUp l G) ⟨callB_of 0 B.1.1.2.2.2.2 (zs_good zW_590) rfl rfl rfl (B.1.1.2.2.2.2 _ zW_8) (B.1.1.2.2.2.2 _ zW_588) (by decide +kernel) ⟨by decide, by decide⟩, (B.1.1.2.2.2.2 _ zW_589), (B.1.1.2.2.2.2 _ zW_691)⟩ dd_Md_restart_46 ?_
  refine za_ico B.1 2 dd_Md_restart_49 (by decide) ?_
  exact za_cmp_lt B.1 60 dd_Md_restart_50 (by decide) (zr_Md_restart_60 B) (zr_Md_restart_53 B)
theorem zr_Md_restart_40 (B : zs_B p s m args meth c G bb_Md_restart 2 yy_Md_restart (some .boolean)) : zA_Md_restart p l e s m args below meth c G Q 40 (zb_Md_restart_40 Q) := by
  unfold zb_Md_restart_40
  refine za_ild_n B.1 1 dd_Md_restart_40 rfl ?_
  refine za_ico B.1 4 dd_Md_restart_41 (by decide) ?_
  exact za_cmp_ne B.1 62 dd_Md_restart_42 (by decide) (zr_Md_restart_45 B) (zr_Md_restart_62 B)
theorem zr_Md_restart_35 (B : zs_B p s m args meth c G bb_Md_restart 2 yy_Md_restart (some .boolean)) : zA_Md_restart p l e s m args below meth c G Q 35 (zb_Md_restart_35 Q) := by
  unfold zb_Md_restart_35
  refine za_ild_n B.1 1 dd_Md_restart_35 rfl ?_
  refine za_ico B.1 3 dd_Md_restart_36 (by decide) ?_
  exact za_cmp_eq B.1 45 dd_Md_restart_37 (by decide) (zr_Md_restart_45 B) (zr_Md_restart_40 B)
theorem zr_Md_restart_29 (B : zs_B p s m args meth c G bb_Md_restart 2 yy_Md_restart (some .boolean)) : zA_Md_restart p l e s m args below meth c G Q 29 (zb_Md_restart_29 Q) := by
  unfold zb_Md_restart_29
  refine za_zald B.1 dd_Md_restart_29 ?_
  exact za_if_ne B.1 35 dd_Md_restart_30 (by decide) (zr_Md_restart_33 B) (zr_Md_restart_35 B)
theorem zr_Md_restart_24 (B : zs_B p s m args meth c G bb_Md_restart 2 yy_Md_restart (some .boolean)) : zA_Md_restart p l e s m args below meth c G Q 24 (zb_Md_restart_24 Q) := by
  unfold zb_Md_restart_24
  refine za_ico B.1 0 dd_Md_restart_24 (by decide) ?_
  refine za_goto B.1 29 dd_Md_restart_25 (by decide) ?_
  exact (zr_Md_restart_29 B)
theorem zr_Md_restart_28 (B : zs_B p s m args meth c G bb_Md_restart 2 yy_Md_restart (some .boolean)) : zA_Md_restart p l e s m args below meth c G Q 28 (zb_Md_restart_28 Q) := by
  unfold zb_Md_restart_28
  refine za_ild_n B.1 1 dd_Md_restart_28 rfl ?_
  exact (zr_Md_restart_29 B)
theorem zr_Md_restart_18 (B : zs_B p s m args meth c G bb_Md_restart 2 yy_Md_restart (some .boolean)) : zA_Md_restart p l e s m args below meth c G Q 18 (zb_Md_restart_18 Q) := by
  unfold zb_Md_restart_18
  refine za_ild_n B.1 1 dd_Md_restart_18 rfl ?_
  refine za_bip B.1 6 dd_Md_restart_19 (by decide) ?_
  exact za_cmp_le B.1 28 dd_Md_restart_21 (by decide) (zr_Md_restart_28 B) (zr_Md_restart_24 B)
theorem zr_Md_restart_10 (B : zs_B p s m args meth c G bb_Md_restart 2 yy_Md_restart (some .boolean)) : zA_Md_restart p l e s m args below meth c G Q 10 (zb_Md_restart_10 Q) := by
  unfold zb_Md_restart_10
  refine za_ald_n B.1 0 dd_Md_restart_10 rfl ?_
  refine za_gtR B.1 8 1 zi_8 rfl (by decide) (by decide) rfl zW_457 rfl dd_Md_restart_11 ?_
  refine za_ild_n B.1 1 dd_Md_restart_14 rfl ?_
  exact za_if_lt B.1 24 dd_Md_restart_15 (by decide) (zr_Md_restart_24 B) (zr_Md_restart_18 B)
theorem zr_Md_restart_0 (B : zs_B p s m args meth c G bb_Md_restart 2 yy_Md_restart (some .boolean)) : zA_Md_restart p l e s m args below meth c G Q 0 (zb_Md_restart_0 Q) := by
  unfold zb_Md_restart_0
  refine za_ild_n B.1 1 dd_Md_restart_0 rfl ?_
  refine za_ico B.1 0 dd_Md_restart_1 (by decide) ?_
  refine za_bip B.1 6 dd_Md_restart_2 (by decide) ?_
  refine za_cS B.1 3 0 0 0 0 rfl rfl (zm_Md_in l G) ⟨callB_of 3 B.1.1.2.2.2.2 (zs_good zW_497) rfl rfl rfl (B.1.1.2.2.2.2 _ zW_8) (B.1.1.2.2.2.2 _ zW_495) (by decide +kernel) ⟨by decide, by decide⟩, (B.1.1.2.2.2.2 _ zW_496)⟩ dd_Md_restart_4 ?_
  exact za_if_eq B.1 33 dd_Md_restart_7 (by decide) (zr_Md_restart_33 B) (zr_Md_restart_10 B)
end
theorem zm_Md_restart (l : Launch) (G : zs_G) (As : List Value) (σ : zs_S) (Q : zs_Q) (h : zw_Md_restart As σ Q) : zs_Met l yy_Md_restart (Cond.code yy_Md_restart bb_Md_restart 2 (some .boolean) :: zw_all) zk_Md_restart G As σ Q 0 0 := by
  unfold zw_Md_restart at h
  split at h
  · exact zs_enter (by decide +kernel) h.1 (Nat.le_of_ble_eq_true rfl) h.2 (fun p e s m args below meth c B => zr_Md_restart_0 B)
  · exact h.elim
-- SequencedBatchesModel.lay(I)V
theorem dd_Md_lay_0 : decode bb_Md_lay 0 = .ok (.aload_n 0, 1) := by decide +kernel
theorem dd_Md_lay_1 : decode bb_Md_lay 1 = .ok (.iconst 0, 1) := by decide +kernel
theorem dd_Md_lay_2 : decode bb_Md_lay 2 = .ok (.putfield 179, 3) := by decide +kernel
theorem dd_Md_lay_5 : decode bb_Md_lay 5 = .ok (.iconst 1, 1) := by decide +kernel
theorem dd_Md_lay_6 : decode bb_Md_lay 6 = .ok (.istore_n 2, 1) := by decide +kernel
theorem dd_Md_lay_7 : decode bb_Md_lay 7 = .ok (.iconst 0, 1) := by decide +kernel
theorem dd_Md_lay_8 : decode bb_Md_lay 8 = .ok (.istore_n 3, 1) := by decide +kernel
theorem dd_Md_lay_9 : decode bb_Md_lay 9 = .ok (.iload_n 3, 1) := by decide +kernel
theorem dd_Md_lay_10 : decode bb_Md_lay 10 = .ok (.bipush 40, 2) := by decide +kernel
theorem dd_Md_lay_12 : decode bb_Md_lay 12 = .ok (.if_icmp .ge 118, 3) := by decide +kernel
theorem dd_Md_lay_15 : decode bb_Md_lay 15 = .ok (.iload_n 2, 1) := by decide +kernel
theorem dd_Md_lay_16 : decode bb_Md_lay 16 = .ok (.ifCond .eq 114, 3) := by decide +kernel
theorem dd_Md_lay_19 : decode bb_Md_lay 19 = .ok (.bipush 20, 2) := by decide +kernel
theorem dd_Md_lay_21 : decode bb_Md_lay 21 = .ok (.iload_n 3, 1) := by decide +kernel
theorem dd_Md_lay_22 : decode bb_Md_lay 22 = .ok (.iconst 2, 1) := by decide +kernel
theorem dd_Md_lay_23 : decode bb_Md_lay 23 = .ok (.irem, 1) := by decide +kernel
theorem dd_Md_lay_24 : decode bb_Md_lay 24 = .ok (.imul, 1) := by decide +kernel
theorem dd_Md_lay_25 : decode bb_Md_lay 25 = .ok (.iload_n 3, 1) := by decide +kernel
theorem dd_Md_lay_26 : decode bb_Md_lay 26 = .ok (.iconst 2, 1) := by decide +kernel
theorem dd_Md_lay_27 : decode bb_Md_lay 27 = .ok (.idiv, 1) := by decide +kernel
theorem dd_Md_lay_28 : decode bb_Md_lay 28 = .ok (.iadd, 1) := by decide +kernel
theorem dd_Md_lay_29 : decode bb_Md_lay 29 = .ok (.istore 4, 2) := by decide +kernel
theorem dd_Md_lay_31 : decode bb_Md_lay 31 = .ok (.aload_n 0, 1) := by decide +kernel
theorem dd_Md_lay_32 : decode bb_Md_lay 32 = .ok (.getfield 68, 3) := by decide +kernel
theorem dd_Md_lay_35 : decode bb_Md_lay 35 = .ok (.bipush 40, 2) := by decide +kernel
theorem dd_Md_lay_37 : decode bb_Md_lay 37 = .ok (.iload_n 1, 1) := by decide +kernel
theorem dd_Md_lay_38 : decode bb_Md_lay 38 = .ok (.imul, 1) := by decide +kernel
theorem dd_Md_lay_39 : decode bb_Md_lay 39 = .ok (.iload 4, 2) := by decide +kernel
theorem dd_Md_lay_41 : decode bb_Md_lay 41 = .ok (.iadd, 1) := by decide +kernel
theorem dd_Md_lay_42 : decode bb_Md_lay 42 = .ok (.baload, 1) := by decide +kernel
theorem dd_Md_lay_43 : decode bb_Md_lay 43 = .ok (.istore_n 2, 1) := by decide +kernel
theorem dd_Md_lay_44 : decode bb_Md_lay 44 = .ok (.iconst 0, 1) := by decide +kernel
theorem dd_Md_lay_45 : decode bb_Md_lay 45 = .ok (.istore 5, 2) := by decide +kernel
theorem dd_Md_lay_47 : decode bb_Md_lay 47 = .ok (.iload 5, 2) := by decide +kernel
theorem dd_Md_lay_49 : decode bb_Md_lay 49 = .ok (.aload_n 0, 1) := by decide +kernel
theorem dd_Md_lay_50 : decode bb_Md_lay 50 = .ok (.getfield 130, 3) := by decide +kernel
theorem dd_Md_lay_53 : decode bb_Md_lay 53 = .ok (.if_icmp .ge 71, 3) := by decide +kernel
theorem dd_Md_lay_56 : decode bb_Md_lay 56 = .ok (.iload_n 2, 1) := by decide +kernel
theorem dd_Md_lay_57 : decode bb_Md_lay 57 = .ok (.ifCond .eq 67, 3) := by decide +kernel
theorem dd_Md_lay_60 : decode bb_Md_lay 60 = .ok (.aload_n 0, 1) := by decide +kernel
theorem dd_Md_lay_61 : decode bb_Md_lay 61 = .ok (.getfield 41, 3) := by decide +kernel
theorem dd_Md_lay_64 : decode bb_Md_lay 64 = .ok (.iload 4, 2) := by decide +kernel
theorem dd_Md_lay_66 : decode bb_Md_lay 66 = .ok (.iaload, 1) := by decide +kernel
theorem dd_Md_lay_67 : decode bb_Md_lay 67 = .ok (.iconst 1, 1) := by decide +kernel
theorem dd_Md_lay_68 : decode bb_Md_lay 68 = .ok (.if_icmp .ne 56, 3) := by decide +kernel
theorem dd_Md_lay_71 : decode bb_Md_lay 71 = .ok (.aload_n 0, 1) := by decide +kernel
theorem dd_Md_lay_72 : decode bb_Md_lay 72 = .ok (.getfield 29, 3) := by decide +kernel
theorem dd_Md_lay_75 : decode bb_Md_lay 75 = .ok (.iload 5, 2) := by decide +kernel
theorem dd_Md_lay_77 : decode bb_Md_lay 77 = .ok (.iaload, 1) := by decide +kernel
theorem dd_Md_lay_78 : decode bb_Md_lay 78 = .ok (.iload_n 3, 1) := by decide +kernel
theorem dd_Md_lay_79 : decode bb_Md_lay 79 = .ok (.iconst 2, 1) := by decide +kernel
theorem dd_Md_lay_80 : decode bb_Md_lay 80 = .ok (.idiv, 1) := by decide +kernel
theorem dd_Md_lay_81 : decode bb_Md_lay 81 = .ok (.if_icmp .ne 37, 3) := by decide +kernel
theorem dd_Md_lay_84 : decode bb_Md_lay 84 = .ok (.aload_n 0, 1) := by decide +kernel
theorem dd_Md_lay_85 : decode bb_Md_lay 85 = .ok (.getfield 26, 3) := by decide +kernel
theorem dd_Md_lay_88 : decode bb_Md_lay 88 = .ok (.iload 5, 2) := by decide +kernel
theorem dd_Md_lay_90 : decode bb_Md_lay 90 = .ok (.iaload, 1) := by decide +kernel
theorem dd_Md_lay_91 : decode bb_Md_lay 91 = .ok (.iload_n 3, 1) := by decide +kernel
theorem dd_Md_lay_92 : decode bb_Md_lay 92 = .ok (.iconst 2, 1) := by decide +kernel
theorem dd_Md_lay_93 : decode bb_Md_lay 93 = .ok (.irem, 1) := by decide +kernel
theorem dd_Md_lay_94 : decode bb_Md_lay 94 = .ok (.if_icmp .ne 24, 3) := by decide +kernel
theorem dd_Md_lay_97 : decode bb_Md_lay 97 = .ok (.aload_n 0, 1) := by decide +kernel
theorem dd_Md_lay_98 : decode bb_Md_lay 98 = .ok (.getfield 101, 3) := by decide +kernel
theorem dd_Md_lay_101 : decode bb_Md_lay 101 = .ok (.aload_n 0, 1) := by decide +kernel
theorem dd_Md_lay_102 : decode bb_Md_lay 102 = .ok (.getfield 179, 3) := by decide +kernel
theorem dd_Md_lay_105 : decode bb_Md_lay 105 = .ok (.iload 5, 2) := by decide +kernel
theorem dd_Md_lay_107 : decode bb_Md_lay 107 = .ok (.iastore, 1) := by decide +kernel
theorem dd_Md_lay_108 : decode bb_Md_lay 108 = .ok (.aload_n 0, 1) := by decide +kernel
theorem dd_Md_lay_109 : decode bb_Md_lay 109 = .ok (.dup, 1) := by decide +kernel
theorem dd_Md_lay_110 : decode bb_Md_lay 110 = .ok (.getfield 179, 3) := by decide +kernel
theorem dd_Md_lay_113 : decode bb_Md_lay 113 = .ok (.iconst 1, 1) := by decide +kernel
theorem dd_Md_lay_114 : decode bb_Md_lay 114 = .ok (.iadd, 1) := by decide +kernel
theorem dd_Md_lay_115 : decode bb_Md_lay 115 = .ok (.putfield 179, 3) := by decide +kernel
theorem dd_Md_lay_118 : decode bb_Md_lay 118 = .ok (.iinc 5 1, 3) := by decide +kernel
theorem dd_Md_lay_121 : decode bb_Md_lay 121 = .ok (.goto (-74), 3) := by decide +kernel
theorem dd_Md_lay_124 : decode bb_Md_lay 124 = .ok (.iinc 3 1, 3) := by decide +kernel
theorem dd_Md_lay_127 : decode bb_Md_lay 127 = .ok (.goto (-118), 3) := by decide +kernel
theorem dd_Md_lay_130 : decode bb_Md_lay 130 = .ok (.return_, 1) := by decide +kernel
def zk_Md_lay : Room := { frames := 0, cells := 0, slots := 0, locals := 0 }
abbrev zA_Md_lay (p : Program) (l : Launch) (e : Env) (s : State) (m : MethodId) (args : Array Value) (below : List Frame) (meth : Method) (c : Code) (G : zs_G) (Q : zs_Q) (pc : Nat) (P : zs_P) : Prop := zs_At p l e zk_Md_lay s m args below meth c (MQ below (zs_Qc G Q) args s 0 0 (fun q => zg_z G ≤ q)) G 6 pc P
def zb_Md_lay_130 (Q : zs_Q) : zs_P := zt_vrt 0 0 Q
def zb_Md_lay_124 (Q : zs_Q) (K9 : zs_P) : zs_P := zt_inc 3 1 (K9)
def zb_Md_lay_118 (Q : zs_Q) (K9 : zs_P) (K47 : zs_P) : zs_P := zt_inc 5 1 (K47)
def zb_Md_lay_97 (Q : zs_Q) (K9 : zs_P) (K47 : zs_P) : zs_P := zt_ald 0 (zt_gtR 8 33 (zt_ald 0 (zt_gtI 8 34 (zt_ild 5 (zt_ias (zt_ald 0 (zt_dup (zt_gtI 8 34 (zt_psh 1 (zt_bin (fun x y => x + y) (zt_ptI 8 34 ((zb_Md_lay_118 Q K9 K47)))))))))))))
def zb_Md_lay_84 (Q : zs_Q) (K9 : zs_P) (K47 : zs_P) : zs_P := zt_ald 0 (zt_gtR 8 7 (zt_ild 5 (zt_xld 100 (zt_ild 3 (zt_psh 2 (zt_div (fun x y => x - x / y * y) (zt_cmp (fun x y => x = y) (zb_Md_lay_97 Q K9 K47) (zb_Md_lay_118 Q K9 K47))))))))
def zb_Md_lay_71 (Q : zs_Q) (K9 : zs_P) (K47 : zs_P) : zs_P := zt_ald 0 (zt_gtR 8 8 (zt_ild 5 (zt_xld 100 (zt_ild 3 (zt_psh 2 (zt_div (fun x y => x / y) (zt_cmp (fun x y => x = y) (zb_Md_lay_84 Q K9 K47) (zb_Md_lay_118 Q K9 K47))))))))
def zb_Md_lay_60 (Q : zs_Q) (K9 : zs_P) (K47 : zs_P) : zs_P := zt_ald 0 (zt_gtR 8 12 (zt_ild 4 (zt_xld 100 (zt_psh 1 (zt_cmp (fun x y => x = y) (zb_Md_lay_71 Q K9 K47) (zb_Md_lay_124 Q K9))))))
def zb_Md_lay_56 (Q : zs_Q) (K9 : zs_P) (K47 : zs_P) : zs_P := zt_ild 2 (zt_if (fun x => x = 0) (zb_Md_lay_124 Q K9) (zb_Md_lay_60 Q K9 K47))
def zb_Md_lay_47 (Q : zs_Q) (K9 : zs_P) (K47 : zs_P) : zs_P := zt_ild 5 (zt_ald 0 (zt_gtI 8 2 (zt_cmp (fun x y => y ≤ x) (zb_Md_lay_124 Q K9) (zb_Md_lay_56 Q K9 K47))))
def zl_Md_lay_47 (Q : zs_Q) (K9 : zs_P) : zs_P := zt_ex (zb_Md_lay_47 Q K9)
def zb_Md_lay_19 (Q : zs_Q) (K9 : zs_P) : zs_P := zt_psh 20 (zt_ild 3 (zt_psh 2 (zt_div (fun x y => x - x / y * y) (zt_bin (fun x y => x * y) (zt_ild 3 (zt_psh 2 (zt_div (fun x y => x / y) (zt_bin (fun x y => x + y) (zt_ist 4 (zt_ald 0 (zt_gtR 8 22 (zt_psh 40 (zt_ild 1 (zt_bin (fun x y => x * y) (zt_ild 4 (zt_bin (fun x y => x + y) (zt_xld 101 (zt_ist 2 (zt_psh 0 (zt_ist 5 ((zl_Md_lay_47 Q K9))))))))))))))))))))))
def zb_Md_lay_15 (Q : zs_Q) (K9 : zs_P) : zs_P := zt_ild 2 (zt_if (fun x => x = 0) (zb_Md_lay_130 Q) (zb_Md_lay_19 Q K9))
def zb_Md_lay_9 (Q : zs_Q) (K9 : zs_P) : zs_P := zt_ild 3 (zt_psh 40 (zt_cmp (fun x y => y ≤ x) (zb_Md_lay_130 Q) (zb_Md_lay_15 Q K9)))
def zl_Md_lay_9 (Q : zs_Q) : zs_P := zt_ex (zb_Md_lay_9 Q)
def zb_Md_lay_0 (Q : zs_Q) : zs_P := zt_ald 0 (zt_psh 0 (zt_ptI 8 34 (zt_psh 1 (zt_ist 2 (zt_psh 0 (zt_ist 3 ((zl_Md_lay_9 Q))))))))
def zw_Md_lay : zs_W := fun As σ Q => match As with
  | [a0, a1] => zs_c1 [a0, a1] = true ∧ zb_Md_lay_0 Q [some a0, some a1, none, none, none, none] [] σ 0 0
  | _ => False
section
variable {p : Program} {l : Launch} {e : Env} {s : State} {m : MethodId} {args : Array Value} {below : List Frame} {meth : Method} {c : Code} {G : zs_G} {Q : zs_Q}
theorem zr_Md_lay_130 (B : zs_B p s m args meth c G bb_Md_lay 6 yy_Md_lay none) : zA_Md_lay p l e s m args below meth c G Q 130 (zb_Md_lay_130 Q) := by
  unfold zb_Md_lay_130
  exact za_vrt B.1 0 0 B.2.1 B.2.2.1 dd_Md_lay_130
theorem zr_Md_lay_124 (B : zs_B p s m args meth c G bb_Md_lay 6 yy_Md_lay none) {K9 : zs_P} (h9 : zA_Md_lay p l e s m args below meth c G Q 9 K9) : zA_Md_lay p l e s m args below meth c G Q 124 (zb_Md_lay_124 Q K9) := by
  unfold zb_Md_lay_124
  refine za_inc B.1 1 dd_Md_lay_124 (by decide) (by decide) ?_
  refine za_goto B.1 9 dd_Md_lay_127 (by decide) ?_
  exact h9
theorem zr_Md_lay_118 (B : zs_B p s m args meth c G bb_Md_lay 6 yy_Md_lay none) {K9 : zs_P} (h9 : zA_Md_lay p l e s m args below meth c G Q 9 K9) {K47 : zs_P} (h47 : zA_Md_lay p l e s m args below meth c G Q 47 K47) : zA_Md_lay p l e s m args below meth c G Q 118 (zb_Md_lay_118 Q K9 K47) := by
  unfold zb_Md_lay_118
  refine za_inc B.1 1 dd_Md_lay_118 (by decide) (by decide) ?_
  refine za_goto B.1 47 dd_Md_lay_121 (by decide) ?_
  exact h47
theorem zr_Md_lay_97 (B : zs_B p s m args meth c G bb_Md_lay 6 yy_Md_lay none) {K9 : zs_P} (h9 : zA_Md_lay p l e s m args below meth c G Q 9 K9) {K47 : zs_P} (h47 : zA_Md_lay p l e s m args below meth c G Q 47 K47) : zA_Md_lay p l e s m args below meth c G Q 97 (zb_Md_lay_97 Q K9 K47) := by
  unfold zb_Md_lay_97
  refine za_ald_n B.1 0 dd_Md_lay_97 rfl ?_
  refine za_gtR B.1 8 33 zi_8 rfl (by decide) (by decide) rfl zW_489 rfl dd_Md_lay_98 ?_
  refine za_ald_n B.1 0 dd_Md_lay_101 rfl ?_
  refine za_gtI B.1 8 34 zi_8 rfl (by decide) (by decide) rfl zW_490 rfl dd_Md_lay_102 ?_
  refine za_ild B.1 dd_Md_lay_105 ?_
  refine za_iast B.1 dd_Md_lay_107 ?_
  refine za_ald_n B.1 0 dd_Md_lay_108 rfl ?_
  refine za_dup B.1 dd_Md_lay_109 ?_
  refine za_gtI B.1 8 34 zi_8 rfl (by decide) (by decide) rfl zW_490 rfl dd_Md_lay_110 ?_
  refine za_ico B.1 1 dd_Md_lay_113 (by decide) ?_
  refine za_add B.1 dd_Md_lay_114 ?_
  refine za_ptI B.1 8 34 zi_8 zy_Md zy_Md_ok zn_Md rfl (by decide) (by decide) rfl zW_490 rfl rfl rfl dd_Md_lay_115 ?_
  exact (zr_Md_lay_118 B h9 h47)
theorem zr_Md_lay_84 (B : zs_B p s m args meth c G bb_Md_lay 6 yy_Md_lay none) {K9 : zs_P} (h9 : zA_Md_lay p l e s m args below meth c G Q 9 K9) {K47 : zs_P} (h47 : zA_Md_lay p l e s m args below meth c G Q 47 K47) : zA_Md_lay p l e s m args below meth c G Q 84 (zb_Md_lay_84 Q K9 K47) := by
  unfold zb_Md_lay_84
  refine za_ald_n B.1 0 dd_Md_lay_84 rfl ?_
  refine za_gtR B.1 8 7 zi_8 rfl (by decide) (by decide) rfl zW_463 rfl dd_Md_lay_85 ?_
  refine za_ild B.1 dd_Md_lay_88 ?_
  refine za_iald B.1 dd_Md_lay_90 ?_
  refine za_ild_n B.1 3 dd_Md_lay_91 rfl ?_
  refine za_ico B.1 2 dd_Md_lay_92 (by decide) ?_
  refine za_rem B.1 dd_Md_lay_93 ?_
  exact za_cmp_ne B.1 118 dd_Md_lay_94 (by decide) (zr_Md_lay_97 B h9 h47) (zr_Md_lay_118 B h9 h47)
theorem zr_Md_lay_71 (B : zs_B p s m args meth c G bb_Md_lay 6 yy_Md_lay none) {K9 : zs_P} (h9 : zA_Md_lay p l e s m args below meth c G Q 9 K9) {K47 : zs_P} (h47 : zA_Md_lay p l e s m args below meth c G Q 47 K47) : zA_Md_lay p l e s m args below meth c G Q 71 (zb_Md_lay_71 Q K9 K47) := by
  unfold zb_Md_lay_71
  refine za_ald_n B.1 0 dd_Md_lay_71 rfl ?_
  refine za_gtR B.1 8 8 zi_8 rfl (by decide) (by decide) rfl zW_464 rfl dd_Md_lay_72 ?_
  refine za_ild B.1 dd_Md_lay_75 ?_
  refine za_iald B.1 dd_Md_lay_77 ?_
  refine za_ild_n B.1 3 dd_Md_lay_78 rfl ?_
  refine za_ico B.1 2 dd_Md_lay_79 (by decide) ?_
  refine za_dvd B.1 dd_Md_lay_80 ?_
  exact za_cmp_ne B.1 118 dd_Md_lay_81 (by decide) (zr_Md_lay_84 B h9 h47) (zr_Md_lay_118 B h9 h47)
theorem zr_Md_lay_60 (B : zs_B p s m args meth c G bb_Md_lay 6 yy_Md_lay none) {K9 : zs_P} (h9 : zA_Md_lay p l e s m args below meth c G Q 9 K9) {K47 : zs_P} (h47 : zA_Md_lay p l e s m args below meth c G Q 47 K47) : zA_Md_lay p l e s m args below meth c G Q 60 (zb_Md_lay_60 Q K9 K47) := by
  unfold zb_Md_lay_60
  refine za_ald_n B.1 0 dd_Md_lay_60 rfl ?_
  refine za_gtR B.1 8 12 zi_8 rfl (by decide) (by decide) rfl zW_468 rfl dd_Md_lay_61 ?_
  refine za_ild B.1 dd_Md_lay_64 ?_
  refine za_iald B.1 dd_Md_lay_66 ?_
  refine za_ico B.1 1 dd_Md_lay_67 (by decide) ?_
  exact za_cmp_ne B.1 124 dd_Md_lay_68 (by decide) (zr_Md_lay_71 B h9 h47) (zr_Md_lay_124 B h9)
theorem zr_Md_lay_56 (B : zs_B p s m args meth c G bb_Md_lay 6 yy_Md_lay none) {K9 : zs_P} (h9 : zA_Md_lay p l e s m args below meth c G Q 9 K9) {K47 : zs_P} (h47 : zA_Md_lay p l e s m args below meth c G Q 47 K47) : zA_Md_lay p l e s m args below meth c G Q 56 (zb_Md_lay_56 Q K9 K47) := by
  unfold zb_Md_lay_56
  refine za_ild_n B.1 2 dd_Md_lay_56 rfl ?_
  exact za_if_eq B.1 124 dd_Md_lay_57 (by decide) (zr_Md_lay_124 B h9) (zr_Md_lay_60 B h9 h47)
theorem zr_Md_lay_47 (B : zs_B p s m args meth c G bb_Md_lay 6 yy_Md_lay none) {K9 : zs_P} (h9 : zA_Md_lay p l e s m args below meth c G Q 9 K9) {K47 : zs_P} (h47 : zA_Md_lay p l e s m args below meth c G Q 47 K47) : zA_Md_lay p l e s m args below meth c G Q 47 (zb_Md_lay_47 Q K9 K47) := by
  unfold zb_Md_lay_47
  refine za_ild B.1 dd_Md_lay_47 ?_
  refine za_ald_n B.1 0 dd_Md_lay_49 rfl ?_
  refine za_gtI B.1 8 2 zi_8 rfl (by decide) (by decide) rfl zW_458 rfl dd_Md_lay_50 ?_
  exact za_cmp_ge B.1 124 dd_Md_lay_53 (by decide) (zr_Md_lay_124 B h9) (zr_Md_lay_56 B h9 h47)
theorem zq_Md_lay_47 (B : zs_B p s m args meth c G bb_Md_lay 6 yy_Md_lay none) {K9 : zs_P} (h9 : zA_Md_lay p l e s m args below meth c G Q 9 K9) : zA_Md_lay p l e s m args below meth c G Q 47 (zl_Md_lay_47 Q K9) := za_lop (fun K hK => zr_Md_lay_47 B h9 hK)
theorem zr_Md_lay_19 (B : zs_B p s m args meth c G bb_Md_lay 6 yy_Md_lay none) {K9 : zs_P} (h9 : zA_Md_lay p l e s m args below meth c G Q 9 K9) : zA_Md_lay p l e s m args below meth c G Q 19 (zb_Md_lay_19 Q K9) := by
  unfold zb_Md_lay_19
  refine za_bip B.1 20 dd_Md_lay_19 (by decide) ?_
  refine za_ild_n B.1 3 dd_Md_lay_21 rfl ?_
  refine za_ico B.1 2 dd_Md_lay_22 (by decide) ?_
  refine za_rem B.1 dd_Md_lay_23 ?_
  refine za_mul B.1 dd_Md_lay_24 ?_
  refine za_ild_n B.1 3 dd_Md_lay_25 rfl ?_
  refine za_ico B.1 2 dd_Md_lay_26 (by decide) ?_
  refine za_dvd B.1 dd_Md_lay_27 ?_
  refine za_add B.1 dd_Md_lay_28 ?_
  refine za_ist B.1 dd_Md_lay_29 (by decide) ?_
  refine za_ald_n B.1 0 dd_Md_lay_31 rfl ?_
  refine za_gtR B.1 8 22 zi_8 rfl (by decide) (by decide) rfl zW_478 rfl dd_Md_lay_32 ?_
  refine za_bip B.1 40 dd_Md_lay_35 (by decide) ?_
  refine za_ild_n B.1 1 dd_Md_lay_37 rfl ?_
  refine za_mul B.1 dd_Md_lay_38 ?_
  refine za_ild B.1 dd_Md_lay_39 ?_
  refine za_add B.1 dd_Md_lay_41 ?_
  refine za_zald B.1 dd_Md_lay_42 ?_
  refine za_ist_n B.1 2 dd_Md_lay_43 rfl (by decide) ?_
  refine za_ico B.1 0 dd_Md_lay_44 (by decide) ?_
  refine za_ist B.1 dd_Md_lay_45 (by decide) ?_
  exact (zq_Md_lay_47 B h9)
theorem zr_Md_lay_15 (B : zs_B p s m args meth c G bb_Md_lay 6 yy_Md_lay none) {K9 : zs_P} (h9 : zA_Md_lay p l e s m args below meth c G Q 9 K9) : zA_Md_lay p l e s m args below meth c G Q 15 (zb_Md_lay_15 Q K9) := by
  unfold zb_Md_lay_15
  refine za_ild_n B.1 2 dd_Md_lay_15 rfl ?_
  exact za_if_eq B.1 130 dd_Md_lay_16 (by decide) (zr_Md_lay_130 B) (zr_Md_lay_19 B h9)
theorem zr_Md_lay_9 (B : zs_B p s m args meth c G bb_Md_lay 6 yy_Md_lay none) {K9 : zs_P} (h9 : zA_Md_lay p l e s m args below meth c G Q 9 K9) : zA_Md_lay p l e s m args below meth c G Q 9 (zb_Md_lay_9 Q K9) := by
  unfold zb_Md_lay_9
  refine za_ild_n B.1 3 dd_Md_lay_9 rfl ?_
  refine za_bip B.1 40 dd_Md_lay_10 (by decide) ?_
  exact za_cmp_ge B.1 130 dd_Md_lay_12 (by decide) (zr_Md_lay_130 B) (zr_Md_lay_15 B h9)
theorem zq_Md_lay_9 (B : zs_B p s m args meth c G bb_Md_lay 6 yy_Md_lay none) : zA_Md_lay p l e s m args below meth c G Q 9 (zl_Md_lay_9 Q) := za_lop (fun K hK => zr_Md_lay_9 B hK)
theorem zr_Md_lay_0 (B : zs_B p s m args meth c G bb_Md_lay 6 yy_Md_lay none) : zA_Md_lay p l e s m args below meth c G Q 0 (zb_Md_lay_0 Q) := by
  unfold zb_Md_lay_0
  refine za_ald_n B.1 0 dd_Md_lay_0 rfl ?_
  refine za_ico B.1 0 dd_Md_lay_1 (by decide) ?_
  refine za_ptI B.1 8 34 zi_8 zy_Md zy_Md_ok zn_Md rfl (by decide) (by decide) rfl zW_490 rfl rfl rfl dd_Md_lay_2 ?_
  refine za_ico B.1 1 dd_Md_lay_5 (by decide) ?_
  refine za_ist_n B.1 2 dd_Md_lay_6 rfl (by decide) ?_
  refine za_ico B.1 0 dd_Md_lay_7 (by decide) ?_
  refine za_ist_n B.1 3 dd_Md_lay_8 rfl (by decide) ?_
  exact (zq_Md_lay_9 B)
end
theorem zm_Md_lay (l : Launch) (G : zs_G) (As : List Value) (σ : zs_S) (Q : zs_Q) (h : zw_Md_lay As σ Q) : zs_Met l yy_Md_lay (Cond.code yy_Md_lay bb_Md_lay 6 none :: zw_all) zk_Md_lay G As σ Q 0 0 := by
  unfold zw_Md_lay at h
  split at h
  · exact zs_enter (by decide +kernel) h.1 (Nat.le_of_ble_eq_true rfl) h.2 (fun p e s m args below meth c B => zr_Md_lay_0 B)
  · exact h.elim
-- SequencedBatchesModel.logged(II)I
theorem dd_Md_logged_0 : decode bb_Md_logged 0 = .ok (.iload_n 1, 1) := by decide +kernel
theorem dd_Md_logged_1 : decode bb_Md_logged 1 = .ok (.iconst 0, 1) := by decide +kernel
theorem dd_Md_logged_2 : decode bb_Md_logged 2 = .ok (.iconst 1, 1) := by decide +kernel
theorem dd_Md_logged_3 : decode bb_Md_logged 3 = .ok (.invokestatic 111, 3) := by decide +kernel
theorem dd_Md_logged_6 : decode bb_Md_logged 6 = .ok (.ifCond .ne 5, 3) := by decide +kernel
theorem dd_Md_logged_9 : decode bb_Md_logged 9 = .ok (.iconst (-1), 1) := by decide +kernel
theorem dd_Md_logged_10 : decode bb_Md_logged 10 = .ok (.ireturn, 1) := by decide +kernel
theorem dd_Md_logged_11 : decode bb_Md_logged 11 = .ok (.aload_n 0, 1) := by decide +kernel
theorem dd_Md_logged_12 : decode bb_Md_logged 12 = .ok (.iload_n 1, 1) := by decide +kernel
theorem dd_Md_logged_13 : decode bb_Md_logged 13 = .ok (.invokevirtual 182, 3) := by decide +kernel
theorem dd_Md_logged_16 : decode bb_Md_logged 16 = .ok (.iload_n 2, 1) := by decide +kernel
theorem dd_Md_logged_17 : decode bb_Md_logged 17 = .ok (.iconst 0, 1) := by decide +kernel
theorem dd_Md_logged_18 : decode bb_Md_logged 18 = .ok (.aload_n 0, 1) := by decide +kernel
theorem dd_Md_logged_19 : decode bb_Md_logged 19 = .ok (.getfield 179, 3) := by decide +kernel
theorem dd_Md_logged_22 : decode bb_Md_logged 22 = .ok (.iconst 1, 1) := by decide +kernel
theorem dd_Md_logged_23 : decode bb_Md_logged 23 = .ok (.isub, 1) := by decide +kernel
theorem dd_Md_logged_24 : decode bb_Md_logged 24 = .ok (.invokestatic 111, 3) := by decide +kernel
theorem dd_Md_logged_27 : decode bb_Md_logged 27 = .ok (.ifCond .eq 12, 3) := by decide +kernel
theorem dd_Md_logged_30 : decode bb_Md_logged 30 = .ok (.aload_n 0, 1) := by decide +kernel
theorem dd_Md_logged_31 : decode bb_Md_logged 31 = .ok (.getfield 101, 3) := by decide +kernel
theorem dd_Md_logged_34 : decode bb_Md_logged 34 = .ok (.iload_n 2, 1) := by decide +kernel
theorem dd_Md_logged_35 : decode bb_Md_logged 35 = .ok (.iaload, 1) := by decide +kernel
theorem dd_Md_logged_36 : decode bb_Md_logged 36 = .ok (.goto 4, 3) := by decide +kernel
theorem dd_Md_logged_39 : decode bb_Md_logged 39 = .ok (.iconst (-1), 1) := by decide +kernel
theorem dd_Md_logged_40 : decode bb_Md_logged 40 = .ok (.ireturn, 1) := by decide +kernel
def zk_Md_logged : Room := { frames := 1, cells := 0, slots := 0, locals := 25 }
abbrev zA_Md_logged (p : Program) (l : Launch) (e : Env) (s : State) (m : MethodId) (args : Array Value) (below : List Frame) (meth : Method) (c : Code) (G : zs_G) (Q : zs_Q) (pc : Nat) (P : zs_P) : Prop := zs_At p l e zk_Md_logged s m args below meth c (MQ below (zs_Qc G Q) args s 0 0 (fun q => zg_z G ≤ q)) G 3 pc P
def zb_Md_logged_40 (Q : zs_Q) : zs_P := zt_irt 0 0 Q
def zb_Md_logged_39 (Q : zs_Q) : zs_P := zt_psh (-1) ((zb_Md_logged_40 Q))
def zb_Md_logged_30 (Q : zs_Q) : zs_P := zt_ald 0 (zt_gtR 8 33 (zt_ild 2 (zt_xld 100 ((zb_Md_logged_40 Q)))))
def zb_Md_logged_11 (Q : zs_Q) : zs_P := zt_ald 0 (zt_ild 1 (zt_cav 8 zw_Md_lay (1 + 1) 0 0 0 0 (zt_ild 2 (zt_psh 0 (zt_ald 0 (zt_gtI 8 34 (zt_psh 1 (zt_bin (fun x y => x - y) (zt_cal zw_Md_in 3 0 0 0 0 (zt_if (fun x => x = 0) (zb_Md_logged_39 Q) (zb_Md_logged_30 Q)))))))))))
def zb_Md_logged_9 (Q : zs_Q) : zs_P := zt_psh (-1) (zt_irt 0 0 Q)
def zb_Md_logged_0 (Q : zs_Q) : zs_P := zt_ild 1 (zt_psh 0 (zt_psh 1 (zt_cal zw_Md_in 3 0 0 0 0 (zt_if (fun x => x = 0) (zb_Md_logged_9 Q) (zb_Md_logged_11 Q)))))
def zw_Md_logged : zs_W := fun As σ Q => match As with
  | [a0, a1, a2] => zs_c1 [a0, a1, a2] = true ∧ zb_Md_logged_0 Q [some a0, some a1, some a2] [] σ 0 0
  | _ => False
section
variable {p : Program} {l : Launch} {e : Env} {s : State} {m : MethodId} {args : Array Value} {below : List Frame} {meth : Method} {c : Code} {G : zs_G} {Q : zs_Q}
theorem zr_Md_logged_40 (B : zs_B p s m args meth c G bb_Md_logged 3 yy_Md_logged (some .int)) : zA_Md_logged p l e s m args below meth c G Q 40 (zb_Md_logged_40 Q) := by
  unfold zb_Md_logged_40
  exact za_irt B.1 0 0 B.2.1 B.2.2.1 dd_Md_logged_40
theorem zr_Md_logged_39 (B : zs_B p s m args meth c G bb_Md_logged 3 yy_Md_logged (some .int)) : zA_Md_logged p l e s m args below meth c G Q 39 (zb_Md_logged_39 Q) := by
  unfold zb_Md_logged_39
  refine za_ico B.1 (-1) dd_Md_logged_39 (by decide) ?_
  exact (zr_Md_logged_40 B)
theorem zr_Md_logged_30 (B : zs_B p s m args meth c G bb_Md_logged 3 yy_Md_logged (some .int)) : zA_Md_logged p l e s m args below meth c G Q 30 (zb_Md_logged_30 Q) := by
  unfold zb_Md_logged_30
  refine za_ald_n B.1 0 dd_Md_logged_30 rfl ?_
  refine za_gtR B.1 8 33 zi_8 rfl (by decide) (by decide) rfl zW_489 rfl dd_Md_logged_31 ?_
  refine za_ild_n B.1 2 dd_Md_logged_34 rfl ?_
  refine za_iald B.1 dd_Md_logged_35 ?_
  refine za_goto B.1 40 dd_Md_logged_36 (by decide) ?_
  exact (zr_Md_logged_40 B)
theorem zr_Md_logged_11 (B : zs_B p s m args meth c G bb_Md_logged 3 yy_Md_logged (some .int)) : zA_Md_logged p l e s m args below meth c G Q 11 (zb_Md_logged_11 Q) := by
  unfold zb_Md_logged_11
  refine za_ald_n B.1 0 dd_Md_logged_11 rfl ?_
  refine za_ild_n B.1 1 dd_Md_logged_12 rfl ?_
  refine za_cV B.1 8 1 0 0 0 0 rfl rfl rfl (by decide) (zm_Md_lay l G) ⟨callB_of 1 B.1.1.2.2.2.2 (zs_good zW_603) rfl rfl rfl (B.1.1.2.2.2.2 _ zW_8) (B.1.1.2.2.2.2 _ zW_601) (by decide +kernel) ⟨by decide, by decide⟩, (B.1.1.2.2.2.2 _ zW_602), (B.1.1.2.2.2.2 _ zW_694)⟩ dd_Md_logged_13 ?_
  refine za_ild_n B.1 2 dd_Md_logged_16 rfl ?_
  refine za_ico B.1 0 dd_Md_logged_17 (by decide) ?_
  refine za_ald_n B.1 0 dd_Md_logged_18 rfl ?_
  refine za_gtI B.1 8 34 zi_8 rfl (by decide) (by decide) rfl zW_490 rfl dd_Md_logged_19 ?_
  refine za_ico B.1 1 dd_Md_logged_22 (by decide) ?_
  refine za_sub B.1 dd_Md_logged_23 ?_
  refine za_cS B.1 3 0 0 0 0 rfl rfl (zm_Md_in l G) ⟨callB_of 3 B.1.1.2.2.2.2 (zs_good zW_497) rfl rfl rfl (B.1.1.2.2.2.2 _ zW_8) (B.1.1.2.2.2.2 _ zW_495) (by decide +kernel) ⟨by decide, by decide⟩, (B.1.1.2.2.2.2 _ zW_496)⟩ dd_Md_logged_24 ?_
  exact za_if_eq B.1 39 dd_Md_logged_27 (by decide) (zr_Md_logged_39 B) (zr_Md_logged_30 B)
theorem zr_Md_logged_9 (B : zs_B p s m args meth c G bb_Md_logged 3 yy_Md_logged (some .int)) : zA_Md_logged p l e s m args below meth c G Q 9 (zb_Md_logged_9 Q) := by
  unfold zb_Md_logged_9
  refine za_ico B.1 (-1) dd_Md_logged_9 (by decide) ?_
  exact za_irt B.1 0 0 B.2.1 B.2.2.1 dd_Md_logged_10
theorem zr_Md_logged_0 (B : zs_B p s m args meth c G bb_Md_logged 3 yy_Md_logged (some .int)) : zA_Md_logged p l e s m args below meth c G Q 0 (zb_Md_logged_0 Q) := by
  unfold zb_Md_logged_0
  refine za_ild_n B.1 1 dd_Md_logged_0 rfl ?_
  refine za_ico B.1 0 dd_Md_logged_1 (by decide) ?_
  refine za_ico B.1 1 dd_Md_logged_2 (by decide) ?_
  refine za_cS B.1 3 0 0 0 0 rfl rfl (zm_Md_in l G) ⟨callB_of 3 B.1.1.2.2.2.2 (zs_good zW_497) rfl rfl rfl (B.1.1.2.2.2.2 _ zW_8) (B.1.1.2.2.2.2 _ zW_495) (by decide +kernel) ⟨by decide, by decide⟩, (B.1.1.2.2.2.2 _ zW_496)⟩ dd_Md_logged_3 ?_
  exact za_if_ne B.1 11 dd_Md_logged_6 (by decide) (zr_Md_logged_9 B) (zr_Md_logged_11 B)
end
theorem zm_Md_logged (l : Launch) (G : zs_G) (As : List Value) (σ : zs_S) (Q : zs_Q) (h : zw_Md_logged As σ Q) : zs_Met l yy_Md_logged (Cond.code yy_Md_logged bb_Md_logged 3 (some .int) :: zw_all) zk_Md_logged G As σ Q 0 0 := by
  unfold zw_Md_logged at h
  split at h
  · exact zs_enter (by decide +kernel) h.1 (Nat.le_of_ble_eq_true rfl) h.2 (fun p e s m args below meth c B => zr_Md_logged_0 B)
  · exact h.elim
-- SequencedBatchesModel.there(II)Z
theorem dd_Md_there_0 : decode bb_Md_there 0 = .ok (.iload_n 1, 1) := by decide +kernel
theorem dd_Md_there_1 : decode bb_Md_there 1 = .ok (.iconst 0, 1) := by decide +kernel
theorem dd_Md_there_2 : decode bb_Md_there 2 = .ok (.iconst 1, 1) := by decide +kernel
theorem dd_Md_there_3 : decode bb_Md_there 3 = .ok (.invokestatic 111, 3) := by decide +kernel
theorem dd_Md_there_6 : decode bb_Md_there 6 = .ok (.ifCond .eq 34, 3) := by decide +kernel
theorem dd_Md_there_9 : decode bb_Md_there 9 = .ok (.iload_n 2, 1) := by decide +kernel
theorem dd_Md_there_10 : decode bb_Md_there 10 = .ok (.iconst 0, 1) := by decide +kernel
theorem dd_Md_there_11 : decode bb_Md_there 11 = .ok (.aload_n 0, 1) := by decide +kernel
theorem dd_Md_there_12 : decode bb_Md_there 12 = .ok (.getfield 104, 3) := by decide +kernel
theorem dd_Md_there_15 : decode bb_Md_there 15 = .ok (.iconst 1, 1) := by decide +kernel
theorem dd_Md_there_16 : decode bb_Md_there 16 = .ok (.isub, 1) := by decide +kernel
theorem dd_Md_there_17 : decode bb_Md_there 17 = .ok (.invokestatic 111, 3) := by decide +kernel
theorem dd_Md_there_20 : decode bb_Md_there 20 = .ok (.ifCond .eq 20, 3) := by decide +kernel
theorem dd_Md_there_23 : decode bb_Md_there 23 = .ok (.aload_n 0, 1) := by decide +kernel
theorem dd_Md_there_24 : decode bb_Md_there 24 = .ok (.getfield 7, 3) := by decide +kernel
theorem dd_Md_there_27 : decode bb_Md_there 27 = .ok (.iconst 5, 1) := by decide +kernel
theorem dd_Md_there_28 : decode bb_Md_there 28 = .ok (.iload_n 1, 1) := by decide +kernel
theorem dd_Md_there_29 : decode bb_Md_there 29 = .ok (.iconst 1, 1) := by decide +kernel
theorem dd_Md_there_30 : decode bb_Md_there 30 = .ok (.iand, 1) := by decide +kernel
theorem dd_Md_there_31 : decode bb_Md_there 31 = .ok (.iadd, 1) := by decide +kernel
theorem dd_Md_there_32 : decode bb_Md_there 32 = .ok (.baload, 1) := by decide +kernel
theorem dd_Md_there_33 : decode bb_Md_there 33 = .ok (.ifCond .ne 7, 3) := by decide +kernel
theorem dd_Md_there_36 : decode bb_Md_there 36 = .ok (.iconst 1, 1) := by decide +kernel
theorem dd_Md_there_37 : decode bb_Md_there 37 = .ok (.goto 4, 3) := by decide +kernel
theorem dd_Md_there_40 : decode bb_Md_there 40 = .ok (.iconst 0, 1) := by decide +kernel
theorem dd_Md_there_41 : decode bb_Md_there 41 = .ok (.ireturn, 1) := by decide +kernel
def zk_Md_there : Room := { frames := 1, cells := 0, slots := 0, locals := 22 }
abbrev zA_Md_there (p : Program) (l : Launch) (e : Env) (s : State) (m : MethodId) (args : Array Value) (below : List Frame) (meth : Method) (c : Code) (G : zs_G) (Q : zs_Q) (pc : Nat) (P : zs_P) : Prop := zs_At p l e zk_Md_there s m args below meth c (MQ below (zs_Qc G Q) args s 0 0 (fun q => zg_z G ≤ q)) G 3 pc P
def zb_Md_there_41 (Q : zs_Q) : zs_P := zt_zrt 0 0 Q
def zb_Md_there_40 (Q : zs_Q) : zs_P := zt_psh 0 ((zb_Md_there_41 Q))
def zb_Md_there_36 (Q : zs_Q) : zs_P := zt_psh 1 ((zb_Md_there_41 Q))
def zb_Md_there_23 (Q : zs_Q) : zs_P := zt_ald 0 (zt_gtR 8 1 (zt_psh 5 (zt_ild 1 (zt_psh 1 (zt_bin (fun x y => x &&& y) (zt_bin (fun x y => x + y) (zt_xld 101 (zt_if (fun x => x = 0) (zb_Md_there_36 Q) (zb_Md_there_40 Q)))))))))
def zb_Md_there_9 (Q : zs_Q) : zs_P := zt_ild 2 (zt_psh 0 (zt_ald 0 (zt_gtI 8 0 (zt_psh 1 (zt_bin (fun x y => x - y) (zt_cal zw_Md_in 3 0 0 0 0 (zt_if (fun x => x = 0) (zb_Md_there_40 Q) (zb_Md_there_23 Q))))))))
def zb_Md_there_0 (Q : zs_Q) : zs_P := zt_ild 1 (zt_psh 0 (zt_psh 1 (zt_cal zw_Md_in 3 0 0 0 0 (zt_if (fun x => x = 0) (zb_Md_there_40 Q) (zb_Md_there_9 Q)))))
def zw_Md_there : zs_W := fun As σ Q => match As with
  | [a0, a1, a2] => zs_c1 [a0, a1, a2] = true ∧ zb_Md_there_0 Q [some a0, some a1, some a2] [] σ 0 0
  | _ => False
section
variable {p : Program} {l : Launch} {e : Env} {s : State} {m : MethodId} {args : Array Value} {below : List Frame} {meth : Method} {c : Code} {G : zs_G} {Q : zs_Q}
theorem zr_Md_there_41 (B : zs_B p s m args meth c G bb_Md_there 3 yy_Md_there (some .boolean)) : zA_Md_there p l e s m args below meth c G Q 41 (zb_Md_there_41 Q) := by
  unfold zb_Md_there_41
  exact za_zrt B.1 0 0 B.2.1 B.2.2.1 dd_Md_there_41
theorem zr_Md_there_40 (B : zs_B p s m args meth c G bb_Md_there 3 yy_Md_there (some .boolean)) : zA_Md_there p l e s m args below meth c G Q 40 (zb_Md_there_40 Q) := by
  unfold zb_Md_there_40
  refine za_ico B.1 0 dd_Md_there_40 (by decide) ?_
  exact (zr_Md_there_41 B)
theorem zr_Md_there_36 (B : zs_B p s m args meth c G bb_Md_there 3 yy_Md_there (some .boolean)) : zA_Md_there p l e s m args below meth c G Q 36 (zb_Md_there_36 Q) := by
  unfold zb_Md_there_36
  refine za_ico B.1 1 dd_Md_there_36 (by decide) ?_
  refine za_goto B.1 41 dd_Md_there_37 (by decide) ?_
  exact (zr_Md_there_41 B)
theorem zr_Md_there_23 (B : zs_B p s m args meth c G bb_Md_there 3 yy_Md_there (some .boolean)) : zA_Md_there p l e s m args below meth c G Q 23 (zb_Md_there_23 Q) := by
  unfold zb_Md_there_23
  refine za_ald_n B.1 0 dd_Md_there_23 rfl ?_
  refine za_gtR B.1 8 1 zi_8 rfl (by decide) (by decide) rfl zW_457 rfl dd_Md_there_24 ?_
  refine za_ico B.1 5 dd_Md_there_27 (by decide) ?_
  refine za_ild_n B.1 1 dd_Md_there_28 rfl ?_
  refine za_ico B.1 1 dd_Md_there_29 (by decide) ?_
  refine za_and B.1 dd_Md_there_30 ?_
  refine za_add B.1 dd_Md_there_31 ?_
  refine za_zald B.1 dd_Md_there_32 ?_
  exact za_if_ne B.1 40 dd_Md_there_33 (by decide) (zr_Md_there_36 B) (zr_Md_there_40 B)
theorem zr_Md_there_9 (B : zs_B p s m args meth c G bb_Md_there 3 yy_Md_there (some .boolean)) : zA_Md_there p l e s m args below meth c G Q 9 (zb_Md_there_9 Q) := by
  unfold zb_Md_there_9
  refine za_ild_n B.1 2 dd_Md_there_9 rfl ?_
  refine za_ico B.1 0 dd_Md_there_10 (by decide) ?_
  refine za_ald_n B.1 0 dd_Md_there_11 rfl ?_
  refine za_gtI B.1 8 0 zi_8 rfl (by decide) (by decide) rfl zW_456 rfl dd_Md_there_12 ?_
  refine za_ico B.1 1 dd_Md_there_15 (by decide) ?_
  refine za_sub B.1 dd_Md_there_16 ?_
  refine za_cS B.1 3 0 0 0 0 rfl rfl (zm_Md_in l G) ⟨callB_of 3 B.1.1.2.2.2.2 (zs_good zW_497) rfl rfl rfl (B.1.1.2.2.2.2 _ zW_8) (B.1.1.2.2.2.2 _ zW_495) (by decide +kernel) ⟨by decide, by decide⟩, (B.1.1.2.2.2.2 _ zW_496)⟩ dd_Md_there_17 ?_
  exact za_if_eq B.1 40 dd_Md_there_20 (by decide) (zr_Md_there_40 B) (zr_Md_there_23 B)
theorem zr_Md_there_0 (B : zs_B p s m args meth c G bb_Md_there 3 yy_Md_there (some .boolean)) : zA_Md_there p l e s m args below meth c G Q 0 (zb_Md_there_0 Q) := by
  unfold zb_Md_there_0
  refine za_ild_n B.1 1 dd_Md_there_0 rfl ?_
  refine za_ico B.1 0 dd_Md_there_1 (by decide) ?_
  refine za_ico B.1 1 dd_Md_there_2 (by decide) ?_
  refine za_cS B.1 3 0 0 0 0 rfl rfl (zm_Md_in l G) ⟨callB_of 3 B.1.1.2.2.2.2 (zs_good zW_497) rfl rfl rfl (B.1.1.2.2.2.2 _ zW_8) (B.1.1.2.2.2.2 _ zW_495) (by decide +kernel) ⟨by decide, by decide⟩, (B.1.1.2.2.2.2 _ zW_496)⟩ dd_Md_there_3 ?_
  exact za_if_eq B.1 40 dd_Md_there_6 (by decide) (zr_Md_there_40 B) (zr_Md_there_9 B)
end
theorem zm_Md_there (l : Launch) (G : zs_G) (As : List Value) (σ : zs_S) (Q : zs_Q) (h : zw_Md_there As σ Q) : zs_Met l yy_Md_there (Cond.code yy_Md_there bb_Md_there 3 (some .boolean) :: zw_all) zk_Md_there G As σ Q 0 0 := by
  unfold zw_Md_there at h
  split at h
  · exact zs_enter (by decide +kernel) h.1 (Nat.le_of_ble_eq_true rfl) h.2 (fun p e s m args below meth c B => zr_Md_there_0 B)
  · exact h.elim
-- SequencedBatchesModel.pending(III)Z
theorem dd_Md_pending_0 : decode bb_Md_pending 0 = .ok (.iload_n 3, 1) := by decide +kernel
theorem dd_Md_pending_1 : decode bb_Md_pending 1 = .ok (.aload_n 0, 1) := by decide +kernel
theorem dd_Md_pending_2 : decode bb_Md_pending 2 = .ok (.getfield 179, 3) := by decide +kernel
theorem dd_Md_pending_5 : decode bb_Md_pending 5 = .ok (.if_icmp .ge 27, 3) := by decide +kernel
theorem dd_Md_pending_8 : decode bb_Md_pending 8 = .ok (.aload_n 0, 1) := by decide +kernel
theorem dd_Md_pending_9 : decode bb_Md_pending 9 = .ok (.getfield 89, 3) := by decide +kernel
theorem dd_Md_pending_12 : decode bb_Md_pending 12 = .ok (.aload_n 0, 1) := by decide +kernel
theorem dd_Md_pending_13 : decode bb_Md_pending 13 = .ok (.iload_n 1, 1) := by decide +kernel
theorem dd_Md_pending_14 : decode bb_Md_pending 14 = .ok (.iload_n 2, 1) := by decide +kernel
theorem dd_Md_pending_15 : decode bb_Md_pending 15 = .ok (.aload_n 0, 1) := by decide +kernel
theorem dd_Md_pending_16 : decode bb_Md_pending 16 = .ok (.getfield 101, 3) := by decide +kernel
theorem dd_Md_pending_19 : decode bb_Md_pending 19 = .ok (.iload_n 3, 1) := by decide +kernel
theorem dd_Md_pending_20 : decode bb_Md_pending 20 = .ok (.iaload, 1) := by decide +kernel
theorem dd_Md_pending_21 : decode bb_Md_pending 21 = .ok (.invokevirtual 185, 3) := by decide +kernel
theorem dd_Md_pending_24 : decode bb_Md_pending 24 = .ok (.baload, 1) := by decide +kernel
theorem dd_Md_pending_25 : decode bb_Md_pending 25 = .ok (.ifCond .ne 7, 3) := by decide +kernel
theorem dd_Md_pending_28 : decode bb_Md_pending 28 = .ok (.iconst 1, 1) := by decide +kernel
theorem dd_Md_pending_29 : decode bb_Md_pending 29 = .ok (.goto 4, 3) := by decide +kernel
theorem dd_Md_pending_32 : decode bb_Md_pending 32 = .ok (.iconst 0, 1) := by decide +kernel
theorem dd_Md_pending_33 : decode bb_Md_pending 33 = .ok (.ireturn, 1) := by decide +kernel
def zk_Md_pending : Room := { frames := 1, cells := 0, slots := 0, locals := 23 }
abbrev zA_Md_pending (p : Program) (l : Launch) (e : Env) (s : State) (m : MethodId) (args : Array Value) (below : List Frame) (meth : Method) (c : Code) (G : zs_G) (Q : zs_Q) (pc : Nat) (P : zs_P) : Prop := zs_At p l e zk_Md_pending s m args below meth c (MQ below (zs_Qc G Q) args s 0 0 (fun q => zg_z G ≤ q)) G 4 pc P
def zb_Md_pending_33 (Q : zs_Q) : zs_P := zt_zrt 0 0 Q
def zb_Md_pending_32 (Q : zs_Q) : zs_P := zt_psh 0 ((zb_Md_pending_33 Q))
def zb_Md_pending_28 (Q : zs_Q) : zs_P := zt_psh 1 ((zb_Md_pending_33 Q))
def zb_Md_pending_8 (Q : zs_Q) : zs_P := zt_ald 0 (zt_gtR 8 29 (zt_ald 0 (zt_ild 1 (zt_ild 2 (zt_ald 0 (zt_gtR 8 33 (zt_ild 3 (zt_xld 100 (zt_cav 8 zw_Md_place (3 + 1) 0 0 0 0 (zt_xld 101 (zt_if (fun x => x = 0) (zb_Md_pending_28 Q) (zb_Md_pending_32 Q))))))))))))
def zb_Md_pending_0 (Q : zs_Q) : zs_P := zt_ild 3 (zt_ald 0 (zt_gtI 8 34 (zt_cmp (fun x y => y ≤ x) (zb_Md_pending_32 Q) (zb_Md_pending_8 Q))))
def zw_Md_pending : zs_W := fun As σ Q => match As with
  | [a0, a1, a2, a3] => zs_c1 [a0, a1, a2, a3] = true ∧ zb_Md_pending_0 Q [some a0, some a1, some a2, some a3] [] σ 0 0
  | _ => False
section
variable {p : Program} {l : Launch} {e : Env} {s : State} {m : MethodId} {args : Array Value} {below : List Frame} {meth : Method} {c : Code} {G : zs_G} {Q : zs_Q}
theorem zr_Md_pending_33 (B : zs_B p s m args meth c G bb_Md_pending 4 yy_Md_pending (some .boolean)) : zA_Md_pending p l e s m args below meth c G Q 33 (zb_Md_pending_33 Q) := by
  unfold zb_Md_pending_33
  exact za_zrt B.1 0 0 B.2.1 B.2.2.1 dd_Md_pending_33
theorem zr_Md_pending_32 (B : zs_B p s m args meth c G bb_Md_pending 4 yy_Md_pending (some .boolean)) : zA_Md_pending p l e s m args below meth c G Q 32 (zb_Md_pending_32 Q) := by
  unfold zb_Md_pending_32
  refine za_ico B.1 0 dd_Md_pending_32 (by decide) ?_
  exact (zr_Md_pending_33 B)
theorem zr_Md_pending_28 (B : zs_B p s m args meth c G bb_Md_pending 4 yy_Md_pending (some .boolean)) : zA_Md_pending p l e s m args below meth c G Q 28 (zb_Md_pending_28 Q) := by
  unfold zb_Md_pending_28
  refine za_ico B.1 1 dd_Md_pending_28 (by decide) ?_
  refine za_goto B.1 33 dd_Md_pending_29 (by decide) ?_
  exact (zr_Md_pending_33 B)
theorem zr_Md_pending_8 (B : zs_B p s m args meth c G bb_Md_pending 4 yy_Md_pending (some .boolean)) : zA_Md_pending p l e s m args below meth c G Q 8 (zb_Md_pending_8 Q) := by
  unfold zb_Md_pending_8
  refine za_ald_n B.1 0 dd_Md_pending_8 rfl ?_
  refine za_gtR B.1 8 29 zi_8 rfl (by decide) (by decide) rfl zW_485 rfl dd_Md_pending_9 ?_
  refine za_ald_n B.1 0 dd_Md_pending_12 rfl ?_
  refine za_ild_n B.1 1 dd_Md_pending_13 rfl ?_
  refine za_ild_n B.1 2 dd_Md_pending_14 rfl ?_
  refine za_ald_n B.1 0 dd_Md_pending_15 rfl ?_
  refine za_gtR B.1 8 33 zi_8 rfl (by decide) (by decide) rfl zW_489 rfl dd_Md_pending_16 ?_
  refine za_ild_n B.1 3 dd_Md_pending_19 rfl ?_
  refine za_iald B.1 dd_Md_pending_20 ?_
  refine za_cV B.1 8 3 0 0 0 0 rfl rfl rfl (by decide) (zm_Md_place l G) ⟨callB_of 3 B.1.1.2.2.2.2 (zs_good zW_547) rfl rfl rfl (B.1.1.2.2.2.2 _ zW_8) (B.1.1.2.2.2.2 _ zW_545) (by decide +kernel) ⟨by decide, by decide⟩, (B.1.1.2.2.2.2 _ zW_546), (B.1.1.2.2.2.2 _ zW_682)⟩ dd_Md_pending_21 ?_
  refine za_zald B.1 dd_Md_pending_24 ?_
  exact za_if_ne B.1 32 dd_Md_pending_25 (by decide) (zr_Md_pending_28 B) (zr_Md_pending_32 B)
theorem zr_Md_pending_0 (B : zs_B p s m args meth c G bb_Md_pending 4 yy_Md_pending (some .boolean)) : zA_Md_pending p l e s m args below meth c G Q 0 (zb_Md_pending_0 Q) := by
  unfold zb_Md_pending_0
  refine za_ild_n B.1 3 dd_Md_pending_0 rfl ?_
  refine za_ald_n B.1 0 dd_Md_pending_1 rfl ?_
  refine za_gtI B.1 8 34 zi_8 rfl (by decide) (by decide) rfl zW_490 rfl dd_Md_pending_2 ?_
  exact za_cmp_ge B.1 32 dd_Md_pending_5 (by decide) (zr_Md_pending_32 B) (zr_Md_pending_8 B)
end
theorem zm_Md_pending (l : Launch) (G : zs_G) (As : List Value) (σ : zs_S) (Q : zs_Q) (h : zw_Md_pending As σ Q) : zs_Met l yy_Md_pending (Cond.code yy_Md_pending bb_Md_pending 4 (some .boolean) :: zw_all) zk_Md_pending G As σ Q 0 0 := by
  unfold zw_Md_pending at h
  split at h
  · exact zs_enter (by decide +kernel) h.1 (Nat.le_of_ble_eq_true rfl) h.2 (fun p e s m args below meth c B => zr_Md_pending_0 B)
  · exact h.elim
-- SequencedBatchesModel.pendings(II)I
theorem dd_Md_pendings_0 : decode bb_Md_pendings 0 = .ok (.iconst 0, 1) := by decide +kernel
theorem dd_Md_pendings_1 : decode bb_Md_pendings 1 = .ok (.istore_n 3, 1) := by decide +kernel
theorem dd_Md_pendings_2 : decode bb_Md_pendings 2 = .ok (.aload_n 0, 1) := by decide +kernel
theorem dd_Md_pendings_3 : decode bb_Md_pendings 3 = .ok (.iload_n 1, 1) := by decide +kernel
theorem dd_Md_pendings_4 : decode bb_Md_pendings 4 = .ok (.invokevirtual 182, 3) := by decide +kernel
theorem dd_Md_pendings_7 : decode bb_Md_pendings 7 = .ok (.aload_n 0, 1) := by decide +kernel
theorem dd_Md_pendings_8 : decode bb_Md_pendings 8 = .ok (.getfield 80, 3) := by decide +kernel
theorem dd_Md_pendings_11 : decode bb_Md_pendings 11 = .ok (.iload_n 1, 1) := by decide +kernel
theorem dd_Md_pendings_12 : decode bb_Md_pendings 12 = .ok (.iaload, 1) := by decide +kernel
theorem dd_Md_pendings_13 : decode bb_Md_pendings 13 = .ok (.istore 4, 2) := by decide +kernel
theorem dd_Md_pendings_15 : decode bb_Md_pendings 15 = .ok (.iload 4, 2) := by decide +kernel
theorem dd_Md_pendings_17 : decode bb_Md_pendings 17 = .ok (.aload_n 0, 1) := by decide +kernel
theorem dd_Md_pendings_18 : decode bb_Md_pendings 18 = .ok (.getfield 83, 3) := by decide +kernel
theorem dd_Md_pendings_21 : decode bb_Md_pendings 21 = .ok (.iconst 4, 1) := by decide +kernel
theorem dd_Md_pendings_22 : decode bb_Md_pendings 22 = .ok (.iload_n 1, 1) := by decide +kernel
theorem dd_Md_pendings_23 : decode bb_Md_pendings 23 = .ok (.imul, 1) := by decide +kernel
theorem dd_Md_pendings_24 : decode bb_Md_pendings 24 = .ok (.iload_n 2, 1) := by decide +kernel
theorem dd_Md_pendings_25 : decode bb_Md_pendings 25 = .ok (.iadd, 1) := by decide +kernel
theorem dd_Md_pendings_26 : decode bb_Md_pendings 26 = .ok (.iaload, 1) := by decide +kernel
theorem dd_Md_pendings_27 : decode bb_Md_pendings 27 = .ok (.if_icmp .ge 28, 3) := by decide +kernel
theorem dd_Md_pendings_30 : decode bb_Md_pendings 30 = .ok (.aload_n 0, 1) := by decide +kernel
theorem dd_Md_pendings_31 : decode bb_Md_pendings 31 = .ok (.iload_n 1, 1) := by decide +kernel
theorem dd_Md_pendings_32 : decode bb_Md_pendings 32 = .ok (.iload_n 2, 1) := by decide +kernel
theorem dd_Md_pendings_33 : decode bb_Md_pendings 33 = .ok (.iload 4, 2) := by decide +kernel
theorem dd_Md_pendings_35 : decode bb_Md_pendings 35 = .ok (.invokevirtual 189, 3) := by decide +kernel
theorem dd_Md_pendings_38 : decode bb_Md_pendings 38 = .ok (.ifCond .eq 9, 3) := by decide +kernel
theorem dd_Md_pendings_41 : decode bb_Md_pendings 41 = .ok (.iload_n 3, 1) := by decide +kernel
theorem dd_Md_pendings_42 : decode bb_Md_pendings 42 = .ok (.iconst 1, 1) := by decide +kernel
theorem dd_Md_pendings_43 : decode bb_Md_pendings 43 = .ok (.iadd, 1) := by decide +kernel
theorem dd_Md_pendings_44 : decode bb_Md_pendings 44 = .ok (.goto 4, 3) := by decide +kernel
theorem dd_Md_pendings_47 : decode bb_Md_pendings 47 = .ok (.iload_n 3, 1) := by decide +kernel
theorem dd_Md_pendings_48 : decode bb_Md_pendings 48 = .ok (.istore_n 3, 1) := by decide +kernel
theorem dd_Md_pendings_49 : decode bb_Md_pendings 49 = .ok (.iinc 4 1, 3) := by decide +kernel
theorem dd_Md_pendings_52 : decode bb_Md_pendings 52 = .ok (.goto (-37), 3) := by decide +kernel
theorem dd_Md_pendings_55 : decode bb_Md_pendings 55 = .ok (.iload_n 3, 1) := by decide +kernel
theorem dd_Md_pendings_56 : decode bb_Md_pendings 56 = .ok (.ireturn, 1) := by decide +kernel
def zk_Md_pendings : Room := { frames := 2, cells := 0, slots := 0, locals := 46 }
abbrev zA_Md_pendings (p : Program) (l : Launch) (e : Env) (s : State) (m : MethodId) (args : Array Value) (below : List Frame) (meth : Method) (c : Code) (G : zs_G) (Q : zs_Q) (pc : Nat) (P : zs_P) : Prop := zs_At p l e zk_Md_pendings s m args below meth c (MQ below (zs_Qc G Q) args s 0 0 (fun q => zg_z G ≤ q)) G 5 pc P
def zb_Md_pendings_55 (Q : zs_Q) : zs_P := zt_ild 3 (zt_irt 0 0 Q)
def zb_Md_pendings_48 (Q : zs_Q) (K15 : zs_P) : zs_P := zt_ist 3 (zt_inc 4 1 (K15))
def zb_Md_pendings_47 (Q : zs_Q) (K15 : zs_P) : zs_P := zt_ild 3 ((zb_Md_pendings_48 Q K15))
def zb_Md_pendings_41 (Q : zs_Q) (K15 : zs_P) : zs_P := zt_ild 3 (zt_psh 1 (zt_bin (fun x y => x + y) ((zb_Md_pendings_48 Q K15))))
def zb_Md_pendings_30 (Q : zs_Q) (K15 : zs_P) : zs_P := zt_ald 0 (zt_ild 1 (zt_ild 2 (zt_ild 4 (zt_cav 8 zw_Md_pending (3 + 1) 0 0 0 0 (zt_if (fun x => x = 0) (zb_Md_pendings_47 Q K15) (zb_Md_pendings_41 Q K15))))))
def zb_Md_pendings_15 (Q : zs_Q) (K15 : zs_P) : zs_P := zt_ild 4 (zt_ald 0 (zt_gtR 8 27 (zt_psh 4 (zt_ild 1 (zt_bin (fun x y => x * y) (zt_ild 2 (zt_bin (fun x y => x + y) (zt_xld 100 (zt_cmp (fun x y => y ≤ x) (zb_Md_pendings_55 Q) (zb_Md_pendings_30 Q K15))))))))))
def zl_Md_pendings_15 (Q : zs_Q) : zs_P := zt_ex (zb_Md_pendings_15 Q)
def zb_Md_pendings_0 (Q : zs_Q) : zs_P := zt_psh 0 (zt_ist 3 (zt_ald 0 (zt_ild 1 (zt_cav 8 zw_Md_lay (1 + 1) 0 0 0 0 (zt_ald 0 (zt_gtR 8 26 (zt_ild 1 (zt_xld 100 (zt_ist 4 ((zl_Md_pendings_15 Q)))))))))))
def zw_Md_pendings : zs_W := fun As σ Q => match As with
  | [a0, a1, a2] => zs_c1 [a0, a1, a2] = true ∧ zb_Md_pendings_0 Q [some a0, some a1, some a2, none, none] [] σ 0 0
  | _ => False
section
variable {p : Program} {l : Launch} {e : Env} {s : State} {m : MethodId} {args : Array Value} {below : List Frame} {meth : Method} {c : Code} {G : zs_G} {Q : zs_Q}
theorem zr_Md_pendings_55 (B : zs_B p s m args meth c G bb_Md_pendings 5 yy_Md_pendings (some .int)) : zA_Md_pendings p l e s m args below meth c G Q 55 (zb_Md_pendings_55 Q) := by
  unfold zb_Md_pendings_55
  refine za_ild_n B.1 3 dd_Md_pendings_55 rfl ?_
  exact za_irt B.1 0 0 B.2.1 B.2.2.1 dd_Md_pendings_56
theorem zr_Md_pendings_48 (B : zs_B p s m args meth c G bb_Md_pendings 5 yy_Md_pendings (some .int)) {K15 : zs_P} (h15 : zA_Md_pendings p l e s m args below meth c G Q 15 K15) : zA_Md_pendings p l e s m args below meth c G Q 48 (zb_Md_pendings_48 Q K15) := by
  unfold zb_Md_pendings_48
  refine za_ist_n B.1 3 dd_Md_pendings_48 rfl (by decide) ?_
  refine za_inc B.1 1 dd_Md_pendings_49 (by decide) (by decide) ?_
  refine za_goto B.1 15 dd_Md_pendings_52 (by decide) ?_
  exact h15
theorem zr_Md_pendings_47 (B : zs_B p s m args meth c G bb_Md_pendings 5 yy_Md_pendings (some .int)) {K15 : zs_P} (h15 : zA_Md_pendings p l e s m args below meth c G Q 15 K15) : zA_Md_pendings p l e s m args below meth c G Q 47 (zb_Md_pendings_47 Q K15) := by
  unfold zb_Md_pendings_47
  refine za_ild_n B.1 3 dd_Md_pendings_47 rfl ?_
  exact (zr_Md_pendings_48 B h15)
theorem zr_Md_pendings_41 (B : zs_B p s m args meth c G bb_Md_pendings 5 yy_Md_pendings (some .int)) {K15 : zs_P} (h15 : zA_Md_pendings p l e s m args below meth c G Q 15 K15) : zA_Md_pendings p l e s m args below meth c G Q 41 (zb_Md_pendings_41 Q K15) := by
  unfold zb_Md_pendings_41
  refine za_ild_n B.1 3 dd_Md_pendings_41 rfl ?_
  refine za_ico B.1 1 dd_Md_pendings_42 (by decide) ?_
  refine za_add B.1 dd_Md_pendings_43 ?_
  refine za_goto B.1 48 dd_Md_pendings_44 (by decide) ?_
  exact (zr_Md_pendings_48 B h15)
theorem zr_Md_pendings_30 (B : zs_B p s m args meth c G bb_Md_pendings 5 yy_Md_pendings (some .int)) {K15 : zs_P} (h15 : zA_Md_pendings p l e s m args below meth c G Q 15 K15) : zA_Md_pendings p l e s m args below meth c G Q 30 (zb_Md_pendings_30 Q K15) := by
  unfold zb_Md_pendings_30
  refine za_ald_n B.1 0 dd_Md_pendings_30 rfl ?_
  refine za_ild_n B.1 1 dd_Md_pendings_31 rfl ?_
  refine za_ild_n B.1 2 dd_Md_pendings_32 rfl ?_
  refine za_ild B.1 dd_Md_pendings_33 ?_
  refine za_cV B.1 8 3 0 0 0 0 rfl rfl rfl (by decide) (zm_Md_pending l G) ⟨callB_of 3 B.1.1.2.2.2.2 (zs_good zW_616) rfl rfl rfl (B.1.1.2.2.2.2 _ zW_8) (B.1.1.2.2.2.2 _ zW_614) (by decide +kernel) ⟨by decide, by decide⟩, (B.1.1.2.2.2.2 _ zW_615), (B.1.1.2.2.2.2 _ zW_697)⟩ dd_Md_pendings_35 ?_
  exact za_if_eq B.1 47 dd_Md_pendings_38 (by decide) (zr_Md_pendings_47 B h15) (zr_Md_pendings_41 B h15)
theorem zr_Md_pendings_15 (B : zs_B p s m args meth c G bb_Md_pendings 5 yy_Md_pendings (some .int)) {K15 : zs_P} (h15 : zA_Md_pendings p l e s m args below meth c G Q 15 K15) : zA_Md_pendings p l e s m args below meth c G Q 15 (zb_Md_pendings_15 Q K15) := by
  unfold zb_Md_pendings_15
  refine za_ild B.1 dd_Md_pendings_15 ?_
  refine za_ald_n B.1 0 dd_Md_pendings_17 rfl ?_
  refine za_gtR B.1 8 27 zi_8 rfl (by decide) (by decide) rfl zW_483 rfl dd_Md_pendings_18 ?_
  refine za_ico B.1 4 dd_Md_pendings_21 (by decide) ?_
  refine za_ild_n B.1 1 dd_Md_pendings_22 rfl ?_
  refine za_mul B.1 dd_Md_pendings_23 ?_
  refine za_ild_n B.1 2 dd_Md_pendings_24 rfl ?_
  refine za_add B.1 dd_Md_pendings_25 ?_
  refine za_iald B.1 dd_Md_pendings_26 ?_
  exact za_cmp_ge B.1 55 dd_Md_pendings_27 (by decide) (zr_Md_pendings_55 B) (zr_Md_pendings_30 B h15)
theorem zq_Md_pendings_15 (B : zs_B p s m args meth c G bb_Md_pendings 5 yy_Md_pendings (some .int)) : zA_Md_pendings p l e s m args below meth c G Q 15 (zl_Md_pendings_15 Q) := za_lop (fun K hK => zr_Md_pendings_15 B hK)
theorem zr_Md_pendings_0 (B : zs_B p s m args meth c G bb_Md_pendings 5 yy_Md_pendings (some .int)) : zA_Md_pendings p l e s m args below meth c G Q 0 (zb_Md_pendings_0 Q) := by
  unfold zb_Md_pendings_0
  refine za_ico B.1 0 dd_Md_pendings_0 (by decide) ?_
  refine za_ist_n B.1 3 dd_Md_pendings_1 rfl (by decide) ?_
  refine za_ald_n B.1 0 dd_Md_pendings_2 rfl ?_
  refine za_ild_n B.1 1 dd_Md_pendings_3 rfl ?_
  refine za_cV B.1 8 1 0 0 0 0 rfl rfl rfl (by decide) (zm_Md_lay l G) ⟨callB_of 1 B.1.1.2.2.2.2 (zs_good zW_603) rfl rfl rfl (B.1.1.2.2.2.2 _ zW_8) (B.1.1.2.2.2.2 _ zW_601) (by decide +kernel) ⟨by decide, by decide⟩, (B.1.1.2.2.2.2 _ zW_602), (B.1.1.2.2.2.2 _ zW_694)⟩ dd_Md_pendings_4 ?_
  refine za_ald_n B.1 0 dd_Md_pendings_7 rfl ?_
  refine za_gtR B.1 8 26 zi_8 rfl (by decide) (by decide) rfl zW_482 rfl dd_Md_pendings_8 ?_
  refine za_ild_n B.1 1 dd_Md_pendings_11 rfl ?_
  refine za_iald B.1 dd_Md_pendings_12 ?_
  refine za_ist B.1 dd_Md_pendings_13 (by decide) ?_
  exact (zq_Md_pendings_15 B)
end
theorem zm_Md_pendings (l : Launch) (G : zs_G) (As : List Value) (σ : zs_S) (Q : zs_Q) (h : zw_Md_pendings As σ Q) : zs_Met l yy_Md_pendings (Cond.code yy_Md_pendings bb_Md_pendings 5 (some .int) :: zw_all) zk_Md_pendings G As σ Q 0 0 := by
  unfold zw_Md_pendings at h
  split at h
  · exact zs_enter (by decide +kernel) h.1 (Nat.le_of_ble_eq_true rfl) h.2 (fun p e s m args below meth c B => zr_Md_pendings_0 B)
  · exact h.elim
-- SequencedBatchesModel.admit_(II)I
theorem dd_Md_admit_0 : decode bb_Md_admit 0 = .ok (.aload_n 0, 1) := by decide +kernel
theorem dd_Md_admit_1 : decode bb_Md_admit 1 = .ok (.iload_n 1, 1) := by decide +kernel
theorem dd_Md_admit_2 : decode bb_Md_admit 2 = .ok (.iload_n 2, 1) := by decide +kernel
theorem dd_Md_admit_3 : decode bb_Md_admit 3 = .ok (.invokevirtual 192, 3) := by decide +kernel
theorem dd_Md_admit_6 : decode bb_Md_admit 6 = .ok (.ifCond .ne 5, 3) := by decide +kernel
theorem dd_Md_admit_9 : decode bb_Md_admit 9 = .ok (.iconst (-1), 1) := by decide +kernel
theorem dd_Md_admit_10 : decode bb_Md_admit 10 = .ok (.ireturn, 1) := by decide +kernel
theorem dd_Md_admit_11 : decode bb_Md_admit 11 = .ok (.aload_n 0, 1) := by decide +kernel
theorem dd_Md_admit_12 : decode bb_Md_admit 12 = .ok (.getfield 83, 3) := by decide +kernel
theorem dd_Md_admit_15 : decode bb_Md_admit 15 = .ok (.iconst 4, 1) := by decide +kernel
theorem dd_Md_admit_16 : decode bb_Md_admit 16 = .ok (.iload_n 1, 1) := by decide +kernel
theorem dd_Md_admit_17 : decode bb_Md_admit 17 = .ok (.imul, 1) := by decide +kernel
theorem dd_Md_admit_18 : decode bb_Md_admit 18 = .ok (.iload_n 2, 1) := by decide +kernel
theorem dd_Md_admit_19 : decode bb_Md_admit 19 = .ok (.iadd, 1) := by decide +kernel
theorem dd_Md_admit_20 : decode bb_Md_admit 20 = .ok (.iaload, 1) := by decide +kernel
theorem dd_Md_admit_21 : decode bb_Md_admit 21 = .ok (.istore_n 3, 1) := by decide +kernel
theorem dd_Md_admit_22 : decode bb_Md_admit 22 = .ok (.aload_n 0, 1) := by decide +kernel
theorem dd_Md_admit_23 : decode bb_Md_admit 23 = .ok (.iload_n 1, 1) := by decide +kernel
theorem dd_Md_admit_24 : decode bb_Md_admit 24 = .ok (.invokevirtual 182, 3) := by decide +kernel
theorem dd_Md_admit_27 : decode bb_Md_admit 27 = .ok (.iload_n 3, 1) := by decide +kernel
theorem dd_Md_admit_28 : decode bb_Md_admit 28 = .ok (.aload_n 0, 1) := by decide +kernel
theorem dd_Md_admit_29 : decode bb_Md_admit 29 = .ok (.getfield 179, 3) := by decide +kernel
theorem dd_Md_admit_32 : decode bb_Md_admit 32 = .ok (.if_icmp .ge 14, 3) := by decide +kernel
theorem dd_Md_admit_35 : decode bb_Md_admit 35 = .ok (.aload_n 0, 1) := by decide +kernel
theorem dd_Md_admit_36 : decode bb_Md_admit 36 = .ok (.iload_n 1, 1) := by decide +kernel
theorem dd_Md_admit_37 : decode bb_Md_admit 37 = .ok (.iload_n 2, 1) := by decide +kernel
theorem dd_Md_admit_38 : decode bb_Md_admit 38 = .ok (.invokevirtual 195, 3) := by decide +kernel
theorem dd_Md_admit_41 : decode bb_Md_admit 41 = .ok (.bipush 10, 2) := by decide +kernel
theorem dd_Md_admit_43 : decode bb_Md_admit 43 = .ok (.if_icmp .lt 5, 3) := by decide +kernel
theorem dd_Md_admit_46 : decode bb_Md_admit 46 = .ok (.iconst (-1), 1) := by decide +kernel
theorem dd_Md_admit_47 : decode bb_Md_admit 47 = .ok (.ireturn, 1) := by decide +kernel
theorem dd_Md_admit_48 : decode bb_Md_admit 48 = .ok (.aload_n 0, 1) := by decide +kernel
theorem dd_Md_admit_49 : decode bb_Md_admit 49 = .ok (.getfield 101, 3) := by decide +kernel
theorem dd_Md_admit_52 : decode bb_Md_admit 52 = .ok (.iload_n 3, 1) := by decide +kernel
theorem dd_Md_admit_53 : decode bb_Md_admit 53 = .ok (.iaload, 1) := by decide +kernel
theorem dd_Md_admit_54 : decode bb_Md_admit 54 = .ok (.istore 4, 2) := by decide +kernel
theorem dd_Md_admit_56 : decode bb_Md_admit 56 = .ok (.aload_n 0, 1) := by decide +kernel
theorem dd_Md_admit_57 : decode bb_Md_admit 57 = .ok (.getfield 83, 3) := by decide +kernel
theorem dd_Md_admit_60 : decode bb_Md_admit 60 = .ok (.iconst 4, 1) := by decide +kernel
theorem dd_Md_admit_61 : decode bb_Md_admit 61 = .ok (.iload_n 1, 1) := by decide +kernel
theorem dd_Md_admit_62 : decode bb_Md_admit 62 = .ok (.imul, 1) := by decide +kernel
theorem dd_Md_admit_63 : decode bb_Md_admit 63 = .ok (.iload_n 2, 1) := by decide +kernel
theorem dd_Md_admit_64 : decode bb_Md_admit 64 = .ok (.iadd, 1) := by decide +kernel
theorem dd_Md_admit_65 : decode bb_Md_admit 65 = .ok (.dup2, 1) := by decide +kernel
theorem dd_Md_admit_66 : decode bb_Md_admit 66 = .ok (.iaload, 1) := by decide +kernel
theorem dd_Md_admit_67 : decode bb_Md_admit 67 = .ok (.iconst 1, 1) := by decide +kernel
theorem dd_Md_admit_68 : decode bb_Md_admit 68 = .ok (.iadd, 1) := by decide +kernel
theorem dd_Md_admit_69 : decode bb_Md_admit 69 = .ok (.iastore, 1) := by decide +kernel
theorem dd_Md_admit_70 : decode bb_Md_admit 70 = .ok (.aload_n 0, 1) := by decide +kernel
theorem dd_Md_admit_71 : decode bb_Md_admit 71 = .ok (.iload 4, 2) := by decide +kernel
theorem dd_Md_admit_73 : decode bb_Md_admit 73 = .ok (.iload_n 2, 1) := by decide +kernel
theorem dd_Md_admit_74 : decode bb_Md_admit 74 = .ok (.invokevirtual 199, 3) := by decide +kernel
theorem dd_Md_admit_77 : decode bb_Md_admit 77 = .ok (.ifCond .ne 27, 3) := by decide +kernel
theorem dd_Md_admit_80 : decode bb_Md_admit 80 = .ok (.aload_n 0, 1) := by decide +kernel
theorem dd_Md_admit_81 : decode bb_Md_admit 81 = .ok (.iload 4, 2) := by decide +kernel
theorem dd_Md_admit_83 : decode bb_Md_admit 83 = .ok (.iload_n 2, 1) := by decide +kernel
theorem dd_Md_admit_84 : decode bb_Md_admit 84 = .ok (.invokevirtual 202, 3) := by decide +kernel
theorem dd_Md_admit_87 : decode bb_Md_admit 87 = .ok (.ifCond .ne 17, 3) := by decide +kernel
theorem dd_Md_admit_90 : decode bb_Md_admit 90 = .ok (.aload_n 0, 1) := by decide +kernel
theorem dd_Md_admit_91 : decode bb_Md_admit 91 = .ok (.getfield 89, 3) := by decide +kernel
theorem dd_Md_admit_94 : decode bb_Md_admit 94 = .ok (.aload_n 0, 1) := by decide +kernel
theorem dd_Md_admit_95 : decode bb_Md_admit 95 = .ok (.iload_n 1, 1) := by decide +kernel
theorem dd_Md_admit_96 : decode bb_Md_admit 96 = .ok (.iload_n 2, 1) := by decide +kernel
theorem dd_Md_admit_97 : decode bb_Md_admit 97 = .ok (.iload 4, 2) := by decide +kernel
theorem dd_Md_admit_99 : decode bb_Md_admit 99 = .ok (.invokevirtual 185, 3) := by decide +kernel
theorem dd_Md_admit_102 : decode bb_Md_admit 102 = .ok (.iconst 1, 1) := by decide +kernel
theorem dd_Md_admit_103 : decode bb_Md_admit 103 = .ok (.bastore, 1) := by decide +kernel
theorem dd_Md_admit_104 : decode bb_Md_admit 104 = .ok (.iload 4, 2) := by decide +kernel
theorem dd_Md_admit_106 : decode bb_Md_admit 106 = .ok (.ireturn, 1) := by decide +kernel
def zk_Md_admit : Room := { frames := 3, cells := 0, slots := 0, locals := 70 }
abbrev zA_Md_admit (p : Program) (l : Launch) (e : Env) (s : State) (m : MethodId) (args : Array Value) (below : List Frame) (meth : Method) (c : Code) (G : zs_G) (Q : zs_Q) (pc : Nat) (P : zs_P) : Prop := zs_At p l e zk_Md_admit s m args below meth c (MQ below (zs_Qc G Q) args s 0 0 (fun q => zg_z G ≤ q)) G 5 pc P
def zb_Md_admit_46 (Q : zs_Q) : zs_P := zt_psh (-1) (zt_irt 0 0 Q)
def zb_Md_admit_104 (Q : zs_Q) : zs_P := zt_ild 4 (zt_irt 0 0 Q)
def zb_Md_admit_90 (Q : zs_Q) : zs_P := zt_ald 0 (zt_gtR 8 29 (zt_ald 0 (zt_ild 1 (zt_ild 2 (zt_ild 4 (zt_cav 8 zw_Md_place (3 + 1) 0 0 0 0 (zt_psh 1 (zt_zas ((zb_Md_admit_104 Q))))))))))
def zb_Md_admit_80 (Q : zs_Q) : zs_P := zt_ald 0 (zt_ild 4 (zt_ild 2 (zt_cav 8 zw_Md_active (2 + 1) 0 0 0 0 (zt_if (fun x => x = 0) (zb_Md_admit_90 Q) (zb_Md_admit_104 Q)))))
def zb_Md_admit_48 (Q : zs_Q) : zs_P := zt_ald 0 (zt_gtR 8 33 (zt_ild 3 (zt_xld 100 (zt_ist 4 (zt_ald 0 (zt_gtR 8 27 (zt_psh 4 (zt_ild 1 (zt_bin (fun x y => x * y) (zt_ild 2 (zt_bin (fun x y => x + y) (zt_du2 (zt_xld 100 (zt_psh 1 (zt_bin (fun x y => x + y) (zt_ias (zt_ald 0 (zt_ild 4 (zt_ild 2 (zt_cav 8 zw_Md_readsIn (2 + 1) 0 0 0 0 (zt_if (fun x => x = 0) (zb_Md_admit_80 Q) (zb_Md_admit_104 Q))))))))))))))))))))))
def zb_Md_admit_35 (Q : zs_Q) : zs_P := zt_ald 0 (zt_ild 1 (zt_ild 2 (zt_cav 8 zw_Md_pendings (2 + 1) 0 0 0 0 (zt_psh 10 (zt_cmp (fun x y => x < y) (zb_Md_admit_48 Q) (zb_Md_admit_46 Q))))))
def zb_Md_admit_11 (Q : zs_Q) : zs_P := zt_ald 0 (zt_gtR 8 27 (zt_psh 4 (zt_ild 1 (zt_bin (fun x y => x * y) (zt_ild 2 (zt_bin (fun x y => x + y) (zt_xld 100 (zt_ist 3 (zt_ald 0 (zt_ild 1 (zt_cav 8 zw_Md_lay (1 + 1) 0 0 0 0 (zt_ild 3 (zt_ald 0 (zt_gtI 8 34 (zt_cmp (fun x y => y ≤ x) (zb_Md_admit_46 Q) (zb_Md_admit_35 Q))))))))))))))))
def zb_Md_admit_9 (Q : zs_Q) : zs_P := zt_psh (-1) (zt_irt 0 0 Q)
def zb_Md_admit_0 (Q : zs_Q) : zs_P := zt_ald 0 (zt_ild 1 (zt_ild 2 (zt_cav 8 zw_Md_there (2 + 1) 0 0 0 0 (zt_if (fun x => x = 0) (zb_Md_admit_9 Q) (zb_Md_admit_11 Q)))))
def zw_Md_admit : zs_W := fun As σ Q => match As with
  | [a0, a1, a2] => zs_c1 [a0, a1, a2] = true ∧ zb_Md_admit_0 Q [some a0, some a1, some a2, none, none] [] σ 0 0
  | _ => False
section
variable {p : Program} {l : Launch} {e : Env} {s : State} {m : MethodId} {args : Array Value} {below : List Frame} {meth : Method} {c : Code} {G : zs_G} {Q : zs_Q}
theorem zr_Md_admit_46 (B : zs_B p s m args meth c G bb_Md_admit 5 yy_Md_admit (some .int)) : zA_Md_admit p l e s m args below meth c G Q 46 (zb_Md_admit_46 Q) := by
  unfold zb_Md_admit_46
  refine za_ico B.1 (-1) dd_Md_admit_46 (by decide) ?_
  exact za_irt B.1 0 0 B.2.1 B.2.2.1 dd_Md_admit_47
theorem zr_Md_admit_104 (B : zs_B p s m args meth c G bb_Md_admit 5 yy_Md_admit (some .int)) : zA_Md_admit p l e s m args below meth c G Q 104 (zb_Md_admit_104 Q) := by
  unfold zb_Md_admit_104
  refine za_ild B.1 dd_Md_admit_104 ?_
  exact za_irt B.1 0 0 B.2.1 B.2.2.1 dd_Md_admit_106
theorem zr_Md_admit_90 (B : zs_B p s m args meth c G bb_Md_admit 5 yy_Md_admit (some .int)) : zA_Md_admit p l e s m args below meth c G Q 90 (zb_Md_admit_90 Q) := by
  unfold zb_Md_admit_90
  refine za_ald_n B.1 0 dd_Md_admit_90 rfl ?_
  refine za_gtR B.1 8 29 zi_8 rfl (by decide) (by decide) rfl zW_485 rfl dd_Md_admit_91 ?_
  refine za_ald_n B.1 0 dd_Md_admit_94 rfl ?_
  refine za_ild_n B.1 1 dd_Md_admit_95 rfl ?_
  refine za_ild_n B.1 2 dd_Md_admit_96 rfl ?_
  refine za_ild B.1 dd_Md_admit_97 ?_
  refine za_cV B.1 8 3 0 0 0 0 rfl rfl rfl (by decide) (zm_Md_place l G) ⟨callB_of 3 B.1.1.2.2.2.2 (zs_good zW_547) rfl rfl rfl (B.1.1.2.2.2.2 _ zW_8) (B.1.1.2.2.2.2 _ zW_545) (by decide +kernel) ⟨by decide, by decide⟩, (B.1.1.2.2.2.2 _ zW_546), (B.1.1.2.2.2.2 _ zW_682)⟩ dd_Md_admit_99 ?_
  refine za_ico B.1 1 dd_Md_admit_102 (by decide) ?_
  refine za_zast B.1 dd_Md_admit_103 ?_
  exact (zr_Md_admit_104 B)
theorem zr_Md_admit_80 (B : zs_B p s m args meth c G bb_Md_admit 5 yy_Md_admit (some .int)) : zA_Md_admit p l e s m args below meth c G Q 80 (zb_Md_admit_80 Q) := by
  unfold zb_Md_admit_80
  refine za_ald_n B.1 0 dd_Md_admit_80 rfl ?_
  refine za_ild B.1 dd_Md_admit_81 ?_
  refine za_ild_n B.1 2 dd_Md_admit_83 rfl ?_
  refine za_cV B.1 8 2 0 0 0 0 rfl rfl rfl (by decide) (zm_Md_active l G) ⟨callB_of 2 B.1.1.2.2.2.2 (zs_good zW_556) rfl rfl rfl (B.1.1.2.2.2.2 _ zW_8) (B.1.1.2.2.2.2 _ zW_554) (by decide +kernel) ⟨by decide, by decide⟩, (B.1.1.2.2.2.2 _ zW_555), (B.1.1.2.2.2.2 _ zW_685)⟩ dd_Md_admit_84 ?_
  exact za_if_ne B.1 104 dd_Md_admit_87 (by decide) (zr_Md_admit_90 B) (zr_Md_admit_104 B)
theorem zr_Md_admit_48 (B : zs_B p s m args meth c G bb_Md_admit 5 yy_Md_admit (some .int)) : zA_Md_admit p l e s m args below meth c G Q 48 (zb_Md_admit_48 Q) := by
  unfold zb_Md_admit_48
  refine za_ald_n B.1 0 dd_Md_admit_48 rfl ?_
  refine za_gtR B.1 8 33 zi_8 rfl (by decide) (by decide) rfl zW_489 rfl dd_Md_admit_49 ?_
  refine za_ild_n B.1 3 dd_Md_admit_52 rfl ?_
  refine za_iald B.1 dd_Md_admit_53 ?_
  refine za_ist B.1 dd_Md_admit_54 (by decide) ?_
  refine za_ald_n B.1 0 dd_Md_admit_56 rfl ?_
  refine za_gtR B.1 8 27 zi_8 rfl (by decide) (by decide) rfl zW_483 rfl dd_Md_admit_57 ?_
  refine za_ico B.1 4 dd_Md_admit_60 (by decide) ?_
  refine za_ild_n B.1 1 dd_Md_admit_61 rfl ?_
  refine za_mul B.1 dd_Md_admit_62 ?_
  refine za_ild_n B.1 2 dd_Md_admit_63 rfl ?_
  refine za_add B.1 dd_Md_admit_64 ?_
  refine za_du2 B.1 dd_Md_admit_65 ?_
  refine za_iald B.1 dd_Md_admit_66 ?_
  refine za_ico B.1 1 dd_Md_admit_67 (by decide) ?_
  refine za_add B.1 dd_Md_admit_68 ?_
  refine za_iast B.1 dd_Md_admit_69 ?_
  refine za_ald_n B.1 0 dd_Md_admit_70 rfl ?_
  refine za_ild B.1 dd_Md_admit_71 ?_
  refine za_ild_n B.1 2 dd_Md_admit_73 rfl ?_
  refine za_cV B.1 8 2 0 0 0 0 rfl rfl rfl (by decide) (zm_Md_readsIn l G) ⟨callB_of 2 B.1.1.2.2.2.2 (zs_good zW_550) rfl rfl rfl (B.1.1.2.2.2.2 _ zW_8) (B.1.1.2.2.2.2 _ zW_548) (by decide +kernel) ⟨by decide, by decide⟩, (B.1.1.2.2.2.2 _ zW_549), (B.1.1.2.2.2.2 _ zW_683)⟩ dd_Md_admit_74 ?_
  exact za_if_ne B.1 104 dd_Md_admit_77 (by decide) (zr_Md_admit_80 B) (zr_Md_admit_104 B)
theorem zr_Md_admit_35 (B : zs_B p s m args meth c G bb_Md_admit 5 yy_Md_admit (some .int)) : zA_Md_admit p l e s m args below meth c G Q 35 (zb_Md_admit_35 Q) := by
  unfold zb_Md_admit_35
  refine za_ald_n B.1 0 dd_Md_admit_35 rfl ?_
  refine za_ild_n B.1 1 dd_Md_admit_36 rfl ?_
  refine za_ild_n B.1 2 dd_Md_admit_37 rfl ?_
  refine za_cV B.1 8 2 0 0 0 0 rfl rfl rfl (by decide) (zm_Md_pendings l G) ⟨callB_of 2 B.1.1.2.2.2.2 (zs_good zW_613) rfl rfl rfl (B.1.1.2.2.2.2 _ zW_8) (B.1.1.2.2.2.2 _ zW_611) (by decide +kernel) ⟨by decide, by decide⟩, (B.1.1.2.2.2.2 _ zW_612), (B.1.1.2.2.2.2 _ zW_696)⟩ dd_Md_admit_38 ?_
  refine za_bip B.1 10 dd_Md_admit_41 (by decide) ?_
  exact za_cmp_lt B.1 48 dd_Md_admit_43 (by decide) (zr_Md_admit_48 B) (zr_Md_admit_46 B)
theorem zr_Md_admit_11 (B : zs_B p s m args meth c G bb_Md_admit 5 yy_Md_admit (some .int)) : zA_Md_admit p l e s m args below meth c G Q 11 (zb_Md_admit_11 Q) := by
  unfold zb_Md_admit_11
  refine za_ald_n B.1 0 dd_Md_admit_11 rfl ?_
  refine za_gtR B.1 8 27 zi_8 rfl (by decide) (by decide) rfl zW_483 rfl dd_Md_admit_12 ?_
  refine za_ico B.1 4 dd_Md_admit_15 (by decide) ?_
  refine za_ild_n B.1 1 dd_Md_admit_16 rfl ?_
  refine za_mul B.1 dd_Md_admit_17 ?_
  refine za_ild_n B.1 2 dd_Md_admit_18 rfl ?_
  refine za_add B.1 dd_Md_admit_19 ?_
  refine za_iald B.1 dd_Md_admit_20 ?_
  refine za_ist_n B.1 3 dd_Md_admit_21 rfl (by decide) ?_
  refine za_ald_n B.1 0 dd_Md_admit_22 rfl ?_
  refine za_ild_n B.1 1 dd_Md_admit_23 rfl ?_
  refine za_cV B.1 8 1 0 0 0 0 rfl rfl rfl (by decide) (zm_Md_lay l G) ⟨callB_of 1 B.1.1.2.2.2.2 (zs_good zW_603) rfl rfl rfl (B.1.1.2.2.2.2 _ zW_8) (B.1.1.2.2.2.2 _ zW_601) (by decide +kernel) ⟨by decide, by decide⟩, (B.1.1.2.2.2.2 _ zW_602), (B.1.1.2.2.2.2 _ zW_694)⟩ dd_Md_admit_24 ?_
  refine za_ild_n B.1 3 dd_Md_admit_27 rfl ?_
  refine za_ald_n B.1 0 dd_Md_admit_28 rfl ?_
  refine za_gtI B.1 8 34 zi_8 rfl (by decide) (by decide) rfl zW_490 rfl dd_Md_admit_29 ?_
  exact za_cmp_ge B.1 46 dd_Md_admit_32 (by decide) (zr_Md_admit_46 B) (zr_Md_admit_35 B)
theorem zr_Md_admit_9 (B : zs_B p s m args meth c G bb_Md_admit 5 yy_Md_admit (some .int)) : zA_Md_admit p l e s m args below meth c G Q 9 (zb_Md_admit_9 Q) := by
  unfold zb_Md_admit_9
  refine za_ico B.1 (-1) dd_Md_admit_9 (by decide) ?_
  exact za_irt B.1 0 0 B.2.1 B.2.2.1 dd_Md_admit_10
theorem zr_Md_admit_0 (B : zs_B p s m args meth c G bb_Md_admit 5 yy_Md_admit (some .int)) : zA_Md_admit p l e s m args below meth c G Q 0 (zb_Md_admit_0 Q) := by
  unfold zb_Md_admit_0
  refine za_ald_n B.1 0 dd_Md_admit_0 rfl ?_
  refine za_ild_n B.1 1 dd_Md_admit_1 rfl ?_
  refine za_ild_n B.1 2 dd_Md_admit_2 rfl ?_
  refine za_cV B.1 8 2 0 0 0 0 rfl rfl rfl (by decide) (zm_Md_there l G) ⟨callB_of 2 B.1.1.2.2.2.2 (zs_good zW_610) rfl rfl rfl (B.1.1.2.2.2.2 _ zW_8) (B.1.1.2.2.2.2 _ zW_608) (by decide +kernel) ⟨by decide, by decide⟩, (B.1.1.2.2.2.2 _ zW_609), (B.1.1.2.2.2.2 _ zW_695)⟩ dd_Md_admit_3 ?_
  exact za_if_ne B.1 11 dd_Md_admit_6 (by decide) (zr_Md_admit_9 B) (zr_Md_admit_11 B)
end
theorem zm_Md_admit (l : Launch) (G : zs_G) (As : List Value) (σ : zs_S) (Q : zs_Q) (h : zw_Md_admit As σ Q) : zs_Met l yy_Md_admit (Cond.code yy_Md_admit bb_Md_admit 5 (some .int) :: zw_all) zk_Md_admit G As σ Q 0 0 := by
  unfold zw_Md_admit at h
  split at h
  · exact zs_enter (by decide +kernel) h.1 (Nat.le_of_ble_eq_true rfl) h.2 (fun p e s m args below meth c B => zr_Md_admit_0 B)
  · exact h.elim
