/-! Methods: Md_quarrel, Md_isReady, Md_nthReady, Md_look (made by program) -/
-- SequencedBatchesModel.quarrel(III)Z
theorem dd_Md_quarrel_0 : decode bb_Md_quarrel 0 = .ok (.iconst 0, 1) := by decide +kernel
theorem dd_Md_quarrel_1 : decode bb_Md_quarrel 1 = .ok (.istore 4, 2) := by decide +kernel
theorem dd_Md_quarrel_3 : decode bb_Md_quarrel 3 = .ok (.iload_n 3, 1) := by decide +kernel
theorem dd_Md_quarrel_4 : decode bb_Md_quarrel 4 = .ok (.istore 5, 2) := by decide +kernel
theorem dd_Md_quarrel_6 : decode bb_Md_quarrel 6 = .ok (.iload 5, 2) := by decide +kernel
theorem dd_Md_quarrel_8 : decode bb_Md_quarrel 8 = .ok (.bipush 12, 2) := by decide +kernel
theorem dd_Md_quarrel_10 : decode bb_Md_quarrel 10 = .ok (.if_icmp .ge 99, 3) := by decide +kernel
theorem dd_Md_quarrel_13 : decode bb_Md_quarrel 13 = .ok (.aload_n 0, 1) := by decide +kernel
theorem dd_Md_quarrel_14 : decode bb_Md_quarrel 14 = .ok (.iload_n 1, 1) := by decide +kernel
theorem dd_Md_quarrel_15 : decode bb_Md_quarrel 15 = .ok (.iload 5, 2) := by decide +kernel
theorem dd_Md_quarrel_17 : decode bb_Md_quarrel 17 = .ok (.invokevirtual 119, 3) := by decide +kernel
theorem dd_Md_quarrel_20 : decode bb_Md_quarrel 20 = .ok (.ifCond .ne 13, 3) := by decide +kernel
theorem dd_Md_quarrel_23 : decode bb_Md_quarrel 23 = .ok (.aload_n 0, 1) := by decide +kernel
theorem dd_Md_quarrel_24 : decode bb_Md_quarrel 24 = .ok (.iload_n 1, 1) := by decide +kernel
theorem dd_Md_quarrel_25 : decode bb_Md_quarrel 25 = .ok (.iload 5, 2) := by decide +kernel
theorem dd_Md_quarrel_27 : decode bb_Md_quarrel 27 = .ok (.invokevirtual 123, 3) := by decide +kernel
theorem dd_Md_quarrel_30 : decode bb_Md_quarrel 30 = .ok (.ifCond .eq 27, 3) := by decide +kernel
theorem dd_Md_quarrel_33 : decode bb_Md_quarrel 33 = .ok (.aload_n 0, 1) := by decide +kernel
theorem dd_Md_quarrel_34 : decode bb_Md_quarrel 34 = .ok (.iload_n 2, 1) := by decide +kernel
theorem dd_Md_quarrel_35 : decode bb_Md_quarrel 35 = .ok (.iload 5, 2) := by decide +kernel
theorem dd_Md_quarrel_37 : decode bb_Md_quarrel 37 = .ok (.invokevirtual 119, 3) := by decide +kernel
theorem dd_Md_quarrel_40 : decode bb_Md_quarrel 40 = .ok (.ifCond .ne 13, 3) := by decide +kernel
theorem dd_Md_quarrel_43 : decode bb_Md_quarrel 43 = .ok (.aload_n 0, 1) := by decide +kernel
theorem dd_Md_quarrel_44 : decode bb_Md_quarrel 44 = .ok (.iload_n 2, 1) := by decide +kernel
theorem dd_Md_quarrel_45 : decode bb_Md_quarrel 45 = .ok (.iload 5, 2) := by decide +kernel
theorem dd_Md_quarrel_47 : decode bb_Md_quarrel 47 = .ok (.invokevirtual 123, 3) := by decide +kernel
theorem dd_Md_quarrel_50 : decode bb_Md_quarrel 50 = .ok (.ifCond .eq 7, 3) := by decide +kernel
theorem dd_Md_quarrel_53 : decode bb_Md_quarrel 53 = .ok (.iconst 1, 1) := by decide +kernel
theorem dd_Md_quarrel_54 : decode bb_Md_quarrel 54 = .ok (.goto 4, 3) := by decide +kernel
theorem dd_Md_quarrel_57 : decode bb_Md_quarrel 57 = .ok (.iconst 0, 1) := by decide +kernel
theorem dd_Md_quarrel_58 : decode bb_Md_quarrel 58 = .ok (.istore 6, 2) := by decide +kernel
theorem dd_Md_quarrel_60 : decode bb_Md_quarrel 60 = .ok (.iload 4, 2) := by decide +kernel
theorem dd_Md_quarrel_62 : decode bb_Md_quarrel 62 = .ok (.ifCond .ne 28, 3) := by decide +kernel
theorem dd_Md_quarrel_65 : decode bb_Md_quarrel 65 = .ok (.iload 6, 2) := by decide +kernel
theorem dd_Md_quarrel_67 : decode bb_Md_quarrel 67 = .ok (.ifCond .eq 27, 3) := by decide +kernel
theorem dd_Md_quarrel_70 : decode bb_Md_quarrel 70 = .ok (.aload_n 0, 1) := by decide +kernel
theorem dd_Md_quarrel_71 : decode bb_Md_quarrel 71 = .ok (.iload_n 1, 1) := by decide +kernel
theorem dd_Md_quarrel_72 : decode bb_Md_quarrel 72 = .ok (.iload 5, 2) := by decide +kernel
theorem dd_Md_quarrel_74 : decode bb_Md_quarrel 74 = .ok (.invokevirtual 123, 3) := by decide +kernel
theorem dd_Md_quarrel_77 : decode bb_Md_quarrel 77 = .ok (.ifCond .ne 13, 3) := by decide +kernel
theorem dd_Md_quarrel_80 : decode bb_Md_quarrel 80 = .ok (.aload_n 0, 1) := by decide +kernel
theorem dd_Md_quarrel_81 : decode bb_Md_quarrel 81 = .ok (.iload_n 2, 1) := by decide +kernel
theorem dd_Md_quarrel_82 : decode bb_Md_quarrel 82 = .ok (.iload 5, 2) := by decide +kernel
theorem dd_Md_quarrel_84 : decode bb_Md_quarrel 84 = .ok (.invokevirtual 123, 3) := by decide +kernel
theorem dd_Md_quarrel_87 : decode bb_Md_quarrel 87 = .ok (.ifCond .eq 7, 3) := by decide +kernel
theorem dd_Md_quarrel_90 : decode bb_Md_quarrel 90 = .ok (.iconst 1, 1) := by decide +kernel
theorem dd_Md_quarrel_91 : decode bb_Md_quarrel 91 = .ok (.goto 4, 3) := by decide +kernel
theorem dd_Md_quarrel_94 : decode bb_Md_quarrel 94 = .ok (.iconst 0, 1) := by decide +kernel
theorem dd_Md_quarrel_95 : decode bb_Md_quarrel 95 = .ok (.istore 4, 2) := by decide +kernel
theorem dd_Md_quarrel_97 : decode bb_Md_quarrel 97 = .ok (.iload 5, 2) := by decide +kernel
theorem dd_Md_quarrel_99 : decode bb_Md_quarrel 99 = .ok (.aload_n 0, 1) := by decide +kernel
theorem dd_Md_quarrel_100 : decode bb_Md_quarrel 100 = .ok (.getfield 104, 3) := by decide +kernel
theorem dd_Md_quarrel_103 : decode bb_Md_quarrel 103 = .ok (.iadd, 1) := by decide +kernel
theorem dd_Md_quarrel_104 : decode bb_Md_quarrel 104 = .ok (.istore 5, 2) := by decide +kernel
theorem dd_Md_quarrel_106 : decode bb_Md_quarrel 106 = .ok (.goto (-100), 3) := by decide +kernel
theorem dd_Md_quarrel_109 : decode bb_Md_quarrel 109 = .ok (.iload 4, 2) := by decide +kernel
theorem dd_Md_quarrel_111 : decode bb_Md_quarrel 111 = .ok (.ireturn, 1) := by decide +kernel
def zk_Md_quarrel : Room := { frames := 2, cells := 0, slots := 0, locals := 42 }
abbrev zA_Md_quarrel (p : Program) (l : Launch) (e : Env) (s : State) (m : MethodId) (args : Array Value) (below : List Frame) (meth : Method) (c : Code) (G : zs_G) (Q : zs_Q) (pc : Nat) (P : zs_P) : Prop := zs_At p l e zk_Md_quarrel s m args below meth c (MQ below (zs_Qc G Q) args s 0 0 (fun q => zg_z G ≤ q)) G 7 pc P
def zb_Md_quarrel_109 (Q : zs_Q) : zs_P := zt_ild 4 (zt_zrt 0 0 Q)
def zb_Md_quarrel_95 (Q : zs_Q) (K6 : zs_P) : zs_P := zt_ist 4 (zt_ild 5 (zt_ald 0 (zt_gtI 8 0 (zt_bin (fun x y => x + y) (zt_ist 5 (K6))))))
def zb_Md_quarrel_90 (Q : zs_Q) (K6 : zs_P) : zs_P := zt_psh 1 ((zb_Md_quarrel_95 Q K6))
def zb_Md_quarrel_94 (Q : zs_Q) (K6 : zs_P) : zs_P := zt_psh 0 ((zb_Md_quarrel_95 Q K6))
def zb_Md_quarrel_80 (Q : zs_Q) (K6 : zs_P) : zs_P := zt_ald 0 (zt_ild 2 (zt_ild 5 (zt_cav 8 zw_Md_writes (2 + 1) 0 0 0 0 (zt_if (fun x => x = 0) (zb_Md_quarrel_94 Q K6) (zb_Md_quarrel_90 Q K6)))))
def zb_Md_quarrel_70 (Q : zs_Q) (K6 : zs_P) : zs_P := zt_ald 0 (zt_ild 1 (zt_ild 5 (zt_cav 8 zw_Md_writes (2 + 1) 0 0 0 0 (zt_if (fun x => x = 0) (zb_Md_quarrel_80 Q K6) (zb_Md_quarrel_90 Q K6)))))
def zb_Md_quarrel_65 (Q : zs_Q) (K6 : zs_P) : zs_P := zt_ild 6 (zt_if (fun x => x = 0) (zb_Md_quarrel_94 Q K6) (zb_Md_quarrel_70 Q K6))
def zb_Md_quarrel_58 (Q : zs_Q) (K6 : zs_P) : zs_P := zt_ist 6 (zt_ild 4 (zt_if (fun x => x = 0) (zb_Md_quarrel_65 Q K6) (zb_Md_quarrel_90 Q K6)))
def zb_Md_quarrel_53 (Q : zs_Q) (K6 : zs_P) : zs_P := zt_psh 1 ((zb_Md_quarrel_58 Q K6))
def zb_Md_quarrel_57 (Q : zs_Q) (K6 : zs_P) : zs_P := zt_psh 0 ((zb_Md_quarrel_58 Q K6))
def zb_Md_quarrel_43 (Q : zs_Q) (K6 : zs_P) : zs_P := zt_ald 0 (zt_ild 2 (zt_ild 5 (zt_cav 8 zw_Md_writes (2 + 1) 0 0 0 0 (zt_if (fun x => x = 0) (zb_Md_quarrel_57 Q K6) (zb_Md_quarrel_53 Q K6)))))
def zb_Md_quarrel_33 (Q : zs_Q) (K6 : zs_P) : zs_P := zt_ald 0 (zt_ild 2 (zt_ild 5 (zt_cav 8 zw_Md_reads (2 + 1) 0 0 0 0 (zt_if (fun x => x = 0) (zb_Md_quarrel_43 Q K6) (zb_Md_quarrel_53 Q K6)))))
def zb_Md_quarrel_23 (Q : zs_Q) (K6 : zs_P) : zs_P := zt_ald 0 (zt_ild 1 (zt_ild 5 (zt_cav 8 zw_Md_writes (2 + 1) 0 0 0 0 (zt_if (fun x => x = 0) (zb_Md_quarrel_57 Q K6) (zb_Md_quarrel_33 Q K6)))))
def zb_Md_quarrel_13 (Q : zs_Q) (K6 : zs_P) : zs_P := zt_ald 0 (zt_ild 1 (zt_ild 5 (zt_cav 8 zw_Md_reads (2 + 1) 0 0 0 0 (zt_if (fun x => x = 0) (zb_Md_quarrel_23 Q K6) (zb_Md_quarrel_33 Q K6)))))
def zb_Md_quarrel_6 (Q : zs_Q) (K6 : zs_P) : zs_P := zt_ild 5 (zt_psh 12 (zt_cmp (fun x y => y ≤ x) (zb_Md_quarrel_109 Q) (zb_Md_quarrel_13 Q K6)))
def zl_Md_quarrel_6 (Q : zs_Q) : zs_P := zt_ex (zb_Md_quarrel_6 Q)
def zb_Md_quarrel_0 (Q : zs_Q) : zs_P := zt_psh 0 (zt_ist 4 (zt_ild 3 (zt_ist 5 ((zl_Md_quarrel_6 Q)))))
def zw_Md_quarrel : zs_W := fun As σ Q => match As with
  | [a0, a1, a2, a3] => zs_c1 [a0, a1, a2, a3] = true ∧ zb_Md_quarrel_0 Q [some a0, some a1, some a2, some a3, none, none, none] [] σ 0 0
  | _ => False
section
variable {p : Program} {l : Launch} {e : Env} {s : State} {m : MethodId} {args : Array Value} {below : List Frame} {meth : Method} {c : Code} {G : zs_G} {Q : zs_Q}
theorem zr_Md_quarrel_109 (B : zs_B p s m args meth c G bb_Md_quarrel 7 yy_Md_quarrel (some .boolean)) : zA_Md_quarrel p l e s m args below meth c G Q 109 (zb_Md_quarrel_109 Q) := by
  unfold zb_Md_quarrel_109
  refine za_ild B.1 dd_Md_quarrel_109 ?_
  exact za_zrt B.1 0 0 B.2.1 B.2.2.1 dd_Md_quarrel_111
theorem zr_Md_quarrel_95 (B : zs_B p s m args meth c G bb_Md_quarrel 7 yy_Md_quarrel (some .boolean)) {K6 : zs_P} (h6 : zA_Md_quarrel p l e s m args below meth c G Q 6 K6) : zA_Md_quarrel p l e s m args below meth c G Q 95 (zb_Md_quarrel_95 Q K6) := by
  unfold zb_Md_quarrel_95
  refine za_ist B.1 dd_Md_quarrel_95 (by decide) ?_
  refine za_ild B.1 dd_Md_quarrel_97 ?_
  refine za_ald_n B.1 0 dd_Md_quarrel_99 rfl ?_
  refine za_gtI B.1 8 0 zi_8 rfl (by decide) (by decide) rfl zW_456 rfl dd_Md_quarrel_100 ?_
  refine za_add B.1 dd_Md_quarrel_103 ?_
  refine za_ist B.1 dd_Md_quarrel_104 (by decide) ?_
  refine za_goto B.1 6 dd_Md_quarrel_106 (by decide) ?_
  exact h6
theorem zr_Md_quarrel_90 (B : zs_B p s m args meth c G bb_Md_quarrel 7 yy_Md_quarrel (some .boolean)) {K6 : zs_P} (h6 : zA_Md_quarrel p l e s m args below meth c G Q 6 K6) : zA_Md_quarrel p l e s m args below meth c G Q 90 (zb_Md_quarrel_90 Q K6) := by
  unfold zb_Md_quarrel_90
  refine za_ico B.1 1 dd_Md_quarrel_90 (by decide) ?_
  refine za_goto B.1 95 dd_Md_quarrel_91 (by decide) ?_
  exact (zr_Md_quarrel_95 B h6)
theorem zr_Md_quarrel_94 (B : zs_B p s m args meth c G bb_Md_quarrel 7 yy_Md_quarrel (some .boolean)) {K6 : zs_P} (h6 : zA_Md_quarrel p l e s m args below meth c G Q 6 K6) : zA_Md_quarrel p l e s m args below meth c G Q 94 (zb_Md_quarrel_94 Q K6) := by
  unfold zb_Md_quarrel_94
  refine za_ico B.1 0 dd_Md_quarrel_94 (by decide) ?_
  exact (zr_Md_quarrel_95 B h6)
theorem zr_Md_quarrel_80 (B : zs_B p s m args meth c G bb_Md_quarrel 7 yy_Md_quarrel (some .boolean)) {K6 : zs_P} (h6 : zA_Md_quarrel p l e s m args below meth c G Q 6 K6) : zA_Md_quarrel p l e s m args below meth c G Q 80 (zb_Md_quarrel_80 Q K6) := by
  unfold zb_Md_quarrel_80
  refine za_ald_n B.1 0 dd_Md_quarrel_80 rfl ?_
  refine za_ild_n B.1 2 dd_Md_quarrel_81 rfl ?_
  refine za_ild B.1 dd_Md_quarrel_82 ?_
  refine za_cV B.1 8 2 0 0 0 0 rfl rfl rfl (by decide) (zm_Md_writes l G) ⟨callB_of 2 B.1.1.2.2.2.2 (zs_good zW_559) rfl rfl rfl (B.1.1.2.2.2.2 _ zW_8) (B.1.1.2.2.2.2 _ zW_557) (by decide +kernel) ⟨by decide, by decide⟩, (B.1.1.2.2.2.2 _ zW_558), (B.1.1.2.2.2.2 _ zW_686)⟩ dd_Md_quarrel_84 ?_
  exact za_if_eq B.1 94 dd_Md_quarrel_87 (by decide) (zr_Md_quarrel_94 B h6) (zr_Md_quarrel_90 B h6)
theorem zr_Md_quarrel_70 (B : zs_B p s m args meth c G bb_Md_quarrel 7 yy_Md_quarrel (some .boolean)) {K6 : zs_P} (h6 : zA_Md_quarrel p l e s m args below meth c G Q 6 K6) : zA_Md_quarrel p l e s m args below meth c G Q 70 (zb_Md_quarrel_70 Q K6) := by
  unfold zb_Md_quarrel_70
  refine za_ald_n B.1 0 dd_Md_quarrel_70 rfl ?_
  refine za_ild_n B.1 1 dd_Md_quarrel_71 rfl ?_
  refine za_ild B.1 dd_Md_quarrel_72 ?_
  refine za_cV B.1 8 2 0 0 0 0 rfl rfl rfl (by decide) (zm_Md_writes l G) ⟨callB_of 2 B.1.1.2.2.2.2 (zs_good zW_559) rfl rfl rfl (B.1.1.2.2.2.2 _ zW_8) (B.1.1.2.2.2.2 _ zW_557) (by decide +kernel) ⟨by decide, by decide⟩, (B.1.1.2.2.2.2 _ zW_558), (B.1.1.2.2.2.2 _ zW_686)⟩ dd_Md_quarrel_74 ?_
  exact za_if_ne B.1 90 dd_Md_quarrel_77 (by decide) (zr_Md_quarrel_80 B h6) (zr_Md_quarrel_90 B h6)
theorem zr_Md_quarrel_65 (B : zs_B p s m args meth c G bb_Md_quarrel 7 yy_Md_quarrel (some .boolean)) {K6 : zs_P} (h6 : zA_Md_quarrel p l e s m args below meth c G Q 6 K6) : zA_Md_quarrel p l e s m args below meth c G Q 65 (zb_Md_quarrel_65 Q K6) := by
  unfold zb_Md_quarrel_65
  refine za_ild B.1 dd_Md_quarrel_65 ?_
  exact za_if_eq B.1 94 dd_Md_quarrel_67 (by decide) (zr_Md_quarrel_94 B h6) (zr_Md_quarrel_70 B h6)
theorem zr_Md_quarrel_58 (B : zs_B p s m args meth c G bb_Md_quarrel 7 yy_Md_quarrel (some .boolean)) {K6 : zs_P} (h6 : zA_Md_quarrel p l e s m args below meth c G Q 6 K6) : zA_Md_quarrel p l e s m args below meth c G Q 58 (zb_Md_quarrel_58 Q K6) := by
  unfold zb_Md_quarrel_58
  refine za_ist B.1 dd_Md_quarrel_58 (by decide) ?_
  refine za_ild B.1 dd_Md_quarrel_60 ?_
  exact za_if_ne B.1 90 dd_Md_quarrel_62 (by decide) (zr_Md_quarrel_65 B h6) (zr_Md_quarrel_90 B h6)
theorem zr_Md_quarrel_53 (B : zs_B p s m args meth c G bb_Md_quarrel 7 yy_Md_quarrel (some .boolean)) {K6 : zs_P} (h6 : zA_Md_quarrel p l e s m args below meth c G Q 6 K6) : zA_Md_quarrel p l e s m args below meth c G Q 53 (zb_Md_quarrel_53 Q K6) := by
  unfold zb_Md_quarrel_53
  refine za_ico B.1 1 dd_Md_quarrel_53 (by decide) ?_
  refine za_goto B.1 58 dd_Md_quarrel_54 (by decide) ?_
  exact (zr_Md_quarrel_58 B h6)
theorem zr_Md_quarrel_57 (B : zs_B p s m args meth c G bb_Md_quarrel 7 yy_Md_quarrel (some .boolean)) {K6 : zs_P} (h6 : zA_Md_quarrel p l e s m args below meth c G Q 6 K6) : zA_Md_quarrel p l e s m args below meth c G Q 57 (zb_Md_quarrel_57 Q K6) := by
  unfold zb_Md_quarrel_57
  refine za_ico B.1 0 dd_Md_quarrel_57 (by decide) ?_
  exact (zr_Md_quarrel_58 B h6)
theorem zr_Md_quarrel_43 (B : zs_B p s m args meth c G bb_Md_quarrel 7 yy_Md_quarrel (some .boolean)) {K6 : zs_P} (h6 : zA_Md_quarrel p l e s m args below meth c G Q 6 K6) : zA_Md_quarrel p l e s m args below meth c G Q 43 (zb_Md_quarrel_43 Q K6) := by
  unfold zb_Md_quarrel_43
  refine za_ald_n B.1 0 dd_Md_quarrel_43 rfl ?_
  refine za_ild_n B.1 2 dd_Md_quarrel_44 rfl ?_
  refine za_ild B.1 dd_Md_quarrel_45 ?_
  refine za_cV B.1 8 2 0 0 0 0 rfl rfl rfl (by decide) (zm_Md_writes l G) ⟨callB_of 2 B.1.1.2.2.2.2 (zs_good zW_559) rfl rfl rfl (B.1.1.2.2.2.2 _ zW_8) (B.1.1.2.2.2.2 _ zW_557) (by decide +kernel) ⟨by decide, by decide⟩, (B.1.1.2.2.2.2 _ zW_558), (B.1.1.2.2.2.2 _ zW_686)⟩ dd_Md_quarrel_47 ?_
  exact za_if_eq B.1 57 dd_Md_quarrel_50 (by decide) (zr_Md_quarrel_57 B h6) (zr_Md_quarrel_53 B h6)
theorem zr_Md_quarrel_33 (B : zs_B p s m args meth c G bb_Md_quarrel 7 yy_Md_quarrel (some .boolean)) {K6 : zs_P} (h6 : zA_Md_quarrel p l e s m args below meth c G Q 6 K6) : zA_Md_quarrel p l e s m args below meth c G Q 33 (zb_Md_quarrel_33 Q K6) := by
  unfold zb_Md_quarrel_33
  refine za_ald_n B.1 0 dd_Md_quarrel_33 rfl ?_
  refine za_ild_n B.1 2 dd_Md_quarrel_34 rfl ?_
  refine za_ild B.1 dd_Md_quarrel_35 ?_
  refine za_cV B.1 8 2 0 0 0 0 rfl rfl rfl (by decide) (zm_Md_reads l G) ⟨callB_of 2 B.1.1.2.2.2.2 (zs_good zW_553) rfl rfl rfl (B.1.1.2.2.2.2 _ zW_8) (B.1.1.2.2.2.2 _ zW_551) (by decide +kernel) ⟨by decide, by decide⟩, (B.1.1.2.2.2.2 _ zW_552), (B.1.1.2.2.2.2 _ zW_684)⟩ dd_Md_quarrel_37 ?_
  exact za_if_ne B.1 53 dd_Md_quarrel_40 (by decide) (zr_Md_quarrel_43 B h6) (zr_Md_quarrel_53 B h6)
theorem zr_Md_quarrel_23 (B : zs_B p s m args meth c G bb_Md_quarrel 7 yy_Md_quarrel (some .boolean)) {K6 : zs_P} (h6 : zA_Md_quarrel p l e s m args below meth c G Q 6 K6) : zA_Md_quarrel p l e s m args below meth c G Q 23 (zb_Md_quarrel_23 Q K6) := by
  unfold zb_Md_quarrel_23
  refine za_ald_n B.1 0 dd_Md_quarrel_23 rfl ?_
  refine za_ild_n B.1 1 dd_Md_quarrel_24 rfl ?_
  refine za_ild B.1 dd_Md_quarrel_25 ?_
  refine za_cV B.1 8 2 0 0 0 0 rfl rfl rfl (by decide) (zm_Md_writes l G) ⟨callB_of 2 B.1.1.2.2.2.2 (zs_good zW_559) rfl rfl rfl (B.1.1.2.2.2.2 _ zW_8) (B.1.1.2.2.2.2 _ zW_557) (by decide +kernel) ⟨by decide, by decide⟩, (B.1.1.2.2.2.2 _ zW_558), (B.1.1.2.2.2.2 _ zW_686)⟩ dd_Md_quarrel_27 ?_
  exact za_if_eq B.1 57 dd_Md_quarrel_30 (by decide) (zr_Md_quarrel_57 B h6) (zr_Md_quarrel_33 B h6)
theorem zr_Md_quarrel_13 (B : zs_B p s m args meth c G bb_Md_quarrel 7 yy_Md_quarrel (some .boolean)) {K6 : zs_P} (h6 : zA_Md_quarrel p l e s m args below meth c G Q 6 K6) : zA_Md_quarrel p l e s m args below meth c G Q 13 (zb_Md_quarrel_13 Q K6) := by
  unfold zb_Md_quarrel_13
  refine za_ald_n B.1 0 dd_Md_quarrel_13 rfl ?_
  refine za_ild_n B.1 1 dd_Md_quarrel_14 rfl ?_
  refine za_ild B.1 dd_Md_quarrel_15 ?_
  refine za_cV B.1 8 2 0 0 0 0 rfl rfl rfl (by decide) (zm_Md_reads l G) ⟨callB_of 2 B.1.1.2.2.2.2 (zs_good zW_553) rfl rfl rfl (B.1.1.2.2.2.2 _ zW_8) (B.1.1.2.2.2.2 _ zW_551) (by decide +kernel) ⟨by decide, by decide⟩, (B.1.1.2.2.2.2 _ zW_552), (B.1.1.2.2.2.2 _ zW_684)⟩ dd_Md_quarrel_17 ?_
  exact za_if_ne B.1 33 dd_Md_quarrel_20 (by decide) (zr_Md_quarrel_23 B h6) (zr_Md_quarrel_33 B h6)
theorem zr_Md_quarrel_6 (B : zs_B p s m args meth c G bb_Md_quarrel 7 yy_Md_quarrel (some .boolean)) {K6 : zs_P} (h6 : zA_Md_quarrel p l e s m args below meth c G Q 6 K6) : zA_Md_quarrel p l e s m args below meth c G Q 6 (zb_Md_quarrel_6 Q K6) := by
  unfold zb_Md_quarrel_6
  refine za_ild B.1 dd_Md_quarrel_6 ?_
  refine za_bip B.1 12 dd_Md_quarrel_8 (by decide) ?_
  exact za_cmp_ge B.1 109 dd_Md_quarrel_10 (by decide) (zr_Md_quarrel_109 B) (zr_Md_quarrel_13 B h6)
theorem zq_Md_quarrel_6 (B : zs_B p s m args meth c G bb_Md_quarrel 7 yy_Md_quarrel (some .boolean)) : zA_Md_quarrel p l e s m args below meth c G Q 6 (zl_Md_quarrel_6 Q) := za_lop (fun K hK => zr_Md_quarrel_6 B hK)
theorem zr_Md_quarrel_0 (B : zs_B p s m args meth c G bb_Md_quarrel 7 yy_Md_quarrel (some .boolean)) : zA_Md_quarrel p l e s m args below meth c G Q 0 (zb_Md_quarrel_0 Q) := by
  unfold zb_Md_quarrel_0
  refine za_ico B.1 0 dd_Md_quarrel_0 (by decide) ?_
  refine za_ist B.1 dd_Md_quarrel_1 (by decide) ?_
  refine za_ild_n B.1 3 dd_Md_quarrel_3 rfl ?_
  refine za_ist B.1 dd_Md_quarrel_4 (by decide) ?_
  exact (zq_Md_quarrel_6 B)
end
theorem zm_Md_quarrel (l : Launch) (G : zs_G) (As : List Value) (σ : zs_S) (Q : zs_Q) (h : zw_Md_quarrel As σ Q) : zs_Met l yy_Md_quarrel (Cond.code yy_Md_quarrel bb_Md_quarrel 7 (some .boolean) :: zw_all) zk_Md_quarrel G As σ Q 0 0 := by
  unfold zw_Md_quarrel at h
  split at h
  · exact zs_enter (by decide +kernel) h.1 (Nat.le_of_ble_eq_true rfl) h.2 (fun p e s m args below meth c B => zr_Md_quarrel_0 B)
  · exact h.elim
-- SequencedBatchesModel.isReady(III)Z
theorem dd_Md_isReady_0 : decode bb_Md_isReady 0 = .ok (.aload_n 0, 1) := by decide +kernel
theorem dd_Md_isReady_1 : decode bb_Md_isReady 1 = .ok (.iload_n 1, 1) := by decide +kernel
theorem dd_Md_isReady_2 : decode bb_Md_isReady 2 = .ok (.iload_n 2, 1) := by decide +kernel
theorem dd_Md_isReady_3 : decode bb_Md_isReady 3 = .ok (.iload_n 3, 1) := by decide +kernel
theorem dd_Md_isReady_4 : decode bb_Md_isReady 4 = .ok (.invokevirtual 189, 3) := by decide +kernel
theorem dd_Md_isReady_7 : decode bb_Md_isReady 7 = .ok (.ifCond .eq 23, 3) := by decide +kernel
theorem dd_Md_isReady_10 : decode bb_Md_isReady 10 = .ok (.aload_n 0, 1) := by decide +kernel
theorem dd_Md_isReady_11 : decode bb_Md_isReady 11 = .ok (.getfield 86, 3) := by decide +kernel
theorem dd_Md_isReady_14 : decode bb_Md_isReady 14 = .ok (.aload_n 0, 1) := by decide +kernel
theorem dd_Md_isReady_15 : decode bb_Md_isReady 15 = .ok (.iload_n 1, 1) := by decide +kernel
theorem dd_Md_isReady_16 : decode bb_Md_isReady 16 = .ok (.iload_n 2, 1) := by decide +kernel
theorem dd_Md_isReady_17 : decode bb_Md_isReady 17 = .ok (.aload_n 0, 1) := by decide +kernel
theorem dd_Md_isReady_18 : decode bb_Md_isReady 18 = .ok (.getfield 101, 3) := by decide +kernel
theorem dd_Md_isReady_21 : decode bb_Md_isReady 21 = .ok (.iload_n 3, 1) := by decide +kernel
theorem dd_Md_isReady_22 : decode bb_Md_isReady 22 = .ok (.iaload, 1) := by decide +kernel
theorem dd_Md_isReady_23 : decode bb_Md_isReady 23 = .ok (.invokevirtual 185, 3) := by decide +kernel
theorem dd_Md_isReady_26 : decode bb_Md_isReady 26 = .ok (.baload, 1) := by decide +kernel
theorem dd_Md_isReady_27 : decode bb_Md_isReady 27 = .ok (.ifCond .eq 5, 3) := by decide +kernel
theorem dd_Md_isReady_30 : decode bb_Md_isReady 30 = .ok (.iconst 0, 1) := by decide +kernel
theorem dd_Md_isReady_31 : decode bb_Md_isReady 31 = .ok (.ireturn, 1) := by decide +kernel
theorem dd_Md_isReady_32 : decode bb_Md_isReady 32 = .ok (.iconst 1, 1) := by decide +kernel
theorem dd_Md_isReady_33 : decode bb_Md_isReady 33 = .ok (.istore 4, 2) := by decide +kernel
theorem dd_Md_isReady_35 : decode bb_Md_isReady 35 = .ok (.aload_n 0, 1) := by decide +kernel
theorem dd_Md_isReady_36 : decode bb_Md_isReady 36 = .ok (.getfield 80, 3) := by decide +kernel
theorem dd_Md_isReady_39 : decode bb_Md_isReady 39 = .ok (.iload_n 1, 1) := by decide +kernel
theorem dd_Md_isReady_40 : decode bb_Md_isReady 40 = .ok (.iaload, 1) := by decide +kernel
theorem dd_Md_isReady_41 : decode bb_Md_isReady 41 = .ok (.istore 5, 2) := by decide +kernel
theorem dd_Md_isReady_43 : decode bb_Md_isReady 43 = .ok (.iload 5, 2) := by decide +kernel
theorem dd_Md_isReady_45 : decode bb_Md_isReady 45 = .ok (.iload_n 3, 1) := by decide +kernel
theorem dd_Md_isReady_46 : decode bb_Md_isReady 46 = .ok (.if_icmp .ge 63, 3) := by decide +kernel
theorem dd_Md_isReady_49 : decode bb_Md_isReady 49 = .ok (.iload 4, 2) := by decide +kernel
theorem dd_Md_isReady_51 : decode bb_Md_isReady 51 = .ok (.ifCond .eq 58, 3) := by decide +kernel
theorem dd_Md_isReady_54 : decode bb_Md_isReady 54 = .ok (.aload_n 0, 1) := by decide +kernel
theorem dd_Md_isReady_55 : decode bb_Md_isReady 55 = .ok (.getfield 89, 3) := by decide +kernel
theorem dd_Md_isReady_58 : decode bb_Md_isReady 58 = .ok (.aload_n 0, 1) := by decide +kernel
theorem dd_Md_isReady_59 : decode bb_Md_isReady 59 = .ok (.iload_n 1, 1) := by decide +kernel
theorem dd_Md_isReady_60 : decode bb_Md_isReady 60 = .ok (.iload_n 2, 1) := by decide +kernel
theorem dd_Md_isReady_61 : decode bb_Md_isReady 61 = .ok (.aload_n 0, 1) := by decide +kernel
theorem dd_Md_isReady_62 : decode bb_Md_isReady 62 = .ok (.getfield 101, 3) := by decide +kernel
theorem dd_Md_isReady_65 : decode bb_Md_isReady 65 = .ok (.iload 5, 2) := by decide +kernel
theorem dd_Md_isReady_67 : decode bb_Md_isReady 67 = .ok (.iaload, 1) := by decide +kernel
theorem dd_Md_isReady_68 : decode bb_Md_isReady 68 = .ok (.invokevirtual 185, 3) := by decide +kernel
theorem dd_Md_isReady_71 : decode bb_Md_isReady 71 = .ok (.baload, 1) := by decide +kernel
theorem dd_Md_isReady_72 : decode bb_Md_isReady 72 = .ok (.ifCond .ne 24, 3) := by decide +kernel
theorem dd_Md_isReady_75 : decode bb_Md_isReady 75 = .ok (.aload_n 0, 1) := by decide +kernel
theorem dd_Md_isReady_76 : decode bb_Md_isReady 76 = .ok (.aload_n 0, 1) := by decide +kernel
theorem dd_Md_isReady_77 : decode bb_Md_isReady 77 = .ok (.getfield 101, 3) := by decide +kernel
theorem dd_Md_isReady_80 : decode bb_Md_isReady 80 = .ok (.iload_n 3, 1) := by decide +kernel
theorem dd_Md_isReady_81 : decode bb_Md_isReady 81 = .ok (.iaload, 1) := by decide +kernel
theorem dd_Md_isReady_82 : decode bb_Md_isReady 82 = .ok (.aload_n 0, 1) := by decide +kernel
theorem dd_Md_isReady_83 : decode bb_Md_isReady 83 = .ok (.getfield 101, 3) := by decide +kernel
theorem dd_Md_isReady_86 : decode bb_Md_isReady 86 = .ok (.iload 5, 2) := by decide +kernel
theorem dd_Md_isReady_88 : decode bb_Md_isReady 88 = .ok (.iaload, 1) := by decide +kernel
theorem dd_Md_isReady_89 : decode bb_Md_isReady 89 = .ok (.iload_n 2, 1) := by decide +kernel
theorem dd_Md_isReady_90 : decode bb_Md_isReady 90 = .ok (.invokevirtual 205, 3) := by decide +kernel
theorem dd_Md_isReady_93 : decode bb_Md_isReady 93 = .ok (.ifCond .ne 7, 3) := by decide +kernel
theorem dd_Md_isReady_96 : decode bb_Md_isReady 96 = .ok (.iconst 1, 1) := by decide +kernel
theorem dd_Md_isReady_97 : decode bb_Md_isReady 97 = .ok (.goto 4, 3) := by decide +kernel
theorem dd_Md_isReady_100 : decode bb_Md_isReady 100 = .ok (.iconst 0, 1) := by decide +kernel
theorem dd_Md_isReady_101 : decode bb_Md_isReady 101 = .ok (.istore 4, 2) := by decide +kernel
theorem dd_Md_isReady_103 : decode bb_Md_isReady 103 = .ok (.iinc 5 1, 3) := by decide +kernel
theorem dd_Md_isReady_106 : decode bb_Md_isReady 106 = .ok (.goto (-63), 3) := by decide +kernel
theorem dd_Md_isReady_109 : decode bb_Md_isReady 109 = .ok (.iload 4, 2) := by decide +kernel
theorem dd_Md_isReady_111 : decode bb_Md_isReady 111 = .ok (.ireturn, 1) := by decide +kernel
def zk_Md_isReady : Room := { frames := 3, cells := 0, slots := 0, locals := 68 }
abbrev zA_Md_isReady (p : Program) (l : Launch) (e : Env) (s : State) (m : MethodId) (args : Array Value) (below : List Frame) (meth : Method) (c : Code) (G : zs_G) (Q : zs_Q) (pc : Nat) (P : zs_P) : Prop := zs_At p l e zk_Md_isReady s m args below meth c (MQ below (zs_Qc G Q) args s 0 0 (fun q => zg_z G ≤ q)) G 6 pc P
def zb_Md_isReady_30 (Q : zs_Q) : zs_P := zt_psh 0 (zt_zrt 0 0 Q)
def zb_Md_isReady_109 (Q : zs_Q) : zs_P := zt_ild 4 (zt_zrt 0 0 Q)
def zb_Md_isReady_101 (Q : zs_Q) (K43 : zs_P) : zs_P := zt_ist 4 (zt_inc 5 1 (K43))
def zb_Md_isReady_96 (Q : zs_Q) (K43 : zs_P) : zs_P := zt_psh 1 ((zb_Md_isReady_101 Q K43))
def zb_Md_isReady_100 (Q : zs_Q) (K43 : zs_P) : zs_P := zt_psh 0 ((zb_Md_isReady_101 Q K43))
def zb_Md_isReady_75 (Q : zs_Q) (K43 : zs_P) : zs_P := zt_ald 0 (zt_ald 0 (zt_gtR 8 33 (zt_ild 3 (zt_xld 100 (zt_ald 0 (zt_gtR 8 33 (zt_ild 5 (zt_xld 100 (zt_ild 2 (zt_cav 8 zw_Md_quarrel (3 + 1) 0 0 0 0 (zt_if (fun x => x = 0) (zb_Md_isReady_96 Q K43) (zb_Md_isReady_100 Q K43))))))))))))
def zb_Md_isReady_54 (Q : zs_Q) (K43 : zs_P) : zs_P := zt_ald 0 (zt_gtR 8 29 (zt_ald 0 (zt_ild 1 (zt_ild 2 (zt_ald 0 (zt_gtR 8 33 (zt_ild 5 (zt_xld 100 (zt_cav 8 zw_Md_place (3 + 1) 0 0 0 0 (zt_xld 101 (zt_if (fun x => x = 0) (zb_Md_isReady_75 Q K43) (zb_Md_isReady_96 Q K43))))))))))))
def zb_Md_isReady_49 (Q : zs_Q) (K43 : zs_P) : zs_P := zt_ild 4 (zt_if (fun x => x = 0) (zb_Md_isReady_109 Q) (zb_Md_isReady_54 Q K43))
def zb_Md_isReady_43 (Q : zs_Q) (K43 : zs_P) : zs_P := zt_ild 5 (zt_ild 3 (zt_cmp (fun x y => y ≤ x) (zb_Md_isReady_109 Q) (zb_Md_isReady_49 Q K43)))
def zl_Md_isReady_43 (Q : zs_Q) : zs_P := zt_ex (zb_Md_isReady_43 Q)
def zb_Md_isReady_32 (Q : zs_Q) : zs_P := zt_psh 1 (zt_ist 4 (zt_ald 0 (zt_gtR 8 26 (zt_ild 1 (zt_xld 100 (zt_ist 5 ((zl_Md_isReady_43 Q))))))))
def zb_Md_isReady_10 (Q : zs_Q) : zs_P := zt_ald 0 (zt_gtR 8 28 (zt_ald 0 (zt_ild 1 (zt_ild 2 (zt_ald 0 (zt_gtR 8 33 (zt_ild 3 (zt_xld 100 (zt_cav 8 zw_Md_place (3 + 1) 0 0 0 0 (zt_xld 101 (zt_if (fun x => x = 0) (zb_Md_isReady_32 Q) (zb_Md_isReady_30 Q))))))))))))
def zb_Md_isReady_0 (Q : zs_Q) : zs_P := zt_ald 0 (zt_ild 1 (zt_ild 2 (zt_ild 3 (zt_cav 8 zw_Md_pending (3 + 1) 0 0 0 0 (zt_if (fun x => x = 0) (zb_Md_isReady_30 Q) (zb_Md_isReady_10 Q))))))
def zw_Md_isReady : zs_W := fun As σ Q => match As with
  | [a0, a1, a2, a3] => zs_c1 [a0, a1, a2, a3] = true ∧ zb_Md_isReady_0 Q [some a0, some a1, some a2, some a3, none, none] [] σ 0 0
  | _ => False
section
variable {p : Program} {l : Launch} {e : Env} {s : State} {m : MethodId} {args : Array Value} {below : List Frame} {meth : Method} {c : Code} {G : zs_G} {Q : zs_Q}
theorem zr_Md_isReady_30 (B : zs_B p s m args meth c G bb_Md_isReady 6 yy_Md_isReady (some .boolean)) : zA_Md_isReady p l e s m args below meth c G Q 30 (zb_Md_isReady_30 Q) := by
  unfold zb_Md_isReady_30
  refine za_ico B.1 0 dd_Md_isReady_30 (by decide) ?_
  exact za_zrt B.1 0 0 B.2.1 B.2.2.1 dd_Md_isReady_31
theorem zr_Md_isReady_109 (B : zs_B p s m args meth c G bb_Md_isReady 6 yy_Md_isReady (some .boolean)) : zA_Md_isReady p l e s m args below meth c G Q 109 (zb_Md_isReady_109 Q) := by
  unfold zb_Md_isReady_109
  refine za_ild B.1 dd_Md_isReady_109 ?_
  exact za_zrt B.1 0 0 B.2.1 B.2.2.1 dd_Md_isReady_111
theorem zr_Md_isReady_101 (B : zs_B p s m args meth c G bb_Md_isReady 6 yy_Md_isReady (some .boolean)) {K43 : zs_P} (h43 : zA_Md_isReady p l e s m args below meth c G Q 43 K43) : zA_Md_isReady p l e s m args below meth c G Q 101 (zb_Md_isReady_101 Q K43) := by
  unfold zb_Md_isReady_101
  refine za_ist B.1 dd_Md_isReady_101 (by decide) ?_
  refine za_inc B.1 1 dd_Md_isReady_103 (by decide) (by decide) ?_
  refine za_goto B.1 43 dd_Md_isReady_106 (by decide) ?_
  exact h43
theorem zr_Md_isReady_96 (B : zs_B p s m args meth c G bb_Md_isReady 6 yy_Md_isReady (some .boolean)) {K43 : zs_P} (h43 : zA_Md_isReady p l e s m args below meth c G Q 43 K43) : zA_Md_isReady p l e s m args below meth c G Q 96 (zb_Md_isReady_96 Q K43) := by
  unfold zb_Md_isReady_96
  refine za_ico B.1 1 dd_Md_isReady_96 (by decide) ?_
  refine za_goto B.1 101 dd_Md_isReady_97 (by decide) ?_
  exact (zr_Md_isReady_101 B h43)
theorem zr_Md_isReady_100 (B : zs_B p s m args meth c G bb_Md_isReady 6 yy_Md_isReady (some .boolean)) {K43 : zs_P} (h43 : zA_Md_isReady p l e s m args below meth c G Q 43 K43) : zA_Md_isReady p l e s m args below meth c G Q 100 (zb_Md_isReady_100 Q K43) := by
  unfold zb_Md_isReady_100
  refine za_ico B.1 0 dd_Md_isReady_100 (by decide) ?_
  exact (zr_Md_isReady_101 B h43)
theorem zr_Md_isReady_75 (B : zs_B p s m args meth c G bb_Md_isReady 6 yy_Md_isReady (some .boolean)) {K43 : zs_P} (h43 : zA_Md_isReady p l e s m args below meth c G Q 43 K43) : zA_Md_isReady p l e s m args below meth c G Q 75 (zb_Md_isReady_75 Q K43) := by
  unfold zb_Md_isReady_75
  refine za_ald_n B.1 0 dd_Md_isReady_75 rfl ?_
  refine za_ald_n B.1 0 dd_Md_isReady_76 rfl ?_
  refine za_gtR B.1 8 33 zi_8 rfl (by decide) (by decide) rfl zW_489 rfl dd_Md_isReady_77 ?_
  refine za_ild_n B.1 3 dd_Md_isReady_80 rfl ?_
  refine za_iald B.1 dd_Md_isReady_81 ?_
  refine za_ald_n B.1 0 dd_Md_isReady_82 rfl ?_
  refine za_gtR B.1 8 33 zi_8 rfl (by decide) (by decide) rfl zW_489 rfl dd_Md_isReady_83 ?_
  refine za_ild B.1 dd_Md_isReady_86 ?_
  refine za_iald B.1 dd_Md_isReady_88 ?_
  refine za_ild_n B.1 2 dd_Md_isReady_89 rfl ?_
  refine za_cV B.1 8 3 0 0 0 0 rfl rfl rfl (by decide) (zm_Md_quarrel l G) ⟨callB_of 3 B.1.1.2.2.2.2 (zs_good zW_629) rfl rfl rfl (B.1.1.2.2.2.2 _ zW_8) (B.1.1.2.2.2.2 _ zW_627) (by decide +kernel) ⟨by decide, by decide⟩, (B.1.1.2.2.2.2 _ zW_628), (B.1.1.2.2.2.2 _ zW_700)⟩ dd_Md_isReady_90 ?_
  exact za_if_ne B.1 100 dd_Md_isReady_93 (by decide) (zr_Md_isReady_96 B h43) (zr_Md_isReady_100 B h43)
theorem zr_Md_isReady_54 (B : zs_B p s m args meth c G bb_Md_isReady 6 yy_Md_isReady (some .boolean)) {K43 : zs_P} (h43 : zA_Md_isReady p l e s m args below meth c G Q 43 K43) : zA_Md_isReady p l e s m args below meth c G Q 54 (zb_Md_isReady_54 Q K43) := by
  unfold zb_Md_isReady_54
  refine za_ald_n B.1 0 dd_Md_isReady_54 rfl ?_
  refine za_gtR B.1 8 29 zi_8 rfl (by decide) (by decide) rfl zW_485 rfl dd_Md_isReady_55 ?_
  refine za_ald_n B.1 0 dd_Md_isReady_58 rfl ?_
  refine za_ild_n B.1 1 dd_Md_isReady_59 rfl ?_
  refine za_ild_n B.1 2 dd_Md_isReady_60 rfl ?_
  refine za_ald_n B.1 0 dd_Md_isReady_61 rfl ?_
  refine za_gtR B.1 8 33 zi_8 rfl (by decide) (by decide) rfl zW_489 rfl dd_Md_isReady_62 ?_
  refine za_ild B.1 dd_Md_isReady_65 ?_
  refine za_iald B.1 dd_Md_isReady_67 ?_
  refine za_cV B.1 8 3 0 0 0 0 rfl rfl rfl (by decide) (zm_Md_place l G) ⟨callB_of 3 B.1.1.2.2.2.2 (zs_good zW_547) rfl rfl rfl (B.1.1.2.2.2.2 _ zW_8) (B.1.1.2.2.2.2 _ zW_545) (by decide +kernel) ⟨by decide, by decide⟩, (B.1.1.2.2.2.2 _ zW_546), (B.1.1.2.2.2.2 _ zW_682)⟩ dd_Md_isReady_68 ?_
  refine za_zald B.1 dd_Md_isReady_71 ?_
  exact za_if_ne B.1 96 dd_Md_isReady_72 (by decide) (zr_Md_isReady_75 B h43) (zr_Md_isReady_96 B h43)
theorem zr_Md_isReady_49 (B : zs_B p s m args meth c G bb_Md_isReady 6 yy_Md_isReady (some .boolean)) {K43 : zs_P} (h43 : zA_Md_isReady p l e s m args below meth c G Q 43 K43) : zA_Md_isReady p l e s m args below meth c G Q 49 (zb_Md_isReady_49 Q K43) := by
  unfold zb_Md_isReady_49
  refine za_ild B.1 dd_Md_isReady_49 ?_
  exact za_if_eq B.1 109 dd_Md_isReady_51 (by decide) (zr_Md_isReady_109 B) (zr_Md_isReady_54 B h43)
theorem zr_Md_isReady_43 (B : zs_B p s m args meth c G bb_Md_isReady 6 yy_Md_isReady (some .boolean)) {K43 : zs_P} (h43 : zA_Md_isReady p l e s m args below meth c G Q 43 K43) : zA_Md_isReady p l e s m args below meth c G Q 43 (zb_Md_isReady_43 Q K43) := by
  unfold zb_Md_isReady_43
  refine za_ild B.1 dd_Md_isReady_43 ?_
  refine za_ild_n B.1 3 dd_Md_isReady_45 rfl ?_
  exact za_cmp_ge B.1 109 dd_Md_isReady_46 (by decide) (zr_Md_isReady_109 B) (zr_Md_isReady_49 B h43)
theorem zq_Md_isReady_43 (B : zs_B p s m args meth c G bb_Md_isReady 6 yy_Md_isReady (some .boolean)) : zA_Md_isReady p l e s m args below meth c G Q 43 (zl_Md_isReady_43 Q) := za_lop (fun K hK => zr_Md_isReady_43 B hK)
theorem zr_Md_isReady_32 (B : zs_B p s m args meth c G bb_Md_isReady 6 yy_Md_isReady (some .boolean)) : zA_Md_isReady p l e s m args below meth c G Q 32 (zb_Md_isReady_32 Q) := by
  unfold zb_Md_isReady_32
  refine za_ico B.1 1 dd_Md_isReady_32 (by decide) ?_
  refine za_ist B.1 dd_Md_isReady_33 (by decide) ?_
  refine za_ald_n B.1 0 dd_Md_isReady_35 rfl ?_
  refine za_gtR B.1 8 26 zi_8 rfl (by decide) (by decide) rfl zW_482 rfl dd_Md_isReady_36 ?_
  refine za_ild_n B.1 1 dd_Md_isReady_39 rfl ?_
  refine za_iald B.1 dd_Md_isReady_40 ?_
  refine za_ist B.1 dd_Md_isReady_41 (by decide) ?_
  exact (zq_Md_isReady_43 B)
theorem zr_Md_isReady_10 (B : zs_B p s m args meth c G bb_Md_isReady 6 yy_Md_isReady (some .boolean)) : zA_Md_isReady p l e s m args below meth c G Q 10 (zb_Md_isReady_10 Q) := by
  unfold zb_Md_isReady_10
  refine za_ald_n B.1 0 dd_Md_isReady_10 rfl ?_
  refine za_gtR B.1 8 28 zi_8 rfl (by decide) (by decide) rfl zW_484 rfl dd_Md_isReady_11 ?_
  refine za_ald_n B.1 0 dd_Md_isReady_14 rfl ?_
  refine za_ild_n B.1 1 dd_Md_isReady_15 rfl ?_
  refine za_ild_n B.1 2 dd_Md_isReady_16 rfl ?_
  refine za_ald_n B.1 0 dd_Md_isReady_17 rfl ?_
  refine za_gtR B.1 8 33 zi_8 rfl (by decide) (by decide) rfl zW_489 rfl dd_Md_isReady_18 ?_
  refine za_ild_n B.1 3 dd_Md_isReady_21 rfl ?_
  refine za_iald B.1 dd_Md_isReady_22 ?_
  refine za_cV B.1 8 3 0 0 0 0 rfl rfl rfl (by decide) (zm_Md_place l G) ⟨callB_of 3 B.1.1.2.2.2.2 (zs_good zW_547) rfl rfl rfl (B.1.1.2.2.2.2 _ zW_8) (B.1.1.2.2.2.2 _ zW_545) (by decide +kernel) ⟨by decide, by decide⟩, (B.1.1.2.2.2.2 _ zW_546), (B.1.1.2.2.2.2 _ zW_682)⟩ dd_Md_isReady_23 ?_
  refine za_zald B.1 dd_Md_isReady_26 ?_
  exact za_if_eq B.1 32 dd_Md_isReady_27 (by decide) (zr_Md_isReady_32 B) (zr_Md_isReady_30 B)
theorem zr_Md_isReady_0 (B : zs_B p s m args meth c G bb_Md_isReady 6 yy_Md_isReady (some .boolean)) : zA_Md_isReady p l e s m args below meth c G Q 0 (zb_Md_isReady_0 Q) := by
  unfold zb_Md_isReady_0
  refine za_ald_n B.1 0 dd_Md_isReady_0 rfl ?_
  refine za_ild_n B.1 1 dd_Md_isReady_1 rfl ?_
  refine za_ild_n B.1 2 dd_Md_isReady_2 rfl ?_
  refine za_ild_n B.1 3 dd_Md_isReady_3 rfl ?_
  refine za_cV B.1 8 3 0 0 0 0 rfl rfl rfl (by decide) (zm_Md_pending l G) ⟨callB_of 3 B.1.1.2.2.2.2 (zs_good zW_616) rfl rfl rfl (B.1.1.2.2.2.2 _ zW_8) (B.1.1.2.2.2.2 _ zW_614) (by decide +kernel) ⟨by decide, by decide⟩, (B.1.1.2.2.2.2 _ zW_615), (B.1.1.2.2.2.2 _ zW_697)⟩ dd_Md_isReady_4 ?_
  exact za_if_eq B.1 30 dd_Md_isReady_7 (by decide) (zr_Md_isReady_30 B) (zr_Md_isReady_10 B)
end
theorem zm_Md_isReady (l : Launch) (G : zs_G) (As : List Value) (σ : zs_S) (Q : zs_Q) (h : zw_Md_isReady As σ Q) : zs_Met l yy_Md_isReady (Cond.code yy_Md_isReady bb_Md_isReady 6 (some .boolean) :: zw_all) zk_Md_isReady G As σ Q 0 0 := by
  unfold zw_Md_isReady at h
  split at h
  · exact zs_enter (by decide +kernel) h.1 (Nat.le_of_ble_eq_true rfl) h.2 (fun p e s m args below meth c B => zr_Md_isReady_0 B)
  · exact h.elim
-- SequencedBatchesModel.nthReady(III)I
theorem dd_Md_nthReady_0 : decode bb_Md_nthReady 0 = .ok (.iconst 0, 1) := by decide +kernel
theorem dd_Md_nthReady_1 : decode bb_Md_nthReady 1 = .ok (.istore 4, 2) := by decide +kernel
theorem dd_Md_nthReady_3 : decode bb_Md_nthReady 3 = .ok (.aload_n 0, 1) := by decide +kernel
theorem dd_Md_nthReady_4 : decode bb_Md_nthReady 4 = .ok (.iload_n 1, 1) := by decide +kernel
theorem dd_Md_nthReady_5 : decode bb_Md_nthReady 5 = .ok (.invokevirtual 182, 3) := by decide +kernel
theorem dd_Md_nthReady_8 : decode bb_Md_nthReady 8 = .ok (.aload_n 0, 1) := by decide +kernel
theorem dd_Md_nthReady_9 : decode bb_Md_nthReady 9 = .ok (.getfield 80, 3) := by decide +kernel
theorem dd_Md_nthReady_12 : decode bb_Md_nthReady 12 = .ok (.iload_n 1, 1) := by decide +kernel
theorem dd_Md_nthReady_13 : decode bb_Md_nthReady 13 = .ok (.iaload, 1) := by decide +kernel
theorem dd_Md_nthReady_14 : decode bb_Md_nthReady 14 = .ok (.istore 5, 2) := by decide +kernel
theorem dd_Md_nthReady_16 : decode bb_Md_nthReady 16 = .ok (.iload 5, 2) := by decide +kernel
theorem dd_Md_nthReady_18 : decode bb_Md_nthReady 18 = .ok (.aload_n 0, 1) := by decide +kernel
theorem dd_Md_nthReady_19 : decode bb_Md_nthReady 19 = .ok (.getfield 83, 3) := by decide +kernel
theorem dd_Md_nthReady_22 : decode bb_Md_nthReady 22 = .ok (.iconst 4, 1) := by decide +kernel
theorem dd_Md_nthReady_23 : decode bb_Md_nthReady 23 = .ok (.iload_n 1, 1) := by decide +kernel
theorem dd_Md_nthReady_24 : decode bb_Md_nthReady 24 = .ok (.imul, 1) := by decide +kernel
theorem dd_Md_nthReady_25 : decode bb_Md_nthReady 25 = .ok (.iload_n 2, 1) := by decide +kernel
theorem dd_Md_nthReady_26 : decode bb_Md_nthReady 26 = .ok (.iadd, 1) := by decide +kernel
theorem dd_Md_nthReady_27 : decode bb_Md_nthReady 27 = .ok (.iaload, 1) := by decide +kernel
theorem dd_Md_nthReady_28 : decode bb_Md_nthReady 28 = .ok (.if_icmp .ge 37, 3) := by decide +kernel
theorem dd_Md_nthReady_31 : decode bb_Md_nthReady 31 = .ok (.aload_n 0, 1) := by decide +kernel
theorem dd_Md_nthReady_32 : decode bb_Md_nthReady 32 = .ok (.iload_n 1, 1) := by decide +kernel
theorem dd_Md_nthReady_33 : decode bb_Md_nthReady 33 = .ok (.iload_n 2, 1) := by decide +kernel
theorem dd_Md_nthReady_34 : decode bb_Md_nthReady 34 = .ok (.iload 5, 2) := by decide +kernel
theorem dd_Md_nthReady_36 : decode bb_Md_nthReady 36 = .ok (.invokevirtual 208, 3) := by decide +kernel
theorem dd_Md_nthReady_39 : decode bb_Md_nthReady 39 = .ok (.ifCond .eq 20, 3) := by decide +kernel
theorem dd_Md_nthReady_42 : decode bb_Md_nthReady 42 = .ok (.iload 4, 2) := by decide +kernel
theorem dd_Md_nthReady_44 : decode bb_Md_nthReady 44 = .ok (.iload_n 3, 1) := by decide +kernel
theorem dd_Md_nthReady_45 : decode bb_Md_nthReady 45 = .ok (.if_icmp .ne 11, 3) := by decide +kernel
theorem dd_Md_nthReady_48 : decode bb_Md_nthReady 48 = .ok (.aload_n 0, 1) := by decide +kernel
theorem dd_Md_nthReady_49 : decode bb_Md_nthReady 49 = .ok (.getfield 101, 3) := by decide +kernel
theorem dd_Md_nthReady_52 : decode bb_Md_nthReady 52 = .ok (.iload 5, 2) := by decide +kernel
theorem dd_Md_nthReady_54 : decode bb_Md_nthReady 54 = .ok (.iaload, 1) := by decide +kernel
theorem dd_Md_nthReady_55 : decode bb_Md_nthReady 55 = .ok (.ireturn, 1) := by decide +kernel
theorem dd_Md_nthReady_56 : decode bb_Md_nthReady 56 = .ok (.iinc 4 1, 3) := by decide +kernel
theorem dd_Md_nthReady_59 : decode bb_Md_nthReady 59 = .ok (.iinc 5 1, 3) := by decide +kernel
theorem dd_Md_nthReady_62 : decode bb_Md_nthReady 62 = .ok (.goto (-46), 3) := by decide +kernel
theorem dd_Md_nthReady_65 : decode bb_Md_nthReady 65 = .ok (.iload_n 3, 1) := by decide +kernel
theorem dd_Md_nthReady_66 : decode bb_Md_nthReady 66 = .ok (.sipush 1000, 3) := by decide +kernel
theorem dd_Md_nthReady_69 : decode bb_Md_nthReady 69 = .ok (.if_icmp .ne 10, 3) := by decide +kernel
theorem dd_Md_nthReady_72 : decode bb_Md_nthReady 72 = .ok (.iconst (-1), 1) := by decide +kernel
theorem dd_Md_nthReady_73 : decode bb_Md_nthReady 73 = .ok (.iload 4, 2) := by decide +kernel
theorem dd_Md_nthReady_75 : decode bb_Md_nthReady 75 = .ok (.isub, 1) := by decide +kernel
theorem dd_Md_nthReady_76 : decode bb_Md_nthReady 76 = .ok (.goto 4, 3) := by decide +kernel
theorem dd_Md_nthReady_79 : decode bb_Md_nthReady 79 = .ok (.iconst (-1), 1) := by decide +kernel
theorem dd_Md_nthReady_80 : decode bb_Md_nthReady 80 = .ok (.ireturn, 1) := by decide +kernel
def zk_Md_nthReady : Room := { frames := 4, cells := 0, slots := 0, locals := 93 }
abbrev zA_Md_nthReady (p : Program) (l : Launch) (e : Env) (s : State) (m : MethodId) (args : Array Value) (below : List Frame) (meth : Method) (c : Code) (G : zs_G) (Q : zs_Q) (pc : Nat) (P : zs_P) : Prop := zs_At p l e zk_Md_nthReady s m args below meth c (MQ below (zs_Qc G Q) args s 0 0 (fun q => zg_z G ≤ q)) G 6 pc P
def zb_Md_nthReady_80 (Q : zs_Q) : zs_P := zt_irt 0 0 Q
def zb_Md_nthReady_79 (Q : zs_Q) : zs_P := zt_psh (-1) ((zb_Md_nthReady_80 Q))
def zb_Md_nthReady_72 (Q : zs_Q) : zs_P := zt_psh (-1) (zt_ild 4 (zt_bin (fun x y => x - y) ((zb_Md_nthReady_80 Q))))
def zb_Md_nthReady_65 (Q : zs_Q) : zs_P := zt_ild 3 (zt_psh 1000 (zt_cmp (fun x y => x = y) (zb_Md_nthReady_72 Q) (zb_Md_nthReady_79 Q)))
def zb_Md_nthReady_59 (Q : zs_Q) (K16 : zs_P) : zs_P := zt_inc 5 1 (K16)
def zb_Md_nthReady_56 (Q : zs_Q) (K16 : zs_P) : zs_P := zt_inc 4 1 ((zb_Md_nthReady_59 Q K16))
def zb_Md_nthReady_48 (Q : zs_Q) : zs_P := zt_ald 0 (zt_gtR 8 33 (zt_ild 5 (zt_xld 100 (zt_irt 0 0 Q))))
def zb_Md_nthReady_42 (Q : zs_Q) (K16 : zs_P) : zs_P := zt_ild 4 (zt_ild 3 (zt_cmp (fun x y => x = y) (zb_Md_nthReady_48 Q) (zb_Md_nthReady_56 Q K16)))
def zb_Md_nthReady_31 (Q : zs_Q) (K16 : zs_P) : zs_P := zt_ald 0 (zt_ild 1 (zt_ild 2 (zt_ild 5 (zt_cav 8 zw_Md_isReady (3 + 1) 0 0 0 0 (zt_if (fun x => x = 0) (zb_Md_nthReady_59 Q K16) (zb_Md_nthReady_42 Q K16))))))
def zb_Md_nthReady_16 (Q : zs_Q) (K16 : zs_P) : zs_P := zt_ild 5 (zt_ald 0 (zt_gtR 8 27 (zt_psh 4 (zt_ild 1 (zt_bin (fun x y => x * y) (zt_ild 2 (zt_bin (fun x y => x + y) (zt_xld 100 (zt_cmp (fun x y => y ≤ x) (zb_Md_nthReady_65 Q) (zb_Md_nthReady_31 Q K16))))))))))
def zl_Md_nthReady_16 (Q : zs_Q) : zs_P := zt_ex (zb_Md_nthReady_16 Q)
def zb_Md_nthReady_0 (Q : zs_Q) : zs_P := zt_psh 0 (zt_ist 4 (zt_ald 0 (zt_ild 1 (zt_cav 8 zw_Md_lay (1 + 1) 0 0 0 0 (zt_ald 0 (zt_gtR 8 26 (zt_ild 1 (zt_xld 100 (zt_ist 5 ((zl_Md_nthReady_16 Q)))))))))))
def zw_Md_nthReady : zs_W := fun As σ Q => match As with
  | [a0, a1, a2, a3] => zs_c1 [a0, a1, a2, a3] = true ∧ zb_Md_nthReady_0 Q [some a0, some a1, some a2, some a3, none, none] [] σ 0 0
  | _ => False
section
variable {p : Program} {l : Launch} {e : Env} {s : State} {m : MethodId} {args : Array Value} {below : List Frame} {meth : Method} {c : Code} {G : zs_G} {Q : zs_Q}
theorem zr_Md_nthReady_80 (B : zs_B p s m args meth c G bb_Md_nthReady 6 yy_Md_nthReady (some .int)) : zA_Md_nthReady p l e s m args below meth c G Q 80 (zb_Md_nthReady_80 Q) := by
  unfold zb_Md_nthReady_80
  exact za_irt B.1 0 0 B.2.1 B.2.2.1 dd_Md_nthReady_80
theorem zr_Md_nthReady_79 (B : zs_B p s m args meth c G bb_Md_nthReady 6 yy_Md_nthReady (some .int)) : zA_Md_nthReady p l e s m args below meth c G Q 79 (zb_Md_nthReady_79 Q) := by
  unfold zb_Md_nthReady_79
  refine za_ico B.1 (-1) dd_Md_nthReady_79 (by decide) ?_
  exact (zr_Md_nthReady_80 B)
theorem zr_Md_nthReady_72 (B : zs_B p s m args meth c G bb_Md_nthReady 6 yy_Md_nthReady (some .int)) : zA_Md_nthReady p l e s m args below meth c G Q 72 (zb_Md_nthReady_72 Q) := by
  unfold zb_Md_nthReady_72
  refine za_ico B.1 (-1) dd_Md_nthReady_72 (by decide) ?_
  refine za_ild B.1 dd_Md_nthReady_73 ?_
  refine za_sub B.1 dd_Md_nthReady_75 ?_
  refine za_goto B.1 80 dd_Md_nthReady_76 (by decide) ?_
  exact (zr_Md_nthReady_80 B)
theorem zr_Md_nthReady_65 (B : zs_B p s m args meth c G bb_Md_nthReady 6 yy_Md_nthReady (some .int)) : zA_Md_nthReady p l e s m args below meth c G Q 65 (zb_Md_nthReady_65 Q) := by
  unfold zb_Md_nthReady_65
  refine za_ild_n B.1 3 dd_Md_nthReady_65 rfl ?_
  refine za_sip B.1 1000 dd_Md_nthReady_66 (by decide) ?_
  exact za_cmp_ne B.1 79 dd_Md_nthReady_69 (by decide) (zr_Md_nthReady_72 B) (zr_Md_nthReady_79 B)
theorem zr_Md_nthReady_59 (B : zs_B p s m args meth c G bb_Md_nthReady 6 yy_Md_nthReady (some .int)) {K16 : zs_P} (h16 : zA_Md_nthReady p l e s m args below meth c G Q 16 K16) : zA_Md_nthReady p l e s m args below meth c G Q 59 (zb_Md_nthReady_59 Q K16) := by
  unfold zb_Md_nthReady_59
  refine za_inc B.1 1 dd_Md_nthReady_59 (by decide) (by decide) ?_
  refine za_goto B.1 16 dd_Md_nthReady_62 (by decide) ?_
  exact h16
theorem zr_Md_nthReady_56 (B : zs_B p s m args meth c G bb_Md_nthReady 6 yy_Md_nthReady (some .int)) {K16 : zs_P} (h16 : zA_Md_nthReady p l e s m args below meth c G Q 16 K16) : zA_Md_nthReady p l e s m args below meth c G Q 56 (zb_Md_nthReady_56 Q K16) := by
  unfold zb_Md_nthReady_56
  refine za_inc B.1 1 dd_Md_nthReady_56 (by decide) (by decide) ?_
  exact (zr_Md_nthReady_59 B h16)
theorem zr_Md_nthReady_48 (B : zs_B p s m args meth c G bb_Md_nthReady 6 yy_Md_nthReady (some .int)) : zA_Md_nthReady p l e s m args below meth c G Q 48 (zb_Md_nthReady_48 Q) := by
  unfold zb_Md_nthReady_48
  refine za_ald_n B.1 0 dd_Md_nthReady_48 rfl ?_
  refine za_gtR B.1 8 33 zi_8 rfl (by decide) (by decide) rfl zW_489 rfl dd_Md_nthReady_49 ?_
  refine za_ild B.1 dd_Md_nthReady_52 ?_
  refine za_iald B.1 dd_Md_nthReady_54 ?_
  exact za_irt B.1 0 0 B.2.1 B.2.2.1 dd_Md_nthReady_55
theorem zr_Md_nthReady_42 (B : zs_B p s m args meth c G bb_Md_nthReady 6 yy_Md_nthReady (some .int)) {K16 : zs_P} (h16 : zA_Md_nthReady p l e s m args below meth c G Q 16 K16) : zA_Md_nthReady p l e s m args below meth c G Q 42 (zb_Md_nthReady_42 Q K16) := by
  unfold zb_Md_nthReady_42
  refine za_ild B.1 dd_Md_nthReady_42 ?_
  refine za_ild_n B.1 3 dd_Md_nthReady_44 rfl ?_
  exact za_cmp_ne B.1 56 dd_Md_nthReady_45 (by decide) (zr_Md_nthReady_48 B) (zr_Md_nthReady_56 B h16)
theorem zr_Md_nthReady_31 (B : zs_B p s m args meth c G bb_Md_nthReady 6 yy_Md_nthReady (some .int)) {K16 : zs_P} (h16 : zA_Md_nthReady p l e s m args below meth c G Q 16 K16) : zA_Md_nthReady p l e s m args below meth c G Q 31 (zb_Md_nthReady_31 Q K16) := by
  unfold zb_Md_nthReady_31
  refine za_ald_n B.1 0 dd_Md_nthReady_31 rfl ?_
  refine za_ild_n B.1 1 dd_Md_nthReady_32 rfl ?_
  refine za_ild_n B.1 2 dd_Md_nthReady_33 rfl ?_
  refine za_ild B.1 dd_Md_nthReady_34 ?_
  refine za_cV B.1 8 3 0 0 0 0 rfl rfl rfl (by decide) (zm_Md_isReady l G) ⟨callB_of 3 B.1.1.2.2.2.2 (zs_good zW_626) rfl rfl rfl (B.1.1.2.2.2.2 _ zW_8) (B.1.1.2.2.2.2 _ zW_624) (by decide +kernel) ⟨by decide, by decide⟩, (B.1.1.2.2.2.2 _ zW_625), (B.1.1.2.2.2.2 _ zW_699)⟩ dd_Md_nthReady_36 ?_
  exact za_if_eq B.1 59 dd_Md_nthReady_39 (by decide) (zr_Md_nthReady_59 B h16) (zr_Md_nthReady_42 B h16)
theorem zr_Md_nthReady_16 (B : zs_B p s m args meth c G bb_Md_nthReady 6 yy_Md_nthReady (some .int)) {K16 : zs_P} (h16 : zA_Md_nthReady p l e s m args below meth c G Q 16 K16) : zA_Md_nthReady p l e s m args below meth c G Q 16 (zb_Md_nthReady_16 Q K16) := by
  unfold zb_Md_nthReady_16
  refine za_ild B.1 dd_Md_nthReady_16 ?_
  refine za_ald_n B.1 0 dd_Md_nthReady_18 rfl ?_
  refine za_gtR B.1 8 27 zi_8 rfl (by decide) (by decide) rfl zW_483 rfl dd_Md_nthReady_19 ?_
  refine za_ico B.1 4 dd_Md_nthReady_22 (by decide) ?_
  refine za_ild_n B.1 1 dd_Md_nthReady_23 rfl ?_
  refine za_mul B.1 dd_Md_nthReady_24 ?_
  refine za_ild_n B.1 2 dd_Md_nthReady_25 rfl ?_
  refine za_add B.1 dd_Md_nthReady_26 ?_
  refine za_iald B.1 dd_Md_nthReady_27 ?_
  exact za_cmp_ge B.1 65 dd_Md_nthReady_28 (by decide) (zr_Md_nthReady_65 B) (zr_Md_nthReady_31 B h16)
theorem zq_Md_nthReady_16 (B : zs_B p s m args meth c G bb_Md_nthReady 6 yy_Md_nthReady (some .int)) : zA_Md_nthReady p l e s m args below meth c G Q 16 (zl_Md_nthReady_16 Q) := za_lop (fun K hK => zr_Md_nthReady_16 B hK)
theorem zr_Md_nthReady_0 (B : zs_B p s m args meth c G bb_Md_nthReady 6 yy_Md_nthReady (some .int)) : zA_Md_nthReady p l e s m args below meth c G Q 0 (zb_Md_nthReady_0 Q) := by
  unfold zb_Md_nthReady_0
  refine za_ico B.1 0 dd_Md_nthReady_0 (by decide) ?_
  refine za_ist B.1 dd_Md_nthReady_1 (by decide) ?_
  refine za_ald_n B.1 0 dd_Md_nthReady_3 rfl ?_
  refine za_ild_n B.1 1 dd_Md_nthReady_4 rfl ?_
  refine za_cV B.1 8 1 0 0 0 0 rfl rfl rfl (by decide) (zm_Md_lay l G) ⟨callB_of 1 B.1.1.2.2.2.2 (zs_good zW_603) rfl rfl rfl (B.1.1.2.2.2.2 _ zW_8) (B.1.1.2.2.2.2 _ zW_601) (by decide +kernel) ⟨by decide, by decide⟩, (B.1.1.2.2.2.2 _ zW_602), (B.1.1.2.2.2.2 _ zW_694)⟩ dd_Md_nthReady_5 ?_
  refine za_ald_n B.1 0 dd_Md_nthReady_8 rfl ?_
  refine za_gtR B.1 8 26 zi_8 rfl (by decide) (by decide) rfl zW_482 rfl dd_Md_nthReady_9 ?_
  refine za_ild_n B.1 1 dd_Md_nthReady_12 rfl ?_
  refine za_iald B.1 dd_Md_nthReady_13 ?_
  refine za_ist B.1 dd_Md_nthReady_14 (by decide) ?_
  exact (zq_Md_nthReady_16 B)
end
theorem zm_Md_nthReady (l : Launch) (G : zs_G) (As : List Value) (σ : zs_S) (Q : zs_Q) (h : zw_Md_nthReady As σ Q) : zs_Met l yy_Md_nthReady (Cond.code yy_Md_nthReady bb_Md_nthReady 6 (some .int) :: zw_all) zk_Md_nthReady G As σ Q 0 0 := by
  unfold zw_Md_nthReady at h
  split at h
  · exact zs_enter (by decide +kernel) h.1 (Nat.le_of_ble_eq_true rfl) h.2 (fun p e s m args below meth c B => zr_Md_nthReady_0 B)
  · exact h.elim
-- SequencedBatchesModel.look(III)I
theorem dd_Md_look_0 : decode bb_Md_look 0 = .ok (.aload_n 0, 1) := by decide +kernel
theorem dd_Md_look_1 : decode bb_Md_look 1 = .ok (.iload_n 1, 1) := by decide +kernel
theorem dd_Md_look_2 : decode bb_Md_look 2 = .ok (.iload_n 2, 1) := by decide +kernel
theorem dd_Md_look_3 : decode bb_Md_look 3 = .ok (.invokevirtual 192, 3) := by decide +kernel
theorem dd_Md_look_6 : decode bb_Md_look 6 = .ok (.ifCond .eq 20, 3) := by decide +kernel
theorem dd_Md_look_9 : decode bb_Md_look 9 = .ok (.iload_n 3, 1) := by decide +kernel
theorem dd_Md_look_10 : decode bb_Md_look 10 = .ok (.iconst 0, 1) := by decide +kernel
theorem dd_Md_look_11 : decode bb_Md_look 11 = .ok (.bipush 99, 2) := by decide +kernel
theorem dd_Md_look_13 : decode bb_Md_look 13 = .ok (.invokestatic 111, 3) := by decide +kernel
theorem dd_Md_look_16 : decode bb_Md_look 16 = .ok (.ifCond .eq 10, 3) := by decide +kernel
theorem dd_Md_look_19 : decode bb_Md_look 19 = .ok (.aload_n 0, 1) := by decide +kernel
theorem dd_Md_look_20 : decode bb_Md_look 20 = .ok (.invokevirtual 161, 3) := by decide +kernel
theorem dd_Md_look_23 : decode bb_Md_look 23 = .ok (.ifCond .eq 5, 3) := by decide +kernel
theorem dd_Md_look_26 : decode bb_Md_look 26 = .ok (.iconst (-1), 1) := by decide +kernel
theorem dd_Md_look_27 : decode bb_Md_look 27 = .ok (.ireturn, 1) := by decide +kernel
theorem dd_Md_look_28 : decode bb_Md_look 28 = .ok (.aload_n 0, 1) := by decide +kernel
theorem dd_Md_look_29 : decode bb_Md_look 29 = .ok (.iload_n 1, 1) := by decide +kernel
theorem dd_Md_look_30 : decode bb_Md_look 30 = .ok (.iload_n 2, 1) := by decide +kernel
theorem dd_Md_look_31 : decode bb_Md_look 31 = .ok (.iload_n 3, 1) := by decide +kernel
theorem dd_Md_look_32 : decode bb_Md_look 32 = .ok (.invokevirtual 211, 3) := by decide +kernel
theorem dd_Md_look_35 : decode bb_Md_look 35 = .ok (.istore 4, 2) := by decide +kernel
theorem dd_Md_look_37 : decode bb_Md_look 37 = .ok (.iload 4, 2) := by decide +kernel
theorem dd_Md_look_39 : decode bb_Md_look 39 = .ok (.ifCond .ge 5, 3) := by decide +kernel
theorem dd_Md_look_42 : decode bb_Md_look 42 = .ok (.iconst (-1), 1) := by decide +kernel
theorem dd_Md_look_43 : decode bb_Md_look 43 = .ok (.ireturn, 1) := by decide +kernel
theorem dd_Md_look_44 : decode bb_Md_look 44 = .ok (.aload_n 0, 1) := by decide +kernel
theorem dd_Md_look_45 : decode bb_Md_look 45 = .ok (.getfield 86, 3) := by decide +kernel
theorem dd_Md_look_48 : decode bb_Md_look 48 = .ok (.aload_n 0, 1) := by decide +kernel
theorem dd_Md_look_49 : decode bb_Md_look 49 = .ok (.iload_n 1, 1) := by decide +kernel
theorem dd_Md_look_50 : decode bb_Md_look 50 = .ok (.iload_n 2, 1) := by decide +kernel
theorem dd_Md_look_51 : decode bb_Md_look 51 = .ok (.iload 4, 2) := by decide +kernel
theorem dd_Md_look_53 : decode bb_Md_look 53 = .ok (.invokevirtual 185, 3) := by decide +kernel
theorem dd_Md_look_56 : decode bb_Md_look 56 = .ok (.iconst 1, 1) := by decide +kernel
theorem dd_Md_look_57 : decode bb_Md_look 57 = .ok (.bastore, 1) := by decide +kernel
theorem dd_Md_look_58 : decode bb_Md_look 58 = .ok (.aload_n 0, 1) := by decide +kernel
theorem dd_Md_look_59 : decode bb_Md_look 59 = .ok (.getfield 17, 3) := by decide +kernel
theorem dd_Md_look_62 : decode bb_Md_look 62 = .ok (.iload 4, 2) := by decide +kernel
theorem dd_Md_look_64 : decode bb_Md_look 64 = .ok (.iaload, 1) := by decide +kernel
theorem dd_Md_look_65 : decode bb_Md_look 65 = .ok (.aload_n 0, 1) := by decide +kernel
theorem dd_Md_look_66 : decode bb_Md_look 66 = .ok (.getfield 104, 3) := by decide +kernel
theorem dd_Md_look_69 : decode bb_Md_look 69 = .ok (.irem, 1) := by decide +kernel
theorem dd_Md_look_70 : decode bb_Md_look 70 = .ok (.iload_n 2, 1) := by decide +kernel
theorem dd_Md_look_71 : decode bb_Md_look 71 = .ok (.if_icmp .ne 7, 3) := by decide +kernel
theorem dd_Md_look_74 : decode bb_Md_look 74 = .ok (.iconst 1, 1) := by decide +kernel
theorem dd_Md_look_75 : decode bb_Md_look 75 = .ok (.goto 4, 3) := by decide +kernel
theorem dd_Md_look_78 : decode bb_Md_look 78 = .ok (.iconst 0, 1) := by decide +kernel
theorem dd_Md_look_79 : decode bb_Md_look 79 = .ok (.istore 5, 2) := by decide +kernel
theorem dd_Md_look_81 : decode bb_Md_look 81 = .ok (.aload_n 0, 1) := by decide +kernel
theorem dd_Md_look_82 : decode bb_Md_look 82 = .ok (.getfield 13, 3) := by decide +kernel
theorem dd_Md_look_85 : decode bb_Md_look 85 = .ok (.iload 4, 2) := by decide +kernel
theorem dd_Md_look_87 : decode bb_Md_look 87 = .ok (.iaload, 1) := by decide +kernel
theorem dd_Md_look_88 : decode bb_Md_look 88 = .ok (.iconst 2, 1) := by decide +kernel
theorem dd_Md_look_89 : decode bb_Md_look 89 = .ok (.if_icmp .eq 37, 3) := by decide +kernel
theorem dd_Md_look_92 : decode bb_Md_look 92 = .ok (.iload 5, 2) := by decide +kernel
theorem dd_Md_look_94 : decode bb_Md_look 94 = .ok (.ifCond .eq 32, 3) := by decide +kernel
theorem dd_Md_look_97 : decode bb_Md_look 97 = .ok (.aload_n 0, 1) := by decide +kernel
theorem dd_Md_look_98 : decode bb_Md_look 98 = .ok (.getfield 95, 3) := by decide +kernel
theorem dd_Md_look_101 : decode bb_Md_look 101 = .ok (.bipush 100, 2) := by decide +kernel
theorem dd_Md_look_103 : decode bb_Md_look 103 = .ok (.iload_n 1, 1) := by decide +kernel
theorem dd_Md_look_104 : decode bb_Md_look 104 = .ok (.imul, 1) := by decide +kernel
theorem dd_Md_look_105 : decode bb_Md_look 105 = .ok (.iload 4, 2) := by decide +kernel
theorem dd_Md_look_107 : decode bb_Md_look 107 = .ok (.iadd, 1) := by decide +kernel
theorem dd_Md_look_108 : decode bb_Md_look 108 = .ok (.aload_n 0, 1) := by decide +kernel
theorem dd_Md_look_109 : decode bb_Md_look 109 = .ok (.getfield 71, 3) := by decide +kernel
theorem dd_Md_look_112 : decode bb_Md_look 112 = .ok (.bipush 12, 2) := by decide +kernel
theorem dd_Md_look_114 : decode bb_Md_look 114 = .ok (.iload_n 1, 1) := by decide +kernel
theorem dd_Md_look_115 : decode bb_Md_look 115 = .ok (.imul, 1) := by decide +kernel
theorem dd_Md_look_116 : decode bb_Md_look 116 = .ok (.aload_n 0, 1) := by decide +kernel
theorem dd_Md_look_117 : decode bb_Md_look 117 = .ok (.getfield 17, 3) := by decide +kernel
theorem dd_Md_look_120 : decode bb_Md_look 120 = .ok (.iload 4, 2) := by decide +kernel
theorem dd_Md_look_122 : decode bb_Md_look 122 = .ok (.iaload, 1) := by decide +kernel
theorem dd_Md_look_123 : decode bb_Md_look 123 = .ok (.iadd, 1) := by decide +kernel
theorem dd_Md_look_124 : decode bb_Md_look 124 = .ok (.iaload, 1) := by decide +kernel
theorem dd_Md_look_125 : decode bb_Md_look 125 = .ok (.iastore, 1) := by decide +kernel
theorem dd_Md_look_126 : decode bb_Md_look 126 = .ok (.aload_n 0, 1) := by decide +kernel
theorem dd_Md_look_127 : decode bb_Md_look 127 = .ok (.getfield 13, 3) := by decide +kernel
theorem dd_Md_look_130 : decode bb_Md_look 130 = .ok (.iload 4, 2) := by decide +kernel
theorem dd_Md_look_132 : decode bb_Md_look 132 = .ok (.iaload, 1) := by decide +kernel
theorem dd_Md_look_133 : decode bb_Md_look 133 = .ok (.invokestatic 115, 3) := by decide +kernel
theorem dd_Md_look_136 : decode bb_Md_look 136 = .ok (.ifCond .eq 48, 3) := by decide +kernel
theorem dd_Md_look_139 : decode bb_Md_look 139 = .ok (.aload_n 0, 1) := by decide +kernel
theorem dd_Md_look_140 : decode bb_Md_look 140 = .ok (.getfield 20, 3) := by decide +kernel
theorem dd_Md_look_143 : decode bb_Md_look 143 = .ok (.iload 4, 2) := by decide +kernel
theorem dd_Md_look_145 : decode bb_Md_look 145 = .ok (.iaload, 1) := by decide +kernel
theorem dd_Md_look_146 : decode bb_Md_look 146 = .ok (.aload_n 0, 1) := by decide +kernel
theorem dd_Md_look_147 : decode bb_Md_look 147 = .ok (.getfield 104, 3) := by decide +kernel
theorem dd_Md_look_150 : decode bb_Md_look 150 = .ok (.irem, 1) := by decide +kernel
theorem dd_Md_look_151 : decode bb_Md_look 151 = .ok (.iload_n 2, 1) := by decide +kernel
theorem dd_Md_look_152 : decode bb_Md_look 152 = .ok (.if_icmp .ne 32, 3) := by decide +kernel
theorem dd_Md_look_155 : decode bb_Md_look 155 = .ok (.aload_n 0, 1) := by decide +kernel
theorem dd_Md_look_156 : decode bb_Md_look 156 = .ok (.getfield 98, 3) := by decide +kernel
theorem dd_Md_look_159 : decode bb_Md_look 159 = .ok (.bipush 100, 2) := by decide +kernel
theorem dd_Md_look_161 : decode bb_Md_look 161 = .ok (.iload_n 1, 1) := by decide +kernel
theorem dd_Md_look_162 : decode bb_Md_look 162 = .ok (.imul, 1) := by decide +kernel
theorem dd_Md_look_163 : decode bb_Md_look 163 = .ok (.iload 4, 2) := by decide +kernel
theorem dd_Md_look_165 : decode bb_Md_look 165 = .ok (.iadd, 1) := by decide +kernel
theorem dd_Md_look_166 : decode bb_Md_look 166 = .ok (.aload_n 0, 1) := by decide +kernel
theorem dd_Md_look_167 : decode bb_Md_look 167 = .ok (.getfield 71, 3) := by decide +kernel
theorem dd_Md_look_170 : decode bb_Md_look 170 = .ok (.bipush 12, 2) := by decide +kernel
theorem dd_Md_look_172 : decode bb_Md_look 172 = .ok (.iload_n 1, 1) := by decide +kernel
theorem dd_Md_look_173 : decode bb_Md_look 173 = .ok (.imul, 1) := by decide +kernel
theorem dd_Md_look_174 : decode bb_Md_look 174 = .ok (.aload_n 0, 1) := by decide +kernel
theorem dd_Md_look_175 : decode bb_Md_look 175 = .ok (.getfield 20, 3) := by decide +kernel
theorem dd_Md_look_178 : decode bb_Md_look 178 = .ok (.iload 4, 2) := by decide +kernel
theorem dd_Md_look_180 : decode bb_Md_look 180 = .ok (.iaload, 1) := by decide +kernel
theorem dd_Md_look_181 : decode bb_Md_look 181 = .ok (.iadd, 1) := by decide +kernel
theorem dd_Md_look_182 : decode bb_Md_look 182 = .ok (.iaload, 1) := by decide +kernel
theorem dd_Md_look_183 : decode bb_Md_look 183 = .ok (.iastore, 1) := by decide +kernel
theorem dd_Md_look_184 : decode bb_Md_look 184 = .ok (.iconst 0, 1) := by decide +kernel
theorem dd_Md_look_185 : decode bb_Md_look 185 = .ok (.istore 6, 2) := by decide +kernel
theorem dd_Md_look_187 : decode bb_Md_look 187 = .ok (.iload 6, 2) := by decide +kernel
theorem dd_Md_look_189 : decode bb_Md_look 189 = .ok (.aload_n 0, 1) := by decide +kernel
theorem dd_Md_look_190 : decode bb_Md_look 190 = .ok (.getfield 104, 3) := by decide +kernel
theorem dd_Md_look_193 : decode bb_Md_look 193 = .ok (.if_icmp .ge 51, 3) := by decide +kernel
theorem dd_Md_look_196 : decode bb_Md_look 196 = .ok (.iload 6, 2) := by decide +kernel
theorem dd_Md_look_198 : decode bb_Md_look 198 = .ok (.iload_n 2, 1) := by decide +kernel
theorem dd_Md_look_199 : decode bb_Md_look 199 = .ok (.if_icmp .eq 39, 3) := by decide +kernel
theorem dd_Md_look_202 : decode bb_Md_look 202 = .ok (.aload_n 0, 1) := by decide +kernel
theorem dd_Md_look_203 : decode bb_Md_look 203 = .ok (.iload 4, 2) := by decide +kernel
theorem dd_Md_look_205 : decode bb_Md_look 205 = .ok (.iload 6, 2) := by decide +kernel
theorem dd_Md_look_207 : decode bb_Md_look 207 = .ok (.invokevirtual 202, 3) := by decide +kernel
theorem dd_Md_look_210 : decode bb_Md_look 210 = .ok (.ifCond .eq 28, 3) := by decide +kernel
theorem dd_Md_look_213 : decode bb_Md_look 213 = .ok (.aload_n 0, 1) := by decide +kernel
theorem dd_Md_look_214 : decode bb_Md_look 214 = .ok (.iload 4, 2) := by decide +kernel
theorem dd_Md_look_216 : decode bb_Md_look 216 = .ok (.iload_n 2, 1) := by decide +kernel
theorem dd_Md_look_217 : decode bb_Md_look 217 = .ok (.invokevirtual 199, 3) := by decide +kernel
theorem dd_Md_look_220 : decode bb_Md_look 220 = .ok (.ifCond .eq 18, 3) := by decide +kernel
theorem dd_Md_look_223 : decode bb_Md_look 223 = .ok (.aload_n 0, 1) := by decide +kernel
theorem dd_Md_look_224 : decode bb_Md_look 224 = .ok (.iconst 4, 1) := by decide +kernel
theorem dd_Md_look_225 : decode bb_Md_look 225 = .ok (.iload_n 1, 1) := by decide +kernel
theorem dd_Md_look_226 : decode bb_Md_look 226 = .ok (.iload 4, 2) := by decide +kernel
theorem dd_Md_look_228 : decode bb_Md_look 228 = .ok (.iconst 4, 1) := by decide +kernel
theorem dd_Md_look_229 : decode bb_Md_look 229 = .ok (.iload_n 2, 1) := by decide +kernel
theorem dd_Md_look_230 : decode bb_Md_look 230 = .ok (.imul, 1) := by decide +kernel
theorem dd_Md_look_231 : decode bb_Md_look 231 = .ok (.iload 6, 2) := by decide +kernel
theorem dd_Md_look_233 : decode bb_Md_look 233 = .ok (.iadd, 1) := by decide +kernel
theorem dd_Md_look_234 : decode bb_Md_look 234 = .ok (.iconst 0, 1) := by decide +kernel
theorem dd_Md_look_235 : decode bb_Md_look 235 = .ok (.invokevirtual 151, 3) := by decide +kernel
theorem dd_Md_look_238 : decode bb_Md_look 238 = .ok (.iinc 6 1, 3) := by decide +kernel
theorem dd_Md_look_241 : decode bb_Md_look 241 = .ok (.goto (-54), 3) := by decide +kernel
theorem dd_Md_look_244 : decode bb_Md_look 244 = .ok (.aload_n 0, 1) := by decide +kernel
theorem dd_Md_look_245 : decode bb_Md_look 245 = .ok (.iload_n 1, 1) := by decide +kernel
theorem dd_Md_look_246 : decode bb_Md_look 246 = .ok (.iload_n 2, 1) := by decide +kernel
theorem dd_Md_look_247 : decode bb_Md_look 247 = .ok (.iload 4, 2) := by decide +kernel
theorem dd_Md_look_249 : decode bb_Md_look 249 = .ok (.invokevirtual 148, 3) := by decide +kernel
theorem dd_Md_look_252 : decode bb_Md_look 252 = .ok (.iload 4, 2) := by decide +kernel
theorem dd_Md_look_254 : decode bb_Md_look 254 = .ok (.ireturn, 1) := by decide +kernel
def zk_Md_look : Room := { frames := 5, cells := 0, slots := 0, locals := 118 }
abbrev zA_Md_look (p : Program) (l : Launch) (e : Env) (s : State) (m : MethodId) (args : Array Value) (below : List Frame) (meth : Method) (c : Code) (G : zs_G) (Q : zs_Q) (pc : Nat) (P : zs_P) : Prop := zs_At p l e zk_Md_look s m args below meth c (MQ below (zs_Qc G Q) args s 0 0 (fun q => zg_z G ≤ q)) G 7 pc P
def zb_Md_look_26 (Q : zs_Q) : zs_P := zt_psh (-1) (zt_irt 0 0 Q)
def zb_Md_look_244 (Q : zs_Q) : zs_P := zt_ald 0 (zt_ild 1 (zt_ild 2 (zt_ild 4 (zt_cav 8 zw_Md_finish (3 + 1) 0 0 0 0 (zt_ild 4 (zt_irt 0 0 Q))))))
def zb_Md_look_238 (Q : zs_Q) (K187 : zs_P) : zs_P := zt_inc 6 1 (K187)
def zb_Md_look_223 (Q : zs_Q) (K187 : zs_P) : zs_P := zt_ald 0 (zt_psh 4 (zt_ild 1 (zt_ild 4 (zt_psh 4 (zt_ild 2 (zt_bin (fun x y => x * y) (zt_ild 6 (zt_bin (fun x y => x + y) (zt_psh 0 (zt_cav 8 zw_Md_post (5 + 1) 0 0 0 0 ((zb_Md_look_238 Q K187))))))))))))
def zb_Md_look_213 (Q : zs_Q) (K187 : zs_P) : zs_P := zt_ald 0 (zt_ild 4 (zt_ild 2 (zt_cav 8 zw_Md_readsIn (2 + 1) 0 0 0 0 (zt_if (fun x => x = 0) (zb_Md_look_238 Q K187) (zb_Md_look_223 Q K187)))))
def zb_Md_look_202 (Q : zs_Q) (K187 : zs_P) : zs_P := zt_ald 0 (zt_ild 4 (zt_ild 6 (zt_cav 8 zw_Md_active (2 + 1) 0 0 0 0 (zt_if (fun x => x = 0) (zb_Md_look_238 Q K187) (zb_Md_look_213 Q K187)))))
def zb_Md_look_196 (Q : zs_Q) (K187 : zs_P) : zs_P := zt_ild 6 (zt_ild 2 (zt_cmp (fun x y => x = y) (zb_Md_look_238 Q K187) (zb_Md_look_202 Q K187)))
def zb_Md_look_187 (Q : zs_Q) (K187 : zs_P) : zs_P := zt_ild 6 (zt_ald 0 (zt_gtI 8 0 (zt_cmp (fun x y => y ≤ x) (zb_Md_look_244 Q) (zb_Md_look_196 Q K187))))
def zl_Md_look_187 (Q : zs_Q) : zs_P := zt_ex (zb_Md_look_187 Q)
def zb_Md_look_184 (Q : zs_Q) : zs_P := zt_psh 0 (zt_ist 6 ((zl_Md_look_187 Q)))
def zb_Md_look_155 (Q : zs_Q) : zs_P := zt_ald 0 (zt_gtR 8 32 (zt_psh 100 (zt_ild 1 (zt_bin (fun x y => x * y) (zt_ild 4 (zt_bin (fun x y => x + y) (zt_ald 0 (zt_gtR 8 23 (zt_psh 12 (zt_ild 1 (zt_bin (fun x y => x * y) (zt_ald 0 (zt_gtR 8 5 (zt_ild 4 (zt_xld 100 (zt_bin (fun x y => x + y) (zt_xld 100 (zt_ias ((zb_Md_look_184 Q))))))))))))))))))))
def zb_Md_look_139 (Q : zs_Q) : zs_P := zt_ald 0 (zt_gtR 8 5 (zt_ild 4 (zt_xld 100 (zt_ald 0 (zt_gtI 8 0 (zt_div (fun x y => x - x / y * y) (zt_ild 2 (zt_cmp (fun x y => x = y) (zb_Md_look_155 Q) (zb_Md_look_184 Q)))))))))
def zb_Md_look_126 (Q : zs_Q) : zs_P := zt_ald 0 (zt_gtR 8 3 (zt_ild 4 (zt_xld 100 (zt_cal zw_Md_looksAtSecond 1 0 0 0 0 (zt_if (fun x => x = 0) (zb_Md_look_184 Q) (zb_Md_look_139 Q))))))
def zb_Md_look_97 (Q : zs_Q) : zs_P := zt_ald 0 (zt_gtR 8 31 (zt_psh 100 (zt_ild 1 (zt_bin (fun x y => x * y) (zt_ild 4 (zt_bin (fun x y => x + y) (zt_ald 0 (zt_gtR 8 23 (zt_psh 12 (zt_ild 1 (zt_bin (fun x y => x * y) (zt_ald 0 (zt_gtR 8 4 (zt_ild 4 (zt_xld 100 (zt_bin (fun x y => x + y) (zt_xld 100 (zt_ias ((zb_Md_look_126 Q))))))))))))))))))))
def zb_Md_look_92 (Q : zs_Q) : zs_P := zt_ild 5 (zt_if (fun x => x = 0) (zb_Md_look_126 Q) (zb_Md_look_97 Q))
def zb_Md_look_79 (Q : zs_Q) : zs_P := zt_ist 5 (zt_ald 0 (zt_gtR 8 3 (zt_ild 4 (zt_xld 100 (zt_psh 2 (zt_cmp (fun x y => x = y) (zb_Md_look_126 Q) (zb_Md_look_92 Q)))))))
def zb_Md_look_78 (Q : zs_Q) : zs_P := zt_psh 0 ((zb_Md_look_79 Q))
def zb_Md_look_74 (Q : zs_Q) : zs_P := zt_psh 1 ((zb_Md_look_79 Q))
def zb_Md_look_44 (Q : zs_Q) : zs_P := zt_ald 0 (zt_gtR 8 28 (zt_ald 0 (zt_ild 1 (zt_ild 2 (zt_ild 4 (zt_cav 8 zw_Md_place (3 + 1) 0 0 0 0 (zt_psh 1 (zt_zas (zt_ald 0 (zt_gtR 8 4 (zt_ild 4 (zt_xld 100 (zt_ald 0 (zt_gtI 8 0 (zt_div (fun x y => x - x / y * y) (zt_ild 2 (zt_cmp (fun x y => x = y) (zb_Md_look_74 Q) (zb_Md_look_78 Q))))))))))))))))))
def zb_Md_look_42 (Q : zs_Q) : zs_P := zt_psh (-1) (zt_irt 0 0 Q)
def zb_Md_look_28 (Q : zs_Q) : zs_P := zt_ald 0 (zt_ild 1 (zt_ild 2 (zt_ild 3 (zt_cav 8 zw_Md_nthReady (3 + 1) 0 0 0 0 (zt_ist 4 (zt_ild 4 (zt_if (fun x => 0 ≤ x) (zb_Md_look_44 Q) (zb_Md_look_42 Q))))))))
def zb_Md_look_19 (Q : zs_Q) : zs_P := zt_ald 0 (zt_cav 8 zw_Md_crowded (0 + 1) 0 0 0 0 (zt_if (fun x => x = 0) (zb_Md_look_28 Q) (zb_Md_look_26 Q)))
def zb_Md_look_9 (Q : zs_Q) : zs_P := zt_ild 3 (zt_psh 0 (zt_psh 99 (zt_cal zw_Md_in 3 0 0 0 0 (zt_if (fun x => x = 0) (zb_Md_look_26 Q) (zb_Md_look_19 Q)))))
def zb_Md_look_0 (Q : zs_Q) : zs_P := zt_ald 0 (zt_ild 1 (zt_ild 2 (zt_cav 8 zw_Md_there (2 + 1) 0 0 0 0 (zt_if (fun x => x = 0) (zb_Md_look_26 Q) (zb_Md_look_9 Q)))))
def zw_Md_look : zs_W := fun As σ Q => match As with
  | [a0, a1, a2, a3] => zs_c1 [a0, a1, a2, a3] = true ∧ zb_Md_look_0 Q [some a0, some a1, some a2, some a3, none, none, none] [] σ 0 0
  | _ => False
section
variable {p : Program} {l : Launch} {e : Env} {s : State} {m : MethodId} {args : Array Value} {below : List Frame} {meth : Method} {c : Code} {G : zs_G} {Q : zs_Q}
theorem zr_Md_look_26 (B : zs_B p s m args meth c G bb_Md_look 7 yy_Md_look (some .int)) : zA_Md_look p l e s m args below meth c G Q 26 (zb_Md_look_26 Q) := by
  unfold zb_Md_look_26
  refine za_ico B.1 (-1) dd_Md_look_26 (by decide) ?_
  exact za_irt B.1 0 0 B.2.1 B.2.2.1 dd_Md_look_27
theorem zr_Md_look_244 (B : zs_B p s m args meth c G bb_Md_look 7 yy_Md_look (some .int)) : zA_Md_look p l e s m args below meth c G Q 244 (zb_Md_look_244 Q) := by
  unfold zb_Md_look_244
  refine za_ald_n B.1 0 dd_Md_look_244 rfl ?_
  refine za_ild_n B.1 1 dd_Md_look_245 rfl ?_
  refine za_ild_n B.1 2 dd_Md_look_246 rfl ?_
  refine za_ild B.1 dd_Md_look_247 ?_
  refine za_cV B.1 8 3 0 0 0 0 rfl rfl rfl (by decide) (zm_Md_finish l G) ⟨callB_of 3 B.1.1.2.2.2.2 (zs_good zW_544) rfl rfl rfl (B.1.1.2.2.2.2 _ zW_8) (B.1.1.2.2.2.2 _ zW_542) (by decide +kernel) ⟨by decide, by decide⟩, (B.1.1.2.2.2.2 _ zW_543), (B.1.1.2.2.2.2 _ zW_681)⟩ dd_Md_look_249 ?_
  refine za_ild B.1 dd_Md_look_252 ?_
  exact za_irt B.1 0 0 B.2.1 B.2.2.1 dd_Md_look_254
theorem zr_Md_look_238 (B : zs_B p s m args meth c G bb_Md_look 7 yy_Md_look (some .int)) {K187 : zs_P} (h187 : zA_Md_look p l e s m args below meth c G Q 187 K187) : zA_Md_look p l e s m args below meth c G Q 238 (zb_Md_look_238 Q K187) := by
  unfold zb_Md_look_238
  refine za_inc B.1 1 dd_Md_look_238 (by decide) (by decide) ?_
  refine za_goto B.1 187 dd_Md_look_241 (by decide) ?_
  exact h187
theorem zr_Md_look_223 (B : zs_B p s m args meth c G bb_Md_look 7 yy_Md_look (some .int)) {K187 : zs_P} (h187 : zA_Md_look p l e s m args below meth c G Q 187 K187) : zA_Md_look p l e s m args below meth c G Q 223 (zb_Md_look_223 Q K187) := by
  unfold zb_Md_look_223
  refine za_ald_n B.1 0 dd_Md_look_223 rfl ?_
  refine za_ico B.1 4 dd_Md_look_224 (by decide) ?_
  refine za_ild_n B.1 1 dd_Md_look_225 rfl ?_
  refine za_ild B.1 dd_Md_look_226 ?_
  refine za_ico B.1 4 dd_Md_look_228 (by decide) ?_
  refine za_ild_n B.1 2 dd_Md_look_229 rfl ?_
  refine za_mul B.1 dd_Md_look_230 ?_
  refine za_ild B.1 dd_Md_look_231 ?_
  refine za_add B.1 dd_Md_look_233 ?_
  refine za_ico B.1 0 dd_Md_look_234 (by decide) ?_
  refine za_cV B.1 8 5 0 0 0 0 rfl rfl rfl (by decide) (zm_Md_post l G) ⟨callB_of 5 B.1.1.2.2.2.2 (zs_good zW_535) rfl rfl rfl (B.1.1.2.2.2.2 _ zW_8) (B.1.1.2.2.2.2 _ zW_533) (by decide +kernel) ⟨by decide, by decide⟩, (B.1.1.2.2.2.2 _ zW_534), (B.1.1.2.2.2.2 _ zW_678)⟩ dd_Md_look_235 ?_
  exact (zr_Md_look_238 B h187)
theorem zr_Md_look_213 (B : zs_B p s m args meth c G bb_Md_look 7 yy_Md_look (some .int)) {K187 : zs_P} (h187 : zA_Md_look p l e s m args below meth c G Q 187 K187) : zA_Md_look p l e s m args below meth c G Q 213 (zb_Md_look_213 Q K187) := by
  unfold zb_Md_look_213
  refine za_ald_n B.1 0 dd_Md_look_213 rfl ?_
  refine za_ild B.1 dd_Md_look_214 ?_
  refine za_ild_n B.1 2 dd_Md_look_216 rfl ?_
  refine za_cV B.1 8 2 0 0 0 0 rfl rfl rfl (by decide) (zm_Md_readsIn l G) ⟨callB_of 2 B.1.1.2.2.2.2 (zs_good zW_550) rfl rfl rfl (B.1.1.2.2.2.2 _ zW_8) (B.1.1.2.2.2.2 _ zW_548) (by decide +kernel) ⟨by decide, by decide⟩, (B.1.1.2.2.2.2 _ zW_549), (B.1.1.2.2.2.2 _ zW_683)⟩ dd_Md_look_217 ?_
  exact za_if_eq B.1 238 dd_Md_look_220 (by decide) (zr_Md_look_238 B h187) (zr_Md_look_223 B h187)
theorem zr_Md_look_202 (B : zs_B p s m args meth c G bb_Md_look 7 yy_Md_look (some .int)) {K187 : zs_P} (h187 : zA_Md_look p l e s m args below meth c G Q 187 K187) : zA_Md_look p l e s m args below meth c G Q 202 (zb_Md_look_202 Q K187) := by
  unfold zb_Md_look_202
  refine za_ald_n B.1 0 dd_Md_look_202 rfl ?_
  refine za_ild B.1 dd_Md_look_203 ?_
  refine za_ild B.1 dd_Md_look_205 ?_
  refine za_cV B.1 8 2 0 0 0 0 rfl rfl rfl (by decide) (zm_Md_active l G) ⟨callB_of 2 B.1.1.2.2.2.2 (zs_good zW_556) rfl rfl rfl (B.1.1.2.2.2.2 _ zW_8) (B.1.1.2.2.2.2 _ zW_554) (by decide +kernel) ⟨by decide, by decide⟩, (B.1.1.2.2.2.2 _ zW_555), (B.1.1.2.2.2.2 _ zW_685)⟩ dd_Md_look_207 ?_
  exact za_if_eq B.1 238 dd_Md_look_210 (by decide) (zr_Md_look_238 B h187) (zr_Md_look_213 B h187)
theorem zr_Md_look_196 (B : zs_B p s m args meth c G bb_Md_look 7 yy_Md_look (some .int)) {K187 : zs_P} (h187 : zA_Md_look p l e s m args below meth c G Q 187 K187) : zA_Md_look p l e s m args below meth c G Q 196 (zb_Md_look_196 Q K187) := by
  unfold zb_Md_look_196
  refine za_ild B.1 dd_Md_look_196 ?_
  refine za_ild_n B.1 2 dd_Md_look_198 rfl ?_
  exact za_cmp_eq B.1 238 dd_Md_look_199 (by decide) (zr_Md_look_238 B h187) (zr_Md_look_202 B h187)
theorem zr_Md_look_187 (B : zs_B p s m args meth c G bb_Md_look 7 yy_Md_look (some .int)) {K187 : zs_P} (h187 : zA_Md_look p l e s m args below meth c G Q 187 K187) : zA_Md_look p l e s m args below meth c G Q 187 (zb_Md_look_187 Q K187) := by
  unfold zb_Md_look_187
  refine za_ild B.1 dd_Md_look_187 ?_
  refine za_ald_n B.1 0 dd_Md_look_189 rfl ?_
  refine za_gtI B.1 8 0 zi_8 rfl (by decide) (by decide) rfl zW_456 rfl dd_Md_look_190 ?_
  exact za_cmp_ge B.1 244 dd_Md_look_193 (by decide) (zr_Md_look_244 B) (zr_Md_look_196 B h187)
theorem zq_Md_look_187 (B : zs_B p s m args meth c G bb_Md_look 7 yy_Md_look (some .int)) : zA_Md_look p l e s m args below meth c G Q 187 (zl_Md_look_187 Q) := za_lop (fun K hK => zr_Md_look_187 B hK)
theorem zr_Md_look_184 (B : zs_B p s m args meth c G bb_Md_look 7 yy_Md_look (some .int)) : zA_Md_look p l e s m args below meth c G Q 184 (zb_Md_look_184 Q) := by
  unfold zb_Md_look_184
  refine za_ico B.1 0 dd_Md_look_184 (by decide) ?_
  refine za_ist B.1 dd_Md_look_185 (by decide) ?_
  exact (zq_Md_look_187 B)
theorem zr_Md_look_155 (B : zs_B p s m args meth c G bb_Md_look 7 yy_Md_look (some .int)) : zA_Md_look p l e s m args below meth c G Q 155 (zb_Md_look_155 Q) := by
  unfold zb_Md_look_155
  refine za_ald_n B.1 0 dd_Md_look_155 rfl ?_
  refine za_gtR B.1 8 32 zi_8 rfl (by decide) (by decide) rfl zW_488 rfl dd_Md_look_156 ?_
  refine za_bip B.1 100 dd_Md_look_159 (by decide) ?_
  refine za_ild_n B.1 1 dd_Md_look_161 rfl ?_
  refine za_mul B.1 dd_Md_look_162 ?_
  refine za_ild B.1 dd_Md_look_163 ?_
  refine za_add B.1 dd_Md_look_165 ?_
  refine za_ald_n B.1 0 dd_Md_look_166 rfl ?_
  refine za_gtR B.1 8 23 zi_8 rfl (by decide) (by decide) rfl zW_479 rfl dd_Md_look_167 ?_
  refine za_bip B.1 12 dd_Md_look_170 (by decide) ?_
  refine za_ild_n B.1 1 dd_Md_look_172 rfl ?_
  refine za_mul B.1 dd_Md_look_173 ?_
  refine za_ald_n B.1 0 dd_Md_look_174 rfl ?_
  refine za_gtR B.1 8 5 zi_8 rfl (by decide) (by decide) rfl zW_461 rfl dd_Md_look_175 ?_
  refine za_ild B.1 dd_Md_look_178 ?_
  refine za_iald B.1 dd_Md_look_180 ?_
  refine za_add B.1 dd_Md_look_181 ?_
  refine za_iald B.1 dd_Md_look_182 ?_
  refine za_iast B.1 dd_Md_look_183 ?_
  exact (zr_Md_look_184 B)
theorem zr_Md_look_139 (B : zs_B p s m args meth c G bb_Md_look 7 yy_Md_look (some .int)) : zA_Md_look p l e s m args below meth c G Q 139 (zb_Md_look_139 Q) := by
  unfold zb_Md_look_139
  refine za_ald_n B.1 0 dd_Md_look_139 rfl ?_
  refine za_gtR B.1 8 5 zi_8 rfl (by decide) (by decide) rfl zW_461 rfl dd_Md_look_140 ?_
  refine za_ild B.1 dd_Md_look_143 ?_
  refine za_iald B.1 dd_Md_look_145 ?_
  refine za_ald_n B.1 0 dd_Md_look_146 rfl ?_
  refine za_gtI B.1 8 0 zi_8 rfl (by decide) (by decide) rfl zW_456 rfl dd_Md_look_147 ?_
  refine za_rem B.1 dd_Md_look_150 ?_
  refine za_ild_n B.1 2 dd_Md_look_151 rfl ?_
  exact za_cmp_ne B.1 184 dd_Md_look_152 (by decide) (zr_Md_look_155 B) (zr_Md_look_184 B)
theorem zr_Md_look_126 (B : zs_B p s m args meth c G bb_Md_look 7 yy_Md_look (some .int)) : zA_Md_look p l e s m args below meth c G Q 126 (zb_Md_look_126 Q) := by
  unfold zb_Md_look_126
  refine za_ald_n B.1 0 dd_Md_look_126 rfl ?_
  refine za_gtR B.1 8 3 zi_8 rfl (by decide) (by decide) rfl zW_459 rfl dd_Md_look_127 ?_
  refine za_ild B.1 dd_Md_look_130 ?_
  refine za_iald B.1 dd_Md_look_132 ?_
  refine za_cS B.1 1 0 0 0 0 rfl rfl (zm_Md_looksAtSecond l G) ⟨callB_of 1 B.1.1.2.2.2.2 (zs_good zW_503) rfl rfl rfl (B.1.1.2.2.2.2 _ zW_8) (B.1.1.2.2.2.2 _ zW_501) (by decide +kernel) ⟨by decide, by decide⟩, (B.1.1.2.2.2.2 _ zW_502)⟩ dd_Md_look_133 ?_
  exact za_if_eq B.1 184 dd_Md_look_136 (by decide) (zr_Md_look_184 B) (zr_Md_look_139 B)
theorem zr_Md_look_97 (B : zs_B p s m args meth c G bb_Md_look 7 yy_Md_look (some .int)) : zA_Md_look p l e s m args below meth c G Q 97 (zb_Md_look_97 Q) := by
  unfold zb_Md_look_97
  refine za_ald_n B.1 0 dd_Md_look_97 rfl ?_
  refine za_gtR B.1 8 31 zi_8 rfl (by decide) (by decide) rfl zW_487 rfl dd_Md_look_98 ?_
  refine za_bip B.1 100 dd_Md_look_101 (by decide) ?_
  refine za_ild_n B.1 1 dd_Md_look_103 rfl ?_
  refine za_mul B.1 dd_Md_look_104 ?_
  refine za_ild B.1 dd_Md_look_105 ?_
  refine za_add B.1 dd_Md_look_107 ?_
  refine za_ald_n B.1 0 dd_Md_look_108 rfl ?_
  refine za_gtR B.1 8 23 zi_8 rfl (by decide) (by decide) rfl zW_479 rfl dd_Md_look_109 ?_
  refine za_bip B.1 12 dd_Md_look_112 (by decide) ?_
  refine za_ild_n B.1 1 dd_Md_look_114 rfl ?_
  refine za_mul B.1 dd_Md_look_115 ?_
  refine za_ald_n B.1 0 dd_Md_look_116 rfl ?_
  refine za_gtR B.1 8 4 zi_8 rfl (by decide) (by decide) rfl zW_460 rfl dd_Md_look_117 ?_
  refine za_ild B.1 dd_Md_look_120 ?_
  refine za_iald B.1 dd_Md_look_122 ?_
  refine za_add B.1 dd_Md_look_123 ?_
  refine za_iald B.1 dd_Md_look_124 ?_
  refine za_iast B.1 dd_Md_look_125 ?_
  exact (zr_Md_look_126 B)
theorem zr_Md_look_92 (B : zs_B p s m args meth c G bb_Md_look 7 yy_Md_look (some .int)) : zA_Md_look p l e s m args below meth c G Q 92 (zb_Md_look_92 Q) := by
  unfold zb_Md_look_92
  refine za_ild B.1 dd_Md_look_92 ?_
  exact za_if_eq B.1 126 dd_Md_look_94 (by decide) (zr_Md_look_126 B) (zr_Md_look_97 B)
theorem zr_Md_look_79 (B : zs_B p s m args meth c G bb_Md_look 7 yy_Md_look (some .int)) : zA_Md_look p l e s m args below meth c G Q 79 (zb_Md_look_79 Q) := by
  unfold zb_Md_look_79
  refine za_ist B.1 dd_Md_look_79 (by decide) ?_
  refine za_ald_n B.1 0 dd_Md_look_81 rfl ?_
  refine za_gtR B.1 8 3 zi_8 rfl (by decide) (by decide) rfl zW_459 rfl dd_Md_look_82 ?_
  refine za_ild B.1 dd_Md_look_85 ?_
  refine za_iald B.1 dd_Md_look_87 ?_
  refine za_ico B.1 2 dd_Md_look_88 (by decide) ?_
  exact za_cmp_eq B.1 126 dd_Md_look_89 (by decide) (zr_Md_look_126 B) (zr_Md_look_92 B)
theorem zr_Md_look_78 (B : zs_B p s m args meth c G bb_Md_look 7 yy_Md_look (some .int)) : zA_Md_look p l e s m args below meth c G Q 78 (zb_Md_look_78 Q) := by
  unfold zb_Md_look_78
  refine za_ico B.1 0 dd_Md_look_78 (by decide) ?_
  exact (zr_Md_look_79 B)
theorem zr_Md_look_74 (B : zs_B p s m args meth c G bb_Md_look 7 yy_Md_look (some .int)) : zA_Md_look p l e s m args below meth c G Q 74 (zb_Md_look_74 Q) := by
  unfold zb_Md_look_74
  refine za_ico B.1 1 dd_Md_look_74 (by decide) ?_
  refine za_goto B.1 79 dd_Md_look_75 (by decide) ?_
  exact (zr_Md_look_79 B)
theorem zr_Md_look_44 (B : zs_B p s m args meth c G bb_Md_look 7 yy_Md_look (some .int)) : zA_Md_look p l e s m args below meth c G Q 44 (zb_Md_look_44 Q) := by
  unfold zb_Md_look_44
  refine za_ald_n B.1 0 dd_Md_look_44 rfl ?_
  refine za_gtR B.1 8 28 zi_8 rfl (by decide) (by decide) rfl zW_484 rfl dd_Md_look_45 ?_
  refine za_ald_n B.1 0 dd_Md_look_48 rfl ?_
  refine za_ild_n B.1 1 dd_Md_look_49 rfl ?_
  refine za_ild_n B.1 2 dd_Md_look_50 rfl ?_
  refine za_ild B.1 dd_Md_look_51 ?_
  refine za_cV B.1 8 3 0 0 0 0 rfl rfl rfl (by decide) (zm_Md_place l G) ⟨callB_of 3 B.1.1.2.2.2.2 (zs_good zW_547) rfl rfl rfl (B.1.1.2.2.2.2 _ zW_8) (B.1.1.2.2.2.2 _ zW_545) (by decide +kernel) ⟨by decide, by decide⟩, (B.1.1.2.2.2.2 _ zW_546), (B.1.1.2.2.2.2 _ zW_682)⟩ dd_Md_look_53 ?_
  refine za_ico B.1 1 dd_Md_look_56 (by decide) ?_
  refine za_zast B.1 dd_Md_look_57 ?_
  refine za_ald_n B.1 0 dd_Md_look_58 rfl ?_
  refine za_gtR B.1 8 4 zi_8 rfl (by decide) (by decide) rfl zW_460 rfl dd_Md_look_59 ?_
  refine za_ild B.1 dd_Md_look_62 ?_
  refine za_iald B.1 dd_Md_look_64 ?_
  refine za_ald_n B.1 0 dd_Md_look_65 rfl ?_
  refine za_gtI B.1 8 0 zi_8 rfl (by decide) (by decide) rfl zW_456 rfl dd_Md_look_66 ?_
  refine za_rem B.1 dd_Md_look_69 ?_
  refine za_ild_n B.1 2 dd_Md_look_70 rfl ?_
  exact za_cmp_ne B.1 78 dd_Md_look_71 (by decide) (zr_Md_look_74 B) (zr_Md_look_78 B)
theorem zr_Md_look_42 (B : zs_B p s m args meth c G bb_Md_look 7 yy_Md_look (some .int)) : zA_Md_look p l e s m args below meth c G Q 42 (zb_Md_look_42 Q) := by
  unfold zb_Md_look_42
  refine za_ico B.1 (-1) dd_Md_look_42 (by decide) ?_
  exact za_irt B.1 0 0 B.2.1 B.2.2.1 dd_Md_look_43
theorem zr_Md_look_28 (B : zs_B p s m args meth c G bb_Md_look 7 yy_Md_look (some .int)) : zA_Md_look p l e s m args below meth c G Q 28 (zb_Md_look_28 Q) := by
  unfold zb_Md_look_28
  refine za_ald_n B.1 0 dd_Md_look_28 rfl ?_
  refine za_ild_n B.1 1 dd_Md_look_29 rfl ?_
  refine za_ild_n B.1 2 dd_Md_look_30 rfl ?_
  refine za_ild_n B.1 3 dd_Md_look_31 rfl ?_
  refine za_cV B.1 8 3 0 0 0 0 rfl rfl rfl (by decide) (zm_Md_nthReady l G) ⟨callB_of 3 B.1.1.2.2.2.2 (zs_good zW_623) rfl rfl rfl (B.1.1.2.2.2.2 _ zW_8) (B.1.1.2.2.2.2 _ zW_621) (by decide +kernel) ⟨by decide, by decide⟩, (B.1.1.2.2.2.2 _ zW_622), (B.1.1.2.2.2.2 _ zW_698)⟩ dd_Md_look_32 ?_
  refine za_ist B.1 dd_Md_look_35 (by decide) ?_
  refine za_ild B.1 dd_Md_look_37 ?_
  exact za_if_ge B.1 44 dd_Md_look_39 (by decide) (zr_Md_look_44 B) (zr_Md_look_42 B)
theorem zr_Md_look_19 (B : zs_B p s m args meth c G bb_Md_look 7 yy_Md_look (some .int)) : zA_Md_look p l e s m args below meth c G Q 19 (zb_Md_look_19 Q) := by
  unfold zb_Md_look_19
  refine za_ald_n B.1 0 dd_Md_look_19 rfl ?_
  refine za_cV B.1 8 0 0 0 0 0 rfl rfl rfl (by decide) (zm_Md_crowded l G) ⟨callB_of 0 B.1.1.2.2.2.2 (zs_good zW_572) rfl rfl rfl (B.1.1.2.2.2.2 _ zW_8) (B.1.1.2.2.2.2 _ zW_570) (by decide +kernel) ⟨by decide, by decide⟩, (B.1.1.2.2.2.2 _ zW_571), (B.1.1.2.2.2.2 _ zW_689)⟩ dd_Md_look_20 ?_
  exact za_if_eq B.1 28 dd_Md_look_23 (by decide) (zr_Md_look_28 B) (zr_Md_look_26 B)
theorem zr_Md_look_9 (B : zs_B p s m args meth c G bb_Md_look 7 yy_Md_look (some .int)) : zA_Md_look p l e s m args below meth c G Q 9 (zb_Md_look_9 Q) := by
  unfold zb_Md_look_9
  refine za_ild_n B.1 3 dd_Md_look_9 rfl ?_
  refine za_ico B.1 0 dd_Md_look_10 (by decide) ?_
  refine za_bip B.1 99 dd_Md_look_11 (by decide) ?_
  refine za_cS B.1 3 0 0 0 0 rfl rfl (zm_Md_in l G) ⟨callB_of 3 B.1.1.2.2.2.2 (zs_good zW_497) rfl rfl rfl (B.1.1.2.2.2.2 _ zW_8) (B.1.1.2.2.2.2 _ zW_495) (by decide +kernel) ⟨by decide, by decide⟩, (B.1.1.2.2.2.2 _ zW_496)⟩ dd_Md_look_13 ?_
  exact za_if_eq B.1 26 dd_Md_look_16 (by decide) (zr_Md_look_26 B) (zr_Md_look_19 B)
theorem zr_Md_look_0 (B : zs_B p s m args meth c G bb_Md_look 7 yy_Md_look (some .int)) : zA_Md_look p l e s m args below meth c G Q 0 (zb_Md_look_0 Q) := by
  unfold zb_Md_look_0
  refine za_ald_n B.1 0 dd_Md_look_0 rfl ?_
  refine za_ild_n B.1 1 dd_Md_look_1 rfl ?_
  refine za_ild_n B.1 2 dd_Md_look_2 rfl ?_
  refine za_cV B.1 8 2 0 0 0 0 rfl rfl rfl (by decide) (zm_Md_there l G) ⟨callB_of 2 B.1.1.2.2.2.2 (zs_good zW_610) rfl rfl rfl (B.1.1.2.2.2.2 _ zW_8) (B.1.1.2.2.2.2 _ zW_608) (by decide +kernel) ⟨by decide, by decide⟩, (B.1.1.2.2.2.2 _ zW_609), (B.1.1.2.2.2.2 _ zW_695)⟩ dd_Md_look_3 ?_
  exact za_if_eq B.1 26 dd_Md_look_6 (by decide) (zr_Md_look_26 B) (zr_Md_look_9 B)
end
theorem zm_Md_look (l : Launch) (G : zs_G) (As : List Value) (σ : zs_S) (Q : zs_Q) (h : zw_Md_look As σ Q) : zs_Met l yy_Md_look (Cond.code yy_Md_look bb_Md_look 7 (some .int) :: zw_all) zk_Md_look G As σ Q 0 0 := by
  unfold zw_Md_look at h
  split at h
  · exact zs_enter (by decide +kernel) h.1 (Nat.le_of_ble_eq_true rfl) h.2 (fun p e s m args below meth c B => zr_Md_look_0 B)
  · exact h.elim
