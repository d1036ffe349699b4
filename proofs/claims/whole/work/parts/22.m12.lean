/-! Methods: Md_deliver, Md_spread, Md_working, Md_close, Md_resend (made by program) -/
-- SequencedBatchesModel.deliver(I)Z
theorem dd_Md_deliver_0 : decode bb_Md_deliver 0 = .ok (.iload_n 1, 1) := by decide +kernel
theorem dd_Md_deliver_1 : decode bb_Md_deliver 1 = .ok (.iconst 0, 1) := by decide +kernel
theorem dd_Md_deliver_2 : decode bb_Md_deliver 2 = .ok (.aload_n 0, 1) := by decide +kernel
theorem dd_Md_deliver_3 : decode bb_Md_deliver 3 = .ok (.getfield 108, 3) := by decide +kernel
theorem dd_Md_deliver_6 : decode bb_Md_deliver 6 = .ok (.iconst 1, 1) := by decide +kernel
theorem dd_Md_deliver_7 : decode bb_Md_deliver 7 = .ok (.isub, 1) := by decide +kernel
theorem dd_Md_deliver_8 : decode bb_Md_deliver 8 = .ok (.invokestatic 111, 3) := by decide +kernel
theorem dd_Md_deliver_11 : decode bb_Md_deliver 11 = .ok (.ifCond .ne 5, 3) := by decide +kernel
theorem dd_Md_deliver_14 : decode bb_Md_deliver 14 = .ok (.iconst 0, 1) := by decide +kernel
theorem dd_Md_deliver_15 : decode bb_Md_deliver 15 = .ok (.ireturn, 1) := by decide +kernel
theorem dd_Md_deliver_16 : decode bb_Md_deliver 16 = .ok (.aload_n 0, 1) := by decide +kernel
theorem dd_Md_deliver_17 : decode bb_Md_deliver 17 = .ok (.getfield 53, 3) := by decide +kernel
theorem dd_Md_deliver_20 : decode bb_Md_deliver 20 = .ok (.iload_n 1, 1) := by decide +kernel
theorem dd_Md_deliver_21 : decode bb_Md_deliver 21 = .ok (.iaload, 1) := by decide +kernel
theorem dd_Md_deliver_22 : decode bb_Md_deliver 22 = .ok (.istore_n 2, 1) := by decide +kernel
theorem dd_Md_deliver_23 : decode bb_Md_deliver 23 = .ok (.aload_n 0, 1) := by decide +kernel
theorem dd_Md_deliver_24 : decode bb_Md_deliver 24 = .ok (.getfield 59, 3) := by decide +kernel
theorem dd_Md_deliver_27 : decode bb_Md_deliver 27 = .ok (.iload_n 1, 1) := by decide +kernel
theorem dd_Md_deliver_28 : decode bb_Md_deliver 28 = .ok (.iaload, 1) := by decide +kernel
theorem dd_Md_deliver_29 : decode bb_Md_deliver 29 = .ok (.istore_n 3, 1) := by decide +kernel
theorem dd_Md_deliver_30 : decode bb_Md_deliver 30 = .ok (.aload_n 0, 1) := by decide +kernel
theorem dd_Md_deliver_31 : decode bb_Md_deliver 31 = .ok (.getfield 62, 3) := by decide +kernel
theorem dd_Md_deliver_34 : decode bb_Md_deliver 34 = .ok (.iload_n 1, 1) := by decide +kernel
theorem dd_Md_deliver_35 : decode bb_Md_deliver 35 = .ok (.iaload, 1) := by decide +kernel
theorem dd_Md_deliver_36 : decode bb_Md_deliver 36 = .ok (.istore 4, 2) := by decide +kernel
theorem dd_Md_deliver_38 : decode bb_Md_deliver 38 = .ok (.aload_n 0, 1) := by decide +kernel
theorem dd_Md_deliver_39 : decode bb_Md_deliver 39 = .ok (.getfield 56, 3) := by decide +kernel
theorem dd_Md_deliver_42 : decode bb_Md_deliver 42 = .ok (.iload_n 1, 1) := by decide +kernel
theorem dd_Md_deliver_43 : decode bb_Md_deliver 43 = .ok (.iaload, 1) := by decide +kernel
theorem dd_Md_deliver_44 : decode bb_Md_deliver 44 = .ok (.istore 5, 2) := by decide +kernel
theorem dd_Md_deliver_46 : decode bb_Md_deliver 46 = .ok (.aload_n 0, 1) := by decide +kernel
theorem dd_Md_deliver_47 : decode bb_Md_deliver 47 = .ok (.getfield 65, 3) := by decide +kernel
theorem dd_Md_deliver_50 : decode bb_Md_deliver 50 = .ok (.iload_n 1, 1) := by decide +kernel
theorem dd_Md_deliver_51 : decode bb_Md_deliver 51 = .ok (.iaload, 1) := by decide +kernel
theorem dd_Md_deliver_52 : decode bb_Md_deliver 52 = .ok (.istore 6, 2) := by decide +kernel
theorem dd_Md_deliver_54 : decode bb_Md_deliver 54 = .ok (.aload_n 0, 1) := by decide +kernel
theorem dd_Md_deliver_55 : decode bb_Md_deliver 55 = .ok (.iload_n 1, 1) := by decide +kernel
theorem dd_Md_deliver_56 : decode bb_Md_deliver 56 = .ok (.invokevirtual 136, 3) := by decide +kernel
theorem dd_Md_deliver_59 : decode bb_Md_deliver 59 = .ok (.iload_n 2, 1) := by decide +kernel
theorem dd_Md_deliver_60 : decode bb_Md_deliver 60 = .ok (.iconst 1, 1) := by decide +kernel
theorem dd_Md_deliver_61 : decode bb_Md_deliver 61 = .ok (.if_icmp .ne 14, 3) := by decide +kernel
theorem dd_Md_deliver_64 : decode bb_Md_deliver 64 = .ok (.aload_n 0, 1) := by decide +kernel
theorem dd_Md_deliver_65 : decode bb_Md_deliver 65 = .ok (.iload_n 3, 1) := by decide +kernel
theorem dd_Md_deliver_66 : decode bb_Md_deliver 66 = .ok (.iload 4, 2) := by decide +kernel
theorem dd_Md_deliver_68 : decode bb_Md_deliver 68 = .ok (.iload 5, 2) := by decide +kernel
theorem dd_Md_deliver_70 : decode bb_Md_deliver 70 = .ok (.iload 6, 2) := by decide +kernel
theorem dd_Md_deliver_72 : decode bb_Md_deliver 72 = .ok (.invokevirtual 140, 3) := by decide +kernel
theorem dd_Md_deliver_75 : decode bb_Md_deliver 75 = .ok (.iload_n 2, 1) := by decide +kernel
theorem dd_Md_deliver_76 : decode bb_Md_deliver 76 = .ok (.iconst 2, 1) := by decide +kernel
theorem dd_Md_deliver_77 : decode bb_Md_deliver 77 = .ok (.if_icmp .ne 12, 3) := by decide +kernel
theorem dd_Md_deliver_80 : decode bb_Md_deliver 80 = .ok (.aload_n 0, 1) := by decide +kernel
theorem dd_Md_deliver_81 : decode bb_Md_deliver 81 = .ok (.iload_n 3, 1) := by decide +kernel
theorem dd_Md_deliver_82 : decode bb_Md_deliver 82 = .ok (.iload 4, 2) := by decide +kernel
theorem dd_Md_deliver_84 : decode bb_Md_deliver 84 = .ok (.iload 6, 2) := by decide +kernel
theorem dd_Md_deliver_86 : decode bb_Md_deliver 86 = .ok (.invokevirtual 144, 3) := by decide +kernel
theorem dd_Md_deliver_89 : decode bb_Md_deliver 89 = .ok (.iload_n 2, 1) := by decide +kernel
theorem dd_Md_deliver_90 : decode bb_Md_deliver 90 = .ok (.iconst 3, 1) := by decide +kernel
theorem dd_Md_deliver_91 : decode bb_Md_deliver 91 = .ok (.if_icmp .ne 27, 3) := by decide +kernel
theorem dd_Md_deliver_94 : decode bb_Md_deliver 94 = .ok (.aload_n 0, 1) := by decide +kernel
theorem dd_Md_deliver_95 : decode bb_Md_deliver 95 = .ok (.getfield 7, 3) := by decide +kernel
theorem dd_Md_deliver_98 : decode bb_Md_deliver 98 = .ok (.iconst 5, 1) := by decide +kernel
theorem dd_Md_deliver_99 : decode bb_Md_deliver 99 = .ok (.iload_n 3, 1) := by decide +kernel
theorem dd_Md_deliver_100 : decode bb_Md_deliver 100 = .ok (.iadd, 1) := by decide +kernel
theorem dd_Md_deliver_101 : decode bb_Md_deliver 101 = .ok (.baload, 1) := by decide +kernel
theorem dd_Md_deliver_102 : decode bb_Md_deliver 102 = .ok (.ifCond .ne 16, 3) := by decide +kernel
theorem dd_Md_deliver_105 : decode bb_Md_deliver 105 = .ok (.aload_n 0, 1) := by decide +kernel
theorem dd_Md_deliver_106 : decode bb_Md_deliver 106 = .ok (.getfield 68, 3) := by decide +kernel
theorem dd_Md_deliver_109 : decode bb_Md_deliver 109 = .ok (.bipush 40, 2) := by decide +kernel
theorem dd_Md_deliver_111 : decode bb_Md_deliver 111 = .ok (.iload_n 3, 1) := by decide +kernel
theorem dd_Md_deliver_112 : decode bb_Md_deliver 112 = .ok (.imul, 1) := by decide +kernel
theorem dd_Md_deliver_113 : decode bb_Md_deliver 113 = .ok (.iload 4, 2) := by decide +kernel
theorem dd_Md_deliver_115 : decode bb_Md_deliver 115 = .ok (.iadd, 1) := by decide +kernel
theorem dd_Md_deliver_116 : decode bb_Md_deliver 116 = .ok (.iconst 1, 1) := by decide +kernel
theorem dd_Md_deliver_117 : decode bb_Md_deliver 117 = .ok (.bastore, 1) := by decide +kernel
theorem dd_Md_deliver_118 : decode bb_Md_deliver 118 = .ok (.iload_n 2, 1) := by decide +kernel
theorem dd_Md_deliver_119 : decode bb_Md_deliver 119 = .ok (.iconst 4, 1) := by decide +kernel
theorem dd_Md_deliver_120 : decode bb_Md_deliver 120 = .ok (.if_icmp .ne 33, 3) := by decide +kernel
theorem dd_Md_deliver_123 : decode bb_Md_deliver 123 = .ok (.aload_n 0, 1) := by decide +kernel
theorem dd_Md_deliver_124 : decode bb_Md_deliver 124 = .ok (.getfield 92, 3) := by decide +kernel
theorem dd_Md_deliver_127 : decode bb_Md_deliver 127 = .ok (.bipush 16, 2) := by decide +kernel
theorem dd_Md_deliver_129 : decode bb_Md_deliver 129 = .ok (.bipush 100, 2) := by decide +kernel
theorem dd_Md_deliver_131 : decode bb_Md_deliver 131 = .ok (.iload_n 3, 1) := by decide +kernel
theorem dd_Md_deliver_132 : decode bb_Md_deliver 132 = .ok (.imul, 1) := by decide +kernel
theorem dd_Md_deliver_133 : decode bb_Md_deliver 133 = .ok (.iload 4, 2) := by decide +kernel
theorem dd_Md_deliver_135 : decode bb_Md_deliver 135 = .ok (.iadd, 1) := by decide +kernel
theorem dd_Md_deliver_136 : decode bb_Md_deliver 136 = .ok (.imul, 1) := by decide +kernel
theorem dd_Md_deliver_137 : decode bb_Md_deliver 137 = .ok (.iload 5, 2) := by decide +kernel
theorem dd_Md_deliver_139 : decode bb_Md_deliver 139 = .ok (.iadd, 1) := by decide +kernel
theorem dd_Md_deliver_140 : decode bb_Md_deliver 140 = .ok (.iconst 1, 1) := by decide +kernel
theorem dd_Md_deliver_141 : decode bb_Md_deliver 141 = .ok (.bastore, 1) := by decide +kernel
theorem dd_Md_deliver_142 : decode bb_Md_deliver 142 = .ok (.aload_n 0, 1) := by decide +kernel
theorem dd_Md_deliver_143 : decode bb_Md_deliver 143 = .ok (.iload_n 3, 1) := by decide +kernel
theorem dd_Md_deliver_144 : decode bb_Md_deliver 144 = .ok (.iload 5, 2) := by decide +kernel
theorem dd_Md_deliver_146 : decode bb_Md_deliver 146 = .ok (.iconst 4, 1) := by decide +kernel
theorem dd_Md_deliver_147 : decode bb_Md_deliver 147 = .ok (.irem, 1) := by decide +kernel
theorem dd_Md_deliver_148 : decode bb_Md_deliver 148 = .ok (.iload 4, 2) := by decide +kernel
theorem dd_Md_deliver_150 : decode bb_Md_deliver 150 = .ok (.invokevirtual 148, 3) := by decide +kernel
theorem dd_Md_deliver_153 : decode bb_Md_deliver 153 = .ok (.iconst 1, 1) := by decide +kernel
theorem dd_Md_deliver_154 : decode bb_Md_deliver 154 = .ok (.ireturn, 1) := by decide +kernel
def zk_Md_deliver : Room := { frames := 4, cells := 0, slots := 0, locals := 91 }
abbrev zA_Md_deliver (p : Program) (l : Launch) (e : Env) (s : State) (m : MethodId) (args : Array Value) (below : List Frame) (meth : Method) (c : Code) (G : zs_G) (Q : zs_Q) (pc : Nat) (P : zs_P) : Prop := zs_At p l e zk_Md_deliver s m args below meth c (MQ below (zs_Qc G Q) args s 0 0 (fun q => zg_z G ≤ q)) G 7 pc P
def zb_Md_deliver_153 (Q : zs_Q) : zs_P := zt_psh 1 (zt_zrt 0 0 Q)
def zb_Md_deliver_123 (Q : zs_Q) : zs_P := zt_ald 0 (zt_gtR 8 30 (zt_psh 16 (zt_psh 100 (zt_ild 3 (zt_bin (fun x y => x * y) (zt_ild 4 (zt_bin (fun x y => x + y) (zt_bin (fun x y => x * y) (zt_ild 5 (zt_bin (fun x y => x + y) (zt_psh 1 (zt_zas (zt_ald 0 (zt_ild 3 (zt_ild 5 (zt_psh 4 (zt_div (fun x y => x - x / y * y) (zt_ild 4 (zt_cav 8 zw_Md_finish (3 + 1) 0 0 0 0 ((zb_Md_deliver_153 Q)))))))))))))))))))))
def zb_Md_deliver_118 (Q : zs_Q) : zs_P := zt_ild 2 (zt_psh 4 (zt_cmp (fun x y => x = y) (zb_Md_deliver_123 Q) (zb_Md_deliver_153 Q)))
def zb_Md_deliver_105 (Q : zs_Q) : zs_P := zt_ald 0 (zt_gtR 8 22 (zt_psh 40 (zt_ild 3 (zt_bin (fun x y => x * y) (zt_ild 4 (zt_bin (fun x y => x + y) (zt_psh 1 (zt_zas ((zb_Md_deliver_118 Q))))))))))
def zb_Md_deliver_94 (Q : zs_Q) : zs_P := zt_ald 0 (zt_gtR 8 1 (zt_psh 5 (zt_ild 3 (zt_bin (fun x y => x + y) (zt_xld 101 (zt_if (fun x => x = 0) (zb_Md_deliver_105 Q) (zb_Md_deliver_118 Q)))))))
def zb_Md_deliver_89 (Q : zs_Q) : zs_P := zt_ild 2 (zt_psh 3 (zt_cmp (fun x y => x = y) (zb_Md_deliver_94 Q) (zb_Md_deliver_118 Q)))
def zb_Md_deliver_80 (Q : zs_Q) : zs_P := zt_ald 0 (zt_ild 3 (zt_ild 4 (zt_ild 6 (zt_cav 8 zw_Md_acknowledge (3 + 1) 0 0 0 0 ((zb_Md_deliver_89 Q))))))
def zb_Md_deliver_75 (Q : zs_Q) : zs_P := zt_ild 2 (zt_psh 2 (zt_cmp (fun x y => x = y) (zb_Md_deliver_80 Q) (zb_Md_deliver_89 Q)))
def zb_Md_deliver_64 (Q : zs_Q) : zs_P := zt_ald 0 (zt_ild 3 (zt_ild 4 (zt_ild 5 (zt_ild 6 (zt_cav 8 zw_Md_store (4 + 1) 0 0 0 0 ((zb_Md_deliver_75 Q)))))))
def zb_Md_deliver_16 (Q : zs_Q) : zs_P := zt_ald 0 (zt_gtR 8 17 (zt_ild 1 (zt_xld 100 (zt_ist 2 (zt_ald 0 (zt_gtR 8 19 (zt_ild 1 (zt_xld 100 (zt_ist 3 (zt_ald 0 (zt_gtR 8 20 (zt_ild 1 (zt_xld 100 (zt_ist 4 (zt_ald 0 (zt_gtR 8 18 (zt_ild 1 (zt_xld 100 (zt_ist 5 (zt_ald 0 (zt_gtR 8 21 (zt_ild 1 (zt_xld 100 (zt_ist 6 (zt_ald 0 (zt_ild 1 (zt_cav 8 zw_Md_take (1 + 1) 0 0 0 0 (zt_ild 2 (zt_psh 1 (zt_cmp (fun x y => x = y) (zb_Md_deliver_64 Q) (zb_Md_deliver_75 Q)))))))))))))))))))))))))))))))
def zb_Md_deliver_14 (Q : zs_Q) : zs_P := zt_psh 0 (zt_zrt 0 0 Q)
def zb_Md_deliver_0 (Q : zs_Q) : zs_P := zt_ild 1 (zt_psh 0 (zt_ald 0 (zt_gtI 8 16 (zt_psh 1 (zt_bin (fun x y => x - y) (zt_cal zw_Md_in 3 0 0 0 0 (zt_if (fun x => x = 0) (zb_Md_deliver_14 Q) (zb_Md_deliver_16 Q))))))))
def zw_Md_deliver : zs_W := fun As σ Q => match As with
  | [a0, a1] => zs_c1 [a0, a1] = true ∧ zb_Md_deliver_0 Q [some a0, some a1, none, none, none, none, none] [] σ 0 0
  | _ => False
section
variable {p : Program} {l : Launch} {e : Env} {s : State} {m : MethodId} {args : Array Value} {below : List Frame} {meth : Method} {c : Code} {G : zs_G} {Q : zs_Q}
theorem zr_Md_deliver_153 (B : zs_B p s m args meth c G bb_Md_deliver 7 yy_Md_deliver (some .boolean)) : zA_Md_deliver p l e s m args below meth c G Q 153 (zb_Md_deliver_153 Q) := by
  unfold zb_Md_deliver_153
  refine za_ico B.1 1 dd_Md_deliver_153 (by decide) ?_
  exact za_zrt B.1 0 0 B.2.1 B.2.2.1 dd_Md_deliver_154
theorem zr_Md_deliver_123 (B : zs_B p s m args meth c G bb_Md_deliver 7 yy_Md_deliver (some .boolean)) : zA_Md_deliver p l e s m args below meth c G Q 123 (zb_Md_deliver_123 Q) := by
  unfold zb_Md_deliver_123
  refine za_ald_n B.1 0 dd_Md_deliver_123 rfl ?_
  refine za_gtR B.1 8 30 zi_8 rfl (by decide) (by decide) rfl zW_486 rfl dd_Md_deliver_124 ?_
  refine za_bip B.1 16 dd_Md_deliver_127 (by decide) ?_
  refine za_bip B.1 100 dd_Md_deliver_129 (by decide) ?_
  refine za_ild_n B.1 3 dd_Md_deliver_131 rfl ?_
  refine za_mul B.1 dd_Md_deliver_132 ?_
  refine za_ild B.1 dd_Md_deliver_133 ?_
  refine za_add B.1 dd_Md_deliver_135 ?_
  refine za_mul B.1 dd_Md_deliver_136 ?_
  refine za_ild B.1 dd_Md_deliver_137 ?_
  refine za_add B.1 dd_Md_deliver_139 ?_
  refine za_ico B.1 1 dd_Md_deliver_140 (by decide) ?_
  refine za_zast B.1 dd_Md_deliver_141 ?_
  refine za_ald_n B.1 0 dd_Md_deliver_142 rfl ?_
  refine za_ild_n B.1 3 dd_Md_deliver_143 rfl ?_
  refine za_ild B.1 dd_Md_deliver_144 ?_
  refine za_ico B.1 4 dd_Md_deliver_146 (by decide) ?_
  refine za_rem B.1 dd_Md_deliver_147 ?_
  refine za_ild B.1 dd_Md_deliver_148 ?_
  refine za_cV B.1 8 3 0 0 0 0 rfl rfl rfl (by decide) (zm_Md_finish l G) ⟨callB_of 3 B.1.1.2.2.2.2 (zs_good zW_544) rfl rfl rfl (B.1.1.2.2.2.2 _ zW_8) (B.1.1.2.2.2.2 _ zW_542) (by decide +kernel) ⟨by decide, by decide⟩, (B.1.1.2.2.2.2 _ zW_543), (B.1.1.2.2.2.2 _ zW_681)⟩ dd_Md_deliver_150 ?_
  exact (zr_Md_deliver_153 B)
theorem zr_Md_deliver_118 (B : zs_B p s m args meth c G bb_Md_deliver 7 yy_Md_deliver (some .boolean)) : zA_Md_deliver p l e s m args below meth c G Q 118 (zb_Md_deliver_118 Q) := by
  unfold zb_Md_deliver_118
  refine za_ild_n B.1 2 dd_Md_deliver_118 rfl ?_
  refine za_ico B.1 4 dd_Md_deliver_119 (by decide) ?_
  exact za_cmp_ne B.1 153 dd_Md_deliver_120 (by decide) (zr_Md_deliver_123 B) (zr_Md_deliver_153 B)
theorem zr_Md_deliver_105 (B : zs_B p s m args meth c G bb_Md_deliver 7 yy_Md_deliver (some .boolean)) : zA_Md_deliver p l e s m args below meth c G Q 105 (zb_Md_deliver_105 Q) := by
  unfold zb_Md_deliver_105
  refine za_ald_n B.1 0 dd_Md_deliver_105 rfl ?_
  refine za_gtR B.1 8 22 zi_8 rfl (by decide) (by decide) rfl zW_478 rfl dd_Md_deliver_106 ?_
  refine za_bip B.1 40 dd_Md_deliver_109 (by decide) ?_
  refine za_ild_n B.1 3 dd_Md_deliver_111 rfl ?_
  refine za_mul B.1 dd_Md_deliver_112 ?_
  refine za_ild B.1 dd_Md_deliver_113 ?_
  refine za_add B.1 dd_Md_deliver_115 ?_
  refine za_ico B.1 1 dd_Md_deliver_116 (by decide) ?_
  refine za_zast B.1 dd_Md_deliver_117 ?_
  exact (zr_Md_deliver_118 B)
theorem zr_Md_deliver_94 (B : zs_B p s m args meth c G bb_Md_deliver 7 yy_Md_deliver (some .boolean)) : zA_Md_deliver p l e s m args below meth c G Q 94 (zb_Md_deliver_94 Q) := by
  unfold zb_Md_deliver_94
  refine za_ald_n B.1 0 dd_Md_deliver_94 rfl ?_
  refine za_gtR B.1 8 1 zi_8 rfl (by decide) (by decide) rfl zW_457 rfl dd_Md_deliver_95 ?_
  refine za_ico B.1 5 dd_Md_deliver_98 (by decide) ?_
  refine za_ild_n B.1 3 dd_Md_deliver_99 rfl ?_
  refine za_add B.1 dd_Md_deliver_100 ?_
  refine za_zald B.1 dd_Md_deliver_101 ?_
  exact za_if_ne B.1 118 dd_Md_deliver_102 (by decide) (zr_Md_deliver_105 B) (zr_Md_deliver_118 B)
theorem zr_Md_deliver_89 (B : zs_B p s m args meth c G bb_Md_deliver 7 yy_Md_deliver (some .boolean)) : zA_Md_deliver p l e s m args below meth c G Q 89 (zb_Md_deliver_89 Q) := by
  unfold zb_Md_deliver_89
  refine za_ild_n B.1 2 dd_Md_deliver_89 rfl ?_
  refine za_ico B.1 3 dd_Md_deliver_90 (by decide) ?_
  exact za_cmp_ne B.1 118 dd_Md_deliver_91 (by decide) (zr_Md_deliver_94 B) (zr_Md_deliver_118 B)
theorem zr_Md_deliver_80 (B : zs_B p s m args meth c G bb_Md_deliver 7 yy_Md_deliver (some .boolean)) : zA_Md_deliver p l e s m args below meth c G Q 80 (zb_Md_deliver_80 Q) := by
  unfold zb_Md_deliver_80
  refine za_ald_n B.1 0 dd_Md_deliver_80 rfl ?_
  refine za_ild_n B.1 3 dd_Md_deliver_81 rfl ?_
  refine za_ild B.1 dd_Md_deliver_82 ?_
  refine za_ild B.1 dd_Md_deliver_84 ?_
  refine za_cV B.1 8 3 0 0 0 0 rfl rfl rfl (by decide) (zm_Md_acknowledge l G) ⟨callB_of 3 B.1.1.2.2.2.2 (zs_good zW_538) rfl rfl rfl (B.1.1.2.2.2.2 _ zW_8) (B.1.1.2.2.2.2 _ zW_536) (by decide +kernel) ⟨by decide, by decide⟩, (B.1.1.2.2.2.2 _ zW_537), (B.1.1.2.2.2.2 _ zW_679)⟩ dd_Md_deliver_86 ?_
  exact (zr_Md_deliver_89 B)
theorem zr_Md_deliver_75 (B : zs_B p s m args meth c G bb_Md_deliver 7 yy_Md_deliver (some .boolean)) : zA_Md_deliver p l e s m args below meth c G Q 75 (zb_Md_deliver_75 Q) := by
  unfold zb_Md_deliver_75
  refine za_ild_n B.1 2 dd_Md_deliver_75 rfl ?_
  refine za_ico B.1 2 dd_Md_deliver_76 (by decide) ?_
  exact za_cmp_ne B.1 89 dd_Md_deliver_77 (by decide) (zr_Md_deliver_80 B) (zr_Md_deliver_89 B)
theorem zr_Md_deliver_64 (B : zs_B p s m args meth c G bb_Md_deliver 7 yy_Md_deliver (some .boolean)) : zA_Md_deliver p l e s m args below meth c G Q 64 (zb_Md_deliver_64 Q) := by
  unfold zb_Md_deliver_64
  refine za_ald_n B.1 0 dd_Md_deliver_64 rfl ?_
  refine za_ild_n B.1 3 dd_Md_deliver_65 rfl ?_
  refine za_ild B.1 dd_Md_deliver_66 ?_
  refine za_ild B.1 dd_Md_deliver_68 ?_
  refine za_ild B.1 dd_Md_deliver_70 ?_
  refine za_cV B.1 8 4 0 0 0 0 rfl rfl rfl (by decide) (zm_Md_store l G) ⟨callB_of 4 B.1.1.2.2.2.2 (zs_good zW_532) rfl rfl rfl (B.1.1.2.2.2.2 _ zW_8) (B.1.1.2.2.2.2 _ zW_530) (by decide +kernel) ⟨by decide, by decide⟩, (B.1.1.2.2.2.2 _ zW_531), (B.1.1.2.2.2.2 _ zW_677)⟩ dd_Md_deliver_72 ?_
  exact (zr_Md_deliver_75 B)
theorem zr_Md_deliver_16 (B : zs_B p s m args meth c G bb_Md_deliver 7 yy_Md_deliver (some .boolean)) : zA_Md_deliver p l e s m args below meth c G Q 16 (zb_Md_deliver_16 Q) := by
  unfold zb_Md_deliver_16
  refine za_ald_n B.1 0 dd_Md_deliver_16 rfl ?_
  refine za_gtR B.1 8 17 zi_8 rfl (by decide) (by decide) rfl zW_473 rfl dd_Md_deliver_17 ?_
  refine za_ild_n B.1 1 dd_Md_deliver_20 rfl ?_
  refine za_iald B.1 dd_Md_deliver_21 ?_
  refine za_ist_n B.1 2 dd_Md_deliver_22 rfl (by decide) ?_
  refine za_ald_n B.1 0 dd_Md_deliver_23 rfl ?_
  refine za_gtR B.1 8 19 zi_8 rfl (by decide) (by decide) rfl zW_475 rfl dd_Md_deliver_24 ?_
  refine za_ild_n B.1 1 dd_Md_deliver_27 rfl ?_
  refine za_iald B.1 dd_Md_deliver_28 ?_
  refine za_ist_n B.1 3 dd_Md_deliver_29 rfl (by decide) ?_
  refine za_ald_n B.1 0 dd_Md_deliver_30 rfl ?_
  refine za_gtR B.1 8 20 zi_8 rfl (by decide) (by decide) rfl zW_476 rfl dd_Md_deliver_31 ?_
  refine za_ild_n B.1 1 dd_Md_deliver_34 rfl ?_
  refine za_iald B.1 dd_Md_deliver_35 ?_
  refine za_ist B.1 dd_Md_deliver_36 (by decide) ?_
  refine za_ald_n B.1 0 dd_Md_deliver_38 rfl ?_
  refine za_gtR B.1 8 18 zi_8 rfl (by decide) (by decide) rfl zW_474 rfl dd_Md_deliver_39 ?_
  refine za_ild_n B.1 1 dd_Md_deliver_42 rfl ?_
  refine za_iald B.1 dd_Md_deliver_43 ?_
  refine za_ist B.1 dd_Md_deliver_44 (by decide) ?_
  refine za_ald_n B.1 0 dd_Md_deliver_46 rfl ?_
  refine za_gtR B.1 8 21 zi_8 rfl (by decide) (by decide) rfl zW_477 rfl dd_Md_deliver_47 ?_
  refine za_ild_n B.1 1 dd_Md_deliver_50 rfl ?_
  refine za_iald B.1 dd_Md_deliver_51 ?_
  refine za_ist B.1 dd_Md_deliver_52 (by decide) ?_
  refine za_ald_n B.1 0 dd_Md_deliver_54 rfl ?_
  refine za_ild_n B.1 1 dd_Md_deliver_55 rfl ?_
  refine za_cV B.1 8 1 0 0 0 0 rfl rfl rfl (by decide) (zm_Md_take l G) ⟨callB_of 1 B.1.1.2.2.2.2 (zs_good zW_525) rfl rfl rfl (B.1.1.2.2.2.2 _ zW_8) (B.1.1.2.2.2.2 _ zW_523) (by decide +kernel) ⟨by decide, by decide⟩, (B.1.1.2.2.2.2 _ zW_524), (B.1.1.2.2.2.2 _ zW_676)⟩ dd_Md_deliver_56 ?_
  refine za_ild_n B.1 2 dd_Md_deliver_59 rfl ?_
  refine za_ico B.1 1 dd_Md_deliver_60 (by decide) ?_
  exact za_cmp_ne B.1 75 dd_Md_deliver_61 (by decide) (zr_Md_deliver_64 B) (zr_Md_deliver_75 B)
theorem zr_Md_deliver_14 (B : zs_B p s m args meth c G bb_Md_deliver 7 yy_Md_deliver (some .boolean)) : zA_Md_deliver p l e s m args below meth c G Q 14 (zb_Md_deliver_14 Q) := by
  unfold zb_Md_deliver_14
  refine za_ico B.1 0 dd_Md_deliver_14 (by decide) ?_
  exact za_zrt B.1 0 0 B.2.1 B.2.2.1 dd_Md_deliver_15
theorem zr_Md_deliver_0 (B : zs_B p s m args meth c G bb_Md_deliver 7 yy_Md_deliver (some .boolean)) : zA_Md_deliver p l e s m args below meth c G Q 0 (zb_Md_deliver_0 Q) := by
  unfold zb_Md_deliver_0
  refine za_ild_n B.1 1 dd_Md_deliver_0 rfl ?_
  refine za_ico B.1 0 dd_Md_deliver_1 (by decide) ?_
  refine za_ald_n B.1 0 dd_Md_deliver_2 rfl ?_
  refine za_gtI B.1 8 16 zi_8 rfl (by decide) (by decide) rfl zW_472 rfl dd_Md_deliver_3 ?_
  refine za_ico B.1 1 dd_Md_deliver_6 (by decide) ?_
  refine za_sub B.1 dd_Md_deliver_7 ?_
  refine za_cS B.1 3 0 0 0 0 rfl rfl (zm_Md_in l G) ⟨callB_of 3 B.1.1.2.2.2.2 (zs_good zW_497) rfl rfl rfl (B.1.1.2.2.2.2 _ zW_8) (B.1.1.2.2.2.2 _ zW_495) (by decide +kernel) ⟨by decide, by decide⟩, (B.1.1.2.2.2.2 _ zW_496)⟩ dd_Md_deliver_8 ?_
  exact za_if_ne B.1 16 dd_Md_deliver_11 (by decide) (zr_Md_deliver_14 B) (zr_Md_deliver_16 B)
end
theorem zm_Md_deliver (l : Launch) (G : zs_G) (As : List Value) (σ : zs_S) (Q : zs_Q) (h : zw_Md_deliver As σ Q) : zs_Met l yy_Md_deliver (Cond.code yy_Md_deliver bb_Md_deliver 7 (some .boolean) :: zw_all) zk_Md_deliver G As σ Q 0 0 := by
  unfold zw_Md_deliver at h
  split at h
  · exact zs_enter (by decide +kernel) h.1 (Nat.le_of_ble_eq_true rfl) h.2 (fun p e s m args below meth c B => zr_Md_deliver_0 B)
  · exact h.elim
-- SequencedBatchesModel.spread(I)I
theorem dd_Md_spread_0 : decode bb_Md_spread 0 = .ok (.iconst 0, 1) := by decide +kernel
theorem dd_Md_spread_1 : decode bb_Md_spread 1 = .ok (.istore_n 2, 1) := by decide +kernel
theorem dd_Md_spread_2 : decode bb_Md_spread 2 = .ok (.iconst 0, 1) := by decide +kernel
theorem dd_Md_spread_3 : decode bb_Md_spread 3 = .ok (.istore_n 3, 1) := by decide +kernel
theorem dd_Md_spread_4 : decode bb_Md_spread 4 = .ok (.iload_n 3, 1) := by decide +kernel
theorem dd_Md_spread_5 : decode bb_Md_spread 5 = .ok (.iconst 3, 1) := by decide +kernel
theorem dd_Md_spread_6 : decode bb_Md_spread 6 = .ok (.if_icmp .ge 55, 3) := by decide +kernel
theorem dd_Md_spread_9 : decode bb_Md_spread 9 = .ok (.aload_n 0, 1) := by decide +kernel
theorem dd_Md_spread_10 : decode bb_Md_spread 10 = .ok (.getfield 44, 3) := by decide +kernel
theorem dd_Md_spread_13 : decode bb_Md_spread 13 = .ok (.iload_n 1, 1) := by decide +kernel
theorem dd_Md_spread_14 : decode bb_Md_spread 14 = .ok (.iaload, 1) := by decide +kernel
theorem dd_Md_spread_15 : decode bb_Md_spread 15 = .ok (.iload_n 3, 1) := by decide +kernel
theorem dd_Md_spread_16 : decode bb_Md_spread 16 = .ok (.ishr, 1) := by decide +kernel
theorem dd_Md_spread_17 : decode bb_Md_spread 17 = .ok (.iconst 1, 1) := by decide +kernel
theorem dd_Md_spread_18 : decode bb_Md_spread 18 = .ok (.iand, 1) := by decide +kernel
theorem dd_Md_spread_19 : decode bb_Md_spread 19 = .ok (.ifCond .ne 36, 3) := by decide +kernel
theorem dd_Md_spread_22 : decode bb_Md_spread 22 = .ok (.aload_n 0, 1) := by decide +kernel
theorem dd_Md_spread_23 : decode bb_Md_spread 23 = .ok (.iconst 1, 1) := by decide +kernel
theorem dd_Md_spread_24 : decode bb_Md_spread 24 = .ok (.iload_n 3, 1) := by decide +kernel
theorem dd_Md_spread_25 : decode bb_Md_spread 25 = .ok (.iload_n 1, 1) := by decide +kernel
theorem dd_Md_spread_26 : decode bb_Md_spread 26 = .ok (.aload_n 0, 1) := by decide +kernel
theorem dd_Md_spread_27 : decode bb_Md_spread 27 = .ok (.getfield 38, 3) := by decide +kernel
theorem dd_Md_spread_30 : decode bb_Md_spread 30 = .ok (.iload_n 1, 1) := by decide +kernel
theorem dd_Md_spread_31 : decode bb_Md_spread 31 = .ok (.baload, 1) := by decide +kernel
theorem dd_Md_spread_32 : decode bb_Md_spread 32 = .ok (.ifCond .eq 7, 3) := by decide +kernel
theorem dd_Md_spread_35 : decode bb_Md_spread 35 = .ok (.iconst 1, 1) := by decide +kernel
theorem dd_Md_spread_36 : decode bb_Md_spread 36 = .ok (.goto 4, 3) := by decide +kernel
theorem dd_Md_spread_39 : decode bb_Md_spread 39 = .ok (.iconst 0, 1) := by decide +kernel
theorem dd_Md_spread_40 : decode bb_Md_spread 40 = .ok (.aload_n 0, 1) := by decide +kernel
theorem dd_Md_spread_41 : decode bb_Md_spread 41 = .ok (.getfield 35, 3) := by decide +kernel
theorem dd_Md_spread_44 : decode bb_Md_spread 44 = .ok (.iload_n 1, 1) := by decide +kernel
theorem dd_Md_spread_45 : decode bb_Md_spread 45 = .ok (.bipush 20, 2) := by decide +kernel
theorem dd_Md_spread_47 : decode bb_Md_spread 47 = .ok (.idiv, 1) := by decide +kernel
theorem dd_Md_spread_48 : decode bb_Md_spread 48 = .ok (.iaload, 1) := by decide +kernel
theorem dd_Md_spread_49 : decode bb_Md_spread 49 = .ok (.invokevirtual 151, 3) := by decide +kernel
theorem dd_Md_spread_52 : decode bb_Md_spread 52 = .ok (.iinc 2 1, 3) := by decide +kernel
theorem dd_Md_spread_55 : decode bb_Md_spread 55 = .ok (.iinc 3 1, 3) := by decide +kernel
theorem dd_Md_spread_58 : decode bb_Md_spread 58 = .ok (.goto (-54), 3) := by decide +kernel
theorem dd_Md_spread_61 : decode bb_Md_spread 61 = .ok (.iload_n 2, 1) := by decide +kernel
theorem dd_Md_spread_62 : decode bb_Md_spread 62 = .ok (.ireturn, 1) := by decide +kernel
def zk_Md_spread : Room := { frames := 1, cells := 0, slots := 0, locals := 25 }
abbrev zA_Md_spread (p : Program) (l : Launch) (e : Env) (s : State) (m : MethodId) (args : Array Value) (below : List Frame) (meth : Method) (c : Code) (G : zs_G) (Q : zs_Q) (pc : Nat) (P : zs_P) : Prop := zs_At p l e zk_Md_spread s m args below meth c (MQ below (zs_Qc G Q) args s 0 0 (fun q => zg_z G ≤ q)) G 4 pc P
def zb_Md_spread_61 (Q : zs_Q) : zs_P := zt_ild 2 (zt_irt 0 0 Q)
def zb_Md_spread_55 (Q : zs_Q) (K4 : zs_P) : zs_P := zt_inc 3 1 (K4)
def zb_Md_spread_40 (Q : zs_Q) (K4 : zs_P) : zs_P := zt_ald 0 (zt_gtR 8 10 (zt_ild 1 (zt_psh 20 (zt_div (fun x y => x / y) (zt_xld 100 (zt_cav 8 zw_Md_post (5 + 1) 0 0 0 0 (zt_inc 2 1 ((zb_Md_spread_55 Q K4)))))))))
def zb_Md_spread_39 (Q : zs_Q) (K4 : zs_P) : zs_P := zt_psh 0 ((zb_Md_spread_40 Q K4))
def zb_Md_spread_35 (Q : zs_Q) (K4 : zs_P) : zs_P := zt_psh 1 ((zb_Md_spread_40 Q K4))
def zb_Md_spread_22 (Q : zs_Q) (K4 : zs_P) : zs_P := zt_ald 0 (zt_psh 1 (zt_ild 3 (zt_ild 1 (zt_ald 0 (zt_gtR 8 11 (zt_ild 1 (zt_xld 101 (zt_if (fun x => x = 0) (zb_Md_spread_39 Q K4) (zb_Md_spread_35 Q K4)))))))))
def zb_Md_spread_9 (Q : zs_Q) (K4 : zs_P) : zs_P := zt_ald 0 (zt_gtR 8 13 (zt_ild 1 (zt_xld 100 (zt_ild 3 (zt_bin (fun x y => x >>> (y &&& 31)) (zt_psh 1 (zt_bin (fun x y => x &&& y) (zt_if (fun x => x = 0) (zb_Md_spread_22 Q K4) (zb_Md_spread_55 Q K4)))))))))
def zb_Md_spread_4 (Q : zs_Q) (K4 : zs_P) : zs_P := zt_ild 3 (zt_psh 3 (zt_cmp (fun x y => y ≤ x) (zb_Md_spread_61 Q) (zb_Md_spread_9 Q K4)))
def zl_Md_spread_4 (Q : zs_Q) : zs_P := zt_ex (zb_Md_spread_4 Q)
def zb_Md_spread_0 (Q : zs_Q) : zs_P := zt_psh 0 (zt_ist 2 (zt_psh 0 (zt_ist 3 ((zl_Md_spread_4 Q)))))
def zw_Md_spread : zs_W := fun As σ Q => match As with
  | [a0, a1] => zs_c1 [a0, a1] = true ∧ zb_Md_spread_0 Q [some a0, some a1, none, none] [] σ 0 0
  | _ => False
section
variable {p : Program} {l : Launch} {e : Env} {s : State} {m : MethodId} {args : Array Value} {below : List Frame} {meth : Method} {c : Code} {G : zs_G} {Q : zs_Q}
theorem zr_Md_spread_61 (B : zs_B p s m args meth c G bb_Md_spread 4 yy_Md_spread (some .int)) : zA_Md_spread p l e s m args below meth c G Q 61 (zb_Md_spread_61 Q) := by
  unfold zb_Md_spread_61
  refine za_ild_n B.1 2 dd_Md_spread_61 rfl ?_
  exact za_irt B.1 0 0 B.2.1 B.2.2.1 dd_Md_spread_62
theorem zr_Md_spread_55 (B : zs_B p s m args meth c G bb_Md_spread 4 yy_Md_spread (some .int)) {K4 : zs_P} (h4 : zA_Md_spread p l e s m args below meth c G Q 4 K4) : zA_Md_spread p l e s m args below meth c G Q 55 (zb_Md_spread_55 Q K4) := by
  unfold zb_Md_spread_55
  refine za_inc B.1 1 dd_Md_spread_55 (by decide) (by decide) ?_
  refine za_goto B.1 4 dd_Md_spread_58 (by decide) ?_
  exact h4
theorem zr_Md_spread_40 (B : zs_B p s m args meth c G bb_Md_spread 4 yy_Md_spread (some .int)) {K4 : zs_P} (h4 : zA_Md_spread p l e s m args below meth c G Q 4 K4) : zA_Md_spread p l e s m args below meth c G Q 40 (zb_Md_spread_40 Q K4) := by
  unfold zb_Md_spread_40
  refine za_ald_n B.1 0 dd_Md_spread_40 rfl ?_
  refine za_gtR B.1 8 10 zi_8 rfl (by decide) (by decide) rfl zW_466 rfl dd_Md_spread_41 ?_
  refine za_ild_n B.1 1 dd_Md_spread_44 rfl ?_
  refine za_bip B.1 20 dd_Md_spread_45 (by decide) ?_
  refine za_dvd B.1 dd_Md_spread_47 ?_
  refine za_iald B.1 dd_Md_spread_48 ?_
  refine za_cV B.1 8 5 0 0 0 0 rfl rfl rfl (by decide) (zm_Md_post l G) ⟨callB_of 5 B.1.1.2.2.2.2 (zs_good zW_535) rfl rfl rfl (B.1.1.2.2.2.2 _ zW_8) (B.1.1.2.2.2.2 _ zW_533) (by decide +kernel) ⟨by decide, by decide⟩, (B.1.1.2.2.2.2 _ zW_534), (B.1.1.2.2.2.2 _ zW_678)⟩ dd_Md_spread_49 ?_
  refine za_inc B.1 1 dd_Md_spread_52 (by decide) (by decide) ?_
  exact (zr_Md_spread_55 B h4)
theorem zr_Md_spread_39 (B : zs_B p s m args meth c G bb_Md_spread 4 yy_Md_spread (some .int)) {K4 : zs_P} (h4 : zA_Md_spread p l e s m args below meth c G Q 4 K4) : zA_Md_spread p l e s m args below meth c G Q 39 (zb_Md_spread_39 Q K4) := by
  unfold zb_Md_spread_39
  refine za_ico B.1 0 dd_Md_spread_39 (by decide) ?_
  exact (zr_Md_spread_40 B h4)
theorem zr_Md_spread_35 (B : zs_B p s m args meth c G bb_Md_spread 4 yy_Md_spread (some .int)) {K4 : zs_P} (h4 : zA_Md_spread p l e s m args below meth c G Q 4 K4) : zA_Md_spread p l e s m args below meth c G Q 35 (zb_Md_spread_35 Q K4) := by
  unfold zb_Md_spread_35
  refine za_ico B.1 1 dd_Md_spread_35 (by decide) ?_
  refine za_goto B.1 40 dd_Md_spread_36 (by decide) ?_
  exact (zr_Md_spread_40 B h4)
theorem zr_Md_spread_22 (B : zs_B p s m args meth c G bb_Md_spread 4 yy_Md_spread (some .int)) {K4 : zs_P} (h4 : zA_Md_spread p l e s m args below meth c G Q 4 K4) : zA_Md_spread p l e s m args below meth c G Q 22 (zb_Md_spread_22 Q K4) := by
  unfold zb_Md_spread_22
  refine za_ald_n B.1 0 dd_Md_spread_22 rfl ?_
  refine za_ico B.1 1 dd_Md_spread_23 (by decide) ?_
  refine za_ild_n B.1 3 dd_Md_spread_24 rfl ?_
  refine za_ild_n B.1 1 dd_Md_spread_25 rfl ?_
  refine za_ald_n B.1 0 dd_Md_spread_26 rfl ?_
  refine za_gtR B.1 8 11 zi_8 rfl (by decide) (by decide) rfl zW_467 rfl dd_Md_spread_27 ?_
  refine za_ild_n B.1 1 dd_Md_spread_30 rfl ?_
  refine za_zald B.1 dd_Md_spread_31 ?_
  exact za_if_eq B.1 39 dd_Md_spread_32 (by decide) (zr_Md_spread_39 B h4) (zr_Md_spread_35 B h4)
theorem zr_Md_spread_9 (B : zs_B p s m args meth c G bb_Md_spread 4 yy_Md_spread (some .int)) {K4 : zs_P} (h4 : zA_Md_spread p l e s m args below meth c G Q 4 K4) : zA_Md_spread p l e s m args below meth c G Q 9 (zb_Md_spread_9 Q K4) := by
  unfold zb_Md_spread_9
  refine za_ald_n B.1 0 dd_Md_spread_9 rfl ?_
  refine za_gtR B.1 8 13 zi_8 rfl (by decide) (by decide) rfl zW_469 rfl dd_Md_spread_10 ?_
  refine za_ild_n B.1 1 dd_Md_spread_13 rfl ?_
  refine za_iald B.1 dd_Md_spread_14 ?_
  refine za_ild_n B.1 3 dd_Md_spread_15 rfl ?_
  refine za_shr B.1 dd_Md_spread_16 ?_
  refine za_ico B.1 1 dd_Md_spread_17 (by decide) ?_
  refine za_and B.1 dd_Md_spread_18 ?_
  exact za_if_ne B.1 55 dd_Md_spread_19 (by decide) (zr_Md_spread_22 B h4) (zr_Md_spread_55 B h4)
theorem zr_Md_spread_4 (B : zs_B p s m args meth c G bb_Md_spread 4 yy_Md_spread (some .int)) {K4 : zs_P} (h4 : zA_Md_spread p l e s m args below meth c G Q 4 K4) : zA_Md_spread p l e s m args below meth c G Q 4 (zb_Md_spread_4 Q K4) := by
  unfold zb_Md_spread_4
  refine za_ild_n B.1 3 dd_Md_spread_4 rfl ?_
  refine za_ico B.1 3 dd_Md_spread_5 (by decide) ?_
  exact za_cmp_ge B.1 61 dd_Md_spread_6 (by decide) (zr_Md_spread_61 B) (zr_Md_spread_9 B h4)
theorem zq_Md_spread_4 (B : zs_B p s m args meth c G bb_Md_spread 4 yy_Md_spread (some .int)) : zA_Md_spread p l e s m args below meth c G Q 4 (zl_Md_spread_4 Q) := za_lop (fun K hK => zr_Md_spread_4 B hK)
theorem zr_Md_spread_0 (B : zs_B p s m args meth c G bb_Md_spread 4 yy_Md_spread (some .int)) : zA_Md_spread p l e s m args below meth c G Q 0 (zb_Md_spread_0 Q) := by
  unfold zb_Md_spread_0
  refine za_ico B.1 0 dd_Md_spread_0 (by decide) ?_
  refine za_ist_n B.1 2 dd_Md_spread_1 rfl (by decide) ?_
  refine za_ico B.1 0 dd_Md_spread_2 (by decide) ?_
  refine za_ist_n B.1 3 dd_Md_spread_3 rfl (by decide) ?_
  exact (zq_Md_spread_4 B)
end
theorem zm_Md_spread (l : Launch) (G : zs_G) (As : List Value) (σ : zs_S) (Q : zs_Q) (h : zw_Md_spread As σ Q) : zs_Met l yy_Md_spread (Cond.code yy_Md_spread bb_Md_spread 4 (some .int) :: zw_all) zk_Md_spread G As σ Q 0 0 := by
  unfold zw_Md_spread at h
  split at h
  · exact zs_enter (by decide +kernel) h.1 (Nat.le_of_ble_eq_true rfl) h.2 (fun p e s m args below meth c B => zr_Md_spread_0 B)
  · exact h.elim
-- SequencedBatchesModel.working(I)Z
theorem dd_Md_working_0 : decode bb_Md_working 0 = .ok (.iload_n 1, 1) := by decide +kernel
theorem dd_Md_working_1 : decode bb_Md_working 1 = .ok (.iconst 0, 1) := by decide +kernel
theorem dd_Md_working_2 : decode bb_Md_working 2 = .ok (.iconst 1, 1) := by decide +kernel
theorem dd_Md_working_3 : decode bb_Md_working 3 = .ok (.invokestatic 111, 3) := by decide +kernel
theorem dd_Md_working_6 : decode bb_Md_working 6 = .ok (.ifCond .eq 20, 3) := by decide +kernel
theorem dd_Md_working_9 : decode bb_Md_working 9 = .ok (.aload_n 0, 1) := by decide +kernel
theorem dd_Md_working_10 : decode bb_Md_working 10 = .ok (.getfield 7, 3) := by decide +kernel
theorem dd_Md_working_13 : decode bb_Md_working 13 = .ok (.iconst 3, 1) := by decide +kernel
theorem dd_Md_working_14 : decode bb_Md_working 14 = .ok (.iload_n 1, 1) := by decide +kernel
theorem dd_Md_working_15 : decode bb_Md_working 15 = .ok (.iconst 1, 1) := by decide +kernel
theorem dd_Md_working_16 : decode bb_Md_working 16 = .ok (.iand, 1) := by decide +kernel
theorem dd_Md_working_17 : decode bb_Md_working 17 = .ok (.iadd, 1) := by decide +kernel
theorem dd_Md_working_18 : decode bb_Md_working 18 = .ok (.baload, 1) := by decide +kernel
theorem dd_Md_working_19 : decode bb_Md_working 19 = .ok (.ifCond .ne 7, 3) := by decide +kernel
theorem dd_Md_working_22 : decode bb_Md_working 22 = .ok (.iconst 1, 1) := by decide +kernel
theorem dd_Md_working_23 : decode bb_Md_working 23 = .ok (.goto 4, 3) := by decide +kernel
theorem dd_Md_working_26 : decode bb_Md_working 26 = .ok (.iconst 0, 1) := by decide +kernel
theorem dd_Md_working_27 : decode bb_Md_working 27 = .ok (.ireturn, 1) := by decide +kernel
def zk_Md_working : Room := { frames := 1, cells := 0, slots := 0, locals := 22 }
abbrev zA_Md_working (p : Program) (l : Launch) (e : Env) (s : State) (m : MethodId) (args : Array Value) (below : List Frame) (meth : Method) (c : Code) (G : zs_G) (Q : zs_Q) (pc : Nat) (P : zs_P) : Prop := zs_At p l e zk_Md_working s m args below meth c (MQ below (zs_Qc G Q) args s 0 0 (fun q => zg_z G ≤ q)) G 2 pc P
def zb_Md_working_27 (Q : zs_Q) : zs_P := zt_zrt 0 0 Q
def zb_Md_working_26 (Q : zs_Q) : zs_P := zt_psh 0 ((zb_Md_working_27 Q))
def zb_Md_working_22 (Q : zs_Q) : zs_P := zt_psh 1 ((zb_Md_working_27 Q))
def zb_Md_working_9 (Q : zs_Q) : zs_P := zt_ald 0 (zt_gtR 8 1 (zt_psh 3 (zt_ild 1 (zt_psh 1 (zt_bin (fun x y => x &&& y) (zt_bin (fun x y => x + y) (zt_xld 101 (zt_if (fun x => x = 0) (zb_Md_working_22 Q) (zb_Md_working_26 Q)))))))))
def zb_Md_working_0 (Q : zs_Q) : zs_P := zt_ild 1 (zt_psh 0 (zt_psh 1 (zt_cal zw_Md_in 3 0 0 0 0 (zt_if (fun x => x = 0) (zb_Md_working_26 Q) (zb_Md_working_9 Q)))))
def zw_Md_working : zs_W := fun As σ Q => match As with
  | [a0, a1] => zs_c1 [a0, a1] = true ∧ zb_Md_working_0 Q [some a0, some a1] [] σ 0 0
  | _ => False
section
variable {p : Program} {l : Launch} {e : Env} {s : State} {m : MethodId} {args : Array Value} {below : List Frame} {meth : Method} {c : Code} {G : zs_G} {Q : zs_Q}
theorem zr_Md_working_27 (B : zs_B p s m args meth c G bb_Md_working 2 yy_Md_working (some .boolean)) : zA_Md_working p l e s m args below meth c G Q 27 (zb_Md_working_27 Q) := by
  unfold zb_Md_working_27
  exact za_zrt B.1 0 0 B.2.1 B.2.2.1 dd_Md_working_27
theorem zr_Md_working_26 (B : zs_B p s m args meth c G bb_Md_working 2 yy_Md_working (some .boolean)) : zA_Md_working p l e s m args below meth c G Q 26 (zb_Md_working_26 Q) := by
  unfold zb_Md_working_26
  refine za_ico B.1 0 dd_Md_working_26 (by decide) ?_
  exact (zr_Md_working_27 B)
theorem zr_Md_working_22 (B : zs_B p s m args meth c G bb_Md_working 2 yy_Md_working (some .boolean)) : zA_Md_working p l e s m args below meth c G Q 22 (zb_Md_working_22 Q) := by
  unfold zb_Md_working_22
  refine za_ico B.1 1 dd_Md_working_22 (by decide) ?_
  refine za_goto B.1 27 dd_Md_working_23 (by decide) ?_
  exact (zr_Md_working_27 B)
theorem zr_Md_working_9 (B : zs_B p s m args meth c G bb_Md_working 2 yy_Md_working (some .boolean)) : zA_Md_working p l e s m args below meth c G Q 9 (zb_Md_working_9 Q) := by
  unfold zb_Md_working_9
  refine za_ald_n B.1 0 dd_Md_working_9 rfl ?_
  refine za_gtR B.1 8 1 zi_8 rfl (by decide) (by decide) rfl zW_457 rfl dd_Md_working_10 ?_
  refine za_ico B.1 3 dd_Md_working_13 (by decide) ?_
  refine za_ild_n B.1 1 dd_Md_working_14 rfl ?_
  refine za_ico B.1 1 dd_Md_working_15 (by decide) ?_
  refine za_and B.1 dd_Md_working_16 ?_
  refine za_add B.1 dd_Md_working_17 ?_
  refine za_zald B.1 dd_Md_working_18 ?_
  exact za_if_ne B.1 26 dd_Md_working_19 (by decide) (zr_Md_working_22 B) (zr_Md_working_26 B)
theorem zr_Md_working_0 (B : zs_B p s m args meth c G bb_Md_working 2 yy_Md_working (some .boolean)) : zA_Md_working p l e s m args below meth c G Q 0 (zb_Md_working_0 Q) := by
  unfold zb_Md_working_0
  refine za_ild_n B.1 1 dd_Md_working_0 rfl ?_
  refine za_ico B.1 0 dd_Md_working_1 (by decide) ?_
  refine za_ico B.1 1 dd_Md_working_2 (by decide) ?_
  refine za_cS B.1 3 0 0 0 0 rfl rfl (zm_Md_in l G) ⟨callB_of 3 B.1.1.2.2.2.2 (zs_good zW_497) rfl rfl rfl (B.1.1.2.2.2.2 _ zW_8) (B.1.1.2.2.2.2 _ zW_495) (by decide +kernel) ⟨by decide, by decide⟩, (B.1.1.2.2.2.2 _ zW_496)⟩ dd_Md_working_3 ?_
  exact za_if_eq B.1 26 dd_Md_working_6 (by decide) (zr_Md_working_26 B) (zr_Md_working_9 B)
end
theorem zm_Md_working (l : Launch) (G : zs_G) (As : List Value) (σ : zs_S) (Q : zs_Q) (h : zw_Md_working As σ Q) : zs_Met l yy_Md_working (Cond.code yy_Md_working bb_Md_working 2 (some .boolean) :: zw_all) zk_Md_working G As σ Q 0 0 := by
  unfold zw_Md_working at h
  split at h
  · exact zs_enter (by decide +kernel) h.1 (Nat.le_of_ble_eq_true rfl) h.2 (fun p e s m args below meth c B => zr_Md_working_0 B)
  · exact h.elim
-- SequencedBatchesModel.close(I)I
theorem dd_Md_close_0 : decode bb_Md_close 0 = .ok (.aload_n 0, 1) := by decide +kernel
theorem dd_Md_close_1 : decode bb_Md_close 1 = .ok (.iload_n 1, 1) := by decide +kernel
theorem dd_Md_close_2 : decode bb_Md_close 2 = .ok (.invokevirtual 158, 3) := by decide +kernel
theorem dd_Md_close_5 : decode bb_Md_close 5 = .ok (.ifCond .eq 23, 3) := by decide +kernel
theorem dd_Md_close_8 : decode bb_Md_close 8 = .ok (.aload_n 0, 1) := by decide +kernel
theorem dd_Md_close_9 : decode bb_Md_close 9 = .ok (.invokevirtual 161, 3) := by decide +kernel
theorem dd_Md_close_12 : decode bb_Md_close 12 = .ok (.ifCond .ne 16, 3) := by decide +kernel
theorem dd_Md_close_15 : decode bb_Md_close 15 = .ok (.aload_n 0, 1) := by decide +kernel
theorem dd_Md_close_16 : decode bb_Md_close 16 = .ok (.getfield 32, 3) := by decide +kernel
theorem dd_Md_close_19 : decode bb_Md_close 19 = .ok (.iload_n 1, 1) := by decide +kernel
theorem dd_Md_close_20 : decode bb_Md_close 20 = .ok (.iconst 1, 1) := by decide +kernel
theorem dd_Md_close_21 : decode bb_Md_close 21 = .ok (.iand, 1) := by decide +kernel
theorem dd_Md_close_22 : decode bb_Md_close 22 = .ok (.iaload, 1) := by decide +kernel
theorem dd_Md_close_23 : decode bb_Md_close 23 = .ok (.bipush 20, 2) := by decide +kernel
theorem dd_Md_close_25 : decode bb_Md_close 25 = .ok (.if_icmp .lt 5, 3) := by decide +kernel
theorem dd_Md_close_28 : decode bb_Md_close 28 = .ok (.iconst (-1), 1) := by decide +kernel
theorem dd_Md_close_29 : decode bb_Md_close 29 = .ok (.ireturn, 1) := by decide +kernel
theorem dd_Md_close_30 : decode bb_Md_close 30 = .ok (.iconst 0, 1) := by decide +kernel
theorem dd_Md_close_31 : decode bb_Md_close 31 = .ok (.istore_n 2, 1) := by decide +kernel
theorem dd_Md_close_32 : decode bb_Md_close 32 = .ok (.iconst 0, 1) := by decide +kernel
theorem dd_Md_close_33 : decode bb_Md_close 33 = .ok (.istore_n 3, 1) := by decide +kernel
theorem dd_Md_close_34 : decode bb_Md_close 34 = .ok (.iload_n 3, 1) := by decide +kernel
theorem dd_Md_close_35 : decode bb_Md_close 35 = .ok (.aload_n 0, 1) := by decide +kernel
theorem dd_Md_close_36 : decode bb_Md_close 36 = .ok (.getfield 32, 3) := by decide +kernel
theorem dd_Md_close_39 : decode bb_Md_close 39 = .ok (.iload_n 1, 1) := by decide +kernel
theorem dd_Md_close_40 : decode bb_Md_close 40 = .ok (.iaload, 1) := by decide +kernel
theorem dd_Md_close_41 : decode bb_Md_close 41 = .ok (.if_icmp .ge 31, 3) := by decide +kernel
theorem dd_Md_close_44 : decode bb_Md_close 44 = .ok (.aload_n 0, 1) := by decide +kernel
theorem dd_Md_close_45 : decode bb_Md_close 45 = .ok (.getfield 41, 3) := by decide +kernel
theorem dd_Md_close_48 : decode bb_Md_close 48 = .ok (.bipush 20, 2) := by decide +kernel
theorem dd_Md_close_50 : decode bb_Md_close 50 = .ok (.iload_n 1, 1) := by decide +kernel
theorem dd_Md_close_51 : decode bb_Md_close 51 = .ok (.imul, 1) := by decide +kernel
theorem dd_Md_close_52 : decode bb_Md_close 52 = .ok (.iload_n 3, 1) := by decide +kernel
theorem dd_Md_close_53 : decode bb_Md_close 53 = .ok (.iadd, 1) := by decide +kernel
theorem dd_Md_close_54 : decode bb_Md_close 54 = .ok (.iaload, 1) := by decide +kernel
theorem dd_Md_close_55 : decode bb_Md_close 55 = .ok (.ifCond .ne 9, 3) := by decide +kernel
theorem dd_Md_close_58 : decode bb_Md_close 58 = .ok (.iload_n 2, 1) := by decide +kernel
theorem dd_Md_close_59 : decode bb_Md_close 59 = .ok (.iconst 1, 1) := by decide +kernel
theorem dd_Md_close_60 : decode bb_Md_close 60 = .ok (.iadd, 1) := by decide +kernel
theorem dd_Md_close_61 : decode bb_Md_close 61 = .ok (.goto 4, 3) := by decide +kernel
theorem dd_Md_close_64 : decode bb_Md_close 64 = .ok (.iload_n 2, 1) := by decide +kernel
theorem dd_Md_close_65 : decode bb_Md_close 65 = .ok (.istore_n 2, 1) := by decide +kernel
theorem dd_Md_close_66 : decode bb_Md_close 66 = .ok (.iinc 3 1, 3) := by decide +kernel
theorem dd_Md_close_69 : decode bb_Md_close 69 = .ok (.goto (-35), 3) := by decide +kernel
theorem dd_Md_close_72 : decode bb_Md_close 72 = .ok (.iload_n 2, 1) := by decide +kernel
theorem dd_Md_close_73 : decode bb_Md_close 73 = .ok (.iconst 3, 1) := by decide +kernel
theorem dd_Md_close_74 : decode bb_Md_close 74 = .ok (.if_icmp .lt 5, 3) := by decide +kernel
theorem dd_Md_close_77 : decode bb_Md_close 77 = .ok (.iconst (-1), 1) := by decide +kernel
theorem dd_Md_close_78 : decode bb_Md_close 78 = .ok (.ireturn, 1) := by decide +kernel
theorem dd_Md_close_79 : decode bb_Md_close 79 = .ok (.aload_n 0, 1) := by decide +kernel
theorem dd_Md_close_80 : decode bb_Md_close 80 = .ok (.getfield 32, 3) := by decide +kernel
theorem dd_Md_close_83 : decode bb_Md_close 83 = .ok (.iload_n 1, 1) := by decide +kernel
theorem dd_Md_close_84 : decode bb_Md_close 84 = .ok (.iaload, 1) := by decide +kernel
theorem dd_Md_close_85 : decode bb_Md_close 85 = .ok (.istore_n 3, 1) := by decide +kernel
theorem dd_Md_close_86 : decode bb_Md_close 86 = .ok (.aload_n 0, 1) := by decide +kernel
theorem dd_Md_close_87 : decode bb_Md_close 87 = .ok (.getfield 32, 3) := by decide +kernel
theorem dd_Md_close_90 : decode bb_Md_close 90 = .ok (.iload_n 1, 1) := by decide +kernel
theorem dd_Md_close_91 : decode bb_Md_close 91 = .ok (.dup2, 1) := by decide +kernel
theorem dd_Md_close_92 : decode bb_Md_close 92 = .ok (.iaload, 1) := by decide +kernel
theorem dd_Md_close_93 : decode bb_Md_close 93 = .ok (.iconst 1, 1) := by decide +kernel
theorem dd_Md_close_94 : decode bb_Md_close 94 = .ok (.iadd, 1) := by decide +kernel
theorem dd_Md_close_95 : decode bb_Md_close 95 = .ok (.iastore, 1) := by decide +kernel
theorem dd_Md_close_96 : decode bb_Md_close 96 = .ok (.iconst 0, 1) := by decide +kernel
theorem dd_Md_close_97 : decode bb_Md_close 97 = .ok (.istore 4, 2) := by decide +kernel
theorem dd_Md_close_99 : decode bb_Md_close 99 = .ok (.iload 4, 2) := by decide +kernel
theorem dd_Md_close_101 : decode bb_Md_close 101 = .ok (.aload_n 0, 1) := by decide +kernel
theorem dd_Md_close_102 : decode bb_Md_close 102 = .ok (.getfield 130, 3) := by decide +kernel
theorem dd_Md_close_105 : decode bb_Md_close 105 = .ok (.if_icmp .ge 49, 3) := by decide +kernel
theorem dd_Md_close_108 : decode bb_Md_close 108 = .ok (.aload_n 0, 1) := by decide +kernel
theorem dd_Md_close_109 : decode bb_Md_close 109 = .ok (.getfield 29, 3) := by decide +kernel
theorem dd_Md_close_112 : decode bb_Md_close 112 = .ok (.iload 4, 2) := by decide +kernel
theorem dd_Md_close_114 : decode bb_Md_close 114 = .ok (.aload_n 0, 1) := by decide +kernel
theorem dd_Md_close_115 : decode bb_Md_close 115 = .ok (.getfield 26, 3) := by decide +kernel
theorem dd_Md_close_118 : decode bb_Md_close 118 = .ok (.iload 4, 2) := by decide +kernel
theorem dd_Md_close_120 : decode bb_Md_close 120 = .ok (.iaload, 1) := by decide +kernel
theorem dd_Md_close_121 : decode bb_Md_close 121 = .ok (.iload_n 1, 1) := by decide +kernel
theorem dd_Md_close_122 : decode bb_Md_close 122 = .ok (.if_icmp .ne 18, 3) := by decide +kernel
theorem dd_Md_close_125 : decode bb_Md_close 125 = .ok (.aload_n 0, 1) := by decide +kernel
theorem dd_Md_close_126 : decode bb_Md_close 126 = .ok (.getfield 29, 3) := by decide +kernel
theorem dd_Md_close_129 : decode bb_Md_close 129 = .ok (.iload 4, 2) := by decide +kernel
theorem dd_Md_close_131 : decode bb_Md_close 131 = .ok (.iaload, 1) := by decide +kernel
theorem dd_Md_close_132 : decode bb_Md_close 132 = .ok (.iconst (-1), 1) := by decide +kernel
theorem dd_Md_close_133 : decode bb_Md_close 133 = .ok (.if_icmp .ne 7, 3) := by decide +kernel
theorem dd_Md_close_136 : decode bb_Md_close 136 = .ok (.iload_n 3, 1) := by decide +kernel
theorem dd_Md_close_137 : decode bb_Md_close 137 = .ok (.goto 10, 3) := by decide +kernel
theorem dd_Md_close_140 : decode bb_Md_close 140 = .ok (.aload_n 0, 1) := by decide +kernel
theorem dd_Md_close_141 : decode bb_Md_close 141 = .ok (.getfield 29, 3) := by decide +kernel
theorem dd_Md_close_144 : decode bb_Md_close 144 = .ok (.iload 4, 2) := by decide +kernel
theorem dd_Md_close_146 : decode bb_Md_close 146 = .ok (.iaload, 1) := by decide +kernel
theorem dd_Md_close_147 : decode bb_Md_close 147 = .ok (.iastore, 1) := by decide +kernel
theorem dd_Md_close_148 : decode bb_Md_close 148 = .ok (.iinc 4 1, 3) := by decide +kernel
theorem dd_Md_close_151 : decode bb_Md_close 151 = .ok (.goto (-52), 3) := by decide +kernel
theorem dd_Md_close_154 : decode bb_Md_close 154 = .ok (.aload_n 0, 1) := by decide +kernel
theorem dd_Md_close_155 : decode bb_Md_close 155 = .ok (.bipush 20, 2) := by decide +kernel
theorem dd_Md_close_157 : decode bb_Md_close 157 = .ok (.iload_n 1, 1) := by decide +kernel
theorem dd_Md_close_158 : decode bb_Md_close 158 = .ok (.imul, 1) := by decide +kernel
theorem dd_Md_close_159 : decode bb_Md_close 159 = .ok (.iload_n 3, 1) := by decide +kernel
theorem dd_Md_close_160 : decode bb_Md_close 160 = .ok (.iadd, 1) := by decide +kernel
theorem dd_Md_close_161 : decode bb_Md_close 161 = .ok (.invokevirtual 165, 3) := by decide +kernel
theorem dd_Md_close_164 : decode bb_Md_close 164 = .ok (.pop, 1) := by decide +kernel
theorem dd_Md_close_165 : decode bb_Md_close 165 = .ok (.iload_n 3, 1) := by decide +kernel
theorem dd_Md_close_166 : decode bb_Md_close 166 = .ok (.ireturn, 1) := by decide +kernel
def zk_Md_close : Room := { frames := 2, cells := 0, slots := 0, locals := 48 }
abbrev zA_Md_close (p : Program) (l : Launch) (e : Env) (s : State) (m : MethodId) (args : Array Value) (below : List Frame) (meth : Method) (c : Code) (G : zs_G) (Q : zs_Q) (pc : Nat) (P : zs_P) : Prop := zs_At p l e zk_Md_close s m args below meth c (MQ below (zs_Qc G Q) args s 0 0 (fun q => zg_z G ≤ q)) G 5 pc P
def zb_Md_close_28 (Q : zs_Q) : zs_P := zt_psh (-1) (zt_irt 0 0 Q)
def zb_Md_close_154 (Q : zs_Q) : zs_P := zt_ald 0 (zt_psh 20 (zt_ild 1 (zt_bin (fun x y => x * y) (zt_ild 3 (zt_bin (fun x y => x + y) (zt_cav 8 zw_Md_spread (1 + 1) 0 0 0 0 (zt_pop (zt_ild 3 (zt_irt 0 0 Q)))))))))
def zb_Md_close_147 (Q : zs_Q) (K99 : zs_P) : zs_P := zt_ias (zt_inc 4 1 (K99))
def zb_Md_close_140 (Q : zs_Q) (K99 : zs_P) : zs_P := zt_ald 0 (zt_gtR 8 8 (zt_ild 4 (zt_xld 100 ((zb_Md_close_147 Q K99)))))
def zb_Md_close_136 (Q : zs_Q) (K99 : zs_P) : zs_P := zt_ild 3 ((zb_Md_close_147 Q K99))
def zb_Md_close_125 (Q : zs_Q) (K99 : zs_P) : zs_P := zt_ald 0 (zt_gtR 8 8 (zt_ild 4 (zt_xld 100 (zt_psh (-1) (zt_cmp (fun x y => x = y) (zb_Md_close_136 Q K99) (zb_Md_close_140 Q K99))))))
def zb_Md_close_108 (Q : zs_Q) (K99 : zs_P) : zs_P := zt_ald 0 (zt_gtR 8 8 (zt_ild 4 (zt_ald 0 (zt_gtR 8 7 (zt_ild 4 (zt_xld 100 (zt_ild 1 (zt_cmp (fun x y => x = y) (zb_Md_close_125 Q K99) (zb_Md_close_140 Q K99)))))))))
def zb_Md_close_99 (Q : zs_Q) (K99 : zs_P) : zs_P := zt_ild 4 (zt_ald 0 (zt_gtI 8 2 (zt_cmp (fun x y => y ≤ x) (zb_Md_close_154 Q) (zb_Md_close_108 Q K99))))
def zl_Md_close_99 (Q : zs_Q) : zs_P := zt_ex (zb_Md_close_99 Q)
def zb_Md_close_79 (Q : zs_Q) : zs_P := zt_ald 0 (zt_gtR 8 9 (zt_ild 1 (zt_xld 100 (zt_ist 3 (zt_ald 0 (zt_gtR 8 9 (zt_ild 1 (zt_du2 (zt_xld 100 (zt_psh 1 (zt_bin (fun x y => x + y) (zt_ias (zt_psh 0 (zt_ist 4 ((zl_Md_close_99 Q))))))))))))))))
def zb_Md_close_77 (Q : zs_Q) : zs_P := zt_psh (-1) (zt_irt 0 0 Q)
def zb_Md_close_72 (Q : zs_Q) : zs_P := zt_ild 2 (zt_psh 3 (zt_cmp (fun x y => x < y) (zb_Md_close_79 Q) (zb_Md_close_77 Q)))
def zb_Md_close_65 (Q : zs_Q) (K34 : zs_P) : zs_P := zt_ist 2 (zt_inc 3 1 (K34))
def zb_Md_close_64 (Q : zs_Q) (K34 : zs_P) : zs_P := zt_ild 2 ((zb_Md_close_65 Q K34))
def zb_Md_close_58 (Q : zs_Q) (K34 : zs_P) : zs_P := zt_ild 2 (zt_psh 1 (zt_bin (fun x y => x + y) ((zb_Md_close_65 Q K34))))
def zb_Md_close_44 (Q : zs_Q) (K34 : zs_P) : zs_P := zt_ald 0 (zt_gtR 8 12 (zt_psh 20 (zt_ild 1 (zt_bin (fun x y => x * y) (zt_ild 3 (zt_bin (fun x y => x + y) (zt_xld 100 (zt_if (fun x => x = 0) (zb_Md_close_58 Q K34) (zb_Md_close_64 Q K34)))))))))
def zb_Md_close_34 (Q : zs_Q) (K34 : zs_P) : zs_P := zt_ild 3 (zt_ald 0 (zt_gtR 8 9 (zt_ild 1 (zt_xld 100 (zt_cmp (fun x y => y ≤ x) (zb_Md_close_72 Q) (zb_Md_close_44 Q K34))))))
def zl_Md_close_34 (Q : zs_Q) : zs_P := zt_ex (zb_Md_close_34 Q)
def zb_Md_close_30 (Q : zs_Q) : zs_P := zt_psh 0 (zt_ist 2 (zt_psh 0 (zt_ist 3 ((zl_Md_close_34 Q)))))
def zb_Md_close_15 (Q : zs_Q) : zs_P := zt_ald 0 (zt_gtR 8 9 (zt_ild 1 (zt_psh 1 (zt_bin (fun x y => x &&& y) (zt_xld 100 (zt_psh 20 (zt_cmp (fun x y => x < y) (zb_Md_close_30 Q) (zb_Md_close_28 Q))))))))
def zb_Md_close_8 (Q : zs_Q) : zs_P := zt_ald 0 (zt_cav 8 zw_Md_crowded (0 + 1) 0 0 0 0 (zt_if (fun x => x = 0) (zb_Md_close_15 Q) (zb_Md_close_28 Q)))
def zb_Md_close_0 (Q : zs_Q) : zs_P := zt_ald 0 (zt_ild 1 (zt_cav 8 zw_Md_working (1 + 1) 0 0 0 0 (zt_if (fun x => x = 0) (zb_Md_close_28 Q) (zb_Md_close_8 Q))))
def zw_Md_close : zs_W := fun As σ Q => match As with
  | [a0, a1] => zs_c1 [a0, a1] = true ∧ zb_Md_close_0 Q [some a0, some a1, none, none, none] [] σ 0 0
  | _ => False
section
variable {p : Program} {l : Launch} {e : Env} {s : State} {m : MethodId} {args : Array Value} {below : List Frame} {meth : Method} {c : Code} {G : zs_G} {Q : zs_Q}
theorem zr_Md_close_28 (B : zs_B p s m args meth c G bb_Md_close 5 yy_Md_close (some .int)) : zA_Md_close p l e s m args below meth c G Q 28 (zb_Md_close_28 Q) := by
  unfold zb_Md_close_28
  refine za_ico B.1 (-1) dd_Md_close_28 (by decide) ?_
  exact za_irt B.1 0 0 B.2.1 B.2.2.1 dd_Md_close_29
theorem zr_Md_close_154 (B : zs_B p s m args meth c G bb_Md_close 5 yy_Md_close (some .int)) : zA_Md_close p l e s m args below meth c G Q 154 (zb_Md_close_154 Q) := by
  unfold zb_Md_close_154
  refine za_ald_n B.1 0 dd_Md_close_154 rfl ?_
  refine za_bip B.1 20 dd_Md_close_155 (by decide) ?_
  refine za_ild_n B.1 1 dd_Md_close_157 rfl ?_
  refine za_mul B.1 dd_Md_close_158 ?_
  refine za_ild_n B.1 3 dd_Md_close_159 rfl ?_
  refine za_add B.1 dd_Md_close_160 ?_
  refine za_cV B.1 8 1 0 0 0 0 rfl rfl rfl (by decide) (zm_Md_spread l G) ⟨callB_of 1 B.1.1.2.2.2.2 (zs_good zW_575) rfl rfl rfl (B.1.1.2.2.2.2 _ zW_8) (B.1.1.2.2.2.2 _ zW_573) (by decide +kernel) ⟨by decide, by decide⟩, (B.1.1.2.2.2.2 _ zW_574), (B.1.1.2.2.2.2 _ zW_690)⟩ dd_Md_close_161 ?_
  refine za_pop B.1 dd_Md_close_164 ?_
  refine za_ild_n B.1 3 dd_Md_close_165 rfl ?_
  exact za_irt B.1 0 0 B.2.1 B.2.2.1 dd_Md_close_166
theorem zr_Md_close_147 (B : zs_B p s m args meth c G bb_Md_close 5 yy_Md_close (some .int)) {K99 : zs_P} (h99 : zA_Md_close p l e s m args below meth c G Q 99 K99) : zA_Md_close p l e s m args below meth c G Q 147 (zb_Md_close_147 Q K99) := by
  unfold zb_Md_close_147
  refine za_iast B.1 dd_Md_close_147 ?_
  refine za_inc B.1 1 dd_Md_close_148 (by decide) (by decide) ?_
  refine za_goto B.1 99 dd_Md_close_151 (by decide) ?_
  exact h99
theorem zr_Md_close_140 (B : zs_B p s m args meth c G bb_Md_close 5 yy_Md_close (some .int)) {K99 : zs_P} (h99 : zA_Md_close p l e s m args below meth c G Q 99 K99) : zA_Md_close p l e s m args below meth c G Q 140 (zb_Md_close_140 Q K99) := by
  unfold zb_Md_close_140
  refine za_ald_n B.1 0 dd_Md_close_140 rfl ?_
  refine za_gtR B.1 8 8 zi_8 rfl (by decide) (by decide) rfl zW_464 rfl dd_Md_close_141 ?_
  refine za_ild B.1 dd_Md_close_144 ?_
  refine za_iald B.1 dd_Md_close_146 ?_
  exact (zr_Md_close_147 B h99)
theorem zr_Md_close_136 (B : zs_B p s m args meth c G bb_Md_close 5 yy_Md_close (some .int)) {K99 : zs_P} (h99 : zA_Md_close p l e s m args below meth c G Q 99 K99) : zA_Md_close p l e s m args below meth c G Q 136 (zb_Md_close_136 Q K99) := by
  unfold zb_Md_close_136
  refine za_ild_n B.1 3 dd_Md_close_136 rfl ?_
  refine za_goto B.1 147 dd_Md_close_137 (by decide) ?_
  exact (zr_Md_close_147 B h99)
theorem zr_Md_close_125 (B : zs_B p s m args meth c G bb_Md_close 5 yy_Md_close (some .int)) {K99 : zs_P} (h99 : zA_Md_close p l e s m args below meth c G Q 99 K99) : zA_Md_close p l e s m args below meth c G Q 125 (zb_Md_close_125 Q K99) := by
  unfold zb_Md_close_125
  refine za_ald_n B.1 0 dd_Md_close_125 rfl ?_
  refine za_gtR B.1 8 8 zi_8 rfl (by decide) (by decide) rfl zW_464 rfl dd_Md_close_126 ?_
  refine za_ild B.1 dd_Md_close_129 ?_
  refine za_iald B.1 dd_Md_close_131 ?_
  refine za_ico B.1 (-1) dd_Md_close_132 (by decide) ?_
  exact za_cmp_ne B.1 140 dd_Md_close_133 (by decide) (zr_Md_close_136 B h99) (zr_Md_close_140 B h99)
theorem zr_Md_close_108 (B : zs_B p s m args meth c G bb_Md_close 5 yy_Md_close (some .int)) {K99 : zs_P} (h99 : zA_Md_close p l e s m args below meth c G Q 99 K99) : zA_Md_close p l e s m args below meth c G Q 108 (zb_Md_close_108 Q K99) := by
  unfold zb_Md_close_108
  refine za_ald_n B.1 0 dd_Md_close_108 rfl ?_
  refine za_gtR B.1 8 8 zi_8 rfl (by decide) (by decide) rfl zW_464 rfl dd_Md_close_109 ?_
  refine za_ild B.1 dd_Md_close_112 ?_
  refine za_ald_n B.1 0 dd_Md_close_114 rfl ?_
  refine za_gtR B.1 8 7 zi_8 rfl (by decide) (by decide) rfl zW_463 rfl dd_Md_close_115 ?_
  refine za_ild B.1 dd_Md_close_118 ?_
  refine za_iald B.1 dd_Md_close_120 ?_
  refine za_ild_n B.1 1 dd_Md_close_121 rfl ?_
  exact za_cmp_ne B.1 140 dd_Md_close_122 (by decide) (zr_Md_close_125 B h99) (zr_Md_close_140 B h99)
theorem zr_Md_close_99 (B : zs_B p s m args meth c G bb_Md_close 5 yy_Md_close (some .int)) {K99 : zs_P} (h99 : zA_Md_close p l e s m args below meth c G Q 99 K99) : zA_Md_close p l e s m args below meth c G Q 99 (zb_Md_close_99 Q K99) := by
  unfold zb_Md_close_99
  refine za_ild B.1 dd_Md_close_99 ?_
  refine za_ald_n B.1 0 dd_Md_close_101 rfl ?_
  refine za_gtI B.1 8 2 zi_8 rfl (by decide) (by decide) rfl zW_458 rfl dd_Md_close_102 ?_
  exact za_cmp_ge B.1 154 dd_Md_close_105 (by decide) (zr_Md_close_154 B) (zr_Md_close_108 B h99)
theorem zq_Md_close_99 (B : zs_B p s m args meth c G bb_Md_close 5 yy_Md_close (some .int)) : zA_Md_close p l e s m args below meth c G Q 99 (zl_Md_close_99 Q) := za_lop (fun K hK => zr_Md_close_99 B hK)
theorem zr_Md_close_79 (B : zs_B p s m args meth c G bb_Md_close 5 yy_Md_close (some .int)) : zA_Md_close p l e s m args below meth c G Q 79 (zb_Md_close_79 Q) := by
  unfold zb_Md_close_79
  refine za_ald_n B.1 0 dd_Md_close_79 rfl ?_
  refine za_gtR B.1 8 9 zi_8 rfl (by decide) (by decide) rfl zW_465 rfl dd_Md_close_80 ?_
  refine za_ild_n B.1 1 dd_Md_close_83 rfl ?_
  refine za_iald B.1 dd_Md_close_84 ?_
  refine za_ist_n B.1 3 dd_Md_close_85 rfl (by decide) ?_
  refine za_ald_n B.1 0 dd_Md_close_86 rfl ?_
  refine za_gtR B.1 8 9 zi_8 rfl (by decide) (by decide) rfl zW_465 rfl dd_Md_close_87 ?_
  refine za_ild_n B.1 1 dd_Md_close_90 rfl ?_
  refine za_du2 B.1 dd_Md_close_91 ?_
  refine za_iald B.1 dd_Md_close_92 ?_
  refine za_ico B.1 1 dd_Md_close_93 (by decide) ?_
  refine za_add B.1 dd_Md_close_94 ?_
  refine za_iast B.1 dd_Md_close_95 ?_
  refine za_ico B.1 0 dd_Md_close_96 (by decide) ?_
  refine za_ist B.1 dd_Md_close_97 (by decide) ?_
  exact (zq_Md_close_99 B)
theorem zr_Md_close_77 (B : zs_B p s m args meth c G bb_Md_close 5 yy_Md_close (some .int)) : zA_Md_close p l e s m args below meth c G Q 77 (zb_Md_close_77 Q) := by
  unfold zb_Md_close_77
  refine za_ico B.1 (-1) dd_Md_close_77 (by decide) ?_
  exact za_irt B.1 0 0 B.2.1 B.2.2.1 dd_Md_close_78
theorem zr_Md_close_72 (B : zs_B p s m args meth c G bb_Md_close 5 yy_Md_close (some .int)) : zA_Md_close p l e s m args below meth c G Q 72 (zb_Md_close_72 Q) := by
  unfold zb_Md_close_72
  refine za_ild_n B.1 2 dd_Md_close_72 rfl ?_
  refine za_ico B.1 3 dd_Md_close_73 (by decide) ?_
  exact za_cmp_lt B.1 79 dd_Md_close_74 (by decide) (zr_Md_close_79 B) (zr_Md_close_77 B)
theorem zr_Md_close_65 (B : zs_B p s m args meth c G bb_Md_close 5 yy_Md_close (some .int)) {K34 : zs_P} (h34 : zA_Md_close p l e s m args below meth c G Q 34 K34) : zA_Md_close p l e s m args below meth c G Q 65 (zb_Md_close_65 Q K34) := by
  unfold zb_Md_close_65
  refine za_ist_n B.1 2 dd_Md_close_65 rfl (by decide) ?_
  refine za_inc B.1 1 dd_Md_close_66 (by decide) (by decide) ?_
  refine za_goto B.1 34 dd_Md_close_69 (by decide) ?_
  exact h34
theorem zr_Md_close_64 (B : zs_B p s m args meth c G bb_Md_close 5 yy_Md_close (some .int)) {K34 : zs_P} (h34 : zA_Md_close p l e s m args below meth c G Q 34 K34) : zA_Md_close p l e s m args below meth c G Q 64 (zb_Md_close_64 Q K34) := by
  unfold zb_Md_close_64
  refine za_ild_n B.1 2 dd_Md_close_64 rfl ?_
  exact (zr_Md_close_65 B h34)
theorem zr_Md_close_58 (B : zs_B p s m args meth c G bb_Md_close 5 yy_Md_close (some .int)) {K34 : zs_P} (h34 : zA_Md_close p l e s m args below meth c G Q 34 K34) : zA_Md_close p l e s m args below meth c G Q 58 (zb_Md_close_58 Q K34) := by
  unfold zb_Md_close_58
  refine za_ild_n B.1 2 dd_Md_close_58 rfl ?_
  refine za_ico B.1 1 dd_Md_close_59 (by decide) ?_
  refine za_add B.1 dd_Md_close_60 ?_
  refine za_goto B.1 65 dd_Md_close_61 (by decide) ?_
  exact (zr_Md_close_65 B h34)
theorem zr_Md_close_44 (B : zs_B p s m args meth c G bb_Md_close 5 yy_Md_close (some .int)) {K34 : zs_P} (h34 : zA_Md_close p l e s m args below meth c G Q 34 K34) : zA_Md_close p l e s m args below meth c G Q 44 (zb_Md_close_44 Q K34) := by
  unfold zb_Md_close_44
  refine za_ald_n B.1 0 dd_Md_close_44 rfl ?_
  refine za_gtR B.1 8 12 zi_8 rfl (by decide) (by decide) rfl zW_468 rfl dd_Md_close_45 ?_
  refine za_bip B.1 20 dd_Md_close_48 (by decide) ?_
  refine za_ild_n B.1 1 dd_Md_close_50 rfl ?_
  refine za_mul B.1 dd_Md_close_51 ?_
  refine za_ild_n B.1 3 dd_Md_close_52 rfl ?_
  refine za_add B.1 dd_Md_close_53 ?_
  refine za_iald B.1 dd_Md_close_54 ?_
  exact za_if_ne B.1 64 dd_Md_close_55 (by decide) (zr_Md_close_58 B h34) (zr_Md_close_64 B h34)
theorem zr_Md_close_34 (B : zs_B p s m args meth c G bb_Md_close 5 yy_Md_close (some .int)) {K34 : zs_P} (h34 : zA_Md_close p l e s m args below meth c G Q 34 K34) : zA_Md_close p l e s m args below meth c G Q 34 (zb_Md_close_34 Q K34) := by
  unfold zb_Md_close_34
  refine za_ild_n B.1 3 dd_Md_close_34 rfl ?_
  refine za_ald_n B.1 0 dd_Md_close_35 rfl ?_
  refine za_gtR B.1 8 9 zi_8 rfl (by decide) (by decide) rfl zW_465 rfl dd_Md_close_36 ?_
  refine za_ild_n B.1 1 dd_Md_close_39 rfl ?_
  refine za_iald B.1 dd_Md_close_40 ?_
  exact za_cmp_ge B.1 72 dd_Md_close_41 (by decide) (zr_Md_close_72 B) (zr_Md_close_44 B h34)
theorem zq_Md_close_34 (B : zs_B p s m args meth c G bb_Md_close 5 yy_Md_close (some .int)) : zA_Md_close p l e s m args below meth c G Q 34 (zl_Md_close_34 Q) := za_lop (fun K hK => zr_Md_close_34 B hK)
theorem zr_Md_close_30 (B : zs_B p s m args meth c G bb_Md_close 5 yy_Md_close (some .int)) : zA_Md_close p l e s m args below meth c G Q 30 (zb_Md_close_30 Q) := by
  unfold zb_Md_close_30
  refine za_ico B.1 0 dd_Md_close_30 (by decide) ?_
  refine za_ist_n B.1 2 dd_Md_close_31 rfl (by decide) ?_
  refine za_ico B.1 0 dd_Md_close_32 (by decide) ?_
  refine za_ist_n B.1 3 dd_Md_close_33 rfl (by decide) ?_
  exact (zq_Md_close_34 B)
theorem zr_Md_close_15 (B : zs_B p s m args meth c G bb_Md_close 5 yy_Md_close (some .int)) : zA_Md_close p l e s m args below meth c G Q 15 (zb_Md_close_15 Q) := by
  unfold zb_Md_close_15
  refine za_ald_n B.1 0 dd_Md_close_15 rfl ?_
  refine za_gtR B.1 8 9 zi_8 rfl (by decide) (by decide) rfl zW_465 rfl dd_Md_close_16 ?_
  refine za_ild_n B.1 1 dd_Md_close_19 rfl ?_
  refine za_ico B.1 1 dd_Md_close_20 (by decide) ?_
  refine za_and B.1 dd_Md_close_21 ?_
  refine za_iald B.1 dd_Md_close_22 ?_
  refine za_bip B.1 20 dd_Md_close_23 (by decide) ?_
  exact za_cmp_lt B.1 30 dd_Md_close_25 (by decide) (zr_Md_close_30 B) (zr_Md_close_28 B)
theorem zr_Md_close_8 (B : zs_B p s m args meth c G bb_Md_close 5 yy_Md_close (some .int)) : zA_Md_close p l e s m args below meth c G Q 8 (zb_Md_close_8 Q) := by
  unfold zb_Md_close_8
  refine za_ald_n B.1 0 dd_Md_close_8 rfl ?_
  refine za_cV B.1 8 0 0 0 0 0 rfl rfl rfl (by decide) (zm_Md_crowded l G) ⟨callB_of 0 B.1.1.2.2.2.2 (zs_good zW_572) rfl rfl rfl (B.1.1.2.2.2.2 _ zW_8) (B.1.1.2.2.2.2 _ zW_570) (by decide +kernel) ⟨by decide, by decide⟩, (B.1.1.2.2.2.2 _ zW_571), (B.1.1.2.2.2.2 _ zW_689)⟩ dd_Md_close_9 ?_
  exact za_if_ne B.1 28 dd_Md_close_12 (by decide) (zr_Md_close_15 B) (zr_Md_close_28 B)
theorem zr_Md_close_0 (B : zs_B p s m args meth c G bb_Md_close 5 yy_Md_close (some .int)) : zA_Md_close p l e s m args below meth c G Q 0 (zb_Md_close_0 Q) := by
  unfold zb_Md_close_0
  refine za_ald_n B.1 0 dd_Md_close_0 rfl ?_
  refine za_ild_n B.1 1 dd_Md_close_1 rfl ?_
  refine za_cV B.1 8 1 0 0 0 0 rfl rfl rfl (by decide) (zm_Md_working l G) ⟨callB_of 1 B.1.1.2.2.2.2 (zs_good zW_569) rfl rfl rfl (B.1.1.2.2.2.2 _ zW_8) (B.1.1.2.2.2.2 _ zW_567) (by decide +kernel) ⟨by decide, by decide⟩, (B.1.1.2.2.2.2 _ zW_568), (B.1.1.2.2.2.2 _ zW_688)⟩ dd_Md_close_2 ?_
  exact za_if_eq B.1 28 dd_Md_close_5 (by decide) (zr_Md_close_28 B) (zr_Md_close_8 B)
end
theorem zm_Md_close (l : Launch) (G : zs_G) (As : List Value) (σ : zs_S) (Q : zs_Q) (h : zw_Md_close As σ Q) : zs_Met l yy_Md_close (Cond.code yy_Md_close bb_Md_close 5 (some .int) :: zw_all) zk_Md_close G As σ Q 0 0 := by
  unfold zw_Md_close at h
  split at h
  · exact zs_enter (by decide +kernel) h.1 (Nat.le_of_ble_eq_true rfl) h.2 (fun p e s m args below meth c B => zr_Md_close_0 B)
  · exact h.elim
-- SequencedBatchesModel.resend(II)I
theorem dd_Md_resend_0 : decode bb_Md_resend 0 = .ok (.aload_n 0, 1) := by decide +kernel
theorem dd_Md_resend_1 : decode bb_Md_resend 1 = .ok (.iload_n 1, 1) := by decide +kernel
theorem dd_Md_resend_2 : decode bb_Md_resend 2 = .ok (.invokevirtual 158, 3) := by decide +kernel
theorem dd_Md_resend_5 : decode bb_Md_resend 5 = .ok (.ifCond .eq 28, 3) := by decide +kernel
theorem dd_Md_resend_8 : decode bb_Md_resend 8 = .ok (.aload_n 0, 1) := by decide +kernel
theorem dd_Md_resend_9 : decode bb_Md_resend 9 = .ok (.invokevirtual 161, 3) := by decide +kernel
theorem dd_Md_resend_12 : decode bb_Md_resend 12 = .ok (.ifCond .ne 21, 3) := by decide +kernel
theorem dd_Md_resend_15 : decode bb_Md_resend 15 = .ok (.iload_n 2, 1) := by decide +kernel
theorem dd_Md_resend_16 : decode bb_Md_resend 16 = .ok (.iconst 0, 1) := by decide +kernel
theorem dd_Md_resend_17 : decode bb_Md_resend 17 = .ok (.aload_n 0, 1) := by decide +kernel
theorem dd_Md_resend_18 : decode bb_Md_resend 18 = .ok (.getfield 32, 3) := by decide +kernel
theorem dd_Md_resend_21 : decode bb_Md_resend 21 = .ok (.iload_n 1, 1) := by decide +kernel
theorem dd_Md_resend_22 : decode bb_Md_resend 22 = .ok (.iconst 1, 1) := by decide +kernel
theorem dd_Md_resend_23 : decode bb_Md_resend 23 = .ok (.iand, 1) := by decide +kernel
theorem dd_Md_resend_24 : decode bb_Md_resend 24 = .ok (.iaload, 1) := by decide +kernel
theorem dd_Md_resend_25 : decode bb_Md_resend 25 = .ok (.iconst 1, 1) := by decide +kernel
theorem dd_Md_resend_26 : decode bb_Md_resend 26 = .ok (.isub, 1) := by decide +kernel
theorem dd_Md_resend_27 : decode bb_Md_resend 27 = .ok (.invokestatic 111, 3) := by decide +kernel
theorem dd_Md_resend_30 : decode bb_Md_resend 30 = .ok (.ifCond .ne 5, 3) := by decide +kernel
theorem dd_Md_resend_33 : decode bb_Md_resend 33 = .ok (.iconst (-1), 1) := by decide +kernel
theorem dd_Md_resend_34 : decode bb_Md_resend 34 = .ok (.ireturn, 1) := by decide +kernel
theorem dd_Md_resend_35 : decode bb_Md_resend 35 = .ok (.bipush 20, 2) := by decide +kernel
theorem dd_Md_resend_37 : decode bb_Md_resend 37 = .ok (.iload_n 1, 1) := by decide +kernel
theorem dd_Md_resend_38 : decode bb_Md_resend 38 = .ok (.imul, 1) := by decide +kernel
theorem dd_Md_resend_39 : decode bb_Md_resend 39 = .ok (.iload_n 2, 1) := by decide +kernel
theorem dd_Md_resend_40 : decode bb_Md_resend 40 = .ok (.iadd, 1) := by decide +kernel
theorem dd_Md_resend_41 : decode bb_Md_resend 41 = .ok (.istore_n 3, 1) := by decide +kernel
theorem dd_Md_resend_42 : decode bb_Md_resend 42 = .ok (.aload_n 0, 1) := by decide +kernel
theorem dd_Md_resend_43 : decode bb_Md_resend 43 = .ok (.getfield 41, 3) := by decide +kernel
theorem dd_Md_resend_46 : decode bb_Md_resend 46 = .ok (.iload_n 3, 1) := by decide +kernel
theorem dd_Md_resend_47 : decode bb_Md_resend 47 = .ok (.iaload, 1) := by decide +kernel
theorem dd_Md_resend_48 : decode bb_Md_resend 48 = .ok (.ifCond .ne 9, 3) := by decide +kernel
theorem dd_Md_resend_51 : decode bb_Md_resend 51 = .ok (.aload_n 0, 1) := by decide +kernel
theorem dd_Md_resend_52 : decode bb_Md_resend 52 = .ok (.iload_n 3, 1) := by decide +kernel
theorem dd_Md_resend_53 : decode bb_Md_resend 53 = .ok (.invokevirtual 165, 3) := by decide +kernel
theorem dd_Md_resend_56 : decode bb_Md_resend 56 = .ok (.ireturn, 1) := by decide +kernel
theorem dd_Md_resend_57 : decode bb_Md_resend 57 = .ok (.aload_n 0, 1) := by decide +kernel
theorem dd_Md_resend_58 : decode bb_Md_resend 58 = .ok (.iload_n 3, 1) := by decide +kernel
theorem dd_Md_resend_59 : decode bb_Md_resend 59 = .ok (.invokevirtual 155, 3) := by decide +kernel
theorem dd_Md_resend_62 : decode bb_Md_resend 62 = .ok (.iconst 2, 1) := by decide +kernel
theorem dd_Md_resend_63 : decode bb_Md_resend 63 = .ok (.ireturn, 1) := by decide +kernel
def zk_Md_resend : Room := { frames := 2, cells := 0, slots := 0, locals := 48 }
abbrev zA_Md_resend (p : Program) (l : Launch) (e : Env) (s : State) (m : MethodId) (args : Array Value) (below : List Frame) (meth : Method) (c : Code) (G : zs_G) (Q : zs_Q) (pc : Nat) (P : zs_P) : Prop := zs_At p l e zk_Md_resend s m args below meth c (MQ below (zs_Qc G Q) args s 0 0 (fun q => zg_z G ≤ q)) G 4 pc P
def zb_Md_resend_33 (Q : zs_Q) : zs_P := zt_psh (-1) (zt_irt 0 0 Q)
def zb_Md_resend_57 (Q : zs_Q) : zs_P := zt_ald 0 (zt_ild 3 (zt_cav 8 zw_Md_tell (1 + 1) 0 0 0 0 (zt_psh 2 (zt_irt 0 0 Q))))
def zb_Md_resend_51 (Q : zs_Q) : zs_P := zt_ald 0 (zt_ild 3 (zt_cav 8 zw_Md_spread (1 + 1) 0 0 0 0 (zt_irt 0 0 Q)))
def zb_Md_resend_35 (Q : zs_Q) : zs_P := zt_psh 20 (zt_ild 1 (zt_bin (fun x y => x * y) (zt_ild 2 (zt_bin (fun x y => x + y) (zt_ist 3 (zt_ald 0 (zt_gtR 8 12 (zt_ild 3 (zt_xld 100 (zt_if (fun x => x = 0) (zb_Md_resend_51 Q) (zb_Md_resend_57 Q)))))))))))
def zb_Md_resend_15 (Q : zs_Q) : zs_P := zt_ild 2 (zt_psh 0 (zt_ald 0 (zt_gtR 8 9 (zt_ild 1 (zt_psh 1 (zt_bin (fun x y => x &&& y) (zt_xld 100 (zt_psh 1 (zt_bin (fun x y => x - y) (zt_cal zw_Md_in 3 0 0 0 0 (zt_if (fun x => x = 0) (zb_Md_resend_33 Q) (zb_Md_resend_35 Q))))))))))))
def zb_Md_resend_8 (Q : zs_Q) : zs_P := zt_ald 0 (zt_cav 8 zw_Md_crowded (0 + 1) 0 0 0 0 (zt_if (fun x => x = 0) (zb_Md_resend_15 Q) (zb_Md_resend_33 Q)))
def zb_Md_resend_0 (Q : zs_Q) : zs_P := zt_ald 0 (zt_ild 1 (zt_cav 8 zw_Md_working (1 + 1) 0 0 0 0 (zt_if (fun x => x = 0) (zb_Md_resend_33 Q) (zb_Md_resend_8 Q))))
def zw_Md_resend : zs_W := fun As σ Q => match As with
  | [a0, a1, a2] => zs_c1 [a0, a1, a2] = true ∧ zb_Md_resend_0 Q [some a0, some a1, some a2, none] [] σ 0 0
  | _ => False
section
variable {p : Program} {l : Launch} {e : Env} {s : State} {m : MethodId} {args : Array Value} {below : List Frame} {meth : Method} {c : Code} {G : zs_G} {Q : zs_Q}
theorem zr_Md_resend_33 (B : zs_B p s m args meth c G bb_Md_resend 4 yy_Md_resend (some .int)) : zA_Md_resend p l e s m args below meth c G Q 33 (zb_Md_resend_33 Q) := by
  unfold zb_Md_resend_33
  refine za_ico B.1 (-1) dd_Md_resend_33 (by decide) ?_
  exact za_irt B.1 0 0 B.2.1 B.2.2.1 dd_Md_resend_34
theorem zr_Md_resend_57 (B : zs_B p s m args meth c G bb_Md_resend 4 yy_Md_resend (some .int)) : zA_Md_resend p l e s m args below meth c G Q 57 (zb_Md_resend_57 Q) := by
  unfold zb_Md_resend_57
  refine za_ald_n B.1 0 dd_Md_resend_57 rfl ?_
  refine za_ild_n B.1 3 dd_Md_resend_58 rfl ?_
  refine za_cV B.1 8 1 0 0 0 0 rfl rfl rfl (by decide) (zm_Md_tell l G) ⟨callB_of 1 B.1.1.2.2.2.2 (zs_good zW_541) rfl rfl rfl (B.1.1.2.2.2.2 _ zW_8) (B.1.1.2.2.2.2 _ zW_539) (by decide +kernel) ⟨by decide, by decide⟩, (B.1.1.2.2.2.2 _ zW_540), (B.1.1.2.2.2.2 _ zW_680)⟩ dd_Md_resend_59 ?_
  refine za_ico B.1 2 dd_Md_resend_62 (by decide) ?_
  exact za_irt B.1 0 0 B.2.1 B.2.2.1 dd_Md_resend_63
theorem zr_Md_resend_51 (B : zs_B p s m args meth c G bb_Md_resend 4 yy_Md_resend (some .int)) : zA_Md_resend p l e s m args below meth c G Q 51 (zb_Md_resend_51 Q) := by
  unfold zb_Md_resend_51
  refine za_ald_n B.1 0 dd_Md_resend_51 rfl ?_
  refine za_ild_n B.1 3 dd_Md_resend_52 rfl ?_
  refine za_cV B.1 8 1 0 0 0 0 rfl rfl rfl (by decide) (zm_Md_spread l G) ⟨callB_of 1 B.1.1.2.2.2.2 (zs_good zW_575) rfl rfl rfl (B.1.1.2.2.2.2 _ zW_8) (B.1.1.2.2.2.2 _ zW_573) (by decide +kernel) ⟨by decide, by decide⟩, (B.1.1.2.2.2.2 _ zW_574), (B.1.1.2.2.2.2 _ zW_690)⟩ dd_Md_resend_53 ?_
  exact za_irt B.1 0 0 B.2.1 B.2.2.1 dd_Md_resend_56
theorem zr_Md_resend_35 (B : zs_B p s m args meth c G bb_Md_resend 4 yy_Md_resend (some .int)) : zA_Md_resend p l e s m args below meth c G Q 35 (zb_Md_resend_35 Q) := by
  unfold zb_Md_resend_35
  refine za_bip B.1 20 dd_Md_resend_35 (by decide) ?_
  refine za_ild_n B.1 1 dd_Md_resend_37 rfl ?_
  refine za_mul B.1 dd_Md_resend_38 ?_
  refine za_ild_n B.1 2 dd_Md_resend_39 rfl ?_
  refine za_add B.1 dd_Md_resend_40 ?_
  refine za_ist_n B.1 3 dd_Md_resend_41 rfl (by decide) ?_
  refine za_ald_n B.1 0 dd_Md_resend_42 rfl ?_
  refine za_gtR B.1 8 12 zi_8 rfl (by decide) (by decide) rfl zW_468 rfl dd_Md_resend_43 ?_
  refine za_ild_n B.1 3 dd_Md_resend_46 rfl ?_
  refine za_iald B.1 dd_Md_resend_47 ?_
  exact za_if_ne B.1 57 dd_Md_resend_48 (by decide) (zr_Md_resend_51 B) (zr_Md_resend_57 B)
theorem zr_Md_resend_15 (B : zs_B p s m args meth c G bb_Md_resend 4 yy_Md_resend (some .int)) : zA_Md_resend p l e s m args below meth c G Q 15 (zb_Md_resend_15 Q) := by
  unfold zb_Md_resend_15
  refine za_ild_n B.1 2 dd_Md_resend_15 rfl ?_
  refine za_ico B.1 0 dd_Md_resend_16 (by decide) ?_
  refine za_ald_n B.1 0 dd_Md_resend_17 rfl ?_
  refine za_gtR B.1 8 9 zi_8 rfl (by decide) (by decide) rfl zW_465 rfl dd_Md_resend_18 ?_
  refine za_ild_n B.1 1 dd_Md_resend_21 rfl ?_
  refine za_ico B.1 1 dd_Md_resend_22 (by decide) ?_
  refine za_and B.1 dd_Md_resend_23 ?_
  refine za_iald B.1 dd_Md_resend_24 ?_
  refine za_ico B.1 1 dd_Md_resend_25 (by decide) ?_
  refine za_sub B.1 dd_Md_resend_26 ?_
  refine za_cS B.1 3 0 0 0 0 rfl rfl (zm_Md_in l G) ⟨callB_of 3 B.1.1.2.2.2.2 (zs_good zW_497) rfl rfl rfl (B.1.1.2.2.2.2 _ zW_8) (B.1.1.2.2.2.2 _ zW_495) (by decide +kernel) ⟨by decide, by decide⟩, (B.1.1.2.2.2.2 _ zW_496)⟩ dd_Md_resend_27 ?_
  exact za_if_ne B.1 35 dd_Md_resend_30 (by decide) (zr_Md_resend_33 B) (zr_Md_resend_35 B)
theorem zr_Md_resend_8 (B : zs_B p s m args meth c G bb_Md_resend 4 yy_Md_resend (some .int)) : zA_Md_resend p l e s m args below meth c G Q 8 (zb_Md_resend_8 Q) := by
  unfold zb_Md_resend_8
  refine za_ald_n B.1 0 dd_Md_resend_8 rfl ?_
  refine za_cV B.1 8 0 0 0 0 0 rfl rfl rfl (by decide) (zm_Md_crowded l G) ⟨callB_of 0 B.1.1.2.2.2.2 (zs_good zW_572) rfl rfl rfl (B.1.1.2.2.2.2 _ zW_8) (B.1.1.2.2.2.2 _ zW_570) (by decide +kernel) ⟨by decide, by decide⟩, (B.1.1.2.2.2.2 _ zW_571), (B.1.1.2.2.2.2 _ zW_689)⟩ dd_Md_resend_9 ?_
  exact za_if_ne B.1 33 dd_Md_resend_12 (by decide) (zr_Md_resend_15 B) (zr_Md_resend_33 B)
theorem zr_Md_resend_0 (B : zs_B p s m args meth c G bb_Md_resend 4 yy_Md_resend (some .int)) : zA_Md_resend p l e s m args below meth c G Q 0 (zb_Md_resend_0 Q) := by
  unfold zb_Md_resend_0
  refine za_ald_n B.1 0 dd_Md_resend_0 rfl ?_
  refine za_ild_n B.1 1 dd_Md_resend_1 rfl ?_
  refine za_cV B.1 8 1 0 0 0 0 rfl rfl rfl (by decide) (zm_Md_working l G) ⟨callB_of 1 B.1.1.2.2.2.2 (zs_good zW_569) rfl rfl rfl (B.1.1.2.2.2.2 _ zW_8) (B.1.1.2.2.2.2 _ zW_567) (by decide +kernel) ⟨by decide, by decide⟩, (B.1.1.2.2.2.2 _ zW_568), (B.1.1.2.2.2.2 _ zW_688)⟩ dd_Md_resend_2 ?_
  exact za_if_eq B.1 33 dd_Md_resend_5 (by decide) (zr_Md_resend_33 B) (zr_Md_resend_8 B)
end
theorem zm_Md_resend (l : Launch) (G : zs_G) (As : List Value) (σ : zs_S) (Q : zs_Q) (h : zw_Md_resend As σ Q) : zs_Met l yy_Md_resend (Cond.code yy_Md_resend bb_Md_resend 4 (some .int) :: zw_all) zk_Md_resend G As σ Q 0 0 := by
  unfold zw_Md_resend at h
  split at h
  · exact zs_enter (by decide +kernel) h.1 (Nat.le_of_ble_eq_true rfl) h.2 (fun p e s m args below meth c B => zr_Md_resend_0 B)
  · exact h.elim
