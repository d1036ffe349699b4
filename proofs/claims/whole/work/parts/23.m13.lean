/-! Methods: Md_logNodesUp, Md_again, Md_crash, Md_fresh (made by program) -/
-- SequencedBatchesModel.logNodesUp()I
theorem dd_Md_logNodesUp_0 : decode bb_Md_logNodesUp 0 = .ok (.aload_n 0, 1) := by decide +kernel
theorem dd_Md_logNodesUp_1 : decode bb_Md_logNodesUp 1 = .ok (.getfield 7, 3) := by decide +kernel
theorem dd_Md_logNodesUp_4 : decode bb_Md_logNodesUp 4 = .ok (.iconst 0, 1) := by decide +kernel
theorem dd_Md_logNodesUp_5 : decode bb_Md_logNodesUp 5 = .ok (.baload, 1) := by decide +kernel
theorem dd_Md_logNodesUp_6 : decode bb_Md_logNodesUp 6 = .ok (.ifCond .eq 7, 3) := by decide +kernel
theorem dd_Md_logNodesUp_9 : decode bb_Md_logNodesUp 9 = .ok (.iconst 0, 1) := by decide +kernel
theorem dd_Md_logNodesUp_10 : decode bb_Md_logNodesUp 10 = .ok (.goto 4, 3) := by decide +kernel
theorem dd_Md_logNodesUp_13 : decode bb_Md_logNodesUp 13 = .ok (.iconst 1, 1) := by decide +kernel
theorem dd_Md_logNodesUp_14 : decode bb_Md_logNodesUp 14 = .ok (.aload_n 0, 1) := by decide +kernel
theorem dd_Md_logNodesUp_15 : decode bb_Md_logNodesUp 15 = .ok (.getfield 7, 3) := by decide +kernel
theorem dd_Md_logNodesUp_18 : decode bb_Md_logNodesUp 18 = .ok (.iconst 1, 1) := by decide +kernel
theorem dd_Md_logNodesUp_19 : decode bb_Md_logNodesUp 19 = .ok (.baload, 1) := by decide +kernel
theorem dd_Md_logNodesUp_20 : decode bb_Md_logNodesUp 20 = .ok (.ifCond .eq 7, 3) := by decide +kernel
theorem dd_Md_logNodesUp_23 : decode bb_Md_logNodesUp 23 = .ok (.iconst 0, 1) := by decide +kernel
theorem dd_Md_logNodesUp_24 : decode bb_Md_logNodesUp 24 = .ok (.goto 4, 3) := by decide +kernel
theorem dd_Md_logNodesUp_27 : decode bb_Md_logNodesUp 27 = .ok (.iconst 1, 1) := by decide +kernel
theorem dd_Md_logNodesUp_28 : decode bb_Md_logNodesUp 28 = .ok (.iadd, 1) := by decide +kernel
theorem dd_Md_logNodesUp_29 : decode bb_Md_logNodesUp 29 = .ok (.aload_n 0, 1) := by decide +kernel
theorem dd_Md_logNodesUp_30 : decode bb_Md_logNodesUp 30 = .ok (.getfield 7, 3) := by decide +kernel
theorem dd_Md_logNodesUp_33 : decode bb_Md_logNodesUp 33 = .ok (.iconst 2, 1) := by decide +kernel
theorem dd_Md_logNodesUp_34 : decode bb_Md_logNodesUp 34 = .ok (.baload, 1) := by decide +kernel
theorem dd_Md_logNodesUp_35 : decode bb_Md_logNodesUp 35 = .ok (.ifCond .eq 7, 3) := by decide +kernel
theorem dd_Md_logNodesUp_38 : decode bb_Md_logNodesUp 38 = .ok (.iconst 0, 1) := by decide +kernel
theorem dd_Md_logNodesUp_39 : decode bb_Md_logNodesUp 39 = .ok (.goto 4, 3) := by decide +kernel
theorem dd_Md_logNodesUp_42 : decode bb_Md_logNodesUp 42 = .ok (.iconst 1, 1) := by decide +kernel
theorem dd_Md_logNodesUp_43 : decode bb_Md_logNodesUp 43 = .ok (.iadd, 1) := by decide +kernel
theorem dd_Md_logNodesUp_44 : decode bb_Md_logNodesUp 44 = .ok (.ireturn, 1) := by decide +kernel
def zk_Md_logNodesUp : Room := { frames := 0, cells := 0, slots := 0, locals := 0 }
abbrev zA_Md_logNodesUp (p : Program) (l : Launch) (e : Env) (s : State) (m : MethodId) (args : Array Value) (below : List Frame) (meth : Method) (c : Code) (G : zs_G) (Q : zs_Q) (pc : Nat) (P : zs_P) : Prop := zs_At p l e zk_Md_logNodesUp s m args below meth c (MQ below (zs_Qc G Q) args s 0 0 (fun q => zg_z G ≤ q)) G 1 pc P
def zb_Md_logNodesUp_43 (Q : zs_Q) : zs_P := zt_bin (fun x y => x + y) (zt_irt 0 0 Q)
def zb_Md_logNodesUp_42 (Q : zs_Q) : zs_P := zt_psh 1 ((zb_Md_logNodesUp_43 Q))
def zb_Md_logNodesUp_38 (Q : zs_Q) : zs_P := zt_psh 0 ((zb_Md_logNodesUp_43 Q))
def zb_Md_logNodesUp_28 (Q : zs_Q) : zs_P := zt_bin (fun x y => x + y) (zt_ald 0 (zt_gtR 8 1 (zt_psh 2 (zt_xld 101 (zt_if (fun x => x = 0) (zb_Md_logNodesUp_42 Q) (zb_Md_logNodesUp_38 Q))))))
def zb_Md_logNodesUp_27 (Q : zs_Q) : zs_P := zt_psh 1 ((zb_Md_logNodesUp_28 Q))
def zb_Md_logNodesUp_23 (Q : zs_Q) : zs_P := zt_psh 0 ((zb_Md_logNodesUp_28 Q))
def zb_Md_logNodesUp_14 (Q : zs_Q) : zs_P := zt_ald 0 (zt_gtR 8 1 (zt_psh 1 (zt_xld 101 (zt_if (fun x => x = 0) (zb_Md_logNodesUp_27 Q) (zb_Md_logNodesUp_23 Q)))))
def zb_Md_logNodesUp_13 (Q : zs_Q) : zs_P := zt_psh 1 ((zb_Md_logNodesUp_14 Q))
def zb_Md_logNodesUp_9 (Q : zs_Q) : zs_P := zt_psh 0 ((zb_Md_logNodesUp_14 Q))
def zb_Md_logNodesUp_0 (Q : zs_Q) : zs_P := zt_ald 0 (zt_gtR 8 1 (zt_psh 0 (zt_xld 101 (zt_if (fun x => x = 0) (zb_Md_logNodesUp_13 Q) (zb_Md_logNodesUp_9 Q)))))
def zw_Md_logNodesUp : zs_W := fun As σ Q => match As with
  | [a0] => zs_c1 [a0] = true ∧ zb_Md_logNodesUp_0 Q [some a0] [] σ 0 0
  | _ => False
section
variable {p : Program} {l : Launch} {e : Env} {s : State} {m : MethodId} {args : Array Value} {below : List Frame} {meth : Method} {c : Code} {G : zs_G} {Q : zs_Q}
theorem zr_Md_logNodesUp_43 (B : zs_B p s m args meth c G bb_Md_logNodesUp 1 yy_Md_logNodesUp (some .int)) : zA_Md_logNodesUp p l e s m args below meth c G Q 43 (zb_Md_logNodesUp_43 Q) := by
  unfold zb_Md_logNodesUp_43
  refine za_add B.1 dd_Md_logNodesUp_43 ?_
  exact za_irt B.1 0 0 B.2.1 B.2.2.1 dd_Md_logNodesUp_44
theorem zr_Md_logNodesUp_42 (B : zs_B p s m args meth c G bb_Md_logNodesUp 1 yy_Md_logNodesUp (some .int)) : zA_Md_logNodesUp p l e s m args below meth c G Q 42 (zb_Md_logNodesUp_42 Q) := by
  unfold zb_Md_logNodesUp_42
  refine za_ico B.1 1 dd_Md_logNodesUp_42 (by decide) ?_
  exact (zr_Md_logNodesUp_43 B)
theorem zr_Md_logNodesUp_38 (B : zs_B p s m args meth c G bb_Md_logNodesUp 1 yy_Md_logNodesUp (some .int)) : zA_Md_logNodesUp p l e s m args below meth c G Q 38 (zb_Md_logNodesUp_38 Q) := by
  unfold zb_Md_logNodesUp_38
  refine za_ico B.1 0 dd_Md_logNodesUp_38 (by decide) ?_
  refine za_goto B.1 43 dd_Md_logNodesUp_39 (by decide) ?_
  exact (zr_Md_logNodesUp_43 B)
theorem zr_Md_logNodesUp_28 (B : zs_B p s m args meth c G bb_Md_logNodesUp 1 yy_Md_logNodesUp (some .int)) : zA_Md_logNodesUp p l e s m args below meth c G Q 28 (zb_Md_logNodesUp_28 Q) := by
  unfold zb_Md_logNodesUp_28
  refine za_add B.1 dd_Md_logNodesUp_28 ?_
  refine za_ald_n B.1 0 dd_Md_logNodesUp_29 rfl ?_
  refine za_gtR B.1 8 1 zi_8 rfl (by decide) (by decide) rfl zW_457 rfl dd_Md_logNodesUp_30 ?_
  refine za_ico B.1 2 dd_Md_logNodesUp_33 (by decide) ?_
  refine za_zald B.1 dd_Md_logNodesUp_34 ?_
  exact za_if_eq B.1 42 dd_Md_logNodesUp_35 (by decide) (zr_Md_logNodesUp_42 B) (zr_Md_logNodesUp_38 B)
theorem zr_Md_logNodesUp_27 (B : zs_B p s m args meth c G bb_Md_logNodesUp 1 yy_Md_logNodesUp (some .int)) : zA_Md_logNodesUp p l e s m args below meth c G Q 27 (zb_Md_logNodesUp_27 Q) := by
  unfold zb_Md_logNodesUp_27
  refine za_ico B.1 1 dd_Md_logNodesUp_27 (by decide) ?_
  exact (zr_Md_logNodesUp_28 B)
theorem zr_Md_logNodesUp_23 (B : zs_B p s m args meth c G bb_Md_logNodesUp 1 yy_Md_logNodesUp (some .int)) : zA_Md_logNodesUp p l e s m args below meth c G Q 23 (zb_Md_logNodesUp_23 Q) := by
  unfold zb_Md_logNodesUp_23
  refine za_ico B.1 0 dd_Md_logNodesUp_23 (by decide) ?_
  refine za_goto B.1 28 dd_Md_logNodesUp_24 (by decide) ?_
  exact (zr_Md_logNodesUp_28 B)
theorem zr_Md_logNodesUp_14 (B : zs_B p s m args meth c G bb_Md_logNodesUp 1 yy_Md_logNodesUp (some .int)) : zA_Md_logNodesUp p l e s m args below meth c G Q 14 (zb_Md_logNodesUp_14 Q) := by
  unfold zb_Md_logNodesUp_14
  refine za_ald_n B.1 0 dd_Md_logNodesUp_14 rfl ?_
  refine za_gtR B.1 8 1 zi_8 rfl (by decide) (by decide) rfl zW_457 rfl dd_Md_logNodesUp_15 ?_
  refine za_ico B.1 1 dd_Md_logNodesUp_18 (by decide) ?_
  refine za_zald B.1 dd_Md_logNodesUp_19 ?_
  exact za_if_eq B.1 27 dd_Md_logNodesUp_20 (by decide) (zr_Md_logNodesUp_27 B) (zr_Md_logNodesUp_23 B)
theorem zr_Md_logNodesUp_13 (B : zs_B p s m args meth c G bb_Md_logNodesUp 1 yy_Md_logNodesUp (some .int)) : zA_Md_logNodesUp p l e s m args below meth c G Q 13 (zb_Md_logNodesUp_13 Q) := by
  unfold zb_Md_logNodesUp_13
  refine za_ico B.1 1 dd_Md_logNodesUp_13 (by decide) ?_
  exact (zr_Md_logNodesUp_14 B)
theorem zr_Md_logNodesUp_9 (B : zs_B p s m args meth c G bb_Md_logNodesUp 1 yy_Md_logNodesUp (some .int)) : zA_Md_logNodesUp p l e s m args below meth c G Q 9 (zb_Md_logNodesUp_9 Q) := by
  unfold zb_Md_logNodesUp_9
  refine za_ico B.1 0 dd_Md_logNodesUp_9 (by decide) ?_
  refine za_goto B.1 14 dd_Md_logNodesUp_10 (by decide) ?_
  exact (zr_Md_logNodesUp_14 B)
theorem zr_Md_logNodesUp_0 (B : zs_B p s m args meth c G bb_Md_logNodesUp 1 yy_Md_logNodesUp (some .int)) : zA_Md_logNodesUp p l e s m args below meth c G Q 0 (zb_Md_logNodesUp_0 Q) := by
  unfold zb_Md_logNodesUp_0
  refine za_ald_n B.1 0 dd_Md_logNodesUp_0 rfl ?_
  refine za_gtR B.1 8 1 zi_8 rfl (by decide) (by decide) rfl zW_457 rfl dd_Md_logNodesUp_1 ?_
  refine za_ico B.1 0 dd_Md_logNodesUp_4 (by decide) ?_
  refine za_zald B.1 dd_Md_logNodesUp_5 ?_
  exact za_if_eq B.1 13 dd_Md_logNodesUp_6 (by decide) (zr_Md_logNodesUp_13 B) (zr_Md_logNodesUp_9 B)
end
theorem zm_Md_logNodesUp (l : Launch) (G : zs_G) (As : List Value) (σ : zs_S) (Q : zs_Q) (h : zw_Md_logNodesUp As σ Q) : zs_Met l yy_Md_logNodesUp (Cond.code yy_Md_logNodesUp bb_Md_logNodesUp 1 (some .int) :: zw_all) zk_Md_logNodesUp G As σ Q 0 0 := by
  unfold zw_Md_logNodesUp at h
  split at h
  · exact zs_enter (by decide +kernel) h.1 (Nat.le_of_ble_eq_true rfl) h.2 (fun p e s m args below meth c B => zr_Md_logNodesUp_0 B)
  · exact h.elim
-- SequencedBatchesModel.again(I)V
theorem dd_Md_again_0 : decode bb_Md_again 0 = .ok (.aload_n 0, 1) := by decide +kernel
theorem dd_Md_again_1 : decode bb_Md_again 1 = .ok (.getfield 35, 3) := by decide +kernel
theorem dd_Md_again_4 : decode bb_Md_again 4 = .ok (.iload_n 1, 1) := by decide +kernel
theorem dd_Md_again_5 : decode bb_Md_again 5 = .ok (.dup2, 1) := by decide +kernel
theorem dd_Md_again_6 : decode bb_Md_again 6 = .ok (.iaload, 1) := by decide +kernel
theorem dd_Md_again_7 : decode bb_Md_again 7 = .ok (.iconst 1, 1) := by decide +kernel
theorem dd_Md_again_8 : decode bb_Md_again 8 = .ok (.iadd, 1) := by decide +kernel
theorem dd_Md_again_9 : decode bb_Md_again 9 = .ok (.iastore, 1) := by decide +kernel
theorem dd_Md_again_10 : decode bb_Md_again 10 = .ok (.iconst 0, 1) := by decide +kernel
theorem dd_Md_again_11 : decode bb_Md_again 11 = .ok (.istore_n 2, 1) := by decide +kernel
theorem dd_Md_again_12 : decode bb_Md_again 12 = .ok (.iload_n 2, 1) := by decide +kernel
theorem dd_Md_again_13 : decode bb_Md_again 13 = .ok (.iconst 3, 1) := by decide +kernel
theorem dd_Md_again_14 : decode bb_Md_again 14 = .ok (.if_icmp .ge 47, 3) := by decide +kernel
theorem dd_Md_again_17 : decode bb_Md_again 17 = .ok (.aload_n 0, 1) := by decide +kernel
theorem dd_Md_again_18 : decode bb_Md_again 18 = .ok (.getfield 50, 3) := by decide +kernel
theorem dd_Md_again_21 : decode bb_Md_again 21 = .ok (.iconst 2, 1) := by decide +kernel
theorem dd_Md_again_22 : decode bb_Md_again 22 = .ok (.iload_n 2, 1) := by decide +kernel
theorem dd_Md_again_23 : decode bb_Md_again 23 = .ok (.imul, 1) := by decide +kernel
theorem dd_Md_again_24 : decode bb_Md_again 24 = .ok (.iload_n 1, 1) := by decide +kernel
theorem dd_Md_again_25 : decode bb_Md_again 25 = .ok (.iadd, 1) := by decide +kernel
theorem dd_Md_again_26 : decode bb_Md_again 26 = .ok (.aload_n 0, 1) := by decide +kernel
theorem dd_Md_again_27 : decode bb_Md_again 27 = .ok (.getfield 7, 3) := by decide +kernel
theorem dd_Md_again_30 : decode bb_Md_again 30 = .ok (.iload_n 2, 1) := by decide +kernel
theorem dd_Md_again_31 : decode bb_Md_again 31 = .ok (.baload, 1) := by decide +kernel
theorem dd_Md_again_32 : decode bb_Md_again 32 = .ok (.ifCond .eq 16, 3) := by decide +kernel
theorem dd_Md_again_35 : decode bb_Md_again 35 = .ok (.aload_n 0, 1) := by decide +kernel
theorem dd_Md_again_36 : decode bb_Md_again 36 = .ok (.getfield 50, 3) := by decide +kernel
theorem dd_Md_again_39 : decode bb_Md_again 39 = .ok (.iconst 2, 1) := by decide +kernel
theorem dd_Md_again_40 : decode bb_Md_again 40 = .ok (.iload_n 2, 1) := by decide +kernel
theorem dd_Md_again_41 : decode bb_Md_again 41 = .ok (.imul, 1) := by decide +kernel
theorem dd_Md_again_42 : decode bb_Md_again 42 = .ok (.iload_n 1, 1) := by decide +kernel
theorem dd_Md_again_43 : decode bb_Md_again 43 = .ok (.iadd, 1) := by decide +kernel
theorem dd_Md_again_44 : decode bb_Md_again 44 = .ok (.iaload, 1) := by decide +kernel
theorem dd_Md_again_45 : decode bb_Md_again 45 = .ok (.goto 9, 3) := by decide +kernel
theorem dd_Md_again_48 : decode bb_Md_again 48 = .ok (.aload_n 0, 1) := by decide +kernel
theorem dd_Md_again_49 : decode bb_Md_again 49 = .ok (.getfield 35, 3) := by decide +kernel
theorem dd_Md_again_52 : decode bb_Md_again 52 = .ok (.iload_n 1, 1) := by decide +kernel
theorem dd_Md_again_53 : decode bb_Md_again 53 = .ok (.iaload, 1) := by decide +kernel
theorem dd_Md_again_54 : decode bb_Md_again 54 = .ok (.iastore, 1) := by decide +kernel
theorem dd_Md_again_55 : decode bb_Md_again 55 = .ok (.iinc 2 1, 3) := by decide +kernel
theorem dd_Md_again_58 : decode bb_Md_again 58 = .ok (.goto (-46), 3) := by decide +kernel
theorem dd_Md_again_61 : decode bb_Md_again 61 = .ok (.bipush 20, 2) := by decide +kernel
theorem dd_Md_again_63 : decode bb_Md_again 63 = .ok (.iload_n 1, 1) := by decide +kernel
theorem dd_Md_again_64 : decode bb_Md_again 64 = .ok (.imul, 1) := by decide +kernel
theorem dd_Md_again_65 : decode bb_Md_again 65 = .ok (.istore_n 2, 1) := by decide +kernel
theorem dd_Md_again_66 : decode bb_Md_again 66 = .ok (.iload_n 2, 1) := by decide +kernel
theorem dd_Md_again_67 : decode bb_Md_again 67 = .ok (.bipush 20, 2) := by decide +kernel
theorem dd_Md_again_69 : decode bb_Md_again 69 = .ok (.iload_n 1, 1) := by decide +kernel
theorem dd_Md_again_70 : decode bb_Md_again 70 = .ok (.imul, 1) := by decide +kernel
theorem dd_Md_again_71 : decode bb_Md_again 71 = .ok (.aload_n 0, 1) := by decide +kernel
theorem dd_Md_again_72 : decode bb_Md_again 72 = .ok (.getfield 32, 3) := by decide +kernel
theorem dd_Md_again_75 : decode bb_Md_again 75 = .ok (.iload_n 1, 1) := by decide +kernel
theorem dd_Md_again_76 : decode bb_Md_again 76 = .ok (.iaload, 1) := by decide +kernel
theorem dd_Md_again_77 : decode bb_Md_again 77 = .ok (.iadd, 1) := by decide +kernel
theorem dd_Md_again_78 : decode bb_Md_again 78 = .ok (.if_icmp .ge 113, 3) := by decide +kernel
theorem dd_Md_again_81 : decode bb_Md_again 81 = .ok (.aload_n 0, 1) := by decide +kernel
theorem dd_Md_again_82 : decode bb_Md_again 82 = .ok (.getfield 41, 3) := by decide +kernel
theorem dd_Md_again_85 : decode bb_Md_again 85 = .ok (.iload_n 2, 1) := by decide +kernel
theorem dd_Md_again_86 : decode bb_Md_again 86 = .ok (.iaload, 1) := by decide +kernel
theorem dd_Md_again_87 : decode bb_Md_again 87 = .ok (.ifCond .ne 98, 3) := by decide +kernel
theorem dd_Md_again_90 : decode bb_Md_again 90 = .ok (.iconst 1, 1) := by decide +kernel
theorem dd_Md_again_91 : decode bb_Md_again 91 = .ok (.istore_n 3, 1) := by decide +kernel
theorem dd_Md_again_92 : decode bb_Md_again 92 = .ok (.iconst 0, 1) := by decide +kernel
theorem dd_Md_again_93 : decode bb_Md_again 93 = .ok (.istore 4, 2) := by decide +kernel
theorem dd_Md_again_95 : decode bb_Md_again 95 = .ok (.iload 4, 2) := by decide +kernel
theorem dd_Md_again_97 : decode bb_Md_again 97 = .ok (.iconst 3, 1) := by decide +kernel
theorem dd_Md_again_98 : decode bb_Md_again 98 = .ok (.if_icmp .ge 56, 3) := by decide +kernel
theorem dd_Md_again_101 : decode bb_Md_again 101 = .ok (.aload_n 0, 1) := by decide +kernel
theorem dd_Md_again_102 : decode bb_Md_again 102 = .ok (.getfield 7, 3) := by decide +kernel
theorem dd_Md_again_105 : decode bb_Md_again 105 = .ok (.iload 4, 2) := by decide +kernel
theorem dd_Md_again_107 : decode bb_Md_again 107 = .ok (.baload, 1) := by decide +kernel
theorem dd_Md_again_108 : decode bb_Md_again 108 = .ok (.ifCond .ne 38, 3) := by decide +kernel
theorem dd_Md_again_111 : decode bb_Md_again 111 = .ok (.aload_n 0, 1) := by decide +kernel
theorem dd_Md_again_112 : decode bb_Md_again 112 = .ok (.getfield 47, 3) := by decide +kernel
theorem dd_Md_again_115 : decode bb_Md_again 115 = .ok (.bipush 40, 2) := by decide +kernel
theorem dd_Md_again_117 : decode bb_Md_again 117 = .ok (.iload 4, 2) := by decide +kernel
theorem dd_Md_again_119 : decode bb_Md_again 119 = .ok (.imul, 1) := by decide +kernel
theorem dd_Md_again_120 : decode bb_Md_again 120 = .ok (.iload_n 2, 1) := by decide +kernel
theorem dd_Md_again_121 : decode bb_Md_again 121 = .ok (.iadd, 1) := by decide +kernel
theorem dd_Md_again_122 : decode bb_Md_again 122 = .ok (.iaload, 1) := by decide +kernel
theorem dd_Md_again_123 : decode bb_Md_again 123 = .ok (.iconst 2, 1) := by decide +kernel
theorem dd_Md_again_124 : decode bb_Md_again 124 = .ok (.idiv, 1) := by decide +kernel
theorem dd_Md_again_125 : decode bb_Md_again 125 = .ok (.iload_n 3, 1) := by decide +kernel
theorem dd_Md_again_126 : decode bb_Md_again 126 = .ok (.iconst 2, 1) := by decide +kernel
theorem dd_Md_again_127 : decode bb_Md_again 127 = .ok (.idiv, 1) := by decide +kernel
theorem dd_Md_again_128 : decode bb_Md_again 128 = .ok (.if_icmp .le 18, 3) := by decide +kernel
theorem dd_Md_again_131 : decode bb_Md_again 131 = .ok (.aload_n 0, 1) := by decide +kernel
theorem dd_Md_again_132 : decode bb_Md_again 132 = .ok (.getfield 47, 3) := by decide +kernel
theorem dd_Md_again_135 : decode bb_Md_again 135 = .ok (.bipush 40, 2) := by decide +kernel
theorem dd_Md_again_137 : decode bb_Md_again 137 = .ok (.iload 4, 2) := by decide +kernel
theorem dd_Md_again_139 : decode bb_Md_again 139 = .ok (.imul, 1) := by decide +kernel
theorem dd_Md_again_140 : decode bb_Md_again 140 = .ok (.iload_n 2, 1) := by decide +kernel
theorem dd_Md_again_141 : decode bb_Md_again 141 = .ok (.iadd, 1) := by decide +kernel
theorem dd_Md_again_142 : decode bb_Md_again 142 = .ok (.iaload, 1) := by decide +kernel
theorem dd_Md_again_143 : decode bb_Md_again 143 = .ok (.goto 4, 3) := by decide +kernel
theorem dd_Md_again_146 : decode bb_Md_again 146 = .ok (.iload_n 3, 1) := by decide +kernel
theorem dd_Md_again_147 : decode bb_Md_again 147 = .ok (.istore_n 3, 1) := by decide +kernel
theorem dd_Md_again_148 : decode bb_Md_again 148 = .ok (.iinc 4 1, 3) := by decide +kernel
theorem dd_Md_again_151 : decode bb_Md_again 151 = .ok (.goto (-56), 3) := by decide +kernel
theorem dd_Md_again_154 : decode bb_Md_again 154 = .ok (.aload_n 0, 1) := by decide +kernel
theorem dd_Md_again_155 : decode bb_Md_again 155 = .ok (.getfield 38, 3) := by decide +kernel
theorem dd_Md_again_158 : decode bb_Md_again 158 = .ok (.iload_n 2, 1) := by decide +kernel
theorem dd_Md_again_159 : decode bb_Md_again 159 = .ok (.iload_n 3, 1) := by decide +kernel
theorem dd_Md_again_160 : decode bb_Md_again 160 = .ok (.iconst 2, 1) := by decide +kernel
theorem dd_Md_again_161 : decode bb_Md_again 161 = .ok (.irem, 1) := by decide +kernel
theorem dd_Md_again_162 : decode bb_Md_again 162 = .ok (.iconst 1, 1) := by decide +kernel
theorem dd_Md_again_163 : decode bb_Md_again 163 = .ok (.if_icmp .ne 7, 3) := by decide +kernel
theorem dd_Md_again_166 : decode bb_Md_again 166 = .ok (.iconst 1, 1) := by decide +kernel
theorem dd_Md_again_167 : decode bb_Md_again 167 = .ok (.goto 4, 3) := by decide +kernel
theorem dd_Md_again_170 : decode bb_Md_again 170 = .ok (.iconst 0, 1) := by decide +kernel
theorem dd_Md_again_171 : decode bb_Md_again 171 = .ok (.bastore, 1) := by decide +kernel
theorem dd_Md_again_172 : decode bb_Md_again 172 = .ok (.aload_n 0, 1) := by decide +kernel
theorem dd_Md_again_173 : decode bb_Md_again 173 = .ok (.getfield 44, 3) := by decide +kernel
theorem dd_Md_again_176 : decode bb_Md_again 176 = .ok (.iload_n 2, 1) := by decide +kernel
theorem dd_Md_again_177 : decode bb_Md_again 177 = .ok (.iconst 0, 1) := by decide +kernel
theorem dd_Md_again_178 : decode bb_Md_again 178 = .ok (.iastore, 1) := by decide +kernel
theorem dd_Md_again_179 : decode bb_Md_again 179 = .ok (.aload_n 0, 1) := by decide +kernel
theorem dd_Md_again_180 : decode bb_Md_again 180 = .ok (.iload_n 2, 1) := by decide +kernel
theorem dd_Md_again_181 : decode bb_Md_again 181 = .ok (.invokevirtual 165, 3) := by decide +kernel
theorem dd_Md_again_184 : decode bb_Md_again 184 = .ok (.pop, 1) := by decide +kernel
theorem dd_Md_again_185 : decode bb_Md_again 185 = .ok (.iinc 2 1, 3) := by decide +kernel
theorem dd_Md_again_188 : decode bb_Md_again 188 = .ok (.goto (-122), 3) := by decide +kernel
theorem dd_Md_again_191 : decode bb_Md_again 191 = .ok (.return_, 1) := by decide +kernel
def zk_Md_again : Room := { frames := 2, cells := 0, slots := 0, locals := 48 }
abbrev zA_Md_again (p : Program) (l : Launch) (e : Env) (s : State) (m : MethodId) (args : Array Value) (below : List Frame) (meth : Method) (c : Code) (G : zs_G) (Q : zs_Q) (pc : Nat) (P : zs_P) : Prop := zs_At p l e zk_Md_again s m args below meth c (MQ below (zs_Qc G Q) args s 0 0 (fun q => zg_z G ≤ q)) G 5 pc P
def zb_Md_again_191 (Q : zs_Q) : zs_P := zt_vrt 0 0 Q
def zb_Md_again_185 (Q : zs_Q) (K66 : zs_P) : zs_P := zt_inc 2 1 (K66)
def zb_Md_again_171 (Q : zs_Q) (K66 : zs_P) : zs_P := zt_zas (zt_ald 0 (zt_gtR 8 13 (zt_ild 2 (zt_psh 0 (zt_ias (zt_ald 0 (zt_ild 2 (zt_cav 8 zw_Md_spread (1 + 1) 0 0 0 0 (zt_pop ((zb_Md_again_185 Q K66)))))))))))
def zb_Md_again_170 (Q : zs_Q) (K66 : zs_P) : zs_P := zt_psh 0 ((zb_Md_again_171 Q K66))
def zb_Md_again_166 (Q : zs_Q) (K66 : zs_P) : zs_P := zt_psh 1 ((zb_Md_again_171 Q K66))
def zb_Md_again_154 (Q : zs_Q) (K66 : zs_P) : zs_P := zt_ald 0 (zt_gtR 8 11 (zt_ild 2 (zt_ild 3 (zt_psh 2 (zt_div (fun x y => x - x / y * y) (zt_psh 1 (zt_cmp (fun x y => x = y) (zb_Md_again_166 Q K66) (zb_Md_again_170 Q K66))))))))
def zb_Md_again_147 (Q : zs_Q) (K66 : zs_P) (K95 : zs_P) : zs_P := zt_ist 3 (zt_inc 4 1 (K95))
def zb_Md_again_146 (Q : zs_Q) (K66 : zs_P) (K95 : zs_P) : zs_P := zt_ild 3 ((zb_Md_again_147 Q K66 K95))
def zb_Md_again_131 (Q : zs_Q) (K66 : zs_P) (K95 : zs_P) : zs_P := zt_ald 0 (zt_gtR 8 14 (zt_psh 40 (zt_ild 4 (zt_bin (fun x y => x * y) (zt_ild 2 (zt_bin (fun x y => x + y) (zt_xld 100 ((zb_Md_again_147 Q K66 K95)))))))))
def zb_Md_again_111 (Q : zs_Q) (K66 : zs_P) (K95 : zs_P) : zs_P := zt_ald 0 (zt_gtR 8 14 (zt_psh 40 (zt_ild 4 (zt_bin (fun x y => x * y) (zt_ild 2 (zt_bin (fun x y => x + y) (zt_xld 100 (zt_psh 2 (zt_div (fun x y => x / y) (zt_ild 3 (zt_psh 2 (zt_div (fun x y => x / y) (zt_cmp (fun x y => x ≤ y) (zb_Md_again_146 Q K66 K95) (zb_Md_again_131 Q K66 K95))))))))))))))
def zb_Md_again_101 (Q : zs_Q) (K66 : zs_P) (K95 : zs_P) : zs_P := zt_ald 0 (zt_gtR 8 1 (zt_ild 4 (zt_xld 101 (zt_if (fun x => x = 0) (zb_Md_again_111 Q K66 K95) (zb_Md_again_146 Q K66 K95)))))
def zb_Md_again_95 (Q : zs_Q) (K66 : zs_P) (K95 : zs_P) : zs_P := zt_ild 4 (zt_psh 3 (zt_cmp (fun x y => y ≤ x) (zb_Md_again_154 Q K66) (zb_Md_again_101 Q K66 K95)))
def zl_Md_again_95 (Q : zs_Q) (K66 : zs_P) : zs_P := zt_ex (zb_Md_again_95 Q K66)
def zb_Md_again_90 (Q : zs_Q) (K66 : zs_P) : zs_P := zt_psh 1 (zt_ist 3 (zt_psh 0 (zt_ist 4 ((zl_Md_again_95 Q K66)))))
def zb_Md_again_81 (Q : zs_Q) (K66 : zs_P) : zs_P := zt_ald 0 (zt_gtR 8 12 (zt_ild 2 (zt_xld 100 (zt_if (fun x => x = 0) (zb_Md_again_90 Q K66) (zb_Md_again_185 Q K66)))))
def zb_Md_again_66 (Q : zs_Q) (K66 : zs_P) : zs_P := zt_ild 2 (zt_psh 20 (zt_ild 1 (zt_bin (fun x y => x * y) (zt_ald 0 (zt_gtR 8 9 (zt_ild 1 (zt_xld 100 (zt_bin (fun x y => x + y) (zt_cmp (fun x y => y ≤ x) (zb_Md_again_191 Q) (zb_Md_again_81 Q K66))))))))))
def zl_Md_again_66 (Q : zs_Q) : zs_P := zt_ex (zb_Md_again_66 Q)
def zb_Md_again_61 (Q : zs_Q) : zs_P := zt_psh 20 (zt_ild 1 (zt_bin (fun x y => x * y) (zt_ist 2 ((zl_Md_again_66 Q)))))
def zb_Md_again_54 (Q : zs_Q) (K12 : zs_P) : zs_P := zt_ias (zt_inc 2 1 (K12))
def zb_Md_again_48 (Q : zs_Q) (K12 : zs_P) : zs_P := zt_ald 0 (zt_gtR 8 10 (zt_ild 1 (zt_xld 100 ((zb_Md_again_54 Q K12)))))
def zb_Md_again_35 (Q : zs_Q) (K12 : zs_P) : zs_P := zt_ald 0 (zt_gtR 8 15 (zt_psh 2 (zt_ild 2 (zt_bin (fun x y => x * y) (zt_ild 1 (zt_bin (fun x y => x + y) (zt_xld 100 ((zb_Md_again_54 Q K12)))))))))
def zb_Md_again_17 (Q : zs_Q) (K12 : zs_P) : zs_P := zt_ald 0 (zt_gtR 8 15 (zt_psh 2 (zt_ild 2 (zt_bin (fun x y => x * y) (zt_ild 1 (zt_bin (fun x y => x + y) (zt_ald 0 (zt_gtR 8 1 (zt_ild 2 (zt_xld 101 (zt_if (fun x => x = 0) (zb_Md_again_48 Q K12) (zb_Md_again_35 Q K12))))))))))))
def zb_Md_again_12 (Q : zs_Q) (K12 : zs_P) : zs_P := zt_ild 2 (zt_psh 3 (zt_cmp (fun x y => y ≤ x) (zb_Md_again_61 Q) (zb_Md_again_17 Q K12)))
def zl_Md_again_12 (Q : zs_Q) : zs_P := zt_ex (zb_Md_again_12 Q)
def zb_Md_again_0 (Q : zs_Q) : zs_P := zt_ald 0 (zt_gtR 8 10 (zt_ild 1 (zt_du2 (zt_xld 100 (zt_psh 1 (zt_bin (fun x y => x + y) (zt_ias (zt_psh 0 (zt_ist 2 ((zl_Md_again_12 Q)))))))))))
def zw_Md_again : zs_W := fun As σ Q => match As with
  | [a0, a1] => zs_c1 [a0, a1] = true ∧ zb_Md_again_0 Q [some a0, some a1, none, none, none] [] σ 0 0
  | _ => False
section
variable {p : Program} {l : Launch} {e : Env} {s : State} {m : MethodId} {args : Array Value} {below : List Frame} {meth : Method} {c : Code} {G : zs_G} {Q : zs_Q}
theorem zr_Md_again_191 (B : zs_B p s m args meth c G bb_Md_again 5 yy_Md_again none) : zA_Md_again p l e s m args below meth c G Q 191 (zb_Md_again_191 Q) := by
  unfold zb_Md_again_191
  exact za_vrt B.1 0 0 B.2.1 B.2.2.1 dd_Md_again_191
theorem zr_Md_again_185 (B : zs_B p s m args meth c G bb_Md_again 5 yy_Md_again none) {K66 : zs_P} (h66 : zA_Md_again p l e s m args below meth c G Q 66 K66) : zA_Md_again p l e s m args below meth c G Q 185 (zb_Md_again_185 Q K66) := by
  unfold zb_Md_again_185
  refine za_inc B.1 1 dd_Md_again_185 (by decide) (by decide) ?_
  refine za_goto B.1 66 dd_Md_again_188 (by decide) ?_
  exact h66
theorem zr_Md_again_171 (B : zs_B p s m args meth c G bb_Md_again 5 yy_Md_again none) {K66 : zs_P} (h66 : zA_Md_again p l e s m args below meth c G Q 66 K66) : zA_Md_again p l e s m args below meth c G Q 171 (zb_Md_again_171 Q K66) := by
  unfold zb_Md_again_171
  refine za_zast B.1 dd_Md_again_171 ?_
  refine za_ald_n B.1 0 dd_Md_again_172 rfl ?_
  refine za_gtR B.1 8 13 zi_8 rfl (by decide) (by decide) rfl zW_469 rfl dd_Md_again_173 ?_
  refine za_ild_n B.1 2 dd_Md_again_176 rfl ?_
  refine za_ico B.1 0 dd_Md_again_177 (by decide) ?_
  refine za_iast B.1 dd_Md_again_178 ?_
  refine za_ald_n B.1 0 dd_Md_again_179 rfl ?_
  refine za_ild_n B.1 2 dd_Md_again_180 rfl ?_
  refine za_cV B.1 8 1 0 0 0 0 rfl rfl rfl (by decide) (zm_Md_spread l G) ⟨callB_of 1 B.1.1.2.2.2.2 (zs_good zW_575) rfl rfl rfl (B.1.1.2.2.2.2 _ zW_8) (B.1.1.2.2.2.2 _ zW_573) (by decide +kernel) ⟨by decide, by decide⟩, (B.1.1.2.2.2.2 _ zW_574), (B.1.1.2.2.2.2 _ zW_690)⟩ dd_Md_again_181 ?_
  refine za_pop B.1 dd_Md_again_184 ?_
  exact (zr_Md_again_185 B h66)
theorem zr_Md_again_170 (B : zs_B p s m args meth c G bb_Md_again 5 yy_Md_again none) {K66 : zs_P} (h66 : zA_Md_again p l e s m args below meth c G Q 66 K66) : zA_Md_again p l e s m args below meth c G Q 170 (zb_Md_again_170 Q K66) := by
  unfold zb_Md_again_170
  refine za_ico B.1 0 dd_Md_again_170 (by decide) ?_
  exact (zr_Md_again_171 B h66)
theorem zr_Md_again_166 (B : zs_B p s m args meth c G bb_Md_again 5 yy_Md_again none) {K66 : zs_P} (h66 : zA_Md_again p l e s m args below meth c G Q 66 K66) : zA_Md_again p l e s m args below meth c G Q 166 (zb_Md_again_166 Q K66) := by
  unfold zb_Md_again_166
  refine za_ico B.1 1 dd_Md_again_166 (by decide) ?_
  refine za_goto B.1 171 dd_Md_again_167 (by decide) ?_
  exact (zr_Md_again_171 B h66)
theorem zr_Md_again_154 (B : zs_B p s m args meth c G bb_Md_again 5 yy_Md_again none) {K66 : zs_P} (h66 : zA_Md_again p l e s m args below meth c G Q 66 K66) : zA_Md_again p l e s m args below meth c G Q 154 (zb_Md_again_154 Q K66) := by
  unfold zb_Md_again_154
  refine za_ald_n B.1 0 dd_Md_again_154 rfl ?_
  refine za_gtR B.1 8 11 zi_8 rfl (by decide) (by decide) rfl zW_467 rfl dd_Md_again_155 ?_
  refine za_ild_n B.1 2 dd_Md_again_158 rfl ?_
  refine za_ild_n B.1 3 dd_Md_again_159 rfl ?_
  refine za_ico B.1 2 dd_Md_again_160 (by decide) ?_
  refine za_rem B.1 dd_Md_again_161 ?_
  refine za_ico B.1 1 dd_Md_again_162 (by decide) ?_
  exact za_cmp_ne B.1 170 dd_Md_again_163 (by decide) (zr_Md_again_166 B h66) (zr_Md_again_170 B h66)
theorem zr_Md_again_147 (B : zs_B p s m args meth c G bb_Md_again 5 yy_Md_again none) {K66 : zs_P} (h66 : zA_Md_again p l e s m args below meth c G Q 66 K66) {K95 : zs_P} (h95 : zA_Md_again p l e s m args below meth c G Q 95 K95) : zA_Md_again p l e s m args below meth c G Q 147 (zb_Md_again_147 Q K66 K95) := by
  unfold zb_Md_again_147
  refine za_ist_n B.1 3 dd_Md_again_147 rfl (by decide) ?_
  refine za_inc B.1 1 dd_Md_again_148 (by decide) (by decide) ?_
  refine za_goto B.1 95 dd_Md_again_151 (by decide) ?_
  exact h95
theorem zr_Md_again_146 (B : zs_B p s m args meth c G bb_Md_again 5 yy_Md_again none) {K66 : zs_P} (h66 : zA_Md_again p l e s m args below meth c G Q 66 K66) {K95 : zs_P} (h95 : zA_Md_again p l e s m args below meth c G Q 95 K95) : zA_Md_again p l e s m args below meth c G Q 146 (zb_Md_again_146 Q K66 K95) := by
  unfold zb_Md_again_146
  refine za_ild_n B.1 3 dd_Md_again_146 rfl ?_
  exact (zr_Md_again_147 B h66 h95)
theorem zr_Md_again_131 (B : zs_B p s m args meth c G bb_Md_again 5 yy_Md_again none) {K66 : zs_P} (h66 : zA_Md_again p l e s m args below meth c G Q 66 K66) {K95 : zs_P} (h95 : zA_Md_again p l e s m args below meth c G Q 95 K95) : zA_Md_again p l e s m args below meth c G Q 131 (zb_Md_again_131 Q K66 K95) := by
  unfold zb_Md_again_131
  refine za_ald_n B.1 0 dd_Md_again_131 rfl ?_
  refine za_gtR B.1 8 14 zi_8 rfl (by decide) (by decide) rfl zW_470 rfl dd_Md_again_132 ?_
  refine za_bip B.1 40 dd_Md_again_135 (by decide) ?_
  refine za_ild B.1 dd_Md_again_137 ?_
  refine za_mul B.1 dd_Md_again_139 ?_
  refine za_ild_n B.1 2 dd_Md_again_140 rfl ?_
  refine za_add B.1 dd_Md_again_141 ?_
  refine za_iald B.1 dd_Md_again_142 ?_
  refine za_goto B.1 147 dd_Md_again_143 (by decide) ?_
  exact (zr_Md_again_147 B h66 h95)
theorem zr_Md_again_111 (B : zs_B p s m args meth c G bb_Md_again 5 yy_Md_again none) {K66 : zs_P} (h66 : zA_Md_again p l e s m args below meth c G Q 66 K66) {K95 : zs_P} (h95 : zA_Md_again p l e s m args below meth c G Q 95 K95) : zA_Md_again p l e s m args below meth c G Q 111 (zb_Md_again_111 Q K66 K95) := by
  unfold zb_Md_again_111
  refine za_ald_n B.1 0 dd_Md_again_111 rfl ?_
  refine za_gtR B.1 8 14 zi_8 rfl (by decide) (by decide) rfl zW_470 rfl dd_Md_again_112 ?_
  refine za_bip B.1 40 dd_Md_again_115 (by decide) ?_
  refine za_ild B.1 dd_Md_again_117 ?_
  refine za_mul B.1 dd_Md_again_119 ?_
  refine za_ild_n B.1 2 dd_Md_again_120 rfl ?_
  refine za_add B.1 dd_Md_again_121 ?_
  refine za_iald B.1 dd_Md_again_122 ?_
  refine za_ico B.1 2 dd_Md_again_123 (by decide) ?_
  refine za_dvd B.1 dd_Md_again_124 ?_
  refine za_ild_n B.1 3 dd_Md_again_125 rfl ?_
  refine za_ico B.1 2 dd_Md_again_126 (by decide) ?_
  refine za_dvd B.1 dd_Md_again_127 ?_
  exact za_cmp_le B.1 146 dd_Md_again_128 (by decide) (zr_Md_again_146 B h66 h95) (zr_Md_again_131 B h66 h95)
theorem zr_Md_again_101 (B : zs_B p s m args meth c G bb_Md_again 5 yy_Md_again none) {K66 : zs_P} (h66 : zA_Md_again p l e s m args below meth c G Q 66 K66) {K95 : zs_P} (h95 : zA_Md_again p l e s m args below meth c G Q 95 K95) : zA_Md_again p l e s m args below meth c G Q 101 (zb_Md_again_101 Q K66 K95) := by
  unfold zb_Md_again_101
  refine za_ald_n B.1 0 dd_Md_again_101 rfl ?_
  refine za_gtR B.1 8 1 zi_8 rfl (by decide) (by decide) rfl zW_457 rfl dd_Md_again_102 ?_
  refine za_ild B.1 dd_Md_again_105 ?_
  refine za_zald B.1 dd_Md_again_107 ?_
  exact za_if_ne B.1 146 dd_Md_again_108 (by decide) (zr_Md_again_111 B h66 h95) (zr_Md_again_146 B h66 h95)
theorem zr_Md_again_95 (B : zs_B p s m args meth c G bb_Md_again 5 yy_Md_again none) {K66 : zs_P} (h66 : zA_Md_again p l e s m args below meth c G Q 66 K66) {K95 : zs_P} (h95 : zA_Md_again p l e s m args below meth c G Q 95 K95) : zA_Md_again p l e s m args below meth c G Q 95 (zb_Md_again_95 Q K66 K95) := by
  unfold zb_Md_again_95
  refine za_ild B.1 dd_Md_again_95 ?_
  refine za_ico B.1 3 dd_Md_again_97 (by decide) ?_
  exact za_cmp_ge B.1 154 dd_Md_again_98 (by decide) (zr_Md_again_154 B h66) (zr_Md_again_101 B h66 h95)
theorem zq_Md_again_95 (B : zs_B p s m args meth c G bb_Md_again 5 yy_Md_again none) {K66 : zs_P} (h66 : zA_Md_again p l e s m args below meth c G Q 66 K66) : zA_Md_again p l e s m args below meth c G Q 95 (zl_Md_again_95 Q K66) := za_lop (fun K hK => zr_Md_again_95 B h66 hK)
theorem zr_Md_again_90 (B : zs_B p s m args meth c G bb_Md_again 5 yy_Md_again none) {K66 : zs_P} (h66 : zA_Md_again p l e s m args below meth c G Q 66 K66) : zA_Md_again p l e s m args below meth c G Q 90 (zb_Md_again_90 Q K66) := by
  unfold zb_Md_again_90
  refine za_ico B.1 1 dd_Md_again_90 (by decide) ?_
  refine za_ist_n B.1 3 dd_Md_again_91 rfl (by decide) ?_
  refine za_ico B.1 0 dd_Md_again_92 (by decide) ?_
  refine za_ist B.1 dd_Md_again_93 (by decide) ?_
  exact (zq_Md_again_95 B h66)
theorem zr_Md_again_81 (B : zs_B p s m args meth c G bb_Md_again 5 yy_Md_again none) {K66 : zs_P} (h66 : zA_Md_again p l e s m args below meth c G Q 66 K66) : zA_Md_again p l e s m args below meth c G Q 81 (zb_Md_again_81 Q K66) := by
  unfold zb_Md_again_81
  refine za_ald_n B.1 0 dd_Md_again_81 rfl ?_
  refine za_gtR B.1 8 12 zi_8 rfl (by decide) (by decide) rfl zW_468 rfl dd_Md_again_82 ?_
  refine za_ild_n B.1 2 dd_Md_again_85 rfl ?_
  refine za_iald B.1 dd_Md_again_86 ?_
  exact za_if_ne B.1 185 dd_Md_again_87 (by decide) (zr_Md_again_90 B h66) (zr_Md_again_185 B h66)
theorem zr_Md_again_66 (B : zs_B p s m args meth c G bb_Md_again 5 yy_Md_again none) {K66 : zs_P} (h66 : zA_Md_again p l e s m args below meth c G Q 66 K66) : zA_Md_again p l e s m args below meth c G Q 66 (zb_Md_again_66 Q K66) := by
  unfold zb_Md_again_66
  refine za_ild_n B.1 2 dd_Md_again_66 rfl ?_
  refine za_bip B.1 20 dd_Md_again_67 (by decide) ?_
  refine za_ild_n B.1 1 dd_Md_again_69 rfl ?_
  refine za_mul B.1 dd_Md_again_70 ?_
  refine za_ald_n B.1 0 dd_Md_again_71 rfl ?_
  refine za_gtR B.1 8 9 zi_8 rfl (by decide) (by decide) rfl zW_465 rfl dd_Md_again_72 ?_
  refine za_ild_n B.1 1 dd_Md_again_75 rfl ?_
  refine za_iald B.1 dd_Md_again_76 ?_
  refine za_add B.1 dd_Md_again_77 ?_
  exact za_cmp_ge B.1 191 dd_Md_again_78 (by decide) (zr_Md_again_191 B) (zr_Md_again_81 B h66)
theorem zq_Md_again_66 (B : zs_B p s m args meth c G bb_Md_again 5 yy_Md_again none) : zA_Md_again p l e s m args below meth c G Q 66 (zl_Md_again_66 Q) := za_lop (fun K hK => zr_Md_again_66 B hK)
theorem zr_Md_again_61 (B : zs_B p s m args meth c G bb_Md_again 5 yy_Md_again none) : zA_Md_again p l e s m args below meth c G Q 61 (zb_Md_again_61 Q) := by
  unfold zb_Md_again_61
  refine za_bip B.1 20 dd_Md_again_61 (by decide) ?_
  refine za_ild_n B.1 1 dd_Md_again_63 rfl ?_
  refine za_mul B.1 dd_Md_again_64 ?_
  refine za_ist_n B.1 2 dd_Md_again_65 rfl (by decide) ?_
  exact (zq_Md_again_66 B)
theorem zr_Md_again_54 (B : zs_B p s m args meth c G bb_Md_again 5 yy_Md_again none) {K12 : zs_P} (h12 : zA_Md_again p l e s m args below meth c G Q 12 K12) : zA_Md_again p l e s m args below meth c G Q 54 (zb_Md_again_54 Q K12) := by
  unfold zb_Md_again_54
  refine za_iast B.1 dd_Md_again_54 ?_
  refine za_inc B.1 1 dd_Md_again_55 (by decide) (by decide) ?_
  refine za_goto B.1 12 dd_Md_again_58 (by decide) ?_
  exact h12
theorem zr_Md_again_48 (B : zs_B p s m args meth c G bb_Md_again 5 yy_Md_again none) {K12 : zs_P} (h12 : zA_Md_again p l e s m args below meth c G Q 12 K12) : zA_Md_again p l e s m args below meth c G Q 48 (zb_Md_again_48 Q K12) := by
  unfold zb_Md_again_48
  refine za_ald_n B.1 0 dd_Md_again_48 rfl ?_
  refine za_gtR B.1 8 10 zi_8 rfl (by decide) (by decide) rfl zW_466 rfl dd_Md_again_49 ?_
  refine za_ild_n B.1 1 dd_Md_again_52 rfl ?_
  refine za_iald B.1 dd_Md_again_53 ?_
  exact (zr_Md_again_54 B h12)
theorem zr_Md_again_35 (B : zs_B p s m args meth c G bb_Md_again 5 yy_Md_again none) {K12 : zs_P} (h12 : zA_Md_again p l e s m args below meth c G Q 12 K12) : zA_Md_again p l e s m args below meth c G Q 35 (zb_Md_again_35 Q K12) := by
  unfold zb_Md_again_35
  refine za_ald_n B.1 0 dd_Md_again_35 rfl ?_
  refine za_gtR B.1 8 15 zi_8 rfl (by decide) (by decide) rfl zW_471 rfl dd_Md_again_36 ?_
  refine za_ico B.1 2 dd_Md_again_39 (by decide) ?_
  refine za_ild_n B.1 2 dd_Md_again_40 rfl ?_
  refine za_mul B.1 dd_Md_again_41 ?_
  refine za_ild_n B.1 1 dd_Md_again_42 rfl ?_
  refine za_add B.1 dd_Md_again_43 ?_
  refine za_iald B.1 dd_Md_again_44 ?_
  refine za_goto B.1 54 dd_Md_again_45 (by decide) ?_
  exact (zr_Md_again_54 B h12)
theorem zr_Md_again_17 (B : zs_B p s m args meth c G bb_Md_again 5 yy_Md_again none) {K12 : zs_P} (h12 : zA_Md_again p l e s m args below meth c G Q 12 K12) : zA_Md_again p l e s m args below meth c G Q 17 (zb_Md_again_17 Q K12) := by
  unfold zb_Md_again_17
  refine za_ald_n B.1 0 dd_Md_again_17 rfl ?_
  refine za_gtR B.1 8 15 zi_8 rfl (by decide) (by decide) rfl zW_471 rfl dd_Md_again_18 ?_
  refine za_ico B.1 2 dd_Md_again_21 (by decide) ?_
  refine za_ild_n B.1 2 dd_Md_again_22 rfl ?_
  refine za_mul B.1 dd_Md_again_23 ?_
  refine za_ild_n B.1 1 dd_Md_again_24 rfl ?_
  refine za_add B.1 dd_Md_again_25 ?_
  refine za_ald_n B.1 0 dd_Md_again_26 rfl ?_
  refine za_gtR B.1 8 1 zi_8 rfl (by decide) (by decide) rfl zW_457 rfl dd_Md_again_27 ?_
  refine za_ild_n B.1 2 dd_Md_again_30 rfl ?_
  refine za_zald B.1 dd_Md_again_31 ?_
  exact za_if_eq B.1 48 dd_Md_again_32 (by decide) (zr_Md_again_48 B h12) (zr_Md_again_35 B h12)
theorem zr_Md_again_12 (B : zs_B p s m args meth c G bb_Md_again 5 yy_Md_again none) {K12 : zs_P} (h12 : zA_Md_again p l e s m args below meth c G Q 12 K12) : zA_Md_again p l e s m args below meth c G Q 12 (zb_Md_again_12 Q K12) := by
  unfold zb_Md_again_12
  refine za_ild_n B.1 2 dd_Md_again_12 rfl ?_
  refine za_ico B.1 3 dd_Md_again_13 (by decide) ?_
  exact za_cmp_ge B.1 61 dd_Md_again_14 (by decide) (zr_Md_again_61 B) (zr_Md_again_17 B h12)
theorem zq_Md_again_12 (B : zs_B p s m args meth c G bb_Md_again 5 yy_Md_again none) : zA_Md_again p l e s m args below meth c G Q 12 (zl_Md_again_12 Q) := za_lop (fun K hK => zr_Md_again_12 B hK)
theorem zr_Md_again_0 (B : zs_B p s m args meth c G bb_Md_again 5 yy_Md_again none) : zA_Md_again p l e s m args below meth c G Q 0 (zb_Md_again_0 Q) := by
  unfold zb_Md_again_0
  refine za_ald_n B.1 0 dd_Md_again_0 rfl ?_
  refine za_gtR B.1 8 10 zi_8 rfl (by decide) (by decide) rfl zW_466 rfl dd_Md_again_1 ?_
  refine za_ild_n B.1 1 dd_Md_again_4 rfl ?_
  refine za_du2 B.1 dd_Md_again_5 ?_
  refine za_iald B.1 dd_Md_again_6 ?_
  refine za_ico B.1 1 dd_Md_again_7 (by decide) ?_
  refine za_add B.1 dd_Md_again_8 ?_
  refine za_iast B.1 dd_Md_again_9 ?_
  refine za_ico B.1 0 dd_Md_again_10 (by decide) ?_
  refine za_ist_n B.1 2 dd_Md_again_11 rfl (by decide) ?_
  exact (zq_Md_again_12 B)
end
theorem zm_Md_again (l : Launch) (G : zs_G) (As : List Value) (σ : zs_S) (Q : zs_Q) (h : zw_Md_again As σ Q) : zs_Met l yy_Md_again (Cond.code yy_Md_again bb_Md_again 5 none :: zw_all) zk_Md_again G As σ Q 0 0 := by
  unfold zw_Md_again at h
  split at h
  · exact zs_enter (by decide +kernel) h.1 (Nat.le_of_ble_eq_true rfl) h.2 (fun p e s m args below meth c B => zr_Md_again_0 B)
  · exact h.elim
-- SequencedBatchesModel.crash(I)Z
theorem dd_Md_crash_0 : decode bb_Md_crash 0 = .ok (.iload_n 1, 1) := by decide +kernel
theorem dd_Md_crash_1 : decode bb_Md_crash 1 = .ok (.iconst 0, 1) := by decide +kernel
theorem dd_Md_crash_2 : decode bb_Md_crash 2 = .ok (.bipush 6, 2) := by decide +kernel
theorem dd_Md_crash_4 : decode bb_Md_crash 4 = .ok (.invokestatic 111, 3) := by decide +kernel
theorem dd_Md_crash_7 : decode bb_Md_crash 7 = .ok (.ifCond .eq 26, 3) := by decide +kernel
theorem dd_Md_crash_10 : decode bb_Md_crash 10 = .ok (.aload_n 0, 1) := by decide +kernel
theorem dd_Md_crash_11 : decode bb_Md_crash 11 = .ok (.getfield 7, 3) := by decide +kernel
theorem dd_Md_crash_14 : decode bb_Md_crash 14 = .ok (.iload_n 1, 1) := by decide +kernel
theorem dd_Md_crash_15 : decode bb_Md_crash 15 = .ok (.ifCond .lt 9, 3) := by decide +kernel
theorem dd_Md_crash_18 : decode bb_Md_crash 18 = .ok (.iload_n 1, 1) := by decide +kernel
theorem dd_Md_crash_19 : decode bb_Md_crash 19 = .ok (.bipush 6, 2) := by decide +kernel
theorem dd_Md_crash_21 : decode bb_Md_crash 21 = .ok (.if_icmp .le 7, 3) := by decide +kernel
theorem dd_Md_crash_24 : decode bb_Md_crash 24 = .ok (.iconst 0, 1) := by decide +kernel
theorem dd_Md_crash_25 : decode bb_Md_crash 25 = .ok (.goto 4, 3) := by decide +kernel
theorem dd_Md_crash_28 : decode bb_Md_crash 28 = .ok (.iload_n 1, 1) := by decide +kernel
theorem dd_Md_crash_29 : decode bb_Md_crash 29 = .ok (.baload, 1) := by decide +kernel
theorem dd_Md_crash_30 : decode bb_Md_crash 30 = .ok (.ifCond .eq 5, 3) := by decide +kernel
theorem dd_Md_crash_33 : decode bb_Md_crash 33 = .ok (.iconst 0, 1) := by decide +kernel
theorem dd_Md_crash_34 : decode bb_Md_crash 34 = .ok (.ireturn, 1) := by decide +kernel
theorem dd_Md_crash_35 : decode bb_Md_crash 35 = .ok (.aload_n 0, 1) := by decide +kernel
theorem dd_Md_crash_36 : decode bb_Md_crash 36 = .ok (.getfield 7, 3) := by decide +kernel
theorem dd_Md_crash_39 : decode bb_Md_crash 39 = .ok (.iload_n 1, 1) := by decide +kernel
theorem dd_Md_crash_40 : decode bb_Md_crash 40 = .ok (.iconst 1, 1) := by decide +kernel
theorem dd_Md_crash_41 : decode bb_Md_crash 41 = .ok (.bastore, 1) := by decide +kernel
theorem dd_Md_crash_42 : decode bb_Md_crash 42 = .ok (.iload_n 1, 1) := by decide +kernel
theorem dd_Md_crash_43 : decode bb_Md_crash 43 = .ok (.iconst 3, 1) := by decide +kernel
theorem dd_Md_crash_44 : decode bb_Md_crash 44 = .ok (.if_icmp .eq 8, 3) := by decide +kernel
theorem dd_Md_crash_47 : decode bb_Md_crash 47 = .ok (.iload_n 1, 1) := by decide +kernel
theorem dd_Md_crash_48 : decode bb_Md_crash 48 = .ok (.iconst 4, 1) := by decide +kernel
theorem dd_Md_crash_49 : decode bb_Md_crash 49 = .ok (.if_icmp .ne 58, 3) := by decide +kernel
theorem dd_Md_crash_52 : decode bb_Md_crash 52 = .ok (.iconst 0, 1) := by decide +kernel
theorem dd_Md_crash_53 : decode bb_Md_crash 53 = .ok (.istore_n 2, 1) := by decide +kernel
theorem dd_Md_crash_54 : decode bb_Md_crash 54 = .ok (.iload_n 2, 1) := by decide +kernel
theorem dd_Md_crash_55 : decode bb_Md_crash 55 = .ok (.aload_n 0, 1) := by decide +kernel
theorem dd_Md_crash_56 : decode bb_Md_crash 56 = .ok (.getfield 130, 3) := by decide +kernel
theorem dd_Md_crash_59 : decode bb_Md_crash 59 = .ok (.if_icmp .ge 48, 3) := by decide +kernel
theorem dd_Md_crash_62 : decode bb_Md_crash 62 = .ok (.aload_n 0, 1) := by decide +kernel
theorem dd_Md_crash_63 : decode bb_Md_crash 63 = .ok (.getfield 29, 3) := by decide +kernel
theorem dd_Md_crash_66 : decode bb_Md_crash 66 = .ok (.iload_n 2, 1) := by decide +kernel
theorem dd_Md_crash_67 : decode bb_Md_crash 67 = .ok (.aload_n 0, 1) := by decide +kernel
theorem dd_Md_crash_68 : decode bb_Md_crash 68 = .ok (.getfield 26, 3) := by decide +kernel
theorem dd_Md_crash_71 : decode bb_Md_crash 71 = .ok (.iload_n 2, 1) := by decide +kernel
theorem dd_Md_crash_72 : decode bb_Md_crash 72 = .ok (.iaload, 1) := by decide +kernel
theorem dd_Md_crash_73 : decode bb_Md_crash 73 = .ok (.iload_n 1, 1) := by decide +kernel
theorem dd_Md_crash_74 : decode bb_Md_crash 74 = .ok (.iconst 3, 1) := by decide +kernel
theorem dd_Md_crash_75 : decode bb_Md_crash 75 = .ok (.isub, 1) := by decide +kernel
theorem dd_Md_crash_76 : decode bb_Md_crash 76 = .ok (.if_icmp .ne 18, 3) := by decide +kernel
theorem dd_Md_crash_79 : decode bb_Md_crash 79 = .ok (.aload_n 0, 1) := by decide +kernel
theorem dd_Md_crash_80 : decode bb_Md_crash 80 = .ok (.getfield 29, 3) := by decide +kernel
theorem dd_Md_crash_83 : decode bb_Md_crash 83 = .ok (.iload_n 2, 1) := by decide +kernel
theorem dd_Md_crash_84 : decode bb_Md_crash 84 = .ok (.iaload, 1) := by decide +kernel
theorem dd_Md_crash_85 : decode bb_Md_crash 85 = .ok (.iconst (-1), 1) := by decide +kernel
theorem dd_Md_crash_86 : decode bb_Md_crash 86 = .ok (.if_icmp .ne 8, 3) := by decide +kernel
theorem dd_Md_crash_89 : decode bb_Md_crash 89 = .ok (.bipush (-2), 2) := by decide +kernel
theorem dd_Md_crash_91 : decode bb_Md_crash 91 = .ok (.goto 9, 3) := by decide +kernel
theorem dd_Md_crash_94 : decode bb_Md_crash 94 = .ok (.aload_n 0, 1) := by decide +kernel
theorem dd_Md_crash_95 : decode bb_Md_crash 95 = .ok (.getfield 29, 3) := by decide +kernel
theorem dd_Md_crash_98 : decode bb_Md_crash 98 = .ok (.iload_n 2, 1) := by decide +kernel
theorem dd_Md_crash_99 : decode bb_Md_crash 99 = .ok (.iaload, 1) := by decide +kernel
theorem dd_Md_crash_100 : decode bb_Md_crash 100 = .ok (.iastore, 1) := by decide +kernel
theorem dd_Md_crash_101 : decode bb_Md_crash 101 = .ok (.iinc 2 1, 3) := by decide +kernel
theorem dd_Md_crash_104 : decode bb_Md_crash 104 = .ok (.goto (-50), 3) := by decide +kernel
theorem dd_Md_crash_107 : decode bb_Md_crash 107 = .ok (.iload_n 1, 1) := by decide +kernel
theorem dd_Md_crash_108 : decode bb_Md_crash 108 = .ok (.iconst 5, 1) := by decide +kernel
theorem dd_Md_crash_109 : decode bb_Md_crash 109 = .ok (.if_icmp .lt 47, 3) := by decide +kernel
theorem dd_Md_crash_112 : decode bb_Md_crash 112 = .ok (.aload_n 0, 1) := by decide +kernel
theorem dd_Md_crash_113 : decode bb_Md_crash 113 = .ok (.getfield 108, 3) := by decide +kernel
theorem dd_Md_crash_116 : decode bb_Md_crash 116 = .ok (.iconst 1, 1) := by decide +kernel
theorem dd_Md_crash_117 : decode bb_Md_crash 117 = .ok (.isub, 1) := by decide +kernel
theorem dd_Md_crash_118 : decode bb_Md_crash 118 = .ok (.istore_n 2, 1) := by decide +kernel
theorem dd_Md_crash_119 : decode bb_Md_crash 119 = .ok (.iload_n 2, 1) := by decide +kernel
theorem dd_Md_crash_120 : decode bb_Md_crash 120 = .ok (.ifCond .lt 36, 3) := by decide +kernel
theorem dd_Md_crash_123 : decode bb_Md_crash 123 = .ok (.aload_n 0, 1) := by decide +kernel
theorem dd_Md_crash_124 : decode bb_Md_crash 124 = .ok (.getfield 53, 3) := by decide +kernel
theorem dd_Md_crash_127 : decode bb_Md_crash 127 = .ok (.iload_n 2, 1) := by decide +kernel
theorem dd_Md_crash_128 : decode bb_Md_crash 128 = .ok (.iaload, 1) := by decide +kernel
theorem dd_Md_crash_129 : decode bb_Md_crash 129 = .ok (.iconst 4, 1) := by decide +kernel
theorem dd_Md_crash_130 : decode bb_Md_crash 130 = .ok (.if_icmp .ne 20, 3) := by decide +kernel
theorem dd_Md_crash_133 : decode bb_Md_crash 133 = .ok (.aload_n 0, 1) := by decide +kernel
theorem dd_Md_crash_134 : decode bb_Md_crash 134 = .ok (.getfield 59, 3) := by decide +kernel
theorem dd_Md_crash_137 : decode bb_Md_crash 137 = .ok (.iload_n 2, 1) := by decide +kernel
theorem dd_Md_crash_138 : decode bb_Md_crash 138 = .ok (.iaload, 1) := by decide +kernel
theorem dd_Md_crash_139 : decode bb_Md_crash 139 = .ok (.iload_n 1, 1) := by decide +kernel
theorem dd_Md_crash_140 : decode bb_Md_crash 140 = .ok (.iconst 5, 1) := by decide +kernel
theorem dd_Md_crash_141 : decode bb_Md_crash 141 = .ok (.isub, 1) := by decide +kernel
theorem dd_Md_crash_142 : decode bb_Md_crash 142 = .ok (.if_icmp .ne 8, 3) := by decide +kernel
theorem dd_Md_crash_145 : decode bb_Md_crash 145 = .ok (.aload_n 0, 1) := by decide +kernel
theorem dd_Md_crash_146 : decode bb_Md_crash 146 = .ok (.iload_n 2, 1) := by decide +kernel
theorem dd_Md_crash_147 : decode bb_Md_crash 147 = .ok (.invokevirtual 136, 3) := by decide +kernel
theorem dd_Md_crash_150 : decode bb_Md_crash 150 = .ok (.iinc 2 (-1), 3) := by decide +kernel
theorem dd_Md_crash_153 : decode bb_Md_crash 153 = .ok (.goto (-34), 3) := by decide +kernel
theorem dd_Md_crash_156 : decode bb_Md_crash 156 = .ok (.iconst 1, 1) := by decide +kernel
theorem dd_Md_crash_157 : decode bb_Md_crash 157 = .ok (.ireturn, 1) := by decide +kernel
def zk_Md_crash : Room := { frames := 1, cells := 0, slots := 0, locals := 22 }
abbrev zA_Md_crash (p : Program) (l : Launch) (e : Env) (s : State) (m : MethodId) (args : Array Value) (below : List Frame) (meth : Method) (c : Code) (G : zs_G) (Q : zs_Q) (pc : Nat) (P : zs_P) : Prop := zs_At p l e zk_Md_crash s m args below meth c (MQ below (zs_Qc G Q) args s 0 0 (fun q => zg_z G ≤ q)) G 3 pc P
def zb_Md_crash_33 (Q : zs_Q) : zs_P := zt_psh 0 (zt_zrt 0 0 Q)
def zb_Md_crash_156 (Q : zs_Q) : zs_P := zt_psh 1 (zt_zrt 0 0 Q)
def zb_Md_crash_150 (Q : zs_Q) (K119 : zs_P) : zs_P := zt_inc 2 (-1) (K119)
def zb_Md_crash_145 (Q : zs_Q) (K119 : zs_P) : zs_P := zt_ald 0 (zt_ild 2 (zt_cav 8 zw_Md_take (1 + 1) 0 0 0 0 ((zb_Md_crash_150 Q K119))))
def zb_Md_crash_133 (Q : zs_Q) (K119 : zs_P) : zs_P := zt_ald 0 (zt_gtR 8 19 (zt_ild 2 (zt_xld 100 (zt_ild 1 (zt_psh 5 (zt_bin (fun x y => x - y) (zt_cmp (fun x y => x = y) (zb_Md_crash_145 Q K119) (zb_Md_crash_150 Q K119))))))))
def zb_Md_crash_123 (Q : zs_Q) (K119 : zs_P) : zs_P := zt_ald 0 (zt_gtR 8 17 (zt_ild 2 (zt_xld 100 (zt_psh 4 (zt_cmp (fun x y => x = y) (zb_Md_crash_133 Q K119) (zb_Md_crash_150 Q K119))))))
def zb_Md_crash_119 (Q : zs_Q) (K119 : zs_P) : zs_P := zt_ild 2 (zt_if (fun x => x < 0) (zb_Md_crash_156 Q) (zb_Md_crash_123 Q K119))
def zl_Md_crash_119 (Q : zs_Q) : zs_P := zt_ex (zb_Md_crash_119 Q)
def zb_Md_crash_112 (Q : zs_Q) : zs_P := zt_ald 0 (zt_gtI 8 16 (zt_psh 1 (zt_bin (fun x y => x - y) (zt_ist 2 ((zl_Md_crash_119 Q))))))
def zb_Md_crash_107 (Q : zs_Q) : zs_P := zt_ild 1 (zt_psh 5 (zt_cmp (fun x y => x < y) (zb_Md_crash_156 Q) (zb_Md_crash_112 Q)))
def zb_Md_crash_100 (Q : zs_Q) (K54 : zs_P) : zs_P := zt_ias (zt_inc 2 1 (K54))
def zb_Md_crash_94 (Q : zs_Q) (K54 : zs_P) : zs_P := zt_ald 0 (zt_gtR 8 8 (zt_ild 2 (zt_xld 100 ((zb_Md_crash_100 Q K54)))))
def zb_Md_crash_89 (Q : zs_Q) (K54 : zs_P) : zs_P := zt_psh (-2) ((zb_Md_crash_100 Q K54))
def zb_Md_crash_79 (Q : zs_Q) (K54 : zs_P) : zs_P := zt_ald 0 (zt_gtR 8 8 (zt_ild 2 (zt_xld 100 (zt_psh (-1) (zt_cmp (fun x y => x = y) (zb_Md_crash_89 Q K54) (zb_Md_crash_94 Q K54))))))
def zb_Md_crash_62 (Q : zs_Q) (K54 : zs_P) : zs_P := zt_ald 0 (zt_gtR 8 8 (zt_ild 2 (zt_ald 0 (zt_gtR 8 7 (zt_ild 2 (zt_xld 100 (zt_ild 1 (zt_psh 3 (zt_bin (fun x y => x - y) (zt_cmp (fun x y => x = y) (zb_Md_crash_79 Q K54) (zb_Md_crash_94 Q K54)))))))))))
def zb_Md_crash_54 (Q : zs_Q) (K54 : zs_P) : zs_P := zt_ild 2 (zt_ald 0 (zt_gtI 8 2 (zt_cmp (fun x y => y ≤ x) (zb_Md_crash_107 Q) (zb_Md_crash_62 Q K54))))
def zl_Md_crash_54 (Q : zs_Q) : zs_P := zt_ex (zb_Md_crash_54 Q)
def zb_Md_crash_52 (Q : zs_Q) : zs_P := zt_psh 0 (zt_ist 2 ((zl_Md_crash_54 Q)))
def zb_Md_crash_47 (Q : zs_Q) : zs_P := zt_ild 1 (zt_psh 4 (zt_cmp (fun x y => x = y) (zb_Md_crash_52 Q) (zb_Md_crash_107 Q)))
def zb_Md_crash_35 (Q : zs_Q) : zs_P := zt_ald 0 (zt_gtR 8 1 (zt_ild 1 (zt_psh 1 (zt_zas (zt_ild 1 (zt_psh 3 (zt_cmp (fun x y => x = y) (zb_Md_crash_52 Q) (zb_Md_crash_47 Q))))))))
def zb_Md_crash_29 (Q : zs_Q) : zs_P := zt_xld 101 (zt_if (fun x => x = 0) (zb_Md_crash_35 Q) (zb_Md_crash_33 Q))
def zb_Md_crash_24 (Q : zs_Q) : zs_P := zt_psh 0 ((zb_Md_crash_29 Q))
def zb_Md_crash_28 (Q : zs_Q) : zs_P := zt_ild 1 ((zb_Md_crash_29 Q))
def zb_Md_crash_18 (Q : zs_Q) : zs_P := zt_ild 1 (zt_psh 6 (zt_cmp (fun x y => x ≤ y) (zb_Md_crash_28 Q) (zb_Md_crash_24 Q)))
def zb_Md_crash_10 (Q : zs_Q) : zs_P := zt_ald 0 (zt_gtR 8 1 (zt_ild 1 (zt_if (fun x => x < 0) (zb_Md_crash_24 Q) (zb_Md_crash_18 Q))))
def zb_Md_crash_0 (Q : zs_Q) : zs_P := zt_ild 1 (zt_psh 0 (zt_psh 6 (zt_cal zw_Md_in 3 0 0 0 0 (zt_if (fun x => x = 0) (zb_Md_crash_33 Q) (zb_Md_crash_10 Q)))))
def zw_Md_crash : zs_W := fun As σ Q => match As with
  | [a0, a1] => zs_c1 [a0, a1] = true ∧ zb_Md_crash_0 Q [some a0, some a1, none] [] σ 0 0
  | _ => False
section
variable {p : Program} {l : Launch} {e : Env} {s : State} {m : MethodId} {args : Array Value} {below : List Frame} {meth : Method} {c : Code} {G : zs_G} {Q : zs_Q}
theorem zr_Md_crash_33 (B : zs_B p s m args meth c G bb_Md_crash 3 yy_Md_crash (some .boolean)) : zA_Md_crash p l e s m args below meth c G Q 33 (zb_Md_crash_33 Q) := by
  unfold zb_Md_crash_33
  refine za_ico B.1 0 dd_Md_crash_33 (by decide) ?_
  exact za_zrt B.1 0 0 B.2.1 B.2.2.1 dd_Md_crash_34
theorem zr_Md_crash_156 (B : zs_B p s m args meth c G bb_Md_crash 3 yy_Md_crash (some .boolean)) : zA_Md_crash p l e s m args below meth c G Q 156 (zb_Md_crash_156 Q) := by
  unfold zb_Md_crash_156
  refine za_ico B.1 1 dd_Md_crash_156 (by decide) ?_
  exact za_zrt B.1 0 0 B.2.1 B.2.2.1 dd_Md_crash_157
theorem zr_Md_crash_150 (B : zs_B p s m args meth c G bb_Md_crash 3 yy_Md_crash (some .boolean)) {K119 : zs_P} (h119 : zA_Md_crash p l e s m args below meth c G Q 119 K119) : zA_Md_crash p l e s m args below meth c G Q 150 (zb_Md_crash_150 Q K119) := by
  unfold zb_Md_crash_150
  refine za_inc B.1 (-1) dd_Md_crash_150 (by decide) (by decide) ?_
  refine za_goto B.1 119 dd_Md_crash_153 (by decide) ?_
  exact h119
theorem zr_Md_crash_145 (B : zs_B p s m args meth c G bb_Md_crash 3 yy_Md_crash (some .boolean)) {K119 : zs_P} (h119 : zA_Md_crash p l e s m args below meth c G Q 119 K119) : zA_Md_crash p l e s m args below meth c G Q 145 (zb_Md_crash_145 Q K119) := by
  unfold zb_Md_crash_145
  refine za_ald_n B.1 0 dd_Md_crash_145 rfl ?_
  refine za_ild_n B.1 2 dd_Md_crash_146 rfl ?_
  refine za_cV B.1 8 1 0 0 0 0 rfl rfl rfl (by decide) (zm_Md_take l G) ⟨callB_of 1 B.1.1.2.2.2.2 (zs_good zW_525) rfl rfl rfl (B.1.1.2.2.2.2 _ zW_8) (B.1.1.2.2.2.2 _ zW_523) (by decide +kernel) ⟨by decide, by decide⟩, (B.1.1.2.2.2.2 _ zW_524), (B.1.1.2.2.2.2 _ zW_676)⟩ dd_Md_crash_147 ?_
  exact (zr_Md_crash_150 B h119)
theorem zr_Md_crash_133 (B : zs_B p s m args meth c G bb_Md_crash 3 yy_Md_crash (some .boolean)) {K119 : zs_P} (h119 : zA_Md_crash p l e s m args below meth c G Q 119 K119) : zA_Md_crash p l e s m args below meth c G Q 133 (zb_Md_crash_133 Q K119) := by
  unfold zb_Md_crash_133
  refine za_ald_n B.1 0 dd_Md_crash_133 rfl ?_
  refine za_gtR B.1 8 19 zi_8 rfl (by decide) (by decide) rfl zW_475 rfl dd_Md_crash_134 ?_
  refine za_ild_n B.1 2 dd_Md_crash_137 rfl ?_
  refine za_iald B.1 dd_Md_crash_138 ?_
  refine za_ild_n B.1 1 dd_Md_crash_139 rfl ?_
  refine za_ico B.1 5 dd_Md_crash_140 (by decide) ?_
  refine za_sub B.1 dd_Md_crash_141 ?_
  exact za_cmp_ne B.1 150 dd_Md_crash_142 (by decide) (zr_Md_crash_145 B h119) (zr_Md_crash_150 B h119)
theorem zr_Md_crash_123 (B : zs_B p s m args meth c G bb_Md_crash 3 yy_Md_crash (some .boolean)) {K119 : zs_P} (h119 : zA_Md_crash p l e s m args below meth c G Q 119 K119) : zA_Md_crash p l e s m args below meth c G Q 123 (zb_Md_crash_123 Q K119) := by
  unfold zb_Md_crash_123
  refine za_ald_n B.1 0 dd_Md_crash_123 rfl ?_
  refine za_gtR B.1 8 17 zi_8 rfl (by decide) (by decide) rfl zW_473 rfl dd_Md_crash_124 ?_
  refine za_ild_n B.1 2 dd_Md_crash_127 rfl ?_
  refine za_iald B.1 dd_Md_crash_128 ?_
  refine za_ico B.1 4 dd_Md_crash_129 (by decide) ?_
  exact za_cmp_ne B.1 150 dd_Md_crash_130 (by decide) (zr_Md_crash_133 B h119) (zr_Md_crash_150 B h119)
theorem zr_Md_crash_119 (B : zs_B p s m args meth c G bb_Md_crash 3 yy_Md_crash (some .boolean)) {K119 : zs_P} (h119 : zA_Md_crash p l e s m args below meth c G Q 119 K119) : zA_Md_crash p l e s m args below meth c G Q 119 (zb_Md_crash_119 Q K119) := by
  unfold zb_Md_crash_119
  refine za_ild_n B.1 2 dd_Md_crash_119 rfl ?_
  exact za_if_lt B.1 156 dd_Md_crash_120 (by decide) (zr_Md_crash_156 B) (zr_Md_crash_123 B h119)
theorem zq_Md_crash_119 (B : zs_B p s m args meth c G bb_Md_crash 3 yy_Md_crash (some .boolean)) : zA_Md_crash p l e s m args below meth c G Q 119 (zl_Md_crash_119 Q) := za_lop (fun K hK => zr_Md_crash_119 B hK)
theorem zr_Md_crash_112 (B : zs_B p s m args meth c G bb_Md_crash 3 yy_Md_crash (some .boolean)) : zA_Md_crash p l e s m args below meth c G Q 112 (zb_Md_crash_112 Q) := by
  unfold zb_Md_crash_112
  refine za_ald_n B.1 0 dd_Md_crash_112 rfl ?_
  refine za_gtI B.1 8 16 zi_8 rfl (by decide) (by decide) rfl zW_472 rfl dd_Md_crash_113 ?_
  refine za_ico B.1 1 dd_Md_crash_116 (by decide) ?_
  refine za_sub B.1 dd_Md_crash_117 ?_
  refine za_ist_n B.1 2 dd_Md_crash_118 rfl (by decide) ?_
  exact (zq_Md_crash_119 B)
theorem zr_Md_crash_107 (B : zs_B p s m args meth c G bb_Md_crash 3 yy_Md_crash (some .boolean)) : zA_Md_crash p l e s m args below meth c G Q 107 (zb_Md_crash_107 Q) := by
  unfold zb_Md_crash_107
  refine za_ild_n B.1 1 dd_Md_crash_107 rfl ?_
  refine za_ico B.1 5 dd_Md_crash_108 (by decide) ?_
  exact za_cmp_lt B.1 156 dd_Md_crash_109 (by decide) (zr_Md_crash_156 B) (zr_Md_crash_112 B)
theorem zr_Md_crash_100 (B : zs_B p s m args meth c G bb_Md_crash 3 yy_Md_crash (some .boolean)) {K54 : zs_P} (h54 : zA_Md_crash p l e s m args below meth c G Q 54 K54) : zA_Md_crash p l e s m args below meth c G Q 100 (zb_Md_crash_100 Q K54) := by
  unfold zb_Md_crash_100
  refine za_iast B.1 dd_Md_crash_100 ?_
  refine za_inc B.1 1 dd_Md_crash_101 (by decide) (by decide) ?_
  refine za_goto B.1 54 dd_Md_crash_104 (by decide) ?_
  exact h54
theorem zr_Md_crash_94 (B : zs_B p s m args meth c G bb_Md_crash 3 yy_Md_crash (some .boolean)) {K54 : zs_P} (h54 : zA_Md_crash p l e s m args below meth c G Q 54 K54) : zA_Md_crash p l e s m args below meth c G Q 94 (zb_Md_crash_94 Q K54) := by
  unfold zb_Md_crash_94
  refine za_ald_n B.1 0 dd_Md_crash_94 rfl ?_
  refine za_gtR B.1 8 8 zi_8 rfl (by decide) (by decide) rfl zW_464 rfl dd_Md_crash_95 ?_
  refine za_ild_n B.1 2 dd_Md_crash_98 rfl ?_
  refine za_iald B.1 dd_Md_crash_99 ?_
  exact (zr_Md_crash_100 B h54)
theorem zr_Md_crash_89 (B : zs_B p s m args meth c G bb_Md_crash 3 yy_Md_crash (some .boolean)) {K54 : zs_P} (h54 : zA_Md_crash p l e s m args below meth c G Q 54 K54) : zA_Md_crash p l e s m args below meth c G Q 89 (zb_Md_crash_89 Q K54) := by
  unfold zb_Md_crash_89
  refine za_bip B.1 (-2) dd_Md_crash_89 (by decide) ?_
  refine za_goto B.1 100 dd_Md_crash_91 (by decide) ?_
  exact (zr_Md_crash_100 B h54)
theorem zr_Md_crash_79 (B : zs_B p s m args meth c G bb_Md_crash 3 yy_Md_crash (some .boolean)) {K54 : zs_P} (h54 : zA_Md_crash p l e s m args below meth c G Q 54 K54) : zA_Md_crash p l e s m args below meth c G Q 79 (zb_Md_crash_79 Q K54) := by
  unfold zb_Md_crash_79
  refine za_ald_n B.1 0 dd_Md_crash_79 rfl ?_
  refine za_gtR B.1 8 8 zi_8 rfl (by decide) (by decide) rfl zW_464 rfl dd_Md_crash_80 ?_
  refine za_ild_n B.1 2 dd_Md_crash_83 rfl ?_
  refine za_iald B.1 dd_Md_crash_84 ?_
  refine za_ico B.1 (-1) dd_Md_crash_85 (by decide) ?_
  exact za_cmp_ne B.1 94 dd_Md_crash_86 (by decide) (zr_Md_crash_89 B h54) (zr_Md_crash_94 B h54)
theorem zr_Md_crash_62 (B : zs_B p s m args meth c G bb_Md_crash 3 yy_Md_crash (some .boolean)) {K54 : zs_P} (h54 : zA_Md_crash p l e s m args below meth c G Q 54 K54) : zA_Md_crash p l e s m args below meth c G Q 62 (zb_Md_crash_62 Q K54) := by
  unfold zb_Md_crash_62
  refine za_ald_n B.1 0 dd_Md_crash_62 rfl ?_
  refine za_gtR B.1 8 8 zi_8 rfl (by decide) (by decide) rfl zW_464 rfl dd_Md_crash_63 ?_
  refine za_ild_n B.1 2 dd_Md_crash_66 rfl ?_
  refine za_ald_n B.1 0 dd_Md_crash_67 rfl ?_
  refine za_gtR B.1 8 7 zi_8 rfl (by decide) (by decide) rfl zW_463 rfl dd_Md_crash_68 ?_
  refine za_ild_n B.1 2 dd_Md_crash_71 rfl ?_
  refine za_iald B.1 dd_Md_crash_72 ?_
  refine za_ild_n B.1 1 dd_Md_crash_73 rfl ?_
  refine za_ico B.1 3 dd_Md_crash_74 (by decide) ?_
  refine za_sub B.1 dd_Md_crash_75 ?_
  exact za_cmp_ne B.1 94 dd_Md_crash_76 (by decide) (zr_Md_crash_79 B h54) (zr_Md_crash_94 B h54)
theorem zr_Md_crash_54 (B : zs_B p s m args meth c G bb_Md_crash 3 yy_Md_crash (some .boolean)) {K54 : zs_P} (h54 : zA_Md_crash p l e s m args below meth c G Q 54 K54) : zA_Md_crash p l e s m args below meth c G Q 54 (zb_Md_crash_54 Q K54) := by
  unfold zb_Md_crash_54
  refine za_ild_n B.1 2 dd_Md_crash_54 rfl ?_
  refine za_ald_n B.1 0 dd_Md_crash_55 rfl ?_
  refine za_gtI B.1 8 2 zi_8 rfl (by decide) (by decide) rfl zW_458 rfl dd_Md_crash_56 ?_
  exact za_cmp_ge B.1 107 dd_Md_crash_59 (by decide) (zr_Md_crash_107 B) (zr_Md_crash_62 B h54)
theorem zq_Md_crash_54 (B : zs_B p s m args meth c G bb_Md_crash 3 yy_Md_crash (some .boolean)) : zA_Md_crash p l e s m args below meth c G Q 54 (zl_Md_crash_54 Q) := za_lop (fun K hK => zr_Md_crash_54 B hK)
theorem zr_Md_crash_52 (B : zs_B p s m args meth c G bb_Md_crash 3 yy_Md_crash (some .boolean)) : zA_Md_crash p l e s m args below meth c G Q 52 (zb_Md_crash_52 Q) := by
  unfold zb_Md_crash_52
  refine za_ico B.1 0 dd_Md_crash_52 (by decide) ?_
  refine za_ist_n B.1 2 dd_Md_crash_53 rfl (by decide) ?_
  exact (zq_Md_crash_54 B)
theorem zr_Md_crash_47 (B : zs_B p s m args meth c G bb_Md_crash 3 yy_Md_crash (some .boolean)) : zA_Md_crash p l e s m args below meth c G Q 47 (zb_Md_crash_47 Q) := by
  unfold zb_Md_crash_47
  refine za_ild_n B.1 1 dd_Md_crash_47 rfl ?_
  refine za_ico B.1 4 dd_Md_crash_48 (by decide) ?_
  exact za_cmp_ne B.1 107 dd_Md_crash_49 (by decide) (zr_Md_crash_52 B) (zr_Md_crash_107 B)
theorem zr_Md_crash_35 (B : zs_B p s m args meth c G bb_Md_crash 3 yy_Md_crash (some .boolean)) : zA_Md_crash p l e s m args below meth c G Q 35 (zb_Md_crash_35 Q) := by
  unfold zb_Md_crash_35
  refine za_ald_n B.1 0 dd_Md_crash_35 rfl ?_
  refine za_gtR B.1 8 1 zi_8 rfl (by decide) (by decide) rfl zW_457 rfl dd_Md_crash_36 ?_
  refine za_ild_n B.1 1 dd_Md_crash_39 rfl ?_
  refine za_ico B.1 1 dd_Md_crash_40 (by decide) ?_
  refine za_zast B.1 dd_Md_crash_41 ?_
  refine za_ild_n B.1 1 dd_Md_crash_42 rfl ?_
  refine za_ico B.1 3 dd_Md_crash_43 (by decide) ?_
  exact za_cmp_eq B.1 52 dd_Md_crash_44 (by decide) (zr_Md_crash_52 B) (zr_Md_crash_47 B)
theorem zr_Md_crash_29 (B : zs_B p s m args meth c G bb_Md_crash 3 yy_Md_crash (some .boolean)) : zA_Md_crash p l e s m args below meth c G Q 29 (zb_Md_crash_29 Q) := by
  unfold zb_Md_crash_29
  refine za_zald B.1 dd_Md_crash_29 ?_
  exact za_if_eq B.1 35 dd_Md_crash_30 (by decide) (zr_Md_crash_35 B) (zr_Md_crash_33 B)
theorem zr_Md_crash_24 (B : zs_B p s m args meth c G bb_Md_crash 3 yy_Md_crash (some .boolean)) : zA_Md_crash p l e s m args below meth c G Q 24 (zb_Md_crash_24 Q) := by
  unfold zb_Md_crash_24
  refine za_ico B.1 0 dd_Md_crash_24 (by decide) ?_
  refine za_goto B.1 29 dd_Md_crash_25 (by decide) ?_
  exact (zr_Md_crash_29 B)
theorem zr_Md_crash_28 (B : zs_B p s m args meth c G bb_Md_crash 3 yy_Md_crash (some .boolean)) : zA_Md_crash p l e s m args below meth c G Q 28 (zb_Md_crash_28 Q) := by
  unfold zb_Md_crash_28
  refine za_ild_n B.1 1 dd_Md_crash_28 rfl ?_
  exact (zr_Md_crash_29 B)
theorem zr_Md_crash_18 (B : zs_B p s m args meth c G bb_Md_crash 3 yy_Md_crash (some .boolean)) : zA_Md_crash p l e s m args below meth c G Q 18 (zb_Md_crash_18 Q) := by
  unfold zb_Md_crash_18
  refine za_ild_n B.1 1 dd_Md_crash_18 rfl ?_
  refine za_bip B.1 6 dd_Md_crash_19 (by decide) ?_
  exact za_cmp_le B.1 28 dd_Md_crash_21 (by decide) (zr_Md_crash_28 B) (zr_Md_crash_24 B)
theorem zr_Md_crash_10 (B : zs_B p s m args meth c G bb_Md_crash 3 yy_Md_crash (some .boolean)) : zA_Md_crash p l e s m args below meth c G Q 10 (zb_Md_crash_10 Q) := by
  unfold zb_Md_crash_10
  refine za_ald_n B.1 0 dd_Md_crash_10 rfl ?_
  refine za_gtR B.1 8 1 zi_8 rfl (by decide) (by decide) rfl zW_457 rfl dd_Md_crash_11 ?_
  refine za_ild_n B.1 1 dd_Md_crash_14 rfl ?_
  exact za_if_lt B.1 24 dd_Md_crash_15 (by decide) (zr_Md_crash_24 B) (zr_Md_crash_18 B)
theorem zr_Md_crash_0 (B : zs_B p s m args meth c G bb_Md_crash 3 yy_Md_crash (some .boolean)) : zA_Md_crash p l e s m args below meth c G Q 0 (zb_Md_crash_0 Q) := by
  unfold zb_Md_crash_0
  refine za_ild_n B.1 1 dd_Md_crash_0 rfl ?_
  refine za_ico B.1 0 dd_Md_crash_1 (by decide) ?_
  refine za_bip B.1 6 dd_Md_crash_2 (by decide) ?_
  refine za_cS B.1 3 0 0 0 0 rfl rfl (zm_Md_in l G) ⟨callB_of 3 B.1.1.2.2.2.2 (zs_good zW_497) rfl rfl rfl (B.1.1.2.2.2.2 _ zW_8) (B.1.1.2.2.2.2 _ zW_495) (by decide +kernel) ⟨by decide, by decide⟩, (B.1.1.2.2.2.2 _ zW_496)⟩ dd_Md_crash_4 ?_
  exact za_if_eq B.1 33 dd_Md_crash_7 (by decide) (zr_Md_crash_33 B) (zr_Md_crash_10 B)
end
theorem zm_Md_crash (l : Launch) (G : zs_G) (As : List Value) (σ : zs_S) (Q : zs_Q) (h : zw_Md_crash As σ Q) : zs_Met l yy_Md_crash (Cond.code yy_Md_crash bb_Md_crash 3 (some .boolean) :: zw_all) zk_Md_crash G As σ Q 0 0 := by
  unfold zw_Md_crash at h
  split at h
  · exact zs_enter (by decide +kernel) h.1 (Nat.le_of_ble_eq_true rfl) h.2 (fun p e s m args below meth c B => zr_Md_crash_0 B)
  · exact h.elim
-- SequencedBatchesModel.fresh(I)V
theorem dd_Md_fresh_0 : decode bb_Md_fresh 0 = .ok (.iconst 0, 1) := by decide +kernel
theorem dd_Md_fresh_1 : decode bb_Md_fresh 1 = .ok (.istore_n 2, 1) := by decide +kernel
theorem dd_Md_fresh_2 : decode bb_Md_fresh 2 = .ok (.iload_n 2, 1) := by decide +kernel
theorem dd_Md_fresh_3 : decode bb_Md_fresh 3 = .ok (.bipush 12, 2) := by decide +kernel
theorem dd_Md_fresh_5 : decode bb_Md_fresh 5 = .ok (.if_icmp .ge 31, 3) := by decide +kernel
theorem dd_Md_fresh_8 : decode bb_Md_fresh 8 = .ok (.aload_n 0, 1) := by decide +kernel
theorem dd_Md_fresh_9 : decode bb_Md_fresh 9 = .ok (.getfield 71, 3) := by decide +kernel
theorem dd_Md_fresh_12 : decode bb_Md_fresh 12 = .ok (.bipush 12, 2) := by decide +kernel
theorem dd_Md_fresh_14 : decode bb_Md_fresh 14 = .ok (.iload_n 1, 1) := by decide +kernel
theorem dd_Md_fresh_15 : decode bb_Md_fresh 15 = .ok (.imul, 1) := by decide +kernel
theorem dd_Md_fresh_16 : decode bb_Md_fresh 16 = .ok (.iload_n 2, 1) := by decide +kernel
theorem dd_Md_fresh_17 : decode bb_Md_fresh 17 = .ok (.iadd, 1) := by decide +kernel
theorem dd_Md_fresh_18 : decode bb_Md_fresh 18 = .ok (.aload_n 0, 1) := by decide +kernel
theorem dd_Md_fresh_19 : decode bb_Md_fresh 19 = .ok (.getfield 74, 3) := by decide +kernel
theorem dd_Md_fresh_22 : decode bb_Md_fresh 22 = .ok (.bipush 12, 2) := by decide +kernel
theorem dd_Md_fresh_24 : decode bb_Md_fresh 24 = .ok (.iload_n 1, 1) := by decide +kernel
theorem dd_Md_fresh_25 : decode bb_Md_fresh 25 = .ok (.imul, 1) := by decide +kernel
theorem dd_Md_fresh_26 : decode bb_Md_fresh 26 = .ok (.iload_n 2, 1) := by decide +kernel
theorem dd_Md_fresh_27 : decode bb_Md_fresh 27 = .ok (.iadd, 1) := by decide +kernel
theorem dd_Md_fresh_28 : decode bb_Md_fresh 28 = .ok (.iaload, 1) := by decide +kernel
theorem dd_Md_fresh_29 : decode bb_Md_fresh 29 = .ok (.iastore, 1) := by decide +kernel
theorem dd_Md_fresh_30 : decode bb_Md_fresh 30 = .ok (.iinc 2 1, 3) := by decide +kernel
theorem dd_Md_fresh_33 : decode bb_Md_fresh 33 = .ok (.goto (-31), 3) := by decide +kernel
theorem dd_Md_fresh_36 : decode bb_Md_fresh 36 = .ok (.aload_n 0, 1) := by decide +kernel
theorem dd_Md_fresh_37 : decode bb_Md_fresh 37 = .ok (.getfield 80, 3) := by decide +kernel
theorem dd_Md_fresh_40 : decode bb_Md_fresh 40 = .ok (.iload_n 1, 1) := by decide +kernel
theorem dd_Md_fresh_41 : decode bb_Md_fresh 41 = .ok (.aload_n 0, 1) := by decide +kernel
theorem dd_Md_fresh_42 : decode bb_Md_fresh 42 = .ok (.getfield 77, 3) := by decide +kernel
theorem dd_Md_fresh_45 : decode bb_Md_fresh 45 = .ok (.iload_n 1, 1) := by decide +kernel
theorem dd_Md_fresh_46 : decode bb_Md_fresh 46 = .ok (.iaload, 1) := by decide +kernel
theorem dd_Md_fresh_47 : decode bb_Md_fresh 47 = .ok (.iastore, 1) := by decide +kernel
theorem dd_Md_fresh_48 : decode bb_Md_fresh 48 = .ok (.iconst 0, 1) := by decide +kernel
theorem dd_Md_fresh_49 : decode bb_Md_fresh 49 = .ok (.istore_n 2, 1) := by decide +kernel
theorem dd_Md_fresh_50 : decode bb_Md_fresh 50 = .ok (.iload_n 2, 1) := by decide +kernel
theorem dd_Md_fresh_51 : decode bb_Md_fresh 51 = .ok (.iconst 4, 1) := by decide +kernel
theorem dd_Md_fresh_52 : decode bb_Md_fresh 52 = .ok (.if_icmp .ge 25, 3) := by decide +kernel
theorem dd_Md_fresh_55 : decode bb_Md_fresh 55 = .ok (.aload_n 0, 1) := by decide +kernel
theorem dd_Md_fresh_56 : decode bb_Md_fresh 56 = .ok (.getfield 83, 3) := by decide +kernel
theorem dd_Md_fresh_59 : decode bb_Md_fresh 59 = .ok (.iconst 4, 1) := by decide +kernel
theorem dd_Md_fresh_60 : decode bb_Md_fresh 60 = .ok (.iload_n 1, 1) := by decide +kernel
theorem dd_Md_fresh_61 : decode bb_Md_fresh 61 = .ok (.imul, 1) := by decide +kernel
theorem dd_Md_fresh_62 : decode bb_Md_fresh 62 = .ok (.iload_n 2, 1) := by decide +kernel
theorem dd_Md_fresh_63 : decode bb_Md_fresh 63 = .ok (.iadd, 1) := by decide +kernel
theorem dd_Md_fresh_64 : decode bb_Md_fresh 64 = .ok (.aload_n 0, 1) := by decide +kernel
theorem dd_Md_fresh_65 : decode bb_Md_fresh 65 = .ok (.getfield 77, 3) := by decide +kernel
theorem dd_Md_fresh_68 : decode bb_Md_fresh 68 = .ok (.iload_n 1, 1) := by decide +kernel
theorem dd_Md_fresh_69 : decode bb_Md_fresh 69 = .ok (.iaload, 1) := by decide +kernel
theorem dd_Md_fresh_70 : decode bb_Md_fresh 70 = .ok (.iastore, 1) := by decide +kernel
theorem dd_Md_fresh_71 : decode bb_Md_fresh 71 = .ok (.iinc 2 1, 3) := by decide +kernel
theorem dd_Md_fresh_74 : decode bb_Md_fresh 74 = .ok (.goto (-24), 3) := by decide +kernel
theorem dd_Md_fresh_77 : decode bb_Md_fresh 77 = .ok (.iconst 0, 1) := by decide +kernel
theorem dd_Md_fresh_78 : decode bb_Md_fresh 78 = .ok (.istore_n 2, 1) := by decide +kernel
theorem dd_Md_fresh_79 : decode bb_Md_fresh 79 = .ok (.iload_n 2, 1) := by decide +kernel
theorem dd_Md_fresh_80 : decode bb_Md_fresh 80 = .ok (.sipush 400, 3) := by decide +kernel
theorem dd_Md_fresh_83 : decode bb_Md_fresh 83 = .ok (.if_icmp .ge 35, 3) := by decide +kernel
theorem dd_Md_fresh_86 : decode bb_Md_fresh 86 = .ok (.aload_n 0, 1) := by decide +kernel
theorem dd_Md_fresh_87 : decode bb_Md_fresh 87 = .ok (.getfield 86, 3) := by decide +kernel
theorem dd_Md_fresh_90 : decode bb_Md_fresh 90 = .ok (.sipush 400, 3) := by decide +kernel
theorem dd_Md_fresh_93 : decode bb_Md_fresh 93 = .ok (.iload_n 1, 1) := by decide +kernel
theorem dd_Md_fresh_94 : decode bb_Md_fresh 94 = .ok (.imul, 1) := by decide +kernel
theorem dd_Md_fresh_95 : decode bb_Md_fresh 95 = .ok (.iload_n 2, 1) := by decide +kernel
theorem dd_Md_fresh_96 : decode bb_Md_fresh 96 = .ok (.iadd, 1) := by decide +kernel
theorem dd_Md_fresh_97 : decode bb_Md_fresh 97 = .ok (.iconst 0, 1) := by decide +kernel
theorem dd_Md_fresh_98 : decode bb_Md_fresh 98 = .ok (.bastore, 1) := by decide +kernel
theorem dd_Md_fresh_99 : decode bb_Md_fresh 99 = .ok (.aload_n 0, 1) := by decide +kernel
theorem dd_Md_fresh_100 : decode bb_Md_fresh 100 = .ok (.getfield 89, 3) := by decide +kernel
theorem dd_Md_fresh_103 : decode bb_Md_fresh 103 = .ok (.sipush 400, 3) := by decide +kernel
theorem dd_Md_fresh_106 : decode bb_Md_fresh 106 = .ok (.iload_n 1, 1) := by decide +kernel
theorem dd_Md_fresh_107 : decode bb_Md_fresh 107 = .ok (.imul, 1) := by decide +kernel
theorem dd_Md_fresh_108 : decode bb_Md_fresh 108 = .ok (.iload_n 2, 1) := by decide +kernel
theorem dd_Md_fresh_109 : decode bb_Md_fresh 109 = .ok (.iadd, 1) := by decide +kernel
theorem dd_Md_fresh_110 : decode bb_Md_fresh 110 = .ok (.iconst 0, 1) := by decide +kernel
theorem dd_Md_fresh_111 : decode bb_Md_fresh 111 = .ok (.bastore, 1) := by decide +kernel
theorem dd_Md_fresh_112 : decode bb_Md_fresh 112 = .ok (.iinc 2 1, 3) := by decide +kernel
theorem dd_Md_fresh_115 : decode bb_Md_fresh 115 = .ok (.goto (-36), 3) := by decide +kernel
theorem dd_Md_fresh_118 : decode bb_Md_fresh 118 = .ok (.iconst 0, 1) := by decide +kernel
theorem dd_Md_fresh_119 : decode bb_Md_fresh 119 = .ok (.istore_n 2, 1) := by decide +kernel
theorem dd_Md_fresh_120 : decode bb_Md_fresh 120 = .ok (.iload_n 2, 1) := by decide +kernel
theorem dd_Md_fresh_121 : decode bb_Md_fresh 121 = .ok (.sipush 1600, 3) := by decide +kernel
theorem dd_Md_fresh_124 : decode bb_Md_fresh 124 = .ok (.if_icmp .ge 22, 3) := by decide +kernel
theorem dd_Md_fresh_127 : decode bb_Md_fresh 127 = .ok (.aload_n 0, 1) := by decide +kernel
theorem dd_Md_fresh_128 : decode bb_Md_fresh 128 = .ok (.getfield 92, 3) := by decide +kernel
theorem dd_Md_fresh_131 : decode bb_Md_fresh 131 = .ok (.sipush 1600, 3) := by decide +kernel
theorem dd_Md_fresh_134 : decode bb_Md_fresh 134 = .ok (.iload_n 1, 1) := by decide +kernel
theorem dd_Md_fresh_135 : decode bb_Md_fresh 135 = .ok (.imul, 1) := by decide +kernel
theorem dd_Md_fresh_136 : decode bb_Md_fresh 136 = .ok (.iload_n 2, 1) := by decide +kernel
theorem dd_Md_fresh_137 : decode bb_Md_fresh 137 = .ok (.iadd, 1) := by decide +kernel
theorem dd_Md_fresh_138 : decode bb_Md_fresh 138 = .ok (.iconst 0, 1) := by decide +kernel
theorem dd_Md_fresh_139 : decode bb_Md_fresh 139 = .ok (.bastore, 1) := by decide +kernel
theorem dd_Md_fresh_140 : decode bb_Md_fresh 140 = .ok (.iinc 2 1, 3) := by decide +kernel
theorem dd_Md_fresh_143 : decode bb_Md_fresh 143 = .ok (.goto (-23), 3) := by decide +kernel
theorem dd_Md_fresh_146 : decode bb_Md_fresh 146 = .ok (.return_, 1) := by decide +kernel
def zk_Md_fresh : Room := { frames := 0, cells := 0, slots := 0, locals := 0 }
abbrev zA_Md_fresh (p : Program) (l : Launch) (e : Env) (s : State) (m : MethodId) (args : Array Value) (below : List Frame) (meth : Method) (c : Code) (G : zs_G) (Q : zs_Q) (pc : Nat) (P : zs_P) : Prop := zs_At p l e zk_Md_fresh s m args below meth c (MQ below (zs_Qc G Q) args s 0 0 (fun q => zg_z G ≤ q)) G 3 pc P
def zb_Md_fresh_146 (Q : zs_Q) : zs_P := zt_vrt 0 0 Q
def zb_Md_fresh_127 (Q : zs_Q) (K120 : zs_P) : zs_P := zt_ald 0 (zt_gtR 8 30 (zt_psh 1600 (zt_ild 1 (zt_bin (fun x y => x * y) (zt_ild 2 (zt_bin (fun x y => x + y) (zt_psh 0 (zt_zas (zt_inc 2 1 (K120))))))))))
def zb_Md_fresh_120 (Q : zs_Q) (K120 : zs_P) : zs_P := zt_ild 2 (zt_psh 1600 (zt_cmp (fun x y => y ≤ x) (zb_Md_fresh_146 Q) (zb_Md_fresh_127 Q K120)))
def zl_Md_fresh_120 (Q : zs_Q) : zs_P := zt_ex (zb_Md_fresh_120 Q)
def zb_Md_fresh_118 (Q : zs_Q) : zs_P := zt_psh 0 (zt_ist 2 ((zl_Md_fresh_120 Q)))
def zb_Md_fresh_86 (Q : zs_Q) (K79 : zs_P) : zs_P := zt_ald 0 (zt_gtR 8 28 (zt_psh 400 (zt_ild 1 (zt_bin (fun x y => x * y) (zt_ild 2 (zt_bin (fun x y => x + y) (zt_psh 0 (zt_zas (zt_ald 0 (zt_gtR 8 29 (zt_psh 400 (zt_ild 1 (zt_bin (fun x y => x * y) (zt_ild 2 (zt_bin (fun x y => x + y) (zt_psh 0 (zt_zas (zt_inc 2 1 (K79)))))))))))))))))))
def zb_Md_fresh_79 (Q : zs_Q) (K79 : zs_P) : zs_P := zt_ild 2 (zt_psh 400 (zt_cmp (fun x y => y ≤ x) (zb_Md_fresh_118 Q) (zb_Md_fresh_86 Q K79)))
def zl_Md_fresh_79 (Q : zs_Q) : zs_P := zt_ex (zb_Md_fresh_79 Q)
def zb_Md_fresh_77 (Q : zs_Q) : zs_P := zt_psh 0 (zt_ist 2 ((zl_Md_fresh_79 Q)))
def zb_Md_fresh_55 (Q : zs_Q) (K50 : zs_P) : zs_P := zt_ald 0 (zt_gtR 8 27 (zt_psh 4 (zt_ild 1 (zt_bin (fun x y => x * y) (zt_ild 2 (zt_bin (fun x y => x + y) (zt_ald 0 (zt_gtR 8 25 (zt_ild 1 (zt_xld 100 (zt_ias (zt_inc 2 1 (K50)))))))))))))
def zb_Md_fresh_50 (Q : zs_Q) (K50 : zs_P) : zs_P := zt_ild 2 (zt_psh 4 (zt_cmp (fun x y => y ≤ x) (zb_Md_fresh_77 Q) (zb_Md_fresh_55 Q K50)))
def zl_Md_fresh_50 (Q : zs_Q) : zs_P := zt_ex (zb_Md_fresh_50 Q)
def zb_Md_fresh_36 (Q : zs_Q) : zs_P := zt_ald 0 (zt_gtR 8 26 (zt_ild 1 (zt_ald 0 (zt_gtR 8 25 (zt_ild 1 (zt_xld 100 (zt_ias (zt_psh 0 (zt_ist 2 ((zl_Md_fresh_50 Q)))))))))))
def zb_Md_fresh_8 (Q : zs_Q) (K2 : zs_P) : zs_P := zt_ald 0 (zt_gtR 8 23 (zt_psh 12 (zt_ild 1 (zt_bin (fun x y => x * y) (zt_ild 2 (zt_bin (fun x y => x + y) (zt_ald 0 (zt_gtR 8 24 (zt_psh 12 (zt_ild 1 (zt_bin (fun x y => x * y) (zt_ild 2 (zt_bin (fun x y => x + y) (zt_xld 100 (zt_ias (zt_inc 2 1 (K2)))))))))))))))))
def zb_Md_fresh_2 (Q : zs_Q) (K2 : zs_P) : zs_P := zt_ild 2 (zt_psh 12 (zt_cmp (fun x y => y ≤ x) (zb_Md_fresh_36 Q) (zb_Md_fresh_8 Q K2)))
def zl_Md_fresh_2 (Q : zs_Q) : zs_P := zt_ex (zb_Md_fresh_2 Q)
def zb_Md_fresh_0 (Q : zs_Q) : zs_P := zt_psh 0 (zt_ist 2 ((zl_Md_fresh_2 Q)))
def zw_Md_fresh : zs_W := fun As σ Q => match As with
  | [a0, a1] => zs_c1 [a0, a1] = true ∧ zb_Md_fresh_0 Q [some a0, some a1, none] [] σ 0 0
  | _ => False
section
variable {p : Program} {l : Launch} {e : Env} {s : State} {m : MethodId} {args : Array Value} {below : List Frame} {meth : Method} {c : Code} {G : zs_G} {Q : zs_Q}
theorem zr_Md_fresh_146 (B : zs_B p s m args meth c G bb_Md_fresh 3 yy_Md_fresh none) : zA_Md_fresh p l e s m args below meth c G Q 146 (zb_Md_fresh_146 Q) := by
  unfold zb_Md_fresh_146
  exact za_vrt B.1 0 0 B.2.1 B.2.2.1 dd_Md_fresh_146
theorem zr_Md_fresh_127 (B : zs_B p s m args meth c G bb_Md_fresh 3 yy_Md_fresh none) {K120 : zs_P} (h120 : zA_Md_fresh p l e s m args below meth c G Q 120 K120) : zA_Md_fresh p l e s m args below meth c G Q 127 (zb_Md_fresh_127 Q K120) := by
  unfold zb_Md_fresh_127
  refine za_ald_n B.1 0 dd_Md_fresh_127 rfl ?_
  refine za_gtR B.1 8 30 zi_8 rfl (by decide) (by decide) rfl zW_486 rfl dd_Md_fresh_128 ?_
  refine za_sip B.1 1600 dd_Md_fresh_131 (by decide) ?_
  refine za_ild_n B.1 1 dd_Md_fresh_134 rfl ?_
  refine za_mul B.1 dd_Md_fresh_135 ?_
  refine za_ild_n B.1 2 dd_Md_fresh_136 rfl ?_
  refine za_add B.1 dd_Md_fresh_137 ?_
  refine za_ico B.1 0 dd_Md_fresh_138 (by decide) ?_
  refine za_zast B.1 dd_Md_fresh_139 ?_
  refine za_inc B.1 1 dd_Md_fresh_140 (by decide) (by decide) ?_
  refine za_goto B.1 120 dd_Md_fresh_143 (by decide) ?_
  exact h120
theorem zr_Md_fresh_120 (B : zs_B p s m args meth c G bb_Md_fresh 3 yy_Md_fresh none) {K120 : zs_P} (h120 : zA_Md_fresh p l e s m args below meth c G Q 120 K120) : zA_Md_fresh p l e s m args below meth c G Q 120 (zb_Md_fresh_120 Q K120) := by
  unfold zb_Md_fresh_120
  refine za_ild_n B.1 2 dd_Md_fresh_120 rfl ?_
  refine za_sip B.1 1600 dd_Md_fresh_121 (by decide) ?_
  exact za_cmp_ge B.1 146 dd_Md_fresh_124 (by decide) (zr_Md_fresh_146 B) (zr_Md_fresh_127 B h120)
theorem zq_Md_fresh_120 (B : zs_B p s m args meth c G bb_Md_fresh 3 yy_Md_fresh none) : zA_Md_fresh p l e s m args below meth c G Q 120 (zl_Md_fresh_120 Q) := za_lop (fun K hK => zr_Md_fresh_120 B hK)
theorem zr_Md_fresh_118 (B : zs_B p s m args meth c G bb_Md_fresh 3 yy_Md_fresh none) : zA_Md_fresh p l e s m args below meth c G Q 118 (zb_Md_fresh_118 Q) := by
  unfold zb_Md_fresh_118
  refine za_ico B.1 0 dd_Md_fresh_118 (by decide) ?_
  refine za_ist_n B.1 2 dd_Md_fresh_119 rfl (by decide) ?_
  exact (zq_Md_fresh_120 B)
theorem zr_Md_fresh_86 (B : zs_B p s m args meth c G bb_Md_fresh 3 yy_Md_fresh none) {K79 : zs_P} (h79 : zA_Md_fresh p l e s m args below meth c G Q 79 K79) : zA_Md_fresh p l e s m args below meth c G Q 86 (zb_Md_fresh_86 Q K79) := by
  unfold zb_Md_fresh_86
  refine za_ald_n B.1 0 dd_Md_fresh_86 rfl ?_
  refine za_gtR B.1 8 28 zi_8 rfl (by decide) (by decide) rfl zW_484 rfl dd_Md_fresh_87 ?_
  refine za_sip B.1 400 dd_Md_fresh_90 (by decide) ?_
  refine za_ild_n B.1 1 dd_Md_fresh_93 rfl ?_
  refine za_mul B.1 dd_Md_fresh_94 ?_
  refine za_ild_n B.1 2 dd_Md_fresh_95 rfl ?_
  refine za_add B.1 dd_Md_fresh_96 ?_
  refine za_ico B.1 0 dd_Md_fresh_97 (by decide) ?_
  refine za_zast B.1 dd_Md_fresh_98 ?_
  refine za_ald_n B.1 0 dd_Md_fresh_99 rfl ?_
  refine za_gtR B.1 8 29 zi_8 rfl (by decide) (by decide) rfl zW_485 rfl dd_Md_fresh_100 ?_
  refine za_sip B.1 400 dd_Md_fresh_103 (by decide) ?_
  refine za_ild_n B.1 1 dd_Md_fresh_106 rfl ?_
  refine za_mul B.1 dd_Md_fresh_107 ?_
  refine za_ild_n B.1 2 dd_Md_fresh_108 rfl ?_
  refine za_add B.1 dd_Md_fresh_109 ?_
  refine za_ico B.1 0 dd_Md_fresh_110 (by decide) ?_
  refine za_zast B.1 dd_Md_fresh_111 ?_
  refine za_inc B.1 1 dd_Md_fresh_112 (by decide) (by decide) ?_
  refine za_goto B.1 79 dd_Md_fresh_115 (by decide) ?_
  exact h79
theorem zr_Md_fresh_79 (B : zs_B p s m args meth c G bb_Md_fresh 3 yy_Md_fresh none) {K79 : zs_P} (h79 : zA_Md_fresh p l e s m args below meth c G Q 79 K79) : zA_Md_fresh p l e s m args below meth c G Q 79 (zb_Md_fresh_79 Q K79) := by
  unfold zb_Md_fresh_79
  refine za_ild_n B.1 2 dd_Md_fresh_79 rfl ?_
  refine za_sip B.1 400 dd_Md_fresh_80 (by decide) ?_
  exact za_cmp_ge B.1 118 dd_Md_fresh_83 (by decide) (zr_Md_fresh_118 B) (zr_Md_fresh_86 B h79)
theorem zq_Md_fresh_79 (B : zs_B p s m args meth c G bb_Md_fresh 3 yy_Md_fresh none) : zA_Md_fresh p l e s m args below meth c G Q 79 (zl_Md_fresh_79 Q) := za_lop (fun K hK => zr_Md_fresh_79 B hK)
theorem zr_Md_fresh_77 (B : zs_B p s m args meth c G bb_Md_fresh 3 yy_Md_fresh none) : zA_Md_fresh p l e s m args below meth c G Q 77 (zb_Md_fresh_77 Q) := by
  unfold zb_Md_fresh_77
  refine za_ico B.1 0 dd_Md_fresh_77 (by decide) ?_
  refine za_ist_n B.1 2 dd_Md_fresh_78 rfl (by decide) ?_
  exact (zq_Md_fresh_79 B)
theorem zr_Md_fresh_55 (B : zs_B p s m args meth c G bb_Md_fresh 3 yy_Md_fresh none) {K50 : zs_P} (h50 : zA_Md_fresh p l e s m args below meth c G Q 50 K50) : zA_Md_fresh p l e s m args below meth c G Q 55 (zb_Md_fresh_55 Q K50) := by
  unfold zb_Md_fresh_55
  refine za_ald_n B.1 0 dd_Md_fresh_55 rfl ?_
  refine za_gtR B.1 8 27 zi_8 rfl (by decide) (by decide) rfl zW_483 rfl dd_Md_fresh_56 ?_
  refine za_ico B.1 4 dd_Md_fresh_59 (by decide) ?_
  refine za_ild_n B.1 1 dd_Md_fresh_60 rfl ?_
  refine za_mul B.1 dd_Md_fresh_61 ?_
  refine za_ild_n B.1 2 dd_Md_fresh_62 rfl ?_
  refine za_add B.1 dd_Md_fresh_63 ?_
  refine za_ald_n B.1 0 dd_Md_fresh_64 rfl ?_
  refine za_gtR B.1 8 25 zi_8 rfl (by decide) (by decide) rfl zW_481 rfl dd_Md_fresh_65 ?_
  refine za_ild_n B.1 1 dd_Md_fresh_68 rfl ?_
  refine za_iald B.1 dd_Md_fresh_69 ?_
  refine za_iast B.1 dd_Md_fresh_70 ?_
  refine za_inc B.1 1 dd_Md_fresh_71 (by decide) (by decide) ?_
  refine za_goto B.1 50 dd_Md_fresh_74 (by decide) ?_
  exact h50
theorem zr_Md_fresh_50 (B : zs_B p s m args meth c G bb_Md_fresh 3 yy_Md_fresh none) {K50 : zs_P} (h50 : zA_Md_fresh p l e s m args below meth c G Q 50 K50) : zA_Md_fresh p l e s m args below meth c G Q 50 (zb_Md_fresh_50 Q K50) := by
  unfold zb_Md_fresh_50
  refine za_ild_n B.1 2 dd_Md_fresh_50 rfl ?_
  refine za_ico B.1 4 dd_Md_fresh_51 (by decide) ?_
  exact za_cmp_ge B.1 77 dd_Md_fresh_52 (by decide) (zr_Md_fresh_77 B) (zr_Md_fresh_55 B h50)
theorem zq_Md_fresh_50 (B : zs_B p s m args meth c G bb_Md_fresh 3 yy_Md_fresh none) : zA_Md_fresh p l e s m args below meth c G Q 50 (zl_Md_fresh_50 Q) := za_lop (fun K hK => zr_Md_fresh_50 B hK)
theorem zr_Md_fresh_36 (B : zs_B p s m args meth c G bb_Md_fresh 3 yy_Md_fresh none) : zA_Md_fresh p l e s m args below meth c G Q 36 (zb_Md_fresh_36 Q) := by
  unfold zb_Md_fresh_36
  refine za_ald_n B.1 0 dd_Md_fresh_36 rfl ?_
  refine za_gtR B.1 8 26 zi_8 rfl (by decide) (by decide) rfl zW_482 rfl dd_Md_fresh_37 ?_
  refine za_ild_n B.1 1 dd_Md_fresh_40 rfl ?_
  refine za_ald_n B.1 0 dd_Md_fresh_41 rfl ?_
  refine za_gtR B.1 8 25 zi_8 rfl (by decide) (by decide) rfl zW_481 rfl dd_Md_fresh_42 ?_
  refine za_ild_n B.1 1 dd_Md_fresh_45 rfl ?_
  refine za_iald B.1 dd_Md_fresh_46 ?_
  refine za_iast B.1 dd_Md_fresh_47 ?_
  refine za_ico B.1 0 dd_Md_fresh_48 (by decide) ?_
  refine za_ist_n B.1 2 dd_Md_fresh_49 rfl (by decide) ?_
  exact (zq_Md_fresh_50 B)
theorem zr_Md_fresh_8 (B : zs_B p s m args meth c G bb_Md_fresh 3 yy_Md_fresh none) {K2 : zs_P} (h2 : zA_Md_fresh p l e s m args below meth c G Q 2 K2) : zA_Md_fresh p l e s m args below meth c G Q 8 (zb_Md_fresh_8 Q K2) := by
  unfold zb_Md_fresh_8
  refine za_ald_n B.1 0 dd_Md_fresh_8 rfl ?_
  refine za_gtR B.1 8 23 zi_8 rfl (by decide) (by decide) rfl zW_479 rfl dd_Md_fresh_9 ?_
  refine za_bip B.1 12 dd_Md_fresh_12 (by decide) ?_
  refine za_ild_n B.1 1 dd_Md_fresh_14 rfl ?_
  refine za_mul B.1 dd_Md_fresh_15 ?_
  refine za_ild_n B.1 2 dd_Md_fresh_16 rfl ?_
  refine za_add B.1 dd_Md_fresh_17 ?_
  refine za_ald_n B.1 0 dd_Md_fresh_18 rfl ?_
  refine za_gtR B.1 8 24 zi_8 rfl (by decide) (by decide) rfl zW_480 rfl dd_Md_fresh_19 ?_
  refine za_bip B.1 12 dd_Md_fresh_22 (by decide) ?_
  refine za_ild_n B.1 1 dd_Md_fresh_24 rfl ?_
  refine za_mul B.1 dd_Md_fresh_25 ?_
  refine za_ild_n B.1 2 dd_Md_fresh_26 rfl ?_
  refine za_add B.1 dd_Md_fresh_27 ?_
  refine za_iald B.1 dd_Md_fresh_28 ?_
  refine za_iast B.1 dd_Md_fresh_29 ?_
  refine za_inc B.1 1 dd_Md_fresh_30 (by decide) (by decide) ?_
  refine za_goto B.1 2 dd_Md_fresh_33 (by decide) ?_
  exact h2
theorem zr_Md_fresh_2 (B : zs_B p s m args meth c G bb_Md_fresh 3 yy_Md_fresh none) {K2 : zs_P} (h2 : zA_Md_fresh p l e s m args below meth c G Q 2 K2) : zA_Md_fresh p l e s m args below meth c G Q 2 (zb_Md_fresh_2 Q K2) := by
  unfold zb_Md_fresh_2
  refine za_ild_n B.1 2 dd_Md_fresh_2 rfl ?_
  refine za_bip B.1 12 dd_Md_fresh_3 (by decide) ?_
  exact za_cmp_ge B.1 36 dd_Md_fresh_5 (by decide) (zr_Md_fresh_36 B) (zr_Md_fresh_8 B h2)
theorem zq_Md_fresh_2 (B : zs_B p s m args meth c G bb_Md_fresh 3 yy_Md_fresh none) : zA_Md_fresh p l e s m args below meth c G Q 2 (zl_Md_fresh_2 Q) := za_lop (fun K hK => zr_Md_fresh_2 B hK)
theorem zr_Md_fresh_0 (B : zs_B p s m args meth c G bb_Md_fresh 3 yy_Md_fresh none) : zA_Md_fresh p l e s m args below meth c G Q 0 (zb_Md_fresh_0 Q) := by
  unfold zb_Md_fresh_0
  refine za_ico B.1 0 dd_Md_fresh_0 (by decide) ?_
  refine za_ist_n B.1 2 dd_Md_fresh_1 rfl (by decide) ?_
  exact (zq_Md_fresh_2 B)
end
theorem zm_Md_fresh (l : Launch) (G : zs_G) (As : List Value) (σ : zs_S) (Q : zs_Q) (h : zw_Md_fresh As σ Q) : zs_Met l yy_Md_fresh (Cond.code yy_Md_fresh bb_Md_fresh 3 none :: zw_all) zk_Md_fresh G As σ Q 0 0 := by
  unfold zw_Md_fresh at h
  split at h
  · exact zs_enter (by decide +kernel) h.1 (Nat.le_of_ble_eq_true rfl) h.2 (fun p e s m args below meth c B => zr_Md_fresh_0 B)
  · exact h.elim
