/-! Methods: SB_isKey, Tr_looksAtB, Tr_isAllowed, Sq_batchIsFull, Tr_keysWritten, Tr_init, Sq_gather, SB_submit, Sq_hasRoomForSlot, Po_isCrowded, Sl_init (made by program) -/
-- SequencedBatches.isKey(I)Z
theorem dd_SB_isKey_0 : decode bb_SB_isKey 0 = .ok (.iload_n 0, 1) := by decide +kernel
theorem dd_SB_isKey_1 : decode bb_SB_isKey 1 = .ok (.ifCond .lt 13, 3) := by decide +kernel
theorem dd_SB_isKey_4 : decode bb_SB_isKey 4 = .ok (.iload_n 0, 1) := by decide +kernel
theorem dd_SB_isKey_5 : decode bb_SB_isKey 5 = .ok (.bipush 12, 2) := by decide +kernel
theorem dd_SB_isKey_7 : decode bb_SB_isKey 7 = .ok (.if_icmp .ge 7, 3) := by decide +kernel
theorem dd_SB_isKey_10 : decode bb_SB_isKey 10 = .ok (.iconst 1, 1) := by decide +kernel
theorem dd_SB_isKey_11 : decode bb_SB_isKey 11 = .ok (.goto 4, 3) := by decide +kernel
theorem dd_SB_isKey_14 : decode bb_SB_isKey 14 = .ok (.iconst 0, 1) := by decide +kernel
theorem dd_SB_isKey_15 : decode bb_SB_isKey 15 = .ok (.ireturn, 1) := by decide +kernel
def zk_SB_isKey : Room := { frames := 0, cells := 0, slots := 0, locals := 0 }
abbrev zA_SB_isKey (p : Program) (l : Launch) (e : Env) (s : State) (m : MethodId) (args : Array Value) (below : List Frame) (meth : Method) (c : Code) (G : zs_G) (Q : zs_Q) (pc : Nat) (P : zs_P) : Prop := zs_At p l e zk_SB_isKey s m args below meth c (MQ below (zs_Qc G Q) args s 0 0 (fun q => zg_z G ≤ q)) G 1 pc P
def zb_SB_isKey_15 (Q : zs_Q) : zs_P := zt_zrt 0 0 Q
def zb_SB_isKey_14 (Q : zs_Q) : zs_P := zt_psh 0 ((zb_SB_isKey_15 Q))
def zb_SB_isKey_10 (Q : zs_Q) : zs_P := zt_psh 1 ((zb_SB_isKey_15 Q))
def zb_SB_isKey_4 (Q : zs_Q) : zs_P := zt_ild 0 (zt_psh 12 (zt_cmp (fun x y => y ≤ x) (zb_SB_isKey_14 Q) (zb_SB_isKey_10 Q)))
def zb_SB_isKey_0 (Q : zs_Q) : zs_P := zt_ild 0 (zt_if (fun x => x < 0) (zb_SB_isKey_14 Q) (zb_SB_isKey_4 Q))
def zw_SB_isKey : zs_W := fun As σ Q => match As with
  | [a0] => zs_c1 [a0] = true ∧ zb_SB_isKey_0 Q [some a0] [] σ 0 0
  | _ => False
section
variable {p : Program} {l : Launch} {e : Env} {s : State} {m : MethodId} {args : Array Value} {below : List Frame} {meth : Method} {c : Code} {G : zs_G} {Q : zs_Q}
theorem zr_SB_isKey_15 (B : zs_B p s m args meth c G bb_SB_isKey 1 yy_SB_isKey (some .boolean)) : zA_SB_isKey p l e s m args below meth c G Q 15 (zb_SB_isKey_15 Q) := by
  unfold zb_SB_isKey_15
  exact za_zrt B.1 0 0 B.2.1 B.2.2.1 dd_SB_isKey_15
theorem zr_SB_isKey_14 (B : zs_B p s m args meth c G bb_SB_isKey 1 yy_SB_isKey (some .boolean)) : zA_SB_isKey p l e s m args below meth c G Q 14 (zb_SB_isKey_14 Q) := by
  unfold zb_SB_isKey_14
  refine za_ico B.1 0 dd_SB_isKey_14 (by decide) ?_
  exact (zr_SB_isKey_15 B)
theorem zr_SB_isKey_10 (B : zs_B p s m args meth c G bb_SB_isKey 1 yy_SB_isKey (some .boolean)) : zA_SB_isKey p l e s m args below meth c G Q 10 (zb_SB_isKey_10 Q) := by
  unfold zb_SB_isKey_10
  refine za_ico B.1 1 dd_SB_isKey_10 (by decide) ?_
  refine za_goto B.1 15 dd_SB_isKey_11 (by decide) ?_
  exact (zr_SB_isKey_15 B)
theorem zr_SB_isKey_4 (B : zs_B p s m args meth c G bb_SB_isKey 1 yy_SB_isKey (some .boolean)) : zA_SB_isKey p l e s m args below meth c G Q 4 (zb_SB_isKey_4 Q) := by
  unfold zb_SB_isKey_4
  refine za_ild_n B.1 0 dd_SB_isKey_4 rfl ?_
  refine za_bip B.1 12 dd_SB_isKey_5 (by decide) ?_
  exact za_cmp_ge B.1 14 dd_SB_isKey_7 (by decide) (zr_SB_isKey_14 B) (zr_SB_isKey_10 B)
theorem zr_SB_isKey_0 (B : zs_B p s m args meth c G bb_SB_isKey 1 yy_SB_isKey (some .boolean)) : zA_SB_isKey p l e s m args below meth c G Q 0 (zb_SB_isKey_0 Q) := by
  unfold zb_SB_isKey_0
  refine za_ild_n B.1 0 dd_SB_isKey_0 rfl ?_
  exact za_if_lt B.1 14 dd_SB_isKey_1 (by decide) (zr_SB_isKey_14 B) (zr_SB_isKey_4 B)
end
theorem zm_SB_isKey (l : Launch) (G : zs_G) (As : List Value) (σ : zs_S) (Q : zs_Q) (h : zw_SB_isKey As σ Q) : zs_Met l yy_SB_isKey (Cond.code yy_SB_isKey bb_SB_isKey 1 (some .boolean) :: zw_all) zk_SB_isKey G As σ Q 0 0 := by
  unfold zw_SB_isKey at h
  split at h
  · exact zs_enter (by decide +kernel) h.1 (Nat.le_of_ble_eq_true rfl) h.2 (fun p e s m args below meth c B => zr_SB_isKey_0 B)
  · exact h.elim
-- SequencedBatches$Transaction.looksAtB(I)Z
theorem dd_Tr_looksAtB_0 : decode bb_Tr_looksAtB 0 = .ok (.iload_n 0, 1) := by decide +kernel
theorem dd_Tr_looksAtB_1 : decode bb_Tr_looksAtB 1 = .ok (.iconst 2, 1) := by decide +kernel
theorem dd_Tr_looksAtB_2 : decode bb_Tr_looksAtB 2 = .ok (.if_icmp .eq 12, 3) := by decide +kernel
theorem dd_Tr_looksAtB_5 : decode bb_Tr_looksAtB 5 = .ok (.iload_n 0, 1) := by decide +kernel
theorem dd_Tr_looksAtB_6 : decode bb_Tr_looksAtB 6 = .ok (.iconst 4, 1) := by decide +kernel
theorem dd_Tr_looksAtB_7 : decode bb_Tr_looksAtB 7 = .ok (.if_icmp .eq 7, 3) := by decide +kernel
theorem dd_Tr_looksAtB_10 : decode bb_Tr_looksAtB 10 = .ok (.iconst 1, 1) := by decide +kernel
theorem dd_Tr_looksAtB_11 : decode bb_Tr_looksAtB 11 = .ok (.goto 4, 3) := by decide +kernel
theorem dd_Tr_looksAtB_14 : decode bb_Tr_looksAtB 14 = .ok (.iconst 0, 1) := by decide +kernel
theorem dd_Tr_looksAtB_15 : decode bb_Tr_looksAtB 15 = .ok (.ireturn, 1) := by decide +kernel
def zk_Tr_looksAtB : Room := { frames := 0, cells := 0, slots := 0, locals := 0 }
abbrev zA_Tr_looksAtB (p : Program) (l : Launch) (e : Env) (s : State) (m : MethodId) (args : Array Value) (below : List Frame) (meth : Method) (c : Code) (G : zs_G) (Q : zs_Q) (pc : Nat) (P : zs_P) : Prop := zs_At p l e zk_Tr_looksAtB s m args below meth c (MQ below (zs_Qc G Q) args s 0 0 (fun q => zg_z G ≤ q)) G 1 pc P
def zb_Tr_looksAtB_15 (Q : zs_Q) : zs_P := zt_zrt 0 0 Q
def zb_Tr_looksAtB_14 (Q : zs_Q) : zs_P := zt_psh 0 ((zb_Tr_looksAtB_15 Q))
def zb_Tr_looksAtB_10 (Q : zs_Q) : zs_P := zt_psh 1 ((zb_Tr_looksAtB_15 Q))
def zb_Tr_looksAtB_5 (Q : zs_Q) : zs_P := zt_ild 0 (zt_psh 4 (zt_cmp (fun x y => x = y) (zb_Tr_looksAtB_14 Q) (zb_Tr_looksAtB_10 Q)))
def zb_Tr_looksAtB_0 (Q : zs_Q) : zs_P := zt_ild 0 (zt_psh 2 (zt_cmp (fun x y => x = y) (zb_Tr_looksAtB_14 Q) (zb_Tr_looksAtB_5 Q)))
def zw_Tr_looksAtB : zs_W := fun As σ Q => match As with
  | [a0] => zs_c1 [a0] = true ∧ zb_Tr_looksAtB_0 Q [some a0] [] σ 0 0
  | _ => False
section
variable {p : Program} {l : Launch} {e : Env} {s : State} {m : MethodId} {args : Array Value} {below : List Frame} {meth : Method} {c : Code} {G : zs_G} {Q : zs_Q}
theorem zr_Tr_looksAtB_15 (B : zs_B p s m args meth c G bb_Tr_looksAtB 1 yy_Tr_looksAtB (some .boolean)) : zA_Tr_looksAtB p l e s m args below meth c G Q 15 (zb_Tr_looksAtB_15 Q) := by
  unfold zb_Tr_looksAtB_15
  exact za_zrt B.1 0 0 B.2.1 B.2.2.1 dd_Tr_looksAtB_15
theorem zr_Tr_looksAtB_14 (B : zs_B p s m args meth c G bb_Tr_looksAtB 1 yy_Tr_looksAtB (some .boolean)) : zA_Tr_looksAtB p l e s m args below meth c G Q 14 (zb_Tr_looksAtB_14 Q) := by
  unfold zb_Tr_looksAtB_14
  refine za_ico B.1 0 dd_Tr_looksAtB_14 (by decide) ?_
  exact (zr_Tr_looksAtB_15 B)
theorem zr_Tr_looksAtB_10 (B : zs_B p s m args meth c G bb_Tr_looksAtB 1 yy_Tr_looksAtB (some .boolean)) : zA_Tr_looksAtB p l e s m args below meth c G Q 10 (zb_Tr_looksAtB_10 Q) := by
  unfold zb_Tr_looksAtB_10
  refine za_ico B.1 1 dd_Tr_looksAtB_10 (by decide) ?_
  refine za_goto B.1 15 dd_Tr_looksAtB_11 (by decide) ?_
  exact (zr_Tr_looksAtB_15 B)
theorem zr_Tr_looksAtB_5 (B : zs_B p s m args meth c G bb_Tr_looksAtB 1 yy_Tr_looksAtB (some .boolean)) : zA_Tr_looksAtB p l e s m args below meth c G Q 5 (zb_Tr_looksAtB_5 Q) := by
  unfold zb_Tr_looksAtB_5
  refine za_ild_n B.1 0 dd_Tr_looksAtB_5 rfl ?_
  refine za_ico B.1 4 dd_Tr_looksAtB_6 (by decide) ?_
  exact za_cmp_eq B.1 14 dd_Tr_looksAtB_7 (by decide) (zr_Tr_looksAtB_14 B) (zr_Tr_looksAtB_10 B)
theorem zr_Tr_looksAtB_0 (B : zs_B p s m args meth c G bb_Tr_looksAtB 1 yy_Tr_looksAtB (some .boolean)) : zA_Tr_looksAtB p l e s m args below meth c G Q 0 (zb_Tr_looksAtB_0 Q) := by
  unfold zb_Tr_looksAtB_0
  refine za_ild_n B.1 0 dd_Tr_looksAtB_0 rfl ?_
  refine za_ico B.1 2 dd_Tr_looksAtB_1 (by decide) ?_
  exact za_cmp_eq B.1 14 dd_Tr_looksAtB_2 (by decide) (zr_Tr_looksAtB_14 B) (zr_Tr_looksAtB_5 B)
end
theorem zm_Tr_looksAtB (l : Launch) (G : zs_G) (As : List Value) (σ : zs_S) (Q : zs_Q) (h : zw_Tr_looksAtB As σ Q) : zs_Met l yy_Tr_looksAtB (Cond.code yy_Tr_looksAtB bb_Tr_looksAtB 1 (some .boolean) :: zw_all) zk_Tr_looksAtB G As σ Q 0 0 := by
  unfold zw_Tr_looksAtB at h
  split at h
  · exact zs_enter (by decide +kernel) h.1 (Nat.le_of_ble_eq_true rfl) h.2 (fun p e s m args below meth c B => zr_Tr_looksAtB_0 B)
  · exact h.elim
-- SequencedBatches$Transaction.isAllowed(IIII)Z
theorem dd_Tr_isAllowed_0 : decode bb_Tr_isAllowed 0 = .ok (.iload_n 0, 1) := by decide +kernel
theorem dd_Tr_isAllowed_1 : decode bb_Tr_isAllowed 1 = .ok (.ifCond .lt 29, 3) := by decide +kernel
theorem dd_Tr_isAllowed_4 : decode bb_Tr_isAllowed 4 = .ok (.iload_n 0, 1) := by decide +kernel
theorem dd_Tr_isAllowed_5 : decode bb_Tr_isAllowed 5 = .ok (.iconst 5, 1) := by decide +kernel
theorem dd_Tr_isAllowed_6 : decode bb_Tr_isAllowed 6 = .ok (.if_icmp .gt 24, 3) := by decide +kernel
theorem dd_Tr_isAllowed_9 : decode bb_Tr_isAllowed 9 = .ok (.iload_n 1, 1) := by decide +kernel
theorem dd_Tr_isAllowed_10 : decode bb_Tr_isAllowed 10 = .ok (.invokestatic 47, 3) := by decide +kernel
theorem dd_Tr_isAllowed_13 : decode bb_Tr_isAllowed 13 = .ok (.ifCond .eq 17, 3) := by decide +kernel
theorem dd_Tr_isAllowed_16 : decode bb_Tr_isAllowed 16 = .ok (.iload_n 0, 1) := by decide +kernel
theorem dd_Tr_isAllowed_17 : decode bb_Tr_isAllowed 17 = .ok (.invokestatic 27, 3) := by decide +kernel
theorem dd_Tr_isAllowed_20 : decode bb_Tr_isAllowed 20 = .ok (.ifCond .eq 12, 3) := by decide +kernel
theorem dd_Tr_isAllowed_23 : decode bb_Tr_isAllowed 23 = .ok (.iload_n 2, 1) := by decide +kernel
theorem dd_Tr_isAllowed_24 : decode bb_Tr_isAllowed 24 = .ok (.invokestatic 47, 3) := by decide +kernel
theorem dd_Tr_isAllowed_27 : decode bb_Tr_isAllowed 27 = .ok (.ifCond .ne 5, 3) := by decide +kernel
theorem dd_Tr_isAllowed_30 : decode bb_Tr_isAllowed 30 = .ok (.iconst 0, 1) := by decide +kernel
theorem dd_Tr_isAllowed_31 : decode bb_Tr_isAllowed 31 = .ok (.ireturn, 1) := by decide +kernel
theorem dd_Tr_isAllowed_32 : decode bb_Tr_isAllowed 32 = .ok (.iload_n 0, 1) := by decide +kernel
theorem dd_Tr_isAllowed_33 : decode bb_Tr_isAllowed 33 = .ok (.tableswitch 80 0 3 #[31, 46, 80, 69], 31) := by decide +kernel
theorem dd_Tr_isAllowed_64 : decode bb_Tr_isAllowed 64 = .ok (.iload_n 1, 1) := by decide +kernel
theorem dd_Tr_isAllowed_65 : decode bb_Tr_isAllowed 65 = .ok (.iload_n 2, 1) := by decide +kernel
theorem dd_Tr_isAllowed_66 : decode bb_Tr_isAllowed 66 = .ok (.if_icmp .eq 11, 3) := by decide +kernel
theorem dd_Tr_isAllowed_69 : decode bb_Tr_isAllowed 69 = .ok (.iload_n 3, 1) := by decide +kernel
theorem dd_Tr_isAllowed_70 : decode bb_Tr_isAllowed 70 = .ok (.ifCond .lt 7, 3) := by decide +kernel
theorem dd_Tr_isAllowed_73 : decode bb_Tr_isAllowed 73 = .ok (.iconst 1, 1) := by decide +kernel
theorem dd_Tr_isAllowed_74 : decode bb_Tr_isAllowed 74 = .ok (.goto 4, 3) := by decide +kernel
theorem dd_Tr_isAllowed_77 : decode bb_Tr_isAllowed 77 = .ok (.iconst 0, 1) := by decide +kernel
theorem dd_Tr_isAllowed_78 : decode bb_Tr_isAllowed 78 = .ok (.ireturn, 1) := by decide +kernel
theorem dd_Tr_isAllowed_79 : decode bb_Tr_isAllowed 79 = .ok (.iload_n 3, 1) := by decide +kernel
theorem dd_Tr_isAllowed_80 : decode bb_Tr_isAllowed 80 = .ok (.invokestatic 47, 3) := by decide +kernel
theorem dd_Tr_isAllowed_83 : decode bb_Tr_isAllowed 83 = .ok (.ifCond .eq 17, 3) := by decide +kernel
theorem dd_Tr_isAllowed_86 : decode bb_Tr_isAllowed 86 = .ok (.iload_n 3, 1) := by decide +kernel
theorem dd_Tr_isAllowed_87 : decode bb_Tr_isAllowed 87 = .ok (.iload_n 1, 1) := by decide +kernel
theorem dd_Tr_isAllowed_88 : decode bb_Tr_isAllowed 88 = .ok (.if_icmp .eq 12, 3) := by decide +kernel
theorem dd_Tr_isAllowed_91 : decode bb_Tr_isAllowed 91 = .ok (.iload_n 3, 1) := by decide +kernel
theorem dd_Tr_isAllowed_92 : decode bb_Tr_isAllowed 92 = .ok (.iload_n 2, 1) := by decide +kernel
theorem dd_Tr_isAllowed_93 : decode bb_Tr_isAllowed 93 = .ok (.if_icmp .eq 7, 3) := by decide +kernel
theorem dd_Tr_isAllowed_96 : decode bb_Tr_isAllowed 96 = .ok (.iconst 1, 1) := by decide +kernel
theorem dd_Tr_isAllowed_97 : decode bb_Tr_isAllowed 97 = .ok (.goto 4, 3) := by decide +kernel
theorem dd_Tr_isAllowed_100 : decode bb_Tr_isAllowed 100 = .ok (.iconst 0, 1) := by decide +kernel
theorem dd_Tr_isAllowed_101 : decode bb_Tr_isAllowed 101 = .ok (.ireturn, 1) := by decide +kernel
theorem dd_Tr_isAllowed_102 : decode bb_Tr_isAllowed 102 = .ok (.iload_n 1, 1) := by decide +kernel
theorem dd_Tr_isAllowed_103 : decode bb_Tr_isAllowed 103 = .ok (.iload_n 2, 1) := by decide +kernel
theorem dd_Tr_isAllowed_104 : decode bb_Tr_isAllowed 104 = .ok (.if_icmp .eq 7, 3) := by decide +kernel
theorem dd_Tr_isAllowed_107 : decode bb_Tr_isAllowed 107 = .ok (.iconst 1, 1) := by decide +kernel
theorem dd_Tr_isAllowed_108 : decode bb_Tr_isAllowed 108 = .ok (.goto 4, 3) := by decide +kernel
theorem dd_Tr_isAllowed_111 : decode bb_Tr_isAllowed 111 = .ok (.iconst 0, 1) := by decide +kernel
theorem dd_Tr_isAllowed_112 : decode bb_Tr_isAllowed 112 = .ok (.ireturn, 1) := by decide +kernel
theorem dd_Tr_isAllowed_113 : decode bb_Tr_isAllowed 113 = .ok (.iconst 1, 1) := by decide +kernel
theorem dd_Tr_isAllowed_114 : decode bb_Tr_isAllowed 114 = .ok (.ireturn, 1) := by decide +kernel
def zk_Tr_isAllowed : Room := { frames := 1, cells := 0, slots := 0, locals := 20 }
abbrev zA_Tr_isAllowed (p : Program) (l : Launch) (e : Env) (s : State) (m : MethodId) (args : Array Value) (below : List Frame) (meth : Method) (c : Code) (G : zs_G) (Q : zs_Q) (pc : Nat) (P : zs_P) : Prop := zs_At p l e zk_Tr_isAllowed s m args below meth c (MQ below (zs_Qc G Q) args s 0 0 (fun q => zg_z G ≤ q)) G 4 pc P
def zb_Tr_isAllowed_30 (Q : zs_Q) : zs_P := zt_psh 0 (zt_zrt 0 0 Q)
def zb_Tr_isAllowed_78 (Q : zs_Q) : zs_P := zt_zrt 0 0 Q
def zb_Tr_isAllowed_77 (Q : zs_Q) : zs_P := zt_psh 0 ((zb_Tr_isAllowed_78 Q))
def zb_Tr_isAllowed_73 (Q : zs_Q) : zs_P := zt_psh 1 ((zb_Tr_isAllowed_78 Q))
def zb_Tr_isAllowed_69 (Q : zs_Q) : zs_P := zt_ild 3 (zt_if (fun x => x < 0) (zb_Tr_isAllowed_77 Q) (zb_Tr_isAllowed_73 Q))
def zb_Tr_isAllowed_64 (Q : zs_Q) : zs_P := zt_ild 1 (zt_ild 2 (zt_cmp (fun x y => x = y) (zb_Tr_isAllowed_77 Q) (zb_Tr_isAllowed_69 Q)))
def zb_Tr_isAllowed_101 (Q : zs_Q) : zs_P := zt_zrt 0 0 Q
def zb_Tr_isAllowed_100 (Q : zs_Q) : zs_P := zt_psh 0 ((zb_Tr_isAllowed_101 Q))
def zb_Tr_isAllowed_96 (Q : zs_Q) : zs_P := zt_psh 1 ((zb_Tr_isAllowed_101 Q))
def zb_Tr_isAllowed_91 (Q : zs_Q) : zs_P := zt_ild 3 (zt_ild 2 (zt_cmp (fun x y => x = y) (zb_Tr_isAllowed_100 Q) (zb_Tr_isAllowed_96 Q)))
def zb_Tr_isAllowed_86 (Q : zs_Q) : zs_P := zt_ild 3 (zt_ild 1 (zt_cmp (fun x y => x = y) (zb_Tr_isAllowed_100 Q) (zb_Tr_isAllowed_91 Q)))
def zb_Tr_isAllowed_79 (Q : zs_Q) : zs_P := zt_ild 3 (zt_cal zw_SB_isKey 1 0 0 0 0 (zt_if (fun x => x = 0) (zb_Tr_isAllowed_100 Q) (zb_Tr_isAllowed_86 Q)))
def zb_Tr_isAllowed_113 (Q : zs_Q) : zs_P := zt_psh 1 (zt_zrt 0 0 Q)
def zb_Tr_isAllowed_112 (Q : zs_Q) : zs_P := zt_zrt 0 0 Q
def zb_Tr_isAllowed_111 (Q : zs_Q) : zs_P := zt_psh 0 ((zb_Tr_isAllowed_112 Q))
def zb_Tr_isAllowed_107 (Q : zs_Q) : zs_P := zt_psh 1 ((zb_Tr_isAllowed_112 Q))
def zb_Tr_isAllowed_102 (Q : zs_Q) : zs_P := zt_ild 1 (zt_ild 2 (zt_cmp (fun x y => x = y) (zb_Tr_isAllowed_111 Q) (zb_Tr_isAllowed_107 Q)))
def zb_Tr_isAllowed_32 (Q : zs_Q) : zs_P := zt_ild 0 (zt_cas 0 (zb_Tr_isAllowed_64 Q) (zt_cas 1 (zb_Tr_isAllowed_79 Q) (zt_cas 2 (zb_Tr_isAllowed_113 Q) (zt_cas 3 (zb_Tr_isAllowed_102 Q) (zt_dfl (zb_Tr_isAllowed_113 Q))))))
def zb_Tr_isAllowed_23 (Q : zs_Q) : zs_P := zt_ild 2 (zt_cal zw_SB_isKey 1 0 0 0 0 (zt_if (fun x => x = 0) (zb_Tr_isAllowed_30 Q) (zb_Tr_isAllowed_32 Q)))
def zb_Tr_isAllowed_16 (Q : zs_Q) : zs_P := zt_ild 0 (zt_cal zw_Tr_looksAtB 1 0 0 0 0 (zt_if (fun x => x = 0) (zb_Tr_isAllowed_32 Q) (zb_Tr_isAllowed_23 Q)))
def zb_Tr_isAllowed_9 (Q : zs_Q) : zs_P := zt_ild 1 (zt_cal zw_SB_isKey 1 0 0 0 0 (zt_if (fun x => x = 0) (zb_Tr_isAllowed_30 Q) (zb_Tr_isAllowed_16 Q)))
def zb_Tr_isAllowed_4 (Q : zs_Q) : zs_P := zt_ild 0 (zt_psh 5 (zt_cmp (fun x y => y < x) (zb_Tr_isAllowed_30 Q) (zb_Tr_isAllowed_9 Q)))
def zb_Tr_isAllowed_0 (Q : zs_Q) : zs_P := zt_ild 0 (zt_if (fun x => x < 0) (zb_Tr_isAllowed_30 Q) (zb_Tr_isAllowed_4 Q))
def zw_Tr_isAllowed : zs_W := fun As σ Q => match As with
  | [a0, a1, a2, a3] => zs_c1 [a0, a1, a2, a3] = true ∧ zb_Tr_isAllowed_0 Q [some a0, some a1, some a2, some a3] [] σ 0 0
  | _ => False
section
variable {p : Program} {l : Launch} {e : Env} {s : State} {m : MethodId} {args : Array Value} {below : List Frame} {meth : Method} {c : Code} {G : zs_G} {Q : zs_Q}
theorem zr_Tr_isAllowed_30 (B : zs_B p s m args meth c G bb_Tr_isAllowed 4 yy_Tr_isAllowed (some .boolean)) : zA_Tr_isAllowed p l e s m args below meth c G Q 30 (zb_Tr_isAllowed_30 Q) := by
  unfold zb_Tr_isAllowed_30
  refine za_ico B.1 0 dd_Tr_isAllowed_30 (by decide) ?_
  exact za_zrt B.1 0 0 B.2.1 B.2.2.1 dd_Tr_isAllowed_31
theorem zr_Tr_isAllowed_78 (B : zs_B p s m args meth c G bb_Tr_isAllowed 4 yy_Tr_isAllowed (some .boolean)) : zA_Tr_isAllowed p l e s m args below meth c G Q 78 (zb_Tr_isAllowed_78 Q) := by
  unfold zb_Tr_isAllowed_78
  exact za_zrt B.1 0 0 B.2.1 B.2.2.1 dd_Tr_isAllowed_78
theorem zr_Tr_isAllowed_77 (B : zs_B p s m args meth c G bb_Tr_isAllowed 4 yy_Tr_isAllowed (some .boolean)) : zA_Tr_isAllowed p l e s m args below meth c G Q 77 (zb_Tr_isAllowed_77 Q) := by
  unfold zb_Tr_isAllowed_77
  refine za_ico B.1 0 dd_Tr_isAllowed_77 (by decide) ?_
  exact (zr_Tr_isAllowed_78 B)
theorem zr_Tr_isAllowed_73 (B : zs_B p s m args meth c G bb_Tr_isAllowed 4 yy_Tr_isAllowed (some .boolean)) : zA_Tr_isAllowed p l e s m args below meth c G Q 73 (zb_Tr_isAllowed_73 Q) := by
  unfold zb_Tr_isAllowed_73
  refine za_ico B.1 1 dd_Tr_isAllowed_73 (by decide) ?_
  refine za_goto B.1 78 dd_Tr_isAllowed_74 (by decide) ?_
  exact (zr_Tr_isAllowed_78 B)
theorem zr_Tr_isAllowed_69 (B : zs_B p s m args meth c G bb_Tr_isAllowed 4 yy_Tr_isAllowed (some .boolean)) : zA_Tr_isAllowed p l e s m args below meth c G Q 69 (zb_Tr_isAllowed_69 Q) := by
  unfold zb_Tr_isAllowed_69
  refine za_ild_n B.1 3 dd_Tr_isAllowed_69 rfl ?_
  exact za_if_lt B.1 77 dd_Tr_isAllowed_70 (by decide) (zr_Tr_isAllowed_77 B) (zr_Tr_isAllowed_73 B)
theorem zr_Tr_isAllowed_64 (B : zs_B p s m args meth c G bb_Tr_isAllowed 4 yy_Tr_isAllowed (some .boolean)) : zA_Tr_isAllowed p l e s m args below meth c G Q 64 (zb_Tr_isAllowed_64 Q) := by
  unfold zb_Tr_isAllowed_64
  refine za_ild_n B.1 1 dd_Tr_isAllowed_64 rfl ?_
  refine za_ild_n B.1 2 dd_Tr_isAllowed_65 rfl ?_
  exact za_cmp_eq B.1 77 dd_Tr_isAllowed_66 (by decide) (zr_Tr_isAllowed_77 B) (zr_Tr_isAllowed_69 B)
theorem zr_Tr_isAllowed_101 (B : zs_B p s m args meth c G bb_Tr_isAllowed 4 yy_Tr_isAllowed (some .boolean)) : zA_Tr_isAllowed p l e s m args below meth c G Q 101 (zb_Tr_isAllowed_101 Q) := by
  unfold zb_Tr_isAllowed_101
  exact za_zrt B.1 0 0 B.2.1 B.2.2.1 dd_Tr_isAllowed_101
theorem zr_Tr_isAllowed_100 (B : zs_B p s m args meth c G bb_Tr_isAllowed 4 yy_Tr_isAllowed (some .boolean)) : zA_Tr_isAllowed p l e s m args below meth c G Q 100 (zb_Tr_isAllowed_100 Q) := by
  unfold zb_Tr_isAllowed_100
  refine za_ico B.1 0 dd_Tr_isAllowed_100 (by decide) ?_
  exact (zr_Tr_isAllowed_101 B)
theorem zr_Tr_isAllowed_96 (B : zs_B p s m args meth c G bb_Tr_isAllowed 4 yy_Tr_isAllowed (some .boolean)) : zA_Tr_isAllowed p l e s m args below meth c G Q 96 (zb_Tr_isAllowed_96 Q) := by
  unfold zb_Tr_isAllowed_96
  refine za_ico B.1 1 dd_Tr_isAllowed_96 (by decide) ?_
  refine za_goto B.1 101 dd_Tr_isAllowed_97 (by decide) ?_
  exact (zr_Tr_isAllowed_101 B)
theorem zr_Tr_isAllowed_91 (B : zs_B p s m args meth c G bb_Tr_isAllowed 4 yy_Tr_isAllowed (some .boolean)) : zA_Tr_isAllowed p l e s m args below meth c G Q 91 (zb_Tr_isAllowed_91 Q) := by
  unfold zb_Tr_isAllowed_91
  refine za_ild_n B.1 3 dd_Tr_isAllowed_91 rfl ?_
  refine za_ild_n B.1 2 dd_Tr_isAllowed_92 rfl ?_
  exact za_cmp_eq B.1 100 dd_Tr_isAllowed_93 (by decide) (zr_Tr_isAllowed_100 B) (zr_Tr_isAllowed_96 B)
theorem zr_Tr_isAllowed_86 (B : zs_B p s m args meth c G bb_Tr_isAllowed 4 yy_Tr_isAllowed (some .boolean)) : zA_Tr_isAllowed p l e s m args below meth c G Q 86 (zb_Tr_isAllowed_86 Q) := by
  unfold zb_Tr_isAllowed_86
  refine za_ild_n B.1 3 dd_Tr_isAllowed_86 rfl ?_
  refine za_ild_n B.1 1 dd_Tr_isAllowed_87 rfl ?_
  exact za_cmp_eq B.1 100 dd_Tr_isAllowed_88 (by decide) (zr_Tr_isAllowed_100 B) (zr_Tr_isAllowed_91 B)
theorem zr_Tr_isAllowed_79 (B : zs_B p s m args meth c G bb_Tr_isAllowed 4 yy_Tr_isAllowed (some .boolean)) : zA_Tr_isAllowed p l e s m args below meth c G Q 79 (zb_Tr_isAllowed_79 Q) := by
  unfold zb_Tr_isAllowed_79
  refine za_ild_n B.1 3 dd_Tr_isAllowed_79 rfl ?_
  refine za_cSN B.1 1 0 0 0 0 rfl rfl (zm_SB_isKey l G) ⟨va_cnB 1 B.1.1.2.2.2.2 (zs_good zW_107) rfl rfl rfl (B.1.2.1.2.2.2.2.1 ("SequencedBatches$Transaction", 47, yy_SB_isKey, "SequencedBatches") (by decide)) (B.1.1.2.2.2.2 _ zW_1) (by decide +kernel) ⟨by decide, by decide⟩, (B.1.1.2.2.2.2 _ zW_106), trivial⟩ dd_Tr_isAllowed_80 ?_
  exact za_if_eq B.1 100 dd_Tr_isAllowed_83 (by decide) (zr_Tr_isAllowed_100 B) (zr_Tr_isAllowed_86 B)
theorem zr_Tr_isAllowed_113 (B : zs_B p s m args meth c G bb_Tr_isAllowed 4 yy_Tr_isAllowed (some .boolean)) : zA_Tr_isAllowed p l e s m args below meth c G Q 113 (zb_Tr_isAllowed_113 Q) := by
  unfold zb_Tr_isAllowed_113
  refine za_ico B.1 1 dd_Tr_isAllowed_113 (by decide) ?_
  exact za_zrt B.1 0 0 B.2.1 B.2.2.1 dd_Tr_isAllowed_114
theorem zr_Tr_isAllowed_112 (B : zs_B p s m args meth c G bb_Tr_isAllowed 4 yy_Tr_isAllowed (some .boolean)) : zA_Tr_isAllowed p l e s m args below meth c G Q 112 (zb_Tr_isAllowed_112 Q) := by
  unfold zb_Tr_isAllowed_112
  exact za_zrt B.1 0 0 B.2.1 B.2.2.1 dd_Tr_isAllowed_112
theorem zr_Tr_isAllowed_111 (B : zs_B p s m args meth c G bb_Tr_isAllowed 4 yy_Tr_isAllowed (some .boolean)) : zA_Tr_isAllowed p l e s m args below meth c G Q 111 (zb_Tr_isAllowed_111 Q) := by
  unfold zb_Tr_isAllowed_111
  refine za_ico B.1 0 dd_Tr_isAllowed_111 (by decide) ?_
  exact (zr_Tr_isAllowed_112 B)
theorem zr_Tr_isAllowed_107 (B : zs_B p s m args meth c G bb_Tr_isAllowed 4 yy_Tr_isAllowed (some .boolean)) : zA_Tr_isAllowed p l e s m args below meth c G Q 107 (zb_Tr_isAllowed_107 Q) := by
  unfold zb_Tr_isAllowed_107
  refine za_ico B.1 1 dd_Tr_isAllowed_107 (by decide) ?_
  refine za_goto B.1 112 dd_Tr_isAllowed_108 (by decide) ?_
  exact (zr_Tr_isAllowed_112 B)
theorem zr_Tr_isAllowed_102 (B : zs_B p s m args meth c G bb_Tr_isAllowed 4 yy_Tr_isAllowed (some .boolean)) : zA_Tr_isAllowed p l e s m args below meth c G Q 102 (zb_Tr_isAllowed_102 Q) := by
  unfold zb_Tr_isAllowed_102
  refine za_ild_n B.1 1 dd_Tr_isAllowed_102 rfl ?_
  refine za_ild_n B.1 2 dd_Tr_isAllowed_103 rfl ?_
  exact za_cmp_eq B.1 111 dd_Tr_isAllowed_104 (by decide) (zr_Tr_isAllowed_111 B) (zr_Tr_isAllowed_107 B)
theorem zr_Tr_isAllowed_32 (B : zs_B p s m args meth c G bb_Tr_isAllowed 4 yy_Tr_isAllowed (some .boolean)) : zA_Tr_isAllowed p l e s m args below meth c G Q 32 (zb_Tr_isAllowed_32 Q) := by
  unfold zb_Tr_isAllowed_32
  refine za_ild_n B.1 0 dd_Tr_isAllowed_32 rfl ?_
  refine za_sw0 ?_
  refine za_swc (off := 31) B.1 0 0 64 dd_Tr_isAllowed_33 (by decide) (by decide) (by decide) (by decide) (zr_Tr_isAllowed_64 B) ?_
  refine za_swc (off := 46) B.1 1 1 79 dd_Tr_isAllowed_33 (by decide) (by decide) (by decide) (by decide) (zr_Tr_isAllowed_79 B) ?_
  refine za_swc (off := 80) B.1 2 2 113 dd_Tr_isAllowed_33 (by decide) (by decide) (by decide) (by decide) (zr_Tr_isAllowed_113 B) ?_
  refine za_swc (off := 69) B.1 3 3 102 dd_Tr_isAllowed_33 (by decide) (by decide) (by decide) (by decide) (zr_Tr_isAllowed_102 B) ?_
  exact za_swd B.1 113 dd_Tr_isAllowed_33 (fun x hx => by
    have h0 := lv_neT (a := 0) (hx 0 (by decide)) (by decide)
    have h1 := lv_neT (a := 1) (hx 1 (by decide)) (by decide)
    have h2 := lv_neT (a := 2) (hx 2 (by decide)) (by decide)
    have h3 := lv_neT (a := 3) (hx 3 (by decide)) (by decide)
    omega) (by decide) (zr_Tr_isAllowed_113 B)
theorem zr_Tr_isAllowed_23 (B : zs_B p s m args meth c G bb_Tr_isAllowed 4 yy_Tr_isAllowed (some .boolean)) : zA_Tr_isAllowed p l e s m args below meth c G Q 23 (zb_Tr_isAllowed_23 Q) := by
  unfold zb_Tr_isAllowed_23
  refine za_ild_n B.1 2 dd_Tr_isAllowed_23 rfl ?_
  refine za_cSN B.1 1 0 0 0 0 rfl rfl (zm_SB_isKey l G) ⟨va_cnB 1 B.1.1.2.2.2.2 (zs_good zW_107) rfl rfl rfl (B.1.2.1.2.2.2.2.1 ("SequencedBatches$Transaction", 47, yy_SB_isKey, "SequencedBatches") (by decide)) (B.1.1.2.2.2.2 _ zW_1) (by decide +kernel) ⟨by decide, by decide⟩, (B.1.1.2.2.2.2 _ zW_106), trivial⟩ dd_Tr_isAllowed_24 ?_
  exact za_if_ne B.1 32 dd_Tr_isAllowed_27 (by decide) (zr_Tr_isAllowed_30 B) (zr_Tr_isAllowed_32 B)
theorem zr_Tr_isAllowed_16 (B : zs_B p s m args meth c G bb_Tr_isAllowed 4 yy_Tr_isAllowed (some .boolean)) : zA_Tr_isAllowed p l e s m args below meth c G Q 16 (zb_Tr_isAllowed_16 Q) := by
  unfold zb_Tr_isAllowed_16
  refine za_ild_n B.1 0 dd_Tr_isAllowed_16 rfl ?_
  refine za_cS B.1 1 0 0 0 0 rfl rfl (zm_Tr_looksAtB l G) ⟨callB_of 1 B.1.1.2.2.2.2 (zs_good zW_110) rfl rfl rfl (B.1.1.2.2.2.2 _ zW_9) (B.1.1.2.2.2.2 _ zW_108) (by decide +kernel) ⟨by decide, by decide⟩, (B.1.1.2.2.2.2 _ zW_109)⟩ dd_Tr_isAllowed_17 ?_
  exact za_if_eq B.1 32 dd_Tr_isAllowed_20 (by decide) (zr_Tr_isAllowed_32 B) (zr_Tr_isAllowed_23 B)
theorem zr_Tr_isAllowed_9 (B : zs_B p s m args meth c G bb_Tr_isAllowed 4 yy_Tr_isAllowed (some .boolean)) : zA_Tr_isAllowed p l e s m args below meth c G Q 9 (zb_Tr_isAllowed_9 Q) := by
  unfold zb_Tr_isAllowed_9
  refine za_ild_n B.1 1 dd_Tr_isAllowed_9 rfl ?_
  refine za_cSN B.1 1 0 0 0 0 rfl rfl (zm_SB_isKey l G) ⟨va_cnB 1 B.1.1.2.2.2.2 (zs_good zW_107) rfl rfl rfl (B.1.2.1.2.2.2.2.1 ("SequencedBatches$Transaction", 47, yy_SB_isKey, "SequencedBatches") (by decide)) (B.1.1.2.2.2.2 _ zW_1) (by decide +kernel) ⟨by decide, by decide⟩, (B.1.1.2.2.2.2 _ zW_106), trivial⟩ dd_Tr_isAllowed_10 ?_
  exact za_if_eq B.1 30 dd_Tr_isAllowed_13 (by decide) (zr_Tr_isAllowed_30 B) (zr_Tr_isAllowed_16 B)
theorem zr_Tr_isAllowed_4 (B : zs_B p s m args meth c G bb_Tr_isAllowed 4 yy_Tr_isAllowed (some .boolean)) : zA_Tr_isAllowed p l e s m args below meth c G Q 4 (zb_Tr_isAllowed_4 Q) := by
  unfold zb_Tr_isAllowed_4
  refine za_ild_n B.1 0 dd_Tr_isAllowed_4 rfl ?_
  refine za_ico B.1 5 dd_Tr_isAllowed_5 (by decide) ?_
  exact za_cmp_gt B.1 30 dd_Tr_isAllowed_6 (by decide) (zr_Tr_isAllowed_30 B) (zr_Tr_isAllowed_9 B)
theorem zr_Tr_isAllowed_0 (B : zs_B p s m args meth c G bb_Tr_isAllowed 4 yy_Tr_isAllowed (some .boolean)) : zA_Tr_isAllowed p l e s m args below meth c G Q 0 (zb_Tr_isAllowed_0 Q) := by
  unfold zb_Tr_isAllowed_0
  refine za_ild_n B.1 0 dd_Tr_isAllowed_0 rfl ?_
  exact za_if_lt B.1 30 dd_Tr_isAllowed_1 (by decide) (zr_Tr_isAllowed_30 B) (zr_Tr_isAllowed_4 B)
end
theorem zm_Tr_isAllowed (l : Launch) (G : zs_G) (As : List Value) (σ : zs_S) (Q : zs_Q) (h : zw_Tr_isAllowed As σ Q) : zs_Met l yy_Tr_isAllowed (Cond.code yy_Tr_isAllowed bb_Tr_isAllowed 4 (some .boolean) :: zw_all) zk_Tr_isAllowed G As σ Q 0 0 := by
  unfold zw_Tr_isAllowed at h
  split at h
  · exact zs_enter (by decide +kernel) h.1 (Nat.le_of_ble_eq_true rfl) h.2 (fun p e s m args below meth c B => zr_Tr_isAllowed_0 B)
  · exact h.elim
-- SequencedBatches$Sequencer.batchIsFull()Z
theorem dd_Sq_batchIsFull_0 : decode bb_Sq_batchIsFull 0 = .ok (.aload_n 0, 1) := by decide +kernel
theorem dd_Sq_batchIsFull_1 : decode bb_Sq_batchIsFull 1 = .ok (.getfield 17, 3) := by decide +kernel
theorem dd_Sq_batchIsFull_4 : decode bb_Sq_batchIsFull 4 = .ok (.bipush 6, 2) := by decide +kernel
theorem dd_Sq_batchIsFull_6 : decode bb_Sq_batchIsFull 6 = .ok (.if_icmp .ne 7, 3) := by decide +kernel
theorem dd_Sq_batchIsFull_9 : decode bb_Sq_batchIsFull 9 = .ok (.iconst 1, 1) := by decide +kernel
theorem dd_Sq_batchIsFull_10 : decode bb_Sq_batchIsFull 10 = .ok (.goto 4, 3) := by decide +kernel
theorem dd_Sq_batchIsFull_13 : decode bb_Sq_batchIsFull 13 = .ok (.iconst 0, 1) := by decide +kernel
theorem dd_Sq_batchIsFull_14 : decode bb_Sq_batchIsFull 14 = .ok (.ireturn, 1) := by decide +kernel
def zk_Sq_batchIsFull : Room := { frames := 0, cells := 0, slots := 0, locals := 0 }
abbrev zA_Sq_batchIsFull (p : Program) (l : Launch) (e : Env) (s : State) (m : MethodId) (args : Array Value) (below : List Frame) (meth : Method) (c : Code) (G : zs_G) (Q : zs_Q) (pc : Nat) (P : zs_P) : Prop := zs_At p l e zk_Sq_batchIsFull s m args below meth c (MQ below (zs_Qc G Q) args s 0 0 (fun q => zg_z G ≤ q)) G 1 pc P
def zb_Sq_batchIsFull_14 (Q : zs_Q) : zs_P := zt_zrt 0 0 Q
def zb_Sq_batchIsFull_13 (Q : zs_Q) : zs_P := zt_psh 0 ((zb_Sq_batchIsFull_14 Q))
def zb_Sq_batchIsFull_9 (Q : zs_Q) : zs_P := zt_psh 1 ((zb_Sq_batchIsFull_14 Q))
def zb_Sq_batchIsFull_0 (Q : zs_Q) : zs_P := zt_ald 0 (zt_gtI 4 1 (zt_psh 6 (zt_cmp (fun x y => x = y) (zb_Sq_batchIsFull_9 Q) (zb_Sq_batchIsFull_13 Q))))
def zw_Sq_batchIsFull : zs_W := fun As σ Q => match As with
  | [a0] => zs_c1 [a0] = true ∧ zb_Sq_batchIsFull_0 Q [some a0] [] σ 0 0
  | _ => False
section
variable {p : Program} {l : Launch} {e : Env} {s : State} {m : MethodId} {args : Array Value} {below : List Frame} {meth : Method} {c : Code} {G : zs_G} {Q : zs_Q}
theorem zr_Sq_batchIsFull_14 (B : zs_B p s m args meth c G bb_Sq_batchIsFull 1 yy_Sq_batchIsFull (some .boolean)) : zA_Sq_batchIsFull p l e s m args below meth c G Q 14 (zb_Sq_batchIsFull_14 Q) := by
  unfold zb_Sq_batchIsFull_14
  exact za_zrt B.1 0 0 B.2.1 B.2.2.1 dd_Sq_batchIsFull_14
theorem zr_Sq_batchIsFull_13 (B : zs_B p s m args meth c G bb_Sq_batchIsFull 1 yy_Sq_batchIsFull (some .boolean)) : zA_Sq_batchIsFull p l e s m args below meth c G Q 13 (zb_Sq_batchIsFull_13 Q) := by
  unfold zb_Sq_batchIsFull_13
  refine za_ico B.1 0 dd_Sq_batchIsFull_13 (by decide) ?_
  exact (zr_Sq_batchIsFull_14 B)
theorem zr_Sq_batchIsFull_9 (B : zs_B p s m args meth c G bb_Sq_batchIsFull 1 yy_Sq_batchIsFull (some .boolean)) : zA_Sq_batchIsFull p l e s m args below meth c G Q 9 (zb_Sq_batchIsFull_9 Q) := by
  unfold zb_Sq_batchIsFull_9
  refine za_ico B.1 1 dd_Sq_batchIsFull_9 (by decide) ?_
  refine za_goto B.1 14 dd_Sq_batchIsFull_10 (by decide) ?_
  exact (zr_Sq_batchIsFull_14 B)
theorem zr_Sq_batchIsFull_0 (B : zs_B p s m args meth c G bb_Sq_batchIsFull 1 yy_Sq_batchIsFull (some .boolean)) : zA_Sq_batchIsFull p l e s m args below meth c G Q 0 (zb_Sq_batchIsFull_0 Q) := by
  unfold zb_Sq_batchIsFull_0
  refine za_ald_n B.1 0 dd_Sq_batchIsFull_0 rfl ?_
  refine za_gtI B.1 4 1 zi_4 rfl (by decide) (by decide) rfl zW_54 rfl dd_Sq_batchIsFull_1 ?_
  refine za_bip B.1 6 dd_Sq_batchIsFull_4 (by decide) ?_
  exact za_cmp_ne B.1 13 dd_Sq_batchIsFull_6 (by decide) (zr_Sq_batchIsFull_9 B) (zr_Sq_batchIsFull_13 B)
end
theorem zm_Sq_batchIsFull (l : Launch) (G : zs_G) (As : List Value) (σ : zs_S) (Q : zs_Q) (h : zw_Sq_batchIsFull As σ Q) : zs_Met l yy_Sq_batchIsFull (Cond.code yy_Sq_batchIsFull bb_Sq_batchIsFull 1 (some .boolean) :: zw_all) zk_Sq_batchIsFull G As σ Q 0 0 := by
  unfold zw_Sq_batchIsFull at h
  split at h
  · exact zs_enter (by decide +kernel) h.1 (Nat.le_of_ble_eq_true rfl) h.2 (fun p e s m args below meth c B => zr_Sq_batchIsFull_0 B)
  · exact h.elim
-- SequencedBatches$Transaction.keysWritten(IIII)I
theorem dd_Tr_keysWritten_0 : decode bb_Tr_keysWritten 0 = .ok (.iload_n 0, 1) := by decide +kernel
theorem dd_Tr_keysWritten_1 : decode bb_Tr_keysWritten 1 = .ok (.lookupswitch 35 #[(1, 27), (5, 31)], 27) := by decide +kernel
theorem dd_Tr_keysWritten_28 : decode bb_Tr_keysWritten 28 = .ok (.iconst 1, 1) := by decide +kernel
theorem dd_Tr_keysWritten_29 : decode bb_Tr_keysWritten 29 = .ok (.iload_n 3, 1) := by decide +kernel
theorem dd_Tr_keysWritten_30 : decode bb_Tr_keysWritten 30 = .ok (.ishl, 1) := by decide +kernel
theorem dd_Tr_keysWritten_31 : decode bb_Tr_keysWritten 31 = .ok (.ireturn, 1) := by decide +kernel
theorem dd_Tr_keysWritten_32 : decode bb_Tr_keysWritten 32 = .ok (.iconst 1, 1) := by decide +kernel
theorem dd_Tr_keysWritten_33 : decode bb_Tr_keysWritten 33 = .ok (.iload_n 2, 1) := by decide +kernel
theorem dd_Tr_keysWritten_34 : decode bb_Tr_keysWritten 34 = .ok (.ishl, 1) := by decide +kernel
theorem dd_Tr_keysWritten_35 : decode bb_Tr_keysWritten 35 = .ok (.ireturn, 1) := by decide +kernel
theorem dd_Tr_keysWritten_36 : decode bb_Tr_keysWritten 36 = .ok (.iconst 1, 1) := by decide +kernel
theorem dd_Tr_keysWritten_37 : decode bb_Tr_keysWritten 37 = .ok (.iload_n 1, 1) := by decide +kernel
theorem dd_Tr_keysWritten_38 : decode bb_Tr_keysWritten 38 = .ok (.ishl, 1) := by decide +kernel
theorem dd_Tr_keysWritten_39 : decode bb_Tr_keysWritten 39 = .ok (.iconst 1, 1) := by decide +kernel
theorem dd_Tr_keysWritten_40 : decode bb_Tr_keysWritten 40 = .ok (.iload_n 2, 1) := by decide +kernel
theorem dd_Tr_keysWritten_41 : decode bb_Tr_keysWritten 41 = .ok (.ishl, 1) := by decide +kernel
theorem dd_Tr_keysWritten_42 : decode bb_Tr_keysWritten 42 = .ok (.ior, 1) := by decide +kernel
theorem dd_Tr_keysWritten_43 : decode bb_Tr_keysWritten 43 = .ok (.ireturn, 1) := by decide +kernel
def zk_Tr_keysWritten : Room := { frames := 0, cells := 0, slots := 0, locals := 0 }
abbrev zA_Tr_keysWritten (p : Program) (l : Launch) (e : Env) (s : State) (m : MethodId) (args : Array Value) (below : List Frame) (meth : Method) (c : Code) (G : zs_G) (Q : zs_Q) (pc : Nat) (P : zs_P) : Prop := zs_At p l e zk_Tr_keysWritten s m args below meth c (MQ below (zs_Qc G Q) args s 0 0 (fun q => zg_z G ≤ q)) G 4 pc P
def zb_Tr_keysWritten_28 (Q : zs_Q) : zs_P := zt_psh 1 (zt_ild 3 (zt_bin (fun x y => x <<< (y &&& 31)) (zt_irt 0 0 Q)))
def zb_Tr_keysWritten_32 (Q : zs_Q) : zs_P := zt_psh 1 (zt_ild 2 (zt_bin (fun x y => x <<< (y &&& 31)) (zt_irt 0 0 Q)))
def zb_Tr_keysWritten_36 (Q : zs_Q) : zs_P := zt_psh 1 (zt_ild 1 (zt_bin (fun x y => x <<< (y &&& 31)) (zt_psh 1 (zt_ild 2 (zt_bin (fun x y => x <<< (y &&& 31)) (zt_bin (fun x y => x ||| y) (zt_irt 0 0 Q)))))))
def zb_Tr_keysWritten_0 (Q : zs_Q) : zs_P := zt_ild 0 (zt_cas 1 (zb_Tr_keysWritten_28 Q) (zt_cas 5 (zb_Tr_keysWritten_32 Q) (zt_dfl (zb_Tr_keysWritten_36 Q))))
def zw_Tr_keysWritten : zs_W := fun As σ Q => match As with
  | [a0, a1, a2, a3] => zs_c1 [a0, a1, a2, a3] = true ∧ zb_Tr_keysWritten_0 Q [some a0, some a1, some a2, some a3] [] σ 0 0
  | _ => False
section
variable {p : Program} {l : Launch} {e : Env} {s : State} {m : MethodId} {args : Array Value} {below : List Frame} {meth : Method} {c : Code} {G : zs_G} {Q : zs_Q}
theorem zr_Tr_keysWritten_28 (B : zs_B p s m args meth c G bb_Tr_keysWritten 4 yy_Tr_keysWritten (some .int)) : zA_Tr_keysWritten p l e s m args below meth c G Q 28 (zb_Tr_keysWritten_28 Q) := by
  unfold zb_Tr_keysWritten_28
  refine za_ico B.1 1 dd_Tr_keysWritten_28 (by decide) ?_
  refine za_ild_n B.1 3 dd_Tr_keysWritten_29 rfl ?_
  refine za_shl B.1 dd_Tr_keysWritten_30 ?_
  exact za_irt B.1 0 0 B.2.1 B.2.2.1 dd_Tr_keysWritten_31
theorem zr_Tr_keysWritten_32 (B : zs_B p s m args meth c G bb_Tr_keysWritten 4 yy_Tr_keysWritten (some .int)) : zA_Tr_keysWritten p l e s m args below meth c G Q 32 (zb_Tr_keysWritten_32 Q) := by
  unfold zb_Tr_keysWritten_32
  refine za_ico B.1 1 dd_Tr_keysWritten_32 (by decide) ?_
  refine za_ild_n B.1 2 dd_Tr_keysWritten_33 rfl ?_
  refine za_shl B.1 dd_Tr_keysWritten_34 ?_
  exact za_irt B.1 0 0 B.2.1 B.2.2.1 dd_Tr_keysWritten_35
theorem zr_Tr_keysWritten_36 (B : zs_B p s m args meth c G bb_Tr_keysWritten 4 yy_Tr_keysWritten (some .int)) : zA_Tr_keysWritten p l e s m args below meth c G Q 36 (zb_Tr_keysWritten_36 Q) := by
  unfold zb_Tr_keysWritten_36
  refine za_ico B.1 1 dd_Tr_keysWritten_36 (by decide) ?_
  refine za_ild_n B.1 1 dd_Tr_keysWritten_37 rfl ?_
  refine za_shl B.1 dd_Tr_keysWritten_38 ?_
  refine za_ico B.1 1 dd_Tr_keysWritten_39 (by decide) ?_
  refine za_ild_n B.1 2 dd_Tr_keysWritten_40 rfl ?_
  refine za_shl B.1 dd_Tr_keysWritten_41 ?_
  refine za_ior B.1 dd_Tr_keysWritten_42 ?_
  exact za_irt B.1 0 0 B.2.1 B.2.2.1 dd_Tr_keysWritten_43
theorem zr_Tr_keysWritten_0 (B : zs_B p s m args meth c G bb_Tr_keysWritten 4 yy_Tr_keysWritten (some .int)) : zA_Tr_keysWritten p l e s m args below meth c G Q 0 (zb_Tr_keysWritten_0 Q) := by
  unfold zb_Tr_keysWritten_0
  refine za_ild_n B.1 0 dd_Tr_keysWritten_0 rfl ?_
  refine za_sw0 ?_
  refine za_lsc (off := 27) B.1 1 28 dd_Tr_keysWritten_1 (by decide) (by decide) (by decide) (zr_Tr_keysWritten_28 B) ?_
  refine za_lsc (off := 31) B.1 5 32 dd_Tr_keysWritten_1 (by decide) (by decide) (by decide) (zr_Tr_keysWritten_32 B) ?_
  exact za_lsd B.1 36 dd_Tr_keysWritten_1 (by decide) (fun x hx => by
    show Op.lookupswitch.offset [(1, 27), (5, 31)] _ _ = _
    rw [lv_osw (a := 1) (hx 1 (by decide)) (by decide)]
    rw [lv_osw (a := 5) (hx 5 (by decide)) (by decide)]
    rfl) (by decide) (zr_Tr_keysWritten_36 B)
end
theorem zm_Tr_keysWritten (l : Launch) (G : zs_G) (As : List Value) (σ : zs_S) (Q : zs_Q) (h : zw_Tr_keysWritten As σ Q) : zs_Met l yy_Tr_keysWritten (Cond.code yy_Tr_keysWritten bb_Tr_keysWritten 4 (some .int) :: zw_all) zk_Tr_keysWritten G As σ Q 0 0 := by
  unfold zw_Tr_keysWritten at h
  split at h
  · exact zs_enter (by decide +kernel) h.1 (Nat.le_of_ble_eq_true rfl) h.2 (fun p e s m args below meth c B => zr_Tr_keysWritten_0 B)
  · exact h.elim
-- SequencedBatches$Transaction.<init>(IIIII)V
theorem dd_Tr_init_0 : decode bb_Tr_init 0 = .ok (.aload_n 0, 1) := by decide +kernel
theorem dd_Tr_init_1 : decode bb_Tr_init 1 = .ok (.invokespecial 1, 3) := by decide +kernel
theorem dd_Tr_init_4 : decode bb_Tr_init 4 = .ok (.aload_n 0, 1) := by decide +kernel
theorem dd_Tr_init_5 : decode bb_Tr_init 5 = .ok (.aconst_null, 1) := by decide +kernel
theorem dd_Tr_init_6 : decode bb_Tr_init 6 = .ok (.putfield 7, 3) := by decide +kernel
theorem dd_Tr_init_9 : decode bb_Tr_init 9 = .ok (.aload_n 0, 1) := by decide +kernel
theorem dd_Tr_init_10 : decode bb_Tr_init 10 = .ok (.iconst 0, 1) := by decide +kernel
theorem dd_Tr_init_11 : decode bb_Tr_init 11 = .ok (.putfield 13, 3) := by decide +kernel
theorem dd_Tr_init_14 : decode bb_Tr_init 14 = .ok (.aload_n 0, 1) := by decide +kernel
theorem dd_Tr_init_15 : decode bb_Tr_init 15 = .ok (.iload_n 1, 1) := by decide +kernel
theorem dd_Tr_init_16 : decode bb_Tr_init 16 = .ok (.putfield 17, 3) := by decide +kernel
theorem dd_Tr_init_19 : decode bb_Tr_init 19 = .ok (.aload_n 0, 1) := by decide +kernel
theorem dd_Tr_init_20 : decode bb_Tr_init 20 = .ok (.iload_n 2, 1) := by decide +kernel
theorem dd_Tr_init_21 : decode bb_Tr_init 21 = .ok (.putfield 21, 3) := by decide +kernel
theorem dd_Tr_init_24 : decode bb_Tr_init 24 = .ok (.aload_n 0, 1) := by decide +kernel
theorem dd_Tr_init_25 : decode bb_Tr_init 25 = .ok (.iload_n 3, 1) := by decide +kernel
theorem dd_Tr_init_26 : decode bb_Tr_init 26 = .ok (.putfield 24, 3) := by decide +kernel
theorem dd_Tr_init_29 : decode bb_Tr_init 29 = .ok (.aload_n 0, 1) := by decide +kernel
theorem dd_Tr_init_30 : decode bb_Tr_init 30 = .ok (.iload_n 2, 1) := by decide +kernel
theorem dd_Tr_init_31 : decode bb_Tr_init 31 = .ok (.invokestatic 27, 3) := by decide +kernel
theorem dd_Tr_init_34 : decode bb_Tr_init 34 = .ok (.ifCond .eq 8, 3) := by decide +kernel
theorem dd_Tr_init_37 : decode bb_Tr_init 37 = .ok (.iload 4, 2) := by decide +kernel
theorem dd_Tr_init_39 : decode bb_Tr_init 39 = .ok (.goto 4, 3) := by decide +kernel
theorem dd_Tr_init_42 : decode bb_Tr_init 42 = .ok (.iload_n 3, 1) := by decide +kernel
theorem dd_Tr_init_43 : decode bb_Tr_init 43 = .ok (.putfield 31, 3) := by decide +kernel
theorem dd_Tr_init_46 : decode bb_Tr_init 46 = .ok (.aload_n 0, 1) := by decide +kernel
theorem dd_Tr_init_47 : decode bb_Tr_init 47 = .ok (.iload 5, 2) := by decide +kernel
theorem dd_Tr_init_49 : decode bb_Tr_init 49 = .ok (.putfield 34, 3) := by decide +kernel
theorem dd_Tr_init_52 : decode bb_Tr_init 52 = .ok (.aload_n 0, 1) := by decide +kernel
theorem dd_Tr_init_53 : decode bb_Tr_init 53 = .ok (.iload_n 2, 1) := by decide +kernel
theorem dd_Tr_init_54 : decode bb_Tr_init 54 = .ok (.iconst 2, 1) := by decide +kernel
theorem dd_Tr_init_55 : decode bb_Tr_init 55 = .ok (.if_icmp .ne 7, 3) := by decide +kernel
theorem dd_Tr_init_58 : decode bb_Tr_init 58 = .ok (.iconst 0, 1) := by decide +kernel
theorem dd_Tr_init_59 : decode bb_Tr_init 59 = .ok (.goto 16, 3) := by decide +kernel
theorem dd_Tr_init_62 : decode bb_Tr_init 62 = .ok (.iconst 1, 1) := by decide +kernel
theorem dd_Tr_init_63 : decode bb_Tr_init 63 = .ok (.aload_n 0, 1) := by decide +kernel
theorem dd_Tr_init_64 : decode bb_Tr_init 64 = .ok (.getfield 24, 3) := by decide +kernel
theorem dd_Tr_init_67 : decode bb_Tr_init 67 = .ok (.ishl, 1) := by decide +kernel
theorem dd_Tr_init_68 : decode bb_Tr_init 68 = .ok (.iconst 1, 1) := by decide +kernel
theorem dd_Tr_init_69 : decode bb_Tr_init 69 = .ok (.aload_n 0, 1) := by decide +kernel
theorem dd_Tr_init_70 : decode bb_Tr_init 70 = .ok (.getfield 31, 3) := by decide +kernel
theorem dd_Tr_init_73 : decode bb_Tr_init 73 = .ok (.ishl, 1) := by decide +kernel
theorem dd_Tr_init_74 : decode bb_Tr_init 74 = .ok (.ior, 1) := by decide +kernel
theorem dd_Tr_init_75 : decode bb_Tr_init 75 = .ok (.putfield 37, 3) := by decide +kernel
theorem dd_Tr_init_78 : decode bb_Tr_init 78 = .ok (.aload_n 0, 1) := by decide +kernel
theorem dd_Tr_init_79 : decode bb_Tr_init 79 = .ok (.iload_n 2, 1) := by decide +kernel
theorem dd_Tr_init_80 : decode bb_Tr_init 80 = .ok (.aload_n 0, 1) := by decide +kernel
theorem dd_Tr_init_81 : decode bb_Tr_init 81 = .ok (.getfield 24, 3) := by decide +kernel
theorem dd_Tr_init_84 : decode bb_Tr_init 84 = .ok (.aload_n 0, 1) := by decide +kernel
theorem dd_Tr_init_85 : decode bb_Tr_init 85 = .ok (.getfield 31, 3) := by decide +kernel
theorem dd_Tr_init_88 : decode bb_Tr_init 88 = .ok (.iload 5, 2) := by decide +kernel
theorem dd_Tr_init_90 : decode bb_Tr_init 90 = .ok (.invokestatic 40, 3) := by decide +kernel
theorem dd_Tr_init_93 : decode bb_Tr_init 93 = .ok (.putfield 44, 3) := by decide +kernel
theorem dd_Tr_init_96 : decode bb_Tr_init 96 = .ok (.return_, 1) := by decide +kernel
def zk_Tr_init : Room := { frames := 1, cells := 0, slots := 0, locals := 40 }
abbrev zA_Tr_init (p : Program) (l : Launch) (e : Env) (s : State) (m : MethodId) (args : Array Value) (below : List Frame) (meth : Method) (c : Code) (G : zs_G) (Q : zs_Q) (pc : Nat) (P : zs_P) : Prop := zs_At p l e zk_Tr_init s m args below meth c (MQ below (zs_Qc G Q) args s 0 0 (fun q => zg_z G ≤ q)) G 6 pc P
def zb_Tr_init_75 (Q : zs_Q) : zs_P := zt_ptI 6 5 (zt_ald 0 (zt_ild 2 (zt_ald 0 (zt_gtI 6 2 (zt_ald 0 (zt_gtI 6 3 (zt_ild 5 (zt_cal zw_Tr_keysWritten 4 0 0 0 0 (zt_ptI 6 6 (zt_vrt 0 0 Q))))))))))
def zb_Tr_init_62 (Q : zs_Q) : zs_P := zt_psh 1 (zt_ald 0 (zt_gtI 6 2 (zt_bin (fun x y => x <<< (y &&& 31)) (zt_psh 1 (zt_ald 0 (zt_gtI 6 3 (zt_bin (fun x y => x <<< (y &&& 31)) (zt_bin (fun x y => x ||| y) ((zb_Tr_init_75 Q))))))))))
def zb_Tr_init_58 (Q : zs_Q) : zs_P := zt_psh 0 ((zb_Tr_init_75 Q))
def zb_Tr_init_43 (Q : zs_Q) : zs_P := zt_ptI 6 3 (zt_ald 0 (zt_ild 5 (zt_ptI 6 4 (zt_ald 0 (zt_ild 2 (zt_psh 2 (zt_cmp (fun x y => x = y) (zb_Tr_init_58 Q) (zb_Tr_init_62 Q))))))))
def zb_Tr_init_42 (Q : zs_Q) : zs_P := zt_ild 3 ((zb_Tr_init_43 Q))
def zb_Tr_init_37 (Q : zs_Q) : zs_P := zt_ild 4 ((zb_Tr_init_43 Q))
def zb_Tr_init_0 (Q : zs_Q) : zs_P := zt_ald 0 (zt_oin (zt_ald 0 (zt_nul (zt_ptR 6 7 (zt_ald 0 (zt_psh 0 (zt_ptZ 6 8 (zt_ald 0 (zt_ild 1 (zt_ptI 6 0 (zt_ald 0 (zt_ild 2 (zt_ptI 6 1 (zt_ald 0 (zt_ild 3 (zt_ptI 6 2 (zt_ald 0 (zt_ild 2 (zt_cal zw_Tr_looksAtB 1 0 0 0 0 (zt_if (fun x => x = 0) (zb_Tr_init_42 Q) (zb_Tr_init_37 Q)))))))))))))))))))))
def zw_Tr_init : zs_W := fun As σ Q => match As with
  | [a0, a1, a2, a3, a4, a5] => zs_c1 [a0, a1, a2, a3, a4, a5] = true ∧ zb_Tr_init_0 Q [some a0, some a1, some a2, some a3, some a4, some a5] [] σ 0 0
  | _ => False
section
variable {p : Program} {l : Launch} {e : Env} {s : State} {m : MethodId} {args : Array Value} {below : List Frame} {meth : Method} {c : Code} {G : zs_G} {Q : zs_Q}
theorem zr_Tr_init_75 (B : zs_B p s m args meth c G bb_Tr_init 6 yy_Tr_init none) : zA_Tr_init p l e s m args below meth c G Q 75 (zb_Tr_init_75 Q) := by
  unfold zb_Tr_init_75
  refine za_ptIF B.1 6 5 zi_6 zy_Tr zy_Tr_ok zn_Tr rfl (by decide) (by decide) rfl zW_128 rfl rfl B.2.2.2 rfl rfl dd_Tr_init_75 ?_
  refine za_ald_n B.1 0 dd_Tr_init_78 rfl ?_
  refine za_ild_n B.1 2 dd_Tr_init_79 rfl ?_
  refine za_ald_n B.1 0 dd_Tr_init_80 rfl ?_
  refine za_gtI B.1 6 2 zi_6 rfl (by decide) (by decide) rfl zW_125 rfl dd_Tr_init_81 ?_
  refine za_ald_n B.1 0 dd_Tr_init_84 rfl ?_
  refine za_gtI B.1 6 3 zi_6 rfl (by decide) (by decide) rfl zW_126 rfl dd_Tr_init_85 ?_
  refine za_ild B.1 dd_Tr_init_88 ?_
  refine za_cS B.1 4 0 0 0 0 rfl rfl (zm_Tr_keysWritten l G) ⟨callB_of 4 B.1.1.2.2.2.2 (zs_good zW_122) rfl rfl rfl (B.1.1.2.2.2.2 _ zW_9) (B.1.1.2.2.2.2 _ zW_120) (by decide +kernel) ⟨by decide, by decide⟩, (B.1.1.2.2.2.2 _ zW_121)⟩ dd_Tr_init_90 ?_
  refine za_ptIF B.1 6 6 zi_6 zy_Tr zy_Tr_ok zn_Tr rfl (by decide) (by decide) rfl zW_129 rfl rfl B.2.2.2 rfl rfl dd_Tr_init_93 ?_
  exact za_vrt B.1 0 0 B.2.1 B.2.2.1 dd_Tr_init_96
theorem zr_Tr_init_62 (B : zs_B p s m args meth c G bb_Tr_init 6 yy_Tr_init none) : zA_Tr_init p l e s m args below meth c G Q 62 (zb_Tr_init_62 Q) := by
  unfold zb_Tr_init_62
  refine za_ico B.1 1 dd_Tr_init_62 (by decide) ?_
  refine za_ald_n B.1 0 dd_Tr_init_63 rfl ?_
  refine za_gtI B.1 6 2 zi_6 rfl (by decide) (by decide) rfl zW_125 rfl dd_Tr_init_64 ?_
  refine za_shl B.1 dd_Tr_init_67 ?_
  refine za_ico B.1 1 dd_Tr_init_68 (by decide) ?_
  refine za_ald_n B.1 0 dd_Tr_init_69 rfl ?_
  refine za_gtI B.1 6 3 zi_6 rfl (by decide) (by decide) rfl zW_126 rfl dd_Tr_init_70 ?_
  refine za_shl B.1 dd_Tr_init_73 ?_
  refine za_ior B.1 dd_Tr_init_74 ?_
  exact (zr_Tr_init_75 B)
theorem zr_Tr_init_58 (B : zs_B p s m args meth c G bb_Tr_init 6 yy_Tr_init none) : zA_Tr_init p l e s m args below meth c G Q 58 (zb_Tr_init_58 Q) := by
  unfold zb_Tr_init_58
  refine za_ico B.1 0 dd_Tr_init_58 (by decide) ?_
  refine za_goto B.1 75 dd_Tr_init_59 (by decide) ?_
  exact (zr_Tr_init_75 B)
theorem zr_Tr_init_43 (B : zs_B p s m args meth c G bb_Tr_init 6 yy_Tr_init none) : zA_Tr_init p l e s m args below meth c G Q 43 (zb_Tr_init_43 Q) := by
  unfold zb_Tr_init_43
  refine za_ptIF B.1 6 3 zi_6 zy_Tr zy_Tr_ok zn_Tr rfl (by decide) (by decide) rfl zW_126 rfl rfl B.2.2.2 rfl rfl dd_Tr_init_43 ?_
  refine za_ald_n B.1 0 dd_Tr_init_46 rfl ?_
  refine za_ild B.1 dd_Tr_init_47 ?_
  refine za_ptIF B.1 6 4 zi_6 zy_Tr zy_Tr_ok zn_Tr rfl (by decide) (by decide) rfl zW_127 rfl rfl B.2.2.2 rfl rfl dd_Tr_init_49 ?_
  refine za_ald_n B.1 0 dd_Tr_init_52 rfl ?_
  refine za_ild_n B.1 2 dd_Tr_init_53 rfl ?_
  refine za_ico B.1 2 dd_Tr_init_54 (by decide) ?_
  exact za_cmp_ne B.1 62 dd_Tr_init_55 (by decide) (zr_Tr_init_58 B) (zr_Tr_init_62 B)
theorem zr_Tr_init_42 (B : zs_B p s m args meth c G bb_Tr_init 6 yy_Tr_init none) : zA_Tr_init p l e s m args below meth c G Q 42 (zb_Tr_init_42 Q) := by
  unfold zb_Tr_init_42
  refine za_ild_n B.1 3 dd_Tr_init_42 rfl ?_
  exact (zr_Tr_init_43 B)
theorem zr_Tr_init_37 (B : zs_B p s m args meth c G bb_Tr_init 6 yy_Tr_init none) : zA_Tr_init p l e s m args below meth c G Q 37 (zb_Tr_init_37 Q) := by
  unfold zb_Tr_init_37
  refine za_ild B.1 dd_Tr_init_37 ?_
  refine za_goto B.1 43 dd_Tr_init_39 (by decide) ?_
  exact (zr_Tr_init_43 B)
theorem zr_Tr_init_0 (B : zs_B p s m args meth c G bb_Tr_init 6 yy_Tr_init none) : zA_Tr_init p l e s m args below meth c G Q 0 (zb_Tr_init_0 Q) := by
  unfold zb_Tr_init_0
  refine za_ald_n B.1 0 dd_Tr_init_0 rfl ?_
  refine za_oin B.1 (by decide) zW_119 zW_19 zW_20 dd_Tr_init_1 ?_
  refine za_ald_n B.1 0 dd_Tr_init_4 rfl ?_
  refine za_nul B.1 dd_Tr_init_5 ?_
  refine za_ptR (ty := .object "SequencedBatches$Slot") B.1 6 7 zi_6 zy_Tr zy_Tr_ok zn_Tr rfl (by decide) (by decide) rfl zW_130 rfl rfl rfl (Or.inl ⟨_, rfl⟩) dd_Tr_init_6 ?_
  refine za_ald_n B.1 0 dd_Tr_init_9 rfl ?_
  refine za_ico B.1 0 dd_Tr_init_10 (by decide) ?_
  refine za_ptZ B.1 6 8 zi_6 zy_Tr zy_Tr_ok zn_Tr rfl (by decide) (by decide) rfl zW_131 rfl rfl rfl dd_Tr_init_11 ?_
  refine za_ald_n B.1 0 dd_Tr_init_14 rfl ?_
  refine za_ild_n B.1 1 dd_Tr_init_15 rfl ?_
  refine za_ptIF B.1 6 0 zi_6 zy_Tr zy_Tr_ok zn_Tr rfl (by decide) (by decide) rfl zW_123 rfl rfl B.2.2.2 rfl rfl dd_Tr_init_16 ?_
  refine za_ald_n B.1 0 dd_Tr_init_19 rfl ?_
  refine za_ild_n B.1 2 dd_Tr_init_20 rfl ?_
  refine za_ptIF B.1 6 1 zi_6 zy_Tr zy_Tr_ok zn_Tr rfl (by decide) (by decide) rfl zW_124 rfl rfl B.2.2.2 rfl rfl dd_Tr_init_21 ?_
  refine za_ald_n B.1 0 dd_Tr_init_24 rfl ?_
  refine za_ild_n B.1 3 dd_Tr_init_25 rfl ?_
  refine za_ptIF B.1 6 2 zi_6 zy_Tr zy_Tr_ok zn_Tr rfl (by decide) (by decide) rfl zW_125 rfl rfl B.2.2.2 rfl rfl dd_Tr_init_26 ?_
  refine za_ald_n B.1 0 dd_Tr_init_29 rfl ?_
  refine za_ild_n B.1 2 dd_Tr_init_30 rfl ?_
  refine za_cS B.1 1 0 0 0 0 rfl rfl (zm_Tr_looksAtB l G) ⟨callB_of 1 B.1.1.2.2.2.2 (zs_good zW_110) rfl rfl rfl (B.1.1.2.2.2.2 _ zW_9) (B.1.1.2.2.2.2 _ zW_108) (by decide +kernel) ⟨by decide, by decide⟩, (B.1.1.2.2.2.2 _ zW_109)⟩ dd_Tr_init_31 ?_
  exact za_if_eq B.1 42 dd_Tr_init_34 (by decide) (zr_Tr_init_42 B) (zr_Tr_init_37 B)
end
theorem zm_Tr_init (l : Launch) (G : zs_G) (As : List Value) (σ : zs_S) (Q : zs_Q) (h : zw_Tr_init As σ Q) : zs_Met l yy_Tr_init (Cond.code yy_Tr_init bb_Tr_init 6 none :: zw_all) zk_Tr_init G As σ Q 0 0 := by
  unfold zw_Tr_init at h
  split at h
  · exact zs_enter (by decide +kernel) h.1 (Nat.le_of_ble_eq_true rfl) h.2 (fun p e s m args below meth c B => zr_Tr_init_0 B)
  · exact h.elim
-- SequencedBatches$Sequencer.gather(LSequencedBatches$Transaction;)V
theorem dd_Sq_gather_0 : decode bb_Sq_gather 0 = .ok (.aload_n 0, 1) := by decide +kernel
theorem dd_Sq_gather_1 : decode bb_Sq_gather 1 = .ok (.getfield 11, 3) := by decide +kernel
theorem dd_Sq_gather_4 : decode bb_Sq_gather 4 = .ok (.aload_n 0, 1) := by decide +kernel
theorem dd_Sq_gather_5 : decode bb_Sq_gather 5 = .ok (.getfield 17, 3) := by decide +kernel
theorem dd_Sq_gather_8 : decode bb_Sq_gather 8 = .ok (.aload_n 1, 1) := by decide +kernel
theorem dd_Sq_gather_9 : decode bb_Sq_gather 9 = .ok (.aastore, 1) := by decide +kernel
theorem dd_Sq_gather_10 : decode bb_Sq_gather 10 = .ok (.aload_n 0, 1) := by decide +kernel
theorem dd_Sq_gather_11 : decode bb_Sq_gather 11 = .ok (.dup, 1) := by decide +kernel
theorem dd_Sq_gather_12 : decode bb_Sq_gather 12 = .ok (.getfield 17, 3) := by decide +kernel
theorem dd_Sq_gather_15 : decode bb_Sq_gather 15 = .ok (.iconst 1, 1) := by decide +kernel
theorem dd_Sq_gather_16 : decode bb_Sq_gather 16 = .ok (.iadd, 1) := by decide +kernel
theorem dd_Sq_gather_17 : decode bb_Sq_gather 17 = .ok (.putfield 17, 3) := by decide +kernel
theorem dd_Sq_gather_20 : decode bb_Sq_gather 20 = .ok (.return_, 1) := by decide +kernel
def zk_Sq_gather : Room := { frames := 0, cells := 0, slots := 0, locals := 0 }
abbrev zA_Sq_gather (p : Program) (l : Launch) (e : Env) (s : State) (m : MethodId) (args : Array Value) (below : List Frame) (meth : Method) (c : Code) (G : zs_G) (Q : zs_Q) (pc : Nat) (P : zs_P) : Prop := zs_At p l e zk_Sq_gather s m args below meth c (MQ below (zs_Qc G Q) args s 0 0 (fun q => zg_z G ≤ q)) G 2 pc P
def zb_Sq_gather_0 (Q : zs_Q) : zs_P := zt_ald 0 (zt_gtR 4 0 (zt_ald 0 (zt_gtI 4 1 (zt_ald 1 (zt_ras 6 (zt_ald 0 (zt_dup (zt_gtI 4 1 (zt_psh 1 (zt_bin (fun x y => x + y) (zt_ptI 4 1 (zt_vrt 0 0 Q))))))))))))
def zw_Sq_gather : zs_W := fun As σ Q => match As with
  | [a0, a1] => zs_c1 [a0, a1] = true ∧ zb_Sq_gather_0 Q [some a0, some a1] [] σ 0 0
  | _ => False
section
variable {p : Program} {l : Launch} {e : Env} {s : State} {m : MethodId} {args : Array Value} {below : List Frame} {meth : Method} {c : Code} {G : zs_G} {Q : zs_Q}
theorem zr_Sq_gather_0 (B : zs_B p s m args meth c G bb_Sq_gather 2 yy_Sq_gather none) : zA_Sq_gather p l e s m args below meth c G Q 0 (zb_Sq_gather_0 Q) := by
  unfold zb_Sq_gather_0
  refine za_ald_n B.1 0 dd_Sq_gather_0 rfl ?_
  refine za_gtR B.1 4 0 zi_4 rfl (by decide) (by decide) rfl zW_53 rfl dd_Sq_gather_1 ?_
  refine za_ald_n B.1 0 dd_Sq_gather_4 rfl ?_
  refine za_gtI B.1 4 1 zi_4 rfl (by decide) (by decide) rfl zW_54 rfl dd_Sq_gather_5 ?_
  refine za_ald_n B.1 1 dd_Sq_gather_8 rfl ?_
  refine za_rast B.1 6 2 (by decide) rfl rfl dd_Sq_gather_9 ?_
  refine za_ald_n B.1 0 dd_Sq_gather_10 rfl ?_
  refine za_dup B.1 dd_Sq_gather_11 ?_
  refine za_gtI B.1 4 1 zi_4 rfl (by decide) (by decide) rfl zW_54 rfl dd_Sq_gather_12 ?_
  refine za_ico B.1 1 dd_Sq_gather_15 (by decide) ?_
  refine za_add B.1 dd_Sq_gather_16 ?_
  refine za_ptI B.1 4 1 zi_4 zy_Sq zy_Sq_ok zn_Sq rfl (by decide) (by decide) rfl zW_54 rfl rfl rfl dd_Sq_gather_17 ?_
  exact za_vrt B.1 0 0 B.2.1 B.2.2.1 dd_Sq_gather_20
end
theorem zm_Sq_gather (l : Launch) (G : zs_G) (As : List Value) (σ : zs_S) (Q : zs_Q) (h : zw_Sq_gather As σ Q) : zs_Met l yy_Sq_gather (Cond.code yy_Sq_gather bb_Sq_gather 2 none :: zw_all) zk_Sq_gather G As σ Q 0 0 := by
  unfold zw_Sq_gather at h
  split at h
  · exact zs_enter (by decide +kernel) h.1 (Nat.le_of_ble_eq_true rfl) h.2 (fun p e s m args below meth c B => zr_Sq_gather_0 B)
  · exact h.elim
-- SequencedBatches.submit(IIIII)I
theorem dd_SB_submit_0 : decode bb_SB_submit 0 = .ok (.aload_n 0, 1) := by decide +kernel
theorem dd_SB_submit_1 : decode bb_SB_submit 1 = .ok (.iload_n 1, 1) := by decide +kernel
theorem dd_SB_submit_2 : decode bb_SB_submit 2 = .ok (.invokevirtual 65, 3) := by decide +kernel
theorem dd_SB_submit_5 : decode bb_SB_submit 5 = .ok (.ifCond .eq 15, 3) := by decide +kernel
theorem dd_SB_submit_8 : decode bb_SB_submit 8 = .ok (.iload_n 2, 1) := by decide +kernel
theorem dd_SB_submit_9 : decode bb_SB_submit 9 = .ok (.iload_n 3, 1) := by decide +kernel
theorem dd_SB_submit_10 : decode bb_SB_submit 10 = .ok (.iload 4, 2) := by decide +kernel
theorem dd_SB_submit_12 : decode bb_SB_submit 12 = .ok (.iload 5, 2) := by decide +kernel
theorem dd_SB_submit_14 : decode bb_SB_submit 14 = .ok (.invokestatic 69, 3) := by decide +kernel
theorem dd_SB_submit_17 : decode bb_SB_submit 17 = .ok (.ifCond .ne 5, 3) := by decide +kernel
theorem dd_SB_submit_20 : decode bb_SB_submit 20 = .ok (.iconst (-1), 1) := by decide +kernel
theorem dd_SB_submit_21 : decode bb_SB_submit 21 = .ok (.ireturn, 1) := by decide +kernel
theorem dd_SB_submit_22 : decode bb_SB_submit 22 = .ok (.aload_n 0, 1) := by decide +kernel
theorem dd_SB_submit_23 : decode bb_SB_submit 23 = .ok (.getfield 38, 3) := by decide +kernel
theorem dd_SB_submit_26 : decode bb_SB_submit 26 = .ok (.iload_n 1, 1) := by decide +kernel
theorem dd_SB_submit_27 : decode bb_SB_submit 27 = .ok (.aaload, 1) := by decide +kernel
theorem dd_SB_submit_28 : decode bb_SB_submit 28 = .ok (.invokevirtual 73, 3) := by decide +kernel
theorem dd_SB_submit_31 : decode bb_SB_submit 31 = .ok (.ifCond .ne 12, 3) := by decide +kernel
theorem dd_SB_submit_34 : decode bb_SB_submit 34 = .ok (.aload_n 0, 1) := by decide +kernel
theorem dd_SB_submit_35 : decode bb_SB_submit 35 = .ok (.getfield 19, 3) := by decide +kernel
theorem dd_SB_submit_38 : decode bb_SB_submit 38 = .ok (.bipush 100, 2) := by decide +kernel
theorem dd_SB_submit_40 : decode bb_SB_submit 40 = .ok (.if_icmp .ne 5, 3) := by decide +kernel
theorem dd_SB_submit_43 : decode bb_SB_submit 43 = .ok (.iconst (-1), 1) := by decide +kernel
theorem dd_SB_submit_44 : decode bb_SB_submit 44 = .ok (.ireturn, 1) := by decide +kernel
theorem dd_SB_submit_45 : decode bb_SB_submit 45 = .ok (.new 13, 3) := by decide +kernel
theorem dd_SB_submit_48 : decode bb_SB_submit 48 = .ok (.dup, 1) := by decide +kernel
theorem dd_SB_submit_49 : decode bb_SB_submit 49 = .ok (.aload_n 0, 1) := by decide +kernel
theorem dd_SB_submit_50 : decode bb_SB_submit 50 = .ok (.getfield 19, 3) := by decide +kernel
theorem dd_SB_submit_53 : decode bb_SB_submit 53 = .ok (.iload_n 2, 1) := by decide +kernel
theorem dd_SB_submit_54 : decode bb_SB_submit 54 = .ok (.iload_n 3, 1) := by decide +kernel
theorem dd_SB_submit_55 : decode bb_SB_submit 55 = .ok (.iload 4, 2) := by decide +kernel
theorem dd_SB_submit_57 : decode bb_SB_submit 57 = .ok (.iload 5, 2) := by decide +kernel
theorem dd_SB_submit_59 : decode bb_SB_submit 59 = .ok (.invokespecial 77, 3) := by decide +kernel
theorem dd_SB_submit_62 : decode bb_SB_submit 62 = .ok (.astore 6, 2) := by decide +kernel
theorem dd_SB_submit_64 : decode bb_SB_submit 64 = .ok (.aload_n 0, 1) := by decide +kernel
theorem dd_SB_submit_65 : decode bb_SB_submit 65 = .ok (.getfield 15, 3) := by decide +kernel
theorem dd_SB_submit_68 : decode bb_SB_submit 68 = .ok (.aload_n 0, 1) := by decide +kernel
theorem dd_SB_submit_69 : decode bb_SB_submit 69 = .ok (.getfield 19, 3) := by decide +kernel
theorem dd_SB_submit_72 : decode bb_SB_submit 72 = .ok (.aload 6, 2) := by decide +kernel
theorem dd_SB_submit_74 : decode bb_SB_submit 74 = .ok (.aastore, 1) := by decide +kernel
theorem dd_SB_submit_75 : decode bb_SB_submit 75 = .ok (.aload_n 0, 1) := by decide +kernel
theorem dd_SB_submit_76 : decode bb_SB_submit 76 = .ok (.dup, 1) := by decide +kernel
theorem dd_SB_submit_77 : decode bb_SB_submit 77 = .ok (.getfield 19, 3) := by decide +kernel
theorem dd_SB_submit_80 : decode bb_SB_submit 80 = .ok (.iconst 1, 1) := by decide +kernel
theorem dd_SB_submit_81 : decode bb_SB_submit 81 = .ok (.iadd, 1) := by decide +kernel
theorem dd_SB_submit_82 : decode bb_SB_submit 82 = .ok (.putfield 19, 3) := by decide +kernel
theorem dd_SB_submit_85 : decode bb_SB_submit 85 = .ok (.aload_n 0, 1) := by decide +kernel
theorem dd_SB_submit_86 : decode bb_SB_submit 86 = .ok (.getfield 38, 3) := by decide +kernel
theorem dd_SB_submit_89 : decode bb_SB_submit 89 = .ok (.iload_n 1, 1) := by decide +kernel
theorem dd_SB_submit_90 : decode bb_SB_submit 90 = .ok (.aaload, 1) := by decide +kernel
theorem dd_SB_submit_91 : decode bb_SB_submit 91 = .ok (.aload 6, 2) := by decide +kernel
theorem dd_SB_submit_93 : decode bb_SB_submit 93 = .ok (.invokevirtual 80, 3) := by decide +kernel
theorem dd_SB_submit_96 : decode bb_SB_submit 96 = .ok (.aload 6, 2) := by decide +kernel
theorem dd_SB_submit_98 : decode bb_SB_submit 98 = .ok (.getfield 84, 3) := by decide +kernel
theorem dd_SB_submit_101 : decode bb_SB_submit 101 = .ok (.ireturn, 1) := by decide +kernel
def zk_SB_submit : Room := { frames := 2, cells := 1, slots := 9, locals := 65 }
abbrev zA_SB_submit (p : Program) (l : Launch) (e : Env) (s : State) (m : MethodId) (args : Array Value) (below : List Frame) (meth : Method) (c : Code) (G : zs_G) (Q : zs_Q) (pc : Nat) (P : zs_P) : Prop := zs_At p l e zk_SB_submit s m args below meth c (MQ below (zs_Qc G Q) args s 1 9 (fun q => zg_z G ≤ q)) G 7 pc P
def zb_SB_submit_20 (Q : zs_Q) : zs_P := zt_psh (-1) (zt_irt 1 9 Q)
def zb_SB_submit_43 (Q : zs_Q) : zs_P := zt_psh (-1) (zt_irt 1 9 Q)
def zb_SB_submit_45 (Q : zs_Q) : zs_P := zt_nwo 6 9 1 9 (zt_dup (zt_ald 0 (zt_gtI 7 3 (zt_ild 2 (zt_ild 3 (zt_ild 4 (zt_ild 5 (zt_cai zw_Tr_init (5 + 1) 0 0 1 9 (zt_ast 6 (zt_ald 0 (zt_gtR 7 2 (zt_ald 0 (zt_gtI 7 3 (zt_ald 6 (zt_ras 6 (zt_ald 0 (zt_dup (zt_gtI 7 3 (zt_psh 1 (zt_bin (fun x y => x + y) (zt_ptI 7 3 (zt_ald 0 (zt_gtR 7 6 (zt_ild 1 (zt_rld (110 + 4) (zt_ald 6 (zt_cav 4 zw_Sq_gather (1 + 1) 0 0 1 9 (zt_ald 6 (zt_gtI 6 0 (zt_irt 1 9 Q))))))))))))))))))))))))))))))
def zb_SB_submit_34 (Q : zs_Q) : zs_P := zt_ald 0 (zt_gtI 7 3 (zt_psh 100 (zt_cmp (fun x y => x = y) (zb_SB_submit_43 Q) (zb_SB_submit_45 Q))))
def zb_SB_submit_22 (Q : zs_Q) : zs_P := zt_ald 0 (zt_gtR 7 6 (zt_ild 1 (zt_rld (110 + 4) (zt_cav 4 zw_Sq_batchIsFull (0 + 1) 0 0 1 9 (zt_if (fun x => x = 0) (zb_SB_submit_34 Q) (zb_SB_submit_43 Q))))))
def zb_SB_submit_8 (Q : zs_Q) : zs_P := zt_ild 2 (zt_ild 3 (zt_ild 4 (zt_ild 5 (zt_cal zw_Tr_isAllowed 4 0 0 1 9 (zt_if (fun x => x = 0) (zb_SB_submit_20 Q) (zb_SB_submit_22 Q))))))
def zb_SB_submit_0 (Q : zs_Q) : zs_P := zt_ald 0 (zt_ild 1 (zt_cav 7 zw_SB_sequencerIsUp (1 + 1) 0 0 1 9 (zt_if (fun x => x = 0) (zb_SB_submit_20 Q) (zb_SB_submit_8 Q))))
def zw_SB_submit : zs_W := fun As σ Q => match As with
  | [a0, a1, a2, a3, a4, a5] => zs_c1 [a0, a1, a2, a3, a4, a5] = true ∧ zb_SB_submit_0 Q [some a0, some a1, some a2, some a3, some a4, some a5, none] [] σ 0 0
  | _ => False
section
variable {p : Program} {l : Launch} {e : Env} {s : State} {m : MethodId} {args : Array Value} {below : List Frame} {meth : Method} {c : Code} {G : zs_G} {Q : zs_Q}
theorem zr_SB_submit_20 (B : zs_B p s m args meth c G bb_SB_submit 7 yy_SB_submit (some .int)) : zA_SB_submit p l e s m args below meth c G Q 20 (zb_SB_submit_20 Q) := by
  unfold zb_SB_submit_20
  refine za_ico B.1 (-1) dd_SB_submit_20 (by decide) ?_
  exact za_irt B.1 1 9 B.2.1 B.2.2.1 dd_SB_submit_21
theorem zr_SB_submit_43 (B : zs_B p s m args meth c G bb_SB_submit 7 yy_SB_submit (some .int)) : zA_SB_submit p l e s m args below meth c G Q 43 (zb_SB_submit_43 Q) := by
  unfold zb_SB_submit_43
  refine za_ico B.1 (-1) dd_SB_submit_43 (by decide) ?_
  exact za_irt B.1 1 9 B.2.1 B.2.2.1 dd_SB_submit_44
theorem zr_SB_submit_45 (B : zs_B p s m args meth c G bb_SB_submit 7 yy_SB_submit (some .int)) : zA_SB_submit p l e s m args below meth c G Q 45 (zb_SB_submit_45 Q) := by
  unfold zb_SB_submit_45
  refine za_nwo B.1 6 1 9 rfl rfl zi_6 zy_Tr zy_Tr_ok rfl (by decide) zs_df6 zW_21 zW_115 zW_9 dd_SB_submit_45 ?_
  refine za_dup B.1 dd_SB_submit_48 ?_
  refine za_ald_n B.1 0 dd_SB_submit_49 rfl ?_
  refine za_gtI B.1 7 3 zi_7 rfl (by decide) (by decide) rfl zW_91 rfl dd_SB_submit_50 ?_
  refine za_ild_n B.1 2 dd_SB_submit_53 rfl ?_
  refine za_ild_n B.1 3 dd_SB_submit_54 rfl ?_
  refine za_ild B.1 dd_SB_submit_55 ?_
  refine za_ild B.1 dd_SB_submit_57 ?_
  refine za_cI B.1 5 0 0 1 9 rfl rfl (zm_Tr_init l G) ⟨callB_of 5 B.1.1.2.2.2.2 (zs_good zW_118) rfl rfl rfl (B.1.1.2.2.2.2 _ zW_9) (B.1.1.2.2.2.2 _ zW_116) (by decide +kernel) ⟨by decide, by decide⟩, rfl, (B.1.1.2.2.2.2 _ zW_117)⟩ dd_SB_submit_59 ?_
  refine za_ast B.1 dd_SB_submit_62 (by decide) ?_
  refine za_ald_n B.1 0 dd_SB_submit_64 rfl ?_
  refine za_gtR B.1 7 2 zi_7 rfl (by decide) (by decide) rfl zW_90 rfl dd_SB_submit_65 ?_
  refine za_ald_n B.1 0 dd_SB_submit_68 rfl ?_
  refine za_gtI B.1 7 3 zi_7 rfl (by decide) (by decide) rfl zW_91 rfl dd_SB_submit_69 ?_
  refine za_ald B.1 dd_SB_submit_72 ?_
  refine za_rast B.1 6 2 (by decide) rfl rfl dd_SB_submit_74 ?_
  refine za_ald_n B.1 0 dd_SB_submit_75 rfl ?_
  refine za_dup B.1 dd_SB_submit_76 ?_
  refine za_gtI B.1 7 3 zi_7 rfl (by decide) (by decide) rfl zW_91 rfl dd_SB_submit_77 ?_
  refine za_ico B.1 1 dd_SB_submit_80 (by decide) ?_
  refine za_add B.1 dd_SB_submit_81 ?_
  refine za_ptI B.1 7 3 zi_7 zy_SB zy_SB_ok zn_SB rfl (by decide) (by decide) rfl zW_91 rfl rfl rfl dd_SB_submit_82 ?_
  refine za_ald_n B.1 0 dd_SB_submit_85 rfl ?_
  refine za_gtR B.1 7 6 zi_7 rfl (by decide) (by decide) rfl zW_94 rfl dd_SB_submit_86 ?_
  refine za_ild_n B.1 1 dd_SB_submit_89 rfl ?_
  refine za_rld B.1 4 4 rfl dd_SB_submit_90 ?_
  refine za_ald B.1 dd_SB_submit_91 ?_
  refine za_cV B.1 4 1 0 0 1 9 rfl rfl rfl (by decide) (zm_Sq_gather l G) ⟨callB_of 1 B.1.1.2.2.2.2 (zs_good zW_135) rfl rfl rfl (B.1.1.2.2.2.2 _ zW_5) (B.1.1.2.2.2.2 _ zW_132) (by decide +kernel) ⟨by decide, by decide⟩, (B.1.1.2.2.2.2 _ zW_133), (B.1.1.2.2.2.2 _ zW_134)⟩ dd_SB_submit_93 ?_
  refine za_ald B.1 dd_SB_submit_96 ?_
  refine za_gtIN (host := "SequencedBatches") B.1 6 0 zi_6 rfl (by decide) (by decide) rfl (by decide +kernel) rfl dd_SB_submit_98 ?_
  exact za_irt B.1 1 9 B.2.1 B.2.2.1 dd_SB_submit_101
theorem zr_SB_submit_34 (B : zs_B p s m args meth c G bb_SB_submit 7 yy_SB_submit (some .int)) : zA_SB_submit p l e s m args below meth c G Q 34 (zb_SB_submit_34 Q) := by
  unfold zb_SB_submit_34
  refine za_ald_n B.1 0 dd_SB_submit_34 rfl ?_
  refine za_gtI B.1 7 3 zi_7 rfl (by decide) (by decide) rfl zW_91 rfl dd_SB_submit_35 ?_
  refine za_bip B.1 100 dd_SB_submit_38 (by decide) ?_
  exact za_cmp_ne B.1 45 dd_SB_submit_40 (by decide) (zr_SB_submit_43 B) (zr_SB_submit_45 B)
theorem zr_SB_submit_22 (B : zs_B p s m args meth c G bb_SB_submit 7 yy_SB_submit (some .int)) : zA_SB_submit p l e s m args below meth c G Q 22 (zb_SB_submit_22 Q) := by
  unfold zb_SB_submit_22
  refine za_ald_n B.1 0 dd_SB_submit_22 rfl ?_
  refine za_gtR B.1 7 6 zi_7 rfl (by decide) (by decide) rfl zW_94 rfl dd_SB_submit_23 ?_
  refine za_ild_n B.1 1 dd_SB_submit_26 rfl ?_
  refine za_rld B.1 4 4 rfl dd_SB_submit_27 ?_
  refine za_cV B.1 4 0 0 0 1 9 rfl rfl rfl (by decide) (zm_Sq_batchIsFull l G) ⟨callB_of 0 B.1.1.2.2.2.2 (zs_good zW_114) rfl rfl rfl (B.1.1.2.2.2.2 _ zW_5) (B.1.1.2.2.2.2 _ zW_111) (by decide +kernel) ⟨by decide, by decide⟩, (B.1.1.2.2.2.2 _ zW_112), (B.1.1.2.2.2.2 _ zW_113)⟩ dd_SB_submit_28 ?_
  exact za_if_ne B.1 43 dd_SB_submit_31 (by decide) (zr_SB_submit_34 B) (zr_SB_submit_43 B)
theorem zr_SB_submit_8 (B : zs_B p s m args meth c G bb_SB_submit 7 yy_SB_submit (some .int)) : zA_SB_submit p l e s m args below meth c G Q 8 (zb_SB_submit_8 Q) := by
  unfold zb_SB_submit_8
  refine za_ild_n B.1 2 dd_SB_submit_8 rfl ?_
  refine za_ild_n B.1 3 dd_SB_submit_9 rfl ?_
  refine za_ild B.1 dd_SB_submit_10 ?_
  refine za_ild B.1 dd_SB_submit_12 ?_
  refine za_cS B.1 4 0 0 1 9 rfl rfl (zm_Tr_isAllowed l G) ⟨callB_of 4 B.1.1.2.2.2.2 (zs_good zW_105) rfl rfl rfl (B.1.1.2.2.2.2 _ zW_9) (B.1.1.2.2.2.2 _ zW_103) (by decide +kernel) ⟨by decide, by decide⟩, (B.1.1.2.2.2.2 _ zW_104)⟩ dd_SB_submit_14 ?_
  exact za_if_ne B.1 22 dd_SB_submit_17 (by decide) (zr_SB_submit_20 B) (zr_SB_submit_22 B)
theorem zr_SB_submit_0 (B : zs_B p s m args meth c G bb_SB_submit 7 yy_SB_submit (some .int)) : zA_SB_submit p l e s m args below meth c G Q 0 (zb_SB_submit_0 Q) := by
  unfold zb_SB_submit_0
  refine za_ald_n B.1 0 dd_SB_submit_0 rfl ?_
  refine za_ild_n B.1 1 dd_SB_submit_1 rfl ?_
  refine za_cV B.1 7 1 0 0 1 9 rfl rfl rfl (by decide) (zm_SB_sequencerIsUp l G) ⟨callB_of 1 B.1.1.2.2.2.2 (zs_good zW_102) rfl rfl rfl (B.1.1.2.2.2.2 _ zW_1) (B.1.1.2.2.2.2 _ zW_100) (by decide +kernel) ⟨by decide, by decide⟩, (B.1.1.2.2.2.2 _ zW_101), (B.1.1.2.2.2.2 _ zW_658)⟩ dd_SB_submit_2 ?_
  exact za_if_eq B.1 20 dd_SB_submit_5 (by decide) (zr_SB_submit_20 B) (zr_SB_submit_8 B)
end
theorem zm_SB_submit (l : Launch) (G : zs_G) (As : List Value) (σ : zs_S) (Q : zs_Q) (h : zw_SB_submit As σ Q) : zs_Met l yy_SB_submit (Cond.code yy_SB_submit bb_SB_submit 7 (some .int) :: zw_all) zk_SB_submit G As σ Q 1 9 := by
  unfold zw_SB_submit at h
  split at h
  · exact zs_enter (by decide +kernel) h.1 (Nat.le_of_ble_eq_true rfl) h.2 (fun p e s m args below meth c B => zr_SB_submit_0 B)
  · exact h.elim
-- SequencedBatches$Sequencer.hasRoomForSlot()Z
theorem dd_Sq_hasRoomForSlot_0 : decode bb_Sq_hasRoomForSlot 0 = .ok (.iconst 0, 1) := by decide +kernel
theorem dd_Sq_hasRoomForSlot_1 : decode bb_Sq_hasRoomForSlot 1 = .ok (.istore_n 1, 1) := by decide +kernel
theorem dd_Sq_hasRoomForSlot_2 : decode bb_Sq_hasRoomForSlot 2 = .ok (.iconst 0, 1) := by decide +kernel
theorem dd_Sq_hasRoomForSlot_3 : decode bb_Sq_hasRoomForSlot 3 = .ok (.istore_n 2, 1) := by decide +kernel
theorem dd_Sq_hasRoomForSlot_4 : decode bb_Sq_hasRoomForSlot 4 = .ok (.iload_n 2, 1) := by decide +kernel
theorem dd_Sq_hasRoomForSlot_5 : decode bb_Sq_hasRoomForSlot 5 = .ok (.aload_n 0, 1) := by decide +kernel
theorem dd_Sq_hasRoomForSlot_6 : decode bb_Sq_hasRoomForSlot 6 = .ok (.getfield 27, 3) := by decide +kernel
theorem dd_Sq_hasRoomForSlot_9 : decode bb_Sq_hasRoomForSlot 9 = .ok (.if_icmp .ge 29, 3) := by decide +kernel
theorem dd_Sq_hasRoomForSlot_12 : decode bb_Sq_hasRoomForSlot 12 = .ok (.iload_n 1, 1) := by decide +kernel
theorem dd_Sq_hasRoomForSlot_13 : decode bb_Sq_hasRoomForSlot 13 = .ok (.aload_n 0, 1) := by decide +kernel
theorem dd_Sq_hasRoomForSlot_14 : decode bb_Sq_hasRoomForSlot 14 = .ok (.getfield 23, 3) := by decide +kernel
theorem dd_Sq_hasRoomForSlot_17 : decode bb_Sq_hasRoomForSlot 17 = .ok (.iload_n 2, 1) := by decide +kernel
theorem dd_Sq_hasRoomForSlot_18 : decode bb_Sq_hasRoomForSlot 18 = .ok (.aaload, 1) := by decide +kernel
theorem dd_Sq_hasRoomForSlot_19 : decode bb_Sq_hasRoomForSlot 19 = .ok (.getfield 37, 3) := by decide +kernel
theorem dd_Sq_hasRoomForSlot_22 : decode bb_Sq_hasRoomForSlot 22 = .ok (.ifCond .eq 7, 3) := by decide +kernel
theorem dd_Sq_hasRoomForSlot_25 : decode bb_Sq_hasRoomForSlot 25 = .ok (.iconst 0, 1) := by decide +kernel
theorem dd_Sq_hasRoomForSlot_26 : decode bb_Sq_hasRoomForSlot 26 = .ok (.goto 4, 3) := by decide +kernel
theorem dd_Sq_hasRoomForSlot_29 : decode bb_Sq_hasRoomForSlot 29 = .ok (.iconst 1, 1) := by decide +kernel
theorem dd_Sq_hasRoomForSlot_30 : decode bb_Sq_hasRoomForSlot 30 = .ok (.iadd, 1) := by decide +kernel
theorem dd_Sq_hasRoomForSlot_31 : decode bb_Sq_hasRoomForSlot 31 = .ok (.istore_n 1, 1) := by decide +kernel
theorem dd_Sq_hasRoomForSlot_32 : decode bb_Sq_hasRoomForSlot 32 = .ok (.iinc 2 1, 3) := by decide +kernel
theorem dd_Sq_hasRoomForSlot_35 : decode bb_Sq_hasRoomForSlot 35 = .ok (.goto (-31), 3) := by decide +kernel
theorem dd_Sq_hasRoomForSlot_38 : decode bb_Sq_hasRoomForSlot 38 = .ok (.iload_n 1, 1) := by decide +kernel
theorem dd_Sq_hasRoomForSlot_39 : decode bb_Sq_hasRoomForSlot 39 = .ok (.iconst 3, 1) := by decide +kernel
theorem dd_Sq_hasRoomForSlot_40 : decode bb_Sq_hasRoomForSlot 40 = .ok (.if_icmp .ge 16, 3) := by decide +kernel
theorem dd_Sq_hasRoomForSlot_43 : decode bb_Sq_hasRoomForSlot 43 = .ok (.aload_n 0, 1) := by decide +kernel
theorem dd_Sq_hasRoomForSlot_44 : decode bb_Sq_hasRoomForSlot 44 = .ok (.getfield 27, 3) := by decide +kernel
theorem dd_Sq_hasRoomForSlot_47 : decode bb_Sq_hasRoomForSlot 47 = .ok (.bipush 20, 2) := by decide +kernel
theorem dd_Sq_hasRoomForSlot_49 : decode bb_Sq_hasRoomForSlot 49 = .ok (.if_icmp .ge 7, 3) := by decide +kernel
theorem dd_Sq_hasRoomForSlot_52 : decode bb_Sq_hasRoomForSlot 52 = .ok (.iconst 1, 1) := by decide +kernel
theorem dd_Sq_hasRoomForSlot_53 : decode bb_Sq_hasRoomForSlot 53 = .ok (.goto 4, 3) := by decide +kernel
theorem dd_Sq_hasRoomForSlot_56 : decode bb_Sq_hasRoomForSlot 56 = .ok (.iconst 0, 1) := by decide +kernel
theorem dd_Sq_hasRoomForSlot_57 : decode bb_Sq_hasRoomForSlot 57 = .ok (.ireturn, 1) := by decide +kernel
def zk_Sq_hasRoomForSlot : Room := { frames := 0, cells := 0, slots := 0, locals := 0 }
abbrev zA_Sq_hasRoomForSlot (p : Program) (l : Launch) (e : Env) (s : State) (m : MethodId) (args : Array Value) (below : List Frame) (meth : Method) (c : Code) (G : zs_G) (Q : zs_Q) (pc : Nat) (P : zs_P) : Prop := zs_At p l e zk_Sq_hasRoomForSlot s m args below meth c (MQ below (zs_Qc G Q) args s 0 0 (fun q => zg_z G ≤ q)) G 3 pc P
def zb_Sq_hasRoomForSlot_57 (Q : zs_Q) : zs_P := zt_zrt 0 0 Q
def zb_Sq_hasRoomForSlot_56 (Q : zs_Q) : zs_P := zt_psh 0 ((zb_Sq_hasRoomForSlot_57 Q))
def zb_Sq_hasRoomForSlot_52 (Q : zs_Q) : zs_P := zt_psh 1 ((zb_Sq_hasRoomForSlot_57 Q))
def zb_Sq_hasRoomForSlot_43 (Q : zs_Q) : zs_P := zt_ald 0 (zt_gtI 4 3 (zt_psh 20 (zt_cmp (fun x y => y ≤ x) (zb_Sq_hasRoomForSlot_56 Q) (zb_Sq_hasRoomForSlot_52 Q))))
def zb_Sq_hasRoomForSlot_38 (Q : zs_Q) : zs_P := zt_ild 1 (zt_psh 3 (zt_cmp (fun x y => y ≤ x) (zb_Sq_hasRoomForSlot_56 Q) (zb_Sq_hasRoomForSlot_43 Q)))
def zb_Sq_hasRoomForSlot_30 (Q : zs_Q) (K4 : zs_P) : zs_P := zt_bin (fun x y => x + y) (zt_ist 1 (zt_inc 2 1 (K4)))
def zb_Sq_hasRoomForSlot_29 (Q : zs_Q) (K4 : zs_P) : zs_P := zt_psh 1 ((zb_Sq_hasRoomForSlot_30 Q K4))
def zb_Sq_hasRoomForSlot_25 (Q : zs_Q) (K4 : zs_P) : zs_P := zt_psh 0 ((zb_Sq_hasRoomForSlot_30 Q K4))
def zb_Sq_hasRoomForSlot_12 (Q : zs_Q) (K4 : zs_P) : zs_P := zt_ild 1 (zt_ald 0 (zt_gtR 4 2 (zt_ild 2 (zt_rld (110 + 5) (zt_gtI 5 2 (zt_if (fun x => x = 0) (zb_Sq_hasRoomForSlot_29 Q K4) (zb_Sq_hasRoomForSlot_25 Q K4)))))))
def zb_Sq_hasRoomForSlot_4 (Q : zs_Q) (K4 : zs_P) : zs_P := zt_ild 2 (zt_ald 0 (zt_gtI 4 3 (zt_cmp (fun x y => y ≤ x) (zb_Sq_hasRoomForSlot_38 Q) (zb_Sq_hasRoomForSlot_12 Q K4))))
def zl_Sq_hasRoomForSlot_4 (Q : zs_Q) : zs_P := zt_ex (zb_Sq_hasRoomForSlot_4 Q)
def zb_Sq_hasRoomForSlot_0 (Q : zs_Q) : zs_P := zt_psh 0 (zt_ist 1 (zt_psh 0 (zt_ist 2 ((zl_Sq_hasRoomForSlot_4 Q)))))
def zw_Sq_hasRoomForSlot : zs_W := fun As σ Q => match As with
  | [a0] => zs_c1 [a0] = true ∧ zb_Sq_hasRoomForSlot_0 Q [some a0, none, none] [] σ 0 0
  | _ => False
section
variable {p : Program} {l : Launch} {e : Env} {s : State} {m : MethodId} {args : Array Value} {below : List Frame} {meth : Method} {c : Code} {G : zs_G} {Q : zs_Q}
theorem zr_Sq_hasRoomForSlot_57 (B : zs_B p s m args meth c G bb_Sq_hasRoomForSlot 3 yy_Sq_hasRoomForSlot (some .boolean)) : zA_Sq_hasRoomForSlot p l e s m args below meth c G Q 57 (zb_Sq_hasRoomForSlot_57 Q) := by
  unfold zb_Sq_hasRoomForSlot_57
  exact za_zrt B.1 0 0 B.2.1 B.2.2.1 dd_Sq_hasRoomForSlot_57
theorem zr_Sq_hasRoomForSlot_56 (B : zs_B p s m args meth c G bb_Sq_hasRoomForSlot 3 yy_Sq_hasRoomForSlot (some .boolean)) : zA_Sq_hasRoomForSlot p l e s m args below meth c G Q 56 (zb_Sq_hasRoomForSlot_56 Q) := by
  unfold zb_Sq_hasRoomForSlot_56
  refine za_ico B.1 0 dd_Sq_hasRoomForSlot_56 (by decide) ?_
  exact (zr_Sq_hasRoomForSlot_57 B)
theorem zr_Sq_hasRoomForSlot_52 (B : zs_B p s m args meth c G bb_Sq_hasRoomForSlot 3 yy_Sq_hasRoomForSlot (some .boolean)) : zA_Sq_hasRoomForSlot p l e s m args below meth c G Q 52 (zb_Sq_hasRoomForSlot_52 Q) := by
  unfold zb_Sq_hasRoomForSlot_52
  refine za_ico B.1 1 dd_Sq_hasRoomForSlot_52 (by decide) ?_
  refine za_goto B.1 57 dd_Sq_hasRoomForSlot_53 (by decide) ?_
  exact (zr_Sq_hasRoomForSlot_57 B)
theorem zr_Sq_hasRoomForSlot_43 (B : zs_B p s m args meth c G bb_Sq_hasRoomForSlot 3 yy_Sq_hasRoomForSlot (some .boolean)) : zA_Sq_hasRoomForSlot p l e s m args below meth c G Q 43 (zb_Sq_hasRoomForSlot_43 Q) := by
  unfold zb_Sq_hasRoomForSlot_43
  refine za_ald_n B.1 0 dd_Sq_hasRoomForSlot_43 rfl ?_
  refine za_gtI B.1 4 3 zi_4 rfl (by decide) (by decide) rfl zW_56 rfl dd_Sq_hasRoomForSlot_44 ?_
  refine za_bip B.1 20 dd_Sq_hasRoomForSlot_47 (by decide) ?_
  exact za_cmp_ge B.1 56 dd_Sq_hasRoomForSlot_49 (by decide) (zr_Sq_hasRoomForSlot_56 B) (zr_Sq_hasRoomForSlot_52 B)
theorem zr_Sq_hasRoomForSlot_38 (B : zs_B p s m args meth c G bb_Sq_hasRoomForSlot 3 yy_Sq_hasRoomForSlot (some .boolean)) : zA_Sq_hasRoomForSlot p l e s m args below meth c G Q 38 (zb_Sq_hasRoomForSlot_38 Q) := by
  unfold zb_Sq_hasRoomForSlot_38
  refine za_ild_n B.1 1 dd_Sq_hasRoomForSlot_38 rfl ?_
  refine za_ico B.1 3 dd_Sq_hasRoomForSlot_39 (by decide) ?_
  exact za_cmp_ge B.1 56 dd_Sq_hasRoomForSlot_40 (by decide) (zr_Sq_hasRoomForSlot_56 B) (zr_Sq_hasRoomForSlot_43 B)
theorem zr_Sq_hasRoomForSlot_30 (B : zs_B p s m args meth c G bb_Sq_hasRoomForSlot 3 yy_Sq_hasRoomForSlot (some .boolean)) {K4 : zs_P} (h4 : zA_Sq_hasRoomForSlot p l e s m args below meth c G Q 4 K4) : zA_Sq_hasRoomForSlot p l e s m args below meth c G Q 30 (zb_Sq_hasRoomForSlot_30 Q K4) := by
  unfold zb_Sq_hasRoomForSlot_30
  refine za_add B.1 dd_Sq_hasRoomForSlot_30 ?_
  refine za_ist_n B.1 1 dd_Sq_hasRoomForSlot_31 rfl (by decide) ?_
  refine za_inc B.1 1 dd_Sq_hasRoomForSlot_32 (by decide) (by decide) ?_
  refine za_goto B.1 4 dd_Sq_hasRoomForSlot_35 (by decide) ?_
  exact h4
theorem zr_Sq_hasRoomForSlot_29 (B : zs_B p s m args meth c G bb_Sq_hasRoomForSlot 3 yy_Sq_hasRoomForSlot (some .boolean)) {K4 : zs_P} (h4 : zA_Sq_hasRoomForSlot p l e s m args below meth c G Q 4 K4) : zA_Sq_hasRoomForSlot p l e s m args below meth c G Q 29 (zb_Sq_hasRoomForSlot_29 Q K4) := by
  unfold zb_Sq_hasRoomForSlot_29
  refine za_ico B.1 1 dd_Sq_hasRoomForSlot_29 (by decide) ?_
  exact (zr_Sq_hasRoomForSlot_30 B h4)
theorem zr_Sq_hasRoomForSlot_25 (B : zs_B p s m args meth c G bb_Sq_hasRoomForSlot 3 yy_Sq_hasRoomForSlot (some .boolean)) {K4 : zs_P} (h4 : zA_Sq_hasRoomForSlot p l e s m args below meth c G Q 4 K4) : zA_Sq_hasRoomForSlot p l e s m args below meth c G Q 25 (zb_Sq_hasRoomForSlot_25 Q K4) := by
  unfold zb_Sq_hasRoomForSlot_25
  refine za_ico B.1 0 dd_Sq_hasRoomForSlot_25 (by decide) ?_
  refine za_goto B.1 30 dd_Sq_hasRoomForSlot_26 (by decide) ?_
  exact (zr_Sq_hasRoomForSlot_30 B h4)
theorem zr_Sq_hasRoomForSlot_12 (B : zs_B p s m args meth c G bb_Sq_hasRoomForSlot 3 yy_Sq_hasRoomForSlot (some .boolean)) {K4 : zs_P} (h4 : zA_Sq_hasRoomForSlot p l e s m args below meth c G Q 4 K4) : zA_Sq_hasRoomForSlot p l e s m args below meth c G Q 12 (zb_Sq_hasRoomForSlot_12 Q K4) := by
  unfold zb_Sq_hasRoomForSlot_12
  refine za_ild_n B.1 1 dd_Sq_hasRoomForSlot_12 rfl ?_
  refine za_ald_n B.1 0 dd_Sq_hasRoomForSlot_13 rfl ?_
  refine za_gtR B.1 4 2 zi_4 rfl (by decide) (by decide) rfl zW_55 rfl dd_Sq_hasRoomForSlot_14 ?_
  refine za_ild_n B.1 2 dd_Sq_hasRoomForSlot_17 rfl ?_
  refine za_rld B.1 5 6 rfl dd_Sq_hasRoomForSlot_18 ?_
  refine za_gtIN (host := "SequencedBatches") B.1 5 2 zi_5 rfl (by decide) (by decide) rfl (by decide +kernel) rfl dd_Sq_hasRoomForSlot_19 ?_
  exact za_if_eq B.1 29 dd_Sq_hasRoomForSlot_22 (by decide) (zr_Sq_hasRoomForSlot_29 B h4) (zr_Sq_hasRoomForSlot_25 B h4)
theorem zr_Sq_hasRoomForSlot_4 (B : zs_B p s m args meth c G bb_Sq_hasRoomForSlot 3 yy_Sq_hasRoomForSlot (some .boolean)) {K4 : zs_P} (h4 : zA_Sq_hasRoomForSlot p l e s m args below meth c G Q 4 K4) : zA_Sq_hasRoomForSlot p l e s m args below meth c G Q 4 (zb_Sq_hasRoomForSlot_4 Q K4) := by
  unfold zb_Sq_hasRoomForSlot_4
  refine za_ild_n B.1 2 dd_Sq_hasRoomForSlot_4 rfl ?_
  refine za_ald_n B.1 0 dd_Sq_hasRoomForSlot_5 rfl ?_
  refine za_gtI B.1 4 3 zi_4 rfl (by decide) (by decide) rfl zW_56 rfl dd_Sq_hasRoomForSlot_6 ?_
  exact za_cmp_ge B.1 38 dd_Sq_hasRoomForSlot_9 (by decide) (zr_Sq_hasRoomForSlot_38 B) (zr_Sq_hasRoomForSlot_12 B h4)
theorem zq_Sq_hasRoomForSlot_4 (B : zs_B p s m args meth c G bb_Sq_hasRoomForSlot 3 yy_Sq_hasRoomForSlot (some .boolean)) : zA_Sq_hasRoomForSlot p l e s m args below meth c G Q 4 (zl_Sq_hasRoomForSlot_4 Q) := za_lop (fun K hK => zr_Sq_hasRoomForSlot_4 B hK)
theorem zr_Sq_hasRoomForSlot_0 (B : zs_B p s m args meth c G bb_Sq_hasRoomForSlot 3 yy_Sq_hasRoomForSlot (some .boolean)) : zA_Sq_hasRoomForSlot p l e s m args below meth c G Q 0 (zb_Sq_hasRoomForSlot_0 Q) := by
  unfold zb_Sq_hasRoomForSlot_0
  refine za_ico B.1 0 dd_Sq_hasRoomForSlot_0 (by decide) ?_
  refine za_ist_n B.1 1 dd_Sq_hasRoomForSlot_1 rfl (by decide) ?_
  refine za_ico B.1 0 dd_Sq_hasRoomForSlot_2 (by decide) ?_
  refine za_ist_n B.1 2 dd_Sq_hasRoomForSlot_3 rfl (by decide) ?_
  exact (zq_Sq_hasRoomForSlot_4 B)
end
theorem zm_Sq_hasRoomForSlot (l : Launch) (G : zs_G) (As : List Value) (σ : zs_S) (Q : zs_Q) (h : zw_Sq_hasRoomForSlot As σ Q) : zs_Met l yy_Sq_hasRoomForSlot (Cond.code yy_Sq_hasRoomForSlot bb_Sq_hasRoomForSlot 3 (some .boolean) :: zw_all) zk_Sq_hasRoomForSlot G As σ Q 0 0 := by
  unfold zw_Sq_hasRoomForSlot at h
  split at h
  · exact zs_enter (by decide +kernel) h.1 (Nat.le_of_ble_eq_true rfl) h.2 (fun p e s m args below meth c B => zr_Sq_hasRoomForSlot_0 B)
  · exact h.elim
-- SequencedBatches$Post.isCrowded()Z
theorem dd_Po_isCrowded_0 : decode bb_Po_isCrowded 0 = .ok (.aload_n 0, 1) := by decide +kernel
theorem dd_Po_isCrowded_1 : decode bb_Po_isCrowded 1 = .ok (.getfield 16, 3) := by decide +kernel
theorem dd_Po_isCrowded_4 : decode bb_Po_isCrowded 4 = .ok (.bipush 48, 2) := by decide +kernel
theorem dd_Po_isCrowded_6 : decode bb_Po_isCrowded 6 = .ok (.if_icmp .le 7, 3) := by decide +kernel
theorem dd_Po_isCrowded_9 : decode bb_Po_isCrowded 9 = .ok (.iconst 1, 1) := by decide +kernel
theorem dd_Po_isCrowded_10 : decode bb_Po_isCrowded 10 = .ok (.goto 4, 3) := by decide +kernel
theorem dd_Po_isCrowded_13 : decode bb_Po_isCrowded 13 = .ok (.iconst 0, 1) := by decide +kernel
theorem dd_Po_isCrowded_14 : decode bb_Po_isCrowded 14 = .ok (.ireturn, 1) := by decide +kernel
def zk_Po_isCrowded : Room := { frames := 0, cells := 0, slots := 0, locals := 0 }
abbrev zA_Po_isCrowded (p : Program) (l : Launch) (e : Env) (s : State) (m : MethodId) (args : Array Value) (below : List Frame) (meth : Method) (c : Code) (G : zs_G) (Q : zs_Q) (pc : Nat) (P : zs_P) : Prop := zs_At p l e zk_Po_isCrowded s m args below meth c (MQ below (zs_Qc G Q) args s 0 0 (fun q => zg_z G ≤ q)) G 1 pc P
def zb_Po_isCrowded_14 (Q : zs_Q) : zs_P := zt_zrt 0 0 Q
def zb_Po_isCrowded_13 (Q : zs_Q) : zs_P := zt_psh 0 ((zb_Po_isCrowded_14 Q))
def zb_Po_isCrowded_9 (Q : zs_Q) : zs_P := zt_psh 1 ((zb_Po_isCrowded_14 Q))
def zb_Po_isCrowded_0 (Q : zs_Q) : zs_P := zt_ald 0 (zt_gtI 2 2 (zt_psh 48 (zt_cmp (fun x y => x ≤ y) (zb_Po_isCrowded_13 Q) (zb_Po_isCrowded_9 Q))))
def zw_Po_isCrowded : zs_W := fun As σ Q => match As with
  | [a0] => zs_c1 [a0] = true ∧ zb_Po_isCrowded_0 Q [some a0] [] σ 0 0
  | _ => False
section
variable {p : Program} {l : Launch} {e : Env} {s : State} {m : MethodId} {args : Array Value} {below : List Frame} {meth : Method} {c : Code} {G : zs_G} {Q : zs_Q}
theorem zr_Po_isCrowded_14 (B : zs_B p s m args meth c G bb_Po_isCrowded 1 yy_Po_isCrowded (some .boolean)) : zA_Po_isCrowded p l e s m args below meth c G Q 14 (zb_Po_isCrowded_14 Q) := by
  unfold zb_Po_isCrowded_14
  exact za_zrt B.1 0 0 B.2.1 B.2.2.1 dd_Po_isCrowded_14
theorem zr_Po_isCrowded_13 (B : zs_B p s m args meth c G bb_Po_isCrowded 1 yy_Po_isCrowded (some .boolean)) : zA_Po_isCrowded p l e s m args below meth c G Q 13 (zb_Po_isCrowded_13 Q) := by
  unfold zb_Po_isCrowded_13
  refine za_ico B.1 0 dd_Po_isCrowded_13 (by decide) ?_
  exact (zr_Po_isCrowded_14 B)
theorem zr_Po_isCrowded_9 (B : zs_B p s m args meth c G bb_Po_isCrowded 1 yy_Po_isCrowded (some .boolean)) : zA_Po_isCrowded p l e s m args below meth c G Q 9 (zb_Po_isCrowded_9 Q) := by
  unfold zb_Po_isCrowded_9
  refine za_ico B.1 1 dd_Po_isCrowded_9 (by decide) ?_
  refine za_goto B.1 14 dd_Po_isCrowded_10 (by decide) ?_
  exact (zr_Po_isCrowded_14 B)
theorem zr_Po_isCrowded_0 (B : zs_B p s m args meth c G bb_Po_isCrowded 1 yy_Po_isCrowded (some .boolean)) : zA_Po_isCrowded p l e s m args below meth c G Q 0 (zb_Po_isCrowded_0 Q) := by
  unfold zb_Po_isCrowded_0
  refine za_ald_n B.1 0 dd_Po_isCrowded_0 rfl ?_
  refine za_gtI B.1 2 2 zi_2 rfl (by decide) (by decide) rfl zW_29 rfl dd_Po_isCrowded_1 ?_
  refine za_bip B.1 48 dd_Po_isCrowded_4 (by decide) ?_
  exact za_cmp_le B.1 13 dd_Po_isCrowded_6 (by decide) (zr_Po_isCrowded_13 B) (zr_Po_isCrowded_9 B)
end
theorem zm_Po_isCrowded (l : Launch) (G : zs_G) (As : List Value) (σ : zs_S) (Q : zs_Q) (h : zw_Po_isCrowded As σ Q) : zs_Met l yy_Po_isCrowded (Cond.code yy_Po_isCrowded bb_Po_isCrowded 1 (some .boolean) :: zw_all) zk_Po_isCrowded G As σ Q 0 0 := by
  unfold zw_Po_isCrowded at h
  split at h
  · exact zs_enter (by decide +kernel) h.1 (Nat.le_of_ble_eq_true rfl) h.2 (fun p e s m args below meth c B => zr_Po_isCrowded_0 B)
  · exact h.elim
-- SequencedBatches$Slot.<init>([LSequencedBatches$Transaction;)V
theorem dd_Sl_init_0 : decode bb_Sl_init 0 = .ok (.aload_n 0, 1) := by decide +kernel
theorem dd_Sl_init_1 : decode bb_Sl_init 1 = .ok (.invokespecial 3, 3) := by decide +kernel
theorem dd_Sl_init_4 : decode bb_Sl_init 4 = .ok (.aload_n 0, 1) := by decide +kernel
theorem dd_Sl_init_5 : decode bb_Sl_init 5 = .ok (.iconst 0, 1) := by decide +kernel
theorem dd_Sl_init_6 : decode bb_Sl_init 6 = .ok (.putfield 9, 3) := by decide +kernel
theorem dd_Sl_init_9 : decode bb_Sl_init 9 = .ok (.aload_n 0, 1) := by decide +kernel
theorem dd_Sl_init_10 : decode bb_Sl_init 10 = .ok (.iconst 0, 1) := by decide +kernel
theorem dd_Sl_init_11 : decode bb_Sl_init 11 = .ok (.putfield 15, 3) := by decide +kernel
theorem dd_Sl_init_14 : decode bb_Sl_init 14 = .ok (.aload_n 0, 1) := by decide +kernel
theorem dd_Sl_init_15 : decode bb_Sl_init 15 = .ok (.iconst 3, 1) := by decide +kernel
theorem dd_Sl_init_16 : decode bb_Sl_init 16 = .ok (.newarray .boolean, 2) := by decide +kernel
theorem dd_Sl_init_18 : decode bb_Sl_init 18 = .ok (.putfield 18, 3) := by decide +kernel
theorem dd_Sl_init_21 : decode bb_Sl_init 21 = .ok (.aload_n 0, 1) := by decide +kernel
theorem dd_Sl_init_22 : decode bb_Sl_init 22 = .ok (.aload_n 1, 1) := by decide +kernel
theorem dd_Sl_init_23 : decode bb_Sl_init 23 = .ok (.putfield 22, 3) := by decide +kernel
theorem dd_Sl_init_26 : decode bb_Sl_init 26 = .ok (.return_, 1) := by decide +kernel
def zk_Sl_init : Room := { frames := 1, cells := 1, slots := 3, locals := 40 }
abbrev zA_Sl_init (p : Program) (l : Launch) (e : Env) (s : State) (m : MethodId) (args : Array Value) (below : List Frame) (meth : Method) (c : Code) (G : zs_G) (Q : zs_Q) (pc : Nat) (P : zs_P) : Prop := zs_At p l e zk_Sl_init s m args below meth c (MQ below (zs_Qc G Q) args s 1 3 (fun q => zg_z G ≤ q)) G 2 pc P
def zb_Sl_init_0 (Q : zs_Q) : zs_P := zt_ald 0 (zt_oin (zt_ald 0 (zt_psh 0 (zt_ptZ 5 1 (zt_ald 0 (zt_psh 0 (zt_ptZ 5 2 (zt_ald 0 (zt_psh 3 (zt_nwa 101 1 3 (zt_ptR 5 3 (zt_ald 0 (zt_ald 1 (zt_ptR 5 0 (zt_vrt 1 3 Q)))))))))))))))
def zw_Sl_init : zs_W := fun As σ Q => match As with
  | [a0, a1] => zs_c1 [a0, a1] = true ∧ zb_Sl_init_0 Q [some a0, some a1] [] σ 0 0
  | _ => False
section
variable {p : Program} {l : Launch} {e : Env} {s : State} {m : MethodId} {args : Array Value} {below : List Frame} {meth : Method} {c : Code} {G : zs_G} {Q : zs_Q}
theorem zr_Sl_init_0 (B : zs_B p s m args meth c G bb_Sl_init 2 yy_Sl_init none) : zA_Sl_init p l e s m args below meth c G Q 0 (zb_Sl_init_0 Q) := by
  unfold zb_Sl_init_0
  refine za_ald_n B.1 0 dd_Sl_init_0 rfl ?_
  refine za_oin B.1 (by decide) zW_156 zW_19 zW_20 dd_Sl_init_1 ?_
  refine za_ald_n B.1 0 dd_Sl_init_4 rfl ?_
  refine za_ico B.1 0 dd_Sl_init_5 (by decide) ?_
  refine za_ptZ B.1 5 1 zi_5 zy_Sl zy_Sl_ok zn_Sl rfl (by decide) (by decide) rfl zW_158 rfl rfl rfl dd_Sl_init_6 ?_
  refine za_ald_n B.1 0 dd_Sl_init_9 rfl ?_
  refine za_ico B.1 0 dd_Sl_init_10 (by decide) ?_
  refine za_ptZ B.1 5 2 zi_5 zy_Sl zy_Sl_ok zn_Sl rfl (by decide) (by decide) rfl zW_159 rfl rfl rfl dd_Sl_init_11 ?_
  refine za_ald_n B.1 0 dd_Sl_init_14 rfl ?_
  refine za_ico B.1 3 dd_Sl_init_15 (by decide) ?_
  refine za_nwz B.1 1 3 rfl rfl zW_30 dd_Sl_init_16 ?_
  refine za_ptRF (ty := .array .boolean) B.1 5 3 zi_5 zy_Sl zy_Sl_ok zn_Sl rfl (by decide) (by decide) rfl zW_160 rfl rfl B.2.2.2 rfl rfl (Or.inr ⟨_, rfl⟩) dd_Sl_init_18 ?_
  refine za_ald_n B.1 0 dd_Sl_init_21 rfl ?_
  refine za_ald_n B.1 1 dd_Sl_init_22 rfl ?_
  refine za_ptRF (ty := .array (.object "SequencedBatches$Transaction")) B.1 5 0 zi_5 zy_Sl zy_Sl_ok zn_Sl rfl (by decide) (by decide) rfl zW_157 rfl rfl B.2.2.2 rfl rfl (Or.inr ⟨_, rfl⟩) dd_Sl_init_23 ?_
  exact za_vrt B.1 1 3 B.2.1 B.2.2.1 dd_Sl_init_26
end
theorem zm_Sl_init (l : Launch) (G : zs_G) (As : List Value) (σ : zs_S) (Q : zs_Q) (h : zw_Sl_init As σ Q) : zs_Met l yy_Sl_init (Cond.code yy_Sl_init bb_Sl_init 2 none :: zw_all) zk_Sl_init G As σ Q 1 3 := by
  unfold zw_Sl_init at h
  split at h
  · exact zs_enter (by decide +kernel) h.1 (Nat.le_of_ble_eq_true rfl) h.2 (fun p e s m args below meth c B => zr_Sl_init_0 B)
  · exact h.elim
