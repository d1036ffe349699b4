/-! Methods: Sq_makeSlot, Sl_isAcknowledgedBy, Sl_emptyDigit, Co_of, Po_send, SB_sendStores, SB_close, Sq_slotAt, SB_sendClosed, SB_resend, SB_messages, Po_has, SB_message (made by program) -/
-- SequencedBatches$Sequencer.makeSlot()I
theorem dd_Sq_makeSlot_0 : decode bb_Sq_makeSlot 0 = .ok (.aload_n 0, 1) := by decide +kernel
theorem dd_Sq_makeSlot_1 : decode bb_Sq_makeSlot 1 = .ok (.getfield 17, 3) := by decide +kernel
theorem dd_Sq_makeSlot_4 : decode bb_Sq_makeSlot 4 = .ok (.anewarray 9, 3) := by decide +kernel
theorem dd_Sq_makeSlot_7 : decode bb_Sq_makeSlot 7 = .ok (.astore_n 1, 1) := by decide +kernel
theorem dd_Sq_makeSlot_8 : decode bb_Sq_makeSlot 8 = .ok (.new 21, 3) := by decide +kernel
theorem dd_Sq_makeSlot_11 : decode bb_Sq_makeSlot 11 = .ok (.dup, 1) := by decide +kernel
theorem dd_Sq_makeSlot_12 : decode bb_Sq_makeSlot 12 = .ok (.aload_n 1, 1) := by decide +kernel
theorem dd_Sq_makeSlot_13 : decode bb_Sq_makeSlot 13 = .ok (.invokespecial 40, 3) := by decide +kernel
theorem dd_Sq_makeSlot_16 : decode bb_Sq_makeSlot 16 = .ok (.astore_n 2, 1) := by decide +kernel
theorem dd_Sq_makeSlot_17 : decode bb_Sq_makeSlot 17 = .ok (.iconst 0, 1) := by decide +kernel
theorem dd_Sq_makeSlot_18 : decode bb_Sq_makeSlot 18 = .ok (.istore_n 3, 1) := by decide +kernel
theorem dd_Sq_makeSlot_19 : decode bb_Sq_makeSlot 19 = .ok (.iload_n 3, 1) := by decide +kernel
theorem dd_Sq_makeSlot_20 : decode bb_Sq_makeSlot 20 = .ok (.aload_n 0, 1) := by decide +kernel
theorem dd_Sq_makeSlot_21 : decode bb_Sq_makeSlot 21 = .ok (.getfield 17, 3) := by decide +kernel
theorem dd_Sq_makeSlot_24 : decode bb_Sq_makeSlot 24 = .ok (.if_icmp .ge 25, 3) := by decide +kernel
theorem dd_Sq_makeSlot_27 : decode bb_Sq_makeSlot 27 = .ok (.aload_n 1, 1) := by decide +kernel
theorem dd_Sq_makeSlot_28 : decode bb_Sq_makeSlot 28 = .ok (.iload_n 3, 1) := by decide +kernel
theorem dd_Sq_makeSlot_29 : decode bb_Sq_makeSlot 29 = .ok (.aload_n 0, 1) := by decide +kernel
theorem dd_Sq_makeSlot_30 : decode bb_Sq_makeSlot 30 = .ok (.getfield 11, 3) := by decide +kernel
theorem dd_Sq_makeSlot_33 : decode bb_Sq_makeSlot 33 = .ok (.iload_n 3, 1) := by decide +kernel
theorem dd_Sq_makeSlot_34 : decode bb_Sq_makeSlot 34 = .ok (.aaload, 1) := by decide +kernel
theorem dd_Sq_makeSlot_35 : decode bb_Sq_makeSlot 35 = .ok (.aastore, 1) := by decide +kernel
theorem dd_Sq_makeSlot_36 : decode bb_Sq_makeSlot 36 = .ok (.aload_n 1, 1) := by decide +kernel
theorem dd_Sq_makeSlot_37 : decode bb_Sq_makeSlot 37 = .ok (.iload_n 3, 1) := by decide +kernel
theorem dd_Sq_makeSlot_38 : decode bb_Sq_makeSlot 38 = .ok (.aaload, 1) := by decide +kernel
theorem dd_Sq_makeSlot_39 : decode bb_Sq_makeSlot 39 = .ok (.aload_n 2, 1) := by decide +kernel
theorem dd_Sq_makeSlot_40 : decode bb_Sq_makeSlot 40 = .ok (.putfield 43, 3) := by decide +kernel
theorem dd_Sq_makeSlot_43 : decode bb_Sq_makeSlot 43 = .ok (.iinc 3 1, 3) := by decide +kernel
theorem dd_Sq_makeSlot_46 : decode bb_Sq_makeSlot 46 = .ok (.goto (-27), 3) := by decide +kernel
theorem dd_Sq_makeSlot_49 : decode bb_Sq_makeSlot 49 = .ok (.aload_n 0, 1) := by decide +kernel
theorem dd_Sq_makeSlot_50 : decode bb_Sq_makeSlot 50 = .ok (.iconst 0, 1) := by decide +kernel
theorem dd_Sq_makeSlot_51 : decode bb_Sq_makeSlot 51 = .ok (.putfield 17, 3) := by decide +kernel
theorem dd_Sq_makeSlot_54 : decode bb_Sq_makeSlot 54 = .ok (.aload_n 0, 1) := by decide +kernel
theorem dd_Sq_makeSlot_55 : decode bb_Sq_makeSlot 55 = .ok (.getfield 23, 3) := by decide +kernel
theorem dd_Sq_makeSlot_58 : decode bb_Sq_makeSlot 58 = .ok (.aload_n 0, 1) := by decide +kernel
theorem dd_Sq_makeSlot_59 : decode bb_Sq_makeSlot 59 = .ok (.getfield 27, 3) := by decide +kernel
theorem dd_Sq_makeSlot_62 : decode bb_Sq_makeSlot 62 = .ok (.aload_n 2, 1) := by decide +kernel
theorem dd_Sq_makeSlot_63 : decode bb_Sq_makeSlot 63 = .ok (.aastore, 1) := by decide +kernel
theorem dd_Sq_makeSlot_64 : decode bb_Sq_makeSlot 64 = .ok (.aload_n 0, 1) := by decide +kernel
theorem dd_Sq_makeSlot_65 : decode bb_Sq_makeSlot 65 = .ok (.dup, 1) := by decide +kernel
theorem dd_Sq_makeSlot_66 : decode bb_Sq_makeSlot 66 = .ok (.getfield 27, 3) := by decide +kernel
theorem dd_Sq_makeSlot_69 : decode bb_Sq_makeSlot 69 = .ok (.iconst 1, 1) := by decide +kernel
theorem dd_Sq_makeSlot_70 : decode bb_Sq_makeSlot 70 = .ok (.iadd, 1) := by decide +kernel
theorem dd_Sq_makeSlot_71 : decode bb_Sq_makeSlot 71 = .ok (.putfield 27, 3) := by decide +kernel
theorem dd_Sq_makeSlot_74 : decode bb_Sq_makeSlot 74 = .ok (.aload_n 0, 1) := by decide +kernel
theorem dd_Sq_makeSlot_75 : decode bb_Sq_makeSlot 75 = .ok (.getfield 27, 3) := by decide +kernel
theorem dd_Sq_makeSlot_78 : decode bb_Sq_makeSlot 78 = .ok (.iconst 1, 1) := by decide +kernel
theorem dd_Sq_makeSlot_79 : decode bb_Sq_makeSlot 79 = .ok (.isub, 1) := by decide +kernel
theorem dd_Sq_makeSlot_80 : decode bb_Sq_makeSlot 80 = .ok (.ireturn, 1) := by decide +kernel
def zk_Sq_makeSlot : Room := { frames := 2, cells := 3, slots := 13, locals := 61 }
abbrev zA_Sq_makeSlot (p : Program) (l : Launch) (e : Env) (s : State) (m : MethodId) (args : Array Value) (below : List Frame) (meth : Method) (c : Code) (G : zs_G) (Q : zs_Q) (pc : Nat) (P : zs_P) : Prop := zs_At p l e zk_Sq_makeSlot s m args below meth c (MQ below (zs_Qc G Q) args s 3 13 (fun q => zg_z G ≤ q)) G 4 pc P
def zb_Sq_makeSlot_49 (Q : zs_Q) : zs_P := zt_ald 0 (zt_psh 0 (zt_ptI 4 1 (zt_ald 0 (zt_gtR 4 2 (zt_ald 0 (zt_gtI 4 3 (zt_ald 2 (zt_ras 5 (zt_ald 0 (zt_dup (zt_gtI 4 3 (zt_psh 1 (zt_bin (fun x y => x + y) (zt_ptI 4 3 (zt_ald 0 (zt_gtI 4 3 (zt_psh 1 (zt_bin (fun x y => x - y) (zt_irt 3 13 Q)))))))))))))))))))
def zb_Sq_makeSlot_27 (Q : zs_Q) (K19 : zs_P) : zs_P := zt_ald 1 (zt_ild 3 (zt_ald 0 (zt_gtR 4 0 (zt_ild 3 (zt_rld (110 + 6) (zt_ras 6 (zt_ald 1 (zt_ild 3 (zt_rld (110 + 6) (zt_ald 2 (zt_ptR 6 7 (zt_inc 3 1 (K19)))))))))))))
def zb_Sq_makeSlot_19 (Q : zs_Q) (K19 : zs_P) : zs_P := zt_ild 3 (zt_ald 0 (zt_gtI 4 1 (zt_cmp (fun x y => y ≤ x) (zb_Sq_makeSlot_49 Q) (zb_Sq_makeSlot_27 Q K19))))
def zl_Sq_makeSlot_19 (Q : zs_Q) : zs_P := zt_ex (zb_Sq_makeSlot_19 Q)
def zb_Sq_makeSlot_0 (Q : zs_Q) : zs_P := zt_ald 0 (zt_gtI 4 1 (zt_nwa (110 + 6) 3 13 (zt_ast 1 (zt_nwo 5 4 3 13 (zt_dup (zt_ald 1 (zt_cai zw_Sl_init (1 + 1) 1 3 3 13 (zt_ast 2 (zt_psh 0 (zt_ist 3 ((zl_Sq_makeSlot_19 Q))))))))))))
def zw_Sq_makeSlot : zs_W := fun As σ Q => match As with
  | [a0] => zs_c1 [a0] = true ∧ zb_Sq_makeSlot_0 Q [some a0, none, none, none] [] σ 0 0
  | _ => False
section
variable {p : Program} {l : Launch} {e : Env} {s : State} {m : MethodId} {args : Array Value} {below : List Frame} {meth : Method} {c : Code} {G : zs_G} {Q : zs_Q}
theorem zr_Sq_makeSlot_49 (B : zs_B p s m args meth c G bb_Sq_makeSlot 4 yy_Sq_makeSlot (some .int)) : zA_Sq_makeSlot p l e s m args below meth c G Q 49 (zb_Sq_makeSlot_49 Q) := by
  unfold zb_Sq_makeSlot_49
  refine za_ald_n B.1 0 dd_Sq_makeSlot_49 rfl ?_
  refine za_ico B.1 0 dd_Sq_makeSlot_50 (by decide) ?_
  refine za_ptI B.1 4 1 zi_4 zy_Sq zy_Sq_ok zn_Sq rfl (by decide) (by decide) rfl zW_54 rfl rfl rfl dd_Sq_makeSlot_51 ?_
  refine za_ald_n B.1 0 dd_Sq_makeSlot_54 rfl ?_
  refine za_gtR B.1 4 2 zi_4 rfl (by decide) (by decide) rfl zW_55 rfl dd_Sq_makeSlot_55 ?_
  refine za_ald_n B.1 0 dd_Sq_makeSlot_58 rfl ?_
  refine za_gtI B.1 4 3 zi_4 rfl (by decide) (by decide) rfl zW_56 rfl dd_Sq_makeSlot_59 ?_
  refine za_ald_n B.1 2 dd_Sq_makeSlot_62 rfl ?_
  refine za_rast B.1 5 6 (by decide) rfl rfl dd_Sq_makeSlot_63 ?_
  refine za_ald_n B.1 0 dd_Sq_makeSlot_64 rfl ?_
  refine za_dup B.1 dd_Sq_makeSlot_65 ?_
  refine za_gtI B.1 4 3 zi_4 rfl (by decide) (by decide) rfl zW_56 rfl dd_Sq_makeSlot_66 ?_
  refine za_ico B.1 1 dd_Sq_makeSlot_69 (by decide) ?_
  refine za_add B.1 dd_Sq_makeSlot_70 ?_
  refine za_ptI B.1 4 3 zi_4 zy_Sq zy_Sq_ok zn_Sq rfl (by decide) (by decide) rfl zW_56 rfl rfl rfl dd_Sq_makeSlot_71 ?_
  refine za_ald_n B.1 0 dd_Sq_makeSlot_74 rfl ?_
  refine za_gtI B.1 4 3 zi_4 rfl (by decide) (by decide) rfl zW_56 rfl dd_Sq_makeSlot_75 ?_
  refine za_ico B.1 1 dd_Sq_makeSlot_78 (by decide) ?_
  refine za_sub B.1 dd_Sq_makeSlot_79 ?_
  exact za_irt B.1 3 13 B.2.1 B.2.2.1 dd_Sq_makeSlot_80
theorem zr_Sq_makeSlot_27 (B : zs_B p s m args meth c G bb_Sq_makeSlot 4 yy_Sq_makeSlot (some .int)) {K19 : zs_P} (h19 : zA_Sq_makeSlot p l e s m args below meth c G Q 19 K19) : zA_Sq_makeSlot p l e s m args below meth c G Q 27 (zb_Sq_makeSlot_27 Q K19) := by
  unfold zb_Sq_makeSlot_27
  refine za_ald_n B.1 1 dd_Sq_makeSlot_27 rfl ?_
  refine za_ild_n B.1 3 dd_Sq_makeSlot_28 rfl ?_
  refine za_ald_n B.1 0 dd_Sq_makeSlot_29 rfl ?_
  refine za_gtR B.1 4 0 zi_4 rfl (by decide) (by decide) rfl zW_53 rfl dd_Sq_makeSlot_30 ?_
  refine za_ild_n B.1 3 dd_Sq_makeSlot_33 rfl ?_
  refine za_rld B.1 6 2 rfl dd_Sq_makeSlot_34 ?_
  refine za_rast B.1 6 2 (by decide) rfl rfl dd_Sq_makeSlot_35 ?_
  refine za_ald_n B.1 1 dd_Sq_makeSlot_36 rfl ?_
  refine za_ild_n B.1 3 dd_Sq_makeSlot_37 rfl ?_
  refine za_rld B.1 6 2 rfl dd_Sq_makeSlot_38 ?_
  refine za_ald_n B.1 2 dd_Sq_makeSlot_39 rfl ?_
  refine za_ptRN (host := "SequencedBatches") (ty := .object "SequencedBatches$Slot") B.1 6 7 zi_6 zy_Tr zy_Tr_ok zn_Tr rfl (by decide) (by decide) rfl (by decide +kernel) rfl rfl rfl (Or.inl ⟨_, rfl⟩) dd_Sq_makeSlot_40 ?_
  refine za_inc B.1 1 dd_Sq_makeSlot_43 (by decide) (by decide) ?_
  refine za_goto B.1 19 dd_Sq_makeSlot_46 (by decide) ?_
  exact h19
theorem zr_Sq_makeSlot_19 (B : zs_B p s m args meth c G bb_Sq_makeSlot 4 yy_Sq_makeSlot (some .int)) {K19 : zs_P} (h19 : zA_Sq_makeSlot p l e s m args below meth c G Q 19 K19) : zA_Sq_makeSlot p l e s m args below meth c G Q 19 (zb_Sq_makeSlot_19 Q K19) := by
  unfold zb_Sq_makeSlot_19
  refine za_ild_n B.1 3 dd_Sq_makeSlot_19 rfl ?_
  refine za_ald_n B.1 0 dd_Sq_makeSlot_20 rfl ?_
  refine za_gtI B.1 4 1 zi_4 rfl (by decide) (by decide) rfl zW_54 rfl dd_Sq_makeSlot_21 ?_
  exact za_cmp_ge B.1 49 dd_Sq_makeSlot_24 (by decide) (zr_Sq_makeSlot_49 B) (zr_Sq_makeSlot_27 B h19)
theorem zq_Sq_makeSlot_19 (B : zs_B p s m args meth c G bb_Sq_makeSlot 4 yy_Sq_makeSlot (some .int)) : zA_Sq_makeSlot p l e s m args below meth c G Q 19 (zl_Sq_makeSlot_19 Q) := za_lop (fun K hK => zr_Sq_makeSlot_19 B hK)
theorem zr_Sq_makeSlot_0 (B : zs_B p s m args meth c G bb_Sq_makeSlot 4 yy_Sq_makeSlot (some .int)) : zA_Sq_makeSlot p l e s m args below meth c G Q 0 (zb_Sq_makeSlot_0 Q) := by
  unfold zb_Sq_makeSlot_0
  refine za_ald_n B.1 0 dd_Sq_makeSlot_0 rfl ?_
  refine za_gtI B.1 4 1 zi_4 rfl (by decide) (by decide) rfl zW_54 rfl dd_Sq_makeSlot_1 ?_
  refine za_nwr B.1 6 2 3 13 rfl rfl rfl zW_51 (by decide) dd_Sq_makeSlot_4 ?_
  refine za_ast_n B.1 1 dd_Sq_makeSlot_7 rfl (by decide) ?_
  refine za_nwo B.1 5 3 13 rfl rfl zi_5 zy_Sl zy_Sl_ok rfl (by decide) zs_df5 zW_52 zW_152 zW_10 dd_Sq_makeSlot_8 ?_
  refine za_dup B.1 dd_Sq_makeSlot_11 ?_
  refine za_ald_n B.1 1 dd_Sq_makeSlot_12 rfl ?_
  refine za_cI B.1 1 1 3 3 13 rfl rfl (zm_Sl_init l G) ⟨callB_of 1 B.1.1.2.2.2.2 (zs_good zW_155) rfl rfl rfl (B.1.1.2.2.2.2 _ zW_10) (B.1.1.2.2.2.2 _ zW_153) (by decide +kernel) ⟨by decide, by decide⟩, rfl, (B.1.1.2.2.2.2 _ zW_154)⟩ dd_Sq_makeSlot_13 ?_
  refine za_ast_n B.1 2 dd_Sq_makeSlot_16 rfl (by decide) ?_
  refine za_ico B.1 0 dd_Sq_makeSlot_17 (by decide) ?_
  refine za_ist_n B.1 3 dd_Sq_makeSlot_18 rfl (by decide) ?_
  exact (zq_Sq_makeSlot_19 B)
end
theorem zm_Sq_makeSlot (l : Launch) (G : zs_G) (As : List Value) (σ : zs_S) (Q : zs_Q) (h : zw_Sq_makeSlot As σ Q) : zs_Met l yy_Sq_makeSlot (Cond.code yy_Sq_makeSlot bb_Sq_makeSlot 4 (some .int) :: zw_all) zk_Sq_makeSlot G As σ Q 3 13 := by
  unfold zw_Sq_makeSlot at h
  split at h
  · exact zs_enter (by decide +kernel) h.1 (Nat.le_of_ble_eq_true rfl) h.2 (fun p e s m args below meth c B => zr_Sq_makeSlot_0 B)
  · exact h.elim
-- SequencedBatches$Slot.isAcknowledgedBy(I)Z
theorem dd_Sl_isAcknowledgedBy_0 : decode bb_Sl_isAcknowledgedBy 0 = .ok (.aload_n 0, 1) := by decide +kernel
theorem dd_Sl_isAcknowledgedBy_1 : decode bb_Sl_isAcknowledgedBy 1 = .ok (.getfield 18, 3) := by decide +kernel
theorem dd_Sl_isAcknowledgedBy_4 : decode bb_Sl_isAcknowledgedBy 4 = .ok (.iload_n 1, 1) := by decide +kernel
theorem dd_Sl_isAcknowledgedBy_5 : decode bb_Sl_isAcknowledgedBy 5 = .ok (.baload, 1) := by decide +kernel
theorem dd_Sl_isAcknowledgedBy_6 : decode bb_Sl_isAcknowledgedBy 6 = .ok (.ireturn, 1) := by decide +kernel
def zk_Sl_isAcknowledgedBy : Room := { frames := 0, cells := 0, slots := 0, locals := 0 }
abbrev zA_Sl_isAcknowledgedBy (p : Program) (l : Launch) (e : Env) (s : State) (m : MethodId) (args : Array Value) (below : List Frame) (meth : Method) (c : Code) (G : zs_G) (Q : zs_Q) (pc : Nat) (P : zs_P) : Prop := zs_At p l e zk_Sl_isAcknowledgedBy s m args below meth c (MQ below (zs_Qc G Q) args s 0 0 (fun q => zg_z G ≤ q)) G 2 pc P
def zb_Sl_isAcknowledgedBy_0 (Q : zs_Q) : zs_P := zt_ald 0 (zt_gtR 5 3 (zt_ild 1 (zt_xld 101 (zt_zrt 0 0 Q))))
def zw_Sl_isAcknowledgedBy : zs_W := fun As σ Q => match As with
  | [a0, a1] => zs_c1 [a0, a1] = true ∧ zb_Sl_isAcknowledgedBy_0 Q [some a0, some a1] [] σ 0 0
  | _ => False
section
variable {p : Program} {l : Launch} {e : Env} {s : State} {m : MethodId} {args : Array Value} {below : List Frame} {meth : Method} {c : Code} {G : zs_G} {Q : zs_Q}
theorem zr_Sl_isAcknowledgedBy_0 (B : zs_B p s m args meth c G bb_Sl_isAcknowledgedBy 2 yy_Sl_isAcknowledgedBy (some .boolean)) : zA_Sl_isAcknowledgedBy p l e s m args below meth c G Q 0 (zb_Sl_isAcknowledgedBy_0 Q) := by
  unfold zb_Sl_isAcknowledgedBy_0
  refine za_ald_n B.1 0 dd_Sl_isAcknowledgedBy_0 rfl ?_
  refine za_gtR B.1 5 3 zi_5 rfl (by decide) (by decide) rfl zW_160 rfl dd_Sl_isAcknowledgedBy_1 ?_
  refine za_ild_n B.1 1 dd_Sl_isAcknowledgedBy_4 rfl ?_
  refine za_zald B.1 dd_Sl_isAcknowledgedBy_5 ?_
  exact za_zrt B.1 0 0 B.2.1 B.2.2.1 dd_Sl_isAcknowledgedBy_6
end
theorem zm_Sl_isAcknowledgedBy (l : Launch) (G : zs_G) (As : List Value) (σ : zs_S) (Q : zs_Q) (h : zw_Sl_isAcknowledgedBy As σ Q) : zs_Met l yy_Sl_isAcknowledgedBy (Cond.code yy_Sl_isAcknowledgedBy bb_Sl_isAcknowledgedBy 2 (some .boolean) :: zw_all) zk_Sl_isAcknowledgedBy G As σ Q 0 0 := by
  unfold zw_Sl_isAcknowledgedBy at h
  split at h
  · exact zs_enter (by decide +kernel) h.1 (Nat.le_of_ble_eq_true rfl) h.2 (fun p e s m args below meth c B => zr_Sl_isAcknowledgedBy_0 B)
  · exact h.elim
-- SequencedBatches$Slot.emptyDigit()I
theorem dd_Sl_emptyDigit_0 : decode bb_Sl_emptyDigit 0 = .ok (.aload_n 0, 1) := by decide +kernel
theorem dd_Sl_emptyDigit_1 : decode bb_Sl_emptyDigit 1 = .ok (.getfield 9, 3) := by decide +kernel
theorem dd_Sl_emptyDigit_4 : decode bb_Sl_emptyDigit 4 = .ok (.ifCond .eq 7, 3) := by decide +kernel
theorem dd_Sl_emptyDigit_7 : decode bb_Sl_emptyDigit 7 = .ok (.iconst 1, 1) := by decide +kernel
theorem dd_Sl_emptyDigit_8 : decode bb_Sl_emptyDigit 8 = .ok (.goto 4, 3) := by decide +kernel
theorem dd_Sl_emptyDigit_11 : decode bb_Sl_emptyDigit 11 = .ok (.iconst 0, 1) := by decide +kernel
theorem dd_Sl_emptyDigit_12 : decode bb_Sl_emptyDigit 12 = .ok (.ireturn, 1) := by decide +kernel
def zk_Sl_emptyDigit : Room := { frames := 0, cells := 0, slots := 0, locals := 0 }
abbrev zA_Sl_emptyDigit (p : Program) (l : Launch) (e : Env) (s : State) (m : MethodId) (args : Array Value) (below : List Frame) (meth : Method) (c : Code) (G : zs_G) (Q : zs_Q) (pc : Nat) (P : zs_P) : Prop := zs_At p l e zk_Sl_emptyDigit s m args below meth c (MQ below (zs_Qc G Q) args s 0 0 (fun q => zg_z G ≤ q)) G 1 pc P
def zb_Sl_emptyDigit_12 (Q : zs_Q) : zs_P := zt_irt 0 0 Q
def zb_Sl_emptyDigit_11 (Q : zs_Q) : zs_P := zt_psh 0 ((zb_Sl_emptyDigit_12 Q))
def zb_Sl_emptyDigit_7 (Q : zs_Q) : zs_P := zt_psh 1 ((zb_Sl_emptyDigit_12 Q))
def zb_Sl_emptyDigit_0 (Q : zs_Q) : zs_P := zt_ald 0 (zt_gtI 5 1 (zt_if (fun x => x = 0) (zb_Sl_emptyDigit_11 Q) (zb_Sl_emptyDigit_7 Q)))
def zw_Sl_emptyDigit : zs_W := fun As σ Q => match As with
  | [a0] => zs_c1 [a0] = true ∧ zb_Sl_emptyDigit_0 Q [some a0] [] σ 0 0
  | _ => False
section
variable {p : Program} {l : Launch} {e : Env} {s : State} {m : MethodId} {args : Array Value} {below : List Frame} {meth : Method} {c : Code} {G : zs_G} {Q : zs_Q}
theorem zr_Sl_emptyDigit_12 (B : zs_B p s m args meth c G bb_Sl_emptyDigit 1 yy_Sl_emptyDigit (some .int)) : zA_Sl_emptyDigit p l e s m args below meth c G Q 12 (zb_Sl_emptyDigit_12 Q) := by
  unfold zb_Sl_emptyDigit_12
  exact za_irt B.1 0 0 B.2.1 B.2.2.1 dd_Sl_emptyDigit_12
theorem zr_Sl_emptyDigit_11 (B : zs_B p s m args meth c G bb_Sl_emptyDigit 1 yy_Sl_emptyDigit (some .int)) : zA_Sl_emptyDigit p l e s m args below meth c G Q 11 (zb_Sl_emptyDigit_11 Q) := by
  unfold zb_Sl_emptyDigit_11
  refine za_ico B.1 0 dd_Sl_emptyDigit_11 (by decide) ?_
  exact (zr_Sl_emptyDigit_12 B)
theorem zr_Sl_emptyDigit_7 (B : zs_B p s m args meth c G bb_Sl_emptyDigit 1 yy_Sl_emptyDigit (some .int)) : zA_Sl_emptyDigit p l e s m args below meth c G Q 7 (zb_Sl_emptyDigit_7 Q) := by
  unfold zb_Sl_emptyDigit_7
  refine za_ico B.1 1 dd_Sl_emptyDigit_7 (by decide) ?_
  refine za_goto B.1 12 dd_Sl_emptyDigit_8 (by decide) ?_
  exact (zr_Sl_emptyDigit_12 B)
theorem zr_Sl_emptyDigit_0 (B : zs_B p s m args meth c G bb_Sl_emptyDigit 1 yy_Sl_emptyDigit (some .int)) : zA_Sl_emptyDigit p l e s m args below meth c G Q 0 (zb_Sl_emptyDigit_0 Q) := by
  unfold zb_Sl_emptyDigit_0
  refine za_ald_n B.1 0 dd_Sl_emptyDigit_0 rfl ?_
  refine za_gtI B.1 5 1 zi_5 rfl (by decide) (by decide) rfl zW_158 rfl dd_Sl_emptyDigit_1 ?_
  exact za_if_eq B.1 11 dd_Sl_emptyDigit_4 (by decide) (zr_Sl_emptyDigit_11 B) (zr_Sl_emptyDigit_7 B)
end
theorem zm_Sl_emptyDigit (l : Launch) (G : zs_G) (As : List Value) (σ : zs_S) (Q : zs_Q) (h : zw_Sl_emptyDigit As σ Q) : zs_Met l yy_Sl_emptyDigit (Cond.code yy_Sl_emptyDigit bb_Sl_emptyDigit 1 (some .int) :: zw_all) zk_Sl_emptyDigit G As σ Q 0 0 := by
  unfold zw_Sl_emptyDigit at h
  split at h
  · exact zs_enter (by decide +kernel) h.1 (Nat.le_of_ble_eq_true rfl) h.2 (fun p e s m args below meth c B => zr_Sl_emptyDigit_0 B)
  · exact h.elim
-- SequencedBatches$Code.of(IIIII)I
theorem dd_Co_of_0 : decode bb_Co_of 0 = .ok (.ldc 7, 2) := by decide +kernel
theorem dd_Co_of_2 : decode bb_Co_of 2 = .ok (.iload_n 0, 1) := by decide +kernel
theorem dd_Co_of_3 : decode bb_Co_of 3 = .ok (.imul, 1) := by decide +kernel
theorem dd_Co_of_4 : decode bb_Co_of 4 = .ok (.ldc 8, 2) := by decide +kernel
theorem dd_Co_of_6 : decode bb_Co_of 6 = .ok (.iload_n 1, 1) := by decide +kernel
theorem dd_Co_of_7 : decode bb_Co_of 7 = .ok (.imul, 1) := by decide +kernel
theorem dd_Co_of_8 : decode bb_Co_of 8 = .ok (.iadd, 1) := by decide +kernel
theorem dd_Co_of_9 : decode bb_Co_of 9 = .ok (.sipush 1000, 3) := by decide +kernel
theorem dd_Co_of_12 : decode bb_Co_of 12 = .ok (.iload_n 2, 1) := by decide +kernel
theorem dd_Co_of_13 : decode bb_Co_of 13 = .ok (.imul, 1) := by decide +kernel
theorem dd_Co_of_14 : decode bb_Co_of 14 = .ok (.iadd, 1) := by decide +kernel
theorem dd_Co_of_15 : decode bb_Co_of 15 = .ok (.bipush 10, 2) := by decide +kernel
theorem dd_Co_of_17 : decode bb_Co_of 17 = .ok (.iload_n 3, 1) := by decide +kernel
theorem dd_Co_of_18 : decode bb_Co_of 18 = .ok (.imul, 1) := by decide +kernel
theorem dd_Co_of_19 : decode bb_Co_of 19 = .ok (.iadd, 1) := by decide +kernel
theorem dd_Co_of_20 : decode bb_Co_of 20 = .ok (.iload 4, 2) := by decide +kernel
theorem dd_Co_of_22 : decode bb_Co_of 22 = .ok (.iadd, 1) := by decide +kernel
theorem dd_Co_of_23 : decode bb_Co_of 23 = .ok (.ireturn, 1) := by decide +kernel
def zk_Co_of : Room := { frames := 0, cells := 0, slots := 0, locals := 0 }
abbrev zA_Co_of (p : Program) (l : Launch) (e : Env) (s : State) (m : MethodId) (args : Array Value) (below : List Frame) (meth : Method) (c : Code) (G : zs_G) (Q : zs_Q) (pc : Nat) (P : zs_P) : Prop := zs_At p l e zk_Co_of s m args below meth c (MQ below (zs_Qc G Q) args s 0 0 (fun q => zg_z G ≤ q)) G 5 pc P
def zb_Co_of_0 (Q : zs_Q) : zs_P := zt_psh 1000000 (zt_ild 0 (zt_bin (fun x y => x * y) (zt_psh 100000 (zt_ild 1 (zt_bin (fun x y => x * y) (zt_bin (fun x y => x + y) (zt_psh 1000 (zt_ild 2 (zt_bin (fun x y => x * y) (zt_bin (fun x y => x + y) (zt_psh 10 (zt_ild 3 (zt_bin (fun x y => x * y) (zt_bin (fun x y => x + y) (zt_ild 4 (zt_bin (fun x y => x + y) (zt_irt 0 0 Q)))))))))))))))))
def zw_Co_of : zs_W := fun As σ Q => match As with
  | [a0, a1, a2, a3, a4] => zs_c1 [a0, a1, a2, a3, a4] = true ∧ zb_Co_of_0 Q [some a0, some a1, some a2, some a3, some a4] [] σ 0 0
  | _ => False
section
variable {p : Program} {l : Launch} {e : Env} {s : State} {m : MethodId} {args : Array Value} {below : List Frame} {meth : Method} {c : Code} {G : zs_G} {Q : zs_Q}
theorem zr_Co_of_0 (B : zs_B p s m args meth c G bb_Co_of 5 yy_Co_of (some .int)) : zA_Co_of p l e s m args below meth c G Q 0 (zb_Co_of_0 Q) := by
  unfold zb_Co_of_0
  refine za_ldc B.1 1000000 dd_Co_of_0 zW_175 ?_
  refine za_ild_n B.1 0 dd_Co_of_2 rfl ?_
  refine za_mul B.1 dd_Co_of_3 ?_
  refine za_ldc B.1 100000 dd_Co_of_4 zW_176 ?_
  refine za_ild_n B.1 1 dd_Co_of_6 rfl ?_
  refine za_mul B.1 dd_Co_of_7 ?_
  refine za_add B.1 dd_Co_of_8 ?_
  refine za_sip B.1 1000 dd_Co_of_9 (by decide) ?_
  refine za_ild_n B.1 2 dd_Co_of_12 rfl ?_
  refine za_mul B.1 dd_Co_of_13 ?_
  refine za_add B.1 dd_Co_of_14 ?_
  refine za_bip B.1 10 dd_Co_of_15 (by decide) ?_
  refine za_ild_n B.1 3 dd_Co_of_17 rfl ?_
  refine za_mul B.1 dd_Co_of_18 ?_
  refine za_add B.1 dd_Co_of_19 ?_
  refine za_ild B.1 dd_Co_of_20 ?_
  refine za_add B.1 dd_Co_of_22 ?_
  exact za_irt B.1 0 0 B.2.1 B.2.2.1 dd_Co_of_23
end
theorem zm_Co_of (l : Launch) (G : zs_G) (As : List Value) (σ : zs_S) (Q : zs_Q) (h : zw_Co_of As σ Q) : zs_Met l yy_Co_of (Cond.code yy_Co_of bb_Co_of 5 (some .int) :: zw_all) zk_Co_of G As σ Q 0 0 := by
  unfold zw_Co_of at h
  split at h
  · exact zs_enter (by decide +kernel) h.1 (Nat.le_of_ble_eq_true rfl) h.2 (fun p e s m args below meth c B => zr_Co_of_0 B)
  · exact h.elim
-- SequencedBatches$Post.send(II)V
theorem dd_Po_send_0 : decode bb_Po_send 0 = .ok (.aload_n 0, 1) := by decide +kernel
theorem dd_Po_send_1 : decode bb_Po_send 1 = .ok (.getfield 16, 3) := by decide +kernel
theorem dd_Po_send_4 : decode bb_Po_send 4 = .ok (.bipush 100, 2) := by decide +kernel
theorem dd_Po_send_6 : decode bb_Po_send 6 = .ok (.if_icmp .ge 33, 3) := by decide +kernel
theorem dd_Po_send_9 : decode bb_Po_send 9 = .ok (.aload_n 0, 1) := by decide +kernel
theorem dd_Po_send_10 : decode bb_Po_send 10 = .ok (.getfield 9, 3) := by decide +kernel
theorem dd_Po_send_13 : decode bb_Po_send 13 = .ok (.aload_n 0, 1) := by decide +kernel
theorem dd_Po_send_14 : decode bb_Po_send 14 = .ok (.getfield 16, 3) := by decide +kernel
theorem dd_Po_send_17 : decode bb_Po_send 17 = .ok (.iload_n 1, 1) := by decide +kernel
theorem dd_Po_send_18 : decode bb_Po_send 18 = .ok (.iastore, 1) := by decide +kernel
theorem dd_Po_send_19 : decode bb_Po_send 19 = .ok (.aload_n 0, 1) := by decide +kernel
theorem dd_Po_send_20 : decode bb_Po_send 20 = .ok (.getfield 13, 3) := by decide +kernel
theorem dd_Po_send_23 : decode bb_Po_send 23 = .ok (.aload_n 0, 1) := by decide +kernel
theorem dd_Po_send_24 : decode bb_Po_send 24 = .ok (.getfield 16, 3) := by decide +kernel
theorem dd_Po_send_27 : decode bb_Po_send 27 = .ok (.iload_n 2, 1) := by decide +kernel
theorem dd_Po_send_28 : decode bb_Po_send 28 = .ok (.iastore, 1) := by decide +kernel
theorem dd_Po_send_29 : decode bb_Po_send 29 = .ok (.aload_n 0, 1) := by decide +kernel
theorem dd_Po_send_30 : decode bb_Po_send 30 = .ok (.dup, 1) := by decide +kernel
theorem dd_Po_send_31 : decode bb_Po_send 31 = .ok (.getfield 16, 3) := by decide +kernel
theorem dd_Po_send_34 : decode bb_Po_send 34 = .ok (.iconst 1, 1) := by decide +kernel
theorem dd_Po_send_35 : decode bb_Po_send 35 = .ok (.iadd, 1) := by decide +kernel
theorem dd_Po_send_36 : decode bb_Po_send 36 = .ok (.putfield 16, 3) := by decide +kernel
theorem dd_Po_send_39 : decode bb_Po_send 39 = .ok (.return_, 1) := by decide +kernel
def zk_Po_send : Room := { frames := 0, cells := 0, slots := 0, locals := 0 }
abbrev zA_Po_send (p : Program) (l : Launch) (e : Env) (s : State) (m : MethodId) (args : Array Value) (below : List Frame) (meth : Method) (c : Code) (G : zs_G) (Q : zs_Q) (pc : Nat) (P : zs_P) : Prop := zs_At p l e zk_Po_send s m args below meth c (MQ below (zs_Qc G Q) args s 0 0 (fun q => zg_z G ≤ q)) G 3 pc P
def zb_Po_send_39 (Q : zs_Q) : zs_P := zt_vrt 0 0 Q
def zb_Po_send_9 (Q : zs_Q) : zs_P := zt_ald 0 (zt_gtR 2 0 (zt_ald 0 (zt_gtI 2 2 (zt_ild 1 (zt_ias (zt_ald 0 (zt_gtR 2 1 (zt_ald 0 (zt_gtI 2 2 (zt_ild 2 (zt_ias (zt_ald 0 (zt_dup (zt_gtI 2 2 (zt_psh 1 (zt_bin (fun x y => x + y) (zt_ptI 2 2 ((zb_Po_send_39 Q)))))))))))))))))))
def zb_Po_send_0 (Q : zs_Q) : zs_P := zt_ald 0 (zt_gtI 2 2 (zt_psh 100 (zt_cmp (fun x y => y ≤ x) (zb_Po_send_39 Q) (zb_Po_send_9 Q))))
def zw_Po_send : zs_W := fun As σ Q => match As with
  | [a0, a1, a2] => zs_c1 [a0, a1, a2] = true ∧ zb_Po_send_0 Q [some a0, some a1, some a2] [] σ 0 0
  | _ => False
section
variable {p : Program} {l : Launch} {e : Env} {s : State} {m : MethodId} {args : Array Value} {below : List Frame} {meth : Method} {c : Code} {G : zs_G} {Q : zs_Q}
theorem zr_Po_send_39 (B : zs_B p s m args meth c G bb_Po_send 3 yy_Po_send none) : zA_Po_send p l e s m args below meth c G Q 39 (zb_Po_send_39 Q) := by
  unfold zb_Po_send_39
  exact za_vrt B.1 0 0 B.2.1 B.2.2.1 dd_Po_send_39
theorem zr_Po_send_9 (B : zs_B p s m args meth c G bb_Po_send 3 yy_Po_send none) : zA_Po_send p l e s m args below meth c G Q 9 (zb_Po_send_9 Q) := by
  unfold zb_Po_send_9
  refine za_ald_n B.1 0 dd_Po_send_9 rfl ?_
  refine za_gtR B.1 2 0 zi_2 rfl (by decide) (by decide) rfl zW_27 rfl dd_Po_send_10 ?_
  refine za_ald_n B.1 0 dd_Po_send_13 rfl ?_
  refine za_gtI B.1 2 2 zi_2 rfl (by decide) (by decide) rfl zW_29 rfl dd_Po_send_14 ?_
  refine za_ild_n B.1 1 dd_Po_send_17 rfl ?_
  refine za_iast B.1 dd_Po_send_18 ?_
  refine za_ald_n B.1 0 dd_Po_send_19 rfl ?_
  refine za_gtR B.1 2 1 zi_2 rfl (by decide) (by decide) rfl zW_28 rfl dd_Po_send_20 ?_
  refine za_ald_n B.1 0 dd_Po_send_23 rfl ?_
  refine za_gtI B.1 2 2 zi_2 rfl (by decide) (by decide) rfl zW_29 rfl dd_Po_send_24 ?_
  refine za_ild_n B.1 2 dd_Po_send_27 rfl ?_
  refine za_iast B.1 dd_Po_send_28 ?_
  refine za_ald_n B.1 0 dd_Po_send_29 rfl ?_
  refine za_dup B.1 dd_Po_send_30 ?_
  refine za_gtI B.1 2 2 zi_2 rfl (by decide) (by decide) rfl zW_29 rfl dd_Po_send_31 ?_
  refine za_ico B.1 1 dd_Po_send_34 (by decide) ?_
  refine za_add B.1 dd_Po_send_35 ?_
  refine za_ptI B.1 2 2 zi_2 zy_Po zy_Po_ok zn_Po rfl (by decide) (by decide) rfl zW_29 rfl rfl rfl dd_Po_send_36 ?_
  exact (zr_Po_send_39 B)
theorem zr_Po_send_0 (B : zs_B p s m args meth c G bb_Po_send 3 yy_Po_send none) : zA_Po_send p l e s m args below meth c G Q 0 (zb_Po_send_0 Q) := by
  unfold zb_Po_send_0
  refine za_ald_n B.1 0 dd_Po_send_0 rfl ?_
  refine za_gtI B.1 2 2 zi_2 rfl (by decide) (by decide) rfl zW_29 rfl dd_Po_send_1 ?_
  refine za_bip B.1 100 dd_Po_send_4 (by decide) ?_
  exact za_cmp_ge B.1 39 dd_Po_send_6 (by decide) (zr_Po_send_39 B) (zr_Po_send_9 B)
end
theorem zm_Po_send (l : Launch) (G : zs_G) (As : List Value) (σ : zs_S) (Q : zs_Q) (h : zw_Po_send As σ Q) : zs_Met l yy_Po_send (Cond.code yy_Po_send bb_Po_send 3 none :: zw_all) zk_Po_send G As σ Q 0 0 := by
  unfold zw_Po_send at h
  split at h
  · exact zs_enter (by decide +kernel) h.1 (Nat.le_of_ble_eq_true rfl) h.2 (fun p e s m args below meth c B => zr_Po_send_0 B)
  · exact h.elim
-- SequencedBatches.sendStores(II)I
theorem dd_SB_sendStores_0 : decode bb_SB_sendStores 0 = .ok (.aload_n 0, 1) := by decide +kernel
theorem dd_SB_sendStores_1 : decode bb_SB_sendStores 1 = .ok (.getfield 38, 3) := by decide +kernel
theorem dd_SB_sendStores_4 : decode bb_SB_sendStores 4 = .ok (.iload_n 1, 1) := by decide +kernel
theorem dd_SB_sendStores_5 : decode bb_SB_sendStores 5 = .ok (.aaload, 1) := by decide +kernel
theorem dd_SB_sendStores_6 : decode bb_SB_sendStores 6 = .ok (.getfield 219, 3) := by decide +kernel
theorem dd_SB_sendStores_9 : decode bb_SB_sendStores 9 = .ok (.iload_n 2, 1) := by decide +kernel
theorem dd_SB_sendStores_10 : decode bb_SB_sendStores 10 = .ok (.aaload, 1) := by decide +kernel
theorem dd_SB_sendStores_11 : decode bb_SB_sendStores 11 = .ok (.astore_n 3, 1) := by decide +kernel
theorem dd_SB_sendStores_12 : decode bb_SB_sendStores 12 = .ok (.iconst 0, 1) := by decide +kernel
theorem dd_SB_sendStores_13 : decode bb_SB_sendStores 13 = .ok (.istore 4, 2) := by decide +kernel
theorem dd_SB_sendStores_15 : decode bb_SB_sendStores 15 = .ok (.iconst 0, 1) := by decide +kernel
theorem dd_SB_sendStores_16 : decode bb_SB_sendStores 16 = .ok (.istore 5, 2) := by decide +kernel
theorem dd_SB_sendStores_18 : decode bb_SB_sendStores 18 = .ok (.iload 5, 2) := by decide +kernel
theorem dd_SB_sendStores_20 : decode bb_SB_sendStores 20 = .ok (.iconst 3, 1) := by decide +kernel
theorem dd_SB_sendStores_21 : decode bb_SB_sendStores 21 = .ok (.if_icmp .ge 49, 3) := by decide +kernel
theorem dd_SB_sendStores_24 : decode bb_SB_sendStores 24 = .ok (.aload_n 3, 1) := by decide +kernel
theorem dd_SB_sendStores_25 : decode bb_SB_sendStores 25 = .ok (.iload 5, 2) := by decide +kernel
theorem dd_SB_sendStores_27 : decode bb_SB_sendStores 27 = .ok (.invokevirtual 223, 3) := by decide +kernel
theorem dd_SB_sendStores_30 : decode bb_SB_sendStores 30 = .ok (.ifCond .ne 34, 3) := by decide +kernel
theorem dd_SB_sendStores_33 : decode bb_SB_sendStores 33 = .ok (.aload_n 0, 1) := by decide +kernel
theorem dd_SB_sendStores_34 : decode bb_SB_sendStores 34 = .ok (.getfield 26, 3) := by decide +kernel
theorem dd_SB_sendStores_37 : decode bb_SB_sendStores 37 = .ok (.iconst 1, 1) := by decide +kernel
theorem dd_SB_sendStores_38 : decode bb_SB_sendStores 38 = .ok (.iload_n 1, 1) := by decide +kernel
theorem dd_SB_sendStores_39 : decode bb_SB_sendStores 39 = .ok (.iload_n 2, 1) := by decide +kernel
theorem dd_SB_sendStores_40 : decode bb_SB_sendStores 40 = .ok (.iload 5, 2) := by decide +kernel
theorem dd_SB_sendStores_42 : decode bb_SB_sendStores 42 = .ok (.aload_n 3, 1) := by decide +kernel
theorem dd_SB_sendStores_43 : decode bb_SB_sendStores 43 = .ok (.invokevirtual 226, 3) := by decide +kernel
theorem dd_SB_sendStores_46 : decode bb_SB_sendStores 46 = .ok (.invokestatic 229, 3) := by decide +kernel
theorem dd_SB_sendStores_49 : decode bb_SB_sendStores 49 = .ok (.aload_n 0, 1) := by decide +kernel
theorem dd_SB_sendStores_50 : decode bb_SB_sendStores 50 = .ok (.getfield 38, 3) := by decide +kernel
theorem dd_SB_sendStores_53 : decode bb_SB_sendStores 53 = .ok (.iload_n 1, 1) := by decide +kernel
theorem dd_SB_sendStores_54 : decode bb_SB_sendStores 54 = .ok (.aaload, 1) := by decide +kernel
theorem dd_SB_sendStores_55 : decode bb_SB_sendStores 55 = .ok (.getfield 233, 3) := by decide +kernel
theorem dd_SB_sendStores_58 : decode bb_SB_sendStores 58 = .ok (.invokevirtual 236, 3) := by decide +kernel
theorem dd_SB_sendStores_61 : decode bb_SB_sendStores 61 = .ok (.iinc 4 1, 3) := by decide +kernel
theorem dd_SB_sendStores_64 : decode bb_SB_sendStores 64 = .ok (.iinc 5 1, 3) := by decide +kernel
theorem dd_SB_sendStores_67 : decode bb_SB_sendStores 67 = .ok (.goto (-49), 3) := by decide +kernel
theorem dd_SB_sendStores_70 : decode bb_SB_sendStores 70 = .ok (.iload 4, 2) := by decide +kernel
theorem dd_SB_sendStores_72 : decode bb_SB_sendStores 72 = .ok (.ireturn, 1) := by decide +kernel
def zk_SB_sendStores : Room := { frames := 1, cells := 0, slots := 0, locals := 24 }
abbrev zA_SB_sendStores (p : Program) (l : Launch) (e : Env) (s : State) (m : MethodId) (args : Array Value) (below : List Frame) (meth : Method) (c : Code) (G : zs_G) (Q : zs_Q) (pc : Nat) (P : zs_P) : Prop := zs_At p l e zk_SB_sendStores s m args below meth c (MQ below (zs_Qc G Q) args s 0 0 (fun q => zg_z G ≤ q)) G 6 pc P
def zb_SB_sendStores_70 (Q : zs_Q) : zs_P := zt_ild 4 (zt_irt 0 0 Q)
def zb_SB_sendStores_64 (Q : zs_Q) (K18 : zs_P) : zs_P := zt_inc 5 1 (K18)
def zb_SB_sendStores_33 (Q : zs_Q) (K18 : zs_P) : zs_P := zt_ald 0 (zt_gtR 7 4 (zt_psh 1 (zt_ild 1 (zt_ild 2 (zt_ild 5 (zt_ald 3 (zt_cav 5 zw_Sl_emptyDigit (0 + 1) 0 0 0 0 (zt_cal zw_Co_of 5 0 0 0 0 (zt_ald 0 (zt_gtR 7 6 (zt_ild 1 (zt_rld (110 + 4) (zt_gtI 4 4 (zt_cav 2 zw_Po_send (2 + 1) 0 0 0 0 (zt_inc 4 1 ((zb_SB_sendStores_64 Q K18)))))))))))))))))
def zb_SB_sendStores_24 (Q : zs_Q) (K18 : zs_P) : zs_P := zt_ald 3 (zt_ild 5 (zt_cav 5 zw_Sl_isAcknowledgedBy (1 + 1) 0 0 0 0 (zt_if (fun x => x = 0) (zb_SB_sendStores_33 Q K18) (zb_SB_sendStores_64 Q K18))))
def zb_SB_sendStores_18 (Q : zs_Q) (K18 : zs_P) : zs_P := zt_ild 5 (zt_psh 3 (zt_cmp (fun x y => y ≤ x) (zb_SB_sendStores_70 Q) (zb_SB_sendStores_24 Q K18)))
def zl_SB_sendStores_18 (Q : zs_Q) : zs_P := zt_ex (zb_SB_sendStores_18 Q)
def zb_SB_sendStores_0 (Q : zs_Q) : zs_P := zt_ald 0 (zt_gtR 7 6 (zt_ild 1 (zt_rld (110 + 4) (zt_gtR 4 2 (zt_ild 2 (zt_rld (110 + 5) (zt_ast 3 (zt_psh 0 (zt_ist 4 (zt_psh 0 (zt_ist 5 ((zl_SB_sendStores_18 Q)))))))))))))
def zw_SB_sendStores : zs_W := fun As σ Q => match As with
  | [a0, a1, a2] => zs_c1 [a0, a1, a2] = true ∧ zb_SB_sendStores_0 Q [some a0, some a1, some a2, none, none, none] [] σ 0 0
  | _ => False
section
variable {p : Program} {l : Launch} {e : Env} {s : State} {m : MethodId} {args : Array Value} {below : List Frame} {meth : Method} {c : Code} {G : zs_G} {Q : zs_Q}
theorem zr_SB_sendStores_70 (B : zs_B p s m args meth c G bb_SB_sendStores 6 yy_SB_sendStores (some .int)) : zA_SB_sendStores p l e s m args below meth c G Q 70 (zb_SB_sendStores_70 Q) := by
  unfold zb_SB_sendStores_70
  refine za_ild B.1 dd_SB_sendStores_70 ?_
  exact za_irt B.1 0 0 B.2.1 B.2.2.1 dd_SB_sendStores_72
theorem zr_SB_sendStores_64 (B : zs_B p s m args meth c G bb_SB_sendStores 6 yy_SB_sendStores (some .int)) {K18 : zs_P} (h18 : zA_SB_sendStores p l e s m args below meth c G Q 18 K18) : zA_SB_sendStores p l e s m args below meth c G Q 64 (zb_SB_sendStores_64 Q K18) := by
  unfold zb_SB_sendStores_64
  refine za_inc B.1 1 dd_SB_sendStores_64 (by decide) (by decide) ?_
  refine za_goto B.1 18 dd_SB_sendStores_67 (by decide) ?_
  exact h18
theorem zr_SB_sendStores_33 (B : zs_B p s m args meth c G bb_SB_sendStores 6 yy_SB_sendStores (some .int)) {K18 : zs_P} (h18 : zA_SB_sendStores p l e s m args below meth c G Q 18 K18) : zA_SB_sendStores p l e s m args below meth c G Q 33 (zb_SB_sendStores_33 Q K18) := by
  unfold zb_SB_sendStores_33
  refine za_ald_n B.1 0 dd_SB_sendStores_33 rfl ?_
  refine za_gtR B.1 7 4 zi_7 rfl (by decide) (by decide) rfl zW_92 rfl dd_SB_sendStores_34 ?_
  refine za_ico B.1 1 dd_SB_sendStores_37 (by decide) ?_
  refine za_ild_n B.1 1 dd_SB_sendStores_38 rfl ?_
  refine za_ild_n B.1 2 dd_SB_sendStores_39 rfl ?_
  refine za_ild B.1 dd_SB_sendStores_40 ?_
  refine za_ald_n B.1 3 dd_SB_sendStores_42 rfl ?_
  refine za_cV B.1 5 0 0 0 0 0 rfl rfl rfl (by decide) (zm_Sl_emptyDigit l G) ⟨callB_of 0 B.1.1.2.2.2.2 (zs_good zW_171) rfl rfl rfl (B.1.1.2.2.2.2 _ zW_10) (B.1.1.2.2.2.2 _ zW_168) (by decide +kernel) ⟨by decide, by decide⟩, (B.1.1.2.2.2.2 _ zW_169), (B.1.1.2.2.2.2 _ zW_170)⟩ dd_SB_sendStores_43 ?_
  refine za_cS B.1 5 0 0 0 0 rfl rfl (zm_Co_of l G) ⟨callB_of 5 B.1.1.2.2.2.2 (zs_good zW_174) rfl rfl rfl (B.1.1.2.2.2.2 _ zW_11) (B.1.1.2.2.2.2 _ zW_172) (by decide +kernel) ⟨by decide, by decide⟩, (B.1.1.2.2.2.2 _ zW_173)⟩ dd_SB_sendStores_46 ?_
  refine za_ald_n B.1 0 dd_SB_sendStores_49 rfl ?_
  refine za_gtR B.1 7 6 zi_7 rfl (by decide) (by decide) rfl zW_94 rfl dd_SB_sendStores_50 ?_
  refine za_ild_n B.1 1 dd_SB_sendStores_53 rfl ?_
  refine za_rld B.1 4 4 rfl dd_SB_sendStores_54 ?_
  refine za_gtIN (host := "SequencedBatches") B.1 4 4 zi_4 rfl (by decide) (by decide) rfl (by decide +kernel) rfl dd_SB_sendStores_55 ?_
  refine za_cV B.1 2 2 0 0 0 0 rfl rfl rfl (by decide) (zm_Po_send l G) ⟨callB_of 2 B.1.1.2.2.2.2 (zs_good zW_180) rfl rfl rfl (B.1.1.2.2.2.2 _ zW_2) (B.1.1.2.2.2.2 _ zW_177) (by decide +kernel) ⟨by decide, by decide⟩, (B.1.1.2.2.2.2 _ zW_178), (B.1.1.2.2.2.2 _ zW_179)⟩ dd_SB_sendStores_58 ?_
  refine za_inc B.1 1 dd_SB_sendStores_61 (by decide) (by decide) ?_
  exact (zr_SB_sendStores_64 B h18)
theorem zr_SB_sendStores_24 (B : zs_B p s m args meth c G bb_SB_sendStores 6 yy_SB_sendStores (some .int)) {K18 : zs_P} (h18 : zA_SB_sendStores p l e s m args below meth c G Q 18 K18) : zA_SB_sendStores p l e s m args below meth c G Q 24 (zb_SB_sendStores_24 Q K18) := by
  unfold zb_SB_sendStores_24
  refine za_ald_n B.1 3 dd_SB_sendStores_24 rfl ?_
  refine za_ild B.1 dd_SB_sendStores_25 ?_
  refine za_cV B.1 5 1 0 0 0 0 rfl rfl rfl (by decide) (zm_Sl_isAcknowledgedBy l G) ⟨callB_of 1 B.1.1.2.2.2.2 (zs_good zW_167) rfl rfl rfl (B.1.1.2.2.2.2 _ zW_10) (B.1.1.2.2.2.2 _ zW_164) (by decide +kernel) ⟨by decide, by decide⟩, (B.1.1.2.2.2.2 _ zW_165), (B.1.1.2.2.2.2 _ zW_166)⟩ dd_SB_sendStores_27 ?_
  exact za_if_ne B.1 64 dd_SB_sendStores_30 (by decide) (zr_SB_sendStores_33 B h18) (zr_SB_sendStores_64 B h18)
theorem zr_SB_sendStores_18 (B : zs_B p s m args meth c G bb_SB_sendStores 6 yy_SB_sendStores (some .int)) {K18 : zs_P} (h18 : zA_SB_sendStores p l e s m args below meth c G Q 18 K18) : zA_SB_sendStores p l e s m args below meth c G Q 18 (zb_SB_sendStores_18 Q K18) := by
  unfold zb_SB_sendStores_18
  refine za_ild B.1 dd_SB_sendStores_18 ?_
  refine za_ico B.1 3 dd_SB_sendStores_20 (by decide) ?_
  exact za_cmp_ge B.1 70 dd_SB_sendStores_21 (by decide) (zr_SB_sendStores_70 B) (zr_SB_sendStores_24 B h18)
theorem zq_SB_sendStores_18 (B : zs_B p s m args meth c G bb_SB_sendStores 6 yy_SB_sendStores (some .int)) : zA_SB_sendStores p l e s m args below meth c G Q 18 (zl_SB_sendStores_18 Q) := za_lop (fun K hK => zr_SB_sendStores_18 B hK)
theorem zr_SB_sendStores_0 (B : zs_B p s m args meth c G bb_SB_sendStores 6 yy_SB_sendStores (some .int)) : zA_SB_sendStores p l e s m args below meth c G Q 0 (zb_SB_sendStores_0 Q) := by
  unfold zb_SB_sendStores_0
  refine za_ald_n B.1 0 dd_SB_sendStores_0 rfl ?_
  refine za_gtR B.1 7 6 zi_7 rfl (by decide) (by decide) rfl zW_94 rfl dd_SB_sendStores_1 ?_
  refine za_ild_n B.1 1 dd_SB_sendStores_4 rfl ?_
  refine za_rld B.1 4 4 rfl dd_SB_sendStores_5 ?_
  refine za_gtRN (host := "SequencedBatches") B.1 4 2 zi_4 rfl (by decide) (by decide) rfl (by decide +kernel) rfl dd_SB_sendStores_6 ?_
  refine za_ild_n B.1 2 dd_SB_sendStores_9 rfl ?_
  refine za_rld B.1 5 6 rfl dd_SB_sendStores_10 ?_
  refine za_ast_n B.1 3 dd_SB_sendStores_11 rfl (by decide) ?_
  refine za_ico B.1 0 dd_SB_sendStores_12 (by decide) ?_
  refine za_ist B.1 dd_SB_sendStores_13 (by decide) ?_
  refine za_ico B.1 0 dd_SB_sendStores_15 (by decide) ?_
  refine za_ist B.1 dd_SB_sendStores_16 (by decide) ?_
  exact (zq_SB_sendStores_18 B)
end
theorem zm_SB_sendStores (l : Launch) (G : zs_G) (As : List Value) (σ : zs_S) (Q : zs_Q) (h : zw_SB_sendStores As σ Q) : zs_Met l yy_SB_sendStores (Cond.code yy_SB_sendStores bb_SB_sendStores 6 (some .int) :: zw_all) zk_SB_sendStores G As σ Q 0 0 := by
  unfold zw_SB_sendStores at h
  split at h
  · exact zs_enter (by decide +kernel) h.1 (Nat.le_of_ble_eq_true rfl) h.2 (fun p e s m args below meth c B => zr_SB_sendStores_0 B)
  · exact h.elim
-- SequencedBatches.close(I)I
theorem dd_SB_close_0 : decode bb_SB_close 0 = .ok (.aload_n 0, 1) := by decide +kernel
theorem dd_SB_close_1 : decode bb_SB_close 1 = .ok (.iload_n 1, 1) := by decide +kernel
theorem dd_SB_close_2 : decode bb_SB_close 2 = .ok (.invokevirtual 65, 3) := by decide +kernel
theorem dd_SB_close_5 : decode bb_SB_close 5 = .ok (.ifCond .eq 25, 3) := by decide +kernel
theorem dd_SB_close_8 : decode bb_SB_close 8 = .ok (.aload_n 0, 1) := by decide +kernel
theorem dd_SB_close_9 : decode bb_SB_close 9 = .ok (.getfield 38, 3) := by decide +kernel
theorem dd_SB_close_12 : decode bb_SB_close 12 = .ok (.iload_n 1, 1) := by decide +kernel
theorem dd_SB_close_13 : decode bb_SB_close 13 = .ok (.aaload, 1) := by decide +kernel
theorem dd_SB_close_14 : decode bb_SB_close 14 = .ok (.invokevirtual 87, 3) := by decide +kernel
theorem dd_SB_close_17 : decode bb_SB_close 17 = .ok (.ifCond .eq 13, 3) := by decide +kernel
theorem dd_SB_close_20 : decode bb_SB_close 20 = .ok (.aload_n 0, 1) := by decide +kernel
theorem dd_SB_close_21 : decode bb_SB_close 21 = .ok (.getfield 26, 3) := by decide +kernel
theorem dd_SB_close_24 : decode bb_SB_close 24 = .ok (.invokevirtual 90, 3) := by decide +kernel
theorem dd_SB_close_27 : decode bb_SB_close 27 = .ok (.ifCond .eq 5, 3) := by decide +kernel
theorem dd_SB_close_30 : decode bb_SB_close 30 = .ok (.iconst (-1), 1) := by decide +kernel
theorem dd_SB_close_31 : decode bb_SB_close 31 = .ok (.ireturn, 1) := by decide +kernel
theorem dd_SB_close_32 : decode bb_SB_close 32 = .ok (.aload_n 0, 1) := by decide +kernel
theorem dd_SB_close_33 : decode bb_SB_close 33 = .ok (.getfield 38, 3) := by decide +kernel
theorem dd_SB_close_36 : decode bb_SB_close 36 = .ok (.iload_n 1, 1) := by decide +kernel
theorem dd_SB_close_37 : decode bb_SB_close 37 = .ok (.aaload, 1) := by decide +kernel
theorem dd_SB_close_38 : decode bb_SB_close 38 = .ok (.invokevirtual 93, 3) := by decide +kernel
theorem dd_SB_close_41 : decode bb_SB_close 41 = .ok (.istore_n 2, 1) := by decide +kernel
theorem dd_SB_close_42 : decode bb_SB_close 42 = .ok (.aload_n 0, 1) := by decide +kernel
theorem dd_SB_close_43 : decode bb_SB_close 43 = .ok (.iload_n 1, 1) := by decide +kernel
theorem dd_SB_close_44 : decode bb_SB_close 44 = .ok (.iload_n 2, 1) := by decide +kernel
theorem dd_SB_close_45 : decode bb_SB_close 45 = .ok (.invokevirtual 97, 3) := by decide +kernel
theorem dd_SB_close_48 : decode bb_SB_close 48 = .ok (.pop, 1) := by decide +kernel
theorem dd_SB_close_49 : decode bb_SB_close 49 = .ok (.iload_n 2, 1) := by decide +kernel
theorem dd_SB_close_50 : decode bb_SB_close 50 = .ok (.ireturn, 1) := by decide +kernel
def zk_SB_close : Room := { frames := 3, cells := 3, slots := 13, locals := 84 }
abbrev zA_SB_close (p : Program) (l : Launch) (e : Env) (s : State) (m : MethodId) (args : Array Value) (below : List Frame) (meth : Method) (c : Code) (G : zs_G) (Q : zs_Q) (pc : Nat) (P : zs_P) : Prop := zs_At p l e zk_SB_close s m args below meth c (MQ below (zs_Qc G Q) args s 3 13 (fun q => zg_z G ≤ q)) G 3 pc P
def zb_SB_close_30 (Q : zs_Q) : zs_P := zt_psh (-1) (zt_irt 3 13 Q)
def zb_SB_close_32 (Q : zs_Q) : zs_P := zt_ald 0 (zt_gtR 7 6 (zt_ild 1 (zt_rld (110 + 4) (zt_cav 4 zw_Sq_makeSlot (0 + 1) 3 13 3 13 (zt_ist 2 (zt_ald 0 (zt_ild 1 (zt_ild 2 (zt_cav 7 zw_SB_sendStores (2 + 1) 0 0 3 13 (zt_pop (zt_ild 2 (zt_irt 3 13 Q))))))))))))
def zb_SB_close_20 (Q : zs_Q) : zs_P := zt_ald 0 (zt_gtR 7 4 (zt_cav 2 zw_Po_isCrowded (0 + 1) 0 0 3 13 (zt_if (fun x => x = 0) (zb_SB_close_32 Q) (zb_SB_close_30 Q))))
def zb_SB_close_8 (Q : zs_Q) : zs_P := zt_ald 0 (zt_gtR 7 6 (zt_ild 1 (zt_rld (110 + 4) (zt_cav 4 zw_Sq_hasRoomForSlot (0 + 1) 0 0 3 13 (zt_if (fun x => x = 0) (zb_SB_close_30 Q) (zb_SB_close_20 Q))))))
def zb_SB_close_0 (Q : zs_Q) : zs_P := zt_ald 0 (zt_ild 1 (zt_cav 7 zw_SB_sequencerIsUp (1 + 1) 0 0 3 13 (zt_if (fun x => x = 0) (zb_SB_close_30 Q) (zb_SB_close_8 Q))))
def zw_SB_close : zs_W := fun As σ Q => match As with
  | [a0, a1] => zs_c1 [a0, a1] = true ∧ zb_SB_close_0 Q [some a0, some a1, none] [] σ 0 0
  | _ => False
section
variable {p : Program} {l : Launch} {e : Env} {s : State} {m : MethodId} {args : Array Value} {below : List Frame} {meth : Method} {c : Code} {G : zs_G} {Q : zs_Q}
theorem zr_SB_close_30 (B : zs_B p s m args meth c G bb_SB_close 3 yy_SB_close (some .int)) : zA_SB_close p l e s m args below meth c G Q 30 (zb_SB_close_30 Q) := by
  unfold zb_SB_close_30
  refine za_ico B.1 (-1) dd_SB_close_30 (by decide) ?_
  exact za_irt B.1 3 13 B.2.1 B.2.2.1 dd_SB_close_31
theorem zr_SB_close_32 (B : zs_B p s m args meth c G bb_SB_close 3 yy_SB_close (some .int)) : zA_SB_close p l e s m args below meth c G Q 32 (zb_SB_close_32 Q) := by
  unfold zb_SB_close_32
  refine za_ald_n B.1 0 dd_SB_close_32 rfl ?_
  refine za_gtR B.1 7 6 zi_7 rfl (by decide) (by decide) rfl zW_94 rfl dd_SB_close_33 ?_
  refine za_ild_n B.1 1 dd_SB_close_36 rfl ?_
  refine za_rld B.1 4 4 rfl dd_SB_close_37 ?_
  refine za_cV B.1 4 0 3 13 3 13 rfl rfl rfl (by decide) (zm_Sq_makeSlot l G) ⟨callB_of 0 B.1.1.2.2.2.2 (zs_good zW_151) rfl rfl rfl (B.1.1.2.2.2.2 _ zW_5) (B.1.1.2.2.2.2 _ zW_148) (by decide +kernel) ⟨by decide, by decide⟩, (B.1.1.2.2.2.2 _ zW_149), (B.1.1.2.2.2.2 _ zW_150)⟩ dd_SB_close_38 ?_
  refine za_ist_n B.1 2 dd_SB_close_41 rfl (by decide) ?_
  refine za_ald_n B.1 0 dd_SB_close_42 rfl ?_
  refine za_ild_n B.1 1 dd_SB_close_43 rfl ?_
  refine za_ild_n B.1 2 dd_SB_close_44 rfl ?_
  refine za_cV B.1 7 2 0 0 3 13 rfl rfl rfl (by decide) (zm_SB_sendStores l G) ⟨callB_of 2 B.1.1.2.2.2.2 (zs_good zW_163) rfl rfl rfl (B.1.1.2.2.2.2 _ zW_1) (B.1.1.2.2.2.2 _ zW_161) (by decide +kernel) ⟨by decide, by decide⟩, (B.1.1.2.2.2.2 _ zW_162), (B.1.1.2.2.2.2 _ zW_659)⟩ dd_SB_close_45 ?_
  refine za_pop B.1 dd_SB_close_48 ?_
  refine za_ild_n B.1 2 dd_SB_close_49 rfl ?_
  exact za_irt B.1 3 13 B.2.1 B.2.2.1 dd_SB_close_50
theorem zr_SB_close_20 (B : zs_B p s m args meth c G bb_SB_close 3 yy_SB_close (some .int)) : zA_SB_close p l e s m args below meth c G Q 20 (zb_SB_close_20 Q) := by
  unfold zb_SB_close_20
  refine za_ald_n B.1 0 dd_SB_close_20 rfl ?_
  refine za_gtR B.1 7 4 zi_7 rfl (by decide) (by decide) rfl zW_92 rfl dd_SB_close_21 ?_
  refine za_cV B.1 2 0 0 0 3 13 rfl rfl rfl (by decide) (zm_Po_isCrowded l G) ⟨callB_of 0 B.1.1.2.2.2.2 (zs_good zW_147) rfl rfl rfl (B.1.1.2.2.2.2 _ zW_2) (B.1.1.2.2.2.2 _ zW_144) (by decide +kernel) ⟨by decide, by decide⟩, (B.1.1.2.2.2.2 _ zW_145), (B.1.1.2.2.2.2 _ zW_146)⟩ dd_SB_close_24 ?_
  exact za_if_eq B.1 32 dd_SB_close_27 (by decide) (zr_SB_close_32 B) (zr_SB_close_30 B)
theorem zr_SB_close_8 (B : zs_B p s m args meth c G bb_SB_close 3 yy_SB_close (some .int)) : zA_SB_close p l e s m args below meth c G Q 8 (zb_SB_close_8 Q) := by
  unfold zb_SB_close_8
  refine za_ald_n B.1 0 dd_SB_close_8 rfl ?_
  refine za_gtR B.1 7 6 zi_7 rfl (by decide) (by decide) rfl zW_94 rfl dd_SB_close_9 ?_
  refine za_ild_n B.1 1 dd_SB_close_12 rfl ?_
  refine za_rld B.1 4 4 rfl dd_SB_close_13 ?_
  refine za_cV B.1 4 0 0 0 3 13 rfl rfl rfl (by decide) (zm_Sq_hasRoomForSlot l G) ⟨callB_of 0 B.1.1.2.2.2.2 (zs_good zW_143) rfl rfl rfl (B.1.1.2.2.2.2 _ zW_5) (B.1.1.2.2.2.2 _ zW_140) (by decide +kernel) ⟨by decide, by decide⟩, (B.1.1.2.2.2.2 _ zW_141), (B.1.1.2.2.2.2 _ zW_142)⟩ dd_SB_close_14 ?_
  exact za_if_eq B.1 30 dd_SB_close_17 (by decide) (zr_SB_close_30 B) (zr_SB_close_20 B)
theorem zr_SB_close_0 (B : zs_B p s m args meth c G bb_SB_close 3 yy_SB_close (some .int)) : zA_SB_close p l e s m args below meth c G Q 0 (zb_SB_close_0 Q) := by
  unfold zb_SB_close_0
  refine za_ald_n B.1 0 dd_SB_close_0 rfl ?_
  refine za_ild_n B.1 1 dd_SB_close_1 rfl ?_
  refine za_cV B.1 7 1 0 0 3 13 rfl rfl rfl (by decide) (zm_SB_sequencerIsUp l G) ⟨callB_of 1 B.1.1.2.2.2.2 (zs_good zW_102) rfl rfl rfl (B.1.1.2.2.2.2 _ zW_1) (B.1.1.2.2.2.2 _ zW_100) (by decide +kernel) ⟨by decide, by decide⟩, (B.1.1.2.2.2.2 _ zW_101), (B.1.1.2.2.2.2 _ zW_658)⟩ dd_SB_close_2 ?_
  exact za_if_eq B.1 30 dd_SB_close_5 (by decide) (zr_SB_close_30 B) (zr_SB_close_8 B)
end
theorem zm_SB_close (l : Launch) (G : zs_G) (As : List Value) (σ : zs_S) (Q : zs_Q) (h : zw_SB_close As σ Q) : zs_Met l yy_SB_close (Cond.code yy_SB_close bb_SB_close 3 (some .int) :: zw_all) zk_SB_close G As σ Q 3 13 := by
  unfold zw_SB_close at h
  split at h
  · exact zs_enter (by decide +kernel) h.1 (Nat.le_of_ble_eq_true rfl) h.2 (fun p e s m args below meth c B => zr_SB_close_0 B)
  · exact h.elim
-- SequencedBatches$Sequencer.slotAt(I)LSequencedBatches$Slot;
theorem dd_Sq_slotAt_0 : decode bb_Sq_slotAt 0 = .ok (.iload_n 1, 1) := by decide +kernel
theorem dd_Sq_slotAt_1 : decode bb_Sq_slotAt 1 = .ok (.ifCond .lt 20, 3) := by decide +kernel
theorem dd_Sq_slotAt_4 : decode bb_Sq_slotAt 4 = .ok (.iload_n 1, 1) := by decide +kernel
theorem dd_Sq_slotAt_5 : decode bb_Sq_slotAt 5 = .ok (.aload_n 0, 1) := by decide +kernel
theorem dd_Sq_slotAt_6 : decode bb_Sq_slotAt 6 = .ok (.getfield 27, 3) := by decide +kernel
theorem dd_Sq_slotAt_9 : decode bb_Sq_slotAt 9 = .ok (.if_icmp .ge 12, 3) := by decide +kernel
theorem dd_Sq_slotAt_12 : decode bb_Sq_slotAt 12 = .ok (.aload_n 0, 1) := by decide +kernel
theorem dd_Sq_slotAt_13 : decode bb_Sq_slotAt 13 = .ok (.getfield 23, 3) := by decide +kernel
theorem dd_Sq_slotAt_16 : decode bb_Sq_slotAt 16 = .ok (.iload_n 1, 1) := by decide +kernel
theorem dd_Sq_slotAt_17 : decode bb_Sq_slotAt 17 = .ok (.aaload, 1) := by decide +kernel
theorem dd_Sq_slotAt_18 : decode bb_Sq_slotAt 18 = .ok (.goto 4, 3) := by decide +kernel
theorem dd_Sq_slotAt_21 : decode bb_Sq_slotAt 21 = .ok (.aconst_null, 1) := by decide +kernel
theorem dd_Sq_slotAt_22 : decode bb_Sq_slotAt 22 = .ok (.areturn, 1) := by decide +kernel
def zk_Sq_slotAt : Room := { frames := 0, cells := 0, slots := 0, locals := 0 }
abbrev zA_Sq_slotAt (p : Program) (l : Launch) (e : Env) (s : State) (m : MethodId) (args : Array Value) (below : List Frame) (meth : Method) (c : Code) (G : zs_G) (Q : zs_Q) (pc : Nat) (P : zs_P) : Prop := zs_At p l e zk_Sq_slotAt s m args below meth c (MQ below (zs_Qc G Q) args s 0 0 (fun q => zg_z G ≤ q)) G 2 pc P
def zb_Sq_slotAt_22 (Q : zs_Q) : zs_P := zt_art 0 0 Q
def zb_Sq_slotAt_21 (Q : zs_Q) : zs_P := zt_nul ((zb_Sq_slotAt_22 Q))
def zb_Sq_slotAt_12 (Q : zs_Q) : zs_P := zt_ald 0 (zt_gtR 4 2 (zt_ild 1 (zt_rld (110 + 5) ((zb_Sq_slotAt_22 Q)))))
def zb_Sq_slotAt_4 (Q : zs_Q) : zs_P := zt_ild 1 (zt_ald 0 (zt_gtI 4 3 (zt_cmp (fun x y => y ≤ x) (zb_Sq_slotAt_21 Q) (zb_Sq_slotAt_12 Q))))
def zb_Sq_slotAt_0 (Q : zs_Q) : zs_P := zt_ild 1 (zt_if (fun x => x < 0) (zb_Sq_slotAt_21 Q) (zb_Sq_slotAt_4 Q))
def zw_Sq_slotAt : zs_W := fun As σ Q => match As with
  | [a0, a1] => zs_c1 [a0, a1] = true ∧ zb_Sq_slotAt_0 Q [some a0, some a1] [] σ 0 0
  | _ => False
section
variable {p : Program} {l : Launch} {e : Env} {s : State} {m : MethodId} {args : Array Value} {below : List Frame} {meth : Method} {c : Code} {G : zs_G} {Q : zs_Q}
theorem zr_Sq_slotAt_22 (B : zs_B p s m args meth c G bb_Sq_slotAt 2 yy_Sq_slotAt (some (.object "SequencedBatches$Slot"))) : zA_Sq_slotAt p l e s m args below meth c G Q 22 (zb_Sq_slotAt_22 Q) := by
  unfold zb_Sq_slotAt_22
  exact za_art B.1 0 0 B.2.1 (Or.inl ⟨_, rfl⟩) B.2.2.1 dd_Sq_slotAt_22
theorem zr_Sq_slotAt_21 (B : zs_B p s m args meth c G bb_Sq_slotAt 2 yy_Sq_slotAt (some (.object "SequencedBatches$Slot"))) : zA_Sq_slotAt p l e s m args below meth c G Q 21 (zb_Sq_slotAt_21 Q) := by
  unfold zb_Sq_slotAt_21
  refine za_nul B.1 dd_Sq_slotAt_21 ?_
  exact (zr_Sq_slotAt_22 B)
theorem zr_Sq_slotAt_12 (B : zs_B p s m args meth c G bb_Sq_slotAt 2 yy_Sq_slotAt (some (.object "SequencedBatches$Slot"))) : zA_Sq_slotAt p l e s m args below meth c G Q 12 (zb_Sq_slotAt_12 Q) := by
  unfold zb_Sq_slotAt_12
  refine za_ald_n B.1 0 dd_Sq_slotAt_12 rfl ?_
  refine za_gtR B.1 4 2 zi_4 rfl (by decide) (by decide) rfl zW_55 rfl dd_Sq_slotAt_13 ?_
  refine za_ild_n B.1 1 dd_Sq_slotAt_16 rfl ?_
  refine za_rld B.1 5 6 rfl dd_Sq_slotAt_17 ?_
  refine za_goto B.1 22 dd_Sq_slotAt_18 (by decide) ?_
  exact (zr_Sq_slotAt_22 B)
theorem zr_Sq_slotAt_4 (B : zs_B p s m args meth c G bb_Sq_slotAt 2 yy_Sq_slotAt (some (.object "SequencedBatches$Slot"))) : zA_Sq_slotAt p l e s m args below meth c G Q 4 (zb_Sq_slotAt_4 Q) := by
  unfold zb_Sq_slotAt_4
  refine za_ild_n B.1 1 dd_Sq_slotAt_4 rfl ?_
  refine za_ald_n B.1 0 dd_Sq_slotAt_5 rfl ?_
  refine za_gtI B.1 4 3 zi_4 rfl (by decide) (by decide) rfl zW_56 rfl dd_Sq_slotAt_6 ?_
  exact za_cmp_ge B.1 21 dd_Sq_slotAt_9 (by decide) (zr_Sq_slotAt_21 B) (zr_Sq_slotAt_12 B)
theorem zr_Sq_slotAt_0 (B : zs_B p s m args meth c G bb_Sq_slotAt 2 yy_Sq_slotAt (some (.object "SequencedBatches$Slot"))) : zA_Sq_slotAt p l e s m args below meth c G Q 0 (zb_Sq_slotAt_0 Q) := by
  unfold zb_Sq_slotAt_0
  refine za_ild_n B.1 1 dd_Sq_slotAt_0 rfl ?_
  exact za_if_lt B.1 21 dd_Sq_slotAt_1 (by decide) (zr_Sq_slotAt_21 B) (zr_Sq_slotAt_4 B)
end
theorem zm_Sq_slotAt (l : Launch) (G : zs_G) (As : List Value) (σ : zs_S) (Q : zs_Q) (h : zw_Sq_slotAt As σ Q) : zs_Met l yy_Sq_slotAt (Cond.code yy_Sq_slotAt bb_Sq_slotAt 2 (some (.object "SequencedBatches$Slot")) :: zw_all) zk_Sq_slotAt G As σ Q 0 0 := by
  unfold zw_Sq_slotAt at h
  split at h
  · exact zs_enter (by decide +kernel) h.1 (Nat.le_of_ble_eq_true rfl) h.2 (fun p e s m args below meth c B => zr_Sq_slotAt_0 B)
  · exact h.elim
-- SequencedBatches.sendClosed(II)I
theorem dd_SB_sendClosed_0 : decode bb_SB_sendClosed 0 = .ok (.aload_n 0, 1) := by decide +kernel
theorem dd_SB_sendClosed_1 : decode bb_SB_sendClosed 1 = .ok (.getfield 38, 3) := by decide +kernel
theorem dd_SB_sendClosed_4 : decode bb_SB_sendClosed 4 = .ok (.iload_n 1, 1) := by decide +kernel
theorem dd_SB_sendClosed_5 : decode bb_SB_sendClosed 5 = .ok (.aaload, 1) := by decide +kernel
theorem dd_SB_sendClosed_6 : decode bb_SB_sendClosed 6 = .ok (.getfield 219, 3) := by decide +kernel
theorem dd_SB_sendClosed_9 : decode bb_SB_sendClosed 9 = .ok (.iload_n 2, 1) := by decide +kernel
theorem dd_SB_sendClosed_10 : decode bb_SB_sendClosed 10 = .ok (.aaload, 1) := by decide +kernel
theorem dd_SB_sendClosed_11 : decode bb_SB_sendClosed 11 = .ok (.invokevirtual 226, 3) := by decide +kernel
theorem dd_SB_sendClosed_14 : decode bb_SB_sendClosed 14 = .ok (.istore_n 3, 1) := by decide +kernel
theorem dd_SB_sendClosed_15 : decode bb_SB_sendClosed 15 = .ok (.iconst 0, 1) := by decide +kernel
theorem dd_SB_sendClosed_16 : decode bb_SB_sendClosed 16 = .ok (.istore 4, 2) := by decide +kernel
theorem dd_SB_sendClosed_18 : decode bb_SB_sendClosed 18 = .ok (.iload 4, 2) := by decide +kernel
theorem dd_SB_sendClosed_20 : decode bb_SB_sendClosed 20 = .ok (.iconst 2, 1) := by decide +kernel
theorem dd_SB_sendClosed_21 : decode bb_SB_sendClosed 21 = .ok (.if_icmp .ge 26, 3) := by decide +kernel
theorem dd_SB_sendClosed_24 : decode bb_SB_sendClosed 24 = .ok (.aload_n 0, 1) := by decide +kernel
theorem dd_SB_sendClosed_25 : decode bb_SB_sendClosed 25 = .ok (.getfield 26, 3) := by decide +kernel
theorem dd_SB_sendClosed_28 : decode bb_SB_sendClosed 28 = .ok (.iconst 3, 1) := by decide +kernel
theorem dd_SB_sendClosed_29 : decode bb_SB_sendClosed 29 = .ok (.iload_n 1, 1) := by decide +kernel
theorem dd_SB_sendClosed_30 : decode bb_SB_sendClosed 30 = .ok (.iload_n 2, 1) := by decide +kernel
theorem dd_SB_sendClosed_31 : decode bb_SB_sendClosed 31 = .ok (.iload 4, 2) := by decide +kernel
theorem dd_SB_sendClosed_33 : decode bb_SB_sendClosed 33 = .ok (.iload_n 3, 1) := by decide +kernel
theorem dd_SB_sendClosed_34 : decode bb_SB_sendClosed 34 = .ok (.invokestatic 229, 3) := by decide +kernel
theorem dd_SB_sendClosed_37 : decode bb_SB_sendClosed 37 = .ok (.iconst 0, 1) := by decide +kernel
theorem dd_SB_sendClosed_38 : decode bb_SB_sendClosed 38 = .ok (.invokevirtual 236, 3) := by decide +kernel
theorem dd_SB_sendClosed_41 : decode bb_SB_sendClosed 41 = .ok (.iinc 4 1, 3) := by decide +kernel
theorem dd_SB_sendClosed_44 : decode bb_SB_sendClosed 44 = .ok (.goto (-26), 3) := by decide +kernel
theorem dd_SB_sendClosed_47 : decode bb_SB_sendClosed 47 = .ok (.iconst 2, 1) := by decide +kernel
theorem dd_SB_sendClosed_48 : decode bb_SB_sendClosed 48 = .ok (.ireturn, 1) := by decide +kernel
def zk_SB_sendClosed : Room := { frames := 1, cells := 0, slots := 0, locals := 24 }
abbrev zA_SB_sendClosed (p : Program) (l : Launch) (e : Env) (s : State) (m : MethodId) (args : Array Value) (below : List Frame) (meth : Method) (c : Code) (G : zs_G) (Q : zs_Q) (pc : Nat) (P : zs_P) : Prop := zs_At p l e zk_SB_sendClosed s m args below meth c (MQ below (zs_Qc G Q) args s 0 0 (fun q => zg_z G ≤ q)) G 5 pc P
def zb_SB_sendClosed_47 (Q : zs_Q) : zs_P := zt_psh 2 (zt_irt 0 0 Q)
def zb_SB_sendClosed_24 (Q : zs_Q) (K18 : zs_P) : zs_P := zt_ald 0 (zt_gtR 7 4 (zt_psh 3 (zt_ild 1 (zt_ild 2 (zt_ild 4 (zt_ild 3 (zt_cal zw_Co_of 5 0 0 0 0 (zt_psh 0 (zt_cav 2 zw_Po_send (2 + 1) 0 0 0 0 (zt_inc 4 1 (K18)))))))))))
def zb_SB_sendClosed_18 (Q : zs_Q) (K18 : zs_P) : zs_P := zt_ild 4 (zt_psh 2 (zt_cmp (fun x y => y ≤ x) (zb_SB_sendClosed_47 Q) (zb_SB_sendClosed_24 Q K18)))
def zl_SB_sendClosed_18 (Q : zs_Q) : zs_P := zt_ex (zb_SB_sendClosed_18 Q)
def zb_SB_sendClosed_0 (Q : zs_Q) : zs_P := zt_ald 0 (zt_gtR 7 6 (zt_ild 1 (zt_rld (110 + 4) (zt_gtR 4 2 (zt_ild 2 (zt_rld (110 + 5) (zt_cav 5 zw_Sl_emptyDigit (0 + 1) 0 0 0 0 (zt_ist 3 (zt_psh 0 (zt_ist 4 ((zl_SB_sendClosed_18 Q))))))))))))
def zw_SB_sendClosed : zs_W := fun As σ Q => match As with
  | [a0, a1, a2] => zs_c1 [a0, a1, a2] = true ∧ zb_SB_sendClosed_0 Q [some a0, some a1, some a2, none, none] [] σ 0 0
  | _ => False
section
variable {p : Program} {l : Launch} {e : Env} {s : State} {m : MethodId} {args : Array Value} {below : List Frame} {meth : Method} {c : Code} {G : zs_G} {Q : zs_Q}
theorem zr_SB_sendClosed_47 (B : zs_B p s m args meth c G bb_SB_sendClosed 5 yy_SB_sendClosed (some .int)) : zA_SB_sendClosed p l e s m args below meth c G Q 47 (zb_SB_sendClosed_47 Q) := by
  unfold zb_SB_sendClosed_47
  refine za_ico B.1 2 dd_SB_sendClosed_47 (by decide) ?_
  exact za_irt B.1 0 0 B.2.1 B.2.2.1 dd_SB_sendClosed_48
theorem zr_SB_sendClosed_24 (B : zs_B p s m args meth c G bb_SB_sendClosed 5 yy_SB_sendClosed (some .int)) {K18 : zs_P} (h18 : zA_SB_sendClosed p l e s m args below meth c G Q 18 K18) : zA_SB_sendClosed p l e s m args below meth c G Q 24 (zb_SB_sendClosed_24 Q K18) := by
  unfold zb_SB_sendClosed_24
  refine za_ald_n B.1 0 dd_SB_sendClosed_24 rfl ?_
  refine za_gtR B.1 7 4 zi_7 rfl (by decide) (by decide) rfl zW_92 rfl dd_SB_sendClosed_25 ?_
  refine za_ico B.1 3 dd_SB_sendClosed_28 (by decide) ?_
  refine za_ild_n B.1 1 dd_SB_sendClosed_29 rfl ?_
  refine za_ild_n B.1 2 dd_SB_sendClosed_30 rfl ?_
  refine za_ild B.1 dd_SB_sendClosed_31 ?_
  refine za_ild_n B.1 3 dd_SB_sendClosed_33 rfl ?_
  refine za_cS B.1 5 0 0 0 0 rfl rfl (zm_Co_of l G) ⟨callB_of 5 B.1.1.2.2.2.2 (zs_good zW_174) rfl rfl rfl (B.1.1.2.2.2.2 _ zW_11) (B.1.1.2.2.2.2 _ zW_172) (by decide +kernel) ⟨by decide, by decide⟩, (B.1.1.2.2.2.2 _ zW_173)⟩ dd_SB_sendClosed_34 ?_
  refine za_ico B.1 0 dd_SB_sendClosed_37 (by decide) ?_
  refine za_cV B.1 2 2 0 0 0 0 rfl rfl rfl (by decide) (zm_Po_send l G) ⟨callB_of 2 B.1.1.2.2.2.2 (zs_good zW_180) rfl rfl rfl (B.1.1.2.2.2.2 _ zW_2) (B.1.1.2.2.2.2 _ zW_177) (by decide +kernel) ⟨by decide, by decide⟩, (B.1.1.2.2.2.2 _ zW_178), (B.1.1.2.2.2.2 _ zW_179)⟩ dd_SB_sendClosed_38 ?_
  refine za_inc B.1 1 dd_SB_sendClosed_41 (by decide) (by decide) ?_
  refine za_goto B.1 18 dd_SB_sendClosed_44 (by decide) ?_
  exact h18
theorem zr_SB_sendClosed_18 (B : zs_B p s m args meth c G bb_SB_sendClosed 5 yy_SB_sendClosed (some .int)) {K18 : zs_P} (h18 : zA_SB_sendClosed p l e s m args below meth c G Q 18 K18) : zA_SB_sendClosed p l e s m args below meth c G Q 18 (zb_SB_sendClosed_18 Q K18) := by
  unfold zb_SB_sendClosed_18
  refine za_ild B.1 dd_SB_sendClosed_18 ?_
  refine za_ico B.1 2 dd_SB_sendClosed_20 (by decide) ?_
  exact za_cmp_ge B.1 47 dd_SB_sendClosed_21 (by decide) (zr_SB_sendClosed_47 B) (zr_SB_sendClosed_24 B h18)
theorem zq_SB_sendClosed_18 (B : zs_B p s m args meth c G bb_SB_sendClosed 5 yy_SB_sendClosed (some .int)) : zA_SB_sendClosed p l e s m args below meth c G Q 18 (zl_SB_sendClosed_18 Q) := za_lop (fun K hK => zr_SB_sendClosed_18 B hK)
theorem zr_SB_sendClosed_0 (B : zs_B p s m args meth c G bb_SB_sendClosed 5 yy_SB_sendClosed (some .int)) : zA_SB_sendClosed p l e s m args below meth c G Q 0 (zb_SB_sendClosed_0 Q) := by
  unfold zb_SB_sendClosed_0
  refine za_ald_n B.1 0 dd_SB_sendClosed_0 rfl ?_
  refine za_gtR B.1 7 6 zi_7 rfl (by decide) (by decide) rfl zW_94 rfl dd_SB_sendClosed_1 ?_
  refine za_ild_n B.1 1 dd_SB_sendClosed_4 rfl ?_
  refine za_rld B.1 4 4 rfl dd_SB_sendClosed_5 ?_
  refine za_gtRN (host := "SequencedBatches") B.1 4 2 zi_4 rfl (by decide) (by decide) rfl (by decide +kernel) rfl dd_SB_sendClosed_6 ?_
  refine za_ild_n B.1 2 dd_SB_sendClosed_9 rfl ?_
  refine za_rld B.1 5 6 rfl dd_SB_sendClosed_10 ?_
  refine za_cV B.1 5 0 0 0 0 0 rfl rfl rfl (by decide) (zm_Sl_emptyDigit l G) ⟨callB_of 0 B.1.1.2.2.2.2 (zs_good zW_171) rfl rfl rfl (B.1.1.2.2.2.2 _ zW_10) (B.1.1.2.2.2.2 _ zW_168) (by decide +kernel) ⟨by decide, by decide⟩, (B.1.1.2.2.2.2 _ zW_169), (B.1.1.2.2.2.2 _ zW_170)⟩ dd_SB_sendClosed_11 ?_
  refine za_ist_n B.1 3 dd_SB_sendClosed_14 rfl (by decide) ?_
  refine za_ico B.1 0 dd_SB_sendClosed_15 (by decide) ?_
  refine za_ist B.1 dd_SB_sendClosed_16 (by decide) ?_
  exact (zq_SB_sendClosed_18 B)
end
theorem zm_SB_sendClosed (l : Launch) (G : zs_G) (As : List Value) (σ : zs_S) (Q : zs_Q) (h : zw_SB_sendClosed As σ Q) : zs_Met l yy_SB_sendClosed (Cond.code yy_SB_sendClosed bb_SB_sendClosed 5 (some .int) :: zw_all) zk_SB_sendClosed G As σ Q 0 0 := by
  unfold zw_SB_sendClosed at h
  split at h
  · exact zs_enter (by decide +kernel) h.1 (Nat.le_of_ble_eq_true rfl) h.2 (fun p e s m args below meth c B => zr_SB_sendClosed_0 B)
  · exact h.elim
-- SequencedBatches.resend(II)I
theorem dd_SB_resend_0 : decode bb_SB_resend 0 = .ok (.aload_n 0, 1) := by decide +kernel
theorem dd_SB_resend_1 : decode bb_SB_resend 1 = .ok (.iload_n 1, 1) := by decide +kernel
theorem dd_SB_resend_2 : decode bb_SB_resend 2 = .ok (.invokevirtual 65, 3) := by decide +kernel
theorem dd_SB_resend_5 : decode bb_SB_resend 5 = .ok (.ifCond .eq 13, 3) := by decide +kernel
theorem dd_SB_resend_8 : decode bb_SB_resend 8 = .ok (.aload_n 0, 1) := by decide +kernel
theorem dd_SB_resend_9 : decode bb_SB_resend 9 = .ok (.getfield 26, 3) := by decide +kernel
theorem dd_SB_resend_12 : decode bb_SB_resend 12 = .ok (.invokevirtual 90, 3) := by decide +kernel
theorem dd_SB_resend_15 : decode bb_SB_resend 15 = .ok (.ifCond .eq 5, 3) := by decide +kernel
theorem dd_SB_resend_18 : decode bb_SB_resend 18 = .ok (.iconst (-1), 1) := by decide +kernel
theorem dd_SB_resend_19 : decode bb_SB_resend 19 = .ok (.ireturn, 1) := by decide +kernel
theorem dd_SB_resend_20 : decode bb_SB_resend 20 = .ok (.aload_n 0, 1) := by decide +kernel
theorem dd_SB_resend_21 : decode bb_SB_resend 21 = .ok (.getfield 38, 3) := by decide +kernel
theorem dd_SB_resend_24 : decode bb_SB_resend 24 = .ok (.iload_n 1, 1) := by decide +kernel
theorem dd_SB_resend_25 : decode bb_SB_resend 25 = .ok (.aaload, 1) := by decide +kernel
theorem dd_SB_resend_26 : decode bb_SB_resend 26 = .ok (.iload_n 2, 1) := by decide +kernel
theorem dd_SB_resend_27 : decode bb_SB_resend 27 = .ok (.invokevirtual 100, 3) := by decide +kernel
theorem dd_SB_resend_30 : decode bb_SB_resend 30 = .ok (.astore_n 3, 1) := by decide +kernel
theorem dd_SB_resend_31 : decode bb_SB_resend 31 = .ok (.aload_n 3, 1) := by decide +kernel
theorem dd_SB_resend_32 : decode bb_SB_resend 32 = .ok (.ifnonnull 5, 3) := by decide +kernel
theorem dd_SB_resend_35 : decode bb_SB_resend 35 = .ok (.iconst (-1), 1) := by decide +kernel
theorem dd_SB_resend_36 : decode bb_SB_resend 36 = .ok (.ireturn, 1) := by decide +kernel
theorem dd_SB_resend_37 : decode bb_SB_resend 37 = .ok (.aload_n 3, 1) := by decide +kernel
theorem dd_SB_resend_38 : decode bb_SB_resend 38 = .ok (.getfield 104, 3) := by decide +kernel
theorem dd_SB_resend_41 : decode bb_SB_resend 41 = .ok (.ifCond .eq 12, 3) := by decide +kernel
theorem dd_SB_resend_44 : decode bb_SB_resend 44 = .ok (.aload_n 0, 1) := by decide +kernel
theorem dd_SB_resend_45 : decode bb_SB_resend 45 = .ok (.iload_n 1, 1) := by decide +kernel
theorem dd_SB_resend_46 : decode bb_SB_resend 46 = .ok (.iload_n 2, 1) := by decide +kernel
theorem dd_SB_resend_47 : decode bb_SB_resend 47 = .ok (.invokevirtual 110, 3) := by decide +kernel
theorem dd_SB_resend_50 : decode bb_SB_resend 50 = .ok (.goto 9, 3) := by decide +kernel
theorem dd_SB_resend_53 : decode bb_SB_resend 53 = .ok (.aload_n 0, 1) := by decide +kernel
theorem dd_SB_resend_54 : decode bb_SB_resend 54 = .ok (.iload_n 1, 1) := by decide +kernel
theorem dd_SB_resend_55 : decode bb_SB_resend 55 = .ok (.iload_n 2, 1) := by decide +kernel
theorem dd_SB_resend_56 : decode bb_SB_resend 56 = .ok (.invokevirtual 97, 3) := by decide +kernel
theorem dd_SB_resend_59 : decode bb_SB_resend 59 = .ok (.ireturn, 1) := by decide +kernel
def zk_SB_resend : Room := { frames := 2, cells := 0, slots := 0, locals := 49 }
abbrev zA_SB_resend (p : Program) (l : Launch) (e : Env) (s : State) (m : MethodId) (args : Array Value) (below : List Frame) (meth : Method) (c : Code) (G : zs_G) (Q : zs_Q) (pc : Nat) (P : zs_P) : Prop := zs_At p l e zk_SB_resend s m args below meth c (MQ below (zs_Qc G Q) args s 0 0 (fun q => zg_z G ≤ q)) G 4 pc P
def zb_SB_resend_18 (Q : zs_Q) : zs_P := zt_psh (-1) (zt_irt 0 0 Q)
def zb_SB_resend_59 (Q : zs_Q) : zs_P := zt_irt 0 0 Q
def zb_SB_resend_53 (Q : zs_Q) : zs_P := zt_ald 0 (zt_ild 1 (zt_ild 2 (zt_cav 7 zw_SB_sendStores (2 + 1) 0 0 0 0 ((zb_SB_resend_59 Q)))))
def zb_SB_resend_44 (Q : zs_Q) : zs_P := zt_ald 0 (zt_ild 1 (zt_ild 2 (zt_cav 7 zw_SB_sendClosed (2 + 1) 0 0 0 0 ((zb_SB_resend_59 Q)))))
def zb_SB_resend_37 (Q : zs_Q) : zs_P := zt_ald 3 (zt_gtI 5 2 (zt_if (fun x => x = 0) (zb_SB_resend_53 Q) (zb_SB_resend_44 Q)))
def zb_SB_resend_35 (Q : zs_Q) : zs_P := zt_psh (-1) (zt_irt 0 0 Q)
def zb_SB_resend_20 (Q : zs_Q) : zs_P := zt_ald 0 (zt_gtR 7 6 (zt_ild 1 (zt_rld (110 + 4) (zt_ild 2 (zt_cav 4 zw_Sq_slotAt (1 + 1) 0 0 0 0 (zt_ast 3 (zt_ald 3 (zt_ifn (zb_SB_resend_35 Q) (zb_SB_resend_37 Q)))))))))
def zb_SB_resend_8 (Q : zs_Q) : zs_P := zt_ald 0 (zt_gtR 7 4 (zt_cav 2 zw_Po_isCrowded (0 + 1) 0 0 0 0 (zt_if (fun x => x = 0) (zb_SB_resend_20 Q) (zb_SB_resend_18 Q))))
def zb_SB_resend_0 (Q : zs_Q) : zs_P := zt_ald 0 (zt_ild 1 (zt_cav 7 zw_SB_sequencerIsUp (1 + 1) 0 0 0 0 (zt_if (fun x => x = 0) (zb_SB_resend_18 Q) (zb_SB_resend_8 Q))))
def zw_SB_resend : zs_W := fun As σ Q => match As with
  | [a0, a1, a2] => zs_c1 [a0, a1, a2] = true ∧ zb_SB_resend_0 Q [some a0, some a1, some a2, none] [] σ 0 0
  | _ => False
section
variable {p : Program} {l : Launch} {e : Env} {s : State} {m : MethodId} {args : Array Value} {below : List Frame} {meth : Method} {c : Code} {G : zs_G} {Q : zs_Q}
theorem zr_SB_resend_18 (B : zs_B p s m args meth c G bb_SB_resend 4 yy_SB_resend (some .int)) : zA_SB_resend p l e s m args below meth c G Q 18 (zb_SB_resend_18 Q) := by
  unfold zb_SB_resend_18
  refine za_ico B.1 (-1) dd_SB_resend_18 (by decide) ?_
  exact za_irt B.1 0 0 B.2.1 B.2.2.1 dd_SB_resend_19
theorem zr_SB_resend_59 (B : zs_B p s m args meth c G bb_SB_resend 4 yy_SB_resend (some .int)) : zA_SB_resend p l e s m args below meth c G Q 59 (zb_SB_resend_59 Q) := by
  unfold zb_SB_resend_59
  exact za_irt B.1 0 0 B.2.1 B.2.2.1 dd_SB_resend_59
theorem zr_SB_resend_53 (B : zs_B p s m args meth c G bb_SB_resend 4 yy_SB_resend (some .int)) : zA_SB_resend p l e s m args below meth c G Q 53 (zb_SB_resend_53 Q) := by
  unfold zb_SB_resend_53
  refine za_ald_n B.1 0 dd_SB_resend_53 rfl ?_
  refine za_ild_n B.1 1 dd_SB_resend_54 rfl ?_
  refine za_ild_n B.1 2 dd_SB_resend_55 rfl ?_
  refine za_cV B.1 7 2 0 0 0 0 rfl rfl rfl (by decide) (zm_SB_sendStores l G) ⟨callB_of 2 B.1.1.2.2.2.2 (zs_good zW_163) rfl rfl rfl (B.1.1.2.2.2.2 _ zW_1) (B.1.1.2.2.2.2 _ zW_161) (by decide +kernel) ⟨by decide, by decide⟩, (B.1.1.2.2.2.2 _ zW_162), (B.1.1.2.2.2.2 _ zW_659)⟩ dd_SB_resend_56 ?_
  exact (zr_SB_resend_59 B)
theorem zr_SB_resend_44 (B : zs_B p s m args meth c G bb_SB_resend 4 yy_SB_resend (some .int)) : zA_SB_resend p l e s m args below meth c G Q 44 (zb_SB_resend_44 Q) := by
  unfold zb_SB_resend_44
  refine za_ald_n B.1 0 dd_SB_resend_44 rfl ?_
  refine za_ild_n B.1 1 dd_SB_resend_45 rfl ?_
  refine za_ild_n B.1 2 dd_SB_resend_46 rfl ?_
  refine za_cV B.1 7 2 0 0 0 0 rfl rfl rfl (by decide) (zm_SB_sendClosed l G) ⟨callB_of 2 B.1.1.2.2.2.2 (zs_good zW_191) rfl rfl rfl (B.1.1.2.2.2.2 _ zW_1) (B.1.1.2.2.2.2 _ zW_189) (by decide +kernel) ⟨by decide, by decide⟩, (B.1.1.2.2.2.2 _ zW_190), (B.1.1.2.2.2.2 _ zW_660)⟩ dd_SB_resend_47 ?_
  refine za_goto B.1 59 dd_SB_resend_50 (by decide) ?_
  exact (zr_SB_resend_59 B)
theorem zr_SB_resend_37 (B : zs_B p s m args meth c G bb_SB_resend 4 yy_SB_resend (some .int)) : zA_SB_resend p l e s m args below meth c G Q 37 (zb_SB_resend_37 Q) := by
  unfold zb_SB_resend_37
  refine za_ald_n B.1 3 dd_SB_resend_37 rfl ?_
  refine za_gtIN (host := "SequencedBatches") B.1 5 2 zi_5 rfl (by decide) (by decide) rfl (by decide +kernel) rfl dd_SB_resend_38 ?_
  exact za_if_eq B.1 53 dd_SB_resend_41 (by decide) (zr_SB_resend_53 B) (zr_SB_resend_44 B)
theorem zr_SB_resend_35 (B : zs_B p s m args meth c G bb_SB_resend 4 yy_SB_resend (some .int)) : zA_SB_resend p l e s m args below meth c G Q 35 (zb_SB_resend_35 Q) := by
  unfold zb_SB_resend_35
  refine za_ico B.1 (-1) dd_SB_resend_35 (by decide) ?_
  exact za_irt B.1 0 0 B.2.1 B.2.2.1 dd_SB_resend_36
theorem zr_SB_resend_20 (B : zs_B p s m args meth c G bb_SB_resend 4 yy_SB_resend (some .int)) : zA_SB_resend p l e s m args below meth c G Q 20 (zb_SB_resend_20 Q) := by
  unfold zb_SB_resend_20
  refine za_ald_n B.1 0 dd_SB_resend_20 rfl ?_
  refine za_gtR B.1 7 6 zi_7 rfl (by decide) (by decide) rfl zW_94 rfl dd_SB_resend_21 ?_
  refine za_ild_n B.1 1 dd_SB_resend_24 rfl ?_
  refine za_rld B.1 4 4 rfl dd_SB_resend_25 ?_
  refine za_ild_n B.1 2 dd_SB_resend_26 rfl ?_
  refine za_cV B.1 4 1 0 0 0 0 rfl rfl rfl (by decide) (zm_Sq_slotAt l G) ⟨callB_of 1 B.1.1.2.2.2.2 (zs_good zW_188) rfl rfl rfl (B.1.1.2.2.2.2 _ zW_5) (B.1.1.2.2.2.2 _ zW_185) (by decide +kernel) ⟨by decide, by decide⟩, (B.1.1.2.2.2.2 _ zW_186), (B.1.1.2.2.2.2 _ zW_187)⟩ dd_SB_resend_27 ?_
  refine za_ast_n B.1 3 dd_SB_resend_30 rfl (by decide) ?_
  refine za_ald_n B.1 3 dd_SB_resend_31 rfl ?_
  exact za_ifnonnull B.1 37 dd_SB_resend_32 (by decide) (zr_SB_resend_35 B) (zr_SB_resend_37 B)
theorem zr_SB_resend_8 (B : zs_B p s m args meth c G bb_SB_resend 4 yy_SB_resend (some .int)) : zA_SB_resend p l e s m args below meth c G Q 8 (zb_SB_resend_8 Q) := by
  unfold zb_SB_resend_8
  refine za_ald_n B.1 0 dd_SB_resend_8 rfl ?_
  refine za_gtR B.1 7 4 zi_7 rfl (by decide) (by decide) rfl zW_92 rfl dd_SB_resend_9 ?_
  refine za_cV B.1 2 0 0 0 0 0 rfl rfl rfl (by decide) (zm_Po_isCrowded l G) ⟨callB_of 0 B.1.1.2.2.2.2 (zs_good zW_147) rfl rfl rfl (B.1.1.2.2.2.2 _ zW_2) (B.1.1.2.2.2.2 _ zW_144) (by decide +kernel) ⟨by decide, by decide⟩, (B.1.1.2.2.2.2 _ zW_145), (B.1.1.2.2.2.2 _ zW_146)⟩ dd_SB_resend_12 ?_
  exact za_if_eq B.1 20 dd_SB_resend_15 (by decide) (zr_SB_resend_20 B) (zr_SB_resend_18 B)
theorem zr_SB_resend_0 (B : zs_B p s m args meth c G bb_SB_resend 4 yy_SB_resend (some .int)) : zA_SB_resend p l e s m args below meth c G Q 0 (zb_SB_resend_0 Q) := by
  unfold zb_SB_resend_0
  refine za_ald_n B.1 0 dd_SB_resend_0 rfl ?_
  refine za_ild_n B.1 1 dd_SB_resend_1 rfl ?_
  refine za_cV B.1 7 1 0 0 0 0 rfl rfl rfl (by decide) (zm_SB_sequencerIsUp l G) ⟨callB_of 1 B.1.1.2.2.2.2 (zs_good zW_102) rfl rfl rfl (B.1.1.2.2.2.2 _ zW_1) (B.1.1.2.2.2.2 _ zW_100) (by decide +kernel) ⟨by decide, by decide⟩, (B.1.1.2.2.2.2 _ zW_101), (B.1.1.2.2.2.2 _ zW_658)⟩ dd_SB_resend_2 ?_
  exact za_if_eq B.1 18 dd_SB_resend_5 (by decide) (zr_SB_resend_18 B) (zr_SB_resend_8 B)
end
theorem zm_SB_resend (l : Launch) (G : zs_G) (As : List Value) (σ : zs_S) (Q : zs_Q) (h : zw_SB_resend As σ Q) : zs_Met l yy_SB_resend (Cond.code yy_SB_resend bb_SB_resend 4 (some .int) :: zw_all) zk_SB_resend G As σ Q 0 0 := by
  unfold zw_SB_resend at h
  split at h
  · exact zs_enter (by decide +kernel) h.1 (Nat.le_of_ble_eq_true rfl) h.2 (fun p e s m args below meth c B => zr_SB_resend_0 B)
  · exact h.elim
-- SequencedBatches.messages()I
theorem dd_SB_messages_0 : decode bb_SB_messages 0 = .ok (.aload_n 0, 1) := by decide +kernel
theorem dd_SB_messages_1 : decode bb_SB_messages 1 = .ok (.getfield 26, 3) := by decide +kernel
theorem dd_SB_messages_4 : decode bb_SB_messages 4 = .ok (.getfield 113, 3) := by decide +kernel
theorem dd_SB_messages_7 : decode bb_SB_messages 7 = .ok (.ireturn, 1) := by decide +kernel
def zk_SB_messages : Room := { frames := 0, cells := 0, slots := 0, locals := 0 }
abbrev zA_SB_messages (p : Program) (l : Launch) (e : Env) (s : State) (m : MethodId) (args : Array Value) (below : List Frame) (meth : Method) (c : Code) (G : zs_G) (Q : zs_Q) (pc : Nat) (P : zs_P) : Prop := zs_At p l e zk_SB_messages s m args below meth c (MQ below (zs_Qc G Q) args s 0 0 (fun q => zg_z G ≤ q)) G 1 pc P
def zb_SB_messages_0 (Q : zs_Q) : zs_P := zt_ald 0 (zt_gtR 7 4 (zt_gtI 2 2 (zt_irt 0 0 Q)))
def zw_SB_messages : zs_W := fun As σ Q => match As with
  | [a0] => zs_c1 [a0] = true ∧ zb_SB_messages_0 Q [some a0] [] σ 0 0
  | _ => False
section
variable {p : Program} {l : Launch} {e : Env} {s : State} {m : MethodId} {args : Array Value} {below : List Frame} {meth : Method} {c : Code} {G : zs_G} {Q : zs_Q}
theorem zr_SB_messages_0 (B : zs_B p s m args meth c G bb_SB_messages 1 yy_SB_messages (some .int)) : zA_SB_messages p l e s m args below meth c G Q 0 (zb_SB_messages_0 Q) := by
  unfold zb_SB_messages_0
  refine za_ald_n B.1 0 dd_SB_messages_0 rfl ?_
  refine za_gtR B.1 7 4 zi_7 rfl (by decide) (by decide) rfl zW_92 rfl dd_SB_messages_1 ?_
  refine za_gtIN (host := "SequencedBatches") B.1 2 2 zi_2 rfl (by decide) (by decide) rfl (by decide +kernel) rfl dd_SB_messages_4 ?_
  exact za_irt B.1 0 0 B.2.1 B.2.2.1 dd_SB_messages_7
end
theorem zm_SB_messages (l : Launch) (G : zs_G) (As : List Value) (σ : zs_S) (Q : zs_Q) (h : zw_SB_messages As σ Q) : zs_Met l yy_SB_messages (Cond.code yy_SB_messages bb_SB_messages 1 (some .int) :: zw_all) zk_SB_messages G As σ Q 0 0 := by
  unfold zw_SB_messages at h
  split at h
  · exact zs_enter (by decide +kernel) h.1 (Nat.le_of_ble_eq_true rfl) h.2 (fun p e s m args below meth c B => zr_SB_messages_0 B)
  · exact h.elim
-- SequencedBatches$Post.has(I)Z
theorem dd_Po_has_0 : decode bb_Po_has 0 = .ok (.iload_n 1, 1) := by decide +kernel
theorem dd_Po_has_1 : decode bb_Po_has 1 = .ok (.ifCond .lt 15, 3) := by decide +kernel
theorem dd_Po_has_4 : decode bb_Po_has 4 = .ok (.iload_n 1, 1) := by decide +kernel
theorem dd_Po_has_5 : decode bb_Po_has 5 = .ok (.aload_n 0, 1) := by decide +kernel
theorem dd_Po_has_6 : decode bb_Po_has 6 = .ok (.getfield 16, 3) := by decide +kernel
theorem dd_Po_has_9 : decode bb_Po_has 9 = .ok (.if_icmp .ge 7, 3) := by decide +kernel
theorem dd_Po_has_12 : decode bb_Po_has 12 = .ok (.iconst 1, 1) := by decide +kernel
theorem dd_Po_has_13 : decode bb_Po_has 13 = .ok (.goto 4, 3) := by decide +kernel
theorem dd_Po_has_16 : decode bb_Po_has 16 = .ok (.iconst 0, 1) := by decide +kernel
theorem dd_Po_has_17 : decode bb_Po_has 17 = .ok (.ireturn, 1) := by decide +kernel
def zk_Po_has : Room := { frames := 0, cells := 0, slots := 0, locals := 0 }
abbrev zA_Po_has (p : Program) (l : Launch) (e : Env) (s : State) (m : MethodId) (args : Array Value) (below : List Frame) (meth : Method) (c : Code) (G : zs_G) (Q : zs_Q) (pc : Nat) (P : zs_P) : Prop := zs_At p l e zk_Po_has s m args below meth c (MQ below (zs_Qc G Q) args s 0 0 (fun q => zg_z G ≤ q)) G 2 pc P
def zb_Po_has_17 (Q : zs_Q) : zs_P := zt_zrt 0 0 Q
def zb_Po_has_16 (Q : zs_Q) : zs_P := zt_psh 0 ((zb_Po_has_17 Q))
def zb_Po_has_12 (Q : zs_Q) : zs_P := zt_psh 1 ((zb_Po_has_17 Q))
def zb_Po_has_4 (Q : zs_Q) : zs_P := zt_ild 1 (zt_ald 0 (zt_gtI 2 2 (zt_cmp (fun x y => y ≤ x) (zb_Po_has_16 Q) (zb_Po_has_12 Q))))
def zb_Po_has_0 (Q : zs_Q) : zs_P := zt_ild 1 (zt_if (fun x => x < 0) (zb_Po_has_16 Q) (zb_Po_has_4 Q))
def zw_Po_has : zs_W := fun As σ Q => match As with
  | [a0, a1] => zs_c1 [a0, a1] = true ∧ zb_Po_has_0 Q [some a0, some a1] [] σ 0 0
  | _ => False
section
variable {p : Program} {l : Launch} {e : Env} {s : State} {m : MethodId} {args : Array Value} {below : List Frame} {meth : Method} {c : Code} {G : zs_G} {Q : zs_Q}
theorem zr_Po_has_17 (B : zs_B p s m args meth c G bb_Po_has 2 yy_Po_has (some .boolean)) : zA_Po_has p l e s m args below meth c G Q 17 (zb_Po_has_17 Q) := by
  unfold zb_Po_has_17
  exact za_zrt B.1 0 0 B.2.1 B.2.2.1 dd_Po_has_17
theorem zr_Po_has_16 (B : zs_B p s m args meth c G bb_Po_has 2 yy_Po_has (some .boolean)) : zA_Po_has p l e s m args below meth c G Q 16 (zb_Po_has_16 Q) := by
  unfold zb_Po_has_16
  refine za_ico B.1 0 dd_Po_has_16 (by decide) ?_
  exact (zr_Po_has_17 B)
theorem zr_Po_has_12 (B : zs_B p s m args meth c G bb_Po_has 2 yy_Po_has (some .boolean)) : zA_Po_has p l e s m args below meth c G Q 12 (zb_Po_has_12 Q) := by
  unfold zb_Po_has_12
  refine za_ico B.1 1 dd_Po_has_12 (by decide) ?_
  refine za_goto B.1 17 dd_Po_has_13 (by decide) ?_
  exact (zr_Po_has_17 B)
theorem zr_Po_has_4 (B : zs_B p s m args meth c G bb_Po_has 2 yy_Po_has (some .boolean)) : zA_Po_has p l e s m args below meth c G Q 4 (zb_Po_has_4 Q) := by
  unfold zb_Po_has_4
  refine za_ild_n B.1 1 dd_Po_has_4 rfl ?_
  refine za_ald_n B.1 0 dd_Po_has_5 rfl ?_
  refine za_gtI B.1 2 2 zi_2 rfl (by decide) (by decide) rfl zW_29 rfl dd_Po_has_6 ?_
  exact za_cmp_ge B.1 16 dd_Po_has_9 (by decide) (zr_Po_has_16 B) (zr_Po_has_12 B)
theorem zr_Po_has_0 (B : zs_B p s m args meth c G bb_Po_has 2 yy_Po_has (some .boolean)) : zA_Po_has p l e s m args below meth c G Q 0 (zb_Po_has_0 Q) := by
  unfold zb_Po_has_0
  refine za_ild_n B.1 1 dd_Po_has_0 rfl ?_
  exact za_if_lt B.1 16 dd_Po_has_1 (by decide) (zr_Po_has_16 B) (zr_Po_has_4 B)
end
theorem zm_Po_has (l : Launch) (G : zs_G) (As : List Value) (σ : zs_S) (Q : zs_Q) (h : zw_Po_has As σ Q) : zs_Met l yy_Po_has (Cond.code yy_Po_has bb_Po_has 2 (some .boolean) :: zw_all) zk_Po_has G As σ Q 0 0 := by
  unfold zw_Po_has at h
  split at h
  · exact zs_enter (by decide +kernel) h.1 (Nat.le_of_ble_eq_true rfl) h.2 (fun p e s m args below meth c B => zr_Po_has_0 B)
  · exact h.elim
-- SequencedBatches.message(I)I
theorem dd_SB_message_0 : decode bb_SB_message 0 = .ok (.aload_n 0, 1) := by decide +kernel
theorem dd_SB_message_1 : decode bb_SB_message 1 = .ok (.getfield 26, 3) := by decide +kernel
theorem dd_SB_message_4 : decode bb_SB_message 4 = .ok (.iload_n 1, 1) := by decide +kernel
theorem dd_SB_message_5 : decode bb_SB_message 5 = .ok (.invokevirtual 116, 3) := by decide +kernel
theorem dd_SB_message_8 : decode bb_SB_message 8 = .ok (.ifCond .eq 15, 3) := by decide +kernel
theorem dd_SB_message_11 : decode bb_SB_message 11 = .ok (.aload_n 0, 1) := by decide +kernel
theorem dd_SB_message_12 : decode bb_SB_message 12 = .ok (.getfield 26, 3) := by decide +kernel
theorem dd_SB_message_15 : decode bb_SB_message 15 = .ok (.getfield 119, 3) := by decide +kernel
theorem dd_SB_message_18 : decode bb_SB_message 18 = .ok (.iload_n 1, 1) := by decide +kernel
theorem dd_SB_message_19 : decode bb_SB_message 19 = .ok (.iaload, 1) := by decide +kernel
theorem dd_SB_message_20 : decode bb_SB_message 20 = .ok (.goto 4, 3) := by decide +kernel
theorem dd_SB_message_23 : decode bb_SB_message 23 = .ok (.iconst (-1), 1) := by decide +kernel
theorem dd_SB_message_24 : decode bb_SB_message 24 = .ok (.ireturn, 1) := by decide +kernel
def zk_SB_message : Room := { frames := 1, cells := 0, slots := 0, locals := 21 }
abbrev zA_SB_message (p : Program) (l : Launch) (e : Env) (s : State) (m : MethodId) (args : Array Value) (below : List Frame) (meth : Method) (c : Code) (G : zs_G) (Q : zs_Q) (pc : Nat) (P : zs_P) : Prop := zs_At p l e zk_SB_message s m args below meth c (MQ below (zs_Qc G Q) args s 0 0 (fun q => zg_z G ≤ q)) G 2 pc P
def zb_SB_message_24 (Q : zs_Q) : zs_P := zt_irt 0 0 Q
def zb_SB_message_23 (Q : zs_Q) : zs_P := zt_psh (-1) ((zb_SB_message_24 Q))
def zb_SB_message_11 (Q : zs_Q) : zs_P := zt_ald 0 (zt_gtR 7 4 (zt_gtR 2 0 (zt_ild 1 (zt_xld 100 ((zb_SB_message_24 Q))))))
def zb_SB_message_0 (Q : zs_Q) : zs_P := zt_ald 0 (zt_gtR 7 4 (zt_ild 1 (zt_cav 2 zw_Po_has (1 + 1) 0 0 0 0 (zt_if (fun x => x = 0) (zb_SB_message_23 Q) (zb_SB_message_11 Q)))))
def zw_SB_message : zs_W := fun As σ Q => match As with
  | [a0, a1] => zs_c1 [a0, a1] = true ∧ zb_SB_message_0 Q [some a0, some a1] [] σ 0 0
  | _ => False
section
variable {p : Program} {l : Launch} {e : Env} {s : State} {m : MethodId} {args : Array Value} {below : List Frame} {meth : Method} {c : Code} {G : zs_G} {Q : zs_Q}
theorem zr_SB_message_24 (B : zs_B p s m args meth c G bb_SB_message 2 yy_SB_message (some .int)) : zA_SB_message p l e s m args below meth c G Q 24 (zb_SB_message_24 Q) := by
  unfold zb_SB_message_24
  exact za_irt B.1 0 0 B.2.1 B.2.2.1 dd_SB_message_24
theorem zr_SB_message_23 (B : zs_B p s m args meth c G bb_SB_message 2 yy_SB_message (some .int)) : zA_SB_message p l e s m args below meth c G Q 23 (zb_SB_message_23 Q) := by
  unfold zb_SB_message_23
  refine za_ico B.1 (-1) dd_SB_message_23 (by decide) ?_
  exact (zr_SB_message_24 B)
theorem zr_SB_message_11 (B : zs_B p s m args meth c G bb_SB_message 2 yy_SB_message (some .int)) : zA_SB_message p l e s m args below meth c G Q 11 (zb_SB_message_11 Q) := by
  unfold zb_SB_message_11
  refine za_ald_n B.1 0 dd_SB_message_11 rfl ?_
  refine za_gtR B.1 7 4 zi_7 rfl (by decide) (by decide) rfl zW_92 rfl dd_SB_message_12 ?_
  refine za_gtRN (host := "SequencedBatches") B.1 2 0 zi_2 rfl (by decide) (by decide) rfl (by decide +kernel) rfl dd_SB_message_15 ?_
  refine za_ild_n B.1 1 dd_SB_message_18 rfl ?_
  refine za_iald B.1 dd_SB_message_19 ?_
  refine za_goto B.1 24 dd_SB_message_20 (by decide) ?_
  exact (zr_SB_message_24 B)
theorem zr_SB_message_0 (B : zs_B p s m args meth c G bb_SB_message 2 yy_SB_message (some .int)) : zA_SB_message p l e s m args below meth c G Q 0 (zb_SB_message_0 Q) := by
  unfold zb_SB_message_0
  refine za_ald_n B.1 0 dd_SB_message_0 rfl ?_
  refine za_gtR B.1 7 4 zi_7 rfl (by decide) (by decide) rfl zW_92 rfl dd_SB_message_1 ?_
  refine za_ild_n B.1 1 dd_SB_message_4 rfl ?_
  refine za_cV B.1 2 1 0 0 0 0 rfl rfl rfl (by decide) (zm_Po_has l G) ⟨callB_of 1 B.1.1.2.2.2.2 (zs_good zW_203) rfl rfl rfl (B.1.1.2.2.2.2 _ zW_2) (B.1.1.2.2.2.2 _ zW_200) (by decide +kernel) ⟨by decide, by decide⟩, (B.1.1.2.2.2.2 _ zW_201), (B.1.1.2.2.2.2 _ zW_202)⟩ dd_SB_message_5 ?_
  exact za_if_eq B.1 23 dd_SB_message_8 (by decide) (zr_SB_message_23 B) (zr_SB_message_11 B)
end
theorem zm_SB_message (l : Launch) (G : zs_G) (As : List Value) (σ : zs_S) (Q : zs_Q) (h : zw_SB_message As σ Q) : zs_Met l yy_SB_message (Cond.code yy_SB_message bb_SB_message 2 (some .int) :: zw_all) zk_SB_message G As σ Q 0 0 := by
  unfold zw_SB_message at h
  split at h
  · exact zs_enter (by decide +kernel) h.1 (Nat.le_of_ble_eq_true rfl) h.2 (fun p e s m args below meth c B => zr_SB_message_0 B)
  · exact h.elim
