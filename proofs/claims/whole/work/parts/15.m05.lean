/-! Methods: SB_deliver, SB_drop, Po_forgetValuesOf, Sq_loseBatch, SB_crash, SB_logNodesUp, SB_isEmptyOnLogNodes, Sl_proposeAnew, SB_takeUpSequencer (made by program) -/
-- SequencedBatches.deliver(I)Z
theorem dd_SB_deliver_0 : decode bb_SB_deliver 0 = .ok (.aload_n 0, 1) := by decide +kernel
theorem dd_SB_deliver_1 : decode bb_SB_deliver 1 = .ok (.getfield 26, 3) := by decide +kernel
theorem dd_SB_deliver_4 : decode bb_SB_deliver 4 = .ok (.iload_n 1, 1) := by decide +kernel
theorem dd_SB_deliver_5 : decode bb_SB_deliver 5 = .ok (.invokevirtual 116, 3) := by decide +kernel
theorem dd_SB_deliver_8 : decode bb_SB_deliver 8 = .ok (.ifCond .ne 5, 3) := by decide +kernel
theorem dd_SB_deliver_11 : decode bb_SB_deliver 11 = .ok (.iconst 0, 1) := by decide +kernel
theorem dd_SB_deliver_12 : decode bb_SB_deliver 12 = .ok (.ireturn, 1) := by decide +kernel
theorem dd_SB_deliver_13 : decode bb_SB_deliver 13 = .ok (.aload_n 0, 1) := by decide +kernel
theorem dd_SB_deliver_14 : decode bb_SB_deliver 14 = .ok (.getfield 26, 3) := by decide +kernel
theorem dd_SB_deliver_17 : decode bb_SB_deliver 17 = .ok (.getfield 119, 3) := by decide +kernel
theorem dd_SB_deliver_20 : decode bb_SB_deliver 20 = .ok (.iload_n 1, 1) := by decide +kernel
theorem dd_SB_deliver_21 : decode bb_SB_deliver 21 = .ok (.iaload, 1) := by decide +kernel
theorem dd_SB_deliver_22 : decode bb_SB_deliver 22 = .ok (.istore_n 2, 1) := by decide +kernel
theorem dd_SB_deliver_23 : decode bb_SB_deliver 23 = .ok (.aload_n 0, 1) := by decide +kernel
theorem dd_SB_deliver_24 : decode bb_SB_deliver 24 = .ok (.getfield 26, 3) := by decide +kernel
theorem dd_SB_deliver_27 : decode bb_SB_deliver 27 = .ok (.getfield 123, 3) := by decide +kernel
theorem dd_SB_deliver_30 : decode bb_SB_deliver 30 = .ok (.iload_n 1, 1) := by decide +kernel
theorem dd_SB_deliver_31 : decode bb_SB_deliver 31 = .ok (.iaload, 1) := by decide +kernel
theorem dd_SB_deliver_32 : decode bb_SB_deliver 32 = .ok (.istore_n 3, 1) := by decide +kernel
theorem dd_SB_deliver_33 : decode bb_SB_deliver 33 = .ok (.aload_n 0, 1) := by decide +kernel
theorem dd_SB_deliver_34 : decode bb_SB_deliver 34 = .ok (.getfield 26, 3) := by decide +kernel
theorem dd_SB_deliver_37 : decode bb_SB_deliver 37 = .ok (.iload_n 1, 1) := by decide +kernel
theorem dd_SB_deliver_38 : decode bb_SB_deliver 38 = .ok (.invokevirtual 126, 3) := by decide +kernel
theorem dd_SB_deliver_41 : decode bb_SB_deliver 41 = .ok (.iload_n 2, 1) := by decide +kernel
theorem dd_SB_deliver_42 : decode bb_SB_deliver 42 = .ok (.invokestatic 129, 3) := by decide +kernel
theorem dd_SB_deliver_45 : decode bb_SB_deliver 45 = .ok (.tableswitch 53 1 3 #[27, 36, 45], 27) := by decide +kernel
theorem dd_SB_deliver_72 : decode bb_SB_deliver 72 = .ok (.aload_n 0, 1) := by decide +kernel
theorem dd_SB_deliver_73 : decode bb_SB_deliver 73 = .ok (.iload_n 2, 1) := by decide +kernel
theorem dd_SB_deliver_74 : decode bb_SB_deliver 74 = .ok (.iload_n 3, 1) := by decide +kernel
theorem dd_SB_deliver_75 : decode bb_SB_deliver 75 = .ok (.invokevirtual 135, 3) := by decide +kernel
theorem dd_SB_deliver_78 : decode bb_SB_deliver 78 = .ok (.goto 25, 3) := by decide +kernel
theorem dd_SB_deliver_81 : decode bb_SB_deliver 81 = .ok (.aload_n 0, 1) := by decide +kernel
theorem dd_SB_deliver_82 : decode bb_SB_deliver 82 = .ok (.iload_n 2, 1) := by decide +kernel
theorem dd_SB_deliver_83 : decode bb_SB_deliver 83 = .ok (.iload_n 3, 1) := by decide +kernel
theorem dd_SB_deliver_84 : decode bb_SB_deliver 84 = .ok (.invokevirtual 139, 3) := by decide +kernel
theorem dd_SB_deliver_87 : decode bb_SB_deliver 87 = .ok (.goto 16, 3) := by decide +kernel
theorem dd_SB_deliver_90 : decode bb_SB_deliver 90 = .ok (.aload_n 0, 1) := by decide +kernel
theorem dd_SB_deliver_91 : decode bb_SB_deliver 91 = .ok (.iload_n 2, 1) := by decide +kernel
theorem dd_SB_deliver_92 : decode bb_SB_deliver 92 = .ok (.invokevirtual 142, 3) := by decide +kernel
theorem dd_SB_deliver_95 : decode bb_SB_deliver 95 = .ok (.goto 8, 3) := by decide +kernel
theorem dd_SB_deliver_98 : decode bb_SB_deliver 98 = .ok (.aload_n 0, 1) := by decide +kernel
theorem dd_SB_deliver_99 : decode bb_SB_deliver 99 = .ok (.iload_n 2, 1) := by decide +kernel
theorem dd_SB_deliver_100 : decode bb_SB_deliver 100 = .ok (.invokevirtual 145, 3) := by decide +kernel
theorem dd_SB_deliver_103 : decode bb_SB_deliver 103 = .ok (.iconst 1, 1) := by decide +kernel
theorem dd_SB_deliver_104 : decode bb_SB_deliver 104 = .ok (.ireturn, 1) := by decide +kernel
def zk_SB_deliver : Room := { frames := 6, cells := 0, slots := 0, locals := 160 }
abbrev zA_SB_deliver (p : Program) (l : Launch) (e : Env) (s : State) (m : MethodId) (args : Array Value) (below : List Frame) (meth : Method) (c : Code) (G : zs_G) (Q : zs_Q) (pc : Nat) (P : zs_P) : Prop := zs_At p l e zk_SB_deliver s m args below meth c (MQ below (zs_Qc G Q) args s 0 0 (fun q => zg_z G ≤ q)) G 4 pc P
def zb_SB_deliver_103 (Q : zs_Q) : zs_P := zt_psh 1 (zt_zrt 0 0 Q)
def zb_SB_deliver_72 (Q : zs_Q) : zs_P := zt_ald 0 (zt_ild 2 (zt_ild 3 (zt_cav 7 zw_SB_storeArrives (2 + 1) 0 0 0 0 ((zb_SB_deliver_103 Q)))))
def zb_SB_deliver_81 (Q : zs_Q) : zs_P := zt_ald 0 (zt_ild 2 (zt_ild 3 (zt_cav 7 zw_SB_ackArrives (2 + 1) 0 0 0 0 ((zb_SB_deliver_103 Q)))))
def zb_SB_deliver_90 (Q : zs_Q) : zs_P := zt_ald 0 (zt_ild 2 (zt_cav 7 zw_SB_closedArrives (1 + 1) 0 0 0 0 ((zb_SB_deliver_103 Q))))
def zb_SB_deliver_98 (Q : zs_Q) : zs_P := zt_ald 0 (zt_ild 2 (zt_cav 7 zw_SB_valuesArrive (1 + 1) 0 0 0 0 ((zb_SB_deliver_103 Q))))
def zb_SB_deliver_13 (Q : zs_Q) : zs_P := zt_ald 0 (zt_gtR 7 4 (zt_gtR 2 0 (zt_ild 1 (zt_xld 100 (zt_ist 2 (zt_ald 0 (zt_gtR 7 4 (zt_gtR 2 1 (zt_ild 1 (zt_xld 100 (zt_ist 3 (zt_ald 0 (zt_gtR 7 4 (zt_ild 1 (zt_cav 2 zw_Po_takeOut (1 + 1) 0 0 0 0 (zt_ild 2 (zt_cal zw_Co_kind 1 0 0 0 0 (zt_cas 1 (zb_SB_deliver_72 Q) (zt_cas 2 (zb_SB_deliver_81 Q) (zt_cas 3 (zb_SB_deliver_90 Q) (zt_dfl (zb_SB_deliver_98 Q))))))))))))))))))))))
def zb_SB_deliver_11 (Q : zs_Q) : zs_P := zt_psh 0 (zt_zrt 0 0 Q)
def zb_SB_deliver_0 (Q : zs_Q) : zs_P := zt_ald 0 (zt_gtR 7 4 (zt_ild 1 (zt_cav 2 zw_Po_has (1 + 1) 0 0 0 0 (zt_if (fun x => x = 0) (zb_SB_deliver_11 Q) (zb_SB_deliver_13 Q)))))
def zw_SB_deliver : zs_W := fun As σ Q => match As with
  | [a0, a1] => zs_c1 [a0, a1] = true ∧ zb_SB_deliver_0 Q [some a0, some a1, none, none] [] σ 0 0
  | _ => False
section
variable {p : Program} {l : Launch} {e : Env} {s : State} {m : MethodId} {args : Array Value} {below : List Frame} {meth : Method} {c : Code} {G : zs_G} {Q : zs_Q}
theorem zr_SB_deliver_103 (B : zs_B p s m args meth c G bb_SB_deliver 4 yy_SB_deliver (some .boolean)) : zA_SB_deliver p l e s m args below meth c G Q 103 (zb_SB_deliver_103 Q) := by
  unfold zb_SB_deliver_103
  refine za_ico B.1 1 dd_SB_deliver_103 (by decide) ?_
  exact za_zrt B.1 0 0 B.2.1 B.2.2.1 dd_SB_deliver_104
theorem zr_SB_deliver_72 (B : zs_B p s m args meth c G bb_SB_deliver 4 yy_SB_deliver (some .boolean)) : zA_SB_deliver p l e s m args below meth c G Q 72 (zb_SB_deliver_72 Q) := by
  unfold zb_SB_deliver_72
  refine za_ald_n B.1 0 dd_SB_deliver_72 rfl ?_
  refine za_ild_n B.1 2 dd_SB_deliver_73 rfl ?_
  refine za_ild_n B.1 3 dd_SB_deliver_74 rfl ?_
  refine za_cV B.1 7 2 0 0 0 0 rfl rfl rfl (by decide) (zm_SB_storeArrives l G) ⟨callB_of 2 B.1.1.2.2.2.2 (zs_good zW_217) rfl rfl rfl (B.1.1.2.2.2.2 _ zW_1) (B.1.1.2.2.2.2 _ zW_215) (by decide +kernel) ⟨by decide, by decide⟩, (B.1.1.2.2.2.2 _ zW_216), (B.1.1.2.2.2.2 _ zW_661)⟩ dd_SB_deliver_75 ?_
  refine za_goto B.1 103 dd_SB_deliver_78 (by decide) ?_
  exact (zr_SB_deliver_103 B)
theorem zr_SB_deliver_81 (B : zs_B p s m args meth c G bb_SB_deliver 4 yy_SB_deliver (some .boolean)) : zA_SB_deliver p l e s m args below meth c G Q 81 (zb_SB_deliver_81 Q) := by
  unfold zb_SB_deliver_81
  refine za_ald_n B.1 0 dd_SB_deliver_81 rfl ?_
  refine za_ild_n B.1 2 dd_SB_deliver_82 rfl ?_
  refine za_ild_n B.1 3 dd_SB_deliver_83 rfl ?_
  refine za_cV B.1 7 2 0 0 0 0 rfl rfl rfl (by decide) (zm_SB_ackArrives l G) ⟨callB_of 2 B.1.1.2.2.2.2 (zs_good zW_235) rfl rfl rfl (B.1.1.2.2.2.2 _ zW_1) (B.1.1.2.2.2.2 _ zW_233) (by decide +kernel) ⟨by decide, by decide⟩, (B.1.1.2.2.2.2 _ zW_234), (B.1.1.2.2.2.2 _ zW_662)⟩ dd_SB_deliver_84 ?_
  refine za_goto B.1 103 dd_SB_deliver_87 (by decide) ?_
  exact (zr_SB_deliver_103 B)
theorem zr_SB_deliver_90 (B : zs_B p s m args meth c G bb_SB_deliver 4 yy_SB_deliver (some .boolean)) : zA_SB_deliver p l e s m args below meth c G Q 90 (zb_SB_deliver_90 Q) := by
  unfold zb_SB_deliver_90
  refine za_ald_n B.1 0 dd_SB_deliver_90 rfl ?_
  refine za_ild_n B.1 2 dd_SB_deliver_91 rfl ?_
  refine za_cV B.1 7 1 0 0 0 0 rfl rfl rfl (by decide) (zm_SB_closedArrives l G) ⟨callB_of 1 B.1.1.2.2.2.2 (zs_good zW_242) rfl rfl rfl (B.1.1.2.2.2.2 _ zW_1) (B.1.1.2.2.2.2 _ zW_240) (by decide +kernel) ⟨by decide, by decide⟩, (B.1.1.2.2.2.2 _ zW_241), (B.1.1.2.2.2.2 _ zW_663)⟩ dd_SB_deliver_92 ?_
  refine za_goto B.1 103 dd_SB_deliver_95 (by decide) ?_
  exact (zr_SB_deliver_103 B)
theorem zr_SB_deliver_98 (B : zs_B p s m args meth c G bb_SB_deliver 4 yy_SB_deliver (some .boolean)) : zA_SB_deliver p l e s m args below meth c G Q 98 (zb_SB_deliver_98 Q) := by
  unfold zb_SB_deliver_98
  refine za_ald_n B.1 0 dd_SB_deliver_98 rfl ?_
  refine za_ild_n B.1 2 dd_SB_deliver_99 rfl ?_
  refine za_cV B.1 7 1 0 0 0 0 rfl rfl rfl (by decide) (zm_SB_valuesArrive l G) ⟨callB_of 1 B.1.1.2.2.2.2 (zs_good zW_255) rfl rfl rfl (B.1.1.2.2.2.2 _ zW_1) (B.1.1.2.2.2.2 _ zW_253) (by decide +kernel) ⟨by decide, by decide⟩, (B.1.1.2.2.2.2 _ zW_254), (B.1.1.2.2.2.2 _ zW_666)⟩ dd_SB_deliver_100 ?_
  exact (zr_SB_deliver_103 B)
theorem zr_SB_deliver_13 (B : zs_B p s m args meth c G bb_SB_deliver 4 yy_SB_deliver (some .boolean)) : zA_SB_deliver p l e s m args below meth c G Q 13 (zb_SB_deliver_13 Q) := by
  unfold zb_SB_deliver_13
  refine za_ald_n B.1 0 dd_SB_deliver_13 rfl ?_
  refine za_gtR B.1 7 4 zi_7 rfl (by decide) (by decide) rfl zW_92 rfl dd_SB_deliver_14 ?_
  refine za_gtRN (host := "SequencedBatches") B.1 2 0 zi_2 rfl (by decide) (by decide) rfl (by decide +kernel) rfl dd_SB_deliver_17 ?_
  refine za_ild_n B.1 1 dd_SB_deliver_20 rfl ?_
  refine za_iald B.1 dd_SB_deliver_21 ?_
  refine za_ist_n B.1 2 dd_SB_deliver_22 rfl (by decide) ?_
  refine za_ald_n B.1 0 dd_SB_deliver_23 rfl ?_
  refine za_gtR B.1 7 4 zi_7 rfl (by decide) (by decide) rfl zW_92 rfl dd_SB_deliver_24 ?_
  refine za_gtRN (host := "SequencedBatches") B.1 2 1 zi_2 rfl (by decide) (by decide) rfl (by decide +kernel) rfl dd_SB_deliver_27 ?_
  refine za_ild_n B.1 1 dd_SB_deliver_30 rfl ?_
  refine za_iald B.1 dd_SB_deliver_31 ?_
  refine za_ist_n B.1 3 dd_SB_deliver_32 rfl (by decide) ?_
  refine za_ald_n B.1 0 dd_SB_deliver_33 rfl ?_
  refine za_gtR B.1 7 4 zi_7 rfl (by decide) (by decide) rfl zW_92 rfl dd_SB_deliver_34 ?_
  refine za_ild_n B.1 1 dd_SB_deliver_37 rfl ?_
  refine za_cV B.1 2 1 0 0 0 0 rfl rfl rfl (by decide) (zm_Po_takeOut l G) ⟨callB_of 1 B.1.1.2.2.2.2 (zs_good zW_211) rfl rfl rfl (B.1.1.2.2.2.2 _ zW_2) (B.1.1.2.2.2.2 _ zW_208) (by decide +kernel) ⟨by decide, by decide⟩, (B.1.1.2.2.2.2 _ zW_209), (B.1.1.2.2.2.2 _ zW_210)⟩ dd_SB_deliver_38 ?_
  refine za_ild_n B.1 2 dd_SB_deliver_41 rfl ?_
  refine za_cS B.1 1 0 0 0 0 rfl rfl (zm_Co_kind l G) ⟨callB_of 1 B.1.1.2.2.2.2 (zs_good zW_214) rfl rfl rfl (B.1.1.2.2.2.2 _ zW_11) (B.1.1.2.2.2.2 _ zW_212) (by decide +kernel) ⟨by decide, by decide⟩, (B.1.1.2.2.2.2 _ zW_213)⟩ dd_SB_deliver_42 ?_
  refine za_sw0 ?_
  refine za_swc (off := 27) B.1 0 1 72 dd_SB_deliver_45 (by decide) (by decide) (by decide) (by decide) (zr_SB_deliver_72 B) ?_
  refine za_swc (off := 36) B.1 1 2 81 dd_SB_deliver_45 (by decide) (by decide) (by decide) (by decide) (zr_SB_deliver_81 B) ?_
  refine za_swc (off := 45) B.1 2 3 90 dd_SB_deliver_45 (by decide) (by decide) (by decide) (by decide) (zr_SB_deliver_90 B) ?_
  exact za_swd B.1 98 dd_SB_deliver_45 (fun x hx => by
    have h0 := lv_neT (a := 1) (hx 1 (by decide)) (by decide)
    have h1 := lv_neT (a := 2) (hx 2 (by decide)) (by decide)
    have h2 := lv_neT (a := 3) (hx 3 (by decide)) (by decide)
    omega) (by decide) (zr_SB_deliver_98 B)
theorem zr_SB_deliver_11 (B : zs_B p s m args meth c G bb_SB_deliver 4 yy_SB_deliver (some .boolean)) : zA_SB_deliver p l e s m args below meth c G Q 11 (zb_SB_deliver_11 Q) := by
  unfold zb_SB_deliver_11
  refine za_ico B.1 0 dd_SB_deliver_11 (by decide) ?_
  exact za_zrt B.1 0 0 B.2.1 B.2.2.1 dd_SB_deliver_12
theorem zr_SB_deliver_0 (B : zs_B p s m args meth c G bb_SB_deliver 4 yy_SB_deliver (some .boolean)) : zA_SB_deliver p l e s m args below meth c G Q 0 (zb_SB_deliver_0 Q) := by
  unfold zb_SB_deliver_0
  refine za_ald_n B.1 0 dd_SB_deliver_0 rfl ?_
  refine za_gtR B.1 7 4 zi_7 rfl (by decide) (by decide) rfl zW_92 rfl dd_SB_deliver_1 ?_
  refine za_ild_n B.1 1 dd_SB_deliver_4 rfl ?_
  refine za_cV B.1 2 1 0 0 0 0 rfl rfl rfl (by decide) (zm_Po_has l G) ⟨callB_of 1 B.1.1.2.2.2.2 (zs_good zW_203) rfl rfl rfl (B.1.1.2.2.2.2 _ zW_2) (B.1.1.2.2.2.2 _ zW_200) (by decide +kernel) ⟨by decide, by decide⟩, (B.1.1.2.2.2.2 _ zW_201), (B.1.1.2.2.2.2 _ zW_202)⟩ dd_SB_deliver_5 ?_
  exact za_if_ne B.1 13 dd_SB_deliver_8 (by decide) (zr_SB_deliver_11 B) (zr_SB_deliver_13 B)
end
theorem zm_SB_deliver (l : Launch) (G : zs_G) (As : List Value) (σ : zs_S) (Q : zs_Q) (h : zw_SB_deliver As σ Q) : zs_Met l yy_SB_deliver (Cond.code yy_SB_deliver bb_SB_deliver 4 (some .boolean) :: zw_all) zk_SB_deliver G As σ Q 0 0 := by
  unfold zw_SB_deliver at h
  split at h
  · exact zs_enter (by decide +kernel) h.1 (Nat.le_of_ble_eq_true rfl) h.2 (fun p e s m args below meth c B => zr_SB_deliver_0 B)
  · exact h.elim
-- SequencedBatches.drop(I)Z
theorem dd_SB_drop_0 : decode bb_SB_drop 0 = .ok (.aload_n 0, 1) := by decide +kernel
theorem dd_SB_drop_1 : decode bb_SB_drop 1 = .ok (.getfield 26, 3) := by decide +kernel
theorem dd_SB_drop_4 : decode bb_SB_drop 4 = .ok (.iload_n 1, 1) := by decide +kernel
theorem dd_SB_drop_5 : decode bb_SB_drop 5 = .ok (.invokevirtual 116, 3) := by decide +kernel
theorem dd_SB_drop_8 : decode bb_SB_drop 8 = .ok (.ifCond .eq 19, 3) := by decide +kernel
theorem dd_SB_drop_11 : decode bb_SB_drop 11 = .ok (.aload_n 0, 1) := by decide +kernel
theorem dd_SB_drop_12 : decode bb_SB_drop 12 = .ok (.getfield 26, 3) := by decide +kernel
theorem dd_SB_drop_15 : decode bb_SB_drop 15 = .ok (.getfield 119, 3) := by decide +kernel
theorem dd_SB_drop_18 : decode bb_SB_drop 18 = .ok (.iload_n 1, 1) := by decide +kernel
theorem dd_SB_drop_19 : decode bb_SB_drop 19 = .ok (.iaload, 1) := by decide +kernel
theorem dd_SB_drop_20 : decode bb_SB_drop 20 = .ok (.invokestatic 129, 3) := by decide +kernel
theorem dd_SB_drop_23 : decode bb_SB_drop 23 = .ok (.iconst 4, 1) := by decide +kernel
theorem dd_SB_drop_24 : decode bb_SB_drop 24 = .ok (.if_icmp .ne 5, 3) := by decide +kernel
theorem dd_SB_drop_27 : decode bb_SB_drop 27 = .ok (.iconst 0, 1) := by decide +kernel
theorem dd_SB_drop_28 : decode bb_SB_drop 28 = .ok (.ireturn, 1) := by decide +kernel
theorem dd_SB_drop_29 : decode bb_SB_drop 29 = .ok (.aload_n 0, 1) := by decide +kernel
theorem dd_SB_drop_30 : decode bb_SB_drop 30 = .ok (.getfield 26, 3) := by decide +kernel
theorem dd_SB_drop_33 : decode bb_SB_drop 33 = .ok (.iload_n 1, 1) := by decide +kernel
theorem dd_SB_drop_34 : decode bb_SB_drop 34 = .ok (.invokevirtual 126, 3) := by decide +kernel
theorem dd_SB_drop_37 : decode bb_SB_drop 37 = .ok (.iconst 1, 1) := by decide +kernel
theorem dd_SB_drop_38 : decode bb_SB_drop 38 = .ok (.ireturn, 1) := by decide +kernel
def zk_SB_drop : Room := { frames := 1, cells := 0, slots := 0, locals := 22 }
abbrev zA_SB_drop (p : Program) (l : Launch) (e : Env) (s : State) (m : MethodId) (args : Array Value) (below : List Frame) (meth : Method) (c : Code) (G : zs_G) (Q : zs_Q) (pc : Nat) (P : zs_P) : Prop := zs_At p l e zk_SB_drop s m args below meth c (MQ below (zs_Qc G Q) args s 0 0 (fun q => zg_z G ≤ q)) G 2 pc P
def zb_SB_drop_27 (Q : zs_Q) : zs_P := zt_psh 0 (zt_zrt 0 0 Q)
def zb_SB_drop_29 (Q : zs_Q) : zs_P := zt_ald 0 (zt_gtR 7 4 (zt_ild 1 (zt_cav 2 zw_Po_takeOut (1 + 1) 0 0 0 0 (zt_psh 1 (zt_zrt 0 0 Q)))))
def zb_SB_drop_11 (Q : zs_Q) : zs_P := zt_ald 0 (zt_gtR 7 4 (zt_gtR 2 0 (zt_ild 1 (zt_xld 100 (zt_cal zw_Co_kind 1 0 0 0 0 (zt_psh 4 (zt_cmp (fun x y => x = y) (zb_SB_drop_27 Q) (zb_SB_drop_29 Q))))))))
def zb_SB_drop_0 (Q : zs_Q) : zs_P := zt_ald 0 (zt_gtR 7 4 (zt_ild 1 (zt_cav 2 zw_Po_has (1 + 1) 0 0 0 0 (zt_if (fun x => x = 0) (zb_SB_drop_27 Q) (zb_SB_drop_11 Q)))))
def zw_SB_drop : zs_W := fun As σ Q => match As with
  | [a0, a1] => zs_c1 [a0, a1] = true ∧ zb_SB_drop_0 Q [some a0, some a1] [] σ 0 0
  | _ => False
section
variable {p : Program} {l : Launch} {e : Env} {s : State} {m : MethodId} {args : Array Value} {below : List Frame} {meth : Method} {c : Code} {G : zs_G} {Q : zs_Q}
theorem zr_SB_drop_27 (B : zs_B p s m args meth c G bb_SB_drop 2 yy_SB_drop (some .boolean)) : zA_SB_drop p l e s m args below meth c G Q 27 (zb_SB_drop_27 Q) := by
  unfold zb_SB_drop_27
  refine za_ico B.1 0 dd_SB_drop_27 (by decide) ?_
  exact za_zrt B.1 0 0 B.2.1 B.2.2.1 dd_SB_drop_28
theorem zr_SB_drop_29 (B : zs_B p s m args meth c G bb_SB_drop 2 yy_SB_drop (some .boolean)) : zA_SB_drop p l e s m args below meth c G Q 29 (zb_SB_drop_29 Q) := by
  unfold zb_SB_drop_29
  refine za_ald_n B.1 0 dd_SB_drop_29 rfl ?_
  refine za_gtR B.1 7 4 zi_7 rfl (by decide) (by decide) rfl zW_92 rfl dd_SB_drop_30 ?_
  refine za_ild_n B.1 1 dd_SB_drop_33 rfl ?_
  refine za_cV B.1 2 1 0 0 0 0 rfl rfl rfl (by decide) (zm_Po_takeOut l G) ⟨callB_of 1 B.1.1.2.2.2.2 (zs_good zW_211) rfl rfl rfl (B.1.1.2.2.2.2 _ zW_2) (B.1.1.2.2.2.2 _ zW_208) (by decide +kernel) ⟨by decide, by decide⟩, (B.1.1.2.2.2.2 _ zW_209), (B.1.1.2.2.2.2 _ zW_210)⟩ dd_SB_drop_34 ?_
  refine za_ico B.1 1 dd_SB_drop_37 (by decide) ?_
  exact za_zrt B.1 0 0 B.2.1 B.2.2.1 dd_SB_drop_38
theorem zr_SB_drop_11 (B : zs_B p s m args meth c G bb_SB_drop 2 yy_SB_drop (some .boolean)) : zA_SB_drop p l e s m args below meth c G Q 11 (zb_SB_drop_11 Q) := by
  unfold zb_SB_drop_11
  refine za_ald_n B.1 0 dd_SB_drop_11 rfl ?_
  refine za_gtR B.1 7 4 zi_7 rfl (by decide) (by decide) rfl zW_92 rfl dd_SB_drop_12 ?_
  refine za_gtRN (host := "SequencedBatches") B.1 2 0 zi_2 rfl (by decide) (by decide) rfl (by decide +kernel) rfl dd_SB_drop_15 ?_
  refine za_ild_n B.1 1 dd_SB_drop_18 rfl ?_
  refine za_iald B.1 dd_SB_drop_19 ?_
  refine za_cS B.1 1 0 0 0 0 rfl rfl (zm_Co_kind l G) ⟨callB_of 1 B.1.1.2.2.2.2 (zs_good zW_214) rfl rfl rfl (B.1.1.2.2.2.2 _ zW_11) (B.1.1.2.2.2.2 _ zW_212) (by decide +kernel) ⟨by decide, by decide⟩, (B.1.1.2.2.2.2 _ zW_213)⟩ dd_SB_drop_20 ?_
  refine za_ico B.1 4 dd_SB_drop_23 (by decide) ?_
  exact za_cmp_ne B.1 29 dd_SB_drop_24 (by decide) (zr_SB_drop_27 B) (zr_SB_drop_29 B)
theorem zr_SB_drop_0 (B : zs_B p s m args meth c G bb_SB_drop 2 yy_SB_drop (some .boolean)) : zA_SB_drop p l e s m args below meth c G Q 0 (zb_SB_drop_0 Q) := by
  unfold zb_SB_drop_0
  refine za_ald_n B.1 0 dd_SB_drop_0 rfl ?_
  refine za_gtR B.1 7 4 zi_7 rfl (by decide) (by decide) rfl zW_92 rfl dd_SB_drop_1 ?_
  refine za_ild_n B.1 1 dd_SB_drop_4 rfl ?_
  refine za_cV B.1 2 1 0 0 0 0 rfl rfl rfl (by decide) (zm_Po_has l G) ⟨callB_of 1 B.1.1.2.2.2.2 (zs_good zW_203) rfl rfl rfl (B.1.1.2.2.2.2 _ zW_2) (B.1.1.2.2.2.2 _ zW_200) (by decide +kernel) ⟨by decide, by decide⟩, (B.1.1.2.2.2.2 _ zW_201), (B.1.1.2.2.2.2 _ zW_202)⟩ dd_SB_drop_5 ?_
  exact za_if_eq B.1 27 dd_SB_drop_8 (by decide) (zr_SB_drop_27 B) (zr_SB_drop_11 B)
end
theorem zm_SB_drop (l : Launch) (G : zs_G) (As : List Value) (σ : zs_S) (Q : zs_Q) (h : zw_SB_drop As σ Q) : zs_Met l yy_SB_drop (Cond.code yy_SB_drop bb_SB_drop 2 (some .boolean) :: zw_all) zk_SB_drop G As σ Q 0 0 := by
  unfold zw_SB_drop at h
  split at h
  · exact zs_enter (by decide +kernel) h.1 (Nat.le_of_ble_eq_true rfl) h.2 (fun p e s m args below meth c B => zr_SB_drop_0 B)
  · exact h.elim
-- SequencedBatches$Post.forgetValuesOf(I)V
theorem dd_Po_forgetValuesOf_0 : decode bb_Po_forgetValuesOf 0 = .ok (.iconst 0, 1) := by decide +kernel
theorem dd_Po_forgetValuesOf_1 : decode bb_Po_forgetValuesOf 1 = .ok (.istore_n 2, 1) := by decide +kernel
theorem dd_Po_forgetValuesOf_2 : decode bb_Po_forgetValuesOf 2 = .ok (.iconst 0, 1) := by decide +kernel
theorem dd_Po_forgetValuesOf_3 : decode bb_Po_forgetValuesOf 3 = .ok (.istore_n 3, 1) := by decide +kernel
theorem dd_Po_forgetValuesOf_4 : decode bb_Po_forgetValuesOf 4 = .ok (.iload_n 3, 1) := by decide +kernel
theorem dd_Po_forgetValuesOf_5 : decode bb_Po_forgetValuesOf 5 = .ok (.aload_n 0, 1) := by decide +kernel
theorem dd_Po_forgetValuesOf_6 : decode bb_Po_forgetValuesOf 6 = .ok (.getfield 16, 3) := by decide +kernel
theorem dd_Po_forgetValuesOf_9 : decode bb_Po_forgetValuesOf 9 = .ok (.if_icmp .ge 62, 3) := by decide +kernel
theorem dd_Po_forgetValuesOf_12 : decode bb_Po_forgetValuesOf 12 = .ok (.aload_n 0, 1) := by decide +kernel
theorem dd_Po_forgetValuesOf_13 : decode bb_Po_forgetValuesOf 13 = .ok (.getfield 9, 3) := by decide +kernel
theorem dd_Po_forgetValuesOf_16 : decode bb_Po_forgetValuesOf 16 = .ok (.iload_n 3, 1) := by decide +kernel
theorem dd_Po_forgetValuesOf_17 : decode bb_Po_forgetValuesOf 17 = .ok (.iaload, 1) := by decide +kernel
theorem dd_Po_forgetValuesOf_18 : decode bb_Po_forgetValuesOf 18 = .ok (.invokestatic 20, 3) := by decide +kernel
theorem dd_Po_forgetValuesOf_21 : decode bb_Po_forgetValuesOf 21 = .ok (.iconst 4, 1) := by decide +kernel
theorem dd_Po_forgetValuesOf_22 : decode bb_Po_forgetValuesOf 22 = .ok (.if_icmp .ne 16, 3) := by decide +kernel
theorem dd_Po_forgetValuesOf_25 : decode bb_Po_forgetValuesOf 25 = .ok (.aload_n 0, 1) := by decide +kernel
theorem dd_Po_forgetValuesOf_26 : decode bb_Po_forgetValuesOf 26 = .ok (.getfield 9, 3) := by decide +kernel
theorem dd_Po_forgetValuesOf_29 : decode bb_Po_forgetValuesOf 29 = .ok (.iload_n 3, 1) := by decide +kernel
theorem dd_Po_forgetValuesOf_30 : decode bb_Po_forgetValuesOf 30 = .ok (.iaload, 1) := by decide +kernel
theorem dd_Po_forgetValuesOf_31 : decode bb_Po_forgetValuesOf 31 = .ok (.invokestatic 26, 3) := by decide +kernel
theorem dd_Po_forgetValuesOf_34 : decode bb_Po_forgetValuesOf 34 = .ok (.iload_n 1, 1) := by decide +kernel
theorem dd_Po_forgetValuesOf_35 : decode bb_Po_forgetValuesOf 35 = .ok (.if_icmp .eq 30, 3) := by decide +kernel
theorem dd_Po_forgetValuesOf_38 : decode bb_Po_forgetValuesOf 38 = .ok (.aload_n 0, 1) := by decide +kernel
theorem dd_Po_forgetValuesOf_39 : decode bb_Po_forgetValuesOf 39 = .ok (.getfield 9, 3) := by decide +kernel
theorem dd_Po_forgetValuesOf_42 : decode bb_Po_forgetValuesOf 42 = .ok (.iload_n 2, 1) := by decide +kernel
theorem dd_Po_forgetValuesOf_43 : decode bb_Po_forgetValuesOf 43 = .ok (.aload_n 0, 1) := by decide +kernel
theorem dd_Po_forgetValuesOf_44 : decode bb_Po_forgetValuesOf 44 = .ok (.getfield 9, 3) := by decide +kernel
theorem dd_Po_forgetValuesOf_47 : decode bb_Po_forgetValuesOf 47 = .ok (.iload_n 3, 1) := by decide +kernel
theorem dd_Po_forgetValuesOf_48 : decode bb_Po_forgetValuesOf 48 = .ok (.iaload, 1) := by decide +kernel
theorem dd_Po_forgetValuesOf_49 : decode bb_Po_forgetValuesOf 49 = .ok (.iastore, 1) := by decide +kernel
theorem dd_Po_forgetValuesOf_50 : decode bb_Po_forgetValuesOf 50 = .ok (.aload_n 0, 1) := by decide +kernel
theorem dd_Po_forgetValuesOf_51 : decode bb_Po_forgetValuesOf 51 = .ok (.getfield 13, 3) := by decide +kernel
theorem dd_Po_forgetValuesOf_54 : decode bb_Po_forgetValuesOf 54 = .ok (.iload_n 2, 1) := by decide +kernel
theorem dd_Po_forgetValuesOf_55 : decode bb_Po_forgetValuesOf 55 = .ok (.aload_n 0, 1) := by decide +kernel
theorem dd_Po_forgetValuesOf_56 : decode bb_Po_forgetValuesOf 56 = .ok (.getfield 13, 3) := by decide +kernel
theorem dd_Po_forgetValuesOf_59 : decode bb_Po_forgetValuesOf 59 = .ok (.iload_n 3, 1) := by decide +kernel
theorem dd_Po_forgetValuesOf_60 : decode bb_Po_forgetValuesOf 60 = .ok (.iaload, 1) := by decide +kernel
theorem dd_Po_forgetValuesOf_61 : decode bb_Po_forgetValuesOf 61 = .ok (.iastore, 1) := by decide +kernel
theorem dd_Po_forgetValuesOf_62 : decode bb_Po_forgetValuesOf 62 = .ok (.iinc 2 1, 3) := by decide +kernel
theorem dd_Po_forgetValuesOf_65 : decode bb_Po_forgetValuesOf 65 = .ok (.iinc 3 1, 3) := by decide +kernel
theorem dd_Po_forgetValuesOf_68 : decode bb_Po_forgetValuesOf 68 = .ok (.goto (-64), 3) := by decide +kernel
theorem dd_Po_forgetValuesOf_71 : decode bb_Po_forgetValuesOf 71 = .ok (.aload_n 0, 1) := by decide +kernel
theorem dd_Po_forgetValuesOf_72 : decode bb_Po_forgetValuesOf 72 = .ok (.iload_n 2, 1) := by decide +kernel
theorem dd_Po_forgetValuesOf_73 : decode bb_Po_forgetValuesOf 73 = .ok (.putfield 16, 3) := by decide +kernel
theorem dd_Po_forgetValuesOf_76 : decode bb_Po_forgetValuesOf 76 = .ok (.return_, 1) := by decide +kernel
def zk_Po_forgetValuesOf : Room := { frames := 1, cells := 0, slots := 0, locals := 20 }
abbrev zA_Po_forgetValuesOf (p : Program) (l : Launch) (e : Env) (s : State) (m : MethodId) (args : Array Value) (below : List Frame) (meth : Method) (c : Code) (G : zs_G) (Q : zs_Q) (pc : Nat) (P : zs_P) : Prop := zs_At p l e zk_Po_forgetValuesOf s m args below meth c (MQ below (zs_Qc G Q) args s 0 0 (fun q => zg_z G ≤ q)) G 4 pc P
def zb_Po_forgetValuesOf_71 (Q : zs_Q) : zs_P := zt_ald 0 (zt_ild 2 (zt_ptI 2 2 (zt_vrt 0 0 Q)))
def zb_Po_forgetValuesOf_65 (Q : zs_Q) (K4 : zs_P) : zs_P := zt_inc 3 1 (K4)
def zb_Po_forgetValuesOf_38 (Q : zs_Q) (K4 : zs_P) : zs_P := zt_ald 0 (zt_gtR 2 0 (zt_ild 2 (zt_ald 0 (zt_gtR 2 0 (zt_ild 3 (zt_xld 100 (zt_ias (zt_ald 0 (zt_gtR 2 1 (zt_ild 2 (zt_ald 0 (zt_gtR 2 1 (zt_ild 3 (zt_xld 100 (zt_ias (zt_inc 2 1 ((zb_Po_forgetValuesOf_65 Q K4))))))))))))))))))
def zb_Po_forgetValuesOf_25 (Q : zs_Q) (K4 : zs_P) : zs_P := zt_ald 0 (zt_gtR 2 0 (zt_ild 3 (zt_xld 100 (zt_cal zw_Co_owner 1 0 0 0 0 (zt_ild 1 (zt_cmp (fun x y => x = y) (zb_Po_forgetValuesOf_65 Q K4) (zb_Po_forgetValuesOf_38 Q K4)))))))
def zb_Po_forgetValuesOf_12 (Q : zs_Q) (K4 : zs_P) : zs_P := zt_ald 0 (zt_gtR 2 0 (zt_ild 3 (zt_xld 100 (zt_cal zw_Co_kind 1 0 0 0 0 (zt_psh 4 (zt_cmp (fun x y => x = y) (zb_Po_forgetValuesOf_25 Q K4) (zb_Po_forgetValuesOf_38 Q K4)))))))
def zb_Po_forgetValuesOf_4 (Q : zs_Q) (K4 : zs_P) : zs_P := zt_ild 3 (zt_ald 0 (zt_gtI 2 2 (zt_cmp (fun x y => y ≤ x) (zb_Po_forgetValuesOf_71 Q) (zb_Po_forgetValuesOf_12 Q K4))))
def zl_Po_forgetValuesOf_4 (Q : zs_Q) : zs_P := zt_ex (zb_Po_forgetValuesOf_4 Q)
def zb_Po_forgetValuesOf_0 (Q : zs_Q) : zs_P := zt_psh 0 (zt_ist 2 (zt_psh 0 (zt_ist 3 ((zl_Po_forgetValuesOf_4 Q)))))
def zw_Po_forgetValuesOf : zs_W := fun As σ Q => match As with
  | [a0, a1] => zs_c1 [a0, a1] = true ∧ zb_Po_forgetValuesOf_0 Q [some a0, some a1, none, none] [] σ 0 0
  | _ => False
section
variable {p : Program} {l : Launch} {e : Env} {s : State} {m : MethodId} {args : Array Value} {below : List Frame} {meth : Method} {c : Code} {G : zs_G} {Q : zs_Q}
theorem zr_Po_forgetValuesOf_71 (B : zs_B p s m args meth c G bb_Po_forgetValuesOf 4 yy_Po_forgetValuesOf none) : zA_Po_forgetValuesOf p l e s m args below meth c G Q 71 (zb_Po_forgetValuesOf_71 Q) := by
  unfold zb_Po_forgetValuesOf_71
  refine za_ald_n B.1 0 dd_Po_forgetValuesOf_71 rfl ?_
  refine za_ild_n B.1 2 dd_Po_forgetValuesOf_72 rfl ?_
  refine za_ptI B.1 2 2 zi_2 zy_Po zy_Po_ok zn_Po rfl (by decide) (by decide) rfl zW_29 rfl rfl rfl dd_Po_forgetValuesOf_73 ?_
  exact za_vrt B.1 0 0 B.2.1 B.2.2.1 dd_Po_forgetValuesOf_76
theorem zr_Po_forgetValuesOf_65 (B : zs_B p s m args meth c G bb_Po_forgetValuesOf 4 yy_Po_forgetValuesOf none) {K4 : zs_P} (h4 : zA_Po_forgetValuesOf p l e s m args below meth c G Q 4 K4) : zA_Po_forgetValuesOf p l e s m args below meth c G Q 65 (zb_Po_forgetValuesOf_65 Q K4) := by
  unfold zb_Po_forgetValuesOf_65
  refine za_inc B.1 1 dd_Po_forgetValuesOf_65 (by decide) (by decide) ?_
  refine za_goto B.1 4 dd_Po_forgetValuesOf_68 (by decide) ?_
  exact h4
theorem zr_Po_forgetValuesOf_38 (B : zs_B p s m args meth c G bb_Po_forgetValuesOf 4 yy_Po_forgetValuesOf none) {K4 : zs_P} (h4 : zA_Po_forgetValuesOf p l e s m args below meth c G Q 4 K4) : zA_Po_forgetValuesOf p l e s m args below meth c G Q 38 (zb_Po_forgetValuesOf_38 Q K4) := by
  unfold zb_Po_forgetValuesOf_38
  refine za_ald_n B.1 0 dd_Po_forgetValuesOf_38 rfl ?_
  refine za_gtR B.1 2 0 zi_2 rfl (by decide) (by decide) rfl zW_27 rfl dd_Po_forgetValuesOf_39 ?_
  refine za_ild_n B.1 2 dd_Po_forgetValuesOf_42 rfl ?_
  refine za_ald_n B.1 0 dd_Po_forgetValuesOf_43 rfl ?_
  refine za_gtR B.1 2 0 zi_2 rfl (by decide) (by decide) rfl zW_27 rfl dd_Po_forgetValuesOf_44 ?_
  refine za_ild_n B.1 3 dd_Po_forgetValuesOf_47 rfl ?_
  refine za_iald B.1 dd_Po_forgetValuesOf_48 ?_
  refine za_iast B.1 dd_Po_forgetValuesOf_49 ?_
  refine za_ald_n B.1 0 dd_Po_forgetValuesOf_50 rfl ?_
  refine za_gtR B.1 2 1 zi_2 rfl (by decide) (by decide) rfl zW_28 rfl dd_Po_forgetValuesOf_51 ?_
  refine za_ild_n B.1 2 dd_Po_forgetValuesOf_54 rfl ?_
  refine za_ald_n B.1 0 dd_Po_forgetValuesOf_55 rfl ?_
  refine za_gtR B.1 2 1 zi_2 rfl (by decide) (by decide) rfl zW_28 rfl dd_Po_forgetValuesOf_56 ?_
  refine za_ild_n B.1 3 dd_Po_forgetValuesOf_59 rfl ?_
  refine za_iald B.1 dd_Po_forgetValuesOf_60 ?_
  refine za_iast B.1 dd_Po_forgetValuesOf_61 ?_
  refine za_inc B.1 1 dd_Po_forgetValuesOf_62 (by decide) (by decide) ?_
  exact (zr_Po_forgetValuesOf_65 B h4)
theorem zr_Po_forgetValuesOf_25 (B : zs_B p s m args meth c G bb_Po_forgetValuesOf 4 yy_Po_forgetValuesOf none) {K4 : zs_P} (h4 : zA_Po_forgetValuesOf p l e s m args below meth c G Q 4 K4) : zA_Po_forgetValuesOf p l e s m args below meth c G Q 25 (zb_Po_forgetValuesOf_25 Q K4) := by
  unfold zb_Po_forgetValuesOf_25
  refine za_ald_n B.1 0 dd_Po_forgetValuesOf_25 rfl ?_
  refine za_gtR B.1 2 0 zi_2 rfl (by decide) (by decide) rfl zW_27 rfl dd_Po_forgetValuesOf_26 ?_
  refine za_ild_n B.1 3 dd_Po_forgetValuesOf_29 rfl ?_
  refine za_iald B.1 dd_Po_forgetValuesOf_30 ?_
  refine za_cS B.1 1 0 0 0 0 rfl rfl (zm_Co_owner l G) ⟨callB_of 1 B.1.1.2.2.2.2 (zs_good zW_220) rfl rfl rfl (B.1.1.2.2.2.2 _ zW_11) (B.1.1.2.2.2.2 _ zW_300) (by decide +kernel) ⟨by decide, by decide⟩, (B.1.1.2.2.2.2 _ zW_219)⟩ dd_Po_forgetValuesOf_31 ?_
  refine za_ild_n B.1 1 dd_Po_forgetValuesOf_34 rfl ?_
  exact za_cmp_eq B.1 65 dd_Po_forgetValuesOf_35 (by decide) (zr_Po_forgetValuesOf_65 B h4) (zr_Po_forgetValuesOf_38 B h4)
theorem zr_Po_forgetValuesOf_12 (B : zs_B p s m args meth c G bb_Po_forgetValuesOf 4 yy_Po_forgetValuesOf none) {K4 : zs_P} (h4 : zA_Po_forgetValuesOf p l e s m args below meth c G Q 4 K4) : zA_Po_forgetValuesOf p l e s m args below meth c G Q 12 (zb_Po_forgetValuesOf_12 Q K4) := by
  unfold zb_Po_forgetValuesOf_12
  refine za_ald_n B.1 0 dd_Po_forgetValuesOf_12 rfl ?_
  refine za_gtR B.1 2 0 zi_2 rfl (by decide) (by decide) rfl zW_27 rfl dd_Po_forgetValuesOf_13 ?_
  refine za_ild_n B.1 3 dd_Po_forgetValuesOf_16 rfl ?_
  refine za_iald B.1 dd_Po_forgetValuesOf_17 ?_
  refine za_cS B.1 1 0 0 0 0 rfl rfl (zm_Co_kind l G) ⟨callB_of 1 B.1.1.2.2.2.2 (zs_good zW_214) rfl rfl rfl (B.1.1.2.2.2.2 _ zW_11) (B.1.1.2.2.2.2 _ zW_299) (by decide +kernel) ⟨by decide, by decide⟩, (B.1.1.2.2.2.2 _ zW_213)⟩ dd_Po_forgetValuesOf_18 ?_
  refine za_ico B.1 4 dd_Po_forgetValuesOf_21 (by decide) ?_
  exact za_cmp_ne B.1 38 dd_Po_forgetValuesOf_22 (by decide) (zr_Po_forgetValuesOf_25 B h4) (zr_Po_forgetValuesOf_38 B h4)
theorem zr_Po_forgetValuesOf_4 (B : zs_B p s m args meth c G bb_Po_forgetValuesOf 4 yy_Po_forgetValuesOf none) {K4 : zs_P} (h4 : zA_Po_forgetValuesOf p l e s m args below meth c G Q 4 K4) : zA_Po_forgetValuesOf p l e s m args below meth c G Q 4 (zb_Po_forgetValuesOf_4 Q K4) := by
  unfold zb_Po_forgetValuesOf_4
  refine za_ild_n B.1 3 dd_Po_forgetValuesOf_4 rfl ?_
  refine za_ald_n B.1 0 dd_Po_forgetValuesOf_5 rfl ?_
  refine za_gtI B.1 2 2 zi_2 rfl (by decide) (by decide) rfl zW_29 rfl dd_Po_forgetValuesOf_6 ?_
  exact za_cmp_ge B.1 71 dd_Po_forgetValuesOf_9 (by decide) (zr_Po_forgetValuesOf_71 B) (zr_Po_forgetValuesOf_12 B h4)
theorem zq_Po_forgetValuesOf_4 (B : zs_B p s m args meth c G bb_Po_forgetValuesOf 4 yy_Po_forgetValuesOf none) : zA_Po_forgetValuesOf p l e s m args below meth c G Q 4 (zl_Po_forgetValuesOf_4 Q) := za_lop (fun K hK => zr_Po_forgetValuesOf_4 B hK)
theorem zr_Po_forgetValuesOf_0 (B : zs_B p s m args meth c G bb_Po_forgetValuesOf 4 yy_Po_forgetValuesOf none) : zA_Po_forgetValuesOf p l e s m args below meth c G Q 0 (zb_Po_forgetValuesOf_0 Q) := by
  unfold zb_Po_forgetValuesOf_0
  refine za_ico B.1 0 dd_Po_forgetValuesOf_0 (by decide) ?_
  refine za_ist_n B.1 2 dd_Po_forgetValuesOf_1 rfl (by decide) ?_
  refine za_ico B.1 0 dd_Po_forgetValuesOf_2 (by decide) ?_
  refine za_ist_n B.1 3 dd_Po_forgetValuesOf_3 rfl (by decide) ?_
  exact (zq_Po_forgetValuesOf_4 B)
end
theorem zm_Po_forgetValuesOf (l : Launch) (G : zs_G) (As : List Value) (σ : zs_S) (Q : zs_Q) (h : zw_Po_forgetValuesOf As σ Q) : zs_Met l yy_Po_forgetValuesOf (Cond.code yy_Po_forgetValuesOf bb_Po_forgetValuesOf 4 none :: zw_all) zk_Po_forgetValuesOf G As σ Q 0 0 := by
  unfold zw_Po_forgetValuesOf at h
  split at h
  · exact zs_enter (by decide +kernel) h.1 (Nat.le_of_ble_eq_true rfl) h.2 (fun p e s m args below meth c B => zr_Po_forgetValuesOf_0 B)
  · exact h.elim
-- SequencedBatches$Sequencer.loseBatch()V
theorem dd_Sq_loseBatch_0 : decode bb_Sq_loseBatch 0 = .ok (.iconst 0, 1) := by decide +kernel
theorem dd_Sq_loseBatch_1 : decode bb_Sq_loseBatch 1 = .ok (.istore_n 1, 1) := by decide +kernel
theorem dd_Sq_loseBatch_2 : decode bb_Sq_loseBatch 2 = .ok (.iload_n 1, 1) := by decide +kernel
theorem dd_Sq_loseBatch_3 : decode bb_Sq_loseBatch 3 = .ok (.aload_n 0, 1) := by decide +kernel
theorem dd_Sq_loseBatch_4 : decode bb_Sq_loseBatch 4 = .ok (.getfield 17, 3) := by decide +kernel
theorem dd_Sq_loseBatch_7 : decode bb_Sq_loseBatch 7 = .ok (.if_icmp .ge 19, 3) := by decide +kernel
theorem dd_Sq_loseBatch_10 : decode bb_Sq_loseBatch 10 = .ok (.aload_n 0, 1) := by decide +kernel
theorem dd_Sq_loseBatch_11 : decode bb_Sq_loseBatch 11 = .ok (.getfield 11, 3) := by decide +kernel
theorem dd_Sq_loseBatch_14 : decode bb_Sq_loseBatch 14 = .ok (.iload_n 1, 1) := by decide +kernel
theorem dd_Sq_loseBatch_15 : decode bb_Sq_loseBatch 15 = .ok (.aaload, 1) := by decide +kernel
theorem dd_Sq_loseBatch_16 : decode bb_Sq_loseBatch 16 = .ok (.iconst 1, 1) := by decide +kernel
theorem dd_Sq_loseBatch_17 : decode bb_Sq_loseBatch 17 = .ok (.putfield 33, 3) := by decide +kernel
theorem dd_Sq_loseBatch_20 : decode bb_Sq_loseBatch 20 = .ok (.iinc 1 1, 3) := by decide +kernel
theorem dd_Sq_loseBatch_23 : decode bb_Sq_loseBatch 23 = .ok (.goto (-21), 3) := by decide +kernel
theorem dd_Sq_loseBatch_26 : decode bb_Sq_loseBatch 26 = .ok (.aload_n 0, 1) := by decide +kernel
theorem dd_Sq_loseBatch_27 : decode bb_Sq_loseBatch 27 = .ok (.iconst 0, 1) := by decide +kernel
theorem dd_Sq_loseBatch_28 : decode bb_Sq_loseBatch 28 = .ok (.putfield 17, 3) := by decide +kernel
theorem dd_Sq_loseBatch_31 : decode bb_Sq_loseBatch 31 = .ok (.return_, 1) := by decide +kernel
def zk_Sq_loseBatch : Room := { frames := 0, cells := 0, slots := 0, locals := 0 }
abbrev zA_Sq_loseBatch (p : Program) (l : Launch) (e : Env) (s : State) (m : MethodId) (args : Array Value) (below : List Frame) (meth : Method) (c : Code) (G : zs_G) (Q : zs_Q) (pc : Nat) (P : zs_P) : Prop := zs_At p l e zk_Sq_loseBatch s m args below meth c (MQ below (zs_Qc G Q) args s 0 0 (fun q => zg_z G ≤ q)) G 2 pc P
def zb_Sq_loseBatch_26 (Q : zs_Q) : zs_P := zt_ald 0 (zt_psh 0 (zt_ptI 4 1 (zt_vrt 0 0 Q)))
def zb_Sq_loseBatch_10 (Q : zs_Q) (K2 : zs_P) : zs_P := zt_ald 0 (zt_gtR 4 0 (zt_ild 1 (zt_rld (110 + 6) (zt_psh 1 (zt_ptZ 6 8 (zt_inc 1 1 (K2)))))))
def zb_Sq_loseBatch_2 (Q : zs_Q) (K2 : zs_P) : zs_P := zt_ild 1 (zt_ald 0 (zt_gtI 4 1 (zt_cmp (fun x y => y ≤ x) (zb_Sq_loseBatch_26 Q) (zb_Sq_loseBatch_10 Q K2))))
def zl_Sq_loseBatch_2 (Q : zs_Q) : zs_P := zt_ex (zb_Sq_loseBatch_2 Q)
def zb_Sq_loseBatch_0 (Q : zs_Q) : zs_P := zt_psh 0 (zt_ist 1 ((zl_Sq_loseBatch_2 Q)))
def zw_Sq_loseBatch : zs_W := fun As σ Q => match As with
  | [a0] => zs_c1 [a0] = true ∧ zb_Sq_loseBatch_0 Q [some a0, none] [] σ 0 0
  | _ => False
section
variable {p : Program} {l : Launch} {e : Env} {s : State} {m : MethodId} {args : Array Value} {below : List Frame} {meth : Method} {c : Code} {G : zs_G} {Q : zs_Q}
theorem zr_Sq_loseBatch_26 (B : zs_B p s m args meth c G bb_Sq_loseBatch 2 yy_Sq_loseBatch none) : zA_Sq_loseBatch p l e s m args below meth c G Q 26 (zb_Sq_loseBatch_26 Q) := by
  unfold zb_Sq_loseBatch_26
  refine za_ald_n B.1 0 dd_Sq_loseBatch_26 rfl ?_
  refine za_ico B.1 0 dd_Sq_loseBatch_27 (by decide) ?_
  refine za_ptI B.1 4 1 zi_4 zy_Sq zy_Sq_ok zn_Sq rfl (by decide) (by decide) rfl zW_54 rfl rfl rfl dd_Sq_loseBatch_28 ?_
  exact za_vrt B.1 0 0 B.2.1 B.2.2.1 dd_Sq_loseBatch_31
theorem zr_Sq_loseBatch_10 (B : zs_B p s m args meth c G bb_Sq_loseBatch 2 yy_Sq_loseBatch none) {K2 : zs_P} (h2 : zA_Sq_loseBatch p l e s m args below meth c G Q 2 K2) : zA_Sq_loseBatch p l e s m args below meth c G Q 10 (zb_Sq_loseBatch_10 Q K2) := by
  unfold zb_Sq_loseBatch_10
  refine za_ald_n B.1 0 dd_Sq_loseBatch_10 rfl ?_
  refine za_gtR B.1 4 0 zi_4 rfl (by decide) (by decide) rfl zW_53 rfl dd_Sq_loseBatch_11 ?_
  refine za_ild_n B.1 1 dd_Sq_loseBatch_14 rfl ?_
  refine za_rld B.1 6 2 rfl dd_Sq_loseBatch_15 ?_
  refine za_ico B.1 1 dd_Sq_loseBatch_16 (by decide) ?_
  refine za_ptZN (host := "SequencedBatches") B.1 6 8 zi_6 zy_Tr zy_Tr_ok zn_Tr rfl (by decide) (by decide) rfl (by decide +kernel) rfl rfl rfl dd_Sq_loseBatch_17 ?_
  refine za_inc B.1 1 dd_Sq_loseBatch_20 (by decide) (by decide) ?_
  refine za_goto B.1 2 dd_Sq_loseBatch_23 (by decide) ?_
  exact h2
theorem zr_Sq_loseBatch_2 (B : zs_B p s m args meth c G bb_Sq_loseBatch 2 yy_Sq_loseBatch none) {K2 : zs_P} (h2 : zA_Sq_loseBatch p l e s m args below meth c G Q 2 K2) : zA_Sq_loseBatch p l e s m args below meth c G Q 2 (zb_Sq_loseBatch_2 Q K2) := by
  unfold zb_Sq_loseBatch_2
  refine za_ild_n B.1 1 dd_Sq_loseBatch_2 rfl ?_
  refine za_ald_n B.1 0 dd_Sq_loseBatch_3 rfl ?_
  refine za_gtI B.1 4 1 zi_4 rfl (by decide) (by decide) rfl zW_54 rfl dd_Sq_loseBatch_4 ?_
  exact za_cmp_ge B.1 26 dd_Sq_loseBatch_7 (by decide) (zr_Sq_loseBatch_26 B) (zr_Sq_loseBatch_10 B h2)
theorem zq_Sq_loseBatch_2 (B : zs_B p s m args meth c G bb_Sq_loseBatch 2 yy_Sq_loseBatch none) : zA_Sq_loseBatch p l e s m args below meth c G Q 2 (zl_Sq_loseBatch_2 Q) := za_lop (fun K hK => zr_Sq_loseBatch_2 B hK)
theorem zr_Sq_loseBatch_0 (B : zs_B p s m args meth c G bb_Sq_loseBatch 2 yy_Sq_loseBatch none) : zA_Sq_loseBatch p l e s m args below meth c G Q 0 (zb_Sq_loseBatch_0 Q) := by
  unfold zb_Sq_loseBatch_0
  refine za_ico B.1 0 dd_Sq_loseBatch_0 (by decide) ?_
  refine za_ist_n B.1 1 dd_Sq_loseBatch_1 rfl (by decide) ?_
  exact (zq_Sq_loseBatch_2 B)
end
theorem zm_Sq_loseBatch (l : Launch) (G : zs_G) (As : List Value) (σ : zs_S) (Q : zs_Q) (h : zw_Sq_loseBatch As σ Q) : zs_Met l yy_Sq_loseBatch (Cond.code yy_Sq_loseBatch bb_Sq_loseBatch 2 none :: zw_all) zk_Sq_loseBatch G As σ Q 0 0 := by
  unfold zw_Sq_loseBatch at h
  split at h
  · exact zs_enter (by decide +kernel) h.1 (Nat.le_of_ble_eq_true rfl) h.2 (fun p e s m args below meth c B => zr_Sq_loseBatch_0 B)
  · exact h.elim
-- SequencedBatches.crash(I)Z
theorem dd_SB_crash_0 : decode bb_SB_crash 0 = .ok (.iload_n 1, 1) := by decide +kernel
theorem dd_SB_crash_1 : decode bb_SB_crash 1 = .ok (.ifCond .lt 18, 3) := by decide +kernel
theorem dd_SB_crash_4 : decode bb_SB_crash 4 = .ok (.iload_n 1, 1) := by decide +kernel
theorem dd_SB_crash_5 : decode bb_SB_crash 5 = .ok (.bipush 7, 2) := by decide +kernel
theorem dd_SB_crash_7 : decode bb_SB_crash 7 = .ok (.if_icmp .ge 12, 3) := by decide +kernel
theorem dd_SB_crash_10 : decode bb_SB_crash 10 = .ok (.aload_n 0, 1) := by decide +kernel
theorem dd_SB_crash_11 : decode bb_SB_crash 11 = .ok (.getfield 9, 3) := by decide +kernel
theorem dd_SB_crash_14 : decode bb_SB_crash 14 = .ok (.iload_n 1, 1) := by decide +kernel
theorem dd_SB_crash_15 : decode bb_SB_crash 15 = .ok (.baload, 1) := by decide +kernel
theorem dd_SB_crash_16 : decode bb_SB_crash 16 = .ok (.ifCond .eq 5, 3) := by decide +kernel
theorem dd_SB_crash_19 : decode bb_SB_crash 19 = .ok (.iconst 0, 1) := by decide +kernel
theorem dd_SB_crash_20 : decode bb_SB_crash 20 = .ok (.ireturn, 1) := by decide +kernel
theorem dd_SB_crash_21 : decode bb_SB_crash 21 = .ok (.aload_n 0, 1) := by decide +kernel
theorem dd_SB_crash_22 : decode bb_SB_crash 22 = .ok (.getfield 9, 3) := by decide +kernel
theorem dd_SB_crash_25 : decode bb_SB_crash 25 = .ok (.iload_n 1, 1) := by decide +kernel
theorem dd_SB_crash_26 : decode bb_SB_crash 26 = .ok (.iconst 1, 1) := by decide +kernel
theorem dd_SB_crash_27 : decode bb_SB_crash 27 = .ok (.bastore, 1) := by decide +kernel
theorem dd_SB_crash_28 : decode bb_SB_crash 28 = .ok (.iload_n 1, 1) := by decide +kernel
theorem dd_SB_crash_29 : decode bb_SB_crash 29 = .ok (.iconst 5, 1) := by decide +kernel
theorem dd_SB_crash_30 : decode bb_SB_crash 30 = .ok (.if_icmp .lt 16, 3) := by decide +kernel
theorem dd_SB_crash_33 : decode bb_SB_crash 33 = .ok (.aload_n 0, 1) := by decide +kernel
theorem dd_SB_crash_34 : decode bb_SB_crash 34 = .ok (.getfield 26, 3) := by decide +kernel
theorem dd_SB_crash_37 : decode bb_SB_crash 37 = .ok (.iload_n 1, 1) := by decide +kernel
theorem dd_SB_crash_38 : decode bb_SB_crash 38 = .ok (.iconst 5, 1) := by decide +kernel
theorem dd_SB_crash_39 : decode bb_SB_crash 39 = .ok (.isub, 1) := by decide +kernel
theorem dd_SB_crash_40 : decode bb_SB_crash 40 = .ok (.invokevirtual 148, 3) := by decide +kernel
theorem dd_SB_crash_43 : decode bb_SB_crash 43 = .ok (.goto 19, 3) := by decide +kernel
theorem dd_SB_crash_46 : decode bb_SB_crash 46 = .ok (.iload_n 1, 1) := by decide +kernel
theorem dd_SB_crash_47 : decode bb_SB_crash 47 = .ok (.iconst 3, 1) := by decide +kernel
theorem dd_SB_crash_48 : decode bb_SB_crash 48 = .ok (.if_icmp .lt 14, 3) := by decide +kernel
theorem dd_SB_crash_51 : decode bb_SB_crash 51 = .ok (.aload_n 0, 1) := by decide +kernel
theorem dd_SB_crash_52 : decode bb_SB_crash 52 = .ok (.getfield 38, 3) := by decide +kernel
theorem dd_SB_crash_55 : decode bb_SB_crash 55 = .ok (.iload_n 1, 1) := by decide +kernel
theorem dd_SB_crash_56 : decode bb_SB_crash 56 = .ok (.iconst 3, 1) := by decide +kernel
theorem dd_SB_crash_57 : decode bb_SB_crash 57 = .ok (.isub, 1) := by decide +kernel
theorem dd_SB_crash_58 : decode bb_SB_crash 58 = .ok (.aaload, 1) := by decide +kernel
theorem dd_SB_crash_59 : decode bb_SB_crash 59 = .ok (.invokevirtual 151, 3) := by decide +kernel
theorem dd_SB_crash_62 : decode bb_SB_crash 62 = .ok (.iconst 1, 1) := by decide +kernel
theorem dd_SB_crash_63 : decode bb_SB_crash 63 = .ok (.ireturn, 1) := by decide +kernel
def zk_SB_crash : Room := { frames := 2, cells := 0, slots := 0, locals := 43 }
abbrev zA_SB_crash (p : Program) (l : Launch) (e : Env) (s : State) (m : MethodId) (args : Array Value) (below : List Frame) (meth : Method) (c : Code) (G : zs_G) (Q : zs_Q) (pc : Nat) (P : zs_P) : Prop := zs_At p l e zk_SB_crash s m args below meth c (MQ below (zs_Qc G Q) args s 0 0 (fun q => zg_z G ≤ q)) G 2 pc P
def zb_SB_crash_19 (Q : zs_Q) : zs_P := zt_psh 0 (zt_zrt 0 0 Q)
def zb_SB_crash_62 (Q : zs_Q) : zs_P := zt_psh 1 (zt_zrt 0 0 Q)
def zb_SB_crash_51 (Q : zs_Q) : zs_P := zt_ald 0 (zt_gtR 7 6 (zt_ild 1 (zt_psh 3 (zt_bin (fun x y => x - y) (zt_rld (110 + 4) (zt_cav 4 zw_Sq_loseBatch (0 + 1) 0 0 0 0 ((zb_SB_crash_62 Q))))))))
def zb_SB_crash_46 (Q : zs_Q) : zs_P := zt_ild 1 (zt_psh 3 (zt_cmp (fun x y => x < y) (zb_SB_crash_62 Q) (zb_SB_crash_51 Q)))
def zb_SB_crash_33 (Q : zs_Q) : zs_P := zt_ald 0 (zt_gtR 7 4 (zt_ild 1 (zt_psh 5 (zt_bin (fun x y => x - y) (zt_cav 2 zw_Po_forgetValuesOf (1 + 1) 0 0 0 0 ((zb_SB_crash_62 Q)))))))
def zb_SB_crash_21 (Q : zs_Q) : zs_P := zt_ald 0 (zt_gtR 7 1 (zt_ild 1 (zt_psh 1 (zt_zas (zt_ild 1 (zt_psh 5 (zt_cmp (fun x y => x < y) (zb_SB_crash_46 Q) (zb_SB_crash_33 Q))))))))
def zb_SB_crash_10 (Q : zs_Q) : zs_P := zt_ald 0 (zt_gtR 7 1 (zt_ild 1 (zt_xld 101 (zt_if (fun x => x = 0) (zb_SB_crash_21 Q) (zb_SB_crash_19 Q)))))
def zb_SB_crash_4 (Q : zs_Q) : zs_P := zt_ild 1 (zt_psh 7 (zt_cmp (fun x y => y ≤ x) (zb_SB_crash_19 Q) (zb_SB_crash_10 Q)))
def zb_SB_crash_0 (Q : zs_Q) : zs_P := zt_ild 1 (zt_if (fun x => x < 0) (zb_SB_crash_19 Q) (zb_SB_crash_4 Q))
def zw_SB_crash : zs_W := fun As σ Q => match As with
  | [a0, a1] => zs_c1 [a0, a1] = true ∧ zb_SB_crash_0 Q [some a0, some a1] [] σ 0 0
  | _ => False
section
variable {p : Program} {l : Launch} {e : Env} {s : State} {m : MethodId} {args : Array Value} {below : List Frame} {meth : Method} {c : Code} {G : zs_G} {Q : zs_Q}
theorem zr_SB_crash_19 (B : zs_B p s m args meth c G bb_SB_crash 2 yy_SB_crash (some .boolean)) : zA_SB_crash p l e s m args below meth c G Q 19 (zb_SB_crash_19 Q) := by
  unfold zb_SB_crash_19
  refine za_ico B.1 0 dd_SB_crash_19 (by decide) ?_
  exact za_zrt B.1 0 0 B.2.1 B.2.2.1 dd_SB_crash_20
theorem zr_SB_crash_62 (B : zs_B p s m args meth c G bb_SB_crash 2 yy_SB_crash (some .boolean)) : zA_SB_crash p l e s m args below meth c G Q 62 (zb_SB_crash_62 Q) := by
  unfold zb_SB_crash_62
  refine za_ico B.1 1 dd_SB_crash_62 (by decide) ?_
  exact za_zrt B.1 0 0 B.2.1 B.2.2.1 dd_SB_crash_63
theorem zr_SB_crash_51 (B : zs_B p s m args meth c G bb_SB_crash 2 yy_SB_crash (some .boolean)) : zA_SB_crash p l e s m args below meth c G Q 51 (zb_SB_crash_51 Q) := by
  unfold zb_SB_crash_51
  refine za_ald_n B.1 0 dd_SB_crash_51 rfl ?_
  refine za_gtR B.1 7 6 zi_7 rfl (by decide) (by decide) rfl zW_94 rfl dd_SB_crash_52 ?_
  refine za_ild_n B.1 1 dd_SB_crash_55 rfl ?_
  refine za_ico B.1 3 dd_SB_crash_56 (by decide) ?_
  refine za_sub B.1 dd_SB_crash_57 ?_
  refine za_rld B.1 4 4 rfl dd_SB_crash_58 ?_
  refine za_cV B.1 4 0 0 0 0 0 rfl rfl rfl (by decide) (zm_Sq_loseBatch l G) ⟨callB_of 0 B.1.1.2.2.2.2 (zs_good zW_304) rfl rfl rfl (B.1.1.2.2.2.2 _ zW_5) (B.1.1.2.2.2.2 _ zW_301) (by decide +kernel) ⟨by decide, by decide⟩, (B.1.1.2.2.2.2 _ zW_302), (B.1.1.2.2.2.2 _ zW_303)⟩ dd_SB_crash_59 ?_
  exact (zr_SB_crash_62 B)
theorem zr_SB_crash_46 (B : zs_B p s m args meth c G bb_SB_crash 2 yy_SB_crash (some .boolean)) : zA_SB_crash p l e s m args below meth c G Q 46 (zb_SB_crash_46 Q) := by
  unfold zb_SB_crash_46
  refine za_ild_n B.1 1 dd_SB_crash_46 rfl ?_
  refine za_ico B.1 3 dd_SB_crash_47 (by decide) ?_
  exact za_cmp_lt B.1 62 dd_SB_crash_48 (by decide) (zr_SB_crash_62 B) (zr_SB_crash_51 B)
theorem zr_SB_crash_33 (B : zs_B p s m args meth c G bb_SB_crash 2 yy_SB_crash (some .boolean)) : zA_SB_crash p l e s m args below meth c G Q 33 (zb_SB_crash_33 Q) := by
  unfold zb_SB_crash_33
  refine za_ald_n B.1 0 dd_SB_crash_33 rfl ?_
  refine za_gtR B.1 7 4 zi_7 rfl (by decide) (by decide) rfl zW_92 rfl dd_SB_crash_34 ?_
  refine za_ild_n B.1 1 dd_SB_crash_37 rfl ?_
  refine za_ico B.1 5 dd_SB_crash_38 (by decide) ?_
  refine za_sub B.1 dd_SB_crash_39 ?_
  refine za_cV B.1 2 1 0 0 0 0 rfl rfl rfl (by decide) (zm_Po_forgetValuesOf l G) ⟨callB_of 1 B.1.1.2.2.2.2 (zs_good zW_298) rfl rfl rfl (B.1.1.2.2.2.2 _ zW_2) (B.1.1.2.2.2.2 _ zW_295) (by decide +kernel) ⟨by decide, by decide⟩, (B.1.1.2.2.2.2 _ zW_296), (B.1.1.2.2.2.2 _ zW_297)⟩ dd_SB_crash_40 ?_
  refine za_goto B.1 62 dd_SB_crash_43 (by decide) ?_
  exact (zr_SB_crash_62 B)
theorem zr_SB_crash_21 (B : zs_B p s m args meth c G bb_SB_crash 2 yy_SB_crash (some .boolean)) : zA_SB_crash p l e s m args below meth c G Q 21 (zb_SB_crash_21 Q) := by
  unfold zb_SB_crash_21
  refine za_ald_n B.1 0 dd_SB_crash_21 rfl ?_
  refine za_gtR B.1 7 1 zi_7 rfl (by decide) (by decide) rfl zW_89 rfl dd_SB_crash_22 ?_
  refine za_ild_n B.1 1 dd_SB_crash_25 rfl ?_
  refine za_ico B.1 1 dd_SB_crash_26 (by decide) ?_
  refine za_zast B.1 dd_SB_crash_27 ?_
  refine za_ild_n B.1 1 dd_SB_crash_28 rfl ?_
  refine za_ico B.1 5 dd_SB_crash_29 (by decide) ?_
  exact za_cmp_lt B.1 46 dd_SB_crash_30 (by decide) (zr_SB_crash_46 B) (zr_SB_crash_33 B)
theorem zr_SB_crash_10 (B : zs_B p s m args meth c G bb_SB_crash 2 yy_SB_crash (some .boolean)) : zA_SB_crash p l e s m args below meth c G Q 10 (zb_SB_crash_10 Q) := by
  unfold zb_SB_crash_10
  refine za_ald_n B.1 0 dd_SB_crash_10 rfl ?_
  refine za_gtR B.1 7 1 zi_7 rfl (by decide) (by decide) rfl zW_89 rfl dd_SB_crash_11 ?_
  refine za_ild_n B.1 1 dd_SB_crash_14 rfl ?_
  refine za_zald B.1 dd_SB_crash_15 ?_
  exact za_if_eq B.1 21 dd_SB_crash_16 (by decide) (zr_SB_crash_21 B) (zr_SB_crash_19 B)
theorem zr_SB_crash_4 (B : zs_B p s m args meth c G bb_SB_crash 2 yy_SB_crash (some .boolean)) : zA_SB_crash p l e s m args below meth c G Q 4 (zb_SB_crash_4 Q) := by
  unfold zb_SB_crash_4
  refine za_ild_n B.1 1 dd_SB_crash_4 rfl ?_
  refine za_bip B.1 7 dd_SB_crash_5 (by decide) ?_
  exact za_cmp_ge B.1 19 dd_SB_crash_7 (by decide) (zr_SB_crash_19 B) (zr_SB_crash_10 B)
theorem zr_SB_crash_0 (B : zs_B p s m args meth c G bb_SB_crash 2 yy_SB_crash (some .boolean)) : zA_SB_crash p l e s m args below meth c G Q 0 (zb_SB_crash_0 Q) := by
  unfold zb_SB_crash_0
  refine za_ild_n B.1 1 dd_SB_crash_0 rfl ?_
  exact za_if_lt B.1 19 dd_SB_crash_1 (by decide) (zr_SB_crash_19 B) (zr_SB_crash_4 B)
end
theorem zm_SB_crash (l : Launch) (G : zs_G) (As : List Value) (σ : zs_S) (Q : zs_Q) (h : zw_SB_crash As σ Q) : zs_Met l yy_SB_crash (Cond.code yy_SB_crash bb_SB_crash 2 (some .boolean) :: zw_all) zk_SB_crash G As σ Q 0 0 := by
  unfold zw_SB_crash at h
  split at h
  · exact zs_enter (by decide +kernel) h.1 (Nat.le_of_ble_eq_true rfl) h.2 (fun p e s m args below meth c B => zr_SB_crash_0 B)
  · exact h.elim
-- SequencedBatches.logNodesUp()I
theorem dd_SB_logNodesUp_0 : decode bb_SB_logNodesUp 0 = .ok (.iconst 0, 1) := by decide +kernel
theorem dd_SB_logNodesUp_1 : decode bb_SB_logNodesUp 1 = .ok (.istore_n 1, 1) := by decide +kernel
theorem dd_SB_logNodesUp_2 : decode bb_SB_logNodesUp 2 = .ok (.iconst 0, 1) := by decide +kernel
theorem dd_SB_logNodesUp_3 : decode bb_SB_logNodesUp 3 = .ok (.istore_n 2, 1) := by decide +kernel
theorem dd_SB_logNodesUp_4 : decode bb_SB_logNodesUp 4 = .ok (.iload_n 2, 1) := by decide +kernel
theorem dd_SB_logNodesUp_5 : decode bb_SB_logNodesUp 5 = .ok (.iconst 3, 1) := by decide +kernel
theorem dd_SB_logNodesUp_6 : decode bb_SB_logNodesUp 6 = .ok (.if_icmp .ge 26, 3) := by decide +kernel
theorem dd_SB_logNodesUp_9 : decode bb_SB_logNodesUp 9 = .ok (.iload_n 1, 1) := by decide +kernel
theorem dd_SB_logNodesUp_10 : decode bb_SB_logNodesUp 10 = .ok (.aload_n 0, 1) := by decide +kernel
theorem dd_SB_logNodesUp_11 : decode bb_SB_logNodesUp 11 = .ok (.getfield 9, 3) := by decide +kernel
theorem dd_SB_logNodesUp_14 : decode bb_SB_logNodesUp 14 = .ok (.iload_n 2, 1) := by decide +kernel
theorem dd_SB_logNodesUp_15 : decode bb_SB_logNodesUp 15 = .ok (.baload, 1) := by decide +kernel
theorem dd_SB_logNodesUp_16 : decode bb_SB_logNodesUp 16 = .ok (.ifCond .eq 7, 3) := by decide +kernel
theorem dd_SB_logNodesUp_19 : decode bb_SB_logNodesUp 19 = .ok (.iconst 0, 1) := by decide +kernel
theorem dd_SB_logNodesUp_20 : decode bb_SB_logNodesUp 20 = .ok (.goto 4, 3) := by decide +kernel
theorem dd_SB_logNodesUp_23 : decode bb_SB_logNodesUp 23 = .ok (.iconst 1, 1) := by decide +kernel
theorem dd_SB_logNodesUp_24 : decode bb_SB_logNodesUp 24 = .ok (.iadd, 1) := by decide +kernel
theorem dd_SB_logNodesUp_25 : decode bb_SB_logNodesUp 25 = .ok (.istore_n 1, 1) := by decide +kernel
theorem dd_SB_logNodesUp_26 : decode bb_SB_logNodesUp 26 = .ok (.iinc 2 1, 3) := by decide +kernel
theorem dd_SB_logNodesUp_29 : decode bb_SB_logNodesUp 29 = .ok (.goto (-25), 3) := by decide +kernel
theorem dd_SB_logNodesUp_32 : decode bb_SB_logNodesUp 32 = .ok (.iload_n 1, 1) := by decide +kernel
theorem dd_SB_logNodesUp_33 : decode bb_SB_logNodesUp 33 = .ok (.ireturn, 1) := by decide +kernel
def zk_SB_logNodesUp : Room := { frames := 0, cells := 0, slots := 0, locals := 0 }
abbrev zA_SB_logNodesUp (p : Program) (l : Launch) (e : Env) (s : State) (m : MethodId) (args : Array Value) (below : List Frame) (meth : Method) (c : Code) (G : zs_G) (Q : zs_Q) (pc : Nat) (P : zs_P) : Prop := zs_At p l e zk_SB_logNodesUp s m args below meth c (MQ below (zs_Qc G Q) args s 0 0 (fun q => zg_z G ≤ q)) G 3 pc P
def zb_SB_logNodesUp_32 (Q : zs_Q) : zs_P := zt_ild 1 (zt_irt 0 0 Q)
def zb_SB_logNodesUp_24 (Q : zs_Q) (K4 : zs_P) : zs_P := zt_bin (fun x y => x + y) (zt_ist 1 (zt_inc 2 1 (K4)))
def zb_SB_logNodesUp_23 (Q : zs_Q) (K4 : zs_P) : zs_P := zt_psh 1 ((zb_SB_logNodesUp_24 Q K4))
def zb_SB_logNodesUp_19 (Q : zs_Q) (K4 : zs_P) : zs_P := zt_psh 0 ((zb_SB_logNodesUp_24 Q K4))
def zb_SB_logNodesUp_9 (Q : zs_Q) (K4 : zs_P) : zs_P := zt_ild 1 (zt_ald 0 (zt_gtR 7 1 (zt_ild 2 (zt_xld 101 (zt_if (fun x => x = 0) (zb_SB_logNodesUp_23 Q K4) (zb_SB_logNodesUp_19 Q K4))))))
def zb_SB_logNodesUp_4 (Q : zs_Q) (K4 : zs_P) : zs_P := zt_ild 2 (zt_psh 3 (zt_cmp (fun x y => y ≤ x) (zb_SB_logNodesUp_32 Q) (zb_SB_logNodesUp_9 Q K4)))
def zl_SB_logNodesUp_4 (Q : zs_Q) : zs_P := zt_ex (zb_SB_logNodesUp_4 Q)
def zb_SB_logNodesUp_0 (Q : zs_Q) : zs_P := zt_psh 0 (zt_ist 1 (zt_psh 0 (zt_ist 2 ((zl_SB_logNodesUp_4 Q)))))
def zw_SB_logNodesUp : zs_W := fun As σ Q => match As with
  | [a0] => zs_c1 [a0] = true ∧ zb_SB_logNodesUp_0 Q [some a0, none, none] [] σ 0 0
  | _ => False
section
variable {p : Program} {l : Launch} {e : Env} {s : State} {m : MethodId} {args : Array Value} {below : List Frame} {meth : Method} {c : Code} {G : zs_G} {Q : zs_Q}
theorem zr_SB_logNodesUp_32 (B : zs_B p s m args meth c G bb_SB_logNodesUp 3 yy_SB_logNodesUp (some .int)) : zA_SB_logNodesUp p l e s m args below meth c G Q 32 (zb_SB_logNodesUp_32 Q) := by
  unfold zb_SB_logNodesUp_32
  refine za_ild_n B.1 1 dd_SB_logNodesUp_32 rfl ?_
  exact za_irt B.1 0 0 B.2.1 B.2.2.1 dd_SB_logNodesUp_33
theorem zr_SB_logNodesUp_24 (B : zs_B p s m args meth c G bb_SB_logNodesUp 3 yy_SB_logNodesUp (some .int)) {K4 : zs_P} (h4 : zA_SB_logNodesUp p l e s m args below meth c G Q 4 K4) : zA_SB_logNodesUp p l e s m args below meth c G Q 24 (zb_SB_logNodesUp_24 Q K4) := by
  unfold zb_SB_logNodesUp_24
  refine za_add B.1 dd_SB_logNodesUp_24 ?_
  refine za_ist_n B.1 1 dd_SB_logNodesUp_25 rfl (by decide) ?_
  refine za_inc B.1 1 dd_SB_logNodesUp_26 (by decide) (by decide) ?_
  refine za_goto B.1 4 dd_SB_logNodesUp_29 (by decide) ?_
  exact h4
theorem zr_SB_logNodesUp_23 (B : zs_B p s m args meth c G bb_SB_logNodesUp 3 yy_SB_logNodesUp (some .int)) {K4 : zs_P} (h4 : zA_SB_logNodesUp p l e s m args below meth c G Q 4 K4) : zA_SB_logNodesUp p l e s m args below meth c G Q 23 (zb_SB_logNodesUp_23 Q K4) := by
  unfold zb_SB_logNodesUp_23
  refine za_ico B.1 1 dd_SB_logNodesUp_23 (by decide) ?_
  exact (zr_SB_logNodesUp_24 B h4)
theorem zr_SB_logNodesUp_19 (B : zs_B p s m args meth c G bb_SB_logNodesUp 3 yy_SB_logNodesUp (some .int)) {K4 : zs_P} (h4 : zA_SB_logNodesUp p l e s m args below meth c G Q 4 K4) : zA_SB_logNodesUp p l e s m args below meth c G Q 19 (zb_SB_logNodesUp_19 Q K4) := by
  unfold zb_SB_logNodesUp_19
  refine za_ico B.1 0 dd_SB_logNodesUp_19 (by decide) ?_
  refine za_goto B.1 24 dd_SB_logNodesUp_20 (by decide) ?_
  exact (zr_SB_logNodesUp_24 B h4)
theorem zr_SB_logNodesUp_9 (B : zs_B p s m args meth c G bb_SB_logNodesUp 3 yy_SB_logNodesUp (some .int)) {K4 : zs_P} (h4 : zA_SB_logNodesUp p l e s m args below meth c G Q 4 K4) : zA_SB_logNodesUp p l e s m args below meth c G Q 9 (zb_SB_logNodesUp_9 Q K4) := by
  unfold zb_SB_logNodesUp_9
  refine za_ild_n B.1 1 dd_SB_logNodesUp_9 rfl ?_
  refine za_ald_n B.1 0 dd_SB_logNodesUp_10 rfl ?_
  refine za_gtR B.1 7 1 zi_7 rfl (by decide) (by decide) rfl zW_89 rfl dd_SB_logNodesUp_11 ?_
  refine za_ild_n B.1 2 dd_SB_logNodesUp_14 rfl ?_
  refine za_zald B.1 dd_SB_logNodesUp_15 ?_
  exact za_if_eq B.1 23 dd_SB_logNodesUp_16 (by decide) (zr_SB_logNodesUp_23 B h4) (zr_SB_logNodesUp_19 B h4)
theorem zr_SB_logNodesUp_4 (B : zs_B p s m args meth c G bb_SB_logNodesUp 3 yy_SB_logNodesUp (some .int)) {K4 : zs_P} (h4 : zA_SB_logNodesUp p l e s m args below meth c G Q 4 K4) : zA_SB_logNodesUp p l e s m args below meth c G Q 4 (zb_SB_logNodesUp_4 Q K4) := by
  unfold zb_SB_logNodesUp_4
  refine za_ild_n B.1 2 dd_SB_logNodesUp_4 rfl ?_
  refine za_ico B.1 3 dd_SB_logNodesUp_5 (by decide) ?_
  exact za_cmp_ge B.1 32 dd_SB_logNodesUp_6 (by decide) (zr_SB_logNodesUp_32 B) (zr_SB_logNodesUp_9 B h4)
theorem zq_SB_logNodesUp_4 (B : zs_B p s m args meth c G bb_SB_logNodesUp 3 yy_SB_logNodesUp (some .int)) : zA_SB_logNodesUp p l e s m args below meth c G Q 4 (zl_SB_logNodesUp_4 Q) := za_lop (fun K hK => zr_SB_logNodesUp_4 B hK)
theorem zr_SB_logNodesUp_0 (B : zs_B p s m args meth c G bb_SB_logNodesUp 3 yy_SB_logNodesUp (some .int)) : zA_SB_logNodesUp p l e s m args below meth c G Q 0 (zb_SB_logNodesUp_0 Q) := by
  unfold zb_SB_logNodesUp_0
  refine za_ico B.1 0 dd_SB_logNodesUp_0 (by decide) ?_
  refine za_ist_n B.1 1 dd_SB_logNodesUp_1 rfl (by decide) ?_
  refine za_ico B.1 0 dd_SB_logNodesUp_2 (by decide) ?_
  refine za_ist_n B.1 2 dd_SB_logNodesUp_3 rfl (by decide) ?_
  exact (zq_SB_logNodesUp_4 B)
end
theorem zm_SB_logNodesUp (l : Launch) (G : zs_G) (As : List Value) (σ : zs_S) (Q : zs_Q) (h : zw_SB_logNodesUp As σ Q) : zs_Met l yy_SB_logNodesUp (Cond.code yy_SB_logNodesUp bb_SB_logNodesUp 3 (some .int) :: zw_all) zk_SB_logNodesUp G As σ Q 0 0 := by
  unfold zw_SB_logNodesUp at h
  split at h
  · exact zs_enter (by decide +kernel) h.1 (Nat.le_of_ble_eq_true rfl) h.2 (fun p e s m args below meth c B => zr_SB_logNodesUp_0 B)
  · exact h.elim
-- SequencedBatches.isEmptyOnLogNodes(II)Z
theorem dd_SB_isEmptyOnLogNodes_0 : decode bb_SB_isEmptyOnLogNodes 0 = .ok (.iconst 0, 1) := by decide +kernel
theorem dd_SB_isEmptyOnLogNodes_1 : decode bb_SB_isEmptyOnLogNodes 1 = .ok (.istore_n 3, 1) := by decide +kernel
theorem dd_SB_isEmptyOnLogNodes_2 : decode bb_SB_isEmptyOnLogNodes 2 = .ok (.iconst 0, 1) := by decide +kernel
theorem dd_SB_isEmptyOnLogNodes_3 : decode bb_SB_isEmptyOnLogNodes 3 = .ok (.istore 4, 2) := by decide +kernel
theorem dd_SB_isEmptyOnLogNodes_5 : decode bb_SB_isEmptyOnLogNodes 5 = .ok (.iload 4, 2) := by decide +kernel
theorem dd_SB_isEmptyOnLogNodes_7 : decode bb_SB_isEmptyOnLogNodes 7 = .ok (.iconst 3, 1) := by decide +kernel
theorem dd_SB_isEmptyOnLogNodes_8 : decode bb_SB_isEmptyOnLogNodes 8 = .ok (.if_icmp .ge 40, 3) := by decide +kernel
theorem dd_SB_isEmptyOnLogNodes_11 : decode bb_SB_isEmptyOnLogNodes 11 = .ok (.aload_n 0, 1) := by decide +kernel
theorem dd_SB_isEmptyOnLogNodes_12 : decode bb_SB_isEmptyOnLogNodes 12 = .ok (.getfield 9, 3) := by decide +kernel
theorem dd_SB_isEmptyOnLogNodes_15 : decode bb_SB_isEmptyOnLogNodes 15 = .ok (.iload 4, 2) := by decide +kernel
theorem dd_SB_isEmptyOnLogNodes_17 : decode bb_SB_isEmptyOnLogNodes 17 = .ok (.baload, 1) := by decide +kernel
theorem dd_SB_isEmptyOnLogNodes_18 : decode bb_SB_isEmptyOnLogNodes 18 = .ok (.ifCond .ne 24, 3) := by decide +kernel
theorem dd_SB_isEmptyOnLogNodes_21 : decode bb_SB_isEmptyOnLogNodes 21 = .ok (.iload_n 3, 1) := by decide +kernel
theorem dd_SB_isEmptyOnLogNodes_22 : decode bb_SB_isEmptyOnLogNodes 22 = .ok (.aload_n 0, 1) := by decide +kernel
theorem dd_SB_isEmptyOnLogNodes_23 : decode bb_SB_isEmptyOnLogNodes 23 = .ok (.getfield 32, 3) := by decide +kernel
theorem dd_SB_isEmptyOnLogNodes_26 : decode bb_SB_isEmptyOnLogNodes 26 = .ok (.iload 4, 2) := by decide +kernel
theorem dd_SB_isEmptyOnLogNodes_28 : decode bb_SB_isEmptyOnLogNodes 28 = .ok (.aaload, 1) := by decide +kernel
theorem dd_SB_isEmptyOnLogNodes_29 : decode bb_SB_isEmptyOnLogNodes 29 = .ok (.getfield 213, 3) := by decide +kernel
theorem dd_SB_isEmptyOnLogNodes_32 : decode bb_SB_isEmptyOnLogNodes 32 = .ok (.iload_n 1, 1) := by decide +kernel
theorem dd_SB_isEmptyOnLogNodes_33 : decode bb_SB_isEmptyOnLogNodes 33 = .ok (.iload_n 2, 1) := by decide +kernel
theorem dd_SB_isEmptyOnLogNodes_34 : decode bb_SB_isEmptyOnLogNodes 34 = .ok (.invokestatic 216, 3) := by decide +kernel
theorem dd_SB_isEmptyOnLogNodes_37 : decode bb_SB_isEmptyOnLogNodes 37 = .ok (.iaload, 1) := by decide +kernel
theorem dd_SB_isEmptyOnLogNodes_38 : decode bb_SB_isEmptyOnLogNodes 38 = .ok (.invokestatic 54, 3) := by decide +kernel
theorem dd_SB_isEmptyOnLogNodes_41 : decode bb_SB_isEmptyOnLogNodes 41 = .ok (.istore_n 3, 1) := by decide +kernel
theorem dd_SB_isEmptyOnLogNodes_42 : decode bb_SB_isEmptyOnLogNodes 42 = .ok (.iinc 4 1, 3) := by decide +kernel
theorem dd_SB_isEmptyOnLogNodes_45 : decode bb_SB_isEmptyOnLogNodes 45 = .ok (.goto (-40), 3) := by decide +kernel
theorem dd_SB_isEmptyOnLogNodes_48 : decode bb_SB_isEmptyOnLogNodes 48 = .ok (.iload_n 3, 1) := by decide +kernel
theorem dd_SB_isEmptyOnLogNodes_49 : decode bb_SB_isEmptyOnLogNodes 49 = .ok (.ifCond .eq 10, 3) := by decide +kernel
theorem dd_SB_isEmptyOnLogNodes_52 : decode bb_SB_isEmptyOnLogNodes 52 = .ok (.iload_n 3, 1) := by decide +kernel
theorem dd_SB_isEmptyOnLogNodes_53 : decode bb_SB_isEmptyOnLogNodes 53 = .ok (.iconst 2, 1) := by decide +kernel
theorem dd_SB_isEmptyOnLogNodes_54 : decode bb_SB_isEmptyOnLogNodes 54 = .ok (.irem, 1) := by decide +kernel
theorem dd_SB_isEmptyOnLogNodes_55 : decode bb_SB_isEmptyOnLogNodes 55 = .ok (.iconst 1, 1) := by decide +kernel
theorem dd_SB_isEmptyOnLogNodes_56 : decode bb_SB_isEmptyOnLogNodes 56 = .ok (.if_icmp .ne 7, 3) := by decide +kernel
theorem dd_SB_isEmptyOnLogNodes_59 : decode bb_SB_isEmptyOnLogNodes 59 = .ok (.iconst 1, 1) := by decide +kernel
theorem dd_SB_isEmptyOnLogNodes_60 : decode bb_SB_isEmptyOnLogNodes 60 = .ok (.goto 4, 3) := by decide +kernel
theorem dd_SB_isEmptyOnLogNodes_63 : decode bb_SB_isEmptyOnLogNodes 63 = .ok (.iconst 0, 1) := by decide +kernel
theorem dd_SB_isEmptyOnLogNodes_64 : decode bb_SB_isEmptyOnLogNodes 64 = .ok (.ireturn, 1) := by decide +kernel
def zk_SB_isEmptyOnLogNodes : Room := { frames := 1, cells := 0, slots := 0, locals := 40 }
abbrev zA_SB_isEmptyOnLogNodes (p : Program) (l : Launch) (e : Env) (s : State) (m : MethodId) (args : Array Value) (below : List Frame) (meth : Method) (c : Code) (G : zs_G) (Q : zs_Q) (pc : Nat) (P : zs_P) : Prop := zs_At p l e zk_SB_isEmptyOnLogNodes s m args below meth c (MQ below (zs_Qc G Q) args s 0 0 (fun q => zg_z G ≤ q)) G 5 pc P
def zb_SB_isEmptyOnLogNodes_64 (Q : zs_Q) : zs_P := zt_zrt 0 0 Q
def zb_SB_isEmptyOnLogNodes_59 (Q : zs_Q) : zs_P := zt_psh 1 ((zb_SB_isEmptyOnLogNodes_64 Q))
def zb_SB_isEmptyOnLogNodes_63 (Q : zs_Q) : zs_P := zt_psh 0 ((zb_SB_isEmptyOnLogNodes_64 Q))
def zb_SB_isEmptyOnLogNodes_52 (Q : zs_Q) : zs_P := zt_ild 3 (zt_psh 2 (zt_div (fun x y => x - x / y * y) (zt_psh 1 (zt_cmp (fun x y => x = y) (zb_SB_isEmptyOnLogNodes_59 Q) (zb_SB_isEmptyOnLogNodes_63 Q)))))
def zb_SB_isEmptyOnLogNodes_48 (Q : zs_Q) : zs_P := zt_ild 3 (zt_if (fun x => x = 0) (zb_SB_isEmptyOnLogNodes_59 Q) (zb_SB_isEmptyOnLogNodes_52 Q))
def zb_SB_isEmptyOnLogNodes_42 (Q : zs_Q) (K5 : zs_P) : zs_P := zt_inc 4 1 (K5)
def zb_SB_isEmptyOnLogNodes_21 (Q : zs_Q) (K5 : zs_P) : zs_P := zt_ild 3 (zt_ald 0 (zt_gtR 7 5 (zt_ild 4 (zt_rld (110 + 0) (zt_gtR 0 1 (zt_ild 1 (zt_ild 2 (zt_cal zw_SB_placeInLog 2 0 0 0 0 (zt_xld 100 (zt_jmm (fun x y => if x < y then y else x) 0 0 (zt_ist 3 ((zb_SB_isEmptyOnLogNodes_42 Q K5)))))))))))))
def zb_SB_isEmptyOnLogNodes_11 (Q : zs_Q) (K5 : zs_P) : zs_P := zt_ald 0 (zt_gtR 7 1 (zt_ild 4 (zt_xld 101 (zt_if (fun x => x = 0) (zb_SB_isEmptyOnLogNodes_21 Q K5) (zb_SB_isEmptyOnLogNodes_42 Q K5)))))
def zb_SB_isEmptyOnLogNodes_5 (Q : zs_Q) (K5 : zs_P) : zs_P := zt_ild 4 (zt_psh 3 (zt_cmp (fun x y => y ≤ x) (zb_SB_isEmptyOnLogNodes_48 Q) (zb_SB_isEmptyOnLogNodes_11 Q K5)))
def zl_SB_isEmptyOnLogNodes_5 (Q : zs_Q) : zs_P := zt_ex (zb_SB_isEmptyOnLogNodes_5 Q)
def zb_SB_isEmptyOnLogNodes_0 (Q : zs_Q) : zs_P := zt_psh 0 (zt_ist 3 (zt_psh 0 (zt_ist 4 ((zl_SB_isEmptyOnLogNodes_5 Q)))))
def zw_SB_isEmptyOnLogNodes : zs_W := fun As σ Q => match As with
  | [a0, a1, a2] => zs_c1 [a0, a1, a2] = true ∧ zb_SB_isEmptyOnLogNodes_0 Q [some a0, some a1, some a2, none, none] [] σ 0 0
  | _ => False
section
variable {p : Program} {l : Launch} {e : Env} {s : State} {m : MethodId} {args : Array Value} {below : List Frame} {meth : Method} {c : Code} {G : zs_G} {Q : zs_Q}
theorem zr_SB_isEmptyOnLogNodes_64 (B : zs_B p s m args meth c G bb_SB_isEmptyOnLogNodes 5 yy_SB_isEmptyOnLogNodes (some .boolean)) : zA_SB_isEmptyOnLogNodes p l e s m args below meth c G Q 64 (zb_SB_isEmptyOnLogNodes_64 Q) := by
  unfold zb_SB_isEmptyOnLogNodes_64
  exact za_zrt B.1 0 0 B.2.1 B.2.2.1 dd_SB_isEmptyOnLogNodes_64
theorem zr_SB_isEmptyOnLogNodes_59 (B : zs_B p s m args meth c G bb_SB_isEmptyOnLogNodes 5 yy_SB_isEmptyOnLogNodes (some .boolean)) : zA_SB_isEmptyOnLogNodes p l e s m args below meth c G Q 59 (zb_SB_isEmptyOnLogNodes_59 Q) := by
  unfold zb_SB_isEmptyOnLogNodes_59
  refine za_ico B.1 1 dd_SB_isEmptyOnLogNodes_59 (by decide) ?_
  refine za_goto B.1 64 dd_SB_isEmptyOnLogNodes_60 (by decide) ?_
  exact (zr_SB_isEmptyOnLogNodes_64 B)
theorem zr_SB_isEmptyOnLogNodes_63 (B : zs_B p s m args meth c G bb_SB_isEmptyOnLogNodes 5 yy_SB_isEmptyOnLogNodes (some .boolean)) : zA_SB_isEmptyOnLogNodes p l e s m args below meth c G Q 63 (zb_SB_isEmptyOnLogNodes_63 Q) := by
  unfold zb_SB_isEmptyOnLogNodes_63
  refine za_ico B.1 0 dd_SB_isEmptyOnLogNodes_63 (by decide) ?_
  exact (zr_SB_isEmptyOnLogNodes_64 B)
theorem zr_SB_isEmptyOnLogNodes_52 (B : zs_B p s m args meth c G bb_SB_isEmptyOnLogNodes 5 yy_SB_isEmptyOnLogNodes (some .boolean)) : zA_SB_isEmptyOnLogNodes p l e s m args below meth c G Q 52 (zb_SB_isEmptyOnLogNodes_52 Q) := by
  unfold zb_SB_isEmptyOnLogNodes_52
  refine za_ild_n B.1 3 dd_SB_isEmptyOnLogNodes_52 rfl ?_
  refine za_ico B.1 2 dd_SB_isEmptyOnLogNodes_53 (by decide) ?_
  refine za_rem B.1 dd_SB_isEmptyOnLogNodes_54 ?_
  refine za_ico B.1 1 dd_SB_isEmptyOnLogNodes_55 (by decide) ?_
  exact za_cmp_ne B.1 63 dd_SB_isEmptyOnLogNodes_56 (by decide) (zr_SB_isEmptyOnLogNodes_59 B) (zr_SB_isEmptyOnLogNodes_63 B)
theorem zr_SB_isEmptyOnLogNodes_48 (B : zs_B p s m args meth c G bb_SB_isEmptyOnLogNodes 5 yy_SB_isEmptyOnLogNodes (some .boolean)) : zA_SB_isEmptyOnLogNodes p l e s m args below meth c G Q 48 (zb_SB_isEmptyOnLogNodes_48 Q) := by
  unfold zb_SB_isEmptyOnLogNodes_48
  refine za_ild_n B.1 3 dd_SB_isEmptyOnLogNodes_48 rfl ?_
  exact za_if_eq B.1 59 dd_SB_isEmptyOnLogNodes_49 (by decide) (zr_SB_isEmptyOnLogNodes_59 B) (zr_SB_isEmptyOnLogNodes_52 B)
theorem zr_SB_isEmptyOnLogNodes_42 (B : zs_B p s m args meth c G bb_SB_isEmptyOnLogNodes 5 yy_SB_isEmptyOnLogNodes (some .boolean)) {K5 : zs_P} (h5 : zA_SB_isEmptyOnLogNodes p l e s m args below meth c G Q 5 K5) : zA_SB_isEmptyOnLogNodes p l e s m args below meth c G Q 42 (zb_SB_isEmptyOnLogNodes_42 Q K5) := by
  unfold zb_SB_isEmptyOnLogNodes_42
  refine za_inc B.1 1 dd_SB_isEmptyOnLogNodes_42 (by decide) (by decide) ?_
  refine za_goto B.1 5 dd_SB_isEmptyOnLogNodes_45 (by decide) ?_
  exact h5
theorem zr_SB_isEmptyOnLogNodes_21 (B : zs_B p s m args meth c G bb_SB_isEmptyOnLogNodes 5 yy_SB_isEmptyOnLogNodes (some .boolean)) {K5 : zs_P} (h5 : zA_SB_isEmptyOnLogNodes p l e s m args below meth c G Q 5 K5) : zA_SB_isEmptyOnLogNodes p l e s m args below meth c G Q 21 (zb_SB_isEmptyOnLogNodes_21 Q K5) := by
  unfold zb_SB_isEmptyOnLogNodes_21
  refine za_ild_n B.1 3 dd_SB_isEmptyOnLogNodes_21 rfl ?_
  refine za_ald_n B.1 0 dd_SB_isEmptyOnLogNodes_22 rfl ?_
  refine za_gtR B.1 7 5 zi_7 rfl (by decide) (by decide) rfl zW_93 rfl dd_SB_isEmptyOnLogNodes_23 ?_
  refine za_ild B.1 dd_SB_isEmptyOnLogNodes_26 ?_
  refine za_rld B.1 0 3 rfl dd_SB_isEmptyOnLogNodes_28 ?_
  refine za_gtRN (host := "SequencedBatches") B.1 0 1 zi_0 rfl (by decide) (by decide) rfl (by decide +kernel) rfl dd_SB_isEmptyOnLogNodes_29 ?_
  refine za_ild_n B.1 1 dd_SB_isEmptyOnLogNodes_32 rfl ?_
  refine za_ild_n B.1 2 dd_SB_isEmptyOnLogNodes_33 rfl ?_
  refine za_cS B.1 2 0 0 0 0 rfl rfl (zm_SB_placeInLog l G) ⟨callB_of 2 B.1.1.2.2.2.2 (zs_good zW_229) rfl rfl rfl (B.1.1.2.2.2.2 _ zW_1) (B.1.1.2.2.2.2 _ zW_227) (by decide +kernel) ⟨by decide, by decide⟩, (B.1.1.2.2.2.2 _ zW_228)⟩ dd_SB_isEmptyOnLogNodes_34 ?_
  refine za_iald B.1 dd_SB_isEmptyOnLogNodes_37 ?_
  refine za_max B.1 0 0 rfl rfl (by decide) zW_38 zW_39 zW_3 zW_40 dd_SB_isEmptyOnLogNodes_38 ?_
  refine za_ist_n B.1 3 dd_SB_isEmptyOnLogNodes_41 rfl (by decide) ?_
  exact (zr_SB_isEmptyOnLogNodes_42 B h5)
theorem zr_SB_isEmptyOnLogNodes_11 (B : zs_B p s m args meth c G bb_SB_isEmptyOnLogNodes 5 yy_SB_isEmptyOnLogNodes (some .boolean)) {K5 : zs_P} (h5 : zA_SB_isEmptyOnLogNodes p l e s m args below meth c G Q 5 K5) : zA_SB_isEmptyOnLogNodes p l e s m args below meth c G Q 11 (zb_SB_isEmptyOnLogNodes_11 Q K5) := by
  unfold zb_SB_isEmptyOnLogNodes_11
  refine za_ald_n B.1 0 dd_SB_isEmptyOnLogNodes_11 rfl ?_
  refine za_gtR B.1 7 1 zi_7 rfl (by decide) (by decide) rfl zW_89 rfl dd_SB_isEmptyOnLogNodes_12 ?_
  refine za_ild B.1 dd_SB_isEmptyOnLogNodes_15 ?_
  refine za_zald B.1 dd_SB_isEmptyOnLogNodes_17 ?_
  exact za_if_ne B.1 42 dd_SB_isEmptyOnLogNodes_18 (by decide) (zr_SB_isEmptyOnLogNodes_21 B h5) (zr_SB_isEmptyOnLogNodes_42 B h5)
theorem zr_SB_isEmptyOnLogNodes_5 (B : zs_B p s m args meth c G bb_SB_isEmptyOnLogNodes 5 yy_SB_isEmptyOnLogNodes (some .boolean)) {K5 : zs_P} (h5 : zA_SB_isEmptyOnLogNodes p l e s m args below meth c G Q 5 K5) : zA_SB_isEmptyOnLogNodes p l e s m args below meth c G Q 5 (zb_SB_isEmptyOnLogNodes_5 Q K5) := by
  unfold zb_SB_isEmptyOnLogNodes_5
  refine za_ild B.1 dd_SB_isEmptyOnLogNodes_5 ?_
  refine za_ico B.1 3 dd_SB_isEmptyOnLogNodes_7 (by decide) ?_
  exact za_cmp_ge B.1 48 dd_SB_isEmptyOnLogNodes_8 (by decide) (zr_SB_isEmptyOnLogNodes_48 B) (zr_SB_isEmptyOnLogNodes_11 B h5)
theorem zq_SB_isEmptyOnLogNodes_5 (B : zs_B p s m args meth c G bb_SB_isEmptyOnLogNodes 5 yy_SB_isEmptyOnLogNodes (some .boolean)) : zA_SB_isEmptyOnLogNodes p l e s m args below meth c G Q 5 (zl_SB_isEmptyOnLogNodes_5 Q) := za_lop (fun K hK => zr_SB_isEmptyOnLogNodes_5 B hK)
theorem zr_SB_isEmptyOnLogNodes_0 (B : zs_B p s m args meth c G bb_SB_isEmptyOnLogNodes 5 yy_SB_isEmptyOnLogNodes (some .boolean)) : zA_SB_isEmptyOnLogNodes p l e s m args below meth c G Q 0 (zb_SB_isEmptyOnLogNodes_0 Q) := by
  unfold zb_SB_isEmptyOnLogNodes_0
  refine za_ico B.1 0 dd_SB_isEmptyOnLogNodes_0 (by decide) ?_
  refine za_ist_n B.1 3 dd_SB_isEmptyOnLogNodes_1 rfl (by decide) ?_
  refine za_ico B.1 0 dd_SB_isEmptyOnLogNodes_2 (by decide) ?_
  refine za_ist B.1 dd_SB_isEmptyOnLogNodes_3 (by decide) ?_
  exact (zq_SB_isEmptyOnLogNodes_5 B)
end
theorem zm_SB_isEmptyOnLogNodes (l : Launch) (G : zs_G) (As : List Value) (σ : zs_S) (Q : zs_Q) (h : zw_SB_isEmptyOnLogNodes As σ Q) : zs_Met l yy_SB_isEmptyOnLogNodes (Cond.code yy_SB_isEmptyOnLogNodes bb_SB_isEmptyOnLogNodes 5 (some .boolean) :: zw_all) zk_SB_isEmptyOnLogNodes G As σ Q 0 0 := by
  unfold zw_SB_isEmptyOnLogNodes at h
  split at h
  · exact zs_enter (by decide +kernel) h.1 (Nat.le_of_ble_eq_true rfl) h.2 (fun p e s m args below meth c B => zr_SB_isEmptyOnLogNodes_0 B)
  · exact h.elim
-- SequencedBatches$Slot.proposeAnew(Z)V
theorem dd_Sl_proposeAnew_0 : decode bb_Sl_proposeAnew 0 = .ok (.aload_n 0, 1) := by decide +kernel
theorem dd_Sl_proposeAnew_1 : decode bb_Sl_proposeAnew 1 = .ok (.iload_n 1, 1) := by decide +kernel
theorem dd_Sl_proposeAnew_2 : decode bb_Sl_proposeAnew 2 = .ok (.putfield 9, 3) := by decide +kernel
theorem dd_Sl_proposeAnew_5 : decode bb_Sl_proposeAnew 5 = .ok (.iconst 0, 1) := by decide +kernel
theorem dd_Sl_proposeAnew_6 : decode bb_Sl_proposeAnew 6 = .ok (.istore_n 2, 1) := by decide +kernel
theorem dd_Sl_proposeAnew_7 : decode bb_Sl_proposeAnew 7 = .ok (.iload_n 2, 1) := by decide +kernel
theorem dd_Sl_proposeAnew_8 : decode bb_Sl_proposeAnew 8 = .ok (.iconst 3, 1) := by decide +kernel
theorem dd_Sl_proposeAnew_9 : decode bb_Sl_proposeAnew 9 = .ok (.if_icmp .ge 16, 3) := by decide +kernel
theorem dd_Sl_proposeAnew_12 : decode bb_Sl_proposeAnew 12 = .ok (.aload_n 0, 1) := by decide +kernel
theorem dd_Sl_proposeAnew_13 : decode bb_Sl_proposeAnew 13 = .ok (.getfield 18, 3) := by decide +kernel
theorem dd_Sl_proposeAnew_16 : decode bb_Sl_proposeAnew 16 = .ok (.iload_n 2, 1) := by decide +kernel
theorem dd_Sl_proposeAnew_17 : decode bb_Sl_proposeAnew 17 = .ok (.iconst 0, 1) := by decide +kernel
theorem dd_Sl_proposeAnew_18 : decode bb_Sl_proposeAnew 18 = .ok (.bastore, 1) := by decide +kernel
theorem dd_Sl_proposeAnew_19 : decode bb_Sl_proposeAnew 19 = .ok (.iinc 2 1, 3) := by decide +kernel
theorem dd_Sl_proposeAnew_22 : decode bb_Sl_proposeAnew 22 = .ok (.goto (-15), 3) := by decide +kernel
theorem dd_Sl_proposeAnew_25 : decode bb_Sl_proposeAnew 25 = .ok (.return_, 1) := by decide +kernel
def zk_Sl_proposeAnew : Room := { frames := 0, cells := 0, slots := 0, locals := 0 }
abbrev zA_Sl_proposeAnew (p : Program) (l : Launch) (e : Env) (s : State) (m : MethodId) (args : Array Value) (below : List Frame) (meth : Method) (c : Code) (G : zs_G) (Q : zs_Q) (pc : Nat) (P : zs_P) : Prop := zs_At p l e zk_Sl_proposeAnew s m args below meth c (MQ below (zs_Qc G Q) args s 0 0 (fun q => zg_z G ≤ q)) G 3 pc P
def zb_Sl_proposeAnew_25 (Q : zs_Q) : zs_P := zt_vrt 0 0 Q
def zb_Sl_proposeAnew_12 (Q : zs_Q) (K7 : zs_P) : zs_P := zt_ald 0 (zt_gtR 5 3 (zt_ild 2 (zt_psh 0 (zt_zas (zt_inc 2 1 (K7))))))
def zb_Sl_proposeAnew_7 (Q : zs_Q) (K7 : zs_P) : zs_P := zt_ild 2 (zt_psh 3 (zt_cmp (fun x y => y ≤ x) (zb_Sl_proposeAnew_25 Q) (zb_Sl_proposeAnew_12 Q K7)))
def zl_Sl_proposeAnew_7 (Q : zs_Q) : zs_P := zt_ex (zb_Sl_proposeAnew_7 Q)
def zb_Sl_proposeAnew_0 (Q : zs_Q) : zs_P := zt_ald 0 (zt_ild 1 (zt_ptZ 5 1 (zt_psh 0 (zt_ist 2 ((zl_Sl_proposeAnew_7 Q))))))
def zw_Sl_proposeAnew : zs_W := fun As σ Q => match As with
  | [a0, a1] => zs_c1 [a0, a1] = true ∧ zb_Sl_proposeAnew_0 Q [some a0, some a1, none] [] σ 0 0
  | _ => False
section
variable {p : Program} {l : Launch} {e : Env} {s : State} {m : MethodId} {args : Array Value} {below : List Frame} {meth : Method} {c : Code} {G : zs_G} {Q : zs_Q}
theorem zr_Sl_proposeAnew_25 (B : zs_B p s m args meth c G bb_Sl_proposeAnew 3 yy_Sl_proposeAnew none) : zA_Sl_proposeAnew p l e s m args below meth c G Q 25 (zb_Sl_proposeAnew_25 Q) := by
  unfold zb_Sl_proposeAnew_25
  exact za_vrt B.1 0 0 B.2.1 B.2.2.1 dd_Sl_proposeAnew_25
theorem zr_Sl_proposeAnew_12 (B : zs_B p s m args meth c G bb_Sl_proposeAnew 3 yy_Sl_proposeAnew none) {K7 : zs_P} (h7 : zA_Sl_proposeAnew p l e s m args below meth c G Q 7 K7) : zA_Sl_proposeAnew p l e s m args below meth c G Q 12 (zb_Sl_proposeAnew_12 Q K7) := by
  unfold zb_Sl_proposeAnew_12
  refine za_ald_n B.1 0 dd_Sl_proposeAnew_12 rfl ?_
  refine za_gtR B.1 5 3 zi_5 rfl (by decide) (by decide) rfl zW_160 rfl dd_Sl_proposeAnew_13 ?_
  refine za_ild_n B.1 2 dd_Sl_proposeAnew_16 rfl ?_
  refine za_ico B.1 0 dd_Sl_proposeAnew_17 (by decide) ?_
  refine za_zast B.1 dd_Sl_proposeAnew_18 ?_
  refine za_inc B.1 1 dd_Sl_proposeAnew_19 (by decide) (by decide) ?_
  refine za_goto B.1 7 dd_Sl_proposeAnew_22 (by decide) ?_
  exact h7
theorem zr_Sl_proposeAnew_7 (B : zs_B p s m args meth c G bb_Sl_proposeAnew 3 yy_Sl_proposeAnew none) {K7 : zs_P} (h7 : zA_Sl_proposeAnew p l e s m args below meth c G Q 7 K7) : zA_Sl_proposeAnew p l e s m args below meth c G Q 7 (zb_Sl_proposeAnew_7 Q K7) := by
  unfold zb_Sl_proposeAnew_7
  refine za_ild_n B.1 2 dd_Sl_proposeAnew_7 rfl ?_
  refine za_ico B.1 3 dd_Sl_proposeAnew_8 (by decide) ?_
  exact za_cmp_ge B.1 25 dd_Sl_proposeAnew_9 (by decide) (zr_Sl_proposeAnew_25 B) (zr_Sl_proposeAnew_12 B h7)
theorem zq_Sl_proposeAnew_7 (B : zs_B p s m args meth c G bb_Sl_proposeAnew 3 yy_Sl_proposeAnew none) : zA_Sl_proposeAnew p l e s m args below meth c G Q 7 (zl_Sl_proposeAnew_7 Q) := za_lop (fun K hK => zr_Sl_proposeAnew_7 B hK)
theorem zr_Sl_proposeAnew_0 (B : zs_B p s m args meth c G bb_Sl_proposeAnew 3 yy_Sl_proposeAnew none) : zA_Sl_proposeAnew p l e s m args below meth c G Q 0 (zb_Sl_proposeAnew_0 Q) := by
  unfold zb_Sl_proposeAnew_0
  refine za_ald_n B.1 0 dd_Sl_proposeAnew_0 rfl ?_
  refine za_ild_n B.1 1 dd_Sl_proposeAnew_1 rfl ?_
  refine za_ptZ B.1 5 1 zi_5 zy_Sl zy_Sl_ok zn_Sl rfl (by decide) (by decide) rfl zW_158 rfl rfl rfl dd_Sl_proposeAnew_2 ?_
  refine za_ico B.1 0 dd_Sl_proposeAnew_5 (by decide) ?_
  refine za_ist_n B.1 2 dd_Sl_proposeAnew_6 rfl (by decide) ?_
  exact (zq_Sl_proposeAnew_7 B)
end
theorem zm_Sl_proposeAnew (l : Launch) (G : zs_G) (As : List Value) (σ : zs_S) (Q : zs_Q) (h : zw_Sl_proposeAnew As σ Q) : zs_Met l yy_Sl_proposeAnew (Cond.code yy_Sl_proposeAnew bb_Sl_proposeAnew 3 none :: zw_all) zk_Sl_proposeAnew G As σ Q 0 0 := by
  unfold zw_Sl_proposeAnew at h
  split at h
  · exact zs_enter (by decide +kernel) h.1 (Nat.le_of_ble_eq_true rfl) h.2 (fun p e s m args below meth c B => zr_Sl_proposeAnew_0 B)
  · exact h.elim
-- SequencedBatches.takeUpSequencer(I)V
theorem dd_SB_takeUpSequencer_0 : decode bb_SB_takeUpSequencer 0 = .ok (.aload_n 0, 1) := by decide +kernel
theorem dd_SB_takeUpSequencer_1 : decode bb_SB_takeUpSequencer 1 = .ok (.getfield 38, 3) := by decide +kernel
theorem dd_SB_takeUpSequencer_4 : decode bb_SB_takeUpSequencer 4 = .ok (.iload_n 1, 1) := by decide +kernel
theorem dd_SB_takeUpSequencer_5 : decode bb_SB_takeUpSequencer 5 = .ok (.aaload, 1) := by decide +kernel
theorem dd_SB_takeUpSequencer_6 : decode bb_SB_takeUpSequencer 6 = .ok (.astore_n 2, 1) := by decide +kernel
theorem dd_SB_takeUpSequencer_7 : decode bb_SB_takeUpSequencer 7 = .ok (.aload_n 2, 1) := by decide +kernel
theorem dd_SB_takeUpSequencer_8 : decode bb_SB_takeUpSequencer 8 = .ok (.dup, 1) := by decide +kernel
theorem dd_SB_takeUpSequencer_9 : decode bb_SB_takeUpSequencer 9 = .ok (.getfield 233, 3) := by decide +kernel
theorem dd_SB_takeUpSequencer_12 : decode bb_SB_takeUpSequencer 12 = .ok (.iconst 1, 1) := by decide +kernel
theorem dd_SB_takeUpSequencer_13 : decode bb_SB_takeUpSequencer 13 = .ok (.iadd, 1) := by decide +kernel
theorem dd_SB_takeUpSequencer_14 : decode bb_SB_takeUpSequencer 14 = .ok (.putfield 233, 3) := by decide +kernel
theorem dd_SB_takeUpSequencer_17 : decode bb_SB_takeUpSequencer 17 = .ok (.iconst 0, 1) := by decide +kernel
theorem dd_SB_takeUpSequencer_18 : decode bb_SB_takeUpSequencer 18 = .ok (.istore_n 3, 1) := by decide +kernel
theorem dd_SB_takeUpSequencer_19 : decode bb_SB_takeUpSequencer 19 = .ok (.iload_n 3, 1) := by decide +kernel
theorem dd_SB_takeUpSequencer_20 : decode bb_SB_takeUpSequencer 20 = .ok (.iconst 3, 1) := by decide +kernel
theorem dd_SB_takeUpSequencer_21 : decode bb_SB_takeUpSequencer 21 = .ok (.if_icmp .ge 33, 3) := by decide +kernel
theorem dd_SB_takeUpSequencer_24 : decode bb_SB_takeUpSequencer 24 = .ok (.aload_n 0, 1) := by decide +kernel
theorem dd_SB_takeUpSequencer_25 : decode bb_SB_takeUpSequencer 25 = .ok (.getfield 9, 3) := by decide +kernel
theorem dd_SB_takeUpSequencer_28 : decode bb_SB_takeUpSequencer 28 = .ok (.iload_n 3, 1) := by decide +kernel
theorem dd_SB_takeUpSequencer_29 : decode bb_SB_takeUpSequencer 29 = .ok (.baload, 1) := by decide +kernel
theorem dd_SB_takeUpSequencer_30 : decode bb_SB_takeUpSequencer 30 = .ok (.ifCond .ne 18, 3) := by decide +kernel
theorem dd_SB_takeUpSequencer_33 : decode bb_SB_takeUpSequencer 33 = .ok (.aload_n 0, 1) := by decide +kernel
theorem dd_SB_takeUpSequencer_34 : decode bb_SB_takeUpSequencer 34 = .ok (.getfield 32, 3) := by decide +kernel
theorem dd_SB_takeUpSequencer_37 : decode bb_SB_takeUpSequencer 37 = .ok (.iload_n 3, 1) := by decide +kernel
theorem dd_SB_takeUpSequencer_38 : decode bb_SB_takeUpSequencer 38 = .ok (.aaload, 1) := by decide +kernel
theorem dd_SB_takeUpSequencer_39 : decode bb_SB_takeUpSequencer 39 = .ok (.getfield 257, 3) := by decide +kernel
theorem dd_SB_takeUpSequencer_42 : decode bb_SB_takeUpSequencer 42 = .ok (.iload_n 1, 1) := by decide +kernel
theorem dd_SB_takeUpSequencer_43 : decode bb_SB_takeUpSequencer 43 = .ok (.aload_n 2, 1) := by decide +kernel
theorem dd_SB_takeUpSequencer_44 : decode bb_SB_takeUpSequencer 44 = .ok (.getfield 233, 3) := by decide +kernel
theorem dd_SB_takeUpSequencer_47 : decode bb_SB_takeUpSequencer 47 = .ok (.iastore, 1) := by decide +kernel
theorem dd_SB_takeUpSequencer_48 : decode bb_SB_takeUpSequencer 48 = .ok (.iinc 3 1, 3) := by decide +kernel
theorem dd_SB_takeUpSequencer_51 : decode bb_SB_takeUpSequencer 51 = .ok (.goto (-32), 3) := by decide +kernel
theorem dd_SB_takeUpSequencer_54 : decode bb_SB_takeUpSequencer 54 = .ok (.iconst 0, 1) := by decide +kernel
theorem dd_SB_takeUpSequencer_55 : decode bb_SB_takeUpSequencer 55 = .ok (.istore_n 3, 1) := by decide +kernel
theorem dd_SB_takeUpSequencer_56 : decode bb_SB_takeUpSequencer 56 = .ok (.iload_n 3, 1) := by decide +kernel
theorem dd_SB_takeUpSequencer_57 : decode bb_SB_takeUpSequencer 57 = .ok (.aload_n 2, 1) := by decide +kernel
theorem dd_SB_takeUpSequencer_58 : decode bb_SB_takeUpSequencer 58 = .ok (.getfield 274, 3) := by decide +kernel
theorem dd_SB_takeUpSequencer_61 : decode bb_SB_takeUpSequencer 61 = .ok (.if_icmp .ge 43, 3) := by decide +kernel
theorem dd_SB_takeUpSequencer_64 : decode bb_SB_takeUpSequencer 64 = .ok (.aload_n 2, 1) := by decide +kernel
theorem dd_SB_takeUpSequencer_65 : decode bb_SB_takeUpSequencer 65 = .ok (.getfield 219, 3) := by decide +kernel
theorem dd_SB_takeUpSequencer_68 : decode bb_SB_takeUpSequencer 68 = .ok (.iload_n 3, 1) := by decide +kernel
theorem dd_SB_takeUpSequencer_69 : decode bb_SB_takeUpSequencer 69 = .ok (.aaload, 1) := by decide +kernel
theorem dd_SB_takeUpSequencer_70 : decode bb_SB_takeUpSequencer 70 = .ok (.astore 4, 2) := by decide +kernel
theorem dd_SB_takeUpSequencer_72 : decode bb_SB_takeUpSequencer 72 = .ok (.aload 4, 2) := by decide +kernel
theorem dd_SB_takeUpSequencer_74 : decode bb_SB_takeUpSequencer 74 = .ok (.getfield 104, 3) := by decide +kernel
theorem dd_SB_takeUpSequencer_77 : decode bb_SB_takeUpSequencer 77 = .ok (.ifCond .ne 21, 3) := by decide +kernel
theorem dd_SB_takeUpSequencer_80 : decode bb_SB_takeUpSequencer 80 = .ok (.aload 4, 2) := by decide +kernel
theorem dd_SB_takeUpSequencer_82 : decode bb_SB_takeUpSequencer 82 = .ok (.aload_n 0, 1) := by decide +kernel
theorem dd_SB_takeUpSequencer_83 : decode bb_SB_takeUpSequencer 83 = .ok (.iload_n 1, 1) := by decide +kernel
theorem dd_SB_takeUpSequencer_84 : decode bb_SB_takeUpSequencer 84 = .ok (.iload_n 3, 1) := by decide +kernel
theorem dd_SB_takeUpSequencer_85 : decode bb_SB_takeUpSequencer 85 = .ok (.invokevirtual 277, 3) := by decide +kernel
theorem dd_SB_takeUpSequencer_88 : decode bb_SB_takeUpSequencer 88 = .ok (.invokevirtual 280, 3) := by decide +kernel
theorem dd_SB_takeUpSequencer_91 : decode bb_SB_takeUpSequencer 91 = .ok (.aload_n 0, 1) := by decide +kernel
theorem dd_SB_takeUpSequencer_92 : decode bb_SB_takeUpSequencer 92 = .ok (.iload_n 1, 1) := by decide +kernel
theorem dd_SB_takeUpSequencer_93 : decode bb_SB_takeUpSequencer 93 = .ok (.iload_n 3, 1) := by decide +kernel
theorem dd_SB_takeUpSequencer_94 : decode bb_SB_takeUpSequencer 94 = .ok (.invokevirtual 97, 3) := by decide +kernel
theorem dd_SB_takeUpSequencer_97 : decode bb_SB_takeUpSequencer 97 = .ok (.pop, 1) := by decide +kernel
theorem dd_SB_takeUpSequencer_98 : decode bb_SB_takeUpSequencer 98 = .ok (.iinc 3 1, 3) := by decide +kernel
theorem dd_SB_takeUpSequencer_101 : decode bb_SB_takeUpSequencer 101 = .ok (.goto (-45), 3) := by decide +kernel
theorem dd_SB_takeUpSequencer_104 : decode bb_SB_takeUpSequencer 104 = .ok (.return_, 1) := by decide +kernel
def zk_SB_takeUpSequencer : Room := { frames := 2, cells := 0, slots := 0, locals := 64 }
abbrev zA_SB_takeUpSequencer (p : Program) (l : Launch) (e : Env) (s : State) (m : MethodId) (args : Array Value) (below : List Frame) (meth : Method) (c : Code) (G : zs_G) (Q : zs_Q) (pc : Nat) (P : zs_P) : Prop := zs_At p l e zk_SB_takeUpSequencer s m args below meth c (MQ below (zs_Qc G Q) args s 0 0 (fun q => zg_z G ≤ q)) G 5 pc P
def zb_SB_takeUpSequencer_104 (Q : zs_Q) : zs_P := zt_vrt 0 0 Q
def zb_SB_takeUpSequencer_98 (Q : zs_Q) (K56 : zs_P) : zs_P := zt_inc 3 1 (K56)
def zb_SB_takeUpSequencer_80 (Q : zs_Q) (K56 : zs_P) : zs_P := zt_ald 4 (zt_ald 0 (zt_ild 1 (zt_ild 3 (zt_cav 7 zw_SB_isEmptyOnLogNodes (2 + 1) 0 0 0 0 (zt_cav 5 zw_Sl_proposeAnew (1 + 1) 0 0 0 0 (zt_ald 0 (zt_ild 1 (zt_ild 3 (zt_cav 7 zw_SB_sendStores (2 + 1) 0 0 0 0 (zt_pop ((zb_SB_takeUpSequencer_98 Q K56))))))))))))
def zb_SB_takeUpSequencer_64 (Q : zs_Q) (K56 : zs_P) : zs_P := zt_ald 2 (zt_gtR 4 2 (zt_ild 3 (zt_rld (110 + 5) (zt_ast 4 (zt_ald 4 (zt_gtI 5 2 (zt_if (fun x => x = 0) (zb_SB_takeUpSequencer_80 Q K56) (zb_SB_takeUpSequencer_98 Q K56))))))))
def zb_SB_takeUpSequencer_56 (Q : zs_Q) (K56 : zs_P) : zs_P := zt_ild 3 (zt_ald 2 (zt_gtI 4 3 (zt_cmp (fun x y => y ≤ x) (zb_SB_takeUpSequencer_104 Q) (zb_SB_takeUpSequencer_64 Q K56))))
def zl_SB_takeUpSequencer_56 (Q : zs_Q) : zs_P := zt_ex (zb_SB_takeUpSequencer_56 Q)
def zb_SB_takeUpSequencer_54 (Q : zs_Q) : zs_P := zt_psh 0 (zt_ist 3 ((zl_SB_takeUpSequencer_56 Q)))
def zb_SB_takeUpSequencer_48 (Q : zs_Q) (K19 : zs_P) : zs_P := zt_inc 3 1 (K19)
def zb_SB_takeUpSequencer_33 (Q : zs_Q) (K19 : zs_P) : zs_P := zt_ald 0 (zt_gtR 7 5 (zt_ild 3 (zt_rld (110 + 0) (zt_gtR 0 0 (zt_ild 1 (zt_ald 2 (zt_gtI 4 4 (zt_ias ((zb_SB_takeUpSequencer_48 Q K19))))))))))
def zb_SB_takeUpSequencer_24 (Q : zs_Q) (K19 : zs_P) : zs_P := zt_ald 0 (zt_gtR 7 1 (zt_ild 3 (zt_xld 101 (zt_if (fun x => x = 0) (zb_SB_takeUpSequencer_33 Q K19) (zb_SB_takeUpSequencer_48 Q K19)))))
def zb_SB_takeUpSequencer_19 (Q : zs_Q) (K19 : zs_P) : zs_P := zt_ild 3 (zt_psh 3 (zt_cmp (fun x y => y ≤ x) (zb_SB_takeUpSequencer_54 Q) (zb_SB_takeUpSequencer_24 Q K19)))
def zl_SB_takeUpSequencer_19 (Q : zs_Q) : zs_P := zt_ex (zb_SB_takeUpSequencer_19 Q)
def zb_SB_takeUpSequencer_0 (Q : zs_Q) : zs_P := zt_ald 0 (zt_gtR 7 6 (zt_ild 1 (zt_rld (110 + 4) (zt_ast 2 (zt_ald 2 (zt_dup (zt_gtI 4 4 (zt_psh 1 (zt_bin (fun x y => x + y) (zt_ptI 4 4 (zt_psh 0 (zt_ist 3 ((zl_SB_takeUpSequencer_19 Q))))))))))))))
def zw_SB_takeUpSequencer : zs_W := fun As σ Q => match As with
  | [a0, a1] => zs_c1 [a0, a1] = true ∧ zb_SB_takeUpSequencer_0 Q [some a0, some a1, none, none, none] [] σ 0 0
  | _ => False
section
variable {p : Program} {l : Launch} {e : Env} {s : State} {m : MethodId} {args : Array Value} {below : List Frame} {meth : Method} {c : Code} {G : zs_G} {Q : zs_Q}
theorem zr_SB_takeUpSequencer_104 (B : zs_B p s m args meth c G bb_SB_takeUpSequencer 5 yy_SB_takeUpSequencer none) : zA_SB_takeUpSequencer p l e s m args below meth c G Q 104 (zb_SB_takeUpSequencer_104 Q) := by
  unfold zb_SB_takeUpSequencer_104
  exact za_vrt B.1 0 0 B.2.1 B.2.2.1 dd_SB_takeUpSequencer_104
theorem zr_SB_takeUpSequencer_98 (B : zs_B p s m args meth c G bb_SB_takeUpSequencer 5 yy_SB_takeUpSequencer none) {K56 : zs_P} (h56 : zA_SB_takeUpSequencer p l e s m args below meth c G Q 56 K56) : zA_SB_takeUpSequencer p l e s m args below meth c G Q 98 (zb_SB_takeUpSequencer_98 Q K56) := by
  unfold zb_SB_takeUpSequencer_98
  refine za_inc B.1 1 dd_SB_takeUpSequencer_98 (by decide) (by decide) ?_
  refine za_goto B.1 56 dd_SB_takeUpSequencer_101 (by decide) ?_
  exact h56
theorem zr_SB_takeUpSequencer_80 (B : zs_B p s m args meth c G bb_SB_takeUpSequencer 5 yy_SB_takeUpSequencer none) {K56 : zs_P} (h56 : zA_SB_takeUpSequencer p l e s m args below meth c G Q 56 K56) : zA_SB_takeUpSequencer p l e s m args below meth c G Q 80 (zb_SB_takeUpSequencer_80 Q K56) := by
  unfold zb_SB_takeUpSequencer_80
  refine za_ald B.1 dd_SB_takeUpSequencer_80 ?_
  refine za_ald_n B.1 0 dd_SB_takeUpSequencer_82 rfl ?_
  refine za_ild_n B.1 1 dd_SB_takeUpSequencer_83 rfl ?_
  refine za_ild_n B.1 3 dd_SB_takeUpSequencer_84 rfl ?_
  refine za_cV B.1 7 2 0 0 0 0 rfl rfl rfl (by decide) (zm_SB_isEmptyOnLogNodes l G) ⟨callB_of 2 B.1.1.2.2.2.2 (zs_good zW_317) rfl rfl rfl (B.1.1.2.2.2.2 _ zW_1) (B.1.1.2.2.2.2 _ zW_315) (by decide +kernel) ⟨by decide, by decide⟩, (B.1.1.2.2.2.2 _ zW_316), (B.1.1.2.2.2.2 _ zW_671)⟩ dd_SB_takeUpSequencer_85 ?_
  refine za_cV B.1 5 1 0 0 0 0 rfl rfl rfl (by decide) (zm_Sl_proposeAnew l G) ⟨callB_of 1 B.1.1.2.2.2.2 (zs_good zW_321) rfl rfl rfl (B.1.1.2.2.2.2 _ zW_10) (B.1.1.2.2.2.2 _ zW_318) (by decide +kernel) ⟨by decide, by decide⟩, (B.1.1.2.2.2.2 _ zW_319), (B.1.1.2.2.2.2 _ zW_320)⟩ dd_SB_takeUpSequencer_88 ?_
  refine za_ald_n B.1 0 dd_SB_takeUpSequencer_91 rfl ?_
  refine za_ild_n B.1 1 dd_SB_takeUpSequencer_92 rfl ?_
  refine za_ild_n B.1 3 dd_SB_takeUpSequencer_93 rfl ?_
  refine za_cV B.1 7 2 0 0 0 0 rfl rfl rfl (by decide) (zm_SB_sendStores l G) ⟨callB_of 2 B.1.1.2.2.2.2 (zs_good zW_163) rfl rfl rfl (B.1.1.2.2.2.2 _ zW_1) (B.1.1.2.2.2.2 _ zW_161) (by decide +kernel) ⟨by decide, by decide⟩, (B.1.1.2.2.2.2 _ zW_162), (B.1.1.2.2.2.2 _ zW_659)⟩ dd_SB_takeUpSequencer_94 ?_
  refine za_pop B.1 dd_SB_takeUpSequencer_97 ?_
  exact (zr_SB_takeUpSequencer_98 B h56)
theorem zr_SB_takeUpSequencer_64 (B : zs_B p s m args meth c G bb_SB_takeUpSequencer 5 yy_SB_takeUpSequencer none) {K56 : zs_P} (h56 : zA_SB_takeUpSequencer p l e s m args below meth c G Q 56 K56) : zA_SB_takeUpSequencer p l e s m args below meth c G Q 64 (zb_SB_takeUpSequencer_64 Q K56) := by
  unfold zb_SB_takeUpSequencer_64
  refine za_ald_n B.1 2 dd_SB_takeUpSequencer_64 rfl ?_
  refine za_gtRN (host := "SequencedBatches") B.1 4 2 zi_4 rfl (by decide) (by decide) rfl (by decide +kernel) rfl dd_SB_takeUpSequencer_65 ?_
  refine za_ild_n B.1 3 dd_SB_takeUpSequencer_68 rfl ?_
  refine za_rld B.1 5 6 rfl dd_SB_takeUpSequencer_69 ?_
  refine za_ast B.1 dd_SB_takeUpSequencer_70 (by decide) ?_
  refine za_ald B.1 dd_SB_takeUpSequencer_72 ?_
  refine za_gtIN (host := "SequencedBatches") B.1 5 2 zi_5 rfl (by decide) (by decide) rfl (by decide +kernel) rfl dd_SB_takeUpSequencer_74 ?_
  exact za_if_ne B.1 98 dd_SB_takeUpSequencer_77 (by decide) (zr_SB_takeUpSequencer_80 B h56) (zr_SB_takeUpSequencer_98 B h56)
theorem zr_SB_takeUpSequencer_56 (B : zs_B p s m args meth c G bb_SB_takeUpSequencer 5 yy_SB_takeUpSequencer none) {K56 : zs_P} (h56 : zA_SB_takeUpSequencer p l e s m args below meth c G Q 56 K56) : zA_SB_takeUpSequencer p l e s m args below meth c G Q 56 (zb_SB_takeUpSequencer_56 Q K56) := by
  unfold zb_SB_takeUpSequencer_56
  refine za_ild_n B.1 3 dd_SB_takeUpSequencer_56 rfl ?_
  refine za_ald_n B.1 2 dd_SB_takeUpSequencer_57 rfl ?_
  refine za_gtIN (host := "SequencedBatches") B.1 4 3 zi_4 rfl (by decide) (by decide) rfl (by decide +kernel) rfl dd_SB_takeUpSequencer_58 ?_
  exact za_cmp_ge B.1 104 dd_SB_takeUpSequencer_61 (by decide) (zr_SB_takeUpSequencer_104 B) (zr_SB_takeUpSequencer_64 B h56)
theorem zq_SB_takeUpSequencer_56 (B : zs_B p s m args meth c G bb_SB_takeUpSequencer 5 yy_SB_takeUpSequencer none) : zA_SB_takeUpSequencer p l e s m args below meth c G Q 56 (zl_SB_takeUpSequencer_56 Q) := za_lop (fun K hK => zr_SB_takeUpSequencer_56 B hK)
theorem zr_SB_takeUpSequencer_54 (B : zs_B p s m args meth c G bb_SB_takeUpSequencer 5 yy_SB_takeUpSequencer none) : zA_SB_takeUpSequencer p l e s m args below meth c G Q 54 (zb_SB_takeUpSequencer_54 Q) := by
  unfold zb_SB_takeUpSequencer_54
  refine za_ico B.1 0 dd_SB_takeUpSequencer_54 (by decide) ?_
  refine za_ist_n B.1 3 dd_SB_takeUpSequencer_55 rfl (by decide) ?_
  exact (zq_SB_takeUpSequencer_56 B)
theorem zr_SB_takeUpSequencer_48 (B : zs_B p s m args meth c G bb_SB_takeUpSequencer 5 yy_SB_takeUpSequencer none) {K19 : zs_P} (h19 : zA_SB_takeUpSequencer p l e s m args below meth c G Q 19 K19) : zA_SB_takeUpSequencer p l e s m args below meth c G Q 48 (zb_SB_takeUpSequencer_48 Q K19) := by
  unfold zb_SB_takeUpSequencer_48
  refine za_inc B.1 1 dd_SB_takeUpSequencer_48 (by decide) (by decide) ?_
  refine za_goto B.1 19 dd_SB_takeUpSequencer_51 (by decide) ?_
  exact h19
theorem zr_SB_takeUpSequencer_33 (B : zs_B p s m args meth c G bb_SB_takeUpSequencer 5 yy_SB_takeUpSequencer none) {K19 : zs_P} (h19 : zA_SB_takeUpSequencer p l e s m args below meth c G Q 19 K19) : zA_SB_takeUpSequencer p l e s m args below meth c G Q 33 (zb_SB_takeUpSequencer_33 Q K19) := by
  unfold zb_SB_takeUpSequencer_33
  refine za_ald_n B.1 0 dd_SB_takeUpSequencer_33 rfl ?_
  refine za_gtR B.1 7 5 zi_7 rfl (by decide) (by decide) rfl zW_93 rfl dd_SB_takeUpSequencer_34 ?_
  refine za_ild_n B.1 3 dd_SB_takeUpSequencer_37 rfl ?_
  refine za_rld B.1 0 3 rfl dd_SB_takeUpSequencer_38 ?_
  refine za_gtRN (host := "SequencedBatches") B.1 0 0 zi_0 rfl (by decide) (by decide) rfl (by decide +kernel) rfl dd_SB_takeUpSequencer_39 ?_
  refine za_ild_n B.1 1 dd_SB_takeUpSequencer_42 rfl ?_
  refine za_ald_n B.1 2 dd_SB_takeUpSequencer_43 rfl ?_
  refine za_gtIN (host := "SequencedBatches") B.1 4 4 zi_4 rfl (by decide) (by decide) rfl (by decide +kernel) rfl dd_SB_takeUpSequencer_44 ?_
  refine za_iast B.1 dd_SB_takeUpSequencer_47 ?_
  exact (zr_SB_takeUpSequencer_48 B h19)
theorem zr_SB_takeUpSequencer_24 (B : zs_B p s m args meth c G bb_SB_takeUpSequencer 5 yy_SB_takeUpSequencer none) {K19 : zs_P} (h19 : zA_SB_takeUpSequencer p l e s m args below meth c G Q 19 K19) : zA_SB_takeUpSequencer p l e s m args below meth c G Q 24 (zb_SB_takeUpSequencer_24 Q K19) := by
  unfold zb_SB_takeUpSequencer_24
  refine za_ald_n B.1 0 dd_SB_takeUpSequencer_24 rfl ?_
  refine za_gtR B.1 7 1 zi_7 rfl (by decide) (by decide) rfl zW_89 rfl dd_SB_takeUpSequencer_25 ?_
  refine za_ild_n B.1 3 dd_SB_takeUpSequencer_28 rfl ?_
  refine za_zald B.1 dd_SB_takeUpSequencer_29 ?_
  exact za_if_ne B.1 48 dd_SB_takeUpSequencer_30 (by decide) (zr_SB_takeUpSequencer_33 B h19) (zr_SB_takeUpSequencer_48 B h19)
theorem zr_SB_takeUpSequencer_19 (B : zs_B p s m args meth c G bb_SB_takeUpSequencer 5 yy_SB_takeUpSequencer none) {K19 : zs_P} (h19 : zA_SB_takeUpSequencer p l e s m args below meth c G Q 19 K19) : zA_SB_takeUpSequencer p l e s m args below meth c G Q 19 (zb_SB_takeUpSequencer_19 Q K19) := by
  unfold zb_SB_takeUpSequencer_19
  refine za_ild_n B.1 3 dd_SB_takeUpSequencer_19 rfl ?_
  refine za_ico B.1 3 dd_SB_takeUpSequencer_20 (by decide) ?_
  exact za_cmp_ge B.1 54 dd_SB_takeUpSequencer_21 (by decide) (zr_SB_takeUpSequencer_54 B) (zr_SB_takeUpSequencer_24 B h19)
theorem zq_SB_takeUpSequencer_19 (B : zs_B p s m args meth c G bb_SB_takeUpSequencer 5 yy_SB_takeUpSequencer none) : zA_SB_takeUpSequencer p l e s m args below meth c G Q 19 (zl_SB_takeUpSequencer_19 Q) := za_lop (fun K hK => zr_SB_takeUpSequencer_19 B hK)
theorem zr_SB_takeUpSequencer_0 (B : zs_B p s m args meth c G bb_SB_takeUpSequencer 5 yy_SB_takeUpSequencer none) : zA_SB_takeUpSequencer p l e s m args below meth c G Q 0 (zb_SB_takeUpSequencer_0 Q) := by
  unfold zb_SB_takeUpSequencer_0
  refine za_ald_n B.1 0 dd_SB_takeUpSequencer_0 rfl ?_
  refine za_gtR B.1 7 6 zi_7 rfl (by decide) (by decide) rfl zW_94 rfl dd_SB_takeUpSequencer_1 ?_
  refine za_ild_n B.1 1 dd_SB_takeUpSequencer_4 rfl ?_
  refine za_rld B.1 4 4 rfl dd_SB_takeUpSequencer_5 ?_
  refine za_ast_n B.1 2 dd_SB_takeUpSequencer_6 rfl (by decide) ?_
  refine za_ald_n B.1 2 dd_SB_takeUpSequencer_7 rfl ?_
  refine za_dup B.1 dd_SB_takeUpSequencer_8 ?_
  refine za_gtIN (host := "SequencedBatches") B.1 4 4 zi_4 rfl (by decide) (by decide) rfl (by decide +kernel) rfl dd_SB_takeUpSequencer_9 ?_
  refine za_ico B.1 1 dd_SB_takeUpSequencer_12 (by decide) ?_
  refine za_add B.1 dd_SB_takeUpSequencer_13 ?_
  refine za_ptIN (host := "SequencedBatches") B.1 4 4 zi_4 zy_Sq zy_Sq_ok zn_Sq rfl (by decide) (by decide) rfl (by decide +kernel) rfl rfl rfl dd_SB_takeUpSequencer_14 ?_
  refine za_ico B.1 0 dd_SB_takeUpSequencer_17 (by decide) ?_
  refine za_ist_n B.1 3 dd_SB_takeUpSequencer_18 rfl (by decide) ?_
  exact (zq_SB_takeUpSequencer_19 B)
end
theorem zm_SB_takeUpSequencer (l : Launch) (G : zs_G) (As : List Value) (σ : zs_S) (Q : zs_Q) (h : zw_SB_takeUpSequencer As σ Q) : zs_Met l yy_SB_takeUpSequencer (Cond.code yy_SB_takeUpSequencer bb_SB_takeUpSequencer 5 none :: zw_all) zk_SB_takeUpSequencer G As σ Q 0 0 := by
  unfold zw_SB_takeUpSequencer at h
  split at h
  · exact zs_enter (by decide +kernel) h.1 (Nat.le_of_ble_eq_true rfl) h.2 (fun p e s m args below meth c B => zr_SB_takeUpSequencer_0 B)
  · exact h.elim
