/-! Methods: Po_init, Ln_init, Sq_init, Pa_init, Rp_init, SB_init, SB_sequencerIsUp (made by program) -/
-- SequencedBatches$Post.<init>()V
theorem dd_Po_init_0 : decode bb_Po_init 0 = .ok (.aload_n 0, 1) := by decide +kernel
theorem dd_Po_init_1 : decode bb_Po_init 1 = .ok (.invokespecial 1, 3) := by decide +kernel
theorem dd_Po_init_4 : decode bb_Po_init 4 = .ok (.aload_n 0, 1) := by decide +kernel
theorem dd_Po_init_5 : decode bb_Po_init 5 = .ok (.bipush 100, 2) := by decide +kernel
theorem dd_Po_init_7 : decode bb_Po_init 7 = .ok (.newarray .int, 2) := by decide +kernel
theorem dd_Po_init_9 : decode bb_Po_init 9 = .ok (.putfield 9, 3) := by decide +kernel
theorem dd_Po_init_12 : decode bb_Po_init 12 = .ok (.aload_n 0, 1) := by decide +kernel
theorem dd_Po_init_13 : decode bb_Po_init 13 = .ok (.bipush 100, 2) := by decide +kernel
theorem dd_Po_init_15 : decode bb_Po_init 15 = .ok (.newarray .int, 2) := by decide +kernel
theorem dd_Po_init_17 : decode bb_Po_init 17 = .ok (.putfield 13, 3) := by decide +kernel
theorem dd_Po_init_20 : decode bb_Po_init 20 = .ok (.aload_n 0, 1) := by decide +kernel
theorem dd_Po_init_21 : decode bb_Po_init 21 = .ok (.iconst 0, 1) := by decide +kernel
theorem dd_Po_init_22 : decode bb_Po_init 22 = .ok (.putfield 16, 3) := by decide +kernel
theorem dd_Po_init_25 : decode bb_Po_init 25 = .ok (.return_, 1) := by decide +kernel
def zk_Po_init : Room := { frames := 1, cells := 2, slots := 200, locals := 40 }
abbrev zA_Po_init (p : Program) (l : Launch) (e : Env) (s : State) (m : MethodId) (args : Array Value) (below : List Frame) (meth : Method) (c : Code) (G : zs_G) (Q : zs_Q) (pc : Nat) (P : zs_P) : Prop := zs_At p l e zk_Po_init s m args below meth c (MQ below (zs_Qc G Q) args s 2 200 (fun q => zg_z G ≤ q)) G 1 pc P
def zb_Po_init_0 (Q : zs_Q) : zs_P := zt_ald 0 (zt_oin (zt_ald 0 (zt_psh 100 (zt_nwa 100 2 200 (zt_ptR 2 0 (zt_ald 0 (zt_psh 100 (zt_nwa 100 2 200 (zt_ptR 2 1 (zt_ald 0 (zt_psh 0 (zt_ptI 2 2 (zt_vrt 2 200 Q)))))))))))))
def zw_Po_init : zs_W := fun As σ Q => match As with
  | [a0] => zs_c1 [a0] = true ∧ zb_Po_init_0 Q [some a0] [] σ 0 0
  | _ => False
section
variable {p : Program} {l : Launch} {e : Env} {s : State} {m : MethodId} {args : Array Value} {below : List Frame} {meth : Method} {c : Code} {G : zs_G} {Q : zs_Q}
theorem zr_Po_init_0 (B : zs_B p s m args meth c G bb_Po_init 1 yy_Po_init none) : zA_Po_init p l e s m args below meth c G Q 0 (zb_Po_init_0 Q) := by
  unfold zb_Po_init_0
  refine za_ald_n B.1 0 dd_Po_init_0 rfl ?_
  refine za_oin B.1 (by decide) zW_26 zW_19 zW_20 dd_Po_init_1 ?_
  refine za_ald_n B.1 0 dd_Po_init_4 rfl ?_
  refine za_bip B.1 100 dd_Po_init_5 (by decide) ?_
  refine za_nwi B.1 2 200 rfl rfl zW_31 dd_Po_init_7 ?_
  refine za_ptRF (ty := .array .int) B.1 2 0 zi_2 zy_Po zy_Po_ok zn_Po rfl (by decide) (by decide) rfl zW_27 rfl rfl B.2.2.2 rfl rfl (Or.inr ⟨_, rfl⟩) dd_Po_init_9 ?_
  refine za_ald_n B.1 0 dd_Po_init_12 rfl ?_
  refine za_bip B.1 100 dd_Po_init_13 (by decide) ?_
  refine za_nwi B.1 2 200 rfl rfl zW_31 dd_Po_init_15 ?_
  refine za_ptRF (ty := .array .int) B.1 2 1 zi_2 zy_Po zy_Po_ok zn_Po rfl (by decide) (by decide) rfl zW_28 rfl rfl B.2.2.2 rfl rfl (Or.inr ⟨_, rfl⟩) dd_Po_init_17 ?_
  refine za_ald_n B.1 0 dd_Po_init_20 rfl ?_
  refine za_ico B.1 0 dd_Po_init_21 (by decide) ?_
  refine za_ptI B.1 2 2 zi_2 zy_Po zy_Po_ok zn_Po rfl (by decide) (by decide) rfl zW_29 rfl rfl rfl dd_Po_init_22 ?_
  exact za_vrt B.1 2 200 B.2.1 B.2.2.1 dd_Po_init_25
end
theorem zm_Po_init (l : Launch) (G : zs_G) (As : List Value) (σ : zs_S) (Q : zs_Q) (h : zw_Po_init As σ Q) : zs_Met l yy_Po_init (Cond.code yy_Po_init bb_Po_init 1 none :: zw_all) zk_Po_init G As σ Q 2 200 := by
  unfold zw_Po_init at h
  split at h
  · exact zs_enter (by decide +kernel) h.1 (Nat.le_of_ble_eq_true rfl) h.2 (fun p e s m args below meth c B => zr_Po_init_0 B)
  · exact h.elim
-- SequencedBatches$LogNode.<init>()V
theorem dd_Ln_init_0 : decode bb_Ln_init 0 = .ok (.aload_n 0, 1) := by decide +kernel
theorem dd_Ln_init_1 : decode bb_Ln_init 1 = .ok (.invokespecial 3, 3) := by decide +kernel
theorem dd_Ln_init_4 : decode bb_Ln_init 4 = .ok (.aload_n 0, 1) := by decide +kernel
theorem dd_Ln_init_5 : decode bb_Ln_init 5 = .ok (.iconst 2, 1) := by decide +kernel
theorem dd_Ln_init_6 : decode bb_Ln_init 6 = .ok (.newarray .int, 2) := by decide +kernel
theorem dd_Ln_init_8 : decode bb_Ln_init 8 = .ok (.putfield 9, 3) := by decide +kernel
theorem dd_Ln_init_11 : decode bb_Ln_init 11 = .ok (.aload_n 0, 1) := by decide +kernel
theorem dd_Ln_init_12 : decode bb_Ln_init 12 = .ok (.bipush 40, 2) := by decide +kernel
theorem dd_Ln_init_14 : decode bb_Ln_init 14 = .ok (.newarray .int, 2) := by decide +kernel
theorem dd_Ln_init_16 : decode bb_Ln_init 16 = .ok (.putfield 15, 3) := by decide +kernel
theorem dd_Ln_init_19 : decode bb_Ln_init 19 = .ok (.return_, 1) := by decide +kernel
def zk_Ln_init : Room := { frames := 1, cells := 2, slots := 42, locals := 40 }
abbrev zA_Ln_init (p : Program) (l : Launch) (e : Env) (s : State) (m : MethodId) (args : Array Value) (below : List Frame) (meth : Method) (c : Code) (G : zs_G) (Q : zs_Q) (pc : Nat) (P : zs_P) : Prop := zs_At p l e zk_Ln_init s m args below meth c (MQ below (zs_Qc G Q) args s 2 42 (fun q => zg_z G ≤ q)) G 1 pc P
def zb_Ln_init_0 (Q : zs_Q) : zs_P := zt_ald 0 (zt_oin (zt_ald 0 (zt_psh 2 (zt_nwa 100 2 42 (zt_ptR 0 0 (zt_ald 0 (zt_psh 40 (zt_nwa 100 2 42 (zt_ptR 0 1 (zt_vrt 2 42 Q))))))))))
def zw_Ln_init : zs_W := fun As σ Q => match As with
  | [a0] => zs_c1 [a0] = true ∧ zb_Ln_init_0 Q [some a0] [] σ 0 0
  | _ => False
section
variable {p : Program} {l : Launch} {e : Env} {s : State} {m : MethodId} {args : Array Value} {below : List Frame} {meth : Method} {c : Code} {G : zs_G} {Q : zs_Q}
theorem zr_Ln_init_0 (B : zs_B p s m args meth c G bb_Ln_init 1 yy_Ln_init none) : zA_Ln_init p l e s m args below meth c G Q 0 (zb_Ln_init_0 Q) := by
  unfold zb_Ln_init_0
  refine za_ald_n B.1 0 dd_Ln_init_0 rfl ?_
  refine za_oin B.1 (by decide) zW_44 zW_19 zW_20 dd_Ln_init_1 ?_
  refine za_ald_n B.1 0 dd_Ln_init_4 rfl ?_
  refine za_ico B.1 2 dd_Ln_init_5 (by decide) ?_
  refine za_nwi B.1 2 42 rfl rfl zW_31 dd_Ln_init_6 ?_
  refine za_ptRF (ty := .array .int) B.1 0 0 zi_0 zy_Ln zy_Ln_ok zn_Ln rfl (by decide) (by decide) rfl zW_45 rfl rfl B.2.2.2 rfl rfl (Or.inr ⟨_, rfl⟩) dd_Ln_init_8 ?_
  refine za_ald_n B.1 0 dd_Ln_init_11 rfl ?_
  refine za_bip B.1 40 dd_Ln_init_12 (by decide) ?_
  refine za_nwi B.1 2 42 rfl rfl zW_31 dd_Ln_init_14 ?_
  refine za_ptRF (ty := .array .int) B.1 0 1 zi_0 zy_Ln zy_Ln_ok zn_Ln rfl (by decide) (by decide) rfl zW_46 rfl rfl B.2.2.2 rfl rfl (Or.inr ⟨_, rfl⟩) dd_Ln_init_16 ?_
  exact za_vrt B.1 2 42 B.2.1 B.2.2.1 dd_Ln_init_19
end
theorem zm_Ln_init (l : Launch) (G : zs_G) (As : List Value) (σ : zs_S) (Q : zs_Q) (h : zw_Ln_init As σ Q) : zs_Met l yy_Ln_init (Cond.code yy_Ln_init bb_Ln_init 1 none :: zw_all) zk_Ln_init G As σ Q 2 42 := by
  unfold zw_Ln_init at h
  split at h
  · exact zs_enter (by decide +kernel) h.1 (Nat.le_of_ble_eq_true rfl) h.2 (fun p e s m args below meth c B => zr_Ln_init_0 B)
  · exact h.elim
-- SequencedBatches$Sequencer.<init>()V
theorem dd_Sq_init_0 : decode bb_Sq_init 0 = .ok (.aload_n 0, 1) := by decide +kernel
theorem dd_Sq_init_1 : decode bb_Sq_init 1 = .ok (.invokespecial 3, 3) := by decide +kernel
theorem dd_Sq_init_4 : decode bb_Sq_init 4 = .ok (.aload_n 0, 1) := by decide +kernel
theorem dd_Sq_init_5 : decode bb_Sq_init 5 = .ok (.bipush 6, 2) := by decide +kernel
theorem dd_Sq_init_7 : decode bb_Sq_init 7 = .ok (.anewarray 9, 3) := by decide +kernel
theorem dd_Sq_init_10 : decode bb_Sq_init 10 = .ok (.putfield 11, 3) := by decide +kernel
theorem dd_Sq_init_13 : decode bb_Sq_init 13 = .ok (.aload_n 0, 1) := by decide +kernel
theorem dd_Sq_init_14 : decode bb_Sq_init 14 = .ok (.iconst 0, 1) := by decide +kernel
theorem dd_Sq_init_15 : decode bb_Sq_init 15 = .ok (.putfield 17, 3) := by decide +kernel
theorem dd_Sq_init_18 : decode bb_Sq_init 18 = .ok (.aload_n 0, 1) := by decide +kernel
theorem dd_Sq_init_19 : decode bb_Sq_init 19 = .ok (.bipush 20, 2) := by decide +kernel
theorem dd_Sq_init_21 : decode bb_Sq_init 21 = .ok (.anewarray 21, 3) := by decide +kernel
theorem dd_Sq_init_24 : decode bb_Sq_init 24 = .ok (.putfield 23, 3) := by decide +kernel
theorem dd_Sq_init_27 : decode bb_Sq_init 27 = .ok (.aload_n 0, 1) := by decide +kernel
theorem dd_Sq_init_28 : decode bb_Sq_init 28 = .ok (.iconst 0, 1) := by decide +kernel
theorem dd_Sq_init_29 : decode bb_Sq_init 29 = .ok (.putfield 27, 3) := by decide +kernel
theorem dd_Sq_init_32 : decode bb_Sq_init 32 = .ok (.aload_n 0, 1) := by decide +kernel
theorem dd_Sq_init_33 : decode bb_Sq_init 33 = .ok (.iconst 1, 1) := by decide +kernel
theorem dd_Sq_init_34 : decode bb_Sq_init 34 = .ok (.putfield 30, 3) := by decide +kernel
theorem dd_Sq_init_37 : decode bb_Sq_init 37 = .ok (.return_, 1) := by decide +kernel
def zk_Sq_init : Room := { frames := 1, cells := 2, slots := 26, locals := 40 }
abbrev zA_Sq_init (p : Program) (l : Launch) (e : Env) (s : State) (m : MethodId) (args : Array Value) (below : List Frame) (meth : Method) (c : Code) (G : zs_G) (Q : zs_Q) (pc : Nat) (P : zs_P) : Prop := zs_At p l e zk_Sq_init s m args below meth c (MQ below (zs_Qc G Q) args s 2 26 (fun q => zg_z G ≤ q)) G 1 pc P
def zb_Sq_init_0 (Q : zs_Q) : zs_P := zt_ald 0 (zt_oin (zt_ald 0 (zt_psh 6 (zt_nwa (110 + 6) 2 26 (zt_ptR 4 0 (zt_ald 0 (zt_psh 0 (zt_ptI 4 1 (zt_ald 0 (zt_psh 20 (zt_nwa (110 + 5) 2 26 (zt_ptR 4 2 (zt_ald 0 (zt_psh 0 (zt_ptI 4 3 (zt_ald 0 (zt_psh 1 (zt_ptI 4 4 (zt_vrt 2 26 Q)))))))))))))))))))
def zw_Sq_init : zs_W := fun As σ Q => match As with
  | [a0] => zs_c1 [a0] = true ∧ zb_Sq_init_0 Q [some a0] [] σ 0 0
  | _ => False
section
variable {p : Program} {l : Launch} {e : Env} {s : State} {m : MethodId} {args : Array Value} {below : List Frame} {meth : Method} {c : Code} {G : zs_G} {Q : zs_Q}
theorem zr_Sq_init_0 (B : zs_B p s m args meth c G bb_Sq_init 1 yy_Sq_init none) : zA_Sq_init p l e s m args below meth c G Q 0 (zb_Sq_init_0 Q) := by
  unfold zb_Sq_init_0
  refine za_ald_n B.1 0 dd_Sq_init_0 rfl ?_
  refine za_oin B.1 (by decide) zW_50 zW_19 zW_20 dd_Sq_init_1 ?_
  refine za_ald_n B.1 0 dd_Sq_init_4 rfl ?_
  refine za_bip B.1 6 dd_Sq_init_5 (by decide) ?_
  refine za_nwr B.1 6 2 2 26 rfl rfl rfl zW_51 (by decide) dd_Sq_init_7 ?_
  refine za_ptRF (ty := .array (.object "SequencedBatches$Transaction")) B.1 4 0 zi_4 zy_Sq zy_Sq_ok zn_Sq rfl (by decide) (by decide) rfl zW_53 rfl rfl B.2.2.2 rfl rfl (Or.inr ⟨_, rfl⟩) dd_Sq_init_10 ?_
  refine za_ald_n B.1 0 dd_Sq_init_13 rfl ?_
  refine za_ico B.1 0 dd_Sq_init_14 (by decide) ?_
  refine za_ptI B.1 4 1 zi_4 zy_Sq zy_Sq_ok zn_Sq rfl (by decide) (by decide) rfl zW_54 rfl rfl rfl dd_Sq_init_15 ?_
  refine za_ald_n B.1 0 dd_Sq_init_18 rfl ?_
  refine za_bip B.1 20 dd_Sq_init_19 (by decide) ?_
  refine za_nwr B.1 5 6 2 26 rfl rfl rfl zW_52 (by decide) dd_Sq_init_21 ?_
  refine za_ptRF (ty := .array (.object "SequencedBatches$Slot")) B.1 4 2 zi_4 zy_Sq zy_Sq_ok zn_Sq rfl (by decide) (by decide) rfl zW_55 rfl rfl B.2.2.2 rfl rfl (Or.inr ⟨_, rfl⟩) dd_Sq_init_24 ?_
  refine za_ald_n B.1 0 dd_Sq_init_27 rfl ?_
  refine za_ico B.1 0 dd_Sq_init_28 (by decide) ?_
  refine za_ptI B.1 4 3 zi_4 zy_Sq zy_Sq_ok zn_Sq rfl (by decide) (by decide) rfl zW_56 rfl rfl rfl dd_Sq_init_29 ?_
  refine za_ald_n B.1 0 dd_Sq_init_32 rfl ?_
  refine za_ico B.1 1 dd_Sq_init_33 (by decide) ?_
  refine za_ptI B.1 4 4 zi_4 zy_Sq zy_Sq_ok zn_Sq rfl (by decide) (by decide) rfl zW_57 rfl rfl rfl dd_Sq_init_34 ?_
  exact za_vrt B.1 2 26 B.2.1 B.2.2.1 dd_Sq_init_37
end
theorem zm_Sq_init (l : Launch) (G : zs_G) (As : List Value) (σ : zs_S) (Q : zs_Q) (h : zw_Sq_init As σ Q) : zs_Met l yy_Sq_init (Cond.code yy_Sq_init bb_Sq_init 1 none :: zw_all) zk_Sq_init G As σ Q 2 26 := by
  unfold zw_Sq_init at h
  split at h
  · exact zs_enter (by decide +kernel) h.1 (Nat.le_of_ble_eq_true rfl) h.2 (fun p e s m args below meth c B => zr_Sq_init_0 B)
  · exact h.elim
-- SequencedBatches$Partition.<init>(II)V
theorem dd_Pa_init_0 : decode bb_Pa_init 0 = .ok (.aload_n 0, 1) := by decide +kernel
theorem dd_Pa_init_1 : decode bb_Pa_init 1 = .ok (.invokespecial 3, 3) := by decide +kernel
theorem dd_Pa_init_4 : decode bb_Pa_init 4 = .ok (.aload_n 0, 1) := by decide +kernel
theorem dd_Pa_init_5 : decode bb_Pa_init 5 = .ok (.iconst 0, 1) := by decide +kernel
theorem dd_Pa_init_6 : decode bb_Pa_init 6 = .ok (.putfield 9, 3) := by decide +kernel
theorem dd_Pa_init_9 : decode bb_Pa_init 9 = .ok (.aload_n 0, 1) := by decide +kernel
theorem dd_Pa_init_10 : decode bb_Pa_init 10 = .ok (.bipush 10, 2) := by decide +kernel
theorem dd_Pa_init_12 : decode bb_Pa_init 12 = .ok (.anewarray 15, 3) := by decide +kernel
theorem dd_Pa_init_15 : decode bb_Pa_init 15 = .ok (.putfield 17, 3) := by decide +kernel
theorem dd_Pa_init_18 : decode bb_Pa_init 18 = .ok (.aload_n 0, 1) := by decide +kernel
theorem dd_Pa_init_19 : decode bb_Pa_init 19 = .ok (.bipush 10, 2) := by decide +kernel
theorem dd_Pa_init_21 : decode bb_Pa_init 21 = .ok (.newarray .boolean, 2) := by decide +kernel
theorem dd_Pa_init_23 : decode bb_Pa_init 23 = .ok (.putfield 21, 3) := by decide +kernel
theorem dd_Pa_init_26 : decode bb_Pa_init 26 = .ok (.aload_n 0, 1) := by decide +kernel
theorem dd_Pa_init_27 : decode bb_Pa_init 27 = .ok (.iconst 0, 1) := by decide +kernel
theorem dd_Pa_init_28 : decode bb_Pa_init 28 = .ok (.putfield 25, 3) := by decide +kernel
theorem dd_Pa_init_31 : decode bb_Pa_init 31 = .ok (.aload_n 0, 1) := by decide +kernel
theorem dd_Pa_init_32 : decode bb_Pa_init 32 = .ok (.bipush 100, 2) := by decide +kernel
theorem dd_Pa_init_34 : decode bb_Pa_init 34 = .ok (.newarray .int, 2) := by decide +kernel
theorem dd_Pa_init_36 : decode bb_Pa_init 36 = .ok (.putfield 28, 3) := by decide +kernel
theorem dd_Pa_init_39 : decode bb_Pa_init 39 = .ok (.iconst 0, 1) := by decide +kernel
theorem dd_Pa_init_40 : decode bb_Pa_init 40 = .ok (.istore_n 3, 1) := by decide +kernel
theorem dd_Pa_init_41 : decode bb_Pa_init 41 = .ok (.iconst 0, 1) := by decide +kernel
theorem dd_Pa_init_42 : decode bb_Pa_init 42 = .ok (.istore 4, 2) := by decide +kernel
theorem dd_Pa_init_44 : decode bb_Pa_init 44 = .ok (.iload 4, 2) := by decide +kernel
theorem dd_Pa_init_46 : decode bb_Pa_init 46 = .ok (.bipush 12, 2) := by decide +kernel
theorem dd_Pa_init_48 : decode bb_Pa_init 48 = .ok (.if_icmp .ge 24, 3) := by decide +kernel
theorem dd_Pa_init_51 : decode bb_Pa_init 51 = .ok (.iload 4, 2) := by decide +kernel
theorem dd_Pa_init_53 : decode bb_Pa_init 53 = .ok (.iload_n 2, 1) := by decide +kernel
theorem dd_Pa_init_54 : decode bb_Pa_init 54 = .ok (.irem, 1) := by decide +kernel
theorem dd_Pa_init_55 : decode bb_Pa_init 55 = .ok (.iload_n 1, 1) := by decide +kernel
theorem dd_Pa_init_56 : decode bb_Pa_init 56 = .ok (.if_icmp .ne 10, 3) := by decide +kernel
theorem dd_Pa_init_59 : decode bb_Pa_init 59 = .ok (.iload_n 3, 1) := by decide +kernel
theorem dd_Pa_init_60 : decode bb_Pa_init 60 = .ok (.iconst 1, 1) := by decide +kernel
theorem dd_Pa_init_61 : decode bb_Pa_init 61 = .ok (.iload 4, 2) := by decide +kernel
theorem dd_Pa_init_63 : decode bb_Pa_init 63 = .ok (.ishl, 1) := by decide +kernel
theorem dd_Pa_init_64 : decode bb_Pa_init 64 = .ok (.ior, 1) := by decide +kernel
theorem dd_Pa_init_65 : decode bb_Pa_init 65 = .ok (.istore_n 3, 1) := by decide +kernel
theorem dd_Pa_init_66 : decode bb_Pa_init 66 = .ok (.iinc 4 1, 3) := by decide +kernel
theorem dd_Pa_init_69 : decode bb_Pa_init 69 = .ok (.goto (-25), 3) := by decide +kernel
theorem dd_Pa_init_72 : decode bb_Pa_init 72 = .ok (.aload_n 0, 1) := by decide +kernel
theorem dd_Pa_init_73 : decode bb_Pa_init 73 = .ok (.iload_n 3, 1) := by decide +kernel
theorem dd_Pa_init_74 : decode bb_Pa_init 74 = .ok (.putfield 32, 3) := by decide +kernel
theorem dd_Pa_init_77 : decode bb_Pa_init 77 = .ok (.return_, 1) := by decide +kernel
def zk_Pa_init : Room := { frames := 1, cells := 3, slots := 120, locals := 40 }
abbrev zA_Pa_init (p : Program) (l : Launch) (e : Env) (s : State) (m : MethodId) (args : Array Value) (below : List Frame) (meth : Method) (c : Code) (G : zs_G) (Q : zs_Q) (pc : Nat) (P : zs_P) : Prop := zs_At p l e zk_Pa_init s m args below meth c (MQ below (zs_Qc G Q) args s 3 120 (fun q => zg_z G ≤ q)) G 5 pc P
def zb_Pa_init_72 (Q : zs_Q) : zs_P := zt_ald 0 (zt_ild 3 (zt_ptI 1 0 (zt_vrt 3 120 Q)))
def zb_Pa_init_66 (Q : zs_Q) (K44 : zs_P) : zs_P := zt_inc 4 1 (K44)
def zb_Pa_init_59 (Q : zs_Q) (K44 : zs_P) : zs_P := zt_ild 3 (zt_psh 1 (zt_ild 4 (zt_bin (fun x y => x <<< (y &&& 31)) (zt_bin (fun x y => x ||| y) (zt_ist 3 ((zb_Pa_init_66 Q K44)))))))
def zb_Pa_init_51 (Q : zs_Q) (K44 : zs_P) : zs_P := zt_ild 4 (zt_ild 2 (zt_div (fun x y => x - x / y * y) (zt_ild 1 (zt_cmp (fun x y => x = y) (zb_Pa_init_59 Q K44) (zb_Pa_init_66 Q K44)))))
def zb_Pa_init_44 (Q : zs_Q) (K44 : zs_P) : zs_P := zt_ild 4 (zt_psh 12 (zt_cmp (fun x y => y ≤ x) (zb_Pa_init_72 Q) (zb_Pa_init_51 Q K44)))
def zl_Pa_init_44 (Q : zs_Q) : zs_P := zt_ex (zb_Pa_init_44 Q)
def zb_Pa_init_0 (Q : zs_Q) : zs_P := zt_ald 0 (zt_oin (zt_ald 0 (zt_psh 0 (zt_ptI 1 1 (zt_ald 0 (zt_psh 10 (zt_nwa (110 + 6) 3 120 (zt_ptR 1 2 (zt_ald 0 (zt_psh 10 (zt_nwa 101 3 120 (zt_ptR 1 3 (zt_ald 0 (zt_psh 0 (zt_ptI 1 4 (zt_ald 0 (zt_psh 100 (zt_nwa 100 3 120 (zt_ptR 1 5 (zt_psh 0 (zt_ist 3 (zt_psh 0 (zt_ist 4 ((zl_Pa_init_44 Q)))))))))))))))))))))))))
def zw_Pa_init : zs_W := fun As σ Q => match As with
  | [a0, a1, a2] => zs_c1 [a0, a1, a2] = true ∧ zb_Pa_init_0 Q [some a0, some a1, some a2, none, none] [] σ 0 0
  | _ => False
section
variable {p : Program} {l : Launch} {e : Env} {s : State} {m : MethodId} {args : Array Value} {below : List Frame} {meth : Method} {c : Code} {G : zs_G} {Q : zs_Q}
theorem zr_Pa_init_72 (B : zs_B p s m args meth c G bb_Pa_init 5 yy_Pa_init none) : zA_Pa_init p l e s m args below meth c G Q 72 (zb_Pa_init_72 Q) := by
  unfold zb_Pa_init_72
  refine za_ald_n B.1 0 dd_Pa_init_72 rfl ?_
  refine za_ild_n B.1 3 dd_Pa_init_73 rfl ?_
  refine za_ptIF B.1 1 0 zi_1 zy_Pa zy_Pa_ok zn_Pa rfl (by decide) (by decide) rfl zW_72 rfl rfl B.2.2.2 rfl rfl dd_Pa_init_74 ?_
  exact za_vrt B.1 3 120 B.2.1 B.2.2.1 dd_Pa_init_77
theorem zr_Pa_init_66 (B : zs_B p s m args meth c G bb_Pa_init 5 yy_Pa_init none) {K44 : zs_P} (h44 : zA_Pa_init p l e s m args below meth c G Q 44 K44) : zA_Pa_init p l e s m args below meth c G Q 66 (zb_Pa_init_66 Q K44) := by
  unfold zb_Pa_init_66
  refine za_inc B.1 1 dd_Pa_init_66 (by decide) (by decide) ?_
  refine za_goto B.1 44 dd_Pa_init_69 (by decide) ?_
  exact h44
theorem zr_Pa_init_59 (B : zs_B p s m args meth c G bb_Pa_init 5 yy_Pa_init none) {K44 : zs_P} (h44 : zA_Pa_init p l e s m args below meth c G Q 44 K44) : zA_Pa_init p l e s m args below meth c G Q 59 (zb_Pa_init_59 Q K44) := by
  unfold zb_Pa_init_59
  refine za_ild_n B.1 3 dd_Pa_init_59 rfl ?_
  refine za_ico B.1 1 dd_Pa_init_60 (by decide) ?_
  refine za_ild B.1 dd_Pa_init_61 ?_
  refine za_shl B.1 dd_Pa_init_63 ?_
  refine za_ior B.1 dd_Pa_init_64 ?_
  refine za_ist_n B.1 3 dd_Pa_init_65 rfl (by decide) ?_
  exact (zr_Pa_init_66 B h44)
theorem zr_Pa_init_51 (B : zs_B p s m args meth c G bb_Pa_init 5 yy_Pa_init none) {K44 : zs_P} (h44 : zA_Pa_init p l e s m args below meth c G Q 44 K44) : zA_Pa_init p l e s m args below meth c G Q 51 (zb_Pa_init_51 Q K44) := by
  unfold zb_Pa_init_51
  refine za_ild B.1 dd_Pa_init_51 ?_
  refine za_ild_n B.1 2 dd_Pa_init_53 rfl ?_
  refine za_rem B.1 dd_Pa_init_54 ?_
  refine za_ild_n B.1 1 dd_Pa_init_55 rfl ?_
  exact za_cmp_ne B.1 66 dd_Pa_init_56 (by decide) (zr_Pa_init_59 B h44) (zr_Pa_init_66 B h44)
theorem zr_Pa_init_44 (B : zs_B p s m args meth c G bb_Pa_init 5 yy_Pa_init none) {K44 : zs_P} (h44 : zA_Pa_init p l e s m args below meth c G Q 44 K44) : zA_Pa_init p l e s m args below meth c G Q 44 (zb_Pa_init_44 Q K44) := by
  unfold zb_Pa_init_44
  refine za_ild B.1 dd_Pa_init_44 ?_
  refine za_bip B.1 12 dd_Pa_init_46 (by decide) ?_
  exact za_cmp_ge B.1 72 dd_Pa_init_48 (by decide) (zr_Pa_init_72 B) (zr_Pa_init_51 B h44)
theorem zq_Pa_init_44 (B : zs_B p s m args meth c G bb_Pa_init 5 yy_Pa_init none) : zA_Pa_init p l e s m args below meth c G Q 44 (zl_Pa_init_44 Q) := za_lop (fun K hK => zr_Pa_init_44 B hK)
theorem zr_Pa_init_0 (B : zs_B p s m args meth c G bb_Pa_init 5 yy_Pa_init none) : zA_Pa_init p l e s m args below meth c G Q 0 (zb_Pa_init_0 Q) := by
  unfold zb_Pa_init_0
  refine za_ald_n B.1 0 dd_Pa_init_0 rfl ?_
  refine za_oin B.1 (by decide) zW_70 zW_19 zW_20 dd_Pa_init_1 ?_
  refine za_ald_n B.1 0 dd_Pa_init_4 rfl ?_
  refine za_ico B.1 0 dd_Pa_init_5 (by decide) ?_
  refine za_ptI B.1 1 1 zi_1 zy_Pa zy_Pa_ok zn_Pa rfl (by decide) (by decide) rfl zW_73 rfl rfl rfl dd_Pa_init_6 ?_
  refine za_ald_n B.1 0 dd_Pa_init_9 rfl ?_
  refine za_bip B.1 10 dd_Pa_init_10 (by decide) ?_
  refine za_nwr B.1 6 2 3 120 rfl rfl rfl zW_71 (by decide) dd_Pa_init_12 ?_
  refine za_ptRF (ty := .array (.object "SequencedBatches$Transaction")) B.1 1 2 zi_1 zy_Pa zy_Pa_ok zn_Pa rfl (by decide) (by decide) rfl zW_74 rfl rfl B.2.2.2 rfl rfl (Or.inr ⟨_, rfl⟩) dd_Pa_init_15 ?_
  refine za_ald_n B.1 0 dd_Pa_init_18 rfl ?_
  refine za_bip B.1 10 dd_Pa_init_19 (by decide) ?_
  refine za_nwz B.1 3 120 rfl rfl zW_30 dd_Pa_init_21 ?_
  refine za_ptRF (ty := .array .boolean) B.1 1 3 zi_1 zy_Pa zy_Pa_ok zn_Pa rfl (by decide) (by decide) rfl zW_75 rfl rfl B.2.2.2 rfl rfl (Or.inr ⟨_, rfl⟩) dd_Pa_init_23 ?_
  refine za_ald_n B.1 0 dd_Pa_init_26 rfl ?_
  refine za_ico B.1 0 dd_Pa_init_27 (by decide) ?_
  refine za_ptI B.1 1 4 zi_1 zy_Pa zy_Pa_ok zn_Pa rfl (by decide) (by decide) rfl zW_76 rfl rfl rfl dd_Pa_init_28 ?_
  refine za_ald_n B.1 0 dd_Pa_init_31 rfl ?_
  refine za_bip B.1 100 dd_Pa_init_32 (by decide) ?_
  refine za_nwi B.1 3 120 rfl rfl zW_31 dd_Pa_init_34 ?_
  refine za_ptRF (ty := .array .int) B.1 1 5 zi_1 zy_Pa zy_Pa_ok zn_Pa rfl (by decide) (by decide) rfl zW_77 rfl rfl B.2.2.2 rfl rfl (Or.inr ⟨_, rfl⟩) dd_Pa_init_36 ?_
  refine za_ico B.1 0 dd_Pa_init_39 (by decide) ?_
  refine za_ist_n B.1 3 dd_Pa_init_40 rfl (by decide) ?_
  refine za_ico B.1 0 dd_Pa_init_41 (by decide) ?_
  refine za_ist B.1 dd_Pa_init_42 (by decide) ?_
  exact (zq_Pa_init_44 B)
end
theorem zm_Pa_init (l : Launch) (G : zs_G) (As : List Value) (σ : zs_S) (Q : zs_Q) (h : zw_Pa_init As σ Q) : zs_Met l yy_Pa_init (Cond.code yy_Pa_init bb_Pa_init 5 none :: zw_all) zk_Pa_init G As σ Q 3 120 := by
  unfold zw_Pa_init at h
  split at h
  · exact zs_enter (by decide +kernel) h.1 (Nat.le_of_ble_eq_true rfl) h.2 (fun p e s m args below meth c B => zr_Pa_init_0 B)
  · exact h.elim
-- SequencedBatches$Replica.<init>(I)V
theorem dd_Rp_init_0 : decode bb_Rp_init 0 = .ok (.aload_n 0, 1) := by decide +kernel
theorem dd_Rp_init_1 : decode bb_Rp_init 1 = .ok (.invokespecial 3, 3) := by decide +kernel
theorem dd_Rp_init_4 : decode bb_Rp_init 4 = .ok (.aload_n 0, 1) := by decide +kernel
theorem dd_Rp_init_5 : decode bb_Rp_init 5 = .ok (.bipush 40, 2) := by decide +kernel
theorem dd_Rp_init_7 : decode bb_Rp_init 7 = .ok (.anewarray 9, 3) := by decide +kernel
theorem dd_Rp_init_10 : decode bb_Rp_init 10 = .ok (.putfield 11, 3) := by decide +kernel
theorem dd_Rp_init_13 : decode bb_Rp_init 13 = .ok (.aload_n 0, 1) := by decide +kernel
theorem dd_Rp_init_14 : decode bb_Rp_init 14 = .ok (.iconst 0, 1) := by decide +kernel
theorem dd_Rp_init_15 : decode bb_Rp_init 15 = .ok (.putfield 17, 3) := by decide +kernel
theorem dd_Rp_init_18 : decode bb_Rp_init 18 = .ok (.aload_n 0, 1) := by decide +kernel
theorem dd_Rp_init_19 : decode bb_Rp_init 19 = .ok (.bipush 100, 2) := by decide +kernel
theorem dd_Rp_init_21 : decode bb_Rp_init 21 = .ok (.anewarray 21, 3) := by decide +kernel
theorem dd_Rp_init_24 : decode bb_Rp_init 24 = .ok (.putfield 23, 3) := by decide +kernel
theorem dd_Rp_init_27 : decode bb_Rp_init 27 = .ok (.aload_n 0, 1) := by decide +kernel
theorem dd_Rp_init_28 : decode bb_Rp_init 28 = .ok (.iconst 0, 1) := by decide +kernel
theorem dd_Rp_init_29 : decode bb_Rp_init 29 = .ok (.putfield 27, 3) := by decide +kernel
theorem dd_Rp_init_32 : decode bb_Rp_init 32 = .ok (.aload_n 0, 1) := by decide +kernel
theorem dd_Rp_init_33 : decode bb_Rp_init 33 = .ok (.bipush 12, 2) := by decide +kernel
theorem dd_Rp_init_35 : decode bb_Rp_init 35 = .ok (.newarray .int, 2) := by decide +kernel
theorem dd_Rp_init_37 : decode bb_Rp_init 37 = .ok (.putfield 30, 3) := by decide +kernel
theorem dd_Rp_init_40 : decode bb_Rp_init 40 = .ok (.aload_n 0, 1) := by decide +kernel
theorem dd_Rp_init_41 : decode bb_Rp_init 41 = .ok (.iconst 0, 1) := by decide +kernel
theorem dd_Rp_init_42 : decode bb_Rp_init 42 = .ok (.putfield 34, 3) := by decide +kernel
theorem dd_Rp_init_45 : decode bb_Rp_init 45 = .ok (.aload_n 0, 1) := by decide +kernel
theorem dd_Rp_init_46 : decode bb_Rp_init 46 = .ok (.bipush 12, 2) := by decide +kernel
theorem dd_Rp_init_48 : decode bb_Rp_init 48 = .ok (.newarray .int, 2) := by decide +kernel
theorem dd_Rp_init_50 : decode bb_Rp_init 50 = .ok (.putfield 37, 3) := by decide +kernel
theorem dd_Rp_init_53 : decode bb_Rp_init 53 = .ok (.aload_n 0, 1) := by decide +kernel
theorem dd_Rp_init_54 : decode bb_Rp_init 54 = .ok (.bipush 100, 2) := by decide +kernel
theorem dd_Rp_init_56 : decode bb_Rp_init 56 = .ok (.newarray .int, 2) := by decide +kernel
theorem dd_Rp_init_58 : decode bb_Rp_init 58 = .ok (.putfield 40, 3) := by decide +kernel
theorem dd_Rp_init_61 : decode bb_Rp_init 61 = .ok (.aload_n 0, 1) := by decide +kernel
theorem dd_Rp_init_62 : decode bb_Rp_init 62 = .ok (.bipush 100, 2) := by decide +kernel
theorem dd_Rp_init_64 : decode bb_Rp_init 64 = .ok (.newarray .int, 2) := by decide +kernel
theorem dd_Rp_init_66 : decode bb_Rp_init 66 = .ok (.putfield 43, 3) := by decide +kernel
theorem dd_Rp_init_69 : decode bb_Rp_init 69 = .ok (.aload_n 0, 1) := by decide +kernel
theorem dd_Rp_init_70 : decode bb_Rp_init 70 = .ok (.iload_n 1, 1) := by decide +kernel
theorem dd_Rp_init_71 : decode bb_Rp_init 71 = .ok (.anewarray 46, 3) := by decide +kernel
theorem dd_Rp_init_74 : decode bb_Rp_init 74 = .ok (.putfield 48, 3) := by decide +kernel
theorem dd_Rp_init_77 : decode bb_Rp_init 77 = .ok (.iconst 0, 1) := by decide +kernel
theorem dd_Rp_init_78 : decode bb_Rp_init 78 = .ok (.istore_n 2, 1) := by decide +kernel
theorem dd_Rp_init_79 : decode bb_Rp_init 79 = .ok (.iload_n 2, 1) := by decide +kernel
theorem dd_Rp_init_80 : decode bb_Rp_init 80 = .ok (.iload_n 1, 1) := by decide +kernel
theorem dd_Rp_init_81 : decode bb_Rp_init 81 = .ok (.if_icmp .ge 24, 3) := by decide +kernel
theorem dd_Rp_init_84 : decode bb_Rp_init 84 = .ok (.aload_n 0, 1) := by decide +kernel
theorem dd_Rp_init_85 : decode bb_Rp_init 85 = .ok (.getfield 48, 3) := by decide +kernel
theorem dd_Rp_init_88 : decode bb_Rp_init 88 = .ok (.iload_n 2, 1) := by decide +kernel
theorem dd_Rp_init_89 : decode bb_Rp_init 89 = .ok (.new 46, 3) := by decide +kernel
theorem dd_Rp_init_92 : decode bb_Rp_init 92 = .ok (.dup, 1) := by decide +kernel
theorem dd_Rp_init_93 : decode bb_Rp_init 93 = .ok (.iload_n 2, 1) := by decide +kernel
theorem dd_Rp_init_94 : decode bb_Rp_init 94 = .ok (.iload_n 1, 1) := by decide +kernel
theorem dd_Rp_init_95 : decode bb_Rp_init 95 = .ok (.invokespecial 52, 3) := by decide +kernel
theorem dd_Rp_init_98 : decode bb_Rp_init 98 = .ok (.aastore, 1) := by decide +kernel
theorem dd_Rp_init_99 : decode bb_Rp_init 99 = .ok (.iinc 2 1, 3) := by decide +kernel
theorem dd_Rp_init_102 : decode bb_Rp_init 102 = .ok (.goto (-23), 3) := by decide +kernel
theorem dd_Rp_init_105 : decode bb_Rp_init 105 = .ok (.iconst 0, 1) := by decide +kernel
theorem dd_Rp_init_106 : decode bb_Rp_init 106 = .ok (.istore_n 2, 1) := by decide +kernel
theorem dd_Rp_init_107 : decode bb_Rp_init 107 = .ok (.iload_n 2, 1) := by decide +kernel
theorem dd_Rp_init_108 : decode bb_Rp_init 108 = .ok (.bipush 12, 2) := by decide +kernel
theorem dd_Rp_init_110 : decode bb_Rp_init 110 = .ok (.if_icmp .ge 25, 3) := by decide +kernel
theorem dd_Rp_init_113 : decode bb_Rp_init 113 = .ok (.aload_n 0, 1) := by decide +kernel
theorem dd_Rp_init_114 : decode bb_Rp_init 114 = .ok (.getfield 30, 3) := by decide +kernel
theorem dd_Rp_init_117 : decode bb_Rp_init 117 = .ok (.iload_n 2, 1) := by decide +kernel
theorem dd_Rp_init_118 : decode bb_Rp_init 118 = .ok (.bipush 100, 2) := by decide +kernel
theorem dd_Rp_init_120 : decode bb_Rp_init 120 = .ok (.iastore, 1) := by decide +kernel
theorem dd_Rp_init_121 : decode bb_Rp_init 121 = .ok (.aload_n 0, 1) := by decide +kernel
theorem dd_Rp_init_122 : decode bb_Rp_init 122 = .ok (.getfield 37, 3) := by decide +kernel
theorem dd_Rp_init_125 : decode bb_Rp_init 125 = .ok (.iload_n 2, 1) := by decide +kernel
theorem dd_Rp_init_126 : decode bb_Rp_init 126 = .ok (.bipush 100, 2) := by decide +kernel
theorem dd_Rp_init_128 : decode bb_Rp_init 128 = .ok (.iastore, 1) := by decide +kernel
theorem dd_Rp_init_129 : decode bb_Rp_init 129 = .ok (.iinc 2 1, 3) := by decide +kernel
theorem dd_Rp_init_132 : decode bb_Rp_init 132 = .ok (.goto (-25), 3) := by decide +kernel
theorem dd_Rp_init_135 : decode bb_Rp_init 135 = .ok (.return_, 1) := by decide +kernel
def zk_Rp_init : Room := { frames := 2, cells := 24, slots := 900, locals := 64 }
abbrev zA_Rp_init (p : Program) (l : Launch) (e : Env) (s : State) (m : MethodId) (args : Array Value) (below : List Frame) (meth : Method) (c : Code) (G : zs_G) (Q : zs_Q) (pc : Nat) (P : zs_P) : Prop := zs_At p l e zk_Rp_init s m args below meth c (MQ below (zs_Qc G Q) args s 24 900 (fun q => zg_z G ≤ q)) G 3 pc P
def zb_Rp_init_135 (Q : zs_Q) : zs_P := zt_vrt 24 900 Q
def zb_Rp_init_113 (Q : zs_Q) (K107 : zs_P) : zs_P := zt_ald 0 (zt_gtR 3 4 (zt_ild 2 (zt_psh 100 (zt_ias (zt_ald 0 (zt_gtR 3 6 (zt_ild 2 (zt_psh 100 (zt_ias (zt_inc 2 1 (K107)))))))))))
def zb_Rp_init_107 (Q : zs_Q) (K107 : zs_P) : zs_P := zt_ild 2 (zt_psh 12 (zt_cmp (fun x y => y ≤ x) (zb_Rp_init_135 Q) (zb_Rp_init_113 Q K107)))
def zl_Rp_init_107 (Q : zs_Q) : zs_P := zt_ex (zb_Rp_init_107 Q)
def zb_Rp_init_105 (Q : zs_Q) : zs_P := zt_psh 0 (zt_ist 2 ((zl_Rp_init_107 Q)))
def zb_Rp_init_84 (Q : zs_Q) (K79 : zs_P) : zs_P := zt_ald 0 (zt_gtR 3 7 (zt_ild 2 (zt_nwo 1 6 24 900 (zt_dup (zt_ild 2 (zt_ild 1 (zt_cai zw_Pa_init (2 + 1) 3 120 24 900 (zt_ras 1 (zt_inc 2 1 (K79))))))))))
def zb_Rp_init_79 (Q : zs_Q) (K79 : zs_P) : zs_P := zt_ild 2 (zt_ild 1 (zt_cmp (fun x y => y ≤ x) (zb_Rp_init_105 Q) (zb_Rp_init_84 Q K79)))
def zl_Rp_init_79 (Q : zs_Q) : zs_P := zt_ex (zb_Rp_init_79 Q)
def zb_Rp_init_0 (Q : zs_Q) : zs_P := zt_ald 0 (zt_oin (zt_ald 0 (zt_psh 40 (zt_nwa (110 + 5) 24 900 (zt_ptR 3 0 (zt_ald 0 (zt_psh 0 (zt_ptI 3 1 (zt_ald 0 (zt_psh 100 (zt_nwa (110 + 6) 24 900 (zt_ptR 3 2 (zt_ald 0 (zt_psh 0 (zt_ptI 3 3 (zt_ald 0 (zt_psh 12 (zt_nwa 100 24 900 (zt_ptR 3 4 (zt_ald 0 (zt_psh 0 (zt_ptI 3 5 (zt_ald 0 (zt_psh 12 (zt_nwa 100 24 900 (zt_ptR 3 6 (zt_ald 0 (zt_psh 100 (zt_nwa 100 24 900 (zt_ptR 3 8 (zt_ald 0 (zt_psh 100 (zt_nwa 100 24 900 (zt_ptR 3 9 (zt_ald 0 (zt_ild 1 (zt_nwa (110 + 1) 24 900 (zt_ptR 3 7 (zt_psh 0 (zt_ist 2 ((zl_Rp_init_79 Q))))))))))))))))))))))))))))))))))))))))))
def zw_Rp_init : zs_W := fun As σ Q => match As with
  | [a0, a1] => zs_c1 [a0, a1] = true ∧ zb_Rp_init_0 Q [some a0, some a1, none] [] σ 0 0
  | _ => False
section
variable {p : Program} {l : Launch} {e : Env} {s : State} {m : MethodId} {args : Array Value} {below : List Frame} {meth : Method} {c : Code} {G : zs_G} {Q : zs_Q}
theorem zr_Rp_init_135 (B : zs_B p s m args meth c G bb_Rp_init 3 yy_Rp_init none) : zA_Rp_init p l e s m args below meth c G Q 135 (zb_Rp_init_135 Q) := by
  unfold zb_Rp_init_135
  exact za_vrt B.1 24 900 B.2.1 B.2.2.1 dd_Rp_init_135
theorem zr_Rp_init_113 (B : zs_B p s m args meth c G bb_Rp_init 3 yy_Rp_init none) {K107 : zs_P} (h107 : zA_Rp_init p l e s m args below meth c G Q 107 K107) : zA_Rp_init p l e s m args below meth c G Q 113 (zb_Rp_init_113 Q K107) := by
  unfold zb_Rp_init_113
  refine za_ald_n B.1 0 dd_Rp_init_113 rfl ?_
  refine za_gtR B.1 3 4 zi_3 rfl (by decide) (by decide) rfl zW_82 rfl dd_Rp_init_114 ?_
  refine za_ild_n B.1 2 dd_Rp_init_117 rfl ?_
  refine za_bip B.1 100 dd_Rp_init_118 (by decide) ?_
  refine za_iast B.1 dd_Rp_init_120 ?_
  refine za_ald_n B.1 0 dd_Rp_init_121 rfl ?_
  refine za_gtR B.1 3 6 zi_3 rfl (by decide) (by decide) rfl zW_84 rfl dd_Rp_init_122 ?_
  refine za_ild_n B.1 2 dd_Rp_init_125 rfl ?_
  refine za_bip B.1 100 dd_Rp_init_126 (by decide) ?_
  refine za_iast B.1 dd_Rp_init_128 ?_
  refine za_inc B.1 1 dd_Rp_init_129 (by decide) (by decide) ?_
  refine za_goto B.1 107 dd_Rp_init_132 (by decide) ?_
  exact h107
theorem zr_Rp_init_107 (B : zs_B p s m args meth c G bb_Rp_init 3 yy_Rp_init none) {K107 : zs_P} (h107 : zA_Rp_init p l e s m args below meth c G Q 107 K107) : zA_Rp_init p l e s m args below meth c G Q 107 (zb_Rp_init_107 Q K107) := by
  unfold zb_Rp_init_107
  refine za_ild_n B.1 2 dd_Rp_init_107 rfl ?_
  refine za_bip B.1 12 dd_Rp_init_108 (by decide) ?_
  exact za_cmp_ge B.1 135 dd_Rp_init_110 (by decide) (zr_Rp_init_135 B) (zr_Rp_init_113 B h107)
theorem zq_Rp_init_107 (B : zs_B p s m args meth c G bb_Rp_init 3 yy_Rp_init none) : zA_Rp_init p l e s m args below meth c G Q 107 (zl_Rp_init_107 Q) := za_lop (fun K hK => zr_Rp_init_107 B hK)
theorem zr_Rp_init_105 (B : zs_B p s m args meth c G bb_Rp_init 3 yy_Rp_init none) : zA_Rp_init p l e s m args below meth c G Q 105 (zb_Rp_init_105 Q) := by
  unfold zb_Rp_init_105
  refine za_ico B.1 0 dd_Rp_init_105 (by decide) ?_
  refine za_ist_n B.1 2 dd_Rp_init_106 rfl (by decide) ?_
  exact (zq_Rp_init_107 B)
theorem zr_Rp_init_84 (B : zs_B p s m args meth c G bb_Rp_init 3 yy_Rp_init none) {K79 : zs_P} (h79 : zA_Rp_init p l e s m args below meth c G Q 79 K79) : zA_Rp_init p l e s m args below meth c G Q 84 (zb_Rp_init_84 Q K79) := by
  unfold zb_Rp_init_84
  refine za_ald_n B.1 0 dd_Rp_init_84 rfl ?_
  refine za_gtR B.1 3 7 zi_3 rfl (by decide) (by decide) rfl zW_85 rfl dd_Rp_init_85 ?_
  refine za_ild_n B.1 2 dd_Rp_init_88 rfl ?_
  refine za_nwo B.1 1 24 900 rfl rfl zi_1 zy_Pa zy_Pa_ok rfl (by decide) zs_df1 zW_65 zW_66 zW_7 dd_Rp_init_89 ?_
  refine za_dup B.1 dd_Rp_init_92 ?_
  refine za_ild_n B.1 2 dd_Rp_init_93 rfl ?_
  refine za_ild_n B.1 1 dd_Rp_init_94 rfl ?_
  refine za_cI B.1 2 3 120 24 900 rfl rfl (zm_Pa_init l G) ⟨callB_of 2 B.1.1.2.2.2.2 (zs_good zW_69) rfl rfl rfl (B.1.1.2.2.2.2 _ zW_7) (B.1.1.2.2.2.2 _ zW_67) (by decide +kernel) ⟨by decide, by decide⟩, rfl, (B.1.1.2.2.2.2 _ zW_68)⟩ dd_Rp_init_95 ?_
  refine za_rast B.1 1 7 (by decide) rfl rfl dd_Rp_init_98 ?_
  refine za_inc B.1 1 dd_Rp_init_99 (by decide) (by decide) ?_
  refine za_goto B.1 79 dd_Rp_init_102 (by decide) ?_
  exact h79
theorem zr_Rp_init_79 (B : zs_B p s m args meth c G bb_Rp_init 3 yy_Rp_init none) {K79 : zs_P} (h79 : zA_Rp_init p l e s m args below meth c G Q 79 K79) : zA_Rp_init p l e s m args below meth c G Q 79 (zb_Rp_init_79 Q K79) := by
  unfold zb_Rp_init_79
  refine za_ild_n B.1 2 dd_Rp_init_79 rfl ?_
  refine za_ild_n B.1 1 dd_Rp_init_80 rfl ?_
  exact za_cmp_ge B.1 105 dd_Rp_init_81 (by decide) (zr_Rp_init_105 B) (zr_Rp_init_84 B h79)
theorem zq_Rp_init_79 (B : zs_B p s m args meth c G bb_Rp_init 3 yy_Rp_init none) : zA_Rp_init p l e s m args below meth c G Q 79 (zl_Rp_init_79 Q) := za_lop (fun K hK => zr_Rp_init_79 B hK)
theorem zr_Rp_init_0 (B : zs_B p s m args meth c G bb_Rp_init 3 yy_Rp_init none) : zA_Rp_init p l e s m args below meth c G Q 0 (zb_Rp_init_0 Q) := by
  unfold zb_Rp_init_0
  refine za_ald_n B.1 0 dd_Rp_init_0 rfl ?_
  refine za_oin B.1 (by decide) zW_62 zW_19 zW_20 dd_Rp_init_1 ?_
  refine za_ald_n B.1 0 dd_Rp_init_4 rfl ?_
  refine za_bip B.1 40 dd_Rp_init_5 (by decide) ?_
  refine za_nwr B.1 5 6 24 900 rfl rfl rfl zW_63 (by decide) dd_Rp_init_7 ?_
  refine za_ptRF (ty := .array (.object "SequencedBatches$Slot")) B.1 3 0 zi_3 zy_Rp zy_Rp_ok zn_Rp rfl (by decide) (by decide) rfl zW_78 rfl rfl B.2.2.2 rfl rfl (Or.inr ⟨_, rfl⟩) dd_Rp_init_10 ?_
  refine za_ald_n B.1 0 dd_Rp_init_13 rfl ?_
  refine za_ico B.1 0 dd_Rp_init_14 (by decide) ?_
  refine za_ptI B.1 3 1 zi_3 zy_Rp zy_Rp_ok zn_Rp rfl (by decide) (by decide) rfl zW_79 rfl rfl rfl dd_Rp_init_15 ?_
  refine za_ald_n B.1 0 dd_Rp_init_18 rfl ?_
  refine za_bip B.1 100 dd_Rp_init_19 (by decide) ?_
  refine za_nwr B.1 6 2 24 900 rfl rfl rfl zW_64 (by decide) dd_Rp_init_21 ?_
  refine za_ptRF (ty := .array (.object "SequencedBatches$Transaction")) B.1 3 2 zi_3 zy_Rp zy_Rp_ok zn_Rp rfl (by decide) (by decide) rfl zW_80 rfl rfl B.2.2.2 rfl rfl (Or.inr ⟨_, rfl⟩) dd_Rp_init_24 ?_
  refine za_ald_n B.1 0 dd_Rp_init_27 rfl ?_
  refine za_ico B.1 0 dd_Rp_init_28 (by decide) ?_
  refine za_ptI B.1 3 3 zi_3 zy_Rp zy_Rp_ok zn_Rp rfl (by decide) (by decide) rfl zW_81 rfl rfl rfl dd_Rp_init_29 ?_
  refine za_ald_n B.1 0 dd_Rp_init_32 rfl ?_
  refine za_bip B.1 12 dd_Rp_init_33 (by decide) ?_
  refine za_nwi B.1 24 900 rfl rfl zW_31 dd_Rp_init_35 ?_
  refine za_ptRF (ty := .array .int) B.1 3 4 zi_3 zy_Rp zy_Rp_ok zn_Rp rfl (by decide) (by decide) rfl zW_82 rfl rfl B.2.2.2 rfl rfl (Or.inr ⟨_, rfl⟩) dd_Rp_init_37 ?_
  refine za_ald_n B.1 0 dd_Rp_init_40 rfl ?_
  refine za_ico B.1 0 dd_Rp_init_41 (by decide) ?_
  refine za_ptI B.1 3 5 zi_3 zy_Rp zy_Rp_ok zn_Rp rfl (by decide) (by decide) rfl zW_83 rfl rfl rfl dd_Rp_init_42 ?_
  refine za_ald_n B.1 0 dd_Rp_init_45 rfl ?_
  refine za_bip B.1 12 dd_Rp_init_46 (by decide) ?_
  refine za_nwi B.1 24 900 rfl rfl zW_31 dd_Rp_init_48 ?_
  refine za_ptRF (ty := .array .int) B.1 3 6 zi_3 zy_Rp zy_Rp_ok zn_Rp rfl (by decide) (by decide) rfl zW_84 rfl rfl B.2.2.2 rfl rfl (Or.inr ⟨_, rfl⟩) dd_Rp_init_50 ?_
  refine za_ald_n B.1 0 dd_Rp_init_53 rfl ?_
  refine za_bip B.1 100 dd_Rp_init_54 (by decide) ?_
  refine za_nwi B.1 24 900 rfl rfl zW_31 dd_Rp_init_56 ?_
  refine za_ptRF (ty := .array .int) B.1 3 8 zi_3 zy_Rp zy_Rp_ok zn_Rp rfl (by decide) (by decide) rfl zW_86 rfl rfl B.2.2.2 rfl rfl (Or.inr ⟨_, rfl⟩) dd_Rp_init_58 ?_
  refine za_ald_n B.1 0 dd_Rp_init_61 rfl ?_
  refine za_bip B.1 100 dd_Rp_init_62 (by decide) ?_
  refine za_nwi B.1 24 900 rfl rfl zW_31 dd_Rp_init_64 ?_
  refine za_ptRF (ty := .array .int) B.1 3 9 zi_3 zy_Rp zy_Rp_ok zn_Rp rfl (by decide) (by decide) rfl zW_87 rfl rfl B.2.2.2 rfl rfl (Or.inr ⟨_, rfl⟩) dd_Rp_init_66 ?_
  refine za_ald_n B.1 0 dd_Rp_init_69 rfl ?_
  refine za_ild_n B.1 1 dd_Rp_init_70 rfl ?_
  refine za_nwr B.1 1 7 24 900 rfl rfl rfl zW_65 (by decide) dd_Rp_init_71 ?_
  refine za_ptRF (ty := .array (.object "SequencedBatches$Partition")) B.1 3 7 zi_3 zy_Rp zy_Rp_ok zn_Rp rfl (by decide) (by decide) rfl zW_85 rfl rfl B.2.2.2 rfl rfl (Or.inr ⟨_, rfl⟩) dd_Rp_init_74 ?_
  refine za_ico B.1 0 dd_Rp_init_77 (by decide) ?_
  refine za_ist_n B.1 2 dd_Rp_init_78 rfl (by decide) ?_
  exact (zq_Rp_init_79 B)
end
theorem zm_Rp_init (l : Launch) (G : zs_G) (As : List Value) (σ : zs_S) (Q : zs_Q) (h : zw_Rp_init As σ Q) : zs_Met l yy_Rp_init (Cond.code yy_Rp_init bb_Rp_init 3 none :: zw_all) zk_Rp_init G As σ Q 24 900 := by
  unfold zw_Rp_init at h
  split at h
  · exact zs_enter (by decide +kernel) h.1 (Nat.le_of_ble_eq_true rfl) h.2 (fun p e s m args below meth c B => zr_Rp_init_0 B)
  · exact h.elim
-- SequencedBatches.<init>(I)V
theorem dd_SB_init_0 : decode bb_SB_init 0 = .ok (.aload_n 0, 1) := by decide +kernel
theorem dd_SB_init_1 : decode bb_SB_init 1 = .ok (.invokespecial 3, 3) := by decide +kernel
theorem dd_SB_init_4 : decode bb_SB_init 4 = .ok (.aload_n 0, 1) := by decide +kernel
theorem dd_SB_init_5 : decode bb_SB_init 5 = .ok (.bipush 7, 2) := by decide +kernel
theorem dd_SB_init_7 : decode bb_SB_init 7 = .ok (.newarray .boolean, 2) := by decide +kernel
theorem dd_SB_init_9 : decode bb_SB_init 9 = .ok (.putfield 9, 3) := by decide +kernel
theorem dd_SB_init_12 : decode bb_SB_init 12 = .ok (.aload_n 0, 1) := by decide +kernel
theorem dd_SB_init_13 : decode bb_SB_init 13 = .ok (.bipush 100, 2) := by decide +kernel
theorem dd_SB_init_15 : decode bb_SB_init 15 = .ok (.anewarray 13, 3) := by decide +kernel
theorem dd_SB_init_18 : decode bb_SB_init 18 = .ok (.putfield 15, 3) := by decide +kernel
theorem dd_SB_init_21 : decode bb_SB_init 21 = .ok (.aload_n 0, 1) := by decide +kernel
theorem dd_SB_init_22 : decode bb_SB_init 22 = .ok (.iconst 0, 1) := by decide +kernel
theorem dd_SB_init_23 : decode bb_SB_init 23 = .ok (.putfield 19, 3) := by decide +kernel
theorem dd_SB_init_26 : decode bb_SB_init 26 = .ok (.aload_n 0, 1) := by decide +kernel
theorem dd_SB_init_27 : decode bb_SB_init 27 = .ok (.new 23, 3) := by decide +kernel
theorem dd_SB_init_30 : decode bb_SB_init 30 = .ok (.dup, 1) := by decide +kernel
theorem dd_SB_init_31 : decode bb_SB_init 31 = .ok (.invokespecial 25, 3) := by decide +kernel
theorem dd_SB_init_34 : decode bb_SB_init 34 = .ok (.putfield 26, 3) := by decide +kernel
theorem dd_SB_init_37 : decode bb_SB_init 37 = .ok (.aload_n 0, 1) := by decide +kernel
theorem dd_SB_init_38 : decode bb_SB_init 38 = .ok (.iconst 3, 1) := by decide +kernel
theorem dd_SB_init_39 : decode bb_SB_init 39 = .ok (.anewarray 30, 3) := by decide +kernel
theorem dd_SB_init_42 : decode bb_SB_init 42 = .ok (.putfield 32, 3) := by decide +kernel
theorem dd_SB_init_45 : decode bb_SB_init 45 = .ok (.aload_n 0, 1) := by decide +kernel
theorem dd_SB_init_46 : decode bb_SB_init 46 = .ok (.iconst 2, 1) := by decide +kernel
theorem dd_SB_init_47 : decode bb_SB_init 47 = .ok (.anewarray 36, 3) := by decide +kernel
theorem dd_SB_init_50 : decode bb_SB_init 50 = .ok (.putfield 38, 3) := by decide +kernel
theorem dd_SB_init_53 : decode bb_SB_init 53 = .ok (.aload_n 0, 1) := by decide +kernel
theorem dd_SB_init_54 : decode bb_SB_init 54 = .ok (.iconst 2, 1) := by decide +kernel
theorem dd_SB_init_55 : decode bb_SB_init 55 = .ok (.anewarray 42, 3) := by decide +kernel
theorem dd_SB_init_58 : decode bb_SB_init 58 = .ok (.putfield 44, 3) := by decide +kernel
theorem dd_SB_init_61 : decode bb_SB_init 61 = .ok (.aload_n 0, 1) := by decide +kernel
theorem dd_SB_init_62 : decode bb_SB_init 62 = .ok (.iconst 1, 1) := by decide +kernel
theorem dd_SB_init_63 : decode bb_SB_init 63 = .ok (.iconst 4, 1) := by decide +kernel
theorem dd_SB_init_64 : decode bb_SB_init 64 = .ok (.iload_n 1, 1) := by decide +kernel
theorem dd_SB_init_65 : decode bb_SB_init 65 = .ok (.invokestatic 48, 3) := by decide +kernel
theorem dd_SB_init_68 : decode bb_SB_init 68 = .ok (.invokestatic 54, 3) := by decide +kernel
theorem dd_SB_init_71 : decode bb_SB_init 71 = .ok (.putfield 57, 3) := by decide +kernel
theorem dd_SB_init_74 : decode bb_SB_init 74 = .ok (.iconst 0, 1) := by decide +kernel
theorem dd_SB_init_75 : decode bb_SB_init 75 = .ok (.istore_n 2, 1) := by decide +kernel
theorem dd_SB_init_76 : decode bb_SB_init 76 = .ok (.iload_n 2, 1) := by decide +kernel
theorem dd_SB_init_77 : decode bb_SB_init 77 = .ok (.iconst 3, 1) := by decide +kernel
theorem dd_SB_init_78 : decode bb_SB_init 78 = .ok (.if_icmp .ge 22, 3) := by decide +kernel
theorem dd_SB_init_81 : decode bb_SB_init 81 = .ok (.aload_n 0, 1) := by decide +kernel
theorem dd_SB_init_82 : decode bb_SB_init 82 = .ok (.getfield 32, 3) := by decide +kernel
theorem dd_SB_init_85 : decode bb_SB_init 85 = .ok (.iload_n 2, 1) := by decide +kernel
theorem dd_SB_init_86 : decode bb_SB_init 86 = .ok (.new 30, 3) := by decide +kernel
theorem dd_SB_init_89 : decode bb_SB_init 89 = .ok (.dup, 1) := by decide +kernel
theorem dd_SB_init_90 : decode bb_SB_init 90 = .ok (.invokespecial 60, 3) := by decide +kernel
theorem dd_SB_init_93 : decode bb_SB_init 93 = .ok (.aastore, 1) := by decide +kernel
theorem dd_SB_init_94 : decode bb_SB_init 94 = .ok (.iinc 2 1, 3) := by decide +kernel
theorem dd_SB_init_97 : decode bb_SB_init 97 = .ok (.goto (-21), 3) := by decide +kernel
theorem dd_SB_init_100 : decode bb_SB_init 100 = .ok (.iconst 0, 1) := by decide +kernel
theorem dd_SB_init_101 : decode bb_SB_init 101 = .ok (.istore_n 2, 1) := by decide +kernel
theorem dd_SB_init_102 : decode bb_SB_init 102 = .ok (.iload_n 2, 1) := by decide +kernel
theorem dd_SB_init_103 : decode bb_SB_init 103 = .ok (.iconst 2, 1) := by decide +kernel
theorem dd_SB_init_104 : decode bb_SB_init 104 = .ok (.if_icmp .ge 22, 3) := by decide +kernel
theorem dd_SB_init_107 : decode bb_SB_init 107 = .ok (.aload_n 0, 1) := by decide +kernel
theorem dd_SB_init_108 : decode bb_SB_init 108 = .ok (.getfield 38, 3) := by decide +kernel
theorem dd_SB_init_111 : decode bb_SB_init 111 = .ok (.iload_n 2, 1) := by decide +kernel
theorem dd_SB_init_112 : decode bb_SB_init 112 = .ok (.new 36, 3) := by decide +kernel
theorem dd_SB_init_115 : decode bb_SB_init 115 = .ok (.dup, 1) := by decide +kernel
theorem dd_SB_init_116 : decode bb_SB_init 116 = .ok (.invokespecial 61, 3) := by decide +kernel
theorem dd_SB_init_119 : decode bb_SB_init 119 = .ok (.aastore, 1) := by decide +kernel
theorem dd_SB_init_120 : decode bb_SB_init 120 = .ok (.iinc 2 1, 3) := by decide +kernel
theorem dd_SB_init_123 : decode bb_SB_init 123 = .ok (.goto (-21), 3) := by decide +kernel
theorem dd_SB_init_126 : decode bb_SB_init 126 = .ok (.iconst 0, 1) := by decide +kernel
theorem dd_SB_init_127 : decode bb_SB_init 127 = .ok (.istore_n 2, 1) := by decide +kernel
theorem dd_SB_init_128 : decode bb_SB_init 128 = .ok (.iload_n 2, 1) := by decide +kernel
theorem dd_SB_init_129 : decode bb_SB_init 129 = .ok (.iconst 2, 1) := by decide +kernel
theorem dd_SB_init_130 : decode bb_SB_init 130 = .ok (.if_icmp .ge 26, 3) := by decide +kernel
theorem dd_SB_init_133 : decode bb_SB_init 133 = .ok (.aload_n 0, 1) := by decide +kernel
theorem dd_SB_init_134 : decode bb_SB_init 134 = .ok (.getfield 44, 3) := by decide +kernel
theorem dd_SB_init_137 : decode bb_SB_init 137 = .ok (.iload_n 2, 1) := by decide +kernel
theorem dd_SB_init_138 : decode bb_SB_init 138 = .ok (.new 42, 3) := by decide +kernel
theorem dd_SB_init_141 : decode bb_SB_init 141 = .ok (.dup, 1) := by decide +kernel
theorem dd_SB_init_142 : decode bb_SB_init 142 = .ok (.aload_n 0, 1) := by decide +kernel
theorem dd_SB_init_143 : decode bb_SB_init 143 = .ok (.getfield 57, 3) := by decide +kernel
theorem dd_SB_init_146 : decode bb_SB_init 146 = .ok (.invokespecial 62, 3) := by decide +kernel
theorem dd_SB_init_149 : decode bb_SB_init 149 = .ok (.aastore, 1) := by decide +kernel
theorem dd_SB_init_150 : decode bb_SB_init 150 = .ok (.iinc 2 1, 3) := by decide +kernel
theorem dd_SB_init_153 : decode bb_SB_init 153 = .ok (.goto (-25), 3) := by decide +kernel
theorem dd_SB_init_156 : decode bb_SB_init 156 = .ok (.return_, 1) := by decide +kernel
def zk_SB_init : Room := { frames := 3, cells := 100, slots := 3000, locals := 86 }
abbrev zA_SB_init (p : Program) (l : Launch) (e : Env) (s : State) (m : MethodId) (args : Array Value) (below : List Frame) (meth : Method) (c : Code) (G : zs_G) (Q : zs_Q) (pc : Nat) (P : zs_P) : Prop := zs_At p l e zk_SB_init s m args below meth c (MQ below (zs_Qc G Q) args s 100 3000 (fun q => zg_z G ≤ q)) G 3 pc P
def zb_SB_init_156 (Q : zs_Q) : zs_P := zt_vrt 100 3000 Q
def zb_SB_init_133 (Q : zs_Q) (K128 : zs_P) : zs_P := zt_ald 0 (zt_gtR 7 7 (zt_ild 2 (zt_nwo 3 10 100 3000 (zt_dup (zt_ald 0 (zt_gtI 7 0 (zt_cai zw_Rp_init (1 + 1) 24 900 100 3000 (zt_ras 3 (zt_inc 2 1 (K128))))))))))
def zb_SB_init_128 (Q : zs_Q) (K128 : zs_P) : zs_P := zt_ild 2 (zt_psh 2 (zt_cmp (fun x y => y ≤ x) (zb_SB_init_156 Q) (zb_SB_init_133 Q K128)))
def zl_SB_init_128 (Q : zs_Q) : zs_P := zt_ex (zb_SB_init_128 Q)
def zb_SB_init_126 (Q : zs_Q) : zs_P := zt_psh 0 (zt_ist 2 ((zl_SB_init_128 Q)))
def zb_SB_init_107 (Q : zs_Q) (K102 : zs_P) : zs_P := zt_ald 0 (zt_gtR 7 6 (zt_ild 2 (zt_nwo 4 5 100 3000 (zt_dup (zt_cai zw_Sq_init (0 + 1) 2 26 100 3000 (zt_ras 4 (zt_inc 2 1 (K102))))))))
def zb_SB_init_102 (Q : zs_Q) (K102 : zs_P) : zs_P := zt_ild 2 (zt_psh 2 (zt_cmp (fun x y => y ≤ x) (zb_SB_init_126 Q) (zb_SB_init_107 Q K102)))
def zl_SB_init_102 (Q : zs_Q) : zs_P := zt_ex (zb_SB_init_102 Q)
def zb_SB_init_100 (Q : zs_Q) : zs_P := zt_psh 0 (zt_ist 2 ((zl_SB_init_102 Q)))
def zb_SB_init_81 (Q : zs_Q) (K76 : zs_P) : zs_P := zt_ald 0 (zt_gtR 7 5 (zt_ild 2 (zt_nwo 0 2 100 3000 (zt_dup (zt_cai zw_Ln_init (0 + 1) 2 42 100 3000 (zt_ras 0 (zt_inc 2 1 (K76))))))))
def zb_SB_init_76 (Q : zs_Q) (K76 : zs_P) : zs_P := zt_ild 2 (zt_psh 3 (zt_cmp (fun x y => y ≤ x) (zb_SB_init_100 Q) (zb_SB_init_81 Q K76)))
def zl_SB_init_76 (Q : zs_Q) : zs_P := zt_ex (zb_SB_init_76 Q)
def zb_SB_init_0 (Q : zs_Q) : zs_P := zt_ald 0 (zt_oin (zt_ald 0 (zt_psh 7 (zt_nwa 101 100 3000 (zt_ptR 7 1 (zt_ald 0 (zt_psh 100 (zt_nwa (110 + 6) 100 3000 (zt_ptR 7 2 (zt_ald 0 (zt_psh 0 (zt_ptI 7 3 (zt_ald 0 (zt_nwo 2 3 100 3000 (zt_dup (zt_cai zw_Po_init (0 + 1) 2 200 100 3000 (zt_ptR 7 4 (zt_ald 0 (zt_psh 3 (zt_nwa (110 + 0) 100 3000 (zt_ptR 7 5 (zt_ald 0 (zt_psh 2 (zt_nwa (110 + 4) 100 3000 (zt_ptR 7 6 (zt_ald 0 (zt_psh 2 (zt_nwa (110 + 3) 100 3000 (zt_ptR 7 7 (zt_ald 0 (zt_psh 1 (zt_psh 4 (zt_ild 1 (zt_jmm (fun x y => if y < x then y else x) 100 3000 (zt_jmm (fun x y => if x < y then y else x) 100 3000 (zt_ptI 7 0 (zt_psh 0 (zt_ist 2 ((zl_SB_init_76 Q))))))))))))))))))))))))))))))))))))))))
def zw_SB_init : zs_W := fun As σ Q => match As with
  | [a0, a1] => zs_c1 [a0, a1] = true ∧ zb_SB_init_0 Q [some a0, some a1, none] [] σ 0 0
  | _ => False
section
variable {p : Program} {l : Launch} {e : Env} {s : State} {m : MethodId} {args : Array Value} {below : List Frame} {meth : Method} {c : Code} {G : zs_G} {Q : zs_Q}
theorem zr_SB_init_156 (B : zs_B p s m args meth c G bb_SB_init 3 yy_SB_init none) : zA_SB_init p l e s m args below meth c G Q 156 (zb_SB_init_156 Q) := by
  unfold zb_SB_init_156
  exact za_vrt B.1 100 3000 B.2.1 B.2.2.1 dd_SB_init_156
theorem zr_SB_init_133 (B : zs_B p s m args meth c G bb_SB_init 3 yy_SB_init none) {K128 : zs_P} (h128 : zA_SB_init p l e s m args below meth c G Q 128 K128) : zA_SB_init p l e s m args below meth c G Q 133 (zb_SB_init_133 Q K128) := by
  unfold zb_SB_init_133
  refine za_ald_n B.1 0 dd_SB_init_133 rfl ?_
  refine za_gtR B.1 7 7 zi_7 rfl (by decide) (by decide) rfl zW_95 rfl dd_SB_init_134 ?_
  refine za_ild_n B.1 2 dd_SB_init_137 rfl ?_
  refine za_nwo B.1 3 100 3000 rfl rfl zi_3 zy_Rp zy_Rp_ok rfl (by decide) zs_df3 zW_34 zW_58 zW_6 dd_SB_init_138 ?_
  refine za_dup B.1 dd_SB_init_141 ?_
  refine za_ald_n B.1 0 dd_SB_init_142 rfl ?_
  refine za_gtI B.1 7 0 zi_7 rfl (by decide) (by decide) rfl zW_88 rfl dd_SB_init_143 ?_
  refine za_cI B.1 1 24 900 100 3000 rfl rfl (zm_Rp_init l G) ⟨callB_of 1 B.1.1.2.2.2.2 (zs_good zW_61) rfl rfl rfl (B.1.1.2.2.2.2 _ zW_6) (B.1.1.2.2.2.2 _ zW_59) (by decide +kernel) ⟨by decide, by decide⟩, rfl, (B.1.1.2.2.2.2 _ zW_60)⟩ dd_SB_init_146 ?_
  refine za_rast B.1 3 5 (by decide) rfl rfl dd_SB_init_149 ?_
  refine za_inc B.1 1 dd_SB_init_150 (by decide) (by decide) ?_
  refine za_goto B.1 128 dd_SB_init_153 (by decide) ?_
  exact h128
theorem zr_SB_init_128 (B : zs_B p s m args meth c G bb_SB_init 3 yy_SB_init none) {K128 : zs_P} (h128 : zA_SB_init p l e s m args below meth c G Q 128 K128) : zA_SB_init p l e s m args below meth c G Q 128 (zb_SB_init_128 Q K128) := by
  unfold zb_SB_init_128
  refine za_ild_n B.1 2 dd_SB_init_128 rfl ?_
  refine za_ico B.1 2 dd_SB_init_129 (by decide) ?_
  exact za_cmp_ge B.1 156 dd_SB_init_130 (by decide) (zr_SB_init_156 B) (zr_SB_init_133 B h128)
theorem zq_SB_init_128 (B : zs_B p s m args meth c G bb_SB_init 3 yy_SB_init none) : zA_SB_init p l e s m args below meth c G Q 128 (zl_SB_init_128 Q) := za_lop (fun K hK => zr_SB_init_128 B hK)
theorem zr_SB_init_126 (B : zs_B p s m args meth c G bb_SB_init 3 yy_SB_init none) : zA_SB_init p l e s m args below meth c G Q 126 (zb_SB_init_126 Q) := by
  unfold zb_SB_init_126
  refine za_ico B.1 0 dd_SB_init_126 (by decide) ?_
  refine za_ist_n B.1 2 dd_SB_init_127 rfl (by decide) ?_
  exact (zq_SB_init_128 B)
theorem zr_SB_init_107 (B : zs_B p s m args meth c G bb_SB_init 3 yy_SB_init none) {K102 : zs_P} (h102 : zA_SB_init p l e s m args below meth c G Q 102 K102) : zA_SB_init p l e s m args below meth c G Q 107 (zb_SB_init_107 Q K102) := by
  unfold zb_SB_init_107
  refine za_ald_n B.1 0 dd_SB_init_107 rfl ?_
  refine za_gtR B.1 7 6 zi_7 rfl (by decide) (by decide) rfl zW_94 rfl dd_SB_init_108 ?_
  refine za_ild_n B.1 2 dd_SB_init_111 rfl ?_
  refine za_nwo B.1 4 100 3000 rfl rfl zi_4 zy_Sq zy_Sq_ok rfl (by decide) zs_df4 zW_33 zW_47 zW_5 dd_SB_init_112 ?_
  refine za_dup B.1 dd_SB_init_115 ?_
  refine za_cIN B.1 0 2 26 100 3000 rfl rfl (zm_Sq_init l G) ⟨va_cnB 0 B.1.1.2.2.2.2 (zs_good zW_49) rfl rfl rfl (B.1.2.1.2.2.2.2.1 ("SequencedBatches", 61, yy_Sq_init, "SequencedBatches") (by decide)) (B.1.1.2.2.2.2 _ zW_5) (by decide +kernel) ⟨by decide, by decide⟩, rfl, (B.1.1.2.2.2.2 _ zW_48)⟩ dd_SB_init_116 ?_
  refine za_rast B.1 4 4 (by decide) rfl rfl dd_SB_init_119 ?_
  refine za_inc B.1 1 dd_SB_init_120 (by decide) (by decide) ?_
  refine za_goto B.1 102 dd_SB_init_123 (by decide) ?_
  exact h102
theorem zr_SB_init_102 (B : zs_B p s m args meth c G bb_SB_init 3 yy_SB_init none) {K102 : zs_P} (h102 : zA_SB_init p l e s m args below meth c G Q 102 K102) : zA_SB_init p l e s m args below meth c G Q 102 (zb_SB_init_102 Q K102) := by
  unfold zb_SB_init_102
  refine za_ild_n B.1 2 dd_SB_init_102 rfl ?_
  refine za_ico B.1 2 dd_SB_init_103 (by decide) ?_
  exact za_cmp_ge B.1 126 dd_SB_init_104 (by decide) (zr_SB_init_126 B) (zr_SB_init_107 B h102)
theorem zq_SB_init_102 (B : zs_B p s m args meth c G bb_SB_init 3 yy_SB_init none) : zA_SB_init p l e s m args below meth c G Q 102 (zl_SB_init_102 Q) := za_lop (fun K hK => zr_SB_init_102 B hK)
theorem zr_SB_init_100 (B : zs_B p s m args meth c G bb_SB_init 3 yy_SB_init none) : zA_SB_init p l e s m args below meth c G Q 100 (zb_SB_init_100 Q) := by
  unfold zb_SB_init_100
  refine za_ico B.1 0 dd_SB_init_100 (by decide) ?_
  refine za_ist_n B.1 2 dd_SB_init_101 rfl (by decide) ?_
  exact (zq_SB_init_102 B)
theorem zr_SB_init_81 (B : zs_B p s m args meth c G bb_SB_init 3 yy_SB_init none) {K76 : zs_P} (h76 : zA_SB_init p l e s m args below meth c G Q 76 K76) : zA_SB_init p l e s m args below meth c G Q 81 (zb_SB_init_81 Q K76) := by
  unfold zb_SB_init_81
  refine za_ald_n B.1 0 dd_SB_init_81 rfl ?_
  refine za_gtR B.1 7 5 zi_7 rfl (by decide) (by decide) rfl zW_93 rfl dd_SB_init_82 ?_
  refine za_ild_n B.1 2 dd_SB_init_85 rfl ?_
  refine za_nwo B.1 0 100 3000 rfl rfl zi_0 zy_Ln zy_Ln_ok rfl (by decide) zs_df0 zW_32 zW_41 zW_4 dd_SB_init_86 ?_
  refine za_dup B.1 dd_SB_init_89 ?_
  refine za_cIN B.1 0 2 42 100 3000 rfl rfl (zm_Ln_init l G) ⟨va_cnB 0 B.1.1.2.2.2.2 (zs_good zW_43) rfl rfl rfl (B.1.2.1.2.2.2.2.1 ("SequencedBatches", 60, yy_Ln_init, "SequencedBatches") (by decide)) (B.1.1.2.2.2.2 _ zW_4) (by decide +kernel) ⟨by decide, by decide⟩, rfl, (B.1.1.2.2.2.2 _ zW_42)⟩ dd_SB_init_90 ?_
  refine za_rast B.1 0 3 (by decide) rfl rfl dd_SB_init_93 ?_
  refine za_inc B.1 1 dd_SB_init_94 (by decide) (by decide) ?_
  refine za_goto B.1 76 dd_SB_init_97 (by decide) ?_
  exact h76
theorem zr_SB_init_76 (B : zs_B p s m args meth c G bb_SB_init 3 yy_SB_init none) {K76 : zs_P} (h76 : zA_SB_init p l e s m args below meth c G Q 76 K76) : zA_SB_init p l e s m args below meth c G Q 76 (zb_SB_init_76 Q K76) := by
  unfold zb_SB_init_76
  refine za_ild_n B.1 2 dd_SB_init_76 rfl ?_
  refine za_ico B.1 3 dd_SB_init_77 (by decide) ?_
  exact za_cmp_ge B.1 100 dd_SB_init_78 (by decide) (zr_SB_init_100 B) (zr_SB_init_81 B h76)
theorem zq_SB_init_76 (B : zs_B p s m args meth c G bb_SB_init 3 yy_SB_init none) : zA_SB_init p l e s m args below meth c G Q 76 (zl_SB_init_76 Q) := za_lop (fun K hK => zr_SB_init_76 B hK)
theorem zr_SB_init_0 (B : zs_B p s m args meth c G bb_SB_init 3 yy_SB_init none) : zA_SB_init p l e s m args below meth c G Q 0 (zb_SB_init_0 Q) := by
  unfold zb_SB_init_0
  refine za_ald_n B.1 0 dd_SB_init_0 rfl ?_
  refine za_oin B.1 (by decide) zW_18 zW_19 zW_20 dd_SB_init_1 ?_
  refine za_ald_n B.1 0 dd_SB_init_4 rfl ?_
  refine za_bip B.1 7 dd_SB_init_5 (by decide) ?_
  refine za_nwz B.1 100 3000 rfl rfl zW_30 dd_SB_init_7 ?_
  refine za_ptRF (ty := .array .boolean) B.1 7 1 zi_7 zy_SB zy_SB_ok zn_SB rfl (by decide) (by decide) rfl zW_89 rfl rfl B.2.2.2 rfl rfl (Or.inr ⟨_, rfl⟩) dd_SB_init_9 ?_
  refine za_ald_n B.1 0 dd_SB_init_12 rfl ?_
  refine za_bip B.1 100 dd_SB_init_13 (by decide) ?_
  refine za_nwr B.1 6 2 100 3000 rfl rfl rfl zW_21 (by decide) dd_SB_init_15 ?_
  refine za_ptRF (ty := .array (.object "SequencedBatches$Transaction")) B.1 7 2 zi_7 zy_SB zy_SB_ok zn_SB rfl (by decide) (by decide) rfl zW_90 rfl rfl B.2.2.2 rfl rfl (Or.inr ⟨_, rfl⟩) dd_SB_init_18 ?_
  refine za_ald_n B.1 0 dd_SB_init_21 rfl ?_
  refine za_ico B.1 0 dd_SB_init_22 (by decide) ?_
  refine za_ptI B.1 7 3 zi_7 zy_SB zy_SB_ok zn_SB rfl (by decide) (by decide) rfl zW_91 rfl rfl rfl dd_SB_init_23 ?_
  refine za_ald_n B.1 0 dd_SB_init_26 rfl ?_
  refine za_nwo B.1 2 100 3000 rfl rfl zi_2 zy_Po zy_Po_ok rfl (by decide) zs_df2 zW_22 zW_23 zW_2 dd_SB_init_27 ?_
  refine za_dup B.1 dd_SB_init_30 ?_
  refine za_cIN B.1 0 2 200 100 3000 rfl rfl (zm_Po_init l G) ⟨va_cnB 0 B.1.1.2.2.2.2 (zs_good zW_25) rfl rfl rfl (B.1.2.1.2.2.2.2.1 ("SequencedBatches", 25, yy_Po_init, "SequencedBatches") (by decide)) (B.1.1.2.2.2.2 _ zW_2) (by decide +kernel) ⟨by decide, by decide⟩, rfl, (B.1.1.2.2.2.2 _ zW_24)⟩ dd_SB_init_31 ?_
  refine za_ptRF (ty := .object "SequencedBatches$Post") B.1 7 4 zi_7 zy_SB zy_SB_ok zn_SB rfl (by decide) (by decide) rfl zW_92 rfl rfl B.2.2.2 rfl rfl (Or.inl ⟨_, rfl⟩) dd_SB_init_34 ?_
  refine za_ald_n B.1 0 dd_SB_init_37 rfl ?_
  refine za_ico B.1 3 dd_SB_init_38 (by decide) ?_
  refine za_nwr B.1 0 3 100 3000 rfl rfl rfl zW_32 (by decide) dd_SB_init_39 ?_
  refine za_ptRF (ty := .array (.object "SequencedBatches$LogNode")) B.1 7 5 zi_7 zy_SB zy_SB_ok zn_SB rfl (by decide) (by decide) rfl zW_93 rfl rfl B.2.2.2 rfl rfl (Or.inr ⟨_, rfl⟩) dd_SB_init_42 ?_
  refine za_ald_n B.1 0 dd_SB_init_45 rfl ?_
  refine za_ico B.1 2 dd_SB_init_46 (by decide) ?_
  refine za_nwr B.1 4 4 100 3000 rfl rfl rfl zW_33 (by decide) dd_SB_init_47 ?_
  refine za_ptRF (ty := .array (.object "SequencedBatches$Sequencer")) B.1 7 6 zi_7 zy_SB zy_SB_ok zn_SB rfl (by decide) (by decide) rfl zW_94 rfl rfl B.2.2.2 rfl rfl (Or.inr ⟨_, rfl⟩) dd_SB_init_50 ?_
  refine za_ald_n B.1 0 dd_SB_init_53 rfl ?_
  refine za_ico B.1 2 dd_SB_init_54 (by decide) ?_
  refine za_nwr B.1 3 5 100 3000 rfl rfl rfl zW_34 (by decide) dd_SB_init_55 ?_
  refine za_ptRF (ty := .array (.object "SequencedBatches$Replica")) B.1 7 7 zi_7 zy_SB zy_SB_ok zn_SB rfl (by decide) (by decide) rfl zW_95 rfl rfl B.2.2.2 rfl rfl (Or.inr ⟨_, rfl⟩) dd_SB_init_58 ?_
  refine za_ald_n B.1 0 dd_SB_init_61 rfl ?_
  refine za_ico B.1 1 dd_SB_init_62 (by decide) ?_
  refine za_ico B.1 4 dd_SB_init_63 (by decide) ?_
  refine za_ild_n B.1 1 dd_SB_init_64 rfl ?_
  refine za_min B.1 100 3000 rfl rfl (by decide) zW_35 zW_36 zW_3 zW_37 dd_SB_init_65 ?_
  refine za_max B.1 100 3000 rfl rfl (by decide) zW_38 zW_39 zW_3 zW_40 dd_SB_init_68 ?_
  refine za_ptIF B.1 7 0 zi_7 zy_SB zy_SB_ok zn_SB rfl (by decide) (by decide) rfl zW_88 rfl rfl B.2.2.2 rfl rfl dd_SB_init_71 ?_
  refine za_ico B.1 0 dd_SB_init_74 (by decide) ?_
  refine za_ist_n B.1 2 dd_SB_init_75 rfl (by decide) ?_
  exact (zq_SB_init_76 B)
end
theorem zm_SB_init (l : Launch) (G : zs_G) (As : List Value) (σ : zs_S) (Q : zs_Q) (h : zw_SB_init As σ Q) : zs_Met l yy_SB_init (Cond.code yy_SB_init bb_SB_init 3 none :: zw_all) zk_SB_init G As σ Q 100 3000 := by
  unfold zw_SB_init at h
  split at h
  · exact zs_enter (by decide +kernel) h.1 (Nat.le_of_ble_eq_true rfl) h.2 (fun p e s m args below meth c B => zr_SB_init_0 B)
  · exact h.elim
-- SequencedBatches.sequencerIsUp(I)Z
theorem dd_SB_sequencerIsUp_0 : decode bb_SB_sequencerIsUp 0 = .ok (.iload_n 1, 1) := by decide +kernel
theorem dd_SB_sequencerIsUp_1 : decode bb_SB_sequencerIsUp 1 = .ok (.ifCond .lt 23, 3) := by decide +kernel
theorem dd_SB_sequencerIsUp_4 : decode bb_SB_sequencerIsUp 4 = .ok (.iload_n 1, 1) := by decide +kernel
theorem dd_SB_sequencerIsUp_5 : decode bb_SB_sequencerIsUp 5 = .ok (.iconst 2, 1) := by decide +kernel
theorem dd_SB_sequencerIsUp_6 : decode bb_SB_sequencerIsUp 6 = .ok (.if_icmp .ge 18, 3) := by decide +kernel
theorem dd_SB_sequencerIsUp_9 : decode bb_SB_sequencerIsUp 9 = .ok (.aload_n 0, 1) := by decide +kernel
theorem dd_SB_sequencerIsUp_10 : decode bb_SB_sequencerIsUp 10 = .ok (.getfield 9, 3) := by decide +kernel
theorem dd_SB_sequencerIsUp_13 : decode bb_SB_sequencerIsUp 13 = .ok (.iconst 3, 1) := by decide +kernel
theorem dd_SB_sequencerIsUp_14 : decode bb_SB_sequencerIsUp 14 = .ok (.iload_n 1, 1) := by decide +kernel
theorem dd_SB_sequencerIsUp_15 : decode bb_SB_sequencerIsUp 15 = .ok (.iadd, 1) := by decide +kernel
theorem dd_SB_sequencerIsUp_16 : decode bb_SB_sequencerIsUp 16 = .ok (.baload, 1) := by decide +kernel
theorem dd_SB_sequencerIsUp_17 : decode bb_SB_sequencerIsUp 17 = .ok (.ifCond .ne 7, 3) := by decide +kernel
theorem dd_SB_sequencerIsUp_20 : decode bb_SB_sequencerIsUp 20 = .ok (.iconst 1, 1) := by decide +kernel
theorem dd_SB_sequencerIsUp_21 : decode bb_SB_sequencerIsUp 21 = .ok (.goto 4, 3) := by decide +kernel
theorem dd_SB_sequencerIsUp_24 : decode bb_SB_sequencerIsUp 24 = .ok (.iconst 0, 1) := by decide +kernel
theorem dd_SB_sequencerIsUp_25 : decode bb_SB_sequencerIsUp 25 = .ok (.ireturn, 1) := by decide +kernel
def zk_SB_sequencerIsUp : Room := { frames := 0, cells := 0, slots := 0, locals := 0 }
abbrev zA_SB_sequencerIsUp (p : Program) (l : Launch) (e : Env) (s : State) (m : MethodId) (args : Array Value) (below : List Frame) (meth : Method) (c : Code) (G : zs_G) (Q : zs_Q) (pc : Nat) (P : zs_P) : Prop := zs_At p l e zk_SB_sequencerIsUp s m args below meth c (MQ below (zs_Qc G Q) args s 0 0 (fun q => zg_z G ≤ q)) G 2 pc P
def zb_SB_sequencerIsUp_25 (Q : zs_Q) : zs_P := zt_zrt 0 0 Q
def zb_SB_sequencerIsUp_24 (Q : zs_Q) : zs_P := zt_psh 0 ((zb_SB_sequencerIsUp_25 Q))
def zb_SB_sequencerIsUp_20 (Q : zs_Q) : zs_P := zt_psh 1 ((zb_SB_sequencerIsUp_25 Q))
def zb_SB_sequencerIsUp_9 (Q : zs_Q) : zs_P := zt_ald 0 (zt_gtR 7 1 (zt_psh 3 (zt_ild 1 (zt_bin (fun x y => x + y) (zt_xld 101 (zt_if (fun x => x = 0) (zb_SB_sequencerIsUp_20 Q) (zb_SB_sequencerIsUp_24 Q)))))))
def zb_SB_sequencerIsUp_4 (Q : zs_Q) : zs_P := zt_ild 1 (zt_psh 2 (zt_cmp (fun x y => y ≤ x) (zb_SB_sequencerIsUp_24 Q) (zb_SB_sequencerIsUp_9 Q)))
def zb_SB_sequencerIsUp_0 (Q : zs_Q) : zs_P := zt_ild 1 (zt_if (fun x => x < 0) (zb_SB_sequencerIsUp_24 Q) (zb_SB_sequencerIsUp_4 Q))
def zw_SB_sequencerIsUp : zs_W := fun As σ Q => match As with
  | [a0, a1] => zs_c1 [a0, a1] = true ∧ zb_SB_sequencerIsUp_0 Q [some a0, some a1] [] σ 0 0
  | _ => False
section
variable {p : Program} {l : Launch} {e : Env} {s : State} {m : MethodId} {args : Array Value} {below : List Frame} {meth : Method} {c : Code} {G : zs_G} {Q : zs_Q}
theorem zr_SB_sequencerIsUp_25 (B : zs_B p s m args meth c G bb_SB_sequencerIsUp 2 yy_SB_sequencerIsUp (some .boolean)) : zA_SB_sequencerIsUp p l e s m args below meth c G Q 25 (zb_SB_sequencerIsUp_25 Q) := by
  unfold zb_SB_sequencerIsUp_25
  exact za_zrt B.1 0 0 B.2.1 B.2.2.1 dd_SB_sequencerIsUp_25
theorem zr_SB_sequencerIsUp_24 (B : zs_B p s m args meth c G bb_SB_sequencerIsUp 2 yy_SB_sequencerIsUp (some .boolean)) : zA_SB_sequencerIsUp p l e s m args below meth c G Q 24 (zb_SB_sequencerIsUp_24 Q) := by
  unfold zb_SB_sequencerIsUp_24
  refine za_ico B.1 0 dd_SB_sequencerIsUp_24 (by decide) ?_
  exact (zr_SB_sequencerIsUp_25 B)
theorem zr_SB_sequencerIsUp_20 (B : zs_B p s m args meth c G bb_SB_sequencerIsUp 2 yy_SB_sequencerIsUp (some .boolean)) : zA_SB_sequencerIsUp p l e s m args below meth c G Q 20 (zb_SB_sequencerIsUp_20 Q) := by
  unfold zb_SB_sequencerIsUp_20
  refine za_ico B.1 1 dd_SB_sequencerIsUp_20 (by decide) ?_
  refine za_goto B.1 25 dd_SB_sequencerIsUp_21 (by decide) ?_
  exact (zr_SB_sequencerIsUp_25 B)
theorem zr_SB_sequencerIsUp_9 (B : zs_B p s m args meth c G bb_SB_sequencerIsUp 2 yy_SB_sequencerIsUp (some .boolean)) : zA_SB_sequencerIsUp p l e s m args below meth c G Q 9 (zb_SB_sequencerIsUp_9 Q) := by
  unfold zb_SB_sequencerIsUp_9
  refine za_ald_n B.1 0 dd_SB_sequencerIsUp_9 rfl ?_
  refine za_gtR B.1 7 1 zi_7 rfl (by decide) (by decide) rfl zW_89 rfl dd_SB_sequencerIsUp_10 ?_
  refine za_ico B.1 3 dd_SB_sequencerIsUp_13 (by decide) ?_
  refine za_ild_n B.1 1 dd_SB_sequencerIsUp_14 rfl ?_
  refine za_add B.1 dd_SB_sequencerIsUp_15 ?_
  refine za_zald B.1 dd_SB_sequencerIsUp_16 ?_
  exact za_if_ne B.1 24 dd_SB_sequencerIsUp_17 (by decide) (zr_SB_sequencerIsUp_20 B) (zr_SB_sequencerIsUp_24 B)
theorem zr_SB_sequencerIsUp_4 (B : zs_B p s m args meth c G bb_SB_sequencerIsUp 2 yy_SB_sequencerIsUp (some .boolean)) : zA_SB_sequencerIsUp p l e s m args below meth c G Q 4 (zb_SB_sequencerIsUp_4 Q) := by
  unfold zb_SB_sequencerIsUp_4
  refine za_ild_n B.1 1 dd_SB_sequencerIsUp_4 rfl ?_
  refine za_ico B.1 2 dd_SB_sequencerIsUp_5 (by decide) ?_
  exact za_cmp_ge B.1 24 dd_SB_sequencerIsUp_6 (by decide) (zr_SB_sequencerIsUp_24 B) (zr_SB_sequencerIsUp_9 B)
theorem zr_SB_sequencerIsUp_0 (B : zs_B p s m args meth c G bb_SB_sequencerIsUp 2 yy_SB_sequencerIsUp (some .boolean)) : zA_SB_sequencerIsUp p l e s m args below meth c G Q 0 (zb_SB_sequencerIsUp_0 Q) := by
  unfold zb_SB_sequencerIsUp_0
  refine za_ild_n B.1 1 dd_SB_sequencerIsUp_0 rfl ?_
  exact za_if_lt B.1 24 dd_SB_sequencerIsUp_1 (by decide) (zr_SB_sequencerIsUp_24 B) (zr_SB_sequencerIsUp_4 B)
end
theorem zm_SB_sequencerIsUp (l : Launch) (G : zs_G) (As : List Value) (σ : zs_S) (Q : zs_Q) (h : zw_SB_sequencerIsUp As σ Q) : zs_Met l yy_SB_sequencerIsUp (Cond.code yy_SB_sequencerIsUp bb_SB_sequencerIsUp 2 (some .boolean) :: zw_all) zk_SB_sequencerIsUp G As σ Q 0 0 := by
  unfold zw_SB_sequencerIsUp at h
  split at h
  · exact zs_enter (by decide +kernel) h.1 (Nat.le_of_ble_eq_true rfl) h.2 (fun p e s m args below meth c B => zr_SB_sequencerIsUp_0 B)
  · exact h.elim
