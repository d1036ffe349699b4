/-! Methods: Md_tell, Md_acknowledge, Md_place, Md_outcome, Md_finish (made by program) -/
-- SequencedBatchesModel.tell(I)V
theorem dd_Md_tell_0 : decode bb_Md_tell 0 = .ok (.aload_n 0, 1) := by decide +kernel
theorem dd_Md_tell_1 : decode bb_Md_tell 1 = .ok (.iconst 3, 1) := by decide +kernel
theorem dd_Md_tell_2 : decode bb_Md_tell 2 = .ok (.iconst 0, 1) := by decide +kernel
theorem dd_Md_tell_3 : decode bb_Md_tell 3 = .ok (.iload_n 1, 1) := by decide +kernel
theorem dd_Md_tell_4 : decode bb_Md_tell 4 = .ok (.aload_n 0, 1) := by decide +kernel
theorem dd_Md_tell_5 : decode bb_Md_tell 5 = .ok (.getfield 41, 3) := by decide +kernel
theorem dd_Md_tell_8 : decode bb_Md_tell 8 = .ok (.iload_n 1, 1) := by decide +kernel
theorem dd_Md_tell_9 : decode bb_Md_tell 9 = .ok (.iaload, 1) := by decide +kernel
theorem dd_Md_tell_10 : decode bb_Md_tell 10 = .ok (.iconst 1, 1) := by decide +kernel
theorem dd_Md_tell_11 : decode bb_Md_tell 11 = .ok (.isub, 1) := by decide +kernel
theorem dd_Md_tell_12 : decode bb_Md_tell 12 = .ok (.iconst 0, 1) := by decide +kernel
theorem dd_Md_tell_13 : decode bb_Md_tell 13 = .ok (.invokevirtual 151, 3) := by decide +kernel
theorem dd_Md_tell_16 : decode bb_Md_tell 16 = .ok (.aload_n 0, 1) := by decide +kernel
theorem dd_Md_tell_17 : decode bb_Md_tell 17 = .ok (.iconst 3, 1) := by decide +kernel
theorem dd_Md_tell_18 : decode bb_Md_tell 18 = .ok (.iconst 1, 1) := by decide +kernel
theorem dd_Md_tell_19 : decode bb_Md_tell 19 = .ok (.iload_n 1, 1) := by decide +kernel
theorem dd_Md_tell_20 : decode bb_Md_tell 20 = .ok (.aload_n 0, 1) := by decide +kernel
theorem dd_Md_tell_21 : decode bb_Md_tell 21 = .ok (.getfield 41, 3) := by decide +kernel
theorem dd_Md_tell_24 : decode bb_Md_tell 24 = .ok (.iload_n 1, 1) := by decide +kernel
theorem dd_Md_tell_25 : decode bb_Md_tell 25 = .ok (.iaload, 1) := by decide +kernel
theorem dd_Md_tell_26 : decode bb_Md_tell 26 = .ok (.iconst 1, 1) := by decide +kernel
theorem dd_Md_tell_27 : decode bb_Md_tell 27 = .ok (.isub, 1) := by decide +kernel
theorem dd_Md_tell_28 : decode bb_Md_tell 28 = .ok (.iconst 0, 1) := by decide +kernel
theorem dd_Md_tell_29 : decode bb_Md_tell 29 = .ok (.invokevirtual 151, 3) := by decide +kernel
theorem dd_Md_tell_32 : decode bb_Md_tell 32 = .ok (.return_, 1) := by decide +kernel
def zk_Md_tell : Room := { frames := 1, cells := 0, slots := 0, locals := 25 }
abbrev zA_Md_tell (p : Program) (l : Launch) (e : Env) (s : State) (m : MethodId) (args : Array Value) (below : List Frame) (meth : Method) (c : Code) (G : zs_G) (Q : zs_Q) (pc : Nat) (P : zs_P) : Prop := zs_At p l e zk_Md_tell s m args below meth c (MQ below (zs_Qc G Q) args s 0 0 (fun q => zg_z G ≤ q)) G 2 pc P
def zb_Md_tell_0 (Q : zs_Q) : zs_P := zt_ald 0 (zt_psh 3 (zt_psh 0 (zt_ild 1 (zt_ald 0 (zt_gtR 8 12 (zt_ild 1 (zt_xld 100 (zt_psh 1 (zt_bin (fun x y => x - y) (zt_psh 0 (zt_cav 8 zw_Md_post (5 + 1) 0 0 0 0 (zt_ald 0 (zt_psh 3 (zt_psh 1 (zt_ild 1 (zt_ald 0 (zt_gtR 8 12 (zt_ild 1 (zt_xld 100 (zt_psh 1 (zt_bin (fun x y => x - y) (zt_psh 0 (zt_cav 8 zw_Md_post (5 + 1) 0 0 0 0 (zt_vrt 0 0 Q))))))))))))))))))))))))
def zw_Md_tell : zs_W := fun As σ Q => match As with
  | [a0, a1] => zs_c1 [a0, a1] = true ∧ zb_Md_tell_0 Q [some a0, some a1] [] σ 0 0
  | _ => False
section
variable {p : Program} {l : Launch} {e : Env} {s : State} {m : MethodId} {args : Array Value} {below : List Frame} {meth : Method} {c : Code} {G : zs_G} {Q : zs_Q}
theorem zr_Md_tell_0 (B : zs_B p s m args meth c G bb_Md_tell 2 yy_Md_tell none) : zA_Md_tell p l e s m args below meth c G Q 0 (zb_Md_tell_0 Q) := by
  unfold zb_Md_tell_0
  refine za_ald_n B.1 0 dd_Md_tell_0 rfl ?_
  refine za_ico B.1 3 dd_Md_tell_1 (by decide) ?_
  refine za_ico B.1 0 dd_Md_tell_2 (by decide) ?_
  refine za_ild_n B.1 1 dd_Md_tell_3 rfl ?_
  refine za_ald_n B.1 0 dd_Md_tell_4 rfl ?_
  refine za_gtR B.1 8 12 zi_8 rfl (by decide) (by decide) rfl zW_468 rfl dd_Md_tell_5 ?_
  refine za_ild_n B.1 1 dd_Md_tell_8 rfl ?_
  refine za_iald B.1 dd_Md_tell_9 ?_
  refine za_ico B.1 1 dd_Md_tell_10 (by decide) ?_
  refine za_sub B.1 dd_Md_tell_11 ?_
  refine za_ico B.1 0 dd_Md_tell_12 (by decide) ?_
  refine za_cV B.1 8 5 0 0 0 0 rfl rfl rfl (by decide) (zm_Md_post l G) ⟨callB_of 5 B.1.1.2.2.2.2 (zs_good zW_535) rfl rfl rfl (B.1.1.2.2.2.2 _ zW_8) (B.1.1.2.2.2.2 _ zW_533) (by decide +kernel) ⟨by decide, by decide⟩, (B.1.1.2.2.2.2 _ zW_534), (B.1.1.2.2.2.2 _ zW_678)⟩ dd_Md_tell_13 ?_
  refine za_ald_n B.1 0 dd_Md_tell_16 rfl ?_
  refine za_ico B.1 3 dd_Md_tell_17 (by decide) ?_
  refine za_ico B.1 1 dd_Md_tell_18 (by decide) ?_
  refine za_ild_n B.1 1 dd_Md_tell_19 rfl ?_
  refine za_ald_n B.1 0 dd_Md_tell_20 rfl ?_
  refine za_gtR B.1 8 12 zi_8 rfl (by decide) (by decide) rfl zW_468 rfl dd_Md_tell_21 ?_
  refine za_ild_n B.1 1 dd_Md_tell_24 rfl ?_
  refine za_iald B.1 dd_Md_tell_25 ?_
  refine za_ico B.1 1 dd_Md_tell_26 (by decide) ?_
  refine za_sub B.1 dd_Md_tell_27 ?_
  refine za_ico B.1 0 dd_Md_tell_28 (by decide) ?_
  refine za_cV B.1 8 5 0 0 0 0 rfl rfl rfl (by decide) (zm_Md_post l G) ⟨callB_of 5 B.1.1.2.2.2.2 (zs_good zW_535) rfl rfl rfl (B.1.1.2.2.2.2 _ zW_8) (B.1.1.2.2.2.2 _ zW_533) (by decide +kernel) ⟨by decide, by decide⟩, (B.1.1.2.2.2.2 _ zW_534), (B.1.1.2.2.2.2 _ zW_678)⟩ dd_Md_tell_29 ?_
  exact za_vrt B.1 0 0 B.2.1 B.2.2.1 dd_Md_tell_32
end
theorem zm_Md_tell (l : Launch) (G : zs_G) (As : List Value) (σ : zs_S) (Q : zs_Q) (h : zw_Md_tell As σ Q) : zs_Met l yy_Md_tell (Cond.code yy_Md_tell bb_Md_tell 2 none :: zw_all) zk_Md_tell G As σ Q 0 0 := by
  unfold zw_Md_tell at h
  split at h
  · exact zs_enter (by decide +kernel) h.1 (Nat.le_of_ble_eq_true rfl) h.2 (fun p e s m args below meth c B => zr_Md_tell_0 B)
  · exact h.elim
-- SequencedBatchesModel.acknowledge(III)V
theorem dd_Md_acknowledge_0 : decode bb_Md_acknowledge 0 = .ok (.iload_n 2, 1) := by decide +kernel
theorem dd_Md_acknowledge_1 : decode bb_Md_acknowledge 1 = .ok (.bipush 20, 2) := by decide +kernel
theorem dd_Md_acknowledge_3 : decode bb_Md_acknowledge 3 = .ok (.idiv, 1) := by decide +kernel
theorem dd_Md_acknowledge_4 : decode bb_Md_acknowledge 4 = .ok (.istore 4, 2) := by decide +kernel
theorem dd_Md_acknowledge_6 : decode bb_Md_acknowledge 6 = .ok (.aload_n 0, 1) := by decide +kernel
theorem dd_Md_acknowledge_7 : decode bb_Md_acknowledge 7 = .ok (.getfield 7, 3) := by decide +kernel
theorem dd_Md_acknowledge_10 : decode bb_Md_acknowledge 10 = .ok (.iconst 3, 1) := by decide +kernel
theorem dd_Md_acknowledge_11 : decode bb_Md_acknowledge 11 = .ok (.iload 4, 2) := by decide +kernel
theorem dd_Md_acknowledge_13 : decode bb_Md_acknowledge 13 = .ok (.iadd, 1) := by decide +kernel
theorem dd_Md_acknowledge_14 : decode bb_Md_acknowledge 14 = .ok (.baload, 1) := by decide +kernel
theorem dd_Md_acknowledge_15 : decode bb_Md_acknowledge 15 = .ok (.ifCond .ne 23, 3) := by decide +kernel
theorem dd_Md_acknowledge_18 : decode bb_Md_acknowledge 18 = .ok (.aload_n 0, 1) := by decide +kernel
theorem dd_Md_acknowledge_19 : decode bb_Md_acknowledge 19 = .ok (.getfield 35, 3) := by decide +kernel
theorem dd_Md_acknowledge_22 : decode bb_Md_acknowledge 22 = .ok (.iload 4, 2) := by decide +kernel
theorem dd_Md_acknowledge_24 : decode bb_Md_acknowledge 24 = .ok (.iaload, 1) := by decide +kernel
theorem dd_Md_acknowledge_25 : decode bb_Md_acknowledge 25 = .ok (.iload_n 3, 1) := by decide +kernel
theorem dd_Md_acknowledge_26 : decode bb_Md_acknowledge 26 = .ok (.if_icmp .ne 12, 3) := by decide +kernel
theorem dd_Md_acknowledge_29 : decode bb_Md_acknowledge 29 = .ok (.aload_n 0, 1) := by decide +kernel
theorem dd_Md_acknowledge_30 : decode bb_Md_acknowledge 30 = .ok (.getfield 41, 3) := by decide +kernel
theorem dd_Md_acknowledge_33 : decode bb_Md_acknowledge 33 = .ok (.iload_n 2, 1) := by decide +kernel
theorem dd_Md_acknowledge_34 : decode bb_Md_acknowledge 34 = .ok (.iaload, 1) := by decide +kernel
theorem dd_Md_acknowledge_35 : decode bb_Md_acknowledge 35 = .ok (.ifCond .le 4, 3) := by decide +kernel
theorem dd_Md_acknowledge_38 : decode bb_Md_acknowledge 38 = .ok (.return_, 1) := by decide +kernel
theorem dd_Md_acknowledge_39 : decode bb_Md_acknowledge 39 = .ok (.aload_n 0, 1) := by decide +kernel
theorem dd_Md_acknowledge_40 : decode bb_Md_acknowledge 40 = .ok (.getfield 44, 3) := by decide +kernel
theorem dd_Md_acknowledge_43 : decode bb_Md_acknowledge 43 = .ok (.iload_n 2, 1) := by decide +kernel
theorem dd_Md_acknowledge_44 : decode bb_Md_acknowledge 44 = .ok (.aload_n 0, 1) := by decide +kernel
theorem dd_Md_acknowledge_45 : decode bb_Md_acknowledge 45 = .ok (.getfield 44, 3) := by decide +kernel
theorem dd_Md_acknowledge_48 : decode bb_Md_acknowledge 48 = .ok (.iload_n 2, 1) := by decide +kernel
theorem dd_Md_acknowledge_49 : decode bb_Md_acknowledge 49 = .ok (.iaload, 1) := by decide +kernel
theorem dd_Md_acknowledge_50 : decode bb_Md_acknowledge 50 = .ok (.iconst 1, 1) := by decide +kernel
theorem dd_Md_acknowledge_51 : decode bb_Md_acknowledge 51 = .ok (.iload_n 1, 1) := by decide +kernel
theorem dd_Md_acknowledge_52 : decode bb_Md_acknowledge 52 = .ok (.ishl, 1) := by decide +kernel
theorem dd_Md_acknowledge_53 : decode bb_Md_acknowledge 53 = .ok (.ior, 1) := by decide +kernel
theorem dd_Md_acknowledge_54 : decode bb_Md_acknowledge 54 = .ok (.iastore, 1) := by decide +kernel
theorem dd_Md_acknowledge_55 : decode bb_Md_acknowledge 55 = .ok (.aload_n 0, 1) := by decide +kernel
theorem dd_Md_acknowledge_56 : decode bb_Md_acknowledge 56 = .ok (.getfield 44, 3) := by decide +kernel
theorem dd_Md_acknowledge_59 : decode bb_Md_acknowledge 59 = .ok (.iload_n 2, 1) := by decide +kernel
theorem dd_Md_acknowledge_60 : decode bb_Md_acknowledge 60 = .ok (.iaload, 1) := by decide +kernel
theorem dd_Md_acknowledge_61 : decode bb_Md_acknowledge 61 = .ok (.iconst 1, 1) := by decide +kernel
theorem dd_Md_acknowledge_62 : decode bb_Md_acknowledge 62 = .ok (.if_icmp .eq 23, 3) := by decide +kernel
theorem dd_Md_acknowledge_65 : decode bb_Md_acknowledge 65 = .ok (.aload_n 0, 1) := by decide +kernel
theorem dd_Md_acknowledge_66 : decode bb_Md_acknowledge 66 = .ok (.getfield 44, 3) := by decide +kernel
theorem dd_Md_acknowledge_69 : decode bb_Md_acknowledge 69 = .ok (.iload_n 2, 1) := by decide +kernel
theorem dd_Md_acknowledge_70 : decode bb_Md_acknowledge 70 = .ok (.iaload, 1) := by decide +kernel
theorem dd_Md_acknowledge_71 : decode bb_Md_acknowledge 71 = .ok (.iconst 2, 1) := by decide +kernel
theorem dd_Md_acknowledge_72 : decode bb_Md_acknowledge 72 = .ok (.if_icmp .eq 13, 3) := by decide +kernel
theorem dd_Md_acknowledge_75 : decode bb_Md_acknowledge 75 = .ok (.aload_n 0, 1) := by decide +kernel
theorem dd_Md_acknowledge_76 : decode bb_Md_acknowledge 76 = .ok (.getfield 44, 3) := by decide +kernel
theorem dd_Md_acknowledge_79 : decode bb_Md_acknowledge 79 = .ok (.iload_n 2, 1) := by decide +kernel
theorem dd_Md_acknowledge_80 : decode bb_Md_acknowledge 80 = .ok (.iaload, 1) := by decide +kernel
theorem dd_Md_acknowledge_81 : decode bb_Md_acknowledge 81 = .ok (.iconst 4, 1) := by decide +kernel
theorem dd_Md_acknowledge_82 : decode bb_Md_acknowledge 82 = .ok (.if_icmp .ne 4, 3) := by decide +kernel
theorem dd_Md_acknowledge_85 : decode bb_Md_acknowledge 85 = .ok (.return_, 1) := by decide +kernel
theorem dd_Md_acknowledge_86 : decode bb_Md_acknowledge 86 = .ok (.aload_n 0, 1) := by decide +kernel
theorem dd_Md_acknowledge_87 : decode bb_Md_acknowledge 87 = .ok (.getfield 41, 3) := by decide +kernel
theorem dd_Md_acknowledge_90 : decode bb_Md_acknowledge 90 = .ok (.iload_n 2, 1) := by decide +kernel
theorem dd_Md_acknowledge_91 : decode bb_Md_acknowledge 91 = .ok (.aload_n 0, 1) := by decide +kernel
theorem dd_Md_acknowledge_92 : decode bb_Md_acknowledge 92 = .ok (.getfield 38, 3) := by decide +kernel
theorem dd_Md_acknowledge_95 : decode bb_Md_acknowledge 95 = .ok (.iload_n 2, 1) := by decide +kernel
theorem dd_Md_acknowledge_96 : decode bb_Md_acknowledge 96 = .ok (.baload, 1) := by decide +kernel
theorem dd_Md_acknowledge_97 : decode bb_Md_acknowledge 97 = .ok (.ifCond .eq 7, 3) := by decide +kernel
theorem dd_Md_acknowledge_100 : decode bb_Md_acknowledge 100 = .ok (.iconst 2, 1) := by decide +kernel
theorem dd_Md_acknowledge_101 : decode bb_Md_acknowledge 101 = .ok (.goto 4, 3) := by decide +kernel
theorem dd_Md_acknowledge_104 : decode bb_Md_acknowledge 104 = .ok (.iconst 1, 1) := by decide +kernel
theorem dd_Md_acknowledge_105 : decode bb_Md_acknowledge 105 = .ok (.iastore, 1) := by decide +kernel
theorem dd_Md_acknowledge_106 : decode bb_Md_acknowledge 106 = .ok (.aload_n 0, 1) := by decide +kernel
theorem dd_Md_acknowledge_107 : decode bb_Md_acknowledge 107 = .ok (.iload_n 2, 1) := by decide +kernel
theorem dd_Md_acknowledge_108 : decode bb_Md_acknowledge 108 = .ok (.invokevirtual 155, 3) := by decide +kernel
theorem dd_Md_acknowledge_111 : decode bb_Md_acknowledge 111 = .ok (.return_, 1) := by decide +kernel
def zk_Md_acknowledge : Room := { frames := 2, cells := 0, slots := 0, locals := 46 }
abbrev zA_Md_acknowledge (p : Program) (l : Launch) (e : Env) (s : State) (m : MethodId) (args : Array Value) (below : List Frame) (meth : Method) (c : Code) (G : zs_G) (Q : zs_Q) (pc : Nat) (P : zs_P) : Prop := zs_At p l e zk_Md_acknowledge s m args below meth c (MQ below (zs_Qc G Q) args s 0 0 (fun q => zg_z G ≤ q)) G 5 pc P
def zb_Md_acknowledge_38 (Q : zs_Q) : zs_P := zt_vrt 0 0 Q
def zb_Md_acknowledge_85 (Q : zs_Q) : zs_P := zt_vrt 0 0 Q
def zb_Md_acknowledge_105 (Q : zs_Q) : zs_P := zt_ias (zt_ald 0 (zt_ild 2 (zt_cav 8 zw_Md_tell (1 + 1) 0 0 0 0 (zt_vrt 0 0 Q))))
def zb_Md_acknowledge_104 (Q : zs_Q) : zs_P := zt_psh 1 ((zb_Md_acknowledge_105 Q))
def zb_Md_acknowledge_100 (Q : zs_Q) : zs_P := zt_psh 2 ((zb_Md_acknowledge_105 Q))
def zb_Md_acknowledge_86 (Q : zs_Q) : zs_P := zt_ald 0 (zt_gtR 8 12 (zt_ild 2 (zt_ald 0 (zt_gtR 8 11 (zt_ild 2 (zt_xld 101 (zt_if (fun x => x = 0) (zb_Md_acknowledge_104 Q) (zb_Md_acknowledge_100 Q))))))))
def zb_Md_acknowledge_75 (Q : zs_Q) : zs_P := zt_ald 0 (zt_gtR 8 13 (zt_ild 2 (zt_xld 100 (zt_psh 4 (zt_cmp (fun x y => x = y) (zb_Md_acknowledge_85 Q) (zb_Md_acknowledge_86 Q))))))
def zb_Md_acknowledge_65 (Q : zs_Q) : zs_P := zt_ald 0 (zt_gtR 8 13 (zt_ild 2 (zt_xld 100 (zt_psh 2 (zt_cmp (fun x y => x = y) (zb_Md_acknowledge_85 Q) (zb_Md_acknowledge_75 Q))))))
def zb_Md_acknowledge_39 (Q : zs_Q) : zs_P := zt_ald 0 (zt_gtR 8 13 (zt_ild 2 (zt_ald 0 (zt_gtR 8 13 (zt_ild 2 (zt_xld 100 (zt_psh 1 (zt_ild 1 (zt_bin (fun x y => x <<< (y &&& 31)) (zt_bin (fun x y => x ||| y) (zt_ias (zt_ald 0 (zt_gtR 8 13 (zt_ild 2 (zt_xld 100 (zt_psh 1 (zt_cmp (fun x y => x = y) (zb_Md_acknowledge_85 Q) (zb_Md_acknowledge_65 Q))))))))))))))))))
def zb_Md_acknowledge_29 (Q : zs_Q) : zs_P := zt_ald 0 (zt_gtR 8 12 (zt_ild 2 (zt_xld 100 (zt_if (fun x => x ≤ 0) (zb_Md_acknowledge_39 Q) (zb_Md_acknowledge_38 Q)))))
def zb_Md_acknowledge_18 (Q : zs_Q) : zs_P := zt_ald 0 (zt_gtR 8 10 (zt_ild 4 (zt_xld 100 (zt_ild 3 (zt_cmp (fun x y => x = y) (zb_Md_acknowledge_29 Q) (zb_Md_acknowledge_38 Q))))))
def zb_Md_acknowledge_0 (Q : zs_Q) : zs_P := zt_ild 2 (zt_psh 20 (zt_div (fun x y => x / y) (zt_ist 4 (zt_ald 0 (zt_gtR 8 1 (zt_psh 3 (zt_ild 4 (zt_bin (fun x y => x + y) (zt_xld 101 (zt_if (fun x => x = 0) (zb_Md_acknowledge_18 Q) (zb_Md_acknowledge_38 Q)))))))))))
def zw_Md_acknowledge : zs_W := fun As σ Q => match As with
  | [a0, a1, a2, a3] => zs_c1 [a0, a1, a2, a3] = true ∧ zb_Md_acknowledge_0 Q [some a0, some a1, some a2, some a3, none] [] σ 0 0
  | _ => False
section
variable {p : Program} {l : Launch} {e : Env} {s : State} {m : MethodId} {args : Array Value} {below : List Frame} {meth : Method} {c : Code} {G : zs_G} {Q : zs_Q}
theorem zr_Md_acknowledge_38 (B : zs_B p s m args meth c G bb_Md_acknowledge 5 yy_Md_acknowledge none) : zA_Md_acknowledge p l e s m args below meth c G Q 38 (zb_Md_acknowledge_38 Q) := by
  unfold zb_Md_acknowledge_38
  exact za_vrt B.1 0 0 B.2.1 B.2.2.1 dd_Md_acknowledge_38
theorem zr_Md_acknowledge_85 (B : zs_B p s m args meth c G bb_Md_acknowledge 5 yy_Md_acknowledge none) : zA_Md_acknowledge p l e s m args below meth c G Q 85 (zb_Md_acknowledge_85 Q) := by
  unfold zb_Md_acknowledge_85
  exact za_vrt B.1 0 0 B.2.1 B.2.2.1 dd_Md_acknowledge_85
theorem zr_Md_acknowledge_105 (B : zs_B p s m args meth c G bb_Md_acknowledge 5 yy_Md_acknowledge none) : zA_Md_acknowledge p l e s m args below meth c G Q 105 (zb_Md_acknowledge_105 Q) := by
  unfold zb_Md_acknowledge_105
  refine za_iast B.1 dd_Md_acknowledge_105 ?_
  refine za_ald_n B.1 0 dd_Md_acknowledge_106 rfl ?_
  refine za_ild_n B.1 2 dd_Md_acknowledge_107 rfl ?_
  refine za_cV B.1 8 1 0 0 0 0 rfl rfl rfl (by decide) (zm_Md_tell l G) ⟨callB_of 1 B.1.1.2.2.2.2 (zs_good zW_541) rfl rfl rfl (B.1.1.2.2.2.2 _ zW_8) (B.1.1.2.2.2.2 _ zW_539) (by decide +kernel) ⟨by decide, by decide⟩, (B.1.1.2.2.2.2 _ zW_540), (B.1.1.2.2.2.2 _ zW_680)⟩ dd_Md_acknowledge_108 ?_
  exact za_vrt B.1 0 0 B.2.1 B.2.2.1 dd_Md_acknowledge_111
theorem zr_Md_acknowledge_104 (B : zs_B p s m args meth c G bb_Md_acknowledge 5 yy_Md_acknowledge none) : zA_Md_acknowledge p l e s m args below meth c G Q 104 (zb_Md_acknowledge_104 Q) := by
  unfold zb_Md_acknowledge_104
  refine za_ico B.1 1 dd_Md_acknowledge_104 (by decide) ?_
  exact (zr_Md_acknowledge_105 B)
theorem zr_Md_acknowledge_100 (B : zs_B p s m args meth c G bb_Md_acknowledge 5 yy_Md_acknowledge none) : zA_Md_acknowledge p l e s m args below meth c G Q 100 (zb_Md_acknowledge_100 Q) := by
  unfold zb_Md_acknowledge_100
  refine za_ico B.1 2 dd_Md_acknowledge_100 (by decide) ?_
  refine za_goto B.1 105 dd_Md_acknowledge_101 (by decide) ?_
  exact (zr_Md_acknowledge_105 B)
theorem zr_Md_acknowledge_86 (B : zs_B p s m args meth c G bb_Md_acknowledge 5 yy_Md_acknowledge none) : zA_Md_acknowledge p l e s m args below meth c G Q 86 (zb_Md_acknowledge_86 Q) := by
  unfold zb_Md_acknowledge_86
  refine za_ald_n B.1 0 dd_Md_acknowledge_86 rfl ?_
  refine za_gtR B.1 8 12 zi_8 rfl (by decide) (by decide) rfl zW_468 rfl dd_Md_acknowledge_87 ?_
  refine za_ild_n B.1 2 dd_Md_acknowledge_90 rfl ?_
  refine za_ald_n B.1 0 dd_Md_acknowledge_91 rfl ?_
  refine za_gtR B.1 8 11 zi_8 rfl (by decide) (by decide) rfl zW_467 rfl dd_Md_acknowledge_92 ?_
  refine za_ild_n B.1 2 dd_Md_acknowledge_95 rfl ?_
  refine za_zald B.1 dd_Md_acknowledge_96 ?_
  exact za_if_eq B.1 104 dd_Md_acknowledge_97 (by decide) (zr_Md_acknowledge_104 B) (zr_Md_acknowledge_100 B)
theorem zr_Md_acknowledge_75 (B : zs_B p s m args meth c G bb_Md_acknowledge 5 yy_Md_acknowledge none) : zA_Md_acknowledge p l e s m args below meth c G Q 75 (zb_Md_acknowledge_75 Q) := by
  unfold zb_Md_acknowledge_75
  refine za_ald_n B.1 0 dd_Md_acknowledge_75 rfl ?_
  refine za_gtR B.1 8 13 zi_8 rfl (by decide) (by decide) rfl zW_469 rfl dd_Md_acknowledge_76 ?_
  refine za_ild_n B.1 2 dd_Md_acknowledge_79 rfl ?_
  refine za_iald B.1 dd_Md_acknowledge_80 ?_
  refine za_ico B.1 4 dd_Md_acknowledge_81 (by decide) ?_
  exact za_cmp_ne B.1 86 dd_Md_acknowledge_82 (by decide) (zr_Md_acknowledge_85 B) (zr_Md_acknowledge_86 B)
theorem zr_Md_acknowledge_65 (B : zs_B p s m args meth c G bb_Md_acknowledge 5 yy_Md_acknowledge none) : zA_Md_acknowledge p l e s m args below meth c G Q 65 (zb_Md_acknowledge_65 Q) := by
  unfold zb_Md_acknowledge_65
  refine za_ald_n B.1 0 dd_Md_acknowledge_65 rfl ?_
  refine za_gtR B.1 8 13 zi_8 rfl (by decide) (by decide) rfl zW_469 rfl dd_Md_acknowledge_66 ?_
  refine za_ild_n B.1 2 dd_Md_acknowledge_69 rfl ?_
  refine za_iald B.1 dd_Md_acknowledge_70 ?_
  refine za_ico B.1 2 dd_Md_acknowledge_71 (by decide) ?_
  exact za_cmp_eq B.1 85 dd_Md_acknowledge_72 (by decide) (zr_Md_acknowledge_85 B) (zr_Md_acknowledge_75 B)
theorem zr_Md_acknowledge_39 (B : zs_B p s m args meth c G bb_Md_acknowledge 5 yy_Md_acknowledge none) : zA_Md_acknowledge p l e s m args below meth c G Q 39 (zb_Md_acknowledge_39 Q) := by
  unfold zb_Md_acknowledge_39
  refine za_ald_n B.1 0 dd_Md_acknowledge_39 rfl ?_
  refine za_gtR B.1 8 13 zi_8 rfl (by decide) (by decide) rfl zW_469 rfl dd_Md_acknowledge_40 ?_
  refine za_ild_n B.1 2 dd_Md_acknowledge_43 rfl ?_
  refine za_ald_n B.1 0 dd_Md_acknowledge_44 rfl ?_
  refine za_gtR B.1 8 13 zi_8 rfl (by decide) (by decide) rfl zW_469 rfl dd_Md_acknowledge_45 ?_
  refine za_ild_n B.1 2 dd_Md_acknowledge_48 rfl ?_
  refine za_iald B.1 dd_Md_acknowledge_49 ?_
  refine za_ico B.1 1 dd_Md_acknowledge_50 (by decide) ?_
  refine za_ild_n B.1 1 dd_Md_acknowledge_51 rfl ?_
  refine za_shl B.1 dd_Md_acknowledge_52 ?_
  refine za_ior B.1 dd_Md_acknowledge_53 ?_
  refine za_iast B.1 dd_Md_acknowledge_54 ?_
  refine za_ald_n B.1 0 dd_Md_acknowledge_55 rfl ?_
  refine za_gtR B.1 8 13 zi_8 rfl (by decide) (by decide) rfl zW_469 rfl dd_Md_acknowledge_56 ?_
  refine za_ild_n B.1 2 dd_Md_acknowledge_59 rfl ?_
  refine za_iald B.1 dd_Md_acknowledge_60 ?_
  refine za_ico B.1 1 dd_Md_acknowledge_61 (by decide) ?_
  exact za_cmp_eq B.1 85 dd_Md_acknowledge_62 (by decide) (zr_Md_acknowledge_85 B) (zr_Md_acknowledge_65 B)
theorem zr_Md_acknowledge_29 (B : zs_B p s m args meth c G bb_Md_acknowledge 5 yy_Md_acknowledge none) : zA_Md_acknowledge p l e s m args below meth c G Q 29 (zb_Md_acknowledge_29 Q) := by
  unfold zb_Md_acknowledge_29
  refine za_ald_n B.1 0 dd_Md_acknowledge_29 rfl ?_
  refine za_gtR B.1 8 12 zi_8 rfl (by decide) (by decide) rfl zW_468 rfl dd_Md_acknowledge_30 ?_
  refine za_ild_n B.1 2 dd_Md_acknowledge_33 rfl ?_
  refine za_iald B.1 dd_Md_acknowledge_34 ?_
  exact za_if_le B.1 39 dd_Md_acknowledge_35 (by decide) (zr_Md_acknowledge_39 B) (zr_Md_acknowledge_38 B)
theorem zr_Md_acknowledge_18 (B : zs_B p s m args meth c G bb_Md_acknowledge 5 yy_Md_acknowledge none) : zA_Md_acknowledge p l e s m args below meth c G Q 18 (zb_Md_acknowledge_18 Q) := by
  unfold zb_Md_acknowledge_18
  refine za_ald_n B.1 0 dd_Md_acknowledge_18 rfl ?_
  refine za_gtR B.1 8 10 zi_8 rfl (by decide) (by decide) rfl zW_466 rfl dd_Md_acknowledge_19 ?_
  refine za_ild B.1 dd_Md_acknowledge_22 ?_
  refine za_iald B.1 dd_Md_acknowledge_24 ?_
  refine za_ild_n B.1 3 dd_Md_acknowledge_25 rfl ?_
  exact za_cmp_ne B.1 38 dd_Md_acknowledge_26 (by decide) (zr_Md_acknowledge_29 B) (zr_Md_acknowledge_38 B)
theorem zr_Md_acknowledge_0 (B : zs_B p s m args meth c G bb_Md_acknowledge 5 yy_Md_acknowledge none) : zA_Md_acknowledge p l e s m args below meth c G Q 0 (zb_Md_acknowledge_0 Q) := by
  unfold zb_Md_acknowledge_0
  refine za_ild_n B.1 2 dd_Md_acknowledge_0 rfl ?_
  refine za_bip B.1 20 dd_Md_acknowledge_1 (by decide) ?_
  refine za_dvd B.1 dd_Md_acknowledge_3 ?_
  refine za_ist B.1 dd_Md_acknowledge_4 (by decide) ?_
  refine za_ald_n B.1 0 dd_Md_acknowledge_6 rfl ?_
  refine za_gtR B.1 8 1 zi_8 rfl (by decide) (by decide) rfl zW_457 rfl dd_Md_acknowledge_7 ?_
  refine za_ico B.1 3 dd_Md_acknowledge_10 (by decide) ?_
  refine za_ild B.1 dd_Md_acknowledge_11 ?_
  refine za_add B.1 dd_Md_acknowledge_13 ?_
  refine za_zald B.1 dd_Md_acknowledge_14 ?_
  exact za_if_ne B.1 38 dd_Md_acknowledge_15 (by decide) (zr_Md_acknowledge_18 B) (zr_Md_acknowledge_38 B)
end
theorem zm_Md_acknowledge (l : Launch) (G : zs_G) (As : List Value) (σ : zs_S) (Q : zs_Q) (h : zw_Md_acknowledge As σ Q) : zs_Met l yy_Md_acknowledge (Cond.code yy_Md_acknowledge bb_Md_acknowledge 5 none :: zw_all) zk_Md_acknowledge G As σ Q 0 0 := by
  unfold zw_Md_acknowledge at h
  split at h
  · exact zs_enter (by decide +kernel) h.1 (Nat.le_of_ble_eq_true rfl) h.2 (fun p e s m args below meth c B => zr_Md_acknowledge_0 B)
  · exact h.elim
-- SequencedBatchesModel.place(III)I
theorem dd_Md_place_0 : decode bb_Md_place 0 = .ok (.sipush 400, 3) := by decide +kernel
theorem dd_Md_place_3 : decode bb_Md_place 3 = .ok (.iload_n 1, 1) := by decide +kernel
theorem dd_Md_place_4 : decode bb_Md_place 4 = .ok (.imul, 1) := by decide +kernel
theorem dd_Md_place_5 : decode bb_Md_place 5 = .ok (.bipush 100, 2) := by decide +kernel
theorem dd_Md_place_7 : decode bb_Md_place 7 = .ok (.iload_n 2, 1) := by decide +kernel
theorem dd_Md_place_8 : decode bb_Md_place 8 = .ok (.imul, 1) := by decide +kernel
theorem dd_Md_place_9 : decode bb_Md_place 9 = .ok (.iadd, 1) := by decide +kernel
theorem dd_Md_place_10 : decode bb_Md_place 10 = .ok (.iload_n 3, 1) := by decide +kernel
theorem dd_Md_place_11 : decode bb_Md_place 11 = .ok (.iadd, 1) := by decide +kernel
theorem dd_Md_place_12 : decode bb_Md_place 12 = .ok (.ireturn, 1) := by decide +kernel
def zk_Md_place : Room := { frames := 0, cells := 0, slots := 0, locals := 0 }
abbrev zA_Md_place (p : Program) (l : Launch) (e : Env) (s : State) (m : MethodId) (args : Array Value) (below : List Frame) (meth : Method) (c : Code) (G : zs_G) (Q : zs_Q) (pc : Nat) (P : zs_P) : Prop := zs_At p l e zk_Md_place s m args below meth c (MQ below (zs_Qc G Q) args s 0 0 (fun q => zg_z G ≤ q)) G 4 pc P
def zb_Md_place_0 (Q : zs_Q) : zs_P := zt_psh 400 (zt_ild 1 (zt_bin (fun x y => x * y) (zt_psh 100 (zt_ild 2 (zt_bin (fun x y => x * y) (zt_bin (fun x y => x + y) (zt_ild 3 (zt_bin (fun x y => x + y) (zt_irt 0 0 Q)))))))))
def zw_Md_place : zs_W := fun As σ Q => match As with
  | [a0, a1, a2, a3] => zs_c1 [a0, a1, a2, a3] = true ∧ zb_Md_place_0 Q [some a0, some a1, some a2, some a3] [] σ 0 0
  | _ => False
section
variable {p : Program} {l : Launch} {e : Env} {s : State} {m : MethodId} {args : Array Value} {below : List Frame} {meth : Method} {c : Code} {G : zs_G} {Q : zs_Q}
theorem zr_Md_place_0 (B : zs_B p s m args meth c G bb_Md_place 4 yy_Md_place (some .int)) : zA_Md_place p l e s m args below meth c G Q 0 (zb_Md_place_0 Q) := by
  unfold zb_Md_place_0
  refine za_sip B.1 400 dd_Md_place_0 (by decide) ?_
  refine za_ild_n B.1 1 dd_Md_place_3 rfl ?_
  refine za_mul B.1 dd_Md_place_4 ?_
  refine za_bip B.1 100 dd_Md_place_5 (by decide) ?_
  refine za_ild_n B.1 2 dd_Md_place_7 rfl ?_
  refine za_mul B.1 dd_Md_place_8 ?_
  refine za_add B.1 dd_Md_place_9 ?_
  refine za_ild_n B.1 3 dd_Md_place_10 rfl ?_
  refine za_add B.1 dd_Md_place_11 ?_
  exact za_irt B.1 0 0 B.2.1 B.2.2.1 dd_Md_place_12
end
theorem zm_Md_place (l : Launch) (G : zs_G) (As : List Value) (σ : zs_S) (Q : zs_Q) (h : zw_Md_place As σ Q) : zs_Met l yy_Md_place (Cond.code yy_Md_place bb_Md_place 4 (some .int) :: zw_all) zk_Md_place G As σ Q 0 0 := by
  unfold zw_Md_place at h
  split at h
  · exact zs_enter (by decide +kernel) h.1 (Nat.le_of_ble_eq_true rfl) h.2 (fun p e s m args below meth c B => zr_Md_place_0 B)
  · exact h.elim
-- SequencedBatchesModel.outcome(IIII)I
theorem dd_Md_outcome_0 : decode bb_Md_outcome 0 = .ok (.aload_n 0, 1) := by decide +kernel
theorem dd_Md_outcome_1 : decode bb_Md_outcome 1 = .ok (.getfield 23, 3) := by decide +kernel
theorem dd_Md_outcome_4 : decode bb_Md_outcome 4 = .ok (.iload_n 1, 1) := by decide +kernel
theorem dd_Md_outcome_5 : decode bb_Md_outcome 5 = .ok (.iaload, 1) := by decide +kernel
theorem dd_Md_outcome_6 : decode bb_Md_outcome 6 = .ok (.istore 5, 2) := by decide +kernel
theorem dd_Md_outcome_8 : decode bb_Md_outcome 8 = .ok (.aload_n 0, 1) := by decide +kernel
theorem dd_Md_outcome_9 : decode bb_Md_outcome 9 = .ok (.getfield 13, 3) := by decide +kernel
theorem dd_Md_outcome_12 : decode bb_Md_outcome 12 = .ok (.iload_n 1, 1) := by decide +kernel
theorem dd_Md_outcome_13 : decode bb_Md_outcome 13 = .ok (.iaload, 1) := by decide +kernel
theorem dd_Md_outcome_14 : decode bb_Md_outcome 14 = .ok (.tableswitch 108 0 4 #[34, 78, 83, 86, 103], 34) := by decide +kernel
theorem dd_Md_outcome_48 : decode bb_Md_outcome 48 = .ok (.iload_n 2, 1) := by decide +kernel
theorem dd_Md_outcome_49 : decode bb_Md_outcome 49 = .ok (.aload_n 0, 1) := by decide +kernel
theorem dd_Md_outcome_50 : decode bb_Md_outcome 50 = .ok (.getfield 17, 3) := by decide +kernel
theorem dd_Md_outcome_53 : decode bb_Md_outcome 53 = .ok (.iload_n 1, 1) := by decide +kernel
theorem dd_Md_outcome_54 : decode bb_Md_outcome 54 = .ok (.iaload, 1) := by decide +kernel
theorem dd_Md_outcome_55 : decode bb_Md_outcome 55 = .ok (.if_icmp .ne 20, 3) := by decide +kernel
theorem dd_Md_outcome_58 : decode bb_Md_outcome 58 = .ok (.iload_n 3, 1) := by decide +kernel
theorem dd_Md_outcome_59 : decode bb_Md_outcome 59 = .ok (.iload 5, 2) := by decide +kernel
theorem dd_Md_outcome_61 : decode bb_Md_outcome 61 = .ok (.if_icmp .lt 10, 3) := by decide +kernel
theorem dd_Md_outcome_64 : decode bb_Md_outcome 64 = .ok (.iload_n 3, 1) := by decide +kernel
theorem dd_Md_outcome_65 : decode bb_Md_outcome 65 = .ok (.iload 5, 2) := by decide +kernel
theorem dd_Md_outcome_67 : decode bb_Md_outcome 67 = .ok (.isub, 1) := by decide +kernel
theorem dd_Md_outcome_68 : decode bb_Md_outcome 68 = .ok (.goto 23, 3) := by decide +kernel
theorem dd_Md_outcome_71 : decode bb_Md_outcome 71 = .ok (.iload_n 3, 1) := by decide +kernel
theorem dd_Md_outcome_72 : decode bb_Md_outcome 72 = .ok (.goto 19, 3) := by decide +kernel
theorem dd_Md_outcome_75 : decode bb_Md_outcome 75 = .ok (.iload_n 3, 1) := by decide +kernel
theorem dd_Md_outcome_76 : decode bb_Md_outcome 76 = .ok (.iload 5, 2) := by decide +kernel
theorem dd_Md_outcome_78 : decode bb_Md_outcome 78 = .ok (.if_icmp .lt 11, 3) := by decide +kernel
theorem dd_Md_outcome_81 : decode bb_Md_outcome 81 = .ok (.iload 4, 2) := by decide +kernel
theorem dd_Md_outcome_83 : decode bb_Md_outcome 83 = .ok (.iload 5, 2) := by decide +kernel
theorem dd_Md_outcome_85 : decode bb_Md_outcome 85 = .ok (.iadd, 1) := by decide +kernel
theorem dd_Md_outcome_86 : decode bb_Md_outcome 86 = .ok (.goto 5, 3) := by decide +kernel
theorem dd_Md_outcome_89 : decode bb_Md_outcome 89 = .ok (.iload 4, 2) := by decide +kernel
theorem dd_Md_outcome_91 : decode bb_Md_outcome 91 = .ok (.ireturn, 1) := by decide +kernel
theorem dd_Md_outcome_92 : decode bb_Md_outcome 92 = .ok (.iload_n 3, 1) := by decide +kernel
theorem dd_Md_outcome_93 : decode bb_Md_outcome 93 = .ok (.iload 4, 2) := by decide +kernel
theorem dd_Md_outcome_95 : decode bb_Md_outcome 95 = .ok (.iadd, 1) := by decide +kernel
theorem dd_Md_outcome_96 : decode bb_Md_outcome 96 = .ok (.ireturn, 1) := by decide +kernel
theorem dd_Md_outcome_97 : decode bb_Md_outcome 97 = .ok (.iload 5, 2) := by decide +kernel
theorem dd_Md_outcome_99 : decode bb_Md_outcome 99 = .ok (.ireturn, 1) := by decide +kernel
theorem dd_Md_outcome_100 : decode bb_Md_outcome 100 = .ok (.iload_n 2, 1) := by decide +kernel
theorem dd_Md_outcome_101 : decode bb_Md_outcome 101 = .ok (.aload_n 0, 1) := by decide +kernel
theorem dd_Md_outcome_102 : decode bb_Md_outcome 102 = .ok (.getfield 17, 3) := by decide +kernel
theorem dd_Md_outcome_105 : decode bb_Md_outcome 105 = .ok (.iload_n 1, 1) := by decide +kernel
theorem dd_Md_outcome_106 : decode bb_Md_outcome 106 = .ok (.iaload, 1) := by decide +kernel
theorem dd_Md_outcome_107 : decode bb_Md_outcome 107 = .ok (.if_icmp .ne 8, 3) := by decide +kernel
theorem dd_Md_outcome_110 : decode bb_Md_outcome 110 = .ok (.iload 4, 2) := by decide +kernel
theorem dd_Md_outcome_112 : decode bb_Md_outcome 112 = .ok (.goto 4, 3) := by decide +kernel
theorem dd_Md_outcome_115 : decode bb_Md_outcome 115 = .ok (.iload_n 3, 1) := by decide +kernel
theorem dd_Md_outcome_116 : decode bb_Md_outcome 116 = .ok (.ireturn, 1) := by decide +kernel
theorem dd_Md_outcome_117 : decode bb_Md_outcome 117 = .ok (.iload_n 3, 1) := by decide +kernel
theorem dd_Md_outcome_118 : decode bb_Md_outcome 118 = .ok (.iload 5, 2) := by decide +kernel
theorem dd_Md_outcome_120 : decode bb_Md_outcome 120 = .ok (.iadd, 1) := by decide +kernel
theorem dd_Md_outcome_121 : decode bb_Md_outcome 121 = .ok (.ireturn, 1) := by decide +kernel
theorem dd_Md_outcome_122 : decode bb_Md_outcome 122 = .ok (.iload_n 3, 1) := by decide +kernel
theorem dd_Md_outcome_123 : decode bb_Md_outcome 123 = .ok (.iload 4, 2) := by decide +kernel
theorem dd_Md_outcome_125 : decode bb_Md_outcome 125 = .ok (.if_icmp .le 7, 3) := by decide +kernel
theorem dd_Md_outcome_128 : decode bb_Md_outcome 128 = .ok (.iload_n 3, 1) := by decide +kernel
theorem dd_Md_outcome_129 : decode bb_Md_outcome 129 = .ok (.goto 5, 3) := by decide +kernel
theorem dd_Md_outcome_132 : decode bb_Md_outcome 132 = .ok (.iload 4, 2) := by decide +kernel
theorem dd_Md_outcome_134 : decode bb_Md_outcome 134 = .ok (.ireturn, 1) := by decide +kernel
def zk_Md_outcome : Room := { frames := 0, cells := 0, slots := 0, locals := 0 }
abbrev zA_Md_outcome (p : Program) (l : Launch) (e : Env) (s : State) (m : MethodId) (args : Array Value) (below : List Frame) (meth : Method) (c : Code) (G : zs_G) (Q : zs_Q) (pc : Nat) (P : zs_P) : Prop := zs_At p l e zk_Md_outcome s m args below meth c (MQ below (zs_Qc G Q) args s 0 0 (fun q => zg_z G ≤ q)) G 6 pc P
def zb_Md_outcome_91 (Q : zs_Q) : zs_P := zt_irt 0 0 Q
def zb_Md_outcome_89 (Q : zs_Q) : zs_P := zt_ild 4 ((zb_Md_outcome_91 Q))
def zb_Md_outcome_81 (Q : zs_Q) : zs_P := zt_ild 4 (zt_ild 5 (zt_bin (fun x y => x + y) ((zb_Md_outcome_91 Q))))
def zb_Md_outcome_75 (Q : zs_Q) : zs_P := zt_ild 3 (zt_ild 5 (zt_cmp (fun x y => x < y) (zb_Md_outcome_89 Q) (zb_Md_outcome_81 Q)))
def zb_Md_outcome_71 (Q : zs_Q) : zs_P := zt_ild 3 ((zb_Md_outcome_91 Q))
def zb_Md_outcome_64 (Q : zs_Q) : zs_P := zt_ild 3 (zt_ild 5 (zt_bin (fun x y => x - y) ((zb_Md_outcome_91 Q))))
def zb_Md_outcome_58 (Q : zs_Q) : zs_P := zt_ild 3 (zt_ild 5 (zt_cmp (fun x y => x < y) (zb_Md_outcome_71 Q) (zb_Md_outcome_64 Q)))
def zb_Md_outcome_48 (Q : zs_Q) : zs_P := zt_ild 2 (zt_ald 0 (zt_gtR 8 4 (zt_ild 1 (zt_xld 100 (zt_cmp (fun x y => x = y) (zb_Md_outcome_58 Q) (zb_Md_outcome_75 Q))))))
def zb_Md_outcome_92 (Q : zs_Q) : zs_P := zt_ild 3 (zt_ild 4 (zt_bin (fun x y => x + y) (zt_irt 0 0 Q)))
def zb_Md_outcome_97 (Q : zs_Q) : zs_P := zt_ild 5 (zt_irt 0 0 Q)
def zb_Md_outcome_116 (Q : zs_Q) : zs_P := zt_irt 0 0 Q
def zb_Md_outcome_115 (Q : zs_Q) : zs_P := zt_ild 3 ((zb_Md_outcome_116 Q))
def zb_Md_outcome_110 (Q : zs_Q) : zs_P := zt_ild 4 ((zb_Md_outcome_116 Q))
def zb_Md_outcome_100 (Q : zs_Q) : zs_P := zt_ild 2 (zt_ald 0 (zt_gtR 8 4 (zt_ild 1 (zt_xld 100 (zt_cmp (fun x y => x = y) (zb_Md_outcome_110 Q) (zb_Md_outcome_115 Q))))))
def zb_Md_outcome_117 (Q : zs_Q) : zs_P := zt_ild 3 (zt_ild 5 (zt_bin (fun x y => x + y) (zt_irt 0 0 Q)))
def zb_Md_outcome_134 (Q : zs_Q) : zs_P := zt_irt 0 0 Q
def zb_Md_outcome_132 (Q : zs_Q) : zs_P := zt_ild 4 ((zb_Md_outcome_134 Q))
def zb_Md_outcome_128 (Q : zs_Q) : zs_P := zt_ild 3 ((zb_Md_outcome_134 Q))
def zb_Md_outcome_122 (Q : zs_Q) : zs_P := zt_ild 3 (zt_ild 4 (zt_cmp (fun x y => x ≤ y) (zb_Md_outcome_132 Q) (zb_Md_outcome_128 Q)))
def zb_Md_outcome_0 (Q : zs_Q) : zs_P := zt_ald 0 (zt_gtR 8 6 (zt_ild 1 (zt_xld 100 (zt_ist 5 (zt_ald 0 (zt_gtR 8 3 (zt_ild 1 (zt_xld 100 (zt_cas 0 (zb_Md_outcome_48 Q) (zt_cas 1 (zb_Md_outcome_92 Q) (zt_cas 2 (zb_Md_outcome_97 Q) (zt_cas 3 (zb_Md_outcome_100 Q) (zt_cas 4 (zb_Md_outcome_117 Q) (zt_dfl (zb_Md_outcome_122 Q)))))))))))))))
def zw_Md_outcome : zs_W := fun As σ Q => match As with
  | [a0, a1, a2, a3, a4] => zs_c1 [a0, a1, a2, a3, a4] = true ∧ zb_Md_outcome_0 Q [some a0, some a1, some a2, some a3, some a4, none] [] σ 0 0
  | _ => False
section
variable {p : Program} {l : Launch} {e : Env} {s : State} {m : MethodId} {args : Array Value} {below : List Frame} {meth : Method} {c : Code} {G : zs_G} {Q : zs_Q}
theorem zr_Md_outcome_91 (B : zs_B p s m args meth c G bb_Md_outcome 6 yy_Md_outcome (some .int)) : zA_Md_outcome p l e s m args below meth c G Q 91 (zb_Md_outcome_91 Q) := by
  unfold zb_Md_outcome_91
  exact za_irt B.1 0 0 B.2.1 B.2.2.1 dd_Md_outcome_91
theorem zr_Md_outcome_89 (B : zs_B p s m args meth c G bb_Md_outcome 6 yy_Md_outcome (some .int)) : zA_Md_outcome p l e s m args below meth c G Q 89 (zb_Md_outcome_89 Q) := by
  unfold zb_Md_outcome_89
  refine za_ild B.1 dd_Md_outcome_89 ?_
  exact (zr_Md_outcome_91 B)
theorem zr_Md_outcome_81 (B : zs_B p s m args meth c G bb_Md_outcome 6 yy_Md_outcome (some .int)) : zA_Md_outcome p l e s m args below meth c G Q 81 (zb_Md_outcome_81 Q) := by
  unfold zb_Md_outcome_81
  refine za_ild B.1 dd_Md_outcome_81 ?_
  refine za_ild B.1 dd_Md_outcome_83 ?_
  refine za_add B.1 dd_Md_outcome_85 ?_
  refine za_goto B.1 91 dd_Md_outcome_86 (by decide) ?_
  exact (zr_Md_outcome_91 B)
theorem zr_Md_outcome_75 (B : zs_B p s m args meth c G bb_Md_outcome 6 yy_Md_outcome (some .int)) : zA_Md_outcome p l e s m args below meth c G Q 75 (zb_Md_outcome_75 Q) := by
  unfold zb_Md_outcome_75
  refine za_ild_n B.1 3 dd_Md_outcome_75 rfl ?_
  refine za_ild B.1 dd_Md_outcome_76 ?_
  exact za_cmp_lt B.1 89 dd_Md_outcome_78 (by decide) (zr_Md_outcome_89 B) (zr_Md_outcome_81 B)
theorem zr_Md_outcome_71 (B : zs_B p s m args meth c G bb_Md_outcome 6 yy_Md_outcome (some .int)) : zA_Md_outcome p l e s m args below meth c G Q 71 (zb_Md_outcome_71 Q) := by
  unfold zb_Md_outcome_71
  refine za_ild_n B.1 3 dd_Md_outcome_71 rfl ?_
  refine za_goto B.1 91 dd_Md_outcome_72 (by decide) ?_
  exact (zr_Md_outcome_91 B)
theorem zr_Md_outcome_64 (B : zs_B p s m args meth c G bb_Md_outcome 6 yy_Md_outcome (some .int)) : zA_Md_outcome p l e s m args below meth c G Q 64 (zb_Md_outcome_64 Q) := by
  unfold zb_Md_outcome_64
  refine za_ild_n B.1 3 dd_Md_outcome_64 rfl ?_
  refine za_ild B.1 dd_Md_outcome_65 ?_
  refine za_sub B.1 dd_Md_outcome_67 ?_
  refine za_goto B.1 91 dd_Md_outcome_68 (by decide) ?_
  exact (zr_Md_outcome_91 B)
theorem zr_Md_outcome_58 (B : zs_B p s m args meth c G bb_Md_outcome 6 yy_Md_outcome (some .int)) : zA_Md_outcome p l e s m args below meth c G Q 58 (zb_Md_outcome_58 Q) := by
  unfold zb_Md_outcome_58
  refine za_ild_n B.1 3 dd_Md_outcome_58 rfl ?_
  refine za_ild B.1 dd_Md_outcome_59 ?_
  exact za_cmp_lt B.1 71 dd_Md_outcome_61 (by decide) (zr_Md_outcome_71 B) (zr_Md_outcome_64 B)
theorem zr_Md_outcome_48 (B : zs_B p s m args meth c G bb_Md_outcome 6 yy_Md_outcome (some .int)) : zA_Md_outcome p l e s m args below meth c G Q 48 (zb_Md_outcome_48 Q) := by
  unfold zb_Md_outcome_48
  refine za_ild_n B.1 2 dd_Md_outcome_48 rfl ?_
  refine za_ald_n B.1 0 dd_Md_outcome_49 rfl ?_
  refine za_gtR B.1 8 4 zi_8 rfl (by decide) (by decide) rfl zW_460 rfl dd_Md_outcome_50 ?_
  refine za_ild_n B.1 1 dd_Md_outcome_53 rfl ?_
  refine za_iald B.1 dd_Md_outcome_54 ?_
  exact za_cmp_ne B.1 75 dd_Md_outcome_55 (by decide) (zr_Md_outcome_58 B) (zr_Md_outcome_75 B)
theorem zr_Md_outcome_92 (B : zs_B p s m args meth c G bb_Md_outcome 6 yy_Md_outcome (some .int)) : zA_Md_outcome p l e s m args below meth c G Q 92 (zb_Md_outcome_92 Q) := by
  unfold zb_Md_outcome_92
  refine za_ild_n B.1 3 dd_Md_outcome_92 rfl ?_
  refine za_ild B.1 dd_Md_outcome_93 ?_
  refine za_add B.1 dd_Md_outcome_95 ?_
  exact za_irt B.1 0 0 B.2.1 B.2.2.1 dd_Md_outcome_96
theorem zr_Md_outcome_97 (B : zs_B p s m args meth c G bb_Md_outcome 6 yy_Md_outcome (some .int)) : zA_Md_outcome p l e s m args below meth c G Q 97 (zb_Md_outcome_97 Q) := by
  unfold zb_Md_outcome_97
  refine za_ild B.1 dd_Md_outcome_97 ?_
  exact za_irt B.1 0 0 B.2.1 B.2.2.1 dd_Md_outcome_99
theorem zr_Md_outcome_116 (B : zs_B p s m args meth c G bb_Md_outcome 6 yy_Md_outcome (some .int)) : zA_Md_outcome p l e s m args below meth c G Q 116 (zb_Md_outcome_116 Q) := by
  unfold zb_Md_outcome_116
  exact za_irt B.1 0 0 B.2.1 B.2.2.1 dd_Md_outcome_116
theorem zr_Md_outcome_115 (B : zs_B p s m args meth c G bb_Md_outcome 6 yy_Md_outcome (some .int)) : zA_Md_outcome p l e s m args below meth c G Q 115 (zb_Md_outcome_115 Q) := by
  unfold zb_Md_outcome_115
  refine za_ild_n B.1 3 dd_Md_outcome_115 rfl ?_
  exact (zr_Md_outcome_116 B)
theorem zr_Md_outcome_110 (B : zs_B p s m args meth c G bb_Md_outcome 6 yy_Md_outcome (some .int)) : zA_Md_outcome p l e s m args below meth c G Q 110 (zb_Md_outcome_110 Q) := by
  unfold zb_Md_outcome_110
  refine za_ild B.1 dd_Md_outcome_110 ?_
  refine za_goto B.1 116 dd_Md_outcome_112 (by decide) ?_
  exact (zr_Md_outcome_116 B)
theorem zr_Md_outcome_100 (B : zs_B p s m args meth c G bb_Md_outcome 6 yy_Md_outcome (some .int)) : zA_Md_outcome p l e s m args below meth c G Q 100 (zb_Md_outcome_100 Q) := by
  unfold zb_Md_outcome_100
  refine za_ild_n B.1 2 dd_Md_outcome_100 rfl ?_
  refine za_ald_n B.1 0 dd_Md_outcome_101 rfl ?_
  refine za_gtR B.1 8 4 zi_8 rfl (by decide) (by decide) rfl zW_460 rfl dd_Md_outcome_102 ?_
  refine za_ild_n B.1 1 dd_Md_outcome_105 rfl ?_
  refine za_iald B.1 dd_Md_outcome_106 ?_
  exact za_cmp_ne B.1 115 dd_Md_outcome_107 (by decide) (zr_Md_outcome_110 B) (zr_Md_outcome_115 B)
theorem zr_Md_outcome_117 (B : zs_B p s m args meth c G bb_Md_outcome 6 yy_Md_outcome (some .int)) : zA_Md_outcome p l e s m args below meth c G Q 117 (zb_Md_outcome_117 Q) := by
  unfold zb_Md_outcome_117
  refine za_ild_n B.1 3 dd_Md_outcome_117 rfl ?_
  refine za_ild B.1 dd_Md_outcome_118 ?_
  refine za_add B.1 dd_Md_outcome_120 ?_
  exact za_irt B.1 0 0 B.2.1 B.2.2.1 dd_Md_outcome_121
theorem zr_Md_outcome_134 (B : zs_B p s m args meth c G bb_Md_outcome 6 yy_Md_outcome (some .int)) : zA_Md_outcome p l e s m args below meth c G Q 134 (zb_Md_outcome_134 Q) := by
  unfold zb_Md_outcome_134
  exact za_irt B.1 0 0 B.2.1 B.2.2.1 dd_Md_outcome_134
theorem zr_Md_outcome_132 (B : zs_B p s m args meth c G bb_Md_outcome 6 yy_Md_outcome (some .int)) : zA_Md_outcome p l e s m args below meth c G Q 132 (zb_Md_outcome_132 Q) := by
  unfold zb_Md_outcome_132
  refine za_ild B.1 dd_Md_outcome_132 ?_
  exact (zr_Md_outcome_134 B)
theorem zr_Md_outcome_128 (B : zs_B p s m args meth c G bb_Md_outcome 6 yy_Md_outcome (some .int)) : zA_Md_outcome p l e s m args below meth c G Q 128 (zb_Md_outcome_128 Q) := by
  unfold zb_Md_outcome_128
  refine za_ild_n B.1 3 dd_Md_outcome_128 rfl ?_
  refine za_goto B.1 134 dd_Md_outcome_129 (by decide) ?_
  exact (zr_Md_outcome_134 B)
theorem zr_Md_outcome_122 (B : zs_B p s m args meth c G bb_Md_outcome 6 yy_Md_outcome (some .int)) : zA_Md_outcome p l e s m args below meth c G Q 122 (zb_Md_outcome_122 Q) := by
  unfold zb_Md_outcome_122
  refine za_ild_n B.1 3 dd_Md_outcome_122 rfl ?_
  refine za_ild B.1 dd_Md_outcome_123 ?_
  exact za_cmp_le B.1 132 dd_Md_outcome_125 (by decide) (zr_Md_outcome_132 B) (zr_Md_outcome_128 B)
theorem zr_Md_outcome_0 (B : zs_B p s m args meth c G bb_Md_outcome 6 yy_Md_outcome (some .int)) : zA_Md_outcome p l e s m args below meth c G Q 0 (zb_Md_outcome_0 Q) := by
  unfold zb_Md_outcome_0
  refine za_ald_n B.1 0 dd_Md_outcome_0 rfl ?_
  refine za_gtR B.1 8 6 zi_8 rfl (by decide) (by decide) rfl zW_462 rfl dd_Md_outcome_1 ?_
  refine za_ild_n B.1 1 dd_Md_outcome_4 rfl ?_
  refine za_iald B.1 dd_Md_outcome_5 ?_
  refine za_ist B.1 dd_Md_outcome_6 (by decide) ?_
  refine za_ald_n B.1 0 dd_Md_outcome_8 rfl ?_
  refine za_gtR B.1 8 3 zi_8 rfl (by decide) (by decide) rfl zW_459 rfl dd_Md_outcome_9 ?_
  refine za_ild_n B.1 1 dd_Md_outcome_12 rfl ?_
  refine za_iald B.1 dd_Md_outcome_13 ?_
  refine za_sw0 ?_
  refine za_swc (off := 34) B.1 0 0 48 dd_Md_outcome_14 (by decide) (by decide) (by decide) (by decide) (zr_Md_outcome_48 B) ?_
  refine za_swc (off := 78) B.1 1 1 92 dd_Md_outcome_14 (by decide) (by decide) (by decide) (by decide) (zr_Md_outcome_92 B) ?_
  refine za_swc (off := 83) B.1 2 2 97 dd_Md_outcome_14 (by decide) (by decide) (by decide) (by decide) (zr_Md_outcome_97 B) ?_
  refine za_swc (off := 86) B.1 3 3 100 dd_Md_outcome_14 (by decide) (by decide) (by decide) (by decide) (zr_Md_outcome_100 B) ?_
  refine za_swc (off := 103) B.1 4 4 117 dd_Md_outcome_14 (by decide) (by decide) (by decide) (by decide) (zr_Md_outcome_117 B) ?_
  exact za_swd B.1 122 dd_Md_outcome_14 (fun x hx => by
    have h0 := lv_neT (a := 0) (hx 0 (by decide)) (by decide)
    have h1 := lv_neT (a := 1) (hx 1 (by decide)) (by decide)
    have h2 := lv_neT (a := 2) (hx 2 (by decide)) (by decide)
    have h3 := lv_neT (a := 3) (hx 3 (by decide)) (by decide)
    have h4 := lv_neT (a := 4) (hx 4 (by decide)) (by decide)
    omega) (by decide) (zr_Md_outcome_122 B)
end
theorem zm_Md_outcome (l : Launch) (G : zs_G) (As : List Value) (σ : zs_S) (Q : zs_Q) (h : zw_Md_outcome As σ Q) : zs_Met l yy_Md_outcome (Cond.code yy_Md_outcome bb_Md_outcome 6 (some .int) :: zw_all) zk_Md_outcome G As σ Q 0 0 := by
  unfold zw_Md_outcome at h
  split at h
  · exact zs_enter (by decide +kernel) h.1 (Nat.le_of_ble_eq_true rfl) h.2 (fun p e s m args below meth c B => zr_Md_outcome_0 B)
  · exact h.elim
-- SequencedBatchesModel.finish(III)V
theorem dd_Md_finish_0 : decode bb_Md_finish 0 = .ok (.aload_n 0, 1) := by decide +kernel
theorem dd_Md_finish_1 : decode bb_Md_finish 1 = .ok (.getfield 86, 3) := by decide +kernel
theorem dd_Md_finish_4 : decode bb_Md_finish 4 = .ok (.aload_n 0, 1) := by decide +kernel
theorem dd_Md_finish_5 : decode bb_Md_finish 5 = .ok (.iload_n 1, 1) := by decide +kernel
theorem dd_Md_finish_6 : decode bb_Md_finish 6 = .ok (.iload_n 2, 1) := by decide +kernel
theorem dd_Md_finish_7 : decode bb_Md_finish 7 = .ok (.iload_n 3, 1) := by decide +kernel
theorem dd_Md_finish_8 : decode bb_Md_finish 8 = .ok (.invokevirtual 185, 3) := by decide +kernel
theorem dd_Md_finish_11 : decode bb_Md_finish 11 = .ok (.baload, 1) := by decide +kernel
theorem dd_Md_finish_12 : decode bb_Md_finish 12 = .ok (.ifCond .eq 18, 3) := by decide +kernel
theorem dd_Md_finish_15 : decode bb_Md_finish 15 = .ok (.aload_n 0, 1) := by decide +kernel
theorem dd_Md_finish_16 : decode bb_Md_finish 16 = .ok (.getfield 89, 3) := by decide +kernel
theorem dd_Md_finish_19 : decode bb_Md_finish 19 = .ok (.aload_n 0, 1) := by decide +kernel
theorem dd_Md_finish_20 : decode bb_Md_finish 20 = .ok (.iload_n 1, 1) := by decide +kernel
theorem dd_Md_finish_21 : decode bb_Md_finish 21 = .ok (.iload_n 2, 1) := by decide +kernel
theorem dd_Md_finish_22 : decode bb_Md_finish 22 = .ok (.iload_n 3, 1) := by decide +kernel
theorem dd_Md_finish_23 : decode bb_Md_finish 23 = .ok (.invokevirtual 185, 3) := by decide +kernel
theorem dd_Md_finish_26 : decode bb_Md_finish 26 = .ok (.baload, 1) := by decide +kernel
theorem dd_Md_finish_27 : decode bb_Md_finish 27 = .ok (.ifCond .eq 4, 3) := by decide +kernel
theorem dd_Md_finish_30 : decode bb_Md_finish 30 = .ok (.return_, 1) := by decide +kernel
theorem dd_Md_finish_31 : decode bb_Md_finish 31 = .ok (.iconst 1, 1) := by decide +kernel
theorem dd_Md_finish_32 : decode bb_Md_finish 32 = .ok (.istore 4, 2) := by decide +kernel
theorem dd_Md_finish_34 : decode bb_Md_finish 34 = .ok (.iconst 0, 1) := by decide +kernel
theorem dd_Md_finish_35 : decode bb_Md_finish 35 = .ok (.istore 5, 2) := by decide +kernel
theorem dd_Md_finish_37 : decode bb_Md_finish 37 = .ok (.iload 5, 2) := by decide +kernel
theorem dd_Md_finish_39 : decode bb_Md_finish 39 = .ok (.aload_n 0, 1) := by decide +kernel
theorem dd_Md_finish_40 : decode bb_Md_finish 40 = .ok (.getfield 104, 3) := by decide +kernel
theorem dd_Md_finish_43 : decode bb_Md_finish 43 = .ok (.if_icmp .ge 61, 3) := by decide +kernel
theorem dd_Md_finish_46 : decode bb_Md_finish 46 = .ok (.iload 4, 2) := by decide +kernel
theorem dd_Md_finish_48 : decode bb_Md_finish 48 = .ok (.ifCond .eq 47, 3) := by decide +kernel
theorem dd_Md_finish_51 : decode bb_Md_finish 51 = .ok (.iload 5, 2) := by decide +kernel
theorem dd_Md_finish_53 : decode bb_Md_finish 53 = .ok (.iload_n 2, 1) := by decide +kernel
theorem dd_Md_finish_54 : decode bb_Md_finish 54 = .ok (.if_icmp .eq 37, 3) := by decide +kernel
theorem dd_Md_finish_57 : decode bb_Md_finish 57 = .ok (.aload_n 0, 1) := by decide +kernel
theorem dd_Md_finish_58 : decode bb_Md_finish 58 = .ok (.iload_n 3, 1) := by decide +kernel
theorem dd_Md_finish_59 : decode bb_Md_finish 59 = .ok (.iload 5, 2) := by decide +kernel
theorem dd_Md_finish_61 : decode bb_Md_finish 61 = .ok (.invokevirtual 199, 3) := by decide +kernel
theorem dd_Md_finish_64 : decode bb_Md_finish 64 = .ok (.ifCond .eq 27, 3) := by decide +kernel
theorem dd_Md_finish_67 : decode bb_Md_finish 67 = .ok (.aload_n 0, 1) := by decide +kernel
theorem dd_Md_finish_68 : decode bb_Md_finish 68 = .ok (.getfield 92, 3) := by decide +kernel
theorem dd_Md_finish_71 : decode bb_Md_finish 71 = .ok (.bipush 16, 2) := by decide +kernel
theorem dd_Md_finish_73 : decode bb_Md_finish 73 = .ok (.bipush 100, 2) := by decide +kernel
theorem dd_Md_finish_75 : decode bb_Md_finish 75 = .ok (.iload_n 1, 1) := by decide +kernel
theorem dd_Md_finish_76 : decode bb_Md_finish 76 = .ok (.imul, 1) := by decide +kernel
theorem dd_Md_finish_77 : decode bb_Md_finish 77 = .ok (.iload_n 3, 1) := by decide +kernel
theorem dd_Md_finish_78 : decode bb_Md_finish 78 = .ok (.iadd, 1) := by decide +kernel
theorem dd_Md_finish_79 : decode bb_Md_finish 79 = .ok (.imul, 1) := by decide +kernel
theorem dd_Md_finish_80 : decode bb_Md_finish 80 = .ok (.iconst 4, 1) := by decide +kernel
theorem dd_Md_finish_81 : decode bb_Md_finish 81 = .ok (.iload 5, 2) := by decide +kernel
theorem dd_Md_finish_83 : decode bb_Md_finish 83 = .ok (.imul, 1) := by decide +kernel
theorem dd_Md_finish_84 : decode bb_Md_finish 84 = .ok (.iadd, 1) := by decide +kernel
theorem dd_Md_finish_85 : decode bb_Md_finish 85 = .ok (.iload_n 2, 1) := by decide +kernel
theorem dd_Md_finish_86 : decode bb_Md_finish 86 = .ok (.iadd, 1) := by decide +kernel
theorem dd_Md_finish_87 : decode bb_Md_finish 87 = .ok (.baload, 1) := by decide +kernel
theorem dd_Md_finish_88 : decode bb_Md_finish 88 = .ok (.ifCond .eq 7, 3) := by decide +kernel
theorem dd_Md_finish_91 : decode bb_Md_finish 91 = .ok (.iconst 1, 1) := by decide +kernel
theorem dd_Md_finish_92 : decode bb_Md_finish 92 = .ok (.goto 4, 3) := by decide +kernel
theorem dd_Md_finish_95 : decode bb_Md_finish 95 = .ok (.iconst 0, 1) := by decide +kernel
theorem dd_Md_finish_96 : decode bb_Md_finish 96 = .ok (.istore 4, 2) := by decide +kernel
theorem dd_Md_finish_98 : decode bb_Md_finish 98 = .ok (.iinc 5 1, 3) := by decide +kernel
theorem dd_Md_finish_101 : decode bb_Md_finish 101 = .ok (.goto (-64), 3) := by decide +kernel
theorem dd_Md_finish_104 : decode bb_Md_finish 104 = .ok (.aload_n 0, 1) := by decide +kernel
theorem dd_Md_finish_105 : decode bb_Md_finish 105 = .ok (.iload_n 3, 1) := by decide +kernel
theorem dd_Md_finish_106 : decode bb_Md_finish 106 = .ok (.iload_n 2, 1) := by decide +kernel
theorem dd_Md_finish_107 : decode bb_Md_finish 107 = .ok (.invokevirtual 202, 3) := by decide +kernel
theorem dd_Md_finish_110 : decode bb_Md_finish 110 = .ok (.ifCond .eq 9, 3) := by decide +kernel
theorem dd_Md_finish_113 : decode bb_Md_finish 113 = .ok (.iload 4, 2) := by decide +kernel
theorem dd_Md_finish_115 : decode bb_Md_finish 115 = .ok (.ifCond .ne 4, 3) := by decide +kernel
theorem dd_Md_finish_118 : decode bb_Md_finish 118 = .ok (.return_, 1) := by decide +kernel
theorem dd_Md_finish_119 : decode bb_Md_finish 119 = .ok (.aload_n 0, 1) := by decide +kernel
theorem dd_Md_finish_120 : decode bb_Md_finish 120 = .ok (.getfield 89, 3) := by decide +kernel
theorem dd_Md_finish_123 : decode bb_Md_finish 123 = .ok (.aload_n 0, 1) := by decide +kernel
theorem dd_Md_finish_124 : decode bb_Md_finish 124 = .ok (.iload_n 1, 1) := by decide +kernel
theorem dd_Md_finish_125 : decode bb_Md_finish 125 = .ok (.iload_n 2, 1) := by decide +kernel
theorem dd_Md_finish_126 : decode bb_Md_finish 126 = .ok (.iload_n 3, 1) := by decide +kernel
theorem dd_Md_finish_127 : decode bb_Md_finish 127 = .ok (.invokevirtual 185, 3) := by decide +kernel
theorem dd_Md_finish_130 : decode bb_Md_finish 130 = .ok (.iconst 1, 1) := by decide +kernel
theorem dd_Md_finish_131 : decode bb_Md_finish 131 = .ok (.bastore, 1) := by decide +kernel
theorem dd_Md_finish_132 : decode bb_Md_finish 132 = .ok (.iload_n 2, 1) := by decide +kernel
theorem dd_Md_finish_133 : decode bb_Md_finish 133 = .ok (.istore 5, 2) := by decide +kernel
theorem dd_Md_finish_135 : decode bb_Md_finish 135 = .ok (.iload 5, 2) := by decide +kernel
theorem dd_Md_finish_137 : decode bb_Md_finish 137 = .ok (.bipush 12, 2) := by decide +kernel
theorem dd_Md_finish_139 : decode bb_Md_finish 139 = .ok (.if_icmp .ge 66, 3) := by decide +kernel
theorem dd_Md_finish_142 : decode bb_Md_finish 142 = .ok (.aload_n 0, 1) := by decide +kernel
theorem dd_Md_finish_143 : decode bb_Md_finish 143 = .ok (.iload_n 3, 1) := by decide +kernel
theorem dd_Md_finish_144 : decode bb_Md_finish 144 = .ok (.iload 5, 2) := by decide +kernel
theorem dd_Md_finish_146 : decode bb_Md_finish 146 = .ok (.invokevirtual 123, 3) := by decide +kernel
theorem dd_Md_finish_149 : decode bb_Md_finish 149 = .ok (.ifCond .eq 44, 3) := by decide +kernel
theorem dd_Md_finish_152 : decode bb_Md_finish 152 = .ok (.aload_n 0, 1) := by decide +kernel
theorem dd_Md_finish_153 : decode bb_Md_finish 153 = .ok (.getfield 71, 3) := by decide +kernel
theorem dd_Md_finish_156 : decode bb_Md_finish 156 = .ok (.bipush 12, 2) := by decide +kernel
theorem dd_Md_finish_158 : decode bb_Md_finish 158 = .ok (.iload_n 1, 1) := by decide +kernel
theorem dd_Md_finish_159 : decode bb_Md_finish 159 = .ok (.imul, 1) := by decide +kernel
theorem dd_Md_finish_160 : decode bb_Md_finish 160 = .ok (.iload 5, 2) := by decide +kernel
theorem dd_Md_finish_162 : decode bb_Md_finish 162 = .ok (.iadd, 1) := by decide +kernel
theorem dd_Md_finish_163 : decode bb_Md_finish 163 = .ok (.aload_n 0, 1) := by decide +kernel
theorem dd_Md_finish_164 : decode bb_Md_finish 164 = .ok (.iload_n 3, 1) := by decide +kernel
theorem dd_Md_finish_165 : decode bb_Md_finish 165 = .ok (.iload 5, 2) := by decide +kernel
theorem dd_Md_finish_167 : decode bb_Md_finish 167 = .ok (.aload_n 0, 1) := by decide +kernel
theorem dd_Md_finish_168 : decode bb_Md_finish 168 = .ok (.getfield 95, 3) := by decide +kernel
theorem dd_Md_finish_171 : decode bb_Md_finish 171 = .ok (.bipush 100, 2) := by decide +kernel
theorem dd_Md_finish_173 : decode bb_Md_finish 173 = .ok (.iload_n 1, 1) := by decide +kernel
theorem dd_Md_finish_174 : decode bb_Md_finish 174 = .ok (.imul, 1) := by decide +kernel
theorem dd_Md_finish_175 : decode bb_Md_finish 175 = .ok (.iload_n 3, 1) := by decide +kernel
theorem dd_Md_finish_176 : decode bb_Md_finish 176 = .ok (.iadd, 1) := by decide +kernel
theorem dd_Md_finish_177 : decode bb_Md_finish 177 = .ok (.iaload, 1) := by decide +kernel
theorem dd_Md_finish_178 : decode bb_Md_finish 178 = .ok (.aload_n 0, 1) := by decide +kernel
theorem dd_Md_finish_179 : decode bb_Md_finish 179 = .ok (.getfield 98, 3) := by decide +kernel
theorem dd_Md_finish_182 : decode bb_Md_finish 182 = .ok (.bipush 100, 2) := by decide +kernel
theorem dd_Md_finish_184 : decode bb_Md_finish 184 = .ok (.iload_n 1, 1) := by decide +kernel
theorem dd_Md_finish_185 : decode bb_Md_finish 185 = .ok (.imul, 1) := by decide +kernel
theorem dd_Md_finish_186 : decode bb_Md_finish 186 = .ok (.iload_n 3, 1) := by decide +kernel
theorem dd_Md_finish_187 : decode bb_Md_finish 187 = .ok (.iadd, 1) := by decide +kernel
theorem dd_Md_finish_188 : decode bb_Md_finish 188 = .ok (.iaload, 1) := by decide +kernel
theorem dd_Md_finish_189 : decode bb_Md_finish 189 = .ok (.invokevirtual 214, 3) := by decide +kernel
theorem dd_Md_finish_192 : decode bb_Md_finish 192 = .ok (.iastore, 1) := by decide +kernel
theorem dd_Md_finish_193 : decode bb_Md_finish 193 = .ok (.iload 5, 2) := by decide +kernel
theorem dd_Md_finish_195 : decode bb_Md_finish 195 = .ok (.aload_n 0, 1) := by decide +kernel
theorem dd_Md_finish_196 : decode bb_Md_finish 196 = .ok (.getfield 104, 3) := by decide +kernel
theorem dd_Md_finish_199 : decode bb_Md_finish 199 = .ok (.iadd, 1) := by decide +kernel
theorem dd_Md_finish_200 : decode bb_Md_finish 200 = .ok (.istore 5, 2) := by decide +kernel
theorem dd_Md_finish_202 : decode bb_Md_finish 202 = .ok (.goto (-67), 3) := by decide +kernel
theorem dd_Md_finish_205 : decode bb_Md_finish 205 = .ok (.return_, 1) := by decide +kernel
def zk_Md_finish : Room := { frames := 3, cells := 0, slots := 0, locals := 66 }
abbrev zA_Md_finish (p : Program) (l : Launch) (e : Env) (s : State) (m : MethodId) (args : Array Value) (below : List Frame) (meth : Method) (c : Code) (G : zs_G) (Q : zs_Q) (pc : Nat) (P : zs_P) : Prop := zs_At p l e zk_Md_finish s m args below meth c (MQ below (zs_Qc G Q) args s 0 0 (fun q => zg_z G ≤ q)) G 6 pc P
def zb_Md_finish_30 (Q : zs_Q) : zs_P := zt_vrt 0 0 Q
def zb_Md_finish_205 (Q : zs_Q) : zs_P := zt_vrt 0 0 Q
def zb_Md_finish_193 (Q : zs_Q) (K135 : zs_P) : zs_P := zt_ild 5 (zt_ald 0 (zt_gtI 8 0 (zt_bin (fun x y => x + y) (zt_ist 5 (K135)))))
def zb_Md_finish_152 (Q : zs_Q) (K135 : zs_P) : zs_P := zt_ald 0 (zt_gtR 8 23 (zt_psh 12 (zt_ild 1 (zt_bin (fun x y => x * y) (zt_ild 5 (zt_bin (fun x y => x + y) (zt_ald 0 (zt_ild 3 (zt_ild 5 (zt_ald 0 (zt_gtR 8 31 (zt_psh 100 (zt_ild 1 (zt_bin (fun x y => x * y) (zt_ild 3 (zt_bin (fun x y => x + y) (zt_xld 100 (zt_ald 0 (zt_gtR 8 32 (zt_psh 100 (zt_ild 1 (zt_bin (fun x y => x * y) (zt_ild 3 (zt_bin (fun x y => x + y) (zt_xld 100 (zt_cav 8 zw_Md_outcome (4 + 1) 0 0 0 0 (zt_ias ((zb_Md_finish_193 Q K135)))))))))))))))))))))))))))))
def zb_Md_finish_142 (Q : zs_Q) (K135 : zs_P) : zs_P := zt_ald 0 (zt_ild 3 (zt_ild 5 (zt_cav 8 zw_Md_writes (2 + 1) 0 0 0 0 (zt_if (fun x => x = 0) (zb_Md_finish_193 Q K135) (zb_Md_finish_152 Q K135)))))
def zb_Md_finish_135 (Q : zs_Q) (K135 : zs_P) : zs_P := zt_ild 5 (zt_psh 12 (zt_cmp (fun x y => y ≤ x) (zb_Md_finish_205 Q) (zb_Md_finish_142 Q K135)))
def zl_Md_finish_135 (Q : zs_Q) : zs_P := zt_ex (zb_Md_finish_135 Q)
def zb_Md_finish_119 (Q : zs_Q) : zs_P := zt_ald 0 (zt_gtR 8 29 (zt_ald 0 (zt_ild 1 (zt_ild 2 (zt_ild 3 (zt_cav 8 zw_Md_place (3 + 1) 0 0 0 0 (zt_psh 1 (zt_zas (zt_ild 2 (zt_ist 5 ((zl_Md_finish_135 Q))))))))))))
def zb_Md_finish_118 (Q : zs_Q) : zs_P := zt_vrt 0 0 Q
def zb_Md_finish_113 (Q : zs_Q) : zs_P := zt_ild 4 (zt_if (fun x => x = 0) (zb_Md_finish_118 Q) (zb_Md_finish_119 Q))
def zb_Md_finish_104 (Q : zs_Q) : zs_P := zt_ald 0 (zt_ild 3 (zt_ild 2 (zt_cav 8 zw_Md_active (2 + 1) 0 0 0 0 (zt_if (fun x => x = 0) (zb_Md_finish_119 Q) (zb_Md_finish_113 Q)))))
def zb_Md_finish_96 (Q : zs_Q) (K37 : zs_P) : zs_P := zt_ist 4 (zt_inc 5 1 (K37))
def zb_Md_finish_95 (Q : zs_Q) (K37 : zs_P) : zs_P := zt_psh 0 ((zb_Md_finish_96 Q K37))
def zb_Md_finish_91 (Q : zs_Q) (K37 : zs_P) : zs_P := zt_psh 1 ((zb_Md_finish_96 Q K37))
def zb_Md_finish_67 (Q : zs_Q) (K37 : zs_P) : zs_P := zt_ald 0 (zt_gtR 8 30 (zt_psh 16 (zt_psh 100 (zt_ild 1 (zt_bin (fun x y => x * y) (zt_ild 3 (zt_bin (fun x y => x + y) (zt_bin (fun x y => x * y) (zt_psh 4 (zt_ild 5 (zt_bin (fun x y => x * y) (zt_bin (fun x y => x + y) (zt_ild 2 (zt_bin (fun x y => x + y) (zt_xld 101 (zt_if (fun x => x = 0) (zb_Md_finish_95 Q K37) (zb_Md_finish_91 Q K37)))))))))))))))))
def zb_Md_finish_57 (Q : zs_Q) (K37 : zs_P) : zs_P := zt_ald 0 (zt_ild 3 (zt_ild 5 (zt_cav 8 zw_Md_readsIn (2 + 1) 0 0 0 0 (zt_if (fun x => x = 0) (zb_Md_finish_91 Q K37) (zb_Md_finish_67 Q K37)))))
def zb_Md_finish_51 (Q : zs_Q) (K37 : zs_P) : zs_P := zt_ild 5 (zt_ild 2 (zt_cmp (fun x y => x = y) (zb_Md_finish_91 Q K37) (zb_Md_finish_57 Q K37)))
def zb_Md_finish_46 (Q : zs_Q) (K37 : zs_P) : zs_P := zt_ild 4 (zt_if (fun x => x = 0) (zb_Md_finish_95 Q K37) (zb_Md_finish_51 Q K37))
def zb_Md_finish_37 (Q : zs_Q) (K37 : zs_P) : zs_P := zt_ild 5 (zt_ald 0 (zt_gtI 8 0 (zt_cmp (fun x y => y ≤ x) (zb_Md_finish_104 Q) (zb_Md_finish_46 Q K37))))
def zl_Md_finish_37 (Q : zs_Q) : zs_P := zt_ex (zb_Md_finish_37 Q)
def zb_Md_finish_31 (Q : zs_Q) : zs_P := zt_psh 1 (zt_ist 4 (zt_psh 0 (zt_ist 5 ((zl_Md_finish_37 Q)))))
def zb_Md_finish_15 (Q : zs_Q) : zs_P := zt_ald 0 (zt_gtR 8 29 (zt_ald 0 (zt_ild 1 (zt_ild 2 (zt_ild 3 (zt_cav 8 zw_Md_place (3 + 1) 0 0 0 0 (zt_xld 101 (zt_if (fun x => x = 0) (zb_Md_finish_31 Q) (zb_Md_finish_30 Q)))))))))
def zb_Md_finish_0 (Q : zs_Q) : zs_P := zt_ald 0 (zt_gtR 8 28 (zt_ald 0 (zt_ild 1 (zt_ild 2 (zt_ild 3 (zt_cav 8 zw_Md_place (3 + 1) 0 0 0 0 (zt_xld 101 (zt_if (fun x => x = 0) (zb_Md_finish_30 Q) (zb_Md_finish_15 Q)))))))))
def zw_Md_finish : zs_W := fun As σ Q => match As with
  | [a0, a1, a2, a3] => zs_c1 [a0, a1, a2, a3] = true ∧ zb_Md_finish_0 Q [some a0, some a1, some a2, some a3, none, none] [] σ 0 0
  | _ => False
section
variable {p : Program} {l : Launch} {e : Env} {s : State} {m : MethodId} {args : Array Value} {below : List Frame} {meth : Method} {c : Code} {G : zs_G} {Q : zs_Q}
theorem zr_Md_finish_30 (B : zs_B p s m args meth c G bb_Md_finish 6 yy_Md_finish none) : zA_Md_finish p l e s m args below meth c G Q 30 (zb_Md_finish_30 Q) := by
  unfold zb_Md_finish_30
  exact za_vrt B.1 0 0 B.2.1 B.2.2.1 dd_Md_finish_30
theorem zr_Md_finish_205 (B : zs_B p s m args meth c G bb_Md_finish 6 yy_Md_finish none) : zA_Md_finish p l e s m args below meth c G Q 205 (zb_Md_finish_205 Q) := by
  unfold zb_Md_finish_205
  exact za_vrt B.1 0 0 B.2.1 B.2.2.1 dd_Md_finish_205
theorem zr_Md_finish_193 (B : zs_B p s m args meth c G bb_Md_finish 6 yy_Md_finish none) {K135 : zs_P} (h135 : zA_Md_finish p l e s m args below meth c G Q 135 K135) : zA_Md_finish p l e s m args below meth c G Q 193 (zb_Md_finish_193 Q K135) := by
  unfold zb_Md_finish_193
  refine za_ild B.1 dd_Md_finish_193 ?_
  refine za_ald_n B.1 0 dd_Md_finish_195 rfl ?_
  refine za_gtI B.1 8 0 zi_8 rfl (by decide) (by decide) rfl zW_456 rfl dd_Md_finish_196 ?_
  refine za_add B.1 dd_Md_finish_199 ?_
  refine za_ist B.1 dd_Md_finish_200 (by decide) ?_
  refine za_goto B.1 135 dd_Md_finish_202 (by decide) ?_
  exact h135
theorem zr_Md_finish_152 (B : zs_B p s m args meth c G bb_Md_finish 6 yy_Md_finish none) {K135 : zs_P} (h135 : zA_Md_finish p l e s m args below meth c G Q 135 K135) : zA_Md_finish p l e s m args below meth c G Q 152 (zb_Md_finish_152 Q K135) := by
  unfold zb_Md_finish_152
  refine za_ald_n B.1 0 dd_Md_finish_152 rfl ?_
  refine za_gtR B.1 8 23 zi_8 rfl (by decide) (by decide) rfl zW_479 rfl dd_Md_finish_153 ?_
  refine za_bip B.1 12 dd_Md_finish_156 (by decide) ?_
  refine za_ild_n B.1 1 dd_Md_finish_158 rfl ?_
  refine za_mul B.1 dd_Md_finish_159 ?_
  refine za_ild B.1 dd_Md_finish_160 ?_
  refine za_add B.1 dd_Md_finish_162 ?_
  refine za_ald_n B.1 0 dd_Md_finish_163 rfl ?_
  refine za_ild_n B.1 3 dd_Md_finish_164 rfl ?_
  refine za_ild B.1 dd_Md_finish_165 ?_
  refine za_ald_n B.1 0 dd_Md_finish_167 rfl ?_
  refine za_gtR B.1 8 31 zi_8 rfl (by decide) (by decide) rfl zW_487 rfl dd_Md_finish_168 ?_
  refine za_bip B.1 100 dd_Md_finish_171 (by decide) ?_
  refine za_ild_n B.1 1 dd_Md_finish_173 rfl ?_
  refine za_mul B.1 dd_Md_finish_174 ?_
  refine za_ild_n B.1 3 dd_Md_finish_175 rfl ?_
  refine za_add B.1 dd_Md_finish_176 ?_
  refine za_iald B.1 dd_Md_finish_177 ?_
  refine za_ald_n B.1 0 dd_Md_finish_178 rfl ?_
  refine za_gtR B.1 8 32 zi_8 rfl (by decide) (by decide) rfl zW_488 rfl dd_Md_finish_179 ?_
  refine za_bip B.1 100 dd_Md_finish_182 (by decide) ?_
  refine za_ild_n B.1 1 dd_Md_finish_184 rfl ?_
  refine za_mul B.1 dd_Md_finish_185 ?_
  refine za_ild_n B.1 3 dd_Md_finish_186 rfl ?_
  refine za_add B.1 dd_Md_finish_187 ?_
  refine za_iald B.1 dd_Md_finish_188 ?_
  refine za_cV B.1 8 4 0 0 0 0 rfl rfl rfl (by decide) (zm_Md_outcome l G) ⟨callB_of 4 B.1.1.2.2.2.2 (zs_good zW_562) rfl rfl rfl (B.1.1.2.2.2.2 _ zW_8) (B.1.1.2.2.2.2 _ zW_560) (by decide +kernel) ⟨by decide, by decide⟩, (B.1.1.2.2.2.2 _ zW_561), (B.1.1.2.2.2.2 _ zW_687)⟩ dd_Md_finish_189 ?_
  refine za_iast B.1 dd_Md_finish_192 ?_
  exact (zr_Md_finish_193 B h135)
theorem zr_Md_finish_142 (B : zs_B p s m args meth c G bb_Md_finish 6 yy_Md_finish none) {K135 : zs_P} (h135 : zA_Md_finish p l e s m args below meth c G Q 135 K135) : zA_Md_finish p l e s m args below meth c G Q 142 (zb_Md_finish_142 Q K135) := by
  unfold zb_Md_finish_142
  refine za_ald_n B.1 0 dd_Md_finish_142 rfl ?_
  refine za_ild_n B.1 3 dd_Md_finish_143 rfl ?_
  refine za_ild B.1 dd_Md_finish_144 ?_
  refine za_cV B.1 8 2 0 0 0 0 rfl rfl rfl (by decide) (zm_Md_writes l G) ⟨callB_of 2 B.1.1.2.2.2.2 (zs_good zW_559) rfl rfl rfl (B.1.1.2.2.2.2 _ zW_8) (B.1.1.2.2.2.2 _ zW_557) (by decide +kernel) ⟨by decide, by decide⟩, (B.1.1.2.2.2.2 _ zW_558), (B.1.1.2.2.2.2 _ zW_686)⟩ dd_Md_finish_146 ?_
  exact za_if_eq B.1 193 dd_Md_finish_149 (by decide) (zr_Md_finish_193 B h135) (zr_Md_finish_152 B h135)
theorem zr_Md_finish_135 (B : zs_B p s m args meth c G bb_Md_finish 6 yy_Md_finish none) {K135 : zs_P} (h135 : zA_Md_finish p l e s m args below meth c G Q 135 K135) : zA_Md_finish p l e s m args below meth c G Q 135 (zb_Md_finish_135 Q K135) := by
  unfold zb_Md_finish_135
  refine za_ild B.1 dd_Md_finish_135 ?_
  refine za_bip B.1 12 dd_Md_finish_137 (by decide) ?_
  exact za_cmp_ge B.1 205 dd_Md_finish_139 (by decide) (zr_Md_finish_205 B) (zr_Md_finish_142 B h135)
theorem zq_Md_finish_135 (B : zs_B p s m args meth c G bb_Md_finish 6 yy_Md_finish none) : zA_Md_finish p l e s m args below meth c G Q 135 (zl_Md_finish_135 Q) := za_lop (fun K hK => zr_Md_finish_135 B hK)
theorem zr_Md_finish_119 (B : zs_B p s m args meth c G bb_Md_finish 6 yy_Md_finish none) : zA_Md_finish p l e s m args below meth c G Q 119 (zb_Md_finish_119 Q) := by
  unfold zb_Md_finish_119
  refine za_ald_n B.1 0 dd_Md_finish_119 rfl ?_
  refine za_gtR B.1 8 29 zi_8 rfl (by decide) (by decide) rfl zW_485 rfl dd_Md_finish_120 ?_
  refine za_ald_n B.1 0 dd_Md_finish_123 rfl ?_
  refine za_ild_n B.1 1 dd_Md_finish_124 rfl ?_
  refine za_ild_n B.1 2 dd_Md_finish_125 rfl ?_
  refine za_ild_n B.1 3 dd_Md_finish_126 rfl ?_
  refine za_cV B.1 8 3 0 0 0 0 rfl rfl rfl (by decide) (zm_Md_place l G) ⟨callB_of 3 B.1.1.2.2.2.2 (zs_good zW_547) rfl rfl rfl (B.1.1.2.2.2.2 _ zW_8) (B.1.1.2.2.2.2 _ zW_545) (by decide +kernel) ⟨by decide, by decide⟩, (B.1.1.2.2.2.2 _ zW_546), (B.1.1.2.2.2.2 _ zW_682)⟩ dd_Md_finish_127 ?_
  refine za_ico B.1 1 dd_Md_finish_130 (by decide) ?_
  refine za_zast B.1 dd_Md_finish_131 ?_
  refine za_ild_n B.1 2 dd_Md_finish_132 rfl ?_
  refine za_ist B.1 dd_Md_finish_133 (by decide) ?_
  exact (zq_Md_finish_135 B)
theorem zr_Md_finish_118 (B : zs_B p s m args meth c G bb_Md_finish 6 yy_Md_finish none) : zA_Md_finish p l e s m args below meth c G Q 118 (zb_Md_finish_118 Q) := by
  unfold zb_Md_finish_118
  exact za_vrt B.1 0 0 B.2.1 B.2.2.1 dd_Md_finish_118
theorem zr_Md_finish_113 (B : zs_B p s m args meth c G bb_Md_finish 6 yy_Md_finish none) : zA_Md_finish p l e s m args below meth c G Q 113 (zb_Md_finish_113 Q) := by
  unfold zb_Md_finish_113
  refine za_ild B.1 dd_Md_finish_113 ?_
  exact za_if_ne B.1 119 dd_Md_finish_115 (by decide) (zr_Md_finish_118 B) (zr_Md_finish_119 B)
theorem zr_Md_finish_104 (B : zs_B p s m args meth c G bb_Md_finish 6 yy_Md_finish none) : zA_Md_finish p l e s m args below meth c G Q 104 (zb_Md_finish_104 Q) := by
  unfold zb_Md_finish_104
  refine za_ald_n B.1 0 dd_Md_finish_104 rfl ?_
  refine za_ild_n B.1 3 dd_Md_finish_105 rfl ?_
  refine za_ild_n B.1 2 dd_Md_finish_106 rfl ?_
  refine za_cV B.1 8 2 0 0 0 0 rfl rfl rfl (by decide) (zm_Md_active l G) ⟨callB_of 2 B.1.1.2.2.2.2 (zs_good zW_556) rfl rfl rfl (B.1.1.2.2.2.2 _ zW_8) (B.1.1.2.2.2.2 _ zW_554) (by decide +kernel) ⟨by decide, by decide⟩, (B.1.1.2.2.2.2 _ zW_555), (B.1.1.2.2.2.2 _ zW_685)⟩ dd_Md_finish_107 ?_
  exact za_if_eq B.1 119 dd_Md_finish_110 (by decide) (zr_Md_finish_119 B) (zr_Md_finish_113 B)
theorem zr_Md_finish_96 (B : zs_B p s m args meth c G bb_Md_finish 6 yy_Md_finish none) {K37 : zs_P} (h37 : zA_Md_finish p l e s m args below meth c G Q 37 K37) : zA_Md_finish p l e s m args below meth c G Q 96 (zb_Md_finish_96 Q K37) := by
  unfold zb_Md_finish_96
  refine za_ist B.1 dd_Md_finish_96 (by decide) ?_
  refine za_inc B.1 1 dd_Md_finish_98 (by decide) (by decide) ?_
  refine za_goto B.1 37 dd_Md_finish_101 (by decide) ?_
  exact h37
theorem zr_Md_finish_95 (B : zs_B p s m args meth c G bb_Md_finish 6 yy_Md_finish none) {K37 : zs_P} (h37 : zA_Md_finish p l e s m args below meth c G Q 37 K37) : zA_Md_finish p l e s m args below meth c G Q 95 (zb_Md_finish_95 Q K37) := by
  unfold zb_Md_finish_95
  refine za_ico B.1 0 dd_Md_finish_95 (by decide) ?_
  exact (zr_Md_finish_96 B h37)
theorem zr_Md_finish_91 (B : zs_B p s m args meth c G bb_Md_finish 6 yy_Md_finish none) {K37 : zs_P} (h37 : zA_Md_finish p l e s m args below meth c G Q 37 K37) : zA_Md_finish p l e s m args below meth c G Q 91 (zb_Md_finish_91 Q K37) := by
  unfold zb_Md_finish_91
  refine za_ico B.1 1 dd_Md_finish_91 (by decide) ?_
  refine za_goto B.1 96 dd_Md_finish_92 (by decide) ?_
  exact (zr_Md_finish_96 B h37)
theorem zr_Md_finish_67 (B : zs_B p s m args meth c G bb_Md_finish 6 yy_Md_finish none) {K37 : zs_P} (h37 : zA_Md_finish p l e s m args below meth c G Q 37 K37) : zA_Md_finish p l e s m args below meth c G Q 67 (zb_Md_finish_67 Q K37) := by
  unfold zb_Md_finish_67
  refine za_ald_n B.1 0 dd_Md_finish_67 rfl ?_
  refine za_gtR B.1 8 30 zi_8 rfl (by decide) (by decide) rfl zW_486 rfl dd_Md_finish_68 ?_
  refine za_bip B.1 16 dd_Md_finish_71 (by decide) ?_
  refine za_bip B.1 100 dd_Md_finish_73 (by decide) ?_
  refine za_ild_n B.1 1 dd_Md_finish_75 rfl ?_
  refine za_mul B.1 dd_Md_finish_76 ?_
  refine za_ild_n B.1 3 dd_Md_finish_77 rfl ?_
  refine za_add B.1 dd_Md_finish_78 ?_
  refine za_mul B.1 dd_Md_finish_79 ?_
  refine za_ico B.1 4 dd_Md_finish_80 (by decide) ?_
  refine za_ild B.1 dd_Md_finish_81 ?_
  refine za_mul B.1 dd_Md_finish_83 ?_
  refine za_add B.1 dd_Md_finish_84 ?_
  refine za_ild_n B.1 2 dd_Md_finish_85 rfl ?_
  refine za_add B.1 dd_Md_finish_86 ?_
  refine za_zald B.1 dd_Md_finish_87 ?_
  exact za_if_eq B.1 95 dd_Md_finish_88 (by decide) (zr_Md_finish_95 B h37) (zr_Md_finish_91 B h37)
theorem zr_Md_finish_57 (B : zs_B p s m args meth c G bb_Md_finish 6 yy_Md_finish none) {K37 : zs_P} (h37 : zA_Md_finish p l e s m args below meth c G Q 37 K37) : zA_Md_finish p l e s m args below meth c G Q 57 (zb_Md_finish_57 Q K37) := by
  unfold zb_Md_finish_57
  refine za_ald_n B.1 0 dd_Md_finish_57 rfl ?_
  refine za_ild_n B.1 3 dd_Md_finish_58 rfl ?_
  refine za_ild B.1 dd_Md_finish_59 ?_
  refine za_cV B.1 8 2 0 0 0 0 rfl rfl rfl (by decide) (zm_Md_readsIn l G) ⟨callB_of 2 B.1.1.2.2.2.2 (zs_good zW_550) rfl rfl rfl (B.1.1.2.2.2.2 _ zW_8) (B.1.1.2.2.2.2 _ zW_548) (by decide +kernel) ⟨by decide, by decide⟩, (B.1.1.2.2.2.2 _ zW_549), (B.1.1.2.2.2.2 _ zW_683)⟩ dd_Md_finish_61 ?_
  exact za_if_eq B.1 91 dd_Md_finish_64 (by decide) (zr_Md_finish_91 B h37) (zr_Md_finish_67 B h37)
theorem zr_Md_finish_51 (B : zs_B p s m args meth c G bb_Md_finish 6 yy_Md_finish none) {K37 : zs_P} (h37 : zA_Md_finish p l e s m args below meth c G Q 37 K37) : zA_Md_finish p l e s m args below meth c G Q 51 (zb_Md_finish_51 Q K37) := by
  unfold zb_Md_finish_51
  refine za_ild B.1 dd_Md_finish_51 ?_
  refine za_ild_n B.1 2 dd_Md_finish_53 rfl ?_
  exact za_cmp_eq B.1 91 dd_Md_finish_54 (by decide) (zr_Md_finish_91 B h37) (zr_Md_finish_57 B h37)
theorem zr_Md_finish_46 (B : zs_B p s m args meth c G bb_Md_finish 6 yy_Md_finish none) {K37 : zs_P} (h37 : zA_Md_finish p l e s m args below meth c G Q 37 K37) : zA_Md_finish p l e s m args below meth c G Q 46 (zb_Md_finish_46 Q K37) := by
  unfold zb_Md_finish_46
  refine za_ild B.1 dd_Md_finish_46 ?_
  exact za_if_eq B.1 95 dd_Md_finish_48 (by decide) (zr_Md_finish_95 B h37) (zr_Md_finish_51 B h37)
theorem zr_Md_finish_37 (B : zs_B p s m args meth c G bb_Md_finish 6 yy_Md_finish none) {K37 : zs_P} (h37 : zA_Md_finish p l e s m args below meth c G Q 37 K37) : zA_Md_finish p l e s m args below meth c G Q 37 (zb_Md_finish_37 Q K37) := by
  unfold zb_Md_finish_37
  refine za_ild B.1 dd_Md_finish_37 ?_
  refine za_ald_n B.1 0 dd_Md_finish_39 rfl ?_
  refine za_gtI B.1 8 0 zi_8 rfl (by decide) (by decide) rfl zW_456 rfl dd_Md_finish_40 ?_
  exact za_cmp_ge B.1 104 dd_Md_finish_43 (by decide) (zr_Md_finish_104 B) (zr_Md_finish_46 B h37)
theorem zq_Md_finish_37 (B : zs_B p s m args meth c G bb_Md_finish 6 yy_Md_finish none) : zA_Md_finish p l e s m args below meth c G Q 37 (zl_Md_finish_37 Q) := za_lop (fun K hK => zr_Md_finish_37 B hK)
theorem zr_Md_finish_31 (B : zs_B p s m args meth c G bb_Md_finish 6 yy_Md_finish none) : zA_Md_finish p l e s m args below meth c G Q 31 (zb_Md_finish_31 Q) := by
  unfold zb_Md_finish_31
  refine za_ico B.1 1 dd_Md_finish_31 (by decide) ?_
  refine za_ist B.1 dd_Md_finish_32 (by decide) ?_
  refine za_ico B.1 0 dd_Md_finish_34 (by decide) ?_
  refine za_ist B.1 dd_Md_finish_35 (by decide) ?_
  exact (zq_Md_finish_37 B)
theorem zr_Md_finish_15 (B : zs_B p s m args meth c G bb_Md_finish 6 yy_Md_finish none) : zA_Md_finish p l e s m args below meth c G Q 15 (zb_Md_finish_15 Q) := by
  unfold zb_Md_finish_15
  refine za_ald_n B.1 0 dd_Md_finish_15 rfl ?_
  refine za_gtR B.1 8 29 zi_8 rfl (by decide) (by decide) rfl zW_485 rfl dd_Md_finish_16 ?_
  refine za_ald_n B.1 0 dd_Md_finish_19 rfl ?_
  refine za_ild_n B.1 1 dd_Md_finish_20 rfl ?_
  refine za_ild_n B.1 2 dd_Md_finish_21 rfl ?_
  refine za_ild_n B.1 3 dd_Md_finish_22 rfl ?_
  refine za_cV B.1 8 3 0 0 0 0 rfl rfl rfl (by decide) (zm_Md_place l G) ⟨callB_of 3 B.1.1.2.2.2.2 (zs_good zW_547) rfl rfl rfl (B.1.1.2.2.2.2 _ zW_8) (B.1.1.2.2.2.2 _ zW_545) (by decide +kernel) ⟨by decide, by decide⟩, (B.1.1.2.2.2.2 _ zW_546), (B.1.1.2.2.2.2 _ zW_682)⟩ dd_Md_finish_23 ?_
  refine za_zald B.1 dd_Md_finish_26 ?_
  exact za_if_eq B.1 31 dd_Md_finish_27 (by decide) (zr_Md_finish_31 B) (zr_Md_finish_30 B)
theorem zr_Md_finish_0 (B : zs_B p s m args meth c G bb_Md_finish 6 yy_Md_finish none) : zA_Md_finish p l e s m args below meth c G Q 0 (zb_Md_finish_0 Q) := by
  unfold zb_Md_finish_0
  refine za_ald_n B.1 0 dd_Md_finish_0 rfl ?_
  refine za_gtR B.1 8 28 zi_8 rfl (by decide) (by decide) rfl zW_484 rfl dd_Md_finish_1 ?_
  refine za_ald_n B.1 0 dd_Md_finish_4 rfl ?_
  refine za_ild_n B.1 1 dd_Md_finish_5 rfl ?_
  refine za_ild_n B.1 2 dd_Md_finish_6 rfl ?_
  refine za_ild_n B.1 3 dd_Md_finish_7 rfl ?_
  refine za_cV B.1 8 3 0 0 0 0 rfl rfl rfl (by decide) (zm_Md_place l G) ⟨callB_of 3 B.1.1.2.2.2.2 (zs_good zW_547) rfl rfl rfl (B.1.1.2.2.2.2 _ zW_8) (B.1.1.2.2.2.2 _ zW_545) (by decide +kernel) ⟨by decide, by decide⟩, (B.1.1.2.2.2.2 _ zW_546), (B.1.1.2.2.2.2 _ zW_682)⟩ dd_Md_finish_8 ?_
  refine za_zald B.1 dd_Md_finish_11 ?_
  exact za_if_eq B.1 30 dd_Md_finish_12 (by decide) (zr_Md_finish_30 B) (zr_Md_finish_15 B)
end
theorem zm_Md_finish (l : Launch) (G : zs_G) (As : List Value) (σ : zs_S) (Q : zs_Q) (h : zw_Md_finish As σ Q) : zs_Met l yy_Md_finish (Cond.code yy_Md_finish bb_Md_finish 6 none :: zw_all) zk_Md_finish G As σ Q 0 0 := by
  unfold zw_Md_finish at h
  split at h
  · exact zs_enter (by decide +kernel) h.1 (Nat.le_of_ble_eq_true rfl) h.2 (fun p e s m args below meth c B => zr_Md_finish_0 B)
  · exact h.elim
