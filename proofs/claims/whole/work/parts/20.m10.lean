/-! Methods: Md_status, Md_post, Md_take, Md_messages, Md_message, Md_drop, Md_store (made by program) -/
-- SequencedBatchesModel.status(I)I
theorem dd_Md_status_0 : decode bb_Md_status 0 = .ok (.iload_n 1, 1) := by decide +kernel
theorem dd_Md_status_1 : decode bb_Md_status 1 = .ok (.iconst 0, 1) := by decide +kernel
theorem dd_Md_status_2 : decode bb_Md_status 2 = .ok (.aload_n 0, 1) := by decide +kernel
theorem dd_Md_status_3 : decode bb_Md_status 3 = .ok (.getfield 130, 3) := by decide +kernel
theorem dd_Md_status_6 : decode bb_Md_status 6 = .ok (.iconst 1, 1) := by decide +kernel
theorem dd_Md_status_7 : decode bb_Md_status 7 = .ok (.isub, 1) := by decide +kernel
theorem dd_Md_status_8 : decode bb_Md_status 8 = .ok (.invokestatic 111, 3) := by decide +kernel
theorem dd_Md_status_11 : decode bb_Md_status 11 = .ok (.ifCond .ne 5, 3) := by decide +kernel
theorem dd_Md_status_14 : decode bb_Md_status 14 = .ok (.iconst (-1), 1) := by decide +kernel
theorem dd_Md_status_15 : decode bb_Md_status 15 = .ok (.ireturn, 1) := by decide +kernel
theorem dd_Md_status_16 : decode bb_Md_status 16 = .ok (.aload_n 0, 1) := by decide +kernel
theorem dd_Md_status_17 : decode bb_Md_status 17 = .ok (.getfield 29, 3) := by decide +kernel
theorem dd_Md_status_20 : decode bb_Md_status 20 = .ok (.iload_n 1, 1) := by decide +kernel
theorem dd_Md_status_21 : decode bb_Md_status 21 = .ok (.iaload, 1) := by decide +kernel
theorem dd_Md_status_22 : decode bb_Md_status 22 = .ok (.ifCond .ge 19, 3) := by decide +kernel
theorem dd_Md_status_25 : decode bb_Md_status 25 = .ok (.aload_n 0, 1) := by decide +kernel
theorem dd_Md_status_26 : decode bb_Md_status 26 = .ok (.getfield 29, 3) := by decide +kernel
theorem dd_Md_status_29 : decode bb_Md_status 29 = .ok (.iload_n 1, 1) := by decide +kernel
theorem dd_Md_status_30 : decode bb_Md_status 30 = .ok (.iaload, 1) := by decide +kernel
theorem dd_Md_status_31 : decode bb_Md_status 31 = .ok (.iconst (-1), 1) := by decide +kernel
theorem dd_Md_status_32 : decode bb_Md_status 32 = .ok (.if_icmp .ne 7, 3) := by decide +kernel
theorem dd_Md_status_35 : decode bb_Md_status 35 = .ok (.iconst 0, 1) := by decide +kernel
theorem dd_Md_status_36 : decode bb_Md_status 36 = .ok (.goto 4, 3) := by decide +kernel
theorem dd_Md_status_39 : decode bb_Md_status 39 = .ok (.iconst 3, 1) := by decide +kernel
theorem dd_Md_status_40 : decode bb_Md_status 40 = .ok (.ireturn, 1) := by decide +kernel
theorem dd_Md_status_41 : decode bb_Md_status 41 = .ok (.iconst 1, 1) := by decide +kernel
theorem dd_Md_status_42 : decode bb_Md_status 42 = .ok (.aload_n 0, 1) := by decide +kernel
theorem dd_Md_status_43 : decode bb_Md_status 43 = .ok (.getfield 41, 3) := by decide +kernel
theorem dd_Md_status_46 : decode bb_Md_status 46 = .ok (.bipush 20, 2) := by decide +kernel
theorem dd_Md_status_48 : decode bb_Md_status 48 = .ok (.aload_n 0, 1) := by decide +kernel
theorem dd_Md_status_49 : decode bb_Md_status 49 = .ok (.getfield 26, 3) := by decide +kernel
theorem dd_Md_status_52 : decode bb_Md_status 52 = .ok (.iload_n 1, 1) := by decide +kernel
theorem dd_Md_status_53 : decode bb_Md_status 53 = .ok (.iaload, 1) := by decide +kernel
theorem dd_Md_status_54 : decode bb_Md_status 54 = .ok (.imul, 1) := by decide +kernel
theorem dd_Md_status_55 : decode bb_Md_status 55 = .ok (.aload_n 0, 1) := by decide +kernel
theorem dd_Md_status_56 : decode bb_Md_status 56 = .ok (.getfield 29, 3) := by decide +kernel
theorem dd_Md_status_59 : decode bb_Md_status 59 = .ok (.iload_n 1, 1) := by decide +kernel
theorem dd_Md_status_60 : decode bb_Md_status 60 = .ok (.iaload, 1) := by decide +kernel
theorem dd_Md_status_61 : decode bb_Md_status 61 = .ok (.iadd, 1) := by decide +kernel
theorem dd_Md_status_62 : decode bb_Md_status 62 = .ok (.iaload, 1) := by decide +kernel
theorem dd_Md_status_63 : decode bb_Md_status 63 = .ok (.iadd, 1) := by decide +kernel
theorem dd_Md_status_64 : decode bb_Md_status 64 = .ok (.ireturn, 1) := by decide +kernel
def zk_Md_status : Room := { frames := 1, cells := 0, slots := 0, locals := 22 }
abbrev zA_Md_status (p : Program) (l : Launch) (e : Env) (s : State) (m : MethodId) (args : Array Value) (below : List Frame) (meth : Method) (c : Code) (G : zs_G) (Q : zs_Q) (pc : Nat) (P : zs_P) : Prop := zs_At p l e zk_Md_status s m args below meth c (MQ below (zs_Qc G Q) args s 0 0 (fun q => zg_z G ≤ q)) G 2 pc P
def zb_Md_status_41 (Q : zs_Q) : zs_P := zt_psh 1 (zt_ald 0 (zt_gtR 8 12 (zt_psh 20 (zt_ald 0 (zt_gtR 8 7 (zt_ild 1 (zt_xld 100 (zt_bin (fun x y => x * y) (zt_ald 0 (zt_gtR 8 8 (zt_ild 1 (zt_xld 100 (zt_bin (fun x y => x + y) (zt_xld 100 (zt_bin (fun x y => x + y) (zt_irt 0 0 Q))))))))))))))))
def zb_Md_status_40 (Q : zs_Q) : zs_P := zt_irt 0 0 Q
def zb_Md_status_39 (Q : zs_Q) : zs_P := zt_psh 3 ((zb_Md_status_40 Q))
def zb_Md_status_35 (Q : zs_Q) : zs_P := zt_psh 0 ((zb_Md_status_40 Q))
def zb_Md_status_25 (Q : zs_Q) : zs_P := zt_ald 0 (zt_gtR 8 8 (zt_ild 1 (zt_xld 100 (zt_psh (-1) (zt_cmp (fun x y => x = y) (zb_Md_status_35 Q) (zb_Md_status_39 Q))))))
def zb_Md_status_16 (Q : zs_Q) : zs_P := zt_ald 0 (zt_gtR 8 8 (zt_ild 1 (zt_xld 100 (zt_if (fun x => 0 ≤ x) (zb_Md_status_41 Q) (zb_Md_status_25 Q)))))
def zb_Md_status_14 (Q : zs_Q) : zs_P := zt_psh (-1) (zt_irt 0 0 Q)
def zb_Md_status_0 (Q : zs_Q) : zs_P := zt_ild 1 (zt_psh 0 (zt_ald 0 (zt_gtI 8 2 (zt_psh 1 (zt_bin (fun x y => x - y) (zt_cal zw_Md_in 3 0 0 0 0 (zt_if (fun x => x = 0) (zb_Md_status_14 Q) (zb_Md_status_16 Q))))))))
def zw_Md_status : zs_W := fun As σ Q => match As with
  | [a0, a1] => zs_c1 [a0, a1] = true ∧ zb_Md_status_0 Q [some a0, some a1] [] σ 0 0
  | _ => False
section
variable {p : Program} {l : Launch} {e : Env} {s : State} {m : MethodId} {args : Array Value} {below : List Frame} {meth : Method} {c : Code} {G : zs_G} {Q : zs_Q}
theorem zr_Md_status_41 (B : zs_B p s m args meth c G bb_Md_status 2 yy_Md_status (some .int)) : zA_Md_status p l e s m args below meth c G Q 41 (zb_Md_status_41 Q) := by
  unfold zb_Md_status_41
  refine za_ico B.1 1 dd_Md_status_41 (by decide) ?_
  refine za_ald_n B.1 0 dd_Md_status_42 rfl ?_
  refine za_gtR B.1 8 12 zi_8 rfl (by decide) (by decide) rfl zW_468 rfl dd_Md_status_43 ?_
  refine za_bip B.1 20 dd_Md_status_46 (by decide) ?_
  refine za_ald_n B.1 0 dd_Md_status_48 rfl ?_
  refine za_gtR B.1 8 7 zi_8 rfl (by decide) (by decide) rfl zW_463 rfl dd_Md_status_49 ?_
  refine za_ild_n B.1 1 dd_Md_status_52 rfl ?_
  refine za_iald B.1 dd_Md_status_53 ?_
  refine za_mul B.1 dd_Md_status_54 ?_
  refine za_ald_n B.1 0 dd_Md_status_55 rfl ?_
  refine za_gtR B.1 8 8 zi_8 rfl (by decide) (by decide) rfl zW_464 rfl dd_Md_status_56 ?_
  refine za_ild_n B.1 1 dd_Md_status_59 rfl ?_
  refine za_iald B.1 dd_Md_status_60 ?_
  refine za_add B.1 dd_Md_status_61 ?_
  refine za_iald B.1 dd_Md_status_62 ?_
  refine za_add B.1 dd_Md_status_63 ?_
  exact za_irt B.1 0 0 B.2.1 B.2.2.1 dd_Md_status_64
theorem zr_Md_status_40 (B : zs_B p s m args meth c G bb_Md_status 2 yy_Md_status (some .int)) : zA_Md_status p l e s m args below meth c G Q 40 (zb_Md_status_40 Q) := by
  unfold zb_Md_status_40
  exact za_irt B.1 0 0 B.2.1 B.2.2.1 dd_Md_status_40
theorem zr_Md_status_39 (B : zs_B p s m args meth c G bb_Md_status 2 yy_Md_status (some .int)) : zA_Md_status p l e s m args below meth c G Q 39 (zb_Md_status_39 Q) := by
  unfold zb_Md_status_39
  refine za_ico B.1 3 dd_Md_status_39 (by decide) ?_
  exact (zr_Md_status_40 B)
theorem zr_Md_status_35 (B : zs_B p s m args meth c G bb_Md_status 2 yy_Md_status (some .int)) : zA_Md_status p l e s m args below meth c G Q 35 (zb_Md_status_35 Q) := by
  unfold zb_Md_status_35
  refine za_ico B.1 0 dd_Md_status_35 (by decide) ?_
  refine za_goto B.1 40 dd_Md_status_36 (by decide) ?_
  exact (zr_Md_status_40 B)
theorem zr_Md_status_25 (B : zs_B p s m args meth c G bb_Md_status 2 yy_Md_status (some .int)) : zA_Md_status p l e s m args below meth c G Q 25 (zb_Md_status_25 Q) := by
  unfold zb_Md_status_25
  refine za_ald_n B.1 0 dd_Md_status_25 rfl ?_
  refine za_gtR B.1 8 8 zi_8 rfl (by decide) (by decide) rfl zW_464 rfl dd_Md_status_26 ?_
  refine za_ild_n B.1 1 dd_Md_status_29 rfl ?_
  refine za_iald B.1 dd_Md_status_30 ?_
  refine za_ico B.1 (-1) dd_Md_status_31 (by decide) ?_
  exact za_cmp_ne B.1 39 dd_Md_status_32 (by decide) (zr_Md_status_35 B) (zr_Md_status_39 B)
theorem zr_Md_status_16 (B : zs_B p s m args meth c G bb_Md_status 2 yy_Md_status (some .int)) : zA_Md_status p l e s m args below meth c G Q 16 (zb_Md_status_16 Q) := by
  unfold zb_Md_status_16
  refine za_ald_n B.1 0 dd_Md_status_16 rfl ?_
  refine za_gtR B.1 8 8 zi_8 rfl (by decide) (by decide) rfl zW_464 rfl dd_Md_status_17 ?_
  refine za_ild_n B.1 1 dd_Md_status_20 rfl ?_
  refine za_iald B.1 dd_Md_status_21 ?_
  exact za_if_ge B.1 41 dd_Md_status_22 (by decide) (zr_Md_status_41 B) (zr_Md_status_25 B)
theorem zr_Md_status_14 (B : zs_B p s m args meth c G bb_Md_status 2 yy_Md_status (some .int)) : zA_Md_status p l e s m args below meth c G Q 14 (zb_Md_status_14 Q) := by
  unfold zb_Md_status_14
  refine za_ico B.1 (-1) dd_Md_status_14 (by decide) ?_
  exact za_irt B.1 0 0 B.2.1 B.2.2.1 dd_Md_status_15
theorem zr_Md_status_0 (B : zs_B p s m args meth c G bb_Md_status 2 yy_Md_status (some .int)) : zA_Md_status p l e s m args below meth c G Q 0 (zb_Md_status_0 Q) := by
  unfold zb_Md_status_0
  refine za_ild_n B.1 1 dd_Md_status_0 rfl ?_
  refine za_ico B.1 0 dd_Md_status_1 (by decide) ?_
  refine za_ald_n B.1 0 dd_Md_status_2 rfl ?_
  refine za_gtI B.1 8 2 zi_8 rfl (by decide) (by decide) rfl zW_458 rfl dd_Md_status_3 ?_
  refine za_ico B.1 1 dd_Md_status_6 (by decide) ?_
  refine za_sub B.1 dd_Md_status_7 ?_
  refine za_cS B.1 3 0 0 0 0 rfl rfl (zm_Md_in l G) ⟨callB_of 3 B.1.1.2.2.2.2 (zs_good zW_497) rfl rfl rfl (B.1.1.2.2.2.2 _ zW_8) (B.1.1.2.2.2.2 _ zW_495) (by decide +kernel) ⟨by decide, by decide⟩, (B.1.1.2.2.2.2 _ zW_496)⟩ dd_Md_status_8 ?_
  exact za_if_ne B.1 16 dd_Md_status_11 (by decide) (zr_Md_status_14 B) (zr_Md_status_16 B)
end
theorem zm_Md_status (l : Launch) (G : zs_G) (As : List Value) (σ : zs_S) (Q : zs_Q) (h : zw_Md_status As σ Q) : zs_Met l yy_Md_status (Cond.code yy_Md_status bb_Md_status 2 (some .int) :: zw_all) zk_Md_status G As σ Q 0 0 := by
  unfold zw_Md_status at h
  split at h
  · exact zs_enter (by decide +kernel) h.1 (Nat.le_of_ble_eq_true rfl) h.2 (fun p e s m args below meth c B => zr_Md_status_0 B)
  · exact h.elim
-- SequencedBatchesModel.post(IIIII)V
theorem dd_Md_post_0 : decode bb_Md_post 0 = .ok (.aload_n 0, 1) := by decide +kernel
theorem dd_Md_post_1 : decode bb_Md_post 1 = .ok (.getfield 53, 3) := by decide +kernel
theorem dd_Md_post_4 : decode bb_Md_post 4 = .ok (.aload_n 0, 1) := by decide +kernel
theorem dd_Md_post_5 : decode bb_Md_post 5 = .ok (.getfield 108, 3) := by decide +kernel
theorem dd_Md_post_8 : decode bb_Md_post 8 = .ok (.iload_n 1, 1) := by decide +kernel
theorem dd_Md_post_9 : decode bb_Md_post 9 = .ok (.iastore, 1) := by decide +kernel
theorem dd_Md_post_10 : decode bb_Md_post 10 = .ok (.aload_n 0, 1) := by decide +kernel
theorem dd_Md_post_11 : decode bb_Md_post 11 = .ok (.getfield 59, 3) := by decide +kernel
theorem dd_Md_post_14 : decode bb_Md_post 14 = .ok (.aload_n 0, 1) := by decide +kernel
theorem dd_Md_post_15 : decode bb_Md_post 15 = .ok (.getfield 108, 3) := by decide +kernel
theorem dd_Md_post_18 : decode bb_Md_post 18 = .ok (.iload_n 2, 1) := by decide +kernel
theorem dd_Md_post_19 : decode bb_Md_post 19 = .ok (.iastore, 1) := by decide +kernel
theorem dd_Md_post_20 : decode bb_Md_post 20 = .ok (.aload_n 0, 1) := by decide +kernel
theorem dd_Md_post_21 : decode bb_Md_post 21 = .ok (.getfield 62, 3) := by decide +kernel
theorem dd_Md_post_24 : decode bb_Md_post 24 = .ok (.aload_n 0, 1) := by decide +kernel
theorem dd_Md_post_25 : decode bb_Md_post 25 = .ok (.getfield 108, 3) := by decide +kernel
theorem dd_Md_post_28 : decode bb_Md_post 28 = .ok (.iload_n 3, 1) := by decide +kernel
theorem dd_Md_post_29 : decode bb_Md_post 29 = .ok (.iastore, 1) := by decide +kernel
theorem dd_Md_post_30 : decode bb_Md_post 30 = .ok (.aload_n 0, 1) := by decide +kernel
theorem dd_Md_post_31 : decode bb_Md_post 31 = .ok (.getfield 56, 3) := by decide +kernel
theorem dd_Md_post_34 : decode bb_Md_post 34 = .ok (.aload_n 0, 1) := by decide +kernel
theorem dd_Md_post_35 : decode bb_Md_post 35 = .ok (.getfield 108, 3) := by decide +kernel
theorem dd_Md_post_38 : decode bb_Md_post 38 = .ok (.iload 4, 2) := by decide +kernel
theorem dd_Md_post_40 : decode bb_Md_post 40 = .ok (.iastore, 1) := by decide +kernel
theorem dd_Md_post_41 : decode bb_Md_post 41 = .ok (.aload_n 0, 1) := by decide +kernel
theorem dd_Md_post_42 : decode bb_Md_post 42 = .ok (.getfield 65, 3) := by decide +kernel
theorem dd_Md_post_45 : decode bb_Md_post 45 = .ok (.aload_n 0, 1) := by decide +kernel
theorem dd_Md_post_46 : decode bb_Md_post 46 = .ok (.getfield 108, 3) := by decide +kernel
theorem dd_Md_post_49 : decode bb_Md_post 49 = .ok (.iload 5, 2) := by decide +kernel
theorem dd_Md_post_51 : decode bb_Md_post 51 = .ok (.iastore, 1) := by decide +kernel
theorem dd_Md_post_52 : decode bb_Md_post 52 = .ok (.aload_n 0, 1) := by decide +kernel
theorem dd_Md_post_53 : decode bb_Md_post 53 = .ok (.dup, 1) := by decide +kernel
theorem dd_Md_post_54 : decode bb_Md_post 54 = .ok (.getfield 108, 3) := by decide +kernel
theorem dd_Md_post_57 : decode bb_Md_post 57 = .ok (.iconst 1, 1) := by decide +kernel
theorem dd_Md_post_58 : decode bb_Md_post 58 = .ok (.iadd, 1) := by decide +kernel
theorem dd_Md_post_59 : decode bb_Md_post 59 = .ok (.putfield 108, 3) := by decide +kernel
theorem dd_Md_post_62 : decode bb_Md_post 62 = .ok (.return_, 1) := by decide +kernel
def zk_Md_post : Room := { frames := 0, cells := 0, slots := 0, locals := 0 }
abbrev zA_Md_post (p : Program) (l : Launch) (e : Env) (s : State) (m : MethodId) (args : Array Value) (below : List Frame) (meth : Method) (c : Code) (G : zs_G) (Q : zs_Q) (pc : Nat) (P : zs_P) : Prop := zs_At p l e zk_Md_post s m args below meth c (MQ below (zs_Qc G Q) args s 0 0 (fun q => zg_z G ≤ q)) G 6 pc P
def zb_Md_post_0 (Q : zs_Q) : zs_P := zt_ald 0 (zt_gtR 8 17 (zt_ald 0 (zt_gtI 8 16 (zt_ild 1 (zt_ias (zt_ald 0 (zt_gtR 8 19 (zt_ald 0 (zt_gtI 8 16 (zt_ild 2 (zt_ias (zt_ald 0 (zt_gtR 8 20 (zt_ald 0 (zt_gtI 8 16 (zt_ild 3 (zt_ias (zt_ald 0 (zt_gtR 8 18 (zt_ald 0 (zt_gtI 8 16 (zt_ild 4 (zt_ias (zt_ald 0 (zt_gtR 8 21 (zt_ald 0 (zt_gtI 8 16 (zt_ild 5 (zt_ias (zt_ald 0 (zt_dup (zt_gtI 8 16 (zt_psh 1 (zt_bin (fun x y => x + y) (zt_ptI 8 16 (zt_vrt 0 0 Q))))))))))))))))))))))))))))))))))))
def zw_Md_post : zs_W := fun As σ Q => match As with
  | [a0, a1, a2, a3, a4, a5] => zs_c1 [a0, a1, a2, a3, a4, a5] = true ∧ zb_Md_post_0 Q [some a0, some a1, some a2, some a3, some a4, some a5] [] σ 0 0
  | _ => False
section
variable {p : Program} {l : Launch} {e : Env} {s : State} {m : MethodId} {args : Array Value} {below : List Frame} {meth : Method} {c : Code} {G : zs_G} {Q : zs_Q}
theorem zr_Md_post_0 (B : zs_B p s m args meth c G bb_Md_post 6 yy_Md_post none) : zA_Md_post p l e s m args below meth c G Q 0 (zb_Md_post_0 Q) := by
  unfold zb_Md_post_0
  refine za_ald_n B.1 0 dd_Md_post_0 rfl ?_
  refine za_gtR B.1 8 17 zi_8 rfl (by decide) (by decide) rfl zW_473 rfl dd_Md_post_1 ?_
  refine za_ald_n B.1 0 dd_Md_post_4 rfl ?_
  refine za_gtI B.1 8 16 zi_8 rfl (by decide) (by decide) rfl zW_472 rfl dd_Md_post_5 ?_
  refine za_ild_n B.1 1 dd_Md_post_8 rfl ?_
  refine za_iast B.1 dd_Md_post_9 ?_
  refine za_ald_n B.1 0 dd_Md_post_10 rfl ?_
  refine za_gtR B.1 8 19 zi_8 rfl (by decide) (by decide) rfl zW_475 rfl dd_Md_post_11 ?_
  refine za_ald_n B.1 0 dd_Md_post_14 rfl ?_
  refine za_gtI B.1 8 16 zi_8 rfl (by decide) (by decide) rfl zW_472 rfl dd_Md_post_15 ?_
  refine za_ild_n B.1 2 dd_Md_post_18 rfl ?_
  refine za_iast B.1 dd_Md_post_19 ?_
  refine za_ald_n B.1 0 dd_Md_post_20 rfl ?_
  refine za_gtR B.1 8 20 zi_8 rfl (by decide) (by decide) rfl zW_476 rfl dd_Md_post_21 ?_
  refine za_ald_n B.1 0 dd_Md_post_24 rfl ?_
  refine za_gtI B.1 8 16 zi_8 rfl (by decide) (by decide) rfl zW_472 rfl dd_Md_post_25 ?_
  refine za_ild_n B.1 3 dd_Md_post_28 rfl ?_
  refine za_iast B.1 dd_Md_post_29 ?_
  refine za_ald_n B.1 0 dd_Md_post_30 rfl ?_
  refine za_gtR B.1 8 18 zi_8 rfl (by decide) (by decide) rfl zW_474 rfl dd_Md_post_31 ?_
  refine za_ald_n B.1 0 dd_Md_post_34 rfl ?_
  refine za_gtI B.1 8 16 zi_8 rfl (by decide) (by decide) rfl zW_472 rfl dd_Md_post_35 ?_
  refine za_ild B.1 dd_Md_post_38 ?_
  refine za_iast B.1 dd_Md_post_40 ?_
  refine za_ald_n B.1 0 dd_Md_post_41 rfl ?_
  refine za_gtR B.1 8 21 zi_8 rfl (by decide) (by decide) rfl zW_477 rfl dd_Md_post_42 ?_
  refine za_ald_n B.1 0 dd_Md_post_45 rfl ?_
  refine za_gtI B.1 8 16 zi_8 rfl (by decide) (by decide) rfl zW_472 rfl dd_Md_post_46 ?_
  refine za_ild B.1 dd_Md_post_49 ?_
  refine za_iast B.1 dd_Md_post_51 ?_
  refine za_ald_n B.1 0 dd_Md_post_52 rfl ?_
  refine za_dup B.1 dd_Md_post_53 ?_
  refine za_gtI B.1 8 16 zi_8 rfl (by decide) (by decide) rfl zW_472 rfl dd_Md_post_54 ?_
  refine za_ico B.1 1 dd_Md_post_57 (by decide) ?_
  refine za_add B.1 dd_Md_post_58 ?_
  refine za_ptI B.1 8 16 zi_8 zy_Md zy_Md_ok zn_Md rfl (by decide) (by decide) rfl zW_472 rfl rfl rfl dd_Md_post_59 ?_
  exact za_vrt B.1 0 0 B.2.1 B.2.2.1 dd_Md_post_62
end
theorem zm_Md_post (l : Launch) (G : zs_G) (As : List Value) (σ : zs_S) (Q : zs_Q) (h : zw_Md_post As σ Q) : zs_Met l yy_Md_post (Cond.code yy_Md_post bb_Md_post 6 none :: zw_all) zk_Md_post G As σ Q 0 0 := by
  unfold zw_Md_post at h
  split at h
  · exact zs_enter (by decide +kernel) h.1 (Nat.le_of_ble_eq_true rfl) h.2 (fun p e s m args below meth c B => zr_Md_post_0 B)
  · exact h.elim
-- SequencedBatchesModel.take(I)V
theorem dd_Md_take_0 : decode bb_Md_take 0 = .ok (.aload_n 0, 1) := by decide +kernel
theorem dd_Md_take_1 : decode bb_Md_take 1 = .ok (.dup, 1) := by decide +kernel
theorem dd_Md_take_2 : decode bb_Md_take 2 = .ok (.getfield 108, 3) := by decide +kernel
theorem dd_Md_take_5 : decode bb_Md_take 5 = .ok (.iconst 1, 1) := by decide +kernel
theorem dd_Md_take_6 : decode bb_Md_take 6 = .ok (.isub, 1) := by decide +kernel
theorem dd_Md_take_7 : decode bb_Md_take 7 = .ok (.putfield 108, 3) := by decide +kernel
theorem dd_Md_take_10 : decode bb_Md_take 10 = .ok (.iload_n 1, 1) := by decide +kernel
theorem dd_Md_take_11 : decode bb_Md_take 11 = .ok (.istore_n 2, 1) := by decide +kernel
theorem dd_Md_take_12 : decode bb_Md_take 12 = .ok (.iload_n 2, 1) := by decide +kernel
theorem dd_Md_take_13 : decode bb_Md_take 13 = .ok (.aload_n 0, 1) := by decide +kernel
theorem dd_Md_take_14 : decode bb_Md_take 14 = .ok (.getfield 108, 3) := by decide +kernel
theorem dd_Md_take_17 : decode bb_Md_take 17 = .ok (.if_icmp .ge 79, 3) := by decide +kernel
theorem dd_Md_take_20 : decode bb_Md_take 20 = .ok (.aload_n 0, 1) := by decide +kernel
theorem dd_Md_take_21 : decode bb_Md_take 21 = .ok (.getfield 53, 3) := by decide +kernel
theorem dd_Md_take_24 : decode bb_Md_take 24 = .ok (.iload_n 2, 1) := by decide +kernel
theorem dd_Md_take_25 : decode bb_Md_take 25 = .ok (.aload_n 0, 1) := by decide +kernel
theorem dd_Md_take_26 : decode bb_Md_take 26 = .ok (.getfield 53, 3) := by decide +kernel
theorem dd_Md_take_29 : decode bb_Md_take 29 = .ok (.iload_n 2, 1) := by decide +kernel
theorem dd_Md_take_30 : decode bb_Md_take 30 = .ok (.iconst 1, 1) := by decide +kernel
theorem dd_Md_take_31 : decode bb_Md_take 31 = .ok (.iadd, 1) := by decide +kernel
theorem dd_Md_take_32 : decode bb_Md_take 32 = .ok (.iaload, 1) := by decide +kernel
theorem dd_Md_take_33 : decode bb_Md_take 33 = .ok (.iastore, 1) := by decide +kernel
theorem dd_Md_take_34 : decode bb_Md_take 34 = .ok (.aload_n 0, 1) := by decide +kernel
theorem dd_Md_take_35 : decode bb_Md_take 35 = .ok (.getfield 59, 3) := by decide +kernel
theorem dd_Md_take_38 : decode bb_Md_take 38 = .ok (.iload_n 2, 1) := by decide +kernel
theorem dd_Md_take_39 : decode bb_Md_take 39 = .ok (.aload_n 0, 1) := by decide +kernel
theorem dd_Md_take_40 : decode bb_Md_take 40 = .ok (.getfield 59, 3) := by decide +kernel
theorem dd_Md_take_43 : decode bb_Md_take 43 = .ok (.iload_n 2, 1) := by decide +kernel
theorem dd_Md_take_44 : decode bb_Md_take 44 = .ok (.iconst 1, 1) := by decide +kernel
theorem dd_Md_take_45 : decode bb_Md_take 45 = .ok (.iadd, 1) := by decide +kernel
theorem dd_Md_take_46 : decode bb_Md_take 46 = .ok (.iaload, 1) := by decide +kernel
theorem dd_Md_take_47 : decode bb_Md_take 47 = .ok (.iastore, 1) := by decide +kernel
theorem dd_Md_take_48 : decode bb_Md_take 48 = .ok (.aload_n 0, 1) := by decide +kernel
theorem dd_Md_take_49 : decode bb_Md_take 49 = .ok (.getfield 62, 3) := by decide +kernel
theorem dd_Md_take_52 : decode bb_Md_take 52 = .ok (.iload_n 2, 1) := by decide +kernel
theorem dd_Md_take_53 : decode bb_Md_take 53 = .ok (.aload_n 0, 1) := by decide +kernel
theorem dd_Md_take_54 : decode bb_Md_take 54 = .ok (.getfield 62, 3) := by decide +kernel
theorem dd_Md_take_57 : decode bb_Md_take 57 = .ok (.iload_n 2, 1) := by decide +kernel
theorem dd_Md_take_58 : decode bb_Md_take 58 = .ok (.iconst 1, 1) := by decide +kernel
theorem dd_Md_take_59 : decode bb_Md_take 59 = .ok (.iadd, 1) := by decide +kernel
theorem dd_Md_take_60 : decode bb_Md_take 60 = .ok (.iaload, 1) := by decide +kernel
theorem dd_Md_take_61 : decode bb_Md_take 61 = .ok (.iastore, 1) := by decide +kernel
theorem dd_Md_take_62 : decode bb_Md_take 62 = .ok (.aload_n 0, 1) := by decide +kernel
theorem dd_Md_take_63 : decode bb_Md_take 63 = .ok (.getfield 56, 3) := by decide +kernel
theorem dd_Md_take_66 : decode bb_Md_take 66 = .ok (.iload_n 2, 1) := by decide +kernel
theorem dd_Md_take_67 : decode bb_Md_take 67 = .ok (.aload_n 0, 1) := by decide +kernel
theorem dd_Md_take_68 : decode bb_Md_take 68 = .ok (.getfield 56, 3) := by decide +kernel
theorem dd_Md_take_71 : decode bb_Md_take 71 = .ok (.iload_n 2, 1) := by decide +kernel
theorem dd_Md_take_72 : decode bb_Md_take 72 = .ok (.iconst 1, 1) := by decide +kernel
theorem dd_Md_take_73 : decode bb_Md_take 73 = .ok (.iadd, 1) := by decide +kernel
theorem dd_Md_take_74 : decode bb_Md_take 74 = .ok (.iaload, 1) := by decide +kernel
theorem dd_Md_take_75 : decode bb_Md_take 75 = .ok (.iastore, 1) := by decide +kernel
theorem dd_Md_take_76 : decode bb_Md_take 76 = .ok (.aload_n 0, 1) := by decide +kernel
theorem dd_Md_take_77 : decode bb_Md_take 77 = .ok (.getfield 65, 3) := by decide +kernel
theorem dd_Md_take_80 : decode bb_Md_take 80 = .ok (.iload_n 2, 1) := by decide +kernel
theorem dd_Md_take_81 : decode bb_Md_take 81 = .ok (.aload_n 0, 1) := by decide +kernel
theorem dd_Md_take_82 : decode bb_Md_take 82 = .ok (.getfield 65, 3) := by decide +kernel
theorem dd_Md_take_85 : decode bb_Md_take 85 = .ok (.iload_n 2, 1) := by decide +kernel
theorem dd_Md_take_86 : decode bb_Md_take 86 = .ok (.iconst 1, 1) := by decide +kernel
theorem dd_Md_take_87 : decode bb_Md_take 87 = .ok (.iadd, 1) := by decide +kernel
theorem dd_Md_take_88 : decode bb_Md_take 88 = .ok (.iaload, 1) := by decide +kernel
theorem dd_Md_take_89 : decode bb_Md_take 89 = .ok (.iastore, 1) := by decide +kernel
theorem dd_Md_take_90 : decode bb_Md_take 90 = .ok (.iinc 2 1, 3) := by decide +kernel
theorem dd_Md_take_93 : decode bb_Md_take 93 = .ok (.goto (-81), 3) := by decide +kernel
theorem dd_Md_take_96 : decode bb_Md_take 96 = .ok (.return_, 1) := by decide +kernel
def zk_Md_take : Room := { frames := 0, cells := 0, slots := 0, locals := 0 }
abbrev zA_Md_take (p : Program) (l : Launch) (e : Env) (s : State) (m : MethodId) (args : Array Value) (below : List Frame) (meth : Method) (c : Code) (G : zs_G) (Q : zs_Q) (pc : Nat) (P : zs_P) : Prop := zs_At p l e zk_Md_take s m args below meth c (MQ below (zs_Qc G Q) args s 0 0 (fun q => zg_z G ≤ q)) G 3 pc P
def zb_Md_take_96 (Q : zs_Q) : zs_P := zt_vrt 0 0 Q
def zb_Md_take_20 (Q : zs_Q) (K12 : zs_P) : zs_P := zt_ald 0 (zt_gtR 8 17 (zt_ild 2 (zt_ald 0 (zt_gtR 8 17 (zt_ild 2 (zt_psh 1 (zt_bin (fun x y => x + y) (zt_xld 100 (zt_ias (zt_ald 0 (zt_gtR 8 19 (zt_ild 2 (zt_ald 0 (zt_gtR 8 19 (zt_ild 2 (zt_psh 1 (zt_bin (fun x y => x + y) (zt_xld 100 (zt_ias (zt_ald 0 (zt_gtR 8 20 (zt_ild 2 (zt_ald 0 (zt_gtR 8 20 (zt_ild 2 (zt_psh 1 (zt_bin (fun x y => x + y) (zt_xld 100 (zt_ias (zt_ald 0 (zt_gtR 8 18 (zt_ild 2 (zt_ald 0 (zt_gtR 8 18 (zt_ild 2 (zt_psh 1 (zt_bin (fun x y => x + y) (zt_xld 100 (zt_ias (zt_ald 0 (zt_gtR 8 21 (zt_ild 2 (zt_ald 0 (zt_gtR 8 21 (zt_ild 2 (zt_psh 1 (zt_bin (fun x y => x + y) (zt_xld 100 (zt_ias (zt_inc 2 1 (K12)))))))))))))))))))))))))))))))))))))))))))))))))))
def zb_Md_take_12 (Q : zs_Q) (K12 : zs_P) : zs_P := zt_ild 2 (zt_ald 0 (zt_gtI 8 16 (zt_cmp (fun x y => y ≤ x) (zb_Md_take_96 Q) (zb_Md_take_20 Q K12))))
def zl_Md_take_12 (Q : zs_Q) : zs_P := zt_ex (zb_Md_take_12 Q)
def zb_Md_take_0 (Q : zs_Q) : zs_P := zt_ald 0 (zt_dup (zt_gtI 8 16 (zt_psh 1 (zt_bin (fun x y => x - y) (zt_ptI 8 16 (zt_ild 1 (zt_ist 2 ((zl_Md_take_12 Q)))))))))
def zw_Md_take : zs_W := fun As σ Q => match As with
  | [a0, a1] => zs_c1 [a0, a1] = true ∧ zb_Md_take_0 Q [some a0, some a1, none] [] σ 0 0
  | _ => False
section
variable {p : Program} {l : Launch} {e : Env} {s : State} {m : MethodId} {args : Array Value} {below : List Frame} {meth : Method} {c : Code} {G : zs_G} {Q : zs_Q}
theorem zr_Md_take_96 (B : zs_B p s m args meth c G bb_Md_take 3 yy_Md_take none) : zA_Md_take p l e s m args below meth c G Q 96 (zb_Md_take_96 Q) := by
  unfold zb_Md_take_96
  exact za_vrt B.1 0 0 B.2.1 B.2.2.1 dd_Md_take_96
theorem zr_Md_take_20 (B : zs_B p s m args meth c G bb_Md_take 3 yy_Md_take none) {K12 : zs_P} (h12 : zA_Md_take p l e s m args below meth c G Q 12 K12) : zA_Md_take p l e s m args below meth c G Q 20 (zb_Md_take_20 Q K12) := by
  unfold zb_Md_take_20
  refine za_ald_n B.1 0 dd_Md_take_20 rfl ?_
  refine za_gtR B.1 8 17 zi_8 rfl (by decide) (by decide) rfl zW_473 rfl dd_Md_take_21 ?_
  refine za_ild_n B.1 2 dd_Md_take_24 rfl ?_
  refine za_ald_n B.1 0 dd_Md_take_25 rfl ?_
  refine za_gtR B.1 8 17 zi_8 rfl (by decide) (by decide) rfl zW_473 rfl dd_Md_take_26 ?_
  refine za_ild_n B.1 2 dd_Md_take_29 rfl ?_
  refine za_ico B.1 1 dd_Md_take_30 (by decide) ?_
  refine za_add B.1 dd_Md_take_31 ?_
  refine za_iald B.1 dd_Md_take_32 ?_
  refine za_iast B.1 dd_Md_take_33 ?_
  refine za_ald_n B.1 0 dd_Md_take_34 rfl ?_
  refine za_gtR B.1 8 19 zi_8 rfl (by decide) (by decide) rfl zW_475 rfl dd_Md_take_35 ?_
  refine za_ild_n B.1 2 dd_Md_take_38 rfl ?_
  refine za_ald_n B.1 0 dd_Md_take_39 rfl ?_
  refine za_gtR B.1 8 19 zi_8 rfl (by decide) (by decide) rfl zW_475 rfl dd_Md_take_40 ?_
  refine za_ild_n B.1 2 dd_Md_take_43 rfl ?_
  refine za_ico B.1 1 dd_Md_take_44 (by decide) ?_
  refine za_add B.1 dd_Md_take_45 ?_
  refine za_iald B.1 dd_Md_take_46 ?_
  refine za_iast B.1 dd_Md_take_47 ?_
  refine za_ald_n B.1 0 dd_Md_take_48 rfl ?_
  refine za_gtR B.1 8 20 zi_8 rfl (by decide) (by decide) rfl zW_476 rfl dd_Md_take_49 ?_
  refine za_ild_n B.1 2 dd_Md_take_52 rfl ?_
  refine za_ald_n B.1 0 dd_Md_take_53 rfl ?_
  refine za_gtR B.1 8 20 zi_8 rfl (by decide) (by decide) rfl zW_476 rfl dd_Md_take_54 ?_
  refine za_ild_n B.1 2 dd_Md_take_57 rfl ?_
  refine za_ico B.1 1 dd_Md_take_58 (by decide) ?_
  refine za_add B.1 dd_Md_take_59 ?_
  refine za_iald B.1 dd_Md_take_60 ?_
  refine za_iast B.1 dd_Md_take_61 ?_
  refine za_ald_n B.1 0 dd_Md_take_62 rfl ?_
  refine za_gtR B.1 8 18 zi_8 rfl (by decide) (by decide) rfl zW_474 rfl dd_Md_take_63 ?_
  refine za_ild_n B.1 2 dd_Md_take_66 rfl ?_
  refine za_ald_n B.1 0 dd_Md_take_67 rfl ?_
  refine za_gtR B.1 8 18 zi_8 rfl (by decide) (by decide) rfl zW_474 rfl dd_Md_take_68 ?_
  refine za_ild_n B.1 2 dd_Md_take_71 rfl ?_
  refine za_ico B.1 1 dd_Md_take_72 (by decide) ?_
  refine za_add B.1 dd_Md_take_73 ?_
  refine za_iald B.1 dd_Md_take_74 ?_
  refine za_iast B.1 dd_Md_take_75 ?_
  refine za_ald_n B.1 0 dd_Md_take_76 rfl ?_
  refine za_gtR B.1 8 21 zi_8 rfl (by decide) (by decide) rfl zW_477 rfl dd_Md_take_77 ?_
  refine za_ild_n B.1 2 dd_Md_take_80 rfl ?_
  refine za_ald_n B.1 0 dd_Md_take_81 rfl ?_
  refine za_gtR B.1 8 21 zi_8 rfl (by decide) (by decide) rfl zW_477 rfl dd_Md_take_82 ?_
  refine za_ild_n B.1 2 dd_Md_take_85 rfl ?_
  refine za_ico B.1 1 dd_Md_take_86 (by decide) ?_
  refine za_add B.1 dd_Md_take_87 ?_
  refine za_iald B.1 dd_Md_take_88 ?_
  refine za_iast B.1 dd_Md_take_89 ?_
  refine za_inc B.1 1 dd_Md_take_90 (by decide) (by decide) ?_
  refine za_goto B.1 12 dd_Md_take_93 (by decide) ?_
  exact h12
theorem zr_Md_take_12 (B : zs_B p s m args meth c G bb_Md_take 3 yy_Md_take none) {K12 : zs_P} (h12 : zA_Md_take p l e s m args below meth c G Q 12 K12) : zA_Md_take p l e s m args below meth c G Q 12 (zb_Md_take_12 Q K12) := by
  unfold zb_Md_take_12
  refine za_ild_n B.1 2 dd_Md_take_12 rfl ?_
  refine za_ald_n B.1 0 dd_Md_take_13 rfl ?_
  refine za_gtI B.1 8 16 zi_8 rfl (by decide) (by decide) rfl zW_472 rfl dd_Md_take_14 ?_
  exact za_cmp_ge B.1 96 dd_Md_take_17 (by decide) (zr_Md_take_96 B) (zr_Md_take_20 B h12)
theorem zq_Md_take_12 (B : zs_B p s m args meth c G bb_Md_take 3 yy_Md_take none) : zA_Md_take p l e s m args below meth c G Q 12 (zl_Md_take_12 Q) := za_lop (fun K hK => zr_Md_take_12 B hK)
theorem zr_Md_take_0 (B : zs_B p s m args meth c G bb_Md_take 3 yy_Md_take none) : zA_Md_take p l e s m args below meth c G Q 0 (zb_Md_take_0 Q) := by
  unfold zb_Md_take_0
  refine za_ald_n B.1 0 dd_Md_take_0 rfl ?_
  refine za_dup B.1 dd_Md_take_1 ?_
  refine za_gtI B.1 8 16 zi_8 rfl (by decide) (by decide) rfl zW_472 rfl dd_Md_take_2 ?_
  refine za_ico B.1 1 dd_Md_take_5 (by decide) ?_
  refine za_sub B.1 dd_Md_take_6 ?_
  refine za_ptI B.1 8 16 zi_8 zy_Md zy_Md_ok zn_Md rfl (by decide) (by decide) rfl zW_472 rfl rfl rfl dd_Md_take_7 ?_
  refine za_ild_n B.1 1 dd_Md_take_10 rfl ?_
  refine za_ist_n B.1 2 dd_Md_take_11 rfl (by decide) ?_
  exact (zq_Md_take_12 B)
end
theorem zm_Md_take (l : Launch) (G : zs_G) (As : List Value) (σ : zs_S) (Q : zs_Q) (h : zw_Md_take As σ Q) : zs_Met l yy_Md_take (Cond.code yy_Md_take bb_Md_take 3 none :: zw_all) zk_Md_take G As σ Q 0 0 := by
  unfold zw_Md_take at h
  split at h
  · exact zs_enter (by decide +kernel) h.1 (Nat.le_of_ble_eq_true rfl) h.2 (fun p e s m args below meth c B => zr_Md_take_0 B)
  · exact h.elim
-- SequencedBatchesModel.messages()I
theorem dd_Md_messages_0 : decode bb_Md_messages 0 = .ok (.aload_n 0, 1) := by decide +kernel
theorem dd_Md_messages_1 : decode bb_Md_messages 1 = .ok (.getfield 108, 3) := by decide +kernel
theorem dd_Md_messages_4 : decode bb_Md_messages 4 = .ok (.ireturn, 1) := by decide +kernel
def zk_Md_messages : Room := { frames := 0, cells := 0, slots := 0, locals := 0 }
abbrev zA_Md_messages (p : Program) (l : Launch) (e : Env) (s : State) (m : MethodId) (args : Array Value) (below : List Frame) (meth : Method) (c : Code) (G : zs_G) (Q : zs_Q) (pc : Nat) (P : zs_P) : Prop := zs_At p l e zk_Md_messages s m args below meth c (MQ below (zs_Qc G Q) args s 0 0 (fun q => zg_z G ≤ q)) G 1 pc P
def zb_Md_messages_0 (Q : zs_Q) : zs_P := zt_ald 0 (zt_gtI 8 16 (zt_irt 0 0 Q))
def zw_Md_messages : zs_W := fun As σ Q => match As with
  | [a0] => zs_c1 [a0] = true ∧ zb_Md_messages_0 Q [some a0] [] σ 0 0
  | _ => False
section
variable {p : Program} {l : Launch} {e : Env} {s : State} {m : MethodId} {args : Array Value} {below : List Frame} {meth : Method} {c : Code} {G : zs_G} {Q : zs_Q}
theorem zr_Md_messages_0 (B : zs_B p s m args meth c G bb_Md_messages 1 yy_Md_messages (some .int)) : zA_Md_messages p l e s m args below meth c G Q 0 (zb_Md_messages_0 Q) := by
  unfold zb_Md_messages_0
  refine za_ald_n B.1 0 dd_Md_messages_0 rfl ?_
  refine za_gtI B.1 8 16 zi_8 rfl (by decide) (by decide) rfl zW_472 rfl dd_Md_messages_1 ?_
  exact za_irt B.1 0 0 B.2.1 B.2.2.1 dd_Md_messages_4
end
theorem zm_Md_messages (l : Launch) (G : zs_G) (As : List Value) (σ : zs_S) (Q : zs_Q) (h : zw_Md_messages As σ Q) : zs_Met l yy_Md_messages (Cond.code yy_Md_messages bb_Md_messages 1 (some .int) :: zw_all) zk_Md_messages G As σ Q 0 0 := by
  unfold zw_Md_messages at h
  split at h
  · exact zs_enter (by decide +kernel) h.1 (Nat.le_of_ble_eq_true rfl) h.2 (fun p e s m args below meth c B => zr_Md_messages_0 B)
  · exact h.elim
-- SequencedBatchesModel.message(I)I
theorem dd_Md_message_0 : decode bb_Md_message 0 = .ok (.iload_n 1, 1) := by decide +kernel
theorem dd_Md_message_1 : decode bb_Md_message 1 = .ok (.iconst 0, 1) := by decide +kernel
theorem dd_Md_message_2 : decode bb_Md_message 2 = .ok (.aload_n 0, 1) := by decide +kernel
theorem dd_Md_message_3 : decode bb_Md_message 3 = .ok (.getfield 108, 3) := by decide +kernel
theorem dd_Md_message_6 : decode bb_Md_message 6 = .ok (.iconst 1, 1) := by decide +kernel
theorem dd_Md_message_7 : decode bb_Md_message 7 = .ok (.isub, 1) := by decide +kernel
theorem dd_Md_message_8 : decode bb_Md_message 8 = .ok (.invokestatic 111, 3) := by decide +kernel
theorem dd_Md_message_11 : decode bb_Md_message 11 = .ok (.ifCond .ne 5, 3) := by decide +kernel
theorem dd_Md_message_14 : decode bb_Md_message 14 = .ok (.iconst (-1), 1) := by decide +kernel
theorem dd_Md_message_15 : decode bb_Md_message 15 = .ok (.ireturn, 1) := by decide +kernel
theorem dd_Md_message_16 : decode bb_Md_message 16 = .ok (.aload_n 0, 1) := by decide +kernel
theorem dd_Md_message_17 : decode bb_Md_message 17 = .ok (.getfield 53, 3) := by decide +kernel
theorem dd_Md_message_20 : decode bb_Md_message 20 = .ok (.iload_n 1, 1) := by decide +kernel
theorem dd_Md_message_21 : decode bb_Md_message 21 = .ok (.iaload, 1) := by decide +kernel
theorem dd_Md_message_22 : decode bb_Md_message 22 = .ok (.iconst 4, 1) := by decide +kernel
theorem dd_Md_message_23 : decode bb_Md_message 23 = .ok (.if_icmp .ne 48, 3) := by decide +kernel
theorem dd_Md_message_26 : decode bb_Md_message 26 = .ok (.ldc 133, 2) := by decide +kernel
theorem dd_Md_message_28 : decode bb_Md_message 28 = .ok (.ldc 134, 2) := by decide +kernel
theorem dd_Md_message_30 : decode bb_Md_message 30 = .ok (.aload_n 0, 1) := by decide +kernel
theorem dd_Md_message_31 : decode bb_Md_message 31 = .ok (.getfield 59, 3) := by decide +kernel
theorem dd_Md_message_34 : decode bb_Md_message 34 = .ok (.iload_n 1, 1) := by decide +kernel
theorem dd_Md_message_35 : decode bb_Md_message 35 = .ok (.iaload, 1) := by decide +kernel
theorem dd_Md_message_36 : decode bb_Md_message 36 = .ok (.imul, 1) := by decide +kernel
theorem dd_Md_message_37 : decode bb_Md_message 37 = .ok (.iadd, 1) := by decide +kernel
theorem dd_Md_message_38 : decode bb_Md_message 38 = .ok (.sipush 1000, 3) := by decide +kernel
theorem dd_Md_message_41 : decode bb_Md_message 41 = .ok (.aload_n 0, 1) := by decide +kernel
theorem dd_Md_message_42 : decode bb_Md_message 42 = .ok (.getfield 62, 3) := by decide +kernel
theorem dd_Md_message_45 : decode bb_Md_message 45 = .ok (.iload_n 1, 1) := by decide +kernel
theorem dd_Md_message_46 : decode bb_Md_message 46 = .ok (.iaload, 1) := by decide +kernel
theorem dd_Md_message_47 : decode bb_Md_message 47 = .ok (.imul, 1) := by decide +kernel
theorem dd_Md_message_48 : decode bb_Md_message 48 = .ok (.iadd, 1) := by decide +kernel
theorem dd_Md_message_49 : decode bb_Md_message 49 = .ok (.bipush 10, 2) := by decide +kernel
theorem dd_Md_message_51 : decode bb_Md_message 51 = .ok (.aload_n 0, 1) := by decide +kernel
theorem dd_Md_message_52 : decode bb_Md_message 52 = .ok (.getfield 56, 3) := by decide +kernel
theorem dd_Md_message_55 : decode bb_Md_message 55 = .ok (.iload_n 1, 1) := by decide +kernel
theorem dd_Md_message_56 : decode bb_Md_message 56 = .ok (.iaload, 1) := by decide +kernel
theorem dd_Md_message_57 : decode bb_Md_message 57 = .ok (.iconst 4, 1) := by decide +kernel
theorem dd_Md_message_58 : decode bb_Md_message 58 = .ok (.idiv, 1) := by decide +kernel
theorem dd_Md_message_59 : decode bb_Md_message 59 = .ok (.imul, 1) := by decide +kernel
theorem dd_Md_message_60 : decode bb_Md_message 60 = .ok (.iadd, 1) := by decide +kernel
theorem dd_Md_message_61 : decode bb_Md_message 61 = .ok (.aload_n 0, 1) := by decide +kernel
theorem dd_Md_message_62 : decode bb_Md_message 62 = .ok (.getfield 56, 3) := by decide +kernel
theorem dd_Md_message_65 : decode bb_Md_message 65 = .ok (.iload_n 1, 1) := by decide +kernel
theorem dd_Md_message_66 : decode bb_Md_message 66 = .ok (.iaload, 1) := by decide +kernel
theorem dd_Md_message_67 : decode bb_Md_message 67 = .ok (.iconst 4, 1) := by decide +kernel
theorem dd_Md_message_68 : decode bb_Md_message 68 = .ok (.irem, 1) := by decide +kernel
theorem dd_Md_message_69 : decode bb_Md_message 69 = .ok (.iadd, 1) := by decide +kernel
theorem dd_Md_message_70 : decode bb_Md_message 70 = .ok (.ireturn, 1) := by decide +kernel
theorem dd_Md_message_71 : decode bb_Md_message 71 = .ok (.ldc 135, 2) := by decide +kernel
theorem dd_Md_message_73 : decode bb_Md_message 73 = .ok (.aload_n 0, 1) := by decide +kernel
theorem dd_Md_message_74 : decode bb_Md_message 74 = .ok (.getfield 53, 3) := by decide +kernel
theorem dd_Md_message_77 : decode bb_Md_message 77 = .ok (.iload_n 1, 1) := by decide +kernel
theorem dd_Md_message_78 : decode bb_Md_message 78 = .ok (.iaload, 1) := by decide +kernel
theorem dd_Md_message_79 : decode bb_Md_message 79 = .ok (.imul, 1) := by decide +kernel
theorem dd_Md_message_80 : decode bb_Md_message 80 = .ok (.ldc 134, 2) := by decide +kernel
theorem dd_Md_message_82 : decode bb_Md_message 82 = .ok (.aload_n 0, 1) := by decide +kernel
theorem dd_Md_message_83 : decode bb_Md_message 83 = .ok (.getfield 62, 3) := by decide +kernel
theorem dd_Md_message_86 : decode bb_Md_message 86 = .ok (.iload_n 1, 1) := by decide +kernel
theorem dd_Md_message_87 : decode bb_Md_message 87 = .ok (.iaload, 1) := by decide +kernel
theorem dd_Md_message_88 : decode bb_Md_message 88 = .ok (.bipush 20, 2) := by decide +kernel
theorem dd_Md_message_90 : decode bb_Md_message 90 = .ok (.idiv, 1) := by decide +kernel
theorem dd_Md_message_91 : decode bb_Md_message 91 = .ok (.imul, 1) := by decide +kernel
theorem dd_Md_message_92 : decode bb_Md_message 92 = .ok (.iadd, 1) := by decide +kernel
theorem dd_Md_message_93 : decode bb_Md_message 93 = .ok (.sipush 1000, 3) := by decide +kernel
theorem dd_Md_message_96 : decode bb_Md_message 96 = .ok (.aload_n 0, 1) := by decide +kernel
theorem dd_Md_message_97 : decode bb_Md_message 97 = .ok (.getfield 62, 3) := by decide +kernel
theorem dd_Md_message_100 : decode bb_Md_message 100 = .ok (.iload_n 1, 1) := by decide +kernel
theorem dd_Md_message_101 : decode bb_Md_message 101 = .ok (.iaload, 1) := by decide +kernel
theorem dd_Md_message_102 : decode bb_Md_message 102 = .ok (.bipush 20, 2) := by decide +kernel
theorem dd_Md_message_104 : decode bb_Md_message 104 = .ok (.irem, 1) := by decide +kernel
theorem dd_Md_message_105 : decode bb_Md_message 105 = .ok (.imul, 1) := by decide +kernel
theorem dd_Md_message_106 : decode bb_Md_message 106 = .ok (.iadd, 1) := by decide +kernel
theorem dd_Md_message_107 : decode bb_Md_message 107 = .ok (.bipush 10, 2) := by decide +kernel
theorem dd_Md_message_109 : decode bb_Md_message 109 = .ok (.aload_n 0, 1) := by decide +kernel
theorem dd_Md_message_110 : decode bb_Md_message 110 = .ok (.getfield 59, 3) := by decide +kernel
theorem dd_Md_message_113 : decode bb_Md_message 113 = .ok (.iload_n 1, 1) := by decide +kernel
theorem dd_Md_message_114 : decode bb_Md_message 114 = .ok (.iaload, 1) := by decide +kernel
theorem dd_Md_message_115 : decode bb_Md_message 115 = .ok (.imul, 1) := by decide +kernel
theorem dd_Md_message_116 : decode bb_Md_message 116 = .ok (.iadd, 1) := by decide +kernel
theorem dd_Md_message_117 : decode bb_Md_message 117 = .ok (.aload_n 0, 1) := by decide +kernel
theorem dd_Md_message_118 : decode bb_Md_message 118 = .ok (.getfield 56, 3) := by decide +kernel
theorem dd_Md_message_121 : decode bb_Md_message 121 = .ok (.iload_n 1, 1) := by decide +kernel
theorem dd_Md_message_122 : decode bb_Md_message 122 = .ok (.iaload, 1) := by decide +kernel
theorem dd_Md_message_123 : decode bb_Md_message 123 = .ok (.iadd, 1) := by decide +kernel
theorem dd_Md_message_124 : decode bb_Md_message 124 = .ok (.ireturn, 1) := by decide +kernel
def zk_Md_message : Room := { frames := 1, cells := 0, slots := 0, locals := 22 }
abbrev zA_Md_message (p : Program) (l : Launch) (e : Env) (s : State) (m : MethodId) (args : Array Value) (below : List Frame) (meth : Method) (c : Code) (G : zs_G) (Q : zs_Q) (pc : Nat) (P : zs_P) : Prop := zs_At p l e zk_Md_message s m args below meth c (MQ below (zs_Qc G Q) args s 0 0 (fun q => zg_z G ≤ q)) G 2 pc P
def zb_Md_message_71 (Q : zs_Q) : zs_P := zt_psh 1000000 (zt_ald 0 (zt_gtR 8 17 (zt_ild 1 (zt_xld 100 (zt_bin (fun x y => x * y) (zt_psh 100000 (zt_ald 0 (zt_gtR 8 20 (zt_ild 1 (zt_xld 100 (zt_psh 20 (zt_div (fun x y => x / y) (zt_bin (fun x y => x * y) (zt_bin (fun x y => x + y) (zt_psh 1000 (zt_ald 0 (zt_gtR 8 20 (zt_ild 1 (zt_xld 100 (zt_psh 20 (zt_div (fun x y => x - x / y * y) (zt_bin (fun x y => x * y) (zt_bin (fun x y => x + y) (zt_psh 10 (zt_ald 0 (zt_gtR 8 19 (zt_ild 1 (zt_xld 100 (zt_bin (fun x y => x * y) (zt_bin (fun x y => x + y) (zt_ald 0 (zt_gtR 8 18 (zt_ild 1 (zt_xld 100 (zt_bin (fun x y => x + y) (zt_irt 0 0 Q))))))))))))))))))))))))))))))))))))
def zb_Md_message_26 (Q : zs_Q) : zs_P := zt_psh 4000000 (zt_psh 100000 (zt_ald 0 (zt_gtR 8 19 (zt_ild 1 (zt_xld 100 (zt_bin (fun x y => x * y) (zt_bin (fun x y => x + y) (zt_psh 1000 (zt_ald 0 (zt_gtR 8 20 (zt_ild 1 (zt_xld 100 (zt_bin (fun x y => x * y) (zt_bin (fun x y => x + y) (zt_psh 10 (zt_ald 0 (zt_gtR 8 18 (zt_ild 1 (zt_xld 100 (zt_psh 4 (zt_div (fun x y => x / y) (zt_bin (fun x y => x * y) (zt_bin (fun x y => x + y) (zt_ald 0 (zt_gtR 8 18 (zt_ild 1 (zt_xld 100 (zt_psh 4 (zt_div (fun x y => x - x / y * y) (zt_bin (fun x y => x + y) (zt_irt 0 0 Q)))))))))))))))))))))))))))))))
def zb_Md_message_16 (Q : zs_Q) : zs_P := zt_ald 0 (zt_gtR 8 17 (zt_ild 1 (zt_xld 100 (zt_psh 4 (zt_cmp (fun x y => x = y) (zb_Md_message_26 Q) (zb_Md_message_71 Q))))))
def zb_Md_message_14 (Q : zs_Q) : zs_P := zt_psh (-1) (zt_irt 0 0 Q)
def zb_Md_message_0 (Q : zs_Q) : zs_P := zt_ild 1 (zt_psh 0 (zt_ald 0 (zt_gtI 8 16 (zt_psh 1 (zt_bin (fun x y => x - y) (zt_cal zw_Md_in 3 0 0 0 0 (zt_if (fun x => x = 0) (zb_Md_message_14 Q) (zb_Md_message_16 Q))))))))
def zw_Md_message : zs_W := fun As σ Q => match As with
  | [a0, a1] => zs_c1 [a0, a1] = true ∧ zb_Md_message_0 Q [some a0, some a1] [] σ 0 0
  | _ => False
section
variable {p : Program} {l : Launch} {e : Env} {s : State} {m : MethodId} {args : Array Value} {below : List Frame} {meth : Method} {c : Code} {G : zs_G} {Q : zs_Q}
theorem zr_Md_message_71 (B : zs_B p s m args meth c G bb_Md_message 2 yy_Md_message (some .int)) : zA_Md_message p l e s m args below meth c G Q 71 (zb_Md_message_71 Q) := by
  unfold zb_Md_message_71
  refine za_ldc B.1 1000000 dd_Md_message_71 zW_518 ?_
  refine za_ald_n B.1 0 dd_Md_message_73 rfl ?_
  refine za_gtR B.1 8 17 zi_8 rfl (by decide) (by decide) rfl zW_473 rfl dd_Md_message_74 ?_
  refine za_ild_n B.1 1 dd_Md_message_77 rfl ?_
  refine za_iald B.1 dd_Md_message_78 ?_
  refine za_mul B.1 dd_Md_message_79 ?_
  refine za_ldc B.1 100000 dd_Md_message_80 zW_517 ?_
  refine za_ald_n B.1 0 dd_Md_message_82 rfl ?_
  refine za_gtR B.1 8 20 zi_8 rfl (by decide) (by decide) rfl zW_476 rfl dd_Md_message_83 ?_
  refine za_ild_n B.1 1 dd_Md_message_86 rfl ?_
  refine za_iald B.1 dd_Md_message_87 ?_
  refine za_bip B.1 20 dd_Md_message_88 (by decide) ?_
  refine za_dvd B.1 dd_Md_message_90 ?_
  refine za_mul B.1 dd_Md_message_91 ?_
  refine za_add B.1 dd_Md_message_92 ?_
  refine za_sip B.1 1000 dd_Md_message_93 (by decide) ?_
  refine za_ald_n B.1 0 dd_Md_message_96 rfl ?_
  refine za_gtR B.1 8 20 zi_8 rfl (by decide) (by decide) rfl zW_476 rfl dd_Md_message_97 ?_
  refine za_ild_n B.1 1 dd_Md_message_100 rfl ?_
  refine za_iald B.1 dd_Md_message_101 ?_
  refine za_bip B.1 20 dd_Md_message_102 (by decide) ?_
  refine za_rem B.1 dd_Md_message_104 ?_
  refine za_mul B.1 dd_Md_message_105 ?_
  refine za_add B.1 dd_Md_message_106 ?_
  refine za_bip B.1 10 dd_Md_message_107 (by decide) ?_
  refine za_ald_n B.1 0 dd_Md_message_109 rfl ?_
  refine za_gtR B.1 8 19 zi_8 rfl (by decide) (by decide) rfl zW_475 rfl dd_Md_message_110 ?_
  refine za_ild_n B.1 1 dd_Md_message_113 rfl ?_
  refine za_iald B.1 dd_Md_message_114 ?_
  refine za_mul B.1 dd_Md_message_115 ?_
  refine za_add B.1 dd_Md_message_116 ?_
  refine za_ald_n B.1 0 dd_Md_message_117 rfl ?_
  refine za_gtR B.1 8 18 zi_8 rfl (by decide) (by decide) rfl zW_474 rfl dd_Md_message_118 ?_
  refine za_ild_n B.1 1 dd_Md_message_121 rfl ?_
  refine za_iald B.1 dd_Md_message_122 ?_
  refine za_add B.1 dd_Md_message_123 ?_
  exact za_irt B.1 0 0 B.2.1 B.2.2.1 dd_Md_message_124
theorem zr_Md_message_26 (B : zs_B p s m args meth c G bb_Md_message 2 yy_Md_message (some .int)) : zA_Md_message p l e s m args below meth c G Q 26 (zb_Md_message_26 Q) := by
  unfold zb_Md_message_26
  refine za_ldc B.1 4000000 dd_Md_message_26 zW_516 ?_
  refine za_ldc B.1 100000 dd_Md_message_28 zW_517 ?_
  refine za_ald_n B.1 0 dd_Md_message_30 rfl ?_
  refine za_gtR B.1 8 19 zi_8 rfl (by decide) (by decide) rfl zW_475 rfl dd_Md_message_31 ?_
  refine za_ild_n B.1 1 dd_Md_message_34 rfl ?_
  refine za_iald B.1 dd_Md_message_35 ?_
  refine za_mul B.1 dd_Md_message_36 ?_
  refine za_add B.1 dd_Md_message_37 ?_
  refine za_sip B.1 1000 dd_Md_message_38 (by decide) ?_
  refine za_ald_n B.1 0 dd_Md_message_41 rfl ?_
  refine za_gtR B.1 8 20 zi_8 rfl (by decide) (by decide) rfl zW_476 rfl dd_Md_message_42 ?_
  refine za_ild_n B.1 1 dd_Md_message_45 rfl ?_
  refine za_iald B.1 dd_Md_message_46 ?_
  refine za_mul B.1 dd_Md_message_47 ?_
  refine za_add B.1 dd_Md_message_48 ?_
  refine za_bip B.1 10 dd_Md_message_49 (by decide) ?_
  refine za_ald_n B.1 0 dd_Md_message_51 rfl ?_
  refine za_gtR B.1 8 18 zi_8 rfl (by decide) (by decide) rfl zW_474 rfl dd_Md_message_52 ?_
  refine za_ild_n B.1 1 dd_Md_message_55 rfl ?_
  refine za_iald B.1 dd_Md_message_56 ?_
  refine za_ico B.1 4 dd_Md_message_57 (by decide) ?_
  refine za_dvd B.1 dd_Md_message_58 ?_
  refine za_mul B.1 dd_Md_message_59 ?_
  refine za_add B.1 dd_Md_message_60 ?_
  refine za_ald_n B.1 0 dd_Md_message_61 rfl ?_
  refine za_gtR B.1 8 18 zi_8 rfl (by decide) (by decide) rfl zW_474 rfl dd_Md_message_62 ?_
  refine za_ild_n B.1 1 dd_Md_message_65 rfl ?_
  refine za_iald B.1 dd_Md_message_66 ?_
  refine za_ico B.1 4 dd_Md_message_67 (by decide) ?_
  refine za_rem B.1 dd_Md_message_68 ?_
  refine za_add B.1 dd_Md_message_69 ?_
  exact za_irt B.1 0 0 B.2.1 B.2.2.1 dd_Md_message_70
theorem zr_Md_message_16 (B : zs_B p s m args meth c G bb_Md_message 2 yy_Md_message (some .int)) : zA_Md_message p l e s m args below meth c G Q 16 (zb_Md_message_16 Q) := by
  unfold zb_Md_message_16
  refine za_ald_n B.1 0 dd_Md_message_16 rfl ?_
  refine za_gtR B.1 8 17 zi_8 rfl (by decide) (by decide) rfl zW_473 rfl dd_Md_message_17 ?_
  refine za_ild_n B.1 1 dd_Md_message_20 rfl ?_
  refine za_iald B.1 dd_Md_message_21 ?_
  refine za_ico B.1 4 dd_Md_message_22 (by decide) ?_
  exact za_cmp_ne B.1 71 dd_Md_message_23 (by decide) (zr_Md_message_26 B) (zr_Md_message_71 B)
theorem zr_Md_message_14 (B : zs_B p s m args meth c G bb_Md_message 2 yy_Md_message (some .int)) : zA_Md_message p l e s m args below meth c G Q 14 (zb_Md_message_14 Q) := by
  unfold zb_Md_message_14
  refine za_ico B.1 (-1) dd_Md_message_14 (by decide) ?_
  exact za_irt B.1 0 0 B.2.1 B.2.2.1 dd_Md_message_15
theorem zr_Md_message_0 (B : zs_B p s m args meth c G bb_Md_message 2 yy_Md_message (some .int)) : zA_Md_message p l e s m args below meth c G Q 0 (zb_Md_message_0 Q) := by
  unfold zb_Md_message_0
  refine za_ild_n B.1 1 dd_Md_message_0 rfl ?_
  refine za_ico B.1 0 dd_Md_message_1 (by decide) ?_
  refine za_ald_n B.1 0 dd_Md_message_2 rfl ?_
  refine za_gtI B.1 8 16 zi_8 rfl (by decide) (by decide) rfl zW_472 rfl dd_Md_message_3 ?_
  refine za_ico B.1 1 dd_Md_message_6 (by decide) ?_
  refine za_sub B.1 dd_Md_message_7 ?_
  refine za_cS B.1 3 0 0 0 0 rfl rfl (zm_Md_in l G) ⟨callB_of 3 B.1.1.2.2.2.2 (zs_good zW_497) rfl rfl rfl (B.1.1.2.2.2.2 _ zW_8) (B.1.1.2.2.2.2 _ zW_495) (by decide +kernel) ⟨by decide, by decide⟩, (B.1.1.2.2.2.2 _ zW_496)⟩ dd_Md_message_8 ?_
  exact za_if_ne B.1 16 dd_Md_message_11 (by decide) (zr_Md_message_14 B) (zr_Md_message_16 B)
end
theorem zm_Md_message (l : Launch) (G : zs_G) (As : List Value) (σ : zs_S) (Q : zs_Q) (h : zw_Md_message As σ Q) : zs_Met l yy_Md_message (Cond.code yy_Md_message bb_Md_message 2 (some .int) :: zw_all) zk_Md_message G As σ Q 0 0 := by
  unfold zw_Md_message at h
  split at h
  · exact zs_enter (by decide +kernel) h.1 (Nat.le_of_ble_eq_true rfl) h.2 (fun p e s m args below meth c B => zr_Md_message_0 B)
  · exact h.elim
-- SequencedBatchesModel.drop(I)Z
theorem dd_Md_drop_0 : decode bb_Md_drop 0 = .ok (.iload_n 1, 1) := by decide +kernel
theorem dd_Md_drop_1 : decode bb_Md_drop 1 = .ok (.iconst 0, 1) := by decide +kernel
theorem dd_Md_drop_2 : decode bb_Md_drop 2 = .ok (.aload_n 0, 1) := by decide +kernel
theorem dd_Md_drop_3 : decode bb_Md_drop 3 = .ok (.getfield 108, 3) := by decide +kernel
theorem dd_Md_drop_6 : decode bb_Md_drop 6 = .ok (.iconst 1, 1) := by decide +kernel
theorem dd_Md_drop_7 : decode bb_Md_drop 7 = .ok (.isub, 1) := by decide +kernel
theorem dd_Md_drop_8 : decode bb_Md_drop 8 = .ok (.invokestatic 111, 3) := by decide +kernel
theorem dd_Md_drop_11 : decode bb_Md_drop 11 = .ok (.ifCond .eq 21, 3) := by decide +kernel
theorem dd_Md_drop_14 : decode bb_Md_drop 14 = .ok (.aload_n 0, 1) := by decide +kernel
theorem dd_Md_drop_15 : decode bb_Md_drop 15 = .ok (.getfield 53, 3) := by decide +kernel
theorem dd_Md_drop_18 : decode bb_Md_drop 18 = .ok (.iload_n 1, 1) := by decide +kernel
theorem dd_Md_drop_19 : decode bb_Md_drop 19 = .ok (.ifCond .ge 7, 3) := by decide +kernel
theorem dd_Md_drop_22 : decode bb_Md_drop 22 = .ok (.iconst 0, 1) := by decide +kernel
theorem dd_Md_drop_23 : decode bb_Md_drop 23 = .ok (.goto 4, 3) := by decide +kernel
theorem dd_Md_drop_26 : decode bb_Md_drop 26 = .ok (.iload_n 1, 1) := by decide +kernel
theorem dd_Md_drop_27 : decode bb_Md_drop 27 = .ok (.iaload, 1) := by decide +kernel
theorem dd_Md_drop_28 : decode bb_Md_drop 28 = .ok (.iconst 4, 1) := by decide +kernel
theorem dd_Md_drop_29 : decode bb_Md_drop 29 = .ok (.if_icmp .ne 5, 3) := by decide +kernel
theorem dd_Md_drop_32 : decode bb_Md_drop 32 = .ok (.iconst 0, 1) := by decide +kernel
theorem dd_Md_drop_33 : decode bb_Md_drop 33 = .ok (.ireturn, 1) := by decide +kernel
theorem dd_Md_drop_34 : decode bb_Md_drop 34 = .ok (.aload_n 0, 1) := by decide +kernel
theorem dd_Md_drop_35 : decode bb_Md_drop 35 = .ok (.iload_n 1, 1) := by decide +kernel
theorem dd_Md_drop_36 : decode bb_Md_drop 36 = .ok (.invokevirtual 136, 3) := by decide +kernel
theorem dd_Md_drop_39 : decode bb_Md_drop 39 = .ok (.iconst 1, 1) := by decide +kernel
theorem dd_Md_drop_40 : decode bb_Md_drop 40 = .ok (.ireturn, 1) := by decide +kernel
def zk_Md_drop : Room := { frames := 1, cells := 0, slots := 0, locals := 22 }
abbrev zA_Md_drop (p : Program) (l : Launch) (e : Env) (s : State) (m : MethodId) (args : Array Value) (below : List Frame) (meth : Method) (c : Code) (G : zs_G) (Q : zs_Q) (pc : Nat) (P : zs_P) : Prop := zs_At p l e zk_Md_drop s m args below meth c (MQ below (zs_Qc G Q) args s 0 0 (fun q => zg_z G ≤ q)) G 2 pc P
def zb_Md_drop_32 (Q : zs_Q) : zs_P := zt_psh 0 (zt_zrt 0 0 Q)
def zb_Md_drop_34 (Q : zs_Q) : zs_P := zt_ald 0 (zt_ild 1 (zt_cav 8 zw_Md_take (1 + 1) 0 0 0 0 (zt_psh 1 (zt_zrt 0 0 Q))))
def zb_Md_drop_27 (Q : zs_Q) : zs_P := zt_xld 100 (zt_psh 4 (zt_cmp (fun x y => x = y) (zb_Md_drop_32 Q) (zb_Md_drop_34 Q)))
def zb_Md_drop_26 (Q : zs_Q) : zs_P := zt_ild 1 ((zb_Md_drop_27 Q))
def zb_Md_drop_22 (Q : zs_Q) : zs_P := zt_psh 0 ((zb_Md_drop_27 Q))
def zb_Md_drop_14 (Q : zs_Q) : zs_P := zt_ald 0 (zt_gtR 8 17 (zt_ild 1 (zt_if (fun x => 0 ≤ x) (zb_Md_drop_26 Q) (zb_Md_drop_22 Q))))
def zb_Md_drop_0 (Q : zs_Q) : zs_P := zt_ild 1 (zt_psh 0 (zt_ald 0 (zt_gtI 8 16 (zt_psh 1 (zt_bin (fun x y => x - y) (zt_cal zw_Md_in 3 0 0 0 0 (zt_if (fun x => x = 0) (zb_Md_drop_32 Q) (zb_Md_drop_14 Q))))))))
def zw_Md_drop : zs_W := fun As σ Q => match As with
  | [a0, a1] => zs_c1 [a0, a1] = true ∧ zb_Md_drop_0 Q [some a0, some a1] [] σ 0 0
  | _ => False
section
variable {p : Program} {l : Launch} {e : Env} {s : State} {m : MethodId} {args : Array Value} {below : List Frame} {meth : Method} {c : Code} {G : zs_G} {Q : zs_Q}
theorem zr_Md_drop_32 (B : zs_B p s m args meth c G bb_Md_drop 2 yy_Md_drop (some .boolean)) : zA_Md_drop p l e s m args below meth c G Q 32 (zb_Md_drop_32 Q) := by
  unfold zb_Md_drop_32
  refine za_ico B.1 0 dd_Md_drop_32 (by decide) ?_
  exact za_zrt B.1 0 0 B.2.1 B.2.2.1 dd_Md_drop_33
theorem zr_Md_drop_34 (B : zs_B p s m args meth c G bb_Md_drop 2 yy_Md_drop (some .boolean)) : zA_Md_drop p l e s m args below meth c G Q 34 (zb_Md_drop_34 Q) := by
  unfold zb_Md_drop_34
  refine za_ald_n B.1 0 dd_Md_drop_34 rfl ?_
  refine za_ild_n B.1 1 dd_Md_drop_35 rfl ?_
  refine za_cV B.1 8 1 0 0 0 0 rfl rfl rfl (by decide) (zm_Md_take l G) ⟨callB_of 1 B.1.1.2.2.2.2 (zs_good zW_525) rfl rfl rfl (B.1.1.2.2.2.2 _ zW_8) (B.1.1.2.2.2.2 _ zW_523) (by decide +kernel) ⟨by decide, by decide⟩, (B.1.1.2.2.2.2 _ zW_524), (B.1.1.2.2.2.2 _ zW_676)⟩ dd_Md_drop_36 ?_
  refine za_ico B.1 1 dd_Md_drop_39 (by decide) ?_
  exact za_zrt B.1 0 0 B.2.1 B.2.2.1 dd_Md_drop_40
theorem zr_Md_drop_27 (B : zs_B p s m args meth c G bb_Md_drop 2 yy_Md_drop (some .boolean)) : zA_Md_drop p l e s m args below meth c G Q 27 (zb_Md_drop_27 Q) := by
  unfold zb_Md_drop_27
  refine za_iald B.1 dd_Md_drop_27 ?_
  refine za_ico B.1 4 dd_Md_drop_28 (by decide) ?_
  exact za_cmp_ne B.1 34 dd_Md_drop_29 (by decide) (zr_Md_drop_32 B) (zr_Md_drop_34 B)
theorem zr_Md_drop_26 (B : zs_B p s m args meth c G bb_Md_drop 2 yy_Md_drop (some .boolean)) : zA_Md_drop p l e s m args below meth c G Q 26 (zb_Md_drop_26 Q) := by
  unfold zb_Md_drop_26
  refine za_ild_n B.1 1 dd_Md_drop_26 rfl ?_
  exact (zr_Md_drop_27 B)
theorem zr_Md_drop_22 (B : zs_B p s m args meth c G bb_Md_drop 2 yy_Md_drop (some .boolean)) : zA_Md_drop p l e s m args below meth c G Q 22 (zb_Md_drop_22 Q) := by
  unfold zb_Md_drop_22
  refine za_ico B.1 0 dd_Md_drop_22 (by decide) ?_
  refine za_goto B.1 27 dd_Md_drop_23 (by decide) ?_
  exact (zr_Md_drop_27 B)
theorem zr_Md_drop_14 (B : zs_B p s m args meth c G bb_Md_drop 2 yy_Md_drop (some .boolean)) : zA_Md_drop p l e s m args below meth c G Q 14 (zb_Md_drop_14 Q) := by
  unfold zb_Md_drop_14
  refine za_ald_n B.1 0 dd_Md_drop_14 rfl ?_
  refine za_gtR B.1 8 17 zi_8 rfl (by decide) (by decide) rfl zW_473 rfl dd_Md_drop_15 ?_
  refine za_ild_n B.1 1 dd_Md_drop_18 rfl ?_
  exact za_if_ge B.1 26 dd_Md_drop_19 (by decide) (zr_Md_drop_26 B) (zr_Md_drop_22 B)
theorem zr_Md_drop_0 (B : zs_B p s m args meth c G bb_Md_drop 2 yy_Md_drop (some .boolean)) : zA_Md_drop p l e s m args below meth c G Q 0 (zb_Md_drop_0 Q) := by
  unfold zb_Md_drop_0
  refine za_ild_n B.1 1 dd_Md_drop_0 rfl ?_
  refine za_ico B.1 0 dd_Md_drop_1 (by decide) ?_
  refine za_ald_n B.1 0 dd_Md_drop_2 rfl ?_
  refine za_gtI B.1 8 16 zi_8 rfl (by decide) (by decide) rfl zW_472 rfl dd_Md_drop_3 ?_
  refine za_ico B.1 1 dd_Md_drop_6 (by decide) ?_
  refine za_sub B.1 dd_Md_drop_7 ?_
  refine za_cS B.1 3 0 0 0 0 rfl rfl (zm_Md_in l G) ⟨callB_of 3 B.1.1.2.2.2.2 (zs_good zW_497) rfl rfl rfl (B.1.1.2.2.2.2 _ zW_8) (B.1.1.2.2.2.2 _ zW_495) (by decide +kernel) ⟨by decide, by decide⟩, (B.1.1.2.2.2.2 _ zW_496)⟩ dd_Md_drop_8 ?_
  exact za_if_eq B.1 32 dd_Md_drop_11 (by decide) (zr_Md_drop_32 B) (zr_Md_drop_14 B)
end
theorem zm_Md_drop (l : Launch) (G : zs_G) (As : List Value) (σ : zs_S) (Q : zs_Q) (h : zw_Md_drop As σ Q) : zs_Met l yy_Md_drop (Cond.code yy_Md_drop bb_Md_drop 2 (some .boolean) :: zw_all) zk_Md_drop G As σ Q 0 0 := by
  unfold zw_Md_drop at h
  split at h
  · exact zs_enter (by decide +kernel) h.1 (Nat.le_of_ble_eq_true rfl) h.2 (fun p e s m args below meth c B => zr_Md_drop_0 B)
  · exact h.elim
-- SequencedBatchesModel.store(IIII)V
theorem dd_Md_store_0 : decode bb_Md_store 0 = .ok (.iload_n 2, 1) := by decide +kernel
theorem dd_Md_store_1 : decode bb_Md_store 1 = .ok (.bipush 20, 2) := by decide +kernel
theorem dd_Md_store_3 : decode bb_Md_store 3 = .ok (.idiv, 1) := by decide +kernel
theorem dd_Md_store_4 : decode bb_Md_store 4 = .ok (.istore 5, 2) := by decide +kernel
theorem dd_Md_store_6 : decode bb_Md_store 6 = .ok (.aload_n 0, 1) := by decide +kernel
theorem dd_Md_store_7 : decode bb_Md_store 7 = .ok (.getfield 7, 3) := by decide +kernel
theorem dd_Md_store_10 : decode bb_Md_store 10 = .ok (.iload_n 1, 1) := by decide +kernel
theorem dd_Md_store_11 : decode bb_Md_store 11 = .ok (.baload, 1) := by decide +kernel
theorem dd_Md_store_12 : decode bb_Md_store 12 = .ok (.ifCond .ne 19, 3) := by decide +kernel
theorem dd_Md_store_15 : decode bb_Md_store 15 = .ok (.aload_n 0, 1) := by decide +kernel
theorem dd_Md_store_16 : decode bb_Md_store 16 = .ok (.getfield 50, 3) := by decide +kernel
theorem dd_Md_store_19 : decode bb_Md_store 19 = .ok (.iconst 2, 1) := by decide +kernel
theorem dd_Md_store_20 : decode bb_Md_store 20 = .ok (.iload_n 1, 1) := by decide +kernel
theorem dd_Md_store_21 : decode bb_Md_store 21 = .ok (.imul, 1) := by decide +kernel
theorem dd_Md_store_22 : decode bb_Md_store 22 = .ok (.iload 5, 2) := by decide +kernel
theorem dd_Md_store_24 : decode bb_Md_store 24 = .ok (.iadd, 1) := by decide +kernel
theorem dd_Md_store_25 : decode bb_Md_store 25 = .ok (.iaload, 1) := by decide +kernel
theorem dd_Md_store_26 : decode bb_Md_store 26 = .ok (.iload 4, 2) := by decide +kernel
theorem dd_Md_store_28 : decode bb_Md_store 28 = .ok (.if_icmp .le 4, 3) := by decide +kernel
theorem dd_Md_store_31 : decode bb_Md_store 31 = .ok (.return_, 1) := by decide +kernel
theorem dd_Md_store_32 : decode bb_Md_store 32 = .ok (.aload_n 0, 1) := by decide +kernel
theorem dd_Md_store_33 : decode bb_Md_store 33 = .ok (.getfield 50, 3) := by decide +kernel
theorem dd_Md_store_36 : decode bb_Md_store 36 = .ok (.iconst 2, 1) := by decide +kernel
theorem dd_Md_store_37 : decode bb_Md_store 37 = .ok (.iload_n 1, 1) := by decide +kernel
theorem dd_Md_store_38 : decode bb_Md_store 38 = .ok (.imul, 1) := by decide +kernel
theorem dd_Md_store_39 : decode bb_Md_store 39 = .ok (.iload 5, 2) := by decide +kernel
theorem dd_Md_store_41 : decode bb_Md_store 41 = .ok (.iadd, 1) := by decide +kernel
theorem dd_Md_store_42 : decode bb_Md_store 42 = .ok (.iload 4, 2) := by decide +kernel
theorem dd_Md_store_44 : decode bb_Md_store 44 = .ok (.iastore, 1) := by decide +kernel
theorem dd_Md_store_45 : decode bb_Md_store 45 = .ok (.aload_n 0, 1) := by decide +kernel
theorem dd_Md_store_46 : decode bb_Md_store 46 = .ok (.getfield 47, 3) := by decide +kernel
theorem dd_Md_store_49 : decode bb_Md_store 49 = .ok (.bipush 40, 2) := by decide +kernel
theorem dd_Md_store_51 : decode bb_Md_store 51 = .ok (.iload_n 1, 1) := by decide +kernel
theorem dd_Md_store_52 : decode bb_Md_store 52 = .ok (.imul, 1) := by decide +kernel
theorem dd_Md_store_53 : decode bb_Md_store 53 = .ok (.iload_n 2, 1) := by decide +kernel
theorem dd_Md_store_54 : decode bb_Md_store 54 = .ok (.iadd, 1) := by decide +kernel
theorem dd_Md_store_55 : decode bb_Md_store 55 = .ok (.iconst 2, 1) := by decide +kernel
theorem dd_Md_store_56 : decode bb_Md_store 56 = .ok (.iload 4, 2) := by decide +kernel
theorem dd_Md_store_58 : decode bb_Md_store 58 = .ok (.imul, 1) := by decide +kernel
theorem dd_Md_store_59 : decode bb_Md_store 59 = .ok (.iload_n 3, 1) := by decide +kernel
theorem dd_Md_store_60 : decode bb_Md_store 60 = .ok (.iadd, 1) := by decide +kernel
theorem dd_Md_store_61 : decode bb_Md_store 61 = .ok (.iastore, 1) := by decide +kernel
theorem dd_Md_store_62 : decode bb_Md_store 62 = .ok (.aload_n 0, 1) := by decide +kernel
theorem dd_Md_store_63 : decode bb_Md_store 63 = .ok (.iconst 2, 1) := by decide +kernel
theorem dd_Md_store_64 : decode bb_Md_store 64 = .ok (.iload_n 1, 1) := by decide +kernel
theorem dd_Md_store_65 : decode bb_Md_store 65 = .ok (.iload_n 2, 1) := by decide +kernel
theorem dd_Md_store_66 : decode bb_Md_store 66 = .ok (.iconst 0, 1) := by decide +kernel
theorem dd_Md_store_67 : decode bb_Md_store 67 = .ok (.iload 4, 2) := by decide +kernel
theorem dd_Md_store_69 : decode bb_Md_store 69 = .ok (.invokevirtual 151, 3) := by decide +kernel
theorem dd_Md_store_72 : decode bb_Md_store 72 = .ok (.return_, 1) := by decide +kernel
def zk_Md_store : Room := { frames := 1, cells := 0, slots := 0, locals := 25 }
abbrev zA_Md_store (p : Program) (l : Launch) (e : Env) (s : State) (m : MethodId) (args : Array Value) (below : List Frame) (meth : Method) (c : Code) (G : zs_G) (Q : zs_Q) (pc : Nat) (P : zs_P) : Prop := zs_At p l e zk_Md_store s m args below meth c (MQ below (zs_Qc G Q) args s 0 0 (fun q => zg_z G ≤ q)) G 6 pc P
def zb_Md_store_31 (Q : zs_Q) : zs_P := zt_vrt 0 0 Q
def zb_Md_store_32 (Q : zs_Q) : zs_P := zt_ald 0 (zt_gtR 8 15 (zt_psh 2 (zt_ild 1 (zt_bin (fun x y => x * y) (zt_ild 5 (zt_bin (fun x y => x + y) (zt_ild 4 (zt_ias (zt_ald 0 (zt_gtR 8 14 (zt_psh 40 (zt_ild 1 (zt_bin (fun x y => x * y) (zt_ild 2 (zt_bin (fun x y => x + y) (zt_psh 2 (zt_ild 4 (zt_bin (fun x y => x * y) (zt_ild 3 (zt_bin (fun x y => x + y) (zt_ias (zt_ald 0 (zt_psh 2 (zt_ild 1 (zt_ild 2 (zt_psh 0 (zt_ild 4 (zt_cav 8 zw_Md_post (5 + 1) 0 0 0 0 (zt_vrt 0 0 Q)))))))))))))))))))))))))))))
def zb_Md_store_15 (Q : zs_Q) : zs_P := zt_ald 0 (zt_gtR 8 15 (zt_psh 2 (zt_ild 1 (zt_bin (fun x y => x * y) (zt_ild 5 (zt_bin (fun x y => x + y) (zt_xld 100 (zt_ild 4 (zt_cmp (fun x y => x ≤ y) (zb_Md_store_32 Q) (zb_Md_store_31 Q))))))))))
def zb_Md_store_0 (Q : zs_Q) : zs_P := zt_ild 2 (zt_psh 20 (zt_div (fun x y => x / y) (zt_ist 5 (zt_ald 0 (zt_gtR 8 1 (zt_ild 1 (zt_xld 101 (zt_if (fun x => x = 0) (zb_Md_store_15 Q) (zb_Md_store_31 Q)))))))))
def zw_Md_store : zs_W := fun As σ Q => match As with
  | [a0, a1, a2, a3, a4] => zs_c1 [a0, a1, a2, a3, a4] = true ∧ zb_Md_store_0 Q [some a0, some a1, some a2, some a3, some a4, none] [] σ 0 0
  | _ => False
section
variable {p : Program} {l : Launch} {e : Env} {s : State} {m : MethodId} {args : Array Value} {below : List Frame} {meth : Method} {c : Code} {G : zs_G} {Q : zs_Q}
theorem zr_Md_store_31 (B : zs_B p s m args meth c G bb_Md_store 6 yy_Md_store none) : zA_Md_store p l e s m args below meth c G Q 31 (zb_Md_store_31 Q) := by
  unfold zb_Md_store_31
  exact za_vrt B.1 0 0 B.2.1 B.2.2.1 dd_Md_store_31
theorem zr_Md_store_32 (B : zs_B p s m args meth c G bb_Md_store 6 yy_Md_store none) : zA_Md_store p l e s m args below meth c G Q 32 (zb_Md_store_32 Q) := by
  unfold zb_Md_store_32
  refine za_ald_n B.1 0 dd_Md_store_32 rfl ?_
  refine za_gtR B.1 8 15 zi_8 rfl (by decide) (by decide) rfl zW_471 rfl dd_Md_store_33 ?_
  refine za_ico B.1 2 dd_Md_store_36 (by decide) ?_
  refine za_ild_n B.1 1 dd_Md_store_37 rfl ?_
  refine za_mul B.1 dd_Md_store_38 ?_
  refine za_ild B.1 dd_Md_store_39 ?_
  refine za_add B.1 dd_Md_store_41 ?_
  refine za_ild B.1 dd_Md_store_42 ?_
  refine za_iast B.1 dd_Md_store_44 ?_
  refine za_ald_n B.1 0 dd_Md_store_45 rfl ?_
  refine za_gtR B.1 8 14 zi_8 rfl (by decide) (by decide) rfl zW_470 rfl dd_Md_store_46 ?_
  refine za_bip B.1 40 dd_Md_store_49 (by decide) ?_
  refine za_ild_n B.1 1 dd_Md_store_51 rfl ?_
  refine za_mul B.1 dd_Md_store_52 ?_
  refine za_ild_n B.1 2 dd_Md_store_53 rfl ?_
  refine za_add B.1 dd_Md_store_54 ?_
  refine za_ico B.1 2 dd_Md_store_55 (by decide) ?_
  refine za_ild B.1 dd_Md_store_56 ?_
  refine za_mul B.1 dd_Md_store_58 ?_
  refine za_ild_n B.1 3 dd_Md_store_59 rfl ?_
  refine za_add B.1 dd_Md_store_60 ?_
  refine za_iast B.1 dd_Md_store_61 ?_
  refine za_ald_n B.1 0 dd_Md_store_62 rfl ?_
  refine za_ico B.1 2 dd_Md_store_63 (by decide) ?_
  refine za_ild_n B.1 1 dd_Md_store_64 rfl ?_
  refine za_ild_n B.1 2 dd_Md_store_65 rfl ?_
  refine za_ico B.1 0 dd_Md_store_66 (by decide) ?_
  refine za_ild B.1 dd_Md_store_67 ?_
  refine za_cV B.1 8 5 0 0 0 0 rfl rfl rfl (by decide) (zm_Md_post l G) ⟨callB_of 5 B.1.1.2.2.2.2 (zs_good zW_535) rfl rfl rfl (B.1.1.2.2.2.2 _ zW_8) (B.1.1.2.2.2.2 _ zW_533) (by decide +kernel) ⟨by decide, by decide⟩, (B.1.1.2.2.2.2 _ zW_534), (B.1.1.2.2.2.2 _ zW_678)⟩ dd_Md_store_69 ?_
  exact za_vrt B.1 0 0 B.2.1 B.2.2.1 dd_Md_store_72
theorem zr_Md_store_15 (B : zs_B p s m args meth c G bb_Md_store 6 yy_Md_store none) : zA_Md_store p l e s m args below meth c G Q 15 (zb_Md_store_15 Q) := by
  unfold zb_Md_store_15
  refine za_ald_n B.1 0 dd_Md_store_15 rfl ?_
  refine za_gtR B.1 8 15 zi_8 rfl (by decide) (by decide) rfl zW_471 rfl dd_Md_store_16 ?_
  refine za_ico B.1 2 dd_Md_store_19 (by decide) ?_
  refine za_ild_n B.1 1 dd_Md_store_20 rfl ?_
  refine za_mul B.1 dd_Md_store_21 ?_
  refine za_ild B.1 dd_Md_store_22 ?_
  refine za_add B.1 dd_Md_store_24 ?_
  refine za_iald B.1 dd_Md_store_25 ?_
  refine za_ild B.1 dd_Md_store_26 ?_
  exact za_cmp_le B.1 32 dd_Md_store_28 (by decide) (zr_Md_store_32 B) (zr_Md_store_31 B)
theorem zr_Md_store_0 (B : zs_B p s m args meth c G bb_Md_store 6 yy_Md_store none) : zA_Md_store p l e s m args below meth c G Q 0 (zb_Md_store_0 Q) := by
  unfold zb_Md_store_0
  refine za_ild_n B.1 2 dd_Md_store_0 rfl ?_
  refine za_bip B.1 20 dd_Md_store_1 (by decide) ?_
  refine za_dvd B.1 dd_Md_store_3 ?_
  refine za_ist B.1 dd_Md_store_4 (by decide) ?_
  refine za_ald_n B.1 0 dd_Md_store_6 rfl ?_
  refine za_gtR B.1 8 1 zi_8 rfl (by decide) (by decide) rfl zW_457 rfl dd_Md_store_7 ?_
  refine za_ild_n B.1 1 dd_Md_store_10 rfl ?_
  refine za_zald B.1 dd_Md_store_11 ?_
  exact za_if_ne B.1 31 dd_Md_store_12 (by decide) (zr_Md_store_15 B) (zr_Md_store_31 B)
end
theorem zm_Md_store (l : Launch) (G : zs_G) (As : List Value) (σ : zs_S) (Q : zs_Q) (h : zw_Md_store As σ Q) : zs_Met l yy_Md_store (Cond.code yy_Md_store bb_Md_store 6 none :: zw_all) zk_Md_store G As σ Q 0 0 := by
  unfold zw_Md_store at h
  split at h
  · exact zs_enter (by decide +kernel) h.1 (Nat.le_of_ble_eq_true rfl) h.2 (fun p e s m args below meth c B => zr_Md_store_0 B)
  · exact h.elim
