/-! Methods: Po_takeOut, Co_kind, Co_owner, Co_item, Co_node, SB_placeInLog, Co_last, SB_storeArrives, Sl_acknowledge, SB_ackArrives, SB_replicaIsUp, Rp_appendToLog, Rp_learn (made by program) -/
-- SequencedBatches$Post.takeOut(I)V
theorem dd_Po_takeOut_0 : decode bb_Po_takeOut 0 = .ok (.aload_n 0, 1) := by decide +kernel
theorem dd_Po_takeOut_1 : decode bb_Po_takeOut 1 = .ok (.dup, 1) := by decide +kernel
theorem dd_Po_takeOut_2 : decode bb_Po_takeOut 2 = .ok (.getfield 16, 3) := by decide +kernel
theorem dd_Po_takeOut_5 : decode bb_Po_takeOut 5 = .ok (.iconst 1, 1) := by decide +kernel
theorem dd_Po_takeOut_6 : decode bb_Po_takeOut 6 = .ok (.isub, 1) := by decide +kernel
theorem dd_Po_takeOut_7 : decode bb_Po_takeOut 7 = .ok (.putfield 16, 3) := by decide +kernel
theorem dd_Po_takeOut_10 : decode bb_Po_takeOut 10 = .ok (.iload_n 1, 1) := by decide +kernel
theorem dd_Po_takeOut_11 : decode bb_Po_takeOut 11 = .ok (.istore_n 2, 1) := by decide +kernel
theorem dd_Po_takeOut_12 : decode bb_Po_takeOut 12 = .ok (.iload_n 2, 1) := by decide +kernel
theorem dd_Po_takeOut_13 : decode bb_Po_takeOut 13 = .ok (.aload_n 0, 1) := by decide +kernel
theorem dd_Po_takeOut_14 : decode bb_Po_takeOut 14 = .ok (.getfield 16, 3) := by decide +kernel
theorem dd_Po_takeOut_17 : decode bb_Po_takeOut 17 = .ok (.if_icmp .ge 37, 3) := by decide +kernel
theorem dd_Po_takeOut_20 : decode bb_Po_takeOut 20 = .ok (.aload_n 0, 1) := by decide +kernel
theorem dd_Po_takeOut_21 : decode bb_Po_takeOut 21 = .ok (.getfield 9, 3) := by decide +kernel
theorem dd_Po_takeOut_24 : decode bb_Po_takeOut 24 = .ok (.iload_n 2, 1) := by decide +kernel
theorem dd_Po_takeOut_25 : decode bb_Po_takeOut 25 = .ok (.aload_n 0, 1) := by decide +kernel
theorem dd_Po_takeOut_26 : decode bb_Po_takeOut 26 = .ok (.getfield 9, 3) := by decide +kernel
theorem dd_Po_takeOut_29 : decode bb_Po_takeOut 29 = .ok (.iload_n 2, 1) := by decide +kernel
theorem dd_Po_takeOut_30 : decode bb_Po_takeOut 30 = .ok (.iconst 1, 1) := by decide +kernel
theorem dd_Po_takeOut_31 : decode bb_Po_takeOut 31 = .ok (.iadd, 1) := by decide +kernel
theorem dd_Po_takeOut_32 : decode bb_Po_takeOut 32 = .ok (.iaload, 1) := by decide +kernel
theorem dd_Po_takeOut_33 : decode bb_Po_takeOut 33 = .ok (.iastore, 1) := by decide +kernel
theorem dd_Po_takeOut_34 : decode bb_Po_takeOut 34 = .ok (.aload_n 0, 1) := by decide +kernel
theorem dd_Po_takeOut_35 : decode bb_Po_takeOut 35 = .ok (.getfield 13, 3) := by decide +kernel
theorem dd_Po_takeOut_38 : decode bb_Po_takeOut 38 = .ok (.iload_n 2, 1) := by decide +kernel
theorem dd_Po_takeOut_39 : decode bb_Po_takeOut 39 = .ok (.aload_n 0, 1) := by decide +kernel
theorem dd_Po_takeOut_40 : decode bb_Po_takeOut 40 = .ok (.getfield 13, 3) := by decide +kernel
theorem dd_Po_takeOut_43 : decode bb_Po_takeOut 43 = .ok (.iload_n 2, 1) := by decide +kernel
theorem dd_Po_takeOut_44 : decode bb_Po_takeOut 44 = .ok (.iconst 1, 1) := by decide +kernel
theorem dd_Po_takeOut_45 : decode bb_Po_takeOut 45 = .ok (.iadd, 1) := by decide +kernel
theorem dd_Po_takeOut_46 : decode bb_Po_takeOut 46 = .ok (.iaload, 1) := by decide +kernel
theorem dd_Po_takeOut_47 : decode bb_Po_takeOut 47 = .ok (.iastore, 1) := by decide +kernel
theorem dd_Po_takeOut_48 : decode bb_Po_takeOut 48 = .ok (.iinc 2 1, 3) := by decide +kernel
theorem dd_Po_takeOut_51 : decode bb_Po_takeOut 51 = .ok (.goto (-39), 3) := by decide +kernel
theorem dd_Po_takeOut_54 : decode bb_Po_takeOut 54 = .ok (.return_, 1) := by decide +kernel
def zk_Po_takeOut : Room := { frames := 0, cells := 0, slots := 0, locals := 0 }
abbrev zA_Po_takeOut (p : Program) (l : Launch) (e : Env) (s : State) (m : MethodId) (args : Array Value) (below : List Frame) (meth : Method) (c : Code) (G : zs_G) (Q : zs_Q) (pc : Nat) (P : zs_P) : Prop := zs_At p l e zk_Po_takeOut s m args below meth c (MQ below (zs_Qc G Q) args s 0 0 (fun q => zg_z G ≤ q)) G 3 pc P
def zb_Po_takeOut_54 (Q : zs_Q) : zs_P := zt_vrt 0 0 Q
def zb_Po_takeOut_20 (Q : zs_Q) (K12 : zs_P) : zs_P := zt_ald 0 (zt_gtR 2 0 (zt_ild 2 (zt_ald 0 (zt_gtR 2 0 (zt_ild 2 (zt_psh 1 (zt_bin (fun x y => x + y) (zt_xld 100 (zt_ias (zt_ald 0 (zt_gtR 2 1 (zt_ild 2 (zt_ald 0 (zt_gtR 2 1 (zt_ild 2 (zt_psh 1 (zt_bin (fun x y => x + y) (zt_xld 100 (zt_ias (zt_inc 2 1 (K12)))))))))))))))))))))
def zb_Po_takeOut_12 (Q : zs_Q) (K12 : zs_P) : zs_P := zt_ild 2 (zt_ald 0 (zt_gtI 2 2 (zt_cmp (fun x y => y ≤ x) (zb_Po_takeOut_54 Q) (zb_Po_takeOut_20 Q K12))))
def zl_Po_takeOut_12 (Q : zs_Q) : zs_P := zt_ex (zb_Po_takeOut_12 Q)
def zb_Po_takeOut_0 (Q : zs_Q) : zs_P := zt_ald 0 (zt_dup (zt_gtI 2 2 (zt_psh 1 (zt_bin (fun x y => x - y) (zt_ptI 2 2 (zt_ild 1 (zt_ist 2 ((zl_Po_takeOut_12 Q)))))))))
def zw_Po_takeOut : zs_W := fun As σ Q => match As with
  | [a0, a1] => zs_c1 [a0, a1] = true ∧ zb_Po_takeOut_0 Q [some a0, some a1, none] [] σ 0 0
  | _ => False
section
variable {p : Program} {l : Launch} {e : Env} {s : State} {m : MethodId} {args : Array Value} {below : List Frame} {meth : Method} {c : Code} {G : zs_G} {Q : zs_Q}
theorem zr_Po_takeOut_54 (B : zs_B p s m args meth c G bb_Po_takeOut 3 yy_Po_takeOut none) : zA_Po_takeOut p l e s m args below meth c G Q 54 (zb_Po_takeOut_54 Q) := by
  unfold zb_Po_takeOut_54
  exact za_vrt B.1 0 0 B.2.1 B.2.2.1 dd_Po_takeOut_54
theorem zr_Po_takeOut_20 (B : zs_B p s m args meth c G bb_Po_takeOut 3 yy_Po_takeOut none) {K12 : zs_P} (h12 : zA_Po_takeOut p l e s m args below meth c G Q 12 K12) : zA_Po_takeOut p l e s m args below meth c G Q 20 (zb_Po_takeOut_20 Q K12) := by
  unfold zb_Po_takeOut_20
  refine za_ald_n B.1 0 dd_Po_takeOut_20 rfl ?_
  refine za_gtR B.1 2 0 zi_2 rfl (by decide) (by decide) rfl zW_27 rfl dd_Po_takeOut_21 ?_
  refine za_ild_n B.1 2 dd_Po_takeOut_24 rfl ?_
  refine za_ald_n B.1 0 dd_Po_takeOut_25 rfl ?_
  refine za_gtR B.1 2 0 zi_2 rfl (by decide) (by decide) rfl zW_27 rfl dd_Po_takeOut_26 ?_
  refine za_ild_n B.1 2 dd_Po_takeOut_29 rfl ?_
  refine za_ico B.1 1 dd_Po_takeOut_30 (by decide) ?_
  refine za_add B.1 dd_Po_takeOut_31 ?_
  refine za_iald B.1 dd_Po_takeOut_32 ?_
  refine za_iast B.1 dd_Po_takeOut_33 ?_
  refine za_ald_n B.1 0 dd_Po_takeOut_34 rfl ?_
  refine za_gtR B.1 2 1 zi_2 rfl (by decide) (by decide) rfl zW_28 rfl dd_Po_takeOut_35 ?_
  refine za_ild_n B.1 2 dd_Po_takeOut_38 rfl ?_
  refine za_ald_n B.1 0 dd_Po_takeOut_39 rfl ?_
  refine za_gtR B.1 2 1 zi_2 rfl (by decide) (by decide) rfl zW_28 rfl dd_Po_takeOut_40 ?_
  refine za_ild_n B.1 2 dd_Po_takeOut_43 rfl ?_
  refine za_ico B.1 1 dd_Po_takeOut_44 (by decide) ?_
  refine za_add B.1 dd_Po_takeOut_45 ?_
  refine za_iald B.1 dd_Po_takeOut_46 ?_
  refine za_iast B.1 dd_Po_takeOut_47 ?_
  refine za_inc B.1 1 dd_Po_takeOut_48 (by decide) (by decide) ?_
  refine za_goto B.1 12 dd_Po_takeOut_51 (by decide) ?_
  exact h12
theorem zr_Po_takeOut_12 (B : zs_B p s m args meth c G bb_Po_takeOut 3 yy_Po_takeOut none) {K12 : zs_P} (h12 : zA_Po_takeOut p l e s m args below meth c G Q 12 K12) : zA_Po_takeOut p l e s m args below meth c G Q 12 (zb_Po_takeOut_12 Q K12) := by
  unfold zb_Po_takeOut_12
  refine za_ild_n B.1 2 dd_Po_takeOut_12 rfl ?_
  refine za_ald_n B.1 0 dd_Po_takeOut_13 rfl ?_
  refine za_gtI B.1 2 2 zi_2 rfl (by decide) (by decide) rfl zW_29 rfl dd_Po_takeOut_14 ?_
  exact za_cmp_ge B.1 54 dd_Po_takeOut_17 (by decide) (zr_Po_takeOut_54 B) (zr_Po_takeOut_20 B h12)
theorem zq_Po_takeOut_12 (B : zs_B p s m args meth c G bb_Po_takeOut 3 yy_Po_takeOut none) : zA_Po_takeOut p l e s m args below meth c G Q 12 (zl_Po_takeOut_12 Q) := za_lop (fun K hK => zr_Po_takeOut_12 B hK)
theorem zr_Po_takeOut_0 (B : zs_B p s m args meth c G bb_Po_takeOut 3 yy_Po_takeOut none) : zA_Po_takeOut p l e s m args below meth c G Q 0 (zb_Po_takeOut_0 Q) := by
  unfold zb_Po_takeOut_0
  refine za_ald_n B.1 0 dd_Po_takeOut_0 rfl ?_
  refine za_dup B.1 dd_Po_takeOut_1 ?_
  refine za_gtI B.1 2 2 zi_2 rfl (by decide) (by decide) rfl zW_29 rfl dd_Po_takeOut_2 ?_
  refine za_ico B.1 1 dd_Po_takeOut_5 (by decide) ?_
  refine za_sub B.1 dd_Po_takeOut_6 ?_
  refine za_ptI B.1 2 2 zi_2 zy_Po zy_Po_ok zn_Po rfl (by decide) (by decide) rfl zW_29 rfl rfl rfl dd_Po_takeOut_7 ?_
  refine za_ild_n B.1 1 dd_Po_takeOut_10 rfl ?_
  refine za_ist_n B.1 2 dd_Po_takeOut_11 rfl (by decide) ?_
  exact (zq_Po_takeOut_12 B)
end
theorem zm_Po_takeOut (l : Launch) (G : zs_G) (As : List Value) (σ : zs_S) (Q : zs_Q) (h : zw_Po_takeOut As σ Q) : zs_Met l yy_Po_takeOut (Cond.code yy_Po_takeOut bb_Po_takeOut 3 none :: zw_all) zk_Po_takeOut G As σ Q 0 0 := by
  unfold zw_Po_takeOut at h
  split at h
  · exact zs_enter (by decide +kernel) h.1 (Nat.le_of_ble_eq_true rfl) h.2 (fun p e s m args below meth c B => zr_Po_takeOut_0 B)
  · exact h.elim
-- SequencedBatches$Code.kind(I)I
theorem dd_Co_kind_0 : decode bb_Co_kind 0 = .ok (.iload_n 0, 1) := by decide +kernel
theorem dd_Co_kind_1 : decode bb_Co_kind 1 = .ok (.ldc 7, 2) := by decide +kernel
theorem dd_Co_kind_3 : decode bb_Co_kind 3 = .ok (.idiv, 1) := by decide +kernel
theorem dd_Co_kind_4 : decode bb_Co_kind 4 = .ok (.ireturn, 1) := by decide +kernel
def zk_Co_kind : Room := { frames := 0, cells := 0, slots := 0, locals := 0 }
abbrev zA_Co_kind (p : Program) (l : Launch) (e : Env) (s : State) (m : MethodId) (args : Array Value) (below : List Frame) (meth : Method) (c : Code) (G : zs_G) (Q : zs_Q) (pc : Nat) (P : zs_P) : Prop := zs_At p l e zk_Co_kind s m args below meth c (MQ below (zs_Qc G Q) args s 0 0 (fun q => zg_z G ≤ q)) G 1 pc P
def zb_Co_kind_0 (Q : zs_Q) : zs_P := zt_ild 0 (zt_psh 1000000 (zt_div (fun x y => x / y) (zt_irt 0 0 Q)))
def zw_Co_kind : zs_W := fun As σ Q => match As with
  | [a0] => zs_c1 [a0] = true ∧ zb_Co_kind_0 Q [some a0] [] σ 0 0
  | _ => False
section
variable {p : Program} {l : Launch} {e : Env} {s : State} {m : MethodId} {args : Array Value} {below : List Frame} {meth : Method} {c : Code} {G : zs_G} {Q : zs_Q}
theorem zr_Co_kind_0 (B : zs_B p s m args meth c G bb_Co_kind 1 yy_Co_kind (some .int)) : zA_Co_kind p l e s m args below meth c G Q 0 (zb_Co_kind_0 Q) := by
  unfold zb_Co_kind_0
  refine za_ild_n B.1 0 dd_Co_kind_0 rfl ?_
  refine za_ldc B.1 1000000 dd_Co_kind_1 zW_175 ?_
  refine za_dvd B.1 dd_Co_kind_3 ?_
  exact za_irt B.1 0 0 B.2.1 B.2.2.1 dd_Co_kind_4
end
theorem zm_Co_kind (l : Launch) (G : zs_G) (As : List Value) (σ : zs_S) (Q : zs_Q) (h : zw_Co_kind As σ Q) : zs_Met l yy_Co_kind (Cond.code yy_Co_kind bb_Co_kind 1 (some .int) :: zw_all) zk_Co_kind G As σ Q 0 0 := by
  unfold zw_Co_kind at h
  split at h
  · exact zs_enter (by decide +kernel) h.1 (Nat.le_of_ble_eq_true rfl) h.2 (fun p e s m args below meth c B => zr_Co_kind_0 B)
  · exact h.elim
-- SequencedBatches$Code.owner(I)I
theorem dd_Co_owner_0 : decode bb_Co_owner 0 = .ok (.iload_n 0, 1) := by decide +kernel
theorem dd_Co_owner_1 : decode bb_Co_owner 1 = .ok (.ldc 8, 2) := by decide +kernel
theorem dd_Co_owner_3 : decode bb_Co_owner 3 = .ok (.idiv, 1) := by decide +kernel
theorem dd_Co_owner_4 : decode bb_Co_owner 4 = .ok (.bipush 10, 2) := by decide +kernel
theorem dd_Co_owner_6 : decode bb_Co_owner 6 = .ok (.irem, 1) := by decide +kernel
theorem dd_Co_owner_7 : decode bb_Co_owner 7 = .ok (.ireturn, 1) := by decide +kernel
def zk_Co_owner : Room := { frames := 0, cells := 0, slots := 0, locals := 0 }
abbrev zA_Co_owner (p : Program) (l : Launch) (e : Env) (s : State) (m : MethodId) (args : Array Value) (below : List Frame) (meth : Method) (c : Code) (G : zs_G) (Q : zs_Q) (pc : Nat) (P : zs_P) : Prop := zs_At p l e zk_Co_owner s m args below meth c (MQ below (zs_Qc G Q) args s 0 0 (fun q => zg_z G ≤ q)) G 1 pc P
def zb_Co_owner_0 (Q : zs_Q) : zs_P := zt_ild 0 (zt_psh 100000 (zt_div (fun x y => x / y) (zt_psh 10 (zt_div (fun x y => x - x / y * y) (zt_irt 0 0 Q)))))
def zw_Co_owner : zs_W := fun As σ Q => match As with
  | [a0] => zs_c1 [a0] = true ∧ zb_Co_owner_0 Q [some a0] [] σ 0 0
  | _ => False
section
variable {p : Program} {l : Launch} {e : Env} {s : State} {m : MethodId} {args : Array Value} {below : List Frame} {meth : Method} {c : Code} {G : zs_G} {Q : zs_Q}
theorem zr_Co_owner_0 (B : zs_B p s m args meth c G bb_Co_owner 1 yy_Co_owner (some .int)) : zA_Co_owner p l e s m args below meth c G Q 0 (zb_Co_owner_0 Q) := by
  unfold zb_Co_owner_0
  refine za_ild_n B.1 0 dd_Co_owner_0 rfl ?_
  refine za_ldc B.1 100000 dd_Co_owner_1 zW_176 ?_
  refine za_dvd B.1 dd_Co_owner_3 ?_
  refine za_bip B.1 10 dd_Co_owner_4 (by decide) ?_
  refine za_rem B.1 dd_Co_owner_6 ?_
  exact za_irt B.1 0 0 B.2.1 B.2.2.1 dd_Co_owner_7
end
theorem zm_Co_owner (l : Launch) (G : zs_G) (As : List Value) (σ : zs_S) (Q : zs_Q) (h : zw_Co_owner As σ Q) : zs_Met l yy_Co_owner (Cond.code yy_Co_owner bb_Co_owner 1 (some .int) :: zw_all) zk_Co_owner G As σ Q 0 0 := by
  unfold zw_Co_owner at h
  split at h
  · exact zs_enter (by decide +kernel) h.1 (Nat.le_of_ble_eq_true rfl) h.2 (fun p e s m args below meth c B => zr_Co_owner_0 B)
  · exact h.elim
-- SequencedBatches$Code.item(I)I
theorem dd_Co_item_0 : decode bb_Co_item 0 = .ok (.iload_n 0, 1) := by decide +kernel
theorem dd_Co_item_1 : decode bb_Co_item 1 = .ok (.sipush 1000, 3) := by decide +kernel
theorem dd_Co_item_4 : decode bb_Co_item 4 = .ok (.idiv, 1) := by decide +kernel
theorem dd_Co_item_5 : decode bb_Co_item 5 = .ok (.bipush 100, 2) := by decide +kernel
theorem dd_Co_item_7 : decode bb_Co_item 7 = .ok (.irem, 1) := by decide +kernel
theorem dd_Co_item_8 : decode bb_Co_item 8 = .ok (.ireturn, 1) := by decide +kernel
def zk_Co_item : Room := { frames := 0, cells := 0, slots := 0, locals := 0 }
abbrev zA_Co_item (p : Program) (l : Launch) (e : Env) (s : State) (m : MethodId) (args : Array Value) (below : List Frame) (meth : Method) (c : Code) (G : zs_G) (Q : zs_Q) (pc : Nat) (P : zs_P) : Prop := zs_At p l e zk_Co_item s m args below meth c (MQ below (zs_Qc G Q) args s 0 0 (fun q => zg_z G ≤ q)) G 1 pc P
def zb_Co_item_0 (Q : zs_Q) : zs_P := zt_ild 0 (zt_psh 1000 (zt_div (fun x y => x / y) (zt_psh 100 (zt_div (fun x y => x - x / y * y) (zt_irt 0 0 Q)))))
def zw_Co_item : zs_W := fun As σ Q => match As with
  | [a0] => zs_c1 [a0] = true ∧ zb_Co_item_0 Q [some a0] [] σ 0 0
  | _ => False
section
variable {p : Program} {l : Launch} {e : Env} {s : State} {m : MethodId} {args : Array Value} {below : List Frame} {meth : Method} {c : Code} {G : zs_G} {Q : zs_Q}
theorem zr_Co_item_0 (B : zs_B p s m args meth c G bb_Co_item 1 yy_Co_item (some .int)) : zA_Co_item p l e s m args below meth c G Q 0 (zb_Co_item_0 Q) := by
  unfold zb_Co_item_0
  refine za_ild_n B.1 0 dd_Co_item_0 rfl ?_
  refine za_sip B.1 1000 dd_Co_item_1 (by decide) ?_
  refine za_dvd B.1 dd_Co_item_4 ?_
  refine za_bip B.1 100 dd_Co_item_5 (by decide) ?_
  refine za_rem B.1 dd_Co_item_7 ?_
  exact za_irt B.1 0 0 B.2.1 B.2.2.1 dd_Co_item_8
end
theorem zm_Co_item (l : Launch) (G : zs_G) (As : List Value) (σ : zs_S) (Q : zs_Q) (h : zw_Co_item As σ Q) : zs_Met l yy_Co_item (Cond.code yy_Co_item bb_Co_item 1 (some .int) :: zw_all) zk_Co_item G As σ Q 0 0 := by
  unfold zw_Co_item at h
  split at h
  · exact zs_enter (by decide +kernel) h.1 (Nat.le_of_ble_eq_true rfl) h.2 (fun p e s m args below meth c B => zr_Co_item_0 B)
  · exact h.elim
-- SequencedBatches$Code.node(I)I
theorem dd_Co_node_0 : decode bb_Co_node 0 = .ok (.iload_n 0, 1) := by decide +kernel
theorem dd_Co_node_1 : decode bb_Co_node 1 = .ok (.bipush 10, 2) := by decide +kernel
theorem dd_Co_node_3 : decode bb_Co_node 3 = .ok (.idiv, 1) := by decide +kernel
theorem dd_Co_node_4 : decode bb_Co_node 4 = .ok (.bipush 100, 2) := by decide +kernel
theorem dd_Co_node_6 : decode bb_Co_node 6 = .ok (.irem, 1) := by decide +kernel
theorem dd_Co_node_7 : decode bb_Co_node 7 = .ok (.ireturn, 1) := by decide +kernel
def zk_Co_node : Room := { frames := 0, cells := 0, slots := 0, locals := 0 }
abbrev zA_Co_node (p : Program) (l : Launch) (e : Env) (s : State) (m : MethodId) (args : Array Value) (below : List Frame) (meth : Method) (c : Code) (G : zs_G) (Q : zs_Q) (pc : Nat) (P : zs_P) : Prop := zs_At p l e zk_Co_node s m args below meth c (MQ below (zs_Qc G Q) args s 0 0 (fun q => zg_z G ≤ q)) G 1 pc P
def zb_Co_node_0 (Q : zs_Q) : zs_P := zt_ild 0 (zt_psh 10 (zt_div (fun x y => x / y) (zt_psh 100 (zt_div (fun x y => x - x / y * y) (zt_irt 0 0 Q)))))
def zw_Co_node : zs_W := fun As σ Q => match As with
  | [a0] => zs_c1 [a0] = true ∧ zb_Co_node_0 Q [some a0] [] σ 0 0
  | _ => False
section
variable {p : Program} {l : Launch} {e : Env} {s : State} {m : MethodId} {args : Array Value} {below : List Frame} {meth : Method} {c : Code} {G : zs_G} {Q : zs_Q}
theorem zr_Co_node_0 (B : zs_B p s m args meth c G bb_Co_node 1 yy_Co_node (some .int)) : zA_Co_node p l e s m args below meth c G Q 0 (zb_Co_node_0 Q) := by
  unfold zb_Co_node_0
  refine za_ild_n B.1 0 dd_Co_node_0 rfl ?_
  refine za_bip B.1 10 dd_Co_node_1 (by decide) ?_
  refine za_dvd B.1 dd_Co_node_3 ?_
  refine za_bip B.1 100 dd_Co_node_4 (by decide) ?_
  refine za_rem B.1 dd_Co_node_6 ?_
  exact za_irt B.1 0 0 B.2.1 B.2.2.1 dd_Co_node_7
end
theorem zm_Co_node (l : Launch) (G : zs_G) (As : List Value) (σ : zs_S) (Q : zs_Q) (h : zw_Co_node As σ Q) : zs_Met l yy_Co_node (Cond.code yy_Co_node bb_Co_node 1 (some .int) :: zw_all) zk_Co_node G As σ Q 0 0 := by
  unfold zw_Co_node at h
  split at h
  · exact zs_enter (by decide +kernel) h.1 (Nat.le_of_ble_eq_true rfl) h.2 (fun p e s m args below meth c B => zr_Co_node_0 B)
  · exact h.elim
-- SequencedBatches.placeInLog(II)I
theorem dd_SB_placeInLog_0 : decode bb_SB_placeInLog 0 = .ok (.iconst 2, 1) := by decide +kernel
theorem dd_SB_placeInLog_1 : decode bb_SB_placeInLog 1 = .ok (.iload_n 1, 1) := by decide +kernel
theorem dd_SB_placeInLog_2 : decode bb_SB_placeInLog 2 = .ok (.imul, 1) := by decide +kernel
theorem dd_SB_placeInLog_3 : decode bb_SB_placeInLog 3 = .ok (.iload_n 0, 1) := by decide +kernel
theorem dd_SB_placeInLog_4 : decode bb_SB_placeInLog 4 = .ok (.iadd, 1) := by decide +kernel
theorem dd_SB_placeInLog_5 : decode bb_SB_placeInLog 5 = .ok (.ireturn, 1) := by decide +kernel
def zk_SB_placeInLog : Room := { frames := 0, cells := 0, slots := 0, locals := 0 }
abbrev zA_SB_placeInLog (p : Program) (l : Launch) (e : Env) (s : State) (m : MethodId) (args : Array Value) (below : List Frame) (meth : Method) (c : Code) (G : zs_G) (Q : zs_Q) (pc : Nat) (P : zs_P) : Prop := zs_At p l e zk_SB_placeInLog s m args below meth c (MQ below (zs_Qc G Q) args s 0 0 (fun q => zg_z G ≤ q)) G 2 pc P
def zb_SB_placeInLog_0 (Q : zs_Q) : zs_P := zt_psh 2 (zt_ild 1 (zt_bin (fun x y => x * y) (zt_ild 0 (zt_bin (fun x y => x + y) (zt_irt 0 0 Q)))))
def zw_SB_placeInLog : zs_W := fun As σ Q => match As with
  | [a0, a1] => zs_c1 [a0, a1] = true ∧ zb_SB_placeInLog_0 Q [some a0, some a1] [] σ 0 0
  | _ => False
section
variable {p : Program} {l : Launch} {e : Env} {s : State} {m : MethodId} {args : Array Value} {below : List Frame} {meth : Method} {c : Code} {G : zs_G} {Q : zs_Q}
theorem zr_SB_placeInLog_0 (B : zs_B p s m args meth c G bb_SB_placeInLog 2 yy_SB_placeInLog (some .int)) : zA_SB_placeInLog p l e s m args below meth c G Q 0 (zb_SB_placeInLog_0 Q) := by
  unfold zb_SB_placeInLog_0
  refine za_ico B.1 2 dd_SB_placeInLog_0 (by decide) ?_
  refine za_ild_n B.1 1 dd_SB_placeInLog_1 rfl ?_
  refine za_mul B.1 dd_SB_placeInLog_2 ?_
  refine za_ild_n B.1 0 dd_SB_placeInLog_3 rfl ?_
  refine za_add B.1 dd_SB_placeInLog_4 ?_
  exact za_irt B.1 0 0 B.2.1 B.2.2.1 dd_SB_placeInLog_5
end
theorem zm_SB_placeInLog (l : Launch) (G : zs_G) (As : List Value) (σ : zs_S) (Q : zs_Q) (h : zw_SB_placeInLog As σ Q) : zs_Met l yy_SB_placeInLog (Cond.code yy_SB_placeInLog bb_SB_placeInLog 2 (some .int) :: zw_all) zk_SB_placeInLog G As σ Q 0 0 := by
  unfold zw_SB_placeInLog at h
  split at h
  · exact zs_enter (by decide +kernel) h.1 (Nat.le_of_ble_eq_true rfl) h.2 (fun p e s m args below meth c B => zr_SB_placeInLog_0 B)
  · exact h.elim
-- SequencedBatches$Code.last(I)I
theorem dd_Co_last_0 : decode bb_Co_last 0 = .ok (.iload_n 0, 1) := by decide +kernel
theorem dd_Co_last_1 : decode bb_Co_last 1 = .ok (.bipush 10, 2) := by decide +kernel
theorem dd_Co_last_3 : decode bb_Co_last 3 = .ok (.irem, 1) := by decide +kernel
theorem dd_Co_last_4 : decode bb_Co_last 4 = .ok (.ireturn, 1) := by decide +kernel
def zk_Co_last : Room := { frames := 0, cells := 0, slots := 0, locals := 0 }
abbrev zA_Co_last (p : Program) (l : Launch) (e : Env) (s : State) (m : MethodId) (args : Array Value) (below : List Frame) (meth : Method) (c : Code) (G : zs_G) (Q : zs_Q) (pc : Nat) (P : zs_P) : Prop := zs_At p l e zk_Co_last s m args below meth c (MQ below (zs_Qc G Q) args s 0 0 (fun q => zg_z G ≤ q)) G 1 pc P
def zb_Co_last_0 (Q : zs_Q) : zs_P := zt_ild 0 (zt_psh 10 (zt_div (fun x y => x - x / y * y) (zt_irt 0 0 Q)))
def zw_Co_last : zs_W := fun As σ Q => match As with
  | [a0] => zs_c1 [a0] = true ∧ zb_Co_last_0 Q [some a0] [] σ 0 0
  | _ => False
section
variable {p : Program} {l : Launch} {e : Env} {s : State} {m : MethodId} {args : Array Value} {below : List Frame} {meth : Method} {c : Code} {G : zs_G} {Q : zs_Q}
theorem zr_Co_last_0 (B : zs_B p s m args meth c G bb_Co_last 1 yy_Co_last (some .int)) : zA_Co_last p l e s m args below meth c G Q 0 (zb_Co_last_0 Q) := by
  unfold zb_Co_last_0
  refine za_ild_n B.1 0 dd_Co_last_0 rfl ?_
  refine za_bip B.1 10 dd_Co_last_1 (by decide) ?_
  refine za_rem B.1 dd_Co_last_3 ?_
  exact za_irt B.1 0 0 B.2.1 B.2.2.1 dd_Co_last_4
end
theorem zm_Co_last (l : Launch) (G : zs_G) (As : List Value) (σ : zs_S) (Q : zs_Q) (h : zw_Co_last As σ Q) : zs_Met l yy_Co_last (Cond.code yy_Co_last bb_Co_last 1 (some .int) :: zw_all) zk_Co_last G As σ Q 0 0 := by
  unfold zw_Co_last at h
  split at h
  · exact zs_enter (by decide +kernel) h.1 (Nat.le_of_ble_eq_true rfl) h.2 (fun p e s m args below meth c B => zr_Co_last_0 B)
  · exact h.elim
-- SequencedBatches.storeArrives(II)V
theorem dd_SB_storeArrives_0 : decode bb_SB_storeArrives 0 = .ok (.iload_n 1, 1) := by decide +kernel
theorem dd_SB_storeArrives_1 : decode bb_SB_storeArrives 1 = .ok (.invokestatic 248, 3) := by decide +kernel
theorem dd_SB_storeArrives_4 : decode bb_SB_storeArrives 4 = .ok (.istore_n 3, 1) := by decide +kernel
theorem dd_SB_storeArrives_5 : decode bb_SB_storeArrives 5 = .ok (.iload_n 1, 1) := by decide +kernel
theorem dd_SB_storeArrives_6 : decode bb_SB_storeArrives 6 = .ok (.invokestatic 251, 3) := by decide +kernel
theorem dd_SB_storeArrives_9 : decode bb_SB_storeArrives 9 = .ok (.istore 4, 2) := by decide +kernel
theorem dd_SB_storeArrives_11 : decode bb_SB_storeArrives 11 = .ok (.iload_n 1, 1) := by decide +kernel
theorem dd_SB_storeArrives_12 : decode bb_SB_storeArrives 12 = .ok (.invokestatic 254, 3) := by decide +kernel
theorem dd_SB_storeArrives_15 : decode bb_SB_storeArrives 15 = .ok (.istore 5, 2) := by decide +kernel
theorem dd_SB_storeArrives_17 : decode bb_SB_storeArrives 17 = .ok (.aload_n 0, 1) := by decide +kernel
theorem dd_SB_storeArrives_18 : decode bb_SB_storeArrives 18 = .ok (.getfield 9, 3) := by decide +kernel
theorem dd_SB_storeArrives_21 : decode bb_SB_storeArrives 21 = .ok (.iload 5, 2) := by decide +kernel
theorem dd_SB_storeArrives_23 : decode bb_SB_storeArrives 23 = .ok (.baload, 1) := by decide +kernel
theorem dd_SB_storeArrives_24 : decode bb_SB_storeArrives 24 = .ok (.ifCond .ne 19, 3) := by decide +kernel
theorem dd_SB_storeArrives_27 : decode bb_SB_storeArrives 27 = .ok (.aload_n 0, 1) := by decide +kernel
theorem dd_SB_storeArrives_28 : decode bb_SB_storeArrives 28 = .ok (.getfield 32, 3) := by decide +kernel
theorem dd_SB_storeArrives_31 : decode bb_SB_storeArrives 31 = .ok (.iload 5, 2) := by decide +kernel
theorem dd_SB_storeArrives_33 : decode bb_SB_storeArrives 33 = .ok (.aaload, 1) := by decide +kernel
theorem dd_SB_storeArrives_34 : decode bb_SB_storeArrives 34 = .ok (.getfield 257, 3) := by decide +kernel
theorem dd_SB_storeArrives_37 : decode bb_SB_storeArrives 37 = .ok (.iload_n 3, 1) := by decide +kernel
theorem dd_SB_storeArrives_38 : decode bb_SB_storeArrives 38 = .ok (.iaload, 1) := by decide +kernel
theorem dd_SB_storeArrives_39 : decode bb_SB_storeArrives 39 = .ok (.iload_n 2, 1) := by decide +kernel
theorem dd_SB_storeArrives_40 : decode bb_SB_storeArrives 40 = .ok (.if_icmp .le 4, 3) := by decide +kernel
theorem dd_SB_storeArrives_43 : decode bb_SB_storeArrives 43 = .ok (.return_, 1) := by decide +kernel
theorem dd_SB_storeArrives_44 : decode bb_SB_storeArrives 44 = .ok (.aload_n 0, 1) := by decide +kernel
theorem dd_SB_storeArrives_45 : decode bb_SB_storeArrives 45 = .ok (.getfield 32, 3) := by decide +kernel
theorem dd_SB_storeArrives_48 : decode bb_SB_storeArrives 48 = .ok (.iload 5, 2) := by decide +kernel
theorem dd_SB_storeArrives_50 : decode bb_SB_storeArrives 50 = .ok (.aaload, 1) := by decide +kernel
theorem dd_SB_storeArrives_51 : decode bb_SB_storeArrives 51 = .ok (.getfield 257, 3) := by decide +kernel
theorem dd_SB_storeArrives_54 : decode bb_SB_storeArrives 54 = .ok (.iload_n 3, 1) := by decide +kernel
theorem dd_SB_storeArrives_55 : decode bb_SB_storeArrives 55 = .ok (.iload_n 2, 1) := by decide +kernel
theorem dd_SB_storeArrives_56 : decode bb_SB_storeArrives 56 = .ok (.iastore, 1) := by decide +kernel
theorem dd_SB_storeArrives_57 : decode bb_SB_storeArrives 57 = .ok (.aload_n 0, 1) := by decide +kernel
theorem dd_SB_storeArrives_58 : decode bb_SB_storeArrives 58 = .ok (.getfield 32, 3) := by decide +kernel
theorem dd_SB_storeArrives_61 : decode bb_SB_storeArrives 61 = .ok (.iload 5, 2) := by decide +kernel
theorem dd_SB_storeArrives_63 : decode bb_SB_storeArrives 63 = .ok (.aaload, 1) := by decide +kernel
theorem dd_SB_storeArrives_64 : decode bb_SB_storeArrives 64 = .ok (.getfield 213, 3) := by decide +kernel
theorem dd_SB_storeArrives_67 : decode bb_SB_storeArrives 67 = .ok (.iload_n 3, 1) := by decide +kernel
theorem dd_SB_storeArrives_68 : decode bb_SB_storeArrives 68 = .ok (.iload 4, 2) := by decide +kernel
theorem dd_SB_storeArrives_70 : decode bb_SB_storeArrives 70 = .ok (.invokestatic 216, 3) := by decide +kernel
theorem dd_SB_storeArrives_73 : decode bb_SB_storeArrives 73 = .ok (.iconst 2, 1) := by decide +kernel
theorem dd_SB_storeArrives_74 : decode bb_SB_storeArrives 74 = .ok (.iload_n 2, 1) := by decide +kernel
theorem dd_SB_storeArrives_75 : decode bb_SB_storeArrives 75 = .ok (.imul, 1) := by decide +kernel
theorem dd_SB_storeArrives_76 : decode bb_SB_storeArrives 76 = .ok (.iload_n 1, 1) := by decide +kernel
theorem dd_SB_storeArrives_77 : decode bb_SB_storeArrives 77 = .ok (.invokestatic 260, 3) := by decide +kernel
theorem dd_SB_storeArrives_80 : decode bb_SB_storeArrives 80 = .ok (.iadd, 1) := by decide +kernel
theorem dd_SB_storeArrives_81 : decode bb_SB_storeArrives 81 = .ok (.iastore, 1) := by decide +kernel
theorem dd_SB_storeArrives_82 : decode bb_SB_storeArrives 82 = .ok (.aload_n 0, 1) := by decide +kernel
theorem dd_SB_storeArrives_83 : decode bb_SB_storeArrives 83 = .ok (.getfield 26, 3) := by decide +kernel
theorem dd_SB_storeArrives_86 : decode bb_SB_storeArrives 86 = .ok (.iconst 2, 1) := by decide +kernel
theorem dd_SB_storeArrives_87 : decode bb_SB_storeArrives 87 = .ok (.iload_n 3, 1) := by decide +kernel
theorem dd_SB_storeArrives_88 : decode bb_SB_storeArrives 88 = .ok (.iload 4, 2) := by decide +kernel
theorem dd_SB_storeArrives_90 : decode bb_SB_storeArrives 90 = .ok (.iload 5, 2) := by decide +kernel
theorem dd_SB_storeArrives_92 : decode bb_SB_storeArrives 92 = .ok (.iconst 0, 1) := by decide +kernel
theorem dd_SB_storeArrives_93 : decode bb_SB_storeArrives 93 = .ok (.invokestatic 229, 3) := by decide +kernel
theorem dd_SB_storeArrives_96 : decode bb_SB_storeArrives 96 = .ok (.iload_n 2, 1) := by decide +kernel
theorem dd_SB_storeArrives_97 : decode bb_SB_storeArrives 97 = .ok (.invokevirtual 236, 3) := by decide +kernel
theorem dd_SB_storeArrives_100 : decode bb_SB_storeArrives 100 = .ok (.return_, 1) := by decide +kernel
def zk_SB_storeArrives : Room := { frames := 1, cells := 0, slots := 0, locals := 24 }
abbrev zA_SB_storeArrives (p : Program) (l : Launch) (e : Env) (s : State) (m : MethodId) (args : Array Value) (below : List Frame) (meth : Method) (c : Code) (G : zs_G) (Q : zs_Q) (pc : Nat) (P : zs_P) : Prop := zs_At p l e zk_SB_storeArrives s m args below meth c (MQ below (zs_Qc G Q) args s 0 0 (fun q => zg_z G ≤ q)) G 6 pc P
def zb_SB_storeArrives_43 (Q : zs_Q) : zs_P := zt_vrt 0 0 Q
def zb_SB_storeArrives_44 (Q : zs_Q) : zs_P := zt_ald 0 (zt_gtR 7 5 (zt_ild 5 (zt_rld (110 + 0) (zt_gtR 0 0 (zt_ild 3 (zt_ild 2 (zt_ias (zt_ald 0 (zt_gtR 7 5 (zt_ild 5 (zt_rld (110 + 0) (zt_gtR 0 1 (zt_ild 3 (zt_ild 4 (zt_cal zw_SB_placeInLog 2 0 0 0 0 (zt_psh 2 (zt_ild 2 (zt_bin (fun x y => x * y) (zt_ild 1 (zt_cal zw_Co_last 1 0 0 0 0 (zt_bin (fun x y => x + y) (zt_ias (zt_ald 0 (zt_gtR 7 4 (zt_psh 2 (zt_ild 3 (zt_ild 4 (zt_ild 5 (zt_psh 0 (zt_cal zw_Co_of 5 0 0 0 0 (zt_ild 2 (zt_cav 2 zw_Po_send (2 + 1) 0 0 0 0 (zt_vrt 0 0 Q)))))))))))))))))))))))))))))))))
def zb_SB_storeArrives_27 (Q : zs_Q) : zs_P := zt_ald 0 (zt_gtR 7 5 (zt_ild 5 (zt_rld (110 + 0) (zt_gtR 0 0 (zt_ild 3 (zt_xld 100 (zt_ild 2 (zt_cmp (fun x y => x ≤ y) (zb_SB_storeArrives_44 Q) (zb_SB_storeArrives_43 Q)))))))))
def zb_SB_storeArrives_0 (Q : zs_Q) : zs_P := zt_ild 1 (zt_cal zw_Co_owner 1 0 0 0 0 (zt_ist 3 (zt_ild 1 (zt_cal zw_Co_item 1 0 0 0 0 (zt_ist 4 (zt_ild 1 (zt_cal zw_Co_node 1 0 0 0 0 (zt_ist 5 (zt_ald 0 (zt_gtR 7 1 (zt_ild 5 (zt_xld 101 (zt_if (fun x => x = 0) (zb_SB_storeArrives_27 Q) (zb_SB_storeArrives_43 Q))))))))))))))
def zw_SB_storeArrives : zs_W := fun As σ Q => match As with
  | [a0, a1, a2] => zs_c1 [a0, a1, a2] = true ∧ zb_SB_storeArrives_0 Q [some a0, some a1, some a2, none, none, none] [] σ 0 0
  | _ => False
section
variable {p : Program} {l : Launch} {e : Env} {s : State} {m : MethodId} {args : Array Value} {below : List Frame} {meth : Method} {c : Code} {G : zs_G} {Q : zs_Q}
theorem zr_SB_storeArrives_43 (B : zs_B p s m args meth c G bb_SB_storeArrives 6 yy_SB_storeArrives none) : zA_SB_storeArrives p l e s m args below meth c G Q 43 (zb_SB_storeArrives_43 Q) := by
  unfold zb_SB_storeArrives_43
  exact za_vrt B.1 0 0 B.2.1 B.2.2.1 dd_SB_storeArrives_43
theorem zr_SB_storeArrives_44 (B : zs_B p s m args meth c G bb_SB_storeArrives 6 yy_SB_storeArrives none) : zA_SB_storeArrives p l e s m args below meth c G Q 44 (zb_SB_storeArrives_44 Q) := by
  unfold zb_SB_storeArrives_44
  refine za_ald_n B.1 0 dd_SB_storeArrives_44 rfl ?_
  refine za_gtR B.1 7 5 zi_7 rfl (by decide) (by decide) rfl zW_93 rfl dd_SB_storeArrives_45 ?_
  refine za_ild B.1 dd_SB_storeArrives_48 ?_
  refine za_rld B.1 0 3 rfl dd_SB_storeArrives_50 ?_
  refine za_gtRN (host := "SequencedBatches") B.1 0 0 zi_0 rfl (by decide) (by decide) rfl (by decide +kernel) rfl dd_SB_storeArrives_51 ?_
  refine za_ild_n B.1 3 dd_SB_storeArrives_54 rfl ?_
  refine za_ild_n B.1 2 dd_SB_storeArrives_55 rfl ?_
  refine za_iast B.1 dd_SB_storeArrives_56 ?_
  refine za_ald_n B.1 0 dd_SB_storeArrives_57 rfl ?_
  refine za_gtR B.1 7 5 zi_7 rfl (by decide) (by decide) rfl zW_93 rfl dd_SB_storeArrives_58 ?_
  refine za_ild B.1 dd_SB_storeArrives_61 ?_
  refine za_rld B.1 0 3 rfl dd_SB_storeArrives_63 ?_
  refine za_gtRN (host := "SequencedBatches") B.1 0 1 zi_0 rfl (by decide) (by decide) rfl (by decide +kernel) rfl dd_SB_storeArrives_64 ?_
  refine za_ild_n B.1 3 dd_SB_storeArrives_67 rfl ?_
  refine za_ild B.1 dd_SB_storeArrives_68 ?_
  refine za_cS B.1 2 0 0 0 0 rfl rfl (zm_SB_placeInLog l G) ⟨callB_of 2 B.1.1.2.2.2.2 (zs_good zW_229) rfl rfl rfl (B.1.1.2.2.2.2 _ zW_1) (B.1.1.2.2.2.2 _ zW_227) (by decide +kernel) ⟨by decide, by decide⟩, (B.1.1.2.2.2.2 _ zW_228)⟩ dd_SB_storeArrives_70 ?_
  refine za_ico B.1 2 dd_SB_storeArrives_73 (by decide) ?_
  refine za_ild_n B.1 2 dd_SB_storeArrives_74 rfl ?_
  refine za_mul B.1 dd_SB_storeArrives_75 ?_
  refine za_ild_n B.1 1 dd_SB_storeArrives_76 rfl ?_
  refine za_cS B.1 1 0 0 0 0 rfl rfl (zm_Co_last l G) ⟨callB_of 1 B.1.1.2.2.2.2 (zs_good zW_232) rfl rfl rfl (B.1.1.2.2.2.2 _ zW_11) (B.1.1.2.2.2.2 _ zW_230) (by decide +kernel) ⟨by decide, by decide⟩, (B.1.1.2.2.2.2 _ zW_231)⟩ dd_SB_storeArrives_77 ?_
  refine za_add B.1 dd_SB_storeArrives_80 ?_
  refine za_iast B.1 dd_SB_storeArrives_81 ?_
  refine za_ald_n B.1 0 dd_SB_storeArrives_82 rfl ?_
  refine za_gtR B.1 7 4 zi_7 rfl (by decide) (by decide) rfl zW_92 rfl dd_SB_storeArrives_83 ?_
  refine za_ico B.1 2 dd_SB_storeArrives_86 (by decide) ?_
  refine za_ild_n B.1 3 dd_SB_storeArrives_87 rfl ?_
  refine za_ild B.1 dd_SB_storeArrives_88 ?_
  refine za_ild B.1 dd_SB_storeArrives_90 ?_
  refine za_ico B.1 0 dd_SB_storeArrives_92 (by decide) ?_
  refine za_cS B.1 5 0 0 0 0 rfl rfl (zm_Co_of l G) ⟨callB_of 5 B.1.1.2.2.2.2 (zs_good zW_174) rfl rfl rfl (B.1.1.2.2.2.2 _ zW_11) (B.1.1.2.2.2.2 _ zW_172) (by decide +kernel) ⟨by decide, by decide⟩, (B.1.1.2.2.2.2 _ zW_173)⟩ dd_SB_storeArrives_93 ?_
  refine za_ild_n B.1 2 dd_SB_storeArrives_96 rfl ?_
  refine za_cV B.1 2 2 0 0 0 0 rfl rfl rfl (by decide) (zm_Po_send l G) ⟨callB_of 2 B.1.1.2.2.2.2 (zs_good zW_180) rfl rfl rfl (B.1.1.2.2.2.2 _ zW_2) (B.1.1.2.2.2.2 _ zW_177) (by decide +kernel) ⟨by decide, by decide⟩, (B.1.1.2.2.2.2 _ zW_178), (B.1.1.2.2.2.2 _ zW_179)⟩ dd_SB_storeArrives_97 ?_
  exact za_vrt B.1 0 0 B.2.1 B.2.2.1 dd_SB_storeArrives_100
theorem zr_SB_storeArrives_27 (B : zs_B p s m args meth c G bb_SB_storeArrives 6 yy_SB_storeArrives none) : zA_SB_storeArrives p l e s m args below meth c G Q 27 (zb_SB_storeArrives_27 Q) := by
  unfold zb_SB_storeArrives_27
  refine za_ald_n B.1 0 dd_SB_storeArrives_27 rfl ?_
  refine za_gtR B.1 7 5 zi_7 rfl (by decide) (by decide) rfl zW_93 rfl dd_SB_storeArrives_28 ?_
  refine za_ild B.1 dd_SB_storeArrives_31 ?_
  refine za_rld B.1 0 3 rfl dd_SB_storeArrives_33 ?_
  refine za_gtRN (host := "SequencedBatches") B.1 0 0 zi_0 rfl (by decide) (by decide) rfl (by decide +kernel) rfl dd_SB_storeArrives_34 ?_
  refine za_ild_n B.1 3 dd_SB_storeArrives_37 rfl ?_
  refine za_iald B.1 dd_SB_storeArrives_38 ?_
  refine za_ild_n B.1 2 dd_SB_storeArrives_39 rfl ?_
  exact za_cmp_le B.1 44 dd_SB_storeArrives_40 (by decide) (zr_SB_storeArrives_44 B) (zr_SB_storeArrives_43 B)
theorem zr_SB_storeArrives_0 (B : zs_B p s m args meth c G bb_SB_storeArrives 6 yy_SB_storeArrives none) : zA_SB_storeArrives p l e s m args below meth c G Q 0 (zb_SB_storeArrives_0 Q) := by
  unfold zb_SB_storeArrives_0
  refine za_ild_n B.1 1 dd_SB_storeArrives_0 rfl ?_
  refine za_cS B.1 1 0 0 0 0 rfl rfl (zm_Co_owner l G) ⟨callB_of 1 B.1.1.2.2.2.2 (zs_good zW_220) rfl rfl rfl (B.1.1.2.2.2.2 _ zW_11) (B.1.1.2.2.2.2 _ zW_218) (by decide +kernel) ⟨by decide, by decide⟩, (B.1.1.2.2.2.2 _ zW_219)⟩ dd_SB_storeArrives_1 ?_
  refine za_ist_n B.1 3 dd_SB_storeArrives_4 rfl (by decide) ?_
  refine za_ild_n B.1 1 dd_SB_storeArrives_5 rfl ?_
  refine za_cS B.1 1 0 0 0 0 rfl rfl (zm_Co_item l G) ⟨callB_of 1 B.1.1.2.2.2.2 (zs_good zW_223) rfl rfl rfl (B.1.1.2.2.2.2 _ zW_11) (B.1.1.2.2.2.2 _ zW_221) (by decide +kernel) ⟨by decide, by decide⟩, (B.1.1.2.2.2.2 _ zW_222)⟩ dd_SB_storeArrives_6 ?_
  refine za_ist B.1 dd_SB_storeArrives_9 (by decide) ?_
  refine za_ild_n B.1 1 dd_SB_storeArrives_11 rfl ?_
  refine za_cS B.1 1 0 0 0 0 rfl rfl (zm_Co_node l G) ⟨callB_of 1 B.1.1.2.2.2.2 (zs_good zW_226) rfl rfl rfl (B.1.1.2.2.2.2 _ zW_11) (B.1.1.2.2.2.2 _ zW_224) (by decide +kernel) ⟨by decide, by decide⟩, (B.1.1.2.2.2.2 _ zW_225)⟩ dd_SB_storeArrives_12 ?_
  refine za_ist B.1 dd_SB_storeArrives_15 (by decide) ?_
  refine za_ald_n B.1 0 dd_SB_storeArrives_17 rfl ?_
  refine za_gtR B.1 7 1 zi_7 rfl (by decide) (by decide) rfl zW_89 rfl dd_SB_storeArrives_18 ?_
  refine za_ild B.1 dd_SB_storeArrives_21 ?_
  refine za_zald B.1 dd_SB_storeArrives_23 ?_
  exact za_if_ne B.1 43 dd_SB_storeArrives_24 (by decide) (zr_SB_storeArrives_27 B) (zr_SB_storeArrives_43 B)
end
theorem zm_SB_storeArrives (l : Launch) (G : zs_G) (As : List Value) (σ : zs_S) (Q : zs_Q) (h : zw_SB_storeArrives As σ Q) : zs_Met l yy_SB_storeArrives (Cond.code yy_SB_storeArrives bb_SB_storeArrives 6 none :: zw_all) zk_SB_storeArrives G As σ Q 0 0 := by
  unfold zw_SB_storeArrives at h
  split at h
  · exact zs_enter (by decide +kernel) h.1 (Nat.le_of_ble_eq_true rfl) h.2 (fun p e s m args below meth c B => zr_SB_storeArrives_0 B)
  · exact h.elim
-- SequencedBatches$Slot.acknowledge(I)V
theorem dd_Sl_acknowledge_0 : decode bb_Sl_acknowledge 0 = .ok (.aload_n 0, 1) := by decide +kernel
theorem dd_Sl_acknowledge_1 : decode bb_Sl_acknowledge 1 = .ok (.getfield 18, 3) := by decide +kernel
theorem dd_Sl_acknowledge_4 : decode bb_Sl_acknowledge 4 = .ok (.iload_n 1, 1) := by decide +kernel
theorem dd_Sl_acknowledge_5 : decode bb_Sl_acknowledge 5 = .ok (.iconst 1, 1) := by decide +kernel
theorem dd_Sl_acknowledge_6 : decode bb_Sl_acknowledge 6 = .ok (.bastore, 1) := by decide +kernel
theorem dd_Sl_acknowledge_7 : decode bb_Sl_acknowledge 7 = .ok (.iconst 0, 1) := by decide +kernel
theorem dd_Sl_acknowledge_8 : decode bb_Sl_acknowledge 8 = .ok (.istore_n 2, 1) := by decide +kernel
theorem dd_Sl_acknowledge_9 : decode bb_Sl_acknowledge 9 = .ok (.iconst 0, 1) := by decide +kernel
theorem dd_Sl_acknowledge_10 : decode bb_Sl_acknowledge 10 = .ok (.istore_n 3, 1) := by decide +kernel
theorem dd_Sl_acknowledge_11 : decode bb_Sl_acknowledge 11 = .ok (.iload_n 3, 1) := by decide +kernel
theorem dd_Sl_acknowledge_12 : decode bb_Sl_acknowledge 12 = .ok (.iconst 3, 1) := by decide +kernel
theorem dd_Sl_acknowledge_13 : decode bb_Sl_acknowledge 13 = .ok (.if_icmp .ge 26, 3) := by decide +kernel
theorem dd_Sl_acknowledge_16 : decode bb_Sl_acknowledge 16 = .ok (.iload_n 2, 1) := by decide +kernel
theorem dd_Sl_acknowledge_17 : decode bb_Sl_acknowledge 17 = .ok (.aload_n 0, 1) := by decide +kernel
theorem dd_Sl_acknowledge_18 : decode bb_Sl_acknowledge 18 = .ok (.getfield 18, 3) := by decide +kernel
theorem dd_Sl_acknowledge_21 : decode bb_Sl_acknowledge 21 = .ok (.iload_n 3, 1) := by decide +kernel
theorem dd_Sl_acknowledge_22 : decode bb_Sl_acknowledge 22 = .ok (.baload, 1) := by decide +kernel
theorem dd_Sl_acknowledge_23 : decode bb_Sl_acknowledge 23 = .ok (.ifCond .eq 7, 3) := by decide +kernel
theorem dd_Sl_acknowledge_26 : decode bb_Sl_acknowledge 26 = .ok (.iconst 1, 1) := by decide +kernel
theorem dd_Sl_acknowledge_27 : decode bb_Sl_acknowledge 27 = .ok (.goto 4, 3) := by decide +kernel
theorem dd_Sl_acknowledge_30 : decode bb_Sl_acknowledge 30 = .ok (.iconst 0, 1) := by decide +kernel
theorem dd_Sl_acknowledge_31 : decode bb_Sl_acknowledge 31 = .ok (.iadd, 1) := by decide +kernel
theorem dd_Sl_acknowledge_32 : decode bb_Sl_acknowledge 32 = .ok (.istore_n 2, 1) := by decide +kernel
theorem dd_Sl_acknowledge_33 : decode bb_Sl_acknowledge 33 = .ok (.iinc 3 1, 3) := by decide +kernel
theorem dd_Sl_acknowledge_36 : decode bb_Sl_acknowledge 36 = .ok (.goto (-25), 3) := by decide +kernel
theorem dd_Sl_acknowledge_39 : decode bb_Sl_acknowledge 39 = .ok (.aload_n 0, 1) := by decide +kernel
theorem dd_Sl_acknowledge_40 : decode bb_Sl_acknowledge 40 = .ok (.iload_n 2, 1) := by decide +kernel
theorem dd_Sl_acknowledge_41 : decode bb_Sl_acknowledge 41 = .ok (.iconst 2, 1) := by decide +kernel
theorem dd_Sl_acknowledge_42 : decode bb_Sl_acknowledge 42 = .ok (.if_icmp .lt 7, 3) := by decide +kernel
theorem dd_Sl_acknowledge_45 : decode bb_Sl_acknowledge 45 = .ok (.iconst 1, 1) := by decide +kernel
theorem dd_Sl_acknowledge_46 : decode bb_Sl_acknowledge 46 = .ok (.goto 4, 3) := by decide +kernel
theorem dd_Sl_acknowledge_49 : decode bb_Sl_acknowledge 49 = .ok (.iconst 0, 1) := by decide +kernel
theorem dd_Sl_acknowledge_50 : decode bb_Sl_acknowledge 50 = .ok (.putfield 15, 3) := by decide +kernel
theorem dd_Sl_acknowledge_53 : decode bb_Sl_acknowledge 53 = .ok (.return_, 1) := by decide +kernel
def zk_Sl_acknowledge : Room := { frames := 0, cells := 0, slots := 0, locals := 0 }
abbrev zA_Sl_acknowledge (p : Program) (l : Launch) (e : Env) (s : State) (m : MethodId) (args : Array Value) (below : List Frame) (meth : Method) (c : Code) (G : zs_G) (Q : zs_Q) (pc : Nat) (P : zs_P) : Prop := zs_At p l e zk_Sl_acknowledge s m args below meth c (MQ below (zs_Qc G Q) args s 0 0 (fun q => zg_z G ≤ q)) G 4 pc P
def zb_Sl_acknowledge_50 (Q : zs_Q) : zs_P := zt_ptZ 5 2 (zt_vrt 0 0 Q)
def zb_Sl_acknowledge_49 (Q : zs_Q) : zs_P := zt_psh 0 ((zb_Sl_acknowledge_50 Q))
def zb_Sl_acknowledge_45 (Q : zs_Q) : zs_P := zt_psh 1 ((zb_Sl_acknowledge_50 Q))
def zb_Sl_acknowledge_39 (Q : zs_Q) : zs_P := zt_ald 0 (zt_ild 2 (zt_psh 2 (zt_cmp (fun x y => x < y) (zb_Sl_acknowledge_49 Q) (zb_Sl_acknowledge_45 Q))))
def zb_Sl_acknowledge_31 (Q : zs_Q) (K11 : zs_P) : zs_P := zt_bin (fun x y => x + y) (zt_ist 2 (zt_inc 3 1 (K11)))
def zb_Sl_acknowledge_30 (Q : zs_Q) (K11 : zs_P) : zs_P := zt_psh 0 ((zb_Sl_acknowledge_31 Q K11))
def zb_Sl_acknowledge_26 (Q : zs_Q) (K11 : zs_P) : zs_P := zt_psh 1 ((zb_Sl_acknowledge_31 Q K11))
def zb_Sl_acknowledge_16 (Q : zs_Q) (K11 : zs_P) : zs_P := zt_ild 2 (zt_ald 0 (zt_gtR 5 3 (zt_ild 3 (zt_xld 101 (zt_if (fun x => x = 0) (zb_Sl_acknowledge_30 Q K11) (zb_Sl_acknowledge_26 Q K11))))))
def zb_Sl_acknowledge_11 (Q : zs_Q) (K11 : zs_P) : zs_P := zt_ild 3 (zt_psh 3 (zt_cmp (fun x y => y ≤ x) (zb_Sl_acknowledge_39 Q) (zb_Sl_acknowledge_16 Q K11)))
def zl_Sl_acknowledge_11 (Q : zs_Q) : zs_P := zt_ex (zb_Sl_acknowledge_11 Q)
def zb_Sl_acknowledge_0 (Q : zs_Q) : zs_P := zt_ald 0 (zt_gtR 5 3 (zt_ild 1 (zt_psh 1 (zt_zas (zt_psh 0 (zt_ist 2 (zt_psh 0 (zt_ist 3 ((zl_Sl_acknowledge_11 Q))))))))))
def zw_Sl_acknowledge : zs_W := fun As σ Q => match As with
  | [a0, a1] => zs_c1 [a0, a1] = true ∧ zb_Sl_acknowledge_0 Q [some a0, some a1, none, none] [] σ 0 0
  | _ => False
section
variable {p : Program} {l : Launch} {e : Env} {s : State} {m : MethodId} {args : Array Value} {below : List Frame} {meth : Method} {c : Code} {G : zs_G} {Q : zs_Q}
theorem zr_Sl_acknowledge_50 (B : zs_B p s m args meth c G bb_Sl_acknowledge 4 yy_Sl_acknowledge none) : zA_Sl_acknowledge p l e s m args below meth c G Q 50 (zb_Sl_acknowledge_50 Q) := by
  unfold zb_Sl_acknowledge_50
  refine za_ptZ B.1 5 2 zi_5 zy_Sl zy_Sl_ok zn_Sl rfl (by decide) (by decide) rfl zW_159 rfl rfl rfl dd_Sl_acknowledge_50 ?_
  exact za_vrt B.1 0 0 B.2.1 B.2.2.1 dd_Sl_acknowledge_53
theorem zr_Sl_acknowledge_49 (B : zs_B p s m args meth c G bb_Sl_acknowledge 4 yy_Sl_acknowledge none) : zA_Sl_acknowledge p l e s m args below meth c G Q 49 (zb_Sl_acknowledge_49 Q) := by
  unfold zb_Sl_acknowledge_49
  refine za_ico B.1 0 dd_Sl_acknowledge_49 (by decide) ?_
  exact (zr_Sl_acknowledge_50 B)
theorem zr_Sl_acknowledge_45 (B : zs_B p s m args meth c G bb_Sl_acknowledge 4 yy_Sl_acknowledge none) : zA_Sl_acknowledge p l e s m args below meth c G Q 45 (zb_Sl_acknowledge_45 Q) := by
  unfold zb_Sl_acknowledge_45
  refine za_ico B.1 1 dd_Sl_acknowledge_45 (by decide) ?_
  refine za_goto B.1 50 dd_Sl_acknowledge_46 (by decide) ?_
  exact (zr_Sl_acknowledge_50 B)
theorem zr_Sl_acknowledge_39 (B : zs_B p s m args meth c G bb_Sl_acknowledge 4 yy_Sl_acknowledge none) : zA_Sl_acknowledge p l e s m args below meth c G Q 39 (zb_Sl_acknowledge_39 Q) := by
  unfold zb_Sl_acknowledge_39
  refine za_ald_n B.1 0 dd_Sl_acknowledge_39 rfl ?_
  refine za_ild_n B.1 2 dd_Sl_acknowledge_40 rfl ?_
  refine za_ico B.1 2 dd_Sl_acknowledge_41 (by decide) ?_
  exact za_cmp_lt B.1 49 dd_Sl_acknowledge_42 (by decide) (zr_Sl_acknowledge_49 B) (zr_Sl_acknowledge_45 B)
theorem zr_Sl_acknowledge_31 (B : zs_B p s m args meth c G bb_Sl_acknowledge 4 yy_Sl_acknowledge none) {K11 : zs_P} (h11 : zA_Sl_acknowledge p l e s m args below meth c G Q 11 K11) : zA_Sl_acknowledge p l e s m args below meth c G Q 31 (zb_Sl_acknowledge_31 Q K11) := by
  unfold zb_Sl_acknowledge_31
  refine za_add B.1 dd_Sl_acknowledge_31 ?_
  refine za_ist_n B.1 2 dd_Sl_acknowledge_32 rfl (by decide) ?_
  refine za_inc B.1 1 dd_Sl_acknowledge_33 (by decide) (by decide) ?_
  refine za_goto B.1 11 dd_Sl_acknowledge_36 (by decide) ?_
  exact h11
theorem zr_Sl_acknowledge_30 (B : zs_B p s m args meth c G bb_Sl_acknowledge 4 yy_Sl_acknowledge none) {K11 : zs_P} (h11 : zA_Sl_acknowledge p l e s m args below meth c G Q 11 K11) : zA_Sl_acknowledge p l e s m args below meth c G Q 30 (zb_Sl_acknowledge_30 Q K11) := by
  unfold zb_Sl_acknowledge_30
  refine za_ico B.1 0 dd_Sl_acknowledge_30 (by decide) ?_
  exact (zr_Sl_acknowledge_31 B h11)
theorem zr_Sl_acknowledge_26 (B : zs_B p s m args meth c G bb_Sl_acknowledge 4 yy_Sl_acknowledge none) {K11 : zs_P} (h11 : zA_Sl_acknowledge p l e s m args below meth c G Q 11 K11) : zA_Sl_acknowledge p l e s m args below meth c G Q 26 (zb_Sl_acknowledge_26 Q K11) := by
  unfold zb_Sl_acknowledge_26
  refine za_ico B.1 1 dd_Sl_acknowledge_26 (by decide) ?_
  refine za_goto B.1 31 dd_Sl_acknowledge_27 (by decide) ?_
  exact (zr_Sl_acknowledge_31 B h11)
theorem zr_Sl_acknowledge_16 (B : zs_B p s m args meth c G bb_Sl_acknowledge 4 yy_Sl_acknowledge none) {K11 : zs_P} (h11 : zA_Sl_acknowledge p l e s m args below meth c G Q 11 K11) : zA_Sl_acknowledge p l e s m args below meth c G Q 16 (zb_Sl_acknowledge_16 Q K11) := by
  unfold zb_Sl_acknowledge_16
  refine za_ild_n B.1 2 dd_Sl_acknowledge_16 rfl ?_
  refine za_ald_n B.1 0 dd_Sl_acknowledge_17 rfl ?_
  refine za_gtR B.1 5 3 zi_5 rfl (by decide) (by decide) rfl zW_160 rfl dd_Sl_acknowledge_18 ?_
  refine za_ild_n B.1 3 dd_Sl_acknowledge_21 rfl ?_
  refine za_zald B.1 dd_Sl_acknowledge_22 ?_
  exact za_if_eq B.1 30 dd_Sl_acknowledge_23 (by decide) (zr_Sl_acknowledge_30 B h11) (zr_Sl_acknowledge_26 B h11)
theorem zr_Sl_acknowledge_11 (B : zs_B p s m args meth c G bb_Sl_acknowledge 4 yy_Sl_acknowledge none) {K11 : zs_P} (h11 : zA_Sl_acknowledge p l e s m args below meth c G Q 11 K11) : zA_Sl_acknowledge p l e s m args below meth c G Q 11 (zb_Sl_acknowledge_11 Q K11) := by
  unfold zb_Sl_acknowledge_11
  refine za_ild_n B.1 3 dd_Sl_acknowledge_11 rfl ?_
  refine za_ico B.1 3 dd_Sl_acknowledge_12 (by decide) ?_
  exact za_cmp_ge B.1 39 dd_Sl_acknowledge_13 (by decide) (zr_Sl_acknowledge_39 B) (zr_Sl_acknowledge_16 B h11)
theorem zq_Sl_acknowledge_11 (B : zs_B p s m args meth c G bb_Sl_acknowledge 4 yy_Sl_acknowledge none) : zA_Sl_acknowledge p l e s m args below meth c G Q 11 (zl_Sl_acknowledge_11 Q) := za_lop (fun K hK => zr_Sl_acknowledge_11 B hK)
theorem zr_Sl_acknowledge_0 (B : zs_B p s m args meth c G bb_Sl_acknowledge 4 yy_Sl_acknowledge none) : zA_Sl_acknowledge p l e s m args below meth c G Q 0 (zb_Sl_acknowledge_0 Q) := by
  unfold zb_Sl_acknowledge_0
  refine za_ald_n B.1 0 dd_Sl_acknowledge_0 rfl ?_
  refine za_gtR B.1 5 3 zi_5 rfl (by decide) (by decide) rfl zW_160 rfl dd_Sl_acknowledge_1 ?_
  refine za_ild_n B.1 1 dd_Sl_acknowledge_4 rfl ?_
  refine za_ico B.1 1 dd_Sl_acknowledge_5 (by decide) ?_
  refine za_zast B.1 dd_Sl_acknowledge_6 ?_
  refine za_ico B.1 0 dd_Sl_acknowledge_7 (by decide) ?_
  refine za_ist_n B.1 2 dd_Sl_acknowledge_8 rfl (by decide) ?_
  refine za_ico B.1 0 dd_Sl_acknowledge_9 (by decide) ?_
  refine za_ist_n B.1 3 dd_Sl_acknowledge_10 rfl (by decide) ?_
  exact (zq_Sl_acknowledge_11 B)
end
theorem zm_Sl_acknowledge (l : Launch) (G : zs_G) (As : List Value) (σ : zs_S) (Q : zs_Q) (h : zw_Sl_acknowledge As σ Q) : zs_Met l yy_Sl_acknowledge (Cond.code yy_Sl_acknowledge bb_Sl_acknowledge 4 none :: zw_all) zk_Sl_acknowledge G As σ Q 0 0 := by
  unfold zw_Sl_acknowledge at h
  split at h
  · exact zs_enter (by decide +kernel) h.1 (Nat.le_of_ble_eq_true rfl) h.2 (fun p e s m args below meth c B => zr_Sl_acknowledge_0 B)
  · exact h.elim
-- SequencedBatches.ackArrives(II)V
theorem dd_SB_ackArrives_0 : decode bb_SB_ackArrives 0 = .ok (.iload_n 1, 1) := by decide +kernel
theorem dd_SB_ackArrives_1 : decode bb_SB_ackArrives 1 = .ok (.invokestatic 248, 3) := by decide +kernel
theorem dd_SB_ackArrives_4 : decode bb_SB_ackArrives 4 = .ok (.istore_n 3, 1) := by decide +kernel
theorem dd_SB_ackArrives_5 : decode bb_SB_ackArrives 5 = .ok (.iload_n 1, 1) := by decide +kernel
theorem dd_SB_ackArrives_6 : decode bb_SB_ackArrives 6 = .ok (.invokestatic 251, 3) := by decide +kernel
theorem dd_SB_ackArrives_9 : decode bb_SB_ackArrives 9 = .ok (.istore 4, 2) := by decide +kernel
theorem dd_SB_ackArrives_11 : decode bb_SB_ackArrives 11 = .ok (.aload_n 0, 1) := by decide +kernel
theorem dd_SB_ackArrives_12 : decode bb_SB_ackArrives 12 = .ok (.getfield 38, 3) := by decide +kernel
theorem dd_SB_ackArrives_15 : decode bb_SB_ackArrives 15 = .ok (.iload_n 3, 1) := by decide +kernel
theorem dd_SB_ackArrives_16 : decode bb_SB_ackArrives 16 = .ok (.aaload, 1) := by decide +kernel
theorem dd_SB_ackArrives_17 : decode bb_SB_ackArrives 17 = .ok (.getfield 219, 3) := by decide +kernel
theorem dd_SB_ackArrives_20 : decode bb_SB_ackArrives 20 = .ok (.iload 4, 2) := by decide +kernel
theorem dd_SB_ackArrives_22 : decode bb_SB_ackArrives 22 = .ok (.aaload, 1) := by decide +kernel
theorem dd_SB_ackArrives_23 : decode bb_SB_ackArrives 23 = .ok (.astore 5, 2) := by decide +kernel
theorem dd_SB_ackArrives_25 : decode bb_SB_ackArrives 25 = .ok (.aload_n 0, 1) := by decide +kernel
theorem dd_SB_ackArrives_26 : decode bb_SB_ackArrives 26 = .ok (.iload_n 3, 1) := by decide +kernel
theorem dd_SB_ackArrives_27 : decode bb_SB_ackArrives 27 = .ok (.invokevirtual 65, 3) := by decide +kernel
theorem dd_SB_ackArrives_30 : decode bb_SB_ackArrives 30 = .ok (.ifCond .eq 24, 3) := by decide +kernel
theorem dd_SB_ackArrives_33 : decode bb_SB_ackArrives 33 = .ok (.aload_n 0, 1) := by decide +kernel
theorem dd_SB_ackArrives_34 : decode bb_SB_ackArrives 34 = .ok (.getfield 38, 3) := by decide +kernel
theorem dd_SB_ackArrives_37 : decode bb_SB_ackArrives 37 = .ok (.iload_n 3, 1) := by decide +kernel
theorem dd_SB_ackArrives_38 : decode bb_SB_ackArrives 38 = .ok (.aaload, 1) := by decide +kernel
theorem dd_SB_ackArrives_39 : decode bb_SB_ackArrives 39 = .ok (.getfield 233, 3) := by decide +kernel
theorem dd_SB_ackArrives_42 : decode bb_SB_ackArrives 42 = .ok (.iload_n 2, 1) := by decide +kernel
theorem dd_SB_ackArrives_43 : decode bb_SB_ackArrives 43 = .ok (.if_icmp .ne 11, 3) := by decide +kernel
theorem dd_SB_ackArrives_46 : decode bb_SB_ackArrives 46 = .ok (.aload 5, 2) := by decide +kernel
theorem dd_SB_ackArrives_48 : decode bb_SB_ackArrives 48 = .ok (.getfield 104, 3) := by decide +kernel
theorem dd_SB_ackArrives_51 : decode bb_SB_ackArrives 51 = .ok (.ifCond .eq 4, 3) := by decide +kernel
theorem dd_SB_ackArrives_54 : decode bb_SB_ackArrives 54 = .ok (.return_, 1) := by decide +kernel
theorem dd_SB_ackArrives_55 : decode bb_SB_ackArrives 55 = .ok (.aload 5, 2) := by decide +kernel
theorem dd_SB_ackArrives_57 : decode bb_SB_ackArrives 57 = .ok (.iload_n 1, 1) := by decide +kernel
theorem dd_SB_ackArrives_58 : decode bb_SB_ackArrives 58 = .ok (.invokestatic 254, 3) := by decide +kernel
theorem dd_SB_ackArrives_61 : decode bb_SB_ackArrives 61 = .ok (.invokevirtual 263, 3) := by decide +kernel
theorem dd_SB_ackArrives_64 : decode bb_SB_ackArrives 64 = .ok (.aload 5, 2) := by decide +kernel
theorem dd_SB_ackArrives_66 : decode bb_SB_ackArrives 66 = .ok (.getfield 104, 3) := by decide +kernel
theorem dd_SB_ackArrives_69 : decode bb_SB_ackArrives 69 = .ok (.ifCond .eq 11, 3) := by decide +kernel
theorem dd_SB_ackArrives_72 : decode bb_SB_ackArrives 72 = .ok (.aload_n 0, 1) := by decide +kernel
theorem dd_SB_ackArrives_73 : decode bb_SB_ackArrives 73 = .ok (.iload_n 3, 1) := by decide +kernel
theorem dd_SB_ackArrives_74 : decode bb_SB_ackArrives 74 = .ok (.iload 4, 2) := by decide +kernel
theorem dd_SB_ackArrives_76 : decode bb_SB_ackArrives 76 = .ok (.invokevirtual 110, 3) := by decide +kernel
theorem dd_SB_ackArrives_79 : decode bb_SB_ackArrives 79 = .ok (.pop, 1) := by decide +kernel
theorem dd_SB_ackArrives_80 : decode bb_SB_ackArrives 80 = .ok (.return_, 1) := by decide +kernel
def zk_SB_ackArrives : Room := { frames := 2, cells := 0, slots := 0, locals := 48 }
abbrev zA_SB_ackArrives (p : Program) (l : Launch) (e : Env) (s : State) (m : MethodId) (args : Array Value) (below : List Frame) (meth : Method) (c : Code) (G : zs_G) (Q : zs_Q) (pc : Nat) (P : zs_P) : Prop := zs_At p l e zk_SB_ackArrives s m args below meth c (MQ below (zs_Qc G Q) args s 0 0 (fun q => zg_z G ≤ q)) G 6 pc P
def zb_SB_ackArrives_54 (Q : zs_Q) : zs_P := zt_vrt 0 0 Q
def zb_SB_ackArrives_80 (Q : zs_Q) : zs_P := zt_vrt 0 0 Q
def zb_SB_ackArrives_72 (Q : zs_Q) : zs_P := zt_ald 0 (zt_ild 3 (zt_ild 4 (zt_cav 7 zw_SB_sendClosed (2 + 1) 0 0 0 0 (zt_pop ((zb_SB_ackArrives_80 Q))))))
def zb_SB_ackArrives_55 (Q : zs_Q) : zs_P := zt_ald 5 (zt_ild 1 (zt_cal zw_Co_node 1 0 0 0 0 (zt_cav 5 zw_Sl_acknowledge (1 + 1) 0 0 0 0 (zt_ald 5 (zt_gtI 5 2 (zt_if (fun x => x = 0) (zb_SB_ackArrives_80 Q) (zb_SB_ackArrives_72 Q)))))))
def zb_SB_ackArrives_46 (Q : zs_Q) : zs_P := zt_ald 5 (zt_gtI 5 2 (zt_if (fun x => x = 0) (zb_SB_ackArrives_55 Q) (zb_SB_ackArrives_54 Q)))
def zb_SB_ackArrives_33 (Q : zs_Q) : zs_P := zt_ald 0 (zt_gtR 7 6 (zt_ild 3 (zt_rld (110 + 4) (zt_gtI 4 4 (zt_ild 2 (zt_cmp (fun x y => x = y) (zb_SB_ackArrives_46 Q) (zb_SB_ackArrives_54 Q)))))))
def zb_SB_ackArrives_0 (Q : zs_Q) : zs_P := zt_ild 1 (zt_cal zw_Co_owner 1 0 0 0 0 (zt_ist 3 (zt_ild 1 (zt_cal zw_Co_item 1 0 0 0 0 (zt_ist 4 (zt_ald 0 (zt_gtR 7 6 (zt_ild 3 (zt_rld (110 + 4) (zt_gtR 4 2 (zt_ild 4 (zt_rld (110 + 5) (zt_ast 5 (zt_ald 0 (zt_ild 3 (zt_cav 7 zw_SB_sequencerIsUp (1 + 1) 0 0 0 0 (zt_if (fun x => x = 0) (zb_SB_ackArrives_54 Q) (zb_SB_ackArrives_33 Q))))))))))))))))))
def zw_SB_ackArrives : zs_W := fun As σ Q => match As with
  | [a0, a1, a2] => zs_c1 [a0, a1, a2] = true ∧ zb_SB_ackArrives_0 Q [some a0, some a1, some a2, none, none, none] [] σ 0 0
  | _ => False
section
variable {p : Program} {l : Launch} {e : Env} {s : State} {m : MethodId} {args : Array Value} {below : List Frame} {meth : Method} {c : Code} {G : zs_G} {Q : zs_Q}
theorem zr_SB_ackArrives_54 (B : zs_B p s m args meth c G bb_SB_ackArrives 6 yy_SB_ackArrives none) : zA_SB_ackArrives p l e s m args below meth c G Q 54 (zb_SB_ackArrives_54 Q) := by
  unfold zb_SB_ackArrives_54
  exact za_vrt B.1 0 0 B.2.1 B.2.2.1 dd_SB_ackArrives_54
theorem zr_SB_ackArrives_80 (B : zs_B p s m args meth c G bb_SB_ackArrives 6 yy_SB_ackArrives none) : zA_SB_ackArrives p l e s m args below meth c G Q 80 (zb_SB_ackArrives_80 Q) := by
  unfold zb_SB_ackArrives_80
  exact za_vrt B.1 0 0 B.2.1 B.2.2.1 dd_SB_ackArrives_80
theorem zr_SB_ackArrives_72 (B : zs_B p s m args meth c G bb_SB_ackArrives 6 yy_SB_ackArrives none) : zA_SB_ackArrives p l e s m args below meth c G Q 72 (zb_SB_ackArrives_72 Q) := by
  unfold zb_SB_ackArrives_72
  refine za_ald_n B.1 0 dd_SB_ackArrives_72 rfl ?_
  refine za_ild_n B.1 3 dd_SB_ackArrives_73 rfl ?_
  refine za_ild B.1 dd_SB_ackArrives_74 ?_
  refine za_cV B.1 7 2 0 0 0 0 rfl rfl rfl (by decide) (zm_SB_sendClosed l G) ⟨callB_of 2 B.1.1.2.2.2.2 (zs_good zW_191) rfl rfl rfl (B.1.1.2.2.2.2 _ zW_1) (B.1.1.2.2.2.2 _ zW_189) (by decide +kernel) ⟨by decide, by decide⟩, (B.1.1.2.2.2.2 _ zW_190), (B.1.1.2.2.2.2 _ zW_660)⟩ dd_SB_ackArrives_76 ?_
  refine za_pop B.1 dd_SB_ackArrives_79 ?_
  exact (zr_SB_ackArrives_80 B)
theorem zr_SB_ackArrives_55 (B : zs_B p s m args meth c G bb_SB_ackArrives 6 yy_SB_ackArrives none) : zA_SB_ackArrives p l e s m args below meth c G Q 55 (zb_SB_ackArrives_55 Q) := by
  unfold zb_SB_ackArrives_55
  refine za_ald B.1 dd_SB_ackArrives_55 ?_
  refine za_ild_n B.1 1 dd_SB_ackArrives_57 rfl ?_
  refine za_cS B.1 1 0 0 0 0 rfl rfl (zm_Co_node l G) ⟨callB_of 1 B.1.1.2.2.2.2 (zs_good zW_226) rfl rfl rfl (B.1.1.2.2.2.2 _ zW_11) (B.1.1.2.2.2.2 _ zW_224) (by decide +kernel) ⟨by decide, by decide⟩, (B.1.1.2.2.2.2 _ zW_225)⟩ dd_SB_ackArrives_58 ?_
  refine za_cV B.1 5 1 0 0 0 0 rfl rfl rfl (by decide) (zm_Sl_acknowledge l G) ⟨callB_of 1 B.1.1.2.2.2.2 (zs_good zW_239) rfl rfl rfl (B.1.1.2.2.2.2 _ zW_10) (B.1.1.2.2.2.2 _ zW_236) (by decide +kernel) ⟨by decide, by decide⟩, (B.1.1.2.2.2.2 _ zW_237), (B.1.1.2.2.2.2 _ zW_238)⟩ dd_SB_ackArrives_61 ?_
  refine za_ald B.1 dd_SB_ackArrives_64 ?_
  refine za_gtIN (host := "SequencedBatches") B.1 5 2 zi_5 rfl (by decide) (by decide) rfl (by decide +kernel) rfl dd_SB_ackArrives_66 ?_
  exact za_if_eq B.1 80 dd_SB_ackArrives_69 (by decide) (zr_SB_ackArrives_80 B) (zr_SB_ackArrives_72 B)
theorem zr_SB_ackArrives_46 (B : zs_B p s m args meth c G bb_SB_ackArrives 6 yy_SB_ackArrives none) : zA_SB_ackArrives p l e s m args below meth c G Q 46 (zb_SB_ackArrives_46 Q) := by
  unfold zb_SB_ackArrives_46
  refine za_ald B.1 dd_SB_ackArrives_46 ?_
  refine za_gtIN (host := "SequencedBatches") B.1 5 2 zi_5 rfl (by decide) (by decide) rfl (by decide +kernel) rfl dd_SB_ackArrives_48 ?_
  exact za_if_eq B.1 55 dd_SB_ackArrives_51 (by decide) (zr_SB_ackArrives_55 B) (zr_SB_ackArrives_54 B)
theorem zr_SB_ackArrives_33 (B : zs_B p s m args meth c G bb_SB_ackArrives 6 yy_SB_ackArrives none) : zA_SB_ackArrives p l e s m args below meth c G Q 33 (zb_SB_ackArrives_33 Q) := by
  unfold zb_SB_ackArrives_33
  refine za_ald_n B.1 0 dd_SB_ackArrives_33 rfl ?_
  refine za_gtR B.1 7 6 zi_7 rfl (by decide) (by decide) rfl zW_94 rfl dd_SB_ackArrives_34 ?_
  refine za_ild_n B.1 3 dd_SB_ackArrives_37 rfl ?_
  refine za_rld B.1 4 4 rfl dd_SB_ackArrives_38 ?_
  refine za_gtIN (host := "SequencedBatches") B.1 4 4 zi_4 rfl (by decide) (by decide) rfl (by decide +kernel) rfl dd_SB_ackArrives_39 ?_
  refine za_ild_n B.1 2 dd_SB_ackArrives_42 rfl ?_
  exact za_cmp_ne B.1 54 dd_SB_ackArrives_43 (by decide) (zr_SB_ackArrives_46 B) (zr_SB_ackArrives_54 B)
theorem zr_SB_ackArrives_0 (B : zs_B p s m args meth c G bb_SB_ackArrives 6 yy_SB_ackArrives none) : zA_SB_ackArrives p l e s m args below meth c G Q 0 (zb_SB_ackArrives_0 Q) := by
  unfold zb_SB_ackArrives_0
  refine za_ild_n B.1 1 dd_SB_ackArrives_0 rfl ?_
  refine za_cS B.1 1 0 0 0 0 rfl rfl (zm_Co_owner l G) ⟨callB_of 1 B.1.1.2.2.2.2 (zs_good zW_220) rfl rfl rfl (B.1.1.2.2.2.2 _ zW_11) (B.1.1.2.2.2.2 _ zW_218) (by decide +kernel) ⟨by decide, by decide⟩, (B.1.1.2.2.2.2 _ zW_219)⟩ dd_SB_ackArrives_1 ?_
  refine za_ist_n B.1 3 dd_SB_ackArrives_4 rfl (by decide) ?_
  refine za_ild_n B.1 1 dd_SB_ackArrives_5 rfl ?_
  refine za_cS B.1 1 0 0 0 0 rfl rfl (zm_Co_item l G) ⟨callB_of 1 B.1.1.2.2.2.2 (zs_good zW_223) rfl rfl rfl (B.1.1.2.2.2.2 _ zW_11) (B.1.1.2.2.2.2 _ zW_221) (by decide +kernel) ⟨by decide, by decide⟩, (B.1.1.2.2.2.2 _ zW_222)⟩ dd_SB_ackArrives_6 ?_
  refine za_ist B.1 dd_SB_ackArrives_9 (by decide) ?_
  refine za_ald_n B.1 0 dd_SB_ackArrives_11 rfl ?_
  refine za_gtR B.1 7 6 zi_7 rfl (by decide) (by decide) rfl zW_94 rfl dd_SB_ackArrives_12 ?_
  refine za_ild_n B.1 3 dd_SB_ackArrives_15 rfl ?_
  refine za_rld B.1 4 4 rfl dd_SB_ackArrives_16 ?_
  refine za_gtRN (host := "SequencedBatches") B.1 4 2 zi_4 rfl (by decide) (by decide) rfl (by decide +kernel) rfl dd_SB_ackArrives_17 ?_
  refine za_ild B.1 dd_SB_ackArrives_20 ?_
  refine za_rld B.1 5 6 rfl dd_SB_ackArrives_22 ?_
  refine za_ast B.1 dd_SB_ackArrives_23 (by decide) ?_
  refine za_ald_n B.1 0 dd_SB_ackArrives_25 rfl ?_
  refine za_ild_n B.1 3 dd_SB_ackArrives_26 rfl ?_
  refine za_cV B.1 7 1 0 0 0 0 rfl rfl rfl (by decide) (zm_SB_sequencerIsUp l G) ⟨callB_of 1 B.1.1.2.2.2.2 (zs_good zW_102) rfl rfl rfl (B.1.1.2.2.2.2 _ zW_1) (B.1.1.2.2.2.2 _ zW_100) (by decide +kernel) ⟨by decide, by decide⟩, (B.1.1.2.2.2.2 _ zW_101), (B.1.1.2.2.2.2 _ zW_658)⟩ dd_SB_ackArrives_27 ?_
  exact za_if_eq B.1 54 dd_SB_ackArrives_30 (by decide) (zr_SB_ackArrives_54 B) (zr_SB_ackArrives_33 B)
end
theorem zm_SB_ackArrives (l : Launch) (G : zs_G) (As : List Value) (σ : zs_S) (Q : zs_Q) (h : zw_SB_ackArrives As σ Q) : zs_Met l yy_SB_ackArrives (Cond.code yy_SB_ackArrives bb_SB_ackArrives 6 none :: zw_all) zk_SB_ackArrives G As σ Q 0 0 := by
  unfold zw_SB_ackArrives at h
  split at h
  · exact zs_enter (by decide +kernel) h.1 (Nat.le_of_ble_eq_true rfl) h.2 (fun p e s m args below meth c B => zr_SB_ackArrives_0 B)
  · exact h.elim
-- SequencedBatches.replicaIsUp(I)Z
theorem dd_SB_replicaIsUp_0 : decode bb_SB_replicaIsUp 0 = .ok (.iload_n 1, 1) := by decide +kernel
theorem dd_SB_replicaIsUp_1 : decode bb_SB_replicaIsUp 1 = .ok (.ifCond .lt 23, 3) := by decide +kernel
theorem dd_SB_replicaIsUp_4 : decode bb_SB_replicaIsUp 4 = .ok (.iload_n 1, 1) := by decide +kernel
theorem dd_SB_replicaIsUp_5 : decode bb_SB_replicaIsUp 5 = .ok (.iconst 2, 1) := by decide +kernel
theorem dd_SB_replicaIsUp_6 : decode bb_SB_replicaIsUp 6 = .ok (.if_icmp .ge 18, 3) := by decide +kernel
theorem dd_SB_replicaIsUp_9 : decode bb_SB_replicaIsUp 9 = .ok (.aload_n 0, 1) := by decide +kernel
theorem dd_SB_replicaIsUp_10 : decode bb_SB_replicaIsUp 10 = .ok (.getfield 9, 3) := by decide +kernel
theorem dd_SB_replicaIsUp_13 : decode bb_SB_replicaIsUp 13 = .ok (.iconst 5, 1) := by decide +kernel
theorem dd_SB_replicaIsUp_14 : decode bb_SB_replicaIsUp 14 = .ok (.iload_n 1, 1) := by decide +kernel
theorem dd_SB_replicaIsUp_15 : decode bb_SB_replicaIsUp 15 = .ok (.iadd, 1) := by decide +kernel
theorem dd_SB_replicaIsUp_16 : decode bb_SB_replicaIsUp 16 = .ok (.baload, 1) := by decide +kernel
theorem dd_SB_replicaIsUp_17 : decode bb_SB_replicaIsUp 17 = .ok (.ifCond .ne 7, 3) := by decide +kernel
theorem dd_SB_replicaIsUp_20 : decode bb_SB_replicaIsUp 20 = .ok (.iconst 1, 1) := by decide +kernel
theorem dd_SB_replicaIsUp_21 : decode bb_SB_replicaIsUp 21 = .ok (.goto 4, 3) := by decide +kernel
theorem dd_SB_replicaIsUp_24 : decode bb_SB_replicaIsUp 24 = .ok (.iconst 0, 1) := by decide +kernel
theorem dd_SB_replicaIsUp_25 : decode bb_SB_replicaIsUp 25 = .ok (.ireturn, 1) := by decide +kernel
def zk_SB_replicaIsUp : Room := { frames := 0, cells := 0, slots := 0, locals := 0 }
abbrev zA_SB_replicaIsUp (p : Program) (l : Launch) (e : Env) (s : State) (m : MethodId) (args : Array Value) (below : List Frame) (meth : Method) (c : Code) (G : zs_G) (Q : zs_Q) (pc : Nat) (P : zs_P) : Prop := zs_At p l e zk_SB_replicaIsUp s m args below meth c (MQ below (zs_Qc G Q) args s 0 0 (fun q => zg_z G ≤ q)) G 2 pc P
def zb_SB_replicaIsUp_25 (Q : zs_Q) : zs_P := zt_zrt 0 0 Q
def zb_SB_replicaIsUp_24 (Q : zs_Q) : zs_P := zt_psh 0 ((zb_SB_replicaIsUp_25 Q))
def zb_SB_replicaIsUp_20 (Q : zs_Q) : zs_P := zt_psh 1 ((zb_SB_replicaIsUp_25 Q))
def zb_SB_replicaIsUp_9 (Q : zs_Q) : zs_P := zt_ald 0 (zt_gtR 7 1 (zt_psh 5 (zt_ild 1 (zt_bin (fun x y => x + y) (zt_xld 101 (zt_if (fun x => x = 0) (zb_SB_replicaIsUp_20 Q) (zb_SB_replicaIsUp_24 Q)))))))
def zb_SB_replicaIsUp_4 (Q : zs_Q) : zs_P := zt_ild 1 (zt_psh 2 (zt_cmp (fun x y => y ≤ x) (zb_SB_replicaIsUp_24 Q) (zb_SB_replicaIsUp_9 Q)))
def zb_SB_replicaIsUp_0 (Q : zs_Q) : zs_P := zt_ild 1 (zt_if (fun x => x < 0) (zb_SB_replicaIsUp_24 Q) (zb_SB_replicaIsUp_4 Q))
def zw_SB_replicaIsUp : zs_W := fun As σ Q => match As with
  | [a0, a1] => zs_c1 [a0, a1] = true ∧ zb_SB_replicaIsUp_0 Q [some a0, some a1] [] σ 0 0
  | _ => False
section
variable {p : Program} {l : Launch} {e : Env} {s : State} {m : MethodId} {args : Array Value} {below : List Frame} {meth : Method} {c : Code} {G : zs_G} {Q : zs_Q}
theorem zr_SB_replicaIsUp_25 (B : zs_B p s m args meth c G bb_SB_replicaIsUp 2 yy_SB_replicaIsUp (some .boolean)) : zA_SB_replicaIsUp p l e s m args below meth c G Q 25 (zb_SB_replicaIsUp_25 Q) := by
  unfold zb_SB_replicaIsUp_25
  exact za_zrt B.1 0 0 B.2.1 B.2.2.1 dd_SB_replicaIsUp_25
theorem zr_SB_replicaIsUp_24 (B : zs_B p s m args meth c G bb_SB_replicaIsUp 2 yy_SB_replicaIsUp (some .boolean)) : zA_SB_replicaIsUp p l e s m args below meth c G Q 24 (zb_SB_replicaIsUp_24 Q) := by
  unfold zb_SB_replicaIsUp_24
  refine za_ico B.1 0 dd_SB_replicaIsUp_24 (by decide) ?_
  exact (zr_SB_replicaIsUp_25 B)
theorem zr_SB_replicaIsUp_20 (B : zs_B p s m args meth c G bb_SB_replicaIsUp 2 yy_SB_replicaIsUp (some .boolean)) : zA_SB_replicaIsUp p l e s m args below meth c G Q 20 (zb_SB_replicaIsUp_20 Q) := by
  unfold zb_SB_replicaIsUp_20
  refine za_ico B.1 1 dd_SB_replicaIsUp_20 (by decide) ?_
  refine za_goto B.1 25 dd_SB_replicaIsUp_21 (by decide) ?_
  exact (zr_SB_replicaIsUp_25 B)
theorem zr_SB_replicaIsUp_9 (B : zs_B p s m args meth c G bb_SB_replicaIsUp 2 yy_SB_replicaIsUp (some .boolean)) : zA_SB_replicaIsUp p l e s m args below meth c G Q 9 (zb_SB_replicaIsUp_9 Q) := by
  unfold zb_SB_replicaIsUp_9
  refine za_ald_n B.1 0 dd_SB_replicaIsUp_9 rfl ?_
  refine za_gtR B.1 7 1 zi_7 rfl (by decide) (by decide) rfl zW_89 rfl dd_SB_replicaIsUp_10 ?_
  refine za_ico B.1 5 dd_SB_replicaIsUp_13 (by decide) ?_
  refine za_ild_n B.1 1 dd_SB_replicaIsUp_14 rfl ?_
  refine za_add B.1 dd_SB_replicaIsUp_15 ?_
  refine za_zald B.1 dd_SB_replicaIsUp_16 ?_
  exact za_if_ne B.1 24 dd_SB_replicaIsUp_17 (by decide) (zr_SB_replicaIsUp_20 B) (zr_SB_replicaIsUp_24 B)
theorem zr_SB_replicaIsUp_4 (B : zs_B p s m args meth c G bb_SB_replicaIsUp 2 yy_SB_replicaIsUp (some .boolean)) : zA_SB_replicaIsUp p l e s m args below meth c G Q 4 (zb_SB_replicaIsUp_4 Q) := by
  unfold zb_SB_replicaIsUp_4
  refine za_ild_n B.1 1 dd_SB_replicaIsUp_4 rfl ?_
  refine za_ico B.1 2 dd_SB_replicaIsUp_5 (by decide) ?_
  exact za_cmp_ge B.1 24 dd_SB_replicaIsUp_6 (by decide) (zr_SB_replicaIsUp_24 B) (zr_SB_replicaIsUp_9 B)
theorem zr_SB_replicaIsUp_0 (B : zs_B p s m args meth c G bb_SB_replicaIsUp 2 yy_SB_replicaIsUp (some .boolean)) : zA_SB_replicaIsUp p l e s m args below meth c G Q 0 (zb_SB_replicaIsUp_0 Q) := by
  unfold zb_SB_replicaIsUp_0
  refine za_ild_n B.1 1 dd_SB_replicaIsUp_0 rfl ?_
  exact za_if_lt B.1 24 dd_SB_replicaIsUp_1 (by decide) (zr_SB_replicaIsUp_24 B) (zr_SB_replicaIsUp_4 B)
end
theorem zm_SB_replicaIsUp (l : Launch) (G : zs_G) (As : List Value) (σ : zs_S) (Q : zs_Q) (h : zw_SB_replicaIsUp As σ Q) : zs_Met l yy_SB_replicaIsUp (Cond.code yy_SB_replicaIsUp bb_SB_replicaIsUp 2 (some .boolean) :: zw_all) zk_SB_replicaIsUp G As σ Q 0 0 := by
  unfold zw_SB_replicaIsUp at h
  split at h
  · exact zs_enter (by decide +kernel) h.1 (Nat.le_of_ble_eq_true rfl) h.2 (fun p e s m args below meth c B => zr_SB_replicaIsUp_0 B)
  · exact h.elim
-- SequencedBatches$Replica.appendToLog(LSequencedBatches$Slot;)V
theorem dd_Rp_appendToLog_0 : decode bb_Rp_appendToLog 0 = .ok (.aload_n 1, 1) := by decide +kernel
theorem dd_Rp_appendToLog_1 : decode bb_Rp_appendToLog 1 = .ok (.getfield 59, 3) := by decide +kernel
theorem dd_Rp_appendToLog_4 : decode bb_Rp_appendToLog 4 = .ok (.ifCond .eq 4, 3) := by decide +kernel
theorem dd_Rp_appendToLog_7 : decode bb_Rp_appendToLog 7 = .ok (.return_, 1) := by decide +kernel
theorem dd_Rp_appendToLog_8 : decode bb_Rp_appendToLog 8 = .ok (.iconst 0, 1) := by decide +kernel
theorem dd_Rp_appendToLog_9 : decode bb_Rp_appendToLog 9 = .ok (.istore_n 2, 1) := by decide +kernel
theorem dd_Rp_appendToLog_10 : decode bb_Rp_appendToLog 10 = .ok (.iload_n 2, 1) := by decide +kernel
theorem dd_Rp_appendToLog_11 : decode bb_Rp_appendToLog 11 = .ok (.aload_n 1, 1) := by decide +kernel
theorem dd_Rp_appendToLog_12 : decode bb_Rp_appendToLog 12 = .ok (.getfield 63, 3) := by decide +kernel
theorem dd_Rp_appendToLog_15 : decode bb_Rp_appendToLog 15 = .ok (.arraylength, 1) := by decide +kernel
theorem dd_Rp_appendToLog_16 : decode bb_Rp_appendToLog 16 = .ok (.if_icmp .ge 34, 3) := by decide +kernel
theorem dd_Rp_appendToLog_19 : decode bb_Rp_appendToLog 19 = .ok (.aload_n 0, 1) := by decide +kernel
theorem dd_Rp_appendToLog_20 : decode bb_Rp_appendToLog 20 = .ok (.getfield 23, 3) := by decide +kernel
theorem dd_Rp_appendToLog_23 : decode bb_Rp_appendToLog 23 = .ok (.aload_n 0, 1) := by decide +kernel
theorem dd_Rp_appendToLog_24 : decode bb_Rp_appendToLog 24 = .ok (.getfield 27, 3) := by decide +kernel
theorem dd_Rp_appendToLog_27 : decode bb_Rp_appendToLog 27 = .ok (.aload_n 1, 1) := by decide +kernel
theorem dd_Rp_appendToLog_28 : decode bb_Rp_appendToLog 28 = .ok (.getfield 63, 3) := by decide +kernel
theorem dd_Rp_appendToLog_31 : decode bb_Rp_appendToLog 31 = .ok (.iload_n 2, 1) := by decide +kernel
theorem dd_Rp_appendToLog_32 : decode bb_Rp_appendToLog 32 = .ok (.aaload, 1) := by decide +kernel
theorem dd_Rp_appendToLog_33 : decode bb_Rp_appendToLog 33 = .ok (.aastore, 1) := by decide +kernel
theorem dd_Rp_appendToLog_34 : decode bb_Rp_appendToLog 34 = .ok (.aload_n 0, 1) := by decide +kernel
theorem dd_Rp_appendToLog_35 : decode bb_Rp_appendToLog 35 = .ok (.dup, 1) := by decide +kernel
theorem dd_Rp_appendToLog_36 : decode bb_Rp_appendToLog 36 = .ok (.getfield 27, 3) := by decide +kernel
theorem dd_Rp_appendToLog_39 : decode bb_Rp_appendToLog 39 = .ok (.iconst 1, 1) := by decide +kernel
theorem dd_Rp_appendToLog_40 : decode bb_Rp_appendToLog 40 = .ok (.iadd, 1) := by decide +kernel
theorem dd_Rp_appendToLog_41 : decode bb_Rp_appendToLog 41 = .ok (.putfield 27, 3) := by decide +kernel
theorem dd_Rp_appendToLog_44 : decode bb_Rp_appendToLog 44 = .ok (.iinc 2 1, 3) := by decide +kernel
theorem dd_Rp_appendToLog_47 : decode bb_Rp_appendToLog 47 = .ok (.goto (-37), 3) := by decide +kernel
theorem dd_Rp_appendToLog_50 : decode bb_Rp_appendToLog 50 = .ok (.return_, 1) := by decide +kernel
def zk_Rp_appendToLog : Room := { frames := 0, cells := 0, slots := 0, locals := 0 }
abbrev zA_Rp_appendToLog (p : Program) (l : Launch) (e : Env) (s : State) (m : MethodId) (args : Array Value) (below : List Frame) (meth : Method) (c : Code) (G : zs_G) (Q : zs_Q) (pc : Nat) (P : zs_P) : Prop := zs_At p l e zk_Rp_appendToLog s m args below meth c (MQ below (zs_Qc G Q) args s 0 0 (fun q => zg_z G ≤ q)) G 3 pc P
def zb_Rp_appendToLog_50 (Q : zs_Q) : zs_P := zt_vrt 0 0 Q
def zb_Rp_appendToLog_19 (Q : zs_Q) (K10 : zs_P) : zs_P := zt_ald 0 (zt_gtR 3 2 (zt_ald 0 (zt_gtI 3 3 (zt_ald 1 (zt_gtR 5 0 (zt_ild 2 (zt_rld (110 + 6) (zt_ras 6 (zt_ald 0 (zt_dup (zt_gtI 3 3 (zt_psh 1 (zt_bin (fun x y => x + y) (zt_ptI 3 3 (zt_inc 2 1 (K10))))))))))))))))
def zb_Rp_appendToLog_10 (Q : zs_Q) (K10 : zs_P) : zs_P := zt_ild 2 (zt_ald 1 (zt_gtR 5 0 (zt_len (110 + 6) (zt_cmp (fun x y => y ≤ x) (zb_Rp_appendToLog_50 Q) (zb_Rp_appendToLog_19 Q K10)))))
def zl_Rp_appendToLog_10 (Q : zs_Q) : zs_P := zt_ex (zb_Rp_appendToLog_10 Q)
def zb_Rp_appendToLog_8 (Q : zs_Q) : zs_P := zt_psh 0 (zt_ist 2 ((zl_Rp_appendToLog_10 Q)))
def zb_Rp_appendToLog_7 (Q : zs_Q) : zs_P := zt_vrt 0 0 Q
def zb_Rp_appendToLog_0 (Q : zs_Q) : zs_P := zt_ald 1 (zt_gtI 5 1 (zt_if (fun x => x = 0) (zb_Rp_appendToLog_8 Q) (zb_Rp_appendToLog_7 Q)))
def zw_Rp_appendToLog : zs_W := fun As σ Q => match As with
  | [a0, a1] => zs_c1 [a0, a1] = true ∧ zb_Rp_appendToLog_0 Q [some a0, some a1, none] [] σ 0 0
  | _ => False
section
variable {p : Program} {l : Launch} {e : Env} {s : State} {m : MethodId} {args : Array Value} {below : List Frame} {meth : Method} {c : Code} {G : zs_G} {Q : zs_Q}
theorem zr_Rp_appendToLog_50 (B : zs_B p s m args meth c G bb_Rp_appendToLog 3 yy_Rp_appendToLog none) : zA_Rp_appendToLog p l e s m args below meth c G Q 50 (zb_Rp_appendToLog_50 Q) := by
  unfold zb_Rp_appendToLog_50
  exact za_vrt B.1 0 0 B.2.1 B.2.2.1 dd_Rp_appendToLog_50
theorem zr_Rp_appendToLog_19 (B : zs_B p s m args meth c G bb_Rp_appendToLog 3 yy_Rp_appendToLog none) {K10 : zs_P} (h10 : zA_Rp_appendToLog p l e s m args below meth c G Q 10 K10) : zA_Rp_appendToLog p l e s m args below meth c G Q 19 (zb_Rp_appendToLog_19 Q K10) := by
  unfold zb_Rp_appendToLog_19
  refine za_ald_n B.1 0 dd_Rp_appendToLog_19 rfl ?_
  refine za_gtR B.1 3 2 zi_3 rfl (by decide) (by decide) rfl zW_80 rfl dd_Rp_appendToLog_20 ?_
  refine za_ald_n B.1 0 dd_Rp_appendToLog_23 rfl ?_
  refine za_gtI B.1 3 3 zi_3 rfl (by decide) (by decide) rfl zW_81 rfl dd_Rp_appendToLog_24 ?_
  refine za_ald_n B.1 1 dd_Rp_appendToLog_27 rfl ?_
  refine za_gtRN (host := "SequencedBatches") B.1 5 0 zi_5 rfl (by decide) (by decide) rfl (by decide +kernel) rfl dd_Rp_appendToLog_28 ?_
  refine za_ild_n B.1 2 dd_Rp_appendToLog_31 rfl ?_
  refine za_rld B.1 6 2 rfl dd_Rp_appendToLog_32 ?_
  refine za_rast B.1 6 2 (by decide) rfl rfl dd_Rp_appendToLog_33 ?_
  refine za_ald_n B.1 0 dd_Rp_appendToLog_34 rfl ?_
  refine za_dup B.1 dd_Rp_appendToLog_35 ?_
  refine za_gtI B.1 3 3 zi_3 rfl (by decide) (by decide) rfl zW_81 rfl dd_Rp_appendToLog_36 ?_
  refine za_ico B.1 1 dd_Rp_appendToLog_39 (by decide) ?_
  refine za_add B.1 dd_Rp_appendToLog_40 ?_
  refine za_ptI B.1 3 3 zi_3 zy_Rp zy_Rp_ok zn_Rp rfl (by decide) (by decide) rfl zW_81 rfl rfl rfl dd_Rp_appendToLog_41 ?_
  refine za_inc B.1 1 dd_Rp_appendToLog_44 (by decide) (by decide) ?_
  refine za_goto B.1 10 dd_Rp_appendToLog_47 (by decide) ?_
  exact h10
theorem zr_Rp_appendToLog_10 (B : zs_B p s m args meth c G bb_Rp_appendToLog 3 yy_Rp_appendToLog none) {K10 : zs_P} (h10 : zA_Rp_appendToLog p l e s m args below meth c G Q 10 K10) : zA_Rp_appendToLog p l e s m args below meth c G Q 10 (zb_Rp_appendToLog_10 Q K10) := by
  unfold zb_Rp_appendToLog_10
  refine za_ild_n B.1 2 dd_Rp_appendToLog_10 rfl ?_
  refine za_ald_n B.1 1 dd_Rp_appendToLog_11 rfl ?_
  refine za_gtRN (host := "SequencedBatches") B.1 5 0 zi_5 rfl (by decide) (by decide) rfl (by decide +kernel) rfl dd_Rp_appendToLog_12 ?_
  refine za_len B.1 (110 + 6) 2 (by decide) rfl dd_Rp_appendToLog_15 ?_
  exact za_cmp_ge B.1 50 dd_Rp_appendToLog_16 (by decide) (zr_Rp_appendToLog_50 B) (zr_Rp_appendToLog_19 B h10)
theorem zq_Rp_appendToLog_10 (B : zs_B p s m args meth c G bb_Rp_appendToLog 3 yy_Rp_appendToLog none) : zA_Rp_appendToLog p l e s m args below meth c G Q 10 (zl_Rp_appendToLog_10 Q) := za_lop (fun K hK => zr_Rp_appendToLog_10 B hK)
theorem zr_Rp_appendToLog_8 (B : zs_B p s m args meth c G bb_Rp_appendToLog 3 yy_Rp_appendToLog none) : zA_Rp_appendToLog p l e s m args below meth c G Q 8 (zb_Rp_appendToLog_8 Q) := by
  unfold zb_Rp_appendToLog_8
  refine za_ico B.1 0 dd_Rp_appendToLog_8 (by decide) ?_
  refine za_ist_n B.1 2 dd_Rp_appendToLog_9 rfl (by decide) ?_
  exact (zq_Rp_appendToLog_10 B)
theorem zr_Rp_appendToLog_7 (B : zs_B p s m args meth c G bb_Rp_appendToLog 3 yy_Rp_appendToLog none) : zA_Rp_appendToLog p l e s m args below meth c G Q 7 (zb_Rp_appendToLog_7 Q) := by
  unfold zb_Rp_appendToLog_7
  exact za_vrt B.1 0 0 B.2.1 B.2.2.1 dd_Rp_appendToLog_7
theorem zr_Rp_appendToLog_0 (B : zs_B p s m args meth c G bb_Rp_appendToLog 3 yy_Rp_appendToLog none) : zA_Rp_appendToLog p l e s m args below meth c G Q 0 (zb_Rp_appendToLog_0 Q) := by
  unfold zb_Rp_appendToLog_0
  refine za_ald_n B.1 1 dd_Rp_appendToLog_0 rfl ?_
  refine za_gtIN (host := "SequencedBatches") B.1 5 1 zi_5 rfl (by decide) (by decide) rfl (by decide +kernel) rfl dd_Rp_appendToLog_1 ?_
  exact za_if_eq B.1 8 dd_Rp_appendToLog_4 (by decide) (zr_Rp_appendToLog_8 B) (zr_Rp_appendToLog_7 B)
end
theorem zm_Rp_appendToLog (l : Launch) (G : zs_G) (As : List Value) (σ : zs_S) (Q : zs_Q) (h : zw_Rp_appendToLog As σ Q) : zs_Met l yy_Rp_appendToLog (Cond.code yy_Rp_appendToLog bb_Rp_appendToLog 3 none :: zw_all) zk_Rp_appendToLog G As σ Q 0 0 := by
  unfold zw_Rp_appendToLog at h
  split at h
  · exact zs_enter (by decide +kernel) h.1 (Nat.le_of_ble_eq_true rfl) h.2 (fun p e s m args below meth c B => zr_Rp_appendToLog_0 B)
  · exact h.elim
-- SequencedBatches$Replica.learn(ILSequencedBatches$Slot;)V
theorem dd_Rp_learn_0 : decode bb_Rp_learn 0 = .ok (.aload_n 0, 1) := by decide +kernel
theorem dd_Rp_learn_1 : decode bb_Rp_learn 1 = .ok (.getfield 11, 3) := by decide +kernel
theorem dd_Rp_learn_4 : decode bb_Rp_learn 4 = .ok (.iload_n 1, 1) := by decide +kernel
theorem dd_Rp_learn_5 : decode bb_Rp_learn 5 = .ok (.aload_n 2, 1) := by decide +kernel
theorem dd_Rp_learn_6 : decode bb_Rp_learn 6 = .ok (.aastore, 1) := by decide +kernel
theorem dd_Rp_learn_7 : decode bb_Rp_learn 7 = .ok (.aload_n 0, 1) := by decide +kernel
theorem dd_Rp_learn_8 : decode bb_Rp_learn 8 = .ok (.getfield 17, 3) := by decide +kernel
theorem dd_Rp_learn_11 : decode bb_Rp_learn 11 = .ok (.aload_n 0, 1) := by decide +kernel
theorem dd_Rp_learn_12 : decode bb_Rp_learn 12 = .ok (.getfield 11, 3) := by decide +kernel
theorem dd_Rp_learn_15 : decode bb_Rp_learn 15 = .ok (.arraylength, 1) := by decide +kernel
theorem dd_Rp_learn_16 : decode bb_Rp_learn 16 = .ok (.if_icmp .ge 41, 3) := by decide +kernel
theorem dd_Rp_learn_19 : decode bb_Rp_learn 19 = .ok (.aload_n 0, 1) := by decide +kernel
theorem dd_Rp_learn_20 : decode bb_Rp_learn 20 = .ok (.getfield 11, 3) := by decide +kernel
theorem dd_Rp_learn_23 : decode bb_Rp_learn 23 = .ok (.aload_n 0, 1) := by decide +kernel
theorem dd_Rp_learn_24 : decode bb_Rp_learn 24 = .ok (.getfield 17, 3) := by decide +kernel
theorem dd_Rp_learn_27 : decode bb_Rp_learn 27 = .ok (.aaload, 1) := by decide +kernel
theorem dd_Rp_learn_28 : decode bb_Rp_learn 28 = .ok (.ifnull 29, 3) := by decide +kernel
theorem dd_Rp_learn_31 : decode bb_Rp_learn 31 = .ok (.aload_n 0, 1) := by decide +kernel
theorem dd_Rp_learn_32 : decode bb_Rp_learn 32 = .ok (.aload_n 0, 1) := by decide +kernel
theorem dd_Rp_learn_33 : decode bb_Rp_learn 33 = .ok (.getfield 11, 3) := by decide +kernel
theorem dd_Rp_learn_36 : decode bb_Rp_learn 36 = .ok (.aload_n 0, 1) := by decide +kernel
theorem dd_Rp_learn_37 : decode bb_Rp_learn 37 = .ok (.getfield 17, 3) := by decide +kernel
theorem dd_Rp_learn_40 : decode bb_Rp_learn 40 = .ok (.aaload, 1) := by decide +kernel
theorem dd_Rp_learn_41 : decode bb_Rp_learn 41 = .ok (.invokevirtual 55, 3) := by decide +kernel
theorem dd_Rp_learn_44 : decode bb_Rp_learn 44 = .ok (.aload_n 0, 1) := by decide +kernel
theorem dd_Rp_learn_45 : decode bb_Rp_learn 45 = .ok (.dup, 1) := by decide +kernel
theorem dd_Rp_learn_46 : decode bb_Rp_learn 46 = .ok (.getfield 17, 3) := by decide +kernel
theorem dd_Rp_learn_49 : decode bb_Rp_learn 49 = .ok (.iconst 1, 1) := by decide +kernel
theorem dd_Rp_learn_50 : decode bb_Rp_learn 50 = .ok (.iadd, 1) := by decide +kernel
theorem dd_Rp_learn_51 : decode bb_Rp_learn 51 = .ok (.putfield 17, 3) := by decide +kernel
theorem dd_Rp_learn_54 : decode bb_Rp_learn 54 = .ok (.goto (-47), 3) := by decide +kernel
theorem dd_Rp_learn_57 : decode bb_Rp_learn 57 = .ok (.return_, 1) := by decide +kernel
def zk_Rp_learn : Room := { frames := 1, cells := 0, slots := 0, locals := 22 }
abbrev zA_Rp_learn (p : Program) (l : Launch) (e : Env) (s : State) (m : MethodId) (args : Array Value) (below : List Frame) (meth : Method) (c : Code) (G : zs_G) (Q : zs_Q) (pc : Nat) (P : zs_P) : Prop := zs_At p l e zk_Rp_learn s m args below meth c (MQ below (zs_Qc G Q) args s 0 0 (fun q => zg_z G ≤ q)) G 3 pc P
def zb_Rp_learn_57 (Q : zs_Q) : zs_P := zt_vrt 0 0 Q
def zb_Rp_learn_31 (Q : zs_Q) (K7 : zs_P) : zs_P := zt_ald 0 (zt_ald 0 (zt_gtR 3 0 (zt_ald 0 (zt_gtI 3 1 (zt_rld (110 + 5) (zt_cav 3 zw_Rp_appendToLog (1 + 1) 0 0 0 0 (zt_ald 0 (zt_dup (zt_gtI 3 1 (zt_psh 1 (zt_bin (fun x y => x + y) (zt_ptI 3 1 (K7)))))))))))))
def zb_Rp_learn_19 (Q : zs_Q) (K7 : zs_P) : zs_P := zt_ald 0 (zt_gtR 3 0 (zt_ald 0 (zt_gtI 3 1 (zt_rld (110 + 5) (zt_ifn (zb_Rp_learn_57 Q) (zb_Rp_learn_31 Q K7))))))
def zb_Rp_learn_7 (Q : zs_Q) (K7 : zs_P) : zs_P := zt_ald 0 (zt_gtI 3 1 (zt_ald 0 (zt_gtR 3 0 (zt_len (110 + 5) (zt_cmp (fun x y => y ≤ x) (zb_Rp_learn_57 Q) (zb_Rp_learn_19 Q K7))))))
def zl_Rp_learn_7 (Q : zs_Q) : zs_P := zt_ex (zb_Rp_learn_7 Q)
def zb_Rp_learn_0 (Q : zs_Q) : zs_P := zt_ald 0 (zt_gtR 3 0 (zt_ild 1 (zt_ald 2 (zt_ras 5 ((zl_Rp_learn_7 Q))))))
def zw_Rp_learn : zs_W := fun As σ Q => match As with
  | [a0, a1, a2] => zs_c1 [a0, a1, a2] = true ∧ zb_Rp_learn_0 Q [some a0, some a1, some a2] [] σ 0 0
  | _ => False
section
variable {p : Program} {l : Launch} {e : Env} {s : State} {m : MethodId} {args : Array Value} {below : List Frame} {meth : Method} {c : Code} {G : zs_G} {Q : zs_Q}
theorem zr_Rp_learn_57 (B : zs_B p s m args meth c G bb_Rp_learn 3 yy_Rp_learn none) : zA_Rp_learn p l e s m args below meth c G Q 57 (zb_Rp_learn_57 Q) := by
  unfold zb_Rp_learn_57
  exact za_vrt B.1 0 0 B.2.1 B.2.2.1 dd_Rp_learn_57
theorem zr_Rp_learn_31 (B : zs_B p s m args meth c G bb_Rp_learn 3 yy_Rp_learn none) {K7 : zs_P} (h7 : zA_Rp_learn p l e s m args below meth c G Q 7 K7) : zA_Rp_learn p l e s m args below meth c G Q 31 (zb_Rp_learn_31 Q K7) := by
  unfold zb_Rp_learn_31
  refine za_ald_n B.1 0 dd_Rp_learn_31 rfl ?_
  refine za_ald_n B.1 0 dd_Rp_learn_32 rfl ?_
  refine za_gtR B.1 3 0 zi_3 rfl (by decide) (by decide) rfl zW_78 rfl dd_Rp_learn_33 ?_
  refine za_ald_n B.1 0 dd_Rp_learn_36 rfl ?_
  refine za_gtI B.1 3 1 zi_3 rfl (by decide) (by decide) rfl zW_79 rfl dd_Rp_learn_37 ?_
  refine za_rld B.1 5 6 rfl dd_Rp_learn_40 ?_
  refine za_cV B.1 3 1 0 0 0 0 rfl rfl rfl (by decide) (zm_Rp_appendToLog l G) ⟨callB_of 1 B.1.1.2.2.2.2 (zs_good zW_252) rfl rfl rfl (B.1.1.2.2.2.2 _ zW_6) (B.1.1.2.2.2.2 _ zW_250) (by decide +kernel) ⟨by decide, by decide⟩, (B.1.1.2.2.2.2 _ zW_251), (B.1.1.2.2.2.2 _ zW_665)⟩ dd_Rp_learn_41 ?_
  refine za_ald_n B.1 0 dd_Rp_learn_44 rfl ?_
  refine za_dup B.1 dd_Rp_learn_45 ?_
  refine za_gtI B.1 3 1 zi_3 rfl (by decide) (by decide) rfl zW_79 rfl dd_Rp_learn_46 ?_
  refine za_ico B.1 1 dd_Rp_learn_49 (by decide) ?_
  refine za_add B.1 dd_Rp_learn_50 ?_
  refine za_ptI B.1 3 1 zi_3 zy_Rp zy_Rp_ok zn_Rp rfl (by decide) (by decide) rfl zW_79 rfl rfl rfl dd_Rp_learn_51 ?_
  refine za_goto B.1 7 dd_Rp_learn_54 (by decide) ?_
  exact h7
theorem zr_Rp_learn_19 (B : zs_B p s m args meth c G bb_Rp_learn 3 yy_Rp_learn none) {K7 : zs_P} (h7 : zA_Rp_learn p l e s m args below meth c G Q 7 K7) : zA_Rp_learn p l e s m args below meth c G Q 19 (zb_Rp_learn_19 Q K7) := by
  unfold zb_Rp_learn_19
  refine za_ald_n B.1 0 dd_Rp_learn_19 rfl ?_
  refine za_gtR B.1 3 0 zi_3 rfl (by decide) (by decide) rfl zW_78 rfl dd_Rp_learn_20 ?_
  refine za_ald_n B.1 0 dd_Rp_learn_23 rfl ?_
  refine za_gtI B.1 3 1 zi_3 rfl (by decide) (by decide) rfl zW_79 rfl dd_Rp_learn_24 ?_
  refine za_rld B.1 5 6 rfl dd_Rp_learn_27 ?_
  exact za_ifnull B.1 57 dd_Rp_learn_28 (by decide) (zr_Rp_learn_57 B) (zr_Rp_learn_31 B h7)
theorem zr_Rp_learn_7 (B : zs_B p s m args meth c G bb_Rp_learn 3 yy_Rp_learn none) {K7 : zs_P} (h7 : zA_Rp_learn p l e s m args below meth c G Q 7 K7) : zA_Rp_learn p l e s m args below meth c G Q 7 (zb_Rp_learn_7 Q K7) := by
  unfold zb_Rp_learn_7
  refine za_ald_n B.1 0 dd_Rp_learn_7 rfl ?_
  refine za_gtI B.1 3 1 zi_3 rfl (by decide) (by decide) rfl zW_79 rfl dd_Rp_learn_8 ?_
  refine za_ald_n B.1 0 dd_Rp_learn_11 rfl ?_
  refine za_gtR B.1 3 0 zi_3 rfl (by decide) (by decide) rfl zW_78 rfl dd_Rp_learn_12 ?_
  refine za_len B.1 (110 + 5) 6 (by decide) rfl dd_Rp_learn_15 ?_
  exact za_cmp_ge B.1 57 dd_Rp_learn_16 (by decide) (zr_Rp_learn_57 B) (zr_Rp_learn_19 B h7)
theorem zq_Rp_learn_7 (B : zs_B p s m args meth c G bb_Rp_learn 3 yy_Rp_learn none) : zA_Rp_learn p l e s m args below meth c G Q 7 (zl_Rp_learn_7 Q) := za_lop (fun K hK => zr_Rp_learn_7 B hK)
theorem zr_Rp_learn_0 (B : zs_B p s m args meth c G bb_Rp_learn 3 yy_Rp_learn none) : zA_Rp_learn p l e s m args below meth c G Q 0 (zb_Rp_learn_0 Q) := by
  unfold zb_Rp_learn_0
  refine za_ald_n B.1 0 dd_Rp_learn_0 rfl ?_
  refine za_gtR B.1 3 0 zi_3 rfl (by decide) (by decide) rfl zW_78 rfl dd_Rp_learn_1 ?_
  refine za_ild_n B.1 1 dd_Rp_learn_4 rfl ?_
  refine za_ald_n B.1 2 dd_Rp_learn_5 rfl ?_
  refine za_rast B.1 5 6 (by decide) rfl rfl dd_Rp_learn_6 ?_
  exact (zq_Rp_learn_7 B)
end
theorem zm_Rp_learn (l : Launch) (G : zs_G) (As : List Value) (σ : zs_S) (Q : zs_Q) (h : zw_Rp_learn As σ Q) : zs_Met l yy_Rp_learn (Cond.code yy_Rp_learn bb_Rp_learn 3 none :: zw_all) zk_Rp_learn G As σ Q 0 0 := by
  unfold zw_Rp_learn at h
  split at h
  · exact zs_enter (by decide +kernel) h.1 (Nat.le_of_ble_eq_true rfl) h.2 (fun p e s m args below meth c B => zr_Rp_learn_0 B)
  · exact h.elim
