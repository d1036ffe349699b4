/-! Methods: SB_status, Rp_numberInLog, SB_logged, SB_admitted, SB_finished, Pa_readyCount, SB_ready, Pa_lockCount, SB_locks, SB_stored, Md_init (made by program) -/
-- SequencedBatches.status(I)I
theorem dd_SB_status_0 : decode bb_SB_status 0 = .ok (.iload_n 1, 1) := by decide +kernel
theorem dd_SB_status_1 : decode bb_SB_status 1 = .ok (.ifCond .lt 23, 3) := by decide +kernel
theorem dd_SB_status_4 : decode bb_SB_status 4 = .ok (.iload_n 1, 1) := by decide +kernel
theorem dd_SB_status_5 : decode bb_SB_status 5 = .ok (.aload_n 0, 1) := by decide +kernel
theorem dd_SB_status_6 : decode bb_SB_status 6 = .ok (.getfield 19, 3) := by decide +kernel
theorem dd_SB_status_9 : decode bb_SB_status 9 = .ok (.if_icmp .ge 15, 3) := by decide +kernel
theorem dd_SB_status_12 : decode bb_SB_status 12 = .ok (.aload_n 0, 1) := by decide +kernel
theorem dd_SB_status_13 : decode bb_SB_status 13 = .ok (.getfield 15, 3) := by decide +kernel
theorem dd_SB_status_16 : decode bb_SB_status 16 = .ok (.iload_n 1, 1) := by decide +kernel
theorem dd_SB_status_17 : decode bb_SB_status 17 = .ok (.aaload, 1) := by decide +kernel
theorem dd_SB_status_18 : decode bb_SB_status 18 = .ok (.invokevirtual 190, 3) := by decide +kernel
theorem dd_SB_status_21 : decode bb_SB_status 21 = .ok (.goto 4, 3) := by decide +kernel
theorem dd_SB_status_24 : decode bb_SB_status 24 = .ok (.iconst (-1), 1) := by decide +kernel
theorem dd_SB_status_25 : decode bb_SB_status 25 = .ok (.ireturn, 1) := by decide +kernel
def zk_SB_status : Room := { frames := 1, cells := 0, slots := 0, locals := 20 }
abbrev zA_SB_status (p : Program) (l : Launch) (e : Env) (s : State) (m : MethodId) (args : Array Value) (below : List Frame) (meth : Method) (c : Code) (G : zs_G) (Q : zs_Q) (pc : Nat) (P : zs_P) : Prop := zs_At p l e zk_SB_status s m args below meth c (MQ below (zs_Qc G Q) args s 0 0 (fun q => zg_z G ≤ q)) G 2 pc P
def zb_SB_status_25 (Q : zs_Q) : zs_P := zt_irt 0 0 Q
def zb_SB_status_24 (Q : zs_Q) : zs_P := zt_psh (-1) ((zb_SB_status_25 Q))
def zb_SB_status_12 (Q : zs_Q) : zs_P := zt_ald 0 (zt_gtR 7 2 (zt_ild 1 (zt_rld (110 + 6) (zt_cav 6 zw_Tr_currentStatus (0 + 1) 0 0 0 0 ((zb_SB_status_25 Q))))))
def zb_SB_status_4 (Q : zs_Q) : zs_P := zt_ild 1 (zt_ald 0 (zt_gtI 7 3 (zt_cmp (fun x y => y ≤ x) (zb_SB_status_24 Q) (zb_SB_status_12 Q))))
def zb_SB_status_0 (Q : zs_Q) : zs_P := zt_ild 1 (zt_if (fun x => x < 0) (zb_SB_status_24 Q) (zb_SB_status_4 Q))
def zw_SB_status : zs_W := fun As σ Q => match As with
  | [a0, a1] => zs_c1 [a0, a1] = true ∧ zb_SB_status_0 Q [some a0, some a1] [] σ 0 0
  | _ => False
section
variable {p : Program} {l : Launch} {e : Env} {s : State} {m : MethodId} {args : Array Value} {below : List Frame} {meth : Method} {c : Code} {G : zs_G} {Q : zs_Q}
theorem zr_SB_status_25 (B : zs_B p s m args meth c G bb_SB_status 2 yy_SB_status (some .int)) : zA_SB_status p l e s m args below meth c G Q 25 (zb_SB_status_25 Q) := by
  unfold zb_SB_status_25
  exact za_irt B.1 0 0 B.2.1 B.2.2.1 dd_SB_status_25
theorem zr_SB_status_24 (B : zs_B p s m args meth c G bb_SB_status 2 yy_SB_status (some .int)) : zA_SB_status p l e s m args below meth c G Q 24 (zb_SB_status_24 Q) := by
  unfold zb_SB_status_24
  refine za_ico B.1 (-1) dd_SB_status_24 (by decide) ?_
  exact (zr_SB_status_25 B)
theorem zr_SB_status_12 (B : zs_B p s m args meth c G bb_SB_status 2 yy_SB_status (some .int)) : zA_SB_status p l e s m args below meth c G Q 12 (zb_SB_status_12 Q) := by
  unfold zb_SB_status_12
  refine za_ald_n B.1 0 dd_SB_status_12 rfl ?_
  refine za_gtR B.1 7 2 zi_7 rfl (by decide) (by decide) rfl zW_90 rfl dd_SB_status_13 ?_
  refine za_ild_n B.1 1 dd_SB_status_16 rfl ?_
  refine za_rld B.1 6 2 rfl dd_SB_status_17 ?_
  refine za_cV B.1 6 0 0 0 0 0 rfl rfl rfl (by decide) (zm_Tr_currentStatus l G) ⟨callB_of 0 B.1.1.2.2.2.2 (zs_good zW_409) rfl rfl rfl (B.1.1.2.2.2.2 _ zW_9) (B.1.1.2.2.2.2 _ zW_406) (by decide +kernel) ⟨by decide, by decide⟩, (B.1.1.2.2.2.2 _ zW_407), (B.1.1.2.2.2.2 _ zW_408)⟩ dd_SB_status_18 ?_
  refine za_goto B.1 25 dd_SB_status_21 (by decide) ?_
  exact (zr_SB_status_25 B)
theorem zr_SB_status_4 (B : zs_B p s m args meth c G bb_SB_status 2 yy_SB_status (some .int)) : zA_SB_status p l e s m args below meth c G Q 4 (zb_SB_status_4 Q) := by
  unfold zb_SB_status_4
  refine za_ild_n B.1 1 dd_SB_status_4 rfl ?_
  refine za_ald_n B.1 0 dd_SB_status_5 rfl ?_
  refine za_gtI B.1 7 3 zi_7 rfl (by decide) (by decide) rfl zW_91 rfl dd_SB_status_6 ?_
  exact za_cmp_ge B.1 24 dd_SB_status_9 (by decide) (zr_SB_status_24 B) (zr_SB_status_12 B)
theorem zr_SB_status_0 (B : zs_B p s m args meth c G bb_SB_status 2 yy_SB_status (some .int)) : zA_SB_status p l e s m args below meth c G Q 0 (zb_SB_status_0 Q) := by
  unfold zb_SB_status_0
  refine za_ild_n B.1 1 dd_SB_status_0 rfl ?_
  exact za_if_lt B.1 24 dd_SB_status_1 (by decide) (zr_SB_status_24 B) (zr_SB_status_4 B)
end
theorem zm_SB_status (l : Launch) (G : zs_G) (As : List Value) (σ : zs_S) (Q : zs_Q) (h : zw_SB_status As σ Q) : zs_Met l yy_SB_status (Cond.code yy_SB_status bb_SB_status 2 (some .int) :: zw_all) zk_SB_status G As σ Q 0 0 := by
  unfold zw_SB_status at h
  split at h
  · exact zs_enter (by decide +kernel) h.1 (Nat.le_of_ble_eq_true rfl) h.2 (fun p e s m args below meth c B => zr_SB_status_0 B)
  · exact h.elim
-- SequencedBatches$Replica.numberInLog(I)I
theorem dd_Rp_numberInLog_0 : decode bb_Rp_numberInLog 0 = .ok (.iload_n 1, 1) := by decide +kernel
theorem dd_Rp_numberInLog_1 : decode bb_Rp_numberInLog 1 = .ok (.ifCond .lt 23, 3) := by decide +kernel
theorem dd_Rp_numberInLog_4 : decode bb_Rp_numberInLog 4 = .ok (.iload_n 1, 1) := by decide +kernel
theorem dd_Rp_numberInLog_5 : decode bb_Rp_numberInLog 5 = .ok (.aload_n 0, 1) := by decide +kernel
theorem dd_Rp_numberInLog_6 : decode bb_Rp_numberInLog 6 = .ok (.getfield 27, 3) := by decide +kernel
theorem dd_Rp_numberInLog_9 : decode bb_Rp_numberInLog 9 = .ok (.if_icmp .ge 15, 3) := by decide +kernel
theorem dd_Rp_numberInLog_12 : decode bb_Rp_numberInLog 12 = .ok (.aload_n 0, 1) := by decide +kernel
theorem dd_Rp_numberInLog_13 : decode bb_Rp_numberInLog 13 = .ok (.getfield 23, 3) := by decide +kernel
theorem dd_Rp_numberInLog_16 : decode bb_Rp_numberInLog 16 = .ok (.iload_n 1, 1) := by decide +kernel
theorem dd_Rp_numberInLog_17 : decode bb_Rp_numberInLog 17 = .ok (.aaload, 1) := by decide +kernel
theorem dd_Rp_numberInLog_18 : decode bb_Rp_numberInLog 18 = .ok (.getfield 66, 3) := by decide +kernel
theorem dd_Rp_numberInLog_21 : decode bb_Rp_numberInLog 21 = .ok (.goto 4, 3) := by decide +kernel
theorem dd_Rp_numberInLog_24 : decode bb_Rp_numberInLog 24 = .ok (.iconst (-1), 1) := by decide +kernel
theorem dd_Rp_numberInLog_25 : decode bb_Rp_numberInLog 25 = .ok (.ireturn, 1) := by decide +kernel
def zk_Rp_numberInLog : Room := { frames := 0, cells := 0, slots := 0, locals := 0 }
abbrev zA_Rp_numberInLog (p : Program) (l : Launch) (e : Env) (s : State) (m : MethodId) (args : Array Value) (below : List Frame) (meth : Method) (c : Code) (G : zs_G) (Q : zs_Q) (pc : Nat) (P : zs_P) : Prop := zs_At p l e zk_Rp_numberInLog s m args below meth c (MQ below (zs_Qc G Q) args s 0 0 (fun q => zg_z G ≤ q)) G 2 pc P
def zb_Rp_numberInLog_25 (Q : zs_Q) : zs_P := zt_irt 0 0 Q
def zb_Rp_numberInLog_24 (Q : zs_Q) : zs_P := zt_psh (-1) ((zb_Rp_numberInLog_25 Q))
def zb_Rp_numberInLog_12 (Q : zs_Q) : zs_P := zt_ald 0 (zt_gtR 3 2 (zt_ild 1 (zt_rld (110 + 6) (zt_gtI 6 0 ((zb_Rp_numberInLog_25 Q))))))
def zb_Rp_numberInLog_4 (Q : zs_Q) : zs_P := zt_ild 1 (zt_ald 0 (zt_gtI 3 3 (zt_cmp (fun x y => y ≤ x) (zb_Rp_numberInLog_24 Q) (zb_Rp_numberInLog_12 Q))))
def zb_Rp_numberInLog_0 (Q : zs_Q) : zs_P := zt_ild 1 (zt_if (fun x => x < 0) (zb_Rp_numberInLog_24 Q) (zb_Rp_numberInLog_4 Q))
def zw_Rp_numberInLog : zs_W := fun As σ Q => match As with
  | [a0, a1] => zs_c1 [a0, a1] = true ∧ zb_Rp_numberInLog_0 Q [some a0, some a1] [] σ 0 0
  | _ => False
section
variable {p : Program} {l : Launch} {e : Env} {s : State} {m : MethodId} {args : Array Value} {below : List Frame} {meth : Method} {c : Code} {G : zs_G} {Q : zs_Q}
theorem zr_Rp_numberInLog_25 (B : zs_B p s m args meth c G bb_Rp_numberInLog 2 yy_Rp_numberInLog (some .int)) : zA_Rp_numberInLog p l e s m args below meth c G Q 25 (zb_Rp_numberInLog_25 Q) := by
  unfold zb_Rp_numberInLog_25
  exact za_irt B.1 0 0 B.2.1 B.2.2.1 dd_Rp_numberInLog_25
theorem zr_Rp_numberInLog_24 (B : zs_B p s m args meth c G bb_Rp_numberInLog 2 yy_Rp_numberInLog (some .int)) : zA_Rp_numberInLog p l e s m args below meth c G Q 24 (zb_Rp_numberInLog_24 Q) := by
  unfold zb_Rp_numberInLog_24
  refine za_ico B.1 (-1) dd_Rp_numberInLog_24 (by decide) ?_
  exact (zr_Rp_numberInLog_25 B)
theorem zr_Rp_numberInLog_12 (B : zs_B p s m args meth c G bb_Rp_numberInLog 2 yy_Rp_numberInLog (some .int)) : zA_Rp_numberInLog p l e s m args below meth c G Q 12 (zb_Rp_numberInLog_12 Q) := by
  unfold zb_Rp_numberInLog_12
  refine za_ald_n B.1 0 dd_Rp_numberInLog_12 rfl ?_
  refine za_gtR B.1 3 2 zi_3 rfl (by decide) (by decide) rfl zW_80 rfl dd_Rp_numberInLog_13 ?_
  refine za_ild_n B.1 1 dd_Rp_numberInLog_16 rfl ?_
  refine za_rld B.1 6 2 rfl dd_Rp_numberInLog_17 ?_
  refine za_gtIN (host := "SequencedBatches") B.1 6 0 zi_6 rfl (by decide) (by decide) rfl (by decide +kernel) rfl dd_Rp_numberInLog_18 ?_
  refine za_goto B.1 25 dd_Rp_numberInLog_21 (by decide) ?_
  exact (zr_Rp_numberInLog_25 B)
theorem zr_Rp_numberInLog_4 (B : zs_B p s m args meth c G bb_Rp_numberInLog 2 yy_Rp_numberInLog (some .int)) : zA_Rp_numberInLog p l e s m args below meth c G Q 4 (zb_Rp_numberInLog_4 Q) := by
  unfold zb_Rp_numberInLog_4
  refine za_ild_n B.1 1 dd_Rp_numberInLog_4 rfl ?_
  refine za_ald_n B.1 0 dd_Rp_numberInLog_5 rfl ?_
  refine za_gtI B.1 3 3 zi_3 rfl (by decide) (by decide) rfl zW_81 rfl dd_Rp_numberInLog_6 ?_
  exact za_cmp_ge B.1 24 dd_Rp_numberInLog_9 (by decide) (zr_Rp_numberInLog_24 B) (zr_Rp_numberInLog_12 B)
theorem zr_Rp_numberInLog_0 (B : zs_B p s m args meth c G bb_Rp_numberInLog 2 yy_Rp_numberInLog (some .int)) : zA_Rp_numberInLog p l e s m args below meth c G Q 0 (zb_Rp_numberInLog_0 Q) := by
  unfold zb_Rp_numberInLog_0
  refine za_ild_n B.1 1 dd_Rp_numberInLog_0 rfl ?_
  exact za_if_lt B.1 24 dd_Rp_numberInLog_1 (by decide) (zr_Rp_numberInLog_24 B) (zr_Rp_numberInLog_4 B)
end
theorem zm_Rp_numberInLog (l : Launch) (G : zs_G) (As : List Value) (σ : zs_S) (Q : zs_Q) (h : zw_Rp_numberInLog As σ Q) : zs_Met l yy_Rp_numberInLog (Cond.code yy_Rp_numberInLog bb_Rp_numberInLog 2 (some .int) :: zw_all) zk_Rp_numberInLog G As σ Q 0 0 := by
  unfold zw_Rp_numberInLog at h
  split at h
  · exact zs_enter (by decide +kernel) h.1 (Nat.le_of_ble_eq_true rfl) h.2 (fun p e s m args below meth c B => zr_Rp_numberInLog_0 B)
  · exact h.elim
-- SequencedBatches.logged(II)I
theorem dd_SB_logged_0 : decode bb_SB_logged 0 = .ok (.iload_n 1, 1) := by decide +kernel
theorem dd_SB_logged_1 : decode bb_SB_logged 1 = .ok (.ifCond .lt 21, 3) := by decide +kernel
theorem dd_SB_logged_4 : decode bb_SB_logged 4 = .ok (.iload_n 1, 1) := by decide +kernel
theorem dd_SB_logged_5 : decode bb_SB_logged 5 = .ok (.iconst 2, 1) := by decide +kernel
theorem dd_SB_logged_6 : decode bb_SB_logged 6 = .ok (.if_icmp .ge 16, 3) := by decide +kernel
theorem dd_SB_logged_9 : decode bb_SB_logged 9 = .ok (.aload_n 0, 1) := by decide +kernel
theorem dd_SB_logged_10 : decode bb_SB_logged 10 = .ok (.getfield 44, 3) := by decide +kernel
theorem dd_SB_logged_13 : decode bb_SB_logged 13 = .ok (.iload_n 1, 1) := by decide +kernel
theorem dd_SB_logged_14 : decode bb_SB_logged 14 = .ok (.aaload, 1) := by decide +kernel
theorem dd_SB_logged_15 : decode bb_SB_logged 15 = .ok (.iload_n 2, 1) := by decide +kernel
theorem dd_SB_logged_16 : decode bb_SB_logged 16 = .ok (.invokevirtual 193, 3) := by decide +kernel
theorem dd_SB_logged_19 : decode bb_SB_logged 19 = .ok (.goto 4, 3) := by decide +kernel
theorem dd_SB_logged_22 : decode bb_SB_logged 22 = .ok (.iconst (-1), 1) := by decide +kernel
theorem dd_SB_logged_23 : decode bb_SB_logged 23 = .ok (.ireturn, 1) := by decide +kernel
def zk_SB_logged : Room := { frames := 1, cells := 0, slots := 0, locals := 21 }
abbrev zA_SB_logged (p : Program) (l : Launch) (e : Env) (s : State) (m : MethodId) (args : Array Value) (below : List Frame) (meth : Method) (c : Code) (G : zs_G) (Q : zs_Q) (pc : Nat) (P : zs_P) : Prop := zs_At p l e zk_SB_logged s m args below meth c (MQ below (zs_Qc G Q) args s 0 0 (fun q => zg_z G ≤ q)) G 3 pc P
def zb_SB_logged_23 (Q : zs_Q) : zs_P := zt_irt 0 0 Q
def zb_SB_logged_22 (Q : zs_Q) : zs_P := zt_psh (-1) ((zb_SB_logged_23 Q))
def zb_SB_logged_9 (Q : zs_Q) : zs_P := zt_ald 0 (zt_gtR 7 7 (zt_ild 1 (zt_rld (110 + 3) (zt_ild 2 (zt_cav 3 zw_Rp_numberInLog (1 + 1) 0 0 0 0 ((zb_SB_logged_23 Q)))))))
def zb_SB_logged_4 (Q : zs_Q) : zs_P := zt_ild 1 (zt_psh 2 (zt_cmp (fun x y => y ≤ x) (zb_SB_logged_22 Q) (zb_SB_logged_9 Q)))
def zb_SB_logged_0 (Q : zs_Q) : zs_P := zt_ild 1 (zt_if (fun x => x < 0) (zb_SB_logged_22 Q) (zb_SB_logged_4 Q))
def zw_SB_logged : zs_W := fun As σ Q => match As with
  | [a0, a1, a2] => zs_c1 [a0, a1, a2] = true ∧ zb_SB_logged_0 Q [some a0, some a1, some a2] [] σ 0 0
  | _ => False
section
variable {p : Program} {l : Launch} {e : Env} {s : State} {m : MethodId} {args : Array Value} {below : List Frame} {meth : Method} {c : Code} {G : zs_G} {Q : zs_Q}
theorem zr_SB_logged_23 (B : zs_B p s m args meth c G bb_SB_logged 3 yy_SB_logged (some .int)) : zA_SB_logged p l e s m args below meth c G Q 23 (zb_SB_logged_23 Q) := by
  unfold zb_SB_logged_23
  exact za_irt B.1 0 0 B.2.1 B.2.2.1 dd_SB_logged_23
theorem zr_SB_logged_22 (B : zs_B p s m args meth c G bb_SB_logged 3 yy_SB_logged (some .int)) : zA_SB_logged p l e s m args below meth c G Q 22 (zb_SB_logged_22 Q) := by
  unfold zb_SB_logged_22
  refine za_ico B.1 (-1) dd_SB_logged_22 (by decide) ?_
  exact (zr_SB_logged_23 B)
theorem zr_SB_logged_9 (B : zs_B p s m args meth c G bb_SB_logged 3 yy_SB_logged (some .int)) : zA_SB_logged p l e s m args below meth c G Q 9 (zb_SB_logged_9 Q) := by
  unfold zb_SB_logged_9
  refine za_ald_n B.1 0 dd_SB_logged_9 rfl ?_
  refine za_gtR B.1 7 7 zi_7 rfl (by decide) (by decide) rfl zW_95 rfl dd_SB_logged_10 ?_
  refine za_ild_n B.1 1 dd_SB_logged_13 rfl ?_
  refine za_rld B.1 3 5 rfl dd_SB_logged_14 ?_
  refine za_ild_n B.1 2 dd_SB_logged_15 rfl ?_
  refine za_cV B.1 3 1 0 0 0 0 rfl rfl rfl (by decide) (zm_Rp_numberInLog l G) ⟨callB_of 1 B.1.1.2.2.2.2 (zs_good zW_417) rfl rfl rfl (B.1.1.2.2.2.2 _ zW_6) (B.1.1.2.2.2.2 _ zW_414) (by decide +kernel) ⟨by decide, by decide⟩, (B.1.1.2.2.2.2 _ zW_415), (B.1.1.2.2.2.2 _ zW_416)⟩ dd_SB_logged_16 ?_
  refine za_goto B.1 23 dd_SB_logged_19 (by decide) ?_
  exact (zr_SB_logged_23 B)
theorem zr_SB_logged_4 (B : zs_B p s m args meth c G bb_SB_logged 3 yy_SB_logged (some .int)) : zA_SB_logged p l e s m args below meth c G Q 4 (zb_SB_logged_4 Q) := by
  unfold zb_SB_logged_4
  refine za_ild_n B.1 1 dd_SB_logged_4 rfl ?_
  refine za_ico B.1 2 dd_SB_logged_5 (by decide) ?_
  exact za_cmp_ge B.1 22 dd_SB_logged_6 (by decide) (zr_SB_logged_22 B) (zr_SB_logged_9 B)
theorem zr_SB_logged_0 (B : zs_B p s m args meth c G bb_SB_logged 3 yy_SB_logged (some .int)) : zA_SB_logged p l e s m args below meth c G Q 0 (zb_SB_logged_0 Q) := by
  unfold zb_SB_logged_0
  refine za_ild_n B.1 1 dd_SB_logged_0 rfl ?_
  exact za_if_lt B.1 22 dd_SB_logged_1 (by decide) (zr_SB_logged_22 B) (zr_SB_logged_4 B)
end
theorem zm_SB_logged (l : Launch) (G : zs_G) (As : List Value) (σ : zs_S) (Q : zs_Q) (h : zw_SB_logged As σ Q) : zs_Met l yy_SB_logged (Cond.code yy_SB_logged bb_SB_logged 3 (some .int) :: zw_all) zk_SB_logged G As σ Q 0 0 := by
  unfold zw_SB_logged at h
  split at h
  · exact zs_enter (by decide +kernel) h.1 (Nat.le_of_ble_eq_true rfl) h.2 (fun p e s m args below meth c B => zr_SB_logged_0 B)
  · exact h.elim
-- SequencedBatches.admitted(II)I
theorem dd_SB_admitted_0 : decode bb_SB_admitted 0 = .ok (.aload_n 0, 1) := by decide +kernel
theorem dd_SB_admitted_1 : decode bb_SB_admitted 1 = .ok (.iload_n 1, 1) := by decide +kernel
theorem dd_SB_admitted_2 : decode bb_SB_admitted 2 = .ok (.iload_n 2, 1) := by decide +kernel
theorem dd_SB_admitted_3 : decode bb_SB_admitted 3 = .ok (.invokevirtual 163, 3) := by decide +kernel
theorem dd_SB_admitted_6 : decode bb_SB_admitted 6 = .ok (.ifCond .eq 20, 3) := by decide +kernel
theorem dd_SB_admitted_9 : decode bb_SB_admitted 9 = .ok (.aload_n 0, 1) := by decide +kernel
theorem dd_SB_admitted_10 : decode bb_SB_admitted 10 = .ok (.getfield 44, 3) := by decide +kernel
theorem dd_SB_admitted_13 : decode bb_SB_admitted 13 = .ok (.iload_n 1, 1) := by decide +kernel
theorem dd_SB_admitted_14 : decode bb_SB_admitted 14 = .ok (.aaload, 1) := by decide +kernel
theorem dd_SB_admitted_15 : decode bb_SB_admitted 15 = .ok (.getfield 196, 3) := by decide +kernel
theorem dd_SB_admitted_18 : decode bb_SB_admitted 18 = .ok (.iload_n 2, 1) := by decide +kernel
theorem dd_SB_admitted_19 : decode bb_SB_admitted 19 = .ok (.aaload, 1) := by decide +kernel
theorem dd_SB_admitted_20 : decode bb_SB_admitted 20 = .ok (.getfield 199, 3) := by decide +kernel
theorem dd_SB_admitted_23 : decode bb_SB_admitted 23 = .ok (.goto 4, 3) := by decide +kernel
theorem dd_SB_admitted_26 : decode bb_SB_admitted 26 = .ok (.iconst (-1), 1) := by decide +kernel
theorem dd_SB_admitted_27 : decode bb_SB_admitted 27 = .ok (.ireturn, 1) := by decide +kernel
def zk_SB_admitted : Room := { frames := 2, cells := 0, slots := 0, locals := 43 }
abbrev zA_SB_admitted (p : Program) (l : Launch) (e : Env) (s : State) (m : MethodId) (args : Array Value) (below : List Frame) (meth : Method) (c : Code) (G : zs_G) (Q : zs_Q) (pc : Nat) (P : zs_P) : Prop := zs_At p l e zk_SB_admitted s m args below meth c (MQ below (zs_Qc G Q) args s 0 0 (fun q => zg_z G ≤ q)) G 3 pc P
def zb_SB_admitted_27 (Q : zs_Q) : zs_P := zt_irt 0 0 Q
def zb_SB_admitted_26 (Q : zs_Q) : zs_P := zt_psh (-1) ((zb_SB_admitted_27 Q))
def zb_SB_admitted_9 (Q : zs_Q) : zs_P := zt_ald 0 (zt_gtR 7 7 (zt_ild 1 (zt_rld (110 + 3) (zt_gtR 3 7 (zt_ild 2 (zt_rld (110 + 1) (zt_gtI 1 1 ((zb_SB_admitted_27 Q)))))))))
def zb_SB_admitted_0 (Q : zs_Q) : zs_P := zt_ald 0 (zt_ild 1 (zt_ild 2 (zt_cav 7 zw_SB_partitionIsUp (2 + 1) 0 0 0 0 (zt_if (fun x => x = 0) (zb_SB_admitted_26 Q) (zb_SB_admitted_9 Q)))))
def zw_SB_admitted : zs_W := fun As σ Q => match As with
  | [a0, a1, a2] => zs_c1 [a0, a1, a2] = true ∧ zb_SB_admitted_0 Q [some a0, some a1, some a2] [] σ 0 0
  | _ => False
section
variable {p : Program} {l : Launch} {e : Env} {s : State} {m : MethodId} {args : Array Value} {below : List Frame} {meth : Method} {c : Code} {G : zs_G} {Q : zs_Q}
theorem zr_SB_admitted_27 (B : zs_B p s m args meth c G bb_SB_admitted 3 yy_SB_admitted (some .int)) : zA_SB_admitted p l e s m args below meth c G Q 27 (zb_SB_admitted_27 Q) := by
  unfold zb_SB_admitted_27
  exact za_irt B.1 0 0 B.2.1 B.2.2.1 dd_SB_admitted_27
theorem zr_SB_admitted_26 (B : zs_B p s m args meth c G bb_SB_admitted 3 yy_SB_admitted (some .int)) : zA_SB_admitted p l e s m args below meth c G Q 26 (zb_SB_admitted_26 Q) := by
  unfold zb_SB_admitted_26
  refine za_ico B.1 (-1) dd_SB_admitted_26 (by decide) ?_
  exact (zr_SB_admitted_27 B)
theorem zr_SB_admitted_9 (B : zs_B p s m args meth c G bb_SB_admitted 3 yy_SB_admitted (some .int)) : zA_SB_admitted p l e s m args below meth c G Q 9 (zb_SB_admitted_9 Q) := by
  unfold zb_SB_admitted_9
  refine za_ald_n B.1 0 dd_SB_admitted_9 rfl ?_
  refine za_gtR B.1 7 7 zi_7 rfl (by decide) (by decide) rfl zW_95 rfl dd_SB_admitted_10 ?_
  refine za_ild_n B.1 1 dd_SB_admitted_13 rfl ?_
  refine za_rld B.1 3 5 rfl dd_SB_admitted_14 ?_
  refine za_gtRN (host := "SequencedBatches") B.1 3 7 zi_3 rfl (by decide) (by decide) rfl (by decide +kernel) rfl dd_SB_admitted_15 ?_
  refine za_ild_n B.1 2 dd_SB_admitted_18 rfl ?_
  refine za_rld B.1 1 7 rfl dd_SB_admitted_19 ?_
  refine za_gtIN (host := "SequencedBatches") B.1 1 1 zi_1 rfl (by decide) (by decide) rfl (by decide +kernel) rfl dd_SB_admitted_20 ?_
  refine za_goto B.1 27 dd_SB_admitted_23 (by decide) ?_
  exact (zr_SB_admitted_27 B)
theorem zr_SB_admitted_0 (B : zs_B p s m args meth c G bb_SB_admitted 3 yy_SB_admitted (some .int)) : zA_SB_admitted p l e s m args below meth c G Q 0 (zb_SB_admitted_0 Q) := by
  unfold zb_SB_admitted_0
  refine za_ald_n B.1 0 dd_SB_admitted_0 rfl ?_
  refine za_ild_n B.1 1 dd_SB_admitted_1 rfl ?_
  refine za_ild_n B.1 2 dd_SB_admitted_2 rfl ?_
  refine za_cV B.1 7 2 0 0 0 0 rfl rfl rfl (by decide) (zm_SB_partitionIsUp l G) ⟨callB_of 2 B.1.1.2.2.2.2 (zs_good zW_339) rfl rfl rfl (B.1.1.2.2.2.2 _ zW_1) (B.1.1.2.2.2.2 _ zW_337) (by decide +kernel) ⟨by decide, by decide⟩, (B.1.1.2.2.2.2 _ zW_338), (B.1.1.2.2.2.2 _ zW_672)⟩ dd_SB_admitted_3 ?_
  exact za_if_eq B.1 26 dd_SB_admitted_6 (by decide) (zr_SB_admitted_26 B) (zr_SB_admitted_9 B)
end
theorem zm_SB_admitted (l : Launch) (G : zs_G) (As : List Value) (σ : zs_S) (Q : zs_Q) (h : zw_SB_admitted As σ Q) : zs_Met l yy_SB_admitted (Cond.code yy_SB_admitted bb_SB_admitted 3 (some .int) :: zw_all) zk_SB_admitted G As σ Q 0 0 := by
  unfold zw_SB_admitted at h
  split at h
  · exact zs_enter (by decide +kernel) h.1 (Nat.le_of_ble_eq_true rfl) h.2 (fun p e s m args below meth c B => zr_SB_admitted_0 B)
  · exact h.elim
-- SequencedBatches.finished(II)I
theorem dd_SB_finished_0 : decode bb_SB_finished 0 = .ok (.aload_n 0, 1) := by decide +kernel
theorem dd_SB_finished_1 : decode bb_SB_finished 1 = .ok (.iload_n 1, 1) := by decide +kernel
theorem dd_SB_finished_2 : decode bb_SB_finished 2 = .ok (.iload_n 2, 1) := by decide +kernel
theorem dd_SB_finished_3 : decode bb_SB_finished 3 = .ok (.invokevirtual 163, 3) := by decide +kernel
theorem dd_SB_finished_6 : decode bb_SB_finished 6 = .ok (.ifCond .eq 20, 3) := by decide +kernel
theorem dd_SB_finished_9 : decode bb_SB_finished 9 = .ok (.aload_n 0, 1) := by decide +kernel
theorem dd_SB_finished_10 : decode bb_SB_finished 10 = .ok (.getfield 44, 3) := by decide +kernel
theorem dd_SB_finished_13 : decode bb_SB_finished 13 = .ok (.iload_n 1, 1) := by decide +kernel
theorem dd_SB_finished_14 : decode bb_SB_finished 14 = .ok (.aaload, 1) := by decide +kernel
theorem dd_SB_finished_15 : decode bb_SB_finished 15 = .ok (.getfield 196, 3) := by decide +kernel
theorem dd_SB_finished_18 : decode bb_SB_finished 18 = .ok (.iload_n 2, 1) := by decide +kernel
theorem dd_SB_finished_19 : decode bb_SB_finished 19 = .ok (.aaload, 1) := by decide +kernel
theorem dd_SB_finished_20 : decode bb_SB_finished 20 = .ok (.invokevirtual 204, 3) := by decide +kernel
theorem dd_SB_finished_23 : decode bb_SB_finished 23 = .ok (.goto 4, 3) := by decide +kernel
theorem dd_SB_finished_26 : decode bb_SB_finished 26 = .ok (.iconst (-1), 1) := by decide +kernel
theorem dd_SB_finished_27 : decode bb_SB_finished 27 = .ok (.ireturn, 1) := by decide +kernel
def zk_SB_finished : Room := { frames := 2, cells := 0, slots := 0, locals := 43 }
abbrev zA_SB_finished (p : Program) (l : Launch) (e : Env) (s : State) (m : MethodId) (args : Array Value) (below : List Frame) (meth : Method) (c : Code) (G : zs_G) (Q : zs_Q) (pc : Nat) (P : zs_P) : Prop := zs_At p l e zk_SB_finished s m args below meth c (MQ below (zs_Qc G Q) args s 0 0 (fun q => zg_z G ≤ q)) G 3 pc P
def zb_SB_finished_27 (Q : zs_Q) : zs_P := zt_irt 0 0 Q
def zb_SB_finished_26 (Q : zs_Q) : zs_P := zt_psh (-1) ((zb_SB_finished_27 Q))
def zb_SB_finished_9 (Q : zs_Q) : zs_P := zt_ald 0 (zt_gtR 7 7 (zt_ild 1 (zt_rld (110 + 3) (zt_gtR 3 7 (zt_ild 2 (zt_rld (110 + 1) (zt_cav 1 zw_Pa_finishedCount (0 + 1) 0 0 0 0 ((zb_SB_finished_27 Q)))))))))
def zb_SB_finished_0 (Q : zs_Q) : zs_P := zt_ald 0 (zt_ild 1 (zt_ild 2 (zt_cav 7 zw_SB_partitionIsUp (2 + 1) 0 0 0 0 (zt_if (fun x => x = 0) (zb_SB_finished_26 Q) (zb_SB_finished_9 Q)))))
def zw_SB_finished : zs_W := fun As σ Q => match As with
  | [a0, a1, a2] => zs_c1 [a0, a1, a2] = true ∧ zb_SB_finished_0 Q [some a0, some a1, some a2] [] σ 0 0
  | _ => False
section
variable {p : Program} {l : Launch} {e : Env} {s : State} {m : MethodId} {args : Array Value} {below : List Frame} {meth : Method} {c : Code} {G : zs_G} {Q : zs_Q}
theorem zr_SB_finished_27 (B : zs_B p s m args meth c G bb_SB_finished 3 yy_SB_finished (some .int)) : zA_SB_finished p l e s m args below meth c G Q 27 (zb_SB_finished_27 Q) := by
  unfold zb_SB_finished_27
  exact za_irt B.1 0 0 B.2.1 B.2.2.1 dd_SB_finished_27
theorem zr_SB_finished_26 (B : zs_B p s m args meth c G bb_SB_finished 3 yy_SB_finished (some .int)) : zA_SB_finished p l e s m args below meth c G Q 26 (zb_SB_finished_26 Q) := by
  unfold zb_SB_finished_26
  refine za_ico B.1 (-1) dd_SB_finished_26 (by decide) ?_
  exact (zr_SB_finished_27 B)
theorem zr_SB_finished_9 (B : zs_B p s m args meth c G bb_SB_finished 3 yy_SB_finished (some .int)) : zA_SB_finished p l e s m args below meth c G Q 9 (zb_SB_finished_9 Q) := by
  unfold zb_SB_finished_9
  refine za_ald_n B.1 0 dd_SB_finished_9 rfl ?_
  refine za_gtR B.1 7 7 zi_7 rfl (by decide) (by decide) rfl zW_95 rfl dd_SB_finished_10 ?_
  refine za_ild_n B.1 1 dd_SB_finished_13 rfl ?_
  refine za_rld B.1 3 5 rfl dd_SB_finished_14 ?_
  refine za_gtRN (host := "SequencedBatches") B.1 3 7 zi_3 rfl (by decide) (by decide) rfl (by decide +kernel) rfl dd_SB_finished_15 ?_
  refine za_ild_n B.1 2 dd_SB_finished_18 rfl ?_
  refine za_rld B.1 1 7 rfl dd_SB_finished_19 ?_
  refine za_cV B.1 1 0 0 0 0 0 rfl rfl rfl (by decide) (zm_Pa_finishedCount l G) ⟨callB_of 0 B.1.1.2.2.2.2 (zs_good zW_396) rfl rfl rfl (B.1.1.2.2.2.2 _ zW_7) (B.1.1.2.2.2.2 _ zW_426) (by decide +kernel) ⟨by decide, by decide⟩, (B.1.1.2.2.2.2 _ zW_394), (B.1.1.2.2.2.2 _ zW_395)⟩ dd_SB_finished_20 ?_
  refine za_goto B.1 27 dd_SB_finished_23 (by decide) ?_
  exact (zr_SB_finished_27 B)
theorem zr_SB_finished_0 (B : zs_B p s m args meth c G bb_SB_finished 3 yy_SB_finished (some .int)) : zA_SB_finished p l e s m args below meth c G Q 0 (zb_SB_finished_0 Q) := by
  unfold zb_SB_finished_0
  refine za_ald_n B.1 0 dd_SB_finished_0 rfl ?_
  refine za_ild_n B.1 1 dd_SB_finished_1 rfl ?_
  refine za_ild_n B.1 2 dd_SB_finished_2 rfl ?_
  refine za_cV B.1 7 2 0 0 0 0 rfl rfl rfl (by decide) (zm_SB_partitionIsUp l G) ⟨callB_of 2 B.1.1.2.2.2.2 (zs_good zW_339) rfl rfl rfl (B.1.1.2.2.2.2 _ zW_1) (B.1.1.2.2.2.2 _ zW_337) (by decide +kernel) ⟨by decide, by decide⟩, (B.1.1.2.2.2.2 _ zW_338), (B.1.1.2.2.2.2 _ zW_672)⟩ dd_SB_finished_3 ?_
  exact za_if_eq B.1 26 dd_SB_finished_6 (by decide) (zr_SB_finished_26 B) (zr_SB_finished_9 B)
end
theorem zm_SB_finished (l : Launch) (G : zs_G) (As : List Value) (σ : zs_S) (Q : zs_Q) (h : zw_SB_finished As σ Q) : zs_Met l yy_SB_finished (Cond.code yy_SB_finished bb_SB_finished 3 (some .int) :: zw_all) zk_SB_finished G As σ Q 0 0 := by
  unfold zw_SB_finished at h
  split at h
  · exact zs_enter (by decide +kernel) h.1 (Nat.le_of_ble_eq_true rfl) h.2 (fun p e s m args below meth c B => zr_SB_finished_0 B)
  · exact h.elim
-- SequencedBatches$Partition.readyCount()I
theorem dd_Pa_readyCount_0 : decode bb_Pa_readyCount 0 = .ok (.iconst 0, 1) := by decide +kernel
theorem dd_Pa_readyCount_1 : decode bb_Pa_readyCount 1 = .ok (.istore_n 1, 1) := by decide +kernel
theorem dd_Pa_readyCount_2 : decode bb_Pa_readyCount 2 = .ok (.iconst 0, 1) := by decide +kernel
theorem dd_Pa_readyCount_3 : decode bb_Pa_readyCount 3 = .ok (.istore_n 2, 1) := by decide +kernel
theorem dd_Pa_readyCount_4 : decode bb_Pa_readyCount 4 = .ok (.iload_n 2, 1) := by decide +kernel
theorem dd_Pa_readyCount_5 : decode bb_Pa_readyCount 5 = .ok (.aload_n 0, 1) := by decide +kernel
theorem dd_Pa_readyCount_6 : decode bb_Pa_readyCount 6 = .ok (.getfield 25, 3) := by decide +kernel
theorem dd_Pa_readyCount_9 : decode bb_Pa_readyCount 9 = .ok (.if_icmp .ge 25, 3) := by decide +kernel
theorem dd_Pa_readyCount_12 : decode bb_Pa_readyCount 12 = .ok (.iload_n 1, 1) := by decide +kernel
theorem dd_Pa_readyCount_13 : decode bb_Pa_readyCount 13 = .ok (.aload_n 0, 1) := by decide +kernel
theorem dd_Pa_readyCount_14 : decode bb_Pa_readyCount 14 = .ok (.iload_n 2, 1) := by decide +kernel
theorem dd_Pa_readyCount_15 : decode bb_Pa_readyCount 15 = .ok (.invokevirtual 39, 3) := by decide +kernel
theorem dd_Pa_readyCount_18 : decode bb_Pa_readyCount 18 = .ok (.ifCond .eq 7, 3) := by decide +kernel
theorem dd_Pa_readyCount_21 : decode bb_Pa_readyCount 21 = .ok (.iconst 1, 1) := by decide +kernel
theorem dd_Pa_readyCount_22 : decode bb_Pa_readyCount 22 = .ok (.goto 4, 3) := by decide +kernel
theorem dd_Pa_readyCount_25 : decode bb_Pa_readyCount 25 = .ok (.iconst 0, 1) := by decide +kernel
theorem dd_Pa_readyCount_26 : decode bb_Pa_readyCount 26 = .ok (.iadd, 1) := by decide +kernel
theorem dd_Pa_readyCount_27 : decode bb_Pa_readyCount 27 = .ok (.istore_n 1, 1) := by decide +kernel
theorem dd_Pa_readyCount_28 : decode bb_Pa_readyCount 28 = .ok (.iinc 2 1, 3) := by decide +kernel
theorem dd_Pa_readyCount_31 : decode bb_Pa_readyCount 31 = .ok (.goto (-27), 3) := by decide +kernel
theorem dd_Pa_readyCount_34 : decode bb_Pa_readyCount 34 = .ok (.iload_n 1, 1) := by decide +kernel
theorem dd_Pa_readyCount_35 : decode bb_Pa_readyCount 35 = .ok (.ireturn, 1) := by decide +kernel
def zk_Pa_readyCount : Room := { frames := 3, cells := 0, slots := 0, locals := 65 }
abbrev zA_Pa_readyCount (p : Program) (l : Launch) (e : Env) (s : State) (m : MethodId) (args : Array Value) (below : List Frame) (meth : Method) (c : Code) (G : zs_G) (Q : zs_Q) (pc : Nat) (P : zs_P) : Prop := zs_At p l e zk_Pa_readyCount s m args below meth c (MQ below (zs_Qc G Q) args s 0 0 (fun q => zg_z G ≤ q)) G 3 pc P
def zb_Pa_readyCount_34 (Q : zs_Q) : zs_P := zt_ild 1 (zt_irt 0 0 Q)
def zb_Pa_readyCount_26 (Q : zs_Q) (K4 : zs_P) : zs_P := zt_bin (fun x y => x + y) (zt_ist 1 (zt_inc 2 1 (K4)))
def zb_Pa_readyCount_25 (Q : zs_Q) (K4 : zs_P) : zs_P := zt_psh 0 ((zb_Pa_readyCount_26 Q K4))
def zb_Pa_readyCount_21 (Q : zs_Q) (K4 : zs_P) : zs_P := zt_psh 1 ((zb_Pa_readyCount_26 Q K4))
def zb_Pa_readyCount_12 (Q : zs_Q) (K4 : zs_P) : zs_P := zt_ild 1 (zt_ald 0 (zt_ild 2 (zt_cav 1 zw_Pa_isReady (1 + 1) 0 0 0 0 (zt_if (fun x => x = 0) (zb_Pa_readyCount_25 Q K4) (zb_Pa_readyCount_21 Q K4)))))
def zb_Pa_readyCount_4 (Q : zs_Q) (K4 : zs_P) : zs_P := zt_ild 2 (zt_ald 0 (zt_gtI 1 4 (zt_cmp (fun x y => y ≤ x) (zb_Pa_readyCount_34 Q) (zb_Pa_readyCount_12 Q K4))))
def zl_Pa_readyCount_4 (Q : zs_Q) : zs_P := zt_ex (zb_Pa_readyCount_4 Q)
def zb_Pa_readyCount_0 (Q : zs_Q) : zs_P := zt_psh 0 (zt_ist 1 (zt_psh 0 (zt_ist 2 ((zl_Pa_readyCount_4 Q)))))
def zw_Pa_readyCount : zs_W := fun As σ Q => match As with
  | [a0] => zs_c1 [a0] = true ∧ zb_Pa_readyCount_0 Q [some a0, none, none] [] σ 0 0
  | _ => False
section
variable {p : Program} {l : Launch} {e : Env} {s : State} {m : MethodId} {args : Array Value} {below : List Frame} {meth : Method} {c : Code} {G : zs_G} {Q : zs_Q}
theorem zr_Pa_readyCount_34 (B : zs_B p s m args meth c G bb_Pa_readyCount 3 yy_Pa_readyCount (some .int)) : zA_Pa_readyCount p l e s m args below meth c G Q 34 (zb_Pa_readyCount_34 Q) := by
  unfold zb_Pa_readyCount_34
  refine za_ild_n B.1 1 dd_Pa_readyCount_34 rfl ?_
  exact za_irt B.1 0 0 B.2.1 B.2.2.1 dd_Pa_readyCount_35
theorem zr_Pa_readyCount_26 (B : zs_B p s m args meth c G bb_Pa_readyCount 3 yy_Pa_readyCount (some .int)) {K4 : zs_P} (h4 : zA_Pa_readyCount p l e s m args below meth c G Q 4 K4) : zA_Pa_readyCount p l e s m args below meth c G Q 26 (zb_Pa_readyCount_26 Q K4) := by
  unfold zb_Pa_readyCount_26
  refine za_add B.1 dd_Pa_readyCount_26 ?_
  refine za_ist_n B.1 1 dd_Pa_readyCount_27 rfl (by decide) ?_
  refine za_inc B.1 1 dd_Pa_readyCount_28 (by decide) (by decide) ?_
  refine za_goto B.1 4 dd_Pa_readyCount_31 (by decide) ?_
  exact h4
theorem zr_Pa_readyCount_25 (B : zs_B p s m args meth c G bb_Pa_readyCount 3 yy_Pa_readyCount (some .int)) {K4 : zs_P} (h4 : zA_Pa_readyCount p l e s m args below meth c G Q 4 K4) : zA_Pa_readyCount p l e s m args below meth c G Q 25 (zb_Pa_readyCount_25 Q K4) := by
  unfold zb_Pa_readyCount_25
  refine za_ico B.1 0 dd_Pa_readyCount_25 (by decide) ?_
  exact (zr_Pa_readyCount_26 B h4)
theorem zr_Pa_readyCount_21 (B : zs_B p s m args meth c G bb_Pa_readyCount 3 yy_Pa_readyCount (some .int)) {K4 : zs_P} (h4 : zA_Pa_readyCount p l e s m args below meth c G Q 4 K4) : zA_Pa_readyCount p l e s m args below meth c G Q 21 (zb_Pa_readyCount_21 Q K4) := by
  unfold zb_Pa_readyCount_21
  refine za_ico B.1 1 dd_Pa_readyCount_21 (by decide) ?_
  refine za_goto B.1 26 dd_Pa_readyCount_22 (by decide) ?_
  exact (zr_Pa_readyCount_26 B h4)
theorem zr_Pa_readyCount_12 (B : zs_B p s m args meth c G bb_Pa_readyCount 3 yy_Pa_readyCount (some .int)) {K4 : zs_P} (h4 : zA_Pa_readyCount p l e s m args below meth c G Q 4 K4) : zA_Pa_readyCount p l e s m args below meth c G Q 12 (zb_Pa_readyCount_12 Q K4) := by
  unfold zb_Pa_readyCount_12
  refine za_ild_n B.1 1 dd_Pa_readyCount_12 rfl ?_
  refine za_ald_n B.1 0 dd_Pa_readyCount_13 rfl ?_
  refine za_ild_n B.1 2 dd_Pa_readyCount_14 rfl ?_
  refine za_cV B.1 1 1 0 0 0 0 rfl rfl rfl (by decide) (zm_Pa_isReady l G) ⟨callB_of 1 B.1.1.2.2.2.2 (zs_good zW_372) rfl rfl rfl (B.1.1.2.2.2.2 _ zW_7) (B.1.1.2.2.2.2 _ zW_370) (by decide +kernel) ⟨by decide, by decide⟩, (B.1.1.2.2.2.2 _ zW_371), (B.1.1.2.2.2.2 _ zW_673)⟩ dd_Pa_readyCount_15 ?_
  exact za_if_eq B.1 25 dd_Pa_readyCount_18 (by decide) (zr_Pa_readyCount_25 B h4) (zr_Pa_readyCount_21 B h4)
theorem zr_Pa_readyCount_4 (B : zs_B p s m args meth c G bb_Pa_readyCount 3 yy_Pa_readyCount (some .int)) {K4 : zs_P} (h4 : zA_Pa_readyCount p l e s m args below meth c G Q 4 K4) : zA_Pa_readyCount p l e s m args below meth c G Q 4 (zb_Pa_readyCount_4 Q K4) := by
  unfold zb_Pa_readyCount_4
  refine za_ild_n B.1 2 dd_Pa_readyCount_4 rfl ?_
  refine za_ald_n B.1 0 dd_Pa_readyCount_5 rfl ?_
  refine za_gtI B.1 1 4 zi_1 rfl (by decide) (by decide) rfl zW_76 rfl dd_Pa_readyCount_6 ?_
  exact za_cmp_ge B.1 34 dd_Pa_readyCount_9 (by decide) (zr_Pa_readyCount_34 B) (zr_Pa_readyCount_12 B h4)
theorem zq_Pa_readyCount_4 (B : zs_B p s m args meth c G bb_Pa_readyCount 3 yy_Pa_readyCount (some .int)) : zA_Pa_readyCount p l e s m args below meth c G Q 4 (zl_Pa_readyCount_4 Q) := za_lop (fun K hK => zr_Pa_readyCount_4 B hK)
theorem zr_Pa_readyCount_0 (B : zs_B p s m args meth c G bb_Pa_readyCount 3 yy_Pa_readyCount (some .int)) : zA_Pa_readyCount p l e s m args below meth c G Q 0 (zb_Pa_readyCount_0 Q) := by
  unfold zb_Pa_readyCount_0
  refine za_ico B.1 0 dd_Pa_readyCount_0 (by decide) ?_
  refine za_ist_n B.1 1 dd_Pa_readyCount_1 rfl (by decide) ?_
  refine za_ico B.1 0 dd_Pa_readyCount_2 (by decide) ?_
  refine za_ist_n B.1 2 dd_Pa_readyCount_3 rfl (by decide) ?_
  exact (zq_Pa_readyCount_4 B)
end
theorem zm_Pa_readyCount (l : Launch) (G : zs_G) (As : List Value) (σ : zs_S) (Q : zs_Q) (h : zw_Pa_readyCount As σ Q) : zs_Met l yy_Pa_readyCount (Cond.code yy_Pa_readyCount bb_Pa_readyCount 3 (some .int) :: zw_all) zk_Pa_readyCount G As σ Q 0 0 := by
  unfold zw_Pa_readyCount at h
  split at h
  · exact zs_enter (by decide +kernel) h.1 (Nat.le_of_ble_eq_true rfl) h.2 (fun p e s m args below meth c B => zr_Pa_readyCount_0 B)
  · exact h.elim
-- SequencedBatches.ready(II)I
theorem dd_SB_ready_0 : decode bb_SB_ready 0 = .ok (.aload_n 0, 1) := by decide +kernel
theorem dd_SB_ready_1 : decode bb_SB_ready 1 = .ok (.iload_n 1, 1) := by decide +kernel
theorem dd_SB_ready_2 : decode bb_SB_ready 2 = .ok (.iload_n 2, 1) := by decide +kernel
theorem dd_SB_ready_3 : decode bb_SB_ready 3 = .ok (.invokevirtual 163, 3) := by decide +kernel
theorem dd_SB_ready_6 : decode bb_SB_ready 6 = .ok (.ifCond .eq 20, 3) := by decide +kernel
theorem dd_SB_ready_9 : decode bb_SB_ready 9 = .ok (.aload_n 0, 1) := by decide +kernel
theorem dd_SB_ready_10 : decode bb_SB_ready 10 = .ok (.getfield 44, 3) := by decide +kernel
theorem dd_SB_ready_13 : decode bb_SB_ready 13 = .ok (.iload_n 1, 1) := by decide +kernel
theorem dd_SB_ready_14 : decode bb_SB_ready 14 = .ok (.aaload, 1) := by decide +kernel
theorem dd_SB_ready_15 : decode bb_SB_ready 15 = .ok (.getfield 196, 3) := by decide +kernel
theorem dd_SB_ready_18 : decode bb_SB_ready 18 = .ok (.iload_n 2, 1) := by decide +kernel
theorem dd_SB_ready_19 : decode bb_SB_ready 19 = .ok (.aaload, 1) := by decide +kernel
theorem dd_SB_ready_20 : decode bb_SB_ready 20 = .ok (.invokevirtual 207, 3) := by decide +kernel
theorem dd_SB_ready_23 : decode bb_SB_ready 23 = .ok (.goto 4, 3) := by decide +kernel
theorem dd_SB_ready_26 : decode bb_SB_ready 26 = .ok (.iconst (-1), 1) := by decide +kernel
theorem dd_SB_ready_27 : decode bb_SB_ready 27 = .ok (.ireturn, 1) := by decide +kernel
def zk_SB_ready : Room := { frames := 4, cells := 0, slots := 0, locals := 87 }
abbrev zA_SB_ready (p : Program) (l : Launch) (e : Env) (s : State) (m : MethodId) (args : Array Value) (below : List Frame) (meth : Method) (c : Code) (G : zs_G) (Q : zs_Q) (pc : Nat) (P : zs_P) : Prop := zs_At p l e zk_SB_ready s m args below meth c (MQ below (zs_Qc G Q) args s 0 0 (fun q => zg_z G ≤ q)) G 3 pc P
def zb_SB_ready_27 (Q : zs_Q) : zs_P := zt_irt 0 0 Q
def zb_SB_ready_26 (Q : zs_Q) : zs_P := zt_psh (-1) ((zb_SB_ready_27 Q))
def zb_SB_ready_9 (Q : zs_Q) : zs_P := zt_ald 0 (zt_gtR 7 7 (zt_ild 1 (zt_rld (110 + 3) (zt_gtR 3 7 (zt_ild 2 (zt_rld (110 + 1) (zt_cav 1 zw_Pa_readyCount (0 + 1) 0 0 0 0 ((zb_SB_ready_27 Q)))))))))
def zb_SB_ready_0 (Q : zs_Q) : zs_P := zt_ald 0 (zt_ild 1 (zt_ild 2 (zt_cav 7 zw_SB_partitionIsUp (2 + 1) 0 0 0 0 (zt_if (fun x => x = 0) (zb_SB_ready_26 Q) (zb_SB_ready_9 Q)))))
def zw_SB_ready : zs_W := fun As σ Q => match As with
  | [a0, a1, a2] => zs_c1 [a0, a1, a2] = true ∧ zb_SB_ready_0 Q [some a0, some a1, some a2] [] σ 0 0
  | _ => False
section
variable {p : Program} {l : Launch} {e : Env} {s : State} {m : MethodId} {args : Array Value} {below : List Frame} {meth : Method} {c : Code} {G : zs_G} {Q : zs_Q}
theorem zr_SB_ready_27 (B : zs_B p s m args meth c G bb_SB_ready 3 yy_SB_ready (some .int)) : zA_SB_ready p l e s m args below meth c G Q 27 (zb_SB_ready_27 Q) := by
  unfold zb_SB_ready_27
  exact za_irt B.1 0 0 B.2.1 B.2.2.1 dd_SB_ready_27
theorem zr_SB_ready_26 (B : zs_B p s m args meth c G bb_SB_ready 3 yy_SB_ready (some .int)) : zA_SB_ready p l e s m args below meth c G Q 26 (zb_SB_ready_26 Q) := by
  unfold zb_SB_ready_26
  refine za_ico B.1 (-1) dd_SB_ready_26 (by decide) ?_
  exact (zr_SB_ready_27 B)
theorem zr_SB_ready_9 (B : zs_B p s m args meth c G bb_SB_ready 3 yy_SB_ready (some .int)) : zA_SB_ready p l e s m args below meth c G Q 9 (zb_SB_ready_9 Q) := by
  unfold zb_SB_ready_9
  refine za_ald_n B.1 0 dd_SB_ready_9 rfl ?_
  refine za_gtR B.1 7 7 zi_7 rfl (by decide) (by decide) rfl zW_95 rfl dd_SB_ready_10 ?_
  refine za_ild_n B.1 1 dd_SB_ready_13 rfl ?_
  refine za_rld B.1 3 5 rfl dd_SB_ready_14 ?_
  refine za_gtRN (host := "SequencedBatches") B.1 3 7 zi_3 rfl (by decide) (by decide) rfl (by decide +kernel) rfl dd_SB_ready_15 ?_
  refine za_ild_n B.1 2 dd_SB_ready_18 rfl ?_
  refine za_rld B.1 1 7 rfl dd_SB_ready_19 ?_
  refine za_cV B.1 1 0 0 0 0 0 rfl rfl rfl (by decide) (zm_Pa_readyCount l G) ⟨callB_of 0 B.1.1.2.2.2.2 (zs_good zW_434) rfl rfl rfl (B.1.1.2.2.2.2 _ zW_7) (B.1.1.2.2.2.2 _ zW_431) (by decide +kernel) ⟨by decide, by decide⟩, (B.1.1.2.2.2.2 _ zW_432), (B.1.1.2.2.2.2 _ zW_433)⟩ dd_SB_ready_20 ?_
  refine za_goto B.1 27 dd_SB_ready_23 (by decide) ?_
  exact (zr_SB_ready_27 B)
theorem zr_SB_ready_0 (B : zs_B p s m args meth c G bb_SB_ready 3 yy_SB_ready (some .int)) : zA_SB_ready p l e s m args below meth c G Q 0 (zb_SB_ready_0 Q) := by
  unfold zb_SB_ready_0
  refine za_ald_n B.1 0 dd_SB_ready_0 rfl ?_
  refine za_ild_n B.1 1 dd_SB_ready_1 rfl ?_
  refine za_ild_n B.1 2 dd_SB_ready_2 rfl ?_
  refine za_cV B.1 7 2 0 0 0 0 rfl rfl rfl (by decide) (zm_SB_partitionIsUp l G) ⟨callB_of 2 B.1.1.2.2.2.2 (zs_good zW_339) rfl rfl rfl (B.1.1.2.2.2.2 _ zW_1) (B.1.1.2.2.2.2 _ zW_337) (by decide +kernel) ⟨by decide, by decide⟩, (B.1.1.2.2.2.2 _ zW_338), (B.1.1.2.2.2.2 _ zW_672)⟩ dd_SB_ready_3 ?_
  exact za_if_eq B.1 26 dd_SB_ready_6 (by decide) (zr_SB_ready_26 B) (zr_SB_ready_9 B)
end
theorem zm_SB_ready (l : Launch) (G : zs_G) (As : List Value) (σ : zs_S) (Q : zs_Q) (h : zw_SB_ready As σ Q) : zs_Met l yy_SB_ready (Cond.code yy_SB_ready bb_SB_ready 3 (some .int) :: zw_all) zk_SB_ready G As σ Q 0 0 := by
  unfold zw_SB_ready at h
  split at h
  · exact zs_enter (by decide +kernel) h.1 (Nat.le_of_ble_eq_true rfl) h.2 (fun p e s m args below meth c B => zr_SB_ready_0 B)
  · exact h.elim
-- SequencedBatches$Partition.lockCount(I)I
theorem dd_Pa_lockCount_0 : decode bb_Pa_lockCount 0 = .ok (.iconst 0, 1) := by decide +kernel
theorem dd_Pa_lockCount_1 : decode bb_Pa_lockCount 1 = .ok (.istore_n 2, 1) := by decide +kernel
theorem dd_Pa_lockCount_2 : decode bb_Pa_lockCount 2 = .ok (.iconst 0, 1) := by decide +kernel
theorem dd_Pa_lockCount_3 : decode bb_Pa_lockCount 3 = .ok (.istore_n 3, 1) := by decide +kernel
theorem dd_Pa_lockCount_4 : decode bb_Pa_lockCount 4 = .ok (.iload_n 3, 1) := by decide +kernel
theorem dd_Pa_lockCount_5 : decode bb_Pa_lockCount 5 = .ok (.aload_n 0, 1) := by decide +kernel
theorem dd_Pa_lockCount_6 : decode bb_Pa_lockCount 6 = .ok (.getfield 25, 3) := by decide +kernel
theorem dd_Pa_lockCount_9 : decode bb_Pa_lockCount 9 = .ok (.if_icmp .ge 32, 3) := by decide +kernel
theorem dd_Pa_lockCount_12 : decode bb_Pa_lockCount 12 = .ok (.iload_n 2, 1) := by decide +kernel
theorem dd_Pa_lockCount_13 : decode bb_Pa_lockCount 13 = .ok (.aload_n 0, 1) := by decide +kernel
theorem dd_Pa_lockCount_14 : decode bb_Pa_lockCount 14 = .ok (.getfield 17, 3) := by decide +kernel
theorem dd_Pa_lockCount_17 : decode bb_Pa_lockCount 17 = .ok (.iload_n 3, 1) := by decide +kernel
theorem dd_Pa_lockCount_18 : decode bb_Pa_lockCount 18 = .ok (.aaload, 1) := by decide +kernel
theorem dd_Pa_lockCount_19 : decode bb_Pa_lockCount 19 = .ok (.iconst 1, 1) := by decide +kernel
theorem dd_Pa_lockCount_20 : decode bb_Pa_lockCount 20 = .ok (.iload_n 1, 1) := by decide +kernel
theorem dd_Pa_lockCount_21 : decode bb_Pa_lockCount 21 = .ok (.ishl, 1) := by decide +kernel
theorem dd_Pa_lockCount_22 : decode bb_Pa_lockCount 22 = .ok (.invokevirtual 35, 3) := by decide +kernel
theorem dd_Pa_lockCount_25 : decode bb_Pa_lockCount 25 = .ok (.ifCond .eq 7, 3) := by decide +kernel
theorem dd_Pa_lockCount_28 : decode bb_Pa_lockCount 28 = .ok (.iconst 1, 1) := by decide +kernel
theorem dd_Pa_lockCount_29 : decode bb_Pa_lockCount 29 = .ok (.goto 4, 3) := by decide +kernel
theorem dd_Pa_lockCount_32 : decode bb_Pa_lockCount 32 = .ok (.iconst 0, 1) := by decide +kernel
theorem dd_Pa_lockCount_33 : decode bb_Pa_lockCount 33 = .ok (.iadd, 1) := by decide +kernel
theorem dd_Pa_lockCount_34 : decode bb_Pa_lockCount 34 = .ok (.istore_n 2, 1) := by decide +kernel
theorem dd_Pa_lockCount_35 : decode bb_Pa_lockCount 35 = .ok (.iinc 3 1, 3) := by decide +kernel
theorem dd_Pa_lockCount_38 : decode bb_Pa_lockCount 38 = .ok (.goto (-34), 3) := by decide +kernel
theorem dd_Pa_lockCount_41 : decode bb_Pa_lockCount 41 = .ok (.iload_n 2, 1) := by decide +kernel
theorem dd_Pa_lockCount_42 : decode bb_Pa_lockCount 42 = .ok (.ireturn, 1) := by decide +kernel
def zk_Pa_lockCount : Room := { frames := 2, cells := 0, slots := 0, locals := 42 }
abbrev zA_Pa_lockCount (p : Program) (l : Launch) (e : Env) (s : State) (m : MethodId) (args : Array Value) (below : List Frame) (meth : Method) (c : Code) (G : zs_G) (Q : zs_Q) (pc : Nat) (P : zs_P) : Prop := zs_At p l e zk_Pa_lockCount s m args below meth c (MQ below (zs_Qc G Q) args s 0 0 (fun q => zg_z G ≤ q)) G 4 pc P
def zb_Pa_lockCount_41 (Q : zs_Q) : zs_P := zt_ild 2 (zt_irt 0 0 Q)
def zb_Pa_lockCount_33 (Q : zs_Q) (K4 : zs_P) : zs_P := zt_bin (fun x y => x + y) (zt_ist 2 (zt_inc 3 1 (K4)))
def zb_Pa_lockCount_32 (Q : zs_Q) (K4 : zs_P) : zs_P := zt_psh 0 ((zb_Pa_lockCount_33 Q K4))
def zb_Pa_lockCount_28 (Q : zs_Q) (K4 : zs_P) : zs_P := zt_psh 1 ((zb_Pa_lockCount_33 Q K4))
def zb_Pa_lockCount_12 (Q : zs_Q) (K4 : zs_P) : zs_P := zt_ild 2 (zt_ald 0 (zt_gtR 1 2 (zt_ild 3 (zt_rld (110 + 6) (zt_psh 1 (zt_ild 1 (zt_bin (fun x y => x <<< (y &&& 31)) (zt_cav 6 zw_Tr_takesPart (1 + 1) 0 0 0 0 (zt_if (fun x => x = 0) (zb_Pa_lockCount_32 Q K4) (zb_Pa_lockCount_28 Q K4))))))))))
def zb_Pa_lockCount_4 (Q : zs_Q) (K4 : zs_P) : zs_P := zt_ild 3 (zt_ald 0 (zt_gtI 1 4 (zt_cmp (fun x y => y ≤ x) (zb_Pa_lockCount_41 Q) (zb_Pa_lockCount_12 Q K4))))
def zl_Pa_lockCount_4 (Q : zs_Q) : zs_P := zt_ex (zb_Pa_lockCount_4 Q)
def zb_Pa_lockCount_0 (Q : zs_Q) : zs_P := zt_psh 0 (zt_ist 2 (zt_psh 0 (zt_ist 3 ((zl_Pa_lockCount_4 Q)))))
def zw_Pa_lockCount : zs_W := fun As σ Q => match As with
  | [a0, a1] => zs_c1 [a0, a1] = true ∧ zb_Pa_lockCount_0 Q [some a0, some a1, none, none] [] σ 0 0
  | _ => False
section
variable {p : Program} {l : Launch} {e : Env} {s : State} {m : MethodId} {args : Array Value} {below : List Frame} {meth : Method} {c : Code} {G : zs_G} {Q : zs_Q}
theorem zr_Pa_lockCount_41 (B : zs_B p s m args meth c G bb_Pa_lockCount 4 yy_Pa_lockCount (some .int)) : zA_Pa_lockCount p l e s m args below meth c G Q 41 (zb_Pa_lockCount_41 Q) := by
  unfold zb_Pa_lockCount_41
  refine za_ild_n B.1 2 dd_Pa_lockCount_41 rfl ?_
  exact za_irt B.1 0 0 B.2.1 B.2.2.1 dd_Pa_lockCount_42
theorem zr_Pa_lockCount_33 (B : zs_B p s m args meth c G bb_Pa_lockCount 4 yy_Pa_lockCount (some .int)) {K4 : zs_P} (h4 : zA_Pa_lockCount p l e s m args below meth c G Q 4 K4) : zA_Pa_lockCount p l e s m args below meth c G Q 33 (zb_Pa_lockCount_33 Q K4) := by
  unfold zb_Pa_lockCount_33
  refine za_add B.1 dd_Pa_lockCount_33 ?_
  refine za_ist_n B.1 2 dd_Pa_lockCount_34 rfl (by decide) ?_
  refine za_inc B.1 1 dd_Pa_lockCount_35 (by decide) (by decide) ?_
  refine za_goto B.1 4 dd_Pa_lockCount_38 (by decide) ?_
  exact h4
theorem zr_Pa_lockCount_32 (B : zs_B p s m args meth c G bb_Pa_lockCount 4 yy_Pa_lockCount (some .int)) {K4 : zs_P} (h4 : zA_Pa_lockCount p l e s m args below meth c G Q 4 K4) : zA_Pa_lockCount p l e s m args below meth c G Q 32 (zb_Pa_lockCount_32 Q K4) := by
  unfold zb_Pa_lockCount_32
  refine za_ico B.1 0 dd_Pa_lockCount_32 (by decide) ?_
  exact (zr_Pa_lockCount_33 B h4)
theorem zr_Pa_lockCount_28 (B : zs_B p s m args meth c G bb_Pa_lockCount 4 yy_Pa_lockCount (some .int)) {K4 : zs_P} (h4 : zA_Pa_lockCount p l e s m args below meth c G Q 4 K4) : zA_Pa_lockCount p l e s m args below meth c G Q 28 (zb_Pa_lockCount_28 Q K4) := by
  unfold zb_Pa_lockCount_28
  refine za_ico B.1 1 dd_Pa_lockCount_28 (by decide) ?_
  refine za_goto B.1 33 dd_Pa_lockCount_29 (by decide) ?_
  exact (zr_Pa_lockCount_33 B h4)
theorem zr_Pa_lockCount_12 (B : zs_B p s m args meth c G bb_Pa_lockCount 4 yy_Pa_lockCount (some .int)) {K4 : zs_P} (h4 : zA_Pa_lockCount p l e s m args below meth c G Q 4 K4) : zA_Pa_lockCount p l e s m args below meth c G Q 12 (zb_Pa_lockCount_12 Q K4) := by
  unfold zb_Pa_lockCount_12
  refine za_ild_n B.1 2 dd_Pa_lockCount_12 rfl ?_
  refine za_ald_n B.1 0 dd_Pa_lockCount_13 rfl ?_
  refine za_gtR B.1 1 2 zi_1 rfl (by decide) (by decide) rfl zW_74 rfl dd_Pa_lockCount_14 ?_
  refine za_ild_n B.1 3 dd_Pa_lockCount_17 rfl ?_
  refine za_rld B.1 6 2 rfl dd_Pa_lockCount_18 ?_
  refine za_ico B.1 1 dd_Pa_lockCount_19 (by decide) ?_
  refine za_ild_n B.1 1 dd_Pa_lockCount_20 rfl ?_
  refine za_shl B.1 dd_Pa_lockCount_21 ?_
  refine za_cV B.1 6 1 0 0 0 0 rfl rfl rfl (by decide) (zm_Tr_takesPart l G) ⟨callB_of 1 B.1.1.2.2.2.2 (zs_good zW_355) rfl rfl rfl (B.1.1.2.2.2.2 _ zW_9) (B.1.1.2.2.2.2 _ zW_352) (by decide +kernel) ⟨by decide, by decide⟩, (B.1.1.2.2.2.2 _ zW_353), (B.1.1.2.2.2.2 _ zW_354)⟩ dd_Pa_lockCount_22 ?_
  exact za_if_eq B.1 32 dd_Pa_lockCount_25 (by decide) (zr_Pa_lockCount_32 B h4) (zr_Pa_lockCount_28 B h4)
theorem zr_Pa_lockCount_4 (B : zs_B p s m args meth c G bb_Pa_lockCount 4 yy_Pa_lockCount (some .int)) {K4 : zs_P} (h4 : zA_Pa_lockCount p l e s m args below meth c G Q 4 K4) : zA_Pa_lockCount p l e s m args below meth c G Q 4 (zb_Pa_lockCount_4 Q K4) := by
  unfold zb_Pa_lockCount_4
  refine za_ild_n B.1 3 dd_Pa_lockCount_4 rfl ?_
  refine za_ald_n B.1 0 dd_Pa_lockCount_5 rfl ?_
  refine za_gtI B.1 1 4 zi_1 rfl (by decide) (by decide) rfl zW_76 rfl dd_Pa_lockCount_6 ?_
  exact za_cmp_ge B.1 41 dd_Pa_lockCount_9 (by decide) (zr_Pa_lockCount_41 B) (zr_Pa_lockCount_12 B h4)
theorem zq_Pa_lockCount_4 (B : zs_B p s m args meth c G bb_Pa_lockCount 4 yy_Pa_lockCount (some .int)) : zA_Pa_lockCount p l e s m args below meth c G Q 4 (zl_Pa_lockCount_4 Q) := za_lop (fun K hK => zr_Pa_lockCount_4 B hK)
theorem zr_Pa_lockCount_0 (B : zs_B p s m args meth c G bb_Pa_lockCount 4 yy_Pa_lockCount (some .int)) : zA_Pa_lockCount p l e s m args below meth c G Q 0 (zb_Pa_lockCount_0 Q) := by
  unfold zb_Pa_lockCount_0
  refine za_ico B.1 0 dd_Pa_lockCount_0 (by decide) ?_
  refine za_ist_n B.1 2 dd_Pa_lockCount_1 rfl (by decide) ?_
  refine za_ico B.1 0 dd_Pa_lockCount_2 (by decide) ?_
  refine za_ist_n B.1 3 dd_Pa_lockCount_3 rfl (by decide) ?_
  exact (zq_Pa_lockCount_4 B)
end
theorem zm_Pa_lockCount (l : Launch) (G : zs_G) (As : List Value) (σ : zs_S) (Q : zs_Q) (h : zw_Pa_lockCount As σ Q) : zs_Met l yy_Pa_lockCount (Cond.code yy_Pa_lockCount bb_Pa_lockCount 4 (some .int) :: zw_all) zk_Pa_lockCount G As σ Q 0 0 := by
  unfold zw_Pa_lockCount at h
  split at h
  · exact zs_enter (by decide +kernel) h.1 (Nat.le_of_ble_eq_true rfl) h.2 (fun p e s m args below meth c B => zr_Pa_lockCount_0 B)
  · exact h.elim
-- SequencedBatches.locks(II)I
theorem dd_SB_locks_0 : decode bb_SB_locks 0 = .ok (.aload_n 0, 1) := by decide +kernel
theorem dd_SB_locks_1 : decode bb_SB_locks 1 = .ok (.iload_n 1, 1) := by decide +kernel
theorem dd_SB_locks_2 : decode bb_SB_locks 2 = .ok (.invokevirtual 178, 3) := by decide +kernel
theorem dd_SB_locks_5 : decode bb_SB_locks 5 = .ok (.ifCond .eq 33, 3) := by decide +kernel
theorem dd_SB_locks_8 : decode bb_SB_locks 8 = .ok (.iload_n 2, 1) := by decide +kernel
theorem dd_SB_locks_9 : decode bb_SB_locks 9 = .ok (.invokestatic 184, 3) := by decide +kernel
theorem dd_SB_locks_12 : decode bb_SB_locks 12 = .ok (.ifCond .eq 26, 3) := by decide +kernel
theorem dd_SB_locks_15 : decode bb_SB_locks 15 = .ok (.aload_n 0, 1) := by decide +kernel
theorem dd_SB_locks_16 : decode bb_SB_locks 16 = .ok (.getfield 44, 3) := by decide +kernel
theorem dd_SB_locks_19 : decode bb_SB_locks 19 = .ok (.iload_n 1, 1) := by decide +kernel
theorem dd_SB_locks_20 : decode bb_SB_locks 20 = .ok (.aaload, 1) := by decide +kernel
theorem dd_SB_locks_21 : decode bb_SB_locks 21 = .ok (.getfield 196, 3) := by decide +kernel
theorem dd_SB_locks_24 : decode bb_SB_locks 24 = .ok (.iload_n 2, 1) := by decide +kernel
theorem dd_SB_locks_25 : decode bb_SB_locks 25 = .ok (.aload_n 0, 1) := by decide +kernel
theorem dd_SB_locks_26 : decode bb_SB_locks 26 = .ok (.getfield 57, 3) := by decide +kernel
theorem dd_SB_locks_29 : decode bb_SB_locks 29 = .ok (.irem, 1) := by decide +kernel
theorem dd_SB_locks_30 : decode bb_SB_locks 30 = .ok (.aaload, 1) := by decide +kernel
theorem dd_SB_locks_31 : decode bb_SB_locks 31 = .ok (.iload_n 2, 1) := by decide +kernel
theorem dd_SB_locks_32 : decode bb_SB_locks 32 = .ok (.invokevirtual 210, 3) := by decide +kernel
theorem dd_SB_locks_35 : decode bb_SB_locks 35 = .ok (.goto 4, 3) := by decide +kernel
theorem dd_SB_locks_38 : decode bb_SB_locks 38 = .ok (.iconst (-1), 1) := by decide +kernel
theorem dd_SB_locks_39 : decode bb_SB_locks 39 = .ok (.ireturn, 1) := by decide +kernel
def zk_SB_locks : Room := { frames := 3, cells := 0, slots := 0, locals := 65 }
abbrev zA_SB_locks (p : Program) (l : Launch) (e : Env) (s : State) (m : MethodId) (args : Array Value) (below : List Frame) (meth : Method) (c : Code) (G : zs_G) (Q : zs_Q) (pc : Nat) (P : zs_P) : Prop := zs_At p l e zk_SB_locks s m args below meth c (MQ below (zs_Qc G Q) args s 0 0 (fun q => zg_z G ≤ q)) G 3 pc P
def zb_SB_locks_39 (Q : zs_Q) : zs_P := zt_irt 0 0 Q
def zb_SB_locks_38 (Q : zs_Q) : zs_P := zt_psh (-1) ((zb_SB_locks_39 Q))
def zb_SB_locks_15 (Q : zs_Q) : zs_P := zt_ald 0 (zt_gtR 7 7 (zt_ild 1 (zt_rld (110 + 3) (zt_gtR 3 7 (zt_ild 2 (zt_ald 0 (zt_gtI 7 0 (zt_div (fun x y => x - x / y * y) (zt_rld (110 + 1) (zt_ild 2 (zt_cav 1 zw_Pa_lockCount (1 + 1) 0 0 0 0 ((zb_SB_locks_39 Q)))))))))))))
def zb_SB_locks_8 (Q : zs_Q) : zs_P := zt_ild 2 (zt_cal zw_SB_isKey 1 0 0 0 0 (zt_if (fun x => x = 0) (zb_SB_locks_38 Q) (zb_SB_locks_15 Q)))
def zb_SB_locks_0 (Q : zs_Q) : zs_P := zt_ald 0 (zt_ild 1 (zt_cav 7 zw_SB_replicaIsUp (1 + 1) 0 0 0 0 (zt_if (fun x => x = 0) (zb_SB_locks_38 Q) (zb_SB_locks_8 Q))))
def zw_SB_locks : zs_W := fun As σ Q => match As with
  | [a0, a1, a2] => zs_c1 [a0, a1, a2] = true ∧ zb_SB_locks_0 Q [some a0, some a1, some a2] [] σ 0 0
  | _ => False
section
variable {p : Program} {l : Launch} {e : Env} {s : State} {m : MethodId} {args : Array Value} {below : List Frame} {meth : Method} {c : Code} {G : zs_G} {Q : zs_Q}
theorem zr_SB_locks_39 (B : zs_B p s m args meth c G bb_SB_locks 3 yy_SB_locks (some .int)) : zA_SB_locks p l e s m args below meth c G Q 39 (zb_SB_locks_39 Q) := by
  unfold zb_SB_locks_39
  exact za_irt B.1 0 0 B.2.1 B.2.2.1 dd_SB_locks_39
theorem zr_SB_locks_38 (B : zs_B p s m args meth c G bb_SB_locks 3 yy_SB_locks (some .int)) : zA_SB_locks p l e s m args below meth c G Q 38 (zb_SB_locks_38 Q) := by
  unfold zb_SB_locks_38
  refine za_ico B.1 (-1) dd_SB_locks_38 (by decide) ?_
  exact (zr_SB_locks_39 B)
theorem zr_SB_locks_15 (B : zs_B p s m args meth c G bb_SB_locks 3 yy_SB_locks (some .int)) : zA_SB_locks p l e s m args below meth c G Q 15 (zb_SB_locks_15 Q) := by
  unfold zb_SB_locks_15
  refine za_ald_n B.1 0 dd_SB_locks_15 rfl ?_
  refine za_gtR B.1 7 7 zi_7 rfl (by decide) (by decide) rfl zW_95 rfl dd_SB_locks_16 ?_
  refine za_ild_n B.1 1 dd_SB_locks_19 rfl ?_
  refine za_rld B.1 3 5 rfl dd_SB_locks_20 ?_
  refine za_gtRN (host := "SequencedBatches") B.1 3 7 zi_3 rfl (by decide) (by decide) rfl (by decide +kernel) rfl dd_SB_locks_21 ?_
  refine za_ild_n B.1 2 dd_SB_locks_24 rfl ?_
  refine za_ald_n B.1 0 dd_SB_locks_25 rfl ?_
  refine za_gtI B.1 7 0 zi_7 rfl (by decide) (by decide) rfl zW_88 rfl dd_SB_locks_26 ?_
  refine za_rem B.1 dd_SB_locks_29 ?_
  refine za_rld B.1 1 7 rfl dd_SB_locks_30 ?_
  refine za_ild_n B.1 2 dd_SB_locks_31 rfl ?_
  refine za_cV B.1 1 1 0 0 0 0 rfl rfl rfl (by decide) (zm_Pa_lockCount l G) ⟨callB_of 1 B.1.1.2.2.2.2 (zs_good zW_442) rfl rfl rfl (B.1.1.2.2.2.2 _ zW_7) (B.1.1.2.2.2.2 _ zW_439) (by decide +kernel) ⟨by decide, by decide⟩, (B.1.1.2.2.2.2 _ zW_440), (B.1.1.2.2.2.2 _ zW_441)⟩ dd_SB_locks_32 ?_
  refine za_goto B.1 39 dd_SB_locks_35 (by decide) ?_
  exact (zr_SB_locks_39 B)
theorem zr_SB_locks_8 (B : zs_B p s m args meth c G bb_SB_locks 3 yy_SB_locks (some .int)) : zA_SB_locks p l e s m args below meth c G Q 8 (zb_SB_locks_8 Q) := by
  unfold zb_SB_locks_8
  refine za_ild_n B.1 2 dd_SB_locks_8 rfl ?_
  refine za_cS B.1 1 0 0 0 0 rfl rfl (zm_SB_isKey l G) ⟨callB_of 1 B.1.1.2.2.2.2 (zs_good zW_107) rfl rfl rfl (B.1.1.2.2.2.2 _ zW_1) (B.1.1.2.2.2.2 _ zW_401) (by decide +kernel) ⟨by decide, by decide⟩, (B.1.1.2.2.2.2 _ zW_106)⟩ dd_SB_locks_9 ?_
  exact za_if_eq B.1 38 dd_SB_locks_12 (by decide) (zr_SB_locks_38 B) (zr_SB_locks_15 B)
theorem zr_SB_locks_0 (B : zs_B p s m args meth c G bb_SB_locks 3 yy_SB_locks (some .int)) : zA_SB_locks p l e s m args below meth c G Q 0 (zb_SB_locks_0 Q) := by
  unfold zb_SB_locks_0
  refine za_ald_n B.1 0 dd_SB_locks_0 rfl ?_
  refine za_ild_n B.1 1 dd_SB_locks_1 rfl ?_
  refine za_cV B.1 7 1 0 0 0 0 rfl rfl rfl (by decide) (zm_SB_replicaIsUp l G) ⟨callB_of 1 B.1.1.2.2.2.2 (zs_good zW_245) rfl rfl rfl (B.1.1.2.2.2.2 _ zW_1) (B.1.1.2.2.2.2 _ zW_243) (by decide +kernel) ⟨by decide, by decide⟩, (B.1.1.2.2.2.2 _ zW_244), (B.1.1.2.2.2.2 _ zW_664)⟩ dd_SB_locks_2 ?_
  exact za_if_eq B.1 38 dd_SB_locks_5 (by decide) (zr_SB_locks_38 B) (zr_SB_locks_8 B)
end
theorem zm_SB_locks (l : Launch) (G : zs_G) (As : List Value) (σ : zs_S) (Q : zs_Q) (h : zw_SB_locks As σ Q) : zs_Met l yy_SB_locks (Cond.code yy_SB_locks bb_SB_locks 3 (some .int) :: zw_all) zk_SB_locks G As σ Q 0 0 := by
  unfold zw_SB_locks at h
  split at h
  · exact zs_enter (by decide +kernel) h.1 (Nat.le_of_ble_eq_true rfl) h.2 (fun p e s m args below meth c B => zr_SB_locks_0 B)
  · exact h.elim
-- SequencedBatches.stored(III)I
theorem dd_SB_stored_0 : decode bb_SB_stored 0 = .ok (.iload_n 1, 1) := by decide +kernel
theorem dd_SB_stored_1 : decode bb_SB_stored 1 = .ok (.ifCond .lt 30, 3) := by decide +kernel
theorem dd_SB_stored_4 : decode bb_SB_stored 4 = .ok (.iload_n 1, 1) := by decide +kernel
theorem dd_SB_stored_5 : decode bb_SB_stored 5 = .ok (.iconst 3, 1) := by decide +kernel
theorem dd_SB_stored_6 : decode bb_SB_stored 6 = .ok (.if_icmp .ge 25, 3) := by decide +kernel
theorem dd_SB_stored_9 : decode bb_SB_stored 9 = .ok (.iload_n 2, 1) := by decide +kernel
theorem dd_SB_stored_10 : decode bb_SB_stored 10 = .ok (.ifCond .lt 21, 3) := by decide +kernel
theorem dd_SB_stored_13 : decode bb_SB_stored 13 = .ok (.iload_n 2, 1) := by decide +kernel
theorem dd_SB_stored_14 : decode bb_SB_stored 14 = .ok (.iconst 2, 1) := by decide +kernel
theorem dd_SB_stored_15 : decode bb_SB_stored 15 = .ok (.if_icmp .ge 16, 3) := by decide +kernel
theorem dd_SB_stored_18 : decode bb_SB_stored 18 = .ok (.aload_n 0, 1) := by decide +kernel
theorem dd_SB_stored_19 : decode bb_SB_stored 19 = .ok (.getfield 38, 3) := by decide +kernel
theorem dd_SB_stored_22 : decode bb_SB_stored 22 = .ok (.iload_n 2, 1) := by decide +kernel
theorem dd_SB_stored_23 : decode bb_SB_stored 23 = .ok (.aaload, 1) := by decide +kernel
theorem dd_SB_stored_24 : decode bb_SB_stored 24 = .ok (.iload_n 3, 1) := by decide +kernel
theorem dd_SB_stored_25 : decode bb_SB_stored 25 = .ok (.invokevirtual 100, 3) := by decide +kernel
theorem dd_SB_stored_28 : decode bb_SB_stored 28 = .ok (.ifnonnull 5, 3) := by decide +kernel
theorem dd_SB_stored_31 : decode bb_SB_stored 31 = .ok (.iconst (-1), 1) := by decide +kernel
theorem dd_SB_stored_32 : decode bb_SB_stored 32 = .ok (.ireturn, 1) := by decide +kernel
theorem dd_SB_stored_33 : decode bb_SB_stored 33 = .ok (.aload_n 0, 1) := by decide +kernel
theorem dd_SB_stored_34 : decode bb_SB_stored 34 = .ok (.getfield 32, 3) := by decide +kernel
theorem dd_SB_stored_37 : decode bb_SB_stored 37 = .ok (.iload_n 1, 1) := by decide +kernel
theorem dd_SB_stored_38 : decode bb_SB_stored 38 = .ok (.aaload, 1) := by decide +kernel
theorem dd_SB_stored_39 : decode bb_SB_stored 39 = .ok (.getfield 213, 3) := by decide +kernel
theorem dd_SB_stored_42 : decode bb_SB_stored 42 = .ok (.iload_n 2, 1) := by decide +kernel
theorem dd_SB_stored_43 : decode bb_SB_stored 43 = .ok (.iload_n 3, 1) := by decide +kernel
theorem dd_SB_stored_44 : decode bb_SB_stored 44 = .ok (.invokestatic 216, 3) := by decide +kernel
theorem dd_SB_stored_47 : decode bb_SB_stored 47 = .ok (.iaload, 1) := by decide +kernel
theorem dd_SB_stored_48 : decode bb_SB_stored 48 = .ok (.ireturn, 1) := by decide +kernel
def zk_SB_stored : Room := { frames := 1, cells := 0, slots := 0, locals := 21 }
abbrev zA_SB_stored (p : Program) (l : Launch) (e : Env) (s : State) (m : MethodId) (args : Array Value) (below : List Frame) (meth : Method) (c : Code) (G : zs_G) (Q : zs_Q) (pc : Nat) (P : zs_P) : Prop := zs_At p l e zk_SB_stored s m args below meth c (MQ below (zs_Qc G Q) args s 0 0 (fun q => zg_z G ≤ q)) G 4 pc P
def zb_SB_stored_31 (Q : zs_Q) : zs_P := zt_psh (-1) (zt_irt 0 0 Q)
def zb_SB_stored_33 (Q : zs_Q) : zs_P := zt_ald 0 (zt_gtR 7 5 (zt_ild 1 (zt_rld (110 + 0) (zt_gtR 0 1 (zt_ild 2 (zt_ild 3 (zt_cal zw_SB_placeInLog 2 0 0 0 0 (zt_xld 100 (zt_irt 0 0 Q)))))))))
def zb_SB_stored_18 (Q : zs_Q) : zs_P := zt_ald 0 (zt_gtR 7 6 (zt_ild 2 (zt_rld (110 + 4) (zt_ild 3 (zt_cav 4 zw_Sq_slotAt (1 + 1) 0 0 0 0 (zt_ifn (zb_SB_stored_31 Q) (zb_SB_stored_33 Q)))))))
def zb_SB_stored_13 (Q : zs_Q) : zs_P := zt_ild 2 (zt_psh 2 (zt_cmp (fun x y => y ≤ x) (zb_SB_stored_31 Q) (zb_SB_stored_18 Q)))
def zb_SB_stored_9 (Q : zs_Q) : zs_P := zt_ild 2 (zt_if (fun x => x < 0) (zb_SB_stored_31 Q) (zb_SB_stored_13 Q))
def zb_SB_stored_4 (Q : zs_Q) : zs_P := zt_ild 1 (zt_psh 3 (zt_cmp (fun x y => y ≤ x) (zb_SB_stored_31 Q) (zb_SB_stored_9 Q)))
def zb_SB_stored_0 (Q : zs_Q) : zs_P := zt_ild 1 (zt_if (fun x => x < 0) (zb_SB_stored_31 Q) (zb_SB_stored_4 Q))
def zw_SB_stored : zs_W := fun As σ Q => match As with
  | [a0, a1, a2, a3] => zs_c1 [a0, a1, a2, a3] = true ∧ zb_SB_stored_0 Q [some a0, some a1, some a2, some a3] [] σ 0 0
  | _ => False
section
variable {p : Program} {l : Launch} {e : Env} {s : State} {m : MethodId} {args : Array Value} {below : List Frame} {meth : Method} {c : Code} {G : zs_G} {Q : zs_Q}
theorem zr_SB_stored_31 (B : zs_B p s m args meth c G bb_SB_stored 4 yy_SB_stored (some .int)) : zA_SB_stored p l e s m args below meth c G Q 31 (zb_SB_stored_31 Q) := by
  unfold zb_SB_stored_31
  refine za_ico B.1 (-1) dd_SB_stored_31 (by decide) ?_
  exact za_irt B.1 0 0 B.2.1 B.2.2.1 dd_SB_stored_32
theorem zr_SB_stored_33 (B : zs_B p s m args meth c G bb_SB_stored 4 yy_SB_stored (some .int)) : zA_SB_stored p l e s m args below meth c G Q 33 (zb_SB_stored_33 Q) := by
  unfold zb_SB_stored_33
  refine za_ald_n B.1 0 dd_SB_stored_33 rfl ?_
  refine za_gtR B.1 7 5 zi_7 rfl (by decide) (by decide) rfl zW_93 rfl dd_SB_stored_34 ?_
  refine za_ild_n B.1 1 dd_SB_stored_37 rfl ?_
  refine za_rld B.1 0 3 rfl dd_SB_stored_38 ?_
  refine za_gtRN (host := "SequencedBatches") B.1 0 1 zi_0 rfl (by decide) (by decide) rfl (by decide +kernel) rfl dd_SB_stored_39 ?_
  refine za_ild_n B.1 2 dd_SB_stored_42 rfl ?_
  refine za_ild_n B.1 3 dd_SB_stored_43 rfl ?_
  refine za_cS B.1 2 0 0 0 0 rfl rfl (zm_SB_placeInLog l G) ⟨callB_of 2 B.1.1.2.2.2.2 (zs_good zW_229) rfl rfl rfl (B.1.1.2.2.2.2 _ zW_1) (B.1.1.2.2.2.2 _ zW_227) (by decide +kernel) ⟨by decide, by decide⟩, (B.1.1.2.2.2.2 _ zW_228)⟩ dd_SB_stored_44 ?_
  refine za_iald B.1 dd_SB_stored_47 ?_
  exact za_irt B.1 0 0 B.2.1 B.2.2.1 dd_SB_stored_48
theorem zr_SB_stored_18 (B : zs_B p s m args meth c G bb_SB_stored 4 yy_SB_stored (some .int)) : zA_SB_stored p l e s m args below meth c G Q 18 (zb_SB_stored_18 Q) := by
  unfold zb_SB_stored_18
  refine za_ald_n B.1 0 dd_SB_stored_18 rfl ?_
  refine za_gtR B.1 7 6 zi_7 rfl (by decide) (by decide) rfl zW_94 rfl dd_SB_stored_19 ?_
  refine za_ild_n B.1 2 dd_SB_stored_22 rfl ?_
  refine za_rld B.1 4 4 rfl dd_SB_stored_23 ?_
  refine za_ild_n B.1 3 dd_SB_stored_24 rfl ?_
  refine za_cV B.1 4 1 0 0 0 0 rfl rfl rfl (by decide) (zm_Sq_slotAt l G) ⟨callB_of 1 B.1.1.2.2.2.2 (zs_good zW_188) rfl rfl rfl (B.1.1.2.2.2.2 _ zW_5) (B.1.1.2.2.2.2 _ zW_185) (by decide +kernel) ⟨by decide, by decide⟩, (B.1.1.2.2.2.2 _ zW_186), (B.1.1.2.2.2.2 _ zW_187)⟩ dd_SB_stored_25 ?_
  exact za_ifnonnull B.1 33 dd_SB_stored_28 (by decide) (zr_SB_stored_31 B) (zr_SB_stored_33 B)
theorem zr_SB_stored_13 (B : zs_B p s m args meth c G bb_SB_stored 4 yy_SB_stored (some .int)) : zA_SB_stored p l e s m args below meth c G Q 13 (zb_SB_stored_13 Q) := by
  unfold zb_SB_stored_13
  refine za_ild_n B.1 2 dd_SB_stored_13 rfl ?_
  refine za_ico B.1 2 dd_SB_stored_14 (by decide) ?_
  exact za_cmp_ge B.1 31 dd_SB_stored_15 (by decide) (zr_SB_stored_31 B) (zr_SB_stored_18 B)
theorem zr_SB_stored_9 (B : zs_B p s m args meth c G bb_SB_stored 4 yy_SB_stored (some .int)) : zA_SB_stored p l e s m args below meth c G Q 9 (zb_SB_stored_9 Q) := by
  unfold zb_SB_stored_9
  refine za_ild_n B.1 2 dd_SB_stored_9 rfl ?_
  exact za_if_lt B.1 31 dd_SB_stored_10 (by decide) (zr_SB_stored_31 B) (zr_SB_stored_13 B)
theorem zr_SB_stored_4 (B : zs_B p s m args meth c G bb_SB_stored 4 yy_SB_stored (some .int)) : zA_SB_stored p l e s m args below meth c G Q 4 (zb_SB_stored_4 Q) := by
  unfold zb_SB_stored_4
  refine za_ild_n B.1 1 dd_SB_stored_4 rfl ?_
  refine za_ico B.1 3 dd_SB_stored_5 (by decide) ?_
  exact za_cmp_ge B.1 31 dd_SB_stored_6 (by decide) (zr_SB_stored_31 B) (zr_SB_stored_9 B)
theorem zr_SB_stored_0 (B : zs_B p s m args meth c G bb_SB_stored 4 yy_SB_stored (some .int)) : zA_SB_stored p l e s m args below meth c G Q 0 (zb_SB_stored_0 Q) := by
  unfold zb_SB_stored_0
  refine za_ild_n B.1 1 dd_SB_stored_0 rfl ?_
  exact za_if_lt B.1 31 dd_SB_stored_1 (by decide) (zr_SB_stored_31 B) (zr_SB_stored_4 B)
end
theorem zm_SB_stored (l : Launch) (G : zs_G) (As : List Value) (σ : zs_S) (Q : zs_Q) (h : zw_SB_stored As σ Q) : zs_Met l yy_SB_stored (Cond.code yy_SB_stored bb_SB_stored 4 (some .int) :: zw_all) zk_SB_stored G As σ Q 0 0 := by
  unfold zw_SB_stored at h
  split at h
  · exact zs_enter (by decide +kernel) h.1 (Nat.le_of_ble_eq_true rfl) h.2 (fun p e s m args below meth c B => zr_SB_stored_0 B)
  · exact h.elim
-- SequencedBatchesModel.<init>(I)V
theorem dd_Md_init_0 : decode bb_Md_init 0 = .ok (.aload_n 0, 1) := by decide +kernel
theorem dd_Md_init_1 : decode bb_Md_init 1 = .ok (.invokespecial 1, 3) := by decide +kernel
theorem dd_Md_init_4 : decode bb_Md_init 4 = .ok (.aload_n 0, 1) := by decide +kernel
theorem dd_Md_init_5 : decode bb_Md_init 5 = .ok (.bipush 7, 2) := by decide +kernel
theorem dd_Md_init_7 : decode bb_Md_init 7 = .ok (.newarray .boolean, 2) := by decide +kernel
theorem dd_Md_init_9 : decode bb_Md_init 9 = .ok (.putfield 7, 3) := by decide +kernel
theorem dd_Md_init_12 : decode bb_Md_init 12 = .ok (.aload_n 0, 1) := by decide +kernel
theorem dd_Md_init_13 : decode bb_Md_init 13 = .ok (.bipush 100, 2) := by decide +kernel
theorem dd_Md_init_15 : decode bb_Md_init 15 = .ok (.newarray .int, 2) := by decide +kernel
theorem dd_Md_init_17 : decode bb_Md_init 17 = .ok (.putfield 13, 3) := by decide +kernel
theorem dd_Md_init_20 : decode bb_Md_init 20 = .ok (.aload_n 0, 1) := by decide +kernel
theorem dd_Md_init_21 : decode bb_Md_init 21 = .ok (.bipush 100, 2) := by decide +kernel
theorem dd_Md_init_23 : decode bb_Md_init 23 = .ok (.newarray .int, 2) := by decide +kernel
theorem dd_Md_init_25 : decode bb_Md_init 25 = .ok (.putfield 17, 3) := by decide +kernel
theorem dd_Md_init_28 : decode bb_Md_init 28 = .ok (.aload_n 0, 1) := by decide +kernel
theorem dd_Md_init_29 : decode bb_Md_init 29 = .ok (.bipush 100, 2) := by decide +kernel
theorem dd_Md_init_31 : decode bb_Md_init 31 = .ok (.newarray .int, 2) := by decide +kernel
theorem dd_Md_init_33 : decode bb_Md_init 33 = .ok (.putfield 20, 3) := by decide +kernel
theorem dd_Md_init_36 : decode bb_Md_init 36 = .ok (.aload_n 0, 1) := by decide +kernel
theorem dd_Md_init_37 : decode bb_Md_init 37 = .ok (.bipush 100, 2) := by decide +kernel
theorem dd_Md_init_39 : decode bb_Md_init 39 = .ok (.newarray .int, 2) := by decide +kernel
theorem dd_Md_init_41 : decode bb_Md_init 41 = .ok (.putfield 23, 3) := by decide +kernel
theorem dd_Md_init_44 : decode bb_Md_init 44 = .ok (.aload_n 0, 1) := by decide +kernel
theorem dd_Md_init_45 : decode bb_Md_init 45 = .ok (.bipush 100, 2) := by decide +kernel
theorem dd_Md_init_47 : decode bb_Md_init 47 = .ok (.newarray .int, 2) := by decide +kernel
theorem dd_Md_init_49 : decode bb_Md_init 49 = .ok (.putfield 26, 3) := by decide +kernel
theorem dd_Md_init_52 : decode bb_Md_init 52 = .ok (.aload_n 0, 1) := by decide +kernel
theorem dd_Md_init_53 : decode bb_Md_init 53 = .ok (.bipush 100, 2) := by decide +kernel
theorem dd_Md_init_55 : decode bb_Md_init 55 = .ok (.newarray .int, 2) := by decide +kernel
theorem dd_Md_init_57 : decode bb_Md_init 57 = .ok (.putfield 29, 3) := by decide +kernel
theorem dd_Md_init_60 : decode bb_Md_init 60 = .ok (.aload_n 0, 1) := by decide +kernel
theorem dd_Md_init_61 : decode bb_Md_init 61 = .ok (.iconst 2, 1) := by decide +kernel
theorem dd_Md_init_62 : decode bb_Md_init 62 = .ok (.newarray .int, 2) := by decide +kernel
theorem dd_Md_init_64 : decode bb_Md_init 64 = .ok (.putfield 32, 3) := by decide +kernel
theorem dd_Md_init_67 : decode bb_Md_init 67 = .ok (.aload_n 0, 1) := by decide +kernel
theorem dd_Md_init_68 : decode bb_Md_init 68 = .ok (.iconst 2, 1) := by decide +kernel
theorem dd_Md_init_69 : decode bb_Md_init 69 = .ok (.newarray .int, 2) := by decide +kernel
theorem dd_Md_init_71 : decode bb_Md_init 71 = .ok (.putfield 35, 3) := by decide +kernel
theorem dd_Md_init_74 : decode bb_Md_init 74 = .ok (.aload_n 0, 1) := by decide +kernel
theorem dd_Md_init_75 : decode bb_Md_init 75 = .ok (.bipush 40, 2) := by decide +kernel
theorem dd_Md_init_77 : decode bb_Md_init 77 = .ok (.newarray .boolean, 2) := by decide +kernel
theorem dd_Md_init_79 : decode bb_Md_init 79 = .ok (.putfield 38, 3) := by decide +kernel
theorem dd_Md_init_82 : decode bb_Md_init 82 = .ok (.aload_n 0, 1) := by decide +kernel
theorem dd_Md_init_83 : decode bb_Md_init 83 = .ok (.bipush 40, 2) := by decide +kernel
theorem dd_Md_init_85 : decode bb_Md_init 85 = .ok (.newarray .int, 2) := by decide +kernel
theorem dd_Md_init_87 : decode bb_Md_init 87 = .ok (.putfield 41, 3) := by decide +kernel
theorem dd_Md_init_90 : decode bb_Md_init 90 = .ok (.aload_n 0, 1) := by decide +kernel
theorem dd_Md_init_91 : decode bb_Md_init 91 = .ok (.bipush 40, 2) := by decide +kernel
theorem dd_Md_init_93 : decode bb_Md_init 93 = .ok (.newarray .int, 2) := by decide +kernel
theorem dd_Md_init_95 : decode bb_Md_init 95 = .ok (.putfield 44, 3) := by decide +kernel
theorem dd_Md_init_98 : decode bb_Md_init 98 = .ok (.aload_n 0, 1) := by decide +kernel
theorem dd_Md_init_99 : decode bb_Md_init 99 = .ok (.bipush 120, 2) := by decide +kernel
theorem dd_Md_init_101 : decode bb_Md_init 101 = .ok (.newarray .int, 2) := by decide +kernel
theorem dd_Md_init_103 : decode bb_Md_init 103 = .ok (.putfield 47, 3) := by decide +kernel
theorem dd_Md_init_106 : decode bb_Md_init 106 = .ok (.aload_n 0, 1) := by decide +kernel
theorem dd_Md_init_107 : decode bb_Md_init 107 = .ok (.bipush 6, 2) := by decide +kernel
theorem dd_Md_init_109 : decode bb_Md_init 109 = .ok (.newarray .int, 2) := by decide +kernel
theorem dd_Md_init_111 : decode bb_Md_init 111 = .ok (.putfield 50, 3) := by decide +kernel
theorem dd_Md_init_114 : decode bb_Md_init 114 = .ok (.aload_n 0, 1) := by decide +kernel
theorem dd_Md_init_115 : decode bb_Md_init 115 = .ok (.bipush 80, 2) := by decide +kernel
theorem dd_Md_init_117 : decode bb_Md_init 117 = .ok (.newarray .int, 2) := by decide +kernel
theorem dd_Md_init_119 : decode bb_Md_init 119 = .ok (.putfield 53, 3) := by decide +kernel
theorem dd_Md_init_122 : decode bb_Md_init 122 = .ok (.aload_n 0, 1) := by decide +kernel
theorem dd_Md_init_123 : decode bb_Md_init 123 = .ok (.bipush 80, 2) := by decide +kernel
theorem dd_Md_init_125 : decode bb_Md_init 125 = .ok (.newarray .int, 2) := by decide +kernel
theorem dd_Md_init_127 : decode bb_Md_init 127 = .ok (.putfield 56, 3) := by decide +kernel
theorem dd_Md_init_130 : decode bb_Md_init 130 = .ok (.aload_n 0, 1) := by decide +kernel
theorem dd_Md_init_131 : decode bb_Md_init 131 = .ok (.bipush 80, 2) := by decide +kernel
theorem dd_Md_init_133 : decode bb_Md_init 133 = .ok (.newarray .int, 2) := by decide +kernel
theorem dd_Md_init_135 : decode bb_Md_init 135 = .ok (.putfield 59, 3) := by decide +kernel
theorem dd_Md_init_138 : decode bb_Md_init 138 = .ok (.aload_n 0, 1) := by decide +kernel
theorem dd_Md_init_139 : decode bb_Md_init 139 = .ok (.bipush 80, 2) := by decide +kernel
theorem dd_Md_init_141 : decode bb_Md_init 141 = .ok (.newarray .int, 2) := by decide +kernel
theorem dd_Md_init_143 : decode bb_Md_init 143 = .ok (.putfield 62, 3) := by decide +kernel
theorem dd_Md_init_146 : decode bb_Md_init 146 = .ok (.aload_n 0, 1) := by decide +kernel
theorem dd_Md_init_147 : decode bb_Md_init 147 = .ok (.bipush 80, 2) := by decide +kernel
theorem dd_Md_init_149 : decode bb_Md_init 149 = .ok (.newarray .int, 2) := by decide +kernel
theorem dd_Md_init_151 : decode bb_Md_init 151 = .ok (.putfield 65, 3) := by decide +kernel
theorem dd_Md_init_154 : decode bb_Md_init 154 = .ok (.aload_n 0, 1) := by decide +kernel
theorem dd_Md_init_155 : decode bb_Md_init 155 = .ok (.bipush 80, 2) := by decide +kernel
theorem dd_Md_init_157 : decode bb_Md_init 157 = .ok (.newarray .boolean, 2) := by decide +kernel
theorem dd_Md_init_159 : decode bb_Md_init 159 = .ok (.putfield 68, 3) := by decide +kernel
theorem dd_Md_init_162 : decode bb_Md_init 162 = .ok (.aload_n 0, 1) := by decide +kernel
theorem dd_Md_init_163 : decode bb_Md_init 163 = .ok (.bipush 24, 2) := by decide +kernel
theorem dd_Md_init_165 : decode bb_Md_init 165 = .ok (.newarray .int, 2) := by decide +kernel
theorem dd_Md_init_167 : decode bb_Md_init 167 = .ok (.putfield 71, 3) := by decide +kernel
theorem dd_Md_init_170 : decode bb_Md_init 170 = .ok (.aload_n 0, 1) := by decide +kernel
theorem dd_Md_init_171 : decode bb_Md_init 171 = .ok (.bipush 24, 2) := by decide +kernel
theorem dd_Md_init_173 : decode bb_Md_init 173 = .ok (.newarray .int, 2) := by decide +kernel
theorem dd_Md_init_175 : decode bb_Md_init 175 = .ok (.putfield 74, 3) := by decide +kernel
theorem dd_Md_init_178 : decode bb_Md_init 178 = .ok (.aload_n 0, 1) := by decide +kernel
theorem dd_Md_init_179 : decode bb_Md_init 179 = .ok (.iconst 2, 1) := by decide +kernel
theorem dd_Md_init_180 : decode bb_Md_init 180 = .ok (.newarray .int, 2) := by decide +kernel
theorem dd_Md_init_182 : decode bb_Md_init 182 = .ok (.putfield 77, 3) := by decide +kernel
theorem dd_Md_init_185 : decode bb_Md_init 185 = .ok (.aload_n 0, 1) := by decide +kernel
theorem dd_Md_init_186 : decode bb_Md_init 186 = .ok (.iconst 2, 1) := by decide +kernel
theorem dd_Md_init_187 : decode bb_Md_init 187 = .ok (.newarray .int, 2) := by decide +kernel
theorem dd_Md_init_189 : decode bb_Md_init 189 = .ok (.putfield 80, 3) := by decide +kernel
theorem dd_Md_init_192 : decode bb_Md_init 192 = .ok (.aload_n 0, 1) := by decide +kernel
theorem dd_Md_init_193 : decode bb_Md_init 193 = .ok (.bipush 8, 2) := by decide +kernel
theorem dd_Md_init_195 : decode bb_Md_init 195 = .ok (.newarray .int, 2) := by decide +kernel
theorem dd_Md_init_197 : decode bb_Md_init 197 = .ok (.putfield 83, 3) := by decide +kernel
theorem dd_Md_init_200 : decode bb_Md_init 200 = .ok (.aload_n 0, 1) := by decide +kernel
theorem dd_Md_init_201 : decode bb_Md_init 201 = .ok (.sipush 800, 3) := by decide +kernel
theorem dd_Md_init_204 : decode bb_Md_init 204 = .ok (.newarray .boolean, 2) := by decide +kernel
theorem dd_Md_init_206 : decode bb_Md_init 206 = .ok (.putfield 86, 3) := by decide +kernel
theorem dd_Md_init_209 : decode bb_Md_init 209 = .ok (.aload_n 0, 1) := by decide +kernel
theorem dd_Md_init_210 : decode bb_Md_init 210 = .ok (.sipush 800, 3) := by decide +kernel
theorem dd_Md_init_213 : decode bb_Md_init 213 = .ok (.newarray .boolean, 2) := by decide +kernel
theorem dd_Md_init_215 : decode bb_Md_init 215 = .ok (.putfield 89, 3) := by decide +kernel
theorem dd_Md_init_218 : decode bb_Md_init 218 = .ok (.aload_n 0, 1) := by decide +kernel
theorem dd_Md_init_219 : decode bb_Md_init 219 = .ok (.sipush 3200, 3) := by decide +kernel
theorem dd_Md_init_222 : decode bb_Md_init 222 = .ok (.newarray .boolean, 2) := by decide +kernel
theorem dd_Md_init_224 : decode bb_Md_init 224 = .ok (.putfield 92, 3) := by decide +kernel
theorem dd_Md_init_227 : decode bb_Md_init 227 = .ok (.aload_n 0, 1) := by decide +kernel
theorem dd_Md_init_228 : decode bb_Md_init 228 = .ok (.sipush 200, 3) := by decide +kernel
theorem dd_Md_init_231 : decode bb_Md_init 231 = .ok (.newarray .int, 2) := by decide +kernel
theorem dd_Md_init_233 : decode bb_Md_init 233 = .ok (.putfield 95, 3) := by decide +kernel
theorem dd_Md_init_236 : decode bb_Md_init 236 = .ok (.aload_n 0, 1) := by decide +kernel
theorem dd_Md_init_237 : decode bb_Md_init 237 = .ok (.sipush 200, 3) := by decide +kernel
theorem dd_Md_init_240 : decode bb_Md_init 240 = .ok (.newarray .int, 2) := by decide +kernel
theorem dd_Md_init_242 : decode bb_Md_init 242 = .ok (.putfield 98, 3) := by decide +kernel
theorem dd_Md_init_245 : decode bb_Md_init 245 = .ok (.aload_n 0, 1) := by decide +kernel
theorem dd_Md_init_246 : decode bb_Md_init 246 = .ok (.bipush 100, 2) := by decide +kernel
theorem dd_Md_init_248 : decode bb_Md_init 248 = .ok (.newarray .int, 2) := by decide +kernel
theorem dd_Md_init_250 : decode bb_Md_init 250 = .ok (.putfield 101, 3) := by decide +kernel
theorem dd_Md_init_253 : decode bb_Md_init 253 = .ok (.aload_n 0, 1) := by decide +kernel
theorem dd_Md_init_254 : decode bb_Md_init 254 = .ok (.iload_n 1, 1) := by decide +kernel
theorem dd_Md_init_255 : decode bb_Md_init 255 = .ok (.iconst 1, 1) := by decide +kernel
theorem dd_Md_init_256 : decode bb_Md_init 256 = .ok (.if_icmp .ge 7, 3) := by decide +kernel
theorem dd_Md_init_259 : decode bb_Md_init 259 = .ok (.iconst 1, 1) := by decide +kernel
theorem dd_Md_init_260 : decode bb_Md_init 260 = .ok (.goto 13, 3) := by decide +kernel
theorem dd_Md_init_263 : decode bb_Md_init 263 = .ok (.iload_n 1, 1) := by decide +kernel
theorem dd_Md_init_264 : decode bb_Md_init 264 = .ok (.iconst 4, 1) := by decide +kernel
theorem dd_Md_init_265 : decode bb_Md_init 265 = .ok (.if_icmp .le 7, 3) := by decide +kernel
theorem dd_Md_init_268 : decode bb_Md_init 268 = .ok (.iconst 4, 1) := by decide +kernel
theorem dd_Md_init_269 : decode bb_Md_init 269 = .ok (.goto 4, 3) := by decide +kernel
theorem dd_Md_init_272 : decode bb_Md_init 272 = .ok (.iload_n 1, 1) := by decide +kernel
theorem dd_Md_init_273 : decode bb_Md_init 273 = .ok (.putfield 104, 3) := by decide +kernel
theorem dd_Md_init_276 : decode bb_Md_init 276 = .ok (.aload_n 0, 1) := by decide +kernel
theorem dd_Md_init_277 : decode bb_Md_init 277 = .ok (.getfield 35, 3) := by decide +kernel
theorem dd_Md_init_280 : decode bb_Md_init 280 = .ok (.iconst 0, 1) := by decide +kernel
theorem dd_Md_init_281 : decode bb_Md_init 281 = .ok (.iconst 1, 1) := by decide +kernel
theorem dd_Md_init_282 : decode bb_Md_init 282 = .ok (.iastore, 1) := by decide +kernel
theorem dd_Md_init_283 : decode bb_Md_init 283 = .ok (.aload_n 0, 1) := by decide +kernel
theorem dd_Md_init_284 : decode bb_Md_init 284 = .ok (.getfield 35, 3) := by decide +kernel
theorem dd_Md_init_287 : decode bb_Md_init 287 = .ok (.iconst 1, 1) := by decide +kernel
theorem dd_Md_init_288 : decode bb_Md_init 288 = .ok (.iconst 1, 1) := by decide +kernel
theorem dd_Md_init_289 : decode bb_Md_init 289 = .ok (.iastore, 1) := by decide +kernel
theorem dd_Md_init_290 : decode bb_Md_init 290 = .ok (.iconst 0, 1) := by decide +kernel
theorem dd_Md_init_291 : decode bb_Md_init 291 = .ok (.istore_n 2, 1) := by decide +kernel
theorem dd_Md_init_292 : decode bb_Md_init 292 = .ok (.iload_n 2, 1) := by decide +kernel
theorem dd_Md_init_293 : decode bb_Md_init 293 = .ok (.bipush 24, 2) := by decide +kernel
theorem dd_Md_init_295 : decode bb_Md_init 295 = .ok (.if_icmp .ge 25, 3) := by decide +kernel
theorem dd_Md_init_298 : decode bb_Md_init 298 = .ok (.aload_n 0, 1) := by decide +kernel
theorem dd_Md_init_299 : decode bb_Md_init 299 = .ok (.getfield 71, 3) := by decide +kernel
theorem dd_Md_init_302 : decode bb_Md_init 302 = .ok (.iload_n 2, 1) := by decide +kernel
theorem dd_Md_init_303 : decode bb_Md_init 303 = .ok (.bipush 100, 2) := by decide +kernel
theorem dd_Md_init_305 : decode bb_Md_init 305 = .ok (.iastore, 1) := by decide +kernel
theorem dd_Md_init_306 : decode bb_Md_init 306 = .ok (.aload_n 0, 1) := by decide +kernel
theorem dd_Md_init_307 : decode bb_Md_init 307 = .ok (.getfield 74, 3) := by decide +kernel
theorem dd_Md_init_310 : decode bb_Md_init 310 = .ok (.iload_n 2, 1) := by decide +kernel
theorem dd_Md_init_311 : decode bb_Md_init 311 = .ok (.bipush 100, 2) := by decide +kernel
theorem dd_Md_init_313 : decode bb_Md_init 313 = .ok (.iastore, 1) := by decide +kernel
theorem dd_Md_init_314 : decode bb_Md_init 314 = .ok (.iinc 2 1, 3) := by decide +kernel
theorem dd_Md_init_317 : decode bb_Md_init 317 = .ok (.goto (-25), 3) := by decide +kernel
theorem dd_Md_init_320 : decode bb_Md_init 320 = .ok (.return_, 1) := by decide +kernel
def zk_Md_init : Room := { frames := 1, cells := 40, slots := 8000, locals := 40 }
abbrev zA_Md_init (p : Program) (l : Launch) (e : Env) (s : State) (m : MethodId) (args : Array Value) (below : List Frame) (meth : Method) (c : Code) (G : zs_G) (Q : zs_Q) (pc : Nat) (P : zs_P) : Prop := zs_At p l e zk_Md_init s m args below meth c (MQ below (zs_Qc G Q) args s 40 8000 (fun q => zg_z G ≤ q)) G 3 pc P
def zb_Md_init_320 (Q : zs_Q) : zs_P := zt_vrt 40 8000 Q
def zb_Md_init_298 (Q : zs_Q) (K292 : zs_P) : zs_P := zt_ald 0 (zt_gtR 8 23 (zt_ild 2 (zt_psh 100 (zt_ias (zt_ald 0 (zt_gtR 8 24 (zt_ild 2 (zt_psh 100 (zt_ias (zt_inc 2 1 (K292)))))))))))
def zb_Md_init_292 (Q : zs_Q) (K292 : zs_P) : zs_P := zt_ild 2 (zt_psh 24 (zt_cmp (fun x y => y ≤ x) (zb_Md_init_320 Q) (zb_Md_init_298 Q K292)))
def zl_Md_init_292 (Q : zs_Q) : zs_P := zt_ex (zb_Md_init_292 Q)
def zb_Md_init_273 (Q : zs_Q) : zs_P := zt_ptI 8 0 (zt_ald 0 (zt_gtR 8 10 (zt_psh 0 (zt_psh 1 (zt_ias (zt_ald 0 (zt_gtR 8 10 (zt_psh 1 (zt_psh 1 (zt_ias (zt_psh 0 (zt_ist 2 ((zl_Md_init_292 Q))))))))))))))
def zb_Md_init_272 (Q : zs_Q) : zs_P := zt_ild 1 ((zb_Md_init_273 Q))
def zb_Md_init_268 (Q : zs_Q) : zs_P := zt_psh 4 ((zb_Md_init_273 Q))
def zb_Md_init_263 (Q : zs_Q) : zs_P := zt_ild 1 (zt_psh 4 (zt_cmp (fun x y => x ≤ y) (zb_Md_init_272 Q) (zb_Md_init_268 Q)))
def zb_Md_init_259 (Q : zs_Q) : zs_P := zt_psh 1 ((zb_Md_init_273 Q))
def zb_Md_init_0 (Q : zs_Q) : zs_P := zt_ald 0 (zt_oin (zt_ald 0 (zt_psh 7 (zt_nwa 101 40 8000 (zt_ptR 8 1 (zt_ald 0 (zt_psh 100 (zt_nwa 100 40 8000 (zt_ptR 8 3 (zt_ald 0 (zt_psh 100 (zt_nwa 100 40 8000 (zt_ptR 8 4 (zt_ald 0 (zt_psh 100 (zt_nwa 100 40 8000 (zt_ptR 8 5 (zt_ald 0 (zt_psh 100 (zt_nwa 100 40 8000 (zt_ptR 8 6 (zt_ald 0 (zt_psh 100 (zt_nwa 100 40 8000 (zt_ptR 8 7 (zt_ald 0 (zt_psh 100 (zt_nwa 100 40 8000 (zt_ptR 8 8 (zt_ald 0 (zt_psh 2 (zt_nwa 100 40 8000 (zt_ptR 8 9 (zt_ald 0 (zt_psh 2 (zt_nwa 100 40 8000 (zt_ptR 8 10 (zt_ald 0 (zt_psh 40 (zt_nwa 101 40 8000 (zt_ptR 8 11 (zt_ald 0 (zt_psh 40 (zt_nwa 100 40 8000 (zt_ptR 8 12 (zt_ald 0 (zt_psh 40 (zt_nwa 100 40 8000 (zt_ptR 8 13 (zt_ald 0 (zt_psh 120 (zt_nwa 100 40 8000 (zt_ptR 8 14 (zt_ald 0 (zt_psh 6 (zt_nwa 100 40 8000 (zt_ptR 8 15 (zt_ald 0 (zt_psh 80 (zt_nwa 100 40 8000 (zt_ptR 8 17 (zt_ald 0 (zt_psh 80 (zt_nwa 100 40 8000 (zt_ptR 8 18 (zt_ald 0 (zt_psh 80 (zt_nwa 100 40 8000 (zt_ptR 8 19 (zt_ald 0 (zt_psh 80 (zt_nwa 100 40 8000 (zt_ptR 8 20 (zt_ald 0 (zt_psh 80 (zt_nwa 100 40 8000 (zt_ptR 8 21 (zt_ald 0 (zt_psh 80 (zt_nwa 101 40 8000 (zt_ptR 8 22 (zt_ald 0 (zt_psh 24 (zt_nwa 100 40 8000 (zt_ptR 8 23 (zt_ald 0 (zt_psh 24 (zt_nwa 100 40 8000 (zt_ptR 8 24 (zt_ald 0 (zt_psh 2 (zt_nwa 100 40 8000 (zt_ptR 8 25 (zt_ald 0 (zt_psh 2 (zt_nwa 100 40 8000 (zt_ptR 8 26 (zt_ald 0 (zt_psh 8 (zt_nwa 100 40 8000 (zt_ptR 8 27 (zt_ald 0 (zt_psh 800 (zt_nwa 101 40 8000 (zt_ptR 8 28 (zt_ald 0 (zt_psh 800 (zt_nwa 101 40 8000 (zt_ptR 8 29 (zt_ald 0 (zt_psh 3200 (zt_nwa 101 40 8000 (zt_ptR 8 30 (zt_ald 0 (zt_psh 200 (zt_nwa 100 40 8000 (zt_ptR 8 31 (zt_ald 0 (zt_psh 200 (zt_nwa 100 40 8000 (zt_ptR 8 32 (zt_ald 0 (zt_psh 100 (zt_nwa 100 40 8000 (zt_ptR 8 33 (zt_ald 0 (zt_ild 1 (zt_psh 1 (zt_cmp (fun x y => y ≤ x) (zb_Md_init_263 Q) (zb_Md_init_259 Q))))))))))))))))))))))))))))))))))))))))))))))))))))))))))))))))))))))))))))))))))))))))))))))))))))))))))))))))))))))))))))))))))
def zw_Md_init : zs_W := fun As σ Q => match As with
  | [a0, a1] => zs_c1 [a0, a1] = true ∧ zb_Md_init_0 Q [some a0, some a1, none] [] σ 0 0
  | _ => False
section
variable {p : Program} {l : Launch} {e : Env} {s : State} {m : MethodId} {args : Array Value} {below : List Frame} {meth : Method} {c : Code} {G : zs_G} {Q : zs_Q}
theorem zr_Md_init_320 (B : zs_B p s m args meth c G bb_Md_init 3 yy_Md_init none) : zA_Md_init p l e s m args below meth c G Q 320 (zb_Md_init_320 Q) := by
  unfold zb_Md_init_320
  exact za_vrt B.1 40 8000 B.2.1 B.2.2.1 dd_Md_init_320
theorem zr_Md_init_298 (B : zs_B p s m args meth c G bb_Md_init 3 yy_Md_init none) {K292 : zs_P} (h292 : zA_Md_init p l e s m args below meth c G Q 292 K292) : zA_Md_init p l e s m args below meth c G Q 298 (zb_Md_init_298 Q K292) := by
  unfold zb_Md_init_298
  refine za_ald_n B.1 0 dd_Md_init_298 rfl ?_
  refine za_gtR B.1 8 23 zi_8 rfl (by decide) (by decide) rfl zW_479 rfl dd_Md_init_299 ?_
  refine za_ild_n B.1 2 dd_Md_init_302 rfl ?_
  refine za_bip B.1 100 dd_Md_init_303 (by decide) ?_
  refine za_iast B.1 dd_Md_init_305 ?_
  refine za_ald_n B.1 0 dd_Md_init_306 rfl ?_
  refine za_gtR B.1 8 24 zi_8 rfl (by decide) (by decide) rfl zW_480 rfl dd_Md_init_307 ?_
  refine za_ild_n B.1 2 dd_Md_init_310 rfl ?_
  refine za_bip B.1 100 dd_Md_init_311 (by decide) ?_
  refine za_iast B.1 dd_Md_init_313 ?_
  refine za_inc B.1 1 dd_Md_init_314 (by decide) (by decide) ?_
  refine za_goto B.1 292 dd_Md_init_317 (by decide) ?_
  exact h292
theorem zr_Md_init_292 (B : zs_B p s m args meth c G bb_Md_init 3 yy_Md_init none) {K292 : zs_P} (h292 : zA_Md_init p l e s m args below meth c G Q 292 K292) : zA_Md_init p l e s m args below meth c G Q 292 (zb_Md_init_292 Q K292) := by
  unfold zb_Md_init_292
  refine za_ild_n B.1 2 dd_Md_init_292 rfl ?_
  refine za_bip B.1 24 dd_Md_init_293 (by decide) ?_
  exact za_cmp_ge B.1 320 dd_Md_init_295 (by decide) (zr_Md_init_320 B) (zr_Md_init_298 B h292)
theorem zq_Md_init_292 (B : zs_B p s m args meth c G bb_Md_init 3 yy_Md_init none) : zA_Md_init p l e s m args below meth c G Q 292 (zl_Md_init_292 Q) := za_lop (fun K hK => zr_Md_init_292 B hK)
theorem zr_Md_init_273 (B : zs_B p s m args meth c G bb_Md_init 3 yy_Md_init none) : zA_Md_init p l e s m args below meth c G Q 273 (zb_Md_init_273 Q) := by
  unfold zb_Md_init_273
  refine za_ptIF B.1 8 0 zi_8 zy_Md zy_Md_ok zn_Md rfl (by decide) (by decide) rfl zW_456 rfl rfl B.2.2.2 rfl rfl dd_Md_init_273 ?_
  refine za_ald_n B.1 0 dd_Md_init_276 rfl ?_
  refine za_gtR B.1 8 10 zi_8 rfl (by decide) (by decide) rfl zW_466 rfl dd_Md_init_277 ?_
  refine za_ico B.1 0 dd_Md_init_280 (by decide) ?_
  refine za_ico B.1 1 dd_Md_init_281 (by decide) ?_
  refine za_iast B.1 dd_Md_init_282 ?_
  refine za_ald_n B.1 0 dd_Md_init_283 rfl ?_
  refine za_gtR B.1 8 10 zi_8 rfl (by decide) (by decide) rfl zW_466 rfl dd_Md_init_284 ?_
  refine za_ico B.1 1 dd_Md_init_287 (by decide) ?_
  refine za_ico B.1 1 dd_Md_init_288 (by decide) ?_
  refine za_iast B.1 dd_Md_init_289 ?_
  refine za_ico B.1 0 dd_Md_init_290 (by decide) ?_
  refine za_ist_n B.1 2 dd_Md_init_291 rfl (by decide) ?_
  exact (zq_Md_init_292 B)
theorem zr_Md_init_272 (B : zs_B p s m args meth c G bb_Md_init 3 yy_Md_init none) : zA_Md_init p l e s m args below meth c G Q 272 (zb_Md_init_272 Q) := by
  unfold zb_Md_init_272
  refine za_ild_n B.1 1 dd_Md_init_272 rfl ?_
  exact (zr_Md_init_273 B)
theorem zr_Md_init_268 (B : zs_B p s m args meth c G bb_Md_init 3 yy_Md_init none) : zA_Md_init p l e s m args below meth c G Q 268 (zb_Md_init_268 Q) := by
  unfold zb_Md_init_268
  refine za_ico B.1 4 dd_Md_init_268 (by decide) ?_
  refine za_goto B.1 273 dd_Md_init_269 (by decide) ?_
  exact (zr_Md_init_273 B)
theorem zr_Md_init_263 (B : zs_B p s m args meth c G bb_Md_init 3 yy_Md_init none) : zA_Md_init p l e s m args below meth c G Q 263 (zb_Md_init_263 Q) := by
  unfold zb_Md_init_263
  refine za_ild_n B.1 1 dd_Md_init_263 rfl ?_
  refine za_ico B.1 4 dd_Md_init_264 (by decide) ?_
  exact za_cmp_le B.1 272 dd_Md_init_265 (by decide) (zr_Md_init_272 B) (zr_Md_init_268 B)
theorem zr_Md_init_259 (B : zs_B p s m args meth c G bb_Md_init 3 yy_Md_init none) : zA_Md_init p l e s m args below meth c G Q 259 (zb_Md_init_259 Q) := by
  unfold zb_Md_init_259
  refine za_ico B.1 1 dd_Md_init_259 (by decide) ?_
  refine za_goto B.1 273 dd_Md_init_260 (by decide) ?_
  exact (zr_Md_init_273 B)
theorem zr_Md_init_0 (B : zs_B p s m args meth c G bb_Md_init 3 yy_Md_init none) : zA_Md_init p l e s m args below meth c G Q 0 (zb_Md_init_0 Q) := by
  unfold zb_Md_init_0
  refine za_ald_n B.1 0 dd_Md_init_0 rfl ?_
  refine za_oin B.1 (by decide) zW_455 zW_19 zW_20 dd_Md_init_1 ?_
  refine za_ald_n B.1 0 dd_Md_init_4 rfl ?_
  refine za_bip B.1 7 dd_Md_init_5 (by decide) ?_
  refine za_nwz B.1 40 8000 rfl rfl zW_30 dd_Md_init_7 ?_
  refine za_ptRF (ty := .array .boolean) B.1 8 1 zi_8 zy_Md zy_Md_ok zn_Md rfl (by decide) (by decide) rfl zW_457 rfl rfl B.2.2.2 rfl rfl (Or.inr ⟨_, rfl⟩) dd_Md_init_9 ?_
  refine za_ald_n B.1 0 dd_Md_init_12 rfl ?_
  refine za_bip B.1 100 dd_Md_init_13 (by decide) ?_
  refine za_nwi B.1 40 8000 rfl rfl zW_31 dd_Md_init_15 ?_
  refine za_ptRF (ty := .array .int) B.1 8 3 zi_8 zy_Md zy_Md_ok zn_Md rfl (by decide) (by decide) rfl zW_459 rfl rfl B.2.2.2 rfl rfl (Or.inr ⟨_, rfl⟩) dd_Md_init_17 ?_
  refine za_ald_n B.1 0 dd_Md_init_20 rfl ?_
  refine za_bip B.1 100 dd_Md_init_21 (by decide) ?_
  refine za_nwi B.1 40 8000 rfl rfl zW_31 dd_Md_init_23 ?_
  refine za_ptRF (ty := .array .int) B.1 8 4 zi_8 zy_Md zy_Md_ok zn_Md rfl (by decide) (by decide) rfl zW_460 rfl rfl B.2.2.2 rfl rfl (Or.inr ⟨_, rfl⟩) dd_Md_init_25 ?_
  refine za_ald_n B.1 0 dd_Md_init_28 rfl ?_
  refine za_bip B.1 100 dd_Md_init_29 (by decide) ?_
  refine za_nwi B.1 40 8000 rfl rfl zW_31 dd_Md_init_31 ?_
  refine za_ptRF (ty := .array .int) B.1 8 5 zi_8 zy_Md zy_Md_ok zn_Md rfl (by decide) (by decide) rfl zW_461 rfl rfl B.2.2.2 rfl rfl (Or.inr ⟨_, rfl⟩) dd_Md_init_33 ?_
  refine za_ald_n B.1 0 dd_Md_init_36 rfl ?_
  refine za_bip B.1 100 dd_Md_init_37 (by decide) ?_
  refine za_nwi B.1 40 8000 rfl rfl zW_31 dd_Md_init_39 ?_
  refine za_ptRF (ty := .array .int) B.1 8 6 zi_8 zy_Md zy_Md_ok zn_Md rfl (by decide) (by decide) rfl zW_462 rfl rfl B.2.2.2 rfl rfl (Or.inr ⟨_, rfl⟩) dd_Md_init_41 ?_
  refine za_ald_n B.1 0 dd_Md_init_44 rfl ?_
  refine za_bip B.1 100 dd_Md_init_45 (by decide) ?_
  refine za_nwi B.1 40 8000 rfl rfl zW_31 dd_Md_init_47 ?_
  refine za_ptRF (ty := .array .int) B.1 8 7 zi_8 zy_Md zy_Md_ok zn_Md rfl (by decide) (by decide) rfl zW_463 rfl rfl B.2.2.2 rfl rfl (Or.inr ⟨_, rfl⟩) dd_Md_init_49 ?_
  refine za_ald_n B.1 0 dd_Md_init_52 rfl ?_
  refine za_bip B.1 100 dd_Md_init_53 (by decide) ?_
  refine za_nwi B.1 40 8000 rfl rfl zW_31 dd_Md_init_55 ?_
  refine za_ptRF (ty := .array .int) B.1 8 8 zi_8 zy_Md zy_Md_ok zn_Md rfl (by decide) (by decide) rfl zW_464 rfl rfl B.2.2.2 rfl rfl (Or.inr ⟨_, rfl⟩) dd_Md_init_57 ?_
  refine za_ald_n B.1 0 dd_Md_init_60 rfl ?_
  refine za_ico B.1 2 dd_Md_init_61 (by decide) ?_
  refine za_nwi B.1 40 8000 rfl rfl zW_31 dd_Md_init_62 ?_
  refine za_ptRF (ty := .array .int) B.1 8 9 zi_8 zy_Md zy_Md_ok zn_Md rfl (by decide) (by decide) rfl zW_465 rfl rfl B.2.2.2 rfl rfl (Or.inr ⟨_, rfl⟩) dd_Md_init_64 ?_
  refine za_ald_n B.1 0 dd_Md_init_67 rfl ?_
  refine za_ico B.1 2 dd_Md_init_68 (by decide) ?_
  refine za_nwi B.1 40 8000 rfl rfl zW_31 dd_Md_init_69 ?_
  refine za_ptRF (ty := .array .int) B.1 8 10 zi_8 zy_Md zy_Md_ok zn_Md rfl (by decide) (by decide) rfl zW_466 rfl rfl B.2.2.2 rfl rfl (Or.inr ⟨_, rfl⟩) dd_Md_init_71 ?_
  refine za_ald_n B.1 0 dd_Md_init_74 rfl ?_
  refine za_bip B.1 40 dd_Md_init_75 (by decide) ?_
  refine za_nwz B.1 40 8000 rfl rfl zW_30 dd_Md_init_77 ?_
  refine za_ptRF (ty := .array .boolean) B.1 8 11 zi_8 zy_Md zy_Md_ok zn_Md rfl (by decide) (by decide) rfl zW_467 rfl rfl B.2.2.2 rfl rfl (Or.inr ⟨_, rfl⟩) dd_Md_init_79 ?_
  refine za_ald_n B.1 0 dd_Md_init_82 rfl ?_
  refine za_bip B.1 40 dd_Md_init_83 (by decide) ?_
  refine za_nwi B.1 40 8000 rfl rfl zW_31 dd_Md_init_85 ?_
  refine za_ptRF (ty := .array .int) B.1 8 12 zi_8 zy_Md zy_Md_ok zn_Md rfl (by decide) (by decide) rfl zW_468 rfl rfl B.2.2.2 rfl rfl (Or.inr ⟨_, rfl⟩) dd_Md_init_87 ?_
  refine za_ald_n B.1 0 dd_Md_init_90 rfl ?_
  refine za_bip B.1 40 dd_Md_init_91 (by decide) ?_
  refine za_nwi B.1 40 8000 rfl rfl zW_31 dd_Md_init_93 ?_
  refine za_ptRF (ty := .array .int) B.1 8 13 zi_8 zy_Md zy_Md_ok zn_Md rfl (by decide) (by decide) rfl zW_469 rfl rfl B.2.2.2 rfl rfl (Or.inr ⟨_, rfl⟩) dd_Md_init_95 ?_
  refine za_ald_n B.1 0 dd_Md_init_98 rfl ?_
  refine za_bip B.1 120 dd_Md_init_99 (by decide) ?_
  refine za_nwi B.1 40 8000 rfl rfl zW_31 dd_Md_init_101 ?_
  refine za_ptRF (ty := .array .int) B.1 8 14 zi_8 zy_Md zy_Md_ok zn_Md rfl (by decide) (by decide) rfl zW_470 rfl rfl B.2.2.2 rfl rfl (Or.inr ⟨_, rfl⟩) dd_Md_init_103 ?_
  refine za_ald_n B.1 0 dd_Md_init_106 rfl ?_
  refine za_bip B.1 6 dd_Md_init_107 (by decide) ?_
  refine za_nwi B.1 40 8000 rfl rfl zW_31 dd_Md_init_109 ?_
  refine za_ptRF (ty := .array .int) B.1 8 15 zi_8 zy_Md zy_Md_ok zn_Md rfl (by decide) (by decide) rfl zW_471 rfl rfl B.2.2.2 rfl rfl (Or.inr ⟨_, rfl⟩) dd_Md_init_111 ?_
  refine za_ald_n B.1 0 dd_Md_init_114 rfl ?_
  refine za_bip B.1 80 dd_Md_init_115 (by decide) ?_
  refine za_nwi B.1 40 8000 rfl rfl zW_31 dd_Md_init_117 ?_
  refine za_ptRF (ty := .array .int) B.1 8 17 zi_8 zy_Md zy_Md_ok zn_Md rfl (by decide) (by decide) rfl zW_473 rfl rfl B.2.2.2 rfl rfl (Or.inr ⟨_, rfl⟩) dd_Md_init_119 ?_
  refine za_ald_n B.1 0 dd_Md_init_122 rfl ?_
  refine za_bip B.1 80 dd_Md_init_123 (by decide) ?_
  refine za_nwi B.1 40 8000 rfl rfl zW_31 dd_Md_init_125 ?_
  refine za_ptRF (ty := .array .int) B.1 8 18 zi_8 zy_Md zy_Md_ok zn_Md rfl (by decide) (by decide) rfl zW_474 rfl rfl B.2.2.2 rfl rfl (Or.inr ⟨_, rfl⟩) dd_Md_init_127 ?_
  refine za_ald_n B.1 0 dd_Md_init_130 rfl ?_
  refine za_bip B.1 80 dd_Md_init_131 (by decide) ?_
  refine za_nwi B.1 40 8000 rfl rfl zW_31 dd_Md_init_133 ?_
  refine za_ptRF (ty := .array .int) B.1 8 19 zi_8 zy_Md zy_Md_ok zn_Md rfl (by decide) (by decide) rfl zW_475 rfl rfl B.2.2.2 rfl rfl (Or.inr ⟨_, rfl⟩) dd_Md_init_135 ?_
  refine za_ald_n B.1 0 dd_Md_init_138 rfl ?_
  refine za_bip B.1 80 dd_Md_init_139 (by decide) ?_
  refine za_nwi B.1 40 8000 rfl rfl zW_31 dd_Md_init_141 ?_
  refine za_ptRF (ty := .array .int) B.1 8 20 zi_8 zy_Md zy_Md_ok zn_Md rfl (by decide) (by decide) rfl zW_476 rfl rfl B.2.2.2 rfl rfl (Or.inr ⟨_, rfl⟩) dd_Md_init_143 ?_
  refine za_ald_n B.1 0 dd_Md_init_146 rfl ?_
  refine za_bip B.1 80 dd_Md_init_147 (by decide) ?_
  refine za_nwi B.1 40 8000 rfl rfl zW_31 dd_Md_init_149 ?_
  refine za_ptRF (ty := .array .int) B.1 8 21 zi_8 zy_Md zy_Md_ok zn_Md rfl (by decide) (by decide) rfl zW_477 rfl rfl B.2.2.2 rfl rfl (Or.inr ⟨_, rfl⟩) dd_Md_init_151 ?_
  refine za_ald_n B.1 0 dd_Md_init_154 rfl ?_
  refine za_bip B.1 80 dd_Md_init_155 (by decide) ?_
  refine za_nwz B.1 40 8000 rfl rfl zW_30 dd_Md_init_157 ?_
  refine za_ptRF (ty := .array .boolean) B.1 8 22 zi_8 zy_Md zy_Md_ok zn_Md rfl (by decide) (by decide) rfl zW_478 rfl rfl B.2.2.2 rfl rfl (Or.inr ⟨_, rfl⟩) dd_Md_init_159 ?_
  refine za_ald_n B.1 0 dd_Md_init_162 rfl ?_
  refine za_bip B.1 24 dd_Md_init_163 (by decide) ?_
  refine za_nwi B.1 40 8000 rfl rfl zW_31 dd_Md_init_165 ?_
  refine za_ptRF (ty := .array .int) B.1 8 23 zi_8 zy_Md zy_Md_ok zn_Md rfl (by decide) (by decide) rfl zW_479 rfl rfl B.2.2.2 rfl rfl (Or.inr ⟨_, rfl⟩) dd_Md_init_167 ?_
  refine za_ald_n B.1 0 dd_Md_init_170 rfl ?_
  refine za_bip B.1 24 dd_Md_init_171 (by decide) ?_
  refine za_nwi B.1 40 8000 rfl rfl zW_31 dd_Md_init_173 ?_
  refine za_ptRF (ty := .array .int) B.1 8 24 zi_8 zy_Md zy_Md_ok zn_Md rfl (by decide) (by decide) rfl zW_480 rfl rfl B.2.2.2 rfl rfl (Or.inr ⟨_, rfl⟩) dd_Md_init_175 ?_
  refine za_ald_n B.1 0 dd_Md_init_178 rfl ?_
  refine za_ico B.1 2 dd_Md_init_179 (by decide) ?_
  refine za_nwi B.1 40 8000 rfl rfl zW_31 dd_Md_init_180 ?_
  refine za_ptRF (ty := .array .int) B.1 8 25 zi_8 zy_Md zy_Md_ok zn_Md rfl (by decide) (by decide) rfl zW_481 rfl rfl B.2.2.2 rfl rfl (Or.inr ⟨_, rfl⟩) dd_Md_init_182 ?_
  refine za_ald_n B.1 0 dd_Md_init_185 rfl ?_
  refine za_ico B.1 2 dd_Md_init_186 (by decide) ?_
  refine za_nwi B.1 40 8000 rfl rfl zW_31 dd_Md_init_187 ?_
  refine za_ptRF (ty := .array .int) B.1 8 26 zi_8 zy_Md zy_Md_ok zn_Md rfl (by decide) (by decide) rfl zW_482 rfl rfl B.2.2.2 rfl rfl (Or.inr ⟨_, rfl⟩) dd_Md_init_189 ?_
  refine za_ald_n B.1 0 dd_Md_init_192 rfl ?_
  refine za_bip B.1 8 dd_Md_init_193 (by decide) ?_
  refine za_nwi B.1 40 8000 rfl rfl zW_31 dd_Md_init_195 ?_
  refine za_ptRF (ty := .array .int) B.1 8 27 zi_8 zy_Md zy_Md_ok zn_Md rfl (by decide) (by decide) rfl zW_483 rfl rfl B.2.2.2 rfl rfl (Or.inr ⟨_, rfl⟩) dd_Md_init_197 ?_
  refine za_ald_n B.1 0 dd_Md_init_200 rfl ?_
  refine za_sip B.1 800 dd_Md_init_201 (by decide) ?_
  refine za_nwz B.1 40 8000 rfl rfl zW_30 dd_Md_init_204 ?_
  refine za_ptRF (ty := .array .boolean) B.1 8 28 zi_8 zy_Md zy_Md_ok zn_Md rfl (by decide) (by decide) rfl zW_484 rfl rfl B.2.2.2 rfl rfl (Or.inr ⟨_, rfl⟩) dd_Md_init_206 ?_
  refine za_ald_n B.1 0 dd_Md_init_209 rfl ?_
  refine za_sip B.1 800 dd_Md_init_210 (by decide) ?_
  refine za_nwz B.1 40 8000 rfl rfl zW_30 dd_Md_init_213 ?_
  refine za_ptRF (ty := .array .boolean) B.1 8 29 zi_8 zy_Md zy_Md_ok zn_Md rfl (by decide) (by decide) rfl zW_485 rfl rfl B.2.2.2 rfl rfl (Or.inr ⟨_, rfl⟩) dd_Md_init_215 ?_
  refine za_ald_n B.1 0 dd_Md_init_218 rfl ?_
  refine za_sip B.1 3200 dd_Md_init_219 (by decide) ?_
  refine za_nwz B.1 40 8000 rfl rfl zW_30 dd_Md_init_222 ?_
  refine za_ptRF (ty := .array .boolean) B.1 8 30 zi_8 zy_Md zy_Md_ok zn_Md rfl (by decide) (by decide) rfl zW_486 rfl rfl B.2.2.2 rfl rfl (Or.inr ⟨_, rfl⟩) dd_Md_init_224 ?_
  refine za_ald_n B.1 0 dd_Md_init_227 rfl ?_
  refine za_sip B.1 200 dd_Md_init_228 (by decide) ?_
  refine za_nwi B.1 40 8000 rfl rfl zW_31 dd_Md_init_231 ?_
  refine za_ptRF (ty := .array .int) B.1 8 31 zi_8 zy_Md zy_Md_ok zn_Md rfl (by decide) (by decide) rfl zW_487 rfl rfl B.2.2.2 rfl rfl (Or.inr ⟨_, rfl⟩) dd_Md_init_233 ?_
  refine za_ald_n B.1 0 dd_Md_init_236 rfl ?_
  refine za_sip B.1 200 dd_Md_init_237 (by decide) ?_
  refine za_nwi B.1 40 8000 rfl rfl zW_31 dd_Md_init_240 ?_
  refine za_ptRF (ty := .array .int) B.1 8 32 zi_8 zy_Md zy_Md_ok zn_Md rfl (by decide) (by decide) rfl zW_488 rfl rfl B.2.2.2 rfl rfl (Or.inr ⟨_, rfl⟩) dd_Md_init_242 ?_
  refine za_ald_n B.1 0 dd_Md_init_245 rfl ?_
  refine za_bip B.1 100 dd_Md_init_246 (by decide) ?_
  refine za_nwi B.1 40 8000 rfl rfl zW_31 dd_Md_init_248 ?_
  refine za_ptRF (ty := .array .int) B.1 8 33 zi_8 zy_Md zy_Md_ok zn_Md rfl (by decide) (by decide) rfl zW_489 rfl rfl B.2.2.2 rfl rfl (Or.inr ⟨_, rfl⟩) dd_Md_init_250 ?_
  refine za_ald_n B.1 0 dd_Md_init_253 rfl ?_
  refine za_ild_n B.1 1 dd_Md_init_254 rfl ?_
  refine za_ico B.1 1 dd_Md_init_255 (by decide) ?_
  exact za_cmp_ge B.1 263 dd_Md_init_256 (by decide) (zr_Md_init_263 B) (zr_Md_init_259 B)
end
theorem zm_Md_init (l : Launch) (G : zs_G) (As : List Value) (σ : zs_S) (Q : zs_Q) (h : zw_Md_init As σ Q) : zs_Met l yy_Md_init (Cond.code yy_Md_init bb_Md_init 3 none :: zw_all) zk_Md_init G As σ Q 40 8000 := by
  unfold zw_Md_init at h
  split at h
  · exact zs_enter (by decide +kernel) h.1 (Nat.le_of_ble_eq_true rfl) h.2 (fun p e s m args below meth c B => zr_Md_init_0 B)
  · exact h.elim
