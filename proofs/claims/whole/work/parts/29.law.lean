/-! The law: its end, then its blocks (made by program) -/
def zt_lrt (_L : List (Option Value)) (st : List Value) (_σ : zs_S) (c s : Nat) : Prop := match st with
  | [.int x] => c ≤ 600000 ∧ s ≤ 7302250 ∧ x = 1
  | _ => False
def zs_Bl (p : Program) (s : State) (m : MethodId) (b : Nat) (meth : Method) (c : Code) (G : zs_G) : Prop := zs_C p s m #[Value.ref b] c G code 4 "SequencedBatchesLaw" zw_all ∧ meth.sig.returnType = ret ∧ meth.locks = false ∧ zg_z G = s.heap.size
abbrev zA_Lw_law (p : Program) (l : Launch) (e : Env) (s : State) (m : MethodId) (b : Nat) (below : List Frame) (meth : Method) (c : Code) (G : zs_G) (pc : Nat) (P : zs_P) : Prop := zs_At p l e room_1 s m #[Value.ref b] below meth c (lw_Z below #[Value.ref b] s) G 4 pc P
theorem za_lrt {p : Program} {l : Launch} {e : Env} {s : State} {m : MethodId} {b : Nat} {below : List Frame} {meth : Method} {c : Code} {G : zs_G} {pc : Nat} (B : zs_Bl p s m b meth c G) (hd : decode code pc = .ok (.ireturn, 1)) : zA_Lw_law p l e s m b below meth c G pc zt_lrt := by
  intro L st σ ls H locs cs ss hP hl hH hS
  unfold zt_lrt at hP
  split at hP
  · next x =>
    obtain ⟨h1, h2, rfl⟩ := hP
    exact va_forget (fun q hq => by rw [← B.2.2.2]; exact hS.2.2 q hq) (W.widen h1 h2 (lw_ret B.1.1.1 B.1.1.2.1 B.2.1 B.2.2.1 hd))
  · exact hP.elim
def zb_Lw_law_752 (G : zs_G) : zs_P := zt_psh 1 (zt_lrt)
def zb_Lw_law_746 (G : zs_G) (K28 : zs_P) : zs_P := zt_inc 3 6 (K28)
def zb_Lw_law_197 (G : zs_G) : zs_P := zt_psh 0 (zt_lrt)
def zb_Lw_law_136 (G : zs_G) (K28 : zs_P) : zs_P := zt_ald 1 (zt_ald 0 (zt_ild 3 (zt_psh 1 (zt_bin (fun x y => x + y) (zt_sld G (zt_ald 0 (zt_ild 3 (zt_psh 2 (zt_bin (fun x y => x + y) (zt_sld G (zt_ald 0 (zt_ild 3 (zt_psh 3 (zt_bin (fun x y => x + y) (zt_sld G (zt_ald 0 (zt_ild 3 (zt_psh 4 (zt_bin (fun x y => x + y) (zt_sld G (zt_ald 0 (zt_ild 3 (zt_psh 5 (zt_bin (fun x y => x + y) (zt_sld G (zt_cav 7 zw_SB_submit (5 + 1) 1 9 600000 7302250 (zt_ald 2 (zt_ald 0 (zt_ild 3 (zt_psh 1 (zt_bin (fun x y => x + y) (zt_sld G (zt_ald 0 (zt_ild 3 (zt_psh 2 (zt_bin (fun x y => x + y) (zt_sld G (zt_ald 0 (zt_ild 3 (zt_psh 3 (zt_bin (fun x y => x + y) (zt_sld G (zt_ald 0 (zt_ild 3 (zt_psh 4 (zt_bin (fun x y => x + y) (zt_sld G (zt_ald 0 (zt_ild 3 (zt_psh 5 (zt_bin (fun x y => x + y) (zt_sld G (zt_cav 8 zw_Md_submit (5 + 1) 0 0 600000 7302250 (zt_cmp (fun x y => x = y) (zb_Lw_law_746 G K28) (zb_Lw_law_197 G)))))))))))))))))))))))))))))))))))))))))))))))))))))))
def zb_Lw_law_220 (G : zs_G) : zs_P := zt_psh 0 (zt_lrt)
def zb_Lw_law_199 (G : zs_G) (K28 : zs_P) : zs_P := zt_ald 1 (zt_ald 0 (zt_ild 3 (zt_psh 1 (zt_bin (fun x y => x + y) (zt_sld G (zt_cav 7 zw_SB_close (1 + 1) 3 13 600000 7302250 (zt_ald 2 (zt_ald 0 (zt_ild 3 (zt_psh 1 (zt_bin (fun x y => x + y) (zt_sld G (zt_cav 8 zw_Md_close (1 + 1) 0 0 600000 7302250 (zt_cmp (fun x y => x = y) (zb_Lw_law_746 G K28) (zb_Lw_law_220 G)))))))))))))))
def zb_Lw_law_253 (G : zs_G) : zs_P := zt_psh 0 (zt_lrt)
def zb_Lw_law_222 (G : zs_G) (K28 : zs_P) : zs_P := zt_ald 1 (zt_ald 0 (zt_ild 3 (zt_psh 1 (zt_bin (fun x y => x + y) (zt_sld G (zt_ald 0 (zt_ild 3 (zt_psh 2 (zt_bin (fun x y => x + y) (zt_sld G (zt_cav 7 zw_SB_resend (2 + 1) 0 0 600000 7302250 (zt_ald 2 (zt_ald 0 (zt_ild 3 (zt_psh 1 (zt_bin (fun x y => x + y) (zt_sld G (zt_ald 0 (zt_ild 3 (zt_psh 2 (zt_bin (fun x y => x + y) (zt_sld G (zt_cav 8 zw_Md_resend (2 + 1) 0 0 600000 7302250 (zt_cmp (fun x y => x = y) (zb_Lw_law_746 G K28) (zb_Lw_law_253 G)))))))))))))))))))))))))
def zb_Lw_law_266 (G : zs_G) : zs_P := zt_psh 0 (zt_lrt)
def zb_Lw_law_255 (G : zs_G) (K28 : zs_P) : zs_P := zt_ald 1 (zt_cav 7 zw_SB_messages (0 + 1) 0 0 600000 7302250 (zt_ald 2 (zt_cav 8 zw_Md_messages (0 + 1) 0 0 600000 7302250 (zt_cmp (fun x y => x = y) (zb_Lw_law_746 G K28) (zb_Lw_law_266 G)))))
def zb_Lw_law_289 (G : zs_G) : zs_P := zt_psh 0 (zt_lrt)
def zb_Lw_law_268 (G : zs_G) (K28 : zs_P) : zs_P := zt_ald 1 (zt_ald 0 (zt_ild 3 (zt_psh 1 (zt_bin (fun x y => x + y) (zt_sld G (zt_cav 7 zw_SB_message (1 + 1) 0 0 600000 7302250 (zt_ald 2 (zt_ald 0 (zt_ild 3 (zt_psh 1 (zt_bin (fun x y => x + y) (zt_sld G (zt_cav 8 zw_Md_message (1 + 1) 0 0 600000 7302250 (zt_cmp (fun x y => x = y) (zb_Lw_law_746 G K28) (zb_Lw_law_289 G)))))))))))))))
def zb_Lw_law_312 (G : zs_G) : zs_P := zt_psh 0 (zt_lrt)
def zb_Lw_law_291 (G : zs_G) (K28 : zs_P) : zs_P := zt_ald 1 (zt_ald 0 (zt_ild 3 (zt_psh 1 (zt_bin (fun x y => x + y) (zt_sld G (zt_cav 7 zw_SB_deliver (1 + 1) 0 0 600000 7302250 (zt_ald 2 (zt_ald 0 (zt_ild 3 (zt_psh 1 (zt_bin (fun x y => x + y) (zt_sld G (zt_cav 8 zw_Md_deliver (1 + 1) 0 0 600000 7302250 (zt_cmp (fun x y => x = y) (zb_Lw_law_746 G K28) (zb_Lw_law_312 G)))))))))))))))
def zb_Lw_law_335 (G : zs_G) : zs_P := zt_psh 0 (zt_lrt)
def zb_Lw_law_314 (G : zs_G) (K28 : zs_P) : zs_P := zt_ald 1 (zt_ald 0 (zt_ild 3 (zt_psh 1 (zt_bin (fun x y => x + y) (zt_sld G (zt_cav 7 zw_SB_drop (1 + 1) 0 0 600000 7302250 (zt_ald 2 (zt_ald 0 (zt_ild 3 (zt_psh 1 (zt_bin (fun x y => x + y) (zt_sld G (zt_cav 8 zw_Md_drop (1 + 1) 0 0 600000 7302250 (zt_cmp (fun x y => x = y) (zb_Lw_law_746 G K28) (zb_Lw_law_335 G)))))))))))))))
def zb_Lw_law_358 (G : zs_G) : zs_P := zt_psh 0 (zt_lrt)
def zb_Lw_law_337 (G : zs_G) (K28 : zs_P) : zs_P := zt_ald 1 (zt_ald 0 (zt_ild 3 (zt_psh 1 (zt_bin (fun x y => x + y) (zt_sld G (zt_cav 7 zw_SB_crash (1 + 1) 0 0 600000 7302250 (zt_ald 2 (zt_ald 0 (zt_ild 3 (zt_psh 1 (zt_bin (fun x y => x + y) (zt_sld G (zt_cav 8 zw_Md_crash (1 + 1) 0 0 600000 7302250 (zt_cmp (fun x y => x = y) (zb_Lw_law_746 G K28) (zb_Lw_law_358 G)))))))))))))))
def zb_Lw_law_381 (G : zs_G) : zs_P := zt_psh 0 (zt_lrt)
def zb_Lw_law_360 (G : zs_G) (K28 : zs_P) : zs_P := zt_ald 1 (zt_ald 0 (zt_ild 3 (zt_psh 1 (zt_bin (fun x y => x + y) (zt_sld G (zt_cav 7 zw_SB_restart (1 + 1) 0 0 600000 7302250 (zt_ald 2 (zt_ald 0 (zt_ild 3 (zt_psh 1 (zt_bin (fun x y => x + y) (zt_sld G (zt_cav 8 zw_Md_restart (1 + 1) 0 0 600000 7302250 (zt_cmp (fun x y => x = y) (zb_Lw_law_746 G K28) (zb_Lw_law_381 G)))))))))))))))
def zb_Lw_law_414 (G : zs_G) : zs_P := zt_psh 0 (zt_lrt)
def zb_Lw_law_383 (G : zs_G) (K28 : zs_P) : zs_P := zt_ald 1 (zt_ald 0 (zt_ild 3 (zt_psh 1 (zt_bin (fun x y => x + y) (zt_sld G (zt_ald 0 (zt_ild 3 (zt_psh 2 (zt_bin (fun x y => x + y) (zt_sld G (zt_cav 7 zw_SB_admit (2 + 1) 0 0 600000 7302250 (zt_ald 2 (zt_ald 0 (zt_ild 3 (zt_psh 1 (zt_bin (fun x y => x + y) (zt_sld G (zt_ald 0 (zt_ild 3 (zt_psh 2 (zt_bin (fun x y => x + y) (zt_sld G (zt_cav 8 zw_Md_admit (2 + 1) 0 0 600000 7302250 (zt_cmp (fun x y => x = y) (zb_Lw_law_746 G K28) (zb_Lw_law_414 G)))))))))))))))))))))))))
def zb_Lw_law_457 (G : zs_G) : zs_P := zt_psh 0 (zt_lrt)
def zb_Lw_law_416 (G : zs_G) (K28 : zs_P) : zs_P := zt_ald 1 (zt_ald 0 (zt_ild 3 (zt_psh 1 (zt_bin (fun x y => x + y) (zt_sld G (zt_ald 0 (zt_ild 3 (zt_psh 2 (zt_bin (fun x y => x + y) (zt_sld G (zt_ald 0 (zt_ild 3 (zt_psh 3 (zt_bin (fun x y => x + y) (zt_sld G (zt_cav 7 zw_SB_look (3 + 1) 0 0 600000 7302250 (zt_ald 2 (zt_ald 0 (zt_ild 3 (zt_psh 1 (zt_bin (fun x y => x + y) (zt_sld G (zt_ald 0 (zt_ild 3 (zt_psh 2 (zt_bin (fun x y => x + y) (zt_sld G (zt_ald 0 (zt_ild 3 (zt_psh 3 (zt_bin (fun x y => x + y) (zt_sld G (zt_cav 8 zw_Md_look (3 + 1) 0 0 600000 7302250 (zt_cmp (fun x y => x = y) (zb_Lw_law_746 G K28) (zb_Lw_law_457 G)))))))))))))))))))))))))))))))))))
def zb_Lw_law_480 (G : zs_G) : zs_P := zt_psh 0 (zt_lrt)
def zb_Lw_law_459 (G : zs_G) (K28 : zs_P) : zs_P := zt_ald 1 (zt_ald 0 (zt_ild 3 (zt_psh 1 (zt_bin (fun x y => x + y) (zt_sld G (zt_cav 7 zw_SB_checkpoint (1 + 1) 0 0 600000 7302250 (zt_ald 2 (zt_ald 0 (zt_ild 3 (zt_psh 1 (zt_bin (fun x y => x + y) (zt_sld G (zt_cav 8 zw_Md_checkpoint (1 + 1) 0 0 600000 7302250 (zt_cmp (fun x y => x = y) (zb_Lw_law_746 G K28) (zb_Lw_law_480 G)))))))))))))))
def zb_Lw_law_513 (G : zs_G) : zs_P := zt_psh 0 (zt_lrt)
def zb_Lw_law_482 (G : zs_G) (K28 : zs_P) : zs_P := zt_ald 1 (zt_ald 0 (zt_ild 3 (zt_psh 1 (zt_bin (fun x y => x + y) (zt_sld G (zt_ald 0 (zt_ild 3 (zt_psh 2 (zt_bin (fun x y => x + y) (zt_sld G (zt_cav 7 zw_SB_value (2 + 1) 0 0 600000 7302250 (zt_ald 2 (zt_ald 0 (zt_ild 3 (zt_psh 1 (zt_bin (fun x y => x + y) (zt_sld G (zt_ald 0 (zt_ild 3 (zt_psh 2 (zt_bin (fun x y => x + y) (zt_sld G (zt_cav 8 zw_Md_value (2 + 1) 0 0 600000 7302250 (zt_cmp (fun x y => x = y) (zb_Lw_law_746 G K28) (zb_Lw_law_513 G)))))))))))))))))))))))))
def zb_Lw_law_536 (G : zs_G) : zs_P := zt_psh 0 (zt_lrt)
def zb_Lw_law_515 (G : zs_G) (K28 : zs_P) : zs_P := zt_ald 1 (zt_ald 0 (zt_ild 3 (zt_psh 1 (zt_bin (fun x y => x + y) (zt_sld G (zt_cav 7 zw_SB_status (1 + 1) 0 0 600000 7302250 (zt_ald 2 (zt_ald 0 (zt_ild 3 (zt_psh 1 (zt_bin (fun x y => x + y) (zt_sld G (zt_cav 8 zw_Md_status (1 + 1) 0 0 600000 7302250 (zt_cmp (fun x y => x = y) (zb_Lw_law_746 G K28) (zb_Lw_law_536 G)))))))))))))))
def zb_Lw_law_569 (G : zs_G) : zs_P := zt_psh 0 (zt_lrt)
def zb_Lw_law_538 (G : zs_G) (K28 : zs_P) : zs_P := zt_ald 1 (zt_ald 0 (zt_ild 3 (zt_psh 1 (zt_bin (fun x y => x + y) (zt_sld G (zt_ald 0 (zt_ild 3 (zt_psh 2 (zt_bin (fun x y => x + y) (zt_sld G (zt_cav 7 zw_SB_logged (2 + 1) 0 0 600000 7302250 (zt_ald 2 (zt_ald 0 (zt_ild 3 (zt_psh 1 (zt_bin (fun x y => x + y) (zt_sld G (zt_ald 0 (zt_ild 3 (zt_psh 2 (zt_bin (fun x y => x + y) (zt_sld G (zt_cav 8 zw_Md_logged (2 + 1) 0 0 600000 7302250 (zt_cmp (fun x y => x = y) (zb_Lw_law_746 G K28) (zb_Lw_law_569 G)))))))))))))))))))))))))
def zb_Lw_law_602 (G : zs_G) : zs_P := zt_psh 0 (zt_lrt)
def zb_Lw_law_571 (G : zs_G) (K28 : zs_P) : zs_P := zt_ald 1 (zt_ald 0 (zt_ild 3 (zt_psh 1 (zt_bin (fun x y => x + y) (zt_sld G (zt_ald 0 (zt_ild 3 (zt_psh 2 (zt_bin (fun x y => x + y) (zt_sld G (zt_cav 7 zw_SB_admitted (2 + 1) 0 0 600000 7302250 (zt_ald 2 (zt_ald 0 (zt_ild 3 (zt_psh 1 (zt_bin (fun x y => x + y) (zt_sld G (zt_ald 0 (zt_ild 3 (zt_psh 2 (zt_bin (fun x y => x + y) (zt_sld G (zt_cav 8 zw_Md_admitted (2 + 1) 0 0 600000 7302250 (zt_cmp (fun x y => x = y) (zb_Lw_law_746 G K28) (zb_Lw_law_602 G)))))))))))))))))))))))))
def zb_Lw_law_635 (G : zs_G) : zs_P := zt_psh 0 (zt_lrt)
def zb_Lw_law_604 (G : zs_G) (K28 : zs_P) : zs_P := zt_ald 1 (zt_ald 0 (zt_ild 3 (zt_psh 1 (zt_bin (fun x y => x + y) (zt_sld G (zt_ald 0 (zt_ild 3 (zt_psh 2 (zt_bin (fun x y => x + y) (zt_sld G (zt_cav 7 zw_SB_finished (2 + 1) 0 0 600000 7302250 (zt_ald 2 (zt_ald 0 (zt_ild 3 (zt_psh 1 (zt_bin (fun x y => x + y) (zt_sld G (zt_ald 0 (zt_ild 3 (zt_psh 2 (zt_bin (fun x y => x + y) (zt_sld G (zt_cav 8 zw_Md_finished (2 + 1) 0 0 600000 7302250 (zt_cmp (fun x y => x = y) (zb_Lw_law_746 G K28) (zb_Lw_law_635 G)))))))))))))))))))))))))
def zb_Lw_law_668 (G : zs_G) : zs_P := zt_psh 0 (zt_lrt)
def zb_Lw_law_637 (G : zs_G) (K28 : zs_P) : zs_P := zt_ald 1 (zt_ald 0 (zt_ild 3 (zt_psh 1 (zt_bin (fun x y => x + y) (zt_sld G (zt_ald 0 (zt_ild 3 (zt_psh 2 (zt_bin (fun x y => x + y) (zt_sld G (zt_cav 7 zw_SB_ready (2 + 1) 0 0 600000 7302250 (zt_ald 2 (zt_ald 0 (zt_ild 3 (zt_psh 1 (zt_bin (fun x y => x + y) (zt_sld G (zt_ald 0 (zt_ild 3 (zt_psh 2 (zt_bin (fun x y => x + y) (zt_sld G (zt_cav 8 zw_Md_ready (2 + 1) 0 0 600000 7302250 (zt_cmp (fun x y => x = y) (zb_Lw_law_746 G K28) (zb_Lw_law_668 G)))))))))))))))))))))))))
def zb_Lw_law_701 (G : zs_G) : zs_P := zt_psh 0 (zt_lrt)
def zb_Lw_law_670 (G : zs_G) (K28 : zs_P) : zs_P := zt_ald 1 (zt_ald 0 (zt_ild 3 (zt_psh 1 (zt_bin (fun x y => x + y) (zt_sld G (zt_ald 0 (zt_ild 3 (zt_psh 2 (zt_bin (fun x y => x + y) (zt_sld G (zt_cav 7 zw_SB_locks (2 + 1) 0 0 600000 7302250 (zt_ald 2 (zt_ald 0 (zt_ild 3 (zt_psh 1 (zt_bin (fun x y => x + y) (zt_sld G (zt_ald 0 (zt_ild 3 (zt_psh 2 (zt_bin (fun x y => x + y) (zt_sld G (zt_cav 8 zw_Md_locks (2 + 1) 0 0 600000 7302250 (zt_cmp (fun x y => x = y) (zb_Lw_law_746 G K28) (zb_Lw_law_701 G)))))))))))))))))))))))))
def zb_Lw_law_744 (G : zs_G) : zs_P := zt_psh 0 (zt_lrt)
def zb_Lw_law_703 (G : zs_G) (K28 : zs_P) : zs_P := zt_ald 1 (zt_ald 0 (zt_ild 3 (zt_psh 1 (zt_bin (fun x y => x + y) (zt_sld G (zt_ald 0 (zt_ild 3 (zt_psh 2 (zt_bin (fun x y => x + y) (zt_sld G (zt_ald 0 (zt_ild 3 (zt_psh 3 (zt_bin (fun x y => x + y) (zt_sld G (zt_cav 7 zw_SB_stored (3 + 1) 0 0 600000 7302250 (zt_ald 2 (zt_ald 0 (zt_ild 3 (zt_psh 1 (zt_bin (fun x y => x + y) (zt_sld G (zt_ald 0 (zt_ild 3 (zt_psh 2 (zt_bin (fun x y => x + y) (zt_sld G (zt_ald 0 (zt_ild 3 (zt_psh 3 (zt_bin (fun x y => x + y) (zt_sld G (zt_cav 8 zw_Md_stored (3 + 1) 0 0 600000 7302250 (zt_cmp (fun x y => x = y) (zb_Lw_law_746 G K28) (zb_Lw_law_744 G)))))))))))))))))))))))))))))))))))
def zb_Lw_law_37 (G : zs_G) (K28 : zs_P) : zs_P := zt_ald 0 (zt_ild 3 (zt_sld G (zt_psh 31 (zt_bin (fun x y => x &&& y) (zt_cas 0 (zb_Lw_law_136 G K28) (zt_cas 1 (zb_Lw_law_199 G K28) (zt_cas 2 (zb_Lw_law_222 G K28) (zt_cas 3 (zb_Lw_law_255 G K28) (zt_cas 4 (zb_Lw_law_268 G K28) (zt_cas 5 (zb_Lw_law_291 G K28) (zt_cas 6 (zb_Lw_law_314 G K28) (zt_cas 7 (zb_Lw_law_337 G K28) (zt_cas 8 (zb_Lw_law_360 G K28) (zt_cas 9 (zb_Lw_law_383 G K28) (zt_cas 10 (zb_Lw_law_416 G K28) (zt_cas 11 (zb_Lw_law_459 G K28) (zt_cas 12 (zb_Lw_law_482 G K28) (zt_cas 13 (zb_Lw_law_515 G K28) (zt_cas 14 (zb_Lw_law_538 G K28) (zt_cas 15 (zb_Lw_law_571 G K28) (zt_cas 16 (zb_Lw_law_604 G K28) (zt_cas 17 (zb_Lw_law_637 G K28) (zt_cas 18 (zb_Lw_law_670 G K28) (zt_cas 19 (zb_Lw_law_703 G K28) (zt_dfl (zb_Lw_law_746 G K28))))))))))))))))))))))))))
def zb_Lw_law_28 (G : zs_G) (K28 : zs_P) : zs_P := zt_ild 3 (zt_ald 0 (zt_sln G (zt_psh 6 (zt_bin (fun x y => x - y) (zt_cmp (fun x y => y < x) (zb_Lw_law_752 G) (zb_Lw_law_37 G K28))))))
def zl_Lw_law_28 (G : zs_G) : zs_P := zt_ex (zb_Lw_law_28 G)
def zb_Lw_law_0 (G : zs_G) : zs_P := zt_nwo 7 8 600000 7302250 (zt_dup (zt_ald 0 (zt_psh 0 (zt_cal (zw_Lw_cell G) 2 0 0 600000 7302250 (zt_cai zw_SB_init (1 + 1) 100 3000 600000 7302250 (zt_ast 1 (zt_nwo 8 35 600000 7302250 (zt_dup (zt_ald 0 (zt_psh 0 (zt_cal (zw_Lw_cell G) 2 0 0 600000 7302250 (zt_cai zw_Md_init (1 + 1) 40 8000 600000 7302250 (zt_ast 2 (zt_psh 1 (zt_ist 3 ((zl_Lw_law_28 G)))))))))))))))))
section
variable {p : Program} {l : Launch} {e : Env} {s : State} {m : MethodId} {b : Nat} {below : List Frame} {meth : Method} {c : Code} {G : zs_G}
theorem zr_Lw_law_752 (B : zs_Bl p s m b meth c G) : zA_Lw_law p l e s m b below meth c G 752 (zb_Lw_law_752 G) := by
  unfold zb_Lw_law_752
  refine za_ico B.1 1 dd_Lw_law_752 (by decide) ?_
  exact za_lrt B dd_Lw_law_753
theorem zr_Lw_law_746 (B : zs_Bl p s m b meth c G) {K28 : zs_P} (h28 : zA_Lw_law p l e s m b below meth c G 28 K28) : zA_Lw_law p l e s m b below meth c G 746 (zb_Lw_law_746 G K28) := by
  unfold zb_Lw_law_746
  refine za_inc B.1 6 dd_Lw_law_746 (by decide) (by decide) ?_
  refine za_goto B.1 28 dd_Lw_law_749 (by decide) ?_
  exact h28
theorem zr_Lw_law_197 (B : zs_Bl p s m b meth c G) : zA_Lw_law p l e s m b below meth c G 197 (zb_Lw_law_197 G) := by
  unfold zb_Lw_law_197
  refine za_ico B.1 0 dd_Lw_law_197 (by decide) ?_
  exact za_lrt B dd_Lw_law_198
theorem zr_Lw_law_136 (B : zs_Bl p s m b meth c G) {K28 : zs_P} (h28 : zA_Lw_law p l e s m b below meth c G 28 K28) : zA_Lw_law p l e s m b below meth c G 136 (zb_Lw_law_136 G K28) := by
  unfold zb_Lw_law_136
  refine za_ald_n B.1 1 dd_Lw_law_136 rfl ?_
  refine za_ald_n B.1 0 dd_Lw_law_137 rfl ?_
  refine za_ild_n B.1 3 dd_Lw_law_138 rfl ?_
  refine za_ico B.1 1 dd_Lw_law_139 (by decide) ?_
  refine za_add B.1 dd_Lw_law_140 ?_
  refine za_sld B.1 dd_Lw_law_141 ?_
  refine za_ald_n B.1 0 dd_Lw_law_142 rfl ?_
  refine za_ild_n B.1 3 dd_Lw_law_143 rfl ?_
  refine za_ico B.1 2 dd_Lw_law_144 (by decide) ?_
  refine za_add B.1 dd_Lw_law_145 ?_
  refine za_sld B.1 dd_Lw_law_146 ?_
  refine za_ald_n B.1 0 dd_Lw_law_147 rfl ?_
  refine za_ild_n B.1 3 dd_Lw_law_148 rfl ?_
  refine za_ico B.1 3 dd_Lw_law_149 (by decide) ?_
  refine za_add B.1 dd_Lw_law_150 ?_
  refine za_sld B.1 dd_Lw_law_151 ?_
  refine za_ald_n B.1 0 dd_Lw_law_152 rfl ?_
  refine za_ild_n B.1 3 dd_Lw_law_153 rfl ?_
  refine za_ico B.1 4 dd_Lw_law_154 (by decide) ?_
  refine za_add B.1 dd_Lw_law_155 ?_
  refine za_sld B.1 dd_Lw_law_156 ?_
  refine za_ald_n B.1 0 dd_Lw_law_157 rfl ?_
  refine za_ild_n B.1 3 dd_Lw_law_158 rfl ?_
  refine za_ico B.1 5 dd_Lw_law_159 (by decide) ?_
  refine za_add B.1 dd_Lw_law_160 ?_
  refine za_sld B.1 dd_Lw_law_161 ?_
  refine za_cV B.1 7 5 1 9 600000 7302250 rfl rfl rfl (by decide) (zm_SB_submit l G) ⟨callB_of 5 B.1.1.2.2.2.2 (zs_good zW_99) rfl rfl rfl (B.1.1.2.2.2.2 _ zW_1) (B.1.1.2.2.2.2 _ zW_96) (by decide +kernel) ⟨by decide, by decide⟩, (B.1.1.2.2.2.2 _ zW_97), (B.1.1.2.2.2.2 _ zW_98)⟩ dd_Lw_law_162 ?_
  refine za_ald_n B.1 2 dd_Lw_law_165 rfl ?_
  refine za_ald_n B.1 0 dd_Lw_law_166 rfl ?_
  refine za_ild_n B.1 3 dd_Lw_law_167 rfl ?_
  refine za_ico B.1 1 dd_Lw_law_168 (by decide) ?_
  refine za_add B.1 dd_Lw_law_169 ?_
  refine za_sld B.1 dd_Lw_law_170 ?_
  refine za_ald_n B.1 0 dd_Lw_law_171 rfl ?_
  refine za_ild_n B.1 3 dd_Lw_law_172 rfl ?_
  refine za_ico B.1 2 dd_Lw_law_173 (by decide) ?_
  refine za_add B.1 dd_Lw_law_174 ?_
  refine za_sld B.1 dd_Lw_law_175 ?_
  refine za_ald_n B.1 0 dd_Lw_law_176 rfl ?_
  refine za_ild_n B.1 3 dd_Lw_law_177 rfl ?_
  refine za_ico B.1 3 dd_Lw_law_178 (by decide) ?_
  refine za_add B.1 dd_Lw_law_179 ?_
  refine za_sld B.1 dd_Lw_law_180 ?_
  refine za_ald_n B.1 0 dd_Lw_law_181 rfl ?_
  refine za_ild_n B.1 3 dd_Lw_law_182 rfl ?_
  refine za_ico B.1 4 dd_Lw_law_183 (by decide) ?_
  refine za_add B.1 dd_Lw_law_184 ?_
  refine za_sld B.1 dd_Lw_law_185 ?_
  refine za_ald_n B.1 0 dd_Lw_law_186 rfl ?_
  refine za_ild_n B.1 3 dd_Lw_law_187 rfl ?_
  refine za_ico B.1 5 dd_Lw_law_188 (by decide) ?_
  refine za_add B.1 dd_Lw_law_189 ?_
  refine za_sld B.1 dd_Lw_law_190 ?_
  refine za_cV B.1 8 5 0 0 600000 7302250 rfl rfl rfl (by decide) (zm_Md_submit l G) ⟨callB_of 5 B.1.1.2.2.2.2 (zs_good zW_494) rfl rfl rfl (B.1.1.2.2.2.2 _ zW_8) (B.1.1.2.2.2.2 _ zW_491) (by decide +kernel) ⟨by decide, by decide⟩, (B.1.1.2.2.2.2 _ zW_492), (B.1.1.2.2.2.2 _ zW_493)⟩ dd_Lw_law_191 ?_
  exact za_cmp_eq B.1 746 dd_Lw_law_194 (by decide) (zr_Lw_law_746 B h28) (zr_Lw_law_197 B)
theorem zr_Lw_law_220 (B : zs_Bl p s m b meth c G) : zA_Lw_law p l e s m b below meth c G 220 (zb_Lw_law_220 G) := by
  unfold zb_Lw_law_220
  refine za_ico B.1 0 dd_Lw_law_220 (by decide) ?_
  exact za_lrt B dd_Lw_law_221
theorem zr_Lw_law_199 (B : zs_Bl p s m b meth c G) {K28 : zs_P} (h28 : zA_Lw_law p l e s m b below meth c G 28 K28) : zA_Lw_law p l e s m b below meth c G 199 (zb_Lw_law_199 G K28) := by
  unfold zb_Lw_law_199
  refine za_ald_n B.1 1 dd_Lw_law_199 rfl ?_
  refine za_ald_n B.1 0 dd_Lw_law_200 rfl ?_
  refine za_ild_n B.1 3 dd_Lw_law_201 rfl ?_
  refine za_ico B.1 1 dd_Lw_law_202 (by decide) ?_
  refine za_add B.1 dd_Lw_law_203 ?_
  refine za_sld B.1 dd_Lw_law_204 ?_
  refine za_cV B.1 7 1 3 13 600000 7302250 rfl rfl rfl (by decide) (zm_SB_close l G) ⟨callB_of 1 B.1.1.2.2.2.2 (zs_good zW_139) rfl rfl rfl (B.1.1.2.2.2.2 _ zW_1) (B.1.1.2.2.2.2 _ zW_136) (by decide +kernel) ⟨by decide, by decide⟩, (B.1.1.2.2.2.2 _ zW_137), (B.1.1.2.2.2.2 _ zW_138)⟩ dd_Lw_law_205 ?_
  refine za_ald_n B.1 2 dd_Lw_law_208 rfl ?_
  refine za_ald_n B.1 0 dd_Lw_law_209 rfl ?_
  refine za_ild_n B.1 3 dd_Lw_law_210 rfl ?_
  refine za_ico B.1 1 dd_Lw_law_211 (by decide) ?_
  refine za_add B.1 dd_Lw_law_212 ?_
  refine za_sld B.1 dd_Lw_law_213 ?_
  refine za_cV B.1 8 1 0 0 600000 7302250 rfl rfl rfl (by decide) (zm_Md_close l G) ⟨callB_of 1 B.1.1.2.2.2.2 (zs_good zW_566) rfl rfl rfl (B.1.1.2.2.2.2 _ zW_8) (B.1.1.2.2.2.2 _ zW_563) (by decide +kernel) ⟨by decide, by decide⟩, (B.1.1.2.2.2.2 _ zW_564), (B.1.1.2.2.2.2 _ zW_565)⟩ dd_Lw_law_214 ?_
  exact za_cmp_eq B.1 746 dd_Lw_law_217 (by decide) (zr_Lw_law_746 B h28) (zr_Lw_law_220 B)
theorem zr_Lw_law_253 (B : zs_Bl p s m b meth c G) : zA_Lw_law p l e s m b below meth c G 253 (zb_Lw_law_253 G) := by
  unfold zb_Lw_law_253
  refine za_ico B.1 0 dd_Lw_law_253 (by decide) ?_
  exact za_lrt B dd_Lw_law_254
theorem zr_Lw_law_222 (B : zs_Bl p s m b meth c G) {K28 : zs_P} (h28 : zA_Lw_law p l e s m b below meth c G 28 K28) : zA_Lw_law p l e s m b below meth c G 222 (zb_Lw_law_222 G K28) := by
  unfold zb_Lw_law_222
  refine za_ald_n B.1 1 dd_Lw_law_222 rfl ?_
  refine za_ald_n B.1 0 dd_Lw_law_223 rfl ?_
  refine za_ild_n B.1 3 dd_Lw_law_224 rfl ?_
  refine za_ico B.1 1 dd_Lw_law_225 (by decide) ?_
  refine za_add B.1 dd_Lw_law_226 ?_
  refine za_sld B.1 dd_Lw_law_227 ?_
  refine za_ald_n B.1 0 dd_Lw_law_228 rfl ?_
  refine za_ild_n B.1 3 dd_Lw_law_229 rfl ?_
  refine za_ico B.1 2 dd_Lw_law_230 (by decide) ?_
  refine za_add B.1 dd_Lw_law_231 ?_
  refine za_sld B.1 dd_Lw_law_232 ?_
  refine za_cV B.1 7 2 0 0 600000 7302250 rfl rfl rfl (by decide) (zm_SB_resend l G) ⟨callB_of 2 B.1.1.2.2.2.2 (zs_good zW_184) rfl rfl rfl (B.1.1.2.2.2.2 _ zW_1) (B.1.1.2.2.2.2 _ zW_181) (by decide +kernel) ⟨by decide, by decide⟩, (B.1.1.2.2.2.2 _ zW_182), (B.1.1.2.2.2.2 _ zW_183)⟩ dd_Lw_law_233 ?_
  refine za_ald_n B.1 2 dd_Lw_law_236 rfl ?_
  refine za_ald_n B.1 0 dd_Lw_law_237 rfl ?_
  refine za_ild_n B.1 3 dd_Lw_law_238 rfl ?_
  refine za_ico B.1 1 dd_Lw_law_239 (by decide) ?_
  refine za_add B.1 dd_Lw_law_240 ?_
  refine za_sld B.1 dd_Lw_law_241 ?_
  refine za_ald_n B.1 0 dd_Lw_law_242 rfl ?_
  refine za_ild_n B.1 3 dd_Lw_law_243 rfl ?_
  refine za_ico B.1 2 dd_Lw_law_244 (by decide) ?_
  refine za_add B.1 dd_Lw_law_245 ?_
  refine za_sld B.1 dd_Lw_law_246 ?_
  refine za_cV B.1 8 2 0 0 600000 7302250 rfl rfl rfl (by decide) (zm_Md_resend l G) ⟨callB_of 2 B.1.1.2.2.2.2 (zs_good zW_579) rfl rfl rfl (B.1.1.2.2.2.2 _ zW_8) (B.1.1.2.2.2.2 _ zW_576) (by decide +kernel) ⟨by decide, by decide⟩, (B.1.1.2.2.2.2 _ zW_577), (B.1.1.2.2.2.2 _ zW_578)⟩ dd_Lw_law_247 ?_
  exact za_cmp_eq B.1 746 dd_Lw_law_250 (by decide) (zr_Lw_law_746 B h28) (zr_Lw_law_253 B)
theorem zr_Lw_law_266 (B : zs_Bl p s m b meth c G) : zA_Lw_law p l e s m b below meth c G 266 (zb_Lw_law_266 G) := by
  unfold zb_Lw_law_266
  refine za_ico B.1 0 dd_Lw_law_266 (by decide) ?_
  exact za_lrt B dd_Lw_law_267
theorem zr_Lw_law_255 (B : zs_Bl p s m b meth c G) {K28 : zs_P} (h28 : zA_Lw_law p l e s m b below meth c G 28 K28) : zA_Lw_law p l e s m b below meth c G 255 (zb_Lw_law_255 G K28) := by
  unfold zb_Lw_law_255
  refine za_ald_n B.1 1 dd_Lw_law_255 rfl ?_
  refine za_cV B.1 7 0 0 0 600000 7302250 rfl rfl rfl (by decide) (zm_SB_messages l G) ⟨callB_of 0 B.1.1.2.2.2.2 (zs_good zW_195) rfl rfl rfl (B.1.1.2.2.2.2 _ zW_1) (B.1.1.2.2.2.2 _ zW_192) (by decide +kernel) ⟨by decide, by decide⟩, (B.1.1.2.2.2.2 _ zW_193), (B.1.1.2.2.2.2 _ zW_194)⟩ dd_Lw_law_256 ?_
  refine za_ald_n B.1 2 dd_Lw_law_259 rfl ?_
  refine za_cV B.1 8 0 0 0 600000 7302250 rfl rfl rfl (by decide) (zm_Md_messages l G) ⟨callB_of 0 B.1.1.2.2.2.2 (zs_good zW_511) rfl rfl rfl (B.1.1.2.2.2.2 _ zW_8) (B.1.1.2.2.2.2 _ zW_508) (by decide +kernel) ⟨by decide, by decide⟩, (B.1.1.2.2.2.2 _ zW_509), (B.1.1.2.2.2.2 _ zW_510)⟩ dd_Lw_law_260 ?_
  exact za_cmp_eq B.1 746 dd_Lw_law_263 (by decide) (zr_Lw_law_746 B h28) (zr_Lw_law_266 B)
theorem zr_Lw_law_289 (B : zs_Bl p s m b meth c G) : zA_Lw_law p l e s m b below meth c G 289 (zb_Lw_law_289 G) := by
  unfold zb_Lw_law_289
  refine za_ico B.1 0 dd_Lw_law_289 (by decide) ?_
  exact za_lrt B dd_Lw_law_290
theorem zr_Lw_law_268 (B : zs_Bl p s m b meth c G) {K28 : zs_P} (h28 : zA_Lw_law p l e s m b below meth c G 28 K28) : zA_Lw_law p l e s m b below meth c G 268 (zb_Lw_law_268 G K28) := by
  unfold zb_Lw_law_268
  refine za_ald_n B.1 1 dd_Lw_law_268 rfl ?_
  refine za_ald_n B.1 0 dd_Lw_law_269 rfl ?_
  refine za_ild_n B.1 3 dd_Lw_law_270 rfl ?_
  refine za_ico B.1 1 dd_Lw_law_271 (by decide) ?_
  refine za_add B.1 dd_Lw_law_272 ?_
  refine za_sld B.1 dd_Lw_law_273 ?_
  refine za_cV B.1 7 1 0 0 600000 7302250 rfl rfl rfl (by decide) (zm_SB_message l G) ⟨callB_of 1 B.1.1.2.2.2.2 (zs_good zW_199) rfl rfl rfl (B.1.1.2.2.2.2 _ zW_1) (B.1.1.2.2.2.2 _ zW_196) (by decide +kernel) ⟨by decide, by decide⟩, (B.1.1.2.2.2.2 _ zW_197), (B.1.1.2.2.2.2 _ zW_198)⟩ dd_Lw_law_274 ?_
  refine za_ald_n B.1 2 dd_Lw_law_277 rfl ?_
  refine za_ald_n B.1 0 dd_Lw_law_278 rfl ?_
  refine za_ild_n B.1 3 dd_Lw_law_279 rfl ?_
  refine za_ico B.1 1 dd_Lw_law_280 (by decide) ?_
  refine za_add B.1 dd_Lw_law_281 ?_
  refine za_sld B.1 dd_Lw_law_282 ?_
  refine za_cV B.1 8 1 0 0 600000 7302250 rfl rfl rfl (by decide) (zm_Md_message l G) ⟨callB_of 1 B.1.1.2.2.2.2 (zs_good zW_515) rfl rfl rfl (B.1.1.2.2.2.2 _ zW_8) (B.1.1.2.2.2.2 _ zW_512) (by decide +kernel) ⟨by decide, by decide⟩, (B.1.1.2.2.2.2 _ zW_513), (B.1.1.2.2.2.2 _ zW_514)⟩ dd_Lw_law_283 ?_
  exact za_cmp_eq B.1 746 dd_Lw_law_286 (by decide) (zr_Lw_law_746 B h28) (zr_Lw_law_289 B)
theorem zr_Lw_law_312 (B : zs_Bl p s m b meth c G) : zA_Lw_law p l e s m b below meth c G 312 (zb_Lw_law_312 G) := by
  unfold zb_Lw_law_312
  refine za_ico B.1 0 dd_Lw_law_312 (by decide) ?_
  exact za_lrt B dd_Lw_law_313
theorem zr_Lw_law_291 (B : zs_Bl p s m b meth c G) {K28 : zs_P} (h28 : zA_Lw_law p l e s m b below meth c G 28 K28) : zA_Lw_law p l e s m b below meth c G 291 (zb_Lw_law_291 G K28) := by
  unfold zb_Lw_law_291
  refine za_ald_n B.1 1 dd_Lw_law_291 rfl ?_
  refine za_ald_n B.1 0 dd_Lw_law_292 rfl ?_
  refine za_ild_n B.1 3 dd_Lw_law_293 rfl ?_
  refine za_ico B.1 1 dd_Lw_law_294 (by decide) ?_
  refine za_add B.1 dd_Lw_law_295 ?_
  refine za_sld B.1 dd_Lw_law_296 ?_
  refine za_cV B.1 7 1 0 0 600000 7302250 rfl rfl rfl (by decide) (zm_SB_deliver l G) ⟨callB_of 1 B.1.1.2.2.2.2 (zs_good zW_207) rfl rfl rfl (B.1.1.2.2.2.2 _ zW_1) (B.1.1.2.2.2.2 _ zW_204) (by decide +kernel) ⟨by decide, by decide⟩, (B.1.1.2.2.2.2 _ zW_205), (B.1.1.2.2.2.2 _ zW_206)⟩ dd_Lw_law_297 ?_
  refine za_ald_n B.1 2 dd_Lw_law_300 rfl ?_
  refine za_ald_n B.1 0 dd_Lw_law_301 rfl ?_
  refine za_ild_n B.1 3 dd_Lw_law_302 rfl ?_
  refine za_ico B.1 1 dd_Lw_law_303 (by decide) ?_
  refine za_add B.1 dd_Lw_law_304 ?_
  refine za_sld B.1 dd_Lw_law_305 ?_
  refine za_cV B.1 8 1 0 0 600000 7302250 rfl rfl rfl (by decide) (zm_Md_deliver l G) ⟨callB_of 1 B.1.1.2.2.2.2 (zs_good zW_529) rfl rfl rfl (B.1.1.2.2.2.2 _ zW_8) (B.1.1.2.2.2.2 _ zW_526) (by decide +kernel) ⟨by decide, by decide⟩, (B.1.1.2.2.2.2 _ zW_527), (B.1.1.2.2.2.2 _ zW_528)⟩ dd_Lw_law_306 ?_
  exact za_cmp_eq B.1 746 dd_Lw_law_309 (by decide) (zr_Lw_law_746 B h28) (zr_Lw_law_312 B)
theorem zr_Lw_law_335 (B : zs_Bl p s m b meth c G) : zA_Lw_law p l e s m b below meth c G 335 (zb_Lw_law_335 G) := by
  unfold zb_Lw_law_335
  refine za_ico B.1 0 dd_Lw_law_335 (by decide) ?_
  exact za_lrt B dd_Lw_law_336
theorem zr_Lw_law_314 (B : zs_Bl p s m b meth c G) {K28 : zs_P} (h28 : zA_Lw_law p l e s m b below meth c G 28 K28) : zA_Lw_law p l e s m b below meth c G 314 (zb_Lw_law_314 G K28) := by
  unfold zb_Lw_law_314
  refine za_ald_n B.1 1 dd_Lw_law_314 rfl ?_
  refine za_ald_n B.1 0 dd_Lw_law_315 rfl ?_
  refine za_ild_n B.1 3 dd_Lw_law_316 rfl ?_
  refine za_ico B.1 1 dd_Lw_law_317 (by decide) ?_
  refine za_add B.1 dd_Lw_law_318 ?_
  refine za_sld B.1 dd_Lw_law_319 ?_
  refine za_cV B.1 7 1 0 0 600000 7302250 rfl rfl rfl (by decide) (zm_SB_drop l G) ⟨callB_of 1 B.1.1.2.2.2.2 (zs_good zW_290) rfl rfl rfl (B.1.1.2.2.2.2 _ zW_1) (B.1.1.2.2.2.2 _ zW_287) (by decide +kernel) ⟨by decide, by decide⟩, (B.1.1.2.2.2.2 _ zW_288), (B.1.1.2.2.2.2 _ zW_289)⟩ dd_Lw_law_320 ?_
  refine za_ald_n B.1 2 dd_Lw_law_323 rfl ?_
  refine za_ald_n B.1 0 dd_Lw_law_324 rfl ?_
  refine za_ild_n B.1 3 dd_Lw_law_325 rfl ?_
  refine za_ico B.1 1 dd_Lw_law_326 (by decide) ?_
  refine za_add B.1 dd_Lw_law_327 ?_
  refine za_sld B.1 dd_Lw_law_328 ?_
  refine za_cV B.1 8 1 0 0 600000 7302250 rfl rfl rfl (by decide) (zm_Md_drop l G) ⟨callB_of 1 B.1.1.2.2.2.2 (zs_good zW_522) rfl rfl rfl (B.1.1.2.2.2.2 _ zW_8) (B.1.1.2.2.2.2 _ zW_519) (by decide +kernel) ⟨by decide, by decide⟩, (B.1.1.2.2.2.2 _ zW_520), (B.1.1.2.2.2.2 _ zW_521)⟩ dd_Lw_law_329 ?_
  exact za_cmp_eq B.1 746 dd_Lw_law_332 (by decide) (zr_Lw_law_746 B h28) (zr_Lw_law_335 B)
theorem zr_Lw_law_358 (B : zs_Bl p s m b meth c G) : zA_Lw_law p l e s m b below meth c G 358 (zb_Lw_law_358 G) := by
  unfold zb_Lw_law_358
  refine za_ico B.1 0 dd_Lw_law_358 (by decide) ?_
  exact za_lrt B dd_Lw_law_359
theorem zr_Lw_law_337 (B : zs_Bl p s m b meth c G) {K28 : zs_P} (h28 : zA_Lw_law p l e s m b below meth c G 28 K28) : zA_Lw_law p l e s m b below meth c G 337 (zb_Lw_law_337 G K28) := by
  unfold zb_Lw_law_337
  refine za_ald_n B.1 1 dd_Lw_law_337 rfl ?_
  refine za_ald_n B.1 0 dd_Lw_law_338 rfl ?_
  refine za_ild_n B.1 3 dd_Lw_law_339 rfl ?_
  refine za_ico B.1 1 dd_Lw_law_340 (by decide) ?_
  refine za_add B.1 dd_Lw_law_341 ?_
  refine za_sld B.1 dd_Lw_law_342 ?_
  refine za_cV B.1 7 1 0 0 600000 7302250 rfl rfl rfl (by decide) (zm_SB_crash l G) ⟨callB_of 1 B.1.1.2.2.2.2 (zs_good zW_294) rfl rfl rfl (B.1.1.2.2.2.2 _ zW_1) (B.1.1.2.2.2.2 _ zW_291) (by decide +kernel) ⟨by decide, by decide⟩, (B.1.1.2.2.2.2 _ zW_292), (B.1.1.2.2.2.2 _ zW_293)⟩ dd_Lw_law_343 ?_
  refine za_ald_n B.1 2 dd_Lw_law_346 rfl ?_
  refine za_ald_n B.1 0 dd_Lw_law_347 rfl ?_
  refine za_ild_n B.1 3 dd_Lw_law_348 rfl ?_
  refine za_ico B.1 1 dd_Lw_law_349 (by decide) ?_
  refine za_add B.1 dd_Lw_law_350 ?_
  refine za_sld B.1 dd_Lw_law_351 ?_
  refine za_cV B.1 8 1 0 0 600000 7302250 rfl rfl rfl (by decide) (zm_Md_crash l G) ⟨callB_of 1 B.1.1.2.2.2.2 (zs_good zW_583) rfl rfl rfl (B.1.1.2.2.2.2 _ zW_8) (B.1.1.2.2.2.2 _ zW_580) (by decide +kernel) ⟨by decide, by decide⟩, (B.1.1.2.2.2.2 _ zW_581), (B.1.1.2.2.2.2 _ zW_582)⟩ dd_Lw_law_352 ?_
  exact za_cmp_eq B.1 746 dd_Lw_law_355 (by decide) (zr_Lw_law_746 B h28) (zr_Lw_law_358 B)
theorem zr_Lw_law_381 (B : zs_Bl p s m b meth c G) : zA_Lw_law p l e s m b below meth c G 381 (zb_Lw_law_381 G) := by
  unfold zb_Lw_law_381
  refine za_ico B.1 0 dd_Lw_law_381 (by decide) ?_
  exact za_lrt B dd_Lw_law_382
theorem zr_Lw_law_360 (B : zs_Bl p s m b meth c G) {K28 : zs_P} (h28 : zA_Lw_law p l e s m b below meth c G 28 K28) : zA_Lw_law p l e s m b below meth c G 360 (zb_Lw_law_360 G K28) := by
  unfold zb_Lw_law_360
  refine za_ald_n B.1 1 dd_Lw_law_360 rfl ?_
  refine za_ald_n B.1 0 dd_Lw_law_361 rfl ?_
  refine za_ild_n B.1 3 dd_Lw_law_362 rfl ?_
  refine za_ico B.1 1 dd_Lw_law_363 (by decide) ?_
  refine za_add B.1 dd_Lw_law_364 ?_
  refine za_sld B.1 dd_Lw_law_365 ?_
  refine za_cV B.1 7 1 0 0 600000 7302250 rfl rfl rfl (by decide) (zm_SB_restart l G) ⟨callB_of 1 B.1.1.2.2.2.2 (zs_good zW_308) rfl rfl rfl (B.1.1.2.2.2.2 _ zW_1) (B.1.1.2.2.2.2 _ zW_305) (by decide +kernel) ⟨by decide, by decide⟩, (B.1.1.2.2.2.2 _ zW_306), (B.1.1.2.2.2.2 _ zW_307)⟩ dd_Lw_law_366 ?_
  refine za_ald_n B.1 2 dd_Lw_law_369 rfl ?_
  refine za_ald_n B.1 0 dd_Lw_law_370 rfl ?_
  refine za_ild_n B.1 3 dd_Lw_law_371 rfl ?_
  refine za_ico B.1 1 dd_Lw_law_372 (by decide) ?_
  refine za_add B.1 dd_Lw_law_373 ?_
  refine za_sld B.1 dd_Lw_law_374 ?_
  refine za_cV B.1 8 1 0 0 600000 7302250 rfl rfl rfl (by decide) (zm_Md_restart l G) ⟨callB_of 1 B.1.1.2.2.2.2 (zs_good zW_587) rfl rfl rfl (B.1.1.2.2.2.2 _ zW_8) (B.1.1.2.2.2.2 _ zW_584) (by decide +kernel) ⟨by decide, by decide⟩, (B.1.1.2.2.2.2 _ zW_585), (B.1.1.2.2.2.2 _ zW_586)⟩ dd_Lw_law_375 ?_
  exact za_cmp_eq B.1 746 dd_Lw_law_378 (by decide) (zr_Lw_law_746 B h28) (zr_Lw_law_381 B)
theorem zr_Lw_law_414 (B : zs_Bl p s m b meth c G) : zA_Lw_law p l e s m b below meth c G 414 (zb_Lw_law_414 G) := by
  unfold zb_Lw_law_414
  refine za_ico B.1 0 dd_Lw_law_414 (by decide) ?_
  exact za_lrt B dd_Lw_law_415
theorem zr_Lw_law_383 (B : zs_Bl p s m b meth c G) {K28 : zs_P} (h28 : zA_Lw_law p l e s m b below meth c G 28 K28) : zA_Lw_law p l e s m b below meth c G 383 (zb_Lw_law_383 G K28) := by
  unfold zb_Lw_law_383
  refine za_ald_n B.1 1 dd_Lw_law_383 rfl ?_
  refine za_ald_n B.1 0 dd_Lw_law_384 rfl ?_
  refine za_ild_n B.1 3 dd_Lw_law_385 rfl ?_
  refine za_ico B.1 1 dd_Lw_law_386 (by decide) ?_
  refine za_add B.1 dd_Lw_law_387 ?_
  refine za_sld B.1 dd_Lw_law_388 ?_
  refine za_ald_n B.1 0 dd_Lw_law_389 rfl ?_
  refine za_ild_n B.1 3 dd_Lw_law_390 rfl ?_
  refine za_ico B.1 2 dd_Lw_law_391 (by decide) ?_
  refine za_add B.1 dd_Lw_law_392 ?_
  refine za_sld B.1 dd_Lw_law_393 ?_
  refine za_cV B.1 7 2 0 0 600000 7302250 rfl rfl rfl (by decide) (zm_SB_admit l G) ⟨callB_of 2 B.1.1.2.2.2.2 (zs_good zW_336) rfl rfl rfl (B.1.1.2.2.2.2 _ zW_1) (B.1.1.2.2.2.2 _ zW_333) (by decide +kernel) ⟨by decide, by decide⟩, (B.1.1.2.2.2.2 _ zW_334), (B.1.1.2.2.2.2 _ zW_335)⟩ dd_Lw_law_394 ?_
  refine za_ald_n B.1 2 dd_Lw_law_397 rfl ?_
  refine za_ald_n B.1 0 dd_Lw_law_398 rfl ?_
  refine za_ild_n B.1 3 dd_Lw_law_399 rfl ?_
  refine za_ico B.1 1 dd_Lw_law_400 (by decide) ?_
  refine za_add B.1 dd_Lw_law_401 ?_
  refine za_sld B.1 dd_Lw_law_402 ?_
  refine za_ald_n B.1 0 dd_Lw_law_403 rfl ?_
  refine za_ild_n B.1 3 dd_Lw_law_404 rfl ?_
  refine za_ico B.1 2 dd_Lw_law_405 (by decide) ?_
  refine za_add B.1 dd_Lw_law_406 ?_
  refine za_sld B.1 dd_Lw_law_407 ?_
  refine za_cV B.1 8 2 0 0 600000 7302250 rfl rfl rfl (by decide) (zm_Md_admit l G) ⟨callB_of 2 B.1.1.2.2.2.2 (zs_good zW_607) rfl rfl rfl (B.1.1.2.2.2.2 _ zW_8) (B.1.1.2.2.2.2 _ zW_604) (by decide +kernel) ⟨by decide, by decide⟩, (B.1.1.2.2.2.2 _ zW_605), (B.1.1.2.2.2.2 _ zW_606)⟩ dd_Lw_law_408 ?_
  exact za_cmp_eq B.1 746 dd_Lw_law_411 (by decide) (zr_Lw_law_746 B h28) (zr_Lw_law_414 B)
theorem zr_Lw_law_457 (B : zs_Bl p s m b meth c G) : zA_Lw_law p l e s m b below meth c G 457 (zb_Lw_law_457 G) := by
  unfold zb_Lw_law_457
  refine za_ico B.1 0 dd_Lw_law_457 (by decide) ?_
  exact za_lrt B dd_Lw_law_458
theorem zr_Lw_law_416 (B : zs_Bl p s m b meth c G) {K28 : zs_P} (h28 : zA_Lw_law p l e s m b below meth c G 28 K28) : zA_Lw_law p l e s m b below meth c G 416 (zb_Lw_law_416 G K28) := by
  unfold zb_Lw_law_416
  refine za_ald_n B.1 1 dd_Lw_law_416 rfl ?_
  refine za_ald_n B.1 0 dd_Lw_law_417 rfl ?_
  refine za_ild_n B.1 3 dd_Lw_law_418 rfl ?_
  refine za_ico B.1 1 dd_Lw_law_419 (by decide) ?_
  refine za_add B.1 dd_Lw_law_420 ?_
  refine za_sld B.1 dd_Lw_law_421 ?_
  refine za_ald_n B.1 0 dd_Lw_law_422 rfl ?_
  refine za_ild_n B.1 3 dd_Lw_law_423 rfl ?_
  refine za_ico B.1 2 dd_Lw_law_424 (by decide) ?_
  refine za_add B.1 dd_Lw_law_425 ?_
  refine za_sld B.1 dd_Lw_law_426 ?_
  refine za_ald_n B.1 0 dd_Lw_law_427 rfl ?_
  refine za_ild_n B.1 3 dd_Lw_law_428 rfl ?_
  refine za_ico B.1 3 dd_Lw_law_429 (by decide) ?_
  refine za_add B.1 dd_Lw_law_430 ?_
  refine za_sld B.1 dd_Lw_law_431 ?_
  refine za_cV B.1 7 3 0 0 600000 7302250 rfl rfl rfl (by decide) (zm_SB_look l G) ⟨callB_of 3 B.1.1.2.2.2.2 (zs_good zW_361) rfl rfl rfl (B.1.1.2.2.2.2 _ zW_1) (B.1.1.2.2.2.2 _ zW_358) (by decide +kernel) ⟨by decide, by decide⟩, (B.1.1.2.2.2.2 _ zW_359), (B.1.1.2.2.2.2 _ zW_360)⟩ dd_Lw_law_432 ?_
  refine za_ald_n B.1 2 dd_Lw_law_435 rfl ?_
  refine za_ald_n B.1 0 dd_Lw_law_436 rfl ?_
  refine za_ild_n B.1 3 dd_Lw_law_437 rfl ?_
  refine za_ico B.1 1 dd_Lw_law_438 (by decide) ?_
  refine za_add B.1 dd_Lw_law_439 ?_
  refine za_sld B.1 dd_Lw_law_440 ?_
  refine za_ald_n B.1 0 dd_Lw_law_441 rfl ?_
  refine za_ild_n B.1 3 dd_Lw_law_442 rfl ?_
  refine za_ico B.1 2 dd_Lw_law_443 (by decide) ?_
  refine za_add B.1 dd_Lw_law_444 ?_
  refine za_sld B.1 dd_Lw_law_445 ?_
  refine za_ald_n B.1 0 dd_Lw_law_446 rfl ?_
  refine za_ild_n B.1 3 dd_Lw_law_447 rfl ?_
  refine za_ico B.1 3 dd_Lw_law_448 (by decide) ?_
  refine za_add B.1 dd_Lw_law_449 ?_
  refine za_sld B.1 dd_Lw_law_450 ?_
  refine za_cV B.1 8 3 0 0 600000 7302250 rfl rfl rfl (by decide) (zm_Md_look l G) ⟨callB_of 3 B.1.1.2.2.2.2 (zs_good zW_620) rfl rfl rfl (B.1.1.2.2.2.2 _ zW_8) (B.1.1.2.2.2.2 _ zW_617) (by decide +kernel) ⟨by decide, by decide⟩, (B.1.1.2.2.2.2 _ zW_618), (B.1.1.2.2.2.2 _ zW_619)⟩ dd_Lw_law_451 ?_
  exact za_cmp_eq B.1 746 dd_Lw_law_454 (by decide) (zr_Lw_law_746 B h28) (zr_Lw_law_457 B)
theorem zr_Lw_law_480 (B : zs_Bl p s m b meth c G) : zA_Lw_law p l e s m b below meth c G 480 (zb_Lw_law_480 G) := by
  unfold zb_Lw_law_480
  refine za_ico B.1 0 dd_Lw_law_480 (by decide) ?_
  exact za_lrt B dd_Lw_law_481
theorem zr_Lw_law_459 (B : zs_Bl p s m b meth c G) {K28 : zs_P} (h28 : zA_Lw_law p l e s m b below meth c G 28 K28) : zA_Lw_law p l e s m b below meth c G 459 (zb_Lw_law_459 G K28) := by
  unfold zb_Lw_law_459
  refine za_ald_n B.1 1 dd_Lw_law_459 rfl ?_
  refine za_ald_n B.1 0 dd_Lw_law_460 rfl ?_
  refine za_ild_n B.1 3 dd_Lw_law_461 rfl ?_
  refine za_ico B.1 1 dd_Lw_law_462 (by decide) ?_
  refine za_add B.1 dd_Lw_law_463 ?_
  refine za_sld B.1 dd_Lw_law_464 ?_
  refine za_cV B.1 7 1 0 0 600000 7302250 rfl rfl rfl (by decide) (zm_SB_checkpoint l G) ⟨callB_of 1 B.1.1.2.2.2.2 (zs_good zW_388) rfl rfl rfl (B.1.1.2.2.2.2 _ zW_1) (B.1.1.2.2.2.2 _ zW_385) (by decide +kernel) ⟨by decide, by decide⟩, (B.1.1.2.2.2.2 _ zW_386), (B.1.1.2.2.2.2 _ zW_387)⟩ dd_Lw_law_465 ?_
  refine za_ald_n B.1 2 dd_Lw_law_468 rfl ?_
  refine za_ald_n B.1 0 dd_Lw_law_469 rfl ?_
  refine za_ild_n B.1 3 dd_Lw_law_470 rfl ?_
  refine za_ico B.1 1 dd_Lw_law_471 (by decide) ?_
  refine za_add B.1 dd_Lw_law_472 ?_
  refine za_sld B.1 dd_Lw_law_473 ?_
  refine za_cV B.1 8 1 0 0 600000 7302250 rfl rfl rfl (by decide) (zm_Md_checkpoint l G) ⟨callB_of 1 B.1.1.2.2.2.2 (zs_good zW_633) rfl rfl rfl (B.1.1.2.2.2.2 _ zW_8) (B.1.1.2.2.2.2 _ zW_630) (by decide +kernel) ⟨by decide, by decide⟩, (B.1.1.2.2.2.2 _ zW_631), (B.1.1.2.2.2.2 _ zW_632)⟩ dd_Lw_law_474 ?_
  exact za_cmp_eq B.1 746 dd_Lw_law_477 (by decide) (zr_Lw_law_746 B h28) (zr_Lw_law_480 B)
theorem zr_Lw_law_513 (B : zs_Bl p s m b meth c G) : zA_Lw_law p l e s m b below meth c G 513 (zb_Lw_law_513 G) := by
  unfold zb_Lw_law_513
  refine za_ico B.1 0 dd_Lw_law_513 (by decide) ?_
  exact za_lrt B dd_Lw_law_514
theorem zr_Lw_law_482 (B : zs_Bl p s m b meth c G) {K28 : zs_P} (h28 : zA_Lw_law p l e s m b below meth c G 28 K28) : zA_Lw_law p l e s m b below meth c G 482 (zb_Lw_law_482 G K28) := by
  unfold zb_Lw_law_482
  refine za_ald_n B.1 1 dd_Lw_law_482 rfl ?_
  refine za_ald_n B.1 0 dd_Lw_law_483 rfl ?_
  refine za_ild_n B.1 3 dd_Lw_law_484 rfl ?_
  refine za_ico B.1 1 dd_Lw_law_485 (by decide) ?_
  refine za_add B.1 dd_Lw_law_486 ?_
  refine za_sld B.1 dd_Lw_law_487 ?_
  refine za_ald_n B.1 0 dd_Lw_law_488 rfl ?_
  refine za_ild_n B.1 3 dd_Lw_law_489 rfl ?_
  refine za_ico B.1 2 dd_Lw_law_490 (by decide) ?_
  refine za_add B.1 dd_Lw_law_491 ?_
  refine za_sld B.1 dd_Lw_law_492 ?_
  refine za_cV B.1 7 2 0 0 600000 7302250 rfl rfl rfl (by decide) (zm_SB_value l G) ⟨callB_of 2 B.1.1.2.2.2.2 (zs_good zW_400) rfl rfl rfl (B.1.1.2.2.2.2 _ zW_1) (B.1.1.2.2.2.2 _ zW_397) (by decide +kernel) ⟨by decide, by decide⟩, (B.1.1.2.2.2.2 _ zW_398), (B.1.1.2.2.2.2 _ zW_399)⟩ dd_Lw_law_493 ?_
  refine za_ald_n B.1 2 dd_Lw_law_496 rfl ?_
  refine za_ald_n B.1 0 dd_Lw_law_497 rfl ?_
  refine za_ild_n B.1 3 dd_Lw_law_498 rfl ?_
  refine za_ico B.1 1 dd_Lw_law_499 (by decide) ?_
  refine za_add B.1 dd_Lw_law_500 ?_
  refine za_sld B.1 dd_Lw_law_501 ?_
  refine za_ald_n B.1 0 dd_Lw_law_502 rfl ?_
  refine za_ild_n B.1 3 dd_Lw_law_503 rfl ?_
  refine za_ico B.1 2 dd_Lw_law_504 (by decide) ?_
  refine za_add B.1 dd_Lw_law_505 ?_
  refine za_sld B.1 dd_Lw_law_506 ?_
  refine za_cV B.1 8 2 0 0 600000 7302250 rfl rfl rfl (by decide) (zm_Md_value l G) ⟨callB_of 2 B.1.1.2.2.2.2 (zs_good zW_637) rfl rfl rfl (B.1.1.2.2.2.2 _ zW_8) (B.1.1.2.2.2.2 _ zW_634) (by decide +kernel) ⟨by decide, by decide⟩, (B.1.1.2.2.2.2 _ zW_635), (B.1.1.2.2.2.2 _ zW_636)⟩ dd_Lw_law_507 ?_
  exact za_cmp_eq B.1 746 dd_Lw_law_510 (by decide) (zr_Lw_law_746 B h28) (zr_Lw_law_513 B)
theorem zr_Lw_law_536 (B : zs_Bl p s m b meth c G) : zA_Lw_law p l e s m b below meth c G 536 (zb_Lw_law_536 G) := by
  unfold zb_Lw_law_536
  refine za_ico B.1 0 dd_Lw_law_536 (by decide) ?_
  exact za_lrt B dd_Lw_law_537
theorem zr_Lw_law_515 (B : zs_Bl p s m b meth c G) {K28 : zs_P} (h28 : zA_Lw_law p l e s m b below meth c G 28 K28) : zA_Lw_law p l e s m b below meth c G 515 (zb_Lw_law_515 G K28) := by
  unfold zb_Lw_law_515
  refine za_ald_n B.1 1 dd_Lw_law_515 rfl ?_
  refine za_ald_n B.1 0 dd_Lw_law_516 rfl ?_
  refine za_ild_n B.1 3 dd_Lw_law_517 rfl ?_
  refine za_ico B.1 1 dd_Lw_law_518 (by decide) ?_
  refine za_add B.1 dd_Lw_law_519 ?_
  refine za_sld B.1 dd_Lw_law_520 ?_
  refine za_cV B.1 7 1 0 0 600000 7302250 rfl rfl rfl (by decide) (zm_SB_status l G) ⟨callB_of 1 B.1.1.2.2.2.2 (zs_good zW_405) rfl rfl rfl (B.1.1.2.2.2.2 _ zW_1) (B.1.1.2.2.2.2 _ zW_402) (by decide +kernel) ⟨by decide, by decide⟩, (B.1.1.2.2.2.2 _ zW_403), (B.1.1.2.2.2.2 _ zW_404)⟩ dd_Lw_law_521 ?_
  refine za_ald_n B.1 2 dd_Lw_law_524 rfl ?_
  refine za_ald_n B.1 0 dd_Lw_law_525 rfl ?_
  refine za_ild_n B.1 3 dd_Lw_law_526 rfl ?_
  refine za_ico B.1 1 dd_Lw_law_527 (by decide) ?_
  refine za_add B.1 dd_Lw_law_528 ?_
  refine za_sld B.1 dd_Lw_law_529 ?_
  refine za_cV B.1 8 1 0 0 600000 7302250 rfl rfl rfl (by decide) (zm_Md_status l G) ⟨callB_of 1 B.1.1.2.2.2.2 (zs_good zW_507) rfl rfl rfl (B.1.1.2.2.2.2 _ zW_8) (B.1.1.2.2.2.2 _ zW_504) (by decide +kernel) ⟨by decide, by decide⟩, (B.1.1.2.2.2.2 _ zW_505), (B.1.1.2.2.2.2 _ zW_506)⟩ dd_Lw_law_530 ?_
  exact za_cmp_eq B.1 746 dd_Lw_law_533 (by decide) (zr_Lw_law_746 B h28) (zr_Lw_law_536 B)
theorem zr_Lw_law_569 (B : zs_Bl p s m b meth c G) : zA_Lw_law p l e s m b below meth c G 569 (zb_Lw_law_569 G) := by
  unfold zb_Lw_law_569
  refine za_ico B.1 0 dd_Lw_law_569 (by decide) ?_
  exact za_lrt B dd_Lw_law_570
theorem zr_Lw_law_538 (B : zs_Bl p s m b meth c G) {K28 : zs_P} (h28 : zA_Lw_law p l e s m b below meth c G 28 K28) : zA_Lw_law p l e s m b below meth c G 538 (zb_Lw_law_538 G K28) := by
  unfold zb_Lw_law_538
  refine za_ald_n B.1 1 dd_Lw_law_538 rfl ?_
  refine za_ald_n B.1 0 dd_Lw_law_539 rfl ?_
  refine za_ild_n B.1 3 dd_Lw_law_540 rfl ?_
  refine za_ico B.1 1 dd_Lw_law_541 (by decide) ?_
  refine za_add B.1 dd_Lw_law_542 ?_
  refine za_sld B.1 dd_Lw_law_543 ?_
  refine za_ald_n B.1 0 dd_Lw_law_544 rfl ?_
  refine za_ild_n B.1 3 dd_Lw_law_545 rfl ?_
  refine za_ico B.1 2 dd_Lw_law_546 (by decide) ?_
  refine za_add B.1 dd_Lw_law_547 ?_
  refine za_sld B.1 dd_Lw_law_548 ?_
  refine za_cV B.1 7 2 0 0 600000 7302250 rfl rfl rfl (by decide) (zm_SB_logged l G) ⟨callB_of 2 B.1.1.2.2.2.2 (zs_good zW_413) rfl rfl rfl (B.1.1.2.2.2.2 _ zW_1) (B.1.1.2.2.2.2 _ zW_410) (by decide +kernel) ⟨by decide, by decide⟩, (B.1.1.2.2.2.2 _ zW_411), (B.1.1.2.2.2.2 _ zW_412)⟩ dd_Lw_law_549 ?_
  refine za_ald_n B.1 2 dd_Lw_law_552 rfl ?_
  refine za_ald_n B.1 0 dd_Lw_law_553 rfl ?_
  refine za_ild_n B.1 3 dd_Lw_law_554 rfl ?_
  refine za_ico B.1 1 dd_Lw_law_555 (by decide) ?_
  refine za_add B.1 dd_Lw_law_556 ?_
  refine za_sld B.1 dd_Lw_law_557 ?_
  refine za_ald_n B.1 0 dd_Lw_law_558 rfl ?_
  refine za_ild_n B.1 3 dd_Lw_law_559 rfl ?_
  refine za_ico B.1 2 dd_Lw_law_560 (by decide) ?_
  refine za_add B.1 dd_Lw_law_561 ?_
  refine za_sld B.1 dd_Lw_law_562 ?_
  refine za_cV B.1 8 2 0 0 600000 7302250 rfl rfl rfl (by decide) (zm_Md_logged l G) ⟨callB_of 2 B.1.1.2.2.2.2 (zs_good zW_600) rfl rfl rfl (B.1.1.2.2.2.2 _ zW_8) (B.1.1.2.2.2.2 _ zW_597) (by decide +kernel) ⟨by decide, by decide⟩, (B.1.1.2.2.2.2 _ zW_598), (B.1.1.2.2.2.2 _ zW_599)⟩ dd_Lw_law_563 ?_
  exact za_cmp_eq B.1 746 dd_Lw_law_566 (by decide) (zr_Lw_law_746 B h28) (zr_Lw_law_569 B)
theorem zr_Lw_law_602 (B : zs_Bl p s m b meth c G) : zA_Lw_law p l e s m b below meth c G 602 (zb_Lw_law_602 G) := by
  unfold zb_Lw_law_602
  refine za_ico B.1 0 dd_Lw_law_602 (by decide) ?_
  exact za_lrt B dd_Lw_law_603
theorem zr_Lw_law_571 (B : zs_Bl p s m b meth c G) {K28 : zs_P} (h28 : zA_Lw_law p l e s m b below meth c G 28 K28) : zA_Lw_law p l e s m b below meth c G 571 (zb_Lw_law_571 G K28) := by
  unfold zb_Lw_law_571
  refine za_ald_n B.1 1 dd_Lw_law_571 rfl ?_
  refine za_ald_n B.1 0 dd_Lw_law_572 rfl ?_
  refine za_ild_n B.1 3 dd_Lw_law_573 rfl ?_
  refine za_ico B.1 1 dd_Lw_law_574 (by decide) ?_
  refine za_add B.1 dd_Lw_law_575 ?_
  refine za_sld B.1 dd_Lw_law_576 ?_
  refine za_ald_n B.1 0 dd_Lw_law_577 rfl ?_
  refine za_ild_n B.1 3 dd_Lw_law_578 rfl ?_
  refine za_ico B.1 2 dd_Lw_law_579 (by decide) ?_
  refine za_add B.1 dd_Lw_law_580 ?_
  refine za_sld B.1 dd_Lw_law_581 ?_
  refine za_cV B.1 7 2 0 0 600000 7302250 rfl rfl rfl (by decide) (zm_SB_admitted l G) ⟨callB_of 2 B.1.1.2.2.2.2 (zs_good zW_421) rfl rfl rfl (B.1.1.2.2.2.2 _ zW_1) (B.1.1.2.2.2.2 _ zW_418) (by decide +kernel) ⟨by decide, by decide⟩, (B.1.1.2.2.2.2 _ zW_419), (B.1.1.2.2.2.2 _ zW_420)⟩ dd_Lw_law_582 ?_
  refine za_ald_n B.1 2 dd_Lw_law_585 rfl ?_
  refine za_ald_n B.1 0 dd_Lw_law_586 rfl ?_
  refine za_ild_n B.1 3 dd_Lw_law_587 rfl ?_
  refine za_ico B.1 1 dd_Lw_law_588 (by decide) ?_
  refine za_add B.1 dd_Lw_law_589 ?_
  refine za_sld B.1 dd_Lw_law_590 ?_
  refine za_ald_n B.1 0 dd_Lw_law_591 rfl ?_
  refine za_ild_n B.1 3 dd_Lw_law_592 rfl ?_
  refine za_ico B.1 2 dd_Lw_law_593 (by decide) ?_
  refine za_add B.1 dd_Lw_law_594 ?_
  refine za_sld B.1 dd_Lw_law_595 ?_
  refine za_cV B.1 8 2 0 0 600000 7302250 rfl rfl rfl (by decide) (zm_Md_admitted l G) ⟨callB_of 2 B.1.1.2.2.2.2 (zs_good zW_641) rfl rfl rfl (B.1.1.2.2.2.2 _ zW_8) (B.1.1.2.2.2.2 _ zW_638) (by decide +kernel) ⟨by decide, by decide⟩, (B.1.1.2.2.2.2 _ zW_639), (B.1.1.2.2.2.2 _ zW_640)⟩ dd_Lw_law_596 ?_
  exact za_cmp_eq B.1 746 dd_Lw_law_599 (by decide) (zr_Lw_law_746 B h28) (zr_Lw_law_602 B)
theorem zr_Lw_law_635 (B : zs_Bl p s m b meth c G) : zA_Lw_law p l e s m b below meth c G 635 (zb_Lw_law_635 G) := by
  unfold zb_Lw_law_635
  refine za_ico B.1 0 dd_Lw_law_635 (by decide) ?_
  exact za_lrt B dd_Lw_law_636
theorem zr_Lw_law_604 (B : zs_Bl p s m b meth c G) {K28 : zs_P} (h28 : zA_Lw_law p l e s m b below meth c G 28 K28) : zA_Lw_law p l e s m b below meth c G 604 (zb_Lw_law_604 G K28) := by
  unfold zb_Lw_law_604
  refine za_ald_n B.1 1 dd_Lw_law_604 rfl ?_
  refine za_ald_n B.1 0 dd_Lw_law_605 rfl ?_
  refine za_ild_n B.1 3 dd_Lw_law_606 rfl ?_
  refine za_ico B.1 1 dd_Lw_law_607 (by decide) ?_
  refine za_add B.1 dd_Lw_law_608 ?_
  refine za_sld B.1 dd_Lw_law_609 ?_
  refine za_ald_n B.1 0 dd_Lw_law_610 rfl ?_
  refine za_ild_n B.1 3 dd_Lw_law_611 rfl ?_
  refine za_ico B.1 2 dd_Lw_law_612 (by decide) ?_
  refine za_add B.1 dd_Lw_law_613 ?_
  refine za_sld B.1 dd_Lw_law_614 ?_
  refine za_cV B.1 7 2 0 0 600000 7302250 rfl rfl rfl (by decide) (zm_SB_finished l G) ⟨callB_of 2 B.1.1.2.2.2.2 (zs_good zW_425) rfl rfl rfl (B.1.1.2.2.2.2 _ zW_1) (B.1.1.2.2.2.2 _ zW_422) (by decide +kernel) ⟨by decide, by decide⟩, (B.1.1.2.2.2.2 _ zW_423), (B.1.1.2.2.2.2 _ zW_424)⟩ dd_Lw_law_615 ?_
  refine za_ald_n B.1 2 dd_Lw_law_618 rfl ?_
  refine za_ald_n B.1 0 dd_Lw_law_619 rfl ?_
  refine za_ild_n B.1 3 dd_Lw_law_620 rfl ?_
  refine za_ico B.1 1 dd_Lw_law_621 (by decide) ?_
  refine za_add B.1 dd_Lw_law_622 ?_
  refine za_sld B.1 dd_Lw_law_623 ?_
  refine za_ald_n B.1 0 dd_Lw_law_624 rfl ?_
  refine za_ild_n B.1 3 dd_Lw_law_625 rfl ?_
  refine za_ico B.1 2 dd_Lw_law_626 (by decide) ?_
  refine za_add B.1 dd_Lw_law_627 ?_
  refine za_sld B.1 dd_Lw_law_628 ?_
  refine za_cV B.1 8 2 0 0 600000 7302250 rfl rfl rfl (by decide) (zm_Md_finished l G) ⟨callB_of 2 B.1.1.2.2.2.2 (zs_good zW_645) rfl rfl rfl (B.1.1.2.2.2.2 _ zW_8) (B.1.1.2.2.2.2 _ zW_642) (by decide +kernel) ⟨by decide, by decide⟩, (B.1.1.2.2.2.2 _ zW_643), (B.1.1.2.2.2.2 _ zW_644)⟩ dd_Lw_law_629 ?_
  exact za_cmp_eq B.1 746 dd_Lw_law_632 (by decide) (zr_Lw_law_746 B h28) (zr_Lw_law_635 B)
theorem zr_Lw_law_668 (B : zs_Bl p s m b meth c G) : zA_Lw_law p l e s m b below meth c G 668 (zb_Lw_law_668 G) := by
  unfold zb_Lw_law_668
  refine za_ico B.1 0 dd_Lw_law_668 (by decide) ?_
  exact za_lrt B dd_Lw_law_669
theorem zr_Lw_law_637 (B : zs_Bl p s m b meth c G) {K28 : zs_P} (h28 : zA_Lw_law p l e s m b below meth c G 28 K28) : zA_Lw_law p l e s m b below meth c G 637 (zb_Lw_law_637 G K28) := by
  unfold zb_Lw_law_637
  refine za_ald_n B.1 1 dd_Lw_law_637 rfl ?_
  refine za_ald_n B.1 0 dd_Lw_law_638 rfl ?_
  refine za_ild_n B.1 3 dd_Lw_law_639 rfl ?_
  refine za_ico B.1 1 dd_Lw_law_640 (by decide) ?_
  refine za_add B.1 dd_Lw_law_641 ?_
  refine za_sld B.1 dd_Lw_law_642 ?_
  refine za_ald_n B.1 0 dd_Lw_law_643 rfl ?_
  refine za_ild_n B.1 3 dd_Lw_law_644 rfl ?_
  refine za_ico B.1 2 dd_Lw_law_645 (by decide) ?_
  refine za_add B.1 dd_Lw_law_646 ?_
  refine za_sld B.1 dd_Lw_law_647 ?_
  refine za_cV B.1 7 2 0 0 600000 7302250 rfl rfl rfl (by decide) (zm_SB_ready l G) ⟨callB_of 2 B.1.1.2.2.2.2 (zs_good zW_430) rfl rfl rfl (B.1.1.2.2.2.2 _ zW_1) (B.1.1.2.2.2.2 _ zW_427) (by decide +kernel) ⟨by decide, by decide⟩, (B.1.1.2.2.2.2 _ zW_428), (B.1.1.2.2.2.2 _ zW_429)⟩ dd_Lw_law_648 ?_
  refine za_ald_n B.1 2 dd_Lw_law_651 rfl ?_
  refine za_ald_n B.1 0 dd_Lw_law_652 rfl ?_
  refine za_ild_n B.1 3 dd_Lw_law_653 rfl ?_
  refine za_ico B.1 1 dd_Lw_law_654 (by decide) ?_
  refine za_add B.1 dd_Lw_law_655 ?_
  refine za_sld B.1 dd_Lw_law_656 ?_
  refine za_ald_n B.1 0 dd_Lw_law_657 rfl ?_
  refine za_ild_n B.1 3 dd_Lw_law_658 rfl ?_
  refine za_ico B.1 2 dd_Lw_law_659 (by decide) ?_
  refine za_add B.1 dd_Lw_law_660 ?_
  refine za_sld B.1 dd_Lw_law_661 ?_
  refine za_cV B.1 8 2 0 0 600000 7302250 rfl rfl rfl (by decide) (zm_Md_ready l G) ⟨callB_of 2 B.1.1.2.2.2.2 (zs_good zW_649) rfl rfl rfl (B.1.1.2.2.2.2 _ zW_8) (B.1.1.2.2.2.2 _ zW_646) (by decide +kernel) ⟨by decide, by decide⟩, (B.1.1.2.2.2.2 _ zW_647), (B.1.1.2.2.2.2 _ zW_648)⟩ dd_Lw_law_662 ?_
  exact za_cmp_eq B.1 746 dd_Lw_law_665 (by decide) (zr_Lw_law_746 B h28) (zr_Lw_law_668 B)
theorem zr_Lw_law_701 (B : zs_Bl p s m b meth c G) : zA_Lw_law p l e s m b below meth c G 701 (zb_Lw_law_701 G) := by
  unfold zb_Lw_law_701
  refine za_ico B.1 0 dd_Lw_law_701 (by decide) ?_
  exact za_lrt B dd_Lw_law_702
theorem zr_Lw_law_670 (B : zs_Bl p s m b meth c G) {K28 : zs_P} (h28 : zA_Lw_law p l e s m b below meth c G 28 K28) : zA_Lw_law p l e s m b below meth c G 670 (zb_Lw_law_670 G K28) := by
  unfold zb_Lw_law_670
  refine za_ald_n B.1 1 dd_Lw_law_670 rfl ?_
  refine za_ald_n B.1 0 dd_Lw_law_671 rfl ?_
  refine za_ild_n B.1 3 dd_Lw_law_672 rfl ?_
  refine za_ico B.1 1 dd_Lw_law_673 (by decide) ?_
  refine za_add B.1 dd_Lw_law_674 ?_
  refine za_sld B.1 dd_Lw_law_675 ?_
  refine za_ald_n B.1 0 dd_Lw_law_676 rfl ?_
  refine za_ild_n B.1 3 dd_Lw_law_677 rfl ?_
  refine za_ico B.1 2 dd_Lw_law_678 (by decide) ?_
  refine za_add B.1 dd_Lw_law_679 ?_
  refine za_sld B.1 dd_Lw_law_680 ?_
  refine za_cV B.1 7 2 0 0 600000 7302250 rfl rfl rfl (by decide) (zm_SB_locks l G) ⟨callB_of 2 B.1.1.2.2.2.2 (zs_good zW_438) rfl rfl rfl (B.1.1.2.2.2.2 _ zW_1) (B.1.1.2.2.2.2 _ zW_435) (by decide +kernel) ⟨by decide, by decide⟩, (B.1.1.2.2.2.2 _ zW_436), (B.1.1.2.2.2.2 _ zW_437)⟩ dd_Lw_law_681 ?_
  refine za_ald_n B.1 2 dd_Lw_law_684 rfl ?_
  refine za_ald_n B.1 0 dd_Lw_law_685 rfl ?_
  refine za_ild_n B.1 3 dd_Lw_law_686 rfl ?_
  refine za_ico B.1 1 dd_Lw_law_687 (by decide) ?_
  refine za_add B.1 dd_Lw_law_688 ?_
  refine za_sld B.1 dd_Lw_law_689 ?_
  refine za_ald_n B.1 0 dd_Lw_law_690 rfl ?_
  refine za_ild_n B.1 3 dd_Lw_law_691 rfl ?_
  refine za_ico B.1 2 dd_Lw_law_692 (by decide) ?_
  refine za_add B.1 dd_Lw_law_693 ?_
  refine za_sld B.1 dd_Lw_law_694 ?_
  refine za_cV B.1 8 2 0 0 600000 7302250 rfl rfl rfl (by decide) (zm_Md_locks l G) ⟨callB_of 2 B.1.1.2.2.2.2 (zs_good zW_653) rfl rfl rfl (B.1.1.2.2.2.2 _ zW_8) (B.1.1.2.2.2.2 _ zW_650) (by decide +kernel) ⟨by decide, by decide⟩, (B.1.1.2.2.2.2 _ zW_651), (B.1.1.2.2.2.2 _ zW_652)⟩ dd_Lw_law_695 ?_
  exact za_cmp_eq B.1 746 dd_Lw_law_698 (by decide) (zr_Lw_law_746 B h28) (zr_Lw_law_701 B)
theorem zr_Lw_law_744 (B : zs_Bl p s m b meth c G) : zA_Lw_law p l e s m b below meth c G 744 (zb_Lw_law_744 G) := by
  unfold zb_Lw_law_744
  refine za_ico B.1 0 dd_Lw_law_744 (by decide) ?_
  exact za_lrt B dd_Lw_law_745
theorem zr_Lw_law_703 (B : zs_Bl p s m b meth c G) {K28 : zs_P} (h28 : zA_Lw_law p l e s m b below meth c G 28 K28) : zA_Lw_law p l e s m b below meth c G 703 (zb_Lw_law_703 G K28) := by
  unfold zb_Lw_law_703
  refine za_ald_n B.1 1 dd_Lw_law_703 rfl ?_
  refine za_ald_n B.1 0 dd_Lw_law_704 rfl ?_
  refine za_ild_n B.1 3 dd_Lw_law_705 rfl ?_
  refine za_ico B.1 1 dd_Lw_law_706 (by decide) ?_
  refine za_add B.1 dd_Lw_law_707 ?_
  refine za_sld B.1 dd_Lw_law_708 ?_
  refine za_ald_n B.1 0 dd_Lw_law_709 rfl ?_
  refine za_ild_n B.1 3 dd_Lw_law_710 rfl ?_
  refine za_ico B.1 2 dd_Lw_law_711 (by decide) ?_
  refine za_add B.1 dd_Lw_law_712 ?_
  refine za_sld B.1 dd_Lw_law_713 ?_
  refine za_ald_n B.1 0 dd_Lw_law_714 rfl ?_
  refine za_ild_n B.1 3 dd_Lw_law_715 rfl ?_
  refine za_ico B.1 3 dd_Lw_law_716 (by decide) ?_
  refine za_add B.1 dd_Lw_law_717 ?_
  refine za_sld B.1 dd_Lw_law_718 ?_
  refine za_cV B.1 7 3 0 0 600000 7302250 rfl rfl rfl (by decide) (zm_SB_stored l G) ⟨callB_of 3 B.1.1.2.2.2.2 (zs_good zW_446) rfl rfl rfl (B.1.1.2.2.2.2 _ zW_1) (B.1.1.2.2.2.2 _ zW_443) (by decide +kernel) ⟨by decide, by decide⟩, (B.1.1.2.2.2.2 _ zW_444), (B.1.1.2.2.2.2 _ zW_445)⟩ dd_Lw_law_719 ?_
  refine za_ald_n B.1 2 dd_Lw_law_722 rfl ?_
  refine za_ald_n B.1 0 dd_Lw_law_723 rfl ?_
  refine za_ild_n B.1 3 dd_Lw_law_724 rfl ?_
  refine za_ico B.1 1 dd_Lw_law_725 (by decide) ?_
  refine za_add B.1 dd_Lw_law_726 ?_
  refine za_sld B.1 dd_Lw_law_727 ?_
  refine za_ald_n B.1 0 dd_Lw_law_728 rfl ?_
  refine za_ild_n B.1 3 dd_Lw_law_729 rfl ?_
  refine za_ico B.1 2 dd_Lw_law_730 (by decide) ?_
  refine za_add B.1 dd_Lw_law_731 ?_
  refine za_sld B.1 dd_Lw_law_732 ?_
  refine za_ald_n B.1 0 dd_Lw_law_733 rfl ?_
  refine za_ild_n B.1 3 dd_Lw_law_734 rfl ?_
  refine za_ico B.1 3 dd_Lw_law_735 (by decide) ?_
  refine za_add B.1 dd_Lw_law_736 ?_
  refine za_sld B.1 dd_Lw_law_737 ?_
  refine za_cV B.1 8 3 0 0 600000 7302250 rfl rfl rfl (by decide) (zm_Md_stored l G) ⟨callB_of 3 B.1.1.2.2.2.2 (zs_good zW_657) rfl rfl rfl (B.1.1.2.2.2.2 _ zW_8) (B.1.1.2.2.2.2 _ zW_654) (by decide +kernel) ⟨by decide, by decide⟩, (B.1.1.2.2.2.2 _ zW_655), (B.1.1.2.2.2.2 _ zW_656)⟩ dd_Lw_law_738 ?_
  exact za_cmp_eq B.1 746 dd_Lw_law_741 (by decide) (zr_Lw_law_746 B h28) (zr_Lw_law_744 B)
theorem zr_Lw_law_37 (B : zs_Bl p s m b meth c G) {K28 : zs_P} (h28 : zA_Lw_law p l e s m b below meth c G 28 K28) : zA_Lw_law p l e s m b below meth c G 37 (zb_Lw_law_37 G K28) := by
  unfold zb_Lw_law_37
  refine za_ald_n B.1 0 dd_Lw_law_37 rfl ?_
  refine za_ild_n B.1 3 dd_Lw_law_38 rfl ?_
  refine za_sld B.1 dd_Lw_law_39 ?_
  refine za_bip B.1 31 dd_Lw_law_40 (by decide) ?_
  refine za_and B.1 dd_Lw_law_42 ?_
  refine za_sw0 ?_
  refine za_swc (off := 93) B.1 0 0 136 dd_Lw_law_43 (by decide) (by decide) (by decide) (by decide) (zr_Lw_law_136 B h28) ?_
  refine za_swc (off := 156) B.1 1 1 199 dd_Lw_law_43 (by decide) (by decide) (by decide) (by decide) (zr_Lw_law_199 B h28) ?_
  refine za_swc (off := 179) B.1 2 2 222 dd_Lw_law_43 (by decide) (by decide) (by decide) (by decide) (zr_Lw_law_222 B h28) ?_
  refine za_swc (off := 212) B.1 3 3 255 dd_Lw_law_43 (by decide) (by decide) (by decide) (by decide) (zr_Lw_law_255 B h28) ?_
  refine za_swc (off := 225) B.1 4 4 268 dd_Lw_law_43 (by decide) (by decide) (by decide) (by decide) (zr_Lw_law_268 B h28) ?_
  refine za_swc (off := 248) B.1 5 5 291 dd_Lw_law_43 (by decide) (by decide) (by decide) (by decide) (zr_Lw_law_291 B h28) ?_
  refine za_swc (off := 271) B.1 6 6 314 dd_Lw_law_43 (by decide) (by decide) (by decide) (by decide) (zr_Lw_law_314 B h28) ?_
  refine za_swc (off := 294) B.1 7 7 337 dd_Lw_law_43 (by decide) (by decide) (by decide) (by decide) (zr_Lw_law_337 B h28) ?_
  refine za_swc (off := 317) B.1 8 8 360 dd_Lw_law_43 (by decide) (by decide) (by decide) (by decide) (zr_Lw_law_360 B h28) ?_
  refine za_swc (off := 340) B.1 9 9 383 dd_Lw_law_43 (by decide) (by decide) (by decide) (by decide) (zr_Lw_law_383 B h28) ?_
  refine za_swc (off := 373) B.1 10 10 416 dd_Lw_law_43 (by decide) (by decide) (by decide) (by decide) (zr_Lw_law_416 B h28) ?_
  refine za_swc (off := 416) B.1 11 11 459 dd_Lw_law_43 (by decide) (by decide) (by decide) (by decide) (zr_Lw_law_459 B h28) ?_
  refine za_swc (off := 439) B.1 12 12 482 dd_Lw_law_43 (by decide) (by decide) (by decide) (by decide) (zr_Lw_law_482 B h28) ?_
  refine za_swc (off := 472) B.1 13 13 515 dd_Lw_law_43 (by decide) (by decide) (by decide) (by decide) (zr_Lw_law_515 B h28) ?_
  refine za_swc (off := 495) B.1 14 14 538 dd_Lw_law_43 (by decide) (by decide) (by decide) (by decide) (zr_Lw_law_538 B h28) ?_
  refine za_swc (off := 528) B.1 15 15 571 dd_Lw_law_43 (by decide) (by decide) (by decide) (by decide) (zr_Lw_law_571 B h28) ?_
  refine za_swc (off := 561) B.1 16 16 604 dd_Lw_law_43 (by decide) (by decide) (by decide) (by decide) (zr_Lw_law_604 B h28) ?_
  refine za_swc (off := 594) B.1 17 17 637 dd_Lw_law_43 (by decide) (by decide) (by decide) (by decide) (zr_Lw_law_637 B h28) ?_
  refine za_swc (off := 627) B.1 18 18 670 dd_Lw_law_43 (by decide) (by decide) (by decide) (by decide) (zr_Lw_law_670 B h28) ?_
  refine za_swc (off := 660) B.1 19 19 703 dd_Lw_law_43 (by decide) (by decide) (by decide) (by decide) (zr_Lw_law_703 B h28) ?_
  exact za_swd B.1 746 dd_Lw_law_43 (fun x hx => by
    have h0 := lv_neT (a := 0) (hx 0 (by decide)) (by decide)
    have h1 := lv_neT (a := 1) (hx 1 (by decide)) (by decide)
    have h2 := lv_neT (a := 2) (hx 2 (by decide)) (by decide)
    have h3 := lv_neT (a := 3) (hx 3 (by decide)) (by decide)
    have h4 := lv_neT (a := 4) (hx 4 (by decide)) (by decide)
    have h5 := lv_neT (a := 5) (hx 5 (by decide)) (by decide)
    have h6 := lv_neT (a := 6) (hx 6 (by decide)) (by decide)
    have h7 := lv_neT (a := 7) (hx 7 (by decide)) (by decide)
    have h8 := lv_neT (a := 8) (hx 8 (by decide)) (by decide)
    have h9 := lv_neT (a := 9) (hx 9 (by decide)) (by decide)
    have h10 := lv_neT (a := 10) (hx 10 (by decide)) (by decide)
    have h11 := lv_neT (a := 11) (hx 11 (by decide)) (by decide)
    have h12 := lv_neT (a := 12) (hx 12 (by decide)) (by decide)
    have h13 := lv_neT (a := 13) (hx 13 (by decide)) (by decide)
    have h14 := lv_neT (a := 14) (hx 14 (by decide)) (by decide)
    have h15 := lv_neT (a := 15) (hx 15 (by decide)) (by decide)
    have h16 := lv_neT (a := 16) (hx 16 (by decide)) (by decide)
    have h17 := lv_neT (a := 17) (hx 17 (by decide)) (by decide)
    have h18 := lv_neT (a := 18) (hx 18 (by decide)) (by decide)
    have h19 := lv_neT (a := 19) (hx 19 (by decide)) (by decide)
    omega) (by decide) (zr_Lw_law_746 B h28)
theorem zr_Lw_law_28 (B : zs_Bl p s m b meth c G) {K28 : zs_P} (h28 : zA_Lw_law p l e s m b below meth c G 28 K28) : zA_Lw_law p l e s m b below meth c G 28 (zb_Lw_law_28 G K28) := by
  unfold zb_Lw_law_28
  refine za_ild_n B.1 3 dd_Lw_law_28 rfl ?_
  refine za_ald_n B.1 0 dd_Lw_law_29 rfl ?_
  refine za_sln B.1 dd_Lw_law_30 ?_
  refine za_bip B.1 6 dd_Lw_law_31 (by decide) ?_
  refine za_sub B.1 dd_Lw_law_33 ?_
  exact za_cmp_gt B.1 752 dd_Lw_law_34 (by decide) (zr_Lw_law_752 B) (zr_Lw_law_37 B h28)
theorem zq_Lw_law_28 (B : zs_Bl p s m b meth c G) : zA_Lw_law p l e s m b below meth c G 28 (zl_Lw_law_28 G) := za_lop (fun K hK => zr_Lw_law_28 B hK)
theorem zr_Lw_law_0 (B : zs_Bl p s m b meth c G) : zA_Lw_law p l e s m b below meth c G 0 (zb_Lw_law_0 G) := by
  unfold zb_Lw_law_0
  refine za_nwo B.1 7 600000 7302250 rfl rfl zi_7 zy_SB zy_SB_ok rfl (by decide) zs_df7 zW_13 zW_14 zW_1 dd_Lw_law_0 ?_
  refine za_dup B.1 dd_Lw_law_3 ?_
  refine za_ald_n B.1 0 dd_Lw_law_4 rfl ?_
  refine za_ico B.1 0 dd_Lw_law_5 (by decide) ?_
  refine za_cS B.1 2 0 0 600000 7302250 rfl rfl (zm_Lw_cell l G) ⟨callB_of 2 B.1.1.2.2.2.2 (zs_good zW_449) rfl rfl rfl (B.1.1.2.2.2.2 _ zW_0) (B.1.1.2.2.2.2 _ zW_447) (by decide +kernel) ⟨by decide, by decide⟩, (B.1.1.2.2.2.2 _ zW_448)⟩ dd_Lw_law_6 ?_
  refine za_cI B.1 1 100 3000 600000 7302250 rfl rfl (zm_SB_init l G) ⟨callB_of 1 B.1.1.2.2.2.2 (zs_good zW_17) rfl rfl rfl (B.1.1.2.2.2.2 _ zW_1) (B.1.1.2.2.2.2 _ zW_15) (by decide +kernel) ⟨by decide, by decide⟩, rfl, (B.1.1.2.2.2.2 _ zW_16)⟩ dd_Lw_law_9 ?_
  refine za_ast_n B.1 1 dd_Lw_law_12 rfl (by decide) ?_
  refine za_nwo B.1 8 600000 7302250 rfl rfl zi_8 zy_Md zy_Md_ok rfl (by decide) zs_df8 zW_450 zW_451 zW_8 dd_Lw_law_13 ?_
  refine za_dup B.1 dd_Lw_law_16 ?_
  refine za_ald_n B.1 0 dd_Lw_law_17 rfl ?_
  refine za_ico B.1 0 dd_Lw_law_18 (by decide) ?_
  refine za_cS B.1 2 0 0 600000 7302250 rfl rfl (zm_Lw_cell l G) ⟨callB_of 2 B.1.1.2.2.2.2 (zs_good zW_449) rfl rfl rfl (B.1.1.2.2.2.2 _ zW_0) (B.1.1.2.2.2.2 _ zW_447) (by decide +kernel) ⟨by decide, by decide⟩, (B.1.1.2.2.2.2 _ zW_448)⟩ dd_Lw_law_19 ?_
  refine za_cI B.1 1 40 8000 600000 7302250 rfl rfl (zm_Md_init l G) ⟨callB_of 1 B.1.1.2.2.2.2 (zs_good zW_454) rfl rfl rfl (B.1.1.2.2.2.2 _ zW_8) (B.1.1.2.2.2.2 _ zW_452) (by decide +kernel) ⟨by decide, by decide⟩, rfl, (B.1.1.2.2.2.2 _ zW_453)⟩ dd_Lw_law_22 ?_
  refine za_ast_n B.1 2 dd_Lw_law_25 rfl (by decide) ?_
  refine za_ico B.1 1 dd_Lw_law_26 (by decide) ?_
  refine za_ist_n B.1 3 dd_Lw_law_27 rfl (by decide) ?_
  exact (zq_Lw_law_28 B)
end
