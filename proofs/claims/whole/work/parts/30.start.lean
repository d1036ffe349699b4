/-! From the machine's start to the pure statement. -/
def zs_0 : zs_S := (0, fun _ => (99, 0), fun _ _ => 0, fun _ _ => none)
/-- what level 2 owes: the law's transformer holds at the start, for every script -/
def zz_pure : Prop := ∀ G : zs_G, zg_L G ≤ 3073 → zb_Lw_law_0 G [some (.float 0), none, none, none] [] zs_0 0 0
theorem zs_arr {s : State} {args : Array Value} {ty : FieldType} (h : (Cond.arrayClass ty).before args s = true) (hty : ∀ C, ¬ ty = .object C) : ∃ cA : ClassId, ArrOfT s cA ty ∧ va_RA s cA ty := by
  obtain ⟨c, k, comp, h1, h2, h3⟩ := Cond.arrayClass_spec h
  refine ⟨c, fun n z => ⟨(fun k h => by cases h), k, h2, comp, h3⟩, ?_⟩
  cases ty with
  | object C => exact absurd rfl (hty C)
  | _ => exact h1
theorem zs_arq {s : State} {args : Array Value} {C : String} (h : (Cond.arrayOver (.object C)).before args s = true) : ∃ cA : ClassId, ArrOfT s cA (.object C) ∧ va_RA s cA (.object C) := by
  obtain ⟨comp, c, k, h1, -, h2, h3, h4⟩ := Cond.arrayOver_spec h
  exact ⟨c, fun n z => ⟨(fun k h => by cases h), k, h2, comp, h3⟩, k, comp, h2, h3, h1, h4⟩
set_option maxHeartbeats 4000000 in
theorem zs_start {p : Program} {e : Env} {s : State} {m : MethodId} {below : List Frame} {meth : Method} {c : Code} (l : Launch) {b L : Nat} {xs : Nat → Int32} (hL : L ≤ 3073) (C0 : lw_At p s m meth c b L xs) (hp : zz_pure) : W p l e room_1 s m #[Value.ref b] below meth c s.heap [] 0 0 (lw_Z below #[Value.ref b] s) (entryFrame m ([Value.ref b] : List Value).toArray 4) := by
  obtain ⟨hx, hb, hr, hml, hown, hts, hX, hbl, hlk, -⟩ := C0
  have hta : ∀ w ∈ zw_all, w.before #[Value.ref b] s = true := fun w hw => hts w (List.mem_filter.mp hw).1
  obtain ⟨c0, i0, k0⟩ := u_known (C := zR_Ln) (T := zT_Ln) (N := 2) (n := 2) hta zi_0 (hta _ zW_41)
  obtain ⟨c1, i1, k1⟩ := u_known (C := zR_Pa) (T := zT_Pa) (N := 6) (n := 6) hta zi_1 (hta _ zW_66)
  obtain ⟨c2, i2, k2⟩ := u_known (C := zR_Po) (T := zT_Po) (N := 3) (n := 3) hta zi_2 (hta _ zW_23)
  obtain ⟨c3, i3, k3⟩ := u_known (C := zR_Rp) (T := zT_Rp) (N := 10) (n := 10) hta zi_3 (hta _ zW_58)
  obtain ⟨c4, i4, k4⟩ := u_known (C := zR_Sq) (T := zT_Sq) (N := 5) (n := 5) hta zi_4 (hta _ zW_47)
  obtain ⟨c5, i5, k5⟩ := u_known (C := zR_Sl) (T := zT_Sl) (N := 4) (n := 4) hta zi_5 (hta _ zW_152)
  obtain ⟨c6, i6, k6⟩ := u_known (C := zR_Tr) (T := zT_Tr) (N := 9) (n := 9) hta zi_6 (hta _ zW_115)
  obtain ⟨c7, i7, k7⟩ := u_known (C := zR_SB) (T := zT_SB) (N := 8) (n := 8) hta zi_7 (hta _ zW_14)
  obtain ⟨c8, i8, k8⟩ := u_known (C := zR_Md) (T := zT_Md) (N := 35) (n := 35) hta zi_8 (hta _ zW_451)
  obtain ⟨a100, q100, r100⟩ := zs_arr (hta _ zW_31) (fun _ h => by cases h)
  obtain ⟨a101, q101, r101⟩ := zs_arr (hta _ zW_30) (fun _ h => by cases h)
  obtain ⟨a116, q116, r116⟩ := zs_arq (hts (.arrayOver (.object "SequencedBatches$Transaction")) (by decide +kernel))
  obtain ⟨a110, q110, r110⟩ := zs_arq (hts (.arrayOver (.object "SequencedBatches$LogNode")) (by decide +kernel))
  obtain ⟨a114, q114, r114⟩ := zs_arq (hts (.arrayOver (.object "SequencedBatches$Sequencer")) (by decide +kernel))
  obtain ⟨a113, q113, r113⟩ := zs_arq (hts (.arrayOver (.object "SequencedBatches$Replica")) (by decide +kernel))
  obtain ⟨a115, q115, r115⟩ := zs_arq (hts (.arrayOver (.object "SequencedBatches$Slot")) (by decide +kernel))
  obtain ⟨a111, q111, r111⟩ := zs_arq (hts (.arrayOver (.object "SequencedBatches$Partition")) (by decide +kernel))
  let D : va_G := (fun c => match c with | 0 => c0 | 1 => c1 | 2 => c2 | 3 => c3 | 4 => c4 | 5 => c5 | 6 => c6 | 7 => c7 | _ => c8, fun c => match c with | 0 => i0 | 1 => i1 | 2 => i2 | 3 => i3 | 4 => i4 | 5 => i5 | 6 => i6 | 7 => i7 | _ => i8)
  let A : Nat → ClassId := fun k => match k with | 100 => a100 | 101 => a101 | 116 => a116 | 110 => a110 | 114 => a114 | 113 => a113 | 115 => a115 | _ => a111
  let G : zs_G := (D, A, s.heap.size, b, L, xs)
  have hK : va_K D vwCl (zs_tys A) s := by
    refine ⟨fun c q hq => ?_, fun k q hk => ?_⟩
    · match c, hq with
      | 0, hq => cases hq; exact k0
      | 1, hq => cases hq; exact k1
      | 2, hq => cases hq; exact k2
      | 3, hq => cases hq; exact k3
      | 4, hq => cases hq; exact k4
      | 5, hq => cases hq; exact k5
      | 6, hq => cases hq; exact k6
      | 7, hq => cases hq; exact k7
      | 8, hq => cases hq; exact k8
      | c + 9, hq => simp at hq
    · match k, hk with
      | 0, hk => cases hk; exact ⟨q100, r100⟩
      | 1, hk => cases hk; exact ⟨q101, r101⟩
      | 2, hk => cases hk; exact ⟨q116, r116⟩
      | 3, hk => cases hk; exact ⟨q110, r110⟩
      | 4, hk => cases hk; exact ⟨q114, r114⟩
      | 5, hk => cases hk; exact ⟨q113, r113⟩
      | 6, hk => cases hk; exact ⟨q115, r115⟩
      | 7, hk => cases hk; exact ⟨q111, r111⟩
      | k + 8, hk => simp [zs_tys] at hk
  have hU : zs_U G s := by
    refine ⟨hK, hbl, hX, fun q hq => ?_, fun q hq => ?_, fun C hC => ?_⟩
    · have : Cond.fieldLinkNest q.1 q.2.1 q.2.2.1 q.2.2.2.1 q.2.2.2.2.1 q.2.2.2.2.2 ∈ lw_tbl := by
        revert q
        decide +kernel
      exact va_Nw.of rfl (hts _ this)
    · have : Cond.methodLinkNest q.1 q.2.1 q.2.2.1 q.2.2.2 ∈ lw_tbl := by
        revert q
        decide +kernel
      exact va_Nw.of rfl (hts _ this)
    · have : Cond.arrayOver (.object C) ∈ lw_tbl := by
        revert C
        decide +kernel
      exact va_AO.of (hts _ this)
  have B : zs_Bl p s m b meth c G := ⟨⟨⟨hx, hb, hml, hown, hta⟩, hU, Nat.le_refl _⟩, hr, hlk, rfl⟩
  rw [lg_entry_eq]
  have hent := lv_entry ([Value.ref b]) (n := 4) (Nat.le_of_ble_eq_true rfl)
  have hh : zs_has G ((lg_sl [Value.ref b] ++ List.replicate (4 - (lg_sl [Value.ref b]).length) Slot.unset).toArray) 4 [some (.float 0), none, none, none] := by
    refine ⟨hent.1, hent.2.1, rfl, fun i v hi => ?_⟩
    match i, hi with
    | 0, hi => cases hi; exact ⟨rfl, hent.2.2 (0, .ref b) List.mem_cons_self⟩
    | 1, hi => cases hi
    | 2, hi => cases hi
    | 3, hi => cases hi
    | i + 4, hi => simp at hi
  have hH : zs_H G zs_0 s.heap := ⟨rfl, fun _ _ => rfl, fun k q hq => by simp [zs_wl, zs_n, zs_0] at hq⟩
  exact zr_Lw_law_0 B [some (.float 0), none, none, none] [] zs_0 _ _ [] 0 0 (hp G hL) hh hH va_S.rf
