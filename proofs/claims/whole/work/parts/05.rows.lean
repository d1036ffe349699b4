/-! The judgement zs_At, and a row for each instruction. -/
def zs_has (G : zs_G) (ls : Array Slot) (nL : Nat) (L : List (Option Value)) : Prop := ls.size = nL ∧ lv_wf ls ∧ L.length = nL ∧ ∀ (i : Nat) (v : Value), L[i]? = some (some v) → v.category = 1 ∧ ls[i]? = some (.val (zs_tr G v))
def zs_At (p : Program) (l : Launch) (e : Env) (R : Room) (s : State) (m : MethodId) (args : Array Value) (below : List Frame) (meth : Method) (c : Code) (Q : State → Prop) (G : zs_G) (nL : Nat) (pc : Nat) (P : zs_P) : Prop :=
  ∀ (L : List (Option Value)) (st : List Value) (σ : zs_S) (ls : Array Slot) (H : Heap) (locs : List Loc) (cs ss : Nat), P L st σ cs ss → zs_has G ls nL L → zs_H G σ H → va_S (fun q => zg_z G ≤ q) s.heap H locs → W p l e R s m args below meth c H locs cs ss Q (F0 m pc ls (st.map (zs_tr G)))
/-- what holds of the tables and the script in a state -/
def zs_U (G : zs_G) (U : State) : Prop := va_K (zg_D G) vwCl (zs_tys (zg_A G)) U ∧ zg_b G < zg_z G ∧ va_X (zg_b G) (zg_L G) (zg_x G) U U.heap ∧ (∀ q ∈ zs_nf, va_Nw (.fieldLinkNest q.1 q.2.1 q.2.2.1 q.2.2.2.1 q.2.2.2.2.1 q.2.2.2.2.2) U) ∧ (∀ q ∈ zs_nm, va_Nw (.methodLinkNest q.1 q.2.1 q.2.2.1 q.2.2.2) U) ∧ ∀ C ∈ zs_ao, va_AO C U
theorem zs_U.warm {G : zs_G} {s U : State} (h : zs_U G s) (hW : s.WarmedH U.vm) (hb : U.heap[zg_b G]? = s.heap[zg_b G]?) : zs_U G U := by
  obtain ⟨h1, h2, ⟨scr, x1, x2, x3, x4, x5⟩, h4, h5, h6⟩ := h
  exact ⟨va_K.moved hW.alike h1, h2, ⟨scr, by rw [hb]; exact x1, State.isArrayOf_alike hW.alike x2, x3, x4, x5⟩, fun q hq => (h4 q hq).warmF hW, fun q hq => (h5 q hq).warmM hW, fun C hC => (h6 C hC).moved hW.alike⟩
theorem zs_U.calling {G : zs_G} {U : State} (h : zs_U G U) (g : JFrame) (mk : MethodId) (a : Array Value) : zs_U G (U.calling g mk a) := by
  obtain ⟨h1, h2, ⟨scr, x1, x2, x3, x4, x5⟩, h4, h5, h6⟩ := h
  exact ⟨va_K.moved (u := U) (U := U.calling g mk a) (Vm.Alike.refl U.vm) h1, h2, ⟨scr, x1, State.isArrayOf_alike (Vm.Alike.refl U.vm) x2, x3, x4, x5⟩, fun q hq => va_Nw.same rfl rfl (h4 q hq), fun q hq => va_Nw.same rfl rfl (h5 q hq), fun C hC => va_AO.moved (u := U) (U := U.calling g mk a) (Vm.Alike.refl U.vm) (h6 C hC)⟩
def zs_C (p : Program) (s : State) (m : MethodId) (args : Array Value) (c : Code) (G : zs_G) (cc : ByteArray) (nL : Nat) (own : String) (Ts : List Cond) : Prop :=
  CallFix p m c cc nL s args Ts own ∧ zs_U G s ∧ zg_z G ≤ s.heap.size
theorem zs_has.store {G : zs_G} {nL : Nat} {ls : Array Slot} {L : List (Option Value)} (h : zs_has G ls nL L) {i : Nat} (v : Value) (hi : i < nL) (hc : v.category = 1) : ∃ l0 : List (Nat × Value), lv_has ls nL l0 ∧ ∀ ls' : Array Slot, lv_has ls' nL ((i, zs_tr G v) :: l0.filter (fun q => !(q.1 == i) && !(q.1 + 1 == i && q.2.category == 2))) → zs_has G ls' nL (L.set i (some v)) := by
  obtain ⟨h1, h2, h3, h4⟩ := h
  refine ⟨(List.range nL).filterMap (fun j => (L[j]?.join).map (fun w => (j, zs_tr G w))), ⟨h1, h2, fun q hq => ?_⟩, fun ls' h' => ⟨h'.1, h'.2.1, by rw [List.length_set]; exact h3, fun j w hj => ?_⟩⟩
  · obtain ⟨j, -, hj⟩ := List.mem_filterMap.mp hq
    cases hx : L[j]? with
    | none => simp [hx] at hj
    | some o =>
      cases o with
      | none => simp [hx] at hj
      | some w =>
        simp [hx] at hj
        subst hj
        exact (h4 j w hx).2
  · rw [List.getElem?_set] at hj
    by_cases e : i = j
    · subst e
      simp [h3, hi] at hj
      subst hj
      exact ⟨hc, h'.2.2 (i, zs_tr G v) List.mem_cons_self⟩
    · rw [if_neg e] at hj
      refine ⟨(h4 j w hj).1, h'.2.2 (j, zs_tr G w) (List.mem_cons_of_mem _ (List.mem_filter.mpr ⟨List.mem_filterMap.mpr ⟨j, List.mem_range.mpr ?_, by simp [hj]⟩, ?_⟩))⟩
      · rw [← h3]; exact (List.getElem?_eq_some_iff.mp hj).1
      · simp [Ne.symm e, zs_tr_cat, (h4 j w hj).1]
section ZA
variable {p : Program} {l : Launch} {e : Env} {R : Room} {s : State} {m : MethodId} {args : Array Value} {below : List Frame} {meth : Method} {c : Code} {Q : State → Prop} {G : zs_G} {cc : ByteArray} {nL pc : Nat} {own : String} {Ts : List Cond} {K K1 K2 : zs_P}
theorem za_ild (C : zs_C p s m args c G cc nL own Ts) {i : Nat} (hd : decode cc pc = .ok (.iload i, 2)) (h : zs_At p l e R s m args below meth c Q G nL (pc + 2) K) : zs_At p l e R s m args below meth c Q G nL pc (zt_ild i K) := by
  intro L st σ ls H locs cs ss hP hl hH hS
  unfold zt_ild at hP
  split at hP
  · next x hx => exact lv_iload C.1.1 C.1.2.1 hd (hl.2.2.2 _ _ hx).2 (h _ _ _ _ _ _ _ _ hP hl hH hS)
  · exact hP.elim
theorem za_ild_n (C : zs_C p s m args c G cc nL own Ts) {k : Fin 4} (i : Nat) (hd : decode cc pc = .ok (.iload_n k, 1)) (hi : (k : Nat) = i) (h : zs_At p l e R s m args below meth c Q G nL (pc + 1) K) : zs_At p l e R s m args below meth c Q G nL pc (zt_ild i K) := by
  intro L st σ ls H locs cs ss hP hl hH hS
  unfold zt_ild at hP
  split at hP
  · next x hx => exact lv_iload_n C.1.1 C.1.2.1 hd hi (hl.2.2.2 _ _ hx).2 (h _ _ _ _ _ _ _ _ hP hl hH hS)
  · exact hP.elim
theorem za_ald (C : zs_C p s m args c G cc nL own Ts) {i : Nat} (hd : decode cc pc = .ok (.aload i, 2)) (h : zs_At p l e R s m args below meth c Q G nL (pc + 2) K) : zs_At p l e R s m args below meth c Q G nL pc (zt_ald i K) := by
  intro L st σ ls H locs cs ss hP hl hH hS
  unfold zt_ald at hP
  split at hP
  · next x hx => exact lv_aload C.1.1 C.1.2.1 hd (hl.2.2.2 _ _ hx).2 (h _ _ _ _ _ _ _ _ hP hl hH hS)
  · next hx => exact lv_aloadN C.1.1 C.1.2.1 hd (hl.2.2.2 _ _ hx).2 (h _ _ _ _ _ _ _ _ hP hl hH hS)
  · next x hx => exact lv_aload C.1.1 C.1.2.1 hd (hl.2.2.2 _ _ hx).2 (h _ _ _ _ _ _ _ _ hP hl hH hS)
  · exact hP.elim
theorem za_ald_n (C : zs_C p s m args c G cc nL own Ts) {k : Fin 4} (i : Nat) (hd : decode cc pc = .ok (.aload_n k, 1)) (hi : (k : Nat) = i) (h : zs_At p l e R s m args below meth c Q G nL (pc + 1) K) : zs_At p l e R s m args below meth c Q G nL pc (zt_ald i K) := by
  intro L st σ ls H locs cs ss hP hl hH hS
  unfold zt_ald at hP
  split at hP
  · next x hx => exact lv_aload_n C.1.1 C.1.2.1 hd hi (hl.2.2.2 _ _ hx).2 (h _ _ _ _ _ _ _ _ hP hl hH hS)
  · next hx => exact lv_aload_nN C.1.1 C.1.2.1 hd hi (hl.2.2.2 _ _ hx).2 (h _ _ _ _ _ _ _ _ hP hl hH hS)
  · next x hx => exact lv_aload_n C.1.1 C.1.2.1 hd hi (hl.2.2.2 _ _ hx).2 (h _ _ _ _ _ _ _ _ hP hl hH hS)
  · exact hP.elim
theorem za_ist (C : zs_C p s m args c G cc nL own Ts) {i : Nat} (hd : decode cc pc = .ok (.istore i, 2)) (hn : i < nL) (h : zs_At p l e R s m args below meth c Q G nL (pc + 2) K) : zs_At p l e R s m args below meth c Q G nL pc (zt_ist i K) := by
  intro L st σ ls H locs cs ss hP hl hH hS
  unfold zt_ist at hP
  split at hP
  · next x r =>
    obtain ⟨l0, h0, hk⟩ := hl.store (.int x) hn rfl
    exact lv_istore C.1.1 C.1.2.1 hd h0 hn rfl (fun ls' h' => h _ _ _ _ _ _ _ _ hP (hk ls' h') hH hS)
  · exact hP.elim
theorem za_ist_n (C : zs_C p s m args c G cc nL own Ts) {k : Fin 4} (i : Nat) (hd : decode cc pc = .ok (.istore_n k, 1)) (hi : (k : Nat) = i) (hn : i < nL) (h : zs_At p l e R s m args below meth c Q G nL (pc + 1) K) : zs_At p l e R s m args below meth c Q G nL pc (zt_ist i K) := by
  intro L st σ ls H locs cs ss hP hl hH hS
  unfold zt_ist at hP
  split at hP
  · next x r =>
    obtain ⟨l0, h0, hk⟩ := hl.store (.int x) hn rfl
    exact lv_istore_n C.1.1 C.1.2.1 hd hi h0 hn rfl (fun ls' h' => h _ _ _ _ _ _ _ _ hP (hk ls' h') hH hS)
  · exact hP.elim
theorem za_ast (C : zs_C p s m args c G cc nL own Ts) {i : Nat} (hd : decode cc pc = .ok (.astore i, 2)) (hn : i < nL) (h : zs_At p l e R s m args below meth c Q G nL (pc + 2) K) : zs_At p l e R s m args below meth c Q G nL pc (zt_ast i K) := by
  intro L st σ ls H locs cs ss hP hl hH hS
  unfold zt_ast at hP
  split at hP
  · next x r =>
    obtain ⟨l0, h0, hk⟩ := hl.store (.ref x) hn rfl
    exact lv_astore C.1.1 C.1.2.1 hd h0 hn rfl (fun ls' h' => h _ _ _ _ _ _ _ _ hP (hk ls' h') hH hS)
  · next r =>
    obtain ⟨l0, h0, hk⟩ := hl.store .null hn rfl
    exact lv_astoreN C.1.1 C.1.2.1 hd h0 hn rfl (fun ls' h' => h _ _ _ _ _ _ _ _ hP (hk ls' h') hH hS)
  · exact hP.elim
theorem za_ast_n (C : zs_C p s m args c G cc nL own Ts) {k : Fin 4} (i : Nat) (hd : decode cc pc = .ok (.astore_n k, 1)) (hi : (k : Nat) = i) (hn : i < nL) (h : zs_At p l e R s m args below meth c Q G nL (pc + 1) K) : zs_At p l e R s m args below meth c Q G nL pc (zt_ast i K) := by
  intro L st σ ls H locs cs ss hP hl hH hS
  unfold zt_ast at hP
  split at hP
  · next x r =>
    obtain ⟨l0, h0, hk⟩ := hl.store (.ref x) hn rfl
    exact lv_astore_n C.1.1 C.1.2.1 hd hi h0 hn rfl (fun ls' h' => h _ _ _ _ _ _ _ _ hP (hk ls' h') hH hS)
  · next r =>
    obtain ⟨l0, h0, hk⟩ := hl.store .null hn rfl
    exact lv_astore_nN C.1.1 C.1.2.1 hd hi h0 hn rfl (fun ls' h' => h _ _ _ _ _ _ _ _ hP (hk ls' h') hH hS)
  · exact hP.elim
theorem za_inc (C : zs_C p s m args c G cc nL own Ts) {i : Nat} {n : Int} (v : Int32) (hd : decode cc pc = .ok (.iinc i n, 3)) (hv : Int32.ofInt n = v) (hn : i < nL) (h : zs_At p l e R s m args below meth c Q G nL (pc + 3) K) : zs_At p l e R s m args below meth c Q G nL pc (zt_inc i v K) := by
  intro L st σ ls H locs cs ss hP hl hH hS
  unfold zt_inc at hP
  split at hP
  · next x hx =>
    subst hv
    obtain ⟨l0, h0, hk⟩ := hl.store (.int (x + Int32.ofInt n)) hn rfl
    have h1 : lv_has ls nL ((i, .int x) :: l0) := ⟨h0.1, h0.2.1, fun q hq => by
      rcases List.mem_cons.mp hq with rfl | hq
      · exact (hl.2.2.2 _ _ hx).2
      · exact h0.2.2 q hq⟩
    exact lv_iinc (k := 0) C.1.1 C.1.2.1 hd h1 rfl rfl hn (by simp [List.filter]; rfl) (fun ls' h' => h _ _ _ _ _ _ _ _ hP (hk ls' h') hH hS)
  · exact hP.elim
theorem za_ico (C : zs_C p s m args c G cc nL own Ts) {n : Int} (x : Int32) (hd : decode cc pc = .ok (.iconst n, 1)) (hv : Int32.ofInt n = x) (h : zs_At p l e R s m args below meth c Q G nL (pc + 1) K) : zs_At p l e R s m args below meth c Q G nL pc (zt_psh x K) := by
  intro L st σ ls H locs cs ss hP hl hH hS
  exact lv_iconst C.1.1 C.1.2.1 hd hv (h _ _ _ _ _ _ _ _ hP hl hH hS)
theorem za_bip (C : zs_C p s m args c G cc nL own Ts) {n : Int} (x : Int32) (hd : decode cc pc = .ok (.bipush n, 2)) (hv : (Int8.ofInt n).toInt32 = x) (h : zs_At p l e R s m args below meth c Q G nL (pc + 2) K) : zs_At p l e R s m args below meth c Q G nL pc (zt_psh x K) := by
  intro L st σ ls H locs cs ss hP hl hH hS
  exact lv_bipush C.1.1 C.1.2.1 hd hv (h _ _ _ _ _ _ _ _ hP hl hH hS)
theorem za_sip (C : zs_C p s m args c G cc nL own Ts) {n : Int} (x : Int32) (hd : decode cc pc = .ok (.sipush n, 3)) (hv : (Int16.ofInt n).toInt32 = x) (h : zs_At p l e R s m args below meth c Q G nL (pc + 3) K) : zs_At p l e R s m args below meth c Q G nL pc (zt_psh x K) := by
  intro L st σ ls H locs cs ss hP hl hH hS
  exact lv_sipush C.1.1 C.1.2.1 hd hv (h _ _ _ _ _ _ _ _ hP hl hH hS)
theorem za_ldc (C : zs_C p s m args c G cc nL own Ts) {n : Nat} (x : Int32) (hd : decode cc pc = .ok (.ldc n, 2)) (hw : Cond.constant own n x ∈ Ts) (h : zs_At p l e R s m args below meth c Q G nL (pc + 2) K) : zs_At p l e R s m args below meth c Q G nL pc (zt_psh x K) := by
  intro L st σ ls H locs cs ss hP hl hH hS
  exact lv_ldc C.1.1 C.1.2.1 C.1.2.2.2.1 (C.1.2.2.2.2 _ hw) hd (h _ _ _ _ _ _ _ _ hP hl hH hS)
theorem za_nul (C : zs_C p s m args c G cc nL own Ts) (hd : decode cc pc = .ok (.aconst_null, 1)) (h : zs_At p l e R s m args below meth c Q G nL (pc + 1) K) : zs_At p l e R s m args below meth c Q G nL pc (zt_nul K) := by
  intro L st σ ls H locs cs ss hP hl hH hS
  exact lv_null C.1.1 C.1.2.1 hd (h _ _ _ _ _ _ _ _ hP hl hH hS)
theorem za_add (C : zs_C p s m args c G cc nL own Ts) (hd : decode cc pc = .ok (.iadd, 1)) (h : zs_At p l e R s m args below meth c Q G nL (pc + 1) K) : zs_At p l e R s m args below meth c Q G nL pc (zt_bin (fun x y => x + y) K) := by
  intro L st σ ls H locs cs ss hP hl hH hS
  unfold zt_bin at hP
  split at hP
  · exact lv_iadd C.1.1 C.1.2.1 hd (h _ _ _ _ _ _ _ _ hP hl hH hS)
  · exact hP.elim
theorem za_sub (C : zs_C p s m args c G cc nL own Ts) (hd : decode cc pc = .ok (.isub, 1)) (h : zs_At p l e R s m args below meth c Q G nL (pc + 1) K) : zs_At p l e R s m args below meth c Q G nL pc (zt_bin (fun x y => x - y) K) := by
  intro L st σ ls H locs cs ss hP hl hH hS
  unfold zt_bin at hP
  split at hP
  · exact lv_isub C.1.1 C.1.2.1 hd (h _ _ _ _ _ _ _ _ hP hl hH hS)
  · exact hP.elim
theorem za_mul (C : zs_C p s m args c G cc nL own Ts) (hd : decode cc pc = .ok (.imul, 1)) (h : zs_At p l e R s m args below meth c Q G nL (pc + 1) K) : zs_At p l e R s m args below meth c Q G nL pc (zt_bin (fun x y => x * y) K) := by
  intro L st σ ls H locs cs ss hP hl hH hS
  unfold zt_bin at hP
  split at hP
  · exact lv_imul C.1.1 C.1.2.1 hd (h _ _ _ _ _ _ _ _ hP hl hH hS)
  · exact hP.elim
theorem za_and (C : zs_C p s m args c G cc nL own Ts) (hd : decode cc pc = .ok (.iand, 1)) (h : zs_At p l e R s m args below meth c Q G nL (pc + 1) K) : zs_At p l e R s m args below meth c Q G nL pc (zt_bin (fun x y => x &&& y) K) := by
  intro L st σ ls H locs cs ss hP hl hH hS
  unfold zt_bin at hP
  split at hP
  · exact lv_iand C.1.1 C.1.2.1 hd (h _ _ _ _ _ _ _ _ hP hl hH hS)
  · exact hP.elim
theorem za_ior (C : zs_C p s m args c G cc nL own Ts) (hd : decode cc pc = .ok (.ior, 1)) (h : zs_At p l e R s m args below meth c Q G nL (pc + 1) K) : zs_At p l e R s m args below meth c Q G nL pc (zt_bin (fun x y => x ||| y) K) := by
  intro L st σ ls H locs cs ss hP hl hH hS
  unfold zt_bin at hP
  split at hP
  · exact lv_ior C.1.1 C.1.2.1 hd (h _ _ _ _ _ _ _ _ hP hl hH hS)
  · exact hP.elim
theorem za_xor (C : zs_C p s m args c G cc nL own Ts) (hd : decode cc pc = .ok (.ixor, 1)) (h : zs_At p l e R s m args below meth c Q G nL (pc + 1) K) : zs_At p l e R s m args below meth c Q G nL pc (zt_bin (fun x y => x ^^^ y) K) := by
  intro L st σ ls H locs cs ss hP hl hH hS
  unfold zt_bin at hP
  split at hP
  · exact lv_ixor C.1.1 C.1.2.1 hd (h _ _ _ _ _ _ _ _ hP hl hH hS)
  · exact hP.elim
theorem za_shl (C : zs_C p s m args c G cc nL own Ts) (hd : decode cc pc = .ok (.ishl, 1)) (h : zs_At p l e R s m args below meth c Q G nL (pc + 1) K) : zs_At p l e R s m args below meth c Q G nL pc (zt_bin (fun x y => x <<< (y &&& 31)) K) := by
  intro L st σ ls H locs cs ss hP hl hH hS
  unfold zt_bin at hP
  split at hP
  · exact lv_ishl C.1.1 C.1.2.1 hd (h _ _ _ _ _ _ _ _ hP hl hH hS)
  · exact hP.elim
theorem za_shr (C : zs_C p s m args c G cc nL own Ts) (hd : decode cc pc = .ok (.ishr, 1)) (h : zs_At p l e R s m args below meth c Q G nL (pc + 1) K) : zs_At p l e R s m args below meth c Q G nL pc (zt_bin (fun x y => x >>> (y &&& 31)) K) := by
  intro L st σ ls H locs cs ss hP hl hH hS
  unfold zt_bin at hP
  split at hP
  · exact lv_ishr C.1.1 C.1.2.1 hd (h _ _ _ _ _ _ _ _ hP hl hH hS)
  · exact hP.elim
theorem za_dvd (C : zs_C p s m args c G cc nL own Ts) (hd : decode cc pc = .ok (.idiv, 1)) (h : zs_At p l e R s m args below meth c Q G nL (pc + 1) K) : zs_At p l e R s m args below meth c Q G nL pc (zt_div (fun x y => x / y) K) := by
  intro L st σ ls H locs cs ss hP hl hH hS
  unfold zt_div at hP
  split at hP
  · exact lv_idiv C.1.1 C.1.2.1 hd hP.1 (h _ _ _ _ _ _ _ _ hP.2 hl hH hS)
  · exact hP.elim
theorem za_rem (C : zs_C p s m args c G cc nL own Ts) (hd : decode cc pc = .ok (.irem, 1)) (h : zs_At p l e R s m args below meth c Q G nL (pc + 1) K) : zs_At p l e R s m args below meth c Q G nL pc (zt_div (fun x y => x - x / y * y) K) := by
  intro L st σ ls H locs cs ss hP hl hH hS
  unfold zt_div at hP
  split at hP
  · exact lv_irem C.1.1 C.1.2.1 hd hP.1 (h _ _ _ _ _ _ _ _ hP.2 hl hH hS)
  · exact hP.elim
theorem za_cmp_lt (C : zs_C p s m args c G cc nL own Ts) {off : Int} (tgt : Nat) (hd : decode cc pc = .ok (.if_icmp .lt off, 3)) (ht : (pc : Int) + off = (tgt : Int)) (h1 : zs_At p l e R s m args below meth c Q G nL tgt K1) (h2 : zs_At p l e R s m args below meth c Q G nL (pc + 3) K2) : zs_At p l e R s m args below meth c Q G nL pc (zt_cmp (fun x y => x < y) K1 K2) := by
  intro L st σ ls H locs cs ss hP hl hH hS
  unfold zt_cmp at hP
  split at hP
  · exact lv_icmp_lt C.1.1 C.1.2.1 hd ht (fun q => h1 _ _ _ _ _ _ _ _ (hP.1 q) hl hH hS) (fun q => h2 _ _ _ _ _ _ _ _ (hP.2 q) hl hH hS)
  · exact hP.elim
theorem za_cmp_ge (C : zs_C p s m args c G cc nL own Ts) {off : Int} (tgt : Nat) (hd : decode cc pc = .ok (.if_icmp .ge off, 3)) (ht : (pc : Int) + off = (tgt : Int)) (h1 : zs_At p l e R s m args below meth c Q G nL tgt K1) (h2 : zs_At p l e R s m args below meth c Q G nL (pc + 3) K2) : zs_At p l e R s m args below meth c Q G nL pc (zt_cmp (fun x y => y ≤ x) K1 K2) := by
  intro L st σ ls H locs cs ss hP hl hH hS
  unfold zt_cmp at hP
  split at hP
  · exact lv_icmp_ge C.1.1 C.1.2.1 hd ht (fun q => h1 _ _ _ _ _ _ _ _ (hP.1 q) hl hH hS) (fun q => h2 _ _ _ _ _ _ _ _ (hP.2 q) hl hH hS)
  · exact hP.elim
theorem za_cmp_gt (C : zs_C p s m args c G cc nL own Ts) {off : Int} (tgt : Nat) (hd : decode cc pc = .ok (.if_icmp .gt off, 3)) (ht : (pc : Int) + off = (tgt : Int)) (h1 : zs_At p l e R s m args below meth c Q G nL tgt K1) (h2 : zs_At p l e R s m args below meth c Q G nL (pc + 3) K2) : zs_At p l e R s m args below meth c Q G nL pc (zt_cmp (fun x y => y < x) K1 K2) := by
  intro L st σ ls H locs cs ss hP hl hH hS
  unfold zt_cmp at hP
  split at hP
  · exact lv_icmp_gt C.1.1 C.1.2.1 hd ht (fun q => h1 _ _ _ _ _ _ _ _ (hP.1 q) hl hH hS) (fun q => h2 _ _ _ _ _ _ _ _ (hP.2 q) hl hH hS)
  · exact hP.elim
theorem za_cmp_le (C : zs_C p s m args c G cc nL own Ts) {off : Int} (tgt : Nat) (hd : decode cc pc = .ok (.if_icmp .le off, 3)) (ht : (pc : Int) + off = (tgt : Int)) (h1 : zs_At p l e R s m args below meth c Q G nL tgt K1) (h2 : zs_At p l e R s m args below meth c Q G nL (pc + 3) K2) : zs_At p l e R s m args below meth c Q G nL pc (zt_cmp (fun x y => x ≤ y) K1 K2) := by
  intro L st σ ls H locs cs ss hP hl hH hS
  unfold zt_cmp at hP
  split at hP
  · exact lv_icmp_le C.1.1 C.1.2.1 hd ht (fun q => h1 _ _ _ _ _ _ _ _ (hP.1 q) hl hH hS) (fun q => h2 _ _ _ _ _ _ _ _ (hP.2 q) hl hH hS)
  · exact hP.elim
theorem za_cmp_eq (C : zs_C p s m args c G cc nL own Ts) {off : Int} (tgt : Nat) (hd : decode cc pc = .ok (.if_icmp .eq off, 3)) (ht : (pc : Int) + off = (tgt : Int)) (h1 : zs_At p l e R s m args below meth c Q G nL tgt K1) (h2 : zs_At p l e R s m args below meth c Q G nL (pc + 3) K2) : zs_At p l e R s m args below meth c Q G nL pc (zt_cmp (fun x y => x = y) K1 K2) := by
  intro L st σ ls H locs cs ss hP hl hH hS
  unfold zt_cmp at hP
  split at hP
  · exact lv_icmp_eq C.1.1 C.1.2.1 hd ht (fun q => h1 _ _ _ _ _ _ _ _ (hP.1 q) hl hH hS) (fun q => h2 _ _ _ _ _ _ _ _ (hP.2 q) hl hH hS)
  · exact hP.elim
theorem za_if_lt (C : zs_C p s m args c G cc nL own Ts) {off : Int} (tgt : Nat) (hd : decode cc pc = .ok (.ifCond .lt off, 3)) (ht : (pc : Int) + off = (tgt : Int)) (h1 : zs_At p l e R s m args below meth c Q G nL tgt K1) (h2 : zs_At p l e R s m args below meth c Q G nL (pc + 3) K2) : zs_At p l e R s m args below meth c Q G nL pc (zt_if (fun x => x < 0) K1 K2) := by
  intro L st σ ls H locs cs ss hP hl hH hS
  unfold zt_if at hP
  split at hP
  · exact lv_if_lt C.1.1 C.1.2.1 hd ht (fun q => h1 _ _ _ _ _ _ _ _ (hP.1 q) hl hH hS) (fun q => h2 _ _ _ _ _ _ _ _ (hP.2 q) hl hH hS)
  · exact hP.elim
theorem za_if_ge (C : zs_C p s m args c G cc nL own Ts) {off : Int} (tgt : Nat) (hd : decode cc pc = .ok (.ifCond .ge off, 3)) (ht : (pc : Int) + off = (tgt : Int)) (h1 : zs_At p l e R s m args below meth c Q G nL tgt K1) (h2 : zs_At p l e R s m args below meth c Q G nL (pc + 3) K2) : zs_At p l e R s m args below meth c Q G nL pc (zt_if (fun x => 0 ≤ x) K1 K2) := by
  intro L st σ ls H locs cs ss hP hl hH hS
  unfold zt_if at hP
  split at hP
  · exact lv_if_ge C.1.1 C.1.2.1 hd ht (fun q => h1 _ _ _ _ _ _ _ _ (hP.1 q) hl hH hS) (fun q => h2 _ _ _ _ _ _ _ _ (hP.2 q) hl hH hS)
  · exact hP.elim
theorem za_if_gt (C : zs_C p s m args c G cc nL own Ts) {off : Int} (tgt : Nat) (hd : decode cc pc = .ok (.ifCond .gt off, 3)) (ht : (pc : Int) + off = (tgt : Int)) (h1 : zs_At p l e R s m args below meth c Q G nL tgt K1) (h2 : zs_At p l e R s m args below meth c Q G nL (pc + 3) K2) : zs_At p l e R s m args below meth c Q G nL pc (zt_if (fun x => 0 < x) K1 K2) := by
  intro L st σ ls H locs cs ss hP hl hH hS
  unfold zt_if at hP
  split at hP
  · exact lv_if_gt C.1.1 C.1.2.1 hd ht (fun q => h1 _ _ _ _ _ _ _ _ (hP.1 q) hl hH hS) (fun q => h2 _ _ _ _ _ _ _ _ (hP.2 q) hl hH hS)
  · exact hP.elim
theorem za_if_le (C : zs_C p s m args c G cc nL own Ts) {off : Int} (tgt : Nat) (hd : decode cc pc = .ok (.ifCond .le off, 3)) (ht : (pc : Int) + off = (tgt : Int)) (h1 : zs_At p l e R s m args below meth c Q G nL tgt K1) (h2 : zs_At p l e R s m args below meth c Q G nL (pc + 3) K2) : zs_At p l e R s m args below meth c Q G nL pc (zt_if (fun x => x ≤ 0) K1 K2) := by
  intro L st σ ls H locs cs ss hP hl hH hS
  unfold zt_if at hP
  split at hP
  · exact lv_if_le C.1.1 C.1.2.1 hd ht (fun q => h1 _ _ _ _ _ _ _ _ (hP.1 q) hl hH hS) (fun q => h2 _ _ _ _ _ _ _ _ (hP.2 q) hl hH hS)
  · exact hP.elim
theorem za_if_eq (C : zs_C p s m args c G cc nL own Ts) {off : Int} (tgt : Nat) (hd : decode cc pc = .ok (.ifCond .eq off, 3)) (ht : (pc : Int) + off = (tgt : Int)) (h1 : zs_At p l e R s m args below meth c Q G nL tgt K1) (h2 : zs_At p l e R s m args below meth c Q G nL (pc + 3) K2) : zs_At p l e R s m args below meth c Q G nL pc (zt_if (fun x => x = 0) K1 K2) := by
  intro L st σ ls H locs cs ss hP hl hH hS
  unfold zt_if at hP
  split at hP
  · exact lv_if_eq C.1.1 C.1.2.1 hd ht (fun q => h1 _ _ _ _ _ _ _ _ (hP.1 q) hl hH hS) (fun q => h2 _ _ _ _ _ _ _ _ (hP.2 q) hl hH hS)
  · exact hP.elim
theorem za_cmp_ne (C : zs_C p s m args c G cc nL own Ts) {off : Int} (tgt : Nat) (hd : decode cc pc = .ok (.if_icmp .ne off, 3)) (ht : (pc : Int) + off = (tgt : Int)) (h1 : zs_At p l e R s m args below meth c Q G nL (pc + 3) K1) (h2 : zs_At p l e R s m args below meth c Q G nL tgt K2) : zs_At p l e R s m args below meth c Q G nL pc (zt_cmp (fun x y => x = y) K1 K2) := by
  intro L st σ ls H locs cs ss hP hl hH hS
  unfold zt_cmp at hP
  split at hP
  · exact lv_icmp_ne C.1.1 C.1.2.1 hd ht (fun q => h2 _ _ _ _ _ _ _ _ (hP.2 q) hl hH hS) (fun q => h1 _ _ _ _ _ _ _ _ (hP.1 q) hl hH hS)
  · exact hP.elim
theorem za_if_ne (C : zs_C p s m args c G cc nL own Ts) {off : Int} (tgt : Nat) (hd : decode cc pc = .ok (.ifCond .ne off, 3)) (ht : (pc : Int) + off = (tgt : Int)) (h1 : zs_At p l e R s m args below meth c Q G nL (pc + 3) K1) (h2 : zs_At p l e R s m args below meth c Q G nL tgt K2) : zs_At p l e R s m args below meth c Q G nL pc (zt_if (fun x => x = 0) K1 K2) := by
  intro L st σ ls H locs cs ss hP hl hH hS
  unfold zt_if at hP
  split at hP
  · exact lv_if_ne C.1.1 C.1.2.1 hd ht (fun q => h2 _ _ _ _ _ _ _ _ (hP.2 q) hl hH hS) (fun q => h1 _ _ _ _ _ _ _ _ (hP.1 q) hl hH hS)
  · exact hP.elim
theorem za_ifnull (C : zs_C p s m args c G cc nL own Ts) {off : Int} (tgt : Nat) (hd : decode cc pc = .ok (.ifnull off, 3)) (ht : (pc : Int) + off = (tgt : Int)) (h1 : zs_At p l e R s m args below meth c Q G nL tgt K1) (h2 : zs_At p l e R s m args below meth c Q G nL (pc + 3) K2) : zs_At p l e R s m args below meth c Q G nL pc (zt_ifn K1 K2) := by
  intro L st σ ls H locs cs ss hP hl hH hS
  unfold zt_ifn at hP
  split at hP
  · exact lv_ifnullN C.1.1 C.1.2.1 hd ht (h1 _ _ _ _ _ _ _ _ hP hl hH hS)
  · exact lv_ifnull C.1.1 C.1.2.1 hd (h2 _ _ _ _ _ _ _ _ hP hl hH hS)
  · exact hP.elim
theorem za_ifnonnull (C : zs_C p s m args c G cc nL own Ts) {off : Int} (tgt : Nat) (hd : decode cc pc = .ok (.ifnonnull off, 3)) (ht : (pc : Int) + off = (tgt : Int)) (h1 : zs_At p l e R s m args below meth c Q G nL (pc + 3) K1) (h2 : zs_At p l e R s m args below meth c Q G nL tgt K2) : zs_At p l e R s m args below meth c Q G nL pc (zt_ifn K1 K2) := by
  intro L st σ ls H locs cs ss hP hl hH hS
  unfold zt_ifn at hP
  split at hP
  · exact lv_ifnonnullN C.1.1 C.1.2.1 hd (h1 _ _ _ _ _ _ _ _ hP hl hH hS)
  · exact lv_ifnonnull C.1.1 C.1.2.1 hd ht (h2 _ _ _ _ _ _ _ _ hP hl hH hS)
  · exact hP.elim
theorem za_goto (C : zs_C p s m args c G cc nL own Ts) {off : Int} (tgt : Nat) (hd : decode cc pc = .ok (.goto off, 3)) (ht : (pc : Int) + off = (tgt : Int)) (h : zs_At p l e R s m args below meth c Q G nL tgt K) : zs_At p l e R s m args below meth c Q G nL pc K := by
  intro L st σ ls H locs cs ss hP hl hH hS
  exact lv_goto C.1.1 C.1.2.1 hd ht (h _ _ _ _ _ _ _ _ hP hl hH hS)
theorem za_dup (C : zs_C p s m args c G cc nL own Ts) (hd : decode cc pc = .ok (.dup, 1)) (h : zs_At p l e R s m args below meth c Q G nL (pc + 1) K) : zs_At p l e R s m args below meth c Q G nL pc (zt_dup K) := by
  intro L st σ ls H locs cs ss hP hl hH hS
  unfold zt_dup at hP
  split at hP
  · exact lv_dup C.1.1 C.1.2.1 hd (by rw [zs_tr_cat]; exact hP.1) (h _ _ _ _ _ _ _ _ hP.2 hl hH hS)
  · exact hP.elim
theorem za_pop (C : zs_C p s m args c G cc nL own Ts) (hd : decode cc pc = .ok (.pop, 1)) (h : zs_At p l e R s m args below meth c Q G nL (pc + 1) K) : zs_At p l e R s m args below meth c Q G nL pc (zt_pop K) := by
  intro L st σ ls H locs cs ss hP hl hH hS
  unfold zt_pop at hP
  split at hP
  · exact lv_pop C.1.1 C.1.2.1 hd (by rw [zs_tr_cat]; exact hP.1) (h _ _ _ _ _ _ _ _ hP.2 hl hH hS)
  · exact hP.elim
theorem za_du2 (C : zs_C p s m args c G cc nL own Ts) (hd : decode cc pc = .ok (.dup2, 1)) (h : zs_At p l e R s m args below meth c Q G nL (pc + 1) K) : zs_At p l e R s m args below meth c Q G nL pc (zt_du2 K) := by
  intro L st σ ls H locs cs ss hP hl hH hS
  unfold zt_du2 at hP
  split at hP
  · exact lv_dup2_11 C.1.1 C.1.2.1 hd (by rw [zs_tr_cat]; exact hP.1) (by rw [zs_tr_cat]; exact hP.2.1) (h _ _ _ _ _ _ _ _ hP.2.2 hl hH hS)
  · exact hP.elim
theorem za_gtI (C : zs_C p s m args c G cc nL own Ts) {ref C0 : String} {T : u_T} {N : Nat} (ci k : Nat) {index : Nat} (hin : ∀ w ∈ u_ws C0 T N, w ∈ Ts) (hc : vwCl[ci]? = some (C0, T, N)) (hci : ci < 99) (hk : k < N) (hft : (zs_ft ci)[k]? = some true) (hlink : Cond.fieldLink own index ref (T k).2.1 (T k).2.2.1 ∈ Ts) (hsame : (T k).1 = ref) (hd : decode cc pc = .ok (.getfield index, 3)) (h : zs_At p l e R s m args below meth c Q G nL (pc + 3) K) : zs_At p l e R s m args below meth c Q G nL pc (zt_gtI ci k K) := by
  intro L st σ ls H locs cs ss hP hl hH hS
  unfold zt_gtI at hP
  split at hP
  · next v r =>
    have hv : v < zs_n σ := hH.lt hP.1 (by omega)
    exact va_get (v := .int (zs_I σ v k)) C.1.1 C.1.2.1 C.1.2.2.2.2 hin C.1.2.2.2.1 C.2.1.1 hH.2.2 v (by rw [zs_wl_get hv, zs_E_ob hP.1 hci]) hc k hk (C.1.2.2.2.2 _ hlink) (fun x q => by rw [← hsame]; exact q) (by rw [zs_fl_get, hft]; simp) hd (h _ _ _ _ _ _ _ _ hP.2 hl hH hS)
  · exact hP.elim
theorem za_gtR (C : zs_C p s m args c G cc nL own Ts) {ref C0 : String} {T : u_T} {N : Nat} (ci k : Nat) {index : Nat} (hin : ∀ w ∈ u_ws C0 T N, w ∈ Ts) (hc : vwCl[ci]? = some (C0, T, N)) (hci : ci < 99) (hk : k < N) (hft : (zs_ft ci)[k]? = some false) (hlink : Cond.fieldLink own index ref (T k).2.1 (T k).2.2.1 ∈ Ts) (hsame : (T k).1 = ref) (hd : decode cc pc = .ok (.getfield index, 3)) (h : zs_At p l e R s m args below meth c Q G nL (pc + 3) K) : zs_At p l e R s m args below meth c Q G nL pc (zt_gtR ci k K) := by
  intro L st σ ls H locs cs ss hP hl hH hS
  unfold zt_gtR at hP
  split at hP
  · next v r =>
    have hv : v < zs_n σ := hH.lt hP.1 (by omega)
    exact va_get (v := zs_tr G (zs_rv (zs_R σ v k))) C.1.1 C.1.2.1 C.1.2.2.2.2 hin C.1.2.2.2.1 C.2.1.1 hH.2.2 v (by rw [zs_wl_get hv, zs_E_ob hP.1 hci]) hc k hk (C.1.2.2.2.2 _ hlink) (fun x q => by rw [← hsame]; exact q) (by rw [zs_fl_get, hft]; simp [zs_tr_rv]) hd (h _ _ _ _ _ _ _ _ hP.2 hl hH hS)
  · exact hP.elim
theorem za_gtIN (C : zs_C p s m args c G cc nL own Ts) {ref C0 : String} {T : u_T} {N : Nat} (ci k : Nat) {index : Nat} (hin : ∀ w ∈ u_ws C0 T N, w ∈ Ts) (hc : vwCl[ci]? = some (C0, T, N)) (hci : ci < 99) (hk : k < N) (hft : (zs_ft ci)[k]? = some true) {host : String} (hlink : (own, index, ref, (T k).2.1, (T k).2.2.1, host) ∈ zs_nf) (hsame : (T k).1 = ref) (hd : decode cc pc = .ok (.getfield index, 3)) (h : zs_At p l e R s m args below meth c Q G nL (pc + 3) K) : zs_At p l e R s m args below meth c Q G nL pc (zt_gtI ci k K) := by
  intro L st σ ls H locs cs ss hP hl hH hS
  unfold zt_gtI at hP
  split at hP
  · next v r =>
    have hv : v < zs_n σ := hH.lt hP.1 (by omega)
    exact va_getN (v := .int (zs_I σ v k)) C.1.1 C.1.2.1 C.1.2.2.2.2 hin C.1.2.2.2.1 C.2.1.1 hH.2.2 v (by rw [zs_wl_get hv, zs_E_ob hP.1 hci]) hc k hk ((C.2.1.2.2.2.1 _ hlink).use rfl) (fun x q => by rw [← hsame]; exact q) (by rw [zs_fl_get, hft]; simp) hd (h _ _ _ _ _ _ _ _ hP.2 hl hH hS)
  · exact hP.elim
theorem za_gtRN (C : zs_C p s m args c G cc nL own Ts) {ref C0 : String} {T : u_T} {N : Nat} (ci k : Nat) {index : Nat} (hin : ∀ w ∈ u_ws C0 T N, w ∈ Ts) (hc : vwCl[ci]? = some (C0, T, N)) (hci : ci < 99) (hk : k < N) (hft : (zs_ft ci)[k]? = some false) {host : String} (hlink : (own, index, ref, (T k).2.1, (T k).2.2.1, host) ∈ zs_nf) (hsame : (T k).1 = ref) (hd : decode cc pc = .ok (.getfield index, 3)) (h : zs_At p l e R s m args below meth c Q G nL (pc + 3) K) : zs_At p l e R s m args below meth c Q G nL pc (zt_gtR ci k K) := by
  intro L st σ ls H locs cs ss hP hl hH hS
  unfold zt_gtR at hP
  split at hP
  · next v r =>
    have hv : v < zs_n σ := hH.lt hP.1 (by omega)
    exact va_getN (v := zs_tr G (zs_rv (zs_R σ v k))) C.1.1 C.1.2.1 C.1.2.2.2.2 hin C.1.2.2.2.1 C.2.1.1 hH.2.2 v (by rw [zs_wl_get hv, zs_E_ob hP.1 hci]) hc k hk ((C.2.1.2.2.2.1 _ hlink).use rfl) (fun x q => by rw [← hsame]; exact q) (by rw [zs_fl_get, hft]; simp [zs_tr_rv]) hd (h _ _ _ _ _ _ _ _ hP.2 hl hH hS)
  · exact hP.elim
theorem zs_put (C : zs_C p s m args c G cc nL own Ts) {ref C0 : String} {T : u_T} {N : Nat} {ci k index v : Nat} {fs rest : List Value} {x : Value} {ty : FieldType} {σ : zs_S} {H : Heap} {locs : List Loc} {cs ss : Nat} {ls : Array Slot} (hin : ∀ w ∈ u_ws C0 T N, w ∈ Ts) (ty0 : Nat → FieldType) (hty : ∀ k, k < N → parseFieldDescriptor (T k).2.2.1 = some (ty0 k)) (hnm : ∀ a, a < N → ∀ b, b < N → a ≠ b → (T a).2.1 ≠ (T b).2.1) (hc : vwCl[ci]? = some (C0, T, N)) (hk : k < N) (hlink : Cond.fieldLink own index ref (T k).2.1 (T k).2.2.1 ∈ Ts) (hsame : (T k).1 = ref) (hfin : (T k).2.2.2 = false) (hd0 : parseFieldDescriptor (T k).2.2.1 = some ty) (hn : narrow ty x = x) (hfit : fits ty x = true) (hlen : k < fs.length) (hd : decode cc pc = .ok (.putfield index, 3)) (hH : zs_H G σ H) (hS0 : va_S (fun q => zg_z G ≤ q) s.heap H locs) (hv : v < zs_n σ) (hE : zs_E G σ v = .inr (ci, fs)) (kk : ∀ (H1 : Heap) (locs1 : List Loc), va_at (zg_D G) vwCl (zg_z G + v, .inr (ci, fs.set k x)) H1 → H1.size = H.size → (∀ q : Nat, q ≠ zg_z G + v → H1[q]? = H[q]?) → va_S (fun q => zg_z G ≤ q) s.heap H1 locs1 → W p l e R s m args below meth c H1 locs1 cs ss Q (F0 m (pc + 3) ls rest)) : W p l e R s m args below meth c H locs cs ss Q (F0 m pc ls (x :: .ref (zg_z G + v) :: rest)) := by
  have he : (zs_wl (zg_z G) (zs_n σ) (zs_E G σ))[v]? = some (zg_z G + v, .inr (ci, fs)) := by rw [zs_wl_get hv, hE]
  have hap := va_apart (own := own) C.1.2.2.2.2 hin ty0 hty hnm C.2.1.1 hc
  obtain ⟨r, h1, cell, q1, q2, q3, q4⟩ := hH.2.2 v _ he
  have hr : r = (C0, T, N) := Option.some.inj (h1.symm.trans hc)
  subst hr
  obtain ⟨hSl, hfc, kC, hkC, hkind⟩ := C.2.1.1.1 ci _ hc
  obtain ⟨cf, kf, fi, f, hi, hsl⟩ := hSl k hk
  have hi2 : s.fieldFound? ref (T k).2.1 (T k).2.2.1 = some (cf, kf, fi, f) := by rw [← hsame]; exact hi
  have hlay := C.1.2.2.2.2 _ (hin _ (u_in_lay hk))
  unfold u_lay at hlay
  have hst := (u_facts hfc hkC (u_lays C.1.2.2.2.2 hin hk) hi).1
  rw [if_neg (by rw [hfin]; decide)] at hlay
  have h6 := u_store hfc hkC hkind hlay hi hd0 hn hfit
  refine W.putK C.1.1 C.1.2.1 (f := f) ⟨C.1.2.2.2.1, C.1.2.2.2.2 _ hlink, ⟨_, _, _, hi2⟩, hst⟩ (by rw [q2]; exact h6) q1 q3 (by rw [hsl]; exact k2_hasslot (q4 k hk)) rfl rfl hd fun H' e1 e2 e3 => ?_
  rw [hsl] at e1 ⊢
  exact kk H' _ ⟨_, hc, t_OB.to (V := updV (vp_V fs) k x) ⟨_, e1, q2, q3, t_set q4 hap hk x⟩ (fun j _ => vp_updV_set hlen x j)⟩ e2 e3 (hS0.put e2 e3 (Nat.le_add_right _ _))
theorem zs_putN (C : zs_C p s m args c G cc nL own Ts) {ref C0 : String} {T : u_T} {N : Nat} {ci k index v : Nat} {fs rest : List Value} {x : Value} {ty : FieldType} {σ : zs_S} {H : Heap} {locs : List Loc} {cs ss : Nat} {ls : Array Slot} (hin : ∀ w ∈ u_ws C0 T N, w ∈ Ts) (ty0 : Nat → FieldType) (hty : ∀ k, k < N → parseFieldDescriptor (T k).2.2.1 = some (ty0 k)) (hnm : ∀ a, a < N → ∀ b, b < N → a ≠ b → (T a).2.1 ≠ (T b).2.1) (hc : vwCl[ci]? = some (C0, T, N)) (hk : k < N) {host : String} (hlink : (own, index, ref, (T k).2.1, (T k).2.2.1, host) ∈ zs_nf) (hsame : (T k).1 = ref) (hfin : (T k).2.2.2 = false) (hd0 : parseFieldDescriptor (T k).2.2.1 = some ty) (hn : narrow ty x = x) (hfit : fits ty x = true) (hlen : k < fs.length) (hd : decode cc pc = .ok (.putfield index, 3)) (hH : zs_H G σ H) (hS0 : va_S (fun q => zg_z G ≤ q) s.heap H locs) (hv : v < zs_n σ) (hE : zs_E G σ v = .inr (ci, fs)) (kk : ∀ (H1 : Heap) (locs1 : List Loc), va_at (zg_D G) vwCl (zg_z G + v, .inr (ci, fs.set k x)) H1 → H1.size = H.size → (∀ q : Nat, q ≠ zg_z G + v → H1[q]? = H[q]?) → va_S (fun q => zg_z G ≤ q) s.heap H1 locs1 → W p l e R s m args below meth c H1 locs1 cs ss Q (F0 m (pc + 3) ls rest)) : W p l e R s m args below meth c H locs cs ss Q (F0 m pc ls (x :: .ref (zg_z G + v) :: rest)) := by
  have he : (zs_wl (zg_z G) (zs_n σ) (zs_E G σ))[v]? = some (zg_z G + v, .inr (ci, fs)) := by rw [zs_wl_get hv, hE]
  have hap := va_apart (own := own) C.1.2.2.2.2 hin ty0 hty hnm C.2.1.1 hc
  obtain ⟨r, h1, cell, q1, q2, q3, q4⟩ := hH.2.2 v _ he
  have hr : r = (C0, T, N) := Option.some.inj (h1.symm.trans hc)
  subst hr
  obtain ⟨hSl, hfc, kC, hkC, hkind⟩ := C.2.1.1.1 ci _ hc
  obtain ⟨cf, kf, fi, f, hi, hsl⟩ := hSl k hk
  have hi2 : s.fieldFound? ref (T k).2.1 (T k).2.2.1 = some (cf, kf, fi, f) := by rw [← hsame]; exact hi
  have hlay := C.1.2.2.2.2 _ (hin _ (u_in_lay hk))
  unfold u_lay at hlay
  have hst := (u_facts hfc hkC (u_lays C.1.2.2.2.2 hin hk) hi).1
  rw [if_neg (by rw [hfin]; decide)] at hlay
  have h6 := u_store hfc hkC hkind hlay hi hd0 hn hfit
  refine va_WputK C.1.1 C.1.2.1 (f := f) C.1.2.2.2.1 ((C.2.1.2.2.2.1 _ hlink).use rfl) hi2 hst (by rw [q2]; exact h6) q1 q3 (by rw [hsl]; exact k2_hasslot (q4 k hk)) rfl rfl hd fun H' e1 e2 e3 => ?_
  rw [hsl] at e1 ⊢
  exact kk H' _ ⟨_, hc, t_OB.to (V := updV (vp_V fs) k x) ⟨_, e1, q2, q3, t_set q4 hap hk x⟩ (fun j _ => vp_updV_set hlen x j)⟩ e2 e3 (hS0.put e2 e3 (Nat.le_add_right _ _))
theorem zs_putF (C : zs_C p s m args c G cc nL own Ts) {ref C0 : String} {T : u_T} {N : Nat} {ci k index v : Nat} {fs rest : List Value} {x : Value} {ty : FieldType} {σ : zs_S} {H : Heap} {locs : List Loc} {cs ss : Nat} {ls : Array Slot} (hin : ∀ w ∈ u_ws C0 T N, w ∈ Ts) (ty0 : Nat → FieldType) (hty : ∀ k, k < N → parseFieldDescriptor (T k).2.2.1 = some (ty0 k)) (hnm : ∀ a, a < N → ∀ b, b < N → a ≠ b → (T a).2.1 ≠ (T b).2.1) (hc : vwCl[ci]? = some (C0, T, N)) (hk : k < N) (hlink : Cond.fieldLink own index ref (T k).2.1 (T k).2.2.1 ∈ Ts) (hsame : (T k).1 = ref) (hfin : (T k).2.2.2 = true) (hin2 : meth.name = "<init>") (hdecl : (T k).1 = own) (hd0 : parseFieldDescriptor (T k).2.2.1 = some ty) (hn : narrow ty x = x) (hfit : fits ty x = true) (hlen : k < fs.length) (hd : decode cc pc = .ok (.putfield index, 3)) (hH : zs_H G σ H) (hS0 : va_S (fun q => zg_z G ≤ q) s.heap H locs) (hv : v < zs_n σ) (hE : zs_E G σ v = .inr (ci, fs)) (kk : ∀ (H1 : Heap) (locs1 : List Loc), va_at (zg_D G) vwCl (zg_z G + v, .inr (ci, fs.set k x)) H1 → H1.size = H.size → (∀ q : Nat, q ≠ zg_z G + v → H1[q]? = H[q]?) → va_S (fun q => zg_z G ≤ q) s.heap H1 locs1 → W p l e R s m args below meth c H1 locs1 cs ss Q (F0 m (pc + 3) ls rest)) : W p l e R s m args below meth c H locs cs ss Q (F0 m pc ls (x :: .ref (zg_z G + v) :: rest)) := by
  have he : (zs_wl (zg_z G) (zs_n σ) (zs_E G σ))[v]? = some (zg_z G + v, .inr (ci, fs)) := by rw [zs_wl_get hv, hE]
  have hap := va_apart (own := own) C.1.2.2.2.2 hin ty0 hty hnm C.2.1.1 hc
  obtain ⟨r, h1, cell, q1, q2, q3, q4⟩ := hH.2.2 v _ he
  have hr : r = (C0, T, N) := Option.some.inj (h1.symm.trans hc)
  subst hr
  obtain ⟨hSl, hfc, kC, hkC, hkind⟩ := C.2.1.1.1 ci _ hc
  obtain ⟨cf, kf, fi, f, hi, hsl⟩ := hSl k hk
  have hi2 : s.fieldFound? ref (T k).2.1 (T k).2.2.1 = some (cf, kf, fi, f) := by rw [← hsame]; exact hi
  have hlay := C.1.2.2.2.2 _ (hin _ (u_in_lay hk))
  unfold u_lay at hlay
  have hst := (u_facts hfc hkC (u_lays C.1.2.2.2.2 hin hk) hi).1
  rw [if_pos hfin] at hlay
  have hcf : m.cls = cf := by
    obtain ⟨_, _, c', _, _, _, -, -, hf', -, -, -, hown2, -⟩ := Cond.laysFinal_spec hlay
    have e1 : c' = cf := by have := hi.symm.trans hf'; simp at this; exact this.1.symm
    rw [hdecl] at hown2
    rw [← e1]; exact Option.some.inj (C.1.2.2.2.1.symm.trans hown2)
  have h6 := u_fits hfc hkC hkind (Or.inr hlay) hi hd0 hn hfit
  refine W.putFinK C.1.1 C.1.2.1 C.1.2.2.2.1 (C.1.2.2.2.2 _ hlink) hi2 hst hcf hin2 (by rw [q2]; exact h6) q1 q3 (by rw [hsl]; exact k2_hasslot (q4 k hk)) rfl rfl hd fun H' e1 e2 e3 => ?_
  rw [hsl] at e1 ⊢
  exact kk H' _ ⟨_, hc, t_OB.to (V := updV (vp_V fs) k x) ⟨_, e1, q2, q3, t_set q4 hap hk x⟩ (fun j _ => vp_updV_set hlen x j)⟩ e2 e3 (hS0.put e2 e3 (Nat.le_add_right _ _))
theorem za_ptI (C : zs_C p s m args c G cc nL own Ts) {ref C0 : String} {T : u_T} {N : Nat} (ci k : Nat) {index : Nat} (hin : ∀ w ∈ u_ws C0 T N, w ∈ Ts) (ty0 : Nat → FieldType) (hty : ∀ k, k < N → parseFieldDescriptor (T k).2.2.1 = some (ty0 k)) (hnm : ∀ a, a < N → ∀ b, b < N → a ≠ b → (T a).2.1 ≠ (T b).2.1) (hc : vwCl[ci]? = some (C0, T, N)) (hci : ci < 99) (hk : k < N) (hft : (zs_ft ci)[k]? = some true) (hlink : Cond.fieldLink own index ref (T k).2.1 (T k).2.2.1 ∈ Ts) (hsame : (T k).1 = ref) (hfin : (T k).2.2.2 = false) (hd0 : parseFieldDescriptor (T k).2.2.1 = some .int) (hd : decode cc pc = .ok (.putfield index, 3)) (h : zs_At p l e R s m args below meth c Q G nL (pc + 3) K) : zs_At p l e R s m args below meth c Q G nL pc (zt_ptI ci k K) := by
  intro L st σ ls H locs cs ss hP hl hH hS
  unfold zt_ptI at hP
  split at hP
  · next x v r =>
    have hv : v < zs_n σ := hH.lt hP.1 (by omega)
    exact zs_put (x := .int x) C hin ty0 hty hnm hc hk hlink hsame hfin hd0 rfl rfl (by rw [zs_fl_len]; exact (List.getElem?_eq_some_iff.mp hft).1) hd hH hS hv (zs_E_ob hP.1 hci) (fun H1 locs1 a1 a2 a3 a4 => h _ _ _ _ _ _ _ _ hP.2 hl (hH.set hv rfl rfl (zs_E_pIo hP.1 hci hft) a2 a1 a3) a4)
  · exact hP.elim
theorem za_ptZ (C : zs_C p s m args c G cc nL own Ts) {ref C0 : String} {T : u_T} {N : Nat} (ci k : Nat) {index : Nat} (hin : ∀ w ∈ u_ws C0 T N, w ∈ Ts) (ty0 : Nat → FieldType) (hty : ∀ k, k < N → parseFieldDescriptor (T k).2.2.1 = some (ty0 k)) (hnm : ∀ a, a < N → ∀ b, b < N → a ≠ b → (T a).2.1 ≠ (T b).2.1) (hc : vwCl[ci]? = some (C0, T, N)) (hci : ci < 99) (hk : k < N) (hft : (zs_ft ci)[k]? = some true) (hlink : Cond.fieldLink own index ref (T k).2.1 (T k).2.2.1 ∈ Ts) (hsame : (T k).1 = ref) (hfin : (T k).2.2.2 = false) (hd0 : parseFieldDescriptor (T k).2.2.1 = some .boolean) (hd : decode cc pc = .ok (.putfield index, 3)) (h : zs_At p l e R s m args below meth c Q G nL (pc + 3) K) : zs_At p l e R s m args below meth c Q G nL pc (zt_ptZ ci k K) := by
  intro L st σ ls H locs cs ss hP hl hH hS
  unfold zt_ptZ at hP
  split at hP
  · next x v r =>
    have hv : v < zs_n σ := hH.lt hP.1 (by omega)
    exact zs_put (x := .int x) C hin ty0 hty hnm hc hk hlink hsame hfin hd0 (by rcases hP.2.1 with q | q <;> subst q <;> rfl) (by rcases hP.2.1 with q | q <;> subst q <;> rfl) (by rw [zs_fl_len]; exact (List.getElem?_eq_some_iff.mp hft).1) hd hH hS hv (zs_E_ob hP.1 hci) (fun H1 locs1 a1 a2 a3 a4 => h _ _ _ _ _ _ _ _ hP.2.2 hl (hH.set hv rfl rfl (zs_E_pIo hP.1 hci hft) a2 a1 a3) a4)
  · exact hP.elim
theorem za_ptR (C : zs_C p s m args c G cc nL own Ts) {ref C0 : String} {T : u_T} {N : Nat} (ci k : Nat) {index : Nat} (hin : ∀ w ∈ u_ws C0 T N, w ∈ Ts) (ty0 : Nat → FieldType) (hty : ∀ k, k < N → parseFieldDescriptor (T k).2.2.1 = some (ty0 k)) (hnm : ∀ a, a < N → ∀ b, b < N → a ≠ b → (T a).2.1 ≠ (T b).2.1) (hc : vwCl[ci]? = some (C0, T, N)) (hci : ci < 99) (hk : k < N) (hft : (zs_ft ci)[k]? = some false) (hlink : Cond.fieldLink own index ref (T k).2.1 (T k).2.2.1 ∈ Ts) (hsame : (T k).1 = ref) (hfin : (T k).2.2.2 = false) {ty : FieldType} (hd0 : parseFieldDescriptor (T k).2.2.1 = some ty) (hty1 : (∃ n, ty = .object n) ∨ ∃ t, ty = .array t) (hd : decode cc pc = .ok (.putfield index, 3)) (h : zs_At p l e R s m args below meth c Q G nL (pc + 3) K) : zs_At p l e R s m args below meth c Q G nL pc (zt_ptR ci k K) := by
  intro L st σ ls H locs cs ss hP hl hH hS
  unfold zt_ptR at hP
  split at hP
  · next w v r =>
    have hv : v < zs_n σ := hH.lt hP.1 (by omega)
    exact zs_put (x := va_rf (zs_mp (zg_z G) (some w))) C hin ty0 hty hnm hc hk hlink hsame hfin hd0 (by rcases hty1 with ⟨n, rfl⟩ | ⟨t, rfl⟩ <;> rfl) (by rcases hty1 with ⟨n, rfl⟩ | ⟨t, rfl⟩ <;> rfl) (by rw [zs_fl_len]; exact (List.getElem?_eq_some_iff.mp hft).1) hd hH hS hv (zs_E_ob hP.1 hci) (fun H1 locs1 a1 a2 a3 a4 => h _ _ _ _ _ _ _ _ hP.2 hl (hH.set hv rfl rfl (zs_E_pRo hP.1 hci hft) a2 a1 a3) a4)
  · next v r =>
    have hv : v < zs_n σ := hH.lt hP.1 (by omega)
    exact zs_put (x := va_rf (zs_mp (zg_z G) none)) C hin ty0 hty hnm hc hk hlink hsame hfin hd0 (by rcases hty1 with ⟨n, rfl⟩ | ⟨t, rfl⟩ <;> rfl) (by rcases hty1 with ⟨n, rfl⟩ | ⟨t, rfl⟩ <;> rfl) (by rw [zs_fl_len]; exact (List.getElem?_eq_some_iff.mp hft).1) hd hH hS hv (zs_E_ob hP.1 hci) (fun H1 locs1 a1 a2 a3 a4 => h _ _ _ _ _ _ _ _ hP.2 hl (hH.set hv rfl rfl (zs_E_pRo hP.1 hci hft) a2 a1 a3) a4)
  · exact hP.elim
theorem za_ptIN (C : zs_C p s m args c G cc nL own Ts) {ref C0 : String} {T : u_T} {N : Nat} (ci k : Nat) {index : Nat} (hin : ∀ w ∈ u_ws C0 T N, w ∈ Ts) (ty0 : Nat → FieldType) (hty : ∀ k, k < N → parseFieldDescriptor (T k).2.2.1 = some (ty0 k)) (hnm : ∀ a, a < N → ∀ b, b < N → a ≠ b → (T a).2.1 ≠ (T b).2.1) (hc : vwCl[ci]? = some (C0, T, N)) (hci : ci < 99) (hk : k < N) (hft : (zs_ft ci)[k]? = some true) {host : String} (hlink : (own, index, ref, (T k).2.1, (T k).2.2.1, host) ∈ zs_nf) (hsame : (T k).1 = ref) (hfin : (T k).2.2.2 = false) (hd0 : parseFieldDescriptor (T k).2.2.1 = some .int) (hd : decode cc pc = .ok (.putfield index, 3)) (h : zs_At p l e R s m args below meth c Q G nL (pc + 3) K) : zs_At p l e R s m args below meth c Q G nL pc (zt_ptI ci k K) := by
  intro L st σ ls H locs cs ss hP hl hH hS
  unfold zt_ptI at hP
  split at hP
  · next x v r =>
    have hv : v < zs_n σ := hH.lt hP.1 (by omega)
    exact zs_putN (x := .int x) C hin ty0 hty hnm hc hk hlink hsame hfin hd0 rfl rfl (by rw [zs_fl_len]; exact (List.getElem?_eq_some_iff.mp hft).1) hd hH hS hv (zs_E_ob hP.1 hci) (fun H1 locs1 a1 a2 a3 a4 => h _ _ _ _ _ _ _ _ hP.2 hl (hH.set hv rfl rfl (zs_E_pIo hP.1 hci hft) a2 a1 a3) a4)
  · exact hP.elim
theorem za_ptZN (C : zs_C p s m args c G cc nL own Ts) {ref C0 : String} {T : u_T} {N : Nat} (ci k : Nat) {index : Nat} (hin : ∀ w ∈ u_ws C0 T N, w ∈ Ts) (ty0 : Nat → FieldType) (hty : ∀ k, k < N → parseFieldDescriptor (T k).2.2.1 = some (ty0 k)) (hnm : ∀ a, a < N → ∀ b, b < N → a ≠ b → (T a).2.1 ≠ (T b).2.1) (hc : vwCl[ci]? = some (C0, T, N)) (hci : ci < 99) (hk : k < N) (hft : (zs_ft ci)[k]? = some true) {host : String} (hlink : (own, index, ref, (T k).2.1, (T k).2.2.1, host) ∈ zs_nf) (hsame : (T k).1 = ref) (hfin : (T k).2.2.2 = false) (hd0 : parseFieldDescriptor (T k).2.2.1 = some .boolean) (hd : decode cc pc = .ok (.putfield index, 3)) (h : zs_At p l e R s m args below meth c Q G nL (pc + 3) K) : zs_At p l e R s m args below meth c Q G nL pc (zt_ptZ ci k K) := by
  intro L st σ ls H locs cs ss hP hl hH hS
  unfold zt_ptZ at hP
  split at hP
  · next x v r =>
    have hv : v < zs_n σ := hH.lt hP.1 (by omega)
    exact zs_putN (x := .int x) C hin ty0 hty hnm hc hk hlink hsame hfin hd0 (by rcases hP.2.1 with q | q <;> subst q <;> rfl) (by rcases hP.2.1 with q | q <;> subst q <;> rfl) (by rw [zs_fl_len]; exact (List.getElem?_eq_some_iff.mp hft).1) hd hH hS hv (zs_E_ob hP.1 hci) (fun H1 locs1 a1 a2 a3 a4 => h _ _ _ _ _ _ _ _ hP.2.2 hl (hH.set hv rfl rfl (zs_E_pIo hP.1 hci hft) a2 a1 a3) a4)
  · exact hP.elim
theorem za_ptRN (C : zs_C p s m args c G cc nL own Ts) {ref C0 : String} {T : u_T} {N : Nat} (ci k : Nat) {index : Nat} (hin : ∀ w ∈ u_ws C0 T N, w ∈ Ts) (ty0 : Nat → FieldType) (hty : ∀ k, k < N → parseFieldDescriptor (T k).2.2.1 = some (ty0 k)) (hnm : ∀ a, a < N → ∀ b, b < N → a ≠ b → (T a).2.1 ≠ (T b).2.1) (hc : vwCl[ci]? = some (C0, T, N)) (hci : ci < 99) (hk : k < N) (hft : (zs_ft ci)[k]? = some false) {host : String} (hlink : (own, index, ref, (T k).2.1, (T k).2.2.1, host) ∈ zs_nf) (hsame : (T k).1 = ref) (hfin : (T k).2.2.2 = false) {ty : FieldType} (hd0 : parseFieldDescriptor (T k).2.2.1 = some ty) (hty1 : (∃ n, ty = .object n) ∨ ∃ t, ty = .array t) (hd : decode cc pc = .ok (.putfield index, 3)) (h : zs_At p l e R s m args below meth c Q G nL (pc + 3) K) : zs_At p l e R s m args below meth c Q G nL pc (zt_ptR ci k K) := by
  intro L st σ ls H locs cs ss hP hl hH hS
  unfold zt_ptR at hP
  split at hP
  · next w v r =>
    have hv : v < zs_n σ := hH.lt hP.1 (by omega)
    exact zs_putN (x := va_rf (zs_mp (zg_z G) (some w))) C hin ty0 hty hnm hc hk hlink hsame hfin hd0 (by rcases hty1 with ⟨n, rfl⟩ | ⟨t, rfl⟩ <;> rfl) (by rcases hty1 with ⟨n, rfl⟩ | ⟨t, rfl⟩ <;> rfl) (by rw [zs_fl_len]; exact (List.getElem?_eq_some_iff.mp hft).1) hd hH hS hv (zs_E_ob hP.1 hci) (fun H1 locs1 a1 a2 a3 a4 => h _ _ _ _ _ _ _ _ hP.2 hl (hH.set hv rfl rfl (zs_E_pRo hP.1 hci hft) a2 a1 a3) a4)
  · next v r =>
    have hv : v < zs_n σ := hH.lt hP.1 (by omega)
    exact zs_putN (x := va_rf (zs_mp (zg_z G) none)) C hin ty0 hty hnm hc hk hlink hsame hfin hd0 (by rcases hty1 with ⟨n, rfl⟩ | ⟨t, rfl⟩ <;> rfl) (by rcases hty1 with ⟨n, rfl⟩ | ⟨t, rfl⟩ <;> rfl) (by rw [zs_fl_len]; exact (List.getElem?_eq_some_iff.mp hft).1) hd hH hS hv (zs_E_ob hP.1 hci) (fun H1 locs1 a1 a2 a3 a4 => h _ _ _ _ _ _ _ _ hP.2 hl (hH.set hv rfl rfl (zs_E_pRo hP.1 hci hft) a2 a1 a3) a4)
  · exact hP.elim
theorem za_ptIF (C : zs_C p s m args c G cc nL own Ts) {ref C0 : String} {T : u_T} {N : Nat} (ci k : Nat) {index : Nat} (hin : ∀ w ∈ u_ws C0 T N, w ∈ Ts) (ty0 : Nat → FieldType) (hty : ∀ k, k < N → parseFieldDescriptor (T k).2.2.1 = some (ty0 k)) (hnm : ∀ a, a < N → ∀ b, b < N → a ≠ b → (T a).2.1 ≠ (T b).2.1) (hc : vwCl[ci]? = some (C0, T, N)) (hci : ci < 99) (hk : k < N) (hft : (zs_ft ci)[k]? = some true) (hlink : Cond.fieldLink own index ref (T k).2.1 (T k).2.2.1 ∈ Ts) (hsame : (T k).1 = ref) (hfin : (T k).2.2.2 = true) (hin2 : meth.name = "<init>") (hdecl : (T k).1 = own) (hd0 : parseFieldDescriptor (T k).2.2.1 = some .int) (hd : decode cc pc = .ok (.putfield index, 3)) (h : zs_At p l e R s m args below meth c Q G nL (pc + 3) K) : zs_At p l e R s m args below meth c Q G nL pc (zt_ptI ci k K) := by
  intro L st σ ls H locs cs ss hP hl hH hS
  unfold zt_ptI at hP
  split at hP
  · next x v r =>
    have hv : v < zs_n σ := hH.lt hP.1 (by omega)
    exact zs_putF (x := .int x) C hin ty0 hty hnm hc hk hlink hsame hfin hin2 hdecl hd0 rfl rfl (by rw [zs_fl_len]; exact (List.getElem?_eq_some_iff.mp hft).1) hd hH hS hv (zs_E_ob hP.1 hci) (fun H1 locs1 a1 a2 a3 a4 => h _ _ _ _ _ _ _ _ hP.2 hl (hH.set hv rfl rfl (zs_E_pIo hP.1 hci hft) a2 a1 a3) a4)
  · exact hP.elim
theorem za_ptZF (C : zs_C p s m args c G cc nL own Ts) {ref C0 : String} {T : u_T} {N : Nat} (ci k : Nat) {index : Nat} (hin : ∀ w ∈ u_ws C0 T N, w ∈ Ts) (ty0 : Nat → FieldType) (hty : ∀ k, k < N → parseFieldDescriptor (T k).2.2.1 = some (ty0 k)) (hnm : ∀ a, a < N → ∀ b, b < N → a ≠ b → (T a).2.1 ≠ (T b).2.1) (hc : vwCl[ci]? = some (C0, T, N)) (hci : ci < 99) (hk : k < N) (hft : (zs_ft ci)[k]? = some true) (hlink : Cond.fieldLink own index ref (T k).2.1 (T k).2.2.1 ∈ Ts) (hsame : (T k).1 = ref) (hfin : (T k).2.2.2 = true) (hin2 : meth.name = "<init>") (hdecl : (T k).1 = own) (hd0 : parseFieldDescriptor (T k).2.2.1 = some .boolean) (hd : decode cc pc = .ok (.putfield index, 3)) (h : zs_At p l e R s m args below meth c Q G nL (pc + 3) K) : zs_At p l e R s m args below meth c Q G nL pc (zt_ptZ ci k K) := by
  intro L st σ ls H locs cs ss hP hl hH hS
  unfold zt_ptZ at hP
  split at hP
  · next x v r =>
    have hv : v < zs_n σ := hH.lt hP.1 (by omega)
    exact zs_putF (x := .int x) C hin ty0 hty hnm hc hk hlink hsame hfin hin2 hdecl hd0 (by rcases hP.2.1 with q | q <;> subst q <;> rfl) (by rcases hP.2.1 with q | q <;> subst q <;> rfl) (by rw [zs_fl_len]; exact (List.getElem?_eq_some_iff.mp hft).1) hd hH hS hv (zs_E_ob hP.1 hci) (fun H1 locs1 a1 a2 a3 a4 => h _ _ _ _ _ _ _ _ hP.2.2 hl (hH.set hv rfl rfl (zs_E_pIo hP.1 hci hft) a2 a1 a3) a4)
  · exact hP.elim
theorem za_ptRF (C : zs_C p s m args c G cc nL own Ts) {ref C0 : String} {T : u_T} {N : Nat} (ci k : Nat) {index : Nat} (hin : ∀ w ∈ u_ws C0 T N, w ∈ Ts) (ty0 : Nat → FieldType) (hty : ∀ k, k < N → parseFieldDescriptor (T k).2.2.1 = some (ty0 k)) (hnm : ∀ a, a < N → ∀ b, b < N → a ≠ b → (T a).2.1 ≠ (T b).2.1) (hc : vwCl[ci]? = some (C0, T, N)) (hci : ci < 99) (hk : k < N) (hft : (zs_ft ci)[k]? = some false) (hlink : Cond.fieldLink own index ref (T k).2.1 (T k).2.2.1 ∈ Ts) (hsame : (T k).1 = ref) (hfin : (T k).2.2.2 = true) (hin2 : meth.name = "<init>") (hdecl : (T k).1 = own) {ty : FieldType} (hd0 : parseFieldDescriptor (T k).2.2.1 = some ty) (hty1 : (∃ n, ty = .object n) ∨ ∃ t, ty = .array t) (hd : decode cc pc = .ok (.putfield index, 3)) (h : zs_At p l e R s m args below meth c Q G nL (pc + 3) K) : zs_At p l e R s m args below meth c Q G nL pc (zt_ptR ci k K) := by
  intro L st σ ls H locs cs ss hP hl hH hS
  unfold zt_ptR at hP
  split at hP
  · next w v r =>
    have hv : v < zs_n σ := hH.lt hP.1 (by omega)
    exact zs_putF (x := va_rf (zs_mp (zg_z G) (some w))) C hin ty0 hty hnm hc hk hlink hsame hfin hin2 hdecl hd0 (by rcases hty1 with ⟨n, rfl⟩ | ⟨t, rfl⟩ <;> rfl) (by rcases hty1 with ⟨n, rfl⟩ | ⟨t, rfl⟩ <;> rfl) (by rw [zs_fl_len]; exact (List.getElem?_eq_some_iff.mp hft).1) hd hH hS hv (zs_E_ob hP.1 hci) (fun H1 locs1 a1 a2 a3 a4 => h _ _ _ _ _ _ _ _ hP.2 hl (hH.set hv rfl rfl (zs_E_pRo hP.1 hci hft) a2 a1 a3) a4)
  · next v r =>
    have hv : v < zs_n σ := hH.lt hP.1 (by omega)
    exact zs_putF (x := va_rf (zs_mp (zg_z G) none)) C hin ty0 hty hnm hc hk hlink hsame hfin hin2 hdecl hd0 (by rcases hty1 with ⟨n, rfl⟩ | ⟨t, rfl⟩ <;> rfl) (by rcases hty1 with ⟨n, rfl⟩ | ⟨t, rfl⟩ <;> rfl) (by rw [zs_fl_len]; exact (List.getElem?_eq_some_iff.mp hft).1) hd hH hS hv (zs_E_ob hP.1 hci) (fun H1 locs1 a1 a2 a3 a4 => h _ _ _ _ _ _ _ _ hP.2 hl (hH.set hv rfl rfl (zs_E_pRo hP.1 hci hft) a2 a1 a3) a4)
  · exact hP.elim
theorem za_iald (C : zs_C p s m args c G cc nL own Ts) (hd : decode cc pc = .ok (.iaload, 1)) (h : zs_At p l e R s m args below meth c Q G nL (pc + 1) K) : zs_At p l e R s m args below meth c Q G nL pc (zt_xld 100 K) := by
  intro L st σ ls H locs cs ss hP hl hH hS
  unfold zt_xld at hP
  split at hP
  · next i v r =>
    have hv : v < zs_n σ := hH.lt hP.1 (by omega)
    exact va_iald C.1.1 C.1.2.1 C.2.1.1 hH.2.2 v 0 (by rw [zs_wl_get hv, zs_E_in hP.1 (by omega) (by omega)]) rfl hP.2.1 hd (h _ _ _ _ _ _ _ _ hP.2.2 hl hH hS)
  · exact hP.elim
theorem za_zald (C : zs_C p s m args c G cc nL own Ts) (hd : decode cc pc = .ok (.baload, 1)) (h : zs_At p l e R s m args below meth c Q G nL (pc + 1) K) : zs_At p l e R s m args below meth c Q G nL pc (zt_xld 101 K) := by
  intro L st σ ls H locs cs ss hP hl hH hS
  unfold zt_xld at hP
  split at hP
  · next i v r =>
    have hv : v < zs_n σ := hH.lt hP.1 (by omega)
    exact va_zald C.1.1 C.1.2.1 C.2.1.1 hH.2.2 v 1 (by rw [zs_wl_get hv, zs_E_in hP.1 (by omega) (by omega)]) rfl hP.2.1 hd (h _ _ _ _ _ _ _ _ hP.2.2 hl hH hS)
  · exact hP.elim
theorem za_sld (C : zs_C p s m args c G cc nL own Ts) (hd : decode cc pc = .ok (.iaload, 1)) (h : zs_At p l e R s m args below meth c Q G nL (pc + 1) K) : zs_At p l e R s m args below meth c Q G nL pc (zt_sld G K) := by
  intro L st σ ls H locs cs ss hP hl hH hS
  unfold zt_sld at hP
  split at hP
  · next i u r =>
    exact va_sld C.1.1 C.1.2.1 C.2.1.2.2.1 (Nat.lt_of_lt_of_le C.2.1.2.1 C.2.2) (Nat.not_le.mpr C.2.1.2.1) hS hP.1 hd (h _ _ _ _ _ _ _ _ hP.2 hl hH hS)
  · exact hP.elim
theorem za_sln (C : zs_C p s m args c G cc nL own Ts) (hd : decode cc pc = .ok (.arraylength, 1)) (h : zs_At p l e R s m args below meth c Q G nL (pc + 1) K) : zs_At p l e R s m args below meth c Q G nL pc (zt_sln G K) := by
  intro L st σ ls H locs cs ss hP hl hH hS
  unfold zt_sln at hP
  split at hP
  · next u r =>
    exact va_slen C.1.1 C.1.2.1 C.2.1.2.2.1 (Nat.lt_of_lt_of_le C.2.1.2.1 C.2.2) (Nat.not_le.mpr C.2.1.2.1) hS hd (h _ _ _ _ _ _ _ _ hP hl hH hS)
  · exact hP.elim
theorem za_rld (C : zs_C p s m args c G cc nL own Ts) (cj t0 : Nat) {C0 : String} (ht : (zs_tys (zg_A G))[t0]? = some (zg_A G (110 + cj), .object C0)) (hd : decode cc pc = .ok (.aaload, 1)) (h : zs_At p l e R s m args below meth c Q G nL (pc + 1) K) : zs_At p l e R s m args below meth c Q G nL pc (zt_rld (110 + cj) K) := by
  intro L st σ ls H locs cs ss hP hl hH hS
  unfold zt_rld at hP
  split at hP
  · next i v r =>
    have hv : v < zs_n σ := hH.lt hP.1 (by omega)
    refine va_aldq C.1.1 C.1.2.1 C.2.1.1 hH.2.2 v t0 (by rw [zs_wl_get hv, zs_E_rf hP.1 (by omega)]) ht hP.2.1 hd ?_
    have := h _ _ _ _ _ _ _ _ hP.2.2 hl hH hS
    rw [List.map_cons, zs_tr_rv] at this
    exact this
  · exact hP.elim
theorem za_len (C : zs_C p s m args c G cc nL own Ts) (kd t0 : Nat) {ty : FieldType} (h1 : ¬ kd < 100) (ht : (zs_tys (zg_A G))[t0]? = some (zg_A G kd, ty)) (hd : decode cc pc = .ok (.arraylength, 1)) (h : zs_At p l e R s m args below meth c Q G nL (pc + 1) K) : zs_At p l e R s m args below meth c Q G nL pc (zt_len kd K) := by
  intro L st σ ls H locs cs ss hP hl hH hS
  unfold zt_len at hP
  split at hP
  · next v r =>
    have hv : v < zs_n σ := hH.lt hP.1 (by omega)
    by_cases h2 : kd < 110
    · exact va_alen (x := ((zs_K σ v).2, .inl (zs_I σ v))) C.1.1 C.1.2.1 C.2.1.1 hH.2.2 v t0 (by rw [zs_wl_get hv, zs_E_in hP.1 h1 h2]) ht rfl hd (h _ _ _ _ _ _ _ _ hP.2 hl hH hS)
    · exact va_alen (x := ((zs_K σ v).2, .inr (.inr (.inr (.inr (fun i => zs_mp (zg_z G) (zs_R σ v i))))))) C.1.1 C.1.2.1 C.2.1.1 hH.2.2 v t0 (by rw [zs_wl_get hv, zs_E_rf hP.1 h2]) ht rfl hd (h _ _ _ _ _ _ _ _ hP.2 hl hH hS)
  · exact hP.elim
theorem za_iast (C : zs_C p s m args c G cc nL own Ts) (hd : decode cc pc = .ok (.iastore, 1)) (h : zs_At p l e R s m args below meth c Q G nL (pc + 1) K) : zs_At p l e R s m args below meth c Q G nL pc (zt_ias K) := by
  intro L st σ ls H locs cs ss hP hl hH hS
  unfold zt_ias at hP
  split at hP
  · next x i v r =>
    have hv : v < zs_n σ := hH.lt hP.1 (by omega)
    have hat : H[zg_z G + v]? = some (vp_cell (zg_A G 100) ((zs_K σ v).2, .inl (zs_I σ v))) := by
      have := hH.2.2 v _ (zs_wl_get hv)
      rw [zs_E_in hP.1 (by omega) (by omega)] at this
      exact this
    refine W.iast C.1.1 C.1.2.1 hat ((C.2.1.1.2 0 _ rfl).1 _ (fun j => .int (zs_I σ v j))) (fun q => by cases q) (by show ¬ (i < 0 ∨ (arrV _ _ _).slots.size ≤ _); rw [arrV_size]; exact hP.2.1) rfl rfl hd fun H1 e1 z1 oq => ?_
    refine h _ _ _ _ _ _ _ _ hP.2.2 hl (hH.set (σ' := zs_pI σ v i.toNatClampNeg x) hv rfl rfl (zs_E_pFa (f := upd (zs_I σ v) i.toNatClampNeg x) hP.1 (by omega) (by omega)) z1 ?_ oq) (hS.put z1 oq (Nat.le_add_right _ _))
    show H1[zg_z G + v]? = some (vp_cell _ _)
    rw [e1, vp_cell_i, vp_cell_i, arrV_store]
    congr 2
    funext q
    by_cases hq : q = i.toNatClampNeg
    · subst hq
      simp [updV, upd]
    · simp [updV, upd, hq]
  · exact hP.elim
theorem za_zast (C : zs_C p s m args c G cc nL own Ts) (hd : decode cc pc = .ok (.bastore, 1)) (h : zs_At p l e R s m args below meth c Q G nL (pc + 1) K) : zs_At p l e R s m args below meth c Q G nL pc (zt_zas K) := by
  intro L st σ ls H locs cs ss hP hl hH hS
  unfold zt_zas at hP
  split at hP
  · next x i v r =>
    have hv : v < zs_n σ := hH.lt hP.1 (by omega)
    have hat : H[zg_z G + v]? = some (vp_cell (zg_A G 101) ((zs_K σ v).2, .inl (zs_I σ v))) := by
      have := hH.2.2 v _ (zs_wl_get hv)
      rw [zs_E_in hP.1 (by omega) (by omega)] at this
      exact this
    refine W.zast C.1.1 C.1.2.1 hat ((C.2.1.1.2 1 _ rfl).1 _ (fun j => .int (zs_I σ v j))) (fun q => by cases q) (by show ¬ (i < 0 ∨ (arrV _ _ _).slots.size ≤ _); rw [arrV_size]; exact hP.2.1) rfl rfl hd fun H1 e1 z1 oq => ?_
    refine h _ _ _ _ _ _ _ _ hP.2.2.2 hl (hH.set (σ' := zs_pI σ v i.toNatClampNeg x) hv rfl rfl (zs_E_pFa (f := upd (zs_I σ v) i.toNatClampNeg x) hP.1 (by omega) (by omega)) z1 ?_ oq) (hS.put z1 oq (Nat.le_add_right _ _))
    show H1[zg_z G + v]? = some (vp_cell _ _)
    rw [e1, vp_cell_i, vp_cell_i, arrV_store]
    congr 2
    funext q
    by_cases hq : q = i.toNatClampNeg
    · subst hq
      rcases hP.2.2.1 with q | q <;> subst q <;> simp [updV, upd] <;> rfl
    · simp [updV, upd, hq]
  · exact hP.elim
theorem za_rast (C : zs_C p s m args c G cc nL own Ts) (cj t0 : Nat) {r0 : vw_C} (hcj : cj < 99) (hc : vwCl[cj]? = some r0) (ht : (zs_tys (zg_A G))[t0]? = some (zg_A G (110 + cj), .object r0.1)) (hd : decode cc pc = .ok (.aastore, 1)) (h : zs_At p l e R s m args below meth c Q G nL (pc + 1) K) : zs_At p l e R s m args below meth c Q G nL pc (zt_ras cj K) := by
  intro L st σ ls H locs cs ss hP hl hH hS
  unfold zt_ras at hP
  split at hP
  · next w i v r =>
    have hv : v < zs_n σ := hH.lt hP.1 (by omega)
    have hw : w < zs_n σ := hH.lt hP.2.2.1 (by omega)
    have hat : H[zg_z G + v]? = some (vp_cell (zg_A G (110 + cj)) ((zs_K σ v).2, .inr (.inr (.inr (.inr (fun i => zs_mp (zg_z G) (zs_R σ v i))))))) := by
      have := hH.2.2 v _ (zs_wl_get hv)
      rw [zs_E_rf hP.1 (by omega)] at this
      exact this
    have hlt : i.toNatClampNeg < (zs_K σ v).2 := Nat.not_le.mp fun q => hP.2.1 (Or.inr q)
    have h0 : ¬ i < 0 := fun q => hP.2.1 (Or.inl q)
    have hvw := hH.2.2 w _ (zs_wl_get hw)
    rw [zs_E_ob hP.2.2.1 hcj] at hvw
    obtain ⟨r', hr', cellV, g1, g2, g3, -⟩ := hvw
    have hcls := (C.2.1.1.1 cj r0 hc).2
    obtain ⟨kA, comp, k1, k2, k3, -⟩ := (C.2.1.1.2 t0 _ ht).2
    have hcomp : comp = (zg_D G).1 cj := Option.some.inj (k3.symm.trans hcls.1)
    subst hcomp
    obtain ⟨kC, hkC, -⟩ := hcls.2
    refine W.aast C.1.1 C.1.2.1 hat (fun q h => by cases h) (fun h => by cases h) k1 k2 rfl hkC ⟨h0, by show _ < (arrV _ _ _).slots.size; rw [arrV_size]; exact hlt⟩ g1 (fun q h => by rw [g3] at h; cases h) (by rw [g2]; exact hkC) (by rw [g2]; exact va_assign hcls) rfl rfl hd fun H1 e1 z1 oq => ?_
    refine h _ _ _ _ _ _ _ _ hP.2.2.2 hl (hH.set hv rfl rfl (zs_E_pRa hP.1 (by omega)) z1 ?_ oq) (hS.put z1 oq (Nat.le_add_right _ _))
    show H1[zg_z G + v]? = some (vp_cell _ _)
    rw [e1, vp_cell_q, vp_cell_q, arrV_store]
    congr 2
    funext q
    by_cases hq : q = i.toNatClampNeg
    · subst hq
      simp [updV, va_up, va_rf, zs_mp]
    · simp [updV, va_up, hq]
  · next i v r =>
    have hv : v < zs_n σ := hH.lt hP.1 (by omega)
    have hat : H[zg_z G + v]? = some (vp_cell (zg_A G (110 + cj)) ((zs_K σ v).2, .inr (.inr (.inr (.inr (fun i => zs_mp (zg_z G) (zs_R σ v i))))))) := by
      have := hH.2.2 v _ (zs_wl_get hv)
      rw [zs_E_rf hP.1 (by omega)] at this
      exact this
    refine va_WaastN (C := r0.1) C.1.1 C.1.2.1 hat ((C.2.1.1.2 t0 _ ht).1 _ (fun j => va_rf (zs_mp (zg_z G) (zs_R σ v j)))) (fun h => by cases h) (by show ¬ (i < 0 ∨ (arrV _ _ _).slots.size ≤ _); rw [arrV_size]; exact hP.2.1) rfl rfl hd fun H1 e1 z1 oq => ?_
    refine h _ _ _ _ _ _ _ _ hP.2.2 hl (hH.set hv rfl rfl (zs_E_pRa hP.1 (by omega)) z1 ?_ oq) (hS.put z1 oq (Nat.le_add_right _ _))
    show H1[zg_z G + v]? = some (vp_cell _ _)
    rw [e1, vp_cell_q, vp_cell_q, arrV_store]
    congr 2
    funext q
    by_cases hq : q = i.toNatClampNeg
    · subst hq
      simp [updV, va_up, va_rf, zs_mp]
    · simp [updV, va_up, hq]
  · exact hP.elim
theorem za_lop {body : zs_P → zs_P} (h : ∀ K : zs_P, zs_At p l e R s m args below meth c Q G nL pc K → zs_At p l e R s m args below meth c Q G nL pc (body K)) : zs_At p l e R s m args below meth c Q G nL pc (zt_ex body) := by
  have hn : ∀ n, zs_At p l e R s m args below meth c Q G nL pc (zt_lop body n) := by
    intro n
    induction n with
    | zero => intro L st σ ls H locs cs ss hP; exact hP.elim
    | succ n ih => exact h _ ih
  intro L st σ ls H locs cs ss hP hl hH hS
  obtain ⟨n, hP⟩ := hP
  exact hn n L st σ ls H locs cs ss hP hl hH hS
/-- a switch, case by case: at pc, the number on the stack is none of ks -/
def zs_Ax (p : Program) (l : Launch) (e : Env) (R : Room) (s : State) (m : MethodId) (args : Array Value) (below : List Frame) (meth : Method) (c : Code) (Q : State → Prop) (G : zs_G) (nL : Nat) (pc : Nat) (ks : List Int32) (P : zs_P) : Prop :=
  ∀ (L : List (Option Value)) (x : Int32) (st : List Value) (σ : zs_S) (ls : Array Slot) (H : Heap) (locs : List Loc) (cs ss : Nat), (∀ k ∈ ks, ¬ x = k) → P L (.int x :: st) σ cs ss → zs_has G ls nL L → zs_H G σ H → va_S (fun q => zg_z G ≤ q) s.heap H locs → W p l e R s m args below meth c H locs cs ss Q (F0 m pc ls (.int x :: st.map (zs_tr G)))
theorem za_sw0 {k : Int32} (h : zs_Ax p l e R s m args below meth c Q G nL pc [] (zt_cas k K1 K2)) : zs_At p l e R s m args below meth c Q G nL pc (zt_cas k K1 K2) := by
  intro L st σ ls H locs cs ss hP hl hH hS
  match st, hP with
  | .int x :: r, hP => exact h L x r σ ls H locs cs ss (fun _ q => by cases q) hP hl hH hS
theorem za_swc (C : zs_C p s m args c G cc nL own Ts) {ks : List Int32} {dflt lo hi off : Int} {offs : Array Int} {len : Nat} (j : Nat) (k : Int32) (tgt : Nat) (hd : decode cc pc = .ok (.tableswitch dflt lo hi offs, len)) (ho : offs[j]? = some off) (hk : k.toInt = lo + (j : Int)) (hj : lo + (j : Int) ≤ hi) (ht : (pc : Int) + off = (tgt : Int)) (h1 : zs_At p l e R s m args below meth c Q G nL tgt K1) (h2 : zs_Ax p l e R s m args below meth c Q G nL pc (k :: ks) K2) : zs_Ax p l e R s m args below meth c Q G nL pc ks (zt_cas k K1 K2) := by
  intro L x st σ ls H locs cs ss hx hP hl hH hS
  by_cases e0 : x = k
  · subst e0
    exact lv_tableIn C.1.1 C.1.2.1 hd (by omega) (by omega) (by rw [show (x.toInt - lo).toNat = j by omega]; exact ho) ht (h1 _ _ _ _ _ _ _ _ (hP.1 rfl) hl hH hS)
  · exact h2 L x st σ ls H locs cs ss (fun q hq => by rcases List.mem_cons.mp hq with rfl | hq; exact e0; exact hx q hq) (hP.2 e0) hl hH hS
theorem za_swd (C : zs_C p s m args c G cc nL own Ts) {ks : List Int32} {dflt lo hi : Int} {offs : Array Int} {len : Nat} (tgt : Nat) (hd : decode cc pc = .ok (.tableswitch dflt lo hi offs, len)) (hall : ∀ x : Int32, (∀ k ∈ ks, ¬ x = k) → x.toInt < lo ∨ hi < x.toInt) (ht : (pc : Int) + dflt = (tgt : Int)) (h1 : zs_At p l e R s m args below meth c Q G nL tgt K) : zs_Ax p l e R s m args below meth c Q G nL pc ks (zt_dfl K) := by
  intro L x st σ ls H locs cs ss hx hP hl hH hS
  exact lv_tableOut C.1.1 C.1.2.1 hd (hall x hx) ht (h1 _ _ _ _ _ _ _ _ hP hl hH hS)
theorem za_lsc (C : zs_C p s m args c G cc nL own Ts) {ks : List Int32} {dflt off : Int} {ps : Array (Int × Int)} {len : Nat} (k : Int32) (tgt : Nat) (hd : decode cc pc = .ok (.lookupswitch dflt ps, len)) (hp : (ps.toList.zip (ps.toList.drop 1)).all (fun (a, next) => a.1 < next.1) = true) (ho : Op.lookupswitch.offset ps.toList dflt k.toInt = off) (ht : (pc : Int) + off = (tgt : Int)) (h1 : zs_At p l e R s m args below meth c Q G nL tgt K1) (h2 : zs_Ax p l e R s m args below meth c Q G nL pc (k :: ks) K2) : zs_Ax p l e R s m args below meth c Q G nL pc ks (zt_cas k K1 K2) := by
  intro L x st σ ls H locs cs ss hx hP hl hH hS
  by_cases e0 : x = k
  · subst e0
    exact lv_lookup C.1.1 C.1.2.1 hd hp ho ht (h1 _ _ _ _ _ _ _ _ (hP.1 rfl) hl hH hS)
  · exact h2 L x st σ ls H locs cs ss (fun q hq => by rcases List.mem_cons.mp hq with rfl | hq; exact e0; exact hx q hq) (hP.2 e0) hl hH hS
theorem za_lsd (C : zs_C p s m args c G cc nL own Ts) {ks : List Int32} {dflt : Int} {ps : Array (Int × Int)} {len : Nat} (tgt : Nat) (hd : decode cc pc = .ok (.lookupswitch dflt ps, len)) (hp : (ps.toList.zip (ps.toList.drop 1)).all (fun (a, next) => a.1 < next.1) = true) (ho : ∀ x : Int32, (∀ k ∈ ks, ¬ x = k) → Op.lookupswitch.offset ps.toList dflt x.toInt = dflt) (ht : (pc : Int) + dflt = (tgt : Int)) (h1 : zs_At p l e R s m args below meth c Q G nL tgt K) : zs_Ax p l e R s m args below meth c Q G nL pc ks (zt_dfl K) := by
  intro L x st σ ls H locs cs ss hx hP hl hH hS
  exact lv_lookup C.1.1 C.1.2.1 hd hp (ho x hx) ht (h1 _ _ _ _ _ _ _ _ hP hl hH hS)
end ZA
