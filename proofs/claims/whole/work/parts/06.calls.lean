/-! New cells, contracts, calls, entry and ends. -/
section ZB
variable {p : Program} {l : Launch} {e : Env} {R : Room} {s : State} {m : MethodId} {args : Array Value} {below : List Frame} {meth : Method} {c : Code} {Q : State → Prop} {G : zs_G} {cc : ByteArray} {nL pc : Nat} {own : String} {Ts : List Cond} {K K1 K2 : zs_P}
theorem zs_S.push {A : Nat → Prop} {H0 H H1 : Heap} {locs : List Loc} (hS : va_S A H0 H locs) (z1 : H1.size = H.size + 1) (o1 : ∀ q : Nat, q < H.size → H1[q]? = H[q]?) : va_S A H0 H1 locs :=
  ⟨Nat.le_trans hS.1 (by omega), fun x h1 h2 => (o1 x (Nat.lt_of_lt_of_le h1 hS.1)).trans (hS.2.1 x h1 h2), hS.2.2⟩
theorem zs_nw_K (σ : zs_S) (q : Nat × Nat) : zs_K (zs_nw σ q) (zs_n σ) = q := by simp [zs_K, zs_nw, zs_n, va_up]
theorem zs_nw_I (σ : zs_S) (q : Nat × Nat) : zs_I (zs_nw σ q) (zs_n σ) = fun _ => 0 := by simp [zs_I, zs_nw, zs_n, va_up]
theorem zs_nw_R (σ : zs_S) (q : Nat × Nat) : zs_R (zs_nw σ q) (zs_n σ) = fun _ => none := by simp [zs_R, zs_nw, zs_n, va_up]
theorem za_nwi (C : zs_C p s m args c G cc nL own Ts) (MC MS : Nat) (hMC : MC = R.cells) (hMS : MS = R.slots) (harr : Cond.arrayClass .int ∈ Ts) (hd : decode cc pc = .ok (.newarray .int, 2)) (h : zs_At p l e R s m args below meth c Q G nL (pc + 2) K) : zs_At p l e R s m args below meth c Q G nL pc (zt_nwa 100 MC MS K) := by
  intro L st σ ls H locs cs ss hP hl hH hS
  unfold zt_nwa at hP
  split at hP
  · next n r =>
    obtain ⟨a1, a2, a3, a4, hP⟩ := hP
    refine va_newaK (atype := .int) C.1.1 C.1.2.1 (C.1.2.2.2.2 _ harr) rfl hd rfl a1 rfl (by show _ * 4 ≤ _; omega) (hMC ▸ a3) (hMS ▸ a4) hH.1 fun H1 cA e1 z1 o1 hAr hNm => ?_
    have hcA : cA = zg_A G 100 := Option.some.inj (hNm.symm.trans (C.2.1.1.2 0 _ rfl).2)
    subst hcA
    refine h _ _ _ _ _ _ _ _ hP hl (hH.push (by rw [z1, hH.1]) (fun q hq => o1 q (by rw [← hH.1]; exact hq)) ?_) (zs_S.push hS (by rw [z1, hH.1]) (fun q hq => o1 q (by rw [← hH.1]; exact hq)))
    rw [zs_E_in (kd := 100) (by rw [zs_nw_K]) (by omega) (by omega), zs_nw_I, zs_nw_K]
    exact e1
  · exact hP.elim
theorem za_nwz (C : zs_C p s m args c G cc nL own Ts) (MC MS : Nat) (hMC : MC = R.cells) (hMS : MS = R.slots) (harr : Cond.arrayClass .boolean ∈ Ts) (hd : decode cc pc = .ok (.newarray .boolean, 2)) (h : zs_At p l e R s m args below meth c Q G nL (pc + 2) K) : zs_At p l e R s m args below meth c Q G nL pc (zt_nwa 101 MC MS K) := by
  intro L st σ ls H locs cs ss hP hl hH hS
  unfold zt_nwa at hP
  split at hP
  · next n r =>
    obtain ⟨a1, a2, a3, a4, hP⟩ := hP
    refine va_newaK (atype := .boolean) C.1.1 C.1.2.1 (C.1.2.2.2.2 _ harr) rfl hd rfl a1 rfl (by show _ * 1 ≤ _; omega) (hMC ▸ a3) (hMS ▸ a4) hH.1 fun H1 cA e1 z1 o1 hAr hNm => ?_
    have hcA : cA = zg_A G 101 := Option.some.inj (hNm.symm.trans (C.2.1.1.2 1 _ rfl).2)
    subst hcA
    refine h _ _ _ _ _ _ _ _ hP hl (hH.push (by rw [z1, hH.1]) (fun q hq => o1 q (by rw [← hH.1]; exact hq)) ?_) (zs_S.push hS (by rw [z1, hH.1]) (fun q hq => o1 q (by rw [← hH.1]; exact hq)))
    rw [zs_E_in (kd := 101) (by rw [zs_nw_K]) (by omega) (by omega), zs_nw_I, zs_nw_K]
    exact e1
  · exact hP.elim
theorem za_nwr (C : zs_C p s m args c G cc nL own Ts) (cj t0 : Nat) {C0 : String} {index : Nat} (MC MS : Nat) (hMC : MC = R.cells) (hMS : MS = R.slots) (ht : (zs_tys (zg_A G))[t0]? = some (zg_A G (110 + cj), .object C0)) (hlink : Cond.classLink own index C0 ∈ Ts) (hao : C0 ∈ zs_ao) (hd : decode cc pc = .ok (.anewarray index, 3)) (h : zs_At p l e R s m args below meth c Q G nL (pc + 3) K) : zs_At p l e R s m args below meth c Q G nL pc (zt_nwa (110 + cj) MC MS K) := by
  intro L st σ ls H locs cs ss hP hl hH hS
  unfold zt_nwa at hP
  split at hP
  · next n r =>
    obtain ⟨a1, a2, a3, a4, hP⟩ := hP
    refine W.anew C.1.1 C.1.2.1 C.1.2.2.2.1 (C.1.2.2.2.2 _ hlink) ((C.2.1.2.2.2.2.2 _ hao).use) rfl hd rfl a1 (by omega) (hMC ▸ a3) (hMS ▸ a4) fun cA kA comp f1 f2 f3 f4 => ?_
    obtain ⟨-, kA', comp', -, -, -, g4⟩ := C.2.1.1.2 t0 _ ht
    have hcA : cA = zg_A G (110 + cj) := Option.some.inj (f1.symm.trans g4)
    subst hcA
    generalize hH1 : H.push ({ cls := zg_A G (110 + cj), slots := Array.replicate n.toNatClampNeg .null, vm := .none } : Cell) = H1
    have z1 : H1.size = H.size + 1 := by rw [← hH1, Array.size_push]
    have e1 : H1[H.size]? = some (arrV (zg_A G (110 + cj)) n.toNatClampNeg (fun _ => .null)) := by rw [← hH1, Array.getElem?_push_size, ← arrV_new]
    have o1 : ∀ q : Nat, q < H.size → H1[q]? = H[q]? := fun q hq => by rw [← hH1, Array.getElem?_push, if_neg (Nat.ne_of_lt hq)]
    have hgo := h _ _ _ _ _ _ _ _ hP hl (hH.push z1 o1 (by
      rw [zs_E_rf (kd := 110 + cj) (by rw [zs_nw_K]) (by omega), zs_nw_R, zs_nw_K, ← hH.1]
      exact e1)) (zs_S.push hS z1 o1)
    have e2 : zs_tr G (.ref (zs_n σ)) = .ref H.size := by show Value.ref (zg_z G + zs_n σ) = _; rw [hH.1]
    rw [List.map_cons, e2] at hgo
    exact hgo
  · exact hP.elim
theorem za_nwo (C : zs_C p s m args c G cc nL own Ts) {C0 : String} {T : u_T} {N : Nat} (ci : Nat) {index : Nat} (MC MS : Nat) (hMC : MC = R.cells) (hMS : MS = R.slots) (hin : ∀ w ∈ u_ws C0 T N, w ∈ Ts) (ty0 : Nat → FieldType) (hty : ∀ k, k < N → parseFieldDescriptor (T k).2.2.1 = some (ty0 k)) (hc : vwCl[ci]? = some (C0, T, N)) (hci : ci < 99) (hfs : ∀ (z : Nat) (j : Nat), j < N → defaultValue (ty0 j) = vp_V (zs_fl z (fun _ => 0) (fun _ => none) (zs_ft ci) 0) j) (hlink : Cond.classLink own index C0 ∈ Ts) (hins : Cond.instantiable C0 N ∈ Ts) (hini : Cond.initialized C0 ∈ Ts) (hd : decode cc pc = .ok (.new index, 3)) (h : zs_At p l e R s m args below meth c Q G nL (pc + 3) K) : zs_At p l e R s m args below meth c Q G nL pc (zt_nwo ci N MC MS K) := by
  intro L st σ ls H locs cs ss hP hl hH hS
  obtain ⟨a3, a4, hP⟩ := hP
  have hKn := C.2.1.1.1 ci _ hc
  refine W.newcK C.1.1 C.1.2.1 C.1.2.2.2.1 (C.1.2.2.2.2 _ hlink) (C.1.2.2.2.2 _ hins) (C.1.2.2.2.2 _ hini) rfl hd (hMC ▸ a3) (hMS ▸ a4) hKn.2.1 hH.1 fun H1 kC hkC e1 z1 o1 => ?_
  refine h _ _ _ _ _ _ _ _ hP hl (hH.push (by rw [z1, hH.1]) (fun q hq => o1 q (by rw [← hH.1]; exact hq)) ?_) (zs_S.push hS (by rw [z1, hH.1]) (fun q hq => o1 q (by rw [← hH.1]; exact hq)))
  rw [zs_E_ob (ci := ci) (by rw [zs_nw_K]) hci, zs_nw_I, zs_nw_R]
  exact ⟨_, hc, (u_born ty0 C.1.2.2.2.2 hin hKn hkC e1 hty).to (hfs _)⟩
theorem za_oin (C : zs_C p s m args c G cc nL own Ts) {index : Nat} (hR : 1 ≤ R.frames ∧ 20 ≤ R.locals) (hlink : Cond.methodLink own index objectInit ∈ Ts) (hinst : Cond.instanceMethod objectInit ∈ Ts) (hcode : Cond.code objectInit ⟨#[0xb1]⟩ 1 none ∈ Ts) (hd : decode cc pc = .ok (.invokespecial index, 3)) (h : zs_At p l e R s m args below meth c Q G nL (pc + 3) K) : zs_At p l e R s m args below meth c Q G nL pc (zt_oin K) := by
  intro L st σ ls H locs cs ss hP hl hH hS
  unfold zt_oin at hP
  split at hP
  · next v r =>
    refine W.objInit C.1.1 C.1.2.1 C.1.2.2.2.1 (C.1.2.2.2.2 _ hlink) (C.1.2.2.2.2 _ hinst) (C.1.2.2.2.2 _ hcode) rfl (by rw [C.1.2.2.1]; exact hl.1) (a := zg_z G + v) (rest := r.map (zs_tr G)) rfl hd hR.1 ?_ (h _ _ _ _ _ _ _ _ hP.2 hl hH hS)
    show 2 * 0 + _ + 12 ≤ _
    rw [zs_c1_sum G hP.1.2]
    have := hP.1.1
    omega
  · exact hP.elim
theorem za_max (C : zs_C p s m args c G cc nL own Ts) {index : Nat} (MC MS : Nat) (hMC : MC = R.cells) (hMS : MS = R.slots) (hR : 1 ≤ R.frames ∧ 21 ≤ R.locals) (hlink : Cond.methodLink own index Lib.Math.max.name ∈ Ts) (hstat : Cond.static Lib.Math.max.name ∈ Ts) (hini : Cond.initialized "java/lang/Math" ∈ Ts) (hcode : Cond.code Lib.Math.max.name Lib.Math.max.code 2 (some .int) ∈ Ts) (hd : decode cc pc = .ok (.invokestatic index, 3)) (h : zs_At p l e R s m args below meth c Q G nL (pc + 3) K) : zs_At p l e R s m args below meth c Q G nL pc (zt_jmm (fun x y => if x < y then y else x) MC MS K) := by
  intro L st σ ls H locs cs ss hP hl hH hS
  unfold zt_jmm at hP
  split at hP
  · next y x r =>
    refine va_mmax C.1.1 C.1.2.1 (by rw [C.1.2.2.1]; exact hl.1.symm) C.1.2.2.2.1 (C.1.2.2.2.2 _ hlink) (C.1.2.2.2.2 _ hstat) (C.1.2.2.2.2 _ hini) (C.1.2.2.2.2 _ hcode) hR.1 ?_ (hMC ▸ hP.2.1) (hMS ▸ hP.2.2.1) hd (h _ _ _ _ _ _ _ _ hP.2.2.2 hl hH hS)
    rw [zs_c1_sum G hP.1.2]
    have := hP.1.1
    omega
  · exact hP.elim
theorem za_min (C : zs_C p s m args c G cc nL own Ts) {index : Nat} (MC MS : Nat) (hMC : MC = R.cells) (hMS : MS = R.slots) (hR : 1 ≤ R.frames ∧ 21 ≤ R.locals) (hlink : Cond.methodLink own index Lib.Math.min.name ∈ Ts) (hstat : Cond.static Lib.Math.min.name ∈ Ts) (hini : Cond.initialized "java/lang/Math" ∈ Ts) (hcode : Cond.code Lib.Math.min.name Lib.Math.min.code 2 (some .int) ∈ Ts) (hd : decode cc pc = .ok (.invokestatic index, 3)) (h : zs_At p l e R s m args below meth c Q G nL (pc + 3) K) : zs_At p l e R s m args below meth c Q G nL pc (zt_jmm (fun x y => if y < x then y else x) MC MS K) := by
  intro L st σ ls H locs cs ss hP hl hH hS
  unfold zt_jmm at hP
  split at hP
  · next y x r =>
    refine va_mmin C.1.1 C.1.2.1 (by rw [C.1.2.2.1]; exact hl.1.symm) C.1.2.2.2.1 (C.1.2.2.2.2 _ hlink) (C.1.2.2.2.2 _ hstat) (C.1.2.2.2.2 _ hini) (C.1.2.2.2.2 _ hcode) hR.1 ?_ (hMC ▸ hP.2.1) (hMS ▸ hP.2.2.1) hd (h _ _ _ _ _ _ _ _ hP.2.2.2 hl hH hS)
    rw [zs_c1_sum G hP.1.2]
    have := hP.1.1
    omega
  · exact hP.elim
/-- contracts -/
def zs_Pc (G : zs_G) (As : List Value) (σ : zs_S) : Array Value → State → Prop := fun a U => a = (As.map (zs_tr G)).toArray ∧ zs_H G σ U.heap ∧ zs_U G U
def zs_Qc (G : zs_G) (Q : zs_Q) : Array Value → State → Outcome → State → Prop := fun _ st oc t => (∃ (r : Option Value) (σ' : zs_S), oc = .returned (r.map (zs_tr G)) ∧ Q r σ' ∧ zs_H G σ' t.heap) ∧ va_F (fun q => zg_z G ≤ q) st t
def zs_Met (l : Launch) (y : MethodName) (ws : List Cond) (rm : Room) (G : zs_G) (As : List Value) (σ : zs_S) (Q : zs_Q) (mc ms : Nat) : Prop := Met l y ws rm (zs_Pc G As σ) (zs_Qc G Q) mc ms (fun q => zg_z G ≤ q)
theorem zs_blind (G : zs_G) (As : List Value) (σ : zs_S) : FrameBlind (zs_Pc G As σ) := fun a _ g mk q => ⟨q.1, q.2.1, q.2.2.calling g mk a⟩
theorem zs_pre (C : zs_C p s m args c G cc nL own Ts) {As : List Value} {σ : zs_S} {H : Heap} {locs : List Loc} (hH : zs_H G σ H) (hS : va_S (fun q => zg_z G ≤ q) s.heap H locs) (U : State) (hU : U.heap = H) (hW : s.WarmedH U.vm) : zs_Pc G As σ (As.map (zs_tr G)).toArray U :=
  ⟨rfl, by rw [hU]; exact hH, C.2.1.warm hW (by rw [hU]; exact hS.2.1 _ (Nat.lt_of_lt_of_le C.2.1.2.1 C.2.2) (Nat.not_le.mpr C.2.1.2.1))⟩
theorem zs_call {H : Heap} {locs : List Loc} {cs ss mc ms : Nat} {ls : Array Slot} {st0 rest : List Value} {Q1 : zs_Q} {a : Array Value} (hr : va_Run p l e R s m args below meth c H locs cs ss mc ms (F0 m pc ls st0) rest (zs_Qc G Q1 a) (fun q => zg_z G ≤ q)) (hS : va_S (fun q => zg_z G ≤ q) s.heap H locs)
    (kk : ∀ (r : Option Value) (σ' : zs_S) (H1 : Heap) (locs1 : List Loc), Q1 r σ' → zs_H G σ' H1 → va_S (fun q => zg_z G ≤ q) s.heap H1 locs1 → W p l e R s m args below meth c H1 locs1 (cs + mc) (ss + ms) Q (F0 m (pc + 3) ls ((r.map (zs_tr G)).toList ++ rest))) : W p l e R s m args below meth c H locs cs ss Q (F0 m pc ls st0) := by
  intro T hT X
  obtain ⟨v, st₀, t, T', L, h0, X', hL, e1, e2, ⟨⟨r, σ', hv, hq, hh⟩, hz, hk⟩, st⟩ := hr T hT X
  have hv' : v = r.map (zs_tr G) := by injection hv
  subst hv'
  rw [h0] at hz hk
  obtain ⟨t2, a1, b1⟩ := kk r σ' T'.heap (locs ++ L) hq (by rw [e1]; exact hh)
    ⟨Nat.le_trans hS.1 (by rw [e1]; exact hz), fun q h1 h2 => by rw [e1, hk q (Nat.lt_of_lt_of_le h1 hS.1) h2]; exact hS.2.1 q h1 h2, fun q hq => by
      rcases List.mem_append.mp hq with h | h
      · exact hS.2.2 q h
      · exact hL q h⟩ T' rfl X'
  exact ⟨t2, st t2 a1, b1⟩
theorem zs_st (r : Option Value) (rest : List Value) : (r.map (zs_tr G)).toList ++ rest.map (zs_tr G) = (r.toList ++ rest).map (zs_tr G) := by cases r <;> simp
/-- a static call -/
theorem za_cS (C : zs_C p s m args c G cc nL own Ts) {wp : zs_W} {y : MethodName} {bytes : ByteArray} {maxL index : Nat} {ret : Option FieldType} {ws : List Cond} {rm : Room} (n mc ms MC MS : Nat) (hMC : MC = R.cells) (hMS : MS = R.slots) (hM : ∀ As σ Q', wp As σ Q' → zs_Met l y ws rm G As σ Q' mc ms) (cw : CallB R s args own index y bytes maxL ret ws rm mc ms n ∧ (Cond.static y).before args s = true) (hd : decode cc pc = .ok (.invokestatic index, 3)) (h : zs_At p l e R s m args below meth c Q G nL (pc + 3) K) : zs_At p l e R s m args below meth c Q G nL pc (zt_cal wp n mc ms MC MS K) := by
  intro L st σ ls H locs cs ss hP hl hH hS
  unfold zt_cal at hP
  split at hP
  · next As r hA =>
    obtain ⟨⟨f1, f2⟩, b1, b2, hw⟩ := hP
    obtain ⟨bs, e1, e2, e3⟩ := zs_args_spec n [] st hA
    simp at e3
    subst e1 e3
    refine zs_call (rest := r.map (zs_tr G)) (va_runS (As := bs.reverse.map (zs_tr G)) (rest := r.map (zs_tr G)) C.1 (hM _ _ _ hw) cw ⟨zs_blind _ _ _, fun U hU hW => zs_pre C hH hS U hU hW⟩ rfl (by simp [e2]) hl.1 (by simp) (lv_room (by rw [zs_c1_sum G f2]; exact f1)) hd ⟨hMC ▸ b1, hMS ▸ b2⟩) hS ?_
    intro r1 σ' H1 locs1 q1 q2 q3
    rw [zs_st]
    exact h _ _ _ _ _ _ _ _ q1 hl q2 q3
  · exact hP.elim
/-- a private static call of a nest mate -/
theorem za_cSN (C : zs_C p s m args c G cc nL own Ts) {wp : zs_W} {y : MethodName} {host : String} {bytes : ByteArray} {maxL index : Nat} {ret : Option FieldType} {ws : List Cond} {rm : Room} (n mc ms MC MS : Nat) (hMC : MC = R.cells) (hMS : MS = R.slots) (hM : ∀ As σ Q', wp As σ Q' → zs_Met l y ws rm G As σ Q' mc ms) (cw : va_CN R s args own index y host bytes maxL ret ws rm mc ms n ∧ (Cond.static y).before args s = true ∧ True) (hd : decode cc pc = .ok (.invokestatic index, 3)) (h : zs_At p l e R s m args below meth c Q G nL (pc + 3) K) : zs_At p l e R s m args below meth c Q G nL pc (zt_cal wp n mc ms MC MS K) := by
  intro L st σ ls H locs cs ss hP hl hH hS
  unfold zt_cal at hP
  split at hP
  · next As r hA =>
    obtain ⟨⟨f1, f2⟩, b1, b2, hw⟩ := hP
    obtain ⟨bs, e1, e2, e3⟩ := zs_args_spec n [] st hA
    simp at e3
    subst e1 e3
    refine zs_call (rest := r.map (zs_tr G)) (va_runSN (As := bs.reverse.map (zs_tr G)) (rest := r.map (zs_tr G)) C.1 (hM _ _ _ hw) cw ⟨zs_blind _ _ _, fun U hU hW => zs_pre C hH hS U hU hW⟩ rfl (by simp [e2]) hl.1 (by simp) (lv_room (by rw [zs_c1_sum G f2]; exact f1)) hd ⟨hMC ▸ b1, hMS ▸ b2⟩) hS ?_
    intro r1 σ' H1 locs1 q1 q2 q3
    rw [zs_st]
    exact h _ _ _ _ _ _ _ _ q1 hl q2 q3
  · exact hP.elim
theorem zs_recv (C : zs_C p s m args c G cc nL own Ts) {C0 : String} {T : u_T} {N ci v : Nat} {σ : zs_S} {H : Heap} (hc : vwCl[ci]? = some (C0, T, N)) (hci : ci < 99) (hk : (zs_K σ v).1 = ci) (hH : zs_H G σ H) : ∃ cellB : Cell, H[zg_z G + v]? = some cellB ∧ cellB.vm.isStatics = false ∧ s.vm.findClass C0 = some cellB.cls := by
  have hv : v < zs_n σ := hH.lt hk (by omega)
  have h1 := hH.2.2 v _ (zs_wl_get hv)
  rw [zs_E_ob hk hci] at h1
  obtain ⟨r, hr, cell, q1, q2, q3, -⟩ := h1
  have hKn := C.2.1.1.1 ci _ hc
  exact ⟨cell, q1, by rw [q3]; rfl, by rw [q2]; exact hKn.2.1⟩
/-- a virtual call; n: the values without the receiver -/
theorem za_cV (C : zs_C p s m args c G cc nL own Ts) {wp : zs_W} {y : MethodName} {C0 : String} {T : u_T} {N : Nat} {bytes : ByteArray} {maxL index : Nat} {ret : Option FieldType} {ws : List Cond} {rm : Room} (ci n mc ms MC MS : Nat) (hMC : MC = R.cells) (hMS : MS = R.slots) (hc : vwCl[ci]? = some (C0, T, N)) (hci : ci < 99) (hM : ∀ As σ Q', wp As σ Q' → zs_Met l y ws rm G As σ Q' mc ms) (cw : CallW R s args own C0 index y bytes maxL ret ws rm mc ms n) (hd : decode cc pc = .ok (.invokevirtual index, 3)) (h : zs_At p l e R s m args below meth c Q G nL (pc + 3) K) : zs_At p l e R s m args below meth c Q G nL pc (zt_cav ci wp (n + 1) mc ms MC MS K) := by
  intro L st σ ls H locs cs ss hP hl hH hS
  unfold zt_cav at hP
  split at hP
  · next v As r hA =>
    obtain ⟨f0, ⟨f1, f2⟩, b1, b2, hw⟩ := hP
    obtain ⟨bs, e1, e2, e3⟩ := zs_args_spec (n + 1) [] st hA
    simp at e3
    have e4 : bs = As.reverse ++ [.ref v] := by rw [← List.reverse_reverse bs, ← e3]; simp
    subst e1 e4
    refine zs_call (rest := r.map (zs_tr G)) (va_runV (As := As.map (zs_tr G)) (rest := r.map (zs_tr G)) C.1 (hM _ _ _ hw) cw ⟨zs_blind _ _ _, zs_recv C hc hci f0 hH, fun U hU hW => zs_pre (As := .ref v :: As) C hH hS U hU hW⟩ rfl (by simp at e2; simp [e2]) hl.1 (by simp; rfl) (lv_room (by rw [zs_c1_sum G f2]; exact f1)) hd ⟨hMC ▸ b1, hMS ▸ b2⟩) hS ?_
    intro r1 σ' H1 locs1 q1 q2 q3
    rw [zs_st]
    exact h _ _ _ _ _ _ _ _ q1 hl q2 q3
  · exact hP.elim
theorem za_cVN (C : zs_C p s m args c G cc nL own Ts) {wp : zs_W} {y : MethodName} {C0 host : String} {T : u_T} {N : Nat} {bytes : ByteArray} {maxL index : Nat} {ret : Option FieldType} {ws : List Cond} {rm : Room} (ci n mc ms MC MS : Nat) (hMC : MC = R.cells) (hMS : MS = R.slots) (hc : vwCl[ci]? = some (C0, T, N)) (hci : ci < 99) (hM : ∀ As σ Q', wp As σ Q' → zs_Met l y ws rm G As σ Q' mc ms) (cw : va_CN R s args own index y host bytes maxL ret ws rm mc ms n ∧ (Cond.instanceMethod y).before args s = true ∧ (Cond.selects C0 y y).before args s = true) (hd : decode cc pc = .ok (.invokevirtual index, 3)) (h : zs_At p l e R s m args below meth c Q G nL (pc + 3) K) : zs_At p l e R s m args below meth c Q G nL pc (zt_cav ci wp (n + 1) mc ms MC MS K) := by
  intro L st σ ls H locs cs ss hP hl hH hS
  unfold zt_cav at hP
  split at hP
  · next v As r hA =>
    obtain ⟨f0, ⟨f1, f2⟩, b1, b2, hw⟩ := hP
    obtain ⟨bs, e1, e2, e3⟩ := zs_args_spec (n + 1) [] st hA
    simp at e3
    have e4 : bs = As.reverse ++ [.ref v] := by rw [← List.reverse_reverse bs, ← e3]; simp
    subst e1 e4
    refine zs_call (rest := r.map (zs_tr G)) (va_runVN (As := As.map (zs_tr G)) (rest := r.map (zs_tr G)) C.1 (hM _ _ _ hw) cw ⟨zs_blind _ _ _, zs_recv C hc hci f0 hH, fun U hU hW => zs_pre (As := .ref v :: As) C hH hS U hU hW⟩ rfl (by simp at e2; simp [e2]) hl.1 (by simp; rfl) (lv_room (by rw [zs_c1_sum G f2]; exact f1)) hd ⟨hMC ▸ b1, hMS ▸ b2⟩) hS ?_
    intro r1 σ' H1 locs1 q1 q2 q3
    rw [zs_st]
    exact h _ _ _ _ _ _ _ _ q1 hl q2 q3
  · exact hP.elim
/-- a constructor's call; n: the values without the receiver -/
def zt_cai (wp : zs_W) (n mc ms MC MS : Nat) (K : zs_P) (L : List (Option Value)) (st : List Value) (σ : zs_S) (c s : Nat) : Prop := match zs_args n [] st with
  | some (.ref v :: As, r) => zs_fits r ∧ c + mc ≤ MC ∧ s + ms ≤ MS ∧ wp (.ref v :: As) σ (fun x σ' => K L (x.toList ++ r) σ' (c + mc) (s + ms))
  | _ => False
theorem za_cI (C : zs_C p s m args c G cc nL own Ts) {wp : zs_W} {y : MethodName} {bytes : ByteArray} {maxL index : Nat} {ws : List Cond} {rm : Room} (n mc ms MC MS : Nat) (hMC : MC = R.cells) (hMS : MS = R.slots) (hM : ∀ As σ Q', wp As σ Q' → zs_Met l y ws rm G As σ Q' mc ms) (cw : CallB R s args own index y bytes maxL none ws rm mc ms n ∧ y.name = "<init>" ∧ (Cond.instanceMethod y).before args s = true) (hd : decode cc pc = .ok (.invokespecial index, 3)) (h : zs_At p l e R s m args below meth c Q G nL (pc + 3) K) : zs_At p l e R s m args below meth c Q G nL pc (zt_cai wp (n + 1) mc ms MC MS K) := by
  intro L st σ ls H locs cs ss hP hl hH hS
  unfold zt_cai at hP
  split at hP
  · next v As r hA =>
    obtain ⟨⟨f1, f2⟩, b1, b2, hw⟩ := hP
    obtain ⟨bs, e1, e2, e3⟩ := zs_args_spec (n + 1) [] st hA
    simp at e3
    have e4 : bs = As.reverse ++ [.ref v] := by rw [← List.reverse_reverse bs, ← e3]; simp
    subst e1 e4
    refine zs_call (rest := r.map (zs_tr G)) (va_runI (As := As.map (zs_tr G)) (rest := r.map (zs_tr G)) C.1 (hM _ _ _ hw) cw ⟨zs_blind _ _ _, fun U hU hW => zs_pre (As := .ref v :: As) C hH hS U hU hW⟩ rfl (by simp at e2; simp [e2]) hl.1 (by simp; rfl) (lv_room (by rw [zs_c1_sum G f2]; exact f1)) hd ⟨hMC ▸ b1, hMS ▸ b2⟩) hS ?_
    intro r1 σ' H1 locs1 q1 q2 q3
    rw [zs_st]
    exact h _ _ _ _ _ _ _ _ q1 hl q2 q3
  · exact hP.elim
theorem za_cIN (C : zs_C p s m args c G cc nL own Ts) {wp : zs_W} {y : MethodName} {host : String} {bytes : ByteArray} {maxL index : Nat} {ws : List Cond} {rm : Room} (n mc ms MC MS : Nat) (hMC : MC = R.cells) (hMS : MS = R.slots) (hM : ∀ As σ Q', wp As σ Q' → zs_Met l y ws rm G As σ Q' mc ms) (cw : va_CN R s args own index y host bytes maxL none ws rm mc ms n ∧ y.name = "<init>" ∧ (Cond.instanceMethod y).before args s = true) (hd : decode cc pc = .ok (.invokespecial index, 3)) (h : zs_At p l e R s m args below meth c Q G nL (pc + 3) K) : zs_At p l e R s m args below meth c Q G nL pc (zt_cai wp (n + 1) mc ms MC MS K) := by
  intro L st σ ls H locs cs ss hP hl hH hS
  unfold zt_cai at hP
  split at hP
  · next v As r hA =>
    obtain ⟨⟨f1, f2⟩, b1, b2, hw⟩ := hP
    obtain ⟨bs, e1, e2, e3⟩ := zs_args_spec (n + 1) [] st hA
    simp at e3
    have e4 : bs = As.reverse ++ [.ref v] := by rw [← List.reverse_reverse bs, ← e3]; simp
    subst e1 e4
    refine zs_call (rest := r.map (zs_tr G)) (va_runIN (As := As.map (zs_tr G)) (rest := r.map (zs_tr G)) C.1 (hM _ _ _ hw) cw ⟨zs_blind _ _ _, fun U hU hW => zs_pre (As := .ref v :: As) C hH hS U hU hW⟩ rfl (by simp at e2; simp [e2]) hl.1 (by simp; rfl) (lv_room (by rw [zs_c1_sum G f2]; exact f1)) hd ⟨hMC ▸ b1, hMS ▸ b2⟩) hS ?_
    intro r1 σ' H1 locs1 q1 q2 q3
    rw [zs_st]
    exact h _ _ _ _ _ _ _ _ q1 hl q2 q3
  · exact hP.elim
/-- ends -/
theorem za_irt (C : zs_C p s m args c G cc nL own Ts) {Q1 : zs_Q} (MC MS : Nat) (hr : meth.sig.returnType = some .int) (hlk : meth.locks = false) (hd : decode cc pc = .ok (.ireturn, 1)) : zs_At p l e R s m args below meth c (MQ below (zs_Qc G Q1) args s MC MS (fun q => zg_z G ≤ q)) G nL pc (zt_irt MC MS Q1) := by
  intro L st σ ls H locs cs ss hP hl hH hS
  unfold zt_irt at hP
  split at hP
  · next x => exact W.widen hP.1 hP.2.1 (W.iret C.1.1 C.1.2.1 hr (fun t ht hW => ⟨⟨some (.int x), σ, rfl, hP.2.2, by rw [ht]; exact hH⟩, hS.F ht⟩) hS.2.2 hd hlk)
  · exact hP.elim
theorem za_zrt (C : zs_C p s m args c G cc nL own Ts) {Q1 : zs_Q} (MC MS : Nat) (hr : meth.sig.returnType = some .boolean) (hlk : meth.locks = false) (hd : decode cc pc = .ok (.ireturn, 1)) : zs_At p l e R s m args below meth c (MQ below (zs_Qc G Q1) args s MC MS (fun q => zg_z G ≤ q)) G nL pc (zt_zrt MC MS Q1) := by
  intro L st σ ls H locs cs ss hP hl hH hS
  unfold zt_zrt at hP
  split at hP
  · next x => exact W.widen hP.1 hP.2.1 (W.zret C.1.1 C.1.2.1 hr (by rcases hP.2.2.1 with q | q <;> subst q <;> rfl) (fun t ht hW => ⟨⟨some (.int x), σ, rfl, hP.2.2.2, by rw [ht]; exact hH⟩, hS.F ht⟩) hS.2.2 hd hlk)
  · exact hP.elim
theorem za_art (C : zs_C p s m args c G cc nL own Ts) {Q1 : zs_Q} {rt : FieldType} (MC MS : Nat) (hr : meth.sig.returnType = some rt) (hrt : (∃ n, rt = .object n) ∨ ∃ t, rt = .array t) (hlk : meth.locks = false) (hd : decode cc pc = .ok (.areturn, 1)) : zs_At p l e R s m args below meth c (MQ below (zs_Qc G Q1) args s MC MS (fun q => zg_z G ≤ q)) G nL pc (zt_art MC MS Q1) := by
  intro L st σ ls H locs cs ss hP hl hH hS
  unfold zt_art at hP
  split at hP
  · next v => exact W.widen hP.1 hP.2.1 (W.aret C.1.1 C.1.2.1 hr hrt (Or.inr ⟨_, rfl⟩) (fun t ht hW => ⟨⟨some (.ref v), σ, rfl, hP.2.2, by rw [ht]; exact hH⟩, hS.F ht⟩) hS.2.2 hd hlk)
  · exact W.widen hP.1 hP.2.1 (W.aret C.1.1 C.1.2.1 hr hrt (Or.inl rfl) (fun t ht hW => ⟨⟨some .null, σ, rfl, hP.2.2, by rw [ht]; exact hH⟩, hS.F ht⟩) hS.2.2 hd hlk)
  · exact hP.elim
theorem za_vrt (C : zs_C p s m args c G cc nL own Ts) {Q1 : zs_Q} (MC MS : Nat) (hr : meth.sig.returnType = none) (hlk : meth.locks = false) (hd : decode cc pc = .ok (.return_, 1)) : zs_At p l e R s m args below meth c (MQ below (zs_Qc G Q1) args s MC MS (fun q => zg_z G ≤ q)) G nL pc (zt_vrt MC MS Q1) := by
  intro L st σ ls H locs cs ss hP hl hH hS
  unfold zt_vrt at hP
  split at hP
  · exact W.widen hP.1 hP.2.1 (W.vret C.1.1 C.1.2.1 hr (fun t ht hW => ⟨⟨none, σ, rfl, hP.2.2, by rw [ht]; exact hH⟩, hS.F ht⟩) hS.2.2 hd hlk)
  · exact hP.elim
end ZB
/-- the locals at a method's entry -/
theorem zs_args_lv (G : zs_G) : ∀ (As : List Value) (i : Nat), zs_c1 As = true → ∀ (j : Nat) (v : Value), As[j]? = some v → v.category = 1 ∧ (i + j, zs_tr G v) ∈ lv_args i (As.map (zs_tr G))
  | [], _, _, j, v, h => by simp at h
  | a :: As, i, hc, j, v, h => by
    have h1 : a.category = 1 ∧ zs_c1 As = true := by simpa [zs_c1] using hc
    have h2 : ¬ (zs_tr G a).category = 2 := by rw [zs_tr_cat, h1.1]; decide
    rw [List.map_cons]
    unfold lv_args
    rw [if_neg h2]
    cases j with
    | zero =>
      have : a = v := by simpa using h
      subst this
      exact ⟨h1.1, List.mem_cons_self⟩
    | succ j =>
      obtain ⟨g1, g2⟩ := zs_args_lv G As (i + 1) h1.2 j v (by simpa using h)
      refine ⟨g1, List.mem_cons_of_mem _ ?_⟩
      rw [show i + (j + 1) = i + 1 + j by omega]
      exact g2
theorem zs_sl_len (G : zs_G) : ∀ (As : List Value), zs_c1 As = true → (lg_sl (As.map (zs_tr G))).length = As.length
  | [], _ => rfl
  | a :: As, hc => by
    have h1 : a.category = 1 ∧ zs_c1 As = true := by simpa [zs_c1] using hc
    have h2 := zs_sl_len G As h1.2
    have h3 : (zs_tr G a).category = 1 := by rw [zs_tr_cat]; exact h1.1
    have h4 : lg_sl ((a :: As).map (zs_tr G)) = Slot.val (zs_tr G a) :: lg_sl (As.map (zs_tr G)) := by simp [lg_sl, h3]
    rw [h4, List.length_cons, h2, List.length_cons]
theorem zs_entry (G : zs_G) {As : List Value} {n : Nat} (hc : zs_c1 As = true) (hn : As.length ≤ n) : zs_has G ((lg_sl (As.map (zs_tr G)) ++ List.replicate (n - (lg_sl (As.map (zs_tr G))).length) Slot.unset).toArray) n (As.map some ++ List.replicate (n - As.length) none) := by
  have h := lv_entry (As.map (zs_tr G)) (n := n) (by rw [zs_sl_len G As hc]; exact hn)
  refine ⟨h.1, h.2.1, by simp; omega, fun i v hi => ?_⟩
  by_cases hlt : i < As.length
  · rw [List.getElem?_append_left (by simpa using hlt)] at hi
    have hi' : As[i]? = some v := by simpa using hi
    obtain ⟨g1, g2⟩ := zs_args_lv G As 0 hc i v hi'
    rw [Nat.zero_add] at g2
    exact ⟨g1, h.2.2 _ g2⟩
  · rw [List.getElem?_append_right (by simp; omega)] at hi
    have := List.mem_of_getElem? hi
    simp at this
/-- what a method's walk may lean on -/
def zs_B (p : Program) (s : State) (m : MethodId) (args : Array Value) (meth : Method) (c : Code) (G : zs_G) (cc : ByteArray) (nL : Nat) (y : MethodName) (ret : Option FieldType) : Prop :=
  zs_C p s m args c G cc nL y.cls zw_all ∧ meth.sig.returnType = ret ∧ meth.locks = false ∧ meth.name = y.name
theorem zs_enter {l : Launch} {y : MethodName} {rm : Room} {cc : ByteArray} {maxL : Nat} {ret : Option FieldType} {mc ms : Nat} {G : zs_G} {As : List Value} {σ : zs_S} {Q : zs_Q} {P : zs_P} (hy : plainName y.cls = true) (hc : zs_c1 As = true) (hn : As.length ≤ maxL) (hP : P (As.map some ++ List.replicate (maxL - As.length) none) [] σ 0 0)
    (body : ∀ p e s m args below meth c, zs_B p s m args meth c G cc maxL y ret → zs_At p l e rm s m args below meth c (MQ below (zs_Qc G Q) args s mc ms (fun q => zg_z G ≤ q)) G maxL 0 P) : zs_Met l y (Cond.code y cc maxL ret :: zw_all) rm G As σ Q mc ms := by
  refine Met.ofW (cc := cc) (maxL := maxL) (ret := ret) hy rfl ?_
  intro p e s m args below meth c s₁ B hml hv
  obtain ⟨rfl, hH, hU⟩ := hv
  rw [lg_entry_eq]
  exact body p e s m _ below meth c ⟨⟨⟨B.exec, B.bytes, hml, findClass_of_methodNamed B.named, fun w hw => atoms_spec (ws := Cond.code y cc maxL ret :: zw_all) B.pre w (List.mem_cons_of_mem _ hw)⟩, hU, by rw [hH.1]; exact Nat.le_add_right _ _⟩, B.returns, B.notSynchronized, (name_of_methodNamed B.named B.method).1⟩ _ [] σ _ _ [] 0 0 hP (zs_entry G hc hn) hH va_S.rf
