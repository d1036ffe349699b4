/-! System.arraycopy of ints, seen by the store. -/
section ZC
variable {p : Program} {l : Launch} {e : Env} {R : Room} {s : State} {m : MethodId} {args : Array Value} {below : List Frame} {meth : Method} {c : Code} {Q : State → Prop} {G : zs_G} {cc : ByteArray} {nL pc : Nat} {own : String} {Ts : List Cond} {K : zs_P}
theorem zs_nn (z : Int32) (hz : ¬ z < 0) : z.toInt = (z.toNatClampNeg : Int) := by
  have hz0 : (0 : Int) ≤ z.toInt := by
    have := Int32.not_lt.mp hz
    simpa using Int32.le_iff_toInt_le.mp this
  show z.toInt = ((z.toInt.toNat : Nat) : Int)
  omega
theorem za_jcp (C : zs_C p s m args c G cc nL own Ts) {index : Nat} (hR : 1 ≤ R.frames ∧ 8 + (nativeFrameWords "java/lang/System" "arraycopy" 5 + 11) ≤ R.locals) (hlink : Cond.methodLink own index arraycopyName ∈ Ts) (hnat : Cond.native arraycopyName ∈ Ts) (hstat : Cond.static arraycopyName ∈ Ts) (hini : Cond.initialized "java/lang/System" ∈ Ts) (hd : decode cc pc = .ok (.invokestatic index, 3)) (h : zs_At p l e R s m args below meth c Q G nL (pc + 3) K) : zs_At p l e R s m args below meth c Q G nL pc (zt_jcp K) := by
  intro L st σ ls H locs cs ss hP hl hH hS
  unfold zt_jcp at hP
  split at hP
  · next n dp w sp v r =>
    obtain ⟨⟨f1, f2⟩, h1, h2, h3, hkv, hkw, h4, h5, hP⟩ := hP
    have hv : v < zs_n σ := hH.lt hkv (by omega)
    have hw : w < zs_n σ := hH.lt hkw (by omega)
    have hc0 : H[zg_z G + v]? = some (vp_cell (zg_A G 100) ((zs_K σ v).2, .inl (zs_I σ v))) := by
      have := hH.2.2 v _ (zs_wl_get hv)
      rw [zs_E_in hkv (by omega) (by omega)] at this
      exact this
    have hc1 : H[zg_z G + w]? = some (vp_cell (zg_A G 100) ((zs_K σ w).2, .inl (zs_I σ w))) := by
      have := hH.2.2 w _ (zs_wl_get hw)
      rw [zs_E_in hkw (by omega) (by omega)] at this
      exact this
    have hsum := zs_c1_sum G f2
    intro T hT X
    obtain ⟨-, k0, hk0, cm0, hkk0⟩ := (C.2.1.1.2 0 _ rfl).1 (zs_K σ v).2 (fun j => .int (zs_I σ v j))
    obtain ⟨vm', X', step⟩ := X.arraycopy C.1.1 C.1.2.2.2.1 (C.1.2.2.2.2 _ hlink) (C.1.2.2.2.2 _ hnat) (C.1.2.2.2.2 _ hstat) (C.1.2.2.2.2 _ hini) (src := zg_z G + v) (dst := zg_z G + w) (cs := vp_cell (zg_A G 100) ((zs_K σ v).2, .inl (zs_I σ v))) (cd := vp_cell (zg_A G 100) ((zs_K σ w).2, .inl (zs_I σ w))) (srcPos := sp) (destPos := dp) (n := n) (by rw [hT]; exact hc0) (by rw [hT]; exact hc1)
      (fun _ h => by cases h) (fun _ h => by cases h) (fun h => by cases h) (fun h => by cases h) hk0 hk0 hkk0 hkk0 (by simp [refKind]) h1 h2 h3
      (by rw [zs_nn sp h1, zs_nn n h3]; show ¬ _ > ((arrV _ (zs_K σ v).2 (fun j => .int (zs_I σ v j))).slots.size : Int); rw [arrV_size]; omega)
      (by rw [zs_nn dp h2, zs_nn n h3]; show ¬ _ > ((arrV _ (zs_K σ w).2 (fun j => .int (zs_I σ w j))).slots.size : Int); rw [arrV_size]; omega)
      (fun vm₁ _ i hi => by
        have e0 : (vp_cell (zg_A G 100) ((zs_K σ v).2, .inl (zs_I σ v))).slots.getD (sp.toNatClampNeg + i) .null = .int (zs_I σ v (sp.toNatClampNeg + i)) := by
          show (arrV _ (zs_K σ v).2 (fun j => .int (zs_I σ v j))).slots.getD _ _ = _
          rw [Array.getD_eq_getD_getElem?, arrV_read _ _ (by omega)]
          rfl
        refine ⟨?_, ?_⟩
        · rw [e0]; rfl
        · rw [e0]; exact trivial)
      (g := F0 m pc ls ((Value.int n :: .int dp :: .ref w :: .int sp :: .ref v :: r).map (zs_tr G))) rfl (by rw [C.1.2.2.1]; exact hl.1) (rest := r.map (zs_tr G)) rfl (by rw [C.1.2.1]; exact hd) hR.1 (by show 2 * 0 + _ + _ ≤ _; rw [hsum]; omega)
    have e1 : copied (vp_cell (zg_A G 100) ((zs_K σ v).2, .inl (zs_I σ v))) (vp_cell (zg_A G 100) ((zs_K σ w).2, .inl (zs_I σ w))) sp dp n = vp_cell (zg_A G 100) ((zs_K σ w).2, .inl (va_cpy (zs_I σ v) (zs_I σ w) sp.toNatClampNeg dp.toNatClampNeg n.toNatClampNeg)) := va_copied (fun z => .int z) _ _ (zs_I σ v) (zs_I σ w) h4
    rw [e1] at X' step
    have hlt : zg_z G + w < H.size := (Array.getElem?_eq_some_iff.mp hc1).1
    generalize hnew : vp_cell (zg_A G 100) ((zs_K σ w).2, .inl (va_cpy (zs_I σ v) (zs_I σ w) sp.toNatClampNeg dp.toNatClampNeg n.toNatClampNeg)) = nc at X' step
    have hheap : ((T.setVm vm').setCell (zg_z G + w) nc).heap = H.setIfInBounds (zg_z G + w) nc := by rw [← hT]; rfl
    have oq : ∀ q : Nat, q ≠ zg_z G + w → (H.setIfInBounds (zg_z G + w) nc)[q]? = H[q]? := fun q hq => by simp [Array.getElem?_setIfInBounds, Ne.symm hq]
    have hz : (H.setIfInBounds (zg_z G + w) nc).size = H.size := by simp
    obtain ⟨t, a1, b1⟩ := h _ _ _ _ _ _ _ _ hP hl (hH.set hw rfl rfl (zs_E_pFa hkw (by omega) (by omega)) hz (by
        show (H.setIfInBounds (zg_z G + w) nc)[zg_z G + w]? = some (vp_cell _ _)
        rw [hnew]
        simp [Array.getElem?_setIfInBounds, hlt]) oq) ⟨by rw [hz]; exact hS.1, fun q g1 g2 => by
        rw [oq q (fun e => g2 (by rw [e]; exact Nat.le_add_right _ _))]
        exact hS.2.1 q g1 g2, fun q hq => by
        rcases List.mem_append.mp hq with h | h
        · exact hS.2.2 q h
        · obtain ⟨z, -, hz⟩ := List.mem_map.mp h
          rw [← hz]
          exact Nat.le_add_right _ _⟩ _ hheap X'
    exact ⟨t, step t a1, b1⟩
  · exact hP.elim
end ZC
