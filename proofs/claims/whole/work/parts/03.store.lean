/-! The pure store: cells are numbered 0, 1, ..; cell v has the address z + v. A store is (how many cells, kind and length of a cell, its ints, its references). Kinds below 99: objects of that class of vwCl; 99: no cell; 100: int[]; 101: boolean[]; 110 + j: an array of references to objects of class j. -/
abbrev zs_S : Type := Nat × (Nat → Nat × Nat) × (Nat → Nat → Int32) × (Nat → Nat → Option Nat)
def zs_n (σ : zs_S) : Nat := σ.1
def zs_K (σ : zs_S) : Nat → Nat × Nat := σ.2.1
def zs_I (σ : zs_S) : Nat → Nat → Int32 := σ.2.2.1
def zs_R (σ : zs_S) : Nat → Nat → Option Nat := σ.2.2.2
def zs_pI (σ : zs_S) (v k : Nat) (x : Int32) : zs_S := (σ.1, σ.2.1, va_up σ.2.2.1 v (upd (σ.2.2.1 v) k x), σ.2.2.2)
def zs_pF (σ : zs_S) (v : Nat) (f : Nat → Int32) : zs_S := (σ.1, σ.2.1, va_up σ.2.2.1 v f, σ.2.2.2)
def zs_pR (σ : zs_S) (v k : Nat) (r : Option Nat) : zs_S := (σ.1, σ.2.1, σ.2.2.1, va_up σ.2.2.2 v (va_up (σ.2.2.2 v) k r))
def zs_nw (σ : zs_S) (q : Nat × Nat) : zs_S := (σ.1 + 1, va_up σ.2.1 σ.1 q, va_up σ.2.2.1 σ.1 (fun _ => 0), va_up σ.2.2.2 σ.1 (fun _ => none))
/-- what stays the same during a run: the classes, the array classes, the first address, the script's cell, its length and ints -/
abbrev zs_G : Type := va_G × (Nat → ClassId) × Nat × Nat × Nat × (Nat → Int32)
def zg_D (G : zs_G) : va_G := G.1
def zg_A (G : zs_G) : Nat → ClassId := G.2.1
def zg_z (G : zs_G) : Nat := G.2.2.1
def zg_b (G : zs_G) : Nat := G.2.2.2.1
def zg_L (G : zs_G) : Nat := G.2.2.2.2.1
def zg_x (G : zs_G) : Nat → Int32 := G.2.2.2.2.2
/-- a pure value on the machine; the script itself is written as a float -/
def zs_tr (G : zs_G) (v : Value) : Value := match v with
  | .ref a => .ref (zg_z G + a)
  | .float _ => .ref (zg_b G)
  | x => x
def zs_rv (o : Option Nat) : Value := match o with
  | none => .null
  | some w => .ref w
def zs_mp (z : Nat) (o : Option Nat) : Option Nat := o.map (fun w => z + w)
theorem zs_tr_rv (G : zs_G) (o : Option Nat) : zs_tr G (zs_rv o) = va_rf (zs_mp (zg_z G) o) := by cases o <;> rfl
theorem zs_tr_cat (G : zs_G) (v : Value) : (zs_tr G v).category = v.category := by cases v <;> rfl
def zs_fl (z : Nat) (I : Nat → Int32) (R : Nat → Option Nat) : List Bool → Nat → List Value
  | [], _ => []
  | true :: l, k => .int (I k) :: zs_fl z I R l (k + 1)
  | false :: l, k => va_rf (zs_mp z (R k)) :: zs_fl z I R l (k + 1)
theorem zs_fl_get (z : Nat) (I : Nat → Int32) (R : Nat → Option Nat) : ∀ (l : List Bool) (j i : Nat), (zs_fl z I R l j)[i]? = (l[i]?).map (fun b => if b then Value.int (I (j + i)) else va_rf (zs_mp z (R (j + i))))
  | [], j, i => by simp [zs_fl]
  | true :: l, j, 0 => by simp [zs_fl]
  | false :: l, j, 0 => by simp [zs_fl]
  | true :: l, j, i + 1 => by
    have h := zs_fl_get z I R l (j + 1) i
    simp only [zs_fl, List.getElem?_cons_succ, h]
    rw [show j + 1 + i = j + (i + 1) by omega]
  | false :: l, j, i + 1 => by
    have h := zs_fl_get z I R l (j + 1) i
    simp only [zs_fl, List.getElem?_cons_succ, h]
    rw [show j + 1 + i = j + (i + 1) by omega]
theorem zs_fl_len (z : Nat) (I : Nat → Int32) (R : Nat → Option Nat) : ∀ (l : List Bool) (j : Nat), (zs_fl z I R l j).length = l.length
  | [], _ => rfl
  | true :: l, j => by simp [zs_fl, zs_fl_len z I R l (j + 1)]
  | false :: l, j => by simp [zs_fl, zs_fl_len z I R l (j + 1)]
theorem zs_fl_setI (z : Nat) (I : Nat → Int32) (R : Nat → Option Nat) (l : List Bool) (i : Nat) (x : Int32) (h : l[i]? = some true) : (zs_fl z I R l 0).set i (.int x) = zs_fl z (upd I i x) R l 0 := by
  apply List.ext_getElem?
  intro q
  rw [List.getElem?_set, zs_fl_get, zs_fl_get, zs_fl_len]
  by_cases e : i = q
  · subst e
    have hl : i < l.length := (List.getElem?_eq_some_iff.mp h).1
    rw [if_pos rfl, if_pos hl, h]
    simp [upd]
  · simp only [e, if_false]
    cases l[q]? with
    | none => rfl
    | some b => cases b <;> simp [upd, Ne.symm e]
theorem zs_fl_setR (z : Nat) (I : Nat → Int32) (R : Nat → Option Nat) (l : List Bool) (i : Nat) (r : Option Nat) (h : l[i]? = some false) : (zs_fl z I R l 0).set i (va_rf (zs_mp z r)) = zs_fl z I (va_up R i r) l 0 := by
  apply List.ext_getElem?
  intro q
  rw [List.getElem?_set, zs_fl_get, zs_fl_get, zs_fl_len]
  by_cases e : i = q
  · subst e
    have hl : i < l.length := (List.getElem?_eq_some_iff.mp h).1
    rw [if_pos rfl, if_pos hl, h]
    simp [va_up]
  · simp only [e, if_false]
    cases l[q]? with
    | none => rfl
    | some b => cases b <;> simp [va_up, Ne.symm e]
def zs_E (G : zs_G) (σ : zs_S) (v : Nat) : va_E :=
  if (zs_K σ v).1 < 100 then .inr ((zs_K σ v).1, zs_fl (zg_z G) (zs_I σ v) (zs_R σ v) (zs_ft (zs_K σ v).1) 0)
  else if (zs_K σ v).1 < 110 then .inl (zg_A G (zs_K σ v).1, (zs_K σ v).2, .inl (zs_I σ v))
  else .inl (zg_A G (zs_K σ v).1, (zs_K σ v).2, .inr (.inr (.inr (.inr (fun i => zs_mp (zg_z G) (zs_R σ v i))))))
theorem zs_E_ob {G : zs_G} {σ : zs_S} {v ci : Nat} (h : (zs_K σ v).1 = ci) (hci : ci < 99) : zs_E G σ v = .inr (ci, zs_fl (zg_z G) (zs_I σ v) (zs_R σ v) (zs_ft ci) 0) := by
  unfold zs_E
  rw [h, if_pos (by omega)]
theorem zs_E_in {G : zs_G} {σ : zs_S} {v kd : Nat} (h : (zs_K σ v).1 = kd) (h1 : ¬ kd < 100) (h2 : kd < 110) : zs_E G σ v = .inl (zg_A G kd, (zs_K σ v).2, .inl (zs_I σ v)) := by
  unfold zs_E
  rw [h, if_neg h1, if_pos h2]
theorem zs_E_rf {G : zs_G} {σ : zs_S} {v kd : Nat} (h : (zs_K σ v).1 = kd) (h2 : ¬ kd < 110) : zs_E G σ v = .inl (zg_A G kd, (zs_K σ v).2, .inr (.inr (.inr (.inr (fun i => zs_mp (zg_z G) (zs_R σ v i)))))) := by
  unfold zs_E
  rw [h, if_neg (by omega), if_neg h2]
theorem zs_E_congr {G : zs_G} {σ σ' : zs_S} {w : Nat} (hK : zs_K σ' w = zs_K σ w) (hI : zs_I σ' w = zs_I σ w) (hR : zs_R σ' w = zs_R σ w) : zs_E G σ' w = zs_E G σ w := by
  unfold zs_E
  rw [hK, hI, hR]
theorem zs_up_self {α : Type} (f : Nat → α) (k : Nat) (v : α) : va_up f k v k = v := by simp [va_up]
theorem zs_up_ne {α : Type} (f : Nat → α) {k j : Nat} (v : α) (h : ¬ j = k) : va_up f k v j = f j := by simp [va_up, h]
def zs_wl (z : Nat) (n : Nat) (E : Nat → va_E) : va_W := (List.range n).map (fun v => (z + v, E v))
theorem zs_wl_get {z n v : Nat} {E : Nat → va_E} (h : v < n) : (zs_wl z n E)[v]? = some (z + v, E v) := by simp [zs_wl, h]
theorem zs_wl_set {z n v : Nat} {E : Nat → va_E} (e : va_E) : (zs_wl z n E).set v (z + v, e) = zs_wl z n (va_up E v e) := by
  apply List.ext_getElem?
  intro q
  rw [List.getElem?_set]
  by_cases h : v = q
  · subst h
    by_cases hl : v < n <;> simp [zs_wl, hl, va_up]
  · simp only [h, if_false]
    by_cases hl : q < n <;> simp [zs_wl, hl, va_up, Ne.symm h]
theorem zs_wl_push {z n : Nat} {E : Nat → va_E} (e : va_E) : zs_wl z n E ++ [(z + n, e)] = zs_wl z (n + 1) (va_up E n e) := by
  simp only [zs_wl, List.range_succ, List.map_append, List.map_cons, List.map_nil]
  congr 1
  · apply List.map_congr_left
    intro a ha
    have : ¬ a = n := Nat.ne_of_lt (List.mem_range.mp ha)
    simp [va_up, this]
  · simp [va_up]
theorem zs_wl_D (z n : Nat) (E : Nat → va_E) : va_D (fun q => z ≤ q) (zs_wl z n E) := by
  have key : ∀ (i : Nat) (p : Nat × va_E), (zs_wl z n E)[i]? = some p → p.1 = z + i := by
    intro i p h
    by_cases hi : i < n
    · rw [zs_wl_get hi] at h; cases h; rfl
    · simp [zs_wl, hi] at h
  refine ⟨fun i j p q h1 h2 h3 => ?_, fun k q h => ?_⟩
  · have a := key i p h1
    have b := key j q h2
    omega
  · have a := key k q h
    show z ≤ q.1
    omega
/-- the heap holds the store -/
def zs_H (G : zs_G) (σ : zs_S) (H : Heap) : Prop := H.size = zg_z G + zs_n σ ∧ (∀ v, zs_n σ ≤ v → (zs_K σ v).1 = 99) ∧ va_P (zg_D G) vwCl (zs_wl (zg_z G) (zs_n σ) (zs_E G σ)) H
theorem zs_H.lt {G : zs_G} {σ : zs_S} {H : Heap} (h : zs_H G σ H) {v k : Nat} (hk : (zs_K σ v).1 = k) (h9 : ¬ k = 99) : v < zs_n σ :=
  Nat.lt_of_not_le (fun q => h9 (hk.symm.trans (h.2.1 v q)))
/-- one cell is written -/
theorem zs_H.set {G : zs_G} {σ σ' : zs_S} {H H1 : Heap} {v : Nat} {e : va_E} (h : zs_H G σ H) (hv : v < zs_n σ) (hn : zs_n σ' = zs_n σ) (hK : zs_K σ' = zs_K σ) (hE : zs_E G σ' = va_up (zs_E G σ) v e) (hs : H1.size = H.size) (hat : va_at (zg_D G) vwCl (zg_z G + v, e) H1) (oq : ∀ q : Nat, q ≠ zg_z G + v → H1[q]? = H[q]?) : zs_H G σ' H1 := by
  refine ⟨by rw [hs, hn]; exact h.1, by rw [hn, hK]; exact h.2.1, ?_⟩
  rw [hn, hE, ← zs_wl_set]
  exact h.2.2.set (zs_wl_D _ _ _) (zs_wl_get hv) hat oq
/-- a new cell -/
theorem zs_H.push {G : zs_G} {σ : zs_S} {H H1 : Heap} {q : Nat × Nat} (h : zs_H G σ H) (hs : H1.size = H.size + 1) (oq : ∀ x : Nat, x < H.size → H1[x]? = H[x]?) (hat : va_at (zg_D G) vwCl (zg_z G + zs_n σ, zs_E G (zs_nw σ q) (zs_n σ)) H1) : zs_H G (zs_nw σ q) H1 := by
  have hE : zs_E G (zs_nw σ q) = va_up (zs_E G σ) (zs_n σ) (zs_E G (zs_nw σ q) (zs_n σ)) := by
    funext w
    by_cases e : w = zs_n σ
    · subst e; rw [zs_up_self]
    · rw [zs_up_ne _ _ e]
      have e' : ¬ w = σ.1 := e
      exact zs_E_congr (by simp [zs_K, zs_nw, va_up, e']) (by simp [zs_I, zs_nw, va_up, e']) (by simp [zs_R, zs_nw, va_up, e'])
  refine ⟨?_, fun v hv => ?_, ?_⟩
  · rw [hs, h.1]; rfl
  · have hv' : σ.1 + 1 ≤ v := hv
    have e : ¬ v = σ.1 := by omega
    have := h.2.1 v (by show σ.1 ≤ v; omega)
    simpa [zs_K, zs_nw, va_up, e] using this
  · rw [hE]
    show va_P _ _ (zs_wl (zg_z G) (zs_n σ + 1) _) _
    rw [← zs_wl_push]
    refine va_P.app (h.2.2.kept (fun k x hx => oq x.1 ((h.2.2 k x hx).lt))) (fun k x hx => ?_)
    have hz : k < 1 := (List.getElem?_eq_some_iff.mp hx).1
    rw [show k = 0 by omega] at hx
    cases hx
    exact hat
theorem zs_E_pIo {G : zs_G} {σ : zs_S} {v k ci : Nat} {x : Int32} (hk : (zs_K σ v).1 = ci) (hci : ci < 99) (hft : (zs_ft ci)[k]? = some true) : zs_E G (zs_pI σ v k x) = va_up (zs_E G σ) v (.inr (ci, (zs_fl (zg_z G) (zs_I σ v) (zs_R σ v) (zs_ft ci) 0).set k (.int x))) := by
  funext w
  by_cases e : w = v
  · subst e
    rw [zs_up_self, zs_fl_setI _ _ _ _ _ _ hft, zs_E_ob (σ := zs_pI σ w k x) (ci := ci) hk hci]
    simp [zs_I, zs_R, zs_pI, va_up]
  · rw [zs_up_ne _ _ e]
    exact zs_E_congr rfl (by simp [zs_I, zs_pI, va_up, e]) (by simp [zs_R, zs_pI, va_up, e])
theorem zs_E_pRo {G : zs_G} {σ : zs_S} {v k ci : Nat} {r : Option Nat} (hk : (zs_K σ v).1 = ci) (hci : ci < 99) (hft : (zs_ft ci)[k]? = some false) : zs_E G (zs_pR σ v k r) = va_up (zs_E G σ) v (.inr (ci, (zs_fl (zg_z G) (zs_I σ v) (zs_R σ v) (zs_ft ci) 0).set k (va_rf (zs_mp (zg_z G) r)))) := by
  funext w
  by_cases e : w = v
  · subst e
    rw [zs_up_self, zs_fl_setR _ _ _ _ _ _ hft, zs_E_ob (σ := zs_pR σ w k r) (ci := ci) hk hci]
    simp [zs_I, zs_R, zs_pR, va_up]
  · rw [zs_up_ne _ _ e]
    exact zs_E_congr rfl (by simp [zs_I, zs_pR, va_up, e]) (by simp [zs_R, zs_pR, va_up, e])
theorem zs_E_pFa {G : zs_G} {σ : zs_S} {v kd : Nat} {f : Nat → Int32} (hk : (zs_K σ v).1 = kd) (h1 : ¬ kd < 100) (h2 : kd < 110) : zs_E G (zs_pF σ v f) = va_up (zs_E G σ) v (.inl (zg_A G kd, (zs_K σ v).2, .inl f)) := by
  funext w
  by_cases e : w = v
  · subst e
    rw [zs_up_self, zs_E_in (σ := zs_pF σ w f) (kd := kd) hk h1 h2]
    simp [zs_I, zs_K, zs_pF, va_up]
  · rw [zs_up_ne _ _ e]
    exact zs_E_congr rfl (by simp [zs_I, zs_pF, va_up, e]) (by simp [zs_R, zs_pF, va_up, e])
theorem zs_E_pRa {G : zs_G} {σ : zs_S} {v k kd : Nat} {r : Option Nat} (hk : (zs_K σ v).1 = kd) (h2 : ¬ kd < 110) : zs_E G (zs_pR σ v k r) = va_up (zs_E G σ) v (.inl (zg_A G kd, (zs_K σ v).2, .inr (.inr (.inr (.inr (va_up (fun i => zs_mp (zg_z G) (zs_R σ v i)) k (zs_mp (zg_z G) r))))))) := by
  funext w
  by_cases e : w = v
  · subst e
    rw [zs_up_self, zs_E_rf (σ := zs_pR σ w k r) (kd := kd) hk h2]
    have hf : (fun i => zs_mp (zg_z G) (zs_R (zs_pR σ w k r) w i)) = va_up (fun i => zs_mp (zg_z G) (zs_R σ w i)) k (zs_mp (zg_z G) r) := by
      funext i
      by_cases ei : i = k <;> simp [zs_R, zs_pR, va_up, ei]
    rw [hf]
    rfl
  · rw [zs_up_ne _ _ e]
    exact zs_E_congr rfl (by simp [zs_I, zs_pR, va_up, e]) (by simp [zs_R, zs_pR, va_up, e])
