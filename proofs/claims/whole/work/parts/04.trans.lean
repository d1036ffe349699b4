/-! Transformers: what an instruction asks of a pure machine state (locals, stack, store, cells and slots made so far) so that K holds behind it. -/
abbrev zs_P : Type := List (Option Value) → List Value → zs_S → Nat → Nat → Prop
abbrev zs_Q : Type := Option Value → zs_S → Prop
abbrev zs_W : Type := List Value → zs_S → zs_Q → Prop
def zt_ild (i : Nat) (K : zs_P) (L : List (Option Value)) (st : List Value) (σ : zs_S) (c s : Nat) : Prop := match L[i]? with
  | some (some (.int x)) => K L (.int x :: st) σ c s
  | _ => False
def zt_ald (i : Nat) (K : zs_P) (L : List (Option Value)) (st : List Value) (σ : zs_S) (c s : Nat) : Prop := match L[i]? with
  | some (some (.ref v)) => K L (.ref v :: st) σ c s
  | some (some .null) => K L (.null :: st) σ c s
  | some (some (.float u)) => K L (.float u :: st) σ c s
  | _ => False
def zt_ist (i : Nat) (K : zs_P) (L : List (Option Value)) (st : List Value) (σ : zs_S) (c s : Nat) : Prop := match st with
  | .int x :: r => K (L.set i (some (.int x))) r σ c s
  | _ => False
def zt_ast (i : Nat) (K : zs_P) (L : List (Option Value)) (st : List Value) (σ : zs_S) (c s : Nat) : Prop := match st with
  | .ref v :: r => K (L.set i (some (.ref v))) r σ c s
  | .null :: r => K (L.set i (some .null)) r σ c s
  | _ => False
def zt_inc (i : Nat) (n : Int32) (K : zs_P) (L : List (Option Value)) (st : List Value) (σ : zs_S) (c s : Nat) : Prop := match L[i]? with
  | some (some (.int x)) => K (L.set i (some (.int (x + n)))) st σ c s
  | _ => False
def zt_psh (x : Int32) (K : zs_P) (L : List (Option Value)) (st : List Value) (σ : zs_S) (c s : Nat) : Prop := K L (.int x :: st) σ c s
def zt_nul (K : zs_P) (L : List (Option Value)) (st : List Value) (σ : zs_S) (c s : Nat) : Prop := K L (.null :: st) σ c s
def zt_bin (f : Int32 → Int32 → Int32) (K : zs_P) (L : List (Option Value)) (st : List Value) (σ : zs_S) (c s : Nat) : Prop := match st with
  | .int y :: .int x :: r => K L (.int (f x y) :: r) σ c s
  | _ => False
def zt_div (f : Int32 → Int32 → Int32) (K : zs_P) (L : List (Option Value)) (st : List Value) (σ : zs_S) (c s : Nat) : Prop := match st with
  | .int y :: .int x :: r => (¬ y = 0) ∧ K L (.int (f x y) :: r) σ c s
  | _ => False
def zt_if (t : Int32 → Prop) (K1 K2 : zs_P) (L : List (Option Value)) (st : List Value) (σ : zs_S) (c s : Nat) : Prop := match st with
  | .int x :: r => (t x → K1 L r σ c s) ∧ (¬ t x → K2 L r σ c s)
  | _ => False
def zt_cmp (t : Int32 → Int32 → Prop) (K1 K2 : zs_P) (L : List (Option Value)) (st : List Value) (σ : zs_S) (c s : Nat) : Prop := match st with
  | .int y :: .int x :: r => (t x y → K1 L r σ c s) ∧ (¬ t x y → K2 L r σ c s)
  | _ => False
def zt_ifn (K1 K2 : zs_P) (L : List (Option Value)) (st : List Value) (σ : zs_S) (c s : Nat) : Prop := match st with
  | .null :: r => K1 L r σ c s
  | .ref _ :: r => K2 L r σ c s
  | _ => False
def zt_dup (K : zs_P) (L : List (Option Value)) (st : List Value) (σ : zs_S) (c s : Nat) : Prop := match st with
  | a :: r => a.category = 1 ∧ K L (a :: a :: r) σ c s
  | _ => False
def zt_du2 (K : zs_P) (L : List (Option Value)) (st : List Value) (σ : zs_S) (c s : Nat) : Prop := match st with
  | a :: b :: r => a.category = 1 ∧ b.category = 1 ∧ K L (a :: b :: a :: b :: r) σ c s
  | _ => False
def zt_pop (K : zs_P) (L : List (Option Value)) (st : List Value) (σ : zs_S) (c s : Nat) : Prop := match st with
  | a :: r => a.category = 1 ∧ K L r σ c s
  | _ => False
def zt_gtI (ci k : Nat) (K : zs_P) (L : List (Option Value)) (st : List Value) (σ : zs_S) (c s : Nat) : Prop := match st with
  | .ref v :: r => (zs_K σ v).1 = ci ∧ K L (.int (zs_I σ v k) :: r) σ c s
  | _ => False
def zt_gtR (ci k : Nat) (K : zs_P) (L : List (Option Value)) (st : List Value) (σ : zs_S) (c s : Nat) : Prop := match st with
  | .ref v :: r => (zs_K σ v).1 = ci ∧ K L (zs_rv (zs_R σ v k) :: r) σ c s
  | _ => False
def zt_ptI (ci k : Nat) (K : zs_P) (L : List (Option Value)) (st : List Value) (σ : zs_S) (c s : Nat) : Prop := match st with
  | .int x :: .ref v :: r => (zs_K σ v).1 = ci ∧ K L r (zs_pI σ v k x) c s
  | _ => False
def zt_ptZ (ci k : Nat) (K : zs_P) (L : List (Option Value)) (st : List Value) (σ : zs_S) (c s : Nat) : Prop := match st with
  | .int x :: .ref v :: r => (zs_K σ v).1 = ci ∧ (x = 0 ∨ x = 1) ∧ K L r (zs_pI σ v k x) c s
  | _ => False
def zt_ptR (ci k : Nat) (K : zs_P) (L : List (Option Value)) (st : List Value) (σ : zs_S) (c s : Nat) : Prop := match st with
  | .ref w :: .ref v :: r => (zs_K σ v).1 = ci ∧ K L r (zs_pR σ v k (some w)) c s
  | .null :: .ref v :: r => (zs_K σ v).1 = ci ∧ K L r (zs_pR σ v k none) c s
  | _ => False
def zt_xld (kd : Nat) (K : zs_P) (L : List (Option Value)) (st : List Value) (σ : zs_S) (c s : Nat) : Prop := match st with
  | .int i :: .ref v :: r => (zs_K σ v).1 = kd ∧ vp_in i (zs_K σ v).2 ∧ K L (.int (zs_I σ v i.toNatClampNeg) :: r) σ c s
  | _ => False
/-- a load from the script -/
def zt_sld (G : zs_G) (K : zs_P) (L : List (Option Value)) (st : List Value) (σ : zs_S) (c s : Nat) : Prop := match st with
  | .int i :: .float _ :: r => vp_in i (zg_L G) ∧ K L (.int (zg_x G i.toNatClampNeg) :: r) σ c s
  | _ => False
def zt_sln (G : zs_G) (K : zs_P) (L : List (Option Value)) (st : List Value) (σ : zs_S) (c s : Nat) : Prop := match st with
  | .float _ :: r => K L (.int (nI (zg_L G)) :: r) σ c s
  | _ => False
def zt_rld (kd : Nat) (K : zs_P) (L : List (Option Value)) (st : List Value) (σ : zs_S) (c s : Nat) : Prop := match st with
  | .int i :: .ref v :: r => (zs_K σ v).1 = kd ∧ vp_in i (zs_K σ v).2 ∧ K L (zs_rv (zs_R σ v i.toNatClampNeg) :: r) σ c s
  | _ => False
def zt_ias (K : zs_P) (L : List (Option Value)) (st : List Value) (σ : zs_S) (c s : Nat) : Prop := match st with
  | .int x :: .int i :: .ref v :: r => (zs_K σ v).1 = 100 ∧ vp_in i (zs_K σ v).2 ∧ K L r (zs_pI σ v i.toNatClampNeg x) c s
  | _ => False
def zt_zas (K : zs_P) (L : List (Option Value)) (st : List Value) (σ : zs_S) (c s : Nat) : Prop := match st with
  | .int x :: .int i :: .ref v :: r => (zs_K σ v).1 = 101 ∧ vp_in i (zs_K σ v).2 ∧ (x = 0 ∨ x = 1) ∧ K L r (zs_pI σ v i.toNatClampNeg x) c s
  | _ => False
def zt_ras (cj : Nat) (K : zs_P) (L : List (Option Value)) (st : List Value) (σ : zs_S) (c s : Nat) : Prop := match st with
  | .ref w :: .int i :: .ref v :: r => (zs_K σ v).1 = 110 + cj ∧ vp_in i (zs_K σ v).2 ∧ (zs_K σ w).1 = cj ∧ K L r (zs_pR σ v i.toNatClampNeg (some w)) c s
  | .null :: .int i :: .ref v :: r => (zs_K σ v).1 = 110 + cj ∧ vp_in i (zs_K σ v).2 ∧ K L r (zs_pR σ v i.toNatClampNeg none) c s
  | _ => False
def zt_len (kd : Nat) (K : zs_P) (L : List (Option Value)) (st : List Value) (σ : zs_S) (c s : Nat) : Prop := match st with
  | .ref v :: r => (zs_K σ v).1 = kd ∧ K L (.int (nI (zs_K σ v).2) :: r) σ c s
  | _ => False
/-- new arrays and objects; MC, MS: the method's room -/
def zt_nwa (kd MC MS : Nat) (K : zs_P) (L : List (Option Value)) (st : List Value) (σ : zs_S) (c s : Nat) : Prop := match st with
  | .int n :: r => (¬ n < 0) ∧ n.toNatClampNeg ≤ 4000 ∧ c + 1 ≤ MC ∧ s + n.toNatClampNeg ≤ MS ∧ K L (.ref (zs_n σ) :: r) (zs_nw σ (kd, n.toNatClampNeg)) (c + 1) (s + n.toNatClampNeg)
  | _ => False
def zt_nwo (ci N MC MS : Nat) (K : zs_P) (L : List (Option Value)) (st : List Value) (σ : zs_S) (c s : Nat) : Prop := c + 1 ≤ MC ∧ s + N ≤ MS ∧ K L (.ref (zs_n σ) :: st) (zs_nw σ (ci, 0)) (c + 1) (s + N)
def zs_c1 : List Value → Bool
  | [] => true
  | v :: l => v.category == 1 && zs_c1 l
theorem zs_c1_sum (G : zs_G) : ∀ {r : List Value}, zs_c1 r = true → ((r.map (zs_tr G)).map fun v => v.category).sum = r.length
  | [], _ => rfl
  | v :: l, h => by
    have h1 : v.category = 1 ∧ zs_c1 l = true := by simpa [zs_c1] using h
    have h2 := zs_c1_sum G h1.2
    simp only [List.map_cons, List.sum_cons, zs_tr_cat, h1.1, List.length_cons]
    rw [h2]
    omega
def zs_fits (r : List Value) : Prop := r.length ≤ 8 ∧ zs_c1 r = true
def zt_oin (K : zs_P) (L : List (Option Value)) (st : List Value) (σ : zs_S) (c s : Nat) : Prop := match st with
  | .ref _ :: r => zs_fits r ∧ K L r σ c s
  | _ => False
/-- the JDK's max, min of two ints, arraycopy of ints -/
def zt_jmm (f : Int32 → Int32 → Int32) (MC MS : Nat) (K : zs_P) (L : List (Option Value)) (st : List Value) (σ : zs_S) (c s : Nat) : Prop := match st with
  | .int y :: .int x :: r => zs_fits r ∧ c ≤ MC ∧ s ≤ MS ∧ K L (.int (f x y) :: r) σ c s
  | _ => False
def zt_jcp (K : zs_P) (L : List (Option Value)) (st : List Value) (σ : zs_S) (c s : Nat) : Prop := match st with
  | .int n :: .int dp :: .ref w :: .int sp :: .ref v :: r => zs_fits r ∧ (¬ sp < 0) ∧ (¬ dp < 0) ∧ (¬ n < 0) ∧ (zs_K σ v).1 = 100 ∧ (zs_K σ w).1 = 100 ∧ sp.toNatClampNeg + n.toNatClampNeg ≤ (zs_K σ v).2 ∧ dp.toNatClampNeg + n.toNatClampNeg ≤ (zs_K σ w).2 ∧ K L r (zs_pF σ w (va_cpy (zs_I σ v) (zs_I σ w) sp.toNatClampNeg dp.toNatClampNeg n.toNatClampNeg)) c s
  | _ => False
/-- ends -/
def zt_irt (MC MS : Nat) (Q : zs_Q) (_L : List (Option Value)) (st : List Value) (σ : zs_S) (c s : Nat) : Prop := match st with
  | [.int x] => c ≤ MC ∧ s ≤ MS ∧ Q (some (.int x)) σ
  | _ => False
def zt_zrt (MC MS : Nat) (Q : zs_Q) (_L : List (Option Value)) (st : List Value) (σ : zs_S) (c s : Nat) : Prop := match st with
  | [.int x] => c ≤ MC ∧ s ≤ MS ∧ (x = 0 ∨ x = 1) ∧ Q (some (.int x)) σ
  | _ => False
def zt_art (MC MS : Nat) (Q : zs_Q) (_L : List (Option Value)) (st : List Value) (σ : zs_S) (c s : Nat) : Prop := match st with
  | [.ref v] => c ≤ MC ∧ s ≤ MS ∧ Q (some (.ref v)) σ
  | [.null] => c ≤ MC ∧ s ≤ MS ∧ Q (some .null) σ
  | _ => False
def zt_vrt (MC MS : Nat) (Q : zs_Q) (_L : List (Option Value)) (st : List Value) (σ : zs_S) (c s : Nat) : Prop := match st with
  | [] => c ≤ MC ∧ s ≤ MS ∧ Q none σ
  | _ => False
/-- a call of n values (the receiver among them): mc, ms what the callee may make -/
def zs_args : Nat → List Value → List Value → Option (List Value × List Value)
  | 0, acc, st => some (acc, st)
  | n + 1, acc, a :: st => zs_args n (a :: acc) st
  | _ + 1, _, [] => none
theorem zs_args_spec : ∀ (n : Nat) (acc st : List Value) {As r : List Value}, zs_args n acc st = some (As, r) → ∃ bs : List Value, st = bs ++ r ∧ bs.length = n ∧ As = bs.reverse ++ acc
  | 0, acc, st, As, r, h => by
    simp only [zs_args, Option.some.injEq, Prod.mk.injEq] at h
    exact ⟨[], by simp [h.2], rfl, by simp [h.1]⟩
  | n + 1, acc, a :: st, As, r, h => by
    obtain ⟨bs, h1, h2, h3⟩ := zs_args_spec n (a :: acc) st h
    exact ⟨a :: bs, by rw [h1]; rfl, by simp [h2], by rw [h3]; simp⟩
  | _ + 1, _, [], _, _, h => by simp [zs_args] at h
def zt_cal (wp : zs_W) (n mc ms MC MS : Nat) (K : zs_P) (L : List (Option Value)) (st : List Value) (σ : zs_S) (c s : Nat) : Prop := match zs_args n [] st with
  | some (As, r) => zs_fits r ∧ c + mc ≤ MC ∧ s + ms ≤ MS ∧ wp As σ (fun x σ' => K L (x.toList ++ r) σ' (c + mc) (s + ms))
  | none => False
/-- the same of an object of class ci -/
def zt_cav (ci : Nat) (wp : zs_W) (n mc ms MC MS : Nat) (K : zs_P) (L : List (Option Value)) (st : List Value) (σ : zs_S) (c s : Nat) : Prop := match zs_args n [] st with
  | some (.ref v :: As, r) => (zs_K σ v).1 = ci ∧ zs_fits r ∧ c + mc ≤ MC ∧ s + ms ≤ MS ∧ wp (.ref v :: As) σ (fun x σ' => K L (x.toList ++ r) σ' (c + mc) (s + ms))
  | _ => False
/-- a switch, case by case -/
def zt_cas (k : Int32) (K1 K2 : zs_P) (L : List (Option Value)) (st : List Value) (σ : zs_S) (c s : Nat) : Prop := match st with
  | .int x :: r => (x = k → K1 L r σ c s) ∧ (¬ x = k → K2 L (.int x :: r) σ c s)
  | _ => False
def zt_dfl (K : zs_P) (L : List (Option Value)) (st : List Value) (σ : zs_S) (c s : Nat) : Prop := match st with
  | .int _ :: r => K L r σ c s
  | _ => False
/-- a loop: fuel -/
def zt_lop (body : zs_P → zs_P) : Nat → zs_P
  | 0 => fun _ _ _ _ _ => False
  | n + 1 => body (zt_lop body n)
def zt_ex (body : zs_P → zs_P) (L : List (Option Value)) (st : List Value) (σ : zs_S) (c s : Nat) : Prop := ∃ n, zt_lop body n L st σ c s
/-- the pure rule of a loop: an invariant with a measure that falls -/
theorem zx_lop {body : zs_P → zs_P} (I : Nat → List (Option Value) → List Value → zs_S → Nat → Nat → Prop) (hs : ∀ (k : Nat) (K : zs_P) L st σ c s, I k L st σ c s → (∀ k' L' st' σ' c' s', k' < k → I k' L' st' σ' c' s' → K L' st' σ' c' s') → body K L st σ c s) {k : Nat} {L : List (Option Value)} {st : List Value} {σ : zs_S} {c s : Nat} (h : I k L st σ c s) : zt_ex body L st σ c s := by
  have key : ∀ n k L st σ c s, k < n → I k L st σ c s → zt_lop body n L st σ c s := by
    intro n
    induction n with
    | zero => intro k L st σ c s hk; omega
    | succ n ih => intro k L st σ c s hk hI; exact hs k _ L st σ c s hI (fun k' L' st' σ' c' s' hk' hI' => ih k' L' st' σ' c' s' (by omega) hI')
  exact ⟨k + 1, key (k + 1) k L st σ c s (by omega) h⟩
