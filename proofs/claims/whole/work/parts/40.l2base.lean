/-! Level 2: reading and writing the pure store. -/
theorem zx_n_pI (σ : zs_S) (v k : Nat) (x : Int32) : zs_n (zs_pI σ v k x) = zs_n σ := rfl
theorem zx_n_pR (σ : zs_S) (v k : Nat) (r : Option Nat) : zs_n (zs_pR σ v k r) = zs_n σ := rfl
theorem zx_n_pF (σ : zs_S) (v : Nat) (f : Nat → Int32) : zs_n (zs_pF σ v f) = zs_n σ := rfl
theorem zx_n_nw (σ : zs_S) (q : Nat × Nat) : zs_n (zs_nw σ q) = zs_n σ + 1 := rfl
theorem zx_K_pI (σ : zs_S) (v k : Nat) (x : Int32) : zs_K (zs_pI σ v k x) = zs_K σ := rfl
theorem zx_K_pR (σ : zs_S) (v k : Nat) (r : Option Nat) : zs_K (zs_pR σ v k r) = zs_K σ := rfl
theorem zx_K_pF (σ : zs_S) (v : Nat) (f : Nat → Int32) : zs_K (zs_pF σ v f) = zs_K σ := rfl
theorem zx_K_nw (σ : zs_S) (q : Nat × Nat) (w : Nat) : zs_K (zs_nw σ q) w = if w = zs_n σ then q else zs_K σ w := rfl
theorem zx_R_pI (σ : zs_S) (v k : Nat) (x : Int32) : zs_R (zs_pI σ v k x) = zs_R σ := rfl
theorem zx_R_pF (σ : zs_S) (v : Nat) (f : Nat → Int32) : zs_R (zs_pF σ v f) = zs_R σ := rfl
theorem zx_R_pR (σ : zs_S) (v k w j : Nat) (r : Option Nat) : zs_R (zs_pR σ v k r) w j = if w = v ∧ j = k then r else zs_R σ w j := by
  show (va_up σ.2.2.2 v (va_up (σ.2.2.2 v) k r)) w j = _
  by_cases h : w = v
  · subst h
    by_cases h2 : j = k <;> simp [va_up, h2, zs_R]
  · simp [va_up, h, zs_R]
theorem zx_R_nw (σ : zs_S) (q : Nat × Nat) (w j : Nat) : zs_R (zs_nw σ q) w j = if w = zs_n σ then none else zs_R σ w j := by
  show (va_up σ.2.2.2 σ.1 (fun _ => none)) w j = _
  by_cases h : w = σ.1 <;> simp [va_up, h, zs_R, zs_n]
theorem zx_I_pI (σ : zs_S) (v k w j : Nat) (x : Int32) : zs_I (zs_pI σ v k x) w j = if w = v ∧ j = k then x else zs_I σ w j := by
  show (va_up σ.2.2.1 v (upd (σ.2.2.1 v) k x)) w j = _
  by_cases h : w = v
  · subst h
    by_cases h2 : j = k <;> simp [va_up, upd, h2, zs_I]
  · simp [va_up, h, zs_I]
theorem zx_I_pR (σ : zs_S) (v k : Nat) (r : Option Nat) : zs_I (zs_pR σ v k r) = zs_I σ := rfl
theorem zx_I_pF (σ : zs_S) (v w : Nat) (f : Nat → Int32) : zs_I (zs_pF σ v f) w = if w = v then f else zs_I σ w := rfl
theorem zx_I_nw (σ : zs_S) (q : Nat × Nat) (w j : Nat) : zs_I (zs_nw σ q) w j = if w = zs_n σ then 0 else zs_I σ w j := by
  show (va_up σ.2.2.1 σ.1 (fun _ => 0)) w j = _
  by_cases h : w = σ.1 <;> simp [va_up, h, zs_I, zs_n]
/-! The reference in the store: its object is cell M, its arrays are the cells M + 1 .. M + 31; N j k: the Nat at place k of cell M + j (cell M: its int fields by their number), V: the same as an Int32 for the arrays of values. -/
def zm_raw (j : Nat) : Bool := j == 4 || j == 5 || j == 7 || j == 21 || j == 22 || j == 29 || j == 30
def zm_K (j : Nat) : Nat × Nat := match j with
  | 0 => (8, 0)
  | 1 => (101, 7)
  | 2 => (100, 100)
  | 3 => (100, 100)
  | 4 => (100, 100)
  | 5 => (100, 100)
  | 6 => (100, 100)
  | 7 => (100, 100)
  | 8 => (100, 2)
  | 9 => (100, 2)
  | 10 => (101, 40)
  | 11 => (100, 40)
  | 12 => (100, 40)
  | 13 => (100, 120)
  | 14 => (100, 6)
  | 15 => (100, 80)
  | 16 => (100, 80)
  | 17 => (100, 80)
  | 18 => (100, 80)
  | 19 => (100, 80)
  | 20 => (101, 80)
  | 21 => (100, 24)
  | 22 => (100, 24)
  | 23 => (100, 2)
  | 24 => (100, 2)
  | 25 => (100, 8)
  | 26 => (101, 800)
  | 27 => (101, 800)
  | 28 => (101, 3200)
  | 29 => (100, 200)
  | 30 => (100, 200)
  | 31 => (100, 100)
  | _ => (99, 0)
def zm_R (M k : Nat) : Option Nat := match k with
  | 1 => some (M + 1)
  | 3 => some (M + 2)
  | 4 => some (M + 3)
  | 5 => some (M + 4)
  | 6 => some (M + 5)
  | 7 => some (M + 6)
  | 8 => some (M + 7)
  | 9 => some (M + 8)
  | 10 => some (M + 9)
  | 11 => some (M + 10)
  | 12 => some (M + 11)
  | 13 => some (M + 12)
  | 14 => some (M + 13)
  | 15 => some (M + 14)
  | 17 => some (M + 15)
  | 18 => some (M + 16)
  | 19 => some (M + 17)
  | 20 => some (M + 18)
  | 21 => some (M + 19)
  | 22 => some (M + 20)
  | 23 => some (M + 21)
  | 24 => some (M + 22)
  | 25 => some (M + 23)
  | 26 => some (M + 24)
  | 27 => some (M + 25)
  | 28 => some (M + 26)
  | 29 => some (M + 27)
  | 30 => some (M + 28)
  | 31 => some (M + 29)
  | 32 => some (M + 30)
  | 33 => some (M + 31)
  | _ => none
def md (M : Nat) (σ : zs_S) (N : Nat → Nat → Nat) (V : Nat → Nat → Int32) : zs_S :=
  (σ.1, fun v => if M ≤ v ∧ v < M + 32 then zm_K (v - M) else σ.2.1 v, fun v k => if M ≤ v ∧ v < M + 32 then (if zm_raw (v - M) then V (v - M) k else nI (N (v - M) k)) else σ.2.2.1 v k, fun v k => if v = M then zm_R M k else σ.2.2.2 v k)
def zup (N : Nat → Nat → Nat) (j k x : Nat) : Nat → Nat → Nat := fun j' k' => if j' = j ∧ k' = k then x else N j' k'
def zvp (V : Nat → Nat → Int32) (j k : Nat) (x : Int32) : Nat → Nat → Int32 := fun j' k' => if j' = j ∧ k' = k then x else V j' k'
theorem md_n (M : Nat) (σ : zs_S) (N : Nat → Nat → Nat) (V : Nat → Nat → Int32) : zs_n (md M σ N V) = zs_n σ := rfl
theorem md_K (M : Nat) (σ : zs_S) (N : Nat → Nat → Nat) (V : Nat → Nat → Int32) (j : Nat) (h : j < 32) : zs_K (md M σ N V) (M + j) = zm_K j := by
  show (if M ≤ M + j ∧ M + j < M + 32 then zm_K (M + j - M) else _) = _
  rw [if_pos ⟨by omega, by omega⟩, Nat.add_sub_cancel_left]
theorem md_In (M : Nat) (σ : zs_S) (N : Nat → Nat → Nat) (V : Nat → Nat → Int32) (j k : Nat) (h : j < 32) (hr : zm_raw j = false) : zs_I (md M σ N V) (M + j) k = nI (N j k) := by
  show (if M ≤ M + j ∧ M + j < M + 32 then (if zm_raw (M + j - M) then V (M + j - M) k else nI (N (M + j - M) k)) else _) = _
  rw [if_pos ⟨by omega, by omega⟩, Nat.add_sub_cancel_left, hr]
  rfl
theorem md_Iv (M : Nat) (σ : zs_S) (N : Nat → Nat → Nat) (V : Nat → Nat → Int32) (j k : Nat) (h : j < 32) (hr : zm_raw j = true) : zs_I (md M σ N V) (M + j) k = V j k := by
  show (if M ≤ M + j ∧ M + j < M + 32 then (if zm_raw (M + j - M) then V (M + j - M) k else nI (N (M + j - M) k)) else _) = _
  rw [if_pos ⟨by omega, by omega⟩, Nat.add_sub_cancel_left, hr]
  rfl
theorem md_pn (M : Nat) (σ : zs_S) (N : Nat → Nat → Nat) (V : Nat → Nat → Int32) (j k x : Nat) (h : j < 32) (hr : zm_raw j = false) : zs_pI (md M σ N V) (M + j) k (nI x) = md M σ (zup N j k x) V := by
  have key : va_up (md M σ N V).2.2.1 (M + j) (upd ((md M σ N V).2.2.1 (M + j)) k (nI x)) = (md M σ (zup N j k x) V).2.2.1 := by
    funext v q
    by_cases hv : v = M + j
    · subst hv
      rw [zs_up_self]
      by_cases hq : q = k
      · subst hq
        have := md_In M σ (zup N j q x) V j q h hr
        show (if q = q then nI x else _) = zs_I (md M σ (zup N j q x) V) (M + j) q
        rw [this]
        simp [zup]
      · have h1 := md_In M σ (zup N j k x) V j q h hr
        have h2 := md_In M σ N V j q h hr
        show (if q = k then nI x else zs_I (md M σ N V) (M + j) q) = zs_I (md M σ (zup N j k x) V) (M + j) q
        rw [h1, h2, if_neg hq]
        simp [zup, hq]
    · rw [zs_up_ne _ _ hv]
      show (if M ≤ v ∧ v < M + 32 then (if zm_raw (v - M) then V (v - M) q else nI (N (v - M) q)) else _) = (if M ≤ v ∧ v < M + 32 then (if zm_raw (v - M) then V (v - M) q else nI (zup N j k x (v - M) q)) else _)
      by_cases hr2 : M ≤ v ∧ v < M + 32
      · have hne : ¬ v - M = j := by omega
        simp [hr2, zup, hne]
      · simp [hr2]
  show (_, _, va_up (md M σ N V).2.2.1 (M + j) (upd ((md M σ N V).2.2.1 (M + j)) k (nI x)), _) = md M σ (zup N j k x) V
  rw [key]
  rfl
theorem md_pv (M : Nat) (σ : zs_S) (N : Nat → Nat → Nat) (V : Nat → Nat → Int32) (j k : Nat) (x : Int32) (h : j < 32) (hr : zm_raw j = true) : zs_pI (md M σ N V) (M + j) k x = md M σ N (zvp V j k x) := by
  have key : va_up (md M σ N V).2.2.1 (M + j) (upd ((md M σ N V).2.2.1 (M + j)) k x) = (md M σ N (zvp V j k x)).2.2.1 := by
    funext v q
    by_cases hv : v = M + j
    · subst hv
      rw [zs_up_self]
      by_cases hq : q = k
      · subst hq
        have := md_Iv M σ N (zvp V j q x) j q h hr
        show (if q = q then x else _) = zs_I (md M σ N (zvp V j q x)) (M + j) q
        rw [this]
        simp [zvp]
      · have h1 := md_Iv M σ N (zvp V j k x) j q h hr
        have h2 := md_Iv M σ N V j q h hr
        show (if q = k then x else zs_I (md M σ N V) (M + j) q) = zs_I (md M σ N (zvp V j k x)) (M + j) q
        rw [h1, h2, if_neg hq]
        simp [zvp, hq]
    · rw [zs_up_ne _ _ hv]
      show (if M ≤ v ∧ v < M + 32 then (if zm_raw (v - M) then V (v - M) q else nI (N (v - M) q)) else _) = (if M ≤ v ∧ v < M + 32 then (if zm_raw (v - M) then zvp V j k x (v - M) q else nI (N (v - M) q)) else _)
      by_cases hr2 : M ≤ v ∧ v < M + 32
      · have hne : ¬ v - M = j := by omega
        simp [hr2, zvp, hne]
      · simp [hr2]
  show (_, _, va_up (md M σ N V).2.2.1 (M + j) (upd ((md M σ N V).2.2.1 (M + j)) k x), _) = md M σ N (zvp V j k x)
  rw [key]
  rfl
theorem mdK_0 (M : Nat) (σ : zs_S) (N : Nat → Nat → Nat) (V : Nat → Nat → Int32) : zs_K (md M σ N V) M = (8, 0) := md_K M σ N V 0 (by decide)
theorem mdK_1 (M : Nat) (σ : zs_S) (N : Nat → Nat → Nat) (V : Nat → Nat → Int32) : zs_K (md M σ N V) (M + 1) = (101, 7) := md_K M σ N V 1 (by decide)
theorem mdR_1 (M : Nat) (σ : zs_S) (N : Nat → Nat → Nat) (V : Nat → Nat → Int32) : zs_R (md M σ N V) M 1 = some (M + 1) := by
  show (if M = M then zm_R M 1 else _) = _
  rw [if_pos rfl]
  rfl
theorem mdI_1 (M : Nat) (σ : zs_S) (N : Nat → Nat → Nat) (V : Nat → Nat → Int32) (k : Nat) : zs_I (md M σ N V) (M + 1) k = nI (N 1 k) := md_In M σ N V 1 k (by decide) (by decide)
theorem mdP_1 (M : Nat) (σ : zs_S) (N : Nat → Nat → Nat) (V : Nat → Nat → Int32) (k x : Nat) : zs_pI (md M σ N V) (M + 1) k (nI x) = md M σ (zup N 1 k x) V := md_pn M σ N V 1 k x (by decide) (by decide)
theorem mdK_2 (M : Nat) (σ : zs_S) (N : Nat → Nat → Nat) (V : Nat → Nat → Int32) : zs_K (md M σ N V) (M + 2) = (100, 100) := md_K M σ N V 2 (by decide)
theorem mdR_3 (M : Nat) (σ : zs_S) (N : Nat → Nat → Nat) (V : Nat → Nat → Int32) : zs_R (md M σ N V) M 3 = some (M + 2) := by
  show (if M = M then zm_R M 3 else _) = _
  rw [if_pos rfl]
  rfl
theorem mdI_2 (M : Nat) (σ : zs_S) (N : Nat → Nat → Nat) (V : Nat → Nat → Int32) (k : Nat) : zs_I (md M σ N V) (M + 2) k = nI (N 2 k) := md_In M σ N V 2 k (by decide) (by decide)
theorem mdP_2 (M : Nat) (σ : zs_S) (N : Nat → Nat → Nat) (V : Nat → Nat → Int32) (k x : Nat) : zs_pI (md M σ N V) (M + 2) k (nI x) = md M σ (zup N 2 k x) V := md_pn M σ N V 2 k x (by decide) (by decide)
theorem mdK_3 (M : Nat) (σ : zs_S) (N : Nat → Nat → Nat) (V : Nat → Nat → Int32) : zs_K (md M σ N V) (M + 3) = (100, 100) := md_K M σ N V 3 (by decide)
theorem mdR_4 (M : Nat) (σ : zs_S) (N : Nat → Nat → Nat) (V : Nat → Nat → Int32) : zs_R (md M σ N V) M 4 = some (M + 3) := by
  show (if M = M then zm_R M 4 else _) = _
  rw [if_pos rfl]
  rfl
theorem mdI_3 (M : Nat) (σ : zs_S) (N : Nat → Nat → Nat) (V : Nat → Nat → Int32) (k : Nat) : zs_I (md M σ N V) (M + 3) k = nI (N 3 k) := md_In M σ N V 3 k (by decide) (by decide)
theorem mdP_3 (M : Nat) (σ : zs_S) (N : Nat → Nat → Nat) (V : Nat → Nat → Int32) (k x : Nat) : zs_pI (md M σ N V) (M + 3) k (nI x) = md M σ (zup N 3 k x) V := md_pn M σ N V 3 k x (by decide) (by decide)
theorem mdK_4 (M : Nat) (σ : zs_S) (N : Nat → Nat → Nat) (V : Nat → Nat → Int32) : zs_K (md M σ N V) (M + 4) = (100, 100) := md_K M σ N V 4 (by decide)
theorem mdR_5 (M : Nat) (σ : zs_S) (N : Nat → Nat → Nat) (V : Nat → Nat → Int32) : zs_R (md M σ N V) M 5 = some (M + 4) := by
  show (if M = M then zm_R M 5 else _) = _
  rw [if_pos rfl]
  rfl
theorem mdI_4 (M : Nat) (σ : zs_S) (N : Nat → Nat → Nat) (V : Nat → Nat → Int32) (k : Nat) : zs_I (md M σ N V) (M + 4) k = V 4 k := md_Iv M σ N V 4 k (by decide) (by decide)
theorem mdP_4 (M : Nat) (σ : zs_S) (N : Nat → Nat → Nat) (V : Nat → Nat → Int32) (k : Nat) (x : Int32) : zs_pI (md M σ N V) (M + 4) k x = md M σ N (zvp V 4 k x) := md_pv M σ N V 4 k x (by decide) (by decide)
theorem mdK_5 (M : Nat) (σ : zs_S) (N : Nat → Nat → Nat) (V : Nat → Nat → Int32) : zs_K (md M σ N V) (M + 5) = (100, 100) := md_K M σ N V 5 (by decide)
theorem mdR_6 (M : Nat) (σ : zs_S) (N : Nat → Nat → Nat) (V : Nat → Nat → Int32) : zs_R (md M σ N V) M 6 = some (M + 5) := by
  show (if M = M then zm_R M 6 else _) = _
  rw [if_pos rfl]
  rfl
theorem mdI_5 (M : Nat) (σ : zs_S) (N : Nat → Nat → Nat) (V : Nat → Nat → Int32) (k : Nat) : zs_I (md M σ N V) (M + 5) k = V 5 k := md_Iv M σ N V 5 k (by decide) (by decide)
theorem mdP_5 (M : Nat) (σ : zs_S) (N : Nat → Nat → Nat) (V : Nat → Nat → Int32) (k : Nat) (x : Int32) : zs_pI (md M σ N V) (M + 5) k x = md M σ N (zvp V 5 k x) := md_pv M σ N V 5 k x (by decide) (by decide)
theorem mdK_6 (M : Nat) (σ : zs_S) (N : Nat → Nat → Nat) (V : Nat → Nat → Int32) : zs_K (md M σ N V) (M + 6) = (100, 100) := md_K M σ N V 6 (by decide)
theorem mdR_7 (M : Nat) (σ : zs_S) (N : Nat → Nat → Nat) (V : Nat → Nat → Int32) : zs_R (md M σ N V) M 7 = some (M + 6) := by
  show (if M = M then zm_R M 7 else _) = _
  rw [if_pos rfl]
  rfl
theorem mdI_6 (M : Nat) (σ : zs_S) (N : Nat → Nat → Nat) (V : Nat → Nat → Int32) (k : Nat) : zs_I (md M σ N V) (M + 6) k = nI (N 6 k) := md_In M σ N V 6 k (by decide) (by decide)
theorem mdP_6 (M : Nat) (σ : zs_S) (N : Nat → Nat → Nat) (V : Nat → Nat → Int32) (k x : Nat) : zs_pI (md M σ N V) (M + 6) k (nI x) = md M σ (zup N 6 k x) V := md_pn M σ N V 6 k x (by decide) (by decide)
theorem mdK_7 (M : Nat) (σ : zs_S) (N : Nat → Nat → Nat) (V : Nat → Nat → Int32) : zs_K (md M σ N V) (M + 7) = (100, 100) := md_K M σ N V 7 (by decide)
theorem mdR_8 (M : Nat) (σ : zs_S) (N : Nat → Nat → Nat) (V : Nat → Nat → Int32) : zs_R (md M σ N V) M 8 = some (M + 7) := by
  show (if M = M then zm_R M 8 else _) = _
  rw [if_pos rfl]
  rfl
theorem mdI_7 (M : Nat) (σ : zs_S) (N : Nat → Nat → Nat) (V : Nat → Nat → Int32) (k : Nat) : zs_I (md M σ N V) (M + 7) k = V 7 k := md_Iv M σ N V 7 k (by decide) (by decide)
theorem mdP_7 (M : Nat) (σ : zs_S) (N : Nat → Nat → Nat) (V : Nat → Nat → Int32) (k : Nat) (x : Int32) : zs_pI (md M σ N V) (M + 7) k x = md M σ N (zvp V 7 k x) := md_pv M σ N V 7 k x (by decide) (by decide)
theorem mdK_8 (M : Nat) (σ : zs_S) (N : Nat → Nat → Nat) (V : Nat → Nat → Int32) : zs_K (md M σ N V) (M + 8) = (100, 2) := md_K M σ N V 8 (by decide)
theorem mdR_9 (M : Nat) (σ : zs_S) (N : Nat → Nat → Nat) (V : Nat → Nat → Int32) : zs_R (md M σ N V) M 9 = some (M + 8) := by
  show (if M = M then zm_R M 9 else _) = _
  rw [if_pos rfl]
  rfl
theorem mdI_8 (M : Nat) (σ : zs_S) (N : Nat → Nat → Nat) (V : Nat → Nat → Int32) (k : Nat) : zs_I (md M σ N V) (M + 8) k = nI (N 8 k) := md_In M σ N V 8 k (by decide) (by decide)
theorem mdP_8 (M : Nat) (σ : zs_S) (N : Nat → Nat → Nat) (V : Nat → Nat → Int32) (k x : Nat) : zs_pI (md M σ N V) (M + 8) k (nI x) = md M σ (zup N 8 k x) V := md_pn M σ N V 8 k x (by decide) (by decide)
theorem mdK_9 (M : Nat) (σ : zs_S) (N : Nat → Nat → Nat) (V : Nat → Nat → Int32) : zs_K (md M σ N V) (M + 9) = (100, 2) := md_K M σ N V 9 (by decide)
theorem mdR_10 (M : Nat) (σ : zs_S) (N : Nat → Nat → Nat) (V : Nat → Nat → Int32) : zs_R (md M σ N V) M 10 = some (M + 9) := by
  show (if M = M then zm_R M 10 else _) = _
  rw [if_pos rfl]
  rfl
theorem mdI_9 (M : Nat) (σ : zs_S) (N : Nat → Nat → Nat) (V : Nat → Nat → Int32) (k : Nat) : zs_I (md M σ N V) (M + 9) k = nI (N 9 k) := md_In M σ N V 9 k (by decide) (by decide)
theorem mdP_9 (M : Nat) (σ : zs_S) (N : Nat → Nat → Nat) (V : Nat → Nat → Int32) (k x : Nat) : zs_pI (md M σ N V) (M + 9) k (nI x) = md M σ (zup N 9 k x) V := md_pn M σ N V 9 k x (by decide) (by decide)
theorem mdK_10 (M : Nat) (σ : zs_S) (N : Nat → Nat → Nat) (V : Nat → Nat → Int32) : zs_K (md M σ N V) (M + 10) = (101, 40) := md_K M σ N V 10 (by decide)
theorem mdR_11 (M : Nat) (σ : zs_S) (N : Nat → Nat → Nat) (V : Nat → Nat → Int32) : zs_R (md M σ N V) M 11 = some (M + 10) := by
  show (if M = M then zm_R M 11 else _) = _
  rw [if_pos rfl]
  rfl
theorem mdI_10 (M : Nat) (σ : zs_S) (N : Nat → Nat → Nat) (V : Nat → Nat → Int32) (k : Nat) : zs_I (md M σ N V) (M + 10) k = nI (N 10 k) := md_In M σ N V 10 k (by decide) (by decide)
theorem mdP_10 (M : Nat) (σ : zs_S) (N : Nat → Nat → Nat) (V : Nat → Nat → Int32) (k x : Nat) : zs_pI (md M σ N V) (M + 10) k (nI x) = md M σ (zup N 10 k x) V := md_pn M σ N V 10 k x (by decide) (by decide)
theorem mdK_11 (M : Nat) (σ : zs_S) (N : Nat → Nat → Nat) (V : Nat → Nat → Int32) : zs_K (md M σ N V) (M + 11) = (100, 40) := md_K M σ N V 11 (by decide)
theorem mdR_12 (M : Nat) (σ : zs_S) (N : Nat → Nat → Nat) (V : Nat → Nat → Int32) : zs_R (md M σ N V) M 12 = some (M + 11) := by
  show (if M = M then zm_R M 12 else _) = _
  rw [if_pos rfl]
  rfl
theorem mdI_11 (M : Nat) (σ : zs_S) (N : Nat → Nat → Nat) (V : Nat → Nat → Int32) (k : Nat) : zs_I (md M σ N V) (M + 11) k = nI (N 11 k) := md_In M σ N V 11 k (by decide) (by decide)
theorem mdP_11 (M : Nat) (σ : zs_S) (N : Nat → Nat → Nat) (V : Nat → Nat → Int32) (k x : Nat) : zs_pI (md M σ N V) (M + 11) k (nI x) = md M σ (zup N 11 k x) V := md_pn M σ N V 11 k x (by decide) (by decide)
theorem mdK_12 (M : Nat) (σ : zs_S) (N : Nat → Nat → Nat) (V : Nat → Nat → Int32) : zs_K (md M σ N V) (M + 12) = (100, 40) := md_K M σ N V 12 (by decide)
theorem mdR_13 (M : Nat) (σ : zs_S) (N : Nat → Nat → Nat) (V : Nat → Nat → Int32) : zs_R (md M σ N V) M 13 = some (M + 12) := by
  show (if M = M then zm_R M 13 else _) = _
  rw [if_pos rfl]
  rfl
theorem mdI_12 (M : Nat) (σ : zs_S) (N : Nat → Nat → Nat) (V : Nat → Nat → Int32) (k : Nat) : zs_I (md M σ N V) (M + 12) k = nI (N 12 k) := md_In M σ N V 12 k (by decide) (by decide)
theorem mdP_12 (M : Nat) (σ : zs_S) (N : Nat → Nat → Nat) (V : Nat → Nat → Int32) (k x : Nat) : zs_pI (md M σ N V) (M + 12) k (nI x) = md M σ (zup N 12 k x) V := md_pn M σ N V 12 k x (by decide) (by decide)
theorem mdK_13 (M : Nat) (σ : zs_S) (N : Nat → Nat → Nat) (V : Nat → Nat → Int32) : zs_K (md M σ N V) (M + 13) = (100, 120) := md_K M σ N V 13 (by decide)
theorem mdR_14 (M : Nat) (σ : zs_S) (N : Nat → Nat → Nat) (V : Nat → Nat → Int32) : zs_R (md M σ N V) M 14 = some (M + 13) := by
  show (if M = M then zm_R M 14 else _) = _
  rw [if_pos rfl]
  rfl
theorem mdI_13 (M : Nat) (σ : zs_S) (N : Nat → Nat → Nat) (V : Nat → Nat → Int32) (k : Nat) : zs_I (md M σ N V) (M + 13) k = nI (N 13 k) := md_In M σ N V 13 k (by decide) (by decide)
theorem mdP_13 (M : Nat) (σ : zs_S) (N : Nat → Nat → Nat) (V : Nat → Nat → Int32) (k x : Nat) : zs_pI (md M σ N V) (M + 13) k (nI x) = md M σ (zup N 13 k x) V := md_pn M σ N V 13 k x (by decide) (by decide)
theorem mdK_14 (M : Nat) (σ : zs_S) (N : Nat → Nat → Nat) (V : Nat → Nat → Int32) : zs_K (md M σ N V) (M + 14) = (100, 6) := md_K M σ N V 14 (by decide)
theorem mdR_15 (M : Nat) (σ : zs_S) (N : Nat → Nat → Nat) (V : Nat → Nat → Int32) : zs_R (md M σ N V) M 15 = some (M + 14) := by
  show (if M = M then zm_R M 15 else _) = _
  rw [if_pos rfl]
  rfl
theorem mdI_14 (M : Nat) (σ : zs_S) (N : Nat → Nat → Nat) (V : Nat → Nat → Int32) (k : Nat) : zs_I (md M σ N V) (M + 14) k = nI (N 14 k) := md_In M σ N V 14 k (by decide) (by decide)
theorem mdP_14 (M : Nat) (σ : zs_S) (N : Nat → Nat → Nat) (V : Nat → Nat → Int32) (k x : Nat) : zs_pI (md M σ N V) (M + 14) k (nI x) = md M σ (zup N 14 k x) V := md_pn M σ N V 14 k x (by decide) (by decide)
theorem mdK_15 (M : Nat) (σ : zs_S) (N : Nat → Nat → Nat) (V : Nat → Nat → Int32) : zs_K (md M σ N V) (M + 15) = (100, 80) := md_K M σ N V 15 (by decide)
theorem mdR_17 (M : Nat) (σ : zs_S) (N : Nat → Nat → Nat) (V : Nat → Nat → Int32) : zs_R (md M σ N V) M 17 = some (M + 15) := by
  show (if M = M then zm_R M 17 else _) = _
  rw [if_pos rfl]
  rfl
theorem mdI_15 (M : Nat) (σ : zs_S) (N : Nat → Nat → Nat) (V : Nat → Nat → Int32) (k : Nat) : zs_I (md M σ N V) (M + 15) k = nI (N 15 k) := md_In M σ N V 15 k (by decide) (by decide)
theorem mdP_15 (M : Nat) (σ : zs_S) (N : Nat → Nat → Nat) (V : Nat → Nat → Int32) (k x : Nat) : zs_pI (md M σ N V) (M + 15) k (nI x) = md M σ (zup N 15 k x) V := md_pn M σ N V 15 k x (by decide) (by decide)
theorem mdK_16 (M : Nat) (σ : zs_S) (N : Nat → Nat → Nat) (V : Nat → Nat → Int32) : zs_K (md M σ N V) (M + 16) = (100, 80) := md_K M σ N V 16 (by decide)
theorem mdR_18 (M : Nat) (σ : zs_S) (N : Nat → Nat → Nat) (V : Nat → Nat → Int32) : zs_R (md M σ N V) M 18 = some (M + 16) := by
  show (if M = M then zm_R M 18 else _) = _
  rw [if_pos rfl]
  rfl
theorem mdI_16 (M : Nat) (σ : zs_S) (N : Nat → Nat → Nat) (V : Nat → Nat → Int32) (k : Nat) : zs_I (md M σ N V) (M + 16) k = nI (N 16 k) := md_In M σ N V 16 k (by decide) (by decide)
theorem mdP_16 (M : Nat) (σ : zs_S) (N : Nat → Nat → Nat) (V : Nat → Nat → Int32) (k x : Nat) : zs_pI (md M σ N V) (M + 16) k (nI x) = md M σ (zup N 16 k x) V := md_pn M σ N V 16 k x (by decide) (by decide)
theorem mdK_17 (M : Nat) (σ : zs_S) (N : Nat → Nat → Nat) (V : Nat → Nat → Int32) : zs_K (md M σ N V) (M + 17) = (100, 80) := md_K M σ N V 17 (by decide)
theorem mdR_19 (M : Nat) (σ : zs_S) (N : Nat → Nat → Nat) (V : Nat → Nat → Int32) : zs_R (md M σ N V) M 19 = some (M + 17) := by
  show (if M = M then zm_R M 19 else _) = _
  rw [if_pos rfl]
  rfl
theorem mdI_17 (M : Nat) (σ : zs_S) (N : Nat → Nat → Nat) (V : Nat → Nat → Int32) (k : Nat) : zs_I (md M σ N V) (M + 17) k = nI (N 17 k) := md_In M σ N V 17 k (by decide) (by decide)
theorem mdP_17 (M : Nat) (σ : zs_S) (N : Nat → Nat → Nat) (V : Nat → Nat → Int32) (k x : Nat) : zs_pI (md M σ N V) (M + 17) k (nI x) = md M σ (zup N 17 k x) V := md_pn M σ N V 17 k x (by decide) (by decide)
theorem mdK_18 (M : Nat) (σ : zs_S) (N : Nat → Nat → Nat) (V : Nat → Nat → Int32) : zs_K (md M σ N V) (M + 18) = (100, 80) := md_K M σ N V 18 (by decide)
theorem mdR_20 (M : Nat) (σ : zs_S) (N : Nat → Nat → Nat) (V : Nat → Nat → Int32) : zs_R (md M σ N V) M 20 = some (M + 18) := by
  show (if M = M then zm_R M 20 else _) = _
  rw [if_pos rfl]
  rfl
theorem mdI_18 (M : Nat) (σ : zs_S) (N : Nat → Nat → Nat) (V : Nat → Nat → Int32) (k : Nat) : zs_I (md M σ N V) (M + 18) k = nI (N 18 k) := md_In M σ N V 18 k (by decide) (by decide)
theorem mdP_18 (M : Nat) (σ : zs_S) (N : Nat → Nat → Nat) (V : Nat → Nat → Int32) (k x : Nat) : zs_pI (md M σ N V) (M + 18) k (nI x) = md M σ (zup N 18 k x) V := md_pn M σ N V 18 k x (by decide) (by decide)
theorem mdK_19 (M : Nat) (σ : zs_S) (N : Nat → Nat → Nat) (V : Nat → Nat → Int32) : zs_K (md M σ N V) (M + 19) = (100, 80) := md_K M σ N V 19 (by decide)
theorem mdR_21 (M : Nat) (σ : zs_S) (N : Nat → Nat → Nat) (V : Nat → Nat → Int32) : zs_R (md M σ N V) M 21 = some (M + 19) := by
  show (if M = M then zm_R M 21 else _) = _
  rw [if_pos rfl]
  rfl
theorem mdI_19 (M : Nat) (σ : zs_S) (N : Nat → Nat → Nat) (V : Nat → Nat → Int32) (k : Nat) : zs_I (md M σ N V) (M + 19) k = nI (N 19 k) := md_In M σ N V 19 k (by decide) (by decide)
theorem mdP_19 (M : Nat) (σ : zs_S) (N : Nat → Nat → Nat) (V : Nat → Nat → Int32) (k x : Nat) : zs_pI (md M σ N V) (M + 19) k (nI x) = md M σ (zup N 19 k x) V := md_pn M σ N V 19 k x (by decide) (by decide)
theorem mdK_20 (M : Nat) (σ : zs_S) (N : Nat → Nat → Nat) (V : Nat → Nat → Int32) : zs_K (md M σ N V) (M + 20) = (101, 80) := md_K M σ N V 20 (by decide)
theorem mdR_22 (M : Nat) (σ : zs_S) (N : Nat → Nat → Nat) (V : Nat → Nat → Int32) : zs_R (md M σ N V) M 22 = some (M + 20) := by
  show (if M = M then zm_R M 22 else _) = _
  rw [if_pos rfl]
  rfl
theorem mdI_20 (M : Nat) (σ : zs_S) (N : Nat → Nat → Nat) (V : Nat → Nat → Int32) (k : Nat) : zs_I (md M σ N V) (M + 20) k = nI (N 20 k) := md_In M σ N V 20 k (by decide) (by decide)
theorem mdP_20 (M : Nat) (σ : zs_S) (N : Nat → Nat → Nat) (V : Nat → Nat → Int32) (k x : Nat) : zs_pI (md M σ N V) (M + 20) k (nI x) = md M σ (zup N 20 k x) V := md_pn M σ N V 20 k x (by decide) (by decide)
theorem mdK_21 (M : Nat) (σ : zs_S) (N : Nat → Nat → Nat) (V : Nat → Nat → Int32) : zs_K (md M σ N V) (M + 21) = (100, 24) := md_K M σ N V 21 (by decide)
theorem mdR_23 (M : Nat) (σ : zs_S) (N : Nat → Nat → Nat) (V : Nat → Nat → Int32) : zs_R (md M σ N V) M 23 = some (M + 21) := by
  show (if M = M then zm_R M 23 else _) = _
  rw [if_pos rfl]
  rfl
theorem mdI_21 (M : Nat) (σ : zs_S) (N : Nat → Nat → Nat) (V : Nat → Nat → Int32) (k : Nat) : zs_I (md M σ N V) (M + 21) k = V 21 k := md_Iv M σ N V 21 k (by decide) (by decide)
theorem mdP_21 (M : Nat) (σ : zs_S) (N : Nat → Nat → Nat) (V : Nat → Nat → Int32) (k : Nat) (x : Int32) : zs_pI (md M σ N V) (M + 21) k x = md M σ N (zvp V 21 k x) := md_pv M σ N V 21 k x (by decide) (by decide)
theorem mdK_22 (M : Nat) (σ : zs_S) (N : Nat → Nat → Nat) (V : Nat → Nat → Int32) : zs_K (md M σ N V) (M + 22) = (100, 24) := md_K M σ N V 22 (by decide)
theorem mdR_24 (M : Nat) (σ : zs_S) (N : Nat → Nat → Nat) (V : Nat → Nat → Int32) : zs_R (md M σ N V) M 24 = some (M + 22) := by
  show (if M = M then zm_R M 24 else _) = _
  rw [if_pos rfl]
  rfl
theorem mdI_22 (M : Nat) (σ : zs_S) (N : Nat → Nat → Nat) (V : Nat → Nat → Int32) (k : Nat) : zs_I (md M σ N V) (M + 22) k = V 22 k := md_Iv M σ N V 22 k (by decide) (by decide)
theorem mdP_22 (M : Nat) (σ : zs_S) (N : Nat → Nat → Nat) (V : Nat → Nat → Int32) (k : Nat) (x : Int32) : zs_pI (md M σ N V) (M + 22) k x = md M σ N (zvp V 22 k x) := md_pv M σ N V 22 k x (by decide) (by decide)
theorem mdK_23 (M : Nat) (σ : zs_S) (N : Nat → Nat → Nat) (V : Nat → Nat → Int32) : zs_K (md M σ N V) (M + 23) = (100, 2) := md_K M σ N V 23 (by decide)
theorem mdR_25 (M : Nat) (σ : zs_S) (N : Nat → Nat → Nat) (V : Nat → Nat → Int32) : zs_R (md M σ N V) M 25 = some (M + 23) := by
  show (if M = M then zm_R M 25 else _) = _
  rw [if_pos rfl]
  rfl
theorem mdI_23 (M : Nat) (σ : zs_S) (N : Nat → Nat → Nat) (V : Nat → Nat → Int32) (k : Nat) : zs_I (md M σ N V) (M + 23) k = nI (N 23 k) := md_In M σ N V 23 k (by decide) (by decide)
theorem mdP_23 (M : Nat) (σ : zs_S) (N : Nat → Nat → Nat) (V : Nat → Nat → Int32) (k x : Nat) : zs_pI (md M σ N V) (M + 23) k (nI x) = md M σ (zup N 23 k x) V := md_pn M σ N V 23 k x (by decide) (by decide)
theorem mdK_24 (M : Nat) (σ : zs_S) (N : Nat → Nat → Nat) (V : Nat → Nat → Int32) : zs_K (md M σ N V) (M + 24) = (100, 2) := md_K M σ N V 24 (by decide)
theorem mdR_26 (M : Nat) (σ : zs_S) (N : Nat → Nat → Nat) (V : Nat → Nat → Int32) : zs_R (md M σ N V) M 26 = some (M + 24) := by
  show (if M = M then zm_R M 26 else _) = _
  rw [if_pos rfl]
  rfl
theorem mdI_24 (M : Nat) (σ : zs_S) (N : Nat → Nat → Nat) (V : Nat → Nat → Int32) (k : Nat) : zs_I (md M σ N V) (M + 24) k = nI (N 24 k) := md_In M σ N V 24 k (by decide) (by decide)
theorem mdP_24 (M : Nat) (σ : zs_S) (N : Nat → Nat → Nat) (V : Nat → Nat → Int32) (k x : Nat) : zs_pI (md M σ N V) (M + 24) k (nI x) = md M σ (zup N 24 k x) V := md_pn M σ N V 24 k x (by decide) (by decide)
theorem mdK_25 (M : Nat) (σ : zs_S) (N : Nat → Nat → Nat) (V : Nat → Nat → Int32) : zs_K (md M σ N V) (M + 25) = (100, 8) := md_K M σ N V 25 (by decide)
theorem mdR_27 (M : Nat) (σ : zs_S) (N : Nat → Nat → Nat) (V : Nat → Nat → Int32) : zs_R (md M σ N V) M 27 = some (M + 25) := by
  show (if M = M then zm_R M 27 else _) = _
  rw [if_pos rfl]
  rfl
theorem mdI_25 (M : Nat) (σ : zs_S) (N : Nat → Nat → Nat) (V : Nat → Nat → Int32) (k : Nat) : zs_I (md M σ N V) (M + 25) k = nI (N 25 k) := md_In M σ N V 25 k (by decide) (by decide)
theorem mdP_25 (M : Nat) (σ : zs_S) (N : Nat → Nat → Nat) (V : Nat → Nat → Int32) (k x : Nat) : zs_pI (md M σ N V) (M + 25) k (nI x) = md M σ (zup N 25 k x) V := md_pn M σ N V 25 k x (by decide) (by decide)
theorem mdK_26 (M : Nat) (σ : zs_S) (N : Nat → Nat → Nat) (V : Nat → Nat → Int32) : zs_K (md M σ N V) (M + 26) = (101, 800) := md_K M σ N V 26 (by decide)
theorem mdR_28 (M : Nat) (σ : zs_S) (N : Nat → Nat → Nat) (V : Nat → Nat → Int32) : zs_R (md M σ N V) M 28 = some (M + 26) := by
  show (if M = M then zm_R M 28 else _) = _
  rw [if_pos rfl]
  rfl
theorem mdI_26 (M : Nat) (σ : zs_S) (N : Nat → Nat → Nat) (V : Nat → Nat → Int32) (k : Nat) : zs_I (md M σ N V) (M + 26) k = nI (N 26 k) := md_In M σ N V 26 k (by decide) (by decide)
theorem mdP_26 (M : Nat) (σ : zs_S) (N : Nat → Nat → Nat) (V : Nat → Nat → Int32) (k x : Nat) : zs_pI (md M σ N V) (M + 26) k (nI x) = md M σ (zup N 26 k x) V := md_pn M σ N V 26 k x (by decide) (by decide)
theorem mdK_27 (M : Nat) (σ : zs_S) (N : Nat → Nat → Nat) (V : Nat → Nat → Int32) : zs_K (md M σ N V) (M + 27) = (101, 800) := md_K M σ N V 27 (by decide)
theorem mdR_29 (M : Nat) (σ : zs_S) (N : Nat → Nat → Nat) (V : Nat → Nat → Int32) : zs_R (md M σ N V) M 29 = some (M + 27) := by
  show (if M = M then zm_R M 29 else _) = _
  rw [if_pos rfl]
  rfl
theorem mdI_27 (M : Nat) (σ : zs_S) (N : Nat → Nat → Nat) (V : Nat → Nat → Int32) (k : Nat) : zs_I (md M σ N V) (M + 27) k = nI (N 27 k) := md_In M σ N V 27 k (by decide) (by decide)
theorem mdP_27 (M : Nat) (σ : zs_S) (N : Nat → Nat → Nat) (V : Nat → Nat → Int32) (k x : Nat) : zs_pI (md M σ N V) (M + 27) k (nI x) = md M σ (zup N 27 k x) V := md_pn M σ N V 27 k x (by decide) (by decide)
theorem mdK_28 (M : Nat) (σ : zs_S) (N : Nat → Nat → Nat) (V : Nat → Nat → Int32) : zs_K (md M σ N V) (M + 28) = (101, 3200) := md_K M σ N V 28 (by decide)
theorem mdR_30 (M : Nat) (σ : zs_S) (N : Nat → Nat → Nat) (V : Nat → Nat → Int32) : zs_R (md M σ N V) M 30 = some (M + 28) := by
  show (if M = M then zm_R M 30 else _) = _
  rw [if_pos rfl]
  rfl
theorem mdI_28 (M : Nat) (σ : zs_S) (N : Nat → Nat → Nat) (V : Nat → Nat → Int32) (k : Nat) : zs_I (md M σ N V) (M + 28) k = nI (N 28 k) := md_In M σ N V 28 k (by decide) (by decide)
theorem mdP_28 (M : Nat) (σ : zs_S) (N : Nat → Nat → Nat) (V : Nat → Nat → Int32) (k x : Nat) : zs_pI (md M σ N V) (M + 28) k (nI x) = md M σ (zup N 28 k x) V := md_pn M σ N V 28 k x (by decide) (by decide)
theorem mdK_29 (M : Nat) (σ : zs_S) (N : Nat → Nat → Nat) (V : Nat → Nat → Int32) : zs_K (md M σ N V) (M + 29) = (100, 200) := md_K M σ N V 29 (by decide)
theorem mdR_31 (M : Nat) (σ : zs_S) (N : Nat → Nat → Nat) (V : Nat → Nat → Int32) : zs_R (md M σ N V) M 31 = some (M + 29) := by
  show (if M = M then zm_R M 31 else _) = _
  rw [if_pos rfl]
  rfl
theorem mdI_29 (M : Nat) (σ : zs_S) (N : Nat → Nat → Nat) (V : Nat → Nat → Int32) (k : Nat) : zs_I (md M σ N V) (M + 29) k = V 29 k := md_Iv M σ N V 29 k (by decide) (by decide)
theorem mdP_29 (M : Nat) (σ : zs_S) (N : Nat → Nat → Nat) (V : Nat → Nat → Int32) (k : Nat) (x : Int32) : zs_pI (md M σ N V) (M + 29) k x = md M σ N (zvp V 29 k x) := md_pv M σ N V 29 k x (by decide) (by decide)
theorem mdK_30 (M : Nat) (σ : zs_S) (N : Nat → Nat → Nat) (V : Nat → Nat → Int32) : zs_K (md M σ N V) (M + 30) = (100, 200) := md_K M σ N V 30 (by decide)
theorem mdR_32 (M : Nat) (σ : zs_S) (N : Nat → Nat → Nat) (V : Nat → Nat → Int32) : zs_R (md M σ N V) M 32 = some (M + 30) := by
  show (if M = M then zm_R M 32 else _) = _
  rw [if_pos rfl]
  rfl
theorem mdI_30 (M : Nat) (σ : zs_S) (N : Nat → Nat → Nat) (V : Nat → Nat → Int32) (k : Nat) : zs_I (md M σ N V) (M + 30) k = V 30 k := md_Iv M σ N V 30 k (by decide) (by decide)
theorem mdP_30 (M : Nat) (σ : zs_S) (N : Nat → Nat → Nat) (V : Nat → Nat → Int32) (k : Nat) (x : Int32) : zs_pI (md M σ N V) (M + 30) k x = md M σ N (zvp V 30 k x) := md_pv M σ N V 30 k x (by decide) (by decide)
theorem mdK_31 (M : Nat) (σ : zs_S) (N : Nat → Nat → Nat) (V : Nat → Nat → Int32) : zs_K (md M σ N V) (M + 31) = (100, 100) := md_K M σ N V 31 (by decide)
theorem mdR_33 (M : Nat) (σ : zs_S) (N : Nat → Nat → Nat) (V : Nat → Nat → Int32) : zs_R (md M σ N V) M 33 = some (M + 31) := by
  show (if M = M then zm_R M 33 else _) = _
  rw [if_pos rfl]
  rfl
theorem mdI_31 (M : Nat) (σ : zs_S) (N : Nat → Nat → Nat) (V : Nat → Nat → Int32) (k : Nat) : zs_I (md M σ N V) (M + 31) k = nI (N 31 k) := md_In M σ N V 31 k (by decide) (by decide)
theorem mdP_31 (M : Nat) (σ : zs_S) (N : Nat → Nat → Nat) (V : Nat → Nat → Int32) (k x : Nat) : zs_pI (md M σ N V) (M + 31) k (nI x) = md M σ (zup N 31 k x) V := md_pn M σ N V 31 k x (by decide) (by decide)
theorem mdI_0 (M : Nat) (σ : zs_S) (N : Nat → Nat → Nat) (V : Nat → Nat → Int32) (k : Nat) : zs_I (md M σ N V) M k = nI (N 0 k) := md_In M σ N V 0 k (by decide) (by decide)
theorem mdP_0 (M : Nat) (σ : zs_S) (N : Nat → Nat → Nat) (V : Nat → Nat → Int32) (k x : Nat) : zs_pI (md M σ N V) M k (nI x) = md M σ (zup N 0 k x) V := md_pn M σ N V 0 k x (by decide) (by decide)
/-! Numbers. -/
theorem zn_mul (a b : Nat) : nI a * nI b = nI (a * b) := by
  show Int32.ofNat a * Int32.ofNat b = Int32.ofNat (a * b)
  exact (Int32.ofNat_mul a b).symm
theorem zn_in {k n : Nat} (hk : k < 2 ^ 31) : vp_in (nI k) n ↔ k < n := by
  unfold vp_in
  rw [nI_clamp hk]
  have := nI_pos hk
  constructor
  · intro h; exact Nat.not_le.mp fun q => h (Or.inr q)
  · intro h q; rcases q with q | q
    · exact this q
    · omega
theorem zn_toInt {k : Nat} (hk : k < 2 ^ 31) : (nI k).toInt = (k : Int) := nI_toInt hk
theorem zn_sub {a b : Nat} (h : b ≤ a) : nI a - nI b = nI (a - b) := by
  have e : a = (a - b) + b := by omega
  have h1 : nI a = nI (a - b) + nI b := by rw [nI_add, ← e]
  rw [h1, Int32.add_sub_cancel]
theorem zn_lit (n : Nat) : (OfNat.ofNat n : Int32) = nI n := rfl
theorem zn_div {a b : Nat} (ha : a < 2 ^ 31) (hb : b < 2 ^ 31) : nI a / nI b = nI (a / b) := by
  apply Int32.toInt_inj.mp
  have hq : a / b < 2 ^ 31 := Nat.lt_of_le_of_lt (Nat.div_le_self a b) ha
  rw [nI_toInt hq, Int32.toInt_div, nI_toInt ha, nI_toInt hb]
  have e : ((a : Int).tdiv (b : Int)) = ((a / b : Nat) : Int) := by
    rw [Int.tdiv_eq_ediv_of_nonneg (by omega)]; rfl
  rw [e]
  clear e
  generalize a / b = q at *
  apply Int.bmod_eq_of_le <;> omega
theorem zn_rem {a b : Nat} (ha : a < 2 ^ 31) (hb : b < 2 ^ 31) : nI a - nI a / nI b * nI b = nI (a % b) := by
  rw [zn_div ha hb, zn_mul, zn_sub (by rw [Nat.mul_comm]; exact Nat.mul_div_le a b)]
  congr 1
  have := Nat.mod_add_div a b
  rw [Nat.mul_comm]
  omega
theorem zn_b (p : Prop) [Decidable p] : (if p then (1 : Int32) else 0) = nI (if p then 1 else 0) := by split <;> rfl
