/-! Class and reference in one store: the reference's band M .. M + 31. -/
def mdb (M : Nat) (ρ : zs_S) (N : Nat → Nat → Nat) (V : Nat → Nat → Int32) : Prop := md M ρ N V = ρ
theorem md_Ko (M : Nat) (σ : zs_S) (N : Nat → Nat → Nat) (V : Nat → Nat → Int32) (w : Nat) (h : ¬ (M ≤ w ∧ w < M + 32)) : zs_K (md M σ N V) w = zs_K σ w := by
  show (if M ≤ w ∧ w < M + 32 then zm_K (w - M) else zs_K σ w) = _
  rw [if_neg h]
theorem md_Io (M : Nat) (σ : zs_S) (N : Nat → Nat → Nat) (V : Nat → Nat → Int32) (w q : Nat) (h : ¬ (M ≤ w ∧ w < M + 32)) : zs_I (md M σ N V) w q = zs_I σ w q := by
  show (if M ≤ w ∧ w < M + 32 then (if zm_raw (w - M) then V (w - M) q else nI (N (w - M) q)) else zs_I σ w q) = _
  rw [if_neg h]
theorem md_Ro (M : Nat) (σ : zs_S) (N : Nat → Nat → Nat) (V : Nat → Nat → Int32) (w q : Nat) (h : ¬ w = M) : zs_R (md M σ N V) w q = zs_R σ w q := by
  show (if w = M then zm_R M q else zs_R σ w q) = _
  rw [if_neg h]
theorem md_Kb (M : Nat) (σ : zs_S) (N : Nat → Nat → Nat) (V : Nat → Nat → Int32) (w : Nat) (h : M ≤ w ∧ w < M + 32) : zs_K (md M σ N V) w = zm_K (w - M) := by
  show (if M ≤ w ∧ w < M + 32 then zm_K (w - M) else zs_K σ w) = _
  rw [if_pos h]
theorem md_Ib (M : Nat) (σ : zs_S) (N : Nat → Nat → Nat) (V : Nat → Nat → Int32) (w q : Nat) (h : M ≤ w ∧ w < M + 32) : zs_I (md M σ N V) w q = if zm_raw (w - M) then V (w - M) q else nI (N (w - M) q) := by
  show (if M ≤ w ∧ w < M + 32 then (if zm_raw (w - M) then V (w - M) q else nI (N (w - M) q)) else zs_I σ w q) = _
  rw [if_pos h]
theorem md_Rb (M : Nat) (σ : zs_S) (N : Nat → Nat → Nat) (V : Nat → Nat → Int32) (q : Nat) : zs_R (md M σ N V) M q = zm_R M q := by
  show (if M = M then zm_R M q else zs_R σ M q) = _
  rw [if_pos rfl]
/-- a store whose band is the reference's -/
theorem mdb_mk {M : Nat} {ρ : zs_S} {N : Nat → Nat → Nat} {V : Nat → Nat → Int32} (hK : ∀ w, M ≤ w → w < M + 32 → zs_K ρ w = zm_K (w - M)) (hI : ∀ w q, M ≤ w → w < M + 32 → zs_I ρ w q = if zm_raw (w - M) then V (w - M) q else nI (N (w - M) q)) (hR : ∀ q, zs_R ρ M q = zm_R M q) : mdb M ρ N V := by
  refine zs_ext rfl ?_ (fun w q => ?_) (fun w q => ?_)
  · funext w
    show zs_K (md M ρ N V) w = zs_K ρ w
    by_cases g : M ≤ w ∧ w < M + 32
    · rw [md_Kb _ _ _ _ _ g, hK w g.1 g.2]
    · rw [md_Ko _ _ _ _ _ g]
  · by_cases g : M ≤ w ∧ w < M + 32
    · rw [md_Ib _ _ _ _ _ _ g, hI w q g.1 g.2]
    · rw [md_Io _ _ _ _ _ _ g]
  · by_cases g : w = M
    · subst g; rw [md_Rb, hR]
    · rw [md_Ro _ _ _ _ _ _ g]
theorem mdb_md (M : Nat) (σ : zs_S) (N : Nat → Nat → Nat) (V : Nat → Nat → Int32) : mdb M (md M σ N V) N V := mdb_mk (fun w a b => md_Kb _ _ _ _ _ ⟨a, b⟩) (fun w q a b => md_Ib _ _ _ _ _ _ ⟨a, b⟩) (fun q => md_Rb _ _ _ _ _)
/-- a step of the class leaves the band alone -/
theorem mdb_of {M : Nat} {ρ τ : zs_S} {N : Nat → Nat → Nat} {V : Nat → Nat → Int32} (h : mdb M ρ N V) (hK : ∀ w, M ≤ w → w < M + 32 → zs_K τ w = zs_K ρ w) (hI : ∀ w q, M ≤ w → w < M + 32 → zs_I τ w q = zs_I ρ w q) (hR : ∀ q, zs_R τ M q = zs_R ρ M q) : mdb M τ N V := by
  unfold mdb at h
  refine mdb_mk (fun w a b => ?_) (fun w q a b => ?_) (fun q => ?_)
  · rw [hK w a b, ← h, md_Kb _ _ _ _ _ ⟨a, b⟩]
  · rw [hI w q a b, ← h, md_Ib _ _ _ _ _ _ ⟨a, b⟩]
  · rw [hR q, ← h, md_Rb]
theorem mdb_pI {M : Nat} {ρ : zs_S} {N : Nat → Nat → Nat} {V : Nat → Nat → Int32} (h : mdb M ρ N V) (w k : Nat) (x : Int32) (hw : w < M ∨ M + 32 ≤ w) : mdb M (zs_pI ρ w k x) N V := mdb_of h (fun _ _ _ => rfl) (fun y q a b => by rw [zx_I_ne _ _ _ _ (by omega)]) (fun _ => rfl)
theorem mdb_pR {M : Nat} {ρ : zs_S} {N : Nat → Nat → Nat} {V : Nat → Nat → Int32} (h : mdb M ρ N V) (w k : Nat) (x : Option Nat) (hw : w < M ∨ M + 32 ≤ w) : mdb M (zs_pR ρ w k x) N V := mdb_of h (fun _ _ _ => rfl) (fun y q a b => rfl) (fun q => by rw [zx_R_ne _ _ _ _ (by omega)])
theorem mdb_csnd {M : Nat} {ρ : zs_S} {N : Nat → Nat → Nat} {V : Nat → Nat → Int32} (h : mdb M ρ N V) (u : Nat) (L : List (Nat × Nat)) (hM : 6 ≤ M) : mdb M (csnd ρ u L) N V := mdb_of h (fun _ _ _ => rfl) (fun y q a b => csnd_o _ _ _ _ _ (by omega) (by omega) (by omega)) (fun _ => rfl)
theorem mdb_nw {M : Nat} {ρ : zs_S} {N : Nat → Nat → Nat} {V : Nat → Nat → Int32} (h : mdb M ρ N V) (q : Nat × Nat) (hn : M + 32 ≤ zs_n ρ) : mdb M (zs_nw ρ q) N V := mdb_of h (fun w a b => by rw [zx_K_nw, if_neg (by omega)]) (fun w y a b => by rw [zx_I_nw, if_neg (by omega)]) (fun y => by rw [zx_R_nw, if_neg (by omega)])
