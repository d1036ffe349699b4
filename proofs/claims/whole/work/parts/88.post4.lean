/-! The messages under way: a replica's VALUES are forgotten. -/
theorem mrm_mpl (r : Nat) : ∀ (n : Nat) (N : Nat → Nat → Nat), n ≤ N 0 16 → (∀ i, i < n → ((N 15 i = 4 ∧ N 17 i = r) ↔ ckeep r (mcode N i, N 19 i) = false)) → mpl (mrm r n N) = ((mpl N).take n).filter (ckeep r) ++ (mpl N).drop n
  | 0, N, _, _ => by
    show mpl N = _
    rw [List.take_zero, List.filter_nil, List.nil_append, List.drop_zero]
  | n + 1, N, hn, hk => by
    have hat := mpl_at N n (by omega)
    have hlen := mpl_len N
    have hlt : n < (mpl N).length := by omega
    by_cases g : N 15 n = 4 ∧ N 17 n = r
    · have e : mrm r (n + 1) N = mrm r n (mtake N n) := by show mrm r n (if _ then _ else _) = _; rw [if_pos g]
      have old : ∀ m i, i < n → mtake N n m i = N m i ∨ (m = 0 ∧ i = 16) := fun m i hi => by
        unfold mtake
        rw [mshift_at, if_neg (by omega)]
        by_cases z : m = 0 ∧ i = 16
        · right; exact z
        · left; rw [if_neg z]
      have old2 : ∀ m i, i < n → 15 ≤ m → mtake N n m i = N m i := fun m i hi hm => (old m i hi).resolve_right (by omega)
      rw [e, mrm_mpl r n (mtake N n) (by rw [mtake_u]; omega) (fun i hi => by rw [old2 15 i hi (by decide), old2 17 i hi (by decide), old2 19 i hi (by decide), mcode_of (N := N) (j := i) (fun m a b => old2 m i hi a)]; exact hk i (by omega)), mtake_mpl N n (by omega)]
      have hf : ckeep r (mcode N n, N 19 n) = false := (hk n (by omega)).mp g
      have tk : (mpl N).take (n + 1) = (mpl N).take n ++ [(mcode N n, N 19 n)] := by rw [List.take_add_one, hat]; rfl
      rw [tk, List.filter_append, List.filter_cons_of_neg (by rw [hf]; exact Bool.false_ne_true), List.filter_nil, List.append_nil, List.eraseIdx_eq_take_drop_succ]
      have l1 : ((mpl N).take n).length = n := by rw [List.length_take]; omega
      rw [List.take_append_of_le_length (by omega), List.take_of_length_le (by omega), List.drop_append_of_le_length (by omega), List.drop_of_length_le (by omega), List.nil_append]
    · have e : mrm r (n + 1) N = mrm r n N := by show mrm r n (if _ then _ else _) = _; rw [if_neg g]
      rw [e, mrm_mpl r n N (by omega) (fun i hi => hk i (by omega))]
      have hf : ckeep r (mcode N n, N 19 n) = true := by
        cases z : ckeep r (mcode N n, N 19 n)
        · exact absurd ((hk n (by omega)).mpr z) g
        · rfl
      have tk : (mpl N).take (n + 1) = (mpl N).take n ++ [(mcode N n, N 19 n)] := by rw [List.take_add_one, hat]; rfl
      have dr : (mpl N).drop n = (mcode N n, N 19 n) :: (mpl N).drop (n + 1) := by
        rw [List.drop_eq_getElem_cons hlt]
        congr 1
        have := List.getElem?_eq_getElem hlt
        rw [hat] at this
        exact (Option.some.inj this).symm
      rw [tk, List.filter_append, List.filter_cons_of_pos hf, List.filter_nil, List.append_assoc, dr]
      rfl
