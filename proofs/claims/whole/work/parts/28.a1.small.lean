set_option maxRecDepth 100000 in
theorem tc_X0_L71 {X : z_Ct} {A : Nat → Prop} {b q1 q2 q3 q4 q5 : Nat} (C : n_Cx X A RX0 cX0_init 2 1 5 96) : ∀ (m i : Nat), i ≤ 8 → 8 - i < m → n_W X A 5 96 (n_MQ X A b w_Beds 5 96) 71 [some (.ref b), some (.int (nI i))] [] ((b, .inr (0, [.ref q1, .ref q2, .ref q3, .ref q4, .ref q5, .int 0, .int 0, .int 0, .int 0])) :: ((((([] ++ [(q1, .inl ((n_Y X).1, 64, .inl (n_pre (fun _ => 50) 64)))]) ++ [(q2, .inl ((n_Y X).1, 8, .inl (n_pre (fun _ => -1) i)))]) ++ [(q3, .inl ((n_Y X).1, 8, .inl (fun _ => 0)))]) ++ [(q4, .inl ((n_Y X).1, 8, .inl (n_pre (fun _ => -1) i)))]) ++ [(q5, .inl ((n_Y X).1, 8, .inl (fun _ => 0)))])) := by
  intro m
  induction m with
  | zero => intro i h1 h2; omega
  | succ m ih =>
    intro i h1 h2
    refine n_iload_n C dX0_init_71 rfl rfl ?_
    refine n_bipush (v := 8) C dX0_init_72 (by decide) ?_
    refine n_icmp_ge (tgt := 97) C dX0_init_74 (by decide) (fun hc => ?_) (fun hc => ?_)
    · have hi : i = 8 := by
        rcases Nat.lt_or_ge i 8 with q | q
        · exact absurd (nI_lt (b := 8) q (by omega)) hc
        · omega
      subst hi
      exact n_ret C (fun i => [b, q1, q2, q3, q4, q5].getD i 0) rfl rfl dX0_init_97
    · have hi : i < 8 := by
        rcases Nat.lt_or_ge i 8 with q | q
        · exact q
        · exact absurd hc (nI_nlt (b := 8) q (by omega))
      refine n_aload_n C dX0_init_77 rfl rfl ?_
      refine n_get C z_CF0 0 rfl (by decide) flX0_15 rfl dX0_init_78 ?_
      refine n_iload_n C dX0_init_81 rfl rfl ?_
      refine n_iconst (v := (-1)) C dX0_init_82 (by decide) ?_
      refine n_iastp (i := i) (ws' := ((b, .inr (0, [.ref q1, .ref q2, .ref q3, .ref q4, .ref q5, .int 0, .int 0, .int 0, .int 0])) :: ((((([] ++ [(q1, .inl ((n_Y X).1, 64, .inl (n_pre (fun _ => 50) 64)))]) ++ [(q2, .inl ((n_Y X).1, 8, .inl (n_pre (fun _ => -1) (i + 1))))]) ++ [(q3, .inl ((n_Y X).1, 8, .inl (fun _ => 0)))]) ++ [(q4, .inl ((n_Y X).1, 8, .inl (n_pre (fun _ => -1) i)))]) ++ [(q5, .inl ((n_Y X).1, 8, .inl (fun _ => 0)))]))) C (fun _ => -1) 2 rfl hi (by decide) rfl rfl rfl dX0_init_83 ?_
      refine n_aload_n C dX0_init_84 rfl rfl ?_
      refine n_get C z_CF0 0 rfl (by decide) flX0_21 rfl dX0_init_85 ?_
      refine n_iload_n C dX0_init_88 rfl rfl ?_
      refine n_iconst (v := (-1)) C dX0_init_89 (by decide) ?_
      refine n_iastp (i := i) (ws' := ((b, .inr (0, [.ref q1, .ref q2, .ref q3, .ref q4, .ref q5, .int 0, .int 0, .int 0, .int 0])) :: ((((([] ++ [(q1, .inl ((n_Y X).1, 64, .inl (n_pre (fun _ => 50) 64)))]) ++ [(q2, .inl ((n_Y X).1, 8, .inl (n_pre (fun _ => -1) (i + 1))))]) ++ [(q3, .inl ((n_Y X).1, 8, .inl (fun _ => 0)))]) ++ [(q4, .inl ((n_Y X).1, 8, .inl (n_pre (fun _ => -1) (i + 1))))]) ++ [(q5, .inl ((n_Y X).1, 8, .inl (fun _ => 0)))]))) C (fun _ => -1) 4 rfl hi (by decide) rfl rfl rfl dX0_init_90 ?_
      refine n_iinc (v := nI (i + 1)) (lo' := [some (.ref b), some (.int (nI (i + 1)))]) C dX0_init_91 rfl (nI_succ i).symm rfl ?_
      refine n_goto (tgt := 71) C dX0_init_94 (by decide) ?_
      exact ih (i + 1) (by omega) (by omega)
set_option maxRecDepth 100000 in
theorem tc_X0_L46 {X : z_Ct} {A : Nat → Prop} {b q1 q2 q3 q4 q5 : Nat} (C : n_Cx X A RX0 cX0_init 2 1 5 96) : ∀ (m i : Nat), i ≤ 64 → 64 - i < m → n_W X A 5 96 (n_MQ X A b w_Beds 5 96) 46 [some (.ref b), some (.int (nI i))] [] ((b, .inr (0, [.ref q1, .ref q2, .ref q3, .ref q4, .ref q5, .int 0, .int 0, .int 0, .int 0])) :: ((((([] ++ [(q1, .inl ((n_Y X).1, 64, .inl (n_pre (fun _ => 50) i)))]) ++ [(q2, .inl ((n_Y X).1, 8, .inl (fun _ => 0)))]) ++ [(q3, .inl ((n_Y X).1, 8, .inl (fun _ => 0)))]) ++ [(q4, .inl ((n_Y X).1, 8, .inl (fun _ => 0)))]) ++ [(q5, .inl ((n_Y X).1, 8, .inl (fun _ => 0)))])) := by
  intro m
  induction m with
  | zero => intro i h1 h2; omega
  | succ m ih =>
    intro i h1 h2
    refine n_iload_n C dX0_init_46 rfl rfl ?_
    refine n_aload_n C dX0_init_47 rfl rfl ?_
    refine n_get C z_CF0 0 rfl (by decide) flX0_9 rfl dX0_init_48 ?_
    refine n_alen (v := 64) C 1 rfl (by decide) dX0_init_51 ?_
    refine n_icmp_ge (tgt := 69) C dX0_init_52 (by decide) (fun hc => ?_) (fun hc => ?_)
    · have hi : i = 64 := by
        rcases Nat.lt_or_ge i 64 with q | q
        · exact absurd (nI_lt (b := 64) q (by omega)) hc
        · omega
      subst hi
      refine n_iconst (v := 0) C dX0_init_69 (by decide) ?_
      refine n_istore_n (lo' := [some (.ref b), some (.int 0)]) C dX0_init_70 rfl (Nat.le_of_ble_eq_true rfl) rfl ?_
      refine n_ws (ws' := ((b, .inr (0, [.ref q1, .ref q2, .ref q3, .ref q4, .ref q5, .int 0, .int 0, .int 0, .int 0])) :: ((((([] ++ [(q1, .inl ((n_Y X).1, 64, .inl (n_pre (fun _ => 50) 64)))]) ++ [(q2, .inl ((n_Y X).1, 8, .inl (n_pre (fun _ => -1) 0)))]) ++ [(q3, .inl ((n_Y X).1, 8, .inl (fun _ => 0)))]) ++ [(q4, .inl ((n_Y X).1, 8, .inl (n_pre (fun _ => -1) 0)))]) ++ [(q5, .inl ((n_Y X).1, 8, .inl (fun _ => 0)))]))) (by rw [n_pre_0]) ?_
      exact tc_X0_L71 C 9 0 (by omega) (by omega)
    · have hi : i < 64 := by
        rcases Nat.lt_or_ge i 64 with q | q
        · exact q
        · exact absurd hc (nI_nlt (b := 64) q (by omega))
      refine n_aload_n C dX0_init_55 rfl rfl ?_
      refine n_get C z_CF0 0 rfl (by decide) flX0_9 rfl dX0_init_56 ?_
      refine n_iload_n C dX0_init_59 rfl rfl ?_
      refine n_bipush (v := 50) C dX0_init_60 (by decide) ?_
      refine n_iastp (i := i) (ws' := ((b, .inr (0, [.ref q1, .ref q2, .ref q3, .ref q4, .ref q5, .int 0, .int 0, .int 0, .int 0])) :: ((((([] ++ [(q1, .inl ((n_Y X).1, 64, .inl (n_pre (fun _ => 50) (i + 1))))]) ++ [(q2, .inl ((n_Y X).1, 8, .inl (fun _ => 0)))]) ++ [(q3, .inl ((n_Y X).1, 8, .inl (fun _ => 0)))]) ++ [(q4, .inl ((n_Y X).1, 8, .inl (fun _ => 0)))]) ++ [(q5, .inl ((n_Y X).1, 8, .inl (fun _ => 0)))]))) C (fun _ => 50) 1 rfl hi (by decide) rfl rfl rfl dX0_init_62 ?_
      refine n_iinc (v := nI (i + 1)) (lo' := [some (.ref b), some (.int (nI (i + 1)))]) C dX0_init_63 rfl (nI_succ i).symm rfl ?_
      refine n_goto (tgt := 46) C dX0_init_66 (by decide) ?_
      exact ih (i + 1) (by omega) (by omega)
set_option maxHeartbeats 8000000 in
set_option maxRecDepth 100000 in
theorem tc_X0 : n_Mt yX0_init (z_w yX0_init cX0_init 2 none) 1 5 96 0 [.null, .null, .null, .null, .null, .int 0, .int 0, .int 0, .int 0] [] w_Beds := by
  refine n_head (lo := [none]) (by decide) rfl (fun b => Nat.le_of_ble_eq_true rfl) ?_ rfl ?_
  · intro b i v hv
    exact z_loe (vs := .ref b :: []) (n := 1) rfl (by simp [z_c1i, z_c1r]) i v hv
  · intro X A b C
    refine n_aload_n C dX0_init_0 rfl rfl ?_
    refine n_obj (st := []) C rfl (Nat.le_of_ble_eq_true rfl) moX0_3 dX0_init_1 ?_
    refine n_aload_n C dX0_init_4 rfl rfl ?_
    refine n_bipush (v := 64) C dX0_init_5 (by decide) ?_
    refine n_newi (N := 64) C (by decide) (by decide) (by decide) (by decide) (by decide) dX0_init_7 (fun q1 => ?_)
    refine n_ws (ws' := ((b, .inr (0, [.null, .null, .null, .null, .null, .int 0, .int 0, .int 0, .int 0])) :: ([] ++ [(q1, .inl ((n_Y X).1, 64, .inl (fun _ => 0)))]))) rfl ?_
    refine n_putF (ws' := ((b, .inr (0, [.ref q1, .null, .null, .null, .null, .int 0, .int 0, .int 0, .int 0])) :: ([] ++ [(q1, .inl ((n_Y X).1, 64, .inl (fun _ => 0)))]))) C z_CF0 0 rfl (by decide) flX0_9 rfl rfl rfl rfl (Nat.le_of_ble_eq_true rfl) rfl dX0_init_9 ?_
    refine n_aload_n C dX0_init_12 rfl rfl ?_
    refine n_bipush (v := 8) C dX0_init_13 (by decide) ?_
    refine n_newi (N := 8) C (by decide) (by decide) (by decide) (by decide) (by decide) dX0_init_15 (fun q2 => ?_)
    refine n_ws (ws' := ((b, .inr (0, [.ref q1, .null, .null, .null, .null, .int 0, .int 0, .int 0, .int 0])) :: (([] ++ [(q1, .inl ((n_Y X).1, 64, .inl (fun _ => 0)))]) ++ [(q2, .inl ((n_Y X).1, 8, .inl (fun _ => 0)))]))) rfl ?_
    refine n_putF (ws' := ((b, .inr (0, [.ref q1, .ref q2, .null, .null, .null, .int 0, .int 0, .int 0, .int 0])) :: (([] ++ [(q1, .inl ((n_Y X).1, 64, .inl (fun _ => 0)))]) ++ [(q2, .inl ((n_Y X).1, 8, .inl (fun _ => 0)))]))) C z_CF0 0 rfl (by decide) flX0_15 rfl rfl rfl rfl (Nat.le_of_ble_eq_true rfl) rfl dX0_init_17 ?_
    refine n_aload_n C dX0_init_20 rfl rfl ?_
    refine n_bipush (v := 8) C dX0_init_21 (by decide) ?_
    refine n_newi (N := 8) C (by decide) (by decide) (by decide) (by decide) (by decide) dX0_init_23 (fun q3 => ?_)
    refine n_ws (ws' := ((b, .inr (0, [.ref q1, .ref q2, .null, .null, .null, .int 0, .int 0, .int 0, .int 0])) :: ((([] ++ [(q1, .inl ((n_Y X).1, 64, .inl (fun _ => 0)))]) ++ [(q2, .inl ((n_Y X).1, 8, .inl (fun _ => 0)))]) ++ [(q3, .inl ((n_Y X).1, 8, .inl (fun _ => 0)))]))) rfl ?_
    refine n_putF (ws' := ((b, .inr (0, [.ref q1, .ref q2, .ref q3, .null, .null, .int 0, .int 0, .int 0, .int 0])) :: ((([] ++ [(q1, .inl ((n_Y X).1, 64, .inl (fun _ => 0)))]) ++ [(q2, .inl ((n_Y X).1, 8, .inl (fun _ => 0)))]) ++ [(q3, .inl ((n_Y X).1, 8, .inl (fun _ => 0)))]))) C z_CF0 0 rfl (by decide) flX0_18 rfl rfl rfl rfl (Nat.le_of_ble_eq_true rfl) rfl dX0_init_25 ?_
    refine n_aload_n C dX0_init_28 rfl rfl ?_
    refine n_bipush (v := 8) C dX0_init_29 (by decide) ?_
    refine n_newi (N := 8) C (by decide) (by decide) (by decide) (by decide) (by decide) dX0_init_31 (fun q4 => ?_)
    refine n_ws (ws' := ((b, .inr (0, [.ref q1, .ref q2, .ref q3, .null, .null, .int 0, .int 0, .int 0, .int 0])) :: (((([] ++ [(q1, .inl ((n_Y X).1, 64, .inl (fun _ => 0)))]) ++ [(q2, .inl ((n_Y X).1, 8, .inl (fun _ => 0)))]) ++ [(q3, .inl ((n_Y X).1, 8, .inl (fun _ => 0)))]) ++ [(q4, .inl ((n_Y X).1, 8, .inl (fun _ => 0)))]))) rfl ?_
    refine n_putF (ws' := ((b, .inr (0, [.ref q1, .ref q2, .ref q3, .ref q4, .null, .int 0, .int 0, .int 0, .int 0])) :: (((([] ++ [(q1, .inl ((n_Y X).1, 64, .inl (fun _ => 0)))]) ++ [(q2, .inl ((n_Y X).1, 8, .inl (fun _ => 0)))]) ++ [(q3, .inl ((n_Y X).1, 8, .inl (fun _ => 0)))]) ++ [(q4, .inl ((n_Y X).1, 8, .inl (fun _ => 0)))]))) C z_CF0 0 rfl (by decide) flX0_21 rfl rfl rfl rfl (Nat.le_of_ble_eq_true rfl) rfl dX0_init_33 ?_
    refine n_aload_n C dX0_init_36 rfl rfl ?_
    refine n_bipush (v := 8) C dX0_init_37 (by decide) ?_
    refine n_newi (N := 8) C (by decide) (by decide) (by decide) (by decide) (by decide) dX0_init_39 (fun q5 => ?_)
    refine n_ws (ws' := ((b, .inr (0, [.ref q1, .ref q2, .ref q3, .ref q4, .null, .int 0, .int 0, .int 0, .int 0])) :: ((((([] ++ [(q1, .inl ((n_Y X).1, 64, .inl (fun _ => 0)))]) ++ [(q2, .inl ((n_Y X).1, 8, .inl (fun _ => 0)))]) ++ [(q3, .inl ((n_Y X).1, 8, .inl (fun _ => 0)))]) ++ [(q4, .inl ((n_Y X).1, 8, .inl (fun _ => 0)))]) ++ [(q5, .inl ((n_Y X).1, 8, .inl (fun _ => 0)))]))) rfl ?_
    refine n_putF (ws' := ((b, .inr (0, [.ref q1, .ref q2, .ref q3, .ref q4, .ref q5, .int 0, .int 0, .int 0, .int 0])) :: ((((([] ++ [(q1, .inl ((n_Y X).1, 64, .inl (fun _ => 0)))]) ++ [(q2, .inl ((n_Y X).1, 8, .inl (fun _ => 0)))]) ++ [(q3, .inl ((n_Y X).1, 8, .inl (fun _ => 0)))]) ++ [(q4, .inl ((n_Y X).1, 8, .inl (fun _ => 0)))]) ++ [(q5, .inl ((n_Y X).1, 8, .inl (fun _ => 0)))]))) C z_CF0 0 rfl (by decide) flX0_24 rfl rfl rfl rfl (Nat.le_of_ble_eq_true rfl) rfl dX0_init_41 ?_
    refine n_iconst (v := 0) C dX0_init_44 (by decide) ?_
    refine n_istore_n (lo' := [some (.ref b), some (.int 0)]) C dX0_init_45 rfl (Nat.le_of_ble_eq_true rfl) rfl ?_
    refine n_ws (ws' := ((b, .inr (0, [.ref q1, .ref q2, .ref q3, .ref q4, .ref q5, .int 0, .int 0, .int 0, .int 0])) :: ((((([] ++ [(q1, .inl ((n_Y X).1, 64, .inl (n_pre (fun _ => 50) 0)))]) ++ [(q2, .inl ((n_Y X).1, 8, .inl (fun _ => 0)))]) ++ [(q3, .inl ((n_Y X).1, 8, .inl (fun _ => 0)))]) ++ [(q4, .inl ((n_Y X).1, 8, .inl (fun _ => 0)))]) ++ [(q5, .inl ((n_Y X).1, 8, .inl (fun _ => 0)))]))) (by rw [n_pre_0]) ?_
    exact tc_X0_L46 C 65 0 (by omega) (by omega)
set_option maxHeartbeats 8000000 in
set_option maxRecDepth 100000 in
theorem tc_X9_16_0 : n_Mt yX9_init (z_w yX9_init cX9_init 3 none) 1 2 80 9 [.null, .null, .int 0, .int 0] [.int 16, .int 0] (w_Text 80 0) := by
  refine n_head (lo := [some (.int 16), some (.int 0)]) (by decide) rfl (fun b => Nat.le_of_ble_eq_true rfl) ?_ rfl ?_
  · intro b i v hv
    exact z_loe (vs := .ref b :: [.int 16, .int 0]) (n := 0) rfl (by simp [z_c1i, z_c1r]) i v hv
  · intro X A b C
    refine n_aload_n C dX9_init_0 rfl rfl ?_
    refine n_obj (st := []) C rfl (Nat.le_of_ble_eq_true rfl) moX9_1 dX9_init_1 ?_
    refine n_aload_n C dX9_init_4 rfl rfl ?_
    refine n_iload_n C dX9_init_5 rfl rfl ?_
    refine n_iconst (v := 5) C dX9_init_6 (by decide) ?_
    refine n_imul C dX9_init_7 ?_
    refine n_newi (N := 80) C (by decide) (by decide) (by decide) (by decide) (by decide) dX9_init_8 (fun q1 => ?_)
    refine n_ws (ws' := ((b, .inr (9, [.null, .null, .int 0, .int 0])) :: ([] ++ [(q1, .inl ((n_Y X).1, 80, .inl (fun _ => 0)))]))) rfl ?_
    refine n_putF (ws' := ((b, .inr (9, [.ref q1, .null, .int 0, .int 0])) :: ([] ++ [(q1, .inl ((n_Y X).1, 80, .inl (fun _ => 0)))]))) C z_CF9 0 rfl (by decide) flX9_9 rfl rfl rfl rfl (Nat.le_of_ble_eq_true rfl) rfl dX9_init_10 ?_
    refine n_aload_n C dX9_init_13 rfl rfl ?_
    refine n_iload_n C dX9_init_14 rfl rfl ?_
    refine n_newi (N := 0) C (by decide) (by decide) (by decide) (by decide) (by decide) dX9_init_15 (fun q2 => ?_)
    refine n_ws (ws' := ((b, .inr (9, [.ref q1, .null, .int 0, .int 0])) :: (([] ++ [(q1, .inl ((n_Y X).1, 80, .inl (fun _ => 0)))]) ++ [(q2, .inl ((n_Y X).1, 0, .inl (fun _ => 0)))]))) rfl ?_
    refine n_putF (ws' := ((b, .inr (9, [.ref q1, .ref q2, .int 0, .int 0])) :: (([] ++ [(q1, .inl ((n_Y X).1, 80, .inl (fun _ => 0)))]) ++ [(q2, .inl ((n_Y X).1, 0, .inl (fun _ => 0)))]))) C z_CF9 0 rfl (by decide) flX9_13 rfl rfl rfl rfl (Nat.le_of_ble_eq_true rfl) rfl dX9_init_17 ?_
    exact n_ret C (fun i => [b, q1, q2].getD i 0) rfl rfl dX9_init_20
set_option maxHeartbeats 8000000 in
set_option maxRecDepth 100000 in
theorem tc_X9_16_400 : n_Mt yX9_init (z_w yX9_init cX9_init 3 none) 1 2 480 9 [.null, .null, .int 0, .int 0] [.int 16, .int 400] (w_Text 80 400) := by
  refine n_head (lo := [some (.int 16), some (.int 400)]) (by decide) rfl (fun b => Nat.le_of_ble_eq_true rfl) ?_ rfl ?_
  · intro b i v hv
    exact z_loe (vs := .ref b :: [.int 16, .int 400]) (n := 0) rfl (by simp [z_c1i, z_c1r]) i v hv
  · intro X A b C
    refine n_aload_n C dX9_init_0 rfl rfl ?_
    refine n_obj (st := []) C rfl (Nat.le_of_ble_eq_true rfl) moX9_1 dX9_init_1 ?_
    refine n_aload_n C dX9_init_4 rfl rfl ?_
    refine n_iload_n C dX9_init_5 rfl rfl ?_
    refine n_iconst (v := 5) C dX9_init_6 (by decide) ?_
    refine n_imul C dX9_init_7 ?_
    refine n_newi (N := 80) C (by decide) (by decide) (by decide) (by decide) (by decide) dX9_init_8 (fun q1 => ?_)
    refine n_ws (ws' := ((b, .inr (9, [.null, .null, .int 0, .int 0])) :: ([] ++ [(q1, .inl ((n_Y X).1, 80, .inl (fun _ => 0)))]))) rfl ?_
    refine n_putF (ws' := ((b, .inr (9, [.ref q1, .null, .int 0, .int 0])) :: ([] ++ [(q1, .inl ((n_Y X).1, 80, .inl (fun _ => 0)))]))) C z_CF9 0 rfl (by decide) flX9_9 rfl rfl rfl rfl (Nat.le_of_ble_eq_true rfl) rfl dX9_init_10 ?_
    refine n_aload_n C dX9_init_13 rfl rfl ?_
    refine n_iload_n C dX9_init_14 rfl rfl ?_
    refine n_newi (N := 400) C (by decide) (by decide) (by decide) (by decide) (by decide) dX9_init_15 (fun q2 => ?_)
    refine n_ws (ws' := ((b, .inr (9, [.ref q1, .null, .int 0, .int 0])) :: (([] ++ [(q1, .inl ((n_Y X).1, 80, .inl (fun _ => 0)))]) ++ [(q2, .inl ((n_Y X).1, 400, .inl (fun _ => 0)))]))) rfl ?_
    refine n_putF (ws' := ((b, .inr (9, [.ref q1, .ref q2, .int 0, .int 0])) :: (([] ++ [(q1, .inl ((n_Y X).1, 80, .inl (fun _ => 0)))]) ++ [(q2, .inl ((n_Y X).1, 400, .inl (fun _ => 0)))]))) C z_CF9 0 rfl (by decide) flX9_13 rfl rfl rfl rfl (Nat.le_of_ble_eq_true rfl) rfl dX9_init_17 ?_
    exact n_ret C (fun i => [b, q1, q2].getD i 0) rfl rfl dX9_init_20
set_option maxHeartbeats 8000000 in
set_option maxRecDepth 100000 in
theorem tc_X9_12_0 : n_Mt yX9_init (z_w yX9_init cX9_init 3 none) 1 2 60 9 [.null, .null, .int 0, .int 0] [.int 12, .int 0] (w_Text 60 0) := by
  refine n_head (lo := [some (.int 12), some (.int 0)]) (by decide) rfl (fun b => Nat.le_of_ble_eq_true rfl) ?_ rfl ?_
  · intro b i v hv
    exact z_loe (vs := .ref b :: [.int 12, .int 0]) (n := 0) rfl (by simp [z_c1i, z_c1r]) i v hv
  · intro X A b C
    refine n_aload_n C dX9_init_0 rfl rfl ?_
    refine n_obj (st := []) C rfl (Nat.le_of_ble_eq_true rfl) moX9_1 dX9_init_1 ?_
    refine n_aload_n C dX9_init_4 rfl rfl ?_
    refine n_iload_n C dX9_init_5 rfl rfl ?_
    refine n_iconst (v := 5) C dX9_init_6 (by decide) ?_
    refine n_imul C dX9_init_7 ?_
    refine n_newi (N := 60) C (by decide) (by decide) (by decide) (by decide) (by decide) dX9_init_8 (fun q1 => ?_)
    refine n_ws (ws' := ((b, .inr (9, [.null, .null, .int 0, .int 0])) :: ([] ++ [(q1, .inl ((n_Y X).1, 60, .inl (fun _ => 0)))]))) rfl ?_
    refine n_putF (ws' := ((b, .inr (9, [.ref q1, .null, .int 0, .int 0])) :: ([] ++ [(q1, .inl ((n_Y X).1, 60, .inl (fun _ => 0)))]))) C z_CF9 0 rfl (by decide) flX9_9 rfl rfl rfl rfl (Nat.le_of_ble_eq_true rfl) rfl dX9_init_10 ?_
    refine n_aload_n C dX9_init_13 rfl rfl ?_
    refine n_iload_n C dX9_init_14 rfl rfl ?_
    refine n_newi (N := 0) C (by decide) (by decide) (by decide) (by decide) (by decide) dX9_init_15 (fun q2 => ?_)
    refine n_ws (ws' := ((b, .inr (9, [.ref q1, .null, .int 0, .int 0])) :: (([] ++ [(q1, .inl ((n_Y X).1, 60, .inl (fun _ => 0)))]) ++ [(q2, .inl ((n_Y X).1, 0, .inl (fun _ => 0)))]))) rfl ?_
    refine n_putF (ws' := ((b, .inr (9, [.ref q1, .ref q2, .int 0, .int 0])) :: (([] ++ [(q1, .inl ((n_Y X).1, 60, .inl (fun _ => 0)))]) ++ [(q2, .inl ((n_Y X).1, 0, .inl (fun _ => 0)))]))) C z_CF9 0 rfl (by decide) flX9_13 rfl rfl rfl rfl (Nat.le_of_ble_eq_true rfl) rfl dX9_init_17 ?_
    exact n_ret C (fun i => [b, q1, q2].getD i 0) rfl rfl dX9_init_20
set_option maxHeartbeats 8000000 in
set_option maxRecDepth 100000 in
theorem tc_X2 : n_Mt yX2_init (z_w yX2_init cX2_init 1 none) 1 3 24 2 [.int 0, .null, .null, .null, .int 0] [] w_Gifts := by
  refine n_head (lo := []) (by decide) rfl (fun b => Nat.le_of_ble_eq_true rfl) ?_ rfl ?_
  · intro b i v hv
    exact z_loe (vs := .ref b :: []) (n := 0) rfl (by simp [z_c1i, z_c1r]) i v hv
  · intro X A b C
    refine n_aload_n C dX2_init_0 rfl rfl ?_
    refine n_obj (st := []) C rfl (Nat.le_of_ble_eq_true rfl) moX2_3 dX2_init_1 ?_
    refine n_aload_n C dX2_init_4 rfl rfl ?_
    refine n_bipush (v := 8) C dX2_init_5 (by decide) ?_
    refine n_newi (N := 8) C (by decide) (by decide) (by decide) (by decide) (by decide) dX2_init_7 (fun q1 => ?_)
    refine n_ws (ws' := ((b, .inr (2, [.int 0, .null, .null, .null, .int 0])) :: ([] ++ [(q1, .inl ((n_Y X).1, 8, .inl (fun _ => 0)))]))) rfl ?_
    refine n_putF (ws' := ((b, .inr (2, [.int 0, .ref q1, .null, .null, .int 0])) :: ([] ++ [(q1, .inl ((n_Y X).1, 8, .inl (fun _ => 0)))]))) C z_CF2 0 rfl (by decide) flX2_9 rfl rfl rfl rfl (Nat.le_of_ble_eq_true rfl) rfl dX2_init_9 ?_
    refine n_aload_n C dX2_init_12 rfl rfl ?_
    refine n_bipush (v := 8) C dX2_init_13 (by decide) ?_
    refine n_newi (N := 8) C (by decide) (by decide) (by decide) (by decide) (by decide) dX2_init_15 (fun q2 => ?_)
    refine n_ws (ws' := ((b, .inr (2, [.int 0, .ref q1, .null, .null, .int 0])) :: (([] ++ [(q1, .inl ((n_Y X).1, 8, .inl (fun _ => 0)))]) ++ [(q2, .inl ((n_Y X).1, 8, .inl (fun _ => 0)))]))) rfl ?_
    refine n_putF (ws' := ((b, .inr (2, [.int 0, .ref q1, .ref q2, .null, .int 0])) :: (([] ++ [(q1, .inl ((n_Y X).1, 8, .inl (fun _ => 0)))]) ++ [(q2, .inl ((n_Y X).1, 8, .inl (fun _ => 0)))]))) C z_CF2 0 rfl (by decide) flX2_15 rfl rfl rfl rfl (Nat.le_of_ble_eq_true rfl) rfl dX2_init_17 ?_
    refine n_aload_n C dX2_init_20 rfl rfl ?_
    refine n_bipush (v := 8) C dX2_init_21 (by decide) ?_
    refine n_newi (N := 8) C (by decide) (by decide) (by decide) (by decide) (by decide) dX2_init_23 (fun q3 => ?_)
    refine n_ws (ws' := ((b, .inr (2, [.int 0, .ref q1, .ref q2, .null, .int 0])) :: ((([] ++ [(q1, .inl ((n_Y X).1, 8, .inl (fun _ => 0)))]) ++ [(q2, .inl ((n_Y X).1, 8, .inl (fun _ => 0)))]) ++ [(q3, .inl ((n_Y X).1, 8, .inl (fun _ => 0)))]))) rfl ?_
    refine n_putF (ws' := ((b, .inr (2, [.int 0, .ref q1, .ref q2, .ref q3, .int 0])) :: ((([] ++ [(q1, .inl ((n_Y X).1, 8, .inl (fun _ => 0)))]) ++ [(q2, .inl ((n_Y X).1, 8, .inl (fun _ => 0)))]) ++ [(q3, .inl ((n_Y X).1, 8, .inl (fun _ => 0)))]))) C z_CF2 0 rfl (by decide) flX2_18 rfl rfl rfl rfl (Nat.le_of_ble_eq_true rfl) rfl dX2_init_25 ?_
    exact n_ret C (fun i => [b, q1, q2, q3].getD i 0) rfl rfl dX2_init_28
set_option maxHeartbeats 8000000 in
set_option maxRecDepth 100000 in
theorem tc_X4 : n_Mt yX4_init (z_w yX4_init cX4_init 1 none) 1 1 256 4 [.null] [] w_Grounds := by
  refine n_head (lo := []) (by decide) rfl (fun b => Nat.le_of_ble_eq_true rfl) ?_ rfl ?_
  · intro b i v hv
    exact z_loe (vs := .ref b :: []) (n := 0) rfl (by simp [z_c1i, z_c1r]) i v hv
  · intro X A b C
    refine n_aload_n C dX4_init_0 rfl rfl ?_
    refine n_obj (st := []) C rfl (Nat.le_of_ble_eq_true rfl) moX4_3 dX4_init_1 ?_
    refine n_aload_n C dX4_init_4 rfl rfl ?_
    refine n_sipush (v := 256) C dX4_init_5 (by decide) ?_
    refine n_newi (N := 256) C (by decide) (by decide) (by decide) (by decide) (by decide) dX4_init_8 (fun q1 => ?_)
    refine n_ws (ws' := ((b, .inr (4, [.null])) :: ([] ++ [(q1, .inl ((n_Y X).1, 256, .inl (fun _ => 0)))]))) rfl ?_
    refine n_putF (ws' := ((b, .inr (4, [.ref q1])) :: ([] ++ [(q1, .inl ((n_Y X).1, 256, .inl (fun _ => 0)))]))) C z_CF4 0 rfl (by decide) flX4_9 rfl rfl rfl rfl (Nat.le_of_ble_eq_true rfl) rfl dX4_init_10 ?_
    exact n_ret C (fun i => [b, q1].getD i 0) rfl rfl dX4_init_13
set_option maxHeartbeats 8000000 in
set_option maxRecDepth 100000 in
theorem tc_X5 : n_Mt yX5_init (z_w yX5_init cX5_init 1 none) 1 2 40 5 [.null, .null] [] w_Law := by
  refine n_head (lo := []) (by decide) rfl (fun b => Nat.le_of_ble_eq_true rfl) ?_ rfl ?_
  · intro b i v hv
    exact z_loe (vs := .ref b :: []) (n := 0) rfl (by simp [z_c1i, z_c1r]) i v hv
  · intro X A b C
    refine n_aload_n C dX5_init_0 rfl rfl ?_
    refine n_obj (st := []) C rfl (Nat.le_of_ble_eq_true rfl) moX5_3 dX5_init_1 ?_
    refine n_aload_n C dX5_init_4 rfl rfl ?_
    refine n_bipush (v := 8) C dX5_init_5 (by decide) ?_
    refine n_newi (N := 8) C (by decide) (by decide) (by decide) (by decide) (by decide) dX5_init_7 (fun q1 => ?_)
    refine n_ws (ws' := ((b, .inr (5, [.null, .null])) :: ([] ++ [(q1, .inl ((n_Y X).1, 8, .inl (fun _ => 0)))]))) rfl ?_
    refine n_putF (ws' := ((b, .inr (5, [.ref q1, .null])) :: ([] ++ [(q1, .inl ((n_Y X).1, 8, .inl (fun _ => 0)))]))) C z_CF5 0 rfl (by decide) flX5_9 rfl rfl rfl rfl (Nat.le_of_ble_eq_true rfl) rfl dX5_init_9 ?_
    refine n_aload_n C dX5_init_12 rfl rfl ?_
    refine n_bipush (v := 32) C dX5_init_13 (by decide) ?_
    refine n_newi (N := 32) C (by decide) (by decide) (by decide) (by decide) (by decide) dX5_init_15 (fun q2 => ?_)
    refine n_ws (ws' := ((b, .inr (5, [.ref q1, .null])) :: (([] ++ [(q1, .inl ((n_Y X).1, 8, .inl (fun _ => 0)))]) ++ [(q2, .inl ((n_Y X).1, 32, .inl (fun _ => 0)))]))) rfl ?_
    refine n_putF (ws' := ((b, .inr (5, [.ref q1, .ref q2])) :: (([] ++ [(q1, .inl ((n_Y X).1, 8, .inl (fun _ => 0)))]) ++ [(q2, .inl ((n_Y X).1, 32, .inl (fun _ => 0)))]))) C z_CF5 0 rfl (by decide) flX5_15 rfl rfl rfl rfl (Nat.le_of_ble_eq_true rfl) rfl dX5_init_17 ?_
    exact n_ret C (fun i => [b, q1, q2].getD i 0) rfl rfl dX5_init_20
set_option maxHeartbeats 8000000 in
set_option maxRecDepth 100000 in
theorem tc_X6 : n_Mt yX6_init (z_w yX6_init cX6_init 1 none) 1 2 16 6 [.null, .null] [] w_Mind := by
  refine n_head (lo := []) (by decide) rfl (fun b => Nat.le_of_ble_eq_true rfl) ?_ rfl ?_
  · intro b i v hv
    exact z_loe (vs := .ref b :: []) (n := 0) rfl (by simp [z_c1i, z_c1r]) i v hv
  · intro X A b C
    refine n_aload_n C dX6_init_0 rfl rfl ?_
    refine n_obj (st := []) C rfl (Nat.le_of_ble_eq_true rfl) moX6_3 dX6_init_1 ?_
    refine n_aload_n C dX6_init_4 rfl rfl ?_
    refine n_bipush (v := 8) C dX6_init_5 (by decide) ?_
    refine n_newi (N := 8) C (by decide) (by decide) (by decide) (by decide) (by decide) dX6_init_7 (fun q1 => ?_)
    refine n_ws (ws' := ((b, .inr (6, [.null, .null])) :: ([] ++ [(q1, .inl ((n_Y X).1, 8, .inl (fun _ => 0)))]))) rfl ?_
    refine n_putF (ws' := ((b, .inr (6, [.ref q1, .null])) :: ([] ++ [(q1, .inl ((n_Y X).1, 8, .inl (fun _ => 0)))]))) C z_CF6 0 rfl (by decide) flX6_9 rfl rfl rfl rfl (Nat.le_of_ble_eq_true rfl) rfl dX6_init_9 ?_
    refine n_aload_n C dX6_init_12 rfl rfl ?_
    refine n_bipush (v := 8) C dX6_init_13 (by decide) ?_
    refine n_newi (N := 8) C (by decide) (by decide) (by decide) (by decide) (by decide) dX6_init_15 (fun q2 => ?_)
    refine n_ws (ws' := ((b, .inr (6, [.ref q1, .null])) :: (([] ++ [(q1, .inl ((n_Y X).1, 8, .inl (fun _ => 0)))]) ++ [(q2, .inl ((n_Y X).1, 8, .inl (fun _ => 0)))]))) rfl ?_
    refine n_putF (ws' := ((b, .inr (6, [.ref q1, .ref q2])) :: (([] ++ [(q1, .inl ((n_Y X).1, 8, .inl (fun _ => 0)))]) ++ [(q2, .inl ((n_Y X).1, 8, .inl (fun _ => 0)))]))) C z_CF6 0 rfl (by decide) flX6_15 rfl rfl rfl rfl (Nat.le_of_ble_eq_true rfl) rfl dX6_init_17 ?_
    exact n_ret C (fun i => [b, q1, q2].getD i 0) rfl rfl dX6_init_20
set_option maxHeartbeats 8000000 in
set_option maxRecDepth 100000 in
theorem tc_X8 : n_Mt yX8_init (z_w yX8_init cX8_init 1 none) 1 4 1603 8 [.null, .int 0, .null, .null, .null, .int 0] [] w_Tape := by
  refine n_head (lo := []) (by decide) rfl (fun b => Nat.le_of_ble_eq_true rfl) ?_ rfl ?_
  · intro b i v hv
    exact z_loe (vs := .ref b :: []) (n := 0) rfl (by simp [z_c1i, z_c1r]) i v hv
  · intro X A b C
    refine n_aload_n C dX8_init_0 rfl rfl ?_
    refine n_obj (st := []) C rfl (Nat.le_of_ble_eq_true rfl) moX8_3 dX8_init_1 ?_
    refine n_aload_n C dX8_init_4 rfl rfl ?_
    refine n_sipush (v := 400) C dX8_init_5 (by decide) ?_
    refine n_newb (N := 400) C (by decide) (by decide) (by decide) (by decide) (by decide) dX8_init_8 (fun q1 => ?_)
    refine n_ws (ws' := ((b, .inr (8, [.null, .int 0, .null, .null, .null, .int 0])) :: ([] ++ [(q1, .inl ((n_Y X).2.1, 400, .inl (fun _ => 0)))]))) rfl ?_
    refine n_putF (ws' := ((b, .inr (8, [.ref q1, .int 0, .null, .null, .null, .int 0])) :: ([] ++ [(q1, .inl ((n_Y X).2.1, 400, .inl (fun _ => 0)))]))) C z_CF8 0 rfl (by decide) flX8_9 rfl rfl rfl rfl (Nat.le_of_ble_eq_true rfl) rfl dX8_init_10 ?_
    refine n_aload_n C dX8_init_13 rfl rfl ?_
    refine n_sipush (v := 401) C dX8_init_14 (by decide) ?_
    refine n_newi (N := 401) C (by decide) (by decide) (by decide) (by decide) (by decide) dX8_init_17 (fun q2 => ?_)
    refine n_ws (ws' := ((b, .inr (8, [.ref q1, .int 0, .null, .null, .null, .int 0])) :: (([] ++ [(q1, .inl ((n_Y X).2.1, 400, .inl (fun _ => 0)))]) ++ [(q2, .inl ((n_Y X).1, 401, .inl (fun _ => 0)))]))) rfl ?_
    refine n_putF (ws' := ((b, .inr (8, [.ref q1, .int 0, .ref q2, .null, .null, .int 0])) :: (([] ++ [(q1, .inl ((n_Y X).2.1, 400, .inl (fun _ => 0)))]) ++ [(q2, .inl ((n_Y X).1, 401, .inl (fun _ => 0)))]))) C z_CF8 0 rfl (by decide) flX8_15 rfl rfl rfl rfl (Nat.le_of_ble_eq_true rfl) rfl dX8_init_19 ?_
    refine n_aload_n C dX8_init_22 rfl rfl ?_
    refine n_sipush (v := 401) C dX8_init_23 (by decide) ?_
    refine n_newi (N := 401) C (by decide) (by decide) (by decide) (by decide) (by decide) dX8_init_26 (fun q3 => ?_)
    refine n_ws (ws' := ((b, .inr (8, [.ref q1, .int 0, .ref q2, .null, .null, .int 0])) :: ((([] ++ [(q1, .inl ((n_Y X).2.1, 400, .inl (fun _ => 0)))]) ++ [(q2, .inl ((n_Y X).1, 401, .inl (fun _ => 0)))]) ++ [(q3, .inl ((n_Y X).1, 401, .inl (fun _ => 0)))]))) rfl ?_
    refine n_putF (ws' := ((b, .inr (8, [.ref q1, .int 0, .ref q2, .ref q3, .null, .int 0])) :: ((([] ++ [(q1, .inl ((n_Y X).2.1, 400, .inl (fun _ => 0)))]) ++ [(q2, .inl ((n_Y X).1, 401, .inl (fun _ => 0)))]) ++ [(q3, .inl ((n_Y X).1, 401, .inl (fun _ => 0)))]))) C z_CF8 0 rfl (by decide) flX8_19 rfl rfl rfl rfl (Nat.le_of_ble_eq_true rfl) rfl dX8_init_28 ?_
    refine n_aload_n C dX8_init_31 rfl rfl ?_
    refine n_sipush (v := 401) C dX8_init_32 (by decide) ?_
    refine n_newi (N := 401) C (by decide) (by decide) (by decide) (by decide) (by decide) dX8_init_35 (fun q4 => ?_)
    refine n_ws (ws' := ((b, .inr (8, [.ref q1, .int 0, .ref q2, .ref q3, .null, .int 0])) :: (((([] ++ [(q1, .inl ((n_Y X).2.1, 400, .inl (fun _ => 0)))]) ++ [(q2, .inl ((n_Y X).1, 401, .inl (fun _ => 0)))]) ++ [(q3, .inl ((n_Y X).1, 401, .inl (fun _ => 0)))]) ++ [(q4, .inl ((n_Y X).1, 401, .inl (fun _ => 0)))]))) rfl ?_
    refine n_putF (ws' := ((b, .inr (8, [.ref q1, .int 0, .ref q2, .ref q3, .ref q4, .int 0])) :: (((([] ++ [(q1, .inl ((n_Y X).2.1, 400, .inl (fun _ => 0)))]) ++ [(q2, .inl ((n_Y X).1, 401, .inl (fun _ => 0)))]) ++ [(q3, .inl ((n_Y X).1, 401, .inl (fun _ => 0)))]) ++ [(q4, .inl ((n_Y X).1, 401, .inl (fun _ => 0)))]))) C z_CF8 0 rfl (by decide) flX8_22 rfl rfl rfl rfl (Nat.le_of_ble_eq_true rfl) rfl dX8_init_37 ?_
    exact n_ret C (fun i => [b, q1, q2, q3, q4].getD i 0) rfl rfl dX8_init_40
