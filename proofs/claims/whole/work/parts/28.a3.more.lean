set_option maxHeartbeats 8000000 in
set_option maxRecDepth 100000 in
theorem tc_X3 (tp : Nat) : n_Mt yX3_init (z_w yX3_init cX3_init 2 none) 2 4 516 3 [.null, .null, .int 0, .int 0, .int 0, .int 0, .int 0, .null, .int 0, .int 0] [.ref tp] (w_Grammar tp) := by
  refine n_head (lo := [some (.ref tp)]) (by decide) rfl (fun b => Nat.le_of_ble_eq_true rfl) ?_ rfl ?_
  · intro b i v hv
    exact z_loe (vs := .ref b :: [.ref tp]) (n := 0) rfl (by simp [z_c1i, z_c1r]) i v hv
  · intro X A b C
    refine n_aload_n C dX3_init_0 rfl rfl ?_
    refine n_obj (st := []) C rfl (Nat.le_of_ble_eq_true rfl) moX3_3 dX3_init_1 ?_
    refine n_aload_n C dX3_init_4 rfl rfl ?_
    refine n_new (fs := [.null, .null, .int 0, .int 0]) C z_CF9 clX3_9 inX9 itX9 (by decide) (by decide) (by decide) dX3_init_5 (fun b1 => ?_)
    refine n_ws (ws' := ((b, .inr (3, [.null, .null, .int 0, .int 0, .int 0, .int 0, .int 0, .null, .int 0, .int 0])) :: ([] ++ [(b1, .inr (9, [.null, .null, .int 0, .int 0]))]))) rfl ?_
    refine n_dup C dX3_init_8 rfl ?_
    refine n_bipush (v := 16) C dX3_init_9 (by decide) ?_
    refine n_sipush (v := 400) C dX3_init_11 (by decide) ?_
    refine n_call (wr := ((b, .inr (3, [.null, .null, .int 0, .int 0, .int 0, .int 0, .int 0, .null, .int 0, .int 0])) :: [])) (As := [.int 16, .int 400]) (st := [.ref b1, .ref b]) C (tc_X9_16_400) kiX9 rfl mlX3_11 rfl (by decide) rfl (Nat.le_of_ble_eq_true rfl) (by decide) (by decide) dX3_init_14 (fun q2 hq2 => ?_)
    subst hq2
    refine n_ws (ws' := ((b, .inr (3, [.null, .null, .int 0, .int 0, .int 0, .int 0, .int 0, .null, .int 0, .int 0])) :: ([] ++ (w_Text 80 400 (n_Y X) q2)))) rfl ?_
    refine n_putF (ws' := ((b, .inr (3, [.null, .ref (q2 0), .int 0, .int 0, .int 0, .int 0, .int 0, .null, .int 0, .int 0])) :: ([] ++ (w_Text 80 400 (n_Y X) q2)))) C z_CF3 0 rfl (by decide) flX3_14 rfl rfl rfl rfl (Nat.le_of_ble_eq_true rfl) rfl dX3_init_17 ?_
    refine n_aload_n C dX3_init_20 rfl rfl ?_
    refine n_iconst (v := (-1)) C dX3_init_21 (by decide) ?_
    refine n_put (ws' := ((b, .inr (3, [.null, .ref (q2 0), .int 0, .int (-1), .int 0, .int 0, .int 0, .null, .int 0, .int 0])) :: ([] ++ (w_Text 80 400 (n_Y X) q2)))) C z_CF3 0 rfl (by decide) flX3_20 rfl rfl rfl (Nat.le_of_ble_eq_true rfl) rfl dX3_init_22 ?_
    refine n_aload_n C dX3_init_25 rfl rfl ?_
    refine n_bipush (v := 32) C dX3_init_26 (by decide) ?_
    refine n_newi (N := 32) C (by decide) (by decide) (by decide) (by decide) (by decide) dX3_init_28 (fun q3 => ?_)
    refine n_ws (ws' := ((b, .inr (3, [.null, .ref (q2 0), .int 0, .int (-1), .int 0, .int 0, .int 0, .null, .int 0, .int 0])) :: (([] ++ (w_Text 80 400 (n_Y X) q2)) ++ [(q3, .inl ((n_Y X).1, 32, .inl (fun _ => 0)))]))) rfl ?_
    refine n_putF (ws' := ((b, .inr (3, [.null, .ref (q2 0), .int 0, .int (-1), .int 0, .int 0, .int 0, .ref q3, .int 0, .int 0])) :: (([] ++ (w_Text 80 400 (n_Y X) q2)) ++ [(q3, .inl ((n_Y X).1, 32, .inl (fun _ => 0)))]))) C z_CF3 0 rfl (by decide) flX3_24 rfl rfl rfl rfl (Nat.le_of_ble_eq_true rfl) rfl dX3_init_30 ?_
    refine n_aload_n C dX3_init_33 rfl rfl ?_
    refine n_aload_n C dX3_init_34 rfl rfl ?_
    refine n_putF (ws' := ((b, .inr (3, [.ref tp, .ref (q2 0), .int 0, .int (-1), .int 0, .int 0, .int 0, .ref q3, .int 0, .int 0])) :: (([] ++ (w_Text 80 400 (n_Y X) q2)) ++ [(q3, .inl ((n_Y X).1, 32, .inl (fun _ => 0)))]))) C z_CF3 0 rfl (by decide) flX3_28 rfl rfl rfl rfl (Nat.le_of_ble_eq_true rfl) rfl dX3_init_35 ?_
    exact n_ret C (fun i => [b, (q2 0), (q2 1), (q2 2), q3].getD i 0) rfl rfl dX3_init_38
set_option maxHeartbeats 8000000 in
set_option maxRecDepth 100000 in
theorem tc_X7_0 (g d l : Nat) : n_Mt yX7_init (z_w yX7_init cX7_init 5 none) 1 0 0 7 [.null, .null, .null, .int 0] [.ref g, .ref d, .ref l, .int 0] (w_Season g d l 0) := by
  refine n_head (lo := [some (.ref g), some (.ref d), some (.ref l), some (.int 0)]) (by decide) rfl (fun b => Nat.le_of_ble_eq_true rfl) ?_ rfl ?_
  · intro b i v hv
    exact z_loe (vs := .ref b :: [.ref g, .ref d, .ref l, .int 0]) (n := 0) rfl (by simp [z_c1i, z_c1r]) i v hv
  · intro X A b C
    refine n_aload_n C dX7_init_0 rfl rfl ?_
    refine n_obj (st := []) C rfl (Nat.le_of_ble_eq_true rfl) moX7_3 dX7_init_1 ?_
    refine n_aload_n C dX7_init_4 rfl rfl ?_
    refine n_aload_n C dX7_init_5 rfl rfl ?_
    refine n_putF (ws' := ((b, .inr (7, [.ref g, .null, .null, .int 0])) :: [])) C z_CF7 0 rfl (by decide) flX7_9 rfl rfl rfl rfl (Nat.le_of_ble_eq_true rfl) rfl dX7_init_6 ?_
    refine n_aload_n C dX7_init_9 rfl rfl ?_
    refine n_aload_n C dX7_init_10 rfl rfl ?_
    refine n_putF (ws' := ((b, .inr (7, [.ref g, .ref d, .null, .int 0])) :: [])) C z_CF7 0 rfl (by decide) flX7_15 rfl rfl rfl rfl (Nat.le_of_ble_eq_true rfl) rfl dX7_init_11 ?_
    refine n_aload_n C dX7_init_14 rfl rfl ?_
    refine n_aload_n C dX7_init_15 rfl rfl ?_
    refine n_putF (ws' := ((b, .inr (7, [.ref g, .ref d, .ref l, .int 0])) :: [])) C z_CF7 0 rfl (by decide) flX7_19 rfl rfl rfl rfl (Nat.le_of_ble_eq_true rfl) rfl dX7_init_16 ?_
    refine n_aload_n C dX7_init_19 rfl rfl ?_
    refine n_iload C dX7_init_20 rfl ?_
    refine n_putF (ws' := ((b, .inr (7, [.ref g, .ref d, .ref l, .int 0])) :: [])) C z_CF7 0 rfl (by decide) flX7_23 rfl rfl (by decide) (by decide) (Nat.le_of_ble_eq_true rfl) rfl dX7_init_22 ?_
    exact n_ret C (fun i => [b].getD i 0) rfl rfl dX7_init_25
set_option maxHeartbeats 8000000 in
set_option maxRecDepth 100000 in
theorem tc_X7_1 (g d l : Nat) : n_Mt yX7_init (z_w yX7_init cX7_init 5 none) 1 0 0 7 [.null, .null, .null, .int 0] [.ref g, .ref d, .ref l, .int 1] (w_Season g d l 1) := by
  refine n_head (lo := [some (.ref g), some (.ref d), some (.ref l), some (.int 1)]) (by decide) rfl (fun b => Nat.le_of_ble_eq_true rfl) ?_ rfl ?_
  · intro b i v hv
    exact z_loe (vs := .ref b :: [.ref g, .ref d, .ref l, .int 1]) (n := 0) rfl (by simp [z_c1i, z_c1r]) i v hv
  · intro X A b C
    refine n_aload_n C dX7_init_0 rfl rfl ?_
    refine n_obj (st := []) C rfl (Nat.le_of_ble_eq_true rfl) moX7_3 dX7_init_1 ?_
    refine n_aload_n C dX7_init_4 rfl rfl ?_
    refine n_aload_n C dX7_init_5 rfl rfl ?_
    refine n_putF (ws' := ((b, .inr (7, [.ref g, .null, .null, .int 0])) :: [])) C z_CF7 0 rfl (by decide) flX7_9 rfl rfl rfl rfl (Nat.le_of_ble_eq_true rfl) rfl dX7_init_6 ?_
    refine n_aload_n C dX7_init_9 rfl rfl ?_
    refine n_aload_n C dX7_init_10 rfl rfl ?_
    refine n_putF (ws' := ((b, .inr (7, [.ref g, .ref d, .null, .int 0])) :: [])) C z_CF7 0 rfl (by decide) flX7_15 rfl rfl rfl rfl (Nat.le_of_ble_eq_true rfl) rfl dX7_init_11 ?_
    refine n_aload_n C dX7_init_14 rfl rfl ?_
    refine n_aload_n C dX7_init_15 rfl rfl ?_
    refine n_putF (ws' := ((b, .inr (7, [.ref g, .ref d, .ref l, .int 0])) :: [])) C z_CF7 0 rfl (by decide) flX7_19 rfl rfl rfl rfl (Nat.le_of_ble_eq_true rfl) rfl dX7_init_16 ?_
    refine n_aload_n C dX7_init_19 rfl rfl ?_
    refine n_iload C dX7_init_20 rfl ?_
    refine n_putF (ws' := ((b, .inr (7, [.ref g, .ref d, .ref l, .int 1])) :: [])) C z_CF7 0 rfl (by decide) flX7_23 rfl rfl (by decide) (by decide) (Nat.le_of_ble_eq_true rfl) rfl dX7_init_22 ?_
    exact n_ret C (fun i => [b].getD i 0) rfl rfl dX7_init_25
