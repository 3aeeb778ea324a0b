set_option maxHeartbeats 8000000 in
set_option maxRecDepth 100000 in
theorem tc_X10 : n_Mt yX10_init (z_w yX10_init cX10_init 2 none) 2 37 636 10 [.null, .int 0, .int 0] [] w_Undos := by
  refine n_head (lo := [none]) (by decide) rfl (fun b => Nat.le_of_ble_eq_true rfl) ?_ rfl ?_
  · intro b i v hv
    exact z_loe (vs := .ref b :: []) (n := 1) rfl (by simp [z_c1i, z_c1r]) i v hv
  · intro X A b C
    refine n_aload_n C dX10_init_0 rfl rfl ?_
    refine n_obj (st := []) C rfl (Nat.le_of_ble_eq_true rfl) moX10_1 dX10_init_1 ?_
    refine n_aload_n C dX10_init_4 rfl rfl ?_
    refine n_bipush (v := 6) C dX10_init_5 (by decide) ?_
    refine n_newr (N := 6) C (by decide) (by decide) (by decide) (by decide) (by decide) clX10_9 dX10_init_7 (fun q1 => ?_)
    refine n_ws (ws' := ((b, .inr (10, [.null, .int 0, .int 0])) :: ([] ++ [(q1, .inl ((n_Y X).2.2, 6, .inr (.inr (.inr (.inr (fun _ => none))))))]))) rfl ?_
    refine n_putF (ws' := ((b, .inr (10, [.ref q1, .int 0, .int 0])) :: ([] ++ [(q1, .inl ((n_Y X).2.2, 6, .inr (.inr (.inr (.inr (fun _ => none))))))]))) C z_CF10 0 rfl (by decide) flX10_11 rfl rfl rfl rfl (Nat.le_of_ble_eq_true rfl) rfl dX10_init_10 ?_
    refine n_iconst (v := 0) C dX10_init_13 (by decide) ?_
    refine n_istore_n (lo' := [some (.ref b), some (.int 0)]) C dX10_init_14 rfl (Nat.le_of_ble_eq_true rfl) rfl ?_
    refine n_iload_n C dX10_init_15 rfl rfl ?_
    refine n_bipush (v := 6) C dX10_init_16 (by decide) ?_
    refine n_icmp_ge (tgt := 40) C dX10_init_18 (by decide) (fun hc => ?_) (fun hc => ?_)
    · exact absurd (by decide) hc
    refine n_aload_n C dX10_init_21 rfl rfl ?_
    refine n_get C z_CF10 0 rfl (by decide) flX10_11 rfl dX10_init_22 ?_
    refine n_iload_n C dX10_init_25 rfl rfl ?_
    refine n_new (fs := [.null, .null, .null, .null, .null, .int 0, .int 0, .int 0, .int 0]) C z_CF0 clX10_9 inX0 itX0 (by decide) (by decide) (by decide) dX10_init_26 (fun b50 => ?_)
    refine n_ws (ws' := ((b, .inr (10, [.ref q1, .int 0, .int 0])) :: (([] ++ [(q1, .inl ((n_Y X).2.2, 6, .inr (.inr (.inr (.inr (fun _ => none))))))]) ++ [(b50, .inr (0, [.null, .null, .null, .null, .null, .int 0, .int 0, .int 0, .int 0]))]))) rfl ?_
    refine n_dup C dX10_init_29 rfl ?_
    refine n_call (wr := ((b, .inr (10, [.ref q1, .int 0, .int 0])) :: ([] ++ [(q1, .inl ((n_Y X).2.2, 6, .inr (.inr (.inr (.inr (fun _ => none))))))]))) (As := []) (st := [.ref b50, .int 0, .ref q1]) C tc_X0 kiX0 rfl mlX10_15 rfl (by decide) rfl (Nat.le_of_ble_eq_true rfl) (by decide) (by decide) dX10_init_30 (fun u0 hu0 => ?_)
    subst hu0
    refine n_ws (ws' := ((b, .inr (10, [.ref q1, .int 0, .int 0])) :: (([] ++ [(q1, .inl ((n_Y X).2.2, 6, .inr (.inr (.inr (.inr (fun _ => none))))))]) ++ (w_Beds (n_Y X) u0)))) rfl ?_
    refine n_aast (ws' := ((b, .inr (10, [.ref q1, .int 0, .int 0])) :: (([] ++ [(q1, .inl ((n_Y X).2.2, 6, .inr (.inr (.inr (.inr (va_up (fun _ => none) 0 (some (u0 0))))))))]) ++ (w_Beds (n_Y X) u0)))) C 1 2 rfl rfl (z_in_vp (by decide)) rfl dX10_init_33 ?_
    refine n_iinc (v := 1) (lo' := [some (.ref b), some (.int 1)]) C dX10_init_34 rfl (by decide) rfl ?_
    refine n_goto (tgt := 15) C dX10_init_37 (by decide) ?_
    refine n_iload_n C dX10_init_15 rfl rfl ?_
    refine n_bipush (v := 6) C dX10_init_16 (by decide) ?_
    refine n_icmp_ge (tgt := 40) C dX10_init_18 (by decide) (fun hc => ?_) (fun hc => ?_)
    · exact absurd (by decide) hc
    refine n_aload_n C dX10_init_21 rfl rfl ?_
    refine n_get C z_CF10 0 rfl (by decide) flX10_11 rfl dX10_init_22 ?_
    refine n_iload_n C dX10_init_25 rfl rfl ?_
    refine n_new (fs := [.null, .null, .null, .null, .null, .int 0, .int 0, .int 0, .int 0]) C z_CF0 clX10_9 inX0 itX0 (by decide) (by decide) (by decide) dX10_init_26 (fun b51 => ?_)
    refine n_ws (ws' := ((b, .inr (10, [.ref q1, .int 0, .int 0])) :: ((([] ++ [(q1, .inl ((n_Y X).2.2, 6, .inr (.inr (.inr (.inr (va_up (fun _ => none) 0 (some (u0 0))))))))]) ++ (w_Beds (n_Y X) u0)) ++ [(b51, .inr (0, [.null, .null, .null, .null, .null, .int 0, .int 0, .int 0, .int 0]))]))) rfl ?_
    refine n_dup C dX10_init_29 rfl ?_
    refine n_call (wr := ((b, .inr (10, [.ref q1, .int 0, .int 0])) :: (([] ++ [(q1, .inl ((n_Y X).2.2, 6, .inr (.inr (.inr (.inr (va_up (fun _ => none) 0 (some (u0 0))))))))]) ++ (w_Beds (n_Y X) u0)))) (As := []) (st := [.ref b51, .int 1, .ref q1]) C tc_X0 kiX0 rfl mlX10_15 rfl (by decide) rfl (Nat.le_of_ble_eq_true rfl) (by decide) (by decide) dX10_init_30 (fun u1 hu1 => ?_)
    subst hu1
    refine n_ws (ws' := ((b, .inr (10, [.ref q1, .int 0, .int 0])) :: ((([] ++ [(q1, .inl ((n_Y X).2.2, 6, .inr (.inr (.inr (.inr (va_up (fun _ => none) 0 (some (u0 0))))))))]) ++ (w_Beds (n_Y X) u0)) ++ (w_Beds (n_Y X) u1)))) rfl ?_
    refine n_aast (ws' := ((b, .inr (10, [.ref q1, .int 0, .int 0])) :: ((([] ++ [(q1, .inl ((n_Y X).2.2, 6, .inr (.inr (.inr (.inr (va_up (va_up (fun _ => none) 0 (some (u0 0))) 1 (some (u1 0))))))))]) ++ (w_Beds (n_Y X) u0)) ++ (w_Beds (n_Y X) u1)))) C 1 8 rfl rfl (z_in_vp (by decide)) rfl dX10_init_33 ?_
    refine n_iinc (v := 2) (lo' := [some (.ref b), some (.int 2)]) C dX10_init_34 rfl (by decide) rfl ?_
    refine n_goto (tgt := 15) C dX10_init_37 (by decide) ?_
    refine n_iload_n C dX10_init_15 rfl rfl ?_
    refine n_bipush (v := 6) C dX10_init_16 (by decide) ?_
    refine n_icmp_ge (tgt := 40) C dX10_init_18 (by decide) (fun hc => ?_) (fun hc => ?_)
    · exact absurd (by decide) hc
    refine n_aload_n C dX10_init_21 rfl rfl ?_
    refine n_get C z_CF10 0 rfl (by decide) flX10_11 rfl dX10_init_22 ?_
    refine n_iload_n C dX10_init_25 rfl rfl ?_
    refine n_new (fs := [.null, .null, .null, .null, .null, .int 0, .int 0, .int 0, .int 0]) C z_CF0 clX10_9 inX0 itX0 (by decide) (by decide) (by decide) dX10_init_26 (fun b52 => ?_)
    refine n_ws (ws' := ((b, .inr (10, [.ref q1, .int 0, .int 0])) :: (((([] ++ [(q1, .inl ((n_Y X).2.2, 6, .inr (.inr (.inr (.inr (va_up (va_up (fun _ => none) 0 (some (u0 0))) 1 (some (u1 0))))))))]) ++ (w_Beds (n_Y X) u0)) ++ (w_Beds (n_Y X) u1)) ++ [(b52, .inr (0, [.null, .null, .null, .null, .null, .int 0, .int 0, .int 0, .int 0]))]))) rfl ?_
    refine n_dup C dX10_init_29 rfl ?_
    refine n_call (wr := ((b, .inr (10, [.ref q1, .int 0, .int 0])) :: ((([] ++ [(q1, .inl ((n_Y X).2.2, 6, .inr (.inr (.inr (.inr (va_up (va_up (fun _ => none) 0 (some (u0 0))) 1 (some (u1 0))))))))]) ++ (w_Beds (n_Y X) u0)) ++ (w_Beds (n_Y X) u1)))) (As := []) (st := [.ref b52, .int 2, .ref q1]) C tc_X0 kiX0 rfl mlX10_15 rfl (by decide) rfl (Nat.le_of_ble_eq_true rfl) (by decide) (by decide) dX10_init_30 (fun u2 hu2 => ?_)
    subst hu2
    refine n_ws (ws' := ((b, .inr (10, [.ref q1, .int 0, .int 0])) :: (((([] ++ [(q1, .inl ((n_Y X).2.2, 6, .inr (.inr (.inr (.inr (va_up (va_up (fun _ => none) 0 (some (u0 0))) 1 (some (u1 0))))))))]) ++ (w_Beds (n_Y X) u0)) ++ (w_Beds (n_Y X) u1)) ++ (w_Beds (n_Y X) u2)))) rfl ?_
    refine n_aast (ws' := ((b, .inr (10, [.ref q1, .int 0, .int 0])) :: (((([] ++ [(q1, .inl ((n_Y X).2.2, 6, .inr (.inr (.inr (.inr (va_up (va_up (va_up (fun _ => none) 0 (some (u0 0))) 1 (some (u1 0))) 2 (some (u2 0))))))))]) ++ (w_Beds (n_Y X) u0)) ++ (w_Beds (n_Y X) u1)) ++ (w_Beds (n_Y X) u2)))) C 1 14 rfl rfl (z_in_vp (by decide)) rfl dX10_init_33 ?_
    refine n_iinc (v := 3) (lo' := [some (.ref b), some (.int 3)]) C dX10_init_34 rfl (by decide) rfl ?_
    refine n_goto (tgt := 15) C dX10_init_37 (by decide) ?_
    refine n_iload_n C dX10_init_15 rfl rfl ?_
    refine n_bipush (v := 6) C dX10_init_16 (by decide) ?_
    refine n_icmp_ge (tgt := 40) C dX10_init_18 (by decide) (fun hc => ?_) (fun hc => ?_)
    · exact absurd (by decide) hc
    refine n_aload_n C dX10_init_21 rfl rfl ?_
    refine n_get C z_CF10 0 rfl (by decide) flX10_11 rfl dX10_init_22 ?_
    refine n_iload_n C dX10_init_25 rfl rfl ?_
    refine n_new (fs := [.null, .null, .null, .null, .null, .int 0, .int 0, .int 0, .int 0]) C z_CF0 clX10_9 inX0 itX0 (by decide) (by decide) (by decide) dX10_init_26 (fun b53 => ?_)
    refine n_ws (ws' := ((b, .inr (10, [.ref q1, .int 0, .int 0])) :: ((((([] ++ [(q1, .inl ((n_Y X).2.2, 6, .inr (.inr (.inr (.inr (va_up (va_up (va_up (fun _ => none) 0 (some (u0 0))) 1 (some (u1 0))) 2 (some (u2 0))))))))]) ++ (w_Beds (n_Y X) u0)) ++ (w_Beds (n_Y X) u1)) ++ (w_Beds (n_Y X) u2)) ++ [(b53, .inr (0, [.null, .null, .null, .null, .null, .int 0, .int 0, .int 0, .int 0]))]))) rfl ?_
    refine n_dup C dX10_init_29 rfl ?_
    refine n_call (wr := ((b, .inr (10, [.ref q1, .int 0, .int 0])) :: (((([] ++ [(q1, .inl ((n_Y X).2.2, 6, .inr (.inr (.inr (.inr (va_up (va_up (va_up (fun _ => none) 0 (some (u0 0))) 1 (some (u1 0))) 2 (some (u2 0))))))))]) ++ (w_Beds (n_Y X) u0)) ++ (w_Beds (n_Y X) u1)) ++ (w_Beds (n_Y X) u2)))) (As := []) (st := [.ref b53, .int 3, .ref q1]) C tc_X0 kiX0 rfl mlX10_15 rfl (by decide) rfl (Nat.le_of_ble_eq_true rfl) (by decide) (by decide) dX10_init_30 (fun u3 hu3 => ?_)
    subst hu3
    refine n_ws (ws' := ((b, .inr (10, [.ref q1, .int 0, .int 0])) :: ((((([] ++ [(q1, .inl ((n_Y X).2.2, 6, .inr (.inr (.inr (.inr (va_up (va_up (va_up (fun _ => none) 0 (some (u0 0))) 1 (some (u1 0))) 2 (some (u2 0))))))))]) ++ (w_Beds (n_Y X) u0)) ++ (w_Beds (n_Y X) u1)) ++ (w_Beds (n_Y X) u2)) ++ (w_Beds (n_Y X) u3)))) rfl ?_
    refine n_aast (ws' := ((b, .inr (10, [.ref q1, .int 0, .int 0])) :: ((((([] ++ [(q1, .inl ((n_Y X).2.2, 6, .inr (.inr (.inr (.inr (va_up (va_up (va_up (va_up (fun _ => none) 0 (some (u0 0))) 1 (some (u1 0))) 2 (some (u2 0))) 3 (some (u3 0))))))))]) ++ (w_Beds (n_Y X) u0)) ++ (w_Beds (n_Y X) u1)) ++ (w_Beds (n_Y X) u2)) ++ (w_Beds (n_Y X) u3)))) C 1 20 rfl rfl (z_in_vp (by decide)) rfl dX10_init_33 ?_
    refine n_iinc (v := 4) (lo' := [some (.ref b), some (.int 4)]) C dX10_init_34 rfl (by decide) rfl ?_
    refine n_goto (tgt := 15) C dX10_init_37 (by decide) ?_
    refine n_iload_n C dX10_init_15 rfl rfl ?_
    refine n_bipush (v := 6) C dX10_init_16 (by decide) ?_
    refine n_icmp_ge (tgt := 40) C dX10_init_18 (by decide) (fun hc => ?_) (fun hc => ?_)
    · exact absurd (by decide) hc
    refine n_aload_n C dX10_init_21 rfl rfl ?_
    refine n_get C z_CF10 0 rfl (by decide) flX10_11 rfl dX10_init_22 ?_
    refine n_iload_n C dX10_init_25 rfl rfl ?_
    refine n_new (fs := [.null, .null, .null, .null, .null, .int 0, .int 0, .int 0, .int 0]) C z_CF0 clX10_9 inX0 itX0 (by decide) (by decide) (by decide) dX10_init_26 (fun b54 => ?_)
    refine n_ws (ws' := ((b, .inr (10, [.ref q1, .int 0, .int 0])) :: (((((([] ++ [(q1, .inl ((n_Y X).2.2, 6, .inr (.inr (.inr (.inr (va_up (va_up (va_up (va_up (fun _ => none) 0 (some (u0 0))) 1 (some (u1 0))) 2 (some (u2 0))) 3 (some (u3 0))))))))]) ++ (w_Beds (n_Y X) u0)) ++ (w_Beds (n_Y X) u1)) ++ (w_Beds (n_Y X) u2)) ++ (w_Beds (n_Y X) u3)) ++ [(b54, .inr (0, [.null, .null, .null, .null, .null, .int 0, .int 0, .int 0, .int 0]))]))) rfl ?_
    refine n_dup C dX10_init_29 rfl ?_
    refine n_call (wr := ((b, .inr (10, [.ref q1, .int 0, .int 0])) :: ((((([] ++ [(q1, .inl ((n_Y X).2.2, 6, .inr (.inr (.inr (.inr (va_up (va_up (va_up (va_up (fun _ => none) 0 (some (u0 0))) 1 (some (u1 0))) 2 (some (u2 0))) 3 (some (u3 0))))))))]) ++ (w_Beds (n_Y X) u0)) ++ (w_Beds (n_Y X) u1)) ++ (w_Beds (n_Y X) u2)) ++ (w_Beds (n_Y X) u3)))) (As := []) (st := [.ref b54, .int 4, .ref q1]) C tc_X0 kiX0 rfl mlX10_15 rfl (by decide) rfl (Nat.le_of_ble_eq_true rfl) (by decide) (by decide) dX10_init_30 (fun u4 hu4 => ?_)
    subst hu4
    refine n_ws (ws' := ((b, .inr (10, [.ref q1, .int 0, .int 0])) :: (((((([] ++ [(q1, .inl ((n_Y X).2.2, 6, .inr (.inr (.inr (.inr (va_up (va_up (va_up (va_up (fun _ => none) 0 (some (u0 0))) 1 (some (u1 0))) 2 (some (u2 0))) 3 (some (u3 0))))))))]) ++ (w_Beds (n_Y X) u0)) ++ (w_Beds (n_Y X) u1)) ++ (w_Beds (n_Y X) u2)) ++ (w_Beds (n_Y X) u3)) ++ (w_Beds (n_Y X) u4)))) rfl ?_
    refine n_aast (ws' := ((b, .inr (10, [.ref q1, .int 0, .int 0])) :: (((((([] ++ [(q1, .inl ((n_Y X).2.2, 6, .inr (.inr (.inr (.inr (va_up (va_up (va_up (va_up (va_up (fun _ => none) 0 (some (u0 0))) 1 (some (u1 0))) 2 (some (u2 0))) 3 (some (u3 0))) 4 (some (u4 0))))))))]) ++ (w_Beds (n_Y X) u0)) ++ (w_Beds (n_Y X) u1)) ++ (w_Beds (n_Y X) u2)) ++ (w_Beds (n_Y X) u3)) ++ (w_Beds (n_Y X) u4)))) C 1 26 rfl rfl (z_in_vp (by decide)) rfl dX10_init_33 ?_
    refine n_iinc (v := 5) (lo' := [some (.ref b), some (.int 5)]) C dX10_init_34 rfl (by decide) rfl ?_
    refine n_goto (tgt := 15) C dX10_init_37 (by decide) ?_
    refine n_iload_n C dX10_init_15 rfl rfl ?_
    refine n_bipush (v := 6) C dX10_init_16 (by decide) ?_
    refine n_icmp_ge (tgt := 40) C dX10_init_18 (by decide) (fun hc => ?_) (fun hc => ?_)
    · exact absurd (by decide) hc
    refine n_aload_n C dX10_init_21 rfl rfl ?_
    refine n_get C z_CF10 0 rfl (by decide) flX10_11 rfl dX10_init_22 ?_
    refine n_iload_n C dX10_init_25 rfl rfl ?_
    refine n_new (fs := [.null, .null, .null, .null, .null, .int 0, .int 0, .int 0, .int 0]) C z_CF0 clX10_9 inX0 itX0 (by decide) (by decide) (by decide) dX10_init_26 (fun b55 => ?_)
    refine n_ws (ws' := ((b, .inr (10, [.ref q1, .int 0, .int 0])) :: ((((((([] ++ [(q1, .inl ((n_Y X).2.2, 6, .inr (.inr (.inr (.inr (va_up (va_up (va_up (va_up (va_up (fun _ => none) 0 (some (u0 0))) 1 (some (u1 0))) 2 (some (u2 0))) 3 (some (u3 0))) 4 (some (u4 0))))))))]) ++ (w_Beds (n_Y X) u0)) ++ (w_Beds (n_Y X) u1)) ++ (w_Beds (n_Y X) u2)) ++ (w_Beds (n_Y X) u3)) ++ (w_Beds (n_Y X) u4)) ++ [(b55, .inr (0, [.null, .null, .null, .null, .null, .int 0, .int 0, .int 0, .int 0]))]))) rfl ?_
    refine n_dup C dX10_init_29 rfl ?_
    refine n_call (wr := ((b, .inr (10, [.ref q1, .int 0, .int 0])) :: (((((([] ++ [(q1, .inl ((n_Y X).2.2, 6, .inr (.inr (.inr (.inr (va_up (va_up (va_up (va_up (va_up (fun _ => none) 0 (some (u0 0))) 1 (some (u1 0))) 2 (some (u2 0))) 3 (some (u3 0))) 4 (some (u4 0))))))))]) ++ (w_Beds (n_Y X) u0)) ++ (w_Beds (n_Y X) u1)) ++ (w_Beds (n_Y X) u2)) ++ (w_Beds (n_Y X) u3)) ++ (w_Beds (n_Y X) u4)))) (As := []) (st := [.ref b55, .int 5, .ref q1]) C tc_X0 kiX0 rfl mlX10_15 rfl (by decide) rfl (Nat.le_of_ble_eq_true rfl) (by decide) (by decide) dX10_init_30 (fun u5 hu5 => ?_)
    subst hu5
    refine n_ws (ws' := ((b, .inr (10, [.ref q1, .int 0, .int 0])) :: ((((((([] ++ [(q1, .inl ((n_Y X).2.2, 6, .inr (.inr (.inr (.inr (va_up (va_up (va_up (va_up (va_up (fun _ => none) 0 (some (u0 0))) 1 (some (u1 0))) 2 (some (u2 0))) 3 (some (u3 0))) 4 (some (u4 0))))))))]) ++ (w_Beds (n_Y X) u0)) ++ (w_Beds (n_Y X) u1)) ++ (w_Beds (n_Y X) u2)) ++ (w_Beds (n_Y X) u3)) ++ (w_Beds (n_Y X) u4)) ++ (w_Beds (n_Y X) u5)))) rfl ?_
    refine n_aast (ws' := ((b, .inr (10, [.ref q1, .int 0, .int 0])) :: ((((((([] ++ [(q1, .inl ((n_Y X).2.2, 6, .inr (.inr (.inr (.inr (va_up (va_up (va_up (va_up (va_up (va_up (fun _ => none) 0 (some (u0 0))) 1 (some (u1 0))) 2 (some (u2 0))) 3 (some (u3 0))) 4 (some (u4 0))) 5 (some (u5 0))))))))]) ++ (w_Beds (n_Y X) u0)) ++ (w_Beds (n_Y X) u1)) ++ (w_Beds (n_Y X) u2)) ++ (w_Beds (n_Y X) u3)) ++ (w_Beds (n_Y X) u4)) ++ (w_Beds (n_Y X) u5)))) C 1 32 rfl rfl (z_in_vp (by decide)) rfl dX10_init_33 ?_
    refine n_iinc (v := 6) (lo' := [some (.ref b), some (.int 6)]) C dX10_init_34 rfl (by decide) rfl ?_
    refine n_goto (tgt := 15) C dX10_init_37 (by decide) ?_
    refine n_iload_n C dX10_init_15 rfl rfl ?_
    refine n_bipush (v := 6) C dX10_init_16 (by decide) ?_
    refine n_icmp_ge (tgt := 40) C dX10_init_18 (by decide) (fun hc => ?_) (fun hc => ?_)
    · exact n_ret C (fun i => [b, q1, (u0 0), (u0 1), (u0 2), (u0 3), (u0 4), (u0 5), (u1 0), (u1 1), (u1 2), (u1 3), (u1 4), (u1 5), (u2 0), (u2 1), (u2 2), (u2 3), (u2 4), (u2 5), (u3 0), (u3 1), (u3 2), (u3 3), (u3 4), (u3 5), (u4 0), (u4 1), (u4 2), (u4 3), (u4 4), (u4 5), (u5 0), (u5 1), (u5 2), (u5 3), (u5 4), (u5 5)].getD i 0) rfl rfl dX10_init_40
    · exact absurd hc (by decide)
