set_option maxHeartbeats 4000000 in
set_option maxRecDepth 100000 in
theorem t10_forget {a : Nat → Nat} {σ : z_M} {u : Unit × z_M} (h : f10_forget σ = some u) : z_Mt yX10_forget (z_w yX10_forget cX10_forget 1 none) 1 S1 a σ [.ref (a 58)] (z_ov u) := by
  refine z_head (lo := [some (.ref (a 58))]) (by decide) (Nat.le_of_ble_eq_true rfl) ?_ rfl ?_
  · intro i v hv
    exact z_loe (vs := [.ref (a 58)]) (n := 0) rfl (by simp [z_c1i, z_c1r]) i v hv
  · intro X hXa C
    subst hXa
    unfold f10_forget at h
    refine z_aload_n C dX10_forget_0 rfl rfl ?_
    refine z_iconst (v := 0) C dX10_forget_1 (by decide) ?_
    obtain ⟨σ1, eσ1, h⟩ := z_let_some h
    refine z_puti (k := 2) C z_CF10 (by decide) flX10_24 rfl rfl rfl rfl eσ1 dX10_forget_2 ?_
    exact z_vret C h dX10_forget_5
set_option maxHeartbeats 4000000 in
set_option maxRecDepth 100000 in
theorem t11_state {a : Nat → Nat} (p1 : Int32) {σ : z_M} {u : Int32 × z_M} (h : f11_state p1 σ = some u) : z_Mt yX11_state (z_w yX11_state cX11_state 3 (some .int)) 2 S1 a σ [.ref (a 0), .int p1] (z_oi u) := by
  refine z_head (lo := [some (.ref (a 0)), some (.int p1), none]) (by decide) (Nat.le_of_ble_eq_true rfl) ?_ rfl ?_
  · intro i v hv
    exact z_loe (vs := [.ref (a 0), .int p1]) (n := 1) rfl (by simp [z_c1i, z_c1r]) i v hv
  · intro X hXa C
    subst hXa
    unfold f11_state at h
    refine z_aload_n C dX11_state_0 rfl rfl ?_
    refine z_geta (k := 0) (q := 1) C z_CF11 (by decide) flX11_10 rfl rfl dX11_state_1 ?_
    refine z_geta (k := 13) (q := 18) C z_CF1 (by decide) flX11_32 rfl rfl dX11_state_4 ?_
    refine z_geti (k := 5) C z_CF0 (by decide) flX11_93 rfl rfl dX11_state_7 ?_
    refine z_istore_n (lo' := [some (.ref (z_a X 0)), some (.int p1), some (.int (σ 18 5))]) C dX11_state_10 rfl (Nat.le_of_ble_eq_true rfl) rfl ?_
    refine z_aload_n C dX11_state_11 rfl rfl ?_
    refine z_geta (k := 5) (q := 58) C z_CF11 (by decide) flX11_52 rfl rfl dX11_state_12 ?_
    obtain ⟨⟨⟩, σ2, mσ2, h⟩ := z_bnd2 h
    refine z_cvv (As := []) (c := 58) (st := []) C (t10_forget mσ2) kvX10_forget rfl mlX11_97 z_CF10 rfl rfl (by decide) rfl (Nat.le_of_ble_eq_true rfl) dX11_state_15 ?_
    refine z_aload_n C dX11_state_18 rfl rfl ?_
    refine z_geta (k := 0) (q := 1) C z_CF11 (by decide) flX11_10 rfl rfl dX11_state_19 ?_
    refine z_geta (k := 13) (q := 18) C z_CF1 (by decide) flX11_32 rfl rfl dX11_state_22 ?_
    refine z_iload_n C dX11_state_25 rfl rfl ?_
    obtain ⟨σ3, eσ3, h⟩ := z_let_some h
    refine z_puti (k := 5) C z_CF0 (by decide) flX11_93 rfl rfl rfl rfl eσ3 dX11_state_26 ?_
    refine z_iload_n C dX11_state_29 rfl rfl ?_
    exact z_iret C h dX11_state_30
set_option maxHeartbeats 4000000 in
set_option maxRecDepth 100000 in
theorem t11_house {a : Nat → Nat} {σ : z_M} {u : Int32 × z_M} (h : f11_house σ = some u) : z_Mt yX11_house (z_w yX11_house cX11_house 1 (some .int)) 2 S1 a σ [.ref (a 0)] (z_oi u) := by
  refine z_head (lo := [some (.ref (a 0))]) (by decide) (Nat.le_of_ble_eq_true rfl) ?_ rfl ?_
  · intro i v hv
    exact z_loe (vs := [.ref (a 0)]) (n := 0) rfl (by simp [z_c1i, z_c1r]) i v hv
  · intro X hXa C
    subst hXa
    unfold f11_house at h
    refine z_aload_n C dX11_house_0 rfl rfl ?_
    refine z_geta (k := 0) (q := 1) C z_CF11 (by decide) flX11_10 rfl rfl dX11_house_1 ?_
    refine z_geti (k := 0) C z_CF1 (by decide) flX11_100 rfl rfl dX11_house_4 ?_
    refine z_bipush (v := 8) C dX11_house_7 (by decide) ?_
    refine z_icmp_lt (tgt := 14) C dX11_house_9 (by decide) (fun hc => ?_) (fun hc => ?_)
    · replace h := z_pos hc h
      refine z_aload_n C dX11_house_14 rfl rfl ?_
      refine z_geta (k := 5) (q := 58) C z_CF11 (by decide) flX11_52 rfl rfl dX11_house_15 ?_
      obtain ⟨⟨⟩, σ2, mσ2, h⟩ := z_bnd2 h
      refine z_cvv (As := []) (c := 58) (st := []) C (t10_forget mσ2) kvX10_forget rfl mlX11_97 z_CF10 rfl rfl (by decide) rfl (Nat.le_of_ble_eq_true rfl) dX11_house_18 ?_
      refine z_aload_n C dX11_house_21 rfl rfl ?_
      refine z_geta (k := 0) (q := 1) C z_CF11 (by decide) flX11_10 rfl rfl dX11_house_22 ?_
      refine z_dup C dX11_house_25 rfl ?_
      refine z_geti (k := 0) C z_CF1 (by decide) flX11_100 rfl rfl dX11_house_26 ?_
      refine z_iconst (v := 1) C dX11_house_29 (by decide) ?_
      refine z_iadd C dX11_house_30 ?_
      obtain ⟨σ3, eσ3, h⟩ := z_let_some h
      refine z_puti (k := 0) C z_CF1 (by decide) flX11_100 rfl rfl rfl rfl eσ3 dX11_house_31 ?_
      refine z_aload_n C dX11_house_34 rfl rfl ?_
      refine z_geta (k := 0) (q := 1) C z_CF11 (by decide) flX11_10 rfl rfl dX11_house_35 ?_
      refine z_geti (k := 0) C z_CF1 (by decide) flX11_100 rfl rfl dX11_house_38 ?_
      refine z_iconst (v := 1) C dX11_house_41 (by decide) ?_
      refine z_isub C dX11_house_42 ?_
      exact z_iret C h dX11_house_43
    · replace h := z_neg hc h
      refine z_iconst (v := (-1)) C dX11_house_12 (by decide) ?_
      exact z_iret C h dX11_house_13
set_option maxHeartbeats 4000000 in
set_option maxRecDepth 100000 in
theorem t11_isThing_J14 {X : z_Ct} (C : z_Cx S1 X RX11 cX11_isThing 1 1 (some .boolean)) {u : Int32 × z_M} (σ : z_M) (h : f11_isThing_J14 σ = some u) : z_W S1 X 14 [none] [] σ (z_oi u) := by
  unfold f11_isThing_J14 at h
  refine z_iconst (v := 0) C dX11_isThing_14 (by decide) ?_
  exact z_zret C (by decide) h dX11_isThing_15
set_option maxHeartbeats 4000000 in
set_option maxRecDepth 100000 in
theorem t11_isThing {a : Nat → Nat} (p0 : Int32) {σ : z_M} {u : Int32 × z_M} (h : f11_isThing p0 σ = some u) : z_Mt yX11_isThing (z_w yX11_isThing cX11_isThing 1 (some .boolean)) 1 S1 a σ [.int p0] (z_oi u) := by
  refine z_head (lo := [some (.int p0)]) (by decide) (Nat.le_of_ble_eq_true rfl) ?_ rfl ?_
  · intro i v hv
    exact z_loe (vs := [.int p0]) (n := 0) rfl (by simp [z_c1i, z_c1r]) i v hv
  · intro X hXa C
    subst hXa
    unfold f11_isThing at h
    refine z_iload_n C dX11_isThing_0 rfl rfl ?_
    refine z_if_lt (tgt := 14) C dX11_isThing_1 (by decide) (fun hc => ?_) (fun hc => ?_)
    · replace h := z_pos hc h
      refine z_kill (lo' := [none]) [0] rfl ?_
      exact t11_isThing_J14 C σ h
    · replace h := z_neg hc h
      refine z_iload_n C dX11_isThing_4 rfl rfl ?_
      refine z_bipush (v := 8) C dX11_isThing_5 (by decide) ?_
      refine z_icmp_ge (tgt := 14) C dX11_isThing_7 (by decide) (fun hc => ?_) (fun hc => ?_)
      · replace h := z_neg hc h
        refine z_kill (lo' := [none]) [0] rfl ?_
        exact t11_isThing_J14 C σ h
      · replace h := z_pos hc h
        refine z_iconst (v := 1) C dX11_isThing_10 (by decide) ?_
        refine z_goto (tgt := 15) C dX11_isThing_11 (by decide) ?_
        exact z_zret C (by decide) h dX11_isThing_15
set_option maxHeartbeats 4000000 in
set_option maxRecDepth 100000 in
theorem t11_mostOf {a : Nat → Nat} (p0 : Int32) {σ : z_M} {u : Int32 × z_M} (h : f11_mostOf p0 σ = some u) : z_Mt yX11_mostOf (z_w yX11_mostOf cX11_mostOf 1 (some .int)) 1 S1 a σ [.int p0] (z_oi u) := by
  refine z_head (lo := [some (.int p0)]) (by decide) (Nat.le_of_ble_eq_true rfl) ?_ rfl ?_
  · intro i v hv
    exact z_loe (vs := [.int p0]) (n := 0) rfl (by simp [z_c1i, z_c1r]) i v hv
  · intro X hXa C
    subst hXa
    unfold f11_mostOf at h
    refine z_iload_n C dX11_mostOf_0 rfl rfl ?_
    refine z_if_ne (tgt := 7) C dX11_mostOf_1 (by decide) (fun hc => ?_) (fun hc => ?_)
    · replace h := z_neg hc h
      refine z_iload_n C dX11_mostOf_7 rfl rfl ?_
      refine z_iconst (v := 3) C dX11_mostOf_8 (by decide) ?_
      refine z_icmp_ne (tgt := 16) C dX11_mostOf_9 (by decide) (fun hc => ?_) (fun hc => ?_)
      · replace h := z_neg hc h
        refine z_sipush (v := 1000) C dX11_mostOf_16 (by decide) ?_
        exact z_iret C h dX11_mostOf_19
      · replace h := z_pos hc h
        refine z_iconst (v := 5) C dX11_mostOf_12 (by decide) ?_
        refine z_goto (tgt := 19) C dX11_mostOf_13 (by decide) ?_
        exact z_iret C h dX11_mostOf_19
    · replace h := z_pos hc h
      refine z_bipush (v := 8) C dX11_mostOf_4 (by decide) ?_
      exact z_iret C h dX11_mostOf_6
set_option maxHeartbeats 4000000 in
set_option maxRecDepth 100000 in
theorem t11_set_J35 {X : z_Ct} (C : z_Cx S1 X RX11 cX11_set 4 2 (some .boolean)) {u : Int32 × z_M} (v1 : Int32) (v2 : Int32) (v3 : Int32) (σ : z_M) (h : f11_set_J35 v1 v2 v3 σ = some u) : z_W S1 X 35 [some (.ref (z_a X 0)), some (.int v1), some (.int v2), some (.int v3)] [] σ (z_oi u) := by
  unfold f11_set_J35 at h
  refine z_aload_n C dX11_set_35 rfl rfl ?_
  refine z_geta (k := 5) (q := 58) C z_CF11 (by decide) flX11_52 rfl rfl dX11_set_36 ?_
  obtain ⟨⟨⟩, σ2, mσ2, h⟩ := z_bnd2 h
  refine z_cvv (As := []) (c := 58) (st := []) C (t10_forget mσ2) kvX10_forget rfl mlX11_97 z_CF10 rfl rfl (by decide) rfl (Nat.le_of_ble_eq_true rfl) dX11_set_39 ?_
  refine z_iload_n C dX11_set_42 rfl rfl ?_
  refine z_if_ne (tgt := 57) C dX11_set_43 (by decide) (fun hc => ?_) (fun hc => ?_)
  · replace h := z_neg hc h
    refine z_iload_n C dX11_set_57 rfl rfl ?_
    refine z_iconst (v := 1) C dX11_set_58 (by decide) ?_
    refine z_icmp_ne (tgt := 73) C dX11_set_59 (by decide) (fun hc => ?_) (fun hc => ?_)
    · replace h := z_neg hc h
      refine z_iload_n C dX11_set_73 rfl rfl ?_
      refine z_iconst (v := 2) C dX11_set_74 (by decide) ?_
      refine z_icmp_ne (tgt := 89) C dX11_set_75 (by decide) (fun hc => ?_) (fun hc => ?_)
      · replace h := z_neg hc h
        refine z_aload_n C dX11_set_89 rfl rfl ?_
        refine z_geta (k := 0) (q := 1) C z_CF11 (by decide) flX11_10 rfl rfl dX11_set_90 ?_
        refine z_geta (k := 4) (q := 2) C z_CF1 (by decide) flX11_120 rfl rfl dX11_set_93 ?_
        refine z_iload_n C dX11_set_96 rfl rfl ?_
        refine z_iload_n C dX11_set_97 rfl rfl ?_
        obtain ⟨b3, h⟩ := z_chk_some h
        obtain ⟨σ4, eσ4, h⟩ := z_let_some h
        refine z_iast C rfl rfl b3 eσ4 dX11_set_98 ?_
        refine z_iconst (v := 1) C dX11_set_99 (by decide) ?_
        exact z_zret C (by decide) h dX11_set_100
      · replace h := z_pos hc h
        refine z_aload_n C dX11_set_78 rfl rfl ?_
        refine z_geta (k := 0) (q := 1) C z_CF11 (by decide) flX11_10 rfl rfl dX11_set_79 ?_
        refine z_iload_n C dX11_set_82 rfl rfl ?_
        obtain ⟨σ5, eσ5, h⟩ := z_let_some h
        refine z_puti (k := 3) C z_CF1 (by decide) flX11_117 rfl rfl rfl rfl eσ5 dX11_set_83 ?_
        refine z_goto (tgt := 99) C dX11_set_86 (by decide) ?_
        refine z_iconst (v := 1) C dX11_set_99 (by decide) ?_
        exact z_zret C (by decide) h dX11_set_100
    · replace h := z_pos hc h
      refine z_aload_n C dX11_set_62 rfl rfl ?_
      refine z_geta (k := 0) (q := 1) C z_CF11 (by decide) flX11_10 rfl rfl dX11_set_63 ?_
      refine z_iload_n C dX11_set_66 rfl rfl ?_
      obtain ⟨σ6, eσ6, h⟩ := z_let_some h
      refine z_puti (k := 2) C z_CF1 (by decide) flX11_114 rfl rfl rfl rfl eσ6 dX11_set_67 ?_
      refine z_goto (tgt := 99) C dX11_set_70 (by decide) ?_
      refine z_iconst (v := 1) C dX11_set_99 (by decide) ?_
      exact z_zret C (by decide) h dX11_set_100
  · replace h := z_pos hc h
    refine z_aload_n C dX11_set_46 rfl rfl ?_
    refine z_geta (k := 0) (q := 1) C z_CF11 (by decide) flX11_10 rfl rfl dX11_set_47 ?_
    refine z_iload_n C dX11_set_50 rfl rfl ?_
    obtain ⟨σ7, eσ7, h⟩ := z_let_some h
    refine z_puti (k := 1) C z_CF1 (by decide) flX11_111 rfl rfl rfl rfl eσ7 dX11_set_51 ?_
    refine z_goto (tgt := 99) C dX11_set_54 (by decide) ?_
    refine z_iconst (v := 1) C dX11_set_99 (by decide) ?_
    exact z_zret C (by decide) h dX11_set_100
set_option maxHeartbeats 4000000 in
set_option maxRecDepth 100000 in
theorem t11_set {a : Nat → Nat} (p1 : Int32) (p2 : Int32) (p3 : Int32) {σ : z_M} {u : Int32 × z_M} (h : f11_set p1 p2 p3 σ = some u) : z_Mt yX11_set (z_w yX11_set cX11_set 4 (some .boolean)) 2 S1 a σ [.ref (a 0), .int p1, .int p2, .int p3] (z_oi u) := by
  refine z_head (lo := [some (.ref (a 0)), some (.int p1), some (.int p2), some (.int p3)]) (by decide) (Nat.le_of_ble_eq_true rfl) ?_ rfl ?_
  · intro i v hv
    exact z_loe (vs := [.ref (a 0), .int p1, .int p2, .int p3]) (n := 0) rfl (by simp [z_c1i, z_c1r]) i v hv
  · intro X hXa C
    subst hXa
    unfold f11_set at h
    refine z_iload_n C dX11_set_0 rfl rfl ?_
    refine z_if_lt (tgt := 33) C dX11_set_1 (by decide) (fun hc => ?_) (fun hc => ?_)
    · replace h := z_pos hc h
      refine z_iconst (v := 0) C dX11_set_33 (by decide) ?_
      exact z_zret C (by decide) h dX11_set_34
    · replace h := z_neg hc h
      refine z_iload_n C dX11_set_4 rfl rfl ?_
      refine z_iconst (v := 3) C dX11_set_5 (by decide) ?_
      refine z_icmp_gt (tgt := 33) C dX11_set_6 (by decide) (fun hc => ?_) (fun hc => ?_)
      · replace h := z_pos hc h
        refine z_iconst (v := 0) C dX11_set_33 (by decide) ?_
        exact z_zret C (by decide) h dX11_set_34
      · replace h := z_neg hc h
        refine z_iload_n C dX11_set_9 rfl rfl ?_
        refine z_if_lt (tgt := 33) C dX11_set_10 (by decide) (fun hc => ?_) (fun hc => ?_)
        · replace h := z_pos hc h
          refine z_iconst (v := 0) C dX11_set_33 (by decide) ?_
          exact z_zret C (by decide) h dX11_set_34
        · replace h := z_neg hc h
          refine z_iload_n C dX11_set_13 rfl rfl ?_
          refine z_iload_n C dX11_set_14 rfl rfl ?_
          obtain ⟨r1, σ2, mσ2, h⟩ := z_bnd2 h
          refine z_csi (As := [.int p1]) (st := [.int p3]) C (t11_mostOf p1 mσ2) kvX11_mostOf rfl mlX11_103 (by decide) rfl (Nat.le_of_ble_eq_true rfl) dX11_set_15 ?_
          refine z_icmp_gt (tgt := 33) C dX11_set_18 (by decide) (fun hc => ?_) (fun hc => ?_)
          · replace h := z_pos hc h
            refine z_iconst (v := 0) C dX11_set_33 (by decide) ?_
            exact z_zret C (by decide) h dX11_set_34
          · replace h := z_neg hc h
            refine z_iload_n C dX11_set_21 rfl rfl ?_
            refine z_iconst (v := 3) C dX11_set_22 (by decide) ?_
            refine z_icmp_ne (tgt := 35) C dX11_set_23 (by decide) (fun hc => ?_) (fun hc => ?_)
            · replace h := z_neg hc h
              exact t11_set_J35 C p1 p2 p3 σ2 h
            · replace h := z_pos hc h
              refine z_iload_n C dX11_set_26 rfl rfl ?_
              obtain ⟨r3, σ4, mσ4, h⟩ := z_bnd2 h
              refine z_csi (As := [.int p2]) (st := []) C (t11_isThing p2 mσ4) kvX11_isThing rfl mlX11_107 (by decide) rfl (Nat.le_of_ble_eq_true rfl) dX11_set_27 ?_
              refine z_if_ne (tgt := 35) C dX11_set_30 (by decide) (fun hc => ?_) (fun hc => ?_)
              · replace h := z_neg hc h
                exact t11_set_J35 C p1 p2 p3 σ4 h
              · replace h := z_pos hc h
                refine z_iconst (v := 0) C dX11_set_33 (by decide) ?_
                exact z_zret C (by decide) h dX11_set_34
set_option maxHeartbeats 4000000 in
set_option maxRecDepth 100000 in
theorem t1_join {a : Nat → Nat} (c0 : Nat) (p1 : Int32) (p2 : Int32) (p3 : Int32) {σ : z_M} (hk0 : S1.1 c0 = 1) {u : Unit × z_M} (h : f1_join c0 p1 p2 p3 σ = some u) : z_Mt yX1_join (z_w yX1_join cX1_join 4 none) 1 S1 a σ [.ref (a c0), .int p1, .int p2, .int p3] (z_ov u) := by
  refine z_head (lo := [some (.ref (a c0)), some (.int p1), some (.int p2), some (.int p3)]) (by decide) (Nat.le_of_ble_eq_true rfl) ?_ rfl ?_
  · intro i v hv
    exact z_loe (vs := [.ref (a c0), .int p1, .int p2, .int p3]) (n := 0) rfl (by simp [z_c1i, z_c1r]) i v hv
  · intro X hXa C
    subst hXa
    unfold f1_join at h
    refine z_iload_n C dX1_join_0 rfl rfl ?_
    refine z_if_eq (tgt := 31) C dX1_join_1 (by decide) (fun hc => ?_) (fun hc => ?_)
    · replace h := z_pos hc h
      refine z_aload_n C dX1_join_31 rfl rfl ?_
      refine z_geta (k := 5) (q := (c0 + 2)) C z_CF1 (by decide) flX1_19 hk0 (sh1_r5 hk0) dX1_join_32 ?_
      refine z_iload_n C dX1_join_35 rfl rfl ?_
      refine z_dup2 C dX1_join_36 rfl rfl ?_
      obtain ⟨b1, h⟩ := z_chk_some h
      refine z_iald C (sh1_k5 hk0) (sh1_l5 hk0) b1 dX1_join_37 ?_
      refine z_iconst (v := 1) C dX1_join_38 (by decide) ?_
      refine z_iload_n C dX1_join_39 rfl rfl ?_
      refine z_ishl C dX1_join_40 ?_
      refine z_iconst (v := (-1)) C dX1_join_41 (by decide) ?_
      refine z_ixor C dX1_join_42 ?_
      refine z_iand C dX1_join_43 ?_
      obtain ⟨b2, h⟩ := z_chk_some h
      obtain ⟨σ3, eσ3, h⟩ := z_let_some h
      refine z_iast C (sh1_k5 hk0) (sh1_l5 hk0) b2 eσ3 dX1_join_44 ?_
      refine z_aload_n C dX1_join_45 rfl rfl ?_
      refine z_geta (k := 5) (q := (c0 + 2)) C z_CF1 (by decide) flX1_19 hk0 (sh1_r5 hk0) dX1_join_46 ?_
      refine z_iload_n C dX1_join_49 rfl rfl ?_
      refine z_dup2 C dX1_join_50 rfl rfl ?_
      obtain ⟨b4, h⟩ := z_chk_some h
      refine z_iald C (sh1_k5 hk0) (sh1_l5 hk0) b4 dX1_join_51 ?_
      refine z_iconst (v := 1) C dX1_join_52 (by decide) ?_
      refine z_iload_n C dX1_join_53 rfl rfl ?_
      refine z_ishl C dX1_join_54 ?_
      refine z_iconst (v := (-1)) C dX1_join_55 (by decide) ?_
      refine z_ixor C dX1_join_56 ?_
      refine z_iand C dX1_join_57 ?_
      obtain ⟨b5, h⟩ := z_chk_some h
      obtain ⟨σ6, eσ6, h⟩ := z_let_some h
      refine z_iast C (sh1_k5 hk0) (sh1_l5 hk0) b5 eσ6 dX1_join_58 ?_
      exact z_vret C h dX1_join_59
    · replace h := z_neg hc h
      refine z_aload_n C dX1_join_4 rfl rfl ?_
      refine z_geta (k := 5) (q := (c0 + 2)) C z_CF1 (by decide) flX1_19 hk0 (sh1_r5 hk0) dX1_join_5 ?_
      refine z_iload_n C dX1_join_8 rfl rfl ?_
      refine z_dup2 C dX1_join_9 rfl rfl ?_
      obtain ⟨b7, h⟩ := z_chk_some h
      refine z_iald C (sh1_k5 hk0) (sh1_l5 hk0) b7 dX1_join_10 ?_
      refine z_iconst (v := 1) C dX1_join_11 (by decide) ?_
      refine z_iload_n C dX1_join_12 rfl rfl ?_
      refine z_ishl C dX1_join_13 ?_
      refine z_ior C dX1_join_14 ?_
      obtain ⟨b8, h⟩ := z_chk_some h
      obtain ⟨σ9, eσ9, h⟩ := z_let_some h
      refine z_iast C (sh1_k5 hk0) (sh1_l5 hk0) b8 eσ9 dX1_join_15 ?_
      refine z_aload_n C dX1_join_16 rfl rfl ?_
      refine z_geta (k := 5) (q := (c0 + 2)) C z_CF1 (by decide) flX1_19 hk0 (sh1_r5 hk0) dX1_join_17 ?_
      refine z_iload_n C dX1_join_20 rfl rfl ?_
      refine z_dup2 C dX1_join_21 rfl rfl ?_
      obtain ⟨b10, h⟩ := z_chk_some h
      refine z_iald C (sh1_k5 hk0) (sh1_l5 hk0) b10 dX1_join_22 ?_
      refine z_iconst (v := 1) C dX1_join_23 (by decide) ?_
      refine z_iload_n C dX1_join_24 rfl rfl ?_
      refine z_ishl C dX1_join_25 ?_
      refine z_ior C dX1_join_26 ?_
      obtain ⟨b11, h⟩ := z_chk_some h
      obtain ⟨σ12, eσ12, h⟩ := z_let_some h
      refine z_iast C (sh1_k5 hk0) (sh1_l5 hk0) b11 eσ12 dX1_join_27 ?_
      refine z_goto (tgt := 59) C dX1_join_28 (by decide) ?_
      exact z_vret C h dX1_join_59
set_option maxHeartbeats 4000000 in
set_option maxRecDepth 100000 in
theorem t11_isHouse_J19 {X : z_Ct} (C : z_Cx S1 X RX11 cX11_isHouse 2 1 (some .boolean)) {u : Int32 × z_M} (σ : z_M) (h : f11_isHouse_J19 σ = some u) : z_W S1 X 19 [none, none] [] σ (z_oi u) := by
  unfold f11_isHouse_J19 at h
  refine z_iconst (v := 0) C dX11_isHouse_19 (by decide) ?_
  exact z_zret C (by decide) h dX11_isHouse_20
set_option maxHeartbeats 4000000 in
set_option maxRecDepth 100000 in
theorem t11_isHouse {a : Nat → Nat} (p1 : Int32) {σ : z_M} {u : Int32 × z_M} (h : f11_isHouse p1 σ = some u) : z_Mt yX11_isHouse (z_w yX11_isHouse cX11_isHouse 2 (some .boolean)) 1 S1 a σ [.ref (a 0), .int p1] (z_oi u) := by
  refine z_head (lo := [some (.ref (a 0)), some (.int p1)]) (by decide) (Nat.le_of_ble_eq_true rfl) ?_ rfl ?_
  · intro i v hv
    exact z_loe (vs := [.ref (a 0), .int p1]) (n := 0) rfl (by simp [z_c1i, z_c1r]) i v hv
  · intro X hXa C
    subst hXa
    unfold f11_isHouse at h
    refine z_iload_n C dX11_isHouse_0 rfl rfl ?_
    refine z_if_lt (tgt := 19) C dX11_isHouse_1 (by decide) (fun hc => ?_) (fun hc => ?_)
    · replace h := z_pos hc h
      refine z_kill (lo' := [none, none]) [0, 1] rfl ?_
      exact t11_isHouse_J19 C σ h
    · replace h := z_neg hc h
      refine z_iload_n C dX11_isHouse_4 rfl rfl ?_
      refine z_aload_n C dX11_isHouse_5 rfl rfl ?_
      refine z_geta (k := 0) (q := 1) C z_CF11 (by decide) flX11_10 rfl rfl dX11_isHouse_6 ?_
      refine z_geti (k := 0) C z_CF1 (by decide) flX11_100 rfl rfl dX11_isHouse_9 ?_
      refine z_icmp_ge (tgt := 19) C dX11_isHouse_12 (by decide) (fun hc => ?_) (fun hc => ?_)
      · replace h := z_neg hc h
        refine z_kill (lo' := [none, none]) [0, 1] rfl ?_
        exact t11_isHouse_J19 C σ h
      · replace h := z_pos hc h
        refine z_iconst (v := 1) C dX11_isHouse_15 (by decide) ?_
        refine z_goto (tgt := 20) C dX11_isHouse_16 (by decide) ?_
        exact z_zret C (by decide) h dX11_isHouse_20
set_option maxHeartbeats 4000000 in
set_option maxRecDepth 100000 in
theorem t11_areTwo_J25 {X : z_Ct} (C : z_Cx S1 X RX11 cX11_areTwo 3 2 (some .boolean)) {u : Int32 × z_M} (σ : z_M) (h : f11_areTwo_J25 σ = some u) : z_W S1 X 25 [none, none, none] [] σ (z_oi u) := by
  unfold f11_areTwo_J25 at h
  refine z_iconst (v := 0) C dX11_areTwo_25 (by decide) ?_
  exact z_zret C (by decide) h dX11_areTwo_26
set_option maxHeartbeats 4000000 in
set_option maxRecDepth 100000 in
theorem t11_areTwo {a : Nat → Nat} (p1 : Int32) (p2 : Int32) {σ : z_M} {u : Int32 × z_M} (h : f11_areTwo p1 p2 σ = some u) : z_Mt yX11_areTwo (z_w yX11_areTwo cX11_areTwo 3 (some .boolean)) 2 S1 a σ [.ref (a 0), .int p1, .int p2] (z_oi u) := by
  refine z_head (lo := [some (.ref (a 0)), some (.int p1), some (.int p2)]) (by decide) (Nat.le_of_ble_eq_true rfl) ?_ rfl ?_
  · intro i v hv
    exact z_loe (vs := [.ref (a 0), .int p1, .int p2]) (n := 0) rfl (by simp [z_c1i, z_c1r]) i v hv
  · intro X hXa C
    subst hXa
    unfold f11_areTwo at h
    refine z_aload_n C dX11_areTwo_0 rfl rfl ?_
    refine z_iload_n C dX11_areTwo_1 rfl rfl ?_
    obtain ⟨r1, σ2, mσ2, h⟩ := z_bnd2 h
    refine z_cvi (As := [.int p1]) (c := 0) (st := []) C (t11_isHouse p1 mσ2) kvX11_isHouse rfl mlX11_165 z_CF11 rfl rfl (by decide) rfl (Nat.le_of_ble_eq_true rfl) dX11_areTwo_2 ?_
    refine z_if_eq (tgt := 25) C dX11_areTwo_5 (by decide) (fun hc => ?_) (fun hc => ?_)
    · replace h := z_pos hc h
      refine z_kill (lo' := [none, none, none]) [0, 1, 2] rfl ?_
      exact t11_areTwo_J25 C σ2 h
    · replace h := z_neg hc h
      refine z_aload_n C dX11_areTwo_8 rfl rfl ?_
      refine z_iload_n C dX11_areTwo_9 rfl rfl ?_
      obtain ⟨r3, σ4, mσ4, h⟩ := z_bnd2 h
      refine z_cvi (As := [.int p2]) (c := 0) (st := []) C (t11_isHouse p2 mσ4) kvX11_isHouse rfl mlX11_165 z_CF11 rfl rfl (by decide) rfl (Nat.le_of_ble_eq_true rfl) dX11_areTwo_10 ?_
      refine z_if_eq (tgt := 25) C dX11_areTwo_13 (by decide) (fun hc => ?_) (fun hc => ?_)
      · replace h := z_pos hc h
        refine z_kill (lo' := [none, none, none]) [0, 1, 2] rfl ?_
        exact t11_areTwo_J25 C σ4 h
      · replace h := z_neg hc h
        refine z_iload_n C dX11_areTwo_16 rfl rfl ?_
        refine z_iload_n C dX11_areTwo_17 rfl rfl ?_
        refine z_icmp_eq (tgt := 25) C dX11_areTwo_18 (by decide) (fun hc => ?_) (fun hc => ?_)
        · replace h := z_pos hc h
          refine z_kill (lo' := [none, none, none]) [0, 1, 2] rfl ?_
          exact t11_areTwo_J25 C σ4 h
        · replace h := z_neg hc h
          refine z_iconst (v := 1) C dX11_areTwo_21 (by decide) ?_
          refine z_goto (tgt := 26) C dX11_areTwo_22 (by decide) ?_
          exact z_zret C (by decide) h dX11_areTwo_26
set_option maxHeartbeats 4000000 in
set_option maxRecDepth 100000 in
theorem t11_line {a : Nat → Nat} (p1 : Int32) (p2 : Int32) (p3 : Int32) {σ : z_M} {u : Int32 × z_M} (h : f11_line p1 p2 p3 σ = some u) : z_Mt yX11_line (z_w yX11_line cX11_line 4 (some .boolean)) 3 S1 a σ [.ref (a 0), .int p1, .int p2, .int p3] (z_oi u) := by
  refine z_head (lo := [some (.ref (a 0)), some (.int p1), some (.int p2), some (.int p3)]) (by decide) (Nat.le_of_ble_eq_true rfl) ?_ rfl ?_
  · intro i v hv
    exact z_loe (vs := [.ref (a 0), .int p1, .int p2, .int p3]) (n := 0) rfl (by simp [z_c1i, z_c1r]) i v hv
  · intro X hXa C
    subst hXa
    unfold f11_line at h
    refine z_aload_n C dX11_line_0 rfl rfl ?_
    refine z_iload_n C dX11_line_1 rfl rfl ?_
    refine z_iload_n C dX11_line_2 rfl rfl ?_
    obtain ⟨r1, σ2, mσ2, h⟩ := z_bnd2 h
    refine z_cvi (As := [.int p1, .int p2]) (c := 0) (st := []) C (t11_areTwo p1 p2 mσ2) kvX11_areTwo rfl mlX11_124 z_CF11 rfl rfl (by decide) rfl (Nat.le_of_ble_eq_true rfl) dX11_line_3 ?_
    refine z_if_ne (tgt := 11) C dX11_line_6 (by decide) (fun hc => ?_) (fun hc => ?_)
    · replace h := z_neg hc h
      refine z_aload_n C dX11_line_11 rfl rfl ?_
      refine z_geta (k := 5) (q := 58) C z_CF11 (by decide) flX11_52 rfl rfl dX11_line_12 ?_
      obtain ⟨⟨⟩, σ4, mσ4, h⟩ := z_bnd2 h
      refine z_cvv (As := []) (c := 58) (st := []) C (t10_forget mσ4) kvX10_forget rfl mlX11_97 z_CF10 rfl rfl (by decide) rfl (Nat.le_of_ble_eq_true rfl) dX11_line_15 ?_
      refine z_aload_n C dX11_line_18 rfl rfl ?_
      refine z_geta (k := 0) (q := 1) C z_CF11 (by decide) flX11_10 rfl rfl dX11_line_19 ?_
      refine z_iload_n C dX11_line_22 rfl rfl ?_
      refine z_iload_n C dX11_line_23 rfl rfl ?_
      refine z_iload_n C dX11_line_24 rfl rfl ?_
      obtain ⟨⟨⟩, σ6, mσ6, h⟩ := z_bnd2 h
      refine z_cvv (As := [.int p1, .int p2, .int p3]) (c := 1) (st := []) C (t1_join 1 p1 p2 p3 rfl mσ6) kvX1_join rfl mlX11_128 z_CF1 rfl rfl (by decide) rfl (Nat.le_of_ble_eq_true rfl) dX11_line_25 ?_
      refine z_iconst (v := 1) C dX11_line_28 (by decide) ?_
      exact z_zret C (by decide) h dX11_line_29
    · replace h := z_pos hc h
      refine z_iconst (v := 0) C dX11_line_9 (by decide) ?_
      exact z_zret C (by decide) h dX11_line_10
set_option maxHeartbeats 4000000 in
set_option maxRecDepth 100000 in
theorem t8_add_L3 {X : z_Ct} (C : z_Cx S1 X RX8 cX8_add 3 1 none) {u : Unit × z_M} : ∀ (n : Nat) (v1 : Int32) (v2 : Int32) (σ : z_M), f8_add_L3 n v1 v2 σ = some u → z_W S1 X 3 [some (.ref (z_a X 96)), some (.int v1), some (.int v2)] [] σ (z_ov u) := by
  intro n
  induction n with
  | zero => intro v1 v2 σ h; rw [f8_add_L3] at h; cases h
  | succ n ih =>
    intro v1 v2 σ h
    rw [f8_add_L3] at h
    refine z_iload_n C dX8_add_3 rfl rfl ?_
    refine z_if_lt (tgt := 46) C dX8_add_4 (by decide) (fun hc => ?_) (fun hc => ?_)
    · replace h := z_pos hc h
      exact z_vret C h dX8_add_46
    · replace h := z_neg hc h
      refine z_aload_n C dX8_add_7 rfl rfl ?_
      refine z_geti (k := 1) C z_CF8 (by decide) flX8_25 rfl rfl dX8_add_8 ?_
      refine z_sipush (v := 400) C dX8_add_11 (by decide) ?_
      refine z_icmp_ge (tgt := 40) C dX8_add_14 (by decide) (fun hc => ?_) (fun hc => ?_)
      · replace h := z_neg hc h
        refine z_iinc (v := v2 + (-8)) (lo' := [some (.ref (z_a X 96)), some (.int v1), some (.int (v2 + (-8)))]) C dX8_add_40 rfl rfl rfl ?_
        refine z_goto (tgt := 3) C dX8_add_43 (by decide) ?_
        exact ih v1 (v2 + (-8)) σ h
      · replace h := z_pos hc h
        refine z_aload_n C dX8_add_17 rfl rfl ?_
        refine z_geta (k := 0) (q := 97) C z_CF8 (by decide) flX8_9 rfl rfl dX8_add_18 ?_
        refine z_aload_n C dX8_add_21 rfl rfl ?_
        refine z_geti (k := 1) C z_CF8 (by decide) flX8_25 rfl rfl dX8_add_22 ?_
        refine z_iload_n C dX8_add_25 rfl rfl ?_
        refine z_iload_n C dX8_add_26 rfl rfl ?_
        refine z_ishr C dX8_add_27 ?_
        refine z_i2b C dX8_add_28 ?_
        obtain ⟨b1, h⟩ := z_chk_some h
        obtain ⟨σ2, eσ2, h⟩ := z_let_some h
        refine z_bast C rfl rfl b1 eσ2 dX8_add_29 ?_
        refine z_aload_n C dX8_add_30 rfl rfl ?_
        refine z_dup C dX8_add_31 rfl ?_
        refine z_geti (k := 1) C z_CF8 (by decide) flX8_25 rfl rfl dX8_add_32 ?_
        refine z_iconst (v := 1) C dX8_add_35 (by decide) ?_
        refine z_iadd C dX8_add_36 ?_
        obtain ⟨σ3, eσ3, h⟩ := z_let_some h
        refine z_puti (k := 1) C z_CF8 (by decide) flX8_25 rfl rfl rfl rfl eσ3 dX8_add_37 ?_
        refine z_iinc (v := v2 + (-8)) (lo' := [some (.ref (z_a X 96)), some (.int v1), some (.int (v2 + (-8)))]) C dX8_add_40 rfl rfl rfl ?_
        refine z_goto (tgt := 3) C dX8_add_43 (by decide) ?_
        exact ih v1 (v2 + (-8)) σ3 h
set_option maxHeartbeats 4000000 in
set_option maxRecDepth 100000 in
theorem t8_add {a : Nat → Nat} (p1 : Int32) {σ : z_M} {u : Unit × z_M} (h : f8_add p1 σ = some u) : z_Mt yX8_add (z_w yX8_add cX8_add 3 none) 1 S1 a σ [.ref (a 96), .int p1] (z_ov u) := by
  refine z_head (lo := [some (.ref (a 96)), some (.int p1), none]) (by decide) (Nat.le_of_ble_eq_true rfl) ?_ rfl ?_
  · intro i v hv
    exact z_loe (vs := [.ref (a 96), .int p1]) (n := 1) rfl (by simp [z_c1i, z_c1r]) i v hv
  · intro X hXa C
    subst hXa
    unfold f8_add at h
    refine z_bipush (v := 24) C dX8_add_0 (by decide) ?_
    refine z_istore_n (lo' := [some (.ref (z_a X 96)), some (.int p1), some (.int 24)]) C dX8_add_2 rfl (Nat.le_of_ble_eq_true rfl) rfl ?_
    exact t8_add_L3 C _ p1 24 σ h
set_option maxHeartbeats 4000000 in
set_option maxRecDepth 100000 in
theorem t11_feed {a : Nat → Nat} (p1 : Int32) (p2 : Int32) (p3 : Int32) (p4 : Int32) (p5 : Int32) {σ : z_M} {u : Int32 × z_M} (h : f11_feed p1 p2 p3 p4 p5 σ = some u) : z_Mt yX11_feed (z_w yX11_feed cX11_feed 6 (some .int)) 2 S1 a σ [.ref (a 0), .int p1, .int p2, .int p3, .int p4, .int p5] (z_oi u) := by
  refine z_head (lo := [some (.ref (a 0)), some (.int p1), some (.int p2), some (.int p3), some (.int p4), some (.int p5)]) (by decide) (Nat.le_of_ble_eq_true rfl) ?_ rfl ?_
  · intro i v hv
    exact z_loe (vs := [.ref (a 0), .int p1, .int p2, .int p3, .int p4, .int p5]) (n := 0) rfl (by simp [z_c1i, z_c1r]) i v hv
  · intro X hXa C
    subst hXa
    unfold f11_feed at h
    refine z_aload_n C dX11_feed_0 rfl rfl ?_
    refine z_geta (k := 6) (q := 96) C z_CF11 (by decide) flX11_59 rfl rfl dX11_feed_1 ?_
    refine z_geti (k := 1) C z_CF8 (by decide) flX11_132 rfl rfl dX11_feed_4 ?_
    refine z_bipush (v := 20) C dX11_feed_7 (by decide) ?_
    refine z_iadd C dX11_feed_9 ?_
    refine z_sipush (v := 400) C dX11_feed_10 (by decide) ?_
    refine z_icmp_le (tgt := 18) C dX11_feed_13 (by decide) (fun hc => ?_) (fun hc => ?_)
    · replace h := z_neg hc h
      refine z_aload_n C dX11_feed_18 rfl rfl ?_
      refine z_geta (k := 6) (q := 96) C z_CF11 (by decide) flX11_59 rfl rfl dX11_feed_19 ?_
      refine z_iload_n C dX11_feed_22 rfl rfl ?_
      obtain ⟨⟨⟩, σ2, mσ2, h⟩ := z_bnd2 h
      refine z_cvv (As := [.int p1]) (c := 96) (st := []) C (t8_add p1 mσ2) kvX8_add rfl mlX11_135 z_CF8 rfl rfl (by decide) rfl (Nat.le_of_ble_eq_true rfl) dX11_feed_23 ?_
      refine z_aload_n C dX11_feed_26 rfl rfl ?_
      refine z_geta (k := 6) (q := 96) C z_CF11 (by decide) flX11_59 rfl rfl dX11_feed_27 ?_
      refine z_iload_n C dX11_feed_30 rfl rfl ?_
      obtain ⟨⟨⟩, σ4, mσ4, h⟩ := z_bnd2 h
      refine z_cvv (As := [.int p2]) (c := 96) (st := []) C (t8_add p2 mσ4) kvX8_add rfl mlX11_135 z_CF8 rfl rfl (by decide) rfl (Nat.le_of_ble_eq_true rfl) dX11_feed_31 ?_
      refine z_aload_n C dX11_feed_34 rfl rfl ?_
      refine z_geta (k := 6) (q := 96) C z_CF11 (by decide) flX11_59 rfl rfl dX11_feed_35 ?_
      refine z_iload_n C dX11_feed_38 rfl rfl ?_
      obtain ⟨⟨⟩, σ6, mσ6, h⟩ := z_bnd2 h
      refine z_cvv (As := [.int p3]) (c := 96) (st := []) C (t8_add p3 mσ6) kvX8_add rfl mlX11_135 z_CF8 rfl rfl (by decide) rfl (Nat.le_of_ble_eq_true rfl) dX11_feed_39 ?_
      refine z_aload_n C dX11_feed_42 rfl rfl ?_
      refine z_geta (k := 6) (q := 96) C z_CF11 (by decide) flX11_59 rfl rfl dX11_feed_43 ?_
      refine z_iload C dX11_feed_46 rfl ?_
      obtain ⟨⟨⟩, σ8, mσ8, h⟩ := z_bnd2 h
      refine z_cvv (As := [.int p4]) (c := 96) (st := []) C (t8_add p4 mσ8) kvX8_add rfl mlX11_135 z_CF8 rfl rfl (by decide) rfl (Nat.le_of_ble_eq_true rfl) dX11_feed_48 ?_
      refine z_aload_n C dX11_feed_51 rfl rfl ?_
      refine z_geta (k := 6) (q := 96) C z_CF11 (by decide) flX11_59 rfl rfl dX11_feed_52 ?_
      refine z_iload C dX11_feed_55 rfl ?_
      obtain ⟨⟨⟩, σ10, mσ10, h⟩ := z_bnd2 h
      refine z_cvv (As := [.int p5]) (c := 96) (st := []) C (t8_add p5 mσ10) kvX8_add rfl mlX11_135 z_CF8 rfl rfl (by decide) rfl (Nat.le_of_ble_eq_true rfl) dX11_feed_57 ?_
      refine z_aload_n C dX11_feed_60 rfl rfl ?_
      refine z_geta (k := 6) (q := 96) C z_CF11 (by decide) flX11_59 rfl rfl dX11_feed_61 ?_
      refine z_geti (k := 1) C z_CF8 (by decide) flX11_132 rfl rfl dX11_feed_64 ?_
      exact z_iret C h dX11_feed_67
    · replace h := z_pos hc h
      refine z_iconst (v := (-1)) C dX11_feed_16 (by decide) ?_
      exact z_iret C h dX11_feed_17
set_option maxHeartbeats 4000000 in
set_option maxRecDepth 100000 in
theorem t11_end {a : Nat → Nat} (p1 : Int32) {σ : z_M} {u : Int32 × z_M} (h : f11_end p1 σ = some u) : z_Mt yX11_end (z_w yX11_end cX11_end 2 (some .boolean)) 1 S1 a σ [.ref (a 0), .int p1] (z_oi u) := by
  refine z_head (lo := [some (.ref (a 0)), some (.int p1)]) (by decide) (Nat.le_of_ble_eq_true rfl) ?_ rfl ?_
  · intro i v hv
    exact z_loe (vs := [.ref (a 0), .int p1]) (n := 0) rfl (by simp [z_c1i, z_c1r]) i v hv
  · intro X hXa C
    subst hXa
    unfold f11_end at h
    refine z_iload_n C dX11_end_0 rfl rfl ?_
    refine z_if_lt (tgt := 15) C dX11_end_1 (by decide) (fun hc => ?_) (fun hc => ?_)
    · replace h := z_pos hc h
      refine z_iconst (v := 0) C dX11_end_15 (by decide) ?_
      exact z_zret C (by decide) h dX11_end_16
    · replace h := z_neg hc h
      refine z_iload_n C dX11_end_4 rfl rfl ?_
      refine z_aload_n C dX11_end_5 rfl rfl ?_
      refine z_geta (k := 6) (q := 96) C z_CF11 (by decide) flX11_59 rfl rfl dX11_end_6 ?_
      refine z_geti (k := 1) C z_CF8 (by decide) flX11_132 rfl rfl dX11_end_9 ?_
      refine z_icmp_le (tgt := 17) C dX11_end_12 (by decide) (fun hc => ?_) (fun hc => ?_)
      · replace h := z_neg hc h
        refine z_aload_n C dX11_end_17 rfl rfl ?_
        refine z_geta (k := 6) (q := 96) C z_CF11 (by decide) flX11_59 rfl rfl dX11_end_18 ?_
        refine z_iload_n C dX11_end_21 rfl rfl ?_
        obtain ⟨σ1, eσ1, h⟩ := z_let_some h
        refine z_puti (k := 1) C z_CF8 (by decide) flX11_132 rfl rfl rfl rfl eσ1 dX11_end_22 ?_
        refine z_iconst (v := 1) C dX11_end_25 (by decide) ?_
        exact z_zret C (by decide) h dX11_end_26
      · replace h := z_pos hc h
        refine z_iconst (v := 0) C dX11_end_15 (by decide) ?_
        exact z_zret C (by decide) h dX11_end_16
set_option maxHeartbeats 4000000 in
set_option maxRecDepth 100000 in
theorem t1_told {a : Nat → Nat} (c0 : Nat) (p1 : Int32) {σ : z_M} (hk0 : S1.1 c0 = 1) {u : Nat × z_M} (h : f1_told c0 p1 σ = some u) : z_Mt yX1_told (z_w yX1_told cX1_told 2 (some (.object "PlantedDoubts$Text"))) 1 S1 a σ [.ref (a c0), .int p1] (some (.ref (a u.1)), u.2) := by
  refine z_head (lo := [some (.ref (a c0)), some (.int p1)]) (by decide) (Nat.le_of_ble_eq_true rfl) ?_ rfl ?_
  · intro i v hv
    exact z_loe (vs := [.ref (a c0), .int p1]) (n := 0) rfl (by simp [z_c1i, z_c1r]) i v hv
  · intro X hXa C
    subst hXa
    unfold f1_told at h
    refine z_iload_n C dX1_told_0 rfl rfl ?_
    refine z_if_ne (tgt := 9) C dX1_told_1 (by decide) (fun hc => ?_) (fun hc => ?_)
    · replace h := z_neg hc h
      refine z_iload_n C dX1_told_9 rfl rfl ?_
      refine z_iconst (v := 1) C dX1_told_10 (by decide) ?_
      refine z_icmp_ne (tgt := 19) C dX1_told_11 (by decide) (fun hc => ?_) (fun hc => ?_)
      · replace h := z_neg hc h
        refine z_iload_n C dX1_told_19 rfl rfl ?_
        refine z_iconst (v := 2) C dX1_told_20 (by decide) ?_
        refine z_icmp_ne (tgt := 31) C dX1_told_21 (by decide) (fun hc => ?_) (fun hc => ?_)
        · replace h := z_neg hc h
          refine z_aload_n C dX1_told_31 rfl rfl ?_
          refine z_geta (k := 9) (q := (c0 + 12)) C z_CF1 (by decide) flX1_37 hk0 (sh1_r9 hk0) dX1_told_32 ?_
          exact z_aret C h dX1_told_35
        · replace h := z_pos hc h
          refine z_aload_n C dX1_told_24 rfl rfl ?_
          refine z_geta (k := 8) (q := (c0 + 9)) C z_CF1 (by decide) flX1_34 hk0 (sh1_r8 hk0) dX1_told_25 ?_
          refine z_goto (tgt := 35) C dX1_told_28 (by decide) ?_
          exact z_aret C h dX1_told_35
      · replace h := z_pos hc h
        refine z_aload_n C dX1_told_14 rfl rfl ?_
        refine z_geta (k := 7) (q := (c0 + 6)) C z_CF1 (by decide) flX1_31 hk0 (sh1_r7 hk0) dX1_told_15 ?_
        exact z_aret C h dX1_told_18
    · replace h := z_pos hc h
      refine z_aload_n C dX1_told_4 rfl rfl ?_
      refine z_geta (k := 6) (q := (c0 + 3)) C z_CF1 (by decide) flX1_27 hk0 (sh1_r6 hk0) dX1_told_5 ?_
      exact z_aret C h dX1_told_8
theorem hk_told {p : Int32} {σ : z_M} {r : Nat} {σ' : z_M} (h : f1_told 1 p σ = some (r, σ')) : S1.1 r = 9 := by
  unfold f1_told at h
  split at h
  · cases h; rfl
  · split at h
    · cases h; rfl
    · split at h
      · cases h; rfl
      · cases h; rfl
set_option maxHeartbeats 4000000 in
set_option maxRecDepth 100000 in
theorem t3_kind {a : Nat → Nat} {σ : z_M} {u : Int32 × z_M} (h : f3_kind σ = some u) : z_Mt yX3_kind (z_w yX3_kind cX3_kind 1 (some .int)) 1 S1 a σ [.ref (a 101)] (z_oi u) := by
  refine z_head (lo := [some (.ref (a 101))]) (by decide) (Nat.le_of_ble_eq_true rfl) ?_ rfl ?_
  · intro i v hv
    exact z_loe (vs := [.ref (a 101)]) (n := 0) rfl (by simp [z_c1i, z_c1r]) i v hv
  · intro X hXa C
    subst hXa
    unfold f3_kind at h
    refine z_aload_n C dX3_kind_0 rfl rfl ?_
    refine z_geti (k := 4) C z_CF3 (by decide) flX3_41 rfl rfl dX3_kind_1 ?_
    refine z_sipush (v := 400) C dX3_kind_4 (by decide) ?_
    refine z_icmp_gt (tgt := 25) C dX3_kind_7 (by decide) (fun hc => ?_) (fun hc => ?_)
    · replace h := z_pos hc h
      refine z_bipush (v := 43) C dX3_kind_25 (by decide) ?_
      exact z_iret C h dX3_kind_27
    · replace h := z_neg hc h
      refine z_aload_n C dX3_kind_10 rfl rfl ?_
      refine z_geta (k := 0) (q := 96) C z_CF3 (by decide) flX3_28 rfl rfl dX3_kind_11 ?_
      refine z_geta (k := 2) (q := 98) C z_CF8 (by decide) flX3_134 rfl rfl dX3_kind_14 ?_
      refine z_aload_n C dX3_kind_17 rfl rfl ?_
      refine z_geti (k := 4) C z_CF3 (by decide) flX3_41 rfl rfl dX3_kind_18 ?_
      obtain ⟨b1, h⟩ := z_chk_some h
      refine z_iald C rfl rfl b1 dX3_kind_21 ?_
      refine z_goto (tgt := 27) C dX3_kind_22 (by decide) ?_
      exact z_iret C h dX3_kind_27
set_option maxHeartbeats 4000000 in
set_option maxRecDepth 100000 in
theorem t3_fail {a : Nat → Nat} (p1 : Int32) (p2 : Int32) {σ : z_M} {u : Unit × z_M} (h : f3_fail p1 p2 σ = some u) : z_Mt yX3_fail (z_w yX3_fail cX3_fail 3 none) 1 S1 a σ [.ref (a 101), .int p1, .int p2] (z_ov u) := by
  refine z_head (lo := [some (.ref (a 101)), some (.int p1), some (.int p2)]) (by decide) (Nat.le_of_ble_eq_true rfl) ?_ rfl ?_
  · intro i v hv
    exact z_loe (vs := [.ref (a 101), .int p1, .int p2]) (n := 0) rfl (by simp [z_c1i, z_c1r]) i v hv
  · intro X hXa C
    subst hXa
    unfold f3_fail at h
    refine z_aload_n C dX3_fail_0 rfl rfl ?_
    refine z_geti (k := 2) C z_CF3 (by decide) flX3_32 rfl rfl dX3_fail_1 ?_
    refine z_if_ne (tgt := 25) C dX3_fail_4 (by decide) (fun hc => ?_) (fun hc => ?_)
    · replace h := z_neg hc h
      exact z_vret C h dX3_fail_25
    · replace h := z_pos hc h
      refine z_aload_n C dX3_fail_7 rfl rfl ?_
      refine z_iload_n C dX3_fail_8 rfl rfl ?_
      obtain ⟨σ1, eσ1, h⟩ := z_let_some h
      refine z_puti (k := 2) C z_CF3 (by decide) flX3_32 rfl rfl rfl rfl eσ1 dX3_fail_9 ?_
      refine z_aload_n C dX3_fail_12 rfl rfl ?_
      refine z_aload_n C dX3_fail_13 rfl rfl ?_
      refine z_geta (k := 0) (q := 96) C z_CF3 (by decide) flX3_28 rfl rfl dX3_fail_14 ?_
      refine z_geta (k := 4) (q := 100) C z_CF8 (by decide) flX3_136 rfl rfl dX3_fail_17 ?_
      refine z_iload_n C dX3_fail_20 rfl rfl ?_
      obtain ⟨b2, h⟩ := z_chk_some h
      refine z_iald C rfl rfl b2 dX3_fail_21 ?_
      obtain ⟨σ3, eσ3, h⟩ := z_let_some h
      refine z_puti (k := 3) C z_CF3 (by decide) flX3_20 rfl rfl rfl rfl eσ3 dX3_fail_22 ?_
      exact z_vret C h dX3_fail_25
set_option maxHeartbeats 4000000 in
set_option maxRecDepth 100000 in
theorem t3_begins {a : Nat → Nat} (p1 : Int32) {σ : z_M} {u : Unit × z_M} (h : f3_begins p1 σ = some u) : z_Mt yX3_begins (z_w yX3_begins cX3_begins 2 none) 2 S1 a σ [.ref (a 101), .int p1] (z_ov u) := by
  refine z_head (lo := [some (.ref (a 101)), some (.int p1)]) (by decide) (Nat.le_of_ble_eq_true rfl) ?_ rfl ?_
  · intro i v hv
    exact z_loe (vs := [.ref (a 101), .int p1]) (n := 0) rfl (by simp [z_c1i, z_c1r]) i v hv
  · intro X hXa C
    subst hXa
    unfold f3_begins at h
    refine z_iload_n C dX3_begins_0 rfl rfl ?_
    refine z_if_ne (tgt := 16) C dX3_begins_1 (by decide) (fun hc => ?_) (fun hc => ?_)
    · replace h := z_neg hc h
      refine z_aload_n C dX3_begins_16 rfl rfl ?_
      refine z_geta (k := 1) (q := 102) C z_CF3 (by decide) flX3_14 rfl rfl dX3_begins_17 ?_
      refine z_geti (k := 2) C z_CF9 (by decide) flX3_72 rfl rfl dX3_begins_20 ?_
      refine z_aload_n C dX3_begins_23 rfl rfl ?_
      refine z_geti (k := 6) C z_CF3 (by decide) flX3_38 rfl rfl dX3_begins_24 ?_
      refine z_icmp_lt (tgt := 42) C dX3_begins_27 (by decide) (fun hc => ?_) (fun hc => ?_)
      · replace h := z_pos hc h
        refine z_aload_n C dX3_begins_42 rfl rfl ?_
        refine z_dup C dX3_begins_43 rfl ?_
        refine z_geti (k := 4) C z_CF3 (by decide) flX3_41 rfl rfl dX3_begins_44 ?_
        refine z_iconst (v := 1) C dX3_begins_47 (by decide) ?_
        refine z_iadd C dX3_begins_48 ?_
        obtain ⟨σ1, eσ1, h⟩ := z_let_some h
        refine z_puti (k := 4) C z_CF3 (by decide) flX3_41 rfl rfl rfl rfl eσ1 dX3_begins_49 ?_
        exact z_vret C h dX3_begins_52
      · replace h := z_neg hc h
        refine z_aload_n C dX3_begins_30 rfl rfl ?_
        refine z_iconst (v := 3) C dX3_begins_31 (by decide) ?_
        refine z_aload_n C dX3_begins_32 rfl rfl ?_
        refine z_geti (k := 4) C z_CF3 (by decide) flX3_41 rfl rfl dX3_begins_33 ?_
        obtain ⟨⟨⟩, σ3, mσ3, h⟩ := z_bnd2 h
        refine z_cvv (As := [.int 3, .int (σ 101 4)]) (c := 101) (st := []) C (t3_fail 3 (σ 101 4) mσ3) kvX3_fail rfl mlX3_75 z_CF3 rfl rfl (by decide) rfl (Nat.le_of_ble_eq_true rfl) dX3_begins_36 ?_
        refine z_goto (tgt := 52) C dX3_begins_39 (by decide) ?_
        exact z_vret C h dX3_begins_52
    · replace h := z_pos hc h
      refine z_aload_n C dX3_begins_4 rfl rfl ?_
      refine z_iconst (v := 1) C dX3_begins_5 (by decide) ?_
      refine z_aload_n C dX3_begins_6 rfl rfl ?_
      refine z_geti (k := 4) C z_CF3 (by decide) flX3_41 rfl rfl dX3_begins_7 ?_
      obtain ⟨⟨⟩, σ5, mσ5, h⟩ := z_bnd2 h
      refine z_cvv (As := [.int 1, .int (σ 101 4)]) (c := 101) (st := []) C (t3_fail 1 (σ 101 4) mσ5) kvX3_fail rfl mlX3_75 z_CF3 rfl rfl (by decide) rfl (Nat.le_of_ble_eq_true rfl) dX3_begins_10 ?_
      refine z_goto (tgt := 52) C dX3_begins_13 (by decide) ?_
      exact z_vret C h dX3_begins_52
set_option maxHeartbeats 4000000 in
set_option maxRecDepth 100000 in
theorem t3_takes {a : Nat → Nat} (p1 : Int32) {σ : z_M} {u : Unit × z_M} (h : f3_takes p1 σ = some u) : z_Mt yX3_takes (z_w yX3_takes cX3_takes 2 none) 2 S1 a σ [.ref (a 101), .int p1] (z_ov u) := by
  refine z_head (lo := [some (.ref (a 101)), some (.int p1)]) (by decide) (Nat.le_of_ble_eq_true rfl) ?_ rfl ?_
  · intro i v hv
    exact z_loe (vs := [.ref (a 101), .int p1]) (n := 0) rfl (by simp [z_c1i, z_c1r]) i v hv
  · intro X hXa C
    subst hXa
    unfold f3_takes at h
    refine z_aload_n C dX3_takes_0 rfl rfl ?_
    refine z_geti (k := 2) C z_CF3 (by decide) flX3_32 rfl rfl dX3_takes_1 ?_
    refine z_if_eq (tgt := 8) C dX3_takes_4 (by decide) (fun hc => ?_) (fun hc => ?_)
    · replace h := z_pos hc h
      refine z_aload_n C dX3_takes_8 rfl rfl ?_
      obtain ⟨r1, σ2, mσ2, h⟩ := z_bnd2 h
      refine z_cvi (As := []) (c := 101) (st := []) C (t3_kind mσ2) kvX3_kind rfl mlX3_52 z_CF3 rfl rfl (by decide) rfl (Nat.le_of_ble_eq_true rfl) dX3_takes_9 ?_
      refine z_iload_n C dX3_takes_12 rfl rfl ?_
      refine z_icmp_ne (tgt := 29) C dX3_takes_13 (by decide) (fun hc => ?_) (fun hc => ?_)
      · replace h := z_neg hc h
        refine z_aload_n C dX3_takes_29 rfl rfl ?_
        refine z_iconst (v := 1) C dX3_takes_30 (by decide) ?_
        refine z_aload_n C dX3_takes_31 rfl rfl ?_
        refine z_geti (k := 4) C z_CF3 (by decide) flX3_41 rfl rfl dX3_takes_32 ?_
        obtain ⟨⟨⟩, σ4, mσ4, h⟩ := z_bnd2 h
        refine z_cvv (As := [.int 1, .int (σ2 101 4)]) (c := 101) (st := []) C (t3_fail 1 (σ2 101 4) mσ4) kvX3_fail rfl mlX3_75 z_CF3 rfl rfl (by decide) rfl (Nat.le_of_ble_eq_true rfl) dX3_takes_35 ?_
        exact z_vret C h dX3_takes_38
      · replace h := z_pos hc h
        refine z_aload_n C dX3_takes_16 rfl rfl ?_
        refine z_dup C dX3_takes_17 rfl ?_
        refine z_geti (k := 4) C z_CF3 (by decide) flX3_41 rfl rfl dX3_takes_18 ?_
        refine z_iconst (v := 1) C dX3_takes_21 (by decide) ?_
        refine z_iadd C dX3_takes_22 ?_
        obtain ⟨σ5, eσ5, h⟩ := z_let_some h
        refine z_puti (k := 4) C z_CF3 (by decide) flX3_41 rfl rfl rfl rfl eσ5 dX3_takes_23 ?_
        refine z_goto (tgt := 38) C dX3_takes_26 (by decide) ?_
        exact z_vret C h dX3_takes_38
    · replace h := z_neg hc h
      exact z_vret C h dX3_takes_7
set_option maxHeartbeats 4000000 in
set_option maxRecDepth 100000 in
theorem t9_add {a : Nat → Nat} (c0 : Nat) (p1 : Int32) (p2 : Int32) (p3 : Int32) (p4 : Int32) (p5 : Int32) {σ : z_M} (hk0 : S1.1 c0 = 9) {u : Unit × z_M} (h : f9_add c0 p1 p2 p3 p4 p5 σ = some u) : z_Mt yX9_add (z_w yX9_add cX9_add 7 none) 1 S1 a σ [.ref (a c0), .int p1, .int p2, .int p3, .int p4, .int p5] (z_ov u) := by
  refine z_head (lo := [some (.ref (a c0)), some (.int p1), some (.int p2), some (.int p3), some (.int p4), some (.int p5), none]) (by decide) (Nat.le_of_ble_eq_true rfl) ?_ rfl ?_
  · intro i v hv
    exact z_loe (vs := [.ref (a c0), .int p1, .int p2, .int p3, .int p4, .int p5]) (n := 1) rfl (by simp [z_c1i, z_c1r]) i v hv
  · intro X hXa C
    subst hXa
    unfold f9_add at h
    refine z_aload_n C dX9_add_0 rfl rfl ?_
    refine z_geti (k := 2) C z_CF9 (by decide) flX9_16 hk0 (sh9_n2 hk0) dX9_add_1 ?_
    refine z_iconst (v := 5) C dX9_add_4 (by decide) ?_
    refine z_imul C dX9_add_5 ?_
    refine z_istore (lo' := [some (.ref (z_a X c0)), some (.int p1), some (.int p2), some (.int p3), some (.int p4), some (.int p5), some (.int ((σ c0 2) * 5))]) C dX9_add_6 (Nat.le_of_ble_eq_true rfl) rfl ?_
    refine z_iload C dX9_add_8 rfl ?_
    refine z_iconst (v := 5) C dX9_add_10 (by decide) ?_
    refine z_iadd C dX9_add_11 ?_
    refine z_aload_n C dX9_add_12 rfl rfl ?_
    refine z_geta (k := 0) (q := (c0 + 1)) C z_CF9 (by decide) flX9_9 hk0 (sh9_r0 hk0) dX9_add_13 ?_
    refine z_alen (v := Int32.ofNat (S1.2.1 (c0 + 1))) C (sh9_k0 hk0) rfl rfl dX9_add_16 ?_
    refine z_icmp_le (tgt := 21) C dX9_add_17 (by decide) (fun hc => ?_) (fun hc => ?_)
    · replace h := z_neg hc h
      refine z_aload_n C dX9_add_21 rfl rfl ?_
      refine z_geta (k := 0) (q := (c0 + 1)) C z_CF9 (by decide) flX9_9 hk0 (sh9_r0 hk0) dX9_add_22 ?_
      refine z_iload C dX9_add_25 rfl ?_
      refine z_iload_n C dX9_add_27 rfl rfl ?_
      obtain ⟨b1, h⟩ := z_chk_some h
      obtain ⟨σ2, eσ2, h⟩ := z_let_some h
      refine z_iast C (sh9_k0 hk0) rfl b1 eσ2 dX9_add_28 ?_
      refine z_aload_n C dX9_add_29 rfl rfl ?_
      refine z_geta (k := 0) (q := (c0 + 1)) C z_CF9 (by decide) flX9_9 hk0 (sh9_r0 hk0) dX9_add_30 ?_
      refine z_iload C dX9_add_33 rfl ?_
      refine z_iconst (v := 1) C dX9_add_35 (by decide) ?_
      refine z_iadd C dX9_add_36 ?_
      refine z_iload_n C dX9_add_37 rfl rfl ?_
      obtain ⟨b3, h⟩ := z_chk_some h
      obtain ⟨σ4, eσ4, h⟩ := z_let_some h
      refine z_iast C (sh9_k0 hk0) rfl b3 eσ4 dX9_add_38 ?_
      refine z_aload_n C dX9_add_39 rfl rfl ?_
      refine z_geta (k := 0) (q := (c0 + 1)) C z_CF9 (by decide) flX9_9 hk0 (sh9_r0 hk0) dX9_add_40 ?_
      refine z_iload C dX9_add_43 rfl ?_
      refine z_iconst (v := 2) C dX9_add_45 (by decide) ?_
      refine z_iadd C dX9_add_46 ?_
      refine z_iload_n C dX9_add_47 rfl rfl ?_
      obtain ⟨b5, h⟩ := z_chk_some h
      obtain ⟨σ6, eσ6, h⟩ := z_let_some h
      refine z_iast C (sh9_k0 hk0) rfl b5 eσ6 dX9_add_48 ?_
      refine z_aload_n C dX9_add_49 rfl rfl ?_
      refine z_geta (k := 0) (q := (c0 + 1)) C z_CF9 (by decide) flX9_9 hk0 (sh9_r0 hk0) dX9_add_50 ?_
      refine z_iload C dX9_add_53 rfl ?_
      refine z_iconst (v := 3) C dX9_add_55 (by decide) ?_
      refine z_iadd C dX9_add_56 ?_
      refine z_iload C dX9_add_57 rfl ?_
      obtain ⟨b7, h⟩ := z_chk_some h
      obtain ⟨σ8, eσ8, h⟩ := z_let_some h
      refine z_iast C (sh9_k0 hk0) rfl b7 eσ8 dX9_add_59 ?_
      refine z_aload_n C dX9_add_60 rfl rfl ?_
      refine z_geta (k := 0) (q := (c0 + 1)) C z_CF9 (by decide) flX9_9 hk0 (sh9_r0 hk0) dX9_add_61 ?_
      refine z_iload C dX9_add_64 rfl ?_
      refine z_iconst (v := 4) C dX9_add_66 (by decide) ?_
      refine z_iadd C dX9_add_67 ?_
      refine z_iload C dX9_add_68 rfl ?_
      obtain ⟨b9, h⟩ := z_chk_some h
      obtain ⟨σ10, eσ10, h⟩ := z_let_some h
      refine z_iast C (sh9_k0 hk0) rfl b9 eσ10 dX9_add_70 ?_
      refine z_aload_n C dX9_add_71 rfl rfl ?_
      refine z_dup C dX9_add_72 rfl ?_
      refine z_geti (k := 2) C z_CF9 (by decide) flX9_16 hk0 (sh9_n2 hk0) dX9_add_73 ?_
      refine z_iconst (v := 1) C dX9_add_76 (by decide) ?_
      refine z_iadd C dX9_add_77 ?_
      obtain ⟨σ11, eσ11, h⟩ := z_let_some h
      refine z_puti (k := 2) C z_CF9 (by decide) flX9_16 rfl rfl hk0 (sh9_n2 hk0) eσ11 dX9_add_78 ?_
      exact z_vret C h dX9_add_81
    · replace h := z_pos hc h
      exact z_vret C h dX9_add_20
set_option maxHeartbeats 4000000 in
set_option maxRecDepth 100000 in
theorem t3_finish {a : Nat → Nat} (p1 : Int32) (p2 : Int32) (p3 : Int32) (p4 : Int32) (p5 : Int32) {σ : z_M} {u : Unit × z_M} (h : f3_finish p1 p2 p3 p4 p5 σ = some u) : z_Mt yX3_finish (z_w yX3_finish cX3_finish 6 none) 3 S1 a σ [.ref (a 101), .int p1, .int p2, .int p3, .int p4, .int p5] (z_ov u) := by
  refine z_head (lo := [some (.ref (a 101)), some (.int p1), some (.int p2), some (.int p3), some (.int p4), some (.int p5)]) (by decide) (Nat.le_of_ble_eq_true rfl) ?_ rfl ?_
  · intro i v hv
    exact z_loe (vs := [.ref (a 101), .int p1, .int p2, .int p3, .int p4, .int p5]) (n := 0) rfl (by simp [z_c1i, z_c1r]) i v hv
  · intro X hXa C
    subst hXa
    unfold f3_finish at h
    refine z_aload_n C dX3_finish_0 rfl rfl ?_
    refine z_bipush (v := 32) C dX3_finish_1 (by decide) ?_
    obtain ⟨⟨⟩, σ2, mσ2, h⟩ := z_bnd2 h
    refine z_cvv (As := [.int 32]) (c := 101) (st := []) C (t3_takes 32 mσ2) kvX3_takes rfl mlX3_86 z_CF3 rfl rfl (by decide) rfl (Nat.le_of_ble_eq_true rfl) dX3_finish_3 ?_
    refine z_aload_n C dX3_finish_6 rfl rfl ?_
    refine z_geti (k := 2) C z_CF3 (by decide) flX3_32 rfl rfl dX3_finish_7 ?_
    refine z_if_ne (tgt := 27) C dX3_finish_10 (by decide) (fun hc => ?_) (fun hc => ?_)
    · replace h := z_neg hc h
      exact z_vret C h dX3_finish_27
    · replace h := z_pos hc h
      refine z_aload_n C dX3_finish_13 rfl rfl ?_
      refine z_geta (k := 1) (q := 102) C z_CF3 (by decide) flX3_14 rfl rfl dX3_finish_14 ?_
      refine z_iload_n C dX3_finish_17 rfl rfl ?_
      refine z_iload_n C dX3_finish_18 rfl rfl ?_
      refine z_iload_n C dX3_finish_19 rfl rfl ?_
      refine z_iload C dX3_finish_20 rfl ?_
      refine z_iload C dX3_finish_22 rfl ?_
      obtain ⟨⟨⟩, σ4, mσ4, h⟩ := z_bnd2 h
      refine z_cvv (As := [.int p1, .int p2, .int p3, .int p4, .int p5]) (c := 102) (st := []) C (t9_add 102 p1 p2 p3 p4 p5 rfl mσ4) kvX9_add rfl mlX3_103 z_CF9 rfl rfl (by decide) rfl (Nat.le_of_ble_eq_true rfl) dX3_finish_24 ?_
      exact z_vret C h dX3_finish_27
set_option maxHeartbeats 4000000 in
set_option maxRecDepth 100000 in
theorem t9_emit {a : Nat → Nat} (c0 : Nat) (p1 : Int32) {σ : z_M} (hk0 : S1.1 c0 = 9) {u : Unit × z_M} (h : f9_emit c0 p1 σ = some u) : z_Mt yX9_emit (z_w yX9_emit cX9_emit 2 none) 1 S1 a σ [.ref (a c0), .int p1] (z_ov u) := by
  refine z_head (lo := [some (.ref (a c0)), some (.int p1)]) (by decide) (Nat.le_of_ble_eq_true rfl) ?_ rfl ?_
  · intro i v hv
    exact z_loe (vs := [.ref (a c0), .int p1]) (n := 0) rfl (by simp [z_c1i, z_c1r]) i v hv
  · intro X hXa C
    subst hXa
    unfold f9_emit at h
    refine z_aload_n C dX9_emit_0 rfl rfl ?_
    refine z_geti (k := 3) C z_CF9 (by decide) flX9_20 hk0 (sh9_n3 hk0) dX9_emit_1 ?_
    refine z_aload_n C dX9_emit_4 rfl rfl ?_
    refine z_geta (k := 1) (q := (c0 + 2)) C z_CF9 (by decide) flX9_13 hk0 (sh9_r1 hk0) dX9_emit_5 ?_
    refine z_alen (v := Int32.ofNat (S1.2.1 (c0 + 2))) C (sh9_k1 hk0) rfl rfl dX9_emit_8 ?_
    refine z_icmp_ge (tgt := 32) C dX9_emit_9 (by decide) (fun hc => ?_) (fun hc => ?_)
    · replace h := z_neg hc h
      exact z_vret C h dX9_emit_32
    · replace h := z_pos hc h
      refine z_aload_n C dX9_emit_12 rfl rfl ?_
      refine z_geta (k := 1) (q := (c0 + 2)) C z_CF9 (by decide) flX9_13 hk0 (sh9_r1 hk0) dX9_emit_13 ?_
      refine z_aload_n C dX9_emit_16 rfl rfl ?_
      refine z_geti (k := 3) C z_CF9 (by decide) flX9_20 hk0 (sh9_n3 hk0) dX9_emit_17 ?_
      refine z_iload_n C dX9_emit_20 rfl rfl ?_
      obtain ⟨b1, h⟩ := z_chk_some h
      obtain ⟨σ2, eσ2, h⟩ := z_let_some h
      refine z_iast C (sh9_k1 hk0) rfl b1 eσ2 dX9_emit_21 ?_
      refine z_aload_n C dX9_emit_22 rfl rfl ?_
      refine z_dup C dX9_emit_23 rfl ?_
      refine z_geti (k := 3) C z_CF9 (by decide) flX9_20 hk0 (sh9_n3 hk0) dX9_emit_24 ?_
      refine z_iconst (v := 1) C dX9_emit_27 (by decide) ?_
      refine z_iadd C dX9_emit_28 ?_
      obtain ⟨σ3, eσ3, h⟩ := z_let_some h
      refine z_puti (k := 3) C z_CF9 (by decide) flX9_20 rfl rfl hk0 (sh9_n3 hk0) eσ3 dX9_emit_29 ?_
      exact z_vret C h dX9_emit_32
set_option maxHeartbeats 4000000 in
set_option maxRecDepth 100000 in
theorem t3_settle_J72 {X : z_Ct} (C : z_Cx S1 X RX3 cX3_settle 2 2 none) {u : Unit × z_M} {k0 : Int32 → z_M → Option (Unit × z_M)} (hr0 : ∀ (v1 : Int32) (σ : z_M), k0 v1 σ = some u → z_W S1 X 0 [some (.ref (z_a X 101)), some (.int v1)] [] σ (z_ov u)) (v1 : Int32) (σ : z_M) (h : f3_settle_J72 k0 v1 σ = some u) : z_W S1 X 72 [some (.ref (z_a X 101)), some (.int v1)] [] σ (z_ov u) := by
  unfold f3_settle_J72 at h
  refine z_aload_n C dX3_settle_72 rfl rfl ?_
  refine z_geta (k := 1) (q := 102) C z_CF3 (by decide) flX3_14 rfl rfl dX3_settle_73 ?_
  refine z_aload_n C dX3_settle_76 rfl rfl ?_
  refine z_geta (k := 7) (q := 105) C z_CF3 (by decide) flX3_24 rfl rfl dX3_settle_77 ?_
  refine z_aload_n C dX3_settle_80 rfl rfl ?_
  refine z_geti (k := 8) C z_CF3 (by decide) flX3_106 rfl rfl dX3_settle_81 ?_
  obtain ⟨b1, h⟩ := z_chk_some h
  refine z_iald C rfl rfl b1 dX3_settle_84 ?_
  obtain ⟨⟨⟩, σ3, mσ3, h⟩ := z_bnd2 h
  refine z_cvv (As := [.int (σ 105 (z_ix (σ 101 8)))]) (c := 102) (st := []) C (t9_emit 102 (σ 105 (z_ix (σ 101 8))) rfl mσ3) kvX9_emit rfl mlX3_115 z_CF9 rfl rfl (by decide) rfl (Nat.le_of_ble_eq_true rfl) dX3_settle_85 ?_
  refine z_goto (tgt := 0) C dX3_settle_88 (by decide) ?_
  exact hr0 v1 σ3 h
set_option maxHeartbeats 4000000 in
set_option maxRecDepth 100000 in
theorem t3_settle_L0 {X : z_Ct} (C : z_Cx S1 X RX3 cX3_settle 2 2 none) {u : Unit × z_M} : ∀ (n : Nat) (v1 : Int32) (σ : z_M), f3_settle_L0 n v1 σ = some u → z_W S1 X 0 [some (.ref (z_a X 101)), some (.int v1)] [] σ (z_ov u) := by
  intro n
  induction n with
  | zero => intro v1 σ h; rw [f3_settle_L0] at h; cases h
  | succ n ih =>
    intro v1 σ h
    rw [f3_settle_L0] at h
    refine z_aload_n C dX3_settle_0 rfl rfl ?_
    refine z_geti (k := 8) C z_CF3 (by decide) flX3_106 rfl rfl dX3_settle_1 ?_
    refine z_if_le (tgt := 91) C dX3_settle_4 (by decide) (fun hc => ?_) (fun hc => ?_)
    · replace h := z_neg hc h
      exact z_vret C h dX3_settle_91
    · replace h := z_pos hc h
      refine z_aload_n C dX3_settle_7 rfl rfl ?_
      refine z_geta (k := 7) (q := 105) C z_CF3 (by decide) flX3_24 rfl rfl dX3_settle_8 ?_
      refine z_aload_n C dX3_settle_11 rfl rfl ?_
      refine z_geti (k := 8) C z_CF3 (by decide) flX3_106 rfl rfl dX3_settle_12 ?_
      refine z_iconst (v := 1) C dX3_settle_15 (by decide) ?_
      refine z_isub C dX3_settle_16 ?_
      obtain ⟨b1, h⟩ := z_chk_some h
      refine z_iald C rfl rfl b1 dX3_settle_17 ?_
      refine z_bipush (v := 37) C dX3_settle_18 (by decide) ?_
      refine z_icmp_eq (tgt := 91) C dX3_settle_20 (by decide) (fun hc => ?_) (fun hc => ?_)
      · replace h := z_pos hc h
        exact z_vret C h dX3_settle_91
      · replace h := z_neg hc h
        refine z_aload_n C dX3_settle_23 rfl rfl ?_
        refine z_geta (k := 7) (q := 105) C z_CF3 (by decide) flX3_24 rfl rfl dX3_settle_24 ?_
        refine z_aload_n C dX3_settle_27 rfl rfl ?_
        refine z_geti (k := 8) C z_CF3 (by decide) flX3_106 rfl rfl dX3_settle_28 ?_
        refine z_iconst (v := 1) C dX3_settle_31 (by decide) ?_
        refine z_isub C dX3_settle_32 ?_
        obtain ⟨b2, h⟩ := z_chk_some h
        refine z_iald C rfl rfl b2 dX3_settle_33 ?_
        refine z_iload_n C dX3_settle_34 rfl rfl ?_
        refine z_icmp_lt (tgt := 91) C dX3_settle_35 (by decide) (fun hc => ?_) (fun hc => ?_)
        · replace h := z_pos hc h
          exact z_vret C h dX3_settle_91
        · replace h := z_neg hc h
          refine z_aload_n C dX3_settle_38 rfl rfl ?_
          refine z_dup C dX3_settle_39 rfl ?_
          refine z_geti (k := 8) C z_CF3 (by decide) flX3_106 rfl rfl dX3_settle_40 ?_
          refine z_iconst (v := 1) C dX3_settle_43 (by decide) ?_
          refine z_isub C dX3_settle_44 ?_
          obtain ⟨σ3, eσ3, h⟩ := z_let_some h
          refine z_puti (k := 8) C z_CF3 (by decide) flX3_106 rfl rfl rfl rfl eσ3 dX3_settle_45 ?_
          refine z_aload_n C dX3_settle_48 rfl rfl ?_
          refine z_geta (k := 7) (q := 105) C z_CF3 (by decide) flX3_24 rfl rfl dX3_settle_49 ?_
          refine z_aload_n C dX3_settle_52 rfl rfl ?_
          refine z_geti (k := 8) C z_CF3 (by decide) flX3_106 rfl rfl dX3_settle_53 ?_
          obtain ⟨b4, h⟩ := z_chk_some h
          refine z_iald C rfl rfl b4 dX3_settle_56 ?_
          refine z_bipush (v := 14) C dX3_settle_57 (by decide) ?_
          refine z_icmp_ne (tgt := 72) C dX3_settle_59 (by decide) (fun hc => ?_) (fun hc => ?_)
          · replace h := z_neg hc h
            exact t3_settle_J72 C ih v1 σ3 h
          · replace h := z_pos hc h
            refine z_aload_n C dX3_settle_62 rfl rfl ?_
            refine z_dup C dX3_settle_63 rfl ?_
            refine z_geti (k := 9) C z_CF3 (by decide) flX3_109 rfl rfl dX3_settle_64 ?_
            refine z_iconst (v := 1) C dX3_settle_67 (by decide) ?_
            refine z_isub C dX3_settle_68 ?_
            obtain ⟨σ5, eσ5, h⟩ := z_let_some h
            refine z_puti (k := 9) C z_CF3 (by decide) flX3_109 rfl rfl rfl rfl eσ5 dX3_settle_69 ?_
            exact t3_settle_J72 C ih v1 σ5 h
set_option maxHeartbeats 4000000 in
set_option maxRecDepth 100000 in
theorem t3_settle {a : Nat → Nat} (p1 : Int32) {σ : z_M} {u : Unit × z_M} (h : f3_settle p1 σ = some u) : z_Mt yX3_settle (z_w yX3_settle cX3_settle 2 none) 2 S1 a σ [.ref (a 101), .int p1] (z_ov u) := by
  refine z_head (lo := [some (.ref (a 101)), some (.int p1)]) (by decide) (Nat.le_of_ble_eq_true rfl) ?_ rfl ?_
  · intro i v hv
    exact z_loe (vs := [.ref (a 101), .int p1]) (n := 0) rfl (by simp [z_c1i, z_c1r]) i v hv
  · intro X hXa C
    subst hXa
    unfold f3_settle at h
    exact t3_settle_L0 C _ p1 σ h
set_option maxHeartbeats 4000000 in
set_option maxRecDepth 100000 in
theorem t3_waits_J35 {X : z_Ct} (C : z_Cx S1 X RX3 cX3_waits 1 2 none) {u : Unit × z_M} (σ : z_M) (h : f3_waits_J35 σ = some u) : z_W S1 X 35 [some (.ref (z_a X 101))] [] σ (z_ov u) := by
  unfold f3_waits_J35 at h
  refine z_aload_n C dX3_waits_35 rfl rfl ?_
  refine z_dup C dX3_waits_36 rfl ?_
  refine z_geti (k := 4) C z_CF3 (by decide) flX3_41 rfl rfl dX3_waits_37 ?_
  refine z_iconst (v := 1) C dX3_waits_40 (by decide) ?_
  refine z_iadd C dX3_waits_41 ?_
  obtain ⟨σ1, eσ1, h⟩ := z_let_some h
  refine z_puti (k := 4) C z_CF3 (by decide) flX3_41 rfl rfl rfl rfl eσ1 dX3_waits_42 ?_
  exact z_vret C h dX3_waits_45
set_option maxHeartbeats 4000000 in
set_option maxRecDepth 100000 in
theorem t3_waits {a : Nat → Nat} {σ : z_M} {u : Unit × z_M} (h : f3_waits σ = some u) : z_Mt yX3_waits (z_w yX3_waits cX3_waits 1 none) 2 S1 a σ [.ref (a 101)] (z_ov u) := by
  refine z_head (lo := [some (.ref (a 101))]) (by decide) (Nat.le_of_ble_eq_true rfl) ?_ rfl ?_
  · intro i v hv
    exact z_loe (vs := [.ref (a 101)]) (n := 0) rfl (by simp [z_c1i, z_c1r]) i v hv
  · intro X hXa C
    subst hXa
    unfold f3_waits at h
    refine z_aload_n C dX3_waits_0 rfl rfl ?_
    refine z_geti (k := 8) C z_CF3 (by decide) flX3_106 rfl rfl dX3_waits_1 ?_
    refine z_aload_n C dX3_waits_4 rfl rfl ?_
    refine z_geta (k := 7) (q := 105) C z_CF3 (by decide) flX3_24 rfl rfl dX3_waits_5 ?_
    refine z_alen (v := 32) C rfl rfl (by decide) dX3_waits_8 ?_
    refine z_icmp_ge (tgt := 35) C dX3_waits_9 (by decide) (fun hc => ?_) (fun hc => ?_)
    · replace h := z_neg hc h
      exact t3_waits_J35 C σ h
    · replace h := z_pos hc h
      refine z_aload_n C dX3_waits_12 rfl rfl ?_
      refine z_geta (k := 7) (q := 105) C z_CF3 (by decide) flX3_24 rfl rfl dX3_waits_13 ?_
      refine z_aload_n C dX3_waits_16 rfl rfl ?_
      refine z_geti (k := 8) C z_CF3 (by decide) flX3_106 rfl rfl dX3_waits_17 ?_
      refine z_aload_n C dX3_waits_20 rfl rfl ?_
      obtain ⟨r1, σ2, mσ2, h⟩ := z_bnd2 h
      refine z_cvi (As := []) (c := 101) (st := [.int (σ 101 8), .ref (z_a X 105)]) C (t3_kind mσ2) kvX3_kind rfl mlX3_52 z_CF3 rfl rfl (by decide) rfl (Nat.le_of_ble_eq_true rfl) dX3_waits_21 ?_
      obtain ⟨b3, h⟩ := z_chk_some h
      obtain ⟨σ4, eσ4, h⟩ := z_let_some h
      refine z_iast C rfl rfl b3 eσ4 dX3_waits_24 ?_
      refine z_aload_n C dX3_waits_25 rfl rfl ?_
      refine z_dup C dX3_waits_26 rfl ?_
      refine z_geti (k := 8) C z_CF3 (by decide) flX3_106 rfl rfl dX3_waits_27 ?_
      refine z_iconst (v := 1) C dX3_waits_30 (by decide) ?_
      refine z_iadd C dX3_waits_31 ?_
      obtain ⟨σ5, eσ5, h⟩ := z_let_some h
      refine z_puti (k := 8) C z_CF3 (by decide) flX3_106 rfl rfl rfl rfl eσ5 dX3_waits_32 ?_
      exact t3_waits_J35 C σ5 h
set_option maxHeartbeats 4000000 in
set_option maxRecDepth 100000 in
theorem t3_joins_J33 {X : z_Ct} (C : z_Cx S1 X RX3 cX3_joins 3 3 (some .boolean)) {u : Int32 × z_M} (v2 : Int32) (σ : z_M) (h : f3_joins_J33 v2 σ = some u) : z_W S1 X 33 [some (.ref (z_a X 101)), none, some (.int v2)] [] σ (z_oi u) := by
  unfold f3_joins_J33 at h
  refine z_aload_n C dX3_joins_33 rfl rfl ?_
  refine z_iload_n C dX3_joins_34 rfl rfl ?_
  obtain ⟨⟨⟩, σ2, mσ2, h⟩ := z_bnd2 h
  refine z_cvv (As := [.int v2]) (c := 101) (st := []) C (t3_settle v2 mσ2) kvX3_settle rfl mlX3_125 z_CF3 rfl rfl (by decide) rfl (Nat.le_of_ble_eq_true rfl) dX3_joins_35 ?_
  refine z_aload_n C dX3_joins_38 rfl rfl ?_
  obtain ⟨⟨⟩, σ4, mσ4, h⟩ := z_bnd2 h
  refine z_cvv (As := []) (c := 101) (st := []) C (t3_waits mσ4) kvX3_waits rfl mlX3_122 z_CF3 rfl rfl (by decide) rfl (Nat.le_of_ble_eq_true rfl) dX3_joins_39 ?_
  refine z_iconst (v := 1) C dX3_joins_42 (by decide) ?_
  exact z_zret C (by decide) h dX3_joins_43
set_option maxHeartbeats 4000000 in
set_option maxRecDepth 100000 in
theorem t3_joins_J65 {X : z_Ct} (C : z_Cx S1 X RX3 cX3_joins 3 3 (some .boolean)) {u : Int32 × z_M} (σ : z_M) (h : f3_joins_J65 σ = some u) : z_W S1 X 65 [some (.ref (z_a X 101)), none, none] [] σ (z_oi u) := by
  unfold f3_joins_J65 at h
  refine z_aload_n C dX3_joins_65 rfl rfl ?_
  refine z_iconst (v := 1) C dX3_joins_66 (by decide) ?_
  refine z_aload_n C dX3_joins_67 rfl rfl ?_
  refine z_geti (k := 4) C z_CF3 (by decide) flX3_41 rfl rfl dX3_joins_68 ?_
  obtain ⟨⟨⟩, σ2, mσ2, h⟩ := z_bnd2 h
  refine z_cvv (As := [.int 1, .int (σ 101 4)]) (c := 101) (st := []) C (t3_fail 1 (σ 101 4) mσ2) kvX3_fail rfl mlX3_75 z_CF3 rfl rfl (by decide) rfl (Nat.le_of_ble_eq_true rfl) dX3_joins_71 ?_
  refine z_iconst (v := 0) C dX3_joins_74 (by decide) ?_
  exact z_zret C (by decide) h dX3_joins_75
set_option maxHeartbeats 4000000 in
set_option maxRecDepth 100000 in
theorem t3_joins_L2 {X : z_Ct} (C : z_Cx S1 X RX3 cX3_joins 3 3 (some .boolean)) {u : Int32 × z_M} : ∀ (n : Nat) (v1 : Int32) (σ : z_M), f3_joins_L2 n v1 σ = some u → z_W S1 X 2 [some (.ref (z_a X 101)), some (.int v1), none] [] σ (z_oi u) := by
  intro n
  induction n with
  | zero => intro v1 σ h; rw [f3_joins_L2] at h; cases h
  | succ n ih =>
    intro v1 σ h
    rw [f3_joins_L2] at h
    refine z_iload_n C dX3_joins_2 rfl rfl ?_
    refine z_sipush (v := 400) C dX3_joins_3 (by decide) ?_
    refine z_icmp_gt (tgt := 112) C dX3_joins_6 (by decide) (fun hc => ?_) (fun hc => ?_)
    · replace h := z_pos hc h
      refine z_iconst (v := 0) C dX3_joins_112 (by decide) ?_
      exact z_zret C (by decide) h dX3_joins_113
    · replace h := z_neg hc h
      refine z_aload_n C dX3_joins_9 rfl rfl ?_
      refine z_geti (k := 2) C z_CF3 (by decide) flX3_32 rfl rfl dX3_joins_10 ?_
      refine z_if_ne (tgt := 112) C dX3_joins_13 (by decide) (fun hc => ?_) (fun hc => ?_)
      · replace h := z_neg hc h
        refine z_iconst (v := 0) C dX3_joins_112 (by decide) ?_
        exact z_zret C (by decide) h dX3_joins_113
      · replace h := z_pos hc h
        refine z_aload_n C dX3_joins_16 rfl rfl ?_
        obtain ⟨r1, σ2, mσ2, h⟩ := z_bnd2 h
        refine z_cvi (As := []) (c := 101) (st := []) C (t3_kind mσ2) kvX3_kind rfl mlX3_52 z_CF3 rfl rfl (by decide) rfl (Nat.le_of_ble_eq_true rfl) dX3_joins_17 ?_
        refine z_istore_n (lo' := [some (.ref (z_a X 101)), some (.int v1), some (.int r1)]) C dX3_joins_20 rfl (Nat.le_of_ble_eq_true rfl) rfl ?_
        refine z_iload_n C dX3_joins_21 rfl rfl ?_
        refine z_bipush (v := 13) C dX3_joins_22 (by decide) ?_
        refine z_icmp_eq (tgt := 33) C dX3_joins_24 (by decide) (fun hc => ?_) (fun hc => ?_)
        · replace h := z_pos hc h
          refine z_kill (lo' := [some (.ref (z_a X 101)), none, some (.int r1)]) [1] rfl ?_
          exact t3_joins_J33 C r1 σ2 h
        · replace h := z_neg hc h
          refine z_iload_n C dX3_joins_27 rfl rfl ?_
          refine z_bipush (v := 12) C dX3_joins_28 (by decide) ?_
          refine z_icmp_ne (tgt := 44) C dX3_joins_30 (by decide) (fun hc => ?_) (fun hc => ?_)
          · replace h := z_neg hc h
            refine z_aload_n C dX3_joins_44 rfl rfl ?_
            refine z_bipush (v := 12) C dX3_joins_45 (by decide) ?_
            obtain ⟨⟨⟩, σ4, mσ4, h⟩ := z_bnd2 h
            refine z_cvv (As := [.int 12]) (c := 101) (st := []) C (t3_settle 12 mσ4) kvX3_settle rfl mlX3_125 z_CF3 rfl rfl (by decide) rfl (Nat.le_of_ble_eq_true rfl) dX3_joins_47 ?_
            refine z_aload_n C dX3_joins_50 rfl rfl ?_
            refine z_geti (k := 8) C z_CF3 (by decide) flX3_106 rfl rfl dX3_joins_51 ?_
            refine z_if_ne (tgt := 59) C dX3_joins_54 (by decide) (fun hc => ?_) (fun hc => ?_)
            · replace h := z_neg hc h
              refine z_iload_n C dX3_joins_59 rfl rfl ?_
              refine z_bipush (v := 38) C dX3_joins_60 (by decide) ?_
              refine z_icmp_eq (tgt := 76) C dX3_joins_62 (by decide) (fun hc => ?_) (fun hc => ?_)
              · replace h := z_pos hc h
                refine z_aload_n C dX3_joins_76 rfl rfl ?_
                refine z_dup C dX3_joins_77 rfl ?_
                refine z_geti (k := 8) C z_CF3 (by decide) flX3_106 rfl rfl dX3_joins_78 ?_
                refine z_iconst (v := 1) C dX3_joins_81 (by decide) ?_
                refine z_isub C dX3_joins_82 ?_
                obtain ⟨σ5, eσ5, h⟩ := z_let_some h
                refine z_puti (k := 8) C z_CF3 (by decide) flX3_106 rfl rfl rfl rfl eσ5 dX3_joins_83 ?_
                refine z_aload_n C dX3_joins_86 rfl rfl ?_
                refine z_dup C dX3_joins_87 rfl ?_
                refine z_geti (k := 9) C z_CF3 (by decide) flX3_109 rfl rfl dX3_joins_88 ?_
                refine z_iconst (v := 1) C dX3_joins_91 (by decide) ?_
                refine z_isub C dX3_joins_92 ?_
                obtain ⟨σ6, eσ6, h⟩ := z_let_some h
                refine z_puti (k := 9) C z_CF3 (by decide) flX3_109 rfl rfl rfl rfl eσ6 dX3_joins_93 ?_
                refine z_aload_n C dX3_joins_96 rfl rfl ?_
                refine z_dup C dX3_joins_97 rfl ?_
                refine z_geti (k := 4) C z_CF3 (by decide) flX3_41 rfl rfl dX3_joins_98 ?_
                refine z_iconst (v := 1) C dX3_joins_101 (by decide) ?_
                refine z_iadd C dX3_joins_102 ?_
                obtain ⟨σ7, eσ7, h⟩ := z_let_some h
                refine z_puti (k := 4) C z_CF3 (by decide) flX3_41 rfl rfl rfl rfl eσ7 dX3_joins_103 ?_
                refine z_iinc (v := v1 + 1) (lo' := [some (.ref (z_a X 101)), some (.int (v1 + 1)), some (.int r1)]) C dX3_joins_106 rfl rfl rfl ?_
                refine z_goto (tgt := 2) C dX3_joins_109 (by decide) ?_
                refine z_kill (lo' := [some (.ref (z_a X 101)), some (.int (v1 + 1)), none]) [2] rfl ?_
                exact ih (v1 + 1) σ7 h
              · replace h := z_neg hc h
                refine z_kill (lo' := [some (.ref (z_a X 101)), none, none]) [1, 2] rfl ?_
                exact t3_joins_J65 C σ4 h
            · replace h := z_pos hc h
              refine z_iconst (v := 0) C dX3_joins_57 (by decide) ?_
              exact z_zret C (by decide) h dX3_joins_58
          · replace h := z_pos hc h
            refine z_kill (lo' := [some (.ref (z_a X 101)), none, some (.int r1)]) [1] rfl ?_
            exact t3_joins_J33 C r1 σ2 h
set_option maxHeartbeats 4000000 in
set_option maxRecDepth 100000 in
theorem t3_joins {a : Nat → Nat} {σ : z_M} {u : Int32 × z_M} (h : f3_joins σ = some u) : z_Mt yX3_joins (z_w yX3_joins cX3_joins 3 (some .boolean)) 3 S1 a σ [.ref (a 101)] (z_oi u) := by
  refine z_head (lo := [some (.ref (a 101)), none, none]) (by decide) (Nat.le_of_ble_eq_true rfl) ?_ rfl ?_
  · intro i v hv
    exact z_loe (vs := [.ref (a 101)]) (n := 2) rfl (by simp [z_c1i, z_c1r]) i v hv
  · intro X hXa C
    subst hXa
    unfold f3_joins at h
    refine z_iconst (v := 0) C dX3_joins_0 (by decide) ?_
    refine z_istore_n (lo' := [some (.ref (z_a X 101)), some (.int 0), none]) C dX3_joins_1 rfl (Nat.le_of_ble_eq_true rfl) rfl ?_
    exact t3_joins_L2 C _ 0 σ h
set_option maxHeartbeats 4000000 in
set_option maxRecDepth 100000 in
theorem t3_opens {a : Nat → Nat} {σ : z_M} {u : Unit × z_M} (h : f3_opens σ = some u) : z_Mt yX3_opens (z_w yX3_opens cX3_opens 1 none) 3 S1 a σ [.ref (a 101)] (z_ov u) := by
  refine z_head (lo := [some (.ref (a 101))]) (by decide) (Nat.le_of_ble_eq_true rfl) ?_ rfl ?_
  · intro i v hv
    exact z_loe (vs := [.ref (a 101)]) (n := 0) rfl (by simp [z_c1i, z_c1r]) i v hv
  · intro X hXa C
    subst hXa
    unfold f3_opens at h
    refine z_aload_n C dX3_opens_0 rfl rfl ?_
    refine z_geti (k := 9) C z_CF3 (by decide) flX3_109 rfl rfl dX3_opens_1 ?_
    refine z_bipush (v := 8) C dX3_opens_4 (by decide) ?_
    refine z_icmp_lt (tgt := 19) C dX3_opens_6 (by decide) (fun hc => ?_) (fun hc => ?_)
    · replace h := z_pos hc h
      refine z_aload_n C dX3_opens_19 rfl rfl ?_
      refine z_dup C dX3_opens_20 rfl ?_
      refine z_geti (k := 9) C z_CF3 (by decide) flX3_109 rfl rfl dX3_opens_21 ?_
      refine z_iconst (v := 1) C dX3_opens_24 (by decide) ?_
      refine z_iadd C dX3_opens_25 ?_
      obtain ⟨σ1, eσ1, h⟩ := z_let_some h
      refine z_puti (k := 9) C z_CF3 (by decide) flX3_109 rfl rfl rfl rfl eσ1 dX3_opens_26 ?_
      refine z_aload_n C dX3_opens_29 rfl rfl ?_
      obtain ⟨⟨⟩, σ3, mσ3, h⟩ := z_bnd2 h
      refine z_cvv (As := []) (c := 101) (st := []) C (t3_waits mσ3) kvX3_waits rfl mlX3_122 z_CF3 rfl rfl (by decide) rfl (Nat.le_of_ble_eq_true rfl) dX3_opens_30 ?_
      exact z_vret C h dX3_opens_33
    · replace h := z_neg hc h
      refine z_aload_n C dX3_opens_9 rfl rfl ?_
      refine z_iconst (v := 3) C dX3_opens_10 (by decide) ?_
      refine z_aload_n C dX3_opens_11 rfl rfl ?_
      refine z_geti (k := 4) C z_CF3 (by decide) flX3_41 rfl rfl dX3_opens_12 ?_
      obtain ⟨⟨⟩, σ5, mσ5, h⟩ := z_bnd2 h
      refine z_cvv (As := [.int 3, .int (σ 101 4)]) (c := 101) (st := []) C (t3_fail 3 (σ 101 4) mσ5) kvX3_fail rfl mlX3_75 z_CF3 rfl rfl (by decide) rfl (Nat.le_of_ble_eq_true rfl) dX3_opens_15 ?_
      exact z_vret C h dX3_opens_18
set_option maxHeartbeats 4000000 in
set_option maxRecDepth 100000 in
theorem t3_number_J53 {X : z_Ct} (C : z_Cx S1 X RX3 cX3_number 4 2 (some .int)) {u : Int32 × z_M} (σ : z_M) (h : f3_number_J53 σ = some u) : z_W S1 X 53 [some (.ref (z_a X 101)), none, none, none] [] σ (z_oi u) := by
  unfold f3_number_J53 at h
  refine z_aload_n C dX3_number_53 rfl rfl ?_
  refine z_iconst (v := 2) C dX3_number_54 (by decide) ?_
  refine z_aload_n C dX3_number_55 rfl rfl ?_
  refine z_geti (k := 4) C z_CF3 (by decide) flX3_41 rfl rfl dX3_number_56 ?_
  obtain ⟨⟨⟩, σ2, mσ2, h⟩ := z_bnd2 h
  refine z_cvv (As := [.int 2, .int (σ 101 4)]) (c := 101) (st := []) C (t3_fail 2 (σ 101 4) mσ2) kvX3_fail rfl mlX3_75 z_CF3 rfl rfl (by decide) rfl (Nat.le_of_ble_eq_true rfl) dX3_number_59 ?_
  refine z_goto (tgt := 77) C dX3_number_62 (by decide) ?_
  refine z_iconst (v := (-1)) C dX3_number_77 (by decide) ?_
  exact z_iret C h dX3_number_78
set_option maxHeartbeats 4000000 in
set_option maxRecDepth 100000 in
theorem t3_number {a : Nat → Nat} (p1 : Int32) (p2 : Int32) {σ : z_M} {u : Int32 × z_M} (h : f3_number p1 p2 σ = some u) : z_Mt yX3_number (z_w yX3_number cX3_number 4 (some .int)) 2 S1 a σ [.ref (a 101), .int p1, .int p2] (z_oi u) := by
  refine z_head (lo := [some (.ref (a 101)), some (.int p1), some (.int p2), none]) (by decide) (Nat.le_of_ble_eq_true rfl) ?_ rfl ?_
  · intro i v hv
    exact z_loe (vs := [.ref (a 101), .int p1, .int p2]) (n := 1) rfl (by simp [z_c1i, z_c1r]) i v hv
  · intro X hXa C
    subst hXa
    unfold f3_number at h
    refine z_aload_n C dX3_number_0 rfl rfl ?_
    refine z_geti (k := 2) C z_CF3 (by decide) flX3_32 rfl rfl dX3_number_1 ?_
    refine z_if_eq (tgt := 9) C dX3_number_4 (by decide) (fun hc => ?_) (fun hc => ?_)
    · replace h := z_pos hc h
      refine z_aload_n C dX3_number_9 rfl rfl ?_
      refine z_geta (k := 0) (q := 96) C z_CF3 (by decide) flX3_28 rfl rfl dX3_number_10 ?_
      refine z_geta (k := 3) (q := 99) C z_CF8 (by decide) flX3_131 rfl rfl dX3_number_13 ?_
      refine z_aload_n C dX3_number_16 rfl rfl ?_
      refine z_geti (k := 4) C z_CF3 (by decide) flX3_41 rfl rfl dX3_number_17 ?_
      obtain ⟨b1, h⟩ := z_chk_some h
      refine z_iald C rfl rfl b1 dX3_number_20 ?_
      refine z_istore_n (lo' := [some (.ref (z_a X 101)), some (.int p1), some (.int p2), some (.int (σ 99 (z_ix (σ 101 4))))]) C dX3_number_21 rfl (Nat.le_of_ble_eq_true rfl) rfl ?_
      refine z_aload_n C dX3_number_22 rfl rfl ?_
      obtain ⟨r2, σ3, mσ3, h⟩ := z_bnd2 h
      refine z_cvi (As := []) (c := 101) (st := []) C (t3_kind mσ3) kvX3_kind rfl mlX3_52 z_CF3 rfl rfl (by decide) rfl (Nat.le_of_ble_eq_true rfl) dX3_number_23 ?_
      refine z_bipush (v := 42) C dX3_number_26 (by decide) ?_
      refine z_icmp_eq (tgt := 43) C dX3_number_28 (by decide) (fun hc => ?_) (fun hc => ?_)
      · replace h := z_pos hc h
        refine z_iload_n C dX3_number_43 rfl rfl ?_
        refine z_iload_n C dX3_number_44 rfl rfl ?_
        refine z_icmp_lt (tgt := 53) C dX3_number_45 (by decide) (fun hc => ?_) (fun hc => ?_)
        · replace h := z_pos hc h
          refine z_kill (lo' := [some (.ref (z_a X 101)), none, none, none]) [1, 2, 3] rfl ?_
          exact t3_number_J53 C σ3 h
        · replace h := z_neg hc h
          refine z_iload_n C dX3_number_48 rfl rfl ?_
          refine z_iload_n C dX3_number_49 rfl rfl ?_
          refine z_icmp_le (tgt := 65) C dX3_number_50 (by decide) (fun hc => ?_) (fun hc => ?_)
          · replace h := z_neg hc h
            refine z_aload_n C dX3_number_65 rfl rfl ?_
            refine z_dup C dX3_number_66 rfl ?_
            refine z_geti (k := 4) C z_CF3 (by decide) flX3_41 rfl rfl dX3_number_67 ?_
            refine z_iconst (v := 1) C dX3_number_70 (by decide) ?_
            refine z_iadd C dX3_number_71 ?_
            obtain ⟨σ4, eσ4, h⟩ := z_let_some h
            refine z_puti (k := 4) C z_CF3 (by decide) flX3_41 rfl rfl rfl rfl eσ4 dX3_number_72 ?_
            refine z_iload_n C dX3_number_75 rfl rfl ?_
            exact z_iret C h dX3_number_76
          · replace h := z_pos hc h
            refine z_kill (lo' := [some (.ref (z_a X 101)), none, none, none]) [1, 2, 3] rfl ?_
            exact t3_number_J53 C σ3 h
      · replace h := z_neg hc h
        refine z_aload_n C dX3_number_31 rfl rfl ?_
        refine z_iconst (v := 1) C dX3_number_32 (by decide) ?_
        refine z_aload_n C dX3_number_33 rfl rfl ?_
        refine z_geti (k := 4) C z_CF3 (by decide) flX3_41 rfl rfl dX3_number_34 ?_
        obtain ⟨⟨⟩, σ6, mσ6, h⟩ := z_bnd2 h
        refine z_cvv (As := [.int 1, .int (σ3 101 4)]) (c := 101) (st := []) C (t3_fail 1 (σ3 101 4) mσ6) kvX3_fail rfl mlX3_75 z_CF3 rfl rfl (by decide) rfl (Nat.le_of_ble_eq_true rfl) dX3_number_37 ?_
        refine z_goto (tgt := 77) C dX3_number_40 (by decide) ?_
        refine z_iconst (v := (-1)) C dX3_number_77 (by decide) ?_
        exact z_iret C h dX3_number_78
    · replace h := z_neg hc h
      refine z_iconst (v := (-1)) C dX3_number_7 (by decide) ?_
      exact z_iret C h dX3_number_8
set_option maxHeartbeats 4000000 in
set_option maxRecDepth 100000 in
theorem t3_readUnit {a : Nat → Nat} {σ : z_M} {u : Unit × z_M} (h : f3_readUnit σ = some u) : z_Mt yX3_readUnit (z_w yX3_readUnit cX3_readUnit 1 none) 2 S1 a σ [.ref (a 101)] (z_ov u) := by
  refine z_head (lo := [some (.ref (a 101))]) (by decide) (Nat.le_of_ble_eq_true rfl) ?_ rfl ?_
  · intro i v hv
    exact z_loe (vs := [.ref (a 101)]) (n := 0) rfl (by simp [z_c1i, z_c1r]) i v hv
  · intro X hXa C
    subst hXa
    unfold f3_readUnit at h
    refine z_aload_n C dX3_readUnit_0 rfl rfl ?_
    refine z_geti (k := 2) C z_CF3 (by decide) flX3_32 rfl rfl dX3_readUnit_1 ?_
    refine z_if_eq (tgt := 8) C dX3_readUnit_4 (by decide) (fun hc => ?_) (fun hc => ?_)
    · replace h := z_pos hc h
      refine z_aload_n C dX3_readUnit_8 rfl rfl ?_
      obtain ⟨r1, σ2, mσ2, h⟩ := z_bnd2 h
      refine z_cvi (As := []) (c := 101) (st := []) C (t3_kind mσ2) kvX3_kind rfl mlX3_52 z_CF3 rfl rfl (by decide) rfl (Nat.le_of_ble_eq_true rfl) dX3_readUnit_9 ?_
      refine z_bipush (v := 42) C dX3_readUnit_12 (by decide) ?_
      refine z_icmp_ne (tgt := 52) C dX3_readUnit_14 (by decide) (fun hc => ?_) (fun hc => ?_)
      · replace h := z_neg hc h
        refine z_aload_n C dX3_readUnit_52 rfl rfl ?_
        obtain ⟨r3, σ4, mσ4, h⟩ := z_bnd2 h
        refine z_cvi (As := []) (c := 101) (st := []) C (t3_kind mσ4) kvX3_kind rfl mlX3_52 z_CF3 rfl rfl (by decide) rfl (Nat.le_of_ble_eq_true rfl) dX3_readUnit_53 ?_
        refine z_bipush (v := 7) C dX3_readUnit_56 (by decide) ?_
        refine z_icmp_gt (tgt := 85) C dX3_readUnit_58 (by decide) (fun hc => ?_) (fun hc => ?_)
        · replace h := z_pos hc h
          refine z_aload_n C dX3_readUnit_85 rfl rfl ?_
          refine z_iconst (v := 1) C dX3_readUnit_86 (by decide) ?_
          refine z_aload_n C dX3_readUnit_87 rfl rfl ?_
          refine z_geti (k := 4) C z_CF3 (by decide) flX3_41 rfl rfl dX3_readUnit_88 ?_
          obtain ⟨⟨⟩, σ6, mσ6, h⟩ := z_bnd2 h
          refine z_cvv (As := [.int 1, .int (σ4 101 4)]) (c := 101) (st := []) C (t3_fail 1 (σ4 101 4) mσ6) kvX3_fail rfl mlX3_75 z_CF3 rfl rfl (by decide) rfl (Nat.le_of_ble_eq_true rfl) dX3_readUnit_91 ?_
          exact z_vret C h dX3_readUnit_94
        · replace h := z_neg hc h
          refine z_aload_n C dX3_readUnit_61 rfl rfl ?_
          refine z_geta (k := 1) (q := 102) C z_CF3 (by decide) flX3_14 rfl rfl dX3_readUnit_62 ?_
          refine z_aload_n C dX3_readUnit_65 rfl rfl ?_
          obtain ⟨r7, σ8, mσ8, h⟩ := z_bnd2 h
          refine z_cvi (As := []) (c := 101) (st := [.ref (z_a X 102)]) C (t3_kind mσ8) kvX3_kind rfl mlX3_52 z_CF3 rfl rfl (by decide) rfl (Nat.le_of_ble_eq_true rfl) dX3_readUnit_66 ?_
          obtain ⟨⟨⟩, σ10, mσ10, h⟩ := z_bnd2 h
          refine z_cvv (As := [.int r7]) (c := 102) (st := []) C (t9_emit 102 r7 rfl mσ10) kvX9_emit rfl mlX3_115 z_CF9 rfl rfl (by decide) rfl (Nat.le_of_ble_eq_true rfl) dX3_readUnit_69 ?_
          refine z_aload_n C dX3_readUnit_72 rfl rfl ?_
          refine z_dup C dX3_readUnit_73 rfl ?_
          refine z_geti (k := 4) C z_CF3 (by decide) flX3_41 rfl rfl dX3_readUnit_74 ?_
          refine z_iconst (v := 1) C dX3_readUnit_77 (by decide) ?_
          refine z_iadd C dX3_readUnit_78 ?_
          obtain ⟨σ11, eσ11, h⟩ := z_let_some h
          refine z_puti (k := 4) C z_CF3 (by decide) flX3_41 rfl rfl rfl rfl eσ11 dX3_readUnit_79 ?_
          refine z_goto (tgt := 94) C dX3_readUnit_82 (by decide) ?_
          exact z_vret C h dX3_readUnit_94
      · replace h := z_pos hc h
        refine z_aload_n C dX3_readUnit_17 rfl rfl ?_
        refine z_geta (k := 1) (q := 102) C z_CF3 (by decide) flX3_14 rfl rfl dX3_readUnit_18 ?_
        refine z_bipush (v := 64) C dX3_readUnit_21 (by decide) ?_
        refine z_aload_n C dX3_readUnit_23 rfl rfl ?_
        refine z_geta (k := 0) (q := 96) C z_CF3 (by decide) flX3_28 rfl rfl dX3_readUnit_24 ?_
        refine z_geta (k := 3) (q := 99) C z_CF8 (by decide) flX3_131 rfl rfl dX3_readUnit_27 ?_
        refine z_aload_n C dX3_readUnit_30 rfl rfl ?_
        refine z_geti (k := 4) C z_CF3 (by decide) flX3_41 rfl rfl dX3_readUnit_31 ?_
        obtain ⟨b12, h⟩ := z_chk_some h
        refine z_iald C rfl rfl b12 dX3_readUnit_34 ?_
        refine z_iadd C dX3_readUnit_35 ?_
        obtain ⟨⟨⟩, σ14, mσ14, h⟩ := z_bnd2 h
        refine z_cvv (As := [.int (64 + (σ2 99 (z_ix (σ2 101 4))))]) (c := 102) (st := []) C (t9_emit 102 (64 + (σ2 99 (z_ix (σ2 101 4)))) rfl mσ14) kvX9_emit rfl mlX3_115 z_CF9 rfl rfl (by decide) rfl (Nat.le_of_ble_eq_true rfl) dX3_readUnit_36 ?_
        refine z_aload_n C dX3_readUnit_39 rfl rfl ?_
        refine z_dup C dX3_readUnit_40 rfl ?_
        refine z_geti (k := 4) C z_CF3 (by decide) flX3_41 rfl rfl dX3_readUnit_41 ?_
        refine z_iconst (v := 1) C dX3_readUnit_44 (by decide) ?_
        refine z_iadd C dX3_readUnit_45 ?_
        obtain ⟨σ15, eσ15, h⟩ := z_let_some h
        refine z_puti (k := 4) C z_CF3 (by decide) flX3_41 rfl rfl rfl rfl eσ15 dX3_readUnit_46 ?_
        refine z_goto (tgt := 94) C dX3_readUnit_49 (by decide) ?_
        exact z_vret C h dX3_readUnit_94
    · replace h := z_neg hc h
      exact z_vret C h dX3_readUnit_7
set_option maxHeartbeats 4000000 in
set_option maxRecDepth 100000 in
theorem t3_readSum_J131 {X : z_Ct} (C : z_Cx S1 X RX3 cX3_readSum 4 3 none) {u : Unit × z_M} {k8 : Int32 → Int32 → z_M → Option (Unit × z_M)} (hr8 : ∀ (v1 : Int32) (v2 : Int32) (σ : z_M), k8 v1 v2 σ = some u → z_W S1 X 8 [some (.ref (z_a X 101)), some (.int v1), some (.int v2), none] [] σ (z_ov u)) (v2 : Int32) (v3 : Int32) (σ : z_M) (h : f3_readSum_J131 k8 v2 v3 σ = some u) : z_W S1 X 131 [some (.ref (z_a X 101)), none, some (.int v2), some (.int v3)] [] σ (z_ov u) := by
  unfold f3_readSum_J131 at h
  refine z_iload_n C dX3_readSum_131 rfl rfl ?_
  refine z_istore_n (lo' := [some (.ref (z_a X 101)), some (.int v3), some (.int v2), some (.int v3)]) C dX3_readSum_132 rfl (Nat.le_of_ble_eq_true rfl) rfl ?_
  refine z_aload_n C dX3_readSum_133 rfl rfl ?_
  refine z_dup C dX3_readSum_134 rfl ?_
  refine z_geti (k := 4) C z_CF3 (by decide) flX3_41 rfl rfl dX3_readSum_135 ?_
  refine z_iconst (v := 1) C dX3_readSum_138 (by decide) ?_
  refine z_iadd C dX3_readSum_139 ?_
  obtain ⟨σ1, eσ1, h⟩ := z_let_some h
  refine z_puti (k := 4) C z_CF3 (by decide) flX3_41 rfl rfl rfl rfl eσ1 dX3_readSum_140 ?_
  refine z_aload_n C dX3_readSum_143 rfl rfl ?_
  obtain ⟨⟨⟩, σ3, mσ3, h⟩ := z_bnd2 h
  refine z_cvv (As := []) (c := 101) (st := []) C (t3_readUnit mσ3) kvX3_readUnit rfl mlX3_128 z_CF3 rfl rfl (by decide) rfl (Nat.le_of_ble_eq_true rfl) dX3_readSum_144 ?_
  refine z_iinc (v := v2 + 1) (lo' := [some (.ref (z_a X 101)), some (.int v3), some (.int (v2 + 1)), some (.int v3)]) C dX3_readSum_147 rfl rfl rfl ?_
  refine z_goto (tgt := 8) C dX3_readSum_150 (by decide) ?_
  refine z_kill (lo' := [some (.ref (z_a X 101)), some (.int v3), some (.int (v2 + 1)), none]) [3] rfl ?_
  exact hr8 v3 (v2 + 1) σ3 h
set_option maxHeartbeats 4000000 in
set_option maxRecDepth 100000 in
theorem t3_readSum_J118 {X : z_Ct} (C : z_Cx S1 X RX3 cX3_readSum 4 3 none) {u : Unit × z_M} {k8 : Int32 → Int32 → z_M → Option (Unit × z_M)} (hr8 : ∀ (v1 : Int32) (v2 : Int32) (σ : z_M), k8 v1 v2 σ = some u → z_W S1 X 8 [some (.ref (z_a X 101)), some (.int v1), some (.int v2), none] [] σ (z_ov u)) (v2 : Int32) (v3 : Int32) (σ : z_M) (h : f3_readSum_J118 k8 v2 v3 σ = some u) : z_W S1 X 118 [some (.ref (z_a X 101)), none, some (.int v2), some (.int v3)] [] σ (z_ov u) := by
  unfold f3_readSum_J118 at h
  refine z_iload_n C dX3_readSum_118 rfl rfl ?_
  refine z_bipush (v := 33) C dX3_readSum_119 (by decide) ?_
  refine z_icmp_eq (tgt := 131) C dX3_readSum_121 (by decide) (fun hc => ?_) (fun hc => ?_)
  · replace h := z_pos hc h
    exact t3_readSum_J131 C hr8 v2 v3 σ h
  · replace h := z_neg hc h
    refine z_iload_n C dX3_readSum_124 rfl rfl ?_
    refine z_bipush (v := 34) C dX3_readSum_125 (by decide) ?_
    refine z_icmp_eq (tgt := 131) C dX3_readSum_127 (by decide) (fun hc => ?_) (fun hc => ?_)
    · replace h := z_pos hc h
      exact t3_readSum_J131 C hr8 v2 v3 σ h
    · replace h := z_neg hc h
      exact z_vret C h dX3_readSum_130
set_option maxHeartbeats 4000000 in
set_option maxRecDepth 100000 in
theorem t3_readSum_L8 {X : z_Ct} (C : z_Cx S1 X RX3 cX3_readSum 4 3 none) {u : Unit × z_M} : ∀ (n : Nat) (v1 : Int32) (v2 : Int32) (σ : z_M), f3_readSum_L8 n v1 v2 σ = some u → z_W S1 X 8 [some (.ref (z_a X 101)), some (.int v1), some (.int v2), none] [] σ (z_ov u) := by
  intro n
  induction n with
  | zero => intro v1 v2 σ h; rw [f3_readSum_L8] at h; cases h
  | succ n ih =>
    intro v1 v2 σ h
    rw [f3_readSum_L8] at h
    refine z_iload_n C dX3_readSum_8 rfl rfl ?_
    refine z_sipush (v := 400) C dX3_readSum_9 (by decide) ?_
    refine z_icmp_gt (tgt := 153) C dX3_readSum_12 (by decide) (fun hc => ?_) (fun hc => ?_)
    · replace h := z_pos hc h
      exact z_vret C h dX3_readSum_153
    · replace h := z_neg hc h
      refine z_aload_n C dX3_readSum_15 rfl rfl ?_
      refine z_geti (k := 2) C z_CF3 (by decide) flX3_32 rfl rfl dX3_readSum_16 ?_
      refine z_if_ne (tgt := 153) C dX3_readSum_19 (by decide) (fun hc => ?_) (fun hc => ?_)
      · replace h := z_neg hc h
        exact z_vret C h dX3_readSum_153
      · replace h := z_pos hc h
        refine z_aload_n C dX3_readSum_22 rfl rfl ?_
        obtain ⟨r1, σ2, mσ2, h⟩ := z_bnd2 h
        refine z_cvi (As := []) (c := 101) (st := []) C (t3_kind mσ2) kvX3_kind rfl mlX3_52 z_CF3 rfl rfl (by decide) rfl (Nat.le_of_ble_eq_true rfl) dX3_readSum_23 ?_
        refine z_istore_n (lo' := [some (.ref (z_a X 101)), some (.int v1), some (.int v2), some (.int r1)]) C dX3_readSum_26 rfl (Nat.le_of_ble_eq_true rfl) rfl ?_
        refine z_iload_n C dX3_readSum_27 rfl rfl ?_
        refine z_bipush (v := 35) C dX3_readSum_28 (by decide) ?_
        refine z_icmp_ne (tgt := 59) C dX3_readSum_30 (by decide) (fun hc => ?_) (fun hc => ?_)
        · replace h := z_neg hc h
          refine z_iload_n C dX3_readSum_59 rfl rfl ?_
          refine z_bipush (v := 36) C dX3_readSum_60 (by decide) ?_
          refine z_icmp_ne (tgt := 105) C dX3_readSum_62 (by decide) (fun hc => ?_) (fun hc => ?_)
          · replace h := z_neg hc h
            refine z_iload_n C dX3_readSum_105 rfl rfl ?_
            refine z_iconst (v := (-1)) C dX3_readSum_106 (by decide) ?_
            refine z_icmp_eq (tgt := 118) C dX3_readSum_107 (by decide) (fun hc => ?_) (fun hc => ?_)
            · replace h := z_pos hc h
              refine z_kill (lo' := [some (.ref (z_a X 101)), none, some (.int v2), some (.int r1)]) [1] rfl ?_
              exact t3_readSum_J118 C ih v2 r1 σ2 h
            · replace h := z_neg hc h
              refine z_aload_n C dX3_readSum_110 rfl rfl ?_
              refine z_geta (k := 1) (q := 102) C z_CF3 (by decide) flX3_14 rfl rfl dX3_readSum_111 ?_
              refine z_iload_n C dX3_readSum_114 rfl rfl ?_
              obtain ⟨⟨⟩, σ4, mσ4, h⟩ := z_bnd2 h
              refine z_cvv (As := [.int v1]) (c := 102) (st := []) C (t9_emit 102 v1 rfl mσ4) kvX9_emit rfl mlX3_115 z_CF9 rfl rfl (by decide) rfl (Nat.le_of_ble_eq_true rfl) dX3_readSum_115 ?_
              refine z_kill (lo' := [some (.ref (z_a X 101)), none, some (.int v2), some (.int r1)]) [1] rfl ?_
              exact t3_readSum_J118 C ih v2 r1 σ4 h
          · replace h := z_pos hc h
            refine z_aload_n C dX3_readSum_65 rfl rfl ?_
            refine z_dup C dX3_readSum_66 rfl ?_
            refine z_geti (k := 4) C z_CF3 (by decide) flX3_41 rfl rfl dX3_readSum_67 ?_
            refine z_iconst (v := 1) C dX3_readSum_70 (by decide) ?_
            refine z_iadd C dX3_readSum_71 ?_
            obtain ⟨σ5, eσ5, h⟩ := z_let_some h
            refine z_puti (k := 4) C z_CF3 (by decide) flX3_41 rfl rfl rfl rfl eσ5 dX3_readSum_72 ?_
            refine z_aload_n C dX3_readSum_75 rfl rfl ?_
            refine z_geta (k := 1) (q := 102) C z_CF3 (by decide) flX3_14 rfl rfl dX3_readSum_76 ?_
            refine z_bipush (v := 64) C dX3_readSum_79 (by decide) ?_
            refine z_aload_n C dX3_readSum_81 rfl rfl ?_
            refine z_iconst (v := 1) C dX3_readSum_82 (by decide) ?_
            refine z_sipush (v := 9999) C dX3_readSum_83 (by decide) ?_
            obtain ⟨r6, σ7, mσ7, h⟩ := z_bnd2 h
            refine z_cvi (As := [.int 1, .int 9999]) (c := 101) (st := [.int 64, .ref (z_a X 102)]) C (t3_number 1 9999 mσ7) kvX3_number rfl mlX3_68 z_CF3 rfl rfl (by decide) rfl (Nat.le_of_ble_eq_true rfl) dX3_readSum_86 ?_
            refine z_iadd C dX3_readSum_89 ?_
            obtain ⟨⟨⟩, σ9, mσ9, h⟩ := z_bnd2 h
            refine z_cvv (As := [.int (64 + r6)]) (c := 102) (st := []) C (t9_emit 102 (64 + r6) rfl mσ9) kvX9_emit rfl mlX3_115 z_CF9 rfl rfl (by decide) rfl (Nat.le_of_ble_eq_true rfl) dX3_readSum_90 ?_
            refine z_aload_n C dX3_readSum_93 rfl rfl ?_
            refine z_geta (k := 1) (q := 102) C z_CF3 (by decide) flX3_14 rfl rfl dX3_readSum_94 ?_
            refine z_bipush (v := 36) C dX3_readSum_97 (by decide) ?_
            obtain ⟨⟨⟩, σ11, mσ11, h⟩ := z_bnd2 h
            refine z_cvv (As := [.int 36]) (c := 102) (st := []) C (t9_emit 102 36 rfl mσ11) kvX9_emit rfl mlX3_115 z_CF9 rfl rfl (by decide) rfl (Nat.le_of_ble_eq_true rfl) dX3_readSum_99 ?_
            refine z_goto (tgt := 147) C dX3_readSum_102 (by decide) ?_
            refine z_iinc (v := v2 + 1) (lo' := [some (.ref (z_a X 101)), some (.int v1), some (.int (v2 + 1)), some (.int r1)]) C dX3_readSum_147 rfl rfl rfl ?_
            refine z_goto (tgt := 8) C dX3_readSum_150 (by decide) ?_
            refine z_kill (lo' := [some (.ref (z_a X 101)), some (.int v1), some (.int (v2 + 1)), none]) [3] rfl ?_
            exact ih v1 (v2 + 1) σ11 h
        · replace h := z_pos hc h
          refine z_aload_n C dX3_readSum_33 rfl rfl ?_
          refine z_dup C dX3_readSum_34 rfl ?_
          refine z_geti (k := 4) C z_CF3 (by decide) flX3_41 rfl rfl dX3_readSum_35 ?_
          refine z_iconst (v := 1) C dX3_readSum_38 (by decide) ?_
          refine z_iadd C dX3_readSum_39 ?_
          obtain ⟨σ12, eσ12, h⟩ := z_let_some h
          refine z_puti (k := 4) C z_CF3 (by decide) flX3_41 rfl rfl rfl rfl eσ12 dX3_readSum_40 ?_
          refine z_aload_n C dX3_readSum_43 rfl rfl ?_
          obtain ⟨⟨⟩, σ14, mσ14, h⟩ := z_bnd2 h
          refine z_cvv (As := []) (c := 101) (st := []) C (t3_readUnit mσ14) kvX3_readUnit rfl mlX3_128 z_CF3 rfl rfl (by decide) rfl (Nat.le_of_ble_eq_true rfl) dX3_readSum_44 ?_
          refine z_aload_n C dX3_readSum_47 rfl rfl ?_
          refine z_geta (k := 1) (q := 102) C z_CF3 (by decide) flX3_14 rfl rfl dX3_readSum_48 ?_
          refine z_bipush (v := 35) C dX3_readSum_51 (by decide) ?_
          obtain ⟨⟨⟩, σ16, mσ16, h⟩ := z_bnd2 h
          refine z_cvv (As := [.int 35]) (c := 102) (st := []) C (t9_emit 102 35 rfl mσ16) kvX9_emit rfl mlX3_115 z_CF9 rfl rfl (by decide) rfl (Nat.le_of_ble_eq_true rfl) dX3_readSum_53 ?_
          refine z_goto (tgt := 147) C dX3_readSum_56 (by decide) ?_
          refine z_iinc (v := v2 + 1) (lo' := [some (.ref (z_a X 101)), some (.int v1), some (.int (v2 + 1)), some (.int r1)]) C dX3_readSum_147 rfl rfl rfl ?_
          refine z_goto (tgt := 8) C dX3_readSum_150 (by decide) ?_
          refine z_kill (lo' := [some (.ref (z_a X 101)), some (.int v1), some (.int (v2 + 1)), none]) [3] rfl ?_
          exact ih v1 (v2 + 1) σ16 h
set_option maxHeartbeats 4000000 in
set_option maxRecDepth 100000 in
theorem t3_readSum {a : Nat → Nat} {σ : z_M} {u : Unit × z_M} (h : f3_readSum σ = some u) : z_Mt yX3_readSum (z_w yX3_readSum cX3_readSum 4 none) 3 S1 a σ [.ref (a 101)] (z_ov u) := by
  refine z_head (lo := [some (.ref (a 101)), none, none, none]) (by decide) (Nat.le_of_ble_eq_true rfl) ?_ rfl ?_
  · intro i v hv
    exact z_loe (vs := [.ref (a 101)]) (n := 3) rfl (by simp [z_c1i, z_c1r]) i v hv
  · intro X hXa C
    subst hXa
    unfold f3_readSum at h
    refine z_iconst (v := (-1)) C dX3_readSum_0 (by decide) ?_
    refine z_istore_n (lo' := [some (.ref (z_a X 101)), some (.int (-1)), none, none]) C dX3_readSum_1 rfl (Nat.le_of_ble_eq_true rfl) rfl ?_
    refine z_aload_n C dX3_readSum_2 rfl rfl ?_
    obtain ⟨⟨⟩, σ2, mσ2, h⟩ := z_bnd2 h
    refine z_cvv (As := []) (c := 101) (st := []) C (t3_readUnit mσ2) kvX3_readUnit rfl mlX3_128 z_CF3 rfl rfl (by decide) rfl (Nat.le_of_ble_eq_true rfl) dX3_readSum_3 ?_
    refine z_iconst (v := 0) C dX3_readSum_6 (by decide) ?_
    refine z_istore_n (lo' := [some (.ref (z_a X 101)), some (.int (-1)), some (.int 0), none]) C dX3_readSum_7 rfl (Nat.le_of_ble_eq_true rfl) rfl ?_
    exact t3_readSum_L8 C _ (-1) 0 σ2 h
set_option maxHeartbeats 4000000 in
set_option maxRecDepth 100000 in
theorem t3_readCondition_J50 {X : z_Ct} (C : z_Cx S1 X RX3 cX3_readCondition 4 4 none) {u : Unit × z_M} {k14 : Int32 → Int32 → z_M → Option (Unit × z_M)} (hr14 : ∀ (v1 : Int32) (v2 : Int32) (σ : z_M), k14 v1 v2 σ = some u → z_W S1 X 14 [some (.ref (z_a X 101)), some (.int v1), some (.int v2), none] [] σ (z_ov u)) (v1 : Int32) (v2 : Int32) (σ : z_M) (h : f3_readCondition_J50 k14 v1 v2 σ = some u) : z_W S1 X 50 [some (.ref (z_a X 101)), some (.int v1), some (.int v2), none] [] σ (z_ov u) := by
  unfold f3_readCondition_J50 at h
  refine z_aload_n C dX3_readCondition_50 rfl rfl ?_
  obtain ⟨⟨⟩, σ2, mσ2, h⟩ := z_bnd2 h
  refine z_cvv (As := []) (c := 101) (st := []) C (t3_opens mσ2) kvX3_opens rfl mlX3_112 z_CF3 rfl rfl (by decide) rfl (Nat.le_of_ble_eq_true rfl) dX3_readCondition_51 ?_
  refine z_goto (tgt := 105) C dX3_readCondition_54 (by decide) ?_
  refine z_iinc (v := v2 + 1) (lo' := [some (.ref (z_a X 101)), some (.int v1), some (.int (v2 + 1)), none]) C dX3_readCondition_105 rfl rfl rfl ?_
  refine z_goto (tgt := 14) C dX3_readCondition_108 (by decide) ?_
  exact hr14 v1 (v2 + 1) σ2 h
set_option maxHeartbeats 4000000 in
set_option maxRecDepth 100000 in
theorem t3_readCondition_J85 {X : z_Ct} (C : z_Cx S1 X RX3 cX3_readCondition 4 4 none) {u : Unit × z_M} {k14 : Int32 → Int32 → z_M → Option (Unit × z_M)} (hr14 : ∀ (v1 : Int32) (v2 : Int32) (σ : z_M), k14 v1 v2 σ = some u → z_W S1 X 14 [some (.ref (z_a X 101)), some (.int v1), some (.int v2), none] [] σ (z_ov u)) (v2 : Int32) (v3 : Int32) (s1 : Int32) (σ : z_M) (h : f3_readCondition_J85 k14 v2 v3 s1 σ = some u) : z_W S1 X 85 [some (.ref (z_a X 101)), none, some (.int v2), some (.int v3)] [.int s1, .ref (z_a X 101)] σ (z_ov u) := by
  unfold f3_readCondition_J85 at h
  obtain ⟨⟨⟩, σ2, mσ2, h⟩ := z_bnd2 h
  refine z_cvv (As := [.int s1]) (c := 101) (st := []) C (t3_takes s1 mσ2) kvX3_takes rfl mlX3_86 z_CF3 rfl rfl (by decide) rfl (Nat.le_of_ble_eq_true rfl) dX3_readCondition_85 ?_
  refine z_aload_n C dX3_readCondition_88 rfl rfl ?_
  obtain ⟨⟨⟩, σ4, mσ4, h⟩ := z_bnd2 h
  refine z_cvv (As := []) (c := 101) (st := []) C (t3_readSum mσ4) kvX3_readSum rfl mlX3_97 z_CF3 rfl rfl (by decide) rfl (Nat.le_of_ble_eq_true rfl) dX3_readCondition_89 ?_
  refine z_aload_n C dX3_readCondition_92 rfl rfl ?_
  refine z_geta (k := 1) (q := 102) C z_CF3 (by decide) flX3_14 rfl rfl dX3_readCondition_93 ?_
  refine z_iload_n C dX3_readCondition_96 rfl rfl ?_
  obtain ⟨⟨⟩, σ6, mσ6, h⟩ := z_bnd2 h
  refine z_cvv (As := [.int v3]) (c := 102) (st := []) C (t9_emit 102 v3 rfl mσ6) kvX9_emit rfl mlX3_115 z_CF9 rfl rfl (by decide) rfl (Nat.le_of_ble_eq_true rfl) dX3_readCondition_97 ?_
  refine z_aload_n C dX3_readCondition_100 rfl rfl ?_
  obtain ⟨r7, σ8, mσ8, h⟩ := z_bnd2 h
  refine z_cvi (As := []) (c := 101) (st := []) C (t3_joins mσ8) kvX3_joins rfl mlX3_118 z_CF3 rfl rfl (by decide) rfl (Nat.le_of_ble_eq_true rfl) dX3_readCondition_101 ?_
  refine z_istore_n (lo' := [some (.ref (z_a X 101)), some (.int r7), some (.int v2), some (.int v3)]) C dX3_readCondition_104 rfl (Nat.le_of_ble_eq_true rfl) rfl ?_
  refine z_iinc (v := v2 + 1) (lo' := [some (.ref (z_a X 101)), some (.int r7), some (.int (v2 + 1)), some (.int v3)]) C dX3_readCondition_105 rfl rfl rfl ?_
  refine z_goto (tgt := 14) C dX3_readCondition_108 (by decide) ?_
  refine z_kill (lo' := [some (.ref (z_a X 101)), some (.int r7), some (.int (v2 + 1)), none]) [3] rfl ?_
  exact hr14 r7 (v2 + 1) σ8 h
set_option maxHeartbeats 4000000 in
set_option maxRecDepth 100000 in
theorem t3_readCondition_J83 {X : z_Ct} (C : z_Cx S1 X RX3 cX3_readCondition 4 4 none) {u : Unit × z_M} {k14 : Int32 → Int32 → z_M → Option (Unit × z_M)} (hr14 : ∀ (v1 : Int32) (v2 : Int32) (σ : z_M), k14 v1 v2 σ = some u → z_W S1 X 14 [some (.ref (z_a X 101)), some (.int v1), some (.int v2), none] [] σ (z_ov u)) (v2 : Int32) (v3 : Int32) (σ : z_M) (h : f3_readCondition_J83 k14 v2 v3 σ = some u) : z_W S1 X 83 [some (.ref (z_a X 101)), none, some (.int v2), some (.int v3)] [.ref (z_a X 101)] σ (z_ov u) := by
  unfold f3_readCondition_J83 at h
  refine z_bipush (v := 40) C dX3_readCondition_83 (by decide) ?_
  exact t3_readCondition_J85 C hr14 v2 v3 40 σ h
set_option maxHeartbeats 4000000 in
set_option maxRecDepth 100000 in
theorem t3_readCondition_L14 {X : z_Ct} (C : z_Cx S1 X RX3 cX3_readCondition 4 4 none) {u : Unit × z_M} : ∀ (n : Nat) (v1 : Int32) (v2 : Int32) (σ : z_M), f3_readCondition_L14 n v1 v2 σ = some u → z_W S1 X 14 [some (.ref (z_a X 101)), some (.int v1), some (.int v2), none] [] σ (z_ov u) := by
  intro n
  induction n with
  | zero => intro v1 v2 σ h; rw [f3_readCondition_L14] at h; cases h
  | succ n ih =>
    intro v1 v2 σ h
    rw [f3_readCondition_L14] at h
    refine z_iload_n C dX3_readCondition_14 rfl rfl ?_
    refine z_sipush (v := 400) C dX3_readCondition_15 (by decide) ?_
    refine z_icmp_gt (tgt := 111) C dX3_readCondition_18 (by decide) (fun hc => ?_) (fun hc => ?_)
    · replace h := z_pos hc h
      exact z_vret C h dX3_readCondition_111
    · replace h := z_neg hc h
      refine z_iload_n C dX3_readCondition_21 rfl rfl ?_
      refine z_if_eq (tgt := 111) C dX3_readCondition_22 (by decide) (fun hc => ?_) (fun hc => ?_)
      · replace h := z_pos hc h
        exact z_vret C h dX3_readCondition_111
      · replace h := z_neg hc h
        refine z_aload_n C dX3_readCondition_25 rfl rfl ?_
        refine z_geti (k := 2) C z_CF3 (by decide) flX3_32 rfl rfl dX3_readCondition_26 ?_
        refine z_if_ne (tgt := 111) C dX3_readCondition_29 (by decide) (fun hc => ?_) (fun hc => ?_)
        · replace h := z_neg hc h
          exact z_vret C h dX3_readCondition_111
        · replace h := z_pos hc h
          refine z_aload_n C dX3_readCondition_32 rfl rfl ?_
          obtain ⟨r1, σ2, mσ2, h⟩ := z_bnd2 h
          refine z_cvi (As := []) (c := 101) (st := []) C (t3_kind mσ2) kvX3_kind rfl mlX3_52 z_CF3 rfl rfl (by decide) rfl (Nat.le_of_ble_eq_true rfl) dX3_readCondition_33 ?_
          refine z_bipush (v := 14) C dX3_readCondition_36 (by decide) ?_
          refine z_icmp_eq (tgt := 50) C dX3_readCondition_38 (by decide) (fun hc => ?_) (fun hc => ?_)
          · replace h := z_pos hc h
            exact t3_readCondition_J50 C ih v1 v2 σ2 h
          · replace h := z_neg hc h
            refine z_aload_n C dX3_readCondition_41 rfl rfl ?_
            obtain ⟨r3, σ4, mσ4, h⟩ := z_bnd2 h
            refine z_cvi (As := []) (c := 101) (st := []) C (t3_kind mσ4) kvX3_kind rfl mlX3_52 z_CF3 rfl rfl (by decide) rfl (Nat.le_of_ble_eq_true rfl) dX3_readCondition_42 ?_
            refine z_bipush (v := 37) C dX3_readCondition_45 (by decide) ?_
            refine z_icmp_ne (tgt := 57) C dX3_readCondition_47 (by decide) (fun hc => ?_) (fun hc => ?_)
            · replace h := z_neg hc h
              refine z_aload_n C dX3_readCondition_57 rfl rfl ?_
              obtain ⟨⟨⟩, σ6, mσ6, h⟩ := z_bnd2 h
              refine z_cvv (As := []) (c := 101) (st := []) C (t3_readSum mσ6) kvX3_readSum rfl mlX3_97 z_CF3 rfl rfl (by decide) rfl (Nat.le_of_ble_eq_true rfl) dX3_readCondition_58 ?_
              refine z_aload_n C dX3_readCondition_61 rfl rfl ?_
              obtain ⟨r7, σ8, mσ8, h⟩ := z_bnd2 h
              refine z_cvi (As := []) (c := 101) (st := []) C (t3_kind mσ8) kvX3_kind rfl mlX3_52 z_CF3 rfl rfl (by decide) rfl (Nat.le_of_ble_eq_true rfl) dX3_readCondition_62 ?_
              refine z_istore_n (lo' := [some (.ref (z_a X 101)), some (.int v1), some (.int v2), some (.int r7)]) C dX3_readCondition_65 rfl (Nat.le_of_ble_eq_true rfl) rfl ?_
              refine z_aload_n C dX3_readCondition_66 rfl rfl ?_
              refine z_iload_n C dX3_readCondition_67 rfl rfl ?_
              refine z_bipush (v := 39) C dX3_readCondition_68 (by decide) ?_
              refine z_icmp_lt (tgt := 83) C dX3_readCondition_70 (by decide) (fun hc => ?_) (fun hc => ?_)
              · replace h := z_pos hc h
                refine z_kill (lo' := [some (.ref (z_a X 101)), none, some (.int v2), some (.int r7)]) [1] rfl ?_
                exact t3_readCondition_J83 C ih v2 r7 σ8 h
              · replace h := z_neg hc h
                refine z_iload_n C dX3_readCondition_73 rfl rfl ?_
                refine z_bipush (v := 41) C dX3_readCondition_74 (by decide) ?_
                refine z_icmp_gt (tgt := 83) C dX3_readCondition_76 (by decide) (fun hc => ?_) (fun hc => ?_)
                · replace h := z_pos hc h
                  refine z_kill (lo' := [some (.ref (z_a X 101)), none, some (.int v2), some (.int r7)]) [1] rfl ?_
                  exact t3_readCondition_J83 C ih v2 r7 σ8 h
                · replace h := z_neg hc h
                  refine z_iload_n C dX3_readCondition_79 rfl rfl ?_
                  refine z_goto (tgt := 85) C dX3_readCondition_80 (by decide) ?_
                  refine z_kill (lo' := [some (.ref (z_a X 101)), none, some (.int v2), some (.int r7)]) [1] rfl ?_
                  exact t3_readCondition_J85 C ih v2 r7 r7 σ8 h
            · replace h := z_pos hc h
              exact t3_readCondition_J50 C ih v1 v2 σ4 h
set_option maxHeartbeats 4000000 in
set_option maxRecDepth 100000 in
theorem t3_readCondition {a : Nat → Nat} {σ : z_M} {u : Unit × z_M} (h : f3_readCondition σ = some u) : z_Mt yX3_readCondition (z_w yX3_readCondition cX3_readCondition 4 none) 4 S1 a σ [.ref (a 101)] (z_ov u) := by
  refine z_head (lo := [some (.ref (a 101)), none, none, none]) (by decide) (Nat.le_of_ble_eq_true rfl) ?_ rfl ?_
  · intro i v hv
    exact z_loe (vs := [.ref (a 101)]) (n := 3) rfl (by simp [z_c1i, z_c1r]) i v hv
  · intro X hXa C
    subst hXa
    unfold f3_readCondition at h
    refine z_aload_n C dX3_readCondition_0 rfl rfl ?_
    refine z_iconst (v := 0) C dX3_readCondition_1 (by decide) ?_
    obtain ⟨σ1, eσ1, h⟩ := z_let_some h
    refine z_puti (k := 8) C z_CF3 (by decide) flX3_106 rfl rfl rfl rfl eσ1 dX3_readCondition_2 ?_
    refine z_aload_n C dX3_readCondition_5 rfl rfl ?_
    refine z_iconst (v := 0) C dX3_readCondition_6 (by decide) ?_
    obtain ⟨σ2, eσ2, h⟩ := z_let_some h
    refine z_puti (k := 9) C z_CF3 (by decide) flX3_109 rfl rfl rfl rfl eσ2 dX3_readCondition_7 ?_
    refine z_iconst (v := 1) C dX3_readCondition_10 (by decide) ?_
    refine z_istore_n (lo' := [some (.ref (z_a X 101)), some (.int 1), none, none]) C dX3_readCondition_11 rfl (Nat.le_of_ble_eq_true rfl) rfl ?_
    refine z_iconst (v := 0) C dX3_readCondition_12 (by decide) ?_
    refine z_istore_n (lo' := [some (.ref (z_a X 101)), some (.int 1), some (.int 0), none]) C dX3_readCondition_13 rfl (Nat.le_of_ble_eq_true rfl) rfl ?_
    exact t3_readCondition_L14 C _ 1 0 σ2 h
set_option maxHeartbeats 4000000 in
set_option maxRecDepth 100000 in
theorem t3_readLaw_J76 {X : z_Ct} (C : z_Cx S1 X RX3 cX3_readLaw 4 5 none) {u : Unit × z_M} (v1 : Int32) (v2 : Int32) (v3 : Int32) (σ : z_M) (h : f3_readLaw_J76 v1 v2 v3 σ = some u) : z_W S1 X 76 [some (.ref (z_a X 101)), some (.int v1), some (.int v2), some (.int v3)] [] σ (z_ov u) := by
  unfold f3_readLaw_J76 at h
  refine z_aload_n C dX3_readLaw_76 rfl rfl ?_
  refine z_iload_n C dX3_readLaw_77 rfl rfl ?_
  refine z_iload_n C dX3_readLaw_78 rfl rfl ?_
  refine z_iload_n C dX3_readLaw_79 rfl rfl ?_
  refine z_aload_n C dX3_readLaw_80 rfl rfl ?_
  refine z_geta (k := 1) (q := 102) C z_CF3 (by decide) flX3_14 rfl rfl dX3_readLaw_81 ?_
  refine z_geti (k := 3) C z_CF9 (by decide) flX3_94 rfl rfl dX3_readLaw_84 ?_
  refine z_iconst (v := 0) C dX3_readLaw_87 (by decide) ?_
  obtain ⟨⟨⟩, σ2, mσ2, h⟩ := z_bnd2 h
  refine z_cvv (As := [.int v1, .int v2, .int v3, .int (σ 102 3), .int 0]) (c := 101) (st := []) C (t3_finish v1 v2 v3 (σ 102 3) 0 mσ2) kvX3_finish rfl mlX3_82 z_CF3 rfl rfl (by decide) rfl (Nat.le_of_ble_eq_true rfl) dX3_readLaw_88 ?_
  exact z_vret C h dX3_readLaw_91
set_option maxHeartbeats 4000000 in
set_option maxRecDepth 100000 in
theorem t3_readLaw_J23 {X : z_Ct} (C : z_Cx S1 X RX3 cX3_readLaw 4 5 none) {u : Unit × z_M} (v1 : Int32) (s1 : Int32) (σ : z_M) (h : f3_readLaw_J23 v1 s1 σ = some u) : z_W S1 X 23 [some (.ref (z_a X 101)), some (.int v1), none, none] [.int s1, .ref (z_a X 101)] σ (z_ov u) := by
  unfold f3_readLaw_J23 at h
  obtain ⟨⟨⟩, σ2, mσ2, h⟩ := z_bnd2 h
  refine z_cvv (As := [.int s1]) (c := 101) (st := []) C (t3_begins s1 mσ2) kvX3_begins rfl mlX3_90 z_CF3 rfl rfl (by decide) rfl (Nat.le_of_ble_eq_true rfl) dX3_readLaw_23 ?_
  refine z_aload_n C dX3_readLaw_26 rfl rfl ?_
  refine z_geta (k := 1) (q := 102) C z_CF3 (by decide) flX3_14 rfl rfl dX3_readLaw_27 ?_
  refine z_geti (k := 3) C z_CF9 (by decide) flX3_94 rfl rfl dX3_readLaw_30 ?_
  refine z_istore_n (lo' := [some (.ref (z_a X 101)), some (.int v1), some (.int (σ2 102 3)), none]) C dX3_readLaw_33 rfl (Nat.le_of_ble_eq_true rfl) rfl ?_
  refine z_aload_n C dX3_readLaw_34 rfl rfl ?_
  obtain ⟨⟨⟩, σ4, mσ4, h⟩ := z_bnd2 h
  refine z_cvv (As := []) (c := 101) (st := []) C (t3_readSum mσ4) kvX3_readSum rfl mlX3_97 z_CF3 rfl rfl (by decide) rfl (Nat.le_of_ble_eq_true rfl) dX3_readLaw_35 ?_
  refine z_aload_n C dX3_readLaw_38 rfl rfl ?_
  refine z_geta (k := 1) (q := 102) C z_CF3 (by decide) flX3_14 rfl rfl dX3_readLaw_39 ?_
  refine z_geti (k := 3) C z_CF9 (by decide) flX3_94 rfl rfl dX3_readLaw_42 ?_
  refine z_istore_n (lo' := [some (.ref (z_a X 101)), some (.int v1), some (.int (σ2 102 3)), some (.int (σ4 102 3))]) C dX3_readLaw_45 rfl (Nat.le_of_ble_eq_true rfl) rfl ?_
  refine z_aload_n C dX3_readLaw_46 rfl rfl ?_
  refine z_geti (k := 2) C z_CF3 (by decide) flX3_32 rfl rfl dX3_readLaw_47 ?_
  refine z_if_ne (tgt := 76) C dX3_readLaw_50 (by decide) (fun hc => ?_) (fun hc => ?_)
  · replace h := z_neg hc h
    exact t3_readLaw_J76 C v1 (σ2 102 3) (σ4 102 3) σ4 h
  · replace h := z_pos hc h
    refine z_aload_n C dX3_readLaw_53 rfl rfl ?_
    obtain ⟨r5, σ6, mσ6, h⟩ := z_bnd2 h
    refine z_cvi (As := []) (c := 101) (st := []) C (t3_kind mσ6) kvX3_kind rfl mlX3_52 z_CF3 rfl rfl (by decide) rfl (Nat.le_of_ble_eq_true rfl) dX3_readLaw_54 ?_
    refine z_bipush (v := 11) C dX3_readLaw_57 (by decide) ?_
    refine z_icmp_ne (tgt := 76) C dX3_readLaw_59 (by decide) (fun hc => ?_) (fun hc => ?_)
    · replace h := z_neg hc h
      exact t3_readLaw_J76 C v1 (σ2 102 3) (σ4 102 3) σ6 h
    · replace h := z_pos hc h
      refine z_aload_n C dX3_readLaw_62 rfl rfl ?_
      refine z_dup C dX3_readLaw_63 rfl ?_
      refine z_geti (k := 4) C z_CF3 (by decide) flX3_41 rfl rfl dX3_readLaw_64 ?_
      refine z_iconst (v := 1) C dX3_readLaw_67 (by decide) ?_
      refine z_iadd C dX3_readLaw_68 ?_
      obtain ⟨σ7, eσ7, h⟩ := z_let_some h
      refine z_puti (k := 4) C z_CF3 (by decide) flX3_41 rfl rfl rfl rfl eσ7 dX3_readLaw_69 ?_
      refine z_aload_n C dX3_readLaw_72 rfl rfl ?_
      obtain ⟨⟨⟩, σ9, mσ9, h⟩ := z_bnd2 h
      refine z_cvv (As := []) (c := 101) (st := []) C (t3_readCondition mσ9) kvX3_readCondition rfl mlX3_100 z_CF3 rfl rfl (by decide) rfl (Nat.le_of_ble_eq_true rfl) dX3_readLaw_73 ?_
      exact t3_readLaw_J76 C v1 (σ2 102 3) (σ4 102 3) σ9 h
set_option maxHeartbeats 4000000 in
set_option maxRecDepth 100000 in
theorem t3_readLaw_J22 {X : z_Ct} (C : z_Cx S1 X RX3 cX3_readLaw 4 5 none) {u : Unit × z_M} (v1 : Int32) (σ : z_M) (h : f3_readLaw_J22 v1 σ = some u) : z_W S1 X 22 [some (.ref (z_a X 101)), some (.int v1), none, none] [.ref (z_a X 101)] σ (z_ov u) := by
  unfold f3_readLaw_J22 at h
  refine z_iconst (v := 0) C dX3_readLaw_22 (by decide) ?_
  exact t3_readLaw_J23 C v1 0 σ h
set_option maxHeartbeats 4000000 in
set_option maxRecDepth 100000 in
theorem t3_readLaw {a : Nat → Nat} {σ : z_M} {u : Unit × z_M} (h : f3_readLaw σ = some u) : z_Mt yX3_readLaw (z_w yX3_readLaw cX3_readLaw 4 none) 5 S1 a σ [.ref (a 101)] (z_ov u) := by
  refine z_head (lo := [some (.ref (a 101)), none, none, none]) (by decide) (Nat.le_of_ble_eq_true rfl) ?_ rfl ?_
  · intro i v hv
    exact z_loe (vs := [.ref (a 101)]) (n := 3) rfl (by simp [z_c1i, z_c1r]) i v hv
  · intro X hXa C
    subst hXa
    unfold f3_readLaw at h
    refine z_aload_n C dX3_readLaw_0 rfl rfl ?_
    obtain ⟨r1, σ2, mσ2, h⟩ := z_bnd2 h
    refine z_cvi (As := []) (c := 101) (st := []) C (t3_kind mσ2) kvX3_kind rfl mlX3_52 z_CF3 rfl rfl (by decide) rfl (Nat.le_of_ble_eq_true rfl) dX3_readLaw_1 ?_
    refine z_istore_n (lo' := [some (.ref (z_a X 101)), some (.int r1), none, none]) C dX3_readLaw_4 rfl (Nat.le_of_ble_eq_true rfl) rfl ?_
    refine z_aload_n C dX3_readLaw_5 rfl rfl ?_
    refine z_iload_n C dX3_readLaw_6 rfl rfl ?_
    refine z_bipush (v := 8) C dX3_readLaw_7 (by decide) ?_
    refine z_icmp_lt (tgt := 22) C dX3_readLaw_9 (by decide) (fun hc => ?_) (fun hc => ?_)
    · replace h := z_pos hc h
      exact t3_readLaw_J22 C r1 σ2 h
    · replace h := z_neg hc h
      refine z_iload_n C dX3_readLaw_12 rfl rfl ?_
      refine z_bipush (v := 10) C dX3_readLaw_13 (by decide) ?_
      refine z_icmp_gt (tgt := 22) C dX3_readLaw_15 (by decide) (fun hc => ?_) (fun hc => ?_)
      · replace h := z_pos hc h
        exact t3_readLaw_J22 C r1 σ2 h
      · replace h := z_neg hc h
        refine z_iconst (v := 1) C dX3_readLaw_18 (by decide) ?_
        refine z_goto (tgt := 23) C dX3_readLaw_19 (by decide) ?_
        exact t3_readLaw_J23 C r1 1 σ2 h
set_option maxHeartbeats 4000000 in
set_option maxRecDepth 100000 in
theorem t3_readPlan_J180 {X : z_Ct} (C : z_Cx S1 X RX3 cX3_readPlan 7 4 none) {u : Unit × z_M} (v1 : Int32) (v2 : Int32) (v4 : Int32) (v5 : Int32) (v6 : Int32) (σ : z_M) (h : f3_readPlan_J180 v1 v2 v4 v5 v6 σ = some u) : z_W S1 X 180 [some (.ref (z_a X 101)), some (.int v1), some (.int v2), none, some (.int v4), some (.int v5), some (.int v6)] [] σ (z_ov u) := by
  unfold f3_readPlan_J180 at h
  refine z_aload_n C dX3_readPlan_180 rfl rfl ?_
  refine z_iload_n C dX3_readPlan_181 rfl rfl ?_
  refine z_iload_n C dX3_readPlan_182 rfl rfl ?_
  refine z_iload C dX3_readPlan_183 rfl ?_
  refine z_iload C dX3_readPlan_185 rfl ?_
  refine z_iload C dX3_readPlan_187 rfl ?_
  obtain ⟨⟨⟩, σ2, mσ2, h⟩ := z_bnd2 h
  refine z_cvv (As := [.int v1, .int v2, .int v4, .int v5, .int v6]) (c := 101) (st := []) C (t3_finish v1 v2 v4 v5 v6 mσ2) kvX3_finish rfl mlX3_82 z_CF3 rfl rfl (by decide) rfl (Nat.le_of_ble_eq_true rfl) dX3_readPlan_189 ?_
  exact z_vret C h dX3_readPlan_192
set_option maxHeartbeats 4000000 in
set_option maxRecDepth 100000 in
theorem t3_readPlan_J152 {X : z_Ct} (C : z_Cx S1 X RX3 cX3_readPlan 7 4 none) {u : Unit × z_M} (v1 : Int32) (v2 : Int32) (v4 : Int32) (v5 : Int32) (s1 : Int32) (s2 : Int32) (σ : z_M) (h : f3_readPlan_J152 v1 v2 v4 v5 s1 s2 σ = some u) : z_W S1 X 152 [some (.ref (z_a X 101)), some (.int v1), some (.int v2), none, some (.int v4), some (.int v5), none] [.int s2, .int s1, .ref (z_a X 101)] σ (z_ov u) := by
  unfold f3_readPlan_J152 at h
  obtain ⟨r1, σ2, mσ2, h⟩ := z_bnd2 h
  refine z_cvi (As := [.int s1, .int s2]) (c := 101) (st := []) C (t3_number s1 s2 mσ2) kvX3_number rfl mlX3_68 z_CF3 rfl rfl (by decide) rfl (Nat.le_of_ble_eq_true rfl) dX3_readPlan_152 ?_
  refine z_istore (lo' := [some (.ref (z_a X 101)), some (.int v1), some (.int v2), none, some (.int v4), some (.int v5), some (.int r1)]) C dX3_readPlan_155 (Nat.le_of_ble_eq_true rfl) rfl ?_
  refine z_goto (tgt := 180) C dX3_readPlan_157 (by decide) ?_
  exact t3_readPlan_J180 C v1 v2 v4 v5 r1 σ2 h
set_option maxHeartbeats 4000000 in
set_option maxRecDepth 100000 in
theorem t3_readPlan_J134 {X : z_Ct} (C : z_Cx S1 X RX3 cX3_readPlan 7 4 none) {u : Unit × z_M} (v1 : Int32) (v2 : Int32) (v4 : Int32) (v5 : Int32) (s1 : Int32) (σ : z_M) (h : f3_readPlan_J134 v1 v2 v4 v5 s1 σ = some u) : z_W S1 X 134 [some (.ref (z_a X 101)), some (.int v1), some (.int v2), none, some (.int v4), some (.int v5), none] [.int s1, .ref (z_a X 101)] σ (z_ov u) := by
  unfold f3_readPlan_J134 at h
  obtain ⟨⟨⟩, σ2, mσ2, h⟩ := z_bnd2 h
  refine z_cvv (As := [.int s1]) (c := 101) (st := []) C (t3_takes s1 mσ2) kvX3_takes rfl mlX3_86 z_CF3 rfl rfl (by decide) rfl (Nat.le_of_ble_eq_true rfl) dX3_readPlan_134 ?_
  refine z_aload_n C dX3_readPlan_137 rfl rfl ?_
  refine z_iconst (v := 0) C dX3_readPlan_138 (by decide) ?_
  refine z_iload_n C dX3_readPlan_139 rfl rfl ?_
  refine z_bipush (v := 22) C dX3_readPlan_140 (by decide) ?_
  refine z_icmp_ne (tgt := 150) C dX3_readPlan_142 (by decide) (fun hc => ?_) (fun hc => ?_)
  · replace h := z_neg hc h
    refine z_bipush (v := 100) C dX3_readPlan_150 (by decide) ?_
    exact t3_readPlan_J152 C v1 v2 v4 v5 0 100 σ2 h
  · replace h := z_pos hc h
    refine z_bipush (v := 9) C dX3_readPlan_145 (by decide) ?_
    refine z_goto (tgt := 152) C dX3_readPlan_147 (by decide) ?_
    exact t3_readPlan_J152 C v1 v2 v4 v5 0 9 σ2 h
set_option maxHeartbeats 4000000 in
set_option maxRecDepth 100000 in
theorem t3_readPlan_J106 {X : z_Ct} (C : z_Cx S1 X RX3 cX3_readPlan 7 4 none) {u : Unit × z_M} (v1 : Int32) (v2 : Int32) (v4 : Int32) (σ : z_M) (h : f3_readPlan_J106 v1 v2 v4 σ = some u) : z_W S1 X 106 [some (.ref (z_a X 101)), some (.int v1), some (.int v2), none, some (.int v4), none, none] [] σ (z_ov u) := by
  unfold f3_readPlan_J106 at h
  refine z_aload_n C dX3_readPlan_106 rfl rfl ?_
  refine z_bipush (v := 23) C dX3_readPlan_107 (by decide) ?_
  obtain ⟨⟨⟩, σ2, mσ2, h⟩ := z_bnd2 h
  refine z_cvv (As := [.int 23]) (c := 101) (st := []) C (t3_takes 23 mσ2) kvX3_takes rfl mlX3_86 z_CF3 rfl rfl (by decide) rfl (Nat.le_of_ble_eq_true rfl) dX3_readPlan_109 ?_
  refine z_aload_n C dX3_readPlan_112 rfl rfl ?_
  refine z_iconst (v := 0) C dX3_readPlan_113 (by decide) ?_
  refine z_bipush (v := 7) C dX3_readPlan_114 (by decide) ?_
  obtain ⟨r3, σ4, mσ4, h⟩ := z_bnd2 h
  refine z_cvi (As := [.int 0, .int 7]) (c := 101) (st := []) C (t3_number 0 7 mσ4) kvX3_number rfl mlX3_68 z_CF3 rfl rfl (by decide) rfl (Nat.le_of_ble_eq_true rfl) dX3_readPlan_116 ?_
  refine z_istore (lo' := [some (.ref (z_a X 101)), some (.int v1), some (.int v2), none, some (.int v4), some (.int r3), none]) C dX3_readPlan_119 (Nat.le_of_ble_eq_true rfl) rfl ?_
  refine z_aload_n C dX3_readPlan_121 rfl rfl ?_
  refine z_iload_n C dX3_readPlan_122 rfl rfl ?_
  refine z_bipush (v := 22) C dX3_readPlan_123 (by decide) ?_
  refine z_icmp_ne (tgt := 132) C dX3_readPlan_125 (by decide) (fun hc => ?_) (fun hc => ?_)
  · replace h := z_neg hc h
    refine z_bipush (v := 27) C dX3_readPlan_132 (by decide) ?_
    exact t3_readPlan_J134 C v1 v2 v4 r3 27 σ4 h
  · replace h := z_pos hc h
    refine z_iconst (v := 1) C dX3_readPlan_128 (by decide) ?_
    refine z_goto (tgt := 134) C dX3_readPlan_129 (by decide) ?_
    exact t3_readPlan_J134 C v1 v2 v4 r3 1 σ4 h
set_option maxHeartbeats 4000000 in
set_option maxRecDepth 100000 in
theorem t3_readPlan_J72 {X : z_Ct} (C : z_Cx S1 X RX3 cX3_readPlan 7 4 none) {u : Unit × z_M} (v1 : Int32) (v2 : Int32) (s1 : Int32) (σ : z_M) (h : f3_readPlan_J72 v1 v2 s1 σ = some u) : z_W S1 X 72 [some (.ref (z_a X 101)), some (.int v1), some (.int v2), none, none, none, none] [.int s1, .ref (z_a X 101)] σ (z_ov u) := by
  unfold f3_readPlan_J72 at h
  obtain ⟨⟨⟩, σ2, mσ2, h⟩ := z_bnd2 h
  refine z_cvv (As := [.int s1]) (c := 101) (st := []) C (t3_takes s1 mσ2) kvX3_takes rfl mlX3_86 z_CF3 rfl rfl (by decide) rfl (Nat.le_of_ble_eq_true rfl) dX3_readPlan_72 ?_
  refine z_aload_n C dX3_readPlan_75 rfl rfl ?_
  refine z_iconst (v := 0) C dX3_readPlan_76 (by decide) ?_
  refine z_aload_n C dX3_readPlan_77 rfl rfl ?_
  refine z_geti (k := 5) C z_CF3 (by decide) flX3_35 rfl rfl dX3_readPlan_78 ?_
  refine z_iconst (v := 1) C dX3_readPlan_81 (by decide) ?_
  refine z_isub C dX3_readPlan_82 ?_
  obtain ⟨r3, σ4, mσ4, h⟩ := z_bnd2 h
  refine z_cvi (As := [.int 0, .int ((σ2 101 5) - 1)]) (c := 101) (st := []) C (t3_number 0 ((σ2 101 5) - 1) mσ4) kvX3_number rfl mlX3_68 z_CF3 rfl rfl (by decide) rfl (Nat.le_of_ble_eq_true rfl) dX3_readPlan_83 ?_
  refine z_istore (lo' := [some (.ref (z_a X 101)), some (.int v1), some (.int v2), none, some (.int r3), none, none]) C dX3_readPlan_86 (Nat.le_of_ble_eq_true rfl) rfl ?_
  refine z_iconst (v := 0) C dX3_readPlan_88 (by decide) ?_
  refine z_istore (lo' := [some (.ref (z_a X 101)), some (.int v1), some (.int v2), none, some (.int r3), some (.int 0), none]) C dX3_readPlan_89 (Nat.le_of_ble_eq_true rfl) rfl ?_
  refine z_iconst (v := 0) C dX3_readPlan_91 (by decide) ?_
  refine z_istore (lo' := [some (.ref (z_a X 101)), some (.int v1), some (.int v2), none, some (.int r3), some (.int 0), some (.int 0)]) C dX3_readPlan_92 (Nat.le_of_ble_eq_true rfl) rfl ?_
  refine z_iload_n C dX3_readPlan_94 rfl rfl ?_
  refine z_bipush (v := 22) C dX3_readPlan_95 (by decide) ?_
  refine z_icmp_eq (tgt := 106) C dX3_readPlan_97 (by decide) (fun hc => ?_) (fun hc => ?_)
  · replace h := z_pos hc h
    refine z_kill (lo' := [some (.ref (z_a X 101)), some (.int v1), some (.int v2), none, some (.int r3), none, none]) [5, 6] rfl ?_
    exact t3_readPlan_J106 C v1 v2 r3 σ4 h
  · replace h := z_neg hc h
    refine z_iload_n C dX3_readPlan_100 rfl rfl ?_
    refine z_bipush (v := 26) C dX3_readPlan_101 (by decide) ?_
    refine z_icmp_ne (tgt := 160) C dX3_readPlan_103 (by decide) (fun hc => ?_) (fun hc => ?_)
    · replace h := z_neg hc h
      refine z_iload_n C dX3_readPlan_160 rfl rfl ?_
      refine z_iconst (v := 2) C dX3_readPlan_161 (by decide) ?_
      refine z_icmp_ne (tgt := 180) C dX3_readPlan_162 (by decide) (fun hc => ?_) (fun hc => ?_)
      · replace h := z_neg hc h
        exact t3_readPlan_J180 C v1 v2 r3 0 0 σ4 h
      · replace h := z_pos hc h
        refine z_aload_n C dX3_readPlan_165 rfl rfl ?_
        refine z_bipush (v := 24) C dX3_readPlan_166 (by decide) ?_
        obtain ⟨⟨⟩, σ6, mσ6, h⟩ := z_bnd2 h
        refine z_cvv (As := [.int 24]) (c := 101) (st := []) C (t3_takes 24 mσ6) kvX3_takes rfl mlX3_86 z_CF3 rfl rfl (by decide) rfl (Nat.le_of_ble_eq_true rfl) dX3_readPlan_168 ?_
        refine z_aload_n C dX3_readPlan_171 rfl rfl ?_
        refine z_iconst (v := 1) C dX3_readPlan_172 (by decide) ?_
        refine z_bipush (v := 99) C dX3_readPlan_173 (by decide) ?_
        obtain ⟨r7, σ8, mσ8, h⟩ := z_bnd2 h
        refine z_cvi (As := [.int 1, .int 99]) (c := 101) (st := []) C (t3_number 1 99 mσ8) kvX3_number rfl mlX3_68 z_CF3 rfl rfl (by decide) rfl (Nat.le_of_ble_eq_true rfl) dX3_readPlan_175 ?_
        refine z_istore (lo' := [some (.ref (z_a X 101)), some (.int v1), some (.int v2), none, some (.int r3), some (.int r7), some (.int 0)]) C dX3_readPlan_178 (Nat.le_of_ble_eq_true rfl) rfl ?_
        exact t3_readPlan_J180 C v1 v2 r3 r7 0 σ8 h
    · replace h := z_pos hc h
      refine z_kill (lo' := [some (.ref (z_a X 101)), some (.int v1), some (.int v2), none, some (.int r3), none, none]) [5, 6] rfl ?_
      exact t3_readPlan_J106 C v1 v2 r3 σ4 h
set_option maxHeartbeats 4000000 in
set_option maxRecDepth 100000 in
theorem t3_readPlan_J60 {X : z_Ct} (C : z_Cx S1 X RX3 cX3_readPlan 7 4 none) {u : Unit × z_M} (v1 : Int32) (v2 : Int32) (s0 : Int32) (σ : z_M) (h : f3_readPlan_J60 v1 v2 s0 σ = some u) : z_W S1 X 60 [some (.ref (z_a X 101)), some (.int v1), some (.int v2), none, none, none, none] [.int s0] σ (z_ov u) := by
  unfold f3_readPlan_J60 at h
  refine z_istore_n (lo' := [some (.ref (z_a X 101)), some (.int v1), some (.int v2), some (.int s0), none, none, none]) C dX3_readPlan_60 rfl (Nat.le_of_ble_eq_true rfl) rfl ?_
  refine z_aload_n C dX3_readPlan_61 rfl rfl ?_
  refine z_iload_n C dX3_readPlan_62 rfl rfl ?_
  refine z_if_eq (tgt := 70) C dX3_readPlan_63 (by decide) (fun hc => ?_) (fun hc => ?_)
  · replace h := z_pos hc h
    refine z_bipush (v := 22) C dX3_readPlan_70 (by decide) ?_
    refine z_kill (lo' := [some (.ref (z_a X 101)), some (.int v1), some (.int v2), none, none, none, none]) [3] rfl ?_
    exact t3_readPlan_J72 C v1 v2 22 σ h
  · replace h := z_neg hc h
    refine z_iload_n C dX3_readPlan_66 rfl rfl ?_
    refine z_goto (tgt := 72) C dX3_readPlan_67 (by decide) ?_
    refine z_kill (lo' := [some (.ref (z_a X 101)), some (.int v1), some (.int v2), none, none, none, none]) [3] rfl ?_
    exact t3_readPlan_J72 C v1 v2 v2 σ h
set_option maxHeartbeats 4000000 in
set_option maxRecDepth 100000 in
theorem t3_readPlan_J15 {X : z_Ct} (C : z_Cx S1 X RX3 cX3_readPlan 7 4 none) {u : Unit × z_M} (s1 : Int32) (σ : z_M) (h : f3_readPlan_J15 s1 σ = some u) : z_W S1 X 15 [some (.ref (z_a X 101)), none, none, none, none, none, none] [.int s1, .ref (z_a X 101)] σ (z_ov u) := by
  unfold f3_readPlan_J15 at h
  obtain ⟨⟨⟩, σ2, mσ2, h⟩ := z_bnd2 h
  refine z_cvv (As := [.int s1]) (c := 101) (st := []) C (t3_begins s1 mσ2) kvX3_begins rfl mlX3_90 z_CF3 rfl rfl (by decide) rfl (Nat.le_of_ble_eq_true rfl) dX3_readPlan_15 ?_
  refine z_aload_n C dX3_readPlan_18 rfl rfl ?_
  refine z_iconst (v := 0) C dX3_readPlan_19 (by decide) ?_
  refine z_sipush (v := 999) C dX3_readPlan_20 (by decide) ?_
  obtain ⟨r3, σ4, mσ4, h⟩ := z_bnd2 h
  refine z_cvi (As := [.int 0, .int 999]) (c := 101) (st := []) C (t3_number 0 999 mσ4) kvX3_number rfl mlX3_68 z_CF3 rfl rfl (by decide) rfl (Nat.le_of_ble_eq_true rfl) dX3_readPlan_23 ?_
  refine z_istore_n (lo' := [some (.ref (z_a X 101)), some (.int r3), none, none, none, none, none]) C dX3_readPlan_26 rfl (Nat.le_of_ble_eq_true rfl) rfl ?_
  refine z_aload_n C dX3_readPlan_27 rfl rfl ?_
  obtain ⟨r5, σ6, mσ6, h⟩ := z_bnd2 h
  refine z_cvi (As := []) (c := 101) (st := []) C (t3_kind mσ6) kvX3_kind rfl mlX3_52 z_CF3 rfl rfl (by decide) rfl (Nat.le_of_ble_eq_true rfl) dX3_readPlan_28 ?_
  refine z_istore_n (lo' := [some (.ref (z_a X 101)), some (.int r3), some (.int r5), none, none, none, none]) C dX3_readPlan_31 rfl (Nat.le_of_ble_eq_true rfl) rfl ?_
  refine z_iload_n C dX3_readPlan_32 rfl rfl ?_
  refine z_bipush (v := 22) C dX3_readPlan_33 (by decide) ?_
  refine z_icmp_eq (tgt := 55) C dX3_readPlan_35 (by decide) (fun hc => ?_) (fun hc => ?_)
  · replace h := z_pos hc h
    refine z_iconst (v := 1) C dX3_readPlan_55 (by decide) ?_
    refine z_goto (tgt := 60) C dX3_readPlan_56 (by decide) ?_
    exact t3_readPlan_J60 C r3 r5 1 σ6 h
  · replace h := z_neg hc h
    refine z_iload_n C dX3_readPlan_38 rfl rfl ?_
    refine z_iconst (v := 2) C dX3_readPlan_39 (by decide) ?_
    refine z_icmp_eq (tgt := 55) C dX3_readPlan_40 (by decide) (fun hc => ?_) (fun hc => ?_)
    · replace h := z_pos hc h
      refine z_iconst (v := 1) C dX3_readPlan_55 (by decide) ?_
      refine z_goto (tgt := 60) C dX3_readPlan_56 (by decide) ?_
      exact t3_readPlan_J60 C r3 r5 1 σ6 h
    · replace h := z_neg hc h
      refine z_iload_n C dX3_readPlan_43 rfl rfl ?_
      refine z_bipush (v := 25) C dX3_readPlan_44 (by decide) ?_
      refine z_icmp_eq (tgt := 55) C dX3_readPlan_46 (by decide) (fun hc => ?_) (fun hc => ?_)
      · replace h := z_pos hc h
        refine z_iconst (v := 1) C dX3_readPlan_55 (by decide) ?_
        refine z_goto (tgt := 60) C dX3_readPlan_56 (by decide) ?_
        exact t3_readPlan_J60 C r3 r5 1 σ6 h
      · replace h := z_neg hc h
        refine z_iload_n C dX3_readPlan_49 rfl rfl ?_
        refine z_bipush (v := 26) C dX3_readPlan_50 (by decide) ?_
        refine z_icmp_ne (tgt := 59) C dX3_readPlan_52 (by decide) (fun hc => ?_) (fun hc => ?_)
        · replace h := z_neg hc h
          refine z_iconst (v := 0) C dX3_readPlan_59 (by decide) ?_
          exact t3_readPlan_J60 C r3 r5 0 σ6 h
        · replace h := z_pos hc h
          refine z_iconst (v := 1) C dX3_readPlan_55 (by decide) ?_
          refine z_goto (tgt := 60) C dX3_readPlan_56 (by decide) ?_
          exact t3_readPlan_J60 C r3 r5 1 σ6 h
set_option maxHeartbeats 4000000 in
set_option maxRecDepth 100000 in
theorem t3_readPlan {a : Nat → Nat} {σ : z_M} {u : Unit × z_M} (h : f3_readPlan σ = some u) : z_Mt yX3_readPlan (z_w yX3_readPlan cX3_readPlan 7 none) 4 S1 a σ [.ref (a 101)] (z_ov u) := by
  refine z_head (lo := [some (.ref (a 101)), none, none, none, none, none, none]) (by decide) (Nat.le_of_ble_eq_true rfl) ?_ rfl ?_
  · intro i v hv
    exact z_loe (vs := [.ref (a 101)]) (n := 6) rfl (by simp [z_c1i, z_c1r]) i v hv
  · intro X hXa C
    subst hXa
    unfold f3_readPlan at h
    refine z_aload_n C dX3_readPlan_0 rfl rfl ?_
    refine z_aload_n C dX3_readPlan_1 rfl rfl ?_
    obtain ⟨r1, σ2, mσ2, h⟩ := z_bnd2 h
    refine z_cvi (As := []) (c := 101) (st := [.ref (z_a X 101)]) C (t3_kind mσ2) kvX3_kind rfl mlX3_52 z_CF3 rfl rfl (by decide) rfl (Nat.le_of_ble_eq_true rfl) dX3_readPlan_2 ?_
    refine z_bipush (v := 21) C dX3_readPlan_5 (by decide) ?_
    refine z_icmp_ne (tgt := 14) C dX3_readPlan_7 (by decide) (fun hc => ?_) (fun hc => ?_)
    · replace h := z_neg hc h
      refine z_iconst (v := 0) C dX3_readPlan_14 (by decide) ?_
      exact t3_readPlan_J15 C 0 σ2 h
    · replace h := z_pos hc h
      refine z_iconst (v := 1) C dX3_readPlan_10 (by decide) ?_
      refine z_goto (tgt := 15) C dX3_readPlan_11 (by decide) ?_
      exact t3_readPlan_J15 C 1 σ2 h
set_option maxHeartbeats 4000000 in
set_option maxRecDepth 100000 in
theorem t3_another {a : Nat → Nat} (p1 : Int32) {σ : z_M} {u : Int32 × z_M} (h : f3_another p1 σ = some u) : z_Mt yX3_another (z_w yX3_another cX3_another 4 (some .int)) 3 S1 a σ [.ref (a 101), .int p1] (z_oi u) := by
  refine z_head (lo := [some (.ref (a 101)), some (.int p1), none, none]) (by decide) (Nat.le_of_ble_eq_true rfl) ?_ rfl ?_
  · intro i v hv
    exact z_loe (vs := [.ref (a 101), .int p1]) (n := 2) rfl (by simp [z_c1i, z_c1r]) i v hv
  · intro X hXa C
    subst hXa
    unfold f3_another at h
    refine z_aload_n C dX3_another_0 rfl rfl ?_
    refine z_geti (k := 4) C z_CF3 (by decide) flX3_41 rfl rfl dX3_another_1 ?_
    refine z_istore_n (lo' := [some (.ref (z_a X 101)), some (.int p1), some (.int (σ 101 4)), none]) C dX3_another_4 rfl (Nat.le_of_ble_eq_true rfl) rfl ?_
    refine z_aload_n C dX3_another_5 rfl rfl ?_
    refine z_iconst (v := 0) C dX3_another_6 (by decide) ?_
    refine z_bipush (v := 7) C dX3_another_7 (by decide) ?_
    obtain ⟨r1, σ2, mσ2, h⟩ := z_bnd2 h
    refine z_cvi (As := [.int 0, .int 7]) (c := 101) (st := []) C (t3_number 0 7 mσ2) kvX3_number rfl mlX3_68 z_CF3 rfl rfl (by decide) rfl (Nat.le_of_ble_eq_true rfl) dX3_another_9 ?_
    refine z_istore_n (lo' := [some (.ref (z_a X 101)), some (.int p1), some (.int (σ 101 4)), some (.int r1)]) C dX3_another_12 rfl (Nat.le_of_ble_eq_true rfl) rfl ?_
    refine z_aload_n C dX3_another_13 rfl rfl ?_
    refine z_geti (k := 2) C z_CF3 (by decide) flX3_32 rfl rfl dX3_another_14 ?_
    refine z_if_ne (tgt := 31) C dX3_another_17 (by decide) (fun hc => ?_) (fun hc => ?_)
    · replace h := z_neg hc h
      refine z_iload_n C dX3_another_31 rfl rfl ?_
      exact z_iret C h dX3_another_32
    · replace h := z_pos hc h
      refine z_iload_n C dX3_another_20 rfl rfl ?_
      refine z_iload_n C dX3_another_21 rfl rfl ?_
      refine z_icmp_ne (tgt := 31) C dX3_another_22 (by decide) (fun hc => ?_) (fun hc => ?_)
      · replace h := z_neg hc h
        refine z_iload_n C dX3_another_31 rfl rfl ?_
        exact z_iret C h dX3_another_32
      · replace h := z_pos hc h
        refine z_aload_n C dX3_another_25 rfl rfl ?_
        refine z_iconst (v := 2) C dX3_another_26 (by decide) ?_
        refine z_iload_n C dX3_another_27 rfl rfl ?_
        obtain ⟨⟨⟩, σ4, mσ4, h⟩ := z_bnd2 h
        refine z_cvv (As := [.int 2, .int (σ 101 4)]) (c := 101) (st := []) C (t3_fail 2 (σ 101 4) mσ4) kvX3_fail rfl mlX3_75 z_CF3 rfl rfl (by decide) rfl (Nat.le_of_ble_eq_true rfl) dX3_another_28 ?_
        refine z_iload_n C dX3_another_31 rfl rfl ?_
        exact z_iret C h dX3_another_32
set_option maxHeartbeats 4000000 in
set_option maxRecDepth 100000 in
theorem t3_readReason_J152 {X : z_Ct} (C : z_Cx S1 X RX3 cX3_readReason 5 4 none) {u : Unit × z_M} (v2 : Int32) (v3 : Int32) (σ : z_M) (h : f3_readReason_J152 v2 v3 σ = some u) : z_W S1 X 152 [some (.ref (z_a X 101)), none, some (.int v2), some (.int v3), none] [] σ (z_ov u) := by
  unfold f3_readReason_J152 at h
  refine z_aload_n C dX3_readReason_152 rfl rfl ?_
  refine z_bipush (v := 16) C dX3_readReason_153 (by decide) ?_
  obtain ⟨⟨⟩, σ2, mσ2, h⟩ := z_bnd2 h
  refine z_cvv (As := [.int 16]) (c := 101) (st := []) C (t3_takes 16 mσ2) kvX3_takes rfl mlX3_86 z_CF3 rfl rfl (by decide) rfl (Nat.le_of_ble_eq_true rfl) dX3_readReason_155 ?_
  refine z_aload_n C dX3_readReason_158 rfl rfl ?_
  refine z_iconst (v := 1) C dX3_readReason_159 (by decide) ?_
  refine z_bipush (v := 100) C dX3_readReason_160 (by decide) ?_
  obtain ⟨r3, σ4, mσ4, h⟩ := z_bnd2 h
  refine z_cvi (As := [.int 1, .int 100]) (c := 101) (st := []) C (t3_number 1 100 mσ4) kvX3_number rfl mlX3_68 z_CF3 rfl rfl (by decide) rfl (Nat.le_of_ble_eq_true rfl) dX3_readReason_162 ?_
  refine z_istore (lo' := [some (.ref (z_a X 101)), none, some (.int v2), some (.int v3), some (.int r3)]) C dX3_readReason_165 (Nat.le_of_ble_eq_true rfl) rfl ?_
  refine z_aload_n C dX3_readReason_167 rfl rfl ?_
  refine z_iload_n C dX3_readReason_168 rfl rfl ?_
  refine z_iload_n C dX3_readReason_169 rfl rfl ?_
  refine z_iload C dX3_readReason_170 rfl ?_
  refine z_iconst (v := 0) C dX3_readReason_172 (by decide) ?_
  refine z_iconst (v := 0) C dX3_readReason_173 (by decide) ?_
  obtain ⟨⟨⟩, σ6, mσ6, h⟩ := z_bnd2 h
  refine z_cvv (As := [.int v2, .int v3, .int r3, .int 0, .int 0]) (c := 101) (st := []) C (t3_finish v2 v3 r3 0 0 mσ6) kvX3_finish rfl mlX3_82 z_CF3 rfl rfl (by decide) rfl (Nat.le_of_ble_eq_true rfl) dX3_readReason_174 ?_
  exact z_vret C h dX3_readReason_177
set_option maxHeartbeats 4000000 in
set_option maxRecDepth 100000 in
theorem t3_readReason_L102 {X : z_Ct} (C : z_Cx S1 X RX3 cX3_readReason 5 4 none) {u : Unit × z_M} : ∀ (n : Nat) (v2 : Int32) (v3 : Int32) (v4 : Int32) (σ : z_M), f3_readReason_L102 n v2 v3 v4 σ = some u → z_W S1 X 102 [some (.ref (z_a X 101)), none, some (.int v2), some (.int v3), some (.int v4)] [] σ (z_ov u) := by
  intro n
  induction n with
  | zero => intro v2 v3 v4 σ h; rw [f3_readReason_L102] at h; cases h
  | succ n ih =>
    intro v2 v3 v4 σ h
    rw [f3_readReason_L102] at h
    refine z_iload C dX3_readReason_102 rfl ?_
    refine z_sipush (v := 400) C dX3_readReason_104 (by decide) ?_
    refine z_icmp_ge (tgt := 152) C dX3_readReason_107 (by decide) (fun hc => ?_) (fun hc => ?_)
    · replace h := z_neg hc h
      refine z_kill (lo' := [some (.ref (z_a X 101)), none, some (.int v2), some (.int v3), none]) [4] rfl ?_
      exact t3_readReason_J152 C v2 v3 σ h
    · replace h := z_pos hc h
      refine z_aload_n C dX3_readReason_110 rfl rfl ?_
      refine z_geti (k := 2) C z_CF3 (by decide) flX3_32 rfl rfl dX3_readReason_111 ?_
      refine z_if_ne (tgt := 152) C dX3_readReason_114 (by decide) (fun hc => ?_) (fun hc => ?_)
      · replace h := z_neg hc h
        refine z_kill (lo' := [some (.ref (z_a X 101)), none, some (.int v2), some (.int v3), none]) [4] rfl ?_
        exact t3_readReason_J152 C v2 v3 σ h
      · replace h := z_pos hc h
        refine z_aload_n C dX3_readReason_117 rfl rfl ?_
        obtain ⟨r1, σ2, mσ2, h⟩ := z_bnd2 h
        refine z_cvi (As := []) (c := 101) (st := []) C (t3_kind mσ2) kvX3_kind rfl mlX3_52 z_CF3 rfl rfl (by decide) rfl (Nat.le_of_ble_eq_true rfl) dX3_readReason_118 ?_
        refine z_bipush (v := 13) C dX3_readReason_121 (by decide) ?_
        refine z_icmp_ne (tgt := 152) C dX3_readReason_123 (by decide) (fun hc => ?_) (fun hc => ?_)
        · replace h := z_neg hc h
          refine z_kill (lo' := [some (.ref (z_a X 101)), none, some (.int v2), some (.int v3), none]) [4] rfl ?_
          exact t3_readReason_J152 C v2 v3 σ2 h
        · replace h := z_pos hc h
          refine z_aload_n C dX3_readReason_126 rfl rfl ?_
          refine z_dup C dX3_readReason_127 rfl ?_
          refine z_geti (k := 4) C z_CF3 (by decide) flX3_41 rfl rfl dX3_readReason_128 ?_
          refine z_iconst (v := 1) C dX3_readReason_131 (by decide) ?_
          refine z_iadd C dX3_readReason_132 ?_
          obtain ⟨σ3, eσ3, h⟩ := z_let_some h
          refine z_puti (k := 4) C z_CF3 (by decide) flX3_41 rfl rfl rfl rfl eσ3 dX3_readReason_133 ?_
          refine z_iload_n C dX3_readReason_136 rfl rfl ?_
          refine z_iconst (v := 1) C dX3_readReason_137 (by decide) ?_
          refine z_aload_n C dX3_readReason_138 rfl rfl ?_
          refine z_iload_n C dX3_readReason_139 rfl rfl ?_
          obtain ⟨r4, σ5, mσ5, h⟩ := z_bnd2 h
          refine z_cvi (As := [.int v2]) (c := 101) (st := [.int 1, .int v3]) C (t3_another v2 mσ5) kvX3_another rfl mlX3_78 z_CF3 rfl rfl (by decide) rfl (Nat.le_of_ble_eq_true rfl) dX3_readReason_140 ?_
          refine z_ishl C dX3_readReason_143 ?_
          refine z_ior C dX3_readReason_144 ?_
          refine z_istore_n (lo' := [some (.ref (z_a X 101)), none, some (.int v2), some (.int (v3 ||| (z_shl 1 r4))), some (.int v4)]) C dX3_readReason_145 rfl (Nat.le_of_ble_eq_true rfl) rfl ?_
          refine z_iinc (v := v4 + 1) (lo' := [some (.ref (z_a X 101)), none, some (.int v2), some (.int (v3 ||| (z_shl 1 r4))), some (.int (v4 + 1))]) C dX3_readReason_146 rfl rfl rfl ?_
          refine z_goto (tgt := 102) C dX3_readReason_149 (by decide) ?_
          exact ih v2 (v3 ||| (z_shl 1 r4)) (v4 + 1) σ5 h
set_option maxHeartbeats 4000000 in
set_option maxRecDepth 100000 in
theorem t3_readReason_J40 {X : z_Ct} (C : z_Cx S1 X RX3 cX3_readReason 5 4 none) {u : Unit × z_M} (v2 : Int32) (σ : z_M) (h : f3_readReason_J40 v2 σ = some u) : z_W S1 X 40 [some (.ref (z_a X 101)), none, some (.int v2), none, none] [] σ (z_ov u) := by
  unfold f3_readReason_J40 at h
  refine z_aload_n C dX3_readReason_40 rfl rfl ?_
  refine z_geti (k := 2) C z_CF3 (by decide) flX3_32 rfl rfl dX3_readReason_41 ?_
  refine z_if_eq (tgt := 48) C dX3_readReason_44 (by decide) (fun hc => ?_) (fun hc => ?_)
  · replace h := z_pos hc h
    refine z_aload_n C dX3_readReason_48 rfl rfl ?_
    obtain ⟨r1, σ2, mσ2, h⟩ := z_bnd2 h
    refine z_cvi (As := []) (c := 101) (st := []) C (t3_kind mσ2) kvX3_kind rfl mlX3_52 z_CF3 rfl rfl (by decide) rfl (Nat.le_of_ble_eq_true rfl) dX3_readReason_49 ?_
    refine z_bipush (v := 17) C dX3_readReason_52 (by decide) ?_
    refine z_icmp_ne (tgt := 85) C dX3_readReason_54 (by decide) (fun hc => ?_) (fun hc => ?_)
    · replace h := z_neg hc h
      refine z_aload_n C dX3_readReason_85 rfl rfl ?_
      refine z_bipush (v := 15) C dX3_readReason_86 (by decide) ?_
      obtain ⟨⟨⟩, σ4, mσ4, h⟩ := z_bnd2 h
      refine z_cvv (As := [.int 15]) (c := 101) (st := []) C (t3_takes 15 mσ4) kvX3_takes rfl mlX3_86 z_CF3 rfl rfl (by decide) rfl (Nat.le_of_ble_eq_true rfl) dX3_readReason_88 ?_
      refine z_iconst (v := 1) C dX3_readReason_91 (by decide) ?_
      refine z_aload_n C dX3_readReason_92 rfl rfl ?_
      refine z_iload_n C dX3_readReason_93 rfl rfl ?_
      obtain ⟨r5, σ6, mσ6, h⟩ := z_bnd2 h
      refine z_cvi (As := [.int v2]) (c := 101) (st := [.int 1]) C (t3_another v2 mσ6) kvX3_another rfl mlX3_78 z_CF3 rfl rfl (by decide) rfl (Nat.le_of_ble_eq_true rfl) dX3_readReason_94 ?_
      refine z_ishl C dX3_readReason_97 ?_
      refine z_istore_n (lo' := [some (.ref (z_a X 101)), none, some (.int v2), some (.int (z_shl 1 r5)), none]) C dX3_readReason_98 rfl (Nat.le_of_ble_eq_true rfl) rfl ?_
      refine z_iconst (v := 0) C dX3_readReason_99 (by decide) ?_
      refine z_istore (lo' := [some (.ref (z_a X 101)), none, some (.int v2), some (.int (z_shl 1 r5)), some (.int 0)]) C dX3_readReason_100 (Nat.le_of_ble_eq_true rfl) rfl ?_
      exact t3_readReason_L102 C _ v2 (z_shl 1 r5) 0 σ6 h
    · replace h := z_pos hc h
      refine z_aload_n C dX3_readReason_57 rfl rfl ?_
      refine z_dup C dX3_readReason_58 rfl ?_
      refine z_geti (k := 4) C z_CF3 (by decide) flX3_41 rfl rfl dX3_readReason_59 ?_
      refine z_iconst (v := 1) C dX3_readReason_62 (by decide) ?_
      refine z_iadd C dX3_readReason_63 ?_
      obtain ⟨σ7, eσ7, h⟩ := z_let_some h
      refine z_puti (k := 4) C z_CF3 (by decide) flX3_41 rfl rfl rfl rfl eσ7 dX3_readReason_64 ?_
      refine z_aload_n C dX3_readReason_67 rfl rfl ?_
      refine z_iload_n C dX3_readReason_68 rfl rfl ?_
      obtain ⟨r8, σ9, mσ9, h⟩ := z_bnd2 h
      refine z_cvi (As := [.int v2]) (c := 101) (st := []) C (t3_another v2 mσ9) kvX3_another rfl mlX3_78 z_CF3 rfl rfl (by decide) rfl (Nat.le_of_ble_eq_true rfl) dX3_readReason_69 ?_
      refine z_istore_n (lo' := [some (.ref (z_a X 101)), none, some (.int v2), some (.int r8), none]) C dX3_readReason_72 rfl (Nat.le_of_ble_eq_true rfl) rfl ?_
      refine z_aload_n C dX3_readReason_73 rfl rfl ?_
      refine z_iload_n C dX3_readReason_74 rfl rfl ?_
      refine z_iconst (v := 1) C dX3_readReason_75 (by decide) ?_
      refine z_iload_n C dX3_readReason_76 rfl rfl ?_
      refine z_ishl C dX3_readReason_77 ?_
      refine z_iconst (v := 0) C dX3_readReason_78 (by decide) ?_
      refine z_iconst (v := 0) C dX3_readReason_79 (by decide) ?_
      refine z_iconst (v := 0) C dX3_readReason_80 (by decide) ?_
      obtain ⟨⟨⟩, σ11, mσ11, h⟩ := z_bnd2 h
      refine z_cvv (As := [.int v2, .int (z_shl 1 r8), .int 0, .int 0, .int 0]) (c := 101) (st := []) C (t3_finish v2 (z_shl 1 r8) 0 0 0 mσ11) kvX3_finish rfl mlX3_82 z_CF3 rfl rfl (by decide) rfl (Nat.le_of_ble_eq_true rfl) dX3_readReason_81 ?_
      exact z_vret C h dX3_readReason_84
  · replace h := z_neg hc h
    exact z_vret C h dX3_readReason_47
set_option maxHeartbeats 4000000 in
set_option maxRecDepth 100000 in
theorem t3_readReason {a : Nat → Nat} {σ : z_M} {u : Unit × z_M} (h : f3_readReason σ = some u) : z_Mt yX3_readReason (z_w yX3_readReason cX3_readReason 5 none) 4 S1 a σ [.ref (a 101)] (z_ov u) := by
  refine z_head (lo := [some (.ref (a 101)), none, none, none, none]) (by decide) (Nat.le_of_ble_eq_true rfl) ?_ rfl ?_
  · intro i v hv
    exact z_loe (vs := [.ref (a 101)]) (n := 4) rfl (by simp [z_c1i, z_c1r]) i v hv
  · intro X hXa C
    subst hXa
    unfold f3_readReason at h
    refine z_aload_n C dX3_readReason_0 rfl rfl ?_
    refine z_geti (k := 4) C z_CF3 (by decide) flX3_41 rfl rfl dX3_readReason_1 ?_
    refine z_istore_n (lo' := [some (.ref (z_a X 101)), some (.int (σ 101 4)), none, none, none]) C dX3_readReason_4 rfl (Nat.le_of_ble_eq_true rfl) rfl ?_
    refine z_aload_n C dX3_readReason_5 rfl rfl ?_
    refine z_iconst (v := 0) C dX3_readReason_6 (by decide) ?_
    refine z_bipush (v := 7) C dX3_readReason_7 (by decide) ?_
    obtain ⟨r1, σ2, mσ2, h⟩ := z_bnd2 h
    refine z_cvi (As := [.int 0, .int 7]) (c := 101) (st := []) C (t3_number 0 7 mσ2) kvX3_number rfl mlX3_68 z_CF3 rfl rfl (by decide) rfl (Nat.le_of_ble_eq_true rfl) dX3_readReason_9 ?_
    refine z_istore_n (lo' := [some (.ref (z_a X 101)), some (.int (σ 101 4)), some (.int r1), none, none]) C dX3_readReason_12 rfl (Nat.le_of_ble_eq_true rfl) rfl ?_
    refine z_aload_n C dX3_readReason_13 rfl rfl ?_
    refine z_geti (k := 2) C z_CF3 (by decide) flX3_32 rfl rfl dX3_readReason_14 ?_
    refine z_if_ne (tgt := 40) C dX3_readReason_17 (by decide) (fun hc => ?_) (fun hc => ?_)
    · replace h := z_neg hc h
      refine z_kill (lo' := [some (.ref (z_a X 101)), none, some (.int r1), none, none]) [1] rfl ?_
      exact t3_readReason_J40 C r1 σ2 h
    · replace h := z_pos hc h
      refine z_aload_n C dX3_readReason_20 rfl rfl ?_
      refine z_geta (k := 1) (q := 102) C z_CF3 (by decide) flX3_14 rfl rfl dX3_readReason_21 ?_
      refine z_geti (k := 2) C z_CF9 (by decide) flX3_72 rfl rfl dX3_readReason_24 ?_
      refine z_aload_n C dX3_readReason_27 rfl rfl ?_
      refine z_geti (k := 6) C z_CF3 (by decide) flX3_38 rfl rfl dX3_readReason_28 ?_
      refine z_icmp_lt (tgt := 40) C dX3_readReason_31 (by decide) (fun hc => ?_) (fun hc => ?_)
      · replace h := z_pos hc h
        refine z_kill (lo' := [some (.ref (z_a X 101)), none, some (.int r1), none, none]) [1] rfl ?_
        exact t3_readReason_J40 C r1 σ2 h
      · replace h := z_neg hc h
        refine z_aload_n C dX3_readReason_34 rfl rfl ?_
        refine z_iconst (v := 3) C dX3_readReason_35 (by decide) ?_
        refine z_iload_n C dX3_readReason_36 rfl rfl ?_
        obtain ⟨⟨⟩, σ4, mσ4, h⟩ := z_bnd2 h
        refine z_cvv (As := [.int 3, .int (σ 101 4)]) (c := 101) (st := []) C (t3_fail 3 (σ 101 4) mσ4) kvX3_fail rfl mlX3_75 z_CF3 rfl rfl (by decide) rfl (Nat.le_of_ble_eq_true rfl) dX3_readReason_37 ?_
        refine z_kill (lo' := [some (.ref (z_a X 101)), none, some (.int r1), none, none]) [1] rfl ?_
        exact t3_readReason_J40 C r1 σ4 h
set_option maxHeartbeats 4000000 in
set_option maxRecDepth 100000 in
theorem t3_readWork_J79 {X : z_Ct} (C : z_Cx S1 X RX3 cX3_readWork 4 4 none) {u : Unit × z_M} (v3 : Int32) (s1 : Int32) (s2 : Int32) (σ : z_M) (h : f3_readWork_J79 v3 s1 s2 σ = some u) : z_W S1 X 79 [none, none, none, some (.int v3)] [.int s2, .int s1, .ref (z_a X 101)] σ (z_ov u) := by
  unfold f3_readWork_J79 at h
  refine z_iload_n C dX3_readWork_79 rfl rfl ?_
  refine z_iconst (v := 0) C dX3_readWork_80 (by decide) ?_
  refine z_iconst (v := 0) C dX3_readWork_81 (by decide) ?_
  obtain ⟨⟨⟩, σ2, mσ2, h⟩ := z_bnd2 h
  refine z_cvv (As := [.int s1, .int s2, .int v3, .int 0, .int 0]) (c := 101) (st := []) C (t3_finish s1 s2 v3 0 0 mσ2) kvX3_finish rfl mlX3_82 z_CF3 rfl rfl (by decide) rfl (Nat.le_of_ble_eq_true rfl) dX3_readWork_82 ?_
  exact z_vret C h dX3_readWork_85
set_option maxHeartbeats 4000000 in
set_option maxRecDepth 100000 in
theorem t3_readWork_J57 {X : z_Ct} (C : z_Cx S1 X RX3 cX3_readWork 4 4 none) {u : Unit × z_M} (v1 : Int32) (v2 : Int32) (s1 : Int32) (σ : z_M) (h : f3_readWork_J57 v1 v2 s1 σ = some u) : z_W S1 X 57 [some (.ref (z_a X 101)), some (.int v1), some (.int v2), none] [.int s1, .ref (z_a X 101)] σ (z_ov u) := by
  unfold f3_readWork_J57 at h
  obtain ⟨⟨⟩, σ2, mσ2, h⟩ := z_bnd2 h
  refine z_cvv (As := [.int s1]) (c := 101) (st := []) C (t3_takes s1 mσ2) kvX3_takes rfl mlX3_86 z_CF3 rfl rfl (by decide) rfl (Nat.le_of_ble_eq_true rfl) dX3_readWork_57 ?_
  refine z_aload_n C dX3_readWork_60 rfl rfl ?_
  refine z_iconst (v := 0) C dX3_readWork_61 (by decide) ?_
  refine z_bipush (v := 7) C dX3_readWork_62 (by decide) ?_
  obtain ⟨r3, σ4, mσ4, h⟩ := z_bnd2 h
  refine z_cvi (As := [.int 0, .int 7]) (c := 101) (st := []) C (t3_number 0 7 mσ4) kvX3_number rfl mlX3_68 z_CF3 rfl rfl (by decide) rfl (Nat.le_of_ble_eq_true rfl) dX3_readWork_64 ?_
  refine z_istore_n (lo' := [some (.ref (z_a X 101)), some (.int v1), some (.int v2), some (.int r3)]) C dX3_readWork_67 rfl (Nat.le_of_ble_eq_true rfl) rfl ?_
  refine z_aload_n C dX3_readWork_68 rfl rfl ?_
  refine z_iload_n C dX3_readWork_69 rfl rfl ?_
  refine z_iload_n C dX3_readWork_70 rfl rfl ?_
  refine z_if_eq (tgt := 78) C dX3_readWork_71 (by decide) (fun hc => ?_) (fun hc => ?_)
  · replace h := z_pos hc h
    refine z_iconst (v := 0) C dX3_readWork_78 (by decide) ?_
    refine z_kill (lo' := [none, none, none, some (.int r3)]) [0, 1, 2] rfl ?_
    exact t3_readWork_J79 C r3 v1 0 σ4 h
  · replace h := z_neg hc h
    refine z_iconst (v := 1) C dX3_readWork_74 (by decide) ?_
    refine z_goto (tgt := 79) C dX3_readWork_75 (by decide) ?_
    refine z_kill (lo' := [none, none, none, some (.int r3)]) [0, 1, 2] rfl ?_
    exact t3_readWork_J79 C r3 v1 1 σ4 h
set_option maxHeartbeats 4000000 in
set_option maxRecDepth 100000 in
theorem t3_readWork_J44 {X : z_Ct} (C : z_Cx S1 X RX3 cX3_readWork 4 4 none) {u : Unit × z_M} (v1 : Int32) (s0 : Int32) (σ : z_M) (h : f3_readWork_J44 v1 s0 σ = some u) : z_W S1 X 44 [some (.ref (z_a X 101)), some (.int v1), none, none] [.int s0] σ (z_ov u) := by
  unfold f3_readWork_J44 at h
  refine z_istore_n (lo' := [some (.ref (z_a X 101)), some (.int v1), some (.int s0), none]) C dX3_readWork_44 rfl (Nat.le_of_ble_eq_true rfl) rfl ?_
  refine z_aload_n C dX3_readWork_45 rfl rfl ?_
  refine z_iload_n C dX3_readWork_46 rfl rfl ?_
  refine z_if_eq (tgt := 55) C dX3_readWork_47 (by decide) (fun hc => ?_) (fun hc => ?_)
  · replace h := z_pos hc h
    refine z_bipush (v := 20) C dX3_readWork_55 (by decide) ?_
    exact t3_readWork_J57 C v1 s0 20 σ h
  · replace h := z_neg hc h
    refine z_bipush (v := 19) C dX3_readWork_50 (by decide) ?_
    refine z_goto (tgt := 57) C dX3_readWork_52 (by decide) ?_
    exact t3_readWork_J57 C v1 s0 19 σ h
set_option maxHeartbeats 4000000 in
set_option maxRecDepth 100000 in
theorem t3_readWork_J15 {X : z_Ct} (C : z_Cx S1 X RX3 cX3_readWork 4 4 none) {u : Unit × z_M} (s1 : Int32) (σ : z_M) (h : f3_readWork_J15 s1 σ = some u) : z_W S1 X 15 [some (.ref (z_a X 101)), none, none, none] [.int s1, .ref (z_a X 101)] σ (z_ov u) := by
  unfold f3_readWork_J15 at h
  obtain ⟨⟨⟩, σ2, mσ2, h⟩ := z_bnd2 h
  refine z_cvv (As := [.int s1]) (c := 101) (st := []) C (t3_begins s1 mσ2) kvX3_begins rfl mlX3_90 z_CF3 rfl rfl (by decide) rfl (Nat.le_of_ble_eq_true rfl) dX3_readWork_15 ?_
  refine z_aload_n C dX3_readWork_18 rfl rfl ?_
  refine z_iconst (v := 0) C dX3_readWork_19 (by decide) ?_
  refine z_aload_n C dX3_readWork_20 rfl rfl ?_
  refine z_geti (k := 5) C z_CF3 (by decide) flX3_35 rfl rfl dX3_readWork_21 ?_
  refine z_iconst (v := 1) C dX3_readWork_24 (by decide) ?_
  refine z_isub C dX3_readWork_25 ?_
  obtain ⟨r3, σ4, mσ4, h⟩ := z_bnd2 h
  refine z_cvi (As := [.int 0, .int ((σ2 101 5) - 1)]) (c := 101) (st := []) C (t3_number 0 ((σ2 101 5) - 1) mσ4) kvX3_number rfl mlX3_68 z_CF3 rfl rfl (by decide) rfl (Nat.le_of_ble_eq_true rfl) dX3_readWork_26 ?_
  refine z_istore_n (lo' := [some (.ref (z_a X 101)), some (.int r3), none, none]) C dX3_readWork_29 rfl (Nat.le_of_ble_eq_true rfl) rfl ?_
  refine z_aload_n C dX3_readWork_30 rfl rfl ?_
  obtain ⟨r5, σ6, mσ6, h⟩ := z_bnd2 h
  refine z_cvi (As := []) (c := 101) (st := []) C (t3_kind mσ6) kvX3_kind rfl mlX3_52 z_CF3 rfl rfl (by decide) rfl (Nat.le_of_ble_eq_true rfl) dX3_readWork_31 ?_
  refine z_bipush (v := 19) C dX3_readWork_34 (by decide) ?_
  refine z_icmp_ne (tgt := 43) C dX3_readWork_36 (by decide) (fun hc => ?_) (fun hc => ?_)
  · replace h := z_neg hc h
    refine z_iconst (v := 0) C dX3_readWork_43 (by decide) ?_
    exact t3_readWork_J44 C r3 0 σ6 h
  · replace h := z_pos hc h
    refine z_iconst (v := 1) C dX3_readWork_39 (by decide) ?_
    refine z_goto (tgt := 44) C dX3_readWork_40 (by decide) ?_
    exact t3_readWork_J44 C r3 1 σ6 h
set_option maxHeartbeats 4000000 in
set_option maxRecDepth 100000 in
theorem t3_readWork {a : Nat → Nat} {σ : z_M} {u : Unit × z_M} (h : f3_readWork σ = some u) : z_Mt yX3_readWork (z_w yX3_readWork cX3_readWork 4 none) 4 S1 a σ [.ref (a 101)] (z_ov u) := by
  refine z_head (lo := [some (.ref (a 101)), none, none, none]) (by decide) (Nat.le_of_ble_eq_true rfl) ?_ rfl ?_
  · intro i v hv
    exact z_loe (vs := [.ref (a 101)]) (n := 3) rfl (by simp [z_c1i, z_c1r]) i v hv
  · intro X hXa C
    subst hXa
    unfold f3_readWork at h
    refine z_aload_n C dX3_readWork_0 rfl rfl ?_
    refine z_aload_n C dX3_readWork_1 rfl rfl ?_
    obtain ⟨r1, σ2, mσ2, h⟩ := z_bnd2 h
    refine z_cvi (As := []) (c := 101) (st := [.ref (z_a X 101)]) C (t3_kind mσ2) kvX3_kind rfl mlX3_52 z_CF3 rfl rfl (by decide) rfl (Nat.le_of_ble_eq_true rfl) dX3_readWork_2 ?_
    refine z_bipush (v := 18) C dX3_readWork_5 (by decide) ?_
    refine z_icmp_ne (tgt := 14) C dX3_readWork_7 (by decide) (fun hc => ?_) (fun hc => ?_)
    · replace h := z_neg hc h
      refine z_iconst (v := 0) C dX3_readWork_14 (by decide) ?_
      exact t3_readWork_J15 C 0 σ2 h
    · replace h := z_pos hc h
      refine z_iconst (v := 1) C dX3_readWork_10 (by decide) ?_
      refine z_goto (tgt := 15) C dX3_readWork_11 (by decide) ?_
      exact t3_readWork_J15 C 1 σ2 h
set_option maxHeartbeats 4000000 in
set_option maxRecDepth 100000 in
theorem t8_isDigit_J16 {X : z_Ct} (C : z_Cx S1 X RX8 cX8_isDigit 1 1 (some .boolean)) {u : Int32 × z_M} (σ : z_M) (h : f8_isDigit_J16 σ = some u) : z_W S1 X 16 [none] [] σ (z_oi u) := by
  unfold f8_isDigit_J16 at h
  refine z_iconst (v := 0) C dX8_isDigit_16 (by decide) ?_
  exact z_zret C (by decide) h dX8_isDigit_17
set_option maxHeartbeats 4000000 in
set_option maxRecDepth 100000 in
theorem t8_isDigit {a : Nat → Nat} (p0 : Int32) {σ : z_M} {u : Int32 × z_M} (h : f8_isDigit p0 σ = some u) : z_Mt yX8_isDigit (z_w yX8_isDigit cX8_isDigit 1 (some .boolean)) 1 S1 a σ [.int p0] (z_oi u) := by
  refine z_head (lo := [some (.int p0)]) (by decide) (Nat.le_of_ble_eq_true rfl) ?_ rfl ?_
  · intro i v hv
    exact z_loe (vs := [.int p0]) (n := 0) rfl (by simp [z_c1i, z_c1r]) i v hv
  · intro X hXa C
    subst hXa
    unfold f8_isDigit at h
    refine z_iload_n C dX8_isDigit_0 rfl rfl ?_
    refine z_bipush (v := 48) C dX8_isDigit_1 (by decide) ?_
    refine z_icmp_lt (tgt := 16) C dX8_isDigit_3 (by decide) (fun hc => ?_) (fun hc => ?_)
    · replace h := z_pos hc h
      refine z_kill (lo' := [none]) [0] rfl ?_
      exact t8_isDigit_J16 C σ h
    · replace h := z_neg hc h
      refine z_iload_n C dX8_isDigit_6 rfl rfl ?_
      refine z_bipush (v := 57) C dX8_isDigit_7 (by decide) ?_
      refine z_icmp_gt (tgt := 16) C dX8_isDigit_9 (by decide) (fun hc => ?_) (fun hc => ?_)
      · replace h := z_pos hc h
        refine z_kill (lo' := [none]) [0] rfl ?_
        exact t8_isDigit_J16 C σ h
      · replace h := z_neg hc h
        refine z_iconst (v := 1) C dX8_isDigit_12 (by decide) ?_
        refine z_goto (tgt := 17) C dX8_isDigit_13 (by decide) ?_
        exact z_zret C (by decide) h dX8_isDigit_17
set_option maxHeartbeats 4000000 in
set_option maxRecDepth 100000 in
theorem t8_digitsEnd_L2 {X : z_Ct} (C : z_Cx S1 X RX8 cX8_digitsEnd 3 2 (some .int)) {u : Int32 × z_M} : ∀ (n : Nat) (v2 : Int32) (σ : z_M), f8_digitsEnd_L2 n v2 σ = some u → z_W S1 X 2 [some (.ref (z_a X 96)), none, some (.int v2)] [] σ (z_oi u) := by
  intro n
  induction n with
  | zero => intro v2 σ h; rw [f8_digitsEnd_L2] at h; cases h
  | succ n ih =>
    intro v2 σ h
    rw [f8_digitsEnd_L2] at h
    refine z_iload_n C dX8_digitsEnd_2 rfl rfl ?_
    refine z_aload_n C dX8_digitsEnd_3 rfl rfl ?_
    refine z_geti (k := 1) C z_CF8 (by decide) flX8_25 rfl rfl dX8_digitsEnd_4 ?_
    refine z_icmp_ge (tgt := 28) C dX8_digitsEnd_7 (by decide) (fun hc => ?_) (fun hc => ?_)
    · replace h := z_neg hc h
      refine z_iload_n C dX8_digitsEnd_28 rfl rfl ?_
      exact z_iret C h dX8_digitsEnd_29
    · replace h := z_pos hc h
      refine z_aload_n C dX8_digitsEnd_10 rfl rfl ?_
      refine z_geta (k := 0) (q := 97) C z_CF8 (by decide) flX8_9 rfl rfl dX8_digitsEnd_11 ?_
      refine z_iload_n C dX8_digitsEnd_14 rfl rfl ?_
      obtain ⟨b1, h⟩ := z_chk_some h
      refine z_bald C rfl rfl b1 dX8_digitsEnd_15 ?_
      obtain ⟨r2, σ3, mσ3, h⟩ := z_bnd2 h
      refine z_csi (As := [.int (σ 97 (z_ix v2))]) (st := []) C (t8_isDigit (σ 97 (z_ix v2)) mσ3) kvX8_isDigit rfl mlX8_48 (by decide) rfl (Nat.le_of_ble_eq_true rfl) dX8_digitsEnd_16 ?_
      refine z_if_eq (tgt := 28) C dX8_digitsEnd_19 (by decide) (fun hc => ?_) (fun hc => ?_)
      · replace h := z_pos hc h
        refine z_iload_n C dX8_digitsEnd_28 rfl rfl ?_
        exact z_iret C h dX8_digitsEnd_29
      · replace h := z_neg hc h
        refine z_iinc (v := v2 + 1) (lo' := [some (.ref (z_a X 96)), none, some (.int (v2 + 1))]) C dX8_digitsEnd_22 rfl rfl rfl ?_
        refine z_goto (tgt := 2) C dX8_digitsEnd_25 (by decide) ?_
        exact ih (v2 + 1) σ3 h
set_option maxHeartbeats 4000000 in
set_option maxRecDepth 100000 in
theorem t8_digitsEnd {a : Nat → Nat} (p1 : Int32) {σ : z_M} {u : Int32 × z_M} (h : f8_digitsEnd p1 σ = some u) : z_Mt yX8_digitsEnd (z_w yX8_digitsEnd cX8_digitsEnd 3 (some .int)) 2 S1 a σ [.ref (a 96), .int p1] (z_oi u) := by
  refine z_head (lo := [some (.ref (a 96)), some (.int p1), none]) (by decide) (Nat.le_of_ble_eq_true rfl) ?_ rfl ?_
  · intro i v hv
    exact z_loe (vs := [.ref (a 96), .int p1]) (n := 1) rfl (by simp [z_c1i, z_c1r]) i v hv
  · intro X hXa C
    subst hXa
    unfold f8_digitsEnd at h
    refine z_iload_n C dX8_digitsEnd_0 rfl rfl ?_
    refine z_istore_n (lo' := [some (.ref (z_a X 96)), some (.int p1), some (.int p1)]) C dX8_digitsEnd_1 rfl (Nat.le_of_ble_eq_true rfl) rfl ?_
    refine z_kill (lo' := [some (.ref (z_a X 96)), none, some (.int p1)]) [1] rfl ?_
    exact t8_digitsEnd_L2 C _ p1 σ h
set_option maxHeartbeats 4000000 in
set_option maxRecDepth 100000 in
theorem t8_isLetter_J28 {X : z_Ct} (C : z_Cx S1 X RX8 cX8_isLetter 1 1 (some .boolean)) {u : Int32 × z_M} (σ : z_M) (h : f8_isLetter_J28 σ = some u) : z_W S1 X 28 [none] [] σ (z_oi u) := by
  unfold f8_isLetter_J28 at h
  refine z_iconst (v := 0) C dX8_isLetter_28 (by decide) ?_
  exact z_zret C (by decide) h dX8_isLetter_29
set_option maxHeartbeats 4000000 in
set_option maxRecDepth 100000 in
theorem t8_isLetter_J12 {X : z_Ct} (C : z_Cx S1 X RX8 cX8_isLetter 1 1 (some .boolean)) {u : Int32 × z_M} (v0 : Int32) (σ : z_M) (h : f8_isLetter_J12 v0 σ = some u) : z_W S1 X 12 [some (.int v0)] [] σ (z_oi u) := by
  unfold f8_isLetter_J12 at h
  refine z_iload_n C dX8_isLetter_12 rfl rfl ?_
  refine z_bipush (v := 65) C dX8_isLetter_13 (by decide) ?_
  refine z_icmp_lt (tgt := 28) C dX8_isLetter_15 (by decide) (fun hc => ?_) (fun hc => ?_)
  · replace h := z_pos hc h
    refine z_kill (lo' := [none]) [0] rfl ?_
    exact t8_isLetter_J28 C σ h
  · replace h := z_neg hc h
    refine z_iload_n C dX8_isLetter_18 rfl rfl ?_
    refine z_bipush (v := 90) C dX8_isLetter_19 (by decide) ?_
    refine z_icmp_gt (tgt := 28) C dX8_isLetter_21 (by decide) (fun hc => ?_) (fun hc => ?_)
    · replace h := z_pos hc h
      refine z_kill (lo' := [none]) [0] rfl ?_
      exact t8_isLetter_J28 C σ h
    · replace h := z_neg hc h
      refine z_iconst (v := 1) C dX8_isLetter_24 (by decide) ?_
      refine z_goto (tgt := 29) C dX8_isLetter_25 (by decide) ?_
      exact z_zret C (by decide) h dX8_isLetter_29
set_option maxHeartbeats 4000000 in
set_option maxRecDepth 100000 in
theorem t8_isLetter {a : Nat → Nat} (p0 : Int32) {σ : z_M} {u : Int32 × z_M} (h : f8_isLetter p0 σ = some u) : z_Mt yX8_isLetter (z_w yX8_isLetter cX8_isLetter 1 (some .boolean)) 1 S1 a σ [.int p0] (z_oi u) := by
  refine z_head (lo := [some (.int p0)]) (by decide) (Nat.le_of_ble_eq_true rfl) ?_ rfl ?_
  · intro i v hv
    exact z_loe (vs := [.int p0]) (n := 0) rfl (by simp [z_c1i, z_c1r]) i v hv
  · intro X hXa C
    subst hXa
    unfold f8_isLetter at h
    refine z_iload_n C dX8_isLetter_0 rfl rfl ?_
    refine z_bipush (v := 97) C dX8_isLetter_1 (by decide) ?_
    refine z_icmp_lt (tgt := 12) C dX8_isLetter_3 (by decide) (fun hc => ?_) (fun hc => ?_)
    · replace h := z_pos hc h
      exact t8_isLetter_J12 C p0 σ h
    · replace h := z_neg hc h
      refine z_iload_n C dX8_isLetter_6 rfl rfl ?_
      refine z_bipush (v := 122) C dX8_isLetter_7 (by decide) ?_
      refine z_icmp_le (tgt := 24) C dX8_isLetter_9 (by decide) (fun hc => ?_) (fun hc => ?_)
      · replace h := z_neg hc h
        refine z_iconst (v := 1) C dX8_isLetter_24 (by decide) ?_
        refine z_goto (tgt := 29) C dX8_isLetter_25 (by decide) ?_
        exact z_zret C (by decide) h dX8_isLetter_29
      · replace h := z_pos hc h
        exact t8_isLetter_J12 C p0 σ h
set_option maxHeartbeats 4000000 in
set_option maxRecDepth 100000 in
theorem t8_lettersEnd_L2 {X : z_Ct} (C : z_Cx S1 X RX8 cX8_lettersEnd 3 2 (some .int)) {u : Int32 × z_M} : ∀ (n : Nat) (v2 : Int32) (σ : z_M), f8_lettersEnd_L2 n v2 σ = some u → z_W S1 X 2 [some (.ref (z_a X 96)), none, some (.int v2)] [] σ (z_oi u) := by
  intro n
  induction n with
  | zero => intro v2 σ h; rw [f8_lettersEnd_L2] at h; cases h
  | succ n ih =>
    intro v2 σ h
    rw [f8_lettersEnd_L2] at h
    refine z_iload_n C dX8_lettersEnd_2 rfl rfl ?_
    refine z_aload_n C dX8_lettersEnd_3 rfl rfl ?_
    refine z_geti (k := 1) C z_CF8 (by decide) flX8_25 rfl rfl dX8_lettersEnd_4 ?_
    refine z_icmp_ge (tgt := 28) C dX8_lettersEnd_7 (by decide) (fun hc => ?_) (fun hc => ?_)
    · replace h := z_neg hc h
      refine z_iload_n C dX8_lettersEnd_28 rfl rfl ?_
      exact z_iret C h dX8_lettersEnd_29
    · replace h := z_pos hc h
      refine z_aload_n C dX8_lettersEnd_10 rfl rfl ?_
      refine z_geta (k := 0) (q := 97) C z_CF8 (by decide) flX8_9 rfl rfl dX8_lettersEnd_11 ?_
      refine z_iload_n C dX8_lettersEnd_14 rfl rfl ?_
      obtain ⟨b1, h⟩ := z_chk_some h
      refine z_bald C rfl rfl b1 dX8_lettersEnd_15 ?_
      obtain ⟨r2, σ3, mσ3, h⟩ := z_bnd2 h
      refine z_csi (As := [.int (σ 97 (z_ix v2))]) (st := []) C (t8_isLetter (σ 97 (z_ix v2)) mσ3) kvX8_isLetter rfl mlX8_32 (by decide) rfl (Nat.le_of_ble_eq_true rfl) dX8_lettersEnd_16 ?_
      refine z_if_eq (tgt := 28) C dX8_lettersEnd_19 (by decide) (fun hc => ?_) (fun hc => ?_)
      · replace h := z_pos hc h
        refine z_iload_n C dX8_lettersEnd_28 rfl rfl ?_
        exact z_iret C h dX8_lettersEnd_29
      · replace h := z_neg hc h
        refine z_iinc (v := v2 + 1) (lo' := [some (.ref (z_a X 96)), none, some (.int (v2 + 1))]) C dX8_lettersEnd_22 rfl rfl rfl ?_
        refine z_goto (tgt := 2) C dX8_lettersEnd_25 (by decide) ?_
        exact ih (v2 + 1) σ3 h
set_option maxHeartbeats 4000000 in
set_option maxRecDepth 100000 in
theorem t8_lettersEnd {a : Nat → Nat} (p1 : Int32) {σ : z_M} {u : Int32 × z_M} (h : f8_lettersEnd p1 σ = some u) : z_Mt yX8_lettersEnd (z_w yX8_lettersEnd cX8_lettersEnd 3 (some .int)) 2 S1 a σ [.ref (a 96), .int p1] (z_oi u) := by
  refine z_head (lo := [some (.ref (a 96)), some (.int p1), none]) (by decide) (Nat.le_of_ble_eq_true rfl) ?_ rfl ?_
  · intro i v hv
    exact z_loe (vs := [.ref (a 96), .int p1]) (n := 1) rfl (by simp [z_c1i, z_c1r]) i v hv
  · intro X hXa C
    subst hXa
    unfold f8_lettersEnd at h
    refine z_iload_n C dX8_lettersEnd_0 rfl rfl ?_
    refine z_istore_n (lo' := [some (.ref (z_a X 96)), some (.int p1), some (.int p1)]) C dX8_lettersEnd_1 rfl (Nat.le_of_ble_eq_true rfl) rfl ?_
    refine z_kill (lo' := [some (.ref (z_a X 96)), none, some (.int p1)]) [1] rfl ?_
    exact t8_lettersEnd_L2 C _ p1 σ h
set_option maxHeartbeats 4000000 in
set_option maxRecDepth 100000 in
theorem t8_numberOf_L5 {X : z_Ct} (C : z_Cx S1 X RX8 cX8_numberOf 5 1 (some .int)) {u : Int32 × z_M} : ∀ (n : Nat) (v2 : Int32) (v3 : Int32) (v4 : Int32) (σ : z_M), f8_numberOf_L5 n v2 v3 v4 σ = some u → z_W S1 X 5 [some (.ref (z_a X 96)), none, some (.int v2), some (.int v3), some (.int v4)] [] σ (z_oi u) := by
  intro n
  induction n with
  | zero => intro v2 v3 v4 σ h; rw [f8_numberOf_L5] at h; cases h
  | succ n ih =>
    intro v2 v3 v4 σ h
    rw [f8_numberOf_L5] at h
    refine z_iload C dX8_numberOf_5 rfl ?_
    refine z_iload_n C dX8_numberOf_7 rfl rfl ?_
    refine z_icmp_ge (tgt := 33) C dX8_numberOf_8 (by decide) (fun hc => ?_) (fun hc => ?_)
    · replace h := z_neg hc h
      refine z_iload_n C dX8_numberOf_33 rfl rfl ?_
      exact z_iret C h dX8_numberOf_34
    · replace h := z_pos hc h
      refine z_iload_n C dX8_numberOf_11 rfl rfl ?_
      refine z_bipush (v := 10) C dX8_numberOf_12 (by decide) ?_
      refine z_imul C dX8_numberOf_14 ?_
      refine z_aload_n C dX8_numberOf_15 rfl rfl ?_
      refine z_geta (k := 0) (q := 97) C z_CF8 (by decide) flX8_9 rfl rfl dX8_numberOf_16 ?_
      refine z_iload C dX8_numberOf_19 rfl ?_
      obtain ⟨b1, h⟩ := z_chk_some h
      refine z_bald C rfl rfl b1 dX8_numberOf_21 ?_
      refine z_iadd C dX8_numberOf_22 ?_
      refine z_bipush (v := 48) C dX8_numberOf_23 (by decide) ?_
      refine z_isub C dX8_numberOf_25 ?_
      obtain ⟨x2, ex2, h⟩ := z_let_some h
      refine z_top ex2 ?_
      refine z_istore_n (lo' := [some (.ref (z_a X 96)), none, some (.int v2), some (.int x2), some (.int v4)]) C dX8_numberOf_26 rfl (Nat.le_of_ble_eq_true rfl) rfl ?_
      refine z_iinc (v := v4 + 1) (lo' := [some (.ref (z_a X 96)), none, some (.int v2), some (.int x2), some (.int (v4 + 1))]) C dX8_numberOf_27 rfl rfl rfl ?_
      refine z_goto (tgt := 5) C dX8_numberOf_30 (by decide) ?_
      exact ih v2 x2 (v4 + 1) σ h
set_option maxHeartbeats 4000000 in
set_option maxRecDepth 100000 in
theorem t8_numberOf {a : Nat → Nat} (p1 : Int32) (p2 : Int32) {σ : z_M} {u : Int32 × z_M} (h : f8_numberOf p1 p2 σ = some u) : z_Mt yX8_numberOf (z_w yX8_numberOf cX8_numberOf 5 (some .int)) 1 S1 a σ [.ref (a 96), .int p1, .int p2] (z_oi u) := by
  refine z_head (lo := [some (.ref (a 96)), some (.int p1), some (.int p2), none, none]) (by decide) (Nat.le_of_ble_eq_true rfl) ?_ rfl ?_
  · intro i v hv
    exact z_loe (vs := [.ref (a 96), .int p1, .int p2]) (n := 2) rfl (by simp [z_c1i, z_c1r]) i v hv
  · intro X hXa C
    subst hXa
    unfold f8_numberOf at h
    refine z_iconst (v := 0) C dX8_numberOf_0 (by decide) ?_
    refine z_istore_n (lo' := [some (.ref (z_a X 96)), some (.int p1), some (.int p2), some (.int 0), none]) C dX8_numberOf_1 rfl (Nat.le_of_ble_eq_true rfl) rfl ?_
    refine z_iload_n C dX8_numberOf_2 rfl rfl ?_
    refine z_istore (lo' := [some (.ref (z_a X 96)), some (.int p1), some (.int p2), some (.int 0), some (.int p1)]) C dX8_numberOf_3 (Nat.le_of_ble_eq_true rfl) rfl ?_
    refine z_kill (lo' := [some (.ref (z_a X 96)), none, some (.int p2), some (.int 0), some (.int p1)]) [1] rfl ?_
    exact t8_numberOf_L5 C _ p2 0 p1 σ h
set_option maxHeartbeats 4000000 in
set_option maxRecDepth 100000 in
theorem t8_put {a : Nat → Nat} (p1 : Int32) (p2 : Int32) (p3 : Int32) {σ : z_M} {u : Unit × z_M} (h : f8_put p1 p2 p3 σ = some u) : z_Mt yX8_put (z_w yX8_put cX8_put 4 none) 1 S1 a σ [.ref (a 96), .int p1, .int p2, .int p3] (z_ov u) := by
  refine z_head (lo := [some (.ref (a 96)), some (.int p1), some (.int p2), some (.int p3)]) (by decide) (Nat.le_of_ble_eq_true rfl) ?_ rfl ?_
  · intro i v hv
    exact z_loe (vs := [.ref (a 96), .int p1, .int p2, .int p3]) (n := 0) rfl (by simp [z_c1i, z_c1r]) i v hv
  · intro X hXa C
    subst hXa
    unfold f8_put at h
    refine z_aload_n C dX8_put_0 rfl rfl ?_
    refine z_geti (k := 5) C z_CF8 (by decide) flX8_29 rfl rfl dX8_put_1 ?_
    refine z_sipush (v := 400) C dX8_put_4 (by decide) ?_
    refine z_icmp_gt (tgt := 50) C dX8_put_7 (by decide) (fun hc => ?_) (fun hc => ?_)
    · replace h := z_pos hc h
      exact z_vret C h dX8_put_50
    · replace h := z_neg hc h
      refine z_aload_n C dX8_put_10 rfl rfl ?_
      refine z_geta (k := 2) (q := 98) C z_CF8 (by decide) flX8_15 rfl rfl dX8_put_11 ?_
      refine z_aload_n C dX8_put_14 rfl rfl ?_
      refine z_geti (k := 5) C z_CF8 (by decide) flX8_29 rfl rfl dX8_put_15 ?_
      refine z_iload_n C dX8_put_18 rfl rfl ?_
      obtain ⟨b1, h⟩ := z_chk_some h
      obtain ⟨σ2, eσ2, h⟩ := z_let_some h
      refine z_iast C rfl rfl b1 eσ2 dX8_put_19 ?_
      refine z_aload_n C dX8_put_20 rfl rfl ?_
      refine z_geta (k := 3) (q := 99) C z_CF8 (by decide) flX8_19 rfl rfl dX8_put_21 ?_
      refine z_aload_n C dX8_put_24 rfl rfl ?_
      refine z_geti (k := 5) C z_CF8 (by decide) flX8_29 rfl rfl dX8_put_25 ?_
      refine z_iload_n C dX8_put_28 rfl rfl ?_
      obtain ⟨b3, h⟩ := z_chk_some h
      obtain ⟨σ4, eσ4, h⟩ := z_let_some h
      refine z_iast C rfl rfl b3 eσ4 dX8_put_29 ?_
      refine z_aload_n C dX8_put_30 rfl rfl ?_
      refine z_geta (k := 4) (q := 100) C z_CF8 (by decide) flX8_22 rfl rfl dX8_put_31 ?_
      refine z_aload_n C dX8_put_34 rfl rfl ?_
      refine z_geti (k := 5) C z_CF8 (by decide) flX8_29 rfl rfl dX8_put_35 ?_
      refine z_iload_n C dX8_put_38 rfl rfl ?_
      obtain ⟨b5, h⟩ := z_chk_some h
      obtain ⟨σ6, eσ6, h⟩ := z_let_some h
      refine z_iast C rfl rfl b5 eσ6 dX8_put_39 ?_
      refine z_aload_n C dX8_put_40 rfl rfl ?_
      refine z_dup C dX8_put_41 rfl ?_
      refine z_geti (k := 5) C z_CF8 (by decide) flX8_29 rfl rfl dX8_put_42 ?_
      refine z_iconst (v := 1) C dX8_put_45 (by decide) ?_
      refine z_iadd C dX8_put_46 ?_
      obtain ⟨σ7, eσ7, h⟩ := z_let_some h
      refine z_puti (k := 5) C z_CF8 (by decide) flX8_29 rfl rfl rfl rfl eσ7 dX8_put_47 ?_
      exact z_vret C h dX8_put_50
set_option maxHeartbeats 4000000 in
set_option maxRecDepth 100000 in
theorem t9_clear {a : Nat → Nat} (c0 : Nat) {σ : z_M} (hk0 : S1.1 c0 = 9) {u : Unit × z_M} (h : f9_clear c0 σ = some u) : z_Mt yX9_clear (z_w yX9_clear cX9_clear 1 none) 1 S1 a σ [.ref (a c0)] (z_ov u) := by
  refine z_head (lo := [some (.ref (a c0))]) (by decide) (Nat.le_of_ble_eq_true rfl) ?_ rfl ?_
  · intro i v hv
    exact z_loe (vs := [.ref (a c0)]) (n := 0) rfl (by simp [z_c1i, z_c1r]) i v hv
  · intro X hXa C
    subst hXa
    unfold f9_clear at h
    refine z_aload_n C dX9_clear_0 rfl rfl ?_
    refine z_iconst (v := 0) C dX9_clear_1 (by decide) ?_
    obtain ⟨σ1, eσ1, h⟩ := z_let_some h
    refine z_puti (k := 2) C z_CF9 (by decide) flX9_16 rfl rfl hk0 (sh9_n2 hk0) eσ1 dX9_clear_2 ?_
    refine z_aload_n C dX9_clear_5 rfl rfl ?_
    refine z_iconst (v := 0) C dX9_clear_6 (by decide) ?_
    obtain ⟨σ2, eσ2, h⟩ := z_let_some h
    refine z_puti (k := 3) C z_CF9 (by decide) flX9_20 rfl rfl hk0 (sh9_n3 hk0) eσ2 dX9_clear_7 ?_
    exact z_vret C h dX9_clear_10
set_option maxHeartbeats 4000000 in
set_option maxRecDepth 100000 in
theorem t9_copyFrom {a : Nat → Nat} (c0 : Nat) (c1 : Nat) {σ : z_M} (hk0 : S1.1 c0 = 9) (hk1 : S1.1 c1 = 9) {u : Unit × z_M} (h : f9_copyFrom c0 c1 σ = some u) : z_Mt yX9_copyFrom (z_w yX9_copyFrom cX9_copyFrom 2 none) 1 S1 a σ [.ref (a c0), .ref (a c1)] (z_ov u) := by
  refine z_head (lo := [some (.ref (a c0)), some (.ref (a c1))]) (by decide) (Nat.le_of_ble_eq_true rfl) ?_ rfl ?_
  · intro i v hv
    exact z_loe (vs := [.ref (a c0), .ref (a c1)]) (n := 0) rfl (by simp [z_c1i, z_c1r]) i v hv
  · intro X hXa C
    subst hXa
    unfold f9_copyFrom at h
    refine z_aload_n C dX9_copyFrom_0 rfl rfl ?_
    refine z_geta (k := 0) (q := (c1 + 1)) C z_CF9 (by decide) flX9_9 hk1 (sh9_r0 hk1) dX9_copyFrom_1 ?_
    refine z_iconst (v := 0) C dX9_copyFrom_4 (by decide) ?_
    refine z_aload_n C dX9_copyFrom_5 rfl rfl ?_
    refine z_geta (k := 0) (q := (c0 + 1)) C z_CF9 (by decide) flX9_9 hk0 (sh9_r0 hk0) dX9_copyFrom_6 ?_
    refine z_iconst (v := 0) C dX9_copyFrom_9 (by decide) ?_
    refine z_aload_n C dX9_copyFrom_10 rfl rfl ?_
    refine z_geta (k := 0) (q := (c0 + 1)) C z_CF9 (by decide) flX9_9 hk0 (sh9_r0 hk0) dX9_copyFrom_11 ?_
    refine z_alen (v := Int32.ofNat (S1.2.1 (c0 + 1))) C (sh9_k0 hk0) rfl rfl dX9_copyFrom_14 ?_
    refine z_aload_n C dX9_copyFrom_15 rfl rfl ?_
    refine z_geti (k := 2) C z_CF9 (by decide) flX9_16 hk1 (sh9_n2 hk1) dX9_copyFrom_16 ?_
    refine z_iconst (v := 5) C dX9_copyFrom_19 (by decide) ?_
    refine z_imul C dX9_copyFrom_20 ?_
    refine z_mmin (st := [.int 0, .ref (z_a X (c0 + 1)), .int 0, .ref (z_a X (c1 + 1))]) C rfl (Nat.le_of_ble_eq_true rfl) mlX9_23 dX9_copyFrom_21 ?_
    obtain ⟨b1, h⟩ := z_chk_some h
    obtain ⟨σ2, eσ2, h⟩ := z_let_some h
    refine z_copyi (st := []) C (sh9_k0 hk1) (sh9_k0 hk0) rfl rfl b1 eσ2 rfl (Nat.le_of_ble_eq_true rfl) mlX9_29 dX9_copyFrom_24 ?_
    refine z_aload_n C dX9_copyFrom_27 rfl rfl ?_
    refine z_geta (k := 1) (q := (c1 + 2)) C z_CF9 (by decide) flX9_13 hk1 (sh9_r1 hk1) dX9_copyFrom_28 ?_
    refine z_iconst (v := 0) C dX9_copyFrom_31 (by decide) ?_
    refine z_aload_n C dX9_copyFrom_32 rfl rfl ?_
    refine z_geta (k := 1) (q := (c0 + 2)) C z_CF9 (by decide) flX9_13 hk0 (sh9_r1 hk0) dX9_copyFrom_33 ?_
    refine z_iconst (v := 0) C dX9_copyFrom_36 (by decide) ?_
    refine z_aload_n C dX9_copyFrom_37 rfl rfl ?_
    refine z_geta (k := 1) (q := (c0 + 2)) C z_CF9 (by decide) flX9_13 hk0 (sh9_r1 hk0) dX9_copyFrom_38 ?_
    refine z_alen (v := Int32.ofNat (S1.2.1 (c0 + 2))) C (sh9_k1 hk0) rfl rfl dX9_copyFrom_41 ?_
    refine z_aload_n C dX9_copyFrom_42 rfl rfl ?_
    refine z_geti (k := 3) C z_CF9 (by decide) flX9_20 hk1 (sh9_n3 hk1) dX9_copyFrom_43 ?_
    refine z_mmin (st := [.int 0, .ref (z_a X (c0 + 2)), .int 0, .ref (z_a X (c1 + 2))]) C rfl (Nat.le_of_ble_eq_true rfl) mlX9_23 dX9_copyFrom_46 ?_
    obtain ⟨b3, h⟩ := z_chk_some h
    obtain ⟨σ4, eσ4, h⟩ := z_let_some h
    refine z_copyi (st := []) C (sh9_k1 hk1) (sh9_k1 hk0) rfl rfl b3 eσ4 rfl (Nat.le_of_ble_eq_true rfl) mlX9_29 dX9_copyFrom_49 ?_
    refine z_aload_n C dX9_copyFrom_52 rfl rfl ?_
    refine z_aload_n C dX9_copyFrom_53 rfl rfl ?_
    refine z_geti (k := 2) C z_CF9 (by decide) flX9_16 hk1 (sh9_n2 hk1) dX9_copyFrom_54 ?_
    obtain ⟨σ5, eσ5, h⟩ := z_let_some h
    refine z_puti (k := 2) C z_CF9 (by decide) flX9_16 rfl rfl hk0 (sh9_n2 hk0) eσ5 dX9_copyFrom_57 ?_
    refine z_aload_n C dX9_copyFrom_60 rfl rfl ?_
    refine z_aload_n C dX9_copyFrom_61 rfl rfl ?_
    refine z_geti (k := 3) C z_CF9 (by decide) flX9_20 hk1 (sh9_n3 hk1) dX9_copyFrom_62 ?_
    obtain ⟨σ6, eσ6, h⟩ := z_let_some h
    refine z_puti (k := 3) C z_CF9 (by decide) flX9_20 rfl rfl hk0 (sh9_n3 hk0) eσ6 dX9_copyFrom_65 ?_
    exact z_vret C h dX9_copyFrom_68
set_option maxHeartbeats 4000000 in
set_option maxRecDepth 100000 in
theorem t11_fault {a : Nat → Nat} (p1 : Int32) {σ : z_M} {u : Int32 × z_M} (h : f11_fault p1 σ = some u) : z_Mt yX11_fault (z_w yX11_fault cX11_fault 2 (some .int)) 1 S1 a σ [.ref (a 0), .int p1] (z_oi u) := by
  refine z_head (lo := [some (.ref (a 0)), some (.int p1)]) (by decide) (Nat.le_of_ble_eq_true rfl) ?_ rfl ?_
  · intro i v hv
    exact z_loe (vs := [.ref (a 0), .int p1]) (n := 0) rfl (by simp [z_c1i, z_c1r]) i v hv
  · intro X hXa C
    subst hXa
    unfold f11_fault at h
    refine z_iload_n C dX11_fault_0 rfl rfl ?_
    refine z_if_ne (tgt := 12) C dX11_fault_1 (by decide) (fun hc => ?_) (fun hc => ?_)
    · replace h := z_neg hc h
      refine z_iload_n C dX11_fault_12 rfl rfl ?_
      refine z_iconst (v := 1) C dX11_fault_13 (by decide) ?_
      refine z_icmp_ne (tgt := 27) C dX11_fault_14 (by decide) (fun hc => ?_) (fun hc => ?_)
      · replace h := z_neg hc h
        refine z_iconst (v := (-1)) C dX11_fault_27 (by decide) ?_
        exact z_iret C h dX11_fault_28
      · replace h := z_pos hc h
        refine z_aload_n C dX11_fault_17 rfl rfl ?_
        refine z_geta (k := 7) (q := 101) C z_CF11 (by decide) flX11_68 rfl rfl dX11_fault_18 ?_
        refine z_geti (k := 3) C z_CF3 (by decide) flX11_162 rfl rfl dX11_fault_21 ?_
        refine z_goto (tgt := 28) C dX11_fault_24 (by decide) ?_
        exact z_iret C h dX11_fault_28
    · replace h := z_pos hc h
      refine z_aload_n C dX11_fault_4 rfl rfl ?_
      refine z_geta (k := 7) (q := 101) C z_CF11 (by decide) flX11_68 rfl rfl dX11_fault_5 ?_
      refine z_geti (k := 2) C z_CF3 (by decide) flX11_159 rfl rfl dX11_fault_8 ?_
      exact z_iret C h dX11_fault_11
set_option maxHeartbeats 4000000 in
set_option maxRecDepth 100000 in
theorem t0_hasPot {a : Nat → Nat} (c0 : Nat) (p1 : Int32) {σ : z_M} (hk0 : S1.1 c0 = 0) {u : Int32 × z_M} (h : f0_hasPot c0 p1 σ = some u) : z_Mt yX0_hasPot (z_w yX0_hasPot cX0_hasPot 2 (some .boolean)) 1 S1 a σ [.ref (a c0), .int p1] (z_oi u) := by
  refine z_head (lo := [some (.ref (a c0)), some (.int p1)]) (by decide) (Nat.le_of_ble_eq_true rfl) ?_ rfl ?_
  · intro i v hv
    exact z_loe (vs := [.ref (a c0), .int p1]) (n := 0) rfl (by simp [z_c1i, z_c1r]) i v hv
  · intro X hXa C
    subst hXa
    unfold f0_hasPot at h
    refine z_aload_n C dX0_hasPot_0 rfl rfl ?_
    refine z_geta (k := 1) (q := (c0 + 2)) C z_CF0 (by decide) flX0_15 hk0 (sh0_r1 hk0) dX0_hasPot_1 ?_
    refine z_iload_n C dX0_hasPot_4 rfl rfl ?_
    obtain ⟨b1, h⟩ := z_chk_some h
    refine z_iald C (sh0_k1 hk0) (sh0_l1 hk0) b1 dX0_hasPot_5 ?_
    refine z_iconst (v := (-1)) C dX0_hasPot_6 (by decide) ?_
    refine z_icmp_eq (tgt := 14) C dX0_hasPot_7 (by decide) (fun hc => ?_) (fun hc => ?_)
    · replace h := z_pos hc h
      refine z_iconst (v := 0) C dX0_hasPot_14 (by decide) ?_
      exact z_zret C (by decide) h dX0_hasPot_15
    · replace h := z_neg hc h
      refine z_iconst (v := 1) C dX0_hasPot_10 (by decide) ?_
      refine z_goto (tgt := 15) C dX0_hasPot_11 (by decide) ?_
      exact z_zret C (by decide) h dX0_hasPot_15
set_option maxHeartbeats 4000000 in
set_option maxRecDepth 100000 in
theorem t0_copyFrom {a : Nat → Nat} (c0 : Nat) (c1 : Nat) {σ : z_M} (hk0 : S1.1 c0 = 0) (hk1 : S1.1 c1 = 0) {u : Unit × z_M} (h : f0_copyFrom c0 c1 σ = some u) : z_Mt yX0_copyFrom (z_w yX0_copyFrom cX0_copyFrom 2 none) 1 S1 a σ [.ref (a c0), .ref (a c1)] (z_ov u) := by
  refine z_head (lo := [some (.ref (a c0)), some (.ref (a c1))]) (by decide) (Nat.le_of_ble_eq_true rfl) ?_ rfl ?_
  · intro i v hv
    exact z_loe (vs := [.ref (a c0), .ref (a c1)]) (n := 0) rfl (by simp [z_c1i, z_c1r]) i v hv
  · intro X hXa C
    subst hXa
    unfold f0_copyFrom at h
    refine z_aload_n C dX0_copyFrom_0 rfl rfl ?_
    refine z_geta (k := 0) (q := (c1 + 1)) C z_CF0 (by decide) flX0_9 hk1 (sh0_r0 hk1) dX0_copyFrom_1 ?_
    refine z_iconst (v := 0) C dX0_copyFrom_4 (by decide) ?_
    refine z_aload_n C dX0_copyFrom_5 rfl rfl ?_
    refine z_geta (k := 0) (q := (c0 + 1)) C z_CF0 (by decide) flX0_9 hk0 (sh0_r0 hk0) dX0_copyFrom_6 ?_
    refine z_iconst (v := 0) C dX0_copyFrom_9 (by decide) ?_
    refine z_aload_n C dX0_copyFrom_10 rfl rfl ?_
    refine z_geta (k := 0) (q := (c0 + 1)) C z_CF0 (by decide) flX0_9 hk0 (sh0_r0 hk0) dX0_copyFrom_11 ?_
    refine z_alen (v := 64) C (sh0_k0 hk0) (sh0_l0 hk0) (by decide) dX0_copyFrom_14 ?_
    obtain ⟨b1, h⟩ := z_chk_some h
    obtain ⟨σ2, eσ2, h⟩ := z_let_some h
    refine z_copyi (st := []) C (sh0_k0 hk1) (sh0_k0 hk0) (sh0_l0 hk1) (sh0_l0 hk0) b1 eσ2 rfl (Nat.le_of_ble_eq_true rfl) mlX0_27 dX0_copyFrom_15 ?_
    refine z_aload_n C dX0_copyFrom_18 rfl rfl ?_
    refine z_geta (k := 1) (q := (c1 + 2)) C z_CF0 (by decide) flX0_15 hk1 (sh0_r1 hk1) dX0_copyFrom_19 ?_
    refine z_iconst (v := 0) C dX0_copyFrom_22 (by decide) ?_
    refine z_aload_n C dX0_copyFrom_23 rfl rfl ?_
    refine z_geta (k := 1) (q := (c0 + 2)) C z_CF0 (by decide) flX0_15 hk0 (sh0_r1 hk0) dX0_copyFrom_24 ?_
    refine z_iconst (v := 0) C dX0_copyFrom_27 (by decide) ?_
    refine z_bipush (v := 8) C dX0_copyFrom_28 (by decide) ?_
    obtain ⟨b3, h⟩ := z_chk_some h
    obtain ⟨σ4, eσ4, h⟩ := z_let_some h
    refine z_copyi (st := []) C (sh0_k1 hk1) (sh0_k1 hk0) (sh0_l1 hk1) (sh0_l1 hk0) b3 eσ4 rfl (Nat.le_of_ble_eq_true rfl) mlX0_27 dX0_copyFrom_30 ?_
    refine z_aload_n C dX0_copyFrom_33 rfl rfl ?_
    refine z_geta (k := 2) (q := (c1 + 3)) C z_CF0 (by decide) flX0_18 hk1 (sh0_r2 hk1) dX0_copyFrom_34 ?_
    refine z_iconst (v := 0) C dX0_copyFrom_37 (by decide) ?_
    refine z_aload_n C dX0_copyFrom_38 rfl rfl ?_
    refine z_geta (k := 2) (q := (c0 + 3)) C z_CF0 (by decide) flX0_18 hk0 (sh0_r2 hk0) dX0_copyFrom_39 ?_
    refine z_iconst (v := 0) C dX0_copyFrom_42 (by decide) ?_
    refine z_bipush (v := 8) C dX0_copyFrom_43 (by decide) ?_
    obtain ⟨b5, h⟩ := z_chk_some h
    obtain ⟨σ6, eσ6, h⟩ := z_let_some h
    refine z_copyi (st := []) C (sh0_k2 hk1) (sh0_k2 hk0) (sh0_l2 hk1) (sh0_l2 hk0) b5 eσ6 rfl (Nat.le_of_ble_eq_true rfl) mlX0_27 dX0_copyFrom_45 ?_
    refine z_aload_n C dX0_copyFrom_48 rfl rfl ?_
    refine z_geta (k := 3) (q := (c1 + 4)) C z_CF0 (by decide) flX0_21 hk1 (sh0_r3 hk1) dX0_copyFrom_49 ?_
    refine z_iconst (v := 0) C dX0_copyFrom_52 (by decide) ?_
    refine z_aload_n C dX0_copyFrom_53 rfl rfl ?_
    refine z_geta (k := 3) (q := (c0 + 4)) C z_CF0 (by decide) flX0_21 hk0 (sh0_r3 hk0) dX0_copyFrom_54 ?_
    refine z_iconst (v := 0) C dX0_copyFrom_57 (by decide) ?_
    refine z_bipush (v := 8) C dX0_copyFrom_58 (by decide) ?_
    obtain ⟨b7, h⟩ := z_chk_some h
    obtain ⟨σ8, eσ8, h⟩ := z_let_some h
    refine z_copyi (st := []) C (sh0_k3 hk1) (sh0_k3 hk0) (sh0_l3 hk1) (sh0_l3 hk0) b7 eσ8 rfl (Nat.le_of_ble_eq_true rfl) mlX0_27 dX0_copyFrom_60 ?_
    refine z_aload_n C dX0_copyFrom_63 rfl rfl ?_
    refine z_geta (k := 4) (q := (c1 + 5)) C z_CF0 (by decide) flX0_24 hk1 (sh0_r4 hk1) dX0_copyFrom_64 ?_
    refine z_iconst (v := 0) C dX0_copyFrom_67 (by decide) ?_
    refine z_aload_n C dX0_copyFrom_68 rfl rfl ?_
    refine z_geta (k := 4) (q := (c0 + 5)) C z_CF0 (by decide) flX0_24 hk0 (sh0_r4 hk0) dX0_copyFrom_69 ?_
    refine z_iconst (v := 0) C dX0_copyFrom_72 (by decide) ?_
    refine z_bipush (v := 8) C dX0_copyFrom_73 (by decide) ?_
    obtain ⟨b9, h⟩ := z_chk_some h
    obtain ⟨σ10, eσ10, h⟩ := z_let_some h
    refine z_copyi (st := []) C (sh0_k4 hk1) (sh0_k4 hk0) (sh0_l4 hk1) (sh0_l4 hk0) b9 eσ10 rfl (Nat.le_of_ble_eq_true rfl) mlX0_27 dX0_copyFrom_75 ?_
    refine z_aload_n C dX0_copyFrom_78 rfl rfl ?_
    refine z_aload_n C dX0_copyFrom_79 rfl rfl ?_
    refine z_geti (k := 5) C z_CF0 (by decide) flX0_33 hk1 (sh0_n5 hk1) dX0_copyFrom_80 ?_
    obtain ⟨σ11, eσ11, h⟩ := z_let_some h
    refine z_puti (k := 5) C z_CF0 (by decide) flX0_33 rfl rfl hk0 (sh0_n5 hk0) eσ11 dX0_copyFrom_83 ?_
    refine z_aload_n C dX0_copyFrom_86 rfl rfl ?_
    refine z_aload_n C dX0_copyFrom_87 rfl rfl ?_
    refine z_geti (k := 6) C z_CF0 (by decide) flX0_37 hk1 (sh0_n6 hk1) dX0_copyFrom_88 ?_
    obtain ⟨σ12, eσ12, h⟩ := z_let_some h
    refine z_puti (k := 6) C z_CF0 (by decide) flX0_37 rfl rfl hk0 (sh0_n6 hk0) eσ12 dX0_copyFrom_91 ?_
    refine z_aload_n C dX0_copyFrom_94 rfl rfl ?_
    refine z_aload_n C dX0_copyFrom_95 rfl rfl ?_
    refine z_geti (k := 7) C z_CF0 (by decide) flX0_40 hk1 (sh0_n7 hk1) dX0_copyFrom_96 ?_
    obtain ⟨σ13, eσ13, h⟩ := z_let_some h
    refine z_puti (k := 7) C z_CF0 (by decide) flX0_40 rfl rfl hk0 (sh0_n7 hk0) eσ13 dX0_copyFrom_99 ?_
    refine z_aload_n C dX0_copyFrom_102 rfl rfl ?_
    refine z_aload_n C dX0_copyFrom_103 rfl rfl ?_
    refine z_geti (k := 8) C z_CF0 (by decide) flX0_43 hk1 (sh0_n8 hk1) dX0_copyFrom_104 ?_
    obtain ⟨σ14, eσ14, h⟩ := z_let_some h
    refine z_puti (k := 8) C z_CF0 (by decide) flX0_43 rfl rfl hk0 (sh0_n8 hk0) eσ14 dX0_copyFrom_107 ?_
    exact z_vret C h dX0_copyFrom_110
set_option maxHeartbeats 4000000 in
set_option maxRecDepth 100000 in
theorem t10_keep_J35 {X : z_Ct} (C : z_Cx S1 X RX10 cX10_keep 2 2 none) {u : Unit × z_M} (s1 : Int32) (σ : z_M) (h : f10_keep_J35 s1 σ = some u) : z_W S1 X 35 [some (.ref (z_a X 58)), none] [.int s1, .ref (z_a X 58)] σ (z_ov u) := by
  unfold f10_keep_J35 at h
  obtain ⟨σ1, eσ1, h⟩ := z_let_some h
  refine z_puti (k := 1) C z_CF10 (by decide) flX10_16 rfl rfl rfl rfl eσ1 dX10_keep_35 ?_
  refine z_aload_n C dX10_keep_38 rfl rfl ?_
  refine z_bipush (v := 6) C dX10_keep_39 (by decide) ?_
  refine z_aload_n C dX10_keep_41 rfl rfl ?_
  refine z_geti (k := 2) C z_CF10 (by decide) flX10_24 rfl rfl dX10_keep_42 ?_
  refine z_iconst (v := 1) C dX10_keep_45 (by decide) ?_
  refine z_iadd C dX10_keep_46 ?_
  refine z_mmin (st := [.ref (z_a X 58)]) C rfl (Nat.le_of_ble_eq_true rfl) mlX10_27 dX10_keep_47 ?_
  obtain ⟨σ2, eσ2, h⟩ := z_let_some h
  refine z_puti (k := 2) C z_CF10 (by decide) flX10_24 rfl rfl rfl rfl eσ2 dX10_keep_50 ?_
  exact z_vret C h dX10_keep_53
set_option maxHeartbeats 4000000 in
set_option maxRecDepth 100000 in
theorem t10_keep {a : Nat → Nat} (c1 : Nat) {σ : z_M} (hk1 : S1.1 c1 = 0) {u : Unit × z_M} (h : f10_keep c1 σ = some u) : z_Mt yX10_keep (z_w yX10_keep cX10_keep 2 none) 2 S1 a σ [.ref (a 58), .ref (a c1)] (z_ov u) := by
  refine z_head (lo := [some (.ref (a 58)), some (.ref (a c1))]) (by decide) (Nat.le_of_ble_eq_true rfl) ?_ rfl ?_
  · intro i v hv
    exact z_loe (vs := [.ref (a 58), .ref (a c1)]) (n := 0) rfl (by simp [z_c1i, z_c1r]) i v hv
  · intro X hXa C
    subst hXa
    unfold f10_keep at h
    refine z_aload_n C dX10_keep_0 rfl rfl ?_
    refine z_geta (k := 0) (q := 59) C z_CF10 (by decide) flX10_11 rfl rfl dX10_keep_1 ?_
    refine z_aload_n C dX10_keep_4 rfl rfl ?_
    refine z_geti (k := 1) C z_CF10 (by decide) flX10_16 rfl rfl dX10_keep_5 ?_
    obtain ⟨b1, h⟩ := z_chk_some h
    refine z_aald C rfl rfl b1 (sh_ring b1) dX10_keep_8 ?_
    refine z_aload_n C dX10_keep_9 rfl rfl ?_
    obtain ⟨⟨⟩, σ3, mσ3, h⟩ := z_bnd2 h
    refine z_cvv (As := [.ref (z_a X c1)]) (c := (60 + 6 * z_ix (σ 58 1))) (st := []) C (t0_copyFrom (60 + 6 * z_ix (σ 58 1)) c1 (sh_ringk b1) hk1 mσ3) kvX0_copyFrom rfl mlX10_20 z_CF0 (sh_ringk b1) rfl (by decide) rfl (Nat.le_of_ble_eq_true rfl) dX10_keep_10 ?_
    refine z_aload_n C dX10_keep_13 rfl rfl ?_
    refine z_aload_n C dX10_keep_14 rfl rfl ?_
    refine z_geti (k := 1) C z_CF10 (by decide) flX10_16 rfl rfl dX10_keep_15 ?_
    refine z_iconst (v := 1) C dX10_keep_18 (by decide) ?_
    refine z_iadd C dX10_keep_19 ?_
    refine z_bipush (v := 6) C dX10_keep_20 (by decide) ?_
    refine z_icmp_ge (tgt := 34) C dX10_keep_22 (by decide) (fun hc => ?_) (fun hc => ?_)
    · replace h := z_neg hc h
      refine z_iconst (v := 0) C dX10_keep_34 (by decide) ?_
      refine z_kill (lo' := [some (.ref (z_a X 58)), none]) [1] rfl ?_
      exact t10_keep_J35 C 0 σ3 h
    · replace h := z_pos hc h
      refine z_aload_n C dX10_keep_25 rfl rfl ?_
      refine z_geti (k := 1) C z_CF10 (by decide) flX10_16 rfl rfl dX10_keep_26 ?_
      refine z_iconst (v := 1) C dX10_keep_29 (by decide) ?_
      refine z_iadd C dX10_keep_30 ?_
      refine z_goto (tgt := 35) C dX10_keep_31 (by decide) ?_
      refine z_kill (lo' := [some (.ref (z_a X 58)), none]) [1] rfl ?_
      exact t10_keep_J35 C ((σ3 58 1) + 1) σ3 h
set_option maxHeartbeats 4000000 in
set_option maxRecDepth 100000 in
theorem t0_putPot {a : Nat → Nat} (c0 : Nat) (p1 : Int32) (p2 : Int32) (p3 : Int32) (p4 : Int32) {σ : z_M} (hk0 : S1.1 c0 = 0) {u : Unit × z_M} (h : f0_putPot c0 p1 p2 p3 p4 σ = some u) : z_Mt yX0_putPot (z_w yX0_putPot cX0_putPot 5 none) 1 S1 a σ [.ref (a c0), .int p1, .int p2, .int p3, .int p4] (z_ov u) := by
  refine z_head (lo := [some (.ref (a c0)), some (.int p1), some (.int p2), some (.int p3), some (.int p4)]) (by decide) (Nat.le_of_ble_eq_true rfl) ?_ rfl ?_
  · intro i v hv
    exact z_loe (vs := [.ref (a c0), .int p1, .int p2, .int p3, .int p4]) (n := 0) rfl (by simp [z_c1i, z_c1r]) i v hv
  · intro X hXa C
    subst hXa
    unfold f0_putPot at h
    refine z_aload_n C dX0_putPot_0 rfl rfl ?_
    refine z_geta (k := 1) (q := (c0 + 2)) C z_CF0 (by decide) flX0_15 hk0 (sh0_r1 hk0) dX0_putPot_1 ?_
    refine z_iload_n C dX0_putPot_4 rfl rfl ?_
    refine z_iload_n C dX0_putPot_5 rfl rfl ?_
    obtain ⟨b1, h⟩ := z_chk_some h
    obtain ⟨σ2, eσ2, h⟩ := z_let_some h
    refine z_iast C (sh0_k1 hk0) (sh0_l1 hk0) b1 eσ2 dX0_putPot_6 ?_
    refine z_aload_n C dX0_putPot_7 rfl rfl ?_
    refine z_geta (k := 2) (q := (c0 + 3)) C z_CF0 (by decide) flX0_18 hk0 (sh0_r2 hk0) dX0_putPot_8 ?_
    refine z_iload_n C dX0_putPot_11 rfl rfl ?_
    refine z_iload_n C dX0_putPot_12 rfl rfl ?_
    obtain ⟨b3, h⟩ := z_chk_some h
    obtain ⟨σ4, eσ4, h⟩ := z_let_some h
    refine z_iast C (sh0_k2 hk0) (sh0_l2 hk0) b3 eσ4 dX0_putPot_13 ?_
    refine z_aload_n C dX0_putPot_14 rfl rfl ?_
    refine z_geta (k := 3) (q := (c0 + 4)) C z_CF0 (by decide) flX0_21 hk0 (sh0_r3 hk0) dX0_putPot_15 ?_
    refine z_iload_n C dX0_putPot_18 rfl rfl ?_
    refine z_iload C dX0_putPot_19 rfl ?_
    obtain ⟨b5, h⟩ := z_chk_some h
    obtain ⟨σ6, eσ6, h⟩ := z_let_some h
    refine z_iast C (sh0_k3 hk0) (sh0_l3 hk0) b5 eσ6 dX0_putPot_21 ?_
    refine z_aload_n C dX0_putPot_22 rfl rfl ?_
    refine z_geta (k := 4) (q := (c0 + 5)) C z_CF0 (by decide) flX0_24 hk0 (sh0_r4 hk0) dX0_putPot_23 ?_
    refine z_iload_n C dX0_putPot_26 rfl rfl ?_
    refine z_iconst (v := 0) C dX0_putPot_27 (by decide) ?_
    obtain ⟨b7, h⟩ := z_chk_some h
    obtain ⟨σ8, eσ8, h⟩ := z_let_some h
    refine z_iast C (sh0_k4 hk0) (sh0_l4 hk0) b7 eσ8 dX0_putPot_28 ?_
    exact z_vret C h dX0_putPot_29
set_option maxHeartbeats 4000000 in
set_option maxRecDepth 100000 in
theorem t7_write {a : Nat → Nat} (c0 : Nat) (p1 : Int32) (p2 : Int32) (p3 : Int32) {σ : z_M} (hk0 : S1.1 c0 = 7) {u : Unit × z_M} (h : f7_write c0 p1 p2 p3 σ = some u) : z_Mt yX7_write (z_w yX7_write cX7_write 5 none) 1 S1 a σ [.ref (a c0), .int p1, .int p2, .int p3] (z_ov u) := by
  refine z_head (lo := [some (.ref (a c0)), some (.int p1), some (.int p2), some (.int p3), none]) (by decide) (Nat.le_of_ble_eq_true rfl) ?_ rfl ?_
  · intro i v hv
    exact z_loe (vs := [.ref (a c0), .int p1, .int p2, .int p3]) (n := 1) rfl (by simp [z_c1i, z_c1r]) i v hv
  · intro X hXa C
    subst hXa
    unfold f7_write at h
    refine z_aload_n C dX7_write_0 rfl rfl ?_
    refine z_geti (k := 3) C z_CF7 (by decide) flX7_23 hk0 (sh7_n3 hk0) dX7_write_1 ?_
    refine z_if_eq (tgt := 20) C dX7_write_4 (by decide) (fun hc => ?_) (fun hc => ?_)
    · replace h := z_pos hc h
      exact z_vret C h dX7_write_20
    · replace h := z_neg hc h
      refine z_aload_n C dX7_write_7 rfl rfl ?_
      refine z_geta (k := 1) (q := (z_sb c0)) C z_CF7 (by decide) flX7_15 hk0 (sh7_r1 hk0) dX7_write_8 ?_
      refine z_geti (k := 8) C z_CF0 (by decide) flX7_181 (sh7_k1 hk0) (sh0_n8 (sh7_k1 hk0)) dX7_write_11 ?_
      refine z_sipush (v := 150) C dX7_write_14 (by decide) ?_
      refine z_icmp_lt (tgt := 21) C dX7_write_17 (by decide) (fun hc => ?_) (fun hc => ?_)
      · replace h := z_pos hc h
        refine z_aload_n C dX7_write_21 rfl rfl ?_
        refine z_geta (k := 1) (q := (z_sb c0)) C z_CF7 (by decide) flX7_15 hk0 (sh7_r1 hk0) dX7_write_22 ?_
        refine z_geti (k := 8) C z_CF0 (by decide) flX7_181 (sh7_k1 hk0) (sh0_n8 (sh7_k1 hk0)) dX7_write_25 ?_
        refine z_iconst (v := 4) C dX7_write_28 (by decide) ?_
        refine z_imul C dX7_write_29 ?_
        refine z_istore (lo' := [some (.ref (z_a X c0)), some (.int p1), some (.int p2), some (.int p3), some (.int ((σ (z_sb c0) 8) * 4))]) C dX7_write_30 (Nat.le_of_ble_eq_true rfl) rfl ?_
        refine z_aload_n C dX7_write_32 rfl rfl ?_
        refine z_geta (k := 0) (q := 1) C z_CF7 (by decide) flX7_9 hk0 (sh7_r0 hk0) dX7_write_33 ?_
        refine z_geta (k := 12) (q := 17) C z_CF1 (by decide) flX7_184 rfl rfl dX7_write_36 ?_
        refine z_iload C dX7_write_39 rfl ?_
        refine z_aload_n C dX7_write_41 rfl rfl ?_
        refine z_geta (k := 1) (q := (z_sb c0)) C z_CF7 (by decide) flX7_15 hk0 (sh7_r1 hk0) dX7_write_42 ?_
        refine z_geti (k := 6) C z_CF0 (by decide) flX7_74 (sh7_k1 hk0) (sh0_n6 (sh7_k1 hk0)) dX7_write_45 ?_
        obtain ⟨b1, h⟩ := z_chk_some h
        obtain ⟨σ2, eσ2, h⟩ := z_let_some h
        refine z_iast C rfl rfl b1 eσ2 dX7_write_48 ?_
        refine z_aload_n C dX7_write_49 rfl rfl ?_
        refine z_geta (k := 0) (q := 1) C z_CF7 (by decide) flX7_9 hk0 (sh7_r0 hk0) dX7_write_50 ?_
        refine z_geta (k := 12) (q := 17) C z_CF1 (by decide) flX7_184 rfl rfl dX7_write_53 ?_
        refine z_iload C dX7_write_56 rfl ?_
        refine z_iconst (v := 1) C dX7_write_58 (by decide) ?_
        refine z_iadd C dX7_write_59 ?_
        refine z_iload_n C dX7_write_60 rfl rfl ?_
        obtain ⟨b3, h⟩ := z_chk_some h
        obtain ⟨σ4, eσ4, h⟩ := z_let_some h
        refine z_iast C rfl rfl b3 eσ4 dX7_write_61 ?_
        refine z_aload_n C dX7_write_62 rfl rfl ?_
        refine z_geta (k := 0) (q := 1) C z_CF7 (by decide) flX7_9 hk0 (sh7_r0 hk0) dX7_write_63 ?_
        refine z_geta (k := 12) (q := 17) C z_CF1 (by decide) flX7_184 rfl rfl dX7_write_66 ?_
        refine z_iload C dX7_write_69 rfl ?_
        refine z_iconst (v := 2) C dX7_write_71 (by decide) ?_
        refine z_iadd C dX7_write_72 ?_
        refine z_iload_n C dX7_write_73 rfl rfl ?_
        obtain ⟨b5, h⟩ := z_chk_some h
        obtain ⟨σ6, eσ6, h⟩ := z_let_some h
        refine z_iast C rfl rfl b5 eσ6 dX7_write_74 ?_
        refine z_aload_n C dX7_write_75 rfl rfl ?_
        refine z_geta (k := 0) (q := 1) C z_CF7 (by decide) flX7_9 hk0 (sh7_r0 hk0) dX7_write_76 ?_
        refine z_geta (k := 12) (q := 17) C z_CF1 (by decide) flX7_184 rfl rfl dX7_write_79 ?_
        refine z_iload C dX7_write_82 rfl ?_
        refine z_iconst (v := 3) C dX7_write_84 (by decide) ?_
        refine z_iadd C dX7_write_85 ?_
        refine z_iload_n C dX7_write_86 rfl rfl ?_
        obtain ⟨b7, h⟩ := z_chk_some h
        obtain ⟨σ8, eσ8, h⟩ := z_let_some h
        refine z_iast C rfl rfl b7 eσ8 dX7_write_87 ?_
        refine z_aload_n C dX7_write_88 rfl rfl ?_
        refine z_geta (k := 1) (q := (z_sb c0)) C z_CF7 (by decide) flX7_15 hk0 (sh7_r1 hk0) dX7_write_89 ?_
        refine z_dup C dX7_write_92 rfl ?_
        refine z_geti (k := 8) C z_CF0 (by decide) flX7_181 (sh7_k1 hk0) (sh0_n8 (sh7_k1 hk0)) dX7_write_93 ?_
        refine z_iconst (v := 1) C dX7_write_96 (by decide) ?_
        refine z_iadd C dX7_write_97 ?_
        obtain ⟨σ9, eσ9, h⟩ := z_let_some h
        refine z_puti (k := 8) C z_CF0 (by decide) flX7_181 rfl rfl (sh7_k1 hk0) (sh0_n8 (sh7_k1 hk0)) eσ9 dX7_write_98 ?_
        exact z_vret C h dX7_write_101
      · replace h := z_neg hc h
        exact z_vret C h dX7_write_20
set_option maxHeartbeats 4000000 in
set_option maxRecDepth 100000 in
theorem t7_plant {a : Nat → Nat} (c0 : Nat) (p1 : Int32) (p2 : Int32) (p3 : Int32) {σ : z_M} (hk0 : S1.1 c0 = 7) {u : Unit × z_M} (h : f7_plant c0 p1 p2 p3 σ = some u) : z_Mt yX7_plant (z_w yX7_plant cX7_plant 4 none) 2 S1 a σ [.ref (a c0), .int p1, .int p2, .int p3] (z_ov u) := by
  refine z_head (lo := [some (.ref (a c0)), some (.int p1), some (.int p2), some (.int p3)]) (by decide) (Nat.le_of_ble_eq_true rfl) ?_ rfl ?_
  · intro i v hv
    exact z_loe (vs := [.ref (a c0), .int p1, .int p2, .int p3]) (n := 0) rfl (by simp [z_c1i, z_c1r]) i v hv
  · intro X hXa C
    subst hXa
    unfold f7_plant at h
    refine z_aload_n C dX7_plant_0 rfl rfl ?_
    refine z_geta (k := 1) (q := (z_sb c0)) C z_CF7 (by decide) flX7_15 hk0 (sh7_r1 hk0) dX7_plant_1 ?_
    refine z_iload_n C dX7_plant_4 rfl rfl ?_
    refine z_iload_n C dX7_plant_5 rfl rfl ?_
    refine z_bipush (v := 10) C dX7_plant_6 (by decide) ?_
    refine z_iload_n C dX7_plant_8 rfl rfl ?_
    obtain ⟨⟨⟩, σ2, mσ2, h⟩ := z_bnd2 h
    refine z_cvv (As := [.int p1, .int p2, .int 10, .int p3]) (c := (z_sb c0)) (st := []) C (t0_putPot (z_sb c0) p1 p2 10 p3 (sh7_k1 hk0) mσ2) kvX0_putPot rfl mlX7_36 z_CF0 (sh7_k1 hk0) rfl (by decide) rfl (Nat.le_of_ble_eq_true rfl) dX7_plant_9 ?_
    refine z_aload_n C dX7_plant_12 rfl rfl ?_
    refine z_iconst (v := 0) C dX7_plant_13 (by decide) ?_
    refine z_iload_n C dX7_plant_14 rfl rfl ?_
    refine z_iload_n C dX7_plant_15 rfl rfl ?_
    obtain ⟨⟨⟩, σ4, mσ4, h⟩ := z_bnd2 h
    refine z_cvv (As := [.int 0, .int p1, .int p2]) (c := c0) (st := []) C (t7_write c0 0 p1 p2 hk0 mσ4) kvX7_write rfl mlX7_40 z_CF7 hk0 rfl (by decide) rfl (Nat.le_of_ble_eq_true rfl) dX7_plant_16 ?_
    exact z_vret C h dX7_plant_19
set_option maxHeartbeats 4000000 in
set_option maxRecDepth 100000 in
theorem t11_pot {a : Nat → Nat} (p1 : Int32) (p2 : Int32) (p3 : Int32) {σ : z_M} {u : Int32 × z_M} (h : f11_pot p1 p2 p3 σ = some u) : z_Mt yX11_pot (z_w yX11_pot cX11_pot 4 (some .boolean)) 3 S1 a σ [.ref (a 0), .int p1, .int p2, .int p3] (z_oi u) := by
  refine z_head (lo := [some (.ref (a 0)), some (.int p1), some (.int p2), some (.int p3)]) (by decide) (Nat.le_of_ble_eq_true rfl) ?_ rfl ?_
  · intro i v hv
    exact z_loe (vs := [.ref (a 0), .int p1, .int p2, .int p3]) (n := 0) rfl (by simp [z_c1i, z_c1r]) i v hv
  · intro X hXa C
    subst hXa
    unfold f11_pot at h
    refine z_aload_n C dX11_pot_0 rfl rfl ?_
    refine z_iload_n C dX11_pot_1 rfl rfl ?_
    obtain ⟨r1, σ2, mσ2, h⟩ := z_bnd2 h
    refine z_cvi (As := [.int p1]) (c := 0) (st := []) C (t11_isHouse p1 mσ2) kvX11_isHouse rfl mlX11_165 z_CF11 rfl rfl (by decide) rfl (Nat.le_of_ble_eq_true rfl) dX11_pot_2 ?_
    refine z_if_eq (tgt := 39) C dX11_pot_5 (by decide) (fun hc => ?_) (fun hc => ?_)
    · replace h := z_pos hc h
      refine z_iconst (v := 0) C dX11_pot_39 (by decide) ?_
      exact z_zret C (by decide) h dX11_pot_40
    · replace h := z_neg hc h
      refine z_iload_n C dX11_pot_8 rfl rfl ?_
      obtain ⟨r3, σ4, mσ4, h⟩ := z_bnd2 h
      refine z_csi (As := [.int p2]) (st := []) C (t11_isThing p2 mσ4) kvX11_isThing rfl mlX11_107 (by decide) rfl (Nat.le_of_ble_eq_true rfl) dX11_pot_9 ?_
      refine z_if_eq (tgt := 39) C dX11_pot_12 (by decide) (fun hc => ?_) (fun hc => ?_)
      · replace h := z_pos hc h
        refine z_iconst (v := 0) C dX11_pot_39 (by decide) ?_
        exact z_zret C (by decide) h dX11_pot_40
      · replace h := z_neg hc h
        refine z_iload_n C dX11_pot_15 rfl rfl ?_
        refine z_if_lt (tgt := 39) C dX11_pot_16 (by decide) (fun hc => ?_) (fun hc => ?_)
        · replace h := z_pos hc h
          refine z_iconst (v := 0) C dX11_pot_39 (by decide) ?_
          exact z_zret C (by decide) h dX11_pot_40
        · replace h := z_neg hc h
          refine z_iload_n C dX11_pot_19 rfl rfl ?_
          refine z_bipush (v := 9) C dX11_pot_20 (by decide) ?_
          refine z_icmp_gt (tgt := 39) C dX11_pot_22 (by decide) (fun hc => ?_) (fun hc => ?_)
          · replace h := z_pos hc h
            refine z_iconst (v := 0) C dX11_pot_39 (by decide) ?_
            exact z_zret C (by decide) h dX11_pot_40
          · replace h := z_neg hc h
            refine z_aload_n C dX11_pot_25 rfl rfl ?_
            refine z_geta (k := 0) (q := 1) C z_CF11 (by decide) flX11_10 rfl rfl dX11_pot_26 ?_
            refine z_geta (k := 13) (q := 18) C z_CF1 (by decide) flX11_32 rfl rfl dX11_pot_29 ?_
            refine z_iload_n C dX11_pot_32 rfl rfl ?_
            obtain ⟨r5, σ6, mσ6, h⟩ := z_bnd2 h
            refine z_cvi (As := [.int p1]) (c := 18) (st := []) C (t0_hasPot 18 p1 rfl mσ6) kvX0_hasPot rfl mlX11_168 z_CF0 rfl rfl (by decide) rfl (Nat.le_of_ble_eq_true rfl) dX11_pot_33 ?_
            refine z_if_eq (tgt := 41) C dX11_pot_36 (by decide) (fun hc => ?_) (fun hc => ?_)
            · replace h := z_pos hc h
              refine z_aload_n C dX11_pot_41 rfl rfl ?_
              refine z_geta (k := 5) (q := 58) C z_CF11 (by decide) flX11_52 rfl rfl dX11_pot_42 ?_
              refine z_aload_n C dX11_pot_45 rfl rfl ?_
              refine z_geta (k := 0) (q := 1) C z_CF11 (by decide) flX11_10 rfl rfl dX11_pot_46 ?_
              refine z_geta (k := 13) (q := 18) C z_CF1 (by decide) flX11_32 rfl rfl dX11_pot_49 ?_
              obtain ⟨⟨⟩, σ8, mσ8, h⟩ := z_bnd2 h
              refine z_cvv (As := [.ref (z_a X 18)]) (c := 58) (st := []) C (t10_keep 18 rfl mσ8) kvX10_keep rfl mlX11_171 z_CF10 rfl rfl (by decide) rfl (Nat.le_of_ble_eq_true rfl) dX11_pot_52 ?_
              refine z_aload_n C dX11_pot_55 rfl rfl ?_
              refine z_geta (k := 3) (q := 50) C z_CF11 (by decide) flX11_39 rfl rfl dX11_pot_56 ?_
              refine z_iload_n C dX11_pot_59 rfl rfl ?_
              refine z_iload_n C dX11_pot_60 rfl rfl ?_
              refine z_iload_n C dX11_pot_61 rfl rfl ?_
              obtain ⟨⟨⟩, σ10, mσ10, h⟩ := z_bnd2 h
              refine z_cvv (As := [.int p1, .int p2, .int p3]) (c := 50) (st := []) C (t7_plant 50 p1 p2 p3 rfl mσ10) kvX7_plant rfl mlX11_175 z_CF7 rfl rfl (by decide) rfl (Nat.le_of_ble_eq_true rfl) dX11_pot_62 ?_
              refine z_iconst (v := 1) C dX11_pot_65 (by decide) ?_
              exact z_zret C (by decide) h dX11_pot_66
            · replace h := z_neg hc h
              refine z_iconst (v := 0) C dX11_pot_39 (by decide) ?_
              exact z_zret C (by decide) h dX11_pot_40
set_option maxHeartbeats 4000000 in
set_option maxRecDepth 100000 in
theorem t7_pour {a : Nat → Nat} (c0 : Nat) (p1 : Int32) (p2 : Int32) {σ : z_M} (hk0 : S1.1 c0 = 7) {u : Unit × z_M} (h : f7_pour c0 p1 p2 σ = some u) : z_Mt yX7_pour (z_w yX7_pour cX7_pour 3 none) 1 S1 a σ [.ref (a c0), .int p1, .int p2] (z_ov u) := by
  refine z_head (lo := [some (.ref (a c0)), some (.int p1), some (.int p2)]) (by decide) (Nat.le_of_ble_eq_true rfl) ?_ rfl ?_
  · intro i v hv
    exact z_loe (vs := [.ref (a c0), .int p1, .int p2]) (n := 0) rfl (by simp [z_c1i, z_c1r]) i v hv
  · intro X hXa C
    subst hXa
    unfold f7_pour at h
    refine z_aload_n C dX7_pour_0 rfl rfl ?_
    refine z_geta (k := 1) (q := (z_sb c0)) C z_CF7 (by decide) flX7_15 hk0 (sh7_r1 hk0) dX7_pour_1 ?_
    refine z_geta (k := 4) (q := ((z_sb c0) + 5)) C z_CF0 (by decide) flX7_44 (sh7_k1 hk0) (sh0_r4 (sh7_k1 hk0)) dX7_pour_4 ?_
    refine z_iload_n C dX7_pour_7 rfl rfl ?_
    refine z_bipush (v := 99) C dX7_pour_8 (by decide) ?_
    refine z_aload_n C dX7_pour_10 rfl rfl ?_
    refine z_geta (k := 1) (q := (z_sb c0)) C z_CF7 (by decide) flX7_15 hk0 (sh7_r1 hk0) dX7_pour_11 ?_
    refine z_geta (k := 4) (q := ((z_sb c0) + 5)) C z_CF0 (by decide) flX7_44 (sh7_k1 hk0) (sh0_r4 (sh7_k1 hk0)) dX7_pour_14 ?_
    refine z_iload_n C dX7_pour_17 rfl rfl ?_
    obtain ⟨b1, h⟩ := z_chk_some h
    refine z_iald C (sh0_k4 (sh7_k1 hk0)) (sh0_l4 (sh7_k1 hk0)) b1 dX7_pour_18 ?_
    refine z_iload_n C dX7_pour_19 rfl rfl ?_
    refine z_iadd C dX7_pour_20 ?_
    refine z_mmin (st := [.int p1, .ref (z_a X ((z_sb c0) + 5))]) C rfl (Nat.le_of_ble_eq_true rfl) mlX7_48 dX7_pour_21 ?_
    obtain ⟨b2, h⟩ := z_chk_some h
    obtain ⟨σ3, eσ3, h⟩ := z_let_some h
    refine z_iast C (sh0_k4 (sh7_k1 hk0)) (sh0_l4 (sh7_k1 hk0)) b2 eσ3 dX7_pour_24 ?_
    exact z_vret C h dX7_pour_25
set_option maxHeartbeats 4000000 in
set_option maxRecDepth 100000 in
theorem t11_water {a : Nat → Nat} (p1 : Int32) (p2 : Int32) {σ : z_M} {u : Int32 × z_M} (h : f11_water p1 p2 σ = some u) : z_Mt yX11_water (z_w yX11_water cX11_water 3 (some .boolean)) 3 S1 a σ [.ref (a 0), .int p1, .int p2] (z_oi u) := by
  refine z_head (lo := [some (.ref (a 0)), some (.int p1), some (.int p2)]) (by decide) (Nat.le_of_ble_eq_true rfl) ?_ rfl ?_
  · intro i v hv
    exact z_loe (vs := [.ref (a 0), .int p1, .int p2]) (n := 0) rfl (by simp [z_c1i, z_c1r]) i v hv
  · intro X hXa C
    subst hXa
    unfold f11_water at h
    refine z_aload_n C dX11_water_0 rfl rfl ?_
    refine z_iload_n C dX11_water_1 rfl rfl ?_
    obtain ⟨r1, σ2, mσ2, h⟩ := z_bnd2 h
    refine z_cvi (As := [.int p1]) (c := 0) (st := []) C (t11_isHouse p1 mσ2) kvX11_isHouse rfl mlX11_165 z_CF11 rfl rfl (by decide) rfl (Nat.le_of_ble_eq_true rfl) dX11_water_2 ?_
    refine z_if_eq (tgt := 33) C dX11_water_5 (by decide) (fun hc => ?_) (fun hc => ?_)
    · replace h := z_pos hc h
      refine z_iconst (v := 0) C dX11_water_33 (by decide) ?_
      exact z_zret C (by decide) h dX11_water_34
    · replace h := z_neg hc h
      refine z_iload_n C dX11_water_8 rfl rfl ?_
      refine z_iconst (v := 1) C dX11_water_9 (by decide) ?_
      refine z_icmp_lt (tgt := 33) C dX11_water_10 (by decide) (fun hc => ?_) (fun hc => ?_)
      · replace h := z_pos hc h
        refine z_iconst (v := 0) C dX11_water_33 (by decide) ?_
        exact z_zret C (by decide) h dX11_water_34
      · replace h := z_neg hc h
        refine z_iload_n C dX11_water_13 rfl rfl ?_
        refine z_bipush (v := 99) C dX11_water_14 (by decide) ?_
        refine z_icmp_gt (tgt := 33) C dX11_water_16 (by decide) (fun hc => ?_) (fun hc => ?_)
        · replace h := z_pos hc h
          refine z_iconst (v := 0) C dX11_water_33 (by decide) ?_
          exact z_zret C (by decide) h dX11_water_34
        · replace h := z_neg hc h
          refine z_aload_n C dX11_water_19 rfl rfl ?_
          refine z_geta (k := 0) (q := 1) C z_CF11 (by decide) flX11_10 rfl rfl dX11_water_20 ?_
          refine z_geta (k := 13) (q := 18) C z_CF1 (by decide) flX11_32 rfl rfl dX11_water_23 ?_
          refine z_iload_n C dX11_water_26 rfl rfl ?_
          obtain ⟨r3, σ4, mσ4, h⟩ := z_bnd2 h
          refine z_cvi (As := [.int p1]) (c := 18) (st := []) C (t0_hasPot 18 p1 rfl mσ4) kvX0_hasPot rfl mlX11_168 z_CF0 rfl rfl (by decide) rfl (Nat.le_of_ble_eq_true rfl) dX11_water_27 ?_
          refine z_if_ne (tgt := 35) C dX11_water_30 (by decide) (fun hc => ?_) (fun hc => ?_)
          · replace h := z_neg hc h
            refine z_aload_n C dX11_water_35 rfl rfl ?_
            refine z_geta (k := 5) (q := 58) C z_CF11 (by decide) flX11_52 rfl rfl dX11_water_36 ?_
            refine z_aload_n C dX11_water_39 rfl rfl ?_
            refine z_geta (k := 0) (q := 1) C z_CF11 (by decide) flX11_10 rfl rfl dX11_water_40 ?_
            refine z_geta (k := 13) (q := 18) C z_CF1 (by decide) flX11_32 rfl rfl dX11_water_43 ?_
            obtain ⟨⟨⟩, σ6, mσ6, h⟩ := z_bnd2 h
            refine z_cvv (As := [.ref (z_a X 18)]) (c := 58) (st := []) C (t10_keep 18 rfl mσ6) kvX10_keep rfl mlX11_171 z_CF10 rfl rfl (by decide) rfl (Nat.le_of_ble_eq_true rfl) dX11_water_46 ?_
            refine z_aload_n C dX11_water_49 rfl rfl ?_
            refine z_geta (k := 3) (q := 50) C z_CF11 (by decide) flX11_39 rfl rfl dX11_water_50 ?_
            refine z_iload_n C dX11_water_53 rfl rfl ?_
            refine z_iload_n C dX11_water_54 rfl rfl ?_
            obtain ⟨⟨⟩, σ8, mσ8, h⟩ := z_bnd2 h
            refine z_cvv (As := [.int p1, .int p2]) (c := 50) (st := []) C (t7_pour 50 p1 p2 rfl mσ8) kvX7_pour rfl mlX11_179 z_CF7 rfl rfl (by decide) rfl (Nat.le_of_ble_eq_true rfl) dX11_water_55 ?_
            refine z_iconst (v := 1) C dX11_water_58 (by decide) ?_
            exact z_zret C (by decide) h dX11_water_59
          · replace h := z_pos hc h
            refine z_iconst (v := 0) C dX11_water_33 (by decide) ?_
            exact z_zret C (by decide) h dX11_water_34
set_option maxHeartbeats 4000000 in
set_option maxRecDepth 100000 in
theorem t0_clearPot {a : Nat → Nat} (c0 : Nat) (p1 : Int32) {σ : z_M} (hk0 : S1.1 c0 = 0) {u : Unit × z_M} (h : f0_clearPot c0 p1 σ = some u) : z_Mt yX0_clearPot (z_w yX0_clearPot cX0_clearPot 2 none) 2 S1 a σ [.ref (a c0), .int p1] (z_ov u) := by
  refine z_head (lo := [some (.ref (a c0)), some (.int p1)]) (by decide) (Nat.le_of_ble_eq_true rfl) ?_ rfl ?_
  · intro i v hv
    exact z_loe (vs := [.ref (a c0), .int p1]) (n := 0) rfl (by simp [z_c1i, z_c1r]) i v hv
  · intro X hXa C
    subst hXa
    unfold f0_clearPot at h
    refine z_aload_n C dX0_clearPot_0 rfl rfl ?_
    refine z_iload_n C dX0_clearPot_1 rfl rfl ?_
    refine z_iconst (v := (-1)) C dX0_clearPot_2 (by decide) ?_
    refine z_iconst (v := 0) C dX0_clearPot_3 (by decide) ?_
    refine z_iconst (v := (-1)) C dX0_clearPot_4 (by decide) ?_
    obtain ⟨⟨⟩, σ2, mσ2, h⟩ := z_bnd2 h
    refine z_cvv (As := [.int p1, .int (-1), .int 0, .int (-1)]) (c := c0) (st := []) C (t0_putPot c0 p1 (-1) 0 (-1) hk0 mσ2) kvX0_putPot rfl mlX0_46 z_CF0 hk0 rfl (by decide) rfl (Nat.le_of_ble_eq_true rfl) dX0_clearPot_5 ?_
    exact z_vret C h dX0_clearPot_8
set_option maxHeartbeats 4000000 in
set_option maxRecDepth 100000 in
theorem t7_lose {a : Nat → Nat} (c0 : Nat) (p1 : Int32) (p2 : Int32) {σ : z_M} (hk0 : S1.1 c0 = 7) {u : Unit × z_M} (h : f7_lose c0 p1 p2 σ = some u) : z_Mt yX7_lose (z_w yX7_lose cX7_lose 3 none) 3 S1 a σ [.ref (a c0), .int p1, .int p2] (z_ov u) := by
  refine z_head (lo := [some (.ref (a c0)), some (.int p1), some (.int p2)]) (by decide) (Nat.le_of_ble_eq_true rfl) ?_ rfl ?_
  · intro i v hv
    exact z_loe (vs := [.ref (a c0), .int p1, .int p2]) (n := 0) rfl (by simp [z_c1i, z_c1r]) i v hv
  · intro X hXa C
    subst hXa
    unfold f7_lose at h
    refine z_aload_n C dX7_lose_0 rfl rfl ?_
    refine z_iload_n C dX7_lose_1 rfl rfl ?_
    refine z_iload_n C dX7_lose_2 rfl rfl ?_
    refine z_aload_n C dX7_lose_3 rfl rfl ?_
    refine z_geta (k := 1) (q := (z_sb c0)) C z_CF7 (by decide) flX7_15 hk0 (sh7_r1 hk0) dX7_lose_4 ?_
    refine z_geta (k := 1) (q := ((z_sb c0) + 2)) C z_CF0 (by decide) flX7_54 (sh7_k1 hk0) (sh0_r1 (sh7_k1 hk0)) dX7_lose_7 ?_
    refine z_iload_n C dX7_lose_10 rfl rfl ?_
    obtain ⟨b1, h⟩ := z_chk_some h
    refine z_iald C (sh0_k1 (sh7_k1 hk0)) (sh0_l1 (sh7_k1 hk0)) b1 dX7_lose_11 ?_
    obtain ⟨⟨⟩, σ3, mσ3, h⟩ := z_bnd2 h
    refine z_cvv (As := [.int p2, .int p1, .int (σ ((z_sb c0) + 2) (z_ix p1))]) (c := c0) (st := []) C (t7_write c0 p2 p1 (σ ((z_sb c0) + 2) (z_ix p1)) hk0 mσ3) kvX7_write rfl mlX7_40 z_CF7 hk0 rfl (by decide) rfl (Nat.le_of_ble_eq_true rfl) dX7_lose_12 ?_
    refine z_aload_n C dX7_lose_15 rfl rfl ?_
    refine z_geta (k := 1) (q := (z_sb c0)) C z_CF7 (by decide) flX7_15 hk0 (sh7_r1 hk0) dX7_lose_16 ?_
    refine z_iload_n C dX7_lose_19 rfl rfl ?_
    obtain ⟨⟨⟩, σ5, mσ5, h⟩ := z_bnd2 h
    refine z_cvv (As := [.int p1]) (c := (z_sb c0)) (st := []) C (t0_clearPot (z_sb c0) p1 (sh7_k1 hk0) mσ5) kvX0_clearPot rfl mlX7_57 z_CF0 (sh7_k1 hk0) rfl (by decide) rfl (Nat.le_of_ble_eq_true rfl) dX7_lose_20 ?_
    exact z_vret C h dX7_lose_23
set_option maxHeartbeats 4000000 in
set_option maxRecDepth 100000 in
theorem t11_weed {a : Nat → Nat} (p1 : Int32) {σ : z_M} {u : Int32 × z_M} (h : f11_weed p1 σ = some u) : z_Mt yX11_weed (z_w yX11_weed cX11_weed 2 (some .boolean)) 4 S1 a σ [.ref (a 0), .int p1] (z_oi u) := by
  refine z_head (lo := [some (.ref (a 0)), some (.int p1)]) (by decide) (Nat.le_of_ble_eq_true rfl) ?_ rfl ?_
  · intro i v hv
    exact z_loe (vs := [.ref (a 0), .int p1]) (n := 0) rfl (by simp [z_c1i, z_c1r]) i v hv
  · intro X hXa C
    subst hXa
    unfold f11_weed at h
    refine z_aload_n C dX11_weed_0 rfl rfl ?_
    refine z_iload_n C dX11_weed_1 rfl rfl ?_
    obtain ⟨r1, σ2, mσ2, h⟩ := z_bnd2 h
    refine z_cvi (As := [.int p1]) (c := 0) (st := []) C (t11_isHouse p1 mσ2) kvX11_isHouse rfl mlX11_165 z_CF11 rfl rfl (by decide) rfl (Nat.le_of_ble_eq_true rfl) dX11_weed_2 ?_
    refine z_if_eq (tgt := 22) C dX11_weed_5 (by decide) (fun hc => ?_) (fun hc => ?_)
    · replace h := z_pos hc h
      refine z_iconst (v := 0) C dX11_weed_22 (by decide) ?_
      exact z_zret C (by decide) h dX11_weed_23
    · replace h := z_neg hc h
      refine z_aload_n C dX11_weed_8 rfl rfl ?_
      refine z_geta (k := 0) (q := 1) C z_CF11 (by decide) flX11_10 rfl rfl dX11_weed_9 ?_
      refine z_geta (k := 13) (q := 18) C z_CF1 (by decide) flX11_32 rfl rfl dX11_weed_12 ?_
      refine z_iload_n C dX11_weed_15 rfl rfl ?_
      obtain ⟨r3, σ4, mσ4, h⟩ := z_bnd2 h
      refine z_cvi (As := [.int p1]) (c := 18) (st := []) C (t0_hasPot 18 p1 rfl mσ4) kvX0_hasPot rfl mlX11_168 z_CF0 rfl rfl (by decide) rfl (Nat.le_of_ble_eq_true rfl) dX11_weed_16 ?_
      refine z_if_ne (tgt := 24) C dX11_weed_19 (by decide) (fun hc => ?_) (fun hc => ?_)
      · replace h := z_neg hc h
        refine z_aload_n C dX11_weed_24 rfl rfl ?_
        refine z_geta (k := 5) (q := 58) C z_CF11 (by decide) flX11_52 rfl rfl dX11_weed_25 ?_
        refine z_aload_n C dX11_weed_28 rfl rfl ?_
        refine z_geta (k := 0) (q := 1) C z_CF11 (by decide) flX11_10 rfl rfl dX11_weed_29 ?_
        refine z_geta (k := 13) (q := 18) C z_CF1 (by decide) flX11_32 rfl rfl dX11_weed_32 ?_
        obtain ⟨⟨⟩, σ6, mσ6, h⟩ := z_bnd2 h
        refine z_cvv (As := [.ref (z_a X 18)]) (c := 58) (st := []) C (t10_keep 18 rfl mσ6) kvX10_keep rfl mlX11_171 z_CF10 rfl rfl (by decide) rfl (Nat.le_of_ble_eq_true rfl) dX11_weed_35 ?_
        refine z_aload_n C dX11_weed_38 rfl rfl ?_
        refine z_geta (k := 3) (q := 50) C z_CF11 (by decide) flX11_39 rfl rfl dX11_weed_39 ?_
        refine z_iload_n C dX11_weed_42 rfl rfl ?_
        refine z_iconst (v := 1) C dX11_weed_43 (by decide) ?_
        obtain ⟨⟨⟩, σ8, mσ8, h⟩ := z_bnd2 h
        refine z_cvv (As := [.int p1, .int 1]) (c := 50) (st := []) C (t7_lose 50 p1 1 rfl mσ8) kvX7_lose rfl mlX11_183 z_CF7 rfl rfl (by decide) rfl (Nat.le_of_ble_eq_true rfl) dX11_weed_44 ?_
        refine z_iconst (v := 1) C dX11_weed_47 (by decide) ?_
        exact z_zret C (by decide) h dX11_weed_48
      · replace h := z_pos hc h
        refine z_iconst (v := 0) C dX11_weed_22 (by decide) ?_
        exact z_zret C (by decide) h dX11_weed_23
set_option maxHeartbeats 4000000 in
set_option maxRecDepth 100000 in
theorem t0_believe {a : Nat → Nat} (c0 : Nat) (p1 : Int32) (p2 : Int32) (p3 : Int32) {σ : z_M} (hk0 : S1.1 c0 = 0) {u : Unit × z_M} (h : f0_believe c0 p1 p2 p3 σ = some u) : z_Mt yX0_believe (z_w yX0_believe cX0_believe 4 none) 1 S1 a σ [.ref (a c0), .int p1, .int p2, .int p3] (z_ov u) := by
  refine z_head (lo := [some (.ref (a c0)), some (.int p1), some (.int p2), some (.int p3)]) (by decide) (Nat.le_of_ble_eq_true rfl) ?_ rfl ?_
  · intro i v hv
    exact z_loe (vs := [.ref (a c0), .int p1, .int p2, .int p3]) (n := 0) rfl (by simp [z_c1i, z_c1r]) i v hv
  · intro X hXa C
    subst hXa
    unfold f0_believe at h
    refine z_aload_n C dX0_believe_0 rfl rfl ?_
    refine z_geta (k := 0) (q := (c0 + 1)) C z_CF0 (by decide) flX0_9 hk0 (sh0_r0 hk0) dX0_believe_1 ?_
    refine z_iload_n C dX0_believe_4 rfl rfl ?_
    refine z_bipush (v := 8) C dX0_believe_5 (by decide) ?_
    refine z_imul C dX0_believe_7 ?_
    refine z_iload_n C dX0_believe_8 rfl rfl ?_
    refine z_iadd C dX0_believe_9 ?_
    refine z_iconst (v := 0) C dX0_believe_10 (by decide) ?_
    refine z_bipush (v := 100) C dX0_believe_11 (by decide) ?_
    refine z_iload_n C dX0_believe_13 rfl rfl ?_
    refine z_mmin (st := [.int 0, .int ((p1 * 8) + p2), .ref (z_a X (c0 + 1))]) C rfl (Nat.le_of_ble_eq_true rfl) mlX0_50 dX0_believe_14 ?_
    refine z_mmax (st := [.int ((p1 * 8) + p2), .ref (z_a X (c0 + 1))]) C rfl (Nat.le_of_ble_eq_true rfl) mlX0_56 dX0_believe_17 ?_
    obtain ⟨b1, h⟩ := z_chk_some h
    obtain ⟨σ2, eσ2, h⟩ := z_let_some h
    refine z_iast C (sh0_k0 hk0) (sh0_l0 hk0) b1 eσ2 dX0_believe_20 ?_
    exact z_vret C h dX0_believe_21
set_option maxHeartbeats 4000000 in
set_option maxRecDepth 100000 in
theorem t11_tell {a : Nat → Nat} (p1 : Int32) (p2 : Int32) (p3 : Int32) {σ : z_M} {u : Int32 × z_M} (h : f11_tell p1 p2 p3 σ = some u) : z_Mt yX11_tell (z_w yX11_tell cX11_tell 4 (some .boolean)) 3 S1 a σ [.ref (a 0), .int p1, .int p2, .int p3] (z_oi u) := by
  refine z_head (lo := [some (.ref (a 0)), some (.int p1), some (.int p2), some (.int p3)]) (by decide) (Nat.le_of_ble_eq_true rfl) ?_ rfl ?_
  · intro i v hv
    exact z_loe (vs := [.ref (a 0), .int p1, .int p2, .int p3]) (n := 0) rfl (by simp [z_c1i, z_c1r]) i v hv
  · intro X hXa C
    subst hXa
    unfold f11_tell at h
    refine z_aload_n C dX11_tell_0 rfl rfl ?_
    refine z_iload_n C dX11_tell_1 rfl rfl ?_
    obtain ⟨r1, σ2, mσ2, h⟩ := z_bnd2 h
    refine z_cvi (As := [.int p1]) (c := 0) (st := []) C (t11_isHouse p1 mσ2) kvX11_isHouse rfl mlX11_165 z_CF11 rfl rfl (by decide) rfl (Nat.le_of_ble_eq_true rfl) dX11_tell_2 ?_
    refine z_if_eq (tgt := 25) C dX11_tell_5 (by decide) (fun hc => ?_) (fun hc => ?_)
    · replace h := z_pos hc h
      refine z_iconst (v := 0) C dX11_tell_25 (by decide) ?_
      exact z_zret C (by decide) h dX11_tell_26
    · replace h := z_neg hc h
      refine z_iload_n C dX11_tell_8 rfl rfl ?_
      obtain ⟨r3, σ4, mσ4, h⟩ := z_bnd2 h
      refine z_csi (As := [.int p2]) (st := []) C (t11_isThing p2 mσ4) kvX11_isThing rfl mlX11_107 (by decide) rfl (Nat.le_of_ble_eq_true rfl) dX11_tell_9 ?_
      refine z_if_eq (tgt := 25) C dX11_tell_12 (by decide) (fun hc => ?_) (fun hc => ?_)
      · replace h := z_pos hc h
        refine z_iconst (v := 0) C dX11_tell_25 (by decide) ?_
        exact z_zret C (by decide) h dX11_tell_26
      · replace h := z_neg hc h
        refine z_iload_n C dX11_tell_15 rfl rfl ?_
        refine z_if_lt (tgt := 25) C dX11_tell_16 (by decide) (fun hc => ?_) (fun hc => ?_)
        · replace h := z_pos hc h
          refine z_iconst (v := 0) C dX11_tell_25 (by decide) ?_
          exact z_zret C (by decide) h dX11_tell_26
        · replace h := z_neg hc h
          refine z_iload_n C dX11_tell_19 rfl rfl ?_
          refine z_bipush (v := 100) C dX11_tell_20 (by decide) ?_
          refine z_icmp_le (tgt := 27) C dX11_tell_22 (by decide) (fun hc => ?_) (fun hc => ?_)
          · replace h := z_neg hc h
            refine z_aload_n C dX11_tell_27 rfl rfl ?_
            refine z_geta (k := 5) (q := 58) C z_CF11 (by decide) flX11_52 rfl rfl dX11_tell_28 ?_
            refine z_aload_n C dX11_tell_31 rfl rfl ?_
            refine z_geta (k := 0) (q := 1) C z_CF11 (by decide) flX11_10 rfl rfl dX11_tell_32 ?_
            refine z_geta (k := 13) (q := 18) C z_CF1 (by decide) flX11_32 rfl rfl dX11_tell_35 ?_
            obtain ⟨⟨⟩, σ6, mσ6, h⟩ := z_bnd2 h
            refine z_cvv (As := [.ref (z_a X 18)]) (c := 58) (st := []) C (t10_keep 18 rfl mσ6) kvX10_keep rfl mlX11_171 z_CF10 rfl rfl (by decide) rfl (Nat.le_of_ble_eq_true rfl) dX11_tell_38 ?_
            refine z_aload_n C dX11_tell_41 rfl rfl ?_
            refine z_geta (k := 0) (q := 1) C z_CF11 (by decide) flX11_10 rfl rfl dX11_tell_42 ?_
            refine z_geta (k := 13) (q := 18) C z_CF1 (by decide) flX11_32 rfl rfl dX11_tell_45 ?_
            refine z_iload_n C dX11_tell_48 rfl rfl ?_
            refine z_iload_n C dX11_tell_49 rfl rfl ?_
            refine z_iload_n C dX11_tell_50 rfl rfl ?_
            obtain ⟨⟨⟩, σ8, mσ8, h⟩ := z_bnd2 h
            refine z_cvv (As := [.int p1, .int p2, .int p3]) (c := 18) (st := []) C (t0_believe 18 p1 p2 p3 rfl mσ8) kvX0_believe rfl mlX11_186 z_CF0 rfl rfl (by decide) rfl (Nat.le_of_ble_eq_true rfl) dX11_tell_51 ?_
            refine z_iconst (v := 1) C dX11_tell_54 (by decide) ?_
            exact z_zret C (by decide) h dX11_tell_55
          · replace h := z_pos hc h
            refine z_iconst (v := 0) C dX11_tell_25 (by decide) ?_
            exact z_zret C (by decide) h dX11_tell_26
set_option maxHeartbeats 4000000 in
set_option maxRecDepth 100000 in
theorem tj6_bitCount {a : Nat → Nat} (p0 : Int32) {σ : z_M} {u : Int32 × z_M} (h : fj6_bitCount p0 σ = some u) : z_Mt yJ6_bitCount_0f7a4 (z_w yJ6_bitCount_0f7a4 cJ6_bitCount_0f7a4 1 (some .int)) 1 S1 a σ [.int p0] (z_oi u) := by
  refine z_head (lo := [some (.int p0)]) (by decide) (Nat.le_of_ble_eq_true rfl) ?_ rfl ?_
  · intro i v hv
    exact z_loe (vs := [.int p0]) (n := 0) rfl (by simp [z_c1i, z_c1r]) i v hv
  · intro X hXa C
    subst hXa
    unfold fj6_bitCount at h
    refine z_iload_n C dJ6_bitCount_0f7a4_0 rfl rfl ?_
    refine z_iload_n C dJ6_bitCount_0f7a4_1 rfl rfl ?_
    refine z_iconst (v := 1) C dJ6_bitCount_0f7a4_2 (by decide) ?_
    refine z_iushr C dJ6_bitCount_0f7a4_3 ?_
    refine z_ldcw (v := 1431655765) C dJ6_bitCount_0f7a4_4 cnJ6_265 ?_
    refine z_iand C dJ6_bitCount_0f7a4_7 ?_
    refine z_isub C dJ6_bitCount_0f7a4_8 ?_
    obtain ⟨x1, ex1, h⟩ := z_let_some h
    refine z_top ex1 ?_
    refine z_istore_n (lo' := [some (.int x1)]) C dJ6_bitCount_0f7a4_9 rfl (Nat.le_of_ble_eq_true rfl) rfl ?_
    refine z_iload_n C dJ6_bitCount_0f7a4_10 rfl rfl ?_
    refine z_ldcw (v := 858993459) C dJ6_bitCount_0f7a4_11 cnJ6_266 ?_
    refine z_iand C dJ6_bitCount_0f7a4_14 ?_
    refine z_iload_n C dJ6_bitCount_0f7a4_15 rfl rfl ?_
    refine z_iconst (v := 2) C dJ6_bitCount_0f7a4_16 (by decide) ?_
    refine z_iushr C dJ6_bitCount_0f7a4_17 ?_
    refine z_ldcw (v := 858993459) C dJ6_bitCount_0f7a4_18 cnJ6_266 ?_
    refine z_iand C dJ6_bitCount_0f7a4_21 ?_
    refine z_iadd C dJ6_bitCount_0f7a4_22 ?_
    obtain ⟨x2, ex2, h⟩ := z_let_some h
    refine z_top ex2 ?_
    refine z_istore_n (lo' := [some (.int x2)]) C dJ6_bitCount_0f7a4_23 rfl (Nat.le_of_ble_eq_true rfl) rfl ?_
    refine z_iload_n C dJ6_bitCount_0f7a4_24 rfl rfl ?_
    refine z_iload_n C dJ6_bitCount_0f7a4_25 rfl rfl ?_
    refine z_iconst (v := 4) C dJ6_bitCount_0f7a4_26 (by decide) ?_
    refine z_iushr C dJ6_bitCount_0f7a4_27 ?_
    refine z_iadd C dJ6_bitCount_0f7a4_28 ?_
    refine z_ldcw (v := 252645135) C dJ6_bitCount_0f7a4_29 cnJ6_267 ?_
    refine z_iand C dJ6_bitCount_0f7a4_32 ?_
    refine z_istore_n (lo' := [some (.int ((x2 + (z_ushr x2 4)) &&& 252645135))]) C dJ6_bitCount_0f7a4_33 rfl (Nat.le_of_ble_eq_true rfl) rfl ?_
    refine z_iload_n C dJ6_bitCount_0f7a4_34 rfl rfl ?_
    refine z_iload_n C dJ6_bitCount_0f7a4_35 rfl rfl ?_
    refine z_bipush (v := 8) C dJ6_bitCount_0f7a4_36 (by decide) ?_
    refine z_iushr C dJ6_bitCount_0f7a4_38 ?_
    refine z_iadd C dJ6_bitCount_0f7a4_39 ?_
    obtain ⟨x3, ex3, h⟩ := z_let_some h
    refine z_top ex3 ?_
    refine z_istore_n (lo' := [some (.int x3)]) C dJ6_bitCount_0f7a4_40 rfl (Nat.le_of_ble_eq_true rfl) rfl ?_
    refine z_iload_n C dJ6_bitCount_0f7a4_41 rfl rfl ?_
    refine z_iload_n C dJ6_bitCount_0f7a4_42 rfl rfl ?_
    refine z_bipush (v := 16) C dJ6_bitCount_0f7a4_43 (by decide) ?_
    refine z_iushr C dJ6_bitCount_0f7a4_45 ?_
    refine z_iadd C dJ6_bitCount_0f7a4_46 ?_
    refine z_istore_n (lo' := [some (.int (x3 + (z_ushr x3 16)))]) C dJ6_bitCount_0f7a4_47 rfl (Nat.le_of_ble_eq_true rfl) rfl ?_
    refine z_iload_n C dJ6_bitCount_0f7a4_48 rfl rfl ?_
    refine z_bipush (v := 63) C dJ6_bitCount_0f7a4_49 (by decide) ?_
    refine z_iand C dJ6_bitCount_0f7a4_51 ?_
    exact z_iret C h dJ6_bitCount_0f7a4_52
set_option maxHeartbeats 4000000 in
set_option maxRecDepth 100000 in
theorem t0_sureOf_L4 {X : z_Ct} (C : z_Cx S1 X RX0 cX0_sureOf 4 1 (some .int)) {u : Int32 × z_M} : ∀ (n : Nat) (c0 : Nat) (v1 : Int32) (v2 : Int32) (v3 : Int32) (σ : z_M),S1.1 c0 = 0 →  f0_sureOf_L4 n c0 v1 v2 v3 σ = some u → z_W S1 X 4 [some (.ref (z_a X c0)), some (.int v1), some (.int v2), some (.int v3)] [] σ (z_oi u) := by
  intro n
  induction n with
  | zero => intro c0 v1 v2 v3 σ hk0 h; rw [f0_sureOf_L4] at h; cases h
  | succ n ih =>
    intro c0 v1 v2 v3 σ hk0 h
    rw [f0_sureOf_L4] at h
    refine z_iload_n C dX0_sureOf_4 rfl rfl ?_
    refine z_bipush (v := 8) C dX0_sureOf_5 (by decide) ?_
    refine z_icmp_ge (tgt := 38) C dX0_sureOf_7 (by decide) (fun hc => ?_) (fun hc => ?_)
    · replace h := z_neg hc h
      refine z_iload_n C dX0_sureOf_38 rfl rfl ?_
      exact z_iret C h dX0_sureOf_39
    · replace h := z_pos hc h
      refine z_aload_n C dX0_sureOf_10 rfl rfl ?_
      refine z_geta (k := 0) (q := (c0 + 1)) C z_CF0 (by decide) flX0_9 hk0 (sh0_r0 hk0) dX0_sureOf_11 ?_
      refine z_iload_n C dX0_sureOf_14 rfl rfl ?_
      refine z_bipush (v := 8) C dX0_sureOf_15 (by decide) ?_
      refine z_imul C dX0_sureOf_17 ?_
      refine z_iload_n C dX0_sureOf_18 rfl rfl ?_
      refine z_iadd C dX0_sureOf_19 ?_
      obtain ⟨b1, h⟩ := z_chk_some h
      refine z_iald C (sh0_k0 hk0) (sh0_l0 hk0) b1 dX0_sureOf_20 ?_
      refine z_bipush (v := 90) C dX0_sureOf_21 (by decide) ?_
      refine z_icmp_lt (tgt := 32) C dX0_sureOf_23 (by decide) (fun hc => ?_) (fun hc => ?_)
      · replace h := z_pos hc h
        refine z_iinc (v := v3 + 1) (lo' := [some (.ref (z_a X c0)), some (.int v1), some (.int v2), some (.int (v3 + 1))]) C dX0_sureOf_32 rfl rfl rfl ?_
        refine z_goto (tgt := 4) C dX0_sureOf_35 (by decide) ?_
        exact ih c0 v1 v2 (v3 + 1) σ hk0 h
      · replace h := z_neg hc h
        refine z_iload_n C dX0_sureOf_26 rfl rfl ?_
        refine z_iconst (v := 1) C dX0_sureOf_27 (by decide) ?_
        refine z_iload_n C dX0_sureOf_28 rfl rfl ?_
        refine z_ishl C dX0_sureOf_29 ?_
        refine z_ior C dX0_sureOf_30 ?_
        refine z_istore_n (lo' := [some (.ref (z_a X c0)), some (.int v1), some (.int (v2 ||| (z_shl 1 v3))), some (.int v3)]) C dX0_sureOf_31 rfl (Nat.le_of_ble_eq_true rfl) rfl ?_
        refine z_iinc (v := v3 + 1) (lo' := [some (.ref (z_a X c0)), some (.int v1), some (.int (v2 ||| (z_shl 1 v3))), some (.int (v3 + 1))]) C dX0_sureOf_32 rfl rfl rfl ?_
        refine z_goto (tgt := 4) C dX0_sureOf_35 (by decide) ?_
        exact ih c0 v1 (v2 ||| (z_shl 1 v3)) (v3 + 1) σ hk0 h
set_option maxHeartbeats 4000000 in
set_option maxRecDepth 100000 in
theorem t0_sureOf {a : Nat → Nat} (c0 : Nat) (p1 : Int32) {σ : z_M} (hk0 : S1.1 c0 = 0) {u : Int32 × z_M} (h : f0_sureOf c0 p1 σ = some u) : z_Mt yX0_sureOf (z_w yX0_sureOf cX0_sureOf 4 (some .int)) 1 S1 a σ [.ref (a c0), .int p1] (z_oi u) := by
  refine z_head (lo := [some (.ref (a c0)), some (.int p1), none, none]) (by decide) (Nat.le_of_ble_eq_true rfl) ?_ rfl ?_
  · intro i v hv
    exact z_loe (vs := [.ref (a c0), .int p1]) (n := 2) rfl (by simp [z_c1i, z_c1r]) i v hv
  · intro X hXa C
    subst hXa
    unfold f0_sureOf at h
    refine z_iconst (v := 0) C dX0_sureOf_0 (by decide) ?_
    refine z_istore_n (lo' := [some (.ref (z_a X c0)), some (.int p1), some (.int 0), none]) C dX0_sureOf_1 rfl (Nat.le_of_ble_eq_true rfl) rfl ?_
    refine z_iconst (v := 0) C dX0_sureOf_2 (by decide) ?_
    refine z_istore_n (lo' := [some (.ref (z_a X c0)), some (.int p1), some (.int 0), some (.int 0)]) C dX0_sureOf_3 rfl (Nat.le_of_ble_eq_true rfl) rfl ?_
    exact t0_sureOf_L4 C _ c0 p1 0 0 σ hk0 h
set_option maxHeartbeats 4000000 in
set_option maxRecDepth 100000 in
theorem t0_sures {a : Nat → Nat} (c0 : Nat) (p1 : Int32) {σ : z_M} (hk0 : S1.1 c0 = 0) {u : Int32 × z_M} (h : f0_sures c0 p1 σ = some u) : z_Mt yX0_sures (z_w yX0_sures cX0_sures 2 (some .int)) 2 S1 a σ [.ref (a c0), .int p1] (z_oi u) := by
  refine z_head (lo := [some (.ref (a c0)), some (.int p1)]) (by decide) (Nat.le_of_ble_eq_true rfl) ?_ rfl ?_
  · intro i v hv
    exact z_loe (vs := [.ref (a c0), .int p1]) (n := 0) rfl (by simp [z_c1i, z_c1r]) i v hv
  · intro X hXa C
    subst hXa
    unfold f0_sures at h
    refine z_aload_n C dX0_sures_0 rfl rfl ?_
    refine z_iload_n C dX0_sures_1 rfl rfl ?_
    obtain ⟨r1, σ2, mσ2, h⟩ := z_bnd2 h
    refine z_cvi (As := [.int p1]) (c := c0) (st := []) C (t0_sureOf c0 p1 hk0 mσ2) kvX0_sureOf rfl mlX0_59 z_CF0 hk0 rfl (by decide) rfl (Nat.le_of_ble_eq_true rfl) dX0_sures_2 ?_
    obtain ⟨r3, σ4, mσ4, h⟩ := z_bnd2 h
    refine z_csi (As := [.int r1]) (st := []) C (tj6_bitCount r1 mσ4) kvJ6_bitCount_0f7a4 rfl mlX0_63 (by decide) rfl (Nat.le_of_ble_eq_true rfl) dX0_sures_5 ?_
    exact z_iret C h dX0_sures_8
set_option maxHeartbeats 4000000 in
set_option maxRecDepth 100000 in
theorem t0_degreeOf {a : Nat → Nat} (c0 : Nat) (p1 : Int32) (p2 : Int32) {σ : z_M} (hk0 : S1.1 c0 = 0) {u : Int32 × z_M} (h : f0_degreeOf c0 p1 p2 σ = some u) : z_Mt yX0_degreeOf (z_w yX0_degreeOf cX0_degreeOf 3 (some .int)) 1 S1 a σ [.ref (a c0), .int p1, .int p2] (z_oi u) := by
  refine z_head (lo := [some (.ref (a c0)), some (.int p1), some (.int p2)]) (by decide) (Nat.le_of_ble_eq_true rfl) ?_ rfl ?_
  · intro i v hv
    exact z_loe (vs := [.ref (a c0), .int p1, .int p2]) (n := 0) rfl (by simp [z_c1i, z_c1r]) i v hv
  · intro X hXa C
    subst hXa
    unfold f0_degreeOf at h
    refine z_aload_n C dX0_degreeOf_0 rfl rfl ?_
    refine z_geta (k := 0) (q := (c0 + 1)) C z_CF0 (by decide) flX0_9 hk0 (sh0_r0 hk0) dX0_degreeOf_1 ?_
    refine z_iload_n C dX0_degreeOf_4 rfl rfl ?_
    refine z_bipush (v := 8) C dX0_degreeOf_5 (by decide) ?_
    refine z_imul C dX0_degreeOf_7 ?_
    refine z_iload_n C dX0_degreeOf_8 rfl rfl ?_
    refine z_iadd C dX0_degreeOf_9 ?_
    obtain ⟨b1, h⟩ := z_chk_some h
    refine z_iald C (sh0_k0 hk0) (sh0_l0 hk0) b1 dX0_degreeOf_10 ?_
    exact z_iret C h dX0_degreeOf_11
set_option maxHeartbeats 4000000 in
set_option maxRecDepth 100000 in
theorem t5_observe_J68 {X : z_Ct} (C : z_Cx S1 X RX5 cX5_observe 6 2 none) {u : Unit × z_M} (c1 : Nat) (c2 : Nat) (v3 : Int32) (v4 : Int32) (v5 : Int32) (s1 : Int32) (s2 : Int32) (σ : z_M) (hk1 : S1.1 c1 = 1) (hk2 : S1.1 c2 = 0) (h : f5_observe_J68 c1 c2 v3 v4 v5 s1 s2 σ = some u) : z_W S1 X 68 [some (.ref (z_a X 47)), some (.ref (z_a X c1)), some (.ref (z_a X c2)), some (.int v3), some (.int v4), some (.int v5)] [.int s2, .int s1, .ref (z_a X 48)] σ (z_ov u) := by
  unfold f5_observe_J68 at h
  obtain ⟨b1, h⟩ := z_chk_some h
  obtain ⟨σ2, eσ2, h⟩ := z_let_some h
  refine z_iast C rfl rfl b1 eσ2 dX5_observe_68 ?_
  refine z_aload_n C dX5_observe_69 rfl rfl ?_
  refine z_geta (k := 0) (q := 48) C z_CF5 (by decide) flX5_9 rfl rfl dX5_observe_70 ?_
  refine z_iconst (v := 4) C dX5_observe_73 (by decide) ?_
  refine z_iload C dX5_observe_74 rfl ?_
  obtain ⟨b3, h⟩ := z_chk_some h
  obtain ⟨σ4, eσ4, h⟩ := z_let_some h
  refine z_iast C rfl rfl b3 eσ4 dX5_observe_76 ?_
  refine z_aload_n C dX5_observe_77 rfl rfl ?_
  refine z_geta (k := 0) (q := 48) C z_CF5 (by decide) flX5_9 rfl rfl dX5_observe_78 ?_
  refine z_iconst (v := 5) C dX5_observe_81 (by decide) ?_
  refine z_aload_n C dX5_observe_82 rfl rfl ?_
  refine z_geti (k := 6) C z_CF0 (by decide) flX5_40 hk2 (sh0_n6 hk2) dX5_observe_83 ?_
  obtain ⟨b5, h⟩ := z_chk_some h
  obtain ⟨σ6, eσ6, h⟩ := z_let_some h
  refine z_iast C rfl rfl b5 eσ6 dX5_observe_86 ?_
  refine z_aload_n C dX5_observe_87 rfl rfl ?_
  refine z_geta (k := 0) (q := 48) C z_CF5 (by decide) flX5_9 rfl rfl dX5_observe_88 ?_
  refine z_bipush (v := 6) C dX5_observe_91 (by decide) ?_
  refine z_iload C dX5_observe_93 rfl ?_
  obtain ⟨b7, h⟩ := z_chk_some h
  obtain ⟨σ8, eσ8, h⟩ := z_let_some h
  refine z_iast C rfl rfl b7 eσ8 dX5_observe_95 ?_
  refine z_aload_n C dX5_observe_96 rfl rfl ?_
  refine z_geta (k := 0) (q := 48) C z_CF5 (by decide) flX5_9 rfl rfl dX5_observe_97 ?_
  refine z_bipush (v := 7) C dX5_observe_100 (by decide) ?_
  refine z_aload_n C dX5_observe_102 rfl rfl ?_
  refine z_geta (k := 5) (q := (c1 + 2)) C z_CF1 (by decide) flX5_44 hk1 (sh1_r5 hk1) dX5_observe_103 ?_
  refine z_iload_n C dX5_observe_106 rfl rfl ?_
  obtain ⟨b9, h⟩ := z_chk_some h
  refine z_iald C (sh1_k5 hk1) (sh1_l5 hk1) b9 dX5_observe_107 ?_
  obtain ⟨r10, σ11, mσ11, h⟩ := z_bnd2 h
  refine z_csi (As := [.int (σ8 (c1 + 2) (z_ix v3))]) (st := [.int 7, .ref (z_a X 48)]) C (tj6_bitCount (σ8 (c1 + 2) (z_ix v3)) mσ11) kvJ6_bitCount_0f7a4 rfl mlX5_49 (by decide) rfl (Nat.le_of_ble_eq_true rfl) dX5_observe_108 ?_
  obtain ⟨b12, h⟩ := z_chk_some h
  obtain ⟨σ13, eσ13, h⟩ := z_let_some h
  refine z_iast C rfl rfl b12 eσ13 dX5_observe_111 ?_
  exact z_vret C h dX5_observe_112
set_option maxHeartbeats 4000000 in
set_option maxRecDepth 100000 in
theorem t5_observe {a : Nat → Nat} (c1 : Nat) (c2 : Nat) (p3 : Int32) (p4 : Int32) {σ : z_M} (hk1 : S1.1 c1 = 1) (hk2 : S1.1 c2 = 0) {u : Unit × z_M} (h : f5_observe c1 c2 p3 p4 σ = some u) : z_Mt yX5_observe (z_w yX5_observe cX5_observe 6 none) 2 S1 a σ [.ref (a 47), .ref (a c1), .ref (a c2), .int p3, .int p4] (z_ov u) := by
  refine z_head (lo := [some (.ref (a 47)), some (.ref (a c1)), some (.ref (a c2)), some (.int p3), some (.int p4), none]) (by decide) (Nat.le_of_ble_eq_true rfl) ?_ rfl ?_
  · intro i v hv
    exact z_loe (vs := [.ref (a 47), .ref (a c1), .ref (a c2), .int p3, .int p4]) (n := 1) rfl (by simp [z_c1i, z_c1r]) i v hv
  · intro X hXa C
    subst hXa
    unfold f5_observe at h
    refine z_aload_n C dX5_observe_0 rfl rfl ?_
    refine z_geta (k := 1) (q := (c2 + 2)) C z_CF0 (by decide) flX5_18 hk2 (sh0_r1 hk2) dX5_observe_1 ?_
    refine z_iload_n C dX5_observe_4 rfl rfl ?_
    obtain ⟨b1, h⟩ := z_chk_some h
    refine z_iald C (sh0_k1 hk2) (sh0_l1 hk2) b1 dX5_observe_5 ?_
    refine z_istore (lo' := [some (.ref (z_a X 47)), some (.ref (z_a X c1)), some (.ref (z_a X c2)), some (.int p3), some (.int p4), some (.int (σ (c2 + 2) (z_ix p3)))]) C dX5_observe_6 (Nat.le_of_ble_eq_true rfl) rfl ?_
    refine z_aload_n C dX5_observe_8 rfl rfl ?_
    refine z_geta (k := 0) (q := 48) C z_CF5 (by decide) flX5_9 rfl rfl dX5_observe_9 ?_
    refine z_iconst (v := 0) C dX5_observe_12 (by decide) ?_
    refine z_aload_n C dX5_observe_13 rfl rfl ?_
    refine z_geta (k := 2) (q := (c2 + 3)) C z_CF0 (by decide) flX5_23 hk2 (sh0_r2 hk2) dX5_observe_14 ?_
    refine z_iload_n C dX5_observe_17 rfl rfl ?_
    obtain ⟨b2, h⟩ := z_chk_some h
    refine z_iald C (sh0_k2 hk2) (sh0_l2 hk2) b2 dX5_observe_18 ?_
    obtain ⟨b3, h⟩ := z_chk_some h
    obtain ⟨σ4, eσ4, h⟩ := z_let_some h
    refine z_iast C rfl rfl b3 eσ4 dX5_observe_19 ?_
    refine z_aload_n C dX5_observe_20 rfl rfl ?_
    refine z_geta (k := 0) (q := 48) C z_CF5 (by decide) flX5_9 rfl rfl dX5_observe_21 ?_
    refine z_iconst (v := 1) C dX5_observe_24 (by decide) ?_
    refine z_aload_n C dX5_observe_25 rfl rfl ?_
    refine z_geta (k := 3) (q := (c2 + 4)) C z_CF0 (by decide) flX5_26 hk2 (sh0_r3 hk2) dX5_observe_26 ?_
    refine z_iload_n C dX5_observe_29 rfl rfl ?_
    obtain ⟨b5, h⟩ := z_chk_some h
    refine z_iald C (sh0_k3 hk2) (sh0_l3 hk2) b5 dX5_observe_30 ?_
    obtain ⟨b6, h⟩ := z_chk_some h
    obtain ⟨σ7, eσ7, h⟩ := z_let_some h
    refine z_iast C rfl rfl b6 eσ7 dX5_observe_31 ?_
    refine z_aload_n C dX5_observe_32 rfl rfl ?_
    refine z_geta (k := 0) (q := 48) C z_CF5 (by decide) flX5_9 rfl rfl dX5_observe_33 ?_
    refine z_iconst (v := 2) C dX5_observe_36 (by decide) ?_
    refine z_aload_n C dX5_observe_37 rfl rfl ?_
    refine z_geta (k := 4) (q := (c2 + 5)) C z_CF0 (by decide) flX5_29 hk2 (sh0_r4 hk2) dX5_observe_38 ?_
    refine z_iload_n C dX5_observe_41 rfl rfl ?_
    obtain ⟨b8, h⟩ := z_chk_some h
    refine z_iald C (sh0_k4 hk2) (sh0_l4 hk2) b8 dX5_observe_42 ?_
    obtain ⟨b9, h⟩ := z_chk_some h
    obtain ⟨σ10, eσ10, h⟩ := z_let_some h
    refine z_iast C rfl rfl b9 eσ10 dX5_observe_43 ?_
    refine z_aload_n C dX5_observe_44 rfl rfl ?_
    refine z_geta (k := 0) (q := 48) C z_CF5 (by decide) flX5_9 rfl rfl dX5_observe_45 ?_
    refine z_iconst (v := 3) C dX5_observe_48 (by decide) ?_
    refine z_iload C dX5_observe_49 rfl ?_
    obtain ⟨r11, σ12, mσ12, h⟩ := z_bnd2 h
    refine z_cni (As := [.int (σ (c2 + 2) (z_ix p3))]) (st := [.int 3, .ref (z_a X 48)]) C (t11_isThing (σ (c2 + 2) (z_ix p3)) mσ12) kvX11_isThing rfl (by decide) rfl (Nat.le_of_ble_eq_true rfl) dX5_observe_51 ?_
    refine z_if_eq (tgt := 67) C dX5_observe_54 (by decide) (fun hc => ?_) (fun hc => ?_)
    · replace h := z_pos hc h
      refine z_iconst (v := 0) C dX5_observe_67 (by decide) ?_
      exact t5_observe_J68 C c1 c2 p3 p4 (σ (c2 + 2) (z_ix p3)) 3 0 σ12 hk1 hk2 h
    · replace h := z_neg hc h
      refine z_aload_n C dX5_observe_57 rfl rfl ?_
      refine z_iload_n C dX5_observe_58 rfl rfl ?_
      refine z_iload C dX5_observe_59 rfl ?_
      obtain ⟨r13, σ14, mσ14, h⟩ := z_bnd2 h
      refine z_cvi (As := [.int p3, .int (σ (c2 + 2) (z_ix p3))]) (c := c2) (st := [.int 3, .ref (z_a X 48)]) C (t0_degreeOf c2 p3 (σ (c2 + 2) (z_ix p3)) hk2 mσ14) kvX0_degreeOf rfl mlX5_36 z_CF0 hk2 rfl (by decide) rfl (Nat.le_of_ble_eq_true rfl) dX5_observe_61 ?_
      refine z_goto (tgt := 68) C dX5_observe_64 (by decide) ?_
      exact t5_observe_J68 C c1 c2 p3 p4 (σ (c2 + 2) (z_ix p3)) 3 r13 σ14 hk1 hk2 h
set_option maxHeartbeats 4000000 in
set_option maxRecDepth 100000 in
theorem t5_joined {a : Nat → Nat} (p0 : Int32) (p1 : Int32) (p2 : Int32) {σ : z_M} {u : Int32 × z_M} (h : f5_joined p0 p1 p2 σ = some u) : z_Mt yX5_joined (z_w yX5_joined cX5_joined 3 (some .int)) 1 S1 a σ [.int p0, .int p1, .int p2] (z_oi u) := by
  refine z_head (lo := [some (.int p0), some (.int p1), some (.int p2)]) (by decide) (Nat.le_of_ble_eq_true rfl) ?_ rfl ?_
  · intro i v hv
    exact z_loe (vs := [.int p0, .int p1, .int p2]) (n := 0) rfl (by simp [z_c1i, z_c1r]) i v hv
  · intro X hXa C
    subst hXa
    unfold f5_joined at h
    refine z_iload_n C dX5_joined_0 rfl rfl ?_
    by_cases hs13 : p0 = 13
    · replace h := z_pos hs13 h
      refine z_tabIn (tgt := 189) C dX5_joined_1 (v := 13) (by rw [hs13]; decide) (by decide) (by decide) rfl (by decide) ?_
      refine z_iload_n C dX5_joined_189 rfl rfl ?_
      refine z_iload_n C dX5_joined_190 rfl rfl ?_
      refine z_iand C dX5_joined_191 ?_
      exact z_iret C h dX5_joined_192
    · replace h := z_neg hs13 h
      by_cases hs33 : p0 = 33
      · replace h := z_pos hs33 h
        refine z_tabIn (tgt := 132) C dX5_joined_1 (v := 33) (by rw [hs33]; decide) (by decide) (by decide) rfl (by decide) ?_
        refine z_iload_n C dX5_joined_132 rfl rfl ?_
        refine z_iload_n C dX5_joined_133 rfl rfl ?_
        refine z_iadd C dX5_joined_134 ?_
        exact z_iret C h dX5_joined_135
      · replace h := z_neg hs33 h
        by_cases hs34 : p0 = 34
        · replace h := z_pos hs34 h
          refine z_tabIn (tgt := 136) C dX5_joined_1 (v := 34) (by rw [hs34]; decide) (by decide) (by decide) rfl (by decide) ?_
          refine z_iload_n C dX5_joined_136 rfl rfl ?_
          refine z_iload_n C dX5_joined_137 rfl rfl ?_
          refine z_isub C dX5_joined_138 ?_
          exact z_iret C h dX5_joined_139
        · replace h := z_neg hs34 h
          by_cases hs35 : p0 = 35
          · replace h := z_pos hs35 h
            refine z_tabIn (tgt := 140) C dX5_joined_1 (v := 35) (by rw [hs35]; decide) (by decide) (by decide) rfl (by decide) ?_
            refine z_iload_n C dX5_joined_140 rfl rfl ?_
            refine z_iload_n C dX5_joined_141 rfl rfl ?_
            refine z_imul C dX5_joined_142 ?_
            exact z_iret C h dX5_joined_143
          · replace h := z_neg hs35 h
            by_cases hs36 : p0 = 36
            · replace h := z_pos hs36 h
              refine z_tabIn (tgt := 144) C dX5_joined_1 (v := 36) (by rw [hs36]; decide) (by decide) (by decide) rfl (by decide) ?_
              refine z_iload_n C dX5_joined_144 rfl rfl ?_
              refine z_if_ne (tgt := 152) C dX5_joined_145 (by decide) (fun hc => ?_) (fun hc => ?_)
              · replace h := z_neg hc h
                refine z_iload_n C dX5_joined_152 rfl rfl ?_
                refine z_iload_n C dX5_joined_153 rfl rfl ?_
                obtain ⟨b1, h⟩ := z_chk_some h
                refine z_idiv C dX5_joined_154 (by simpa using b1) ?_
                exact z_iret C h dX5_joined_155
              · replace h := z_pos hc h
                refine z_iconst (v := 0) C dX5_joined_148 (by decide) ?_
                refine z_goto (tgt := 155) C dX5_joined_149 (by decide) ?_
                exact z_iret C h dX5_joined_155
            · replace h := z_neg hs36 h
              by_cases hs39 : p0 = 39
              · replace h := z_pos hs39 h
                refine z_tabIn (tgt := 156) C dX5_joined_1 (v := 39) (by rw [hs39]; decide) (by decide) (by decide) rfl (by decide) ?_
                refine z_iload_n C dX5_joined_156 rfl rfl ?_
                refine z_iload_n C dX5_joined_157 rfl rfl ?_
                refine z_icmp_ge (tgt := 165) C dX5_joined_158 (by decide) (fun hc => ?_) (fun hc => ?_)
                · replace h := z_neg hc h
                  refine z_iconst (v := 0) C dX5_joined_165 (by decide) ?_
                  exact z_iret C h dX5_joined_166
                · replace h := z_pos hc h
                  refine z_iconst (v := 1) C dX5_joined_161 (by decide) ?_
                  refine z_goto (tgt := 166) C dX5_joined_162 (by decide) ?_
                  exact z_iret C h dX5_joined_166
              · replace h := z_neg hs39 h
                by_cases hs40 : p0 = 40
                · replace h := z_pos hs40 h
                  refine z_tabIn (tgt := 167) C dX5_joined_1 (v := 40) (by rw [hs40]; decide) (by decide) (by decide) rfl (by decide) ?_
                  refine z_iload_n C dX5_joined_167 rfl rfl ?_
                  refine z_iload_n C dX5_joined_168 rfl rfl ?_
                  refine z_icmp_ne (tgt := 176) C dX5_joined_169 (by decide) (fun hc => ?_) (fun hc => ?_)
                  · replace h := z_neg hc h
                    refine z_iconst (v := 0) C dX5_joined_176 (by decide) ?_
                    exact z_iret C h dX5_joined_177
                  · replace h := z_pos hc h
                    refine z_iconst (v := 1) C dX5_joined_172 (by decide) ?_
                    refine z_goto (tgt := 177) C dX5_joined_173 (by decide) ?_
                    exact z_iret C h dX5_joined_177
                · replace h := z_neg hs40 h
                  by_cases hs41 : p0 = 41
                  · replace h := z_pos hs41 h
                    refine z_tabIn (tgt := 178) C dX5_joined_1 (v := 41) (by rw [hs41]; decide) (by decide) (by decide) rfl (by decide) ?_
                    refine z_iload_n C dX5_joined_178 rfl rfl ?_
                    refine z_iload_n C dX5_joined_179 rfl rfl ?_
                    refine z_icmp_le (tgt := 187) C dX5_joined_180 (by decide) (fun hc => ?_) (fun hc => ?_)
                    · replace h := z_neg hc h
                      refine z_iconst (v := 0) C dX5_joined_187 (by decide) ?_
                      exact z_iret C h dX5_joined_188
                    · replace h := z_pos hc h
                      refine z_iconst (v := 1) C dX5_joined_183 (by decide) ?_
                      refine z_goto (tgt := 188) C dX5_joined_184 (by decide) ?_
                      exact z_iret C h dX5_joined_188
                  · replace h := z_neg hs41 h
                    by_cases hs14 : p0 = 14
                    · refine z_tabIn (tgt := 193) C dX5_joined_1 (v := 14) (by rw [hs14]; decide) (by decide) (by decide) rfl (by decide) ?_
                      refine z_iload_n C dX5_joined_193 rfl rfl ?_
                      refine z_iload_n C dX5_joined_194 rfl rfl ?_
                      refine z_ior C dX5_joined_195 ?_
                      exact z_iret C h dX5_joined_196
                    by_cases hs15 : p0 = 15
                    · refine z_tabIn (tgt := 193) C dX5_joined_1 (v := 15) (by rw [hs15]; decide) (by decide) (by decide) rfl (by decide) ?_
                      refine z_iload_n C dX5_joined_193 rfl rfl ?_
                      refine z_iload_n C dX5_joined_194 rfl rfl ?_
                      refine z_ior C dX5_joined_195 ?_
                      exact z_iret C h dX5_joined_196
                    by_cases hs16 : p0 = 16
                    · refine z_tabIn (tgt := 193) C dX5_joined_1 (v := 16) (by rw [hs16]; decide) (by decide) (by decide) rfl (by decide) ?_
                      refine z_iload_n C dX5_joined_193 rfl rfl ?_
                      refine z_iload_n C dX5_joined_194 rfl rfl ?_
                      refine z_ior C dX5_joined_195 ?_
                      exact z_iret C h dX5_joined_196
                    by_cases hs17 : p0 = 17
                    · refine z_tabIn (tgt := 193) C dX5_joined_1 (v := 17) (by rw [hs17]; decide) (by decide) (by decide) rfl (by decide) ?_
                      refine z_iload_n C dX5_joined_193 rfl rfl ?_
                      refine z_iload_n C dX5_joined_194 rfl rfl ?_
                      refine z_ior C dX5_joined_195 ?_
                      exact z_iret C h dX5_joined_196
                    by_cases hs18 : p0 = 18
                    · refine z_tabIn (tgt := 193) C dX5_joined_1 (v := 18) (by rw [hs18]; decide) (by decide) (by decide) rfl (by decide) ?_
                      refine z_iload_n C dX5_joined_193 rfl rfl ?_
                      refine z_iload_n C dX5_joined_194 rfl rfl ?_
                      refine z_ior C dX5_joined_195 ?_
                      exact z_iret C h dX5_joined_196
                    by_cases hs19 : p0 = 19
                    · refine z_tabIn (tgt := 193) C dX5_joined_1 (v := 19) (by rw [hs19]; decide) (by decide) (by decide) rfl (by decide) ?_
                      refine z_iload_n C dX5_joined_193 rfl rfl ?_
                      refine z_iload_n C dX5_joined_194 rfl rfl ?_
                      refine z_ior C dX5_joined_195 ?_
                      exact z_iret C h dX5_joined_196
                    by_cases hs20 : p0 = 20
                    · refine z_tabIn (tgt := 193) C dX5_joined_1 (v := 20) (by rw [hs20]; decide) (by decide) (by decide) rfl (by decide) ?_
                      refine z_iload_n C dX5_joined_193 rfl rfl ?_
                      refine z_iload_n C dX5_joined_194 rfl rfl ?_
                      refine z_ior C dX5_joined_195 ?_
                      exact z_iret C h dX5_joined_196
                    by_cases hs21 : p0 = 21
                    · refine z_tabIn (tgt := 193) C dX5_joined_1 (v := 21) (by rw [hs21]; decide) (by decide) (by decide) rfl (by decide) ?_
                      refine z_iload_n C dX5_joined_193 rfl rfl ?_
                      refine z_iload_n C dX5_joined_194 rfl rfl ?_
                      refine z_ior C dX5_joined_195 ?_
                      exact z_iret C h dX5_joined_196
                    by_cases hs22 : p0 = 22
                    · refine z_tabIn (tgt := 193) C dX5_joined_1 (v := 22) (by rw [hs22]; decide) (by decide) (by decide) rfl (by decide) ?_
                      refine z_iload_n C dX5_joined_193 rfl rfl ?_
                      refine z_iload_n C dX5_joined_194 rfl rfl ?_
                      refine z_ior C dX5_joined_195 ?_
                      exact z_iret C h dX5_joined_196
                    by_cases hs23 : p0 = 23
                    · refine z_tabIn (tgt := 193) C dX5_joined_1 (v := 23) (by rw [hs23]; decide) (by decide) (by decide) rfl (by decide) ?_
                      refine z_iload_n C dX5_joined_193 rfl rfl ?_
                      refine z_iload_n C dX5_joined_194 rfl rfl ?_
                      refine z_ior C dX5_joined_195 ?_
                      exact z_iret C h dX5_joined_196
                    by_cases hs24 : p0 = 24
                    · refine z_tabIn (tgt := 193) C dX5_joined_1 (v := 24) (by rw [hs24]; decide) (by decide) (by decide) rfl (by decide) ?_
                      refine z_iload_n C dX5_joined_193 rfl rfl ?_
                      refine z_iload_n C dX5_joined_194 rfl rfl ?_
                      refine z_ior C dX5_joined_195 ?_
                      exact z_iret C h dX5_joined_196
                    by_cases hs25 : p0 = 25
                    · refine z_tabIn (tgt := 193) C dX5_joined_1 (v := 25) (by rw [hs25]; decide) (by decide) (by decide) rfl (by decide) ?_
                      refine z_iload_n C dX5_joined_193 rfl rfl ?_
                      refine z_iload_n C dX5_joined_194 rfl rfl ?_
                      refine z_ior C dX5_joined_195 ?_
                      exact z_iret C h dX5_joined_196
                    by_cases hs26 : p0 = 26
                    · refine z_tabIn (tgt := 193) C dX5_joined_1 (v := 26) (by rw [hs26]; decide) (by decide) (by decide) rfl (by decide) ?_
                      refine z_iload_n C dX5_joined_193 rfl rfl ?_
                      refine z_iload_n C dX5_joined_194 rfl rfl ?_
                      refine z_ior C dX5_joined_195 ?_
                      exact z_iret C h dX5_joined_196
                    by_cases hs27 : p0 = 27
                    · refine z_tabIn (tgt := 193) C dX5_joined_1 (v := 27) (by rw [hs27]; decide) (by decide) (by decide) rfl (by decide) ?_
                      refine z_iload_n C dX5_joined_193 rfl rfl ?_
                      refine z_iload_n C dX5_joined_194 rfl rfl ?_
                      refine z_ior C dX5_joined_195 ?_
                      exact z_iret C h dX5_joined_196
                    by_cases hs28 : p0 = 28
                    · refine z_tabIn (tgt := 193) C dX5_joined_1 (v := 28) (by rw [hs28]; decide) (by decide) (by decide) rfl (by decide) ?_
                      refine z_iload_n C dX5_joined_193 rfl rfl ?_
                      refine z_iload_n C dX5_joined_194 rfl rfl ?_
                      refine z_ior C dX5_joined_195 ?_
                      exact z_iret C h dX5_joined_196
                    by_cases hs29 : p0 = 29
                    · refine z_tabIn (tgt := 193) C dX5_joined_1 (v := 29) (by rw [hs29]; decide) (by decide) (by decide) rfl (by decide) ?_
                      refine z_iload_n C dX5_joined_193 rfl rfl ?_
                      refine z_iload_n C dX5_joined_194 rfl rfl ?_
                      refine z_ior C dX5_joined_195 ?_
                      exact z_iret C h dX5_joined_196
                    by_cases hs30 : p0 = 30
                    · refine z_tabIn (tgt := 193) C dX5_joined_1 (v := 30) (by rw [hs30]; decide) (by decide) (by decide) rfl (by decide) ?_
                      refine z_iload_n C dX5_joined_193 rfl rfl ?_
                      refine z_iload_n C dX5_joined_194 rfl rfl ?_
                      refine z_ior C dX5_joined_195 ?_
                      exact z_iret C h dX5_joined_196
                    by_cases hs31 : p0 = 31
                    · refine z_tabIn (tgt := 193) C dX5_joined_1 (v := 31) (by rw [hs31]; decide) (by decide) (by decide) rfl (by decide) ?_
                      refine z_iload_n C dX5_joined_193 rfl rfl ?_
                      refine z_iload_n C dX5_joined_194 rfl rfl ?_
                      refine z_ior C dX5_joined_195 ?_
                      exact z_iret C h dX5_joined_196
                    by_cases hs32 : p0 = 32
                    · refine z_tabIn (tgt := 193) C dX5_joined_1 (v := 32) (by rw [hs32]; decide) (by decide) (by decide) rfl (by decide) ?_
                      refine z_iload_n C dX5_joined_193 rfl rfl ?_
                      refine z_iload_n C dX5_joined_194 rfl rfl ?_
                      refine z_ior C dX5_joined_195 ?_
                      exact z_iret C h dX5_joined_196
                    by_cases hs37 : p0 = 37
                    · refine z_tabIn (tgt := 193) C dX5_joined_1 (v := 37) (by rw [hs37]; decide) (by decide) (by decide) rfl (by decide) ?_
                      refine z_iload_n C dX5_joined_193 rfl rfl ?_
                      refine z_iload_n C dX5_joined_194 rfl rfl ?_
                      refine z_ior C dX5_joined_195 ?_
                      exact z_iret C h dX5_joined_196
                    by_cases hs38 : p0 = 38
                    · refine z_tabIn (tgt := 193) C dX5_joined_1 (v := 38) (by rw [hs38]; decide) (by decide) (by decide) rfl (by decide) ?_
                      refine z_iload_n C dX5_joined_193 rfl rfl ?_
                      refine z_iload_n C dX5_joined_194 rfl rfl ?_
                      refine z_ior C dX5_joined_195 ?_
                      exact z_iret C h dX5_joined_196
                    refine z_tabOut (tgt := 193) C dX5_joined_1 (z_none 29 (fun k hk => by
                        rcases (show k = 0 ∨ k = 1 ∨ k = 2 ∨ k = 3 ∨ k = 4 ∨ k = 5 ∨ k = 6 ∨ k = 7 ∨ k = 8 ∨ k = 9 ∨ k = 10 ∨ k = 11 ∨ k = 12 ∨ k = 13 ∨ k = 14 ∨ k = 15 ∨ k = 16 ∨ k = 17 ∨ k = 18 ∨ k = 19 ∨ k = 20 ∨ k = 21 ∨ k = 22 ∨ k = 23 ∨ k = 24 ∨ k = 25 ∨ k = 26 ∨ k = 27 ∨ k = 28 by omega) with rfl | rfl | rfl | rfl | rfl | rfl | rfl | rfl | rfl | rfl | rfl | rfl | rfl | rfl | rfl | rfl | rfl | rfl | rfl | rfl | rfl | rfl | rfl | rfl | rfl | rfl | rfl | rfl | rfl
                        · exact z_toInt hs13 (by decide)
                        · exact z_toInt hs14 (by decide)
                        · exact z_toInt hs15 (by decide)
                        · exact z_toInt hs16 (by decide)
                        · exact z_toInt hs17 (by decide)
                        · exact z_toInt hs18 (by decide)
                        · exact z_toInt hs19 (by decide)
                        · exact z_toInt hs20 (by decide)
                        · exact z_toInt hs21 (by decide)
                        · exact z_toInt hs22 (by decide)
                        · exact z_toInt hs23 (by decide)
                        · exact z_toInt hs24 (by decide)
                        · exact z_toInt hs25 (by decide)
                        · exact z_toInt hs26 (by decide)
                        · exact z_toInt hs27 (by decide)
                        · exact z_toInt hs28 (by decide)
                        · exact z_toInt hs29 (by decide)
                        · exact z_toInt hs30 (by decide)
                        · exact z_toInt hs31 (by decide)
                        · exact z_toInt hs32 (by decide)
                        · exact z_toInt hs33 (by decide)
                        · exact z_toInt hs34 (by decide)
                        · exact z_toInt hs35 (by decide)
                        · exact z_toInt hs36 (by decide)
                        · exact z_toInt hs37 (by decide)
                        · exact z_toInt hs38 (by decide)
                        · exact z_toInt hs39 (by decide)
                        · exact z_toInt hs40 (by decide)
                        · exact z_toInt hs41 (by decide))) (by decide) ?_
                    refine z_iload_n C dX5_joined_193 rfl rfl ?_
                    refine z_iload_n C dX5_joined_194 rfl rfl ?_
                    refine z_ior C dX5_joined_195 ?_
                    exact z_iret C h dX5_joined_196
set_option maxHeartbeats 4000000 in
set_option maxRecDepth 100000 in
theorem t5_worthOf_J124 {X : z_Ct} (C : z_Cx S1 X RX5 cX5_worthOf 7 2 (some .int)) {u : Int32 × z_M} {k6 : Nat → Int32 → Int32 → Int32 → z_M → Option (Int32 × z_M)} (hr6 : ∀ (c1 : Nat) (v3 : Int32) (v4 : Int32) (v5 : Int32) (σ : z_M), S1.1 c1 = 9 → k6 c1 v3 v4 v5 σ = some u → z_W S1 X 6 [some (.ref (z_a X 47)), some (.ref (z_a X c1)), none, some (.int v3), some (.int v4), some (.int v5), none] [] σ (z_oi u)) (c1 : Nat) (v3 : Int32) (v4 : Int32) (v5 : Int32) (v6 : Int32) (σ : z_M) (hk1 : S1.1 c1 = 9) (h : f5_worthOf_J124 k6 c1 v3 v4 v5 v6 σ = some u) : z_W S1 X 124 [some (.ref (z_a X 47)), some (.ref (z_a X c1)), none, some (.int v3), some (.int v4), some (.int v5), some (.int v6)] [] σ (z_oi u) := by
  unfold f5_worthOf_J124 at h
  refine z_iload C dX5_worthOf_124 rfl ?_
  refine z_iconst (v := 1) C dX5_worthOf_126 (by decide) ?_
  refine z_icmp_le (tgt := 163) C dX5_worthOf_127 (by decide) (fun hc => ?_) (fun hc => ?_)
  · replace h := z_neg hc h
    refine z_iinc (v := v5 + 1) (lo' := [some (.ref (z_a X 47)), some (.ref (z_a X c1)), none, some (.int v3), some (.int v4), some (.int (v5 + 1)), some (.int v6)]) C dX5_worthOf_163 rfl rfl rfl ?_
    refine z_goto (tgt := 6) C dX5_worthOf_166 (by decide) ?_
    refine z_kill (lo' := [some (.ref (z_a X 47)), some (.ref (z_a X c1)), none, some (.int v3), some (.int v4), some (.int (v5 + 1)), none]) [6] rfl ?_
    exact hr6 c1 v3 v4 (v5 + 1) σ hk1 h
  · replace h := z_pos hc h
    refine z_iinc (v := v4 + (-1)) (lo' := [some (.ref (z_a X 47)), some (.ref (z_a X c1)), none, some (.int v3), some (.int (v4 + (-1))), some (.int v5), some (.int v6)]) C dX5_worthOf_130 rfl rfl rfl ?_
    refine z_aload_n C dX5_worthOf_133 rfl rfl ?_
    refine z_geta (k := 1) (q := 49) C z_CF5 (by decide) flX5_15 rfl rfl dX5_worthOf_134 ?_
    refine z_iload C dX5_worthOf_137 rfl ?_
    refine z_iconst (v := 1) C dX5_worthOf_139 (by decide) ?_
    refine z_isub C dX5_worthOf_140 ?_
    refine z_iload C dX5_worthOf_141 rfl ?_
    refine z_aload_n C dX5_worthOf_143 rfl rfl ?_
    refine z_geta (k := 1) (q := 49) C z_CF5 (by decide) flX5_15 rfl rfl dX5_worthOf_144 ?_
    refine z_iload C dX5_worthOf_147 rfl ?_
    refine z_iconst (v := 1) C dX5_worthOf_149 (by decide) ?_
    refine z_isub C dX5_worthOf_150 ?_
    obtain ⟨b1, h⟩ := z_chk_some h
    refine z_iald C rfl rfl b1 dX5_worthOf_151 ?_
    refine z_aload_n C dX5_worthOf_152 rfl rfl ?_
    refine z_geta (k := 1) (q := 49) C z_CF5 (by decide) flX5_15 rfl rfl dX5_worthOf_153 ?_
    refine z_iload C dX5_worthOf_156 rfl ?_
    obtain ⟨b2, h⟩ := z_chk_some h
    refine z_iald C rfl rfl b2 dX5_worthOf_158 ?_
    obtain ⟨r3, σ4, mσ4, h⟩ := z_bnd2 h
    refine z_csi (As := [.int v6, .int (σ 49 (z_ix ((v4 + (-1)) - 1))), .int (σ 49 (z_ix (v4 + (-1))))]) (st := [.int ((v4 + (-1)) - 1), .ref (z_a X 49)]) C (t5_joined v6 (σ 49 (z_ix ((v4 + (-1)) - 1))) (σ 49 (z_ix (v4 + (-1)))) mσ4) kvX5_joined rfl mlX5_84 (by decide) rfl (Nat.le_of_ble_eq_true rfl) dX5_worthOf_159 ?_
    obtain ⟨b5, h⟩ := z_chk_some h
    obtain ⟨σ6, eσ6, h⟩ := z_let_some h
    refine z_iast C rfl rfl b5 eσ6 dX5_worthOf_162 ?_
    refine z_iinc (v := v5 + 1) (lo' := [some (.ref (z_a X 47)), some (.ref (z_a X c1)), none, some (.int v3), some (.int (v4 + (-1))), some (.int (v5 + 1)), some (.int v6)]) C dX5_worthOf_163 rfl rfl rfl ?_
    refine z_goto (tgt := 6) C dX5_worthOf_166 (by decide) ?_
    refine z_kill (lo' := [some (.ref (z_a X 47)), some (.ref (z_a X c1)), none, some (.int v3), some (.int (v4 + (-1))), some (.int (v5 + 1)), none]) [6] rfl ?_
    exact hr6 c1 v3 (v4 + (-1)) (v5 + 1) σ6 hk1 h
set_option maxHeartbeats 4000000 in
set_option maxRecDepth 100000 in
theorem t5_worthOf_J82 {X : z_Ct} (C : z_Cx S1 X RX5 cX5_worthOf 7 2 (some .int)) {u : Int32 × z_M} {k6 : Nat → Int32 → Int32 → Int32 → z_M → Option (Int32 × z_M)} (hr6 : ∀ (c1 : Nat) (v3 : Int32) (v4 : Int32) (v5 : Int32) (σ : z_M), S1.1 c1 = 9 → k6 c1 v3 v4 v5 σ = some u → z_W S1 X 6 [some (.ref (z_a X 47)), some (.ref (z_a X c1)), none, some (.int v3), some (.int v4), some (.int v5), none] [] σ (z_oi u)) (c1 : Nat) (v3 : Int32) (v4 : Int32) (v5 : Int32) (s1 : Int32) (s2 : Int32) (σ : z_M) (hk1 : S1.1 c1 = 9) (h : f5_worthOf_J82 k6 c1 v3 v4 v5 s1 s2 σ = some u) : z_W S1 X 82 [some (.ref (z_a X 47)), some (.ref (z_a X c1)), none, some (.int v3), some (.int v4), some (.int v5), none] [.int s2, .int s1, .ref (z_a X 49)] σ (z_oi u) := by
  unfold f5_worthOf_J82 at h
  obtain ⟨b1, h⟩ := z_chk_some h
  obtain ⟨σ2, eσ2, h⟩ := z_let_some h
  refine z_iast C rfl rfl b1 eσ2 dX5_worthOf_82 ?_
  refine z_iinc (v := v4 + 1) (lo' := [some (.ref (z_a X 47)), some (.ref (z_a X c1)), none, some (.int v3), some (.int (v4 + 1)), some (.int v5), none]) C dX5_worthOf_83 rfl rfl rfl ?_
  refine z_goto (tgt := 163) C dX5_worthOf_86 (by decide) ?_
  refine z_iinc (v := v5 + 1) (lo' := [some (.ref (z_a X 47)), some (.ref (z_a X c1)), none, some (.int v3), some (.int (v4 + 1)), some (.int (v5 + 1)), none]) C dX5_worthOf_163 rfl rfl rfl ?_
  refine z_goto (tgt := 6) C dX5_worthOf_166 (by decide) ?_
  exact hr6 c1 v3 (v4 + 1) (v5 + 1) σ2 hk1 h
set_option maxHeartbeats 4000000 in
set_option maxRecDepth 100000 in
theorem t5_worthOf_J44 {X : z_Ct} (C : z_Cx S1 X RX5 cX5_worthOf 7 2 (some .int)) {u : Int32 × z_M} {k6 : Nat → Int32 → Int32 → Int32 → z_M → Option (Int32 × z_M)} (hr6 : ∀ (c1 : Nat) (v3 : Int32) (v4 : Int32) (v5 : Int32) (σ : z_M), S1.1 c1 = 9 → k6 c1 v3 v4 v5 σ = some u → z_W S1 X 6 [some (.ref (z_a X 47)), some (.ref (z_a X c1)), none, some (.int v3), some (.int v4), some (.int v5), none] [] σ (z_oi u)) (c1 : Nat) (v3 : Int32) (v4 : Int32) (v5 : Int32) (v6 : Int32) (σ : z_M) (hk1 : S1.1 c1 = 9) (h : f5_worthOf_J44 k6 c1 v3 v4 v5 v6 σ = some u) : z_W S1 X 44 [some (.ref (z_a X 47)), some (.ref (z_a X c1)), none, some (.int v3), some (.int v4), some (.int v5), some (.int v6)] [] σ (z_oi u) := by
  unfold f5_worthOf_J44 at h
  refine z_iload C dX5_worthOf_44 rfl ?_
  refine z_aload_n C dX5_worthOf_46 rfl rfl ?_
  refine z_geta (k := 1) (q := 49) C z_CF5 (by decide) flX5_15 rfl rfl dX5_worthOf_47 ?_
  refine z_alen (v := 32) C rfl rfl (by decide) dX5_worthOf_50 ?_
  refine z_icmp_ge (tgt := 163) C dX5_worthOf_51 (by decide) (fun hc => ?_) (fun hc => ?_)
  · replace h := z_neg hc h
    refine z_iinc (v := v5 + 1) (lo' := [some (.ref (z_a X 47)), some (.ref (z_a X c1)), none, some (.int v3), some (.int v4), some (.int (v5 + 1)), some (.int v6)]) C dX5_worthOf_163 rfl rfl rfl ?_
    refine z_goto (tgt := 6) C dX5_worthOf_166 (by decide) ?_
    refine z_kill (lo' := [some (.ref (z_a X 47)), some (.ref (z_a X c1)), none, some (.int v3), some (.int v4), some (.int (v5 + 1)), none]) [6] rfl ?_
    exact hr6 c1 v3 v4 (v5 + 1) σ hk1 h
  · replace h := z_pos hc h
    refine z_aload_n C dX5_worthOf_54 rfl rfl ?_
    refine z_geta (k := 1) (q := 49) C z_CF5 (by decide) flX5_15 rfl rfl dX5_worthOf_55 ?_
    refine z_iload C dX5_worthOf_58 rfl ?_
    refine z_iload C dX5_worthOf_60 rfl ?_
    refine z_bipush (v := 64) C dX5_worthOf_62 (by decide) ?_
    refine z_icmp_lt (tgt := 75) C dX5_worthOf_64 (by decide) (fun hc => ?_) (fun hc => ?_)
    · replace h := z_pos hc h
      refine z_aload_n C dX5_worthOf_75 rfl rfl ?_
      refine z_geta (k := 0) (q := 48) C z_CF5 (by decide) flX5_9 rfl rfl dX5_worthOf_76 ?_
      refine z_iload C dX5_worthOf_79 rfl ?_
      obtain ⟨b1, h⟩ := z_chk_some h
      refine z_iald C rfl rfl b1 dX5_worthOf_81 ?_
      refine z_kill (lo' := [some (.ref (z_a X 47)), some (.ref (z_a X c1)), none, some (.int v3), some (.int v4), some (.int v5), none]) [6] rfl ?_
      exact t5_worthOf_J82 C hr6 c1 v3 v4 v5 v4 (σ 48 (z_ix v6)) σ hk1 h
    · replace h := z_neg hc h
      refine z_iload C dX5_worthOf_67 rfl ?_
      refine z_bipush (v := 64) C dX5_worthOf_69 (by decide) ?_
      refine z_isub C dX5_worthOf_71 ?_
      refine z_goto (tgt := 82) C dX5_worthOf_72 (by decide) ?_
      refine z_kill (lo' := [some (.ref (z_a X 47)), some (.ref (z_a X c1)), none, some (.int v3), some (.int v4), some (.int v5), none]) [6] rfl ?_
      exact t5_worthOf_J82 C hr6 c1 v3 v4 v5 v4 (v6 - 64) σ hk1 h
set_option maxHeartbeats 4000000 in
set_option maxRecDepth 100000 in
theorem t5_worthOf_J169 {X : z_Ct} (C : z_Cx S1 X RX5 cX5_worthOf 7 2 (some .int)) {u : Int32 × z_M} (σ : z_M) (h : f5_worthOf_J169 σ = some u) : z_W S1 X 169 [some (.ref (z_a X 47)), none, none, none, none, none, none] [] σ (z_oi u) := by
  unfold f5_worthOf_J169 at h
  refine z_aload_n C dX5_worthOf_169 rfl rfl ?_
  refine z_geta (k := 1) (q := 49) C z_CF5 (by decide) flX5_15 rfl rfl dX5_worthOf_170 ?_
  refine z_iconst (v := 0) C dX5_worthOf_173 (by decide) ?_
  obtain ⟨b1, h⟩ := z_chk_some h
  refine z_iald C rfl rfl b1 dX5_worthOf_174 ?_
  exact z_iret C h dX5_worthOf_175
set_option maxHeartbeats 4000000 in
set_option maxRecDepth 100000 in
theorem t5_worthOf_L6 {X : z_Ct} (C : z_Cx S1 X RX5 cX5_worthOf 7 2 (some .int)) {u : Int32 × z_M} : ∀ (n : Nat) (c1 : Nat) (v3 : Int32) (v4 : Int32) (v5 : Int32) (σ : z_M),S1.1 c1 = 9 →  f5_worthOf_L6 n c1 v3 v4 v5 σ = some u → z_W S1 X 6 [some (.ref (z_a X 47)), some (.ref (z_a X c1)), none, some (.int v3), some (.int v4), some (.int v5), none] [] σ (z_oi u) := by
  intro n
  induction n with
  | zero => intro c1 v3 v4 v5 σ hk1 h; rw [f5_worthOf_L6] at h; cases h
  | succ n ih =>
    intro c1 v3 v4 v5 σ hk1 h
    rw [f5_worthOf_L6] at h
    refine z_iload C dX5_worthOf_6 rfl ?_
    refine z_iload_n C dX5_worthOf_8 rfl rfl ?_
    refine z_icmp_ge (tgt := 169) C dX5_worthOf_9 (by decide) (fun hc => ?_) (fun hc => ?_)
    · replace h := z_neg hc h
      refine z_kill (lo' := [some (.ref (z_a X 47)), none, none, none, none, none, none]) [1, 3, 4, 5] rfl ?_
      exact t5_worthOf_J169 C σ h
    · replace h := z_pos hc h
      refine z_iload C dX5_worthOf_12 rfl ?_
      refine z_aload_n C dX5_worthOf_14 rfl rfl ?_
      refine z_geti (k := 3) C z_CF9 (by decide) flX5_78 hk1 (sh9_n3 hk1) dX5_worthOf_15 ?_
      refine z_icmp_ge (tgt := 169) C dX5_worthOf_18 (by decide) (fun hc => ?_) (fun hc => ?_)
      · replace h := z_neg hc h
        refine z_kill (lo' := [some (.ref (z_a X 47)), none, none, none, none, none, none]) [1, 3, 4, 5] rfl ?_
        exact t5_worthOf_J169 C σ h
      · replace h := z_pos hc h
        refine z_aload_n C dX5_worthOf_21 rfl rfl ?_
        refine z_geta (k := 1) (q := (c1 + 2)) C z_CF9 (by decide) flX5_81 hk1 (sh9_r1 hk1) dX5_worthOf_22 ?_
        refine z_iload C dX5_worthOf_25 rfl ?_
        obtain ⟨b1, h⟩ := z_chk_some h
        refine z_iald C (sh9_k1 hk1) rfl b1 dX5_worthOf_27 ?_
        refine z_istore (lo' := [some (.ref (z_a X 47)), some (.ref (z_a X c1)), none, some (.int v3), some (.int v4), some (.int v5), some (.int (σ (c1 + 2) (z_ix v5)))]) C dX5_worthOf_28 (Nat.le_of_ble_eq_true rfl) rfl ?_
        refine z_iload C dX5_worthOf_30 rfl ?_
        refine z_bipush (v := 64) C dX5_worthOf_32 (by decide) ?_
        refine z_icmp_ge (tgt := 44) C dX5_worthOf_34 (by decide) (fun hc => ?_) (fun hc => ?_)
        · replace h := z_neg hc h
          exact t5_worthOf_J44 C ih c1 v3 v4 v5 (σ (c1 + 2) (z_ix v5)) σ hk1 h
        · replace h := z_pos hc h
          refine z_iload C dX5_worthOf_37 rfl ?_
          refine z_bipush (v := 7) C dX5_worthOf_39 (by decide) ?_
          refine z_icmp_gt (tgt := 89) C dX5_worthOf_41 (by decide) (fun hc => ?_) (fun hc => ?_)
          · replace h := z_pos hc h
            refine z_iload C dX5_worthOf_89 rfl ?_
            refine z_bipush (v := 14) C dX5_worthOf_91 (by decide) ?_
            refine z_icmp_ne (tgt := 124) C dX5_worthOf_93 (by decide) (fun hc => ?_) (fun hc => ?_)
            · replace h := z_neg hc h
              exact t5_worthOf_J124 C ih c1 v3 v4 v5 (σ (c1 + 2) (z_ix v5)) σ hk1 h
            · replace h := z_pos hc h
              refine z_iload C dX5_worthOf_96 rfl ?_
              refine z_if_le (tgt := 124) C dX5_worthOf_98 (by decide) (fun hc => ?_) (fun hc => ?_)
              · replace h := z_neg hc h
                exact t5_worthOf_J124 C ih c1 v3 v4 v5 (σ (c1 + 2) (z_ix v5)) σ hk1 h
              · replace h := z_pos hc h
                refine z_aload_n C dX5_worthOf_101 rfl rfl ?_
                refine z_geta (k := 1) (q := 49) C z_CF5 (by decide) flX5_15 rfl rfl dX5_worthOf_102 ?_
                refine z_iload C dX5_worthOf_105 rfl ?_
                refine z_iconst (v := 1) C dX5_worthOf_107 (by decide) ?_
                refine z_isub C dX5_worthOf_108 ?_
                refine z_iconst (v := 1) C dX5_worthOf_109 (by decide) ?_
                refine z_aload_n C dX5_worthOf_110 rfl rfl ?_
                refine z_geta (k := 1) (q := 49) C z_CF5 (by decide) flX5_15 rfl rfl dX5_worthOf_111 ?_
                refine z_iload C dX5_worthOf_114 rfl ?_
                refine z_iconst (v := 1) C dX5_worthOf_116 (by decide) ?_
                refine z_isub C dX5_worthOf_117 ?_
                obtain ⟨b2, h⟩ := z_chk_some h
                refine z_iald C rfl rfl b2 dX5_worthOf_118 ?_
                refine z_isub C dX5_worthOf_119 ?_
                obtain ⟨b3, h⟩ := z_chk_some h
                obtain ⟨σ4, eσ4, h⟩ := z_let_some h
                refine z_iast C rfl rfl b3 eσ4 dX5_worthOf_120 ?_
                refine z_goto (tgt := 163) C dX5_worthOf_121 (by decide) ?_
                refine z_iinc (v := v5 + 1) (lo' := [some (.ref (z_a X 47)), some (.ref (z_a X c1)), none, some (.int v3), some (.int v4), some (.int (v5 + 1)), some (.int (σ (c1 + 2) (z_ix v5)))]) C dX5_worthOf_163 rfl rfl rfl ?_
                refine z_goto (tgt := 6) C dX5_worthOf_166 (by decide) ?_
                refine z_kill (lo' := [some (.ref (z_a X 47)), some (.ref (z_a X c1)), none, some (.int v3), some (.int v4), some (.int (v5 + 1)), none]) [6] rfl ?_
                exact ih c1 v3 v4 (v5 + 1) σ4 hk1 h
          · replace h := z_neg hc h
            exact t5_worthOf_J44 C ih c1 v3 v4 v5 (σ (c1 + 2) (z_ix v5)) σ hk1 h
set_option maxHeartbeats 4000000 in
set_option maxRecDepth 100000 in
theorem t5_worthOf {a : Nat → Nat} (c1 : Nat) (p2 : Int32) (p3 : Int32) {σ : z_M} (hk1 : S1.1 c1 = 9) {u : Int32 × z_M} (h : f5_worthOf c1 p2 p3 σ = some u) : z_Mt yX5_worthOf (z_w yX5_worthOf cX5_worthOf 7 (some .int)) 2 S1 a σ [.ref (a 47), .ref (a c1), .int p2, .int p3] (z_oi u) := by
  refine z_head (lo := [some (.ref (a 47)), some (.ref (a c1)), some (.int p2), some (.int p3), none, none, none]) (by decide) (Nat.le_of_ble_eq_true rfl) ?_ rfl ?_
  · intro i v hv
    exact z_loe (vs := [.ref (a 47), .ref (a c1), .int p2, .int p3]) (n := 3) rfl (by simp [z_c1i, z_c1r]) i v hv
  · intro X hXa C
    subst hXa
    unfold f5_worthOf at h
    refine z_iconst (v := 0) C dX5_worthOf_0 (by decide) ?_
    refine z_istore (lo' := [some (.ref (z_a X 47)), some (.ref (z_a X c1)), some (.int p2), some (.int p3), some (.int 0), none, none]) C dX5_worthOf_1 (Nat.le_of_ble_eq_true rfl) rfl ?_
    refine z_iload_n C dX5_worthOf_3 rfl rfl ?_
    refine z_istore (lo' := [some (.ref (z_a X 47)), some (.ref (z_a X c1)), some (.int p2), some (.int p3), some (.int 0), some (.int p2), none]) C dX5_worthOf_4 (Nat.le_of_ble_eq_true rfl) rfl ?_
    refine z_kill (lo' := [some (.ref (z_a X 47)), some (.ref (z_a X c1)), none, some (.int p3), some (.int 0), some (.int p2), none]) [2] rfl ?_
    exact t5_worthOf_L6 C _ c1 p3 0 p2 σ hk1 h
set_option maxHeartbeats 4000000 in
set_option maxRecDepth 100000 in
theorem t9_at {a : Nat → Nat} (c0 : Nat) (p1 : Int32) (p2 : Int32) {σ : z_M} (hk0 : S1.1 c0 = 9) {u : Int32 × z_M} (h : f9_at c0 p1 p2 σ = some u) : z_Mt yX9_at (z_w yX9_at cX9_at 3 (some .int)) 1 S1 a σ [.ref (a c0), .int p1, .int p2] (z_oi u) := by
  refine z_head (lo := [some (.ref (a c0)), some (.int p1), some (.int p2)]) (by decide) (Nat.le_of_ble_eq_true rfl) ?_ rfl ?_
  · intro i v hv
    exact z_loe (vs := [.ref (a c0), .int p1, .int p2]) (n := 0) rfl (by simp [z_c1i, z_c1r]) i v hv
  · intro X hXa C
    subst hXa
    unfold f9_at at h
    refine z_aload_n C dX9_at_0 rfl rfl ?_
    refine z_geta (k := 0) (q := (c0 + 1)) C z_CF9 (by decide) flX9_9 hk0 (sh9_r0 hk0) dX9_at_1 ?_
    refine z_iload_n C dX9_at_4 rfl rfl ?_
    refine z_iconst (v := 5) C dX9_at_5 (by decide) ?_
    refine z_imul C dX9_at_6 ?_
    refine z_iload_n C dX9_at_7 rfl rfl ?_
    refine z_iadd C dX9_at_8 ?_
    obtain ⟨b1, h⟩ := z_chk_some h
    refine z_iald C (sh9_k0 hk0) rfl b1 dX9_at_9 ?_
    exact z_iret C h dX9_at_10
set_option maxHeartbeats 4000000 in
set_option maxRecDepth 100000 in
theorem t5_told_J88 {X : z_Ct} (C : z_Cx S1 X RX5 cX5_told 10 3 (some .int)) {u : Int32 × z_M} (v4 : Int32) (v5 : Int32) (v6 : Int32) (σ : z_M) (h : f5_told_J88 v4 v5 v6 σ = some u) : z_W S1 X 88 [none, none, none, none, some (.int v4), some (.int v5), some (.int v6), none, none, none] [] σ (z_oi u) := by
  unfold f5_told_J88 at h
  refine z_iload C dX5_told_88 rfl ?_
  refine z_iload C dX5_told_90 rfl ?_
  refine z_iload C dX5_told_92 rfl ?_
  refine z_mmin (st := [.int v4]) C rfl (Nat.le_of_ble_eq_true rfl) mlX5_70 dX5_told_94 ?_
  refine z_mmax (st := []) C rfl (Nat.le_of_ble_eq_true rfl) mlX5_75 dX5_told_97 ?_
  exact z_iret C h dX5_told_100
set_option maxHeartbeats 4000000 in
set_option maxRecDepth 100000 in
theorem t5_told_J63 {X : z_Ct} (C : z_Cx S1 X RX5 cX5_told 10 3 (some .int)) {u : Int32 × z_M} (c1 : Nat) (v4 : Int32) (v5 : Int32) (v7 : Int32) (v8 : Int32) (σ : z_M) (hk1 : S1.1 c1 = 9) (h : f5_told_J63 c1 v4 v5 v7 v8 σ = some u) : z_W S1 X 63 [some (.ref (z_a X 47)), some (.ref (z_a X c1)), none, none, some (.int v4), some (.int v5), none, some (.int v7), some (.int v8), none] [] σ (z_oi u) := by
  unfold f5_told_J63 at h
  refine z_aload_n C dX5_told_63 rfl rfl ?_
  refine z_aload_n C dX5_told_64 rfl rfl ?_
  refine z_aload_n C dX5_told_65 rfl rfl ?_
  refine z_iload C dX5_told_66 rfl ?_
  refine z_iconst (v := 1) C dX5_told_68 (by decide) ?_
  obtain ⟨r1, σ2, mσ2, h⟩ := z_bnd2 h
  refine z_cvi (As := [.int v7, .int 1]) (c := c1) (st := [.ref (z_a X c1), .ref (z_a X 47)]) C (t9_at c1 v7 1 hk1 mσ2) kvX9_at rfl mlX5_63 z_CF9 hk1 rfl (by decide) rfl (Nat.le_of_ble_eq_true rfl) dX5_told_69 ?_
  refine z_iload C dX5_told_72 rfl ?_
  obtain ⟨r3, σ4, mσ4, h⟩ := z_bnd2 h
  refine z_cvi (As := [.ref (z_a X c1), .int r1, .int v8]) (c := 47) (st := []) C (t5_worthOf c1 r1 v8 hk1 mσ4) kvX5_worthOf rfl mlX5_66 z_CF5 rfl rfl (by decide) rfl (Nat.le_of_ble_eq_true rfl) dX5_told_74 ?_
  refine z_istore (lo' := [some (.ref (z_a X 47)), some (.ref (z_a X c1)), none, none, some (.int v4), some (.int v5), some (.int r3), some (.int v7), some (.int v8), none]) C dX5_told_77 (Nat.le_of_ble_eq_true rfl) rfl ?_
  refine z_goto (tgt := 88) C dX5_told_79 (by decide) ?_
  refine z_kill (lo' := [none, none, none, none, some (.int v4), some (.int v5), some (.int r3), none, none, none]) [0, 1, 7, 8] rfl ?_
  exact t5_told_J88 C v4 v5 r3 σ4 h
set_option maxHeartbeats 4000000 in
set_option maxRecDepth 100000 in
theorem t5_told_L6 {X : z_Ct} (C : z_Cx S1 X RX5 cX5_told 10 3 (some .int)) {u : Int32 × z_M} : ∀ (n : Nat) (c1 : Nat) (v2 : Int32) (v4 : Int32) (v5 : Int32) (v6 : Int32) (v7 : Int32) (σ : z_M),S1.1 c1 = 9 →  f5_told_L6 n c1 v2 v4 v5 v6 v7 σ = some u → z_W S1 X 6 [some (.ref (z_a X 47)), some (.ref (z_a X c1)), some (.int v2), none, some (.int v4), some (.int v5), some (.int v6), some (.int v7), none, none] [] σ (z_oi u) := by
  intro n
  induction n with
  | zero => intro c1 v2 v4 v5 v6 v7 σ hk1 h; rw [f5_told_L6] at h; cases h
  | succ n ih =>
    intro c1 v2 v4 v5 v6 v7 σ hk1 h
    rw [f5_told_L6] at h
    refine z_iload C dX5_told_6 rfl ?_
    refine z_aload_n C dX5_told_8 rfl rfl ?_
    refine z_geti (k := 2) C z_CF9 (by decide) flX5_59 hk1 (sh9_n2 hk1) dX5_told_9 ?_
    refine z_icmp_ge (tgt := 88) C dX5_told_12 (by decide) (fun hc => ?_) (fun hc => ?_)
    · replace h := z_neg hc h
      refine z_kill (lo' := [none, none, none, none, some (.int v4), some (.int v5), some (.int v6), none, none, none]) [0, 1, 2, 7] rfl ?_
      exact t5_told_J88 C v4 v5 v6 σ h
    · replace h := z_pos hc h
      refine z_aload_n C dX5_told_15 rfl rfl ?_
      refine z_iload C dX5_told_16 rfl ?_
      refine z_iconst (v := 2) C dX5_told_18 (by decide) ?_
      obtain ⟨r1, σ2, mσ2, h⟩ := z_bnd2 h
      refine z_cvi (As := [.int v7, .int 2]) (c := c1) (st := []) C (t9_at c1 v7 2 hk1 mσ2) kvX9_at rfl mlX5_63 z_CF9 hk1 rfl (by decide) rfl (Nat.le_of_ble_eq_true rfl) dX5_told_19 ?_
      refine z_istore (lo' := [some (.ref (z_a X 47)), some (.ref (z_a X c1)), some (.int v2), none, some (.int v4), some (.int v5), some (.int v6), some (.int v7), some (.int r1), none]) C dX5_told_22 (Nat.le_of_ble_eq_true rfl) rfl ?_
      refine z_aload_n C dX5_told_24 rfl rfl ?_
      refine z_iload C dX5_told_25 rfl ?_
      refine z_iconst (v := 3) C dX5_told_27 (by decide) ?_
      obtain ⟨r3, σ4, mσ4, h⟩ := z_bnd2 h
      refine z_cvi (As := [.int v7, .int 3]) (c := c1) (st := []) C (t9_at c1 v7 3 hk1 mσ4) kvX9_at rfl mlX5_63 z_CF9 hk1 rfl (by decide) rfl (Nat.le_of_ble_eq_true rfl) dX5_told_28 ?_
      refine z_istore (lo' := [some (.ref (z_a X 47)), some (.ref (z_a X c1)), some (.int v2), none, some (.int v4), some (.int v5), some (.int v6), some (.int v7), some (.int r1), some (.int r3)]) C dX5_told_31 (Nat.le_of_ble_eq_true rfl) rfl ?_
      refine z_aload_n C dX5_told_33 rfl rfl ?_
      refine z_iload C dX5_told_34 rfl ?_
      refine z_iconst (v := 0) C dX5_told_36 (by decide) ?_
      obtain ⟨r5, σ6, mσ6, h⟩ := z_bnd2 h
      refine z_cvi (As := [.int v7, .int 0]) (c := c1) (st := []) C (t9_at c1 v7 0 hk1 mσ6) kvX9_at rfl mlX5_63 z_CF9 hk1 rfl (by decide) rfl (Nat.le_of_ble_eq_true rfl) dX5_told_37 ?_
      refine z_iload_n C dX5_told_40 rfl rfl ?_
      refine z_icmp_ne (tgt := 82) C dX5_told_41 (by decide) (fun hc => ?_) (fun hc => ?_)
      · replace h := z_neg hc h
        refine z_iinc (v := v7 + 1) (lo' := [some (.ref (z_a X 47)), some (.ref (z_a X c1)), some (.int v2), none, some (.int v4), some (.int v5), some (.int v6), some (.int (v7 + 1)), some (.int r1), some (.int r3)]) C dX5_told_82 rfl rfl rfl ?_
        refine z_goto (tgt := 6) C dX5_told_85 (by decide) ?_
        refine z_kill (lo' := [some (.ref (z_a X 47)), some (.ref (z_a X c1)), some (.int v2), none, some (.int v4), some (.int v5), some (.int v6), some (.int (v7 + 1)), none, none]) [8, 9] rfl ?_
        exact ih c1 v2 v4 v5 v6 (v7 + 1) σ6 hk1 h
      · replace h := z_pos hc h
        refine z_iload C dX5_told_44 rfl ?_
        refine z_iload C dX5_told_46 rfl ?_
        refine z_icmp_eq (tgt := 63) C dX5_told_48 (by decide) (fun hc => ?_) (fun hc => ?_)
        · replace h := z_pos hc h
          refine z_kill (lo' := [some (.ref (z_a X 47)), some (.ref (z_a X c1)), none, none, some (.int v4), some (.int v5), none, some (.int v7), some (.int r1), none]) [2, 6, 9] rfl ?_
          exact t5_told_J63 C c1 v4 v5 v7 r1 σ6 hk1 h
        · replace h := z_neg hc h
          refine z_aload_n C dX5_told_51 rfl rfl ?_
          refine z_aload_n C dX5_told_52 rfl rfl ?_
          refine z_iload C dX5_told_53 rfl ?_
          refine z_iload C dX5_told_55 rfl ?_
          obtain ⟨r7, σ8, mσ8, h⟩ := z_bnd2 h
          refine z_cvi (As := [.ref (z_a X c1), .int r1, .int r3]) (c := 47) (st := []) C (t5_worthOf c1 r1 r3 hk1 mσ8) kvX5_worthOf rfl mlX5_66 z_CF5 rfl rfl (by decide) rfl (Nat.le_of_ble_eq_true rfl) dX5_told_57 ?_
          refine z_if_eq (tgt := 82) C dX5_told_60 (by decide) (fun hc => ?_) (fun hc => ?_)
          · replace h := z_pos hc h
            refine z_iinc (v := v7 + 1) (lo' := [some (.ref (z_a X 47)), some (.ref (z_a X c1)), some (.int v2), none, some (.int v4), some (.int v5), some (.int v6), some (.int (v7 + 1)), some (.int r1), some (.int r3)]) C dX5_told_82 rfl rfl rfl ?_
            refine z_goto (tgt := 6) C dX5_told_85 (by decide) ?_
            refine z_kill (lo' := [some (.ref (z_a X 47)), some (.ref (z_a X c1)), some (.int v2), none, some (.int v4), some (.int v5), some (.int v6), some (.int (v7 + 1)), none, none]) [8, 9] rfl ?_
            exact ih c1 v2 v4 v5 v6 (v7 + 1) σ8 hk1 h
          · replace h := z_neg hc h
            refine z_kill (lo' := [some (.ref (z_a X 47)), some (.ref (z_a X c1)), none, none, some (.int v4), some (.int v5), none, some (.int v7), some (.int r1), none]) [2, 6, 9] rfl ?_
            exact t5_told_J63 C c1 v4 v5 v7 r1 σ8 hk1 h
set_option maxHeartbeats 4000000 in
set_option maxRecDepth 100000 in
theorem t5_told {a : Nat → Nat} (c1 : Nat) (p2 : Int32) (p3 : Int32) (p4 : Int32) (p5 : Int32) {σ : z_M} (hk1 : S1.1 c1 = 9) {u : Int32 × z_M} (h : f5_told c1 p2 p3 p4 p5 σ = some u) : z_Mt yX5_told (z_w yX5_told cX5_told 10 (some .int)) 3 S1 a σ [.ref (a 47), .ref (a c1), .int p2, .int p3, .int p4, .int p5] (z_oi u) := by
  refine z_head (lo := [some (.ref (a 47)), some (.ref (a c1)), some (.int p2), some (.int p3), some (.int p4), some (.int p5), none, none, none, none]) (by decide) (Nat.le_of_ble_eq_true rfl) ?_ rfl ?_
  · intro i v hv
    exact z_loe (vs := [.ref (a 47), .ref (a c1), .int p2, .int p3, .int p4, .int p5]) (n := 4) rfl (by simp [z_c1i, z_c1r]) i v hv
  · intro X hXa C
    subst hXa
    unfold f5_told at h
    refine z_iload_n C dX5_told_0 rfl rfl ?_
    refine z_istore (lo' := [some (.ref (z_a X 47)), some (.ref (z_a X c1)), some (.int p2), some (.int p3), some (.int p4), some (.int p5), some (.int p3), none, none, none]) C dX5_told_1 (Nat.le_of_ble_eq_true rfl) rfl ?_
    refine z_iconst (v := 0) C dX5_told_3 (by decide) ?_
    refine z_istore (lo' := [some (.ref (z_a X 47)), some (.ref (z_a X c1)), some (.int p2), some (.int p3), some (.int p4), some (.int p5), some (.int p3), some (.int 0), none, none]) C dX5_told_4 (Nat.le_of_ble_eq_true rfl) rfl ?_
    refine z_kill (lo' := [some (.ref (z_a X 47)), some (.ref (z_a X c1)), some (.int p2), none, some (.int p4), some (.int p5), some (.int p3), some (.int 0), none, none]) [3] rfl ?_
    exact t5_told_L6 C _ c1 p2 p4 p5 p3 0 σ hk1 h
set_option maxHeartbeats 4000000 in
set_option maxRecDepth 100000 in
theorem t5_seeds {a : Nat → Nat} (c1 : Nat) {σ : z_M} (hk1 : S1.1 c1 = 9) {u : Int32 × z_M} (h : f5_seeds c1 σ = some u) : z_Mt yX5_seeds (z_w yX5_seeds cX5_seeds 2 (some .int)) 4 S1 a σ [.ref (a 47), .ref (a c1)] (z_oi u) := by
  refine z_head (lo := [some (.ref (a 47)), some (.ref (a c1))]) (by decide) (Nat.le_of_ble_eq_true rfl) ?_ rfl ?_
  · intro i v hv
    exact z_loe (vs := [.ref (a 47), .ref (a c1)]) (n := 0) rfl (by simp [z_c1i, z_c1r]) i v hv
  · intro X hXa C
    subst hXa
    unfold f5_seeds at h
    refine z_aload_n C dX5_seeds_0 rfl rfl ?_
    refine z_aload_n C dX5_seeds_1 rfl rfl ?_
    refine z_bipush (v := 10) C dX5_seeds_2 (by decide) ?_
    refine z_bipush (v := 10) C dX5_seeds_4 (by decide) ?_
    refine z_iconst (v := 0) C dX5_seeds_6 (by decide) ?_
    refine z_bipush (v := 99) C dX5_seeds_7 (by decide) ?_
    obtain ⟨r1, σ2, mσ2, h⟩ := z_bnd2 h
    refine z_cvi (As := [.ref (z_a X c1), .int 10, .int 10, .int 0, .int 99]) (c := 47) (st := []) C (t5_told c1 10 10 0 99 hk1 mσ2) kvX5_told rfl mlX5_55 z_CF5 rfl rfl (by decide) rfl (Nat.le_of_ble_eq_true rfl) dX5_seeds_9 ?_
    exact z_iret C h dX5_seeds_12
set_option maxHeartbeats 4000000 in
set_option maxRecDepth 100000 in
theorem t7_carry_J40 {X : z_Ct} (C : z_Cx S1 X RX7 cX7_carry 4 5 none) {u : Unit × z_M} (c0 : Nat) (v1 : Int32) (v2 : Int32) (σ : z_M) (hk0 : S1.1 c0 = 7) (h : f7_carry_J40 c0 v1 v2 σ = some u) : z_W S1 X 40 [some (.ref (z_a X c0)), some (.int v1), some (.int v2), none] [] σ (z_ov u) := by
  unfold f7_carry_J40 at h
  refine z_aload_n C dX7_carry_40 rfl rfl ?_
  refine z_geta (k := 2) (q := 47) C z_CF7 (by decide) flX7_19 hk0 (sh7_r2 hk0) dX7_carry_41 ?_
  refine z_aload_n C dX7_carry_44 rfl rfl ?_
  refine z_geta (k := 0) (q := 1) C z_CF7 (by decide) flX7_9 hk0 (sh7_r0 hk0) dX7_carry_45 ?_
  refine z_aload_n C dX7_carry_48 rfl rfl ?_
  refine z_geta (k := 1) (q := (z_sb c0)) C z_CF7 (by decide) flX7_15 hk0 (sh7_r1 hk0) dX7_carry_49 ?_
  refine z_iload_n C dX7_carry_52 rfl rfl ?_
  refine z_aload_n C dX7_carry_53 rfl rfl ?_
  refine z_geta (k := 1) (q := (z_sb c0)) C z_CF7 (by decide) flX7_15 hk0 (sh7_r1 hk0) dX7_carry_54 ?_
  refine z_iload_n C dX7_carry_57 rfl rfl ?_
  obtain ⟨r1, σ2, mσ2, h⟩ := z_bnd2 h
  refine z_cvi (As := [.int v1]) (c := (z_sb c0)) (st := [.int v1, .ref (z_a X (z_sb c0)), .ref (z_a X 1), .ref (z_a X 47)]) C (t0_sures (z_sb c0) v1 (sh7_k1 hk0) mσ2) kvX0_sures rfl mlX7_90 z_CF0 (sh7_k1 hk0) rfl (by decide) rfl (Nat.le_of_ble_eq_true rfl) dX7_carry_58 ?_
  obtain ⟨⟨⟩, σ4, mσ4, h⟩ := z_bnd2 h
  refine z_cvv (As := [.ref (z_a X 1), .ref (z_a X (z_sb c0)), .int v1, .int r1]) (c := 47) (st := []) C (t5_observe 1 (z_sb c0) v1 r1 rfl (sh7_k1 hk0) mσ4) kvX5_observe rfl mlX7_135 z_CF5 rfl rfl (by decide) rfl (Nat.le_of_ble_eq_true rfl) dX7_carry_61 ?_
  refine z_aload_n C dX7_carry_64 rfl rfl ?_
  refine z_geta (k := 2) (q := 47) C z_CF7 (by decide) flX7_19 hk0 (sh7_r2 hk0) dX7_carry_65 ?_
  refine z_aload_n C dX7_carry_68 rfl rfl ?_
  refine z_geta (k := 0) (q := 1) C z_CF7 (by decide) flX7_9 hk0 (sh7_r0 hk0) dX7_carry_69 ?_
  refine z_geta (k := 7) (q := 7) C z_CF1 (by decide) flX7_141 rfl rfl dX7_carry_72 ?_
  obtain ⟨r5, σ6, mσ6, h⟩ := z_bnd2 h
  refine z_cvi (As := [.ref (z_a X 7)]) (c := 47) (st := []) C (t5_seeds 7 rfl mσ6) kvX5_seeds rfl mlX7_164 z_CF5 rfl rfl (by decide) rfl (Nat.le_of_ble_eq_true rfl) dX7_carry_75 ?_
  refine z_istore_n (lo' := [some (.ref (z_a X c0)), some (.int v1), some (.int v2), some (.int r5)]) C dX7_carry_78 rfl (Nat.le_of_ble_eq_true rfl) rfl ?_
  refine z_iload_n C dX7_carry_79 rfl rfl ?_
  refine z_if_le (tgt := 125) C dX7_carry_80 (by decide) (fun hc => ?_) (fun hc => ?_)
  · replace h := z_neg hc h
    exact z_vret C h dX7_carry_125
  · replace h := z_pos hc h
    refine z_aload_n C dX7_carry_83 rfl rfl ?_
    refine z_geta (k := 1) (q := (z_sb c0)) C z_CF7 (by decide) flX7_15 hk0 (sh7_r1 hk0) dX7_carry_84 ?_
    refine z_iload_n C dX7_carry_87 rfl rfl ?_
    refine z_aload_n C dX7_carry_88 rfl rfl ?_
    refine z_geta (k := 1) (q := (z_sb c0)) C z_CF7 (by decide) flX7_15 hk0 (sh7_r1 hk0) dX7_carry_89 ?_
    refine z_geta (k := 1) (q := ((z_sb c0) + 2)) C z_CF0 (by decide) flX7_54 (sh7_k1 hk0) (sh0_r1 (sh7_k1 hk0)) dX7_carry_92 ?_
    refine z_iload_n C dX7_carry_95 rfl rfl ?_
    obtain ⟨b7, h⟩ := z_chk_some h
    refine z_iald C (sh0_k1 (sh7_k1 hk0)) (sh0_l1 (sh7_k1 hk0)) b7 dX7_carry_96 ?_
    refine z_iload_n C dX7_carry_97 rfl rfl ?_
    refine z_aload_n C dX7_carry_98 rfl rfl ?_
    refine z_geta (k := 1) (q := (z_sb c0)) C z_CF7 (by decide) flX7_15 hk0 (sh7_r1 hk0) dX7_carry_99 ?_
    refine z_geta (k := 3) (q := ((z_sb c0) + 4)) C z_CF0 (by decide) flX7_156 (sh7_k1 hk0) (sh0_r3 (sh7_k1 hk0)) dX7_carry_102 ?_
    refine z_iload_n C dX7_carry_105 rfl rfl ?_
    obtain ⟨b8, h⟩ := z_chk_some h
    refine z_iald C (sh0_k3 (sh7_k1 hk0)) (sh0_l3 (sh7_k1 hk0)) b8 dX7_carry_106 ?_
    obtain ⟨⟨⟩, σ10, mσ10, h⟩ := z_bnd2 h
    refine z_cvv (As := [.int v2, .int (σ6 ((z_sb c0) + 2) (z_ix v1)), .int r5, .int (σ6 ((z_sb c0) + 4) (z_ix v1))]) (c := (z_sb c0)) (st := []) C (t0_putPot (z_sb c0) v2 (σ6 ((z_sb c0) + 2) (z_ix v1)) r5 (σ6 ((z_sb c0) + 4) (z_ix v1)) (sh7_k1 hk0) mσ10) kvX0_putPot rfl mlX7_36 z_CF0 (sh7_k1 hk0) rfl (by decide) rfl (Nat.le_of_ble_eq_true rfl) dX7_carry_107 ?_
    refine z_aload_n C dX7_carry_110 rfl rfl ?_
    refine z_iconst (v := 4) C dX7_carry_111 (by decide) ?_
    refine z_iload_n C dX7_carry_112 rfl rfl ?_
    refine z_aload_n C dX7_carry_113 rfl rfl ?_
    refine z_geta (k := 1) (q := (z_sb c0)) C z_CF7 (by decide) flX7_15 hk0 (sh7_r1 hk0) dX7_carry_114 ?_
    refine z_geta (k := 1) (q := ((z_sb c0) + 2)) C z_CF0 (by decide) flX7_54 (sh7_k1 hk0) (sh0_r1 (sh7_k1 hk0)) dX7_carry_117 ?_
    refine z_iload_n C dX7_carry_120 rfl rfl ?_
    obtain ⟨b11, h⟩ := z_chk_some h
    refine z_iald C (sh0_k1 (sh7_k1 hk0)) (sh0_l1 (sh7_k1 hk0)) b11 dX7_carry_121 ?_
    obtain ⟨⟨⟩, σ13, mσ13, h⟩ := z_bnd2 h
    refine z_cvv (As := [.int 4, .int v2, .int (σ10 ((z_sb c0) + 2) (z_ix v1))]) (c := c0) (st := []) C (t7_write c0 4 v2 (σ10 ((z_sb c0) + 2) (z_ix v1)) hk0 mσ13) kvX7_write rfl mlX7_40 z_CF7 hk0 rfl (by decide) rfl (Nat.le_of_ble_eq_true rfl) dX7_carry_122 ?_
    exact z_vret C h dX7_carry_125
set_option maxHeartbeats 4000000 in
set_option maxRecDepth 100000 in
theorem t7_carry_L2 {X : z_Ct} (C : z_Cx S1 X RX7 cX7_carry 4 5 none) {u : Unit × z_M} : ∀ (n : Nat) (c0 : Nat) (v1 : Int32) (v2 : Int32) (σ : z_M),S1.1 c0 = 7 →  f7_carry_L2 n c0 v1 v2 σ = some u → z_W S1 X 2 [some (.ref (z_a X c0)), some (.int v1), some (.int v2), none] [] σ (z_ov u) := by
  intro n
  induction n with
  | zero => intro c0 v1 v2 σ hk0 h; rw [f7_carry_L2] at h; cases h
  | succ n ih =>
    intro c0 v1 v2 σ hk0 h
    rw [f7_carry_L2] at h
    refine z_iload_n C dX7_carry_2 rfl rfl ?_
    refine z_aload_n C dX7_carry_3 rfl rfl ?_
    refine z_geta (k := 0) (q := 1) C z_CF7 (by decide) flX7_9 hk0 (sh7_r0 hk0) dX7_carry_4 ?_
    refine z_geti (k := 0) C z_CF1 (by decide) flX7_80 rfl rfl dX7_carry_7 ?_
    refine z_icmp_ge (tgt := 132) C dX7_carry_10 (by decide) (fun hc => ?_) (fun hc => ?_)
    · replace h := z_neg hc h
      exact z_vret C h dX7_carry_132
    · replace h := z_pos hc h
      refine z_aload_n C dX7_carry_13 rfl rfl ?_
      refine z_geta (k := 0) (q := 1) C z_CF7 (by decide) flX7_9 hk0 (sh7_r0 hk0) dX7_carry_14 ?_
      refine z_geta (k := 5) (q := 3) C z_CF1 (by decide) flX7_162 rfl rfl dX7_carry_17 ?_
      refine z_iload_n C dX7_carry_20 rfl rfl ?_
      obtain ⟨b1, h⟩ := z_chk_some h
      refine z_iald C rfl rfl b1 dX7_carry_21 ?_
      refine z_iload_n C dX7_carry_22 rfl rfl ?_
      refine z_ishr C dX7_carry_23 ?_
      refine z_iconst (v := 1) C dX7_carry_24 (by decide) ?_
      refine z_iand C dX7_carry_25 ?_
      refine z_if_eq (tgt := 126) C dX7_carry_26 (by decide) (fun hc => ?_) (fun hc => ?_)
      · replace h := z_pos hc h
        refine z_iinc (v := v2 + 1) (lo' := [some (.ref (z_a X c0)), some (.int v1), some (.int (v2 + 1)), none]) C dX7_carry_126 rfl rfl rfl ?_
        refine z_goto (tgt := 2) C dX7_carry_129 (by decide) ?_
        exact ih c0 v1 (v2 + 1) σ hk0 h
      · replace h := z_neg hc h
        refine z_aload_n C dX7_carry_29 rfl rfl ?_
        refine z_geta (k := 1) (q := (z_sb c0)) C z_CF7 (by decide) flX7_15 hk0 (sh7_r1 hk0) dX7_carry_30 ?_
        refine z_iload_n C dX7_carry_33 rfl rfl ?_
        obtain ⟨r2, σ3, mσ3, h⟩ := z_bnd2 h
        refine z_cvi (As := [.int v2]) (c := (z_sb c0)) (st := []) C (t0_hasPot (z_sb c0) v2 (sh7_k1 hk0) mσ3) kvX0_hasPot rfl mlX7_86 z_CF0 (sh7_k1 hk0) rfl (by decide) rfl (Nat.le_of_ble_eq_true rfl) dX7_carry_34 ?_
        refine z_if_ne (tgt := 126) C dX7_carry_37 (by decide) (fun hc => ?_) (fun hc => ?_)
        · replace h := z_neg hc h
          refine z_iinc (v := v2 + 1) (lo' := [some (.ref (z_a X c0)), some (.int v1), some (.int (v2 + 1)), none]) C dX7_carry_126 rfl rfl rfl ?_
          refine z_goto (tgt := 2) C dX7_carry_129 (by decide) ?_
          exact ih c0 v1 (v2 + 1) σ3 hk0 h
        · replace h := z_pos hc h
          exact t7_carry_J40 C c0 v1 v2 σ3 hk0 h
set_option maxHeartbeats 4000000 in
set_option maxRecDepth 100000 in
theorem t7_carry {a : Nat → Nat} (c0 : Nat) (p1 : Int32) {σ : z_M} (hk0 : S1.1 c0 = 7) {u : Unit × z_M} (h : f7_carry c0 p1 σ = some u) : z_Mt yX7_carry (z_w yX7_carry cX7_carry 4 none) 5 S1 a σ [.ref (a c0), .int p1] (z_ov u) := by
  refine z_head (lo := [some (.ref (a c0)), some (.int p1), none, none]) (by decide) (Nat.le_of_ble_eq_true rfl) ?_ rfl ?_
  · intro i v hv
    exact z_loe (vs := [.ref (a c0), .int p1]) (n := 2) rfl (by simp [z_c1i, z_c1r]) i v hv
  · intro X hXa C
    subst hXa
    unfold f7_carry at h
    refine z_iconst (v := 0) C dX7_carry_0 (by decide) ?_
    refine z_istore_n (lo' := [some (.ref (z_a X c0)), some (.int p1), some (.int 0), none]) C dX7_carry_1 rfl (Nat.le_of_ble_eq_true rfl) rfl ?_
    exact t7_carry_L2 C _ c0 p1 0 σ hk0 h
set_option maxHeartbeats 4000000 in
set_option maxRecDepth 100000 in
theorem t7_draw {a : Nat → Nat} (c0 : Nat) (p1 : Int32) {σ : z_M} (hk0 : S1.1 c0 = 7) {u : Int32 × z_M} (h : f7_draw c0 p1 σ = some u) : z_Mt yX7_draw (z_w yX7_draw cX7_draw 2 (some .int)) 1 S1 a σ [.ref (a c0), .int p1] (z_oi u) := by
  refine z_head (lo := [some (.ref (a c0)), some (.int p1)]) (by decide) (Nat.le_of_ble_eq_true rfl) ?_ rfl ?_
  · intro i v hv
    exact z_loe (vs := [.ref (a c0), .int p1]) (n := 0) rfl (by simp [z_c1i, z_c1r]) i v hv
  · intro X hXa C
    subst hXa
    unfold f7_draw at h
    refine z_aload_n C dX7_draw_0 rfl rfl ?_
    refine z_geta (k := 1) (q := (z_sb c0)) C z_CF7 (by decide) flX7_15 hk0 (sh7_r1 hk0) dX7_draw_1 ?_
    refine z_ldc (v := 1664525) C dX7_draw_4 cnX7_176 ?_
    refine z_aload_n C dX7_draw_6 rfl rfl ?_
    refine z_geta (k := 1) (q := (z_sb c0)) C z_CF7 (by decide) flX7_15 hk0 (sh7_r1 hk0) dX7_draw_7 ?_
    refine z_geti (k := 5) C z_CF0 (by decide) flX7_177 (sh7_k1 hk0) (sh0_n5 (sh7_k1 hk0)) dX7_draw_10 ?_
    refine z_imul C dX7_draw_13 ?_
    refine z_ldc (v := 1013904223) C dX7_draw_14 cnX7_180 ?_
    refine z_iadd C dX7_draw_16 ?_
    obtain ⟨σ1, eσ1, h⟩ := z_let_some h
    refine z_puti (k := 5) C z_CF0 (by decide) flX7_177 rfl rfl (sh7_k1 hk0) (sh0_n5 (sh7_k1 hk0)) eσ1 dX7_draw_17 ?_
    refine z_iload_n C dX7_draw_20 rfl rfl ?_
    refine z_if_le (tgt := 39) C dX7_draw_21 (by decide) (fun hc => ?_) (fun hc => ?_)
    · replace h := z_neg hc h
      refine z_iconst (v := 0) C dX7_draw_39 (by decide) ?_
      exact z_iret C h dX7_draw_40
    · replace h := z_pos hc h
      refine z_aload_n C dX7_draw_24 rfl rfl ?_
      refine z_geta (k := 1) (q := (z_sb c0)) C z_CF7 (by decide) flX7_15 hk0 (sh7_r1 hk0) dX7_draw_25 ?_
      refine z_geti (k := 5) C z_CF0 (by decide) flX7_177 (sh7_k1 hk0) (sh0_n5 (sh7_k1 hk0)) dX7_draw_28 ?_
      refine z_bipush (v := 8) C dX7_draw_31 (by decide) ?_
      refine z_iushr C dX7_draw_33 ?_
      refine z_iload_n C dX7_draw_34 rfl rfl ?_
      obtain ⟨b2, h⟩ := z_chk_some h
      refine z_irem C dX7_draw_35 (by simpa using b2) ?_
      refine z_goto (tgt := 40) C dX7_draw_36 (by decide) ?_
      exact z_iret C h dX7_draw_40
set_option maxHeartbeats 4000000 in
set_option maxRecDepth 100000 in
theorem t7_fly_L43 {X : z_Ct} (C : z_Cx S1 X RX7 cX7_fly 3 6 none) {u : Unit × z_M} : ∀ (n : Nat) (c0 : Nat) (v1 : Int32) (v2 : Int32) (σ : z_M),S1.1 c0 = 7 →  f7_fly_L43 n c0 v1 v2 σ = some u → z_W S1 X 43 [some (.ref (z_a X c0)), some (.int v1), some (.int v2)] [] σ (z_ov u) := by
  intro n
  induction n with
  | zero => intro c0 v1 v2 σ hk0 h; rw [f7_fly_L43] at h; cases h
  | succ n ih =>
    intro c0 v1 v2 σ hk0 h
    rw [f7_fly_L43] at h
    refine z_iload_n C dX7_fly_43 rfl rfl ?_
    refine z_aload_n C dX7_fly_44 rfl rfl ?_
    refine z_geta (k := 0) (q := 1) C z_CF7 (by decide) flX7_9 hk0 (sh7_r0 hk0) dX7_fly_45 ?_
    refine z_geti (k := 0) C z_CF1 (by decide) flX7_80 rfl rfl dX7_fly_48 ?_
    refine z_icmp_ge (tgt := 90) C dX7_fly_51 (by decide) (fun hc => ?_) (fun hc => ?_)
    · replace h := z_neg hc h
      exact z_vret C h dX7_fly_90
    · replace h := z_pos hc h
      refine z_iload_n C dX7_fly_54 rfl rfl ?_
      refine z_iload_n C dX7_fly_55 rfl rfl ?_
      refine z_ishr C dX7_fly_56 ?_
      refine z_iconst (v := 1) C dX7_fly_57 (by decide) ?_
      refine z_iand C dX7_fly_58 ?_
      refine z_if_eq (tgt := 84) C dX7_fly_59 (by decide) (fun hc => ?_) (fun hc => ?_)
      · replace h := z_pos hc h
        refine z_iinc (v := v2 + 1) (lo' := [some (.ref (z_a X c0)), some (.int v1), some (.int (v2 + 1))]) C dX7_fly_84 rfl rfl rfl ?_
        refine z_goto (tgt := 43) C dX7_fly_87 (by decide) ?_
        exact ih c0 v1 (v2 + 1) σ hk0 h
      · replace h := z_neg hc h
        refine z_aload_n C dX7_fly_62 rfl rfl ?_
        refine z_sipush (v := 1000) C dX7_fly_63 (by decide) ?_
        obtain ⟨r1, σ2, mσ2, h⟩ := z_bnd2 h
        refine z_cvi (As := [.int 1000]) (c := c0) (st := []) C (t7_draw c0 1000 hk0 mσ2) kvX7_draw rfl mlX7_153 z_CF7 hk0 rfl (by decide) rfl (Nat.le_of_ble_eq_true rfl) dX7_fly_66 ?_
        refine z_aload_n C dX7_fly_69 rfl rfl ?_
        refine z_geta (k := 0) (q := 1) C z_CF7 (by decide) flX7_9 hk0 (sh7_r0 hk0) dX7_fly_70 ?_
        refine z_geti (k := 3) C z_CF1 (by decide) flX7_104 rfl rfl dX7_fly_73 ?_
        refine z_icmp_ge (tgt := 84) C dX7_fly_76 (by decide) (fun hc => ?_) (fun hc => ?_)
        · replace h := z_neg hc h
          refine z_iinc (v := v2 + 1) (lo' := [some (.ref (z_a X c0)), some (.int v1), some (.int (v2 + 1))]) C dX7_fly_84 rfl rfl rfl ?_
          refine z_goto (tgt := 43) C dX7_fly_87 (by decide) ?_
          exact ih c0 v1 (v2 + 1) σ2 hk0 h
        · replace h := z_pos hc h
          refine z_aload_n C dX7_fly_79 rfl rfl ?_
          refine z_iload_n C dX7_fly_80 rfl rfl ?_
          obtain ⟨⟨⟩, σ4, mσ4, h⟩ := z_bnd2 h
          refine z_cvv (As := [.int v2]) (c := c0) (st := []) C (t7_carry c0 v2 hk0 mσ4) kvX7_carry rfl mlX7_159 z_CF7 hk0 rfl (by decide) rfl (Nat.le_of_ble_eq_true rfl) dX7_fly_81 ?_
          refine z_iinc (v := v2 + 1) (lo' := [some (.ref (z_a X c0)), some (.int v1), some (.int (v2 + 1))]) C dX7_fly_84 rfl rfl rfl ?_
          refine z_goto (tgt := 43) C dX7_fly_87 (by decide) ?_
          exact ih c0 v1 (v2 + 1) σ4 hk0 h
set_option maxHeartbeats 4000000 in
set_option maxRecDepth 100000 in
theorem t7_fly_J41 {X : z_Ct} (C : z_Cx S1 X RX7 cX7_fly 3 6 none) {u : Unit × z_M} (c0 : Nat) (v1 : Int32) (σ : z_M) (hk0 : S1.1 c0 = 7) (h : f7_fly_J41 c0 v1 σ = some u) : z_W S1 X 41 [some (.ref (z_a X c0)), some (.int v1), none] [] σ (z_ov u) := by
  unfold f7_fly_J41 at h
  refine z_iconst (v := 0) C dX7_fly_41 (by decide) ?_
  refine z_istore_n (lo' := [some (.ref (z_a X c0)), some (.int v1), some (.int 0)]) C dX7_fly_42 rfl (Nat.le_of_ble_eq_true rfl) rfl ?_
  exact t7_fly_L43 C _ c0 v1 0 σ hk0 h
set_option maxHeartbeats 4000000 in
set_option maxRecDepth 100000 in
theorem t7_fly_L4 {X : z_Ct} (C : z_Cx S1 X RX7 cX7_fly 3 6 none) {u : Unit × z_M} : ∀ (n : Nat) (c0 : Nat) (v1 : Int32) (v2 : Int32) (σ : z_M),S1.1 c0 = 7 →  f7_fly_L4 n c0 v1 v2 σ = some u → z_W S1 X 4 [some (.ref (z_a X c0)), some (.int v1), some (.int v2)] [] σ (z_ov u) := by
  intro n
  induction n with
  | zero => intro c0 v1 v2 σ hk0 h; rw [f7_fly_L4] at h; cases h
  | succ n ih =>
    intro c0 v1 v2 σ hk0 h
    rw [f7_fly_L4] at h
    refine z_iload_n C dX7_fly_4 rfl rfl ?_
    refine z_aload_n C dX7_fly_5 rfl rfl ?_
    refine z_geta (k := 0) (q := 1) C z_CF7 (by decide) flX7_9 hk0 (sh7_r0 hk0) dX7_fly_6 ?_
    refine z_geti (k := 0) C z_CF1 (by decide) flX7_80 rfl rfl dX7_fly_9 ?_
    refine z_icmp_ge (tgt := 41) C dX7_fly_12 (by decide) (fun hc => ?_) (fun hc => ?_)
    · replace h := z_neg hc h
      refine z_kill (lo' := [some (.ref (z_a X c0)), some (.int v1), none]) [2] rfl ?_
      exact t7_fly_J41 C c0 v1 σ hk0 h
    · replace h := z_pos hc h
      refine z_aload_n C dX7_fly_15 rfl rfl ?_
      refine z_geta (k := 1) (q := (z_sb c0)) C z_CF7 (by decide) flX7_15 hk0 (sh7_r1 hk0) dX7_fly_16 ?_
      refine z_geta (k := 2) (q := ((z_sb c0) + 3)) C z_CF0 (by decide) flX7_147 (sh7_k1 hk0) (sh0_r2 (sh7_k1 hk0)) dX7_fly_19 ?_
      refine z_iload_n C dX7_fly_22 rfl rfl ?_
      obtain ⟨b1, h⟩ := z_chk_some h
      refine z_iald C (sh0_k2 (sh7_k1 hk0)) (sh0_l2 (sh7_k1 hk0)) b1 dX7_fly_23 ?_
      refine z_bipush (v := 50) C dX7_fly_24 (by decide) ?_
      refine z_icmp_lt (tgt := 35) C dX7_fly_26 (by decide) (fun hc => ?_) (fun hc => ?_)
      · replace h := z_pos hc h
        refine z_iinc (v := v2 + 1) (lo' := [some (.ref (z_a X c0)), some (.int v1), some (.int (v2 + 1))]) C dX7_fly_35 rfl rfl rfl ?_
        refine z_goto (tgt := 4) C dX7_fly_38 (by decide) ?_
        exact ih c0 v1 (v2 + 1) σ hk0 h
      · replace h := z_neg hc h
        refine z_iload_n C dX7_fly_29 rfl rfl ?_
        refine z_iconst (v := 1) C dX7_fly_30 (by decide) ?_
        refine z_iload_n C dX7_fly_31 rfl rfl ?_
        refine z_ishl C dX7_fly_32 ?_
        refine z_ior C dX7_fly_33 ?_
        refine z_istore_n (lo' := [some (.ref (z_a X c0)), some (.int (v1 ||| (z_shl 1 v2))), some (.int v2)]) C dX7_fly_34 rfl (Nat.le_of_ble_eq_true rfl) rfl ?_
        refine z_iinc (v := v2 + 1) (lo' := [some (.ref (z_a X c0)), some (.int (v1 ||| (z_shl 1 v2))), some (.int (v2 + 1))]) C dX7_fly_35 rfl rfl rfl ?_
        refine z_goto (tgt := 4) C dX7_fly_38 (by decide) ?_
        exact ih c0 (v1 ||| (z_shl 1 v2)) (v2 + 1) σ hk0 h
set_option maxHeartbeats 4000000 in
set_option maxRecDepth 100000 in
theorem t7_fly {a : Nat → Nat} (c0 : Nat) {σ : z_M} (hk0 : S1.1 c0 = 7) {u : Unit × z_M} (h : f7_fly c0 σ = some u) : z_Mt yX7_fly (z_w yX7_fly cX7_fly 3 none) 6 S1 a σ [.ref (a c0)] (z_ov u) := by
  refine z_head (lo := [some (.ref (a c0)), none, none]) (by decide) (Nat.le_of_ble_eq_true rfl) ?_ rfl ?_
  · intro i v hv
    exact z_loe (vs := [.ref (a c0)]) (n := 2) rfl (by simp [z_c1i, z_c1r]) i v hv
  · intro X hXa C
    subst hXa
    unfold f7_fly at h
    refine z_iconst (v := 0) C dX7_fly_0 (by decide) ?_
    refine z_istore_n (lo' := [some (.ref (z_a X c0)), some (.int 0), none]) C dX7_fly_1 rfl (Nat.le_of_ble_eq_true rfl) rfl ?_
    refine z_iconst (v := 0) C dX7_fly_2 (by decide) ?_
    refine z_istore_n (lo' := [some (.ref (z_a X c0)), some (.int 0), some (.int 0)]) C dX7_fly_3 rfl (Nat.le_of_ble_eq_true rfl) rfl ?_
    exact t7_fly_L4 C _ c0 0 0 σ hk0 h
set_option maxHeartbeats 4000000 in
set_option maxRecDepth 100000 in
theorem t7_follow_J128 {X : z_Ct} (C : z_Cx S1 X RX7 cX7_follow 7 4 none) {u : Unit × z_M} (c0 : Nat) (v2 : Int32) (v3 : Int32) (v6 : Int32) (σ : z_M) (hk0 : S1.1 c0 = 7) (h : f7_follow_J128 c0 v2 v3 v6 σ = some u) : z_W S1 X 128 [some (.ref (z_a X c0)), none, some (.int v2), some (.int v3), none, none, some (.int v6)] [] σ (z_ov u) := by
  unfold f7_follow_J128 at h
  refine z_iload_n C dX7_follow_128 rfl rfl ?_
  refine z_bipush (v := 25) C dX7_follow_129 (by decide) ?_
  refine z_icmp_ne (tgt := 145) C dX7_follow_131 (by decide) (fun hc => ?_) (fun hc => ?_)
  · replace h := z_neg hc h
    exact z_vret C h dX7_follow_145
  · replace h := z_pos hc h
    refine z_iload C dX7_follow_134 rfl ?_
    refine z_if_eq (tgt := 145) C dX7_follow_136 (by decide) (fun hc => ?_) (fun hc => ?_)
    · replace h := z_pos hc h
      exact z_vret C h dX7_follow_145
    · replace h := z_neg hc h
      refine z_aload_n C dX7_follow_139 rfl rfl ?_
      refine z_iload_n C dX7_follow_140 rfl rfl ?_
      refine z_iconst (v := 1) C dX7_follow_141 (by decide) ?_
      obtain ⟨⟨⟩, σ2, mσ2, h⟩ := z_bnd2 h
      refine z_cvv (As := [.int v3, .int 1]) (c := c0) (st := []) C (t7_lose c0 v3 1 hk0 mσ2) kvX7_lose rfl mlX7_123 z_CF7 hk0 rfl (by decide) rfl (Nat.le_of_ble_eq_true rfl) dX7_follow_142 ?_
      exact z_vret C h dX7_follow_145
set_option maxHeartbeats 4000000 in
set_option maxRecDepth 100000 in
theorem t7_follow_J108 {X : z_Ct} (C : z_Cx S1 X RX7 cX7_follow 7 4 none) {u : Unit × z_M} (c0 : Nat) (v2 : Int32) (v3 : Int32) (v4 : Int32) (v6 : Int32) (σ : z_M) (hk0 : S1.1 c0 = 7) (h : f7_follow_J108 c0 v2 v3 v4 v6 σ = some u) : z_W S1 X 108 [some (.ref (z_a X c0)), none, some (.int v2), some (.int v3), some (.int v4), none, some (.int v6)] [] σ (z_ov u) := by
  unfold f7_follow_J108 at h
  refine z_iload_n C dX7_follow_108 rfl rfl ?_
  refine z_iconst (v := 2) C dX7_follow_109 (by decide) ?_
  refine z_icmp_ne (tgt := 128) C dX7_follow_110 (by decide) (fun hc => ?_) (fun hc => ?_)
  · replace h := z_neg hc h
    refine z_kill (lo' := [some (.ref (z_a X c0)), none, some (.int v2), some (.int v3), none, none, some (.int v6)]) [4] rfl ?_
    exact t7_follow_J128 C c0 v2 v3 v6 σ hk0 h
  · replace h := z_pos hc h
    refine z_iload C dX7_follow_113 rfl ?_
    refine z_if_eq (tgt := 128) C dX7_follow_115 (by decide) (fun hc => ?_) (fun hc => ?_)
    · replace h := z_pos hc h
      refine z_kill (lo' := [some (.ref (z_a X c0)), none, some (.int v2), some (.int v3), none, none, some (.int v6)]) [4] rfl ?_
      exact t7_follow_J128 C c0 v2 v3 v6 σ hk0 h
    · replace h := z_neg hc h
      refine z_aload_n C dX7_follow_118 rfl rfl ?_
      refine z_iload_n C dX7_follow_119 rfl rfl ?_
      refine z_iload C dX7_follow_120 rfl ?_
      obtain ⟨⟨⟩, σ2, mσ2, h⟩ := z_bnd2 h
      refine z_cvv (As := [.int v3, .int v4]) (c := c0) (st := []) C (t7_pour c0 v3 v4 hk0 mσ2) kvX7_pour rfl mlX7_120 z_CF7 hk0 rfl (by decide) rfl (Nat.le_of_ble_eq_true rfl) dX7_follow_122 ?_
      refine z_goto (tgt := 145) C dX7_follow_125 (by decide) ?_
      exact z_vret C h dX7_follow_145
set_option maxHeartbeats 4000000 in
set_option maxRecDepth 100000 in
theorem t7_follow {a : Nat → Nat} (c0 : Nat) (p1 : Int32) {σ : z_M} (hk0 : S1.1 c0 = 7) {u : Unit × z_M} (h : f7_follow c0 p1 σ = some u) : z_Mt yX7_follow (z_w yX7_follow cX7_follow 7 none) 4 S1 a σ [.ref (a c0), .int p1] (z_ov u) := by
  refine z_head (lo := [some (.ref (a c0)), some (.int p1), none, none, none, none, none]) (by decide) (Nat.le_of_ble_eq_true rfl) ?_ rfl ?_
  · intro i v hv
    exact z_loe (vs := [.ref (a c0), .int p1]) (n := 5) rfl (by simp [z_c1i, z_c1r]) i v hv
  · intro X hXa C
    subst hXa
    unfold f7_follow at h
    refine z_aload_n C dX7_follow_0 rfl rfl ?_
    refine z_geta (k := 0) (q := 1) C z_CF7 (by decide) flX7_9 hk0 (sh7_r0 hk0) dX7_follow_1 ?_
    refine z_geta (k := 9) (q := 13) C z_CF1 (by decide) flX7_61 rfl rfl dX7_follow_4 ?_
    refine z_iload_n C dX7_follow_7 rfl rfl ?_
    refine z_iconst (v := 1) C dX7_follow_8 (by decide) ?_
    obtain ⟨r1, σ2, mσ2, h⟩ := z_bnd2 h
    refine z_cvi (As := [.int p1, .int 1]) (c := 13) (st := []) C (t9_at 13 p1 1 rfl mσ2) kvX9_at rfl mlX7_71 z_CF9 rfl rfl (by decide) rfl (Nat.le_of_ble_eq_true rfl) dX7_follow_9 ?_
    refine z_istore_n (lo' := [some (.ref (z_a X c0)), some (.int p1), some (.int r1), none, none, none, none]) C dX7_follow_12 rfl (Nat.le_of_ble_eq_true rfl) rfl ?_
    refine z_aload_n C dX7_follow_13 rfl rfl ?_
    refine z_geta (k := 0) (q := 1) C z_CF7 (by decide) flX7_9 hk0 (sh7_r0 hk0) dX7_follow_14 ?_
    refine z_geta (k := 9) (q := 13) C z_CF1 (by decide) flX7_61 rfl rfl dX7_follow_17 ?_
    refine z_iload_n C dX7_follow_20 rfl rfl ?_
    refine z_iconst (v := 2) C dX7_follow_21 (by decide) ?_
    obtain ⟨r3, σ4, mσ4, h⟩ := z_bnd2 h
    refine z_cvi (As := [.int p1, .int 2]) (c := 13) (st := []) C (t9_at 13 p1 2 rfl mσ4) kvX9_at rfl mlX7_71 z_CF9 rfl rfl (by decide) rfl (Nat.le_of_ble_eq_true rfl) dX7_follow_22 ?_
    refine z_istore_n (lo' := [some (.ref (z_a X c0)), some (.int p1), some (.int r1), some (.int r3), none, none, none]) C dX7_follow_25 rfl (Nat.le_of_ble_eq_true rfl) rfl ?_
    refine z_aload_n C dX7_follow_26 rfl rfl ?_
    refine z_geta (k := 0) (q := 1) C z_CF7 (by decide) flX7_9 hk0 (sh7_r0 hk0) dX7_follow_27 ?_
    refine z_geta (k := 9) (q := 13) C z_CF1 (by decide) flX7_61 rfl rfl dX7_follow_30 ?_
    refine z_iload_n C dX7_follow_33 rfl rfl ?_
    refine z_iconst (v := 3) C dX7_follow_34 (by decide) ?_
    obtain ⟨r5, σ6, mσ6, h⟩ := z_bnd2 h
    refine z_cvi (As := [.int p1, .int 3]) (c := 13) (st := []) C (t9_at 13 p1 3 rfl mσ6) kvX9_at rfl mlX7_71 z_CF9 rfl rfl (by decide) rfl (Nat.le_of_ble_eq_true rfl) dX7_follow_35 ?_
    refine z_istore (lo' := [some (.ref (z_a X c0)), some (.int p1), some (.int r1), some (.int r3), some (.int r5), none, none]) C dX7_follow_38 (Nat.le_of_ble_eq_true rfl) rfl ?_
    refine z_aload_n C dX7_follow_40 rfl rfl ?_
    refine z_geta (k := 0) (q := 1) C z_CF7 (by decide) flX7_9 hk0 (sh7_r0 hk0) dX7_follow_41 ?_
    refine z_geta (k := 9) (q := 13) C z_CF1 (by decide) flX7_61 rfl rfl dX7_follow_44 ?_
    refine z_iload_n C dX7_follow_47 rfl rfl ?_
    refine z_iconst (v := 4) C dX7_follow_48 (by decide) ?_
    obtain ⟨r7, σ8, mσ8, h⟩ := z_bnd2 h
    refine z_cvi (As := [.int p1, .int 4]) (c := 13) (st := []) C (t9_at 13 p1 4 rfl mσ8) kvX9_at rfl mlX7_71 z_CF9 rfl rfl (by decide) rfl (Nat.le_of_ble_eq_true rfl) dX7_follow_49 ?_
    refine z_istore (lo' := [some (.ref (z_a X c0)), some (.int p1), some (.int r1), some (.int r3), some (.int r5), some (.int r7), none]) C dX7_follow_52 (Nat.le_of_ble_eq_true rfl) rfl ?_
    refine z_aload_n C dX7_follow_54 rfl rfl ?_
    refine z_geta (k := 1) (q := (z_sb c0)) C z_CF7 (by decide) flX7_15 hk0 (sh7_r1 hk0) dX7_follow_55 ?_
    refine z_iload_n C dX7_follow_58 rfl rfl ?_
    obtain ⟨r9, σ10, mσ10, h⟩ := z_bnd2 h
    refine z_cvi (As := [.int r3]) (c := (z_sb c0)) (st := []) C (t0_hasPot (z_sb c0) r3 (sh7_k1 hk0) mσ10) kvX0_hasPot rfl mlX7_86 z_CF0 (sh7_k1 hk0) rfl (by decide) rfl (Nat.le_of_ble_eq_true rfl) dX7_follow_59 ?_
    refine z_istore (lo' := [some (.ref (z_a X c0)), some (.int p1), some (.int r1), some (.int r3), some (.int r5), some (.int r7), some (.int r9)]) C dX7_follow_62 (Nat.le_of_ble_eq_true rfl) rfl ?_
    refine z_iload_n C dX7_follow_64 rfl rfl ?_
    refine z_bipush (v := 26) C dX7_follow_65 (by decide) ?_
    refine z_icmp_ne (tgt := 85) C dX7_follow_67 (by decide) (fun hc => ?_) (fun hc => ?_)
    · replace h := z_neg hc h
      refine z_iload_n C dX7_follow_85 rfl rfl ?_
      refine z_bipush (v := 22) C dX7_follow_86 (by decide) ?_
      refine z_icmp_ne (tgt := 108) C dX7_follow_88 (by decide) (fun hc => ?_) (fun hc => ?_)
      · replace h := z_neg hc h
        refine z_kill (lo' := [some (.ref (z_a X c0)), none, some (.int r1), some (.int r3), some (.int r5), none, some (.int r9)]) [1, 5] rfl ?_
        exact t7_follow_J108 C c0 r1 r3 r5 r9 σ10 hk0 h
      · replace h := z_pos hc h
        refine z_iload C dX7_follow_91 rfl ?_
        refine z_if_ne (tgt := 108) C dX7_follow_93 (by decide) (fun hc => ?_) (fun hc => ?_)
        · replace h := z_neg hc h
          refine z_kill (lo' := [some (.ref (z_a X c0)), none, some (.int r1), some (.int r3), some (.int r5), none, some (.int r9)]) [1, 5] rfl ?_
          exact t7_follow_J108 C c0 r1 r3 r5 r9 σ10 hk0 h
        · replace h := z_pos hc h
          refine z_aload_n C dX7_follow_96 rfl rfl ?_
          refine z_iload_n C dX7_follow_97 rfl rfl ?_
          refine z_iload C dX7_follow_98 rfl ?_
          refine z_iload C dX7_follow_100 rfl ?_
          obtain ⟨⟨⟩, σ12, mσ12, h⟩ := z_bnd2 h
          refine z_cvv (As := [.int r3, .int r5, .int r7]) (c := c0) (st := []) C (t7_plant c0 r3 r5 r7 hk0 mσ12) kvX7_plant rfl mlX7_117 z_CF7 hk0 rfl (by decide) rfl (Nat.le_of_ble_eq_true rfl) dX7_follow_102 ?_
          refine z_goto (tgt := 145) C dX7_follow_105 (by decide) ?_
          exact z_vret C h dX7_follow_145
    · replace h := z_pos hc h
      refine z_aload_n C dX7_follow_70 rfl rfl ?_
      refine z_geta (k := 1) (q := (z_sb c0)) C z_CF7 (by decide) flX7_15 hk0 (sh7_r1 hk0) dX7_follow_71 ?_
      refine z_iload_n C dX7_follow_74 rfl rfl ?_
      refine z_iload C dX7_follow_75 rfl ?_
      refine z_iload C dX7_follow_77 rfl ?_
      obtain ⟨⟨⟩, σ14, mσ14, h⟩ := z_bnd2 h
      refine z_cvv (As := [.int r3, .int r5, .int r7]) (c := (z_sb c0)) (st := []) C (t0_believe (z_sb c0) r3 r5 r7 (sh7_k1 hk0) mσ14) kvX0_believe rfl mlX7_114 z_CF0 (sh7_k1 hk0) rfl (by decide) rfl (Nat.le_of_ble_eq_true rfl) dX7_follow_79 ?_
      refine z_goto (tgt := 145) C dX7_follow_82 (by decide) ?_
      exact z_vret C h dX7_follow_145
set_option maxHeartbeats 4000000 in
set_option maxRecDepth 100000 in
theorem t7_freeze_L20 {X : z_Ct} (C : z_Cx S1 X RX7 cX7_freeze 2 4 none) {u : Unit × z_M} : ∀ (n : Nat) (c0 : Nat) (v1 : Int32) (σ : z_M),S1.1 c0 = 7 →  f7_freeze_L20 n c0 v1 σ = some u → z_W S1 X 20 [some (.ref (z_a X c0)), some (.int v1)] [] σ (z_ov u) := by
  intro n
  induction n with
  | zero => intro c0 v1 σ hk0 h; rw [f7_freeze_L20] at h; cases h
  | succ n ih =>
    intro c0 v1 σ hk0 h
    rw [f7_freeze_L20] at h
    refine z_iload_n C dX7_freeze_20 rfl rfl ?_
    refine z_aload_n C dX7_freeze_21 rfl rfl ?_
    refine z_geta (k := 0) (q := 1) C z_CF7 (by decide) flX7_9 hk0 (sh7_r0 hk0) dX7_freeze_22 ?_
    refine z_geti (k := 0) C z_CF1 (by decide) flX7_80 rfl rfl dX7_freeze_25 ?_
    refine z_icmp_ge (tgt := 72) C dX7_freeze_28 (by decide) (fun hc => ?_) (fun hc => ?_)
    · replace h := z_neg hc h
      exact z_vret C h dX7_freeze_72
    · replace h := z_pos hc h
      refine z_aload_n C dX7_freeze_31 rfl rfl ?_
      refine z_geta (k := 1) (q := (z_sb c0)) C z_CF7 (by decide) flX7_15 hk0 (sh7_r1 hk0) dX7_freeze_32 ?_
      refine z_iload_n C dX7_freeze_35 rfl rfl ?_
      obtain ⟨r1, σ2, mσ2, h⟩ := z_bnd2 h
      refine z_cvi (As := [.int v1]) (c := (z_sb c0)) (st := []) C (t0_hasPot (z_sb c0) v1 (sh7_k1 hk0) mσ2) kvX0_hasPot rfl mlX7_86 z_CF0 (sh7_k1 hk0) rfl (by decide) rfl (Nat.le_of_ble_eq_true rfl) dX7_freeze_36 ?_
      refine z_if_eq (tgt := 66) C dX7_freeze_39 (by decide) (fun hc => ?_) (fun hc => ?_)
      · replace h := z_pos hc h
        refine z_iinc (v := v1 + 1) (lo' := [some (.ref (z_a X c0)), some (.int (v1 + 1))]) C dX7_freeze_66 rfl rfl rfl ?_
        refine z_goto (tgt := 20) C dX7_freeze_69 (by decide) ?_
        exact ih c0 (v1 + 1) σ2 hk0 h
      · replace h := z_neg hc h
        refine z_aload_n C dX7_freeze_42 rfl rfl ?_
        refine z_bipush (v := 10) C dX7_freeze_43 (by decide) ?_
        obtain ⟨r3, σ4, mσ4, h⟩ := z_bnd2 h
        refine z_cvi (As := [.int 10]) (c := c0) (st := []) C (t7_draw c0 10 hk0 mσ4) kvX7_draw rfl mlX7_153 z_CF7 hk0 rfl (by decide) rfl (Nat.le_of_ble_eq_true rfl) dX7_freeze_45 ?_
        refine z_aload_n C dX7_freeze_48 rfl rfl ?_
        refine z_geta (k := 1) (q := (z_sb c0)) C z_CF7 (by decide) flX7_15 hk0 (sh7_r1 hk0) dX7_freeze_49 ?_
        refine z_geta (k := 3) (q := ((z_sb c0) + 4)) C z_CF0 (by decide) flX7_156 (sh7_k1 hk0) (sh0_r3 (sh7_k1 hk0)) dX7_freeze_52 ?_
        refine z_iload_n C dX7_freeze_55 rfl rfl ?_
        obtain ⟨b5, h⟩ := z_chk_some h
        refine z_iald C (sh0_k3 (sh7_k1 hk0)) (sh0_l3 (sh7_k1 hk0)) b5 dX7_freeze_56 ?_
        refine z_icmp_ge (tgt := 66) C dX7_freeze_57 (by decide) (fun hc => ?_) (fun hc => ?_)
        · replace h := z_neg hc h
          refine z_iinc (v := v1 + 1) (lo' := [some (.ref (z_a X c0)), some (.int (v1 + 1))]) C dX7_freeze_66 rfl rfl rfl ?_
          refine z_goto (tgt := 20) C dX7_freeze_69 (by decide) ?_
          exact ih c0 (v1 + 1) σ4 hk0 h
        · replace h := z_pos hc h
          refine z_aload_n C dX7_freeze_60 rfl rfl ?_
          refine z_iload_n C dX7_freeze_61 rfl rfl ?_
          refine z_iconst (v := 3) C dX7_freeze_62 (by decide) ?_
          obtain ⟨⟨⟩, σ7, mσ7, h⟩ := z_bnd2 h
          refine z_cvv (As := [.int v1, .int 3]) (c := c0) (st := []) C (t7_lose c0 v1 3 hk0 mσ7) kvX7_lose rfl mlX7_123 z_CF7 hk0 rfl (by decide) rfl (Nat.le_of_ble_eq_true rfl) dX7_freeze_63 ?_
          refine z_iinc (v := v1 + 1) (lo' := [some (.ref (z_a X c0)), some (.int (v1 + 1))]) C dX7_freeze_66 rfl rfl rfl ?_
          refine z_goto (tgt := 20) C dX7_freeze_69 (by decide) ?_
          exact ih c0 (v1 + 1) σ7 hk0 h
set_option maxHeartbeats 4000000 in
set_option maxRecDepth 100000 in
theorem t7_freeze {a : Nat → Nat} (c0 : Nat) {σ : z_M} (hk0 : S1.1 c0 = 7) {u : Unit × z_M} (h : f7_freeze c0 σ = some u) : z_Mt yX7_freeze (z_w yX7_freeze cX7_freeze 2 none) 4 S1 a σ [.ref (a c0)] (z_ov u) := by
  refine z_head (lo := [some (.ref (a c0)), none]) (by decide) (Nat.le_of_ble_eq_true rfl) ?_ rfl ?_
  · intro i v hv
    exact z_loe (vs := [.ref (a c0)]) (n := 1) rfl (by simp [z_c1i, z_c1r]) i v hv
  · intro X hXa C
    subst hXa
    unfold f7_freeze at h
    refine z_aload_n C dX7_freeze_0 rfl rfl ?_
    refine z_sipush (v := 1000) C dX7_freeze_1 (by decide) ?_
    obtain ⟨r1, σ2, mσ2, h⟩ := z_bnd2 h
    refine z_cvi (As := [.int 1000]) (c := c0) (st := []) C (t7_draw c0 1000 hk0 mσ2) kvX7_draw rfl mlX7_153 z_CF7 hk0 rfl (by decide) rfl (Nat.le_of_ble_eq_true rfl) dX7_freeze_4 ?_
    refine z_aload_n C dX7_freeze_7 rfl rfl ?_
    refine z_geta (k := 0) (q := 1) C z_CF7 (by decide) flX7_9 hk0 (sh7_r0 hk0) dX7_freeze_8 ?_
    refine z_geti (k := 2) C z_CF1 (by decide) flX7_98 rfl rfl dX7_freeze_11 ?_
    refine z_icmp_lt (tgt := 18) C dX7_freeze_14 (by decide) (fun hc => ?_) (fun hc => ?_)
    · replace h := z_pos hc h
      refine z_iconst (v := 0) C dX7_freeze_18 (by decide) ?_
      refine z_istore_n (lo' := [some (.ref (z_a X c0)), some (.int 0)]) C dX7_freeze_19 rfl (Nat.le_of_ble_eq_true rfl) rfl ?_
      exact t7_freeze_L20 C _ c0 0 σ2 hk0 h
    · replace h := z_neg hc h
      exact z_vret C h dX7_freeze_17
set_option maxHeartbeats 4000000 in
set_option maxRecDepth 100000 in
theorem t5_grows {a : Nat → Nat} (c1 : Nat) {σ : z_M} (hk1 : S1.1 c1 = 9) {u : Int32 × z_M} (h : f5_grows c1 σ = some u) : z_Mt yX5_grows (z_w yX5_grows cX5_grows 2 (some .int)) 4 S1 a σ [.ref (a 47), .ref (a c1)] (z_oi u) := by
  refine z_head (lo := [some (.ref (a 47)), some (.ref (a c1))]) (by decide) (Nat.le_of_ble_eq_true rfl) ?_ rfl ?_
  · intro i v hv
    exact z_loe (vs := [.ref (a 47), .ref (a c1)]) (n := 0) rfl (by simp [z_c1i, z_c1r]) i v hv
  · intro X hXa C
    subst hXa
    unfold f5_grows at h
    refine z_aload_n C dX5_grows_0 rfl rfl ?_
    refine z_aload_n C dX5_grows_1 rfl rfl ?_
    refine z_bipush (v := 8) C dX5_grows_2 (by decide) ?_
    refine z_aload_n C dX5_grows_4 rfl rfl ?_
    refine z_geta (k := 0) (q := 48) C z_CF5 (by decide) flX5_9 rfl rfl dX5_grows_5 ?_
    refine z_iconst (v := 2) C dX5_grows_8 (by decide) ?_
    obtain ⟨b1, h⟩ := z_chk_some h
    refine z_iald C rfl rfl b1 dX5_grows_9 ?_
    refine z_iconst (v := 5) C dX5_grows_10 (by decide) ?_
    refine z_isub C dX5_grows_11 ?_
    refine z_bipush (v := (-99)) C dX5_grows_12 (by decide) ?_
    refine z_bipush (v := 99) C dX5_grows_14 (by decide) ?_
    obtain ⟨r2, σ3, mσ3, h⟩ := z_bnd2 h
    refine z_cvi (As := [.ref (z_a X c1), .int 8, .int ((σ 48 (z_ix 2)) - 5), .int (-99), .int 99]) (c := 47) (st := []) C (t5_told c1 8 ((σ 48 (z_ix 2)) - 5) (-99) 99 hk1 mσ3) kvX5_told rfl mlX5_55 z_CF5 rfl rfl (by decide) rfl (Nat.le_of_ble_eq_true rfl) dX5_grows_16 ?_
    exact z_iret C h dX5_grows_19
set_option maxHeartbeats 4000000 in
set_option maxRecDepth 100000 in
theorem t5_lowers {a : Nat → Nat} (c1 : Nat) {σ : z_M} (hk1 : S1.1 c1 = 9) {u : Int32 × z_M} (h : f5_lowers c1 σ = some u) : z_Mt yX5_lowers (z_w yX5_lowers cX5_lowers 2 (some .int)) 4 S1 a σ [.ref (a 47), .ref (a c1)] (z_oi u) := by
  refine z_head (lo := [some (.ref (a 47)), some (.ref (a c1))]) (by decide) (Nat.le_of_ble_eq_true rfl) ?_ rfl ?_
  · intro i v hv
    exact z_loe (vs := [.ref (a 47), .ref (a c1)]) (n := 0) rfl (by simp [z_c1i, z_c1r]) i v hv
  · intro X hXa C
    subst hXa
    unfold f5_lowers at h
    refine z_aload_n C dX5_lowers_0 rfl rfl ?_
    refine z_aload_n C dX5_lowers_1 rfl rfl ?_
    refine z_bipush (v := 9) C dX5_lowers_2 (by decide) ?_
    refine z_aload_n C dX5_lowers_4 rfl rfl ?_
    refine z_geta (k := 0) (q := 48) C z_CF5 (by decide) flX5_9 rfl rfl dX5_lowers_5 ?_
    refine z_iconst (v := 0) C dX5_lowers_8 (by decide) ?_
    obtain ⟨b1, h⟩ := z_chk_some h
    refine z_iald C rfl rfl b1 dX5_lowers_9 ?_
    refine z_bipush (v := 10) C dX5_lowers_10 (by decide) ?_
    refine z_idiv C dX5_lowers_12 (by decide) ?_
    refine z_iconst (v := 0) C dX5_lowers_13 (by decide) ?_
    refine z_bipush (v := 100) C dX5_lowers_14 (by decide) ?_
    obtain ⟨r2, σ3, mσ3, h⟩ := z_bnd2 h
    refine z_cvi (As := [.ref (z_a X c1), .int 9, .int ((σ 48 (z_ix 0)) / 10), .int 0, .int 100]) (c := 47) (st := []) C (t5_told c1 9 ((σ 48 (z_ix 0)) / 10) 0 100 hk1 mσ3) kvX5_told rfl mlX5_55 z_CF5 rfl rfl (by decide) rfl (Nat.le_of_ble_eq_true rfl) dX5_lowers_16 ?_
    exact z_iret C h dX5_lowers_19
set_option maxHeartbeats 4000000 in
set_option maxRecDepth 100000 in
theorem t7_growPot {a : Nat → Nat} (c0 : Nat) (p1 : Int32) (p2 : Int32) {σ : z_M} (hk0 : S1.1 c0 = 7) {u : Unit × z_M} (h : f7_growPot c0 p1 p2 σ = some u) : z_Mt yX7_growPot (z_w yX7_growPot cX7_growPot 6 none) 5 S1 a σ [.ref (a c0), .int p1, .int p2] (z_ov u) := by
  refine z_head (lo := [some (.ref (a c0)), some (.int p1), some (.int p2), none, none, none]) (by decide) (Nat.le_of_ble_eq_true rfl) ?_ rfl ?_
  · intro i v hv
    exact z_loe (vs := [.ref (a c0), .int p1, .int p2]) (n := 3) rfl (by simp [z_c1i, z_c1r]) i v hv
  · intro X hXa C
    subst hXa
    unfold f7_growPot at h
    refine z_aload_n C dX7_growPot_0 rfl rfl ?_
    refine z_geta (k := 1) (q := (z_sb c0)) C z_CF7 (by decide) flX7_15 hk0 (sh7_r1 hk0) dX7_growPot_1 ?_
    refine z_geta (k := 1) (q := ((z_sb c0) + 2)) C z_CF0 (by decide) flX7_54 (sh7_k1 hk0) (sh0_r1 (sh7_k1 hk0)) dX7_growPot_4 ?_
    refine z_iload_n C dX7_growPot_7 rfl rfl ?_
    obtain ⟨b1, h⟩ := z_chk_some h
    refine z_iald C (sh0_k1 (sh7_k1 hk0)) (sh0_l1 (sh7_k1 hk0)) b1 dX7_growPot_8 ?_
    refine z_istore_n (lo' := [some (.ref (z_a X c0)), some (.int p1), some (.int p2), some (.int (σ ((z_sb c0) + 2) (z_ix p1))), none, none]) C dX7_growPot_9 rfl (Nat.le_of_ble_eq_true rfl) rfl ?_
    refine z_aload_n C dX7_growPot_10 rfl rfl ?_
    refine z_geta (k := 2) (q := 47) C z_CF7 (by decide) flX7_19 hk0 (sh7_r2 hk0) dX7_growPot_11 ?_
    refine z_aload_n C dX7_growPot_14 rfl rfl ?_
    refine z_geta (k := 0) (q := 1) C z_CF7 (by decide) flX7_9 hk0 (sh7_r0 hk0) dX7_growPot_15 ?_
    refine z_aload_n C dX7_growPot_18 rfl rfl ?_
    refine z_geta (k := 1) (q := (z_sb c0)) C z_CF7 (by decide) flX7_15 hk0 (sh7_r1 hk0) dX7_growPot_19 ?_
    refine z_iload_n C dX7_growPot_22 rfl rfl ?_
    refine z_iload_n C dX7_growPot_23 rfl rfl ?_
    obtain ⟨⟨⟩, σ3, mσ3, h⟩ := z_bnd2 h
    refine z_cvv (As := [.ref (z_a X 1), .ref (z_a X (z_sb c0)), .int p1, .int p2]) (c := 47) (st := []) C (t5_observe 1 (z_sb c0) p1 p2 rfl (sh7_k1 hk0) mσ3) kvX5_observe rfl mlX7_135 z_CF5 rfl rfl (by decide) rfl (Nat.le_of_ble_eq_true rfl) dX7_growPot_24 ?_
    refine z_aload_n C dX7_growPot_27 rfl rfl ?_
    refine z_geta (k := 2) (q := 47) C z_CF7 (by decide) flX7_19 hk0 (sh7_r2 hk0) dX7_growPot_28 ?_
    refine z_aload_n C dX7_growPot_31 rfl rfl ?_
    refine z_geta (k := 0) (q := 1) C z_CF7 (by decide) flX7_9 hk0 (sh7_r0 hk0) dX7_growPot_32 ?_
    refine z_geta (k := 7) (q := 7) C z_CF1 (by decide) flX7_141 rfl rfl dX7_growPot_35 ?_
    obtain ⟨r4, σ5, mσ5, h⟩ := z_bnd2 h
    refine z_cvi (As := [.ref (z_a X 7)]) (c := 47) (st := []) C (t5_lowers 7 rfl mσ5) kvX5_lowers rfl mlX7_143 z_CF5 rfl rfl (by decide) rfl (Nat.le_of_ble_eq_true rfl) dX7_growPot_38 ?_
    refine z_istore (lo' := [some (.ref (z_a X c0)), some (.int p1), some (.int p2), some (.int (σ ((z_sb c0) + 2) (z_ix p1))), some (.int r4), none]) C dX7_growPot_41 (Nat.le_of_ble_eq_true rfl) rfl ?_
    refine z_aload_n C dX7_growPot_43 rfl rfl ?_
    refine z_geta (k := 1) (q := (z_sb c0)) C z_CF7 (by decide) flX7_15 hk0 (sh7_r1 hk0) dX7_growPot_44 ?_
    refine z_geta (k := 2) (q := ((z_sb c0) + 3)) C z_CF0 (by decide) flX7_147 (sh7_k1 hk0) (sh0_r2 (sh7_k1 hk0)) dX7_growPot_47 ?_
    refine z_iload_n C dX7_growPot_50 rfl rfl ?_
    obtain ⟨b6, h⟩ := z_chk_some h
    refine z_iald C (sh0_k2 (sh7_k1 hk0)) (sh0_l2 (sh7_k1 hk0)) b6 dX7_growPot_51 ?_
    refine z_aload_n C dX7_growPot_52 rfl rfl ?_
    refine z_geta (k := 2) (q := 47) C z_CF7 (by decide) flX7_19 hk0 (sh7_r2 hk0) dX7_growPot_53 ?_
    refine z_aload_n C dX7_growPot_56 rfl rfl ?_
    refine z_geta (k := 0) (q := 1) C z_CF7 (by decide) flX7_9 hk0 (sh7_r0 hk0) dX7_growPot_57 ?_
    refine z_geta (k := 7) (q := 7) C z_CF1 (by decide) flX7_141 rfl rfl dX7_growPot_60 ?_
    obtain ⟨r7, σ8, mσ8, h⟩ := z_bnd2 h
    refine z_cvi (As := [.ref (z_a X 7)]) (c := 47) (st := [.int (σ5 ((z_sb c0) + 3) (z_ix p1))]) C (t5_grows 7 rfl mσ8) kvX5_grows rfl mlX7_150 z_CF5 rfl rfl (by decide) rfl (Nat.le_of_ble_eq_true rfl) dX7_growPot_63 ?_
    refine z_iadd C dX7_growPot_66 ?_
    obtain ⟨x9, ex9, h⟩ := z_let_some h
    refine z_top ex9 ?_
    refine z_istore (lo' := [some (.ref (z_a X c0)), some (.int p1), some (.int p2), some (.int (σ ((z_sb c0) + 2) (z_ix p1))), some (.int r4), some (.int x9)]) C dX7_growPot_67 (Nat.le_of_ble_eq_true rfl) rfl ?_
    refine z_aload_n C dX7_growPot_69 rfl rfl ?_
    refine z_geta (k := 1) (q := (z_sb c0)) C z_CF7 (by decide) flX7_15 hk0 (sh7_r1 hk0) dX7_growPot_70 ?_
    refine z_iload_n C dX7_growPot_73 rfl rfl ?_
    refine z_iload_n C dX7_growPot_74 rfl rfl ?_
    refine z_aload_n C dX7_growPot_75 rfl rfl ?_
    refine z_geta (k := 1) (q := (z_sb c0)) C z_CF7 (by decide) flX7_15 hk0 (sh7_r1 hk0) dX7_growPot_76 ?_
    refine z_iload_n C dX7_growPot_79 rfl rfl ?_
    refine z_iload_n C dX7_growPot_80 rfl rfl ?_
    obtain ⟨r10, σ11, mσ11, h⟩ := z_bnd2 h
    refine z_cvi (As := [.int p1, .int (σ ((z_sb c0) + 2) (z_ix p1))]) (c := (z_sb c0)) (st := [.int (σ ((z_sb c0) + 2) (z_ix p1)), .int p1, .ref (z_a X (z_sb c0))]) C (t0_degreeOf (z_sb c0) p1 (σ ((z_sb c0) + 2) (z_ix p1)) (sh7_k1 hk0) mσ11) kvX0_degreeOf rfl mlX7_132 z_CF0 (sh7_k1 hk0) rfl (by decide) rfl (Nat.le_of_ble_eq_true rfl) dX7_growPot_81 ?_
    refine z_iload C dX7_growPot_84 rfl ?_
    refine z_isub C dX7_growPot_86 ?_
    obtain ⟨⟨⟩, σ13, mσ13, h⟩ := z_bnd2 h
    refine z_cvv (As := [.int p1, .int (σ ((z_sb c0) + 2) (z_ix p1)), .int (r10 - r4)]) (c := (z_sb c0)) (st := []) C (t0_believe (z_sb c0) p1 (σ ((z_sb c0) + 2) (z_ix p1)) (r10 - r4) (sh7_k1 hk0) mσ13) kvX0_believe rfl mlX7_114 z_CF0 (sh7_k1 hk0) rfl (by decide) rfl (Nat.le_of_ble_eq_true rfl) dX7_growPot_87 ?_
    refine z_aload_n C dX7_growPot_90 rfl rfl ?_
    refine z_geta (k := 1) (q := (z_sb c0)) C z_CF7 (by decide) flX7_15 hk0 (sh7_r1 hk0) dX7_growPot_91 ?_
    refine z_geta (k := 2) (q := ((z_sb c0) + 3)) C z_CF0 (by decide) flX7_147 (sh7_k1 hk0) (sh0_r2 (sh7_k1 hk0)) dX7_growPot_94 ?_
    refine z_iload_n C dX7_growPot_97 rfl rfl ?_
    refine z_bipush (v := 99) C dX7_growPot_98 (by decide) ?_
    refine z_iload C dX7_growPot_100 rfl ?_
    refine z_mmin (st := [.int p1, .ref (z_a X ((z_sb c0) + 3))]) C rfl (Nat.le_of_ble_eq_true rfl) mlX7_48 dX7_growPot_102 ?_
    obtain ⟨b14, h⟩ := z_chk_some h
    obtain ⟨σ15, eσ15, h⟩ := z_let_some h
    refine z_iast C (sh0_k2 (sh7_k1 hk0)) (sh0_l2 (sh7_k1 hk0)) b14 eσ15 dX7_growPot_105 ?_
    refine z_aload_n C dX7_growPot_106 rfl rfl ?_
    refine z_geta (k := 1) (q := (z_sb c0)) C z_CF7 (by decide) flX7_15 hk0 (sh7_r1 hk0) dX7_growPot_107 ?_
    refine z_geta (k := 4) (q := ((z_sb c0) + 5)) C z_CF0 (by decide) flX7_44 (sh7_k1 hk0) (sh0_r4 (sh7_k1 hk0)) dX7_growPot_110 ?_
    refine z_iload_n C dX7_growPot_113 rfl rfl ?_
    refine z_iconst (v := 0) C dX7_growPot_114 (by decide) ?_
    obtain ⟨b16, h⟩ := z_chk_some h
    obtain ⟨σ17, eσ17, h⟩ := z_let_some h
    refine z_iast C (sh0_k4 (sh7_k1 hk0)) (sh0_l4 (sh7_k1 hk0)) b16 eσ17 dX7_growPot_115 ?_
    refine z_iload C dX7_growPot_116 rfl ?_
    refine z_iconst (v := 1) C dX7_growPot_118 (by decide) ?_
    refine z_icmp_ge (tgt := 128) C dX7_growPot_119 (by decide) (fun hc => ?_) (fun hc => ?_)
    · replace h := z_neg hc h
      exact z_vret C h dX7_growPot_128
    · replace h := z_pos hc h
      refine z_aload_n C dX7_growPot_122 rfl rfl ?_
      refine z_iload_n C dX7_growPot_123 rfl rfl ?_
      refine z_iconst (v := 2) C dX7_growPot_124 (by decide) ?_
      obtain ⟨⟨⟩, σ19, mσ19, h⟩ := z_bnd2 h
      refine z_cvv (As := [.int p1, .int 2]) (c := c0) (st := []) C (t7_lose c0 p1 2 hk0 mσ19) kvX7_lose rfl mlX7_123 z_CF7 hk0 rfl (by decide) rfl (Nat.le_of_ble_eq_true rfl) dX7_growPot_125 ?_
      exact z_vret C h dX7_growPot_128
set_option maxHeartbeats 4000000 in
set_option maxRecDepth 100000 in
theorem t7_inspect_J51 {X : z_Ct} (C : z_Cx S1 X RX7 cX7_inspect 4 3 (some .int)) {u : Int32 × z_M} (c0 : Nat) (v1 : Int32) (σ : z_M) (hk0 : S1.1 c0 = 7) (h : f7_inspect_J51 c0 v1 σ = some u) : z_W S1 X 51 [some (.ref (z_a X c0)), some (.int v1), none, none] [] σ (z_oi u) := by
  unfold f7_inspect_J51 at h
  refine z_aload_n C dX7_inspect_51 rfl rfl ?_
  refine z_geta (k := 1) (q := (z_sb c0)) C z_CF7 (by decide) flX7_15 hk0 (sh7_r1 hk0) dX7_inspect_52 ?_
  refine z_dup C dX7_inspect_55 rfl ?_
  refine z_geti (k := 7) C z_CF0 (by decide) flX7_170 (sh7_k1 hk0) (sh0_n7 (sh7_k1 hk0)) dX7_inspect_56 ?_
  refine z_iload_n C dX7_inspect_59 rfl rfl ?_
  refine z_iadd C dX7_inspect_60 ?_
  obtain ⟨σ1, eσ1, h⟩ := z_let_some h
  refine z_puti (k := 7) C z_CF0 (by decide) flX7_170 rfl rfl (sh7_k1 hk0) (sh0_n7 (sh7_k1 hk0)) eσ1 dX7_inspect_61 ?_
  refine z_iload_n C dX7_inspect_64 rfl rfl ?_
  exact z_iret C h dX7_inspect_65
set_option maxHeartbeats 4000000 in
set_option maxRecDepth 100000 in
theorem t7_inspect_L4 {X : z_Ct} (C : z_Cx S1 X RX7 cX7_inspect 4 3 (some .int)) {u : Int32 × z_M} : ∀ (n : Nat) (c0 : Nat) (v1 : Int32) (v2 : Int32) (σ : z_M),S1.1 c0 = 7 →  f7_inspect_L4 n c0 v1 v2 σ = some u → z_W S1 X 4 [some (.ref (z_a X c0)), some (.int v1), some (.int v2), none] [] σ (z_oi u) := by
  intro n
  induction n with
  | zero => intro c0 v1 v2 σ hk0 h; rw [f7_inspect_L4] at h; cases h
  | succ n ih =>
    intro c0 v1 v2 σ hk0 h
    rw [f7_inspect_L4] at h
    refine z_iload_n C dX7_inspect_4 rfl rfl ?_
    refine z_aload_n C dX7_inspect_5 rfl rfl ?_
    refine z_geta (k := 0) (q := 1) C z_CF7 (by decide) flX7_9 hk0 (sh7_r0 hk0) dX7_inspect_6 ?_
    refine z_geti (k := 0) C z_CF1 (by decide) flX7_80 rfl rfl dX7_inspect_9 ?_
    refine z_icmp_ge (tgt := 51) C dX7_inspect_12 (by decide) (fun hc => ?_) (fun hc => ?_)
    · replace h := z_neg hc h
      refine z_kill (lo' := [some (.ref (z_a X c0)), some (.int v1), none, none]) [2] rfl ?_
      exact t7_inspect_J51 C c0 v1 σ hk0 h
    · replace h := z_pos hc h
      refine z_aload_n C dX7_inspect_15 rfl rfl ?_
      refine z_geta (k := 1) (q := (z_sb c0)) C z_CF7 (by decide) flX7_15 hk0 (sh7_r1 hk0) dX7_inspect_16 ?_
      refine z_iload_n C dX7_inspect_19 rfl rfl ?_
      obtain ⟨r1, σ2, mσ2, h⟩ := z_bnd2 h
      refine z_cvi (As := [.int v2]) (c := (z_sb c0)) (st := []) C (t0_sures (z_sb c0) v2 (sh7_k1 hk0) mσ2) kvX0_sures rfl mlX7_90 z_CF0 (sh7_k1 hk0) rfl (by decide) rfl (Nat.le_of_ble_eq_true rfl) dX7_inspect_20 ?_
      refine z_istore_n (lo' := [some (.ref (z_a X c0)), some (.int v1), some (.int v2), some (.int r1)]) C dX7_inspect_23 rfl (Nat.le_of_ble_eq_true rfl) rfl ?_
      refine z_iload_n C dX7_inspect_24 rfl rfl ?_
      refine z_aload_n C dX7_inspect_25 rfl rfl ?_
      refine z_geta (k := 0) (q := 1) C z_CF7 (by decide) flX7_9 hk0 (sh7_r0 hk0) dX7_inspect_26 ?_
      refine z_geti (k := 1) C z_CF1 (by decide) flX7_167 rfl rfl dX7_inspect_29 ?_
      refine z_icmp_le (tgt := 45) C dX7_inspect_32 (by decide) (fun hc => ?_) (fun hc => ?_)
      · replace h := z_neg hc h
        refine z_iinc (v := v2 + 1) (lo' := [some (.ref (z_a X c0)), some (.int v1), some (.int (v2 + 1)), some (.int r1)]) C dX7_inspect_45 rfl rfl rfl ?_
        refine z_goto (tgt := 4) C dX7_inspect_48 (by decide) ?_
        refine z_kill (lo' := [some (.ref (z_a X c0)), some (.int v1), some (.int (v2 + 1)), none]) [3] rfl ?_
        exact ih c0 v1 (v2 + 1) σ2 hk0 h
      · replace h := z_pos hc h
        refine z_aload_n C dX7_inspect_35 rfl rfl ?_
        refine z_iconst (v := 5) C dX7_inspect_36 (by decide) ?_
        refine z_iload_n C dX7_inspect_37 rfl rfl ?_
        refine z_iload_n C dX7_inspect_38 rfl rfl ?_
        obtain ⟨⟨⟩, σ4, mσ4, h⟩ := z_bnd2 h
        refine z_cvv (As := [.int 5, .int v2, .int r1]) (c := c0) (st := []) C (t7_write c0 5 v2 r1 hk0 mσ4) kvX7_write rfl mlX7_40 z_CF7 hk0 rfl (by decide) rfl (Nat.le_of_ble_eq_true rfl) dX7_inspect_39 ?_
        refine z_iinc (v := v1 + 1) (lo' := [some (.ref (z_a X c0)), some (.int (v1 + 1)), some (.int v2), some (.int r1)]) C dX7_inspect_42 rfl rfl rfl ?_
        refine z_iinc (v := v2 + 1) (lo' := [some (.ref (z_a X c0)), some (.int (v1 + 1)), some (.int (v2 + 1)), some (.int r1)]) C dX7_inspect_45 rfl rfl rfl ?_
        refine z_goto (tgt := 4) C dX7_inspect_48 (by decide) ?_
        refine z_kill (lo' := [some (.ref (z_a X c0)), some (.int (v1 + 1)), some (.int (v2 + 1)), none]) [3] rfl ?_
        exact ih c0 (v1 + 1) (v2 + 1) σ4 hk0 h
set_option maxHeartbeats 4000000 in
set_option maxRecDepth 100000 in
theorem t7_inspect {a : Nat → Nat} (c0 : Nat) {σ : z_M} (hk0 : S1.1 c0 = 7) {u : Int32 × z_M} (h : f7_inspect c0 σ = some u) : z_Mt yX7_inspect (z_w yX7_inspect cX7_inspect 4 (some .int)) 3 S1 a σ [.ref (a c0)] (z_oi u) := by
  refine z_head (lo := [some (.ref (a c0)), none, none, none]) (by decide) (Nat.le_of_ble_eq_true rfl) ?_ rfl ?_
  · intro i v hv
    exact z_loe (vs := [.ref (a c0)]) (n := 3) rfl (by simp [z_c1i, z_c1r]) i v hv
  · intro X hXa C
    subst hXa
    unfold f7_inspect at h
    refine z_iconst (v := 0) C dX7_inspect_0 (by decide) ?_
    refine z_istore_n (lo' := [some (.ref (z_a X c0)), some (.int 0), none, none]) C dX7_inspect_1 rfl (Nat.le_of_ble_eq_true rfl) rfl ?_
    refine z_iconst (v := 0) C dX7_inspect_2 (by decide) ?_
    refine z_istore_n (lo' := [some (.ref (z_a X c0)), some (.int 0), some (.int 0), none]) C dX7_inspect_3 rfl (Nat.le_of_ble_eq_true rfl) rfl ?_
    exact t7_inspect_L4 C _ c0 0 0 σ hk0 h
set_option maxHeartbeats 4000000 in
set_option maxRecDepth 100000 in
theorem t7_reasonOut_L11 {X : z_Ct} (C : z_Cx S1 X RX7 cX7_reasonOut 7 2 none) {u : Unit × z_M} : ∀ (n : Nat) (c0 : Nat) (v1 : Int32) (v2 : Int32) (v3 : Int32) (σ : z_M),S1.1 c0 = 7 →  f7_reasonOut_L11 n c0 v1 v2 v3 σ = some u → z_W S1 X 11 [some (.ref (z_a X c0)), some (.int v1), some (.int v2), some (.int v3), none, none, none] [] σ (z_ov u) := by
  intro n
  induction n with
  | zero => intro c0 v1 v2 v3 σ hk0 h; rw [f7_reasonOut_L11] at h; cases h
  | succ n ih =>
    intro c0 v1 v2 v3 σ hk0 h
    rw [f7_reasonOut_L11] at h
    refine z_iload_n C dX7_reasonOut_11 rfl rfl ?_
    refine z_aload_n C dX7_reasonOut_12 rfl rfl ?_
    refine z_geta (k := 0) (q := 1) C z_CF7 (by decide) flX7_9 hk0 (sh7_r0 hk0) dX7_reasonOut_13 ?_
    refine z_geta (k := 6) (q := 4) C z_CF1 (by decide) flX7_129 rfl rfl dX7_reasonOut_16 ?_
    refine z_geti (k := 2) C z_CF9 (by decide) flX7_65 rfl rfl dX7_reasonOut_19 ?_
    refine z_icmp_ge (tgt := 119) C dX7_reasonOut_22 (by decide) (fun hc => ?_) (fun hc => ?_)
    · replace h := z_neg hc h
      exact z_vret C h dX7_reasonOut_119
    · replace h := z_pos hc h
      refine z_aload_n C dX7_reasonOut_25 rfl rfl ?_
      refine z_geta (k := 0) (q := 1) C z_CF7 (by decide) flX7_9 hk0 (sh7_r0 hk0) dX7_reasonOut_26 ?_
      refine z_geta (k := 6) (q := 4) C z_CF1 (by decide) flX7_129 rfl rfl dX7_reasonOut_29 ?_
      refine z_iload_n C dX7_reasonOut_32 rfl rfl ?_
      refine z_iconst (v := 0) C dX7_reasonOut_33 (by decide) ?_
      obtain ⟨r1, σ2, mσ2, h⟩ := z_bnd2 h
      refine z_cvi (As := [.int v3, .int 0]) (c := 4) (st := []) C (t9_at 4 v3 0 rfl mσ2) kvX9_at rfl mlX7_71 z_CF9 rfl rfl (by decide) rfl (Nat.le_of_ble_eq_true rfl) dX7_reasonOut_34 ?_
      refine z_istore (lo' := [some (.ref (z_a X c0)), some (.int v1), some (.int v2), some (.int v3), some (.int r1), none, none]) C dX7_reasonOut_37 (Nat.le_of_ble_eq_true rfl) rfl ?_
      refine z_aload_n C dX7_reasonOut_39 rfl rfl ?_
      refine z_geta (k := 0) (q := 1) C z_CF7 (by decide) flX7_9 hk0 (sh7_r0 hk0) dX7_reasonOut_40 ?_
      refine z_geta (k := 6) (q := 4) C z_CF1 (by decide) flX7_129 rfl rfl dX7_reasonOut_43 ?_
      refine z_iload_n C dX7_reasonOut_46 rfl rfl ?_
      refine z_iconst (v := 1) C dX7_reasonOut_47 (by decide) ?_
      obtain ⟨r3, σ4, mσ4, h⟩ := z_bnd2 h
      refine z_cvi (As := [.int v3, .int 1]) (c := 4) (st := []) C (t9_at 4 v3 1 rfl mσ4) kvX9_at rfl mlX7_71 z_CF9 rfl rfl (by decide) rfl (Nat.le_of_ble_eq_true rfl) dX7_reasonOut_48 ?_
      refine z_istore (lo' := [some (.ref (z_a X c0)), some (.int v1), some (.int v2), some (.int v3), some (.int r1), some (.int r3), none]) C dX7_reasonOut_51 (Nat.le_of_ble_eq_true rfl) rfl ?_
      refine z_aload_n C dX7_reasonOut_53 rfl rfl ?_
      refine z_geta (k := 0) (q := 1) C z_CF7 (by decide) flX7_9 hk0 (sh7_r0 hk0) dX7_reasonOut_54 ?_
      refine z_geta (k := 6) (q := 4) C z_CF1 (by decide) flX7_129 rfl rfl dX7_reasonOut_57 ?_
      refine z_iload_n C dX7_reasonOut_60 rfl rfl ?_
      refine z_iconst (v := 2) C dX7_reasonOut_61 (by decide) ?_
      obtain ⟨r5, σ6, mσ6, h⟩ := z_bnd2 h
      refine z_cvi (As := [.int v3, .int 2]) (c := 4) (st := []) C (t9_at 4 v3 2 rfl mσ6) kvX9_at rfl mlX7_71 z_CF9 rfl rfl (by decide) rfl (Nat.le_of_ble_eq_true rfl) dX7_reasonOut_62 ?_
      refine z_istore (lo' := [some (.ref (z_a X c0)), some (.int v1), some (.int v2), some (.int v3), some (.int r1), some (.int r3), some (.int r5)]) C dX7_reasonOut_65 (Nat.le_of_ble_eq_true rfl) rfl ?_
      refine z_iload C dX7_reasonOut_67 rfl ?_
      refine z_if_le (tgt := 113) C dX7_reasonOut_69 (by decide) (fun hc => ?_) (fun hc => ?_)
      · replace h := z_neg hc h
        refine z_iinc (v := v3 + 1) (lo' := [some (.ref (z_a X c0)), some (.int v1), some (.int v2), some (.int (v3 + 1)), some (.int r1), some (.int r3), some (.int r5)]) C dX7_reasonOut_113 rfl rfl rfl ?_
        refine z_goto (tgt := 11) C dX7_reasonOut_116 (by decide) ?_
        refine z_kill (lo' := [some (.ref (z_a X c0)), some (.int v1), some (.int v2), some (.int (v3 + 1)), none, none, none]) [4, 5, 6] rfl ?_
        exact ih c0 v1 v2 (v3 + 1) σ6 hk0 h
      · replace h := z_pos hc h
        refine z_iload C dX7_reasonOut_72 rfl ?_
        refine z_iload_n C dX7_reasonOut_74 rfl rfl ?_
        refine z_iconst (v := (-1)) C dX7_reasonOut_75 (by decide) ?_
        refine z_ixor C dX7_reasonOut_76 ?_
        refine z_iand C dX7_reasonOut_77 ?_
        refine z_if_ne (tgt := 113) C dX7_reasonOut_78 (by decide) (fun hc => ?_) (fun hc => ?_)
        · replace h := z_neg hc h
          refine z_iinc (v := v3 + 1) (lo' := [some (.ref (z_a X c0)), some (.int v1), some (.int v2), some (.int (v3 + 1)), some (.int r1), some (.int r3), some (.int r5)]) C dX7_reasonOut_113 rfl rfl rfl ?_
          refine z_goto (tgt := 11) C dX7_reasonOut_116 (by decide) ?_
          refine z_kill (lo' := [some (.ref (z_a X c0)), some (.int v1), some (.int v2), some (.int (v3 + 1)), none, none, none]) [4, 5, 6] rfl ?_
          exact ih c0 v1 v2 (v3 + 1) σ6 hk0 h
        · replace h := z_pos hc h
          refine z_aload_n C dX7_reasonOut_81 rfl rfl ?_
          refine z_geta (k := 1) (q := (z_sb c0)) C z_CF7 (by decide) flX7_15 hk0 (sh7_r1 hk0) dX7_reasonOut_82 ?_
          refine z_iload_n C dX7_reasonOut_85 rfl rfl ?_
          refine z_iload C dX7_reasonOut_86 rfl ?_
          refine z_aload_n C dX7_reasonOut_88 rfl rfl ?_
          refine z_geta (k := 1) (q := (z_sb c0)) C z_CF7 (by decide) flX7_15 hk0 (sh7_r1 hk0) dX7_reasonOut_89 ?_
          refine z_iload_n C dX7_reasonOut_92 rfl rfl ?_
          refine z_iload C dX7_reasonOut_93 rfl ?_
          obtain ⟨r7, σ8, mσ8, h⟩ := z_bnd2 h
          refine z_cvi (As := [.int v1, .int r1]) (c := (z_sb c0)) (st := [.int r1, .int v1, .ref (z_a X (z_sb c0))]) C (t0_degreeOf (z_sb c0) v1 r1 (sh7_k1 hk0) mσ8) kvX0_degreeOf rfl mlX7_132 z_CF0 (sh7_k1 hk0) rfl (by decide) rfl (Nat.le_of_ble_eq_true rfl) dX7_reasonOut_95 ?_
          refine z_iload C dX7_reasonOut_98 rfl ?_
          refine z_iadd C dX7_reasonOut_100 ?_
          obtain ⟨⟨⟩, σ10, mσ10, h⟩ := z_bnd2 h
          refine z_cvv (As := [.int v1, .int r1, .int (r7 + r5)]) (c := (z_sb c0)) (st := []) C (t0_believe (z_sb c0) v1 r1 (r7 + r5) (sh7_k1 hk0) mσ10) kvX0_believe rfl mlX7_114 z_CF0 (sh7_k1 hk0) rfl (by decide) rfl (Nat.le_of_ble_eq_true rfl) dX7_reasonOut_101 ?_
          refine z_aload_n C dX7_reasonOut_104 rfl rfl ?_
          refine z_geta (k := 1) (q := (z_sb c0)) C z_CF7 (by decide) flX7_15 hk0 (sh7_r1 hk0) dX7_reasonOut_105 ?_
          refine z_iload_n C dX7_reasonOut_108 rfl rfl ?_
          obtain ⟨r11, σ12, mσ12, h⟩ := z_bnd2 h
          refine z_cvi (As := [.int v1]) (c := (z_sb c0)) (st := []) C (t0_sureOf (z_sb c0) v1 (sh7_k1 hk0) mσ12) kvX0_sureOf rfl mlX7_126 z_CF0 (sh7_k1 hk0) rfl (by decide) rfl (Nat.le_of_ble_eq_true rfl) dX7_reasonOut_109 ?_
          refine z_istore_n (lo' := [some (.ref (z_a X c0)), some (.int v1), some (.int r11), some (.int v3), some (.int r1), some (.int r3), some (.int r5)]) C dX7_reasonOut_112 rfl (Nat.le_of_ble_eq_true rfl) rfl ?_
          refine z_iinc (v := v3 + 1) (lo' := [some (.ref (z_a X c0)), some (.int v1), some (.int r11), some (.int (v3 + 1)), some (.int r1), some (.int r3), some (.int r5)]) C dX7_reasonOut_113 rfl rfl rfl ?_
          refine z_goto (tgt := 11) C dX7_reasonOut_116 (by decide) ?_
          refine z_kill (lo' := [some (.ref (z_a X c0)), some (.int v1), some (.int r11), some (.int (v3 + 1)), none, none, none]) [4, 5, 6] rfl ?_
          exact ih c0 v1 r11 (v3 + 1) σ12 hk0 h
set_option maxHeartbeats 4000000 in
set_option maxRecDepth 100000 in
theorem t7_reasonOut {a : Nat → Nat} (c0 : Nat) (p1 : Int32) {σ : z_M} (hk0 : S1.1 c0 = 7) {u : Unit × z_M} (h : f7_reasonOut c0 p1 σ = some u) : z_Mt yX7_reasonOut (z_w yX7_reasonOut cX7_reasonOut 7 none) 2 S1 a σ [.ref (a c0), .int p1] (z_ov u) := by
  refine z_head (lo := [some (.ref (a c0)), some (.int p1), none, none, none, none, none]) (by decide) (Nat.le_of_ble_eq_true rfl) ?_ rfl ?_
  · intro i v hv
    exact z_loe (vs := [.ref (a c0), .int p1]) (n := 5) rfl (by simp [z_c1i, z_c1r]) i v hv
  · intro X hXa C
    subst hXa
    unfold f7_reasonOut at h
    refine z_aload_n C dX7_reasonOut_0 rfl rfl ?_
    refine z_geta (k := 1) (q := (z_sb c0)) C z_CF7 (by decide) flX7_15 hk0 (sh7_r1 hk0) dX7_reasonOut_1 ?_
    refine z_iload_n C dX7_reasonOut_4 rfl rfl ?_
    obtain ⟨r1, σ2, mσ2, h⟩ := z_bnd2 h
    refine z_cvi (As := [.int p1]) (c := (z_sb c0)) (st := []) C (t0_sureOf (z_sb c0) p1 (sh7_k1 hk0) mσ2) kvX0_sureOf rfl mlX7_126 z_CF0 (sh7_k1 hk0) rfl (by decide) rfl (Nat.le_of_ble_eq_true rfl) dX7_reasonOut_5 ?_
    refine z_istore_n (lo' := [some (.ref (z_a X c0)), some (.int p1), some (.int r1), none, none, none, none]) C dX7_reasonOut_8 rfl (Nat.le_of_ble_eq_true rfl) rfl ?_
    refine z_iconst (v := 0) C dX7_reasonOut_9 (by decide) ?_
    refine z_istore_n (lo' := [some (.ref (z_a X c0)), some (.int p1), some (.int r1), some (.int 0), none, none, none]) C dX7_reasonOut_10 rfl (Nat.le_of_ble_eq_true rfl) rfl ?_
    exact t7_reasonOut_L11 C _ c0 p1 r1 0 σ2 hk0 h
set_option maxHeartbeats 4000000 in
set_option maxRecDepth 100000 in
theorem t7_pass_J158 {X : z_Ct} (C : z_Cx S1 X RX7 cX7_pass 2 7 (some .int)) {u : Int32 × z_M} (c0 : Nat) (σ : z_M) (hk0 : S1.1 c0 = 7) (h : f7_pass_J158 c0 σ = some u) : z_W S1 X 158 [some (.ref (z_a X c0)), none] [] σ (z_oi u) := by
  unfold f7_pass_J158 at h
  refine z_aload_n C dX7_pass_158 rfl rfl ?_
  obtain ⟨r1, σ2, mσ2, h⟩ := z_bnd2 h
  refine z_cvi (As := []) (c := c0) (st := []) C (t7_inspect c0 hk0 mσ2) kvX7_inspect rfl mlX7_110 z_CF7 hk0 rfl (by decide) rfl (Nat.le_of_ble_eq_true rfl) dX7_pass_159 ?_
  refine z_istore_n (lo' := [some (.ref (z_a X c0)), some (.int r1)]) C dX7_pass_162 rfl (Nat.le_of_ble_eq_true rfl) rfl ?_
  refine z_aload_n C dX7_pass_163 rfl rfl ?_
  refine z_geta (k := 1) (q := (z_sb c0)) C z_CF7 (by decide) flX7_15 hk0 (sh7_r1 hk0) dX7_pass_164 ?_
  refine z_dup C dX7_pass_167 rfl ?_
  refine z_geti (k := 6) C z_CF0 (by decide) flX7_74 (sh7_k1 hk0) (sh0_n6 (sh7_k1 hk0)) dX7_pass_168 ?_
  refine z_iconst (v := 1) C dX7_pass_171 (by decide) ?_
  refine z_iadd C dX7_pass_172 ?_
  obtain ⟨σ3, eσ3, h⟩ := z_let_some h
  refine z_puti (k := 6) C z_CF0 (by decide) flX7_74 rfl rfl (sh7_k1 hk0) (sh0_n6 (sh7_k1 hk0)) eσ3 dX7_pass_173 ?_
  refine z_iload_n C dX7_pass_176 rfl rfl ?_
  exact z_iret C h dX7_pass_177
set_option maxHeartbeats 4000000 in
set_option maxRecDepth 100000 in
theorem t7_pass_J137 {X : z_Ct} (C : z_Cx S1 X RX7 cX7_pass 2 7 (some .int)) {u : Int32 × z_M} (c0 : Nat) (σ : z_M) (hk0 : S1.1 c0 = 7) (h : f7_pass_J137 c0 σ = some u) : z_W S1 X 137 [some (.ref (z_a X c0)), none] [] σ (z_oi u) := by
  unfold f7_pass_J137 at h
  refine z_aload_n C dX7_pass_137 rfl rfl ?_
  refine z_geti (k := 3) C z_CF7 (by decide) flX7_23 hk0 (sh7_n3 hk0) dX7_pass_138 ?_
  refine z_if_eq (tgt := 158) C dX7_pass_141 (by decide) (fun hc => ?_) (fun hc => ?_)
  · replace h := z_pos hc h
    exact t7_pass_J158 C c0 σ hk0 h
  · replace h := z_neg hc h
    refine z_aload_n C dX7_pass_144 rfl rfl ?_
    refine z_geta (k := 0) (q := 1) C z_CF7 (by decide) flX7_9 hk0 (sh7_r0 hk0) dX7_pass_145 ?_
    refine z_geti (k := 3) C z_CF1 (by decide) flX7_104 rfl rfl dX7_pass_148 ?_
    refine z_if_le (tgt := 158) C dX7_pass_151 (by decide) (fun hc => ?_) (fun hc => ?_)
    · replace h := z_neg hc h
      exact t7_pass_J158 C c0 σ hk0 h
    · replace h := z_pos hc h
      refine z_aload_n C dX7_pass_154 rfl rfl ?_
      obtain ⟨⟨⟩, σ2, mσ2, h⟩ := z_bnd2 h
      refine z_cvv (As := []) (c := c0) (st := []) C (t7_fly c0 hk0 mσ2) kvX7_fly rfl mlX7_107 z_CF7 hk0 rfl (by decide) rfl (Nat.le_of_ble_eq_true rfl) dX7_pass_155 ?_
      exact t7_pass_J158 C c0 σ2 hk0 h
set_option maxHeartbeats 4000000 in
set_option maxRecDepth 100000 in
theorem t7_pass_J116 {X : z_Ct} (C : z_Cx S1 X RX7 cX7_pass 2 7 (some .int)) {u : Int32 × z_M} (c0 : Nat) (σ : z_M) (hk0 : S1.1 c0 = 7) (h : f7_pass_J116 c0 σ = some u) : z_W S1 X 116 [some (.ref (z_a X c0)), none] [] σ (z_oi u) := by
  unfold f7_pass_J116 at h
  refine z_aload_n C dX7_pass_116 rfl rfl ?_
  refine z_geti (k := 3) C z_CF7 (by decide) flX7_23 hk0 (sh7_n3 hk0) dX7_pass_117 ?_
  refine z_if_eq (tgt := 137) C dX7_pass_120 (by decide) (fun hc => ?_) (fun hc => ?_)
  · replace h := z_pos hc h
    exact t7_pass_J137 C c0 σ hk0 h
  · replace h := z_neg hc h
    refine z_aload_n C dX7_pass_123 rfl rfl ?_
    refine z_geta (k := 0) (q := 1) C z_CF7 (by decide) flX7_9 hk0 (sh7_r0 hk0) dX7_pass_124 ?_
    refine z_geti (k := 2) C z_CF1 (by decide) flX7_98 rfl rfl dX7_pass_127 ?_
    refine z_if_le (tgt := 137) C dX7_pass_130 (by decide) (fun hc => ?_) (fun hc => ?_)
    · replace h := z_neg hc h
      exact t7_pass_J137 C c0 σ hk0 h
    · replace h := z_pos hc h
      refine z_aload_n C dX7_pass_133 rfl rfl ?_
      obtain ⟨⟨⟩, σ2, mσ2, h⟩ := z_bnd2 h
      refine z_cvv (As := []) (c := c0) (st := []) C (t7_freeze c0 hk0 mσ2) kvX7_freeze rfl mlX7_101 z_CF7 hk0 rfl (by decide) rfl (Nat.le_of_ble_eq_true rfl) dX7_pass_134 ?_
      exact t7_pass_J137 C c0 σ2 hk0 h
set_option maxHeartbeats 4000000 in
set_option maxRecDepth 100000 in
theorem t7_pass_L75 {X : z_Ct} (C : z_Cx S1 X RX7 cX7_pass 2 7 (some .int)) {u : Int32 × z_M} : ∀ (n : Nat) (c0 : Nat) (v1 : Int32) (σ : z_M),S1.1 c0 = 7 →  f7_pass_L75 n c0 v1 σ = some u → z_W S1 X 75 [some (.ref (z_a X c0)), some (.int v1)] [] σ (z_oi u) := by
  intro n
  induction n with
  | zero => intro c0 v1 σ hk0 h; rw [f7_pass_L75] at h; cases h
  | succ n ih =>
    intro c0 v1 σ hk0 h
    rw [f7_pass_L75] at h
    refine z_iload_n C dX7_pass_75 rfl rfl ?_
    refine z_aload_n C dX7_pass_76 rfl rfl ?_
    refine z_geta (k := 0) (q := 1) C z_CF7 (by decide) flX7_9 hk0 (sh7_r0 hk0) dX7_pass_77 ?_
    refine z_geti (k := 0) C z_CF1 (by decide) flX7_80 rfl rfl dX7_pass_80 ?_
    refine z_icmp_ge (tgt := 116) C dX7_pass_83 (by decide) (fun hc => ?_) (fun hc => ?_)
    · replace h := z_neg hc h
      refine z_kill (lo' := [some (.ref (z_a X c0)), none]) [1] rfl ?_
      exact t7_pass_J116 C c0 σ hk0 h
    · replace h := z_pos hc h
      refine z_aload_n C dX7_pass_86 rfl rfl ?_
      refine z_geta (k := 1) (q := (z_sb c0)) C z_CF7 (by decide) flX7_15 hk0 (sh7_r1 hk0) dX7_pass_87 ?_
      refine z_iload_n C dX7_pass_90 rfl rfl ?_
      obtain ⟨r1, σ2, mσ2, h⟩ := z_bnd2 h
      refine z_cvi (As := [.int v1]) (c := (z_sb c0)) (st := []) C (t0_hasPot (z_sb c0) v1 (sh7_k1 hk0) mσ2) kvX0_hasPot rfl mlX7_86 z_CF0 (sh7_k1 hk0) rfl (by decide) rfl (Nat.le_of_ble_eq_true rfl) dX7_pass_91 ?_
      refine z_if_eq (tgt := 110) C dX7_pass_94 (by decide) (fun hc => ?_) (fun hc => ?_)
      · replace h := z_pos hc h
        refine z_iinc (v := v1 + 1) (lo' := [some (.ref (z_a X c0)), some (.int (v1 + 1))]) C dX7_pass_110 rfl rfl rfl ?_
        refine z_goto (tgt := 75) C dX7_pass_113 (by decide) ?_
        exact ih c0 (v1 + 1) σ2 hk0 h
      · replace h := z_neg hc h
        refine z_aload_n C dX7_pass_97 rfl rfl ?_
        refine z_iload_n C dX7_pass_98 rfl rfl ?_
        refine z_aload_n C dX7_pass_99 rfl rfl ?_
        refine z_geta (k := 1) (q := (z_sb c0)) C z_CF7 (by decide) flX7_15 hk0 (sh7_r1 hk0) dX7_pass_100 ?_
        refine z_iload_n C dX7_pass_103 rfl rfl ?_
        obtain ⟨r3, σ4, mσ4, h⟩ := z_bnd2 h
        refine z_cvi (As := [.int v1]) (c := (z_sb c0)) (st := [.int v1, .ref (z_a X c0)]) C (t0_sures (z_sb c0) v1 (sh7_k1 hk0) mσ4) kvX0_sures rfl mlX7_90 z_CF0 (sh7_k1 hk0) rfl (by decide) rfl (Nat.le_of_ble_eq_true rfl) dX7_pass_104 ?_
        obtain ⟨⟨⟩, σ6, mσ6, h⟩ := z_bnd2 h
        refine z_cvv (As := [.int v1, .int r3]) (c := c0) (st := []) C (t7_growPot c0 v1 r3 hk0 mσ6) kvX7_growPot rfl mlX7_94 z_CF7 hk0 rfl (by decide) rfl (Nat.le_of_ble_eq_true rfl) dX7_pass_107 ?_
        refine z_iinc (v := v1 + 1) (lo' := [some (.ref (z_a X c0)), some (.int (v1 + 1))]) C dX7_pass_110 rfl rfl rfl ?_
        refine z_goto (tgt := 75) C dX7_pass_113 (by decide) ?_
        exact ih c0 (v1 + 1) σ6 hk0 h
set_option maxHeartbeats 4000000 in
set_option maxRecDepth 100000 in
theorem t7_pass_J73 {X : z_Ct} (C : z_Cx S1 X RX7 cX7_pass 2 7 (some .int)) {u : Int32 × z_M} (c0 : Nat) (σ : z_M) (hk0 : S1.1 c0 = 7) (h : f7_pass_J73 c0 σ = some u) : z_W S1 X 73 [some (.ref (z_a X c0)), none] [] σ (z_oi u) := by
  unfold f7_pass_J73 at h
  refine z_iconst (v := 0) C dX7_pass_73 (by decide) ?_
  refine z_istore_n (lo' := [some (.ref (z_a X c0)), some (.int 0)]) C dX7_pass_74 rfl (Nat.le_of_ble_eq_true rfl) rfl ?_
  exact t7_pass_L75 C _ c0 0 σ hk0 h
set_option maxHeartbeats 4000000 in
set_option maxRecDepth 100000 in
theorem t7_pass_L51 {X : z_Ct} (C : z_Cx S1 X RX7 cX7_pass 2 7 (some .int)) {u : Int32 × z_M} : ∀ (n : Nat) (c0 : Nat) (v1 : Int32) (σ : z_M),S1.1 c0 = 7 →  f7_pass_L51 n c0 v1 σ = some u → z_W S1 X 51 [some (.ref (z_a X c0)), some (.int v1)] [] σ (z_oi u) := by
  intro n
  induction n with
  | zero => intro c0 v1 σ hk0 h; rw [f7_pass_L51] at h; cases h
  | succ n ih =>
    intro c0 v1 σ hk0 h
    rw [f7_pass_L51] at h
    refine z_iload_n C dX7_pass_51 rfl rfl ?_
    refine z_aload_n C dX7_pass_52 rfl rfl ?_
    refine z_geta (k := 0) (q := 1) C z_CF7 (by decide) flX7_9 hk0 (sh7_r0 hk0) dX7_pass_53 ?_
    refine z_geti (k := 0) C z_CF1 (by decide) flX7_80 rfl rfl dX7_pass_56 ?_
    refine z_icmp_ge (tgt := 73) C dX7_pass_59 (by decide) (fun hc => ?_) (fun hc => ?_)
    · replace h := z_neg hc h
      refine z_kill (lo' := [some (.ref (z_a X c0)), none]) [1] rfl ?_
      exact t7_pass_J73 C c0 σ hk0 h
    · replace h := z_pos hc h
      refine z_aload_n C dX7_pass_62 rfl rfl ?_
      refine z_iload_n C dX7_pass_63 rfl rfl ?_
      obtain ⟨⟨⟩, σ2, mσ2, h⟩ := z_bnd2 h
      refine z_cvv (As := [.int v1]) (c := c0) (st := []) C (t7_reasonOut c0 v1 hk0 mσ2) kvX7_reasonOut rfl mlX7_83 z_CF7 hk0 rfl (by decide) rfl (Nat.le_of_ble_eq_true rfl) dX7_pass_64 ?_
      refine z_iinc (v := v1 + 1) (lo' := [some (.ref (z_a X c0)), some (.int (v1 + 1))]) C dX7_pass_67 rfl rfl rfl ?_
      refine z_goto (tgt := 51) C dX7_pass_70 (by decide) ?_
      exact ih c0 (v1 + 1) σ2 hk0 h
set_option maxHeartbeats 4000000 in
set_option maxRecDepth 100000 in
theorem t7_pass_J49 {X : z_Ct} (C : z_Cx S1 X RX7 cX7_pass 2 7 (some .int)) {u : Int32 × z_M} (c0 : Nat) (σ : z_M) (hk0 : S1.1 c0 = 7) (h : f7_pass_J49 c0 σ = some u) : z_W S1 X 49 [some (.ref (z_a X c0)), none] [] σ (z_oi u) := by
  unfold f7_pass_J49 at h
  refine z_iconst (v := 0) C dX7_pass_49 (by decide) ?_
  refine z_istore_n (lo' := [some (.ref (z_a X c0)), some (.int 0)]) C dX7_pass_50 rfl (Nat.le_of_ble_eq_true rfl) rfl ?_
  exact t7_pass_L51 C _ c0 0 σ hk0 h
set_option maxHeartbeats 4000000 in
set_option maxRecDepth 100000 in
theorem t7_pass_L2 {X : z_Ct} (C : z_Cx S1 X RX7 cX7_pass 2 7 (some .int)) {u : Int32 × z_M} : ∀ (n : Nat) (c0 : Nat) (v1 : Int32) (σ : z_M),S1.1 c0 = 7 →  f7_pass_L2 n c0 v1 σ = some u → z_W S1 X 2 [some (.ref (z_a X c0)), some (.int v1)] [] σ (z_oi u) := by
  intro n
  induction n with
  | zero => intro c0 v1 σ hk0 h; rw [f7_pass_L2] at h; cases h
  | succ n ih =>
    intro c0 v1 σ hk0 h
    rw [f7_pass_L2] at h
    refine z_iload_n C dX7_pass_2 rfl rfl ?_
    refine z_aload_n C dX7_pass_3 rfl rfl ?_
    refine z_geta (k := 0) (q := 1) C z_CF7 (by decide) flX7_9 hk0 (sh7_r0 hk0) dX7_pass_4 ?_
    refine z_geta (k := 9) (q := 13) C z_CF1 (by decide) flX7_61 rfl rfl dX7_pass_7 ?_
    refine z_geti (k := 2) C z_CF9 (by decide) flX7_65 rfl rfl dX7_pass_10 ?_
    refine z_icmp_ge (tgt := 49) C dX7_pass_13 (by decide) (fun hc => ?_) (fun hc => ?_)
    · replace h := z_neg hc h
      refine z_kill (lo' := [some (.ref (z_a X c0)), none]) [1] rfl ?_
      exact t7_pass_J49 C c0 σ hk0 h
    · replace h := z_pos hc h
      refine z_aload_n C dX7_pass_16 rfl rfl ?_
      refine z_geta (k := 0) (q := 1) C z_CF7 (by decide) flX7_9 hk0 (sh7_r0 hk0) dX7_pass_17 ?_
      refine z_geta (k := 9) (q := 13) C z_CF1 (by decide) flX7_61 rfl rfl dX7_pass_20 ?_
      refine z_iload_n C dX7_pass_23 rfl rfl ?_
      refine z_iconst (v := 0) C dX7_pass_24 (by decide) ?_
      obtain ⟨r1, σ2, mσ2, h⟩ := z_bnd2 h
      refine z_cvi (As := [.int v1, .int 0]) (c := 13) (st := []) C (t9_at 13 v1 0 rfl mσ2) kvX9_at rfl mlX7_71 z_CF9 rfl rfl (by decide) rfl (Nat.le_of_ble_eq_true rfl) dX7_pass_25 ?_
      refine z_aload_n C dX7_pass_28 rfl rfl ?_
      refine z_geta (k := 1) (q := (z_sb c0)) C z_CF7 (by decide) flX7_15 hk0 (sh7_r1 hk0) dX7_pass_29 ?_
      refine z_geti (k := 6) C z_CF0 (by decide) flX7_74 (sh7_k1 hk0) (sh0_n6 (sh7_k1 hk0)) dX7_pass_32 ?_
      refine z_icmp_ne (tgt := 43) C dX7_pass_35 (by decide) (fun hc => ?_) (fun hc => ?_)
      · replace h := z_neg hc h
        refine z_iinc (v := v1 + 1) (lo' := [some (.ref (z_a X c0)), some (.int (v1 + 1))]) C dX7_pass_43 rfl rfl rfl ?_
        refine z_goto (tgt := 2) C dX7_pass_46 (by decide) ?_
        exact ih c0 (v1 + 1) σ2 hk0 h
      · replace h := z_pos hc h
        refine z_aload_n C dX7_pass_38 rfl rfl ?_
        refine z_iload_n C dX7_pass_39 rfl rfl ?_
        obtain ⟨⟨⟩, σ4, mσ4, h⟩ := z_bnd2 h
        refine z_cvv (As := [.int v1]) (c := c0) (st := []) C (t7_follow c0 v1 hk0 mσ4) kvX7_follow rfl mlX7_77 z_CF7 hk0 rfl (by decide) rfl (Nat.le_of_ble_eq_true rfl) dX7_pass_40 ?_
        refine z_iinc (v := v1 + 1) (lo' := [some (.ref (z_a X c0)), some (.int (v1 + 1))]) C dX7_pass_43 rfl rfl rfl ?_
        refine z_goto (tgt := 2) C dX7_pass_46 (by decide) ?_
        exact ih c0 (v1 + 1) σ4 hk0 h
set_option maxHeartbeats 4000000 in
set_option maxRecDepth 100000 in
theorem t7_pass {a : Nat → Nat} (c0 : Nat) {σ : z_M} (hk0 : S1.1 c0 = 7) {u : Int32 × z_M} (h : f7_pass c0 σ = some u) : z_Mt yX7_pass (z_w yX7_pass cX7_pass 2 (some .int)) 7 S1 a σ [.ref (a c0)] (z_oi u) := by
  refine z_head (lo := [some (.ref (a c0)), none]) (by decide) (Nat.le_of_ble_eq_true rfl) ?_ rfl ?_
  · intro i v hv
    exact z_loe (vs := [.ref (a c0)]) (n := 1) rfl (by simp [z_c1i, z_c1r]) i v hv
  · intro X hXa C
    subst hXa
    unfold f7_pass at h
    refine z_iconst (v := 0) C dX7_pass_0 (by decide) ?_
    refine z_istore_n (lo' := [some (.ref (z_a X c0)), some (.int 0)]) C dX7_pass_1 rfl (Nat.le_of_ble_eq_true rfl) rfl ?_
    exact t7_pass_L2 C _ c0 0 σ hk0 h
set_option maxHeartbeats 4000000 in
set_option maxRecDepth 100000 in
theorem t11_weeks_L35 {X : z_Ct} (C : z_Cx S1 X RX11 cX11_weeks 4 8 (some .int)) {u : Int32 × z_M} : ∀ (n : Nat) (v1 : Int32) (v2 : Int32) (v3 : Int32) (σ : z_M), f11_weeks_L35 n v1 v2 v3 σ = some u → z_W S1 X 35 [some (.ref (z_a X 0)), some (.int v1), some (.int v2), some (.int v3)] [] σ (z_oi u) := by
  intro n
  induction n with
  | zero => intro v1 v2 v3 σ h; rw [f11_weeks_L35] at h; cases h
  | succ n ih =>
    intro v1 v2 v3 σ h
    rw [f11_weeks_L35] at h
    refine z_iload_n C dX11_weeks_35 rfl rfl ?_
    refine z_iload_n C dX11_weeks_36 rfl rfl ?_
    refine z_icmp_ge (tgt := 70) C dX11_weeks_37 (by decide) (fun hc => ?_) (fun hc => ?_)
    · replace h := z_neg hc h
      refine z_iload_n C dX11_weeks_70 rfl rfl ?_
      exact z_iret C h dX11_weeks_71
    · replace h := z_pos hc h
      refine z_aload_n C dX11_weeks_40 rfl rfl ?_
      refine z_geta (k := 5) (q := 58) C z_CF11 (by decide) flX11_52 rfl rfl dX11_weeks_41 ?_
      refine z_aload_n C dX11_weeks_44 rfl rfl ?_
      refine z_geta (k := 0) (q := 1) C z_CF11 (by decide) flX11_10 rfl rfl dX11_weeks_45 ?_
      refine z_geta (k := 13) (q := 18) C z_CF1 (by decide) flX11_32 rfl rfl dX11_weeks_48 ?_
      obtain ⟨⟨⟩, σ2, mσ2, h⟩ := z_bnd2 h
      refine z_cvv (As := [.ref (z_a X 18)]) (c := 58) (st := []) C (t10_keep 18 rfl mσ2) kvX10_keep rfl mlX11_171 z_CF10 rfl rfl (by decide) rfl (Nat.le_of_ble_eq_true rfl) dX11_weeks_51 ?_
      refine z_iload_n C dX11_weeks_54 rfl rfl ?_
      refine z_aload_n C dX11_weeks_55 rfl rfl ?_
      refine z_geta (k := 3) (q := 50) C z_CF11 (by decide) flX11_39 rfl rfl dX11_weeks_56 ?_
      obtain ⟨r3, σ4, mσ4, h⟩ := z_bnd2 h
      refine z_cvi (As := []) (c := 50) (st := [.int v2]) C (t7_pass 50 rfl mσ4) kvX7_pass rfl mlX11_192 z_CF7 rfl rfl (by decide) rfl (Nat.le_of_ble_eq_true rfl) dX11_weeks_59 ?_
      refine z_iadd C dX11_weeks_62 ?_
      refine z_istore_n (lo' := [some (.ref (z_a X 0)), some (.int v1), some (.int (v2 + r3)), some (.int v3)]) C dX11_weeks_63 rfl (Nat.le_of_ble_eq_true rfl) rfl ?_
      refine z_iinc (v := v3 + 1) (lo' := [some (.ref (z_a X 0)), some (.int v1), some (.int (v2 + r3)), some (.int (v3 + 1))]) C dX11_weeks_64 rfl rfl rfl ?_
      refine z_goto (tgt := 35) C dX11_weeks_67 (by decide) ?_
      exact ih v1 (v2 + r3) (v3 + 1) σ4 h
set_option maxHeartbeats 4000000 in
set_option maxRecDepth 100000 in
theorem t11_weeks {a : Nat → Nat} (p1 : Int32) {σ : z_M} {u : Int32 × z_M} (h : f11_weeks p1 σ = some u) : z_Mt yX11_weeks (z_w yX11_weeks cX11_weeks 4 (some .int)) 8 S1 a σ [.ref (a 0), .int p1] (z_oi u) := by
  refine z_head (lo := [some (.ref (a 0)), some (.int p1), none, none]) (by decide) (Nat.le_of_ble_eq_true rfl) ?_ rfl ?_
  · intro i v hv
    exact z_loe (vs := [.ref (a 0), .int p1]) (n := 2) rfl (by simp [z_c1i, z_c1r]) i v hv
  · intro X hXa C
    subst hXa
    unfold f11_weeks at h
    refine z_iload_n C dX11_weeks_0 rfl rfl ?_
    refine z_iconst (v := 1) C dX11_weeks_1 (by decide) ?_
    refine z_icmp_lt (tgt := 29) C dX11_weeks_2 (by decide) (fun hc => ?_) (fun hc => ?_)
    · replace h := z_pos hc h
      refine z_iconst (v := (-1)) C dX11_weeks_29 (by decide) ?_
      exact z_iret C h dX11_weeks_30
    · replace h := z_neg hc h
      refine z_iload_n C dX11_weeks_5 rfl rfl ?_
      refine z_bipush (v := 60) C dX11_weeks_6 (by decide) ?_
      refine z_icmp_gt (tgt := 29) C dX11_weeks_8 (by decide) (fun hc => ?_) (fun hc => ?_)
      · replace h := z_pos hc h
        refine z_iconst (v := (-1)) C dX11_weeks_29 (by decide) ?_
        exact z_iret C h dX11_weeks_30
      · replace h := z_neg hc h
        refine z_aload_n C dX11_weeks_11 rfl rfl ?_
        refine z_geta (k := 0) (q := 1) C z_CF11 (by decide) flX11_10 rfl rfl dX11_weeks_12 ?_
        refine z_geta (k := 13) (q := 18) C z_CF1 (by decide) flX11_32 rfl rfl dX11_weeks_15 ?_
        refine z_geti (k := 6) C z_CF0 (by decide) flX11_189 rfl rfl dX11_weeks_18 ?_
        refine z_iload_n C dX11_weeks_21 rfl rfl ?_
        refine z_iadd C dX11_weeks_22 ?_
        refine z_sipush (v := 999) C dX11_weeks_23 (by decide) ?_
        refine z_icmp_le (tgt := 31) C dX11_weeks_26 (by decide) (fun hc => ?_) (fun hc => ?_)
        · replace h := z_neg hc h
          refine z_iconst (v := 0) C dX11_weeks_31 (by decide) ?_
          refine z_istore_n (lo' := [some (.ref (z_a X 0)), some (.int p1), some (.int 0), none]) C dX11_weeks_32 rfl (Nat.le_of_ble_eq_true rfl) rfl ?_
          refine z_iconst (v := 0) C dX11_weeks_33 (by decide) ?_
          refine z_istore_n (lo' := [some (.ref (z_a X 0)), some (.int p1), some (.int 0), some (.int 0)]) C dX11_weeks_34 rfl (Nat.le_of_ble_eq_true rfl) rfl ?_
          exact t11_weeks_L35 C _ p1 0 0 σ h
        · replace h := z_pos hc h
          refine z_iconst (v := (-1)) C dX11_weeks_29 (by decide) ?_
          exact z_iret C h dX11_weeks_30
set_option maxHeartbeats 4000000 in
set_option maxRecDepth 100000 in
theorem t11_lawOf {a : Nat → Nat} (p1 : Int32) (p2 : Int32) {σ : z_M} {u : Int32 × z_M} (h : f11_lawOf p1 p2 σ = some u) : z_Mt yX11_lawOf (z_w yX11_lawOf cX11_lawOf 3 (some .int)) 5 S1 a σ [.ref (a 0), .int p1, .int p2] (z_oi u) := by
  refine z_head (lo := [some (.ref (a 0)), some (.int p1), some (.int p2)]) (by decide) (Nat.le_of_ble_eq_true rfl) ?_ rfl ?_
  · intro i v hv
    exact z_loe (vs := [.ref (a 0), .int p1, .int p2]) (n := 0) rfl (by simp [z_c1i, z_c1r]) i v hv
  · intro X hXa C
    subst hXa
    unfold f11_lawOf at h
    refine z_aload_n C dX11_lawOf_0 rfl rfl ?_
    refine z_geta (k := 0) (q := 1) C z_CF11 (by decide) flX11_10 rfl rfl dX11_lawOf_1 ?_
    refine z_geta (k := 13) (q := 18) C z_CF1 (by decide) flX11_32 rfl rfl dX11_lawOf_4 ?_
    refine z_iload_n C dX11_lawOf_7 rfl rfl ?_
    obtain ⟨r1, σ2, mσ2, h⟩ := z_bnd2 h
    refine z_cvi (As := [.int p1]) (c := 18) (st := []) C (t0_hasPot 18 p1 rfl mσ2) kvX0_hasPot rfl mlX11_168 z_CF0 rfl rfl (by decide) rfl (Nat.le_of_ble_eq_true rfl) dX11_lawOf_8 ?_
    refine z_if_ne (tgt := 17) C dX11_lawOf_11 (by decide) (fun hc => ?_) (fun hc => ?_)
    · replace h := z_neg hc h
      refine z_aload_n C dX11_lawOf_17 rfl rfl ?_
      refine z_geta (k := 8) (q := 47) C z_CF11 (by decide) flX11_26 rfl rfl dX11_lawOf_18 ?_
      refine z_aload_n C dX11_lawOf_21 rfl rfl ?_
      refine z_geta (k := 0) (q := 1) C z_CF11 (by decide) flX11_10 rfl rfl dX11_lawOf_22 ?_
      refine z_aload_n C dX11_lawOf_25 rfl rfl ?_
      refine z_geta (k := 0) (q := 1) C z_CF11 (by decide) flX11_10 rfl rfl dX11_lawOf_26 ?_
      refine z_geta (k := 13) (q := 18) C z_CF1 (by decide) flX11_32 rfl rfl dX11_lawOf_29 ?_
      refine z_iload_n C dX11_lawOf_32 rfl rfl ?_
      refine z_aload_n C dX11_lawOf_33 rfl rfl ?_
      refine z_geta (k := 0) (q := 1) C z_CF11 (by decide) flX11_10 rfl rfl dX11_lawOf_34 ?_
      refine z_geta (k := 13) (q := 18) C z_CF1 (by decide) flX11_32 rfl rfl dX11_lawOf_37 ?_
      refine z_iload_n C dX11_lawOf_40 rfl rfl ?_
      obtain ⟨r3, σ4, mσ4, h⟩ := z_bnd2 h
      refine z_cvi (As := [.int p1]) (c := 18) (st := [.int p1, .ref (z_a X 18), .ref (z_a X 1), .ref (z_a X 47)]) C (t0_sures 18 p1 rfl mσ4) kvX0_sures rfl mlX11_220 z_CF0 rfl rfl (by decide) rfl (Nat.le_of_ble_eq_true rfl) dX11_lawOf_41 ?_
      obtain ⟨⟨⟩, σ6, mσ6, h⟩ := z_bnd2 h
      refine z_cvv (As := [.ref (z_a X 1), .ref (z_a X 18), .int p1, .int r3]) (c := 47) (st := []) C (t5_observe 1 18 p1 r3 rfl rfl mσ6) kvX5_observe rfl mlX11_223 z_CF5 rfl rfl (by decide) rfl (Nat.le_of_ble_eq_true rfl) dX11_lawOf_44 ?_
      refine z_iload_n C dX11_lawOf_47 rfl rfl ?_
      refine z_bipush (v := 6) C dX11_lawOf_48 (by decide) ?_
      refine z_icmp_ne (tgt := 68) C dX11_lawOf_50 (by decide) (fun hc => ?_) (fun hc => ?_)
      · replace h := z_neg hc h
        refine z_iload_n C dX11_lawOf_68 rfl rfl ?_
        refine z_bipush (v := 7) C dX11_lawOf_69 (by decide) ?_
        refine z_icmp_ne (tgt := 91) C dX11_lawOf_71 (by decide) (fun hc => ?_) (fun hc => ?_)
        · replace h := z_neg hc h
          refine z_aload_n C dX11_lawOf_91 rfl rfl ?_
          refine z_geta (k := 8) (q := 47) C z_CF11 (by decide) flX11_26 rfl rfl dX11_lawOf_92 ?_
          refine z_aload_n C dX11_lawOf_95 rfl rfl ?_
          refine z_geta (k := 0) (q := 1) C z_CF11 (by decide) flX11_10 rfl rfl dX11_lawOf_96 ?_
          refine z_geta (k := 7) (q := 7) C z_CF1 (by decide) flX11_227 rfl rfl dX11_lawOf_99 ?_
          obtain ⟨r7, σ8, mσ8, h⟩ := z_bnd2 h
          refine z_cvi (As := [.ref (z_a X 7)]) (c := 47) (st := []) C (t5_seeds 7 rfl mσ8) kvX5_seeds rfl mlX11_236 z_CF5 rfl rfl (by decide) rfl (Nat.le_of_ble_eq_true rfl) dX11_lawOf_102 ?_
          exact z_iret C h dX11_lawOf_105
        · replace h := z_pos hc h
          refine z_aload_n C dX11_lawOf_74 rfl rfl ?_
          refine z_geta (k := 8) (q := 47) C z_CF11 (by decide) flX11_26 rfl rfl dX11_lawOf_75 ?_
          refine z_aload_n C dX11_lawOf_78 rfl rfl ?_
          refine z_geta (k := 0) (q := 1) C z_CF11 (by decide) flX11_10 rfl rfl dX11_lawOf_79 ?_
          refine z_geta (k := 7) (q := 7) C z_CF1 (by decide) flX11_227 rfl rfl dX11_lawOf_82 ?_
          obtain ⟨r9, σ10, mσ10, h⟩ := z_bnd2 h
          refine z_cvi (As := [.ref (z_a X 7)]) (c := 47) (st := []) C (t5_lowers 7 rfl mσ10) kvX5_lowers rfl mlX11_233 z_CF5 rfl rfl (by decide) rfl (Nat.le_of_ble_eq_true rfl) dX11_lawOf_85 ?_
          refine z_goto (tgt := 105) C dX11_lawOf_88 (by decide) ?_
          exact z_iret C h dX11_lawOf_105
      · replace h := z_pos hc h
        refine z_aload_n C dX11_lawOf_53 rfl rfl ?_
        refine z_geta (k := 8) (q := 47) C z_CF11 (by decide) flX11_26 rfl rfl dX11_lawOf_54 ?_
        refine z_aload_n C dX11_lawOf_57 rfl rfl ?_
        refine z_geta (k := 0) (q := 1) C z_CF11 (by decide) flX11_10 rfl rfl dX11_lawOf_58 ?_
        refine z_geta (k := 7) (q := 7) C z_CF1 (by decide) flX11_227 rfl rfl dX11_lawOf_61 ?_
        obtain ⟨r11, σ12, mσ12, h⟩ := z_bnd2 h
        refine z_cvi (As := [.ref (z_a X 7)]) (c := 47) (st := []) C (t5_grows 7 rfl mσ12) kvX5_grows rfl mlX11_229 z_CF5 rfl rfl (by decide) rfl (Nat.le_of_ble_eq_true rfl) dX11_lawOf_64 ?_
        exact z_iret C h dX11_lawOf_67
    · replace h := z_pos hc h
      refine z_bipush (v := (-100)) C dX11_lawOf_14 (by decide) ?_
      exact z_iret C h dX11_lawOf_16
set_option maxHeartbeats 4000000 in
set_option maxRecDepth 100000 in
theorem t11_of {a : Nat → Nat} (p1 : Int32) (p2 : Int32) {σ : z_M} {u : Int32 × z_M} (h : f11_of p1 p2 σ = some u) : z_Mt yX11_of (z_w yX11_of cX11_of 4 (some .int)) 6 S1 a σ [.ref (a 0), .int p1, .int p2] (z_oi u) := by
  refine z_head (lo := [some (.ref (a 0)), some (.int p1), some (.int p2), none]) (by decide) (Nat.le_of_ble_eq_true rfl) ?_ rfl ?_
  · intro i v hv
    exact z_loe (vs := [.ref (a 0), .int p1, .int p2]) (n := 1) rfl (by simp [z_c1i, z_c1r]) i v hv
  · intro X hXa C
    subst hXa
    unfold f11_of at h
    refine z_aload_n C dX11_of_0 rfl rfl ?_
    refine z_iload_n C dX11_of_1 rfl rfl ?_
    obtain ⟨r1, σ2, mσ2, h⟩ := z_bnd2 h
    refine z_cvi (As := [.int p1]) (c := 0) (st := []) C (t11_isHouse p1 mσ2) kvX11_isHouse rfl mlX11_165 z_CF11 rfl rfl (by decide) rfl (Nat.le_of_ble_eq_true rfl) dX11_of_2 ?_
    refine z_if_ne (tgt := 12) C dX11_of_5 (by decide) (fun hc => ?_) (fun hc => ?_)
    · replace h := z_neg hc h
      refine z_aload_n C dX11_of_12 rfl rfl ?_
      refine z_geta (k := 0) (q := 1) C z_CF11 (by decide) flX11_10 rfl rfl dX11_of_13 ?_
      refine z_geta (k := 13) (q := 18) C z_CF1 (by decide) flX11_32 rfl rfl dX11_of_16 ?_
      refine z_astore_n (lo' := [some (.ref (z_a X 0)), some (.int p1), some (.int p2), some (.ref (z_a X 18))]) C dX11_of_19 rfl (Nat.le_of_ble_eq_true rfl) rfl ?_
      refine z_iload_n C dX11_of_20 rfl rfl ?_
      by_cases hs0 : p2 = 0
      · replace h := z_pos hs0 h
        refine z_tabIn (tgt := 72) C dX11_of_21 (v := 0) (by rw [hs0]; decide) (by decide) (by decide) rfl (by decide) ?_
        refine z_aload_n C dX11_of_72 rfl rfl ?_
        refine z_geta (k := 1) (q := 20) C z_CF0 (by decide) flX11_196 rfl rfl dX11_of_73 ?_
        refine z_iload_n C dX11_of_76 rfl rfl ?_
        obtain ⟨b3, h⟩ := z_chk_some h
        refine z_iald C rfl rfl b3 dX11_of_77 ?_
        exact z_iret C h dX11_of_78
      · replace h := z_neg hs0 h
        by_cases hs1 : p2 = 1
        · replace h := z_pos hs1 h
          refine z_tabIn (tgt := 79) C dX11_of_21 (v := 1) (by rw [hs1]; decide) (by decide) (by decide) rfl (by decide) ?_
          refine z_aload_n C dX11_of_79 rfl rfl ?_
          refine z_geta (k := 2) (q := 21) C z_CF0 (by decide) flX11_199 rfl rfl dX11_of_80 ?_
          refine z_iload_n C dX11_of_83 rfl rfl ?_
          obtain ⟨b4, h⟩ := z_chk_some h
          refine z_iald C rfl rfl b4 dX11_of_84 ?_
          exact z_iret C h dX11_of_85
        · replace h := z_neg hs1 h
          by_cases hs2 : p2 = 2
          · replace h := z_pos hs2 h
            refine z_tabIn (tgt := 86) C dX11_of_21 (v := 2) (by rw [hs2]; decide) (by decide) (by decide) rfl (by decide) ?_
            refine z_aload_n C dX11_of_86 rfl rfl ?_
            refine z_geta (k := 3) (q := 22) C z_CF0 (by decide) flX11_202 rfl rfl dX11_of_87 ?_
            refine z_iload_n C dX11_of_90 rfl rfl ?_
            obtain ⟨b5, h⟩ := z_chk_some h
            refine z_iald C rfl rfl b5 dX11_of_91 ?_
            exact z_iret C h dX11_of_92
          · replace h := z_neg hs2 h
            by_cases hs3 : p2 = 3
            · replace h := z_pos hs3 h
              refine z_tabIn (tgt := 93) C dX11_of_21 (v := 3) (by rw [hs3]; decide) (by decide) (by decide) rfl (by decide) ?_
              refine z_aload_n C dX11_of_93 rfl rfl ?_
              refine z_geta (k := 4) (q := 23) C z_CF0 (by decide) flX11_205 rfl rfl dX11_of_94 ?_
              refine z_iload_n C dX11_of_97 rfl rfl ?_
              obtain ⟨b6, h⟩ := z_chk_some h
              refine z_iald C rfl rfl b6 dX11_of_98 ?_
              exact z_iret C h dX11_of_99
            · replace h := z_neg hs3 h
              by_cases hs4 : p2 = 4
              · replace h := z_pos hs4 h
                refine z_tabIn (tgt := 100) C dX11_of_21 (v := 4) (by rw [hs4]; decide) (by decide) (by decide) rfl (by decide) ?_
                refine z_aload_n C dX11_of_100 rfl rfl ?_
                refine z_iload_n C dX11_of_101 rfl rfl ?_
                obtain ⟨r7, σ8, mσ8, h⟩ := z_bnd2 h
                refine z_cvi (As := [.int p1]) (c := 18) (st := []) C (t0_sureOf 18 p1 rfl mσ8) kvX0_sureOf rfl mlX11_208 z_CF0 rfl rfl (by decide) rfl (Nat.le_of_ble_eq_true rfl) dX11_of_102 ?_
                exact z_iret C h dX11_of_105
              · replace h := z_neg hs4 h
                by_cases hs5 : p2 = 5
                · replace h := z_pos hs5 h
                  refine z_tabIn (tgt := 106) C dX11_of_21 (v := 5) (by rw [hs5]; decide) (by decide) (by decide) rfl (by decide) ?_
                  refine z_aload_n C dX11_of_106 rfl rfl ?_
                  refine z_geta (k := 0) (q := 1) C z_CF11 (by decide) flX11_10 rfl rfl dX11_of_107 ?_
                  refine z_geta (k := 5) (q := 3) C z_CF1 (by decide) flX11_211 rfl rfl dX11_of_110 ?_
                  refine z_iload_n C dX11_of_113 rfl rfl ?_
                  obtain ⟨b9, h⟩ := z_chk_some h
                  refine z_iald C rfl rfl b9 dX11_of_114 ?_
                  exact z_iret C h dX11_of_115
                · replace h := z_neg hs5 h
                  by_cases hs6 : p2 = 6
                  · replace h := z_pos hs6 h
                    refine z_tabIn (tgt := 116) C dX11_of_21 (v := 6) (by rw [hs6]; decide) (by decide) (by decide) rfl (by decide) ?_
                    refine z_aload_n C dX11_of_116 rfl rfl ?_
                    refine z_iload_n C dX11_of_117 rfl rfl ?_
                    refine z_iload_n C dX11_of_118 rfl rfl ?_
                    obtain ⟨r10, σ11, mσ11, h⟩ := z_bnd2 h
                    refine z_cvi (As := [.int p1, .int p2]) (c := 0) (st := []) C (t11_lawOf p1 p2 mσ11) kvX11_lawOf rfl mlX11_213 z_CF11 rfl rfl (by decide) rfl (Nat.le_of_ble_eq_true rfl) dX11_of_119 ?_
                    exact z_iret C h dX11_of_122
                  · replace h := z_neg hs6 h
                    by_cases hs7 : p2 = 7
                    · replace h := z_pos hs7 h
                      refine z_tabIn (tgt := 116) C dX11_of_21 (v := 7) (by rw [hs7]; decide) (by decide) (by decide) rfl (by decide) ?_
                      refine z_aload_n C dX11_of_116 rfl rfl ?_
                      refine z_iload_n C dX11_of_117 rfl rfl ?_
                      refine z_iload_n C dX11_of_118 rfl rfl ?_
                      obtain ⟨r12, σ13, mσ13, h⟩ := z_bnd2 h
                      refine z_cvi (As := [.int p1, .int p2]) (c := 0) (st := []) C (t11_lawOf p1 p2 mσ13) kvX11_lawOf rfl mlX11_213 z_CF11 rfl rfl (by decide) rfl (Nat.le_of_ble_eq_true rfl) dX11_of_119 ?_
                      exact z_iret C h dX11_of_122
                    · replace h := z_neg hs7 h
                      by_cases hs8 : p2 = 8
                      · replace h := z_pos hs8 h
                        refine z_tabIn (tgt := 116) C dX11_of_21 (v := 8) (by rw [hs8]; decide) (by decide) (by decide) rfl (by decide) ?_
                        refine z_aload_n C dX11_of_116 rfl rfl ?_
                        refine z_iload_n C dX11_of_117 rfl rfl ?_
                        refine z_iload_n C dX11_of_118 rfl rfl ?_
                        obtain ⟨r14, σ15, mσ15, h⟩ := z_bnd2 h
                        refine z_cvi (As := [.int p1, .int p2]) (c := 0) (st := []) C (t11_lawOf p1 p2 mσ15) kvX11_lawOf rfl mlX11_213 z_CF11 rfl rfl (by decide) rfl (Nat.le_of_ble_eq_true rfl) dX11_of_119 ?_
                        exact z_iret C h dX11_of_122
                      · replace h := z_neg hs8 h
                        refine z_tabOut (tgt := 123) C dX11_of_21 (z_none 9 (fun k hk => by
                            rcases (show k = 0 ∨ k = 1 ∨ k = 2 ∨ k = 3 ∨ k = 4 ∨ k = 5 ∨ k = 6 ∨ k = 7 ∨ k = 8 by omega) with rfl | rfl | rfl | rfl | rfl | rfl | rfl | rfl | rfl
                            · exact z_toInt hs0 (by decide)
                            · exact z_toInt hs1 (by decide)
                            · exact z_toInt hs2 (by decide)
                            · exact z_toInt hs3 (by decide)
                            · exact z_toInt hs4 (by decide)
                            · exact z_toInt hs5 (by decide)
                            · exact z_toInt hs6 (by decide)
                            · exact z_toInt hs7 (by decide)
                            · exact z_toInt hs8 (by decide))) (by decide) ?_
                        refine z_iload_n C dX11_of_123 rfl rfl ?_
                        refine z_bipush (v := 10) C dX11_of_124 (by decide) ?_
                        refine z_isub C dX11_of_126 ?_
                        obtain ⟨r16, σ17, mσ17, h⟩ := z_bnd2 h
                        refine z_csi (As := [.int (p2 - 10)]) (st := []) C (t11_isThing (p2 - 10) mσ17) kvX11_isThing rfl mlX11_107 (by decide) rfl (Nat.le_of_ble_eq_true rfl) dX11_of_127 ?_
                        refine z_if_eq (tgt := 145) C dX11_of_130 (by decide) (fun hc => ?_) (fun hc => ?_)
                        · replace h := z_pos hc h
                          refine z_sipush (v := (-1000)) C dX11_of_145 (by decide) ?_
                          exact z_iret C h dX11_of_148
                        · replace h := z_neg hc h
                          refine z_aload_n C dX11_of_133 rfl rfl ?_
                          refine z_iload_n C dX11_of_134 rfl rfl ?_
                          refine z_iload_n C dX11_of_135 rfl rfl ?_
                          refine z_bipush (v := 10) C dX11_of_136 (by decide) ?_
                          refine z_isub C dX11_of_138 ?_
                          obtain ⟨r18, σ19, mσ19, h⟩ := z_bnd2 h
                          refine z_cvi (As := [.int p1, .int (p2 - 10)]) (c := 18) (st := []) C (t0_degreeOf 18 p1 (p2 - 10) rfl mσ19) kvX0_degreeOf rfl mlX11_217 z_CF0 rfl rfl (by decide) rfl (Nat.le_of_ble_eq_true rfl) dX11_of_139 ?_
                          refine z_goto (tgt := 148) C dX11_of_142 (by decide) ?_
                          exact z_iret C h dX11_of_148
    · replace h := z_pos hc h
      refine z_sipush (v := (-1000)) C dX11_of_8 (by decide) ?_
      exact z_iret C h dX11_of_11
set_option maxHeartbeats 4000000 in
set_option maxRecDepth 100000 in
theorem t11_reason {a : Nat → Nat} (p1 : Int32) (p2 : Int32) {σ : z_M} {u : Int32 × z_M} (h : f11_reason p1 p2 σ = some u) : z_Mt yX11_reason (z_w yX11_reason cX11_reason 3 (some .int)) 2 S1 a σ [.ref (a 0), .int p1, .int p2] (z_oi u) := by
  refine z_head (lo := [some (.ref (a 0)), some (.int p1), some (.int p2)]) (by decide) (Nat.le_of_ble_eq_true rfl) ?_ rfl ?_
  · intro i v hv
    exact z_loe (vs := [.ref (a 0), .int p1, .int p2]) (n := 0) rfl (by simp [z_c1i, z_c1r]) i v hv
  · intro X hXa C
    subst hXa
    unfold f11_reason at h
    refine z_iload_n C dX11_reason_0 rfl rfl ?_
    refine z_if_lt (tgt := 27) C dX11_reason_1 (by decide) (fun hc => ?_) (fun hc => ?_)
    · replace h := z_pos hc h
      refine z_iconst (v := (-1)) C dX11_reason_27 (by decide) ?_
      exact z_iret C h dX11_reason_28
    · replace h := z_neg hc h
      refine z_iload_n C dX11_reason_4 rfl rfl ?_
      refine z_aload_n C dX11_reason_5 rfl rfl ?_
      refine z_geta (k := 0) (q := 1) C z_CF11 (by decide) flX11_10 rfl rfl dX11_reason_6 ?_
      refine z_geta (k := 6) (q := 4) C z_CF1 (by decide) flX11_239 rfl rfl dX11_reason_9 ?_
      refine z_geti (k := 2) C z_CF9 (by decide) flX11_156 rfl rfl dX11_reason_12 ?_
      refine z_icmp_ge (tgt := 27) C dX11_reason_15 (by decide) (fun hc => ?_) (fun hc => ?_)
      · replace h := z_neg hc h
        refine z_iconst (v := (-1)) C dX11_reason_27 (by decide) ?_
        exact z_iret C h dX11_reason_28
      · replace h := z_pos hc h
        refine z_iload_n C dX11_reason_18 rfl rfl ?_
        refine z_if_lt (tgt := 27) C dX11_reason_19 (by decide) (fun hc => ?_) (fun hc => ?_)
        · replace h := z_pos hc h
          refine z_iconst (v := (-1)) C dX11_reason_27 (by decide) ?_
          exact z_iret C h dX11_reason_28
        · replace h := z_neg hc h
          refine z_iload_n C dX11_reason_22 rfl rfl ?_
          refine z_iconst (v := 2) C dX11_reason_23 (by decide) ?_
          refine z_icmp_le (tgt := 29) C dX11_reason_24 (by decide) (fun hc => ?_) (fun hc => ?_)
          · replace h := z_neg hc h
            refine z_aload_n C dX11_reason_29 rfl rfl ?_
            refine z_geta (k := 0) (q := 1) C z_CF11 (by decide) flX11_10 rfl rfl dX11_reason_30 ?_
            refine z_geta (k := 6) (q := 4) C z_CF1 (by decide) flX11_239 rfl rfl dX11_reason_33 ?_
            refine z_iload_n C dX11_reason_36 rfl rfl ?_
            refine z_iload_n C dX11_reason_37 rfl rfl ?_
            obtain ⟨r1, σ2, mσ2, h⟩ := z_bnd2 h
            refine z_cvi (As := [.int p1, .int p2]) (c := 4) (st := []) C (t9_at 4 p1 p2 rfl mσ2) kvX9_at rfl mlX11_242 z_CF9 rfl rfl (by decide) rfl (Nat.le_of_ble_eq_true rfl) dX11_reason_38 ?_
            exact z_iret C h dX11_reason_41
          · replace h := z_pos hc h
            refine z_iconst (v := (-1)) C dX11_reason_27 (by decide) ?_
            exact z_iret C h dX11_reason_28
set_option maxHeartbeats 4000000 in
set_option maxRecDepth 100000 in
theorem t11_book {a : Nat → Nat} (p1 : Int32) (p2 : Int32) {σ : z_M} {u : Int32 × z_M} (h : f11_book p1 p2 σ = some u) : z_Mt yX11_book (z_w yX11_book cX11_book 3 (some .int)) 1 S1 a σ [.ref (a 0), .int p1, .int p2] (z_oi u) := by
  refine z_head (lo := [some (.ref (a 0)), some (.int p1), some (.int p2)]) (by decide) (Nat.le_of_ble_eq_true rfl) ?_ rfl ?_
  · intro i v hv
    exact z_loe (vs := [.ref (a 0), .int p1, .int p2]) (n := 0) rfl (by simp [z_c1i, z_c1r]) i v hv
  · intro X hXa C
    subst hXa
    unfold f11_book at h
    refine z_iload_n C dX11_book_0 rfl rfl ?_
    refine z_if_lt (tgt := 27) C dX11_book_1 (by decide) (fun hc => ?_) (fun hc => ?_)
    · replace h := z_pos hc h
      refine z_iconst (v := (-1)) C dX11_book_27 (by decide) ?_
      exact z_iret C h dX11_book_28
    · replace h := z_neg hc h
      refine z_iload_n C dX11_book_4 rfl rfl ?_
      refine z_aload_n C dX11_book_5 rfl rfl ?_
      refine z_geta (k := 0) (q := 1) C z_CF11 (by decide) flX11_10 rfl rfl dX11_book_6 ?_
      refine z_geta (k := 13) (q := 18) C z_CF1 (by decide) flX11_32 rfl rfl dX11_book_9 ?_
      refine z_geti (k := 8) C z_CF0 (by decide) flX11_245 rfl rfl dX11_book_12 ?_
      refine z_icmp_ge (tgt := 27) C dX11_book_15 (by decide) (fun hc => ?_) (fun hc => ?_)
      · replace h := z_neg hc h
        refine z_iconst (v := (-1)) C dX11_book_27 (by decide) ?_
        exact z_iret C h dX11_book_28
      · replace h := z_pos hc h
        refine z_iload_n C dX11_book_18 rfl rfl ?_
        refine z_if_lt (tgt := 27) C dX11_book_19 (by decide) (fun hc => ?_) (fun hc => ?_)
        · replace h := z_pos hc h
          refine z_iconst (v := (-1)) C dX11_book_27 (by decide) ?_
          exact z_iret C h dX11_book_28
        · replace h := z_neg hc h
          refine z_iload_n C dX11_book_22 rfl rfl ?_
          refine z_iconst (v := 4) C dX11_book_23 (by decide) ?_
          refine z_icmp_lt (tgt := 29) C dX11_book_24 (by decide) (fun hc => ?_) (fun hc => ?_)
          · replace h := z_pos hc h
            refine z_aload_n C dX11_book_29 rfl rfl ?_
            refine z_geta (k := 0) (q := 1) C z_CF11 (by decide) flX11_10 rfl rfl dX11_book_30 ?_
            refine z_geta (k := 12) (q := 17) C z_CF1 (by decide) flX11_248 rfl rfl dX11_book_33 ?_
            refine z_iload_n C dX11_book_36 rfl rfl ?_
            refine z_iconst (v := 4) C dX11_book_37 (by decide) ?_
            refine z_imul C dX11_book_38 ?_
            refine z_iload_n C dX11_book_39 rfl rfl ?_
            refine z_iadd C dX11_book_40 ?_
            obtain ⟨b1, h⟩ := z_chk_some h
            refine z_iald C rfl rfl b1 dX11_book_41 ?_
            exact z_iret C h dX11_book_42
          · replace h := z_neg hc h
            refine z_iconst (v := (-1)) C dX11_book_27 (by decide) ?_
            exact z_iret C h dX11_book_28
set_option maxHeartbeats 4000000 in
set_option maxRecDepth 100000 in
theorem t7_fallAsleep {a : Nat → Nat} (c0 : Nat) {σ : z_M} (hk0 : S1.1 c0 = 7) {u : Unit × z_M} (h : f7_fallAsleep c0 σ = some u) : z_Mt yX7_fallAsleep (z_w yX7_fallAsleep cX7_fallAsleep 1 none) 2 S1 a σ [.ref (a c0)] (z_ov u) := by
  refine z_head (lo := [some (.ref (a c0))]) (by decide) (Nat.le_of_ble_eq_true rfl) ?_ rfl ?_
  · intro i v hv
    exact z_loe (vs := [.ref (a c0)]) (n := 0) rfl (by simp [z_c1i, z_c1r]) i v hv
  · intro X hXa C
    subst hXa
    unfold f7_fallAsleep at h
    refine z_aload_n C dX7_fallAsleep_0 rfl rfl ?_
    refine z_geta (k := 1) (q := (z_sb c0)) C z_CF7 (by decide) flX7_15 hk0 (sh7_r1 hk0) dX7_fallAsleep_1 ?_
    refine z_aload_n C dX7_fallAsleep_4 rfl rfl ?_
    refine z_geta (k := 0) (q := 1) C z_CF7 (by decide) flX7_9 hk0 (sh7_r0 hk0) dX7_fallAsleep_5 ?_
    refine z_geta (k := 13) (q := 18) C z_CF1 (by decide) flX7_27 rfl rfl dX7_fallAsleep_8 ?_
    obtain ⟨⟨⟩, σ2, mσ2, h⟩ := z_bnd2 h
    refine z_cvv (As := [.ref (z_a X 18)]) (c := (z_sb c0)) (st := []) C (t0_copyFrom (z_sb c0) 18 (sh7_k1 hk0) rfl mσ2) kvX0_copyFrom rfl mlX7_30 z_CF0 (sh7_k1 hk0) rfl (by decide) rfl (Nat.le_of_ble_eq_true rfl) dX7_fallAsleep_11 ?_
    exact z_vret C h dX7_fallAsleep_14
set_option maxHeartbeats 4000000 in
set_option maxRecDepth 100000 in
theorem t7_firstOver_L2 {X : z_Ct} (C : z_Cx S1 X RX7 cX7_firstOver 2 3 (some .int)) {u : Int32 × z_M} : ∀ (n : Nat) (c0 : Nat) (v1 : Int32) (σ : z_M),S1.1 c0 = 7 →  f7_firstOver_L2 n c0 v1 σ = some u → z_W S1 X 2 [some (.ref (z_a X c0)), some (.int v1)] [] σ (z_oi u) := by
  intro n
  induction n with
  | zero => intro c0 v1 σ hk0 h; rw [f7_firstOver_L2] at h; cases h
  | succ n ih =>
    intro c0 v1 σ hk0 h
    rw [f7_firstOver_L2] at h
    refine z_iload_n C dX7_firstOver_2 rfl rfl ?_
    refine z_aload_n C dX7_firstOver_3 rfl rfl ?_
    refine z_geta (k := 0) (q := 1) C z_CF7 (by decide) flX7_9 hk0 (sh7_r0 hk0) dX7_firstOver_4 ?_
    refine z_geti (k := 0) C z_CF1 (by decide) flX7_80 rfl rfl dX7_firstOver_7 ?_
    refine z_icmp_ge (tgt := 39) C dX7_firstOver_10 (by decide) (fun hc => ?_) (fun hc => ?_)
    · replace h := z_neg hc h
      refine z_iconst (v := (-1)) C dX7_firstOver_39 (by decide) ?_
      exact z_iret C h dX7_firstOver_40
    · replace h := z_pos hc h
      refine z_aload_n C dX7_firstOver_13 rfl rfl ?_
      refine z_geta (k := 1) (q := (z_sb c0)) C z_CF7 (by decide) flX7_15 hk0 (sh7_r1 hk0) dX7_firstOver_14 ?_
      refine z_iload_n C dX7_firstOver_17 rfl rfl ?_
      obtain ⟨r1, σ2, mσ2, h⟩ := z_bnd2 h
      refine z_cvi (As := [.int v1]) (c := (z_sb c0)) (st := []) C (t0_sures (z_sb c0) v1 (sh7_k1 hk0) mσ2) kvX0_sures rfl mlX7_90 z_CF0 (sh7_k1 hk0) rfl (by decide) rfl (Nat.le_of_ble_eq_true rfl) dX7_firstOver_18 ?_
      refine z_aload_n C dX7_firstOver_21 rfl rfl ?_
      refine z_geta (k := 0) (q := 1) C z_CF7 (by decide) flX7_9 hk0 (sh7_r0 hk0) dX7_firstOver_22 ?_
      refine z_geti (k := 1) C z_CF1 (by decide) flX7_167 rfl rfl dX7_firstOver_25 ?_
      refine z_icmp_le (tgt := 33) C dX7_firstOver_28 (by decide) (fun hc => ?_) (fun hc => ?_)
      · replace h := z_neg hc h
        refine z_iinc (v := v1 + 1) (lo' := [some (.ref (z_a X c0)), some (.int (v1 + 1))]) C dX7_firstOver_33 rfl rfl rfl ?_
        refine z_goto (tgt := 2) C dX7_firstOver_36 (by decide) ?_
        exact ih c0 (v1 + 1) σ2 hk0 h
      · replace h := z_pos hc h
        refine z_iload_n C dX7_firstOver_31 rfl rfl ?_
        exact z_iret C h dX7_firstOver_32
set_option maxHeartbeats 4000000 in
set_option maxRecDepth 100000 in
theorem t7_firstOver {a : Nat → Nat} (c0 : Nat) {σ : z_M} (hk0 : S1.1 c0 = 7) {u : Int32 × z_M} (h : f7_firstOver c0 σ = some u) : z_Mt yX7_firstOver (z_w yX7_firstOver cX7_firstOver 2 (some .int)) 3 S1 a σ [.ref (a c0)] (z_oi u) := by
  refine z_head (lo := [some (.ref (a c0)), none]) (by decide) (Nat.le_of_ble_eq_true rfl) ?_ rfl ?_
  · intro i v hv
    exact z_loe (vs := [.ref (a c0)]) (n := 1) rfl (by simp [z_c1i, z_c1r]) i v hv
  · intro X hXa C
    subst hXa
    unfold f7_firstOver at h
    refine z_iconst (v := 0) C dX7_firstOver_0 (by decide) ?_
    refine z_istore_n (lo' := [some (.ref (z_a X c0)), some (.int 0)]) C dX7_firstOver_1 rfl (Nat.le_of_ble_eq_true rfl) rfl ?_
    exact t7_firstOver_L2 C _ c0 0 σ hk0 h
set_option maxHeartbeats 4000000 in
set_option maxRecDepth 100000 in
theorem t11_first_J88 {X : z_Ct} (C : z_Cx S1 X RX11 cX11_first 8 8 (some .int)) {u : Int32 × z_M} {k40 : Int32 → Int32 → Int32 → Int32 → Int32 → Int32 → z_M → Option (Int32 × z_M)} (hr40 : ∀ (v1 : Int32) (v2 : Int32) (v3 : Int32) (v4 : Int32) (v5 : Int32) (v6 : Int32) (σ : z_M), k40 v1 v2 v3 v4 v5 v6 σ = some u → z_W S1 X 40 [some (.ref (z_a X 0)), some (.int v1), some (.int v2), some (.int v3), some (.int v4), some (.int v5), some (.int v6), none] [] σ (z_oi u)) (v1 : Int32) (v2 : Int32) (v3 : Int32) (v4 : Int32) (v5 : Int32) (v6 : Int32) (v7 : Int32) (σ : z_M) (h : f11_first_J88 k40 v1 v2 v3 v4 v5 v6 v7 σ = some u) : z_W S1 X 88 [some (.ref (z_a X 0)), some (.int v1), some (.int v2), some (.int v3), some (.int v4), some (.int v5), some (.int v6), some (.int v7)] [] σ (z_oi u) := by
  unfold f11_first_J88 at h
  refine z_iload C dX11_first_88 rfl ?_
  refine z_iload C dX11_first_90 rfl ?_
  refine z_iadd C dX11_first_92 ?_
  refine z_istore (lo' := [some (.ref (z_a X 0)), some (.int v1), some (.int v2), some (.int v3), some (.int v4), some (.int (v5 + v7)), some (.int v6), some (.int v7)]) C dX11_first_93 (Nat.le_of_ble_eq_true rfl) rfl ?_
  refine z_iinc (v := v6 + 1) (lo' := [some (.ref (z_a X 0)), some (.int v1), some (.int v2), some (.int v3), some (.int v4), some (.int (v5 + v7)), some (.int (v6 + 1)), some (.int v7)]) C dX11_first_95 rfl rfl rfl ?_
  refine z_goto (tgt := 40) C dX11_first_98 (by decide) ?_
  refine z_kill (lo' := [some (.ref (z_a X 0)), some (.int v1), some (.int v2), some (.int v3), some (.int v4), some (.int (v5 + v7)), some (.int (v6 + 1)), none]) [7] rfl ?_
  exact hr40 v1 v2 v3 v4 (v5 + v7) (v6 + 1) σ h
set_option maxHeartbeats 4000000 in
set_option maxRecDepth 100000 in
theorem t11_first_J101 {X : z_Ct} (C : z_Cx S1 X RX11 cX11_first 8 8 (some .int)) {u : Int32 × z_M} (v2 : Int32) (v3 : Int32) (v4 : Int32) (v5 : Int32) (σ : z_M) (h : f11_first_J101 v2 v3 v4 v5 σ = some u) : z_W S1 X 101 [none, none, some (.int v2), some (.int v3), some (.int v4), some (.int v5), none, none] [] σ (z_oi u) := by
  unfold f11_first_J101 at h
  refine z_iload_n C dX11_first_101 rfl rfl ?_
  refine z_iconst (v := 2) C dX11_first_102 (by decide) ?_
  refine z_icmp_ne (tgt := 109) C dX11_first_103 (by decide) (fun hc => ?_) (fun hc => ?_)
  · replace h := z_neg hc h
    refine z_iload_n C dX11_first_109 rfl rfl ?_
    refine z_if_ne (tgt := 117) C dX11_first_110 (by decide) (fun hc => ?_) (fun hc => ?_)
    · replace h := z_neg hc h
      refine z_iload C dX11_first_117 rfl ?_
      exact z_iret C h dX11_first_119
    · replace h := z_pos hc h
      refine z_iload_n C dX11_first_113 rfl rfl ?_
      refine z_goto (tgt := 119) C dX11_first_114 (by decide) ?_
      exact z_iret C h dX11_first_119
  · replace h := z_pos hc h
    refine z_iload C dX11_first_106 rfl ?_
    exact z_iret C h dX11_first_108
set_option maxHeartbeats 4000000 in
set_option maxRecDepth 100000 in
theorem t11_first_L40 {X : z_Ct} (C : z_Cx S1 X RX11 cX11_first 8 8 (some .int)) {u : Int32 × z_M} : ∀ (n : Nat) (v1 : Int32) (v2 : Int32) (v3 : Int32) (v4 : Int32) (v5 : Int32) (v6 : Int32) (σ : z_M), f11_first_L40 n v1 v2 v3 v4 v5 v6 σ = some u → z_W S1 X 40 [some (.ref (z_a X 0)), some (.int v1), some (.int v2), some (.int v3), some (.int v4), some (.int v5), some (.int v6), none] [] σ (z_oi u) := by
  intro n
  induction n with
  | zero => intro v1 v2 v3 v4 v5 v6 σ h; rw [f11_first_L40] at h; cases h
  | succ n ih =>
    intro v1 v2 v3 v4 v5 v6 σ h
    rw [f11_first_L40] at h
    refine z_iload C dX11_first_40 rfl ?_
    refine z_iload_n C dX11_first_42 rfl rfl ?_
    refine z_icmp_ge (tgt := 101) C dX11_first_43 (by decide) (fun hc => ?_) (fun hc => ?_)
    · replace h := z_neg hc h
      refine z_kill (lo' := [none, none, some (.int v2), some (.int v3), some (.int v4), some (.int v5), none, none]) [0, 1, 6] rfl ?_
      exact t11_first_J101 C v2 v3 v4 v5 σ h
    · replace h := z_pos hc h
      refine z_aload_n C dX11_first_46 rfl rfl ?_
      refine z_geta (k := 4) (q := 51) C z_CF11 (by decide) flX11_46 rfl rfl dX11_first_47 ?_
      obtain ⟨r1, σ2, mσ2, h⟩ := z_bnd2 h
      refine z_cvi (As := []) (c := 51) (st := []) C (t7_pass 51 rfl mσ2) kvX7_pass rfl mlX11_192 z_CF7 rfl rfl (by decide) rfl (Nat.le_of_ble_eq_true rfl) dX11_first_50 ?_
      refine z_istore (lo' := [some (.ref (z_a X 0)), some (.int v1), some (.int v2), some (.int v3), some (.int v4), some (.int v5), some (.int v6), some (.int r1)]) C dX11_first_53 (Nat.le_of_ble_eq_true rfl) rfl ?_
      refine z_iload C dX11_first_55 rfl ?_
      refine z_if_le (tgt := 88) C dX11_first_57 (by decide) (fun hc => ?_) (fun hc => ?_)
      · replace h := z_neg hc h
        exact t11_first_J88 C ih v1 v2 v3 v4 v5 v6 r1 σ2 h
      · replace h := z_pos hc h
        refine z_iload C dX11_first_60 rfl ?_
        refine z_if_ne (tgt := 88) C dX11_first_62 (by decide) (fun hc => ?_) (fun hc => ?_)
        · replace h := z_neg hc h
          exact t11_first_J88 C ih v1 v2 v3 v4 v5 v6 r1 σ2 h
        · replace h := z_pos hc h
          refine z_aload_n C dX11_first_65 rfl rfl ?_
          refine z_geta (k := 4) (q := 51) C z_CF11 (by decide) flX11_46 rfl rfl dX11_first_66 ?_
          obtain ⟨r3, σ4, mσ4, h⟩ := z_bnd2 h
          refine z_cvi (As := []) (c := 51) (st := []) C (t7_firstOver 51 rfl mσ4) kvX7_firstOver rfl mlX11_254 z_CF7 rfl rfl (by decide) rfl (Nat.le_of_ble_eq_true rfl) dX11_first_69 ?_
          refine z_istore_n (lo' := [some (.ref (z_a X 0)), some (.int v1), some (.int v2), some (.int r3), some (.int v4), some (.int v5), some (.int v6), some (.int r1)]) C dX11_first_72 rfl (Nat.le_of_ble_eq_true rfl) rfl ?_
          refine z_aload_n C dX11_first_73 rfl rfl ?_
          refine z_geta (k := 0) (q := 1) C z_CF11 (by decide) flX11_10 rfl rfl dX11_first_74 ?_
          refine z_geta (k := 13) (q := 18) C z_CF1 (by decide) flX11_32 rfl rfl dX11_first_77 ?_
          refine z_geti (k := 6) C z_CF0 (by decide) flX11_189 rfl rfl dX11_first_80 ?_
          refine z_iload C dX11_first_83 rfl ?_
          refine z_iadd C dX11_first_85 ?_
          refine z_istore (lo' := [some (.ref (z_a X 0)), some (.int v1), some (.int v2), some (.int r3), some (.int ((σ4 18 6) + v6)), some (.int v5), some (.int v6), some (.int r1)]) C dX11_first_86 (Nat.le_of_ble_eq_true rfl) rfl ?_
          exact t11_first_J88 C ih v1 v2 r3 ((σ4 18 6) + v6) v5 v6 r1 σ4 h
set_option maxHeartbeats 4000000 in
set_option maxRecDepth 100000 in
theorem t11_first {a : Nat → Nat} (p1 : Int32) (p2 : Int32) {σ : z_M} {u : Int32 × z_M} (h : f11_first p1 p2 σ = some u) : z_Mt yX11_first (z_w yX11_first cX11_first 8 (some .int)) 8 S1 a σ [.ref (a 0), .int p1, .int p2] (z_oi u) := by
  refine z_head (lo := [some (.ref (a 0)), some (.int p1), some (.int p2), none, none, none, none, none]) (by decide) (Nat.le_of_ble_eq_true rfl) ?_ rfl ?_
  · intro i v hv
    exact z_loe (vs := [.ref (a 0), .int p1, .int p2]) (n := 5) rfl (by simp [z_c1i, z_c1r]) i v hv
  · intro X hXa C
    subst hXa
    unfold f11_first at h
    refine z_iload_n C dX11_first_0 rfl rfl ?_
    refine z_iconst (v := 1) C dX11_first_1 (by decide) ?_
    refine z_icmp_lt (tgt := 20) C dX11_first_2 (by decide) (fun hc => ?_) (fun hc => ?_)
    · replace h := z_pos hc h
      refine z_iconst (v := (-1)) C dX11_first_20 (by decide) ?_
      exact z_iret C h dX11_first_21
    · replace h := z_neg hc h
      refine z_iload_n C dX11_first_5 rfl rfl ?_
      refine z_bipush (v := 60) C dX11_first_6 (by decide) ?_
      refine z_icmp_gt (tgt := 20) C dX11_first_8 (by decide) (fun hc => ?_) (fun hc => ?_)
      · replace h := z_pos hc h
        refine z_iconst (v := (-1)) C dX11_first_20 (by decide) ?_
        exact z_iret C h dX11_first_21
      · replace h := z_neg hc h
        refine z_iload_n C dX11_first_11 rfl rfl ?_
        refine z_if_lt (tgt := 20) C dX11_first_12 (by decide) (fun hc => ?_) (fun hc => ?_)
        · replace h := z_pos hc h
          refine z_iconst (v := (-1)) C dX11_first_20 (by decide) ?_
          exact z_iret C h dX11_first_21
        · replace h := z_neg hc h
          refine z_iload_n C dX11_first_15 rfl rfl ?_
          refine z_iconst (v := 2) C dX11_first_16 (by decide) ?_
          refine z_icmp_le (tgt := 22) C dX11_first_17 (by decide) (fun hc => ?_) (fun hc => ?_)
          · replace h := z_neg hc h
            refine z_aload_n C dX11_first_22 rfl rfl ?_
            refine z_geta (k := 4) (q := 51) C z_CF11 (by decide) flX11_46 rfl rfl dX11_first_23 ?_
            obtain ⟨⟨⟩, σ2, mσ2, h⟩ := z_bnd2 h
            refine z_cvv (As := []) (c := 51) (st := []) C (t7_fallAsleep 51 rfl mσ2) kvX7_fallAsleep rfl mlX11_251 z_CF7 rfl rfl (by decide) rfl (Nat.le_of_ble_eq_true rfl) dX11_first_26 ?_
            refine z_iconst (v := (-1)) C dX11_first_29 (by decide) ?_
            refine z_istore_n (lo' := [some (.ref (z_a X 0)), some (.int p1), some (.int p2), some (.int (-1)), none, none, none, none]) C dX11_first_30 rfl (Nat.le_of_ble_eq_true rfl) rfl ?_
            refine z_iconst (v := (-1)) C dX11_first_31 (by decide) ?_
            refine z_istore (lo' := [some (.ref (z_a X 0)), some (.int p1), some (.int p2), some (.int (-1)), some (.int (-1)), none, none, none]) C dX11_first_32 (Nat.le_of_ble_eq_true rfl) rfl ?_
            refine z_iconst (v := 0) C dX11_first_34 (by decide) ?_
            refine z_istore (lo' := [some (.ref (z_a X 0)), some (.int p1), some (.int p2), some (.int (-1)), some (.int (-1)), some (.int 0), none, none]) C dX11_first_35 (Nat.le_of_ble_eq_true rfl) rfl ?_
            refine z_iconst (v := 0) C dX11_first_37 (by decide) ?_
            refine z_istore (lo' := [some (.ref (z_a X 0)), some (.int p1), some (.int p2), some (.int (-1)), some (.int (-1)), some (.int 0), some (.int 0), none]) C dX11_first_38 (Nat.le_of_ble_eq_true rfl) rfl ?_
            exact t11_first_L40 C _ p1 p2 (-1) (-1) 0 0 σ2 h
          · replace h := z_pos hc h
            refine z_iconst (v := (-1)) C dX11_first_20 (by decide) ?_
            exact z_iret C h dX11_first_21
set_option maxHeartbeats 4000000 in
set_option maxRecDepth 100000 in
theorem t2_drop {a : Nat → Nat} (p1 : Int32) (p2 : Int32) {σ : z_M} {u : Unit × z_M} (h : f2_drop p1 p2 σ = some u) : z_Mt yX2_drop (z_w yX2_drop cX2_drop 3 none) 1 S1 a σ [.ref (a 106), .int p1, .int p2] (z_ov u) := by
  refine z_head (lo := [some (.ref (a 106)), some (.int p1), some (.int p2)]) (by decide) (Nat.le_of_ble_eq_true rfl) ?_ rfl ?_
  · intro i v hv
    exact z_loe (vs := [.ref (a 106), .int p1, .int p2]) (n := 0) rfl (by simp [z_c1i, z_c1r]) i v hv
  · intro X hXa C
    subst hXa
    unfold f2_drop at h
    refine z_aload_n C dX2_drop_0 rfl rfl ?_
    refine z_geta (k := 1) (q := 107) C z_CF2 (by decide) flX2_9 rfl rfl dX2_drop_1 ?_
    refine z_iload_n C dX2_drop_4 rfl rfl ?_
    refine z_dup2 C dX2_drop_5 rfl rfl ?_
    obtain ⟨b1, h⟩ := z_chk_some h
    refine z_iald C rfl rfl b1 dX2_drop_6 ?_
    refine z_iconst (v := 1) C dX2_drop_7 (by decide) ?_
    refine z_iload_n C dX2_drop_8 rfl rfl ?_
    refine z_ishl C dX2_drop_9 ?_
    refine z_iconst (v := (-1)) C dX2_drop_10 (by decide) ?_
    refine z_ixor C dX2_drop_11 ?_
    refine z_iand C dX2_drop_12 ?_
    obtain ⟨b2, h⟩ := z_chk_some h
    obtain ⟨σ3, eσ3, h⟩ := z_let_some h
    refine z_iast C rfl rfl b2 eσ3 dX2_drop_13 ?_
    refine z_aload_n C dX2_drop_14 rfl rfl ?_
    refine z_geta (k := 3) (q := 109) C z_CF2 (by decide) flX2_18 rfl rfl dX2_drop_15 ?_
    refine z_iload_n C dX2_drop_18 rfl rfl ?_
    refine z_dup2 C dX2_drop_19 rfl rfl ?_
    obtain ⟨b4, h⟩ := z_chk_some h
    refine z_iald C rfl rfl b4 dX2_drop_20 ?_
    refine z_iconst (v := 1) C dX2_drop_21 (by decide) ?_
    refine z_iadd C dX2_drop_22 ?_
    obtain ⟨b5, h⟩ := z_chk_some h
    obtain ⟨σ6, eσ6, h⟩ := z_let_some h
    refine z_iast C rfl rfl b5 eσ6 dX2_drop_23 ?_
    exact z_vret C h dX2_drop_24
set_option maxHeartbeats 4000000 in
set_option maxRecDepth 100000 in
theorem t2_hand {a : Nat → Nat} (p1 : Int32) (p2 : Int32) {σ : z_M} {u : Unit × z_M} (h : f2_hand p1 p2 σ = some u) : z_Mt yX2_hand (z_w yX2_hand cX2_hand 3 none) 1 S1 a σ [.ref (a 106), .int p1, .int p2] (z_ov u) := by
  refine z_head (lo := [some (.ref (a 106)), some (.int p1), some (.int p2)]) (by decide) (Nat.le_of_ble_eq_true rfl) ?_ rfl ?_
  · intro i v hv
    exact z_loe (vs := [.ref (a 106), .int p1, .int p2]) (n := 0) rfl (by simp [z_c1i, z_c1r]) i v hv
  · intro X hXa C
    subst hXa
    unfold f2_hand at h
    refine z_aload_n C dX2_hand_0 rfl rfl ?_
    refine z_geta (k := 1) (q := 107) C z_CF2 (by decide) flX2_9 rfl rfl dX2_hand_1 ?_
    refine z_iload_n C dX2_hand_4 rfl rfl ?_
    refine z_dup2 C dX2_hand_5 rfl rfl ?_
    obtain ⟨b1, h⟩ := z_chk_some h
    refine z_iald C rfl rfl b1 dX2_hand_6 ?_
    refine z_iconst (v := 1) C dX2_hand_7 (by decide) ?_
    refine z_iload_n C dX2_hand_8 rfl rfl ?_
    refine z_ishl C dX2_hand_9 ?_
    refine z_ior C dX2_hand_10 ?_
    obtain ⟨b2, h⟩ := z_chk_some h
    obtain ⟨σ3, eσ3, h⟩ := z_let_some h
    refine z_iast C rfl rfl b2 eσ3 dX2_hand_11 ?_
    refine z_aload_n C dX2_hand_12 rfl rfl ?_
    refine z_geta (k := 3) (q := 109) C z_CF2 (by decide) flX2_18 rfl rfl dX2_hand_13 ?_
    refine z_iload_n C dX2_hand_16 rfl rfl ?_
    refine z_dup2 C dX2_hand_17 rfl rfl ?_
    obtain ⟨b4, h⟩ := z_chk_some h
    refine z_iald C rfl rfl b4 dX2_hand_18 ?_
    refine z_iconst (v := 1) C dX2_hand_19 (by decide) ?_
    refine z_isub C dX2_hand_20 ?_
    obtain ⟨b5, h⟩ := z_chk_some h
    obtain ⟨σ6, eσ6, h⟩ := z_let_some h
    refine z_iast C rfl rfl b5 eσ6 dX2_hand_21 ?_
    exact z_vret C h dX2_hand_22
set_option maxHeartbeats 4000000 in
set_option maxRecDepth 100000 in
theorem t2_freesB_J32 {ff : Int32 → Int32 → z_M → Option (Int32 × z_M)} {dd : Nat} (hdd : 5 ≤ dd) (hff : ∀ {a : Nat → Nat} (p1 p2 : Int32) {σ : z_M} {u : Int32 × z_M}, ff p1 p2 σ = some u → z_Mt yX2_place (z_w yX2_place cX2_place 5 (some .boolean)) dd S1 a σ [.ref (a 106), .int p1, .int p2] (z_oi u)) {X : z_Ct} (C : z_Cx S1 X RX2 cX2_frees 4 (dd + 1) (some .boolean)) {u : Int32 × z_M} (v1 : Int32) (v3 : Int32) (σ : z_M) (h : f2_freesB_J32 ff v1 v3 σ = some u) : z_W S1 X 32 [some (.ref (z_a X 106)), some (.int v1), none, some (.int v3)] [] σ (z_oi u) := by
  unfold f2_freesB_J32 at h
  refine z_aload_n C dX2_frees_32 rfl rfl ?_
  refine z_iload_n C dX2_frees_33 rfl rfl ?_
  refine z_iload_n C dX2_frees_34 rfl rfl ?_
  obtain ⟨⟨⟩, σ2, mσ2, h⟩ := z_bnd2 h
  refine z_cvv (As := [.int v3, .int v1]) (c := 106) (st := []) C (t2_drop v3 v1 mσ2) kvX2_drop rfl mlX2_79 z_CF2 rfl rfl (by omega) rfl (Nat.le_of_ble_eq_true rfl) dX2_frees_35 ?_
  refine z_iconst (v := 1) C dX2_frees_38 (by decide) ?_
  exact z_zret C (by decide) h dX2_frees_39
set_option maxHeartbeats 4000000 in
set_option maxRecDepth 100000 in
theorem t2_freesB_L2 {ff : Int32 → Int32 → z_M → Option (Int32 × z_M)} {dd : Nat} (hdd : 5 ≤ dd) (hff : ∀ {a : Nat → Nat} (p1 p2 : Int32) {σ : z_M} {u : Int32 × z_M}, ff p1 p2 σ = some u → z_Mt yX2_place (z_w yX2_place cX2_place 5 (some .boolean)) dd S1 a σ [.ref (a 106), .int p1, .int p2] (z_oi u)) {X : z_Ct} (C : z_Cx S1 X RX2 cX2_frees 4 (dd + 1) (some .boolean)) {u : Int32 × z_M} : ∀ (n : Nat) (v1 : Int32) (v2 : Int32) (v3 : Int32) (σ : z_M), f2_freesB_L2 ff n v1 v2 v3 σ = some u → z_W S1 X 2 [some (.ref (z_a X 106)), some (.int v1), some (.int v2), some (.int v3)] [] σ (z_oi u) := by
  intro n
  induction n with
  | zero => intro v1 v2 v3 σ h; rw [f2_freesB_L2] at h; cases h
  | succ n ih =>
    intro v1 v2 v3 σ h
    rw [f2_freesB_L2] at h
    refine z_iload_n C dX2_frees_2 rfl rfl ?_
    refine z_bipush (v := 8) C dX2_frees_3 (by decide) ?_
    refine z_icmp_ge (tgt := 46) C dX2_frees_5 (by decide) (fun hc => ?_) (fun hc => ?_)
    · replace h := z_neg hc h
      refine z_iconst (v := 0) C dX2_frees_46 (by decide) ?_
      exact z_zret C (by decide) h dX2_frees_47
    · replace h := z_pos hc h
      refine z_aload_n C dX2_frees_8 rfl rfl ?_
      refine z_geta (k := 1) (q := 107) C z_CF2 (by decide) flX2_9 rfl rfl dX2_frees_9 ?_
      refine z_iload_n C dX2_frees_12 rfl rfl ?_
      obtain ⟨b1, h⟩ := z_chk_some h
      refine z_iald C rfl rfl b1 dX2_frees_13 ?_
      refine z_iload_n C dX2_frees_14 rfl rfl ?_
      refine z_ishr C dX2_frees_15 ?_
      refine z_iconst (v := 1) C dX2_frees_16 (by decide) ?_
      refine z_iand C dX2_frees_17 ?_
      refine z_if_eq (tgt := 40) C dX2_frees_18 (by decide) (fun hc => ?_) (fun hc => ?_)
      · replace h := z_pos hc h
        refine z_iinc (v := v3 + 1) (lo' := [some (.ref (z_a X 106)), some (.int v1), some (.int v2), some (.int (v3 + 1))]) C dX2_frees_40 rfl rfl rfl ?_
        refine z_goto (tgt := 2) C dX2_frees_43 (by decide) ?_
        exact ih v1 v2 (v3 + 1) σ h
      · replace h := z_neg hc h
        refine z_aload_n C dX2_frees_21 rfl rfl ?_
        refine z_iload_n C dX2_frees_22 rfl rfl ?_
        refine z_iload_n C dX2_frees_23 rfl rfl ?_
        refine z_iconst (v := 1) C dX2_frees_24 (by decide) ?_
        refine z_iadd C dX2_frees_25 ?_
        obtain ⟨r2, σ3, mσ3, h⟩ := z_bnd2 h
        refine z_cvi (As := [.int v3, .int (v2 + 1)]) (c := 106) (st := []) C (hff v3 (v2 + 1) mσ3) kvX2_place rfl mlX2_71 z_CF2 rfl rfl (by omega) rfl (Nat.le_of_ble_eq_true rfl) dX2_frees_26 ?_
        refine z_if_eq (tgt := 40) C dX2_frees_29 (by decide) (fun hc => ?_) (fun hc => ?_)
        · replace h := z_pos hc h
          refine z_iinc (v := v3 + 1) (lo' := [some (.ref (z_a X 106)), some (.int v1), some (.int v2), some (.int (v3 + 1))]) C dX2_frees_40 rfl rfl rfl ?_
          refine z_goto (tgt := 2) C dX2_frees_43 (by decide) ?_
          exact ih v1 v2 (v3 + 1) σ3 h
        · replace h := z_neg hc h
          refine z_kill (lo' := [some (.ref (z_a X 106)), some (.int v1), none, some (.int v3)]) [2] rfl ?_
          exact t2_freesB_J32 hdd hff C v1 v3 σ3 h
set_option maxHeartbeats 4000000 in
set_option maxRecDepth 100000 in
theorem t2_freesB {ff : Int32 → Int32 → z_M → Option (Int32 × z_M)} {dd : Nat} (hdd : 5 ≤ dd) (hff : ∀ {a : Nat → Nat} (p1 p2 : Int32) {σ : z_M} {u : Int32 × z_M}, ff p1 p2 σ = some u → z_Mt yX2_place (z_w yX2_place cX2_place 5 (some .boolean)) dd S1 a σ [.ref (a 106), .int p1, .int p2] (z_oi u)) {a : Nat → Nat} (p1 : Int32) (p2 : Int32) {σ : z_M} {u : Int32 × z_M} (h : f2_freesB ff p1 p2 σ = some u) : z_Mt yX2_frees (z_w yX2_frees cX2_frees 4 (some .boolean)) (dd + 1) S1 a σ [.ref (a 106), .int p1, .int p2] (z_oi u) := by
  refine z_head (lo := [some (.ref (a 106)), some (.int p1), some (.int p2), none]) (by decide) (Nat.le_of_ble_eq_true rfl) ?_ rfl ?_
  · intro i v hv
    exact z_loe (vs := [.ref (a 106), .int p1, .int p2]) (n := 1) rfl (by simp [z_c1i, z_c1r]) i v hv
  · intro X hXa C
    subst hXa
    unfold f2_freesB at h
    refine z_iconst (v := 0) C dX2_frees_0 (by decide) ?_
    refine z_istore_n (lo' := [some (.ref (z_a X 106)), some (.int p1), some (.int p2), some (.int 0)]) C dX2_frees_1 rfl (Nat.le_of_ble_eq_true rfl) rfl ?_
    exact t2_freesB_L2 hdd hff C _ p1 p2 0 σ h
set_option maxHeartbeats 4000000 in
set_option maxRecDepth 100000 in
theorem t2_placeB_J78 {ff : Int32 → Int32 → z_M → Option (Int32 × z_M)} {dd : Nat} (hdd : 5 ≤ dd) (hff : ∀ {a : Nat → Nat} (p1 p2 : Int32) {σ : z_M} {u : Int32 × z_M}, ff p1 p2 σ = some u → z_Mt yX2_frees (z_w yX2_frees cX2_frees 4 (some .boolean)) dd S1 a σ [.ref (a 106), .int p1, .int p2] (z_oi u)) {X : z_Ct} (C : z_Cx S1 X RX2 cX2_place 5 (dd + 1) (some .boolean)) {u : Int32 × z_M} (v1 : Int32) (v3 : Int32) (σ : z_M) (h : f2_placeB_J78 ff v1 v3 σ = some u) : z_W S1 X 78 [some (.ref (z_a X 106)), some (.int v1), none, some (.int v3), none] [] σ (z_oi u) := by
  unfold f2_placeB_J78 at h
  refine z_aload_n C dX2_place_78 rfl rfl ?_
  refine z_iload_n C dX2_place_79 rfl rfl ?_
  refine z_iload_n C dX2_place_80 rfl rfl ?_
  obtain ⟨⟨⟩, σ2, mσ2, h⟩ := z_bnd2 h
  refine z_cvv (As := [.int v1, .int v3]) (c := 106) (st := []) C (t2_hand v1 v3 mσ2) kvX2_hand rfl mlX2_83 z_CF2 rfl rfl (by omega) rfl (Nat.le_of_ble_eq_true rfl) dX2_place_81 ?_
  refine z_iconst (v := 1) C dX2_place_84 (by decide) ?_
  exact z_zret C (by decide) h dX2_place_85
set_option maxHeartbeats 4000000 in
set_option maxRecDepth 100000 in
theorem t2_placeB_L10 {ff : Int32 → Int32 → z_M → Option (Int32 × z_M)} {dd : Nat} (hdd : 5 ≤ dd) (hff : ∀ {a : Nat → Nat} (p1 p2 : Int32) {σ : z_M} {u : Int32 × z_M}, ff p1 p2 σ = some u → z_Mt yX2_frees (z_w yX2_frees cX2_frees 4 (some .boolean)) dd S1 a σ [.ref (a 106), .int p1, .int p2] (z_oi u)) {X : z_Ct} (C : z_Cx S1 X RX2 cX2_place 5 (dd + 1) (some .boolean)) {u : Int32 × z_M} : ∀ (n : Nat) (v1 : Int32) (v2 : Int32) (v3 : Int32) (σ : z_M), f2_placeB_L10 ff n v1 v2 v3 σ = some u → z_W S1 X 10 [some (.ref (z_a X 106)), some (.int v1), some (.int v2), some (.int v3), none] [] σ (z_oi u) := by
  intro n
  induction n with
  | zero => intro v1 v2 v3 σ h; rw [f2_placeB_L10] at h; cases h
  | succ n ih =>
    intro v1 v2 v3 σ h
    rw [f2_placeB_L10] at h
    refine z_iload_n C dX2_place_10 rfl rfl ?_
    refine z_bipush (v := 8) C dX2_place_11 (by decide) ?_
    refine z_icmp_ge (tgt := 92) C dX2_place_13 (by decide) (fun hc => ?_) (fun hc => ?_)
    · replace h := z_neg hc h
      refine z_iconst (v := 0) C dX2_place_92 (by decide) ?_
      exact z_zret C (by decide) h dX2_place_93
    · replace h := z_pos hc h
      refine z_iconst (v := 1) C dX2_place_16 (by decide) ?_
      refine z_iload_n C dX2_place_17 rfl rfl ?_
      refine z_ishl C dX2_place_18 ?_
      refine z_istore (lo' := [some (.ref (z_a X 106)), some (.int v1), some (.int v2), some (.int v3), some (.int (z_shl 1 v3))]) C dX2_place_19 (Nat.le_of_ble_eq_true rfl) rfl ?_
      refine z_aload_n C dX2_place_21 rfl rfl ?_
      refine z_geta (k := 2) (q := 108) C z_CF2 (by decide) flX2_15 rfl rfl dX2_place_22 ?_
      refine z_iload_n C dX2_place_25 rfl rfl ?_
      obtain ⟨b1, h⟩ := z_chk_some h
      refine z_iald C rfl rfl b1 dX2_place_26 ?_
      refine z_aload_n C dX2_place_27 rfl rfl ?_
      refine z_geta (k := 1) (q := 107) C z_CF2 (by decide) flX2_9 rfl rfl dX2_place_28 ?_
      refine z_iload_n C dX2_place_31 rfl rfl ?_
      obtain ⟨b2, h⟩ := z_chk_some h
      refine z_iald C rfl rfl b2 dX2_place_32 ?_
      refine z_iconst (v := (-1)) C dX2_place_33 (by decide) ?_
      refine z_ixor C dX2_place_34 ?_
      refine z_iand C dX2_place_35 ?_
      refine z_aload_n C dX2_place_36 rfl rfl ?_
      refine z_geti (k := 4) C z_CF2 (by decide) flX2_68 rfl rfl dX2_place_37 ?_
      refine z_iconst (v := (-1)) C dX2_place_40 (by decide) ?_
      refine z_ixor C dX2_place_41 ?_
      refine z_iand C dX2_place_42 ?_
      refine z_iload C dX2_place_43 rfl ?_
      refine z_iand C dX2_place_45 ?_
      refine z_if_eq (tgt := 86) C dX2_place_46 (by decide) (fun hc => ?_) (fun hc => ?_)
      · replace h := z_pos hc h
        refine z_iinc (v := v3 + 1) (lo' := [some (.ref (z_a X 106)), some (.int v1), some (.int v2), some (.int (v3 + 1)), some (.int (z_shl 1 v3))]) C dX2_place_86 rfl rfl rfl ?_
        refine z_goto (tgt := 10) C dX2_place_89 (by decide) ?_
        refine z_kill (lo' := [some (.ref (z_a X 106)), some (.int v1), some (.int v2), some (.int (v3 + 1)), none]) [4] rfl ?_
        exact ih v1 v2 (v3 + 1) σ h
      · replace h := z_neg hc h
        refine z_aload_n C dX2_place_49 rfl rfl ?_
        refine z_dup C dX2_place_50 rfl ?_
        refine z_geti (k := 4) C z_CF2 (by decide) flX2_68 rfl rfl dX2_place_51 ?_
        refine z_iload C dX2_place_54 rfl ?_
        refine z_ior C dX2_place_56 ?_
        obtain ⟨σ3, eσ3, h⟩ := z_let_some h
        refine z_puti (k := 4) C z_CF2 (by decide) flX2_68 rfl rfl rfl rfl eσ3 dX2_place_57 ?_
        refine z_aload_n C dX2_place_60 rfl rfl ?_
        refine z_geta (k := 3) (q := 109) C z_CF2 (by decide) flX2_18 rfl rfl dX2_place_61 ?_
        refine z_iload_n C dX2_place_64 rfl rfl ?_
        obtain ⟨b4, h⟩ := z_chk_some h
        refine z_iald C rfl rfl b4 dX2_place_65 ?_
        refine z_if_gt (tgt := 78) C dX2_place_66 (by decide) (fun hc => ?_) (fun hc => ?_)
        · replace h := z_pos hc h
          refine z_kill (lo' := [some (.ref (z_a X 106)), some (.int v1), none, some (.int v3), none]) [2, 4] rfl ?_
          exact t2_placeB_J78 hdd hff C v1 v3 σ3 h
        · replace h := z_neg hc h
          refine z_aload_n C dX2_place_69 rfl rfl ?_
          refine z_iload_n C dX2_place_70 rfl rfl ?_
          refine z_iload_n C dX2_place_71 rfl rfl ?_
          obtain ⟨r5, σ6, mσ6, h⟩ := z_bnd2 h
          refine z_cvi (As := [.int v3, .int v2]) (c := 106) (st := []) C (hff v3 v2 mσ6) kvX2_frees rfl mlX2_86 z_CF2 rfl rfl (by omega) rfl (Nat.le_of_ble_eq_true rfl) dX2_place_72 ?_
          refine z_if_eq (tgt := 86) C dX2_place_75 (by decide) (fun hc => ?_) (fun hc => ?_)
          · replace h := z_pos hc h
            refine z_iinc (v := v3 + 1) (lo' := [some (.ref (z_a X 106)), some (.int v1), some (.int v2), some (.int (v3 + 1)), some (.int (z_shl 1 v3))]) C dX2_place_86 rfl rfl rfl ?_
            refine z_goto (tgt := 10) C dX2_place_89 (by decide) ?_
            refine z_kill (lo' := [some (.ref (z_a X 106)), some (.int v1), some (.int v2), some (.int (v3 + 1)), none]) [4] rfl ?_
            exact ih v1 v2 (v3 + 1) σ6 h
          · replace h := z_neg hc h
            refine z_kill (lo' := [some (.ref (z_a X 106)), some (.int v1), none, some (.int v3), none]) [2, 4] rfl ?_
            exact t2_placeB_J78 hdd hff C v1 v3 σ6 h
set_option maxHeartbeats 4000000 in
set_option maxRecDepth 100000 in
theorem t2_placeB {ff : Int32 → Int32 → z_M → Option (Int32 × z_M)} {dd : Nat} (hdd : 5 ≤ dd) (hff : ∀ {a : Nat → Nat} (p1 p2 : Int32) {σ : z_M} {u : Int32 × z_M}, ff p1 p2 σ = some u → z_Mt yX2_frees (z_w yX2_frees cX2_frees 4 (some .boolean)) dd S1 a σ [.ref (a 106), .int p1, .int p2] (z_oi u)) {a : Nat → Nat} (p1 : Int32) (p2 : Int32) {σ : z_M} {u : Int32 × z_M} (h : f2_placeB ff p1 p2 σ = some u) : z_Mt yX2_place (z_w yX2_place cX2_place 5 (some .boolean)) (dd + 1) S1 a σ [.ref (a 106), .int p1, .int p2] (z_oi u) := by
  refine z_head (lo := [some (.ref (a 106)), some (.int p1), some (.int p2), none, none]) (by decide) (Nat.le_of_ble_eq_true rfl) ?_ rfl ?_
  · intro i v hv
    exact z_loe (vs := [.ref (a 106), .int p1, .int p2]) (n := 2) rfl (by simp [z_c1i, z_c1r]) i v hv
  · intro X hXa C
    subst hXa
    unfold f2_placeB at h
    refine z_iload_n C dX2_place_0 rfl rfl ?_
    refine z_bipush (v := 8) C dX2_place_1 (by decide) ?_
    refine z_icmp_le (tgt := 8) C dX2_place_3 (by decide) (fun hc => ?_) (fun hc => ?_)
    · replace h := z_neg hc h
      refine z_iconst (v := 0) C dX2_place_8 (by decide) ?_
      refine z_istore_n (lo' := [some (.ref (z_a X 106)), some (.int p1), some (.int p2), some (.int 0), none]) C dX2_place_9 rfl (Nat.le_of_ble_eq_true rfl) rfl ?_
      exact t2_placeB_L10 hdd hff C _ p1 p2 0 σ h
    · replace h := z_pos hc h
      refine z_iconst (v := 0) C dX2_place_6 (by decide) ?_
      exact z_zret C (by decide) h dX2_place_7
theorem t2_pf : ∀ n : Nat, (∀ {a : Nat → Nat} (p1 p2 : Int32) {σ : z_M} {u : Int32 × z_M}, (f2_pf n).1 p1 p2 σ = some u → z_Mt yX2_place (z_w yX2_place cX2_place 5 (some .boolean)) (n + 6) S1 a σ [.ref (a 106), .int p1, .int p2] (z_oi u)) ∧ (∀ {a : Nat → Nat} (p1 p2 : Int32) {σ : z_M} {u : Int32 × z_M}, (f2_pf n).2 p1 p2 σ = some u → z_Mt yX2_frees (z_w yX2_frees cX2_frees 4 (some .boolean)) (n + 6) S1 a σ [.ref (a 106), .int p1, .int p2] (z_oi u)) := by
  intro n
  induction n with
  | zero => exact ⟨(by intro a p1 p2 σ u h; rw [f2_pf] at h; cases h), (by intro a p1 p2 σ u h; rw [f2_pf] at h; cases h)⟩
  | succ n ih => exact ⟨by intro a p1 p2 σ u h; exact t2_placeB (dd := n + 6) (by omega) ih.2 p1 p2 h, by intro a p1 p2 σ u h; exact t2_freesB (dd := n + 6) (by omega) ih.1 p1 p2 h⟩
theorem t2_place {a : Nat → Nat} (p1 p2 : Int32) {σ : z_M} {u : Int32 × z_M} (h : f2_place p1 p2 σ = some u) : z_Mt yX2_place (z_w yX2_place cX2_place 5 (some .boolean)) 26 S1 a σ [.ref (a 106), .int p1, .int p2] (z_oi u) := (t2_pf 20).1 p1 p2 h
set_option maxHeartbeats 4000000 in
set_option maxRecDepth 100000 in
theorem t2_lessen_L3 {X : z_Ct} (C : z_Cx S1 X RX2 cX2_lessen 4 27 none) {u : Unit × z_M} : ∀ (n : Nat) (v1 : Int32) (v2 : Int32) (σ : z_M), f2_lessen_L3 n v1 v2 σ = some u → z_W S1 X 3 [some (.ref (z_a X 106)), some (.int v1), some (.int v2), none] [] σ (z_ov u) := by
  intro n
  induction n with
  | zero => intro v1 v2 σ h; rw [f2_lessen_L3] at h; cases h
  | succ n ih =>
    intro v1 v2 σ h
    rw [f2_lessen_L3] at h
    refine z_iload_n C dX2_lessen_3 rfl rfl ?_
    refine z_if_lt (tgt := 66) C dX2_lessen_4 (by decide) (fun hc => ?_) (fun hc => ?_)
    · replace h := z_pos hc h
      exact z_vret C h dX2_lessen_66
    · replace h := z_neg hc h
      refine z_iconst (v := 1) C dX2_lessen_7 (by decide) ?_
      refine z_iload_n C dX2_lessen_8 rfl rfl ?_
      refine z_ishl C dX2_lessen_9 ?_
      refine z_istore_n (lo' := [some (.ref (z_a X 106)), some (.int v1), some (.int v2), some (.int (z_shl 1 v2))]) C dX2_lessen_10 rfl (Nat.le_of_ble_eq_true rfl) rfl ?_
      refine z_aload_n C dX2_lessen_11 rfl rfl ?_
      refine z_geta (k := 2) (q := 108) C z_CF2 (by decide) flX2_15 rfl rfl dX2_lessen_12 ?_
      refine z_iload_n C dX2_lessen_15 rfl rfl ?_
      refine z_dup2 C dX2_lessen_16 rfl rfl ?_
      obtain ⟨b1, h⟩ := z_chk_some h
      refine z_iald C rfl rfl b1 dX2_lessen_17 ?_
      refine z_iload_n C dX2_lessen_18 rfl rfl ?_
      refine z_iconst (v := (-1)) C dX2_lessen_19 (by decide) ?_
      refine z_ixor C dX2_lessen_20 ?_
      refine z_iand C dX2_lessen_21 ?_
      obtain ⟨b2, h⟩ := z_chk_some h
      obtain ⟨σ3, eσ3, h⟩ := z_let_some h
      refine z_iast C rfl rfl b2 eσ3 dX2_lessen_22 ?_
      refine z_aload_n C dX2_lessen_23 rfl rfl ?_
      refine z_geta (k := 1) (q := 107) C z_CF2 (by decide) flX2_9 rfl rfl dX2_lessen_24 ?_
      refine z_iload_n C dX2_lessen_27 rfl rfl ?_
      obtain ⟨b4, h⟩ := z_chk_some h
      refine z_iald C rfl rfl b4 dX2_lessen_28 ?_
      refine z_iload_n C dX2_lessen_29 rfl rfl ?_
      refine z_iand C dX2_lessen_30 ?_
      refine z_if_eq (tgt := 60) C dX2_lessen_31 (by decide) (fun hc => ?_) (fun hc => ?_)
      · replace h := z_pos hc h
        refine z_iinc (v := v2 + (-1)) (lo' := [some (.ref (z_a X 106)), some (.int v1), some (.int (v2 + (-1))), some (.int (z_shl 1 v2))]) C dX2_lessen_60 rfl rfl rfl ?_
        refine z_goto (tgt := 3) C dX2_lessen_63 (by decide) ?_
        refine z_kill (lo' := [some (.ref (z_a X 106)), some (.int v1), some (.int (v2 + (-1))), none]) [3] rfl ?_
        exact ih v1 (v2 + (-1)) σ3 h
      · replace h := z_neg hc h
        refine z_aload_n C dX2_lessen_34 rfl rfl ?_
        refine z_iload_n C dX2_lessen_35 rfl rfl ?_
        refine z_iload_n C dX2_lessen_36 rfl rfl ?_
        obtain ⟨⟨⟩, σ6, mσ6, h⟩ := z_bnd2 h
        refine z_cvv (As := [.int v1, .int v2]) (c := 106) (st := []) C (t2_drop v1 v2 mσ6) kvX2_drop rfl mlX2_79 z_CF2 rfl rfl (by decide) rfl (Nat.le_of_ble_eq_true rfl) dX2_lessen_37 ?_
        refine z_aload_n C dX2_lessen_40 rfl rfl ?_
        refine z_iconst (v := 0) C dX2_lessen_41 (by decide) ?_
        obtain ⟨σ7, eσ7, h⟩ := z_let_some h
        refine z_puti (k := 4) C z_CF2 (by decide) flX2_68 rfl rfl rfl rfl eσ7 dX2_lessen_42 ?_
        refine z_aload_n C dX2_lessen_45 rfl rfl ?_
        refine z_iload_n C dX2_lessen_46 rfl rfl ?_
        refine z_iconst (v := 0) C dX2_lessen_47 (by decide) ?_
        obtain ⟨r8, σ9, mσ9, h⟩ := z_bnd2 h
        refine z_cvi (As := [.int v1, .int 0]) (c := 106) (st := []) C (t2_place v1 0 mσ9) kvX2_place rfl mlX2_71 z_CF2 rfl rfl (by decide) rfl (Nat.le_of_ble_eq_true rfl) dX2_lessen_48 ?_
        refine z_if_ne (tgt := 60) C dX2_lessen_51 (by decide) (fun hc => ?_) (fun hc => ?_)
        · replace h := z_neg hc h
          refine z_iinc (v := v2 + (-1)) (lo' := [some (.ref (z_a X 106)), some (.int v1), some (.int (v2 + (-1))), some (.int (z_shl 1 v2))]) C dX2_lessen_60 rfl rfl rfl ?_
          refine z_goto (tgt := 3) C dX2_lessen_63 (by decide) ?_
          refine z_kill (lo' := [some (.ref (z_a X 106)), some (.int v1), some (.int (v2 + (-1))), none]) [3] rfl ?_
          exact ih v1 (v2 + (-1)) σ9 h
        · replace h := z_pos hc h
          refine z_aload_n C dX2_lessen_54 rfl rfl ?_
          refine z_iload_n C dX2_lessen_55 rfl rfl ?_
          refine z_iload_n C dX2_lessen_56 rfl rfl ?_
          obtain ⟨⟨⟩, σ11, mσ11, h⟩ := z_bnd2 h
          refine z_cvv (As := [.int v1, .int v2]) (c := 106) (st := []) C (t2_hand v1 v2 mσ11) kvX2_hand rfl mlX2_83 z_CF2 rfl rfl (by decide) rfl (Nat.le_of_ble_eq_true rfl) dX2_lessen_57 ?_
          refine z_iinc (v := v2 + (-1)) (lo' := [some (.ref (z_a X 106)), some (.int v1), some (.int (v2 + (-1))), some (.int (z_shl 1 v2))]) C dX2_lessen_60 rfl rfl rfl ?_
          refine z_goto (tgt := 3) C dX2_lessen_63 (by decide) ?_
          refine z_kill (lo' := [some (.ref (z_a X 106)), some (.int v1), some (.int (v2 + (-1))), none]) [3] rfl ?_
          exact ih v1 (v2 + (-1)) σ11 h
set_option maxHeartbeats 4000000 in
set_option maxRecDepth 100000 in
theorem t2_lessen {a : Nat → Nat} (p1 : Int32) {σ : z_M} {u : Unit × z_M} (h : f2_lessen p1 σ = some u) : z_Mt yX2_lessen (z_w yX2_lessen cX2_lessen 4 none) 27 S1 a σ [.ref (a 106), .int p1] (z_ov u) := by
  refine z_head (lo := [some (.ref (a 106)), some (.int p1), none, none]) (by decide) (Nat.le_of_ble_eq_true rfl) ?_ rfl ?_
  · intro i v hv
    exact z_loe (vs := [.ref (a 106), .int p1]) (n := 2) rfl (by simp [z_c1i, z_c1r]) i v hv
  · intro X hXa C
    subst hXa
    unfold f2_lessen at h
    refine z_bipush (v := 7) C dX2_lessen_0 (by decide) ?_
    refine z_istore_n (lo' := [some (.ref (z_a X 106)), some (.int p1), some (.int 7), none]) C dX2_lessen_2 rfl (Nat.le_of_ble_eq_true rfl) rfl ?_
    exact t2_lessen_L3 C _ p1 7 σ h
set_option maxHeartbeats 4000000 in
set_option maxRecDepth 100000 in
theorem t2_share_J182 {X : z_Ct} (C : z_Cx S1 X RX2 cX2_share 5 28 (some .boolean)) {u : Int32 × z_M} {k119 : Nat → Int32 → z_M → Option (Int32 × z_M)} (hr119 : ∀ (c1 : Nat) (v2 : Int32) (σ : z_M), S1.1 c1 = 1 → k119 c1 v2 σ = some u → z_W S1 X 119 [some (.ref (z_a X 106)), some (.ref (z_a X c1)), some (.int v2), none, none] [] σ (z_oi u)) (c1 : Nat) (v2 : Int32) (σ : z_M) (hk1 : S1.1 c1 = 1) (h : f2_share_J182 k119 c1 v2 σ = some u) : z_W S1 X 182 [some (.ref (z_a X 106)), some (.ref (z_a X c1)), some (.int v2), none, none] [] σ (z_oi u) := by
  unfold f2_share_J182 at h
  refine z_iinc (v := v2 + 1) (lo' := [some (.ref (z_a X 106)), some (.ref (z_a X c1)), some (.int (v2 + 1)), none, none]) C dX2_share_182 rfl rfl rfl ?_
  refine z_goto (tgt := 119) C dX2_share_185 (by decide) ?_
  exact hr119 c1 (v2 + 1) σ hk1 h
set_option maxHeartbeats 4000000 in
set_option maxRecDepth 100000 in
theorem t2_share_L144 {X : z_Ct} (C : z_Cx S1 X RX2 cX2_share 5 28 (some .boolean)) {u : Int32 × z_M} {k119 : Nat → Int32 → z_M → Option (Int32 × z_M)} (hr119 : ∀ (c1 : Nat) (v2 : Int32) (σ : z_M), S1.1 c1 = 1 → k119 c1 v2 σ = some u → z_W S1 X 119 [some (.ref (z_a X 106)), some (.ref (z_a X c1)), some (.int v2), none, none] [] σ (z_oi u)) : ∀ (n : Nat) (c1 : Nat) (v2 : Int32) (v3 : Int32) (v4 : Int32) (σ : z_M),S1.1 c1 = 1 →  f2_share_L144 k119 n c1 v2 v3 v4 σ = some u → z_W S1 X 144 [some (.ref (z_a X 106)), some (.ref (z_a X c1)), some (.int v2), some (.int v3), some (.int v4)] [] σ (z_oi u) := by
  intro n
  induction n with
  | zero => intro c1 v2 v3 v4 σ hk1 h; rw [f2_share_L144] at h; cases h
  | succ n ih =>
    intro c1 v2 v3 v4 σ hk1 h
    rw [f2_share_L144] at h
    refine z_iload C dX2_share_144 rfl ?_
    refine z_iload_n C dX2_share_146 rfl rfl ?_
    refine z_icmp_ge (tgt := 182) C dX2_share_147 (by decide) (fun hc => ?_) (fun hc => ?_)
    · replace h := z_neg hc h
      refine z_kill (lo' := [some (.ref (z_a X 106)), some (.ref (z_a X c1)), some (.int v2), none, none]) [3, 4] rfl ?_
      exact t2_share_J182 C hr119 c1 v2 σ hk1 h
    · replace h := z_pos hc h
      refine z_aload_n C dX2_share_150 rfl rfl ?_
      refine z_iconst (v := 0) C dX2_share_151 (by decide) ?_
      obtain ⟨σ1, eσ1, h⟩ := z_let_some h
      refine z_puti (k := 4) C z_CF2 (by decide) flX2_68 rfl rfl rfl rfl eσ1 dX2_share_152 ?_
      refine z_aload_n C dX2_share_155 rfl rfl ?_
      refine z_iload_n C dX2_share_156 rfl rfl ?_
      refine z_iconst (v := 0) C dX2_share_157 (by decide) ?_
      obtain ⟨r2, σ3, mσ3, h⟩ := z_bnd2 h
      refine z_cvi (As := [.int v2, .int 0]) (c := 106) (st := []) C (t2_place v2 0 mσ3) kvX2_place rfl mlX2_71 z_CF2 rfl rfl (by decide) rfl (Nat.le_of_ble_eq_true rfl) dX2_share_158 ?_
      refine z_if_ne (tgt := 166) C dX2_share_161 (by decide) (fun hc => ?_) (fun hc => ?_)
      · replace h := z_neg hc h
        refine z_aload_n C dX2_share_166 rfl rfl ?_
        refine z_dup C dX2_share_167 rfl ?_
        refine z_geti (k := 0) C z_CF2 (by decide) flX2_21 rfl rfl dX2_share_168 ?_
        refine z_iconst (v := 1) C dX2_share_171 (by decide) ?_
        refine z_iadd C dX2_share_172 ?_
        obtain ⟨σ4, eσ4, h⟩ := z_let_some h
        refine z_puti (k := 0) C z_CF2 (by decide) flX2_21 rfl rfl rfl rfl eσ4 dX2_share_173 ?_
        refine z_iinc (v := v4 + 1) (lo' := [some (.ref (z_a X 106)), some (.ref (z_a X c1)), some (.int v2), some (.int v3), some (.int (v4 + 1))]) C dX2_share_176 rfl rfl rfl ?_
        refine z_goto (tgt := 144) C dX2_share_179 (by decide) ?_
        exact ih c1 v2 v3 (v4 + 1) σ4 hk1 h
      · replace h := z_pos hc h
        refine z_iconst (v := 0) C dX2_share_164 (by decide) ?_
        exact z_zret C (by decide) h dX2_share_165
set_option maxHeartbeats 4000000 in
set_option maxRecDepth 100000 in
theorem t2_share_L190 {X : z_Ct} (C : z_Cx S1 X RX2 cX2_share 5 28 (some .boolean)) {u : Int32 × z_M} : ∀ (n : Nat) (c1 : Nat) (v2 : Int32) (σ : z_M),S1.1 c1 = 1 →  f2_share_L190 n c1 v2 σ = some u → z_W S1 X 190 [some (.ref (z_a X 106)), some (.ref (z_a X c1)), some (.int v2), none, none] [] σ (z_oi u) := by
  intro n
  induction n with
  | zero => intro c1 v2 σ hk1 h; rw [f2_share_L190] at h; cases h
  | succ n ih =>
    intro c1 v2 σ hk1 h
    rw [f2_share_L190] at h
    refine z_iload_n C dX2_share_190 rfl rfl ?_
    refine z_aload_n C dX2_share_191 rfl rfl ?_
    refine z_geti (k := 0) C z_CF1 (by decide) flX2_59 hk1 (sh1_n0 hk1) dX2_share_192 ?_
    refine z_icmp_ge (tgt := 209) C dX2_share_195 (by decide) (fun hc => ?_) (fun hc => ?_)
    · replace h := z_neg hc h
      refine z_iconst (v := 1) C dX2_share_209 (by decide) ?_
      exact z_zret C (by decide) h dX2_share_210
    · replace h := z_pos hc h
      refine z_aload_n C dX2_share_198 rfl rfl ?_
      refine z_iload_n C dX2_share_199 rfl rfl ?_
      obtain ⟨⟨⟩, σ2, mσ2, h⟩ := z_bnd2 h
      refine z_cvv (As := [.int v2]) (c := 106) (st := []) C (t2_lessen v2 mσ2) kvX2_lessen rfl mlX2_75 z_CF2 rfl rfl (by decide) rfl (Nat.le_of_ble_eq_true rfl) dX2_share_200 ?_
      refine z_iinc (v := v2 + 1) (lo' := [some (.ref (z_a X 106)), some (.ref (z_a X c1)), some (.int (v2 + 1)), none, none]) C dX2_share_203 rfl rfl rfl ?_
      refine z_goto (tgt := 190) C dX2_share_206 (by decide) ?_
      exact ih c1 (v2 + 1) σ2 hk1 h
set_option maxHeartbeats 4000000 in
set_option maxRecDepth 100000 in
theorem t2_share_J188 {X : z_Ct} (C : z_Cx S1 X RX2 cX2_share 5 28 (some .boolean)) {u : Int32 × z_M} (c1 : Nat) (σ : z_M) (hk1 : S1.1 c1 = 1) (h : f2_share_J188 c1 σ = some u) : z_W S1 X 188 [some (.ref (z_a X 106)), some (.ref (z_a X c1)), none, none, none] [] σ (z_oi u) := by
  unfold f2_share_J188 at h
  refine z_iconst (v := 0) C dX2_share_188 (by decide) ?_
  refine z_istore_n (lo' := [some (.ref (z_a X 106)), some (.ref (z_a X c1)), some (.int 0), none, none]) C dX2_share_189 rfl (Nat.le_of_ble_eq_true rfl) rfl ?_
  exact t2_share_L190 C _ c1 0 σ hk1 h
set_option maxHeartbeats 4000000 in
set_option maxRecDepth 100000 in
theorem t2_share_L119 {X : z_Ct} (C : z_Cx S1 X RX2 cX2_share 5 28 (some .boolean)) {u : Int32 × z_M} : ∀ (n : Nat) (c1 : Nat) (v2 : Int32) (σ : z_M),S1.1 c1 = 1 →  f2_share_L119 n c1 v2 σ = some u → z_W S1 X 119 [some (.ref (z_a X 106)), some (.ref (z_a X c1)), some (.int v2), none, none] [] σ (z_oi u) := by
  intro n
  induction n with
  | zero => intro c1 v2 σ hk1 h; rw [f2_share_L119] at h; cases h
  | succ n ih =>
    intro c1 v2 σ hk1 h
    rw [f2_share_L119] at h
    refine z_iload_n C dX2_share_119 rfl rfl ?_
    refine z_aload_n C dX2_share_120 rfl rfl ?_
    refine z_geti (k := 0) C z_CF1 (by decide) flX2_59 hk1 (sh1_n0 hk1) dX2_share_121 ?_
    refine z_icmp_ge (tgt := 188) C dX2_share_124 (by decide) (fun hc => ?_) (fun hc => ?_)
    · replace h := z_neg hc h
      refine z_kill (lo' := [some (.ref (z_a X 106)), some (.ref (z_a X c1)), none, none, none]) [2] rfl ?_
      exact t2_share_J188 C c1 σ hk1 h
    · replace h := z_pos hc h
      refine z_aload_n C dX2_share_127 rfl rfl ?_
      refine z_geta (k := 13) (q := (c1 + 17)) C z_CF1 (by decide) flX2_36 hk1 (sh1_r13 hk1) dX2_share_128 ?_
      refine z_iload_n C dX2_share_131 rfl rfl ?_
      obtain ⟨r1, σ2, mσ2, h⟩ := z_bnd2 h
      refine z_cvi (As := [.int v2]) (c := (c1 + 17)) (st := []) C (t0_sures (c1 + 17) v2 (sh1_k13 hk1) mσ2) kvX0_sures rfl mlX2_62 z_CF0 (sh1_k13 hk1) rfl (by decide) rfl (Nat.le_of_ble_eq_true rfl) dX2_share_132 ?_
      refine z_aload_n C dX2_share_135 rfl rfl ?_
      refine z_geti (k := 1) C z_CF1 (by decide) flX2_65 hk1 (sh1_n1 hk1) dX2_share_136 ?_
      refine z_isub C dX2_share_139 ?_
      refine z_istore_n (lo' := [some (.ref (z_a X 106)), some (.ref (z_a X c1)), some (.int v2), some (.int (r1 - (σ2 c1 1))), none]) C dX2_share_140 rfl (Nat.le_of_ble_eq_true rfl) rfl ?_
      refine z_iconst (v := 0) C dX2_share_141 (by decide) ?_
      refine z_istore (lo' := [some (.ref (z_a X 106)), some (.ref (z_a X c1)), some (.int v2), some (.int (r1 - (σ2 c1 1))), some (.int 0)]) C dX2_share_142 (Nat.le_of_ble_eq_true rfl) rfl ?_
      exact t2_share_L144 C ih _ c1 v2 (r1 - (σ2 c1 1)) 0 σ2 hk1 h
set_option maxHeartbeats 4000000 in
set_option maxRecDepth 100000 in
theorem t2_share_J117 {X : z_Ct} (C : z_Cx S1 X RX2 cX2_share 5 28 (some .boolean)) {u : Int32 × z_M} (c1 : Nat) (σ : z_M) (hk1 : S1.1 c1 = 1) (h : f2_share_J117 c1 σ = some u) : z_W S1 X 117 [some (.ref (z_a X 106)), some (.ref (z_a X c1)), none, none, none] [] σ (z_oi u) := by
  unfold f2_share_J117 at h
  refine z_iconst (v := 0) C dX2_share_117 (by decide) ?_
  refine z_istore_n (lo' := [some (.ref (z_a X 106)), some (.ref (z_a X c1)), some (.int 0), none, none]) C dX2_share_118 rfl (Nat.le_of_ble_eq_true rfl) rfl ?_
  exact t2_share_L119 C _ c1 0 σ hk1 h
set_option maxHeartbeats 4000000 in
set_option maxRecDepth 100000 in
theorem t2_share_L57 {X : z_Ct} (C : z_Cx S1 X RX2 cX2_share 5 28 (some .boolean)) {u : Int32 × z_M} : ∀ (n : Nat) (c1 : Nat) (v2 : Int32) (σ : z_M),S1.1 c1 = 1 →  f2_share_L57 n c1 v2 σ = some u → z_W S1 X 57 [some (.ref (z_a X 106)), some (.ref (z_a X c1)), some (.int v2), none, none] [] σ (z_oi u) := by
  intro n
  induction n with
  | zero => intro c1 v2 σ hk1 h; rw [f2_share_L57] at h; cases h
  | succ n ih =>
    intro c1 v2 σ hk1 h
    rw [f2_share_L57] at h
    refine z_iload_n C dX2_share_57 rfl rfl ?_
    refine z_aload_n C dX2_share_58 rfl rfl ?_
    refine z_geta (k := 8) (q := (c1 + 9)) C z_CF1 (by decide) flX2_46 hk1 (sh1_r8 hk1) dX2_share_59 ?_
    refine z_geti (k := 2) C z_CF9 (by decide) flX2_50 (sh1_k8 hk1) (sh9_n2 (sh1_k8 hk1)) dX2_share_62 ?_
    refine z_icmp_ge (tgt := 117) C dX2_share_65 (by decide) (fun hc => ?_) (fun hc => ?_)
    · replace h := z_neg hc h
      refine z_kill (lo' := [some (.ref (z_a X 106)), some (.ref (z_a X c1)), none, none, none]) [2] rfl ?_
      exact t2_share_J117 C c1 σ hk1 h
    · replace h := z_pos hc h
      refine z_aload_n C dX2_share_68 rfl rfl ?_
      refine z_geta (k := 8) (q := (c1 + 9)) C z_CF1 (by decide) flX2_46 hk1 (sh1_r8 hk1) dX2_share_69 ?_
      refine z_iload_n C dX2_share_72 rfl rfl ?_
      refine z_iconst (v := 1) C dX2_share_73 (by decide) ?_
      obtain ⟨r1, σ2, mσ2, h⟩ := z_bnd2 h
      refine z_cvi (As := [.int v2, .int 1]) (c := (c1 + 9)) (st := []) C (t9_at (c1 + 9) v2 1 (sh1_k8 hk1) mσ2) kvX9_at rfl mlX2_55 z_CF9 (sh1_k8 hk1) rfl (by decide) rfl (Nat.le_of_ble_eq_true rfl) dX2_share_74 ?_
      refine z_iconst (v := 1) C dX2_share_77 (by decide) ?_
      refine z_icmp_ne (tgt := 111) C dX2_share_78 (by decide) (fun hc => ?_) (fun hc => ?_)
      · replace h := z_neg hc h
        refine z_iinc (v := v2 + 1) (lo' := [some (.ref (z_a X 106)), some (.ref (z_a X c1)), some (.int (v2 + 1)), none, none]) C dX2_share_111 rfl rfl rfl ?_
        refine z_goto (tgt := 57) C dX2_share_114 (by decide) ?_
        exact ih c1 (v2 + 1) σ2 hk1 h
      · replace h := z_pos hc h
        refine z_aload_n C dX2_share_81 rfl rfl ?_
        refine z_geta (k := 2) (q := 108) C z_CF2 (by decide) flX2_15 rfl rfl dX2_share_82 ?_
        refine z_aload_n C dX2_share_85 rfl rfl ?_
        refine z_geta (k := 8) (q := (c1 + 9)) C z_CF1 (by decide) flX2_46 hk1 (sh1_r8 hk1) dX2_share_86 ?_
        refine z_iload_n C dX2_share_89 rfl rfl ?_
        refine z_iconst (v := 0) C dX2_share_90 (by decide) ?_
        obtain ⟨r3, σ4, mσ4, h⟩ := z_bnd2 h
        refine z_cvi (As := [.int v2, .int 0]) (c := (c1 + 9)) (st := [.ref (z_a X 108)]) C (t9_at (c1 + 9) v2 0 (sh1_k8 hk1) mσ4) kvX9_at rfl mlX2_55 z_CF9 (sh1_k8 hk1) rfl (by decide) rfl (Nat.le_of_ble_eq_true rfl) dX2_share_91 ?_
        refine z_dup2 C dX2_share_94 rfl rfl ?_
        obtain ⟨b5, h⟩ := z_chk_some h
        refine z_iald C rfl rfl b5 dX2_share_95 ?_
        refine z_iconst (v := 1) C dX2_share_96 (by decide) ?_
        refine z_aload_n C dX2_share_97 rfl rfl ?_
        refine z_geta (k := 8) (q := (c1 + 9)) C z_CF1 (by decide) flX2_46 hk1 (sh1_r8 hk1) dX2_share_98 ?_
        refine z_iload_n C dX2_share_101 rfl rfl ?_
        refine z_iconst (v := 2) C dX2_share_102 (by decide) ?_
        obtain ⟨r6, σ7, mσ7, h⟩ := z_bnd2 h
        refine z_cvi (As := [.int v2, .int 2]) (c := (c1 + 9)) (st := [.int 1, .int (σ4 108 (z_ix r3)), .int r3, .ref (z_a X 108)]) C (t9_at (c1 + 9) v2 2 (sh1_k8 hk1) mσ7) kvX9_at rfl mlX2_55 z_CF9 (sh1_k8 hk1) rfl (by decide) rfl (Nat.le_of_ble_eq_true rfl) dX2_share_103 ?_
        refine z_ishl C dX2_share_106 ?_
        refine z_iconst (v := (-1)) C dX2_share_107 (by decide) ?_
        refine z_ixor C dX2_share_108 ?_
        refine z_iand C dX2_share_109 ?_
        obtain ⟨b8, h⟩ := z_chk_some h
        obtain ⟨σ9, eσ9, h⟩ := z_let_some h
        refine z_iast C rfl rfl b8 eσ9 dX2_share_110 ?_
        refine z_iinc (v := v2 + 1) (lo' := [some (.ref (z_a X 106)), some (.ref (z_a X c1)), some (.int (v2 + 1)), none, none]) C dX2_share_111 rfl rfl rfl ?_
        refine z_goto (tgt := 57) C dX2_share_114 (by decide) ?_
        exact ih c1 (v2 + 1) σ9 hk1 h
set_option maxHeartbeats 4000000 in
set_option maxRecDepth 100000 in
theorem t2_share_J55 {X : z_Ct} (C : z_Cx S1 X RX2 cX2_share 5 28 (some .boolean)) {u : Int32 × z_M} (c1 : Nat) (σ : z_M) (hk1 : S1.1 c1 = 1) (h : f2_share_J55 c1 σ = some u) : z_W S1 X 55 [some (.ref (z_a X 106)), some (.ref (z_a X c1)), none, none, none] [] σ (z_oi u) := by
  unfold f2_share_J55 at h
  refine z_iconst (v := 0) C dX2_share_55 (by decide) ?_
  refine z_istore_n (lo' := [some (.ref (z_a X 106)), some (.ref (z_a X c1)), some (.int 0), none, none]) C dX2_share_56 rfl (Nat.le_of_ble_eq_true rfl) rfl ?_
  exact t2_share_L57 C _ c1 0 σ hk1 h
set_option maxHeartbeats 4000000 in
set_option maxRecDepth 100000 in
theorem t2_share_L22 {X : z_Ct} (C : z_Cx S1 X RX2 cX2_share 5 28 (some .boolean)) {u : Int32 × z_M} : ∀ (n : Nat) (c1 : Nat) (v2 : Int32) (σ : z_M),S1.1 c1 = 1 →  f2_share_L22 n c1 v2 σ = some u → z_W S1 X 22 [some (.ref (z_a X 106)), some (.ref (z_a X c1)), some (.int v2), none, none] [] σ (z_oi u) := by
  intro n
  induction n with
  | zero => intro c1 v2 σ hk1 h; rw [f2_share_L22] at h; cases h
  | succ n ih =>
    intro c1 v2 σ hk1 h
    rw [f2_share_L22] at h
    refine z_iload_n C dX2_share_22 rfl rfl ?_
    refine z_bipush (v := 8) C dX2_share_23 (by decide) ?_
    refine z_icmp_ge (tgt := 55) C dX2_share_25 (by decide) (fun hc => ?_) (fun hc => ?_)
    · replace h := z_neg hc h
      refine z_kill (lo' := [some (.ref (z_a X 106)), some (.ref (z_a X c1)), none, none, none]) [2] rfl ?_
      exact t2_share_J55 C c1 σ hk1 h
    · replace h := z_pos hc h
      refine z_aload_n C dX2_share_28 rfl rfl ?_
      refine z_geta (k := 1) (q := 107) C z_CF2 (by decide) flX2_9 rfl rfl dX2_share_29 ?_
      refine z_iload_n C dX2_share_32 rfl rfl ?_
      refine z_iconst (v := 0) C dX2_share_33 (by decide) ?_
      obtain ⟨b1, h⟩ := z_chk_some h
      obtain ⟨σ2, eσ2, h⟩ := z_let_some h
      refine z_iast C rfl rfl b1 eσ2 dX2_share_34 ?_
      refine z_aload_n C dX2_share_35 rfl rfl ?_
      refine z_geta (k := 2) (q := 108) C z_CF2 (by decide) flX2_15 rfl rfl dX2_share_36 ?_
      refine z_iload_n C dX2_share_39 rfl rfl ?_
      refine z_aload_n C dX2_share_40 rfl rfl ?_
      refine z_geta (k := 13) (q := (c1 + 17)) C z_CF1 (by decide) flX2_36 hk1 (sh1_r13 hk1) dX2_share_41 ?_
      refine z_iload_n C dX2_share_44 rfl rfl ?_
      obtain ⟨r3, σ4, mσ4, h⟩ := z_bnd2 h
      refine z_cvi (As := [.int v2]) (c := (c1 + 17)) (st := [.int v2, .ref (z_a X 108)]) C (t0_sureOf (c1 + 17) v2 (sh1_k13 hk1) mσ4) kvX0_sureOf rfl mlX2_40 z_CF0 (sh1_k13 hk1) rfl (by decide) rfl (Nat.le_of_ble_eq_true rfl) dX2_share_45 ?_
      obtain ⟨b5, h⟩ := z_chk_some h
      obtain ⟨σ6, eσ6, h⟩ := z_let_some h
      refine z_iast C rfl rfl b5 eσ6 dX2_share_48 ?_
      refine z_iinc (v := v2 + 1) (lo' := [some (.ref (z_a X 106)), some (.ref (z_a X c1)), some (.int (v2 + 1)), none, none]) C dX2_share_49 rfl rfl rfl ?_
      refine z_goto (tgt := 22) C dX2_share_52 (by decide) ?_
      exact ih c1 (v2 + 1) σ6 hk1 h
set_option maxHeartbeats 4000000 in
set_option maxRecDepth 100000 in
theorem t2_share {a : Nat → Nat} (c1 : Nat) {σ : z_M} (hk1 : S1.1 c1 = 1) {u : Int32 × z_M} (h : f2_share c1 σ = some u) : z_Mt yX2_share (z_w yX2_share cX2_share 5 (some .boolean)) 28 S1 a σ [.ref (a 106), .ref (a c1)] (z_oi u) := by
  refine z_head (lo := [some (.ref (a 106)), some (.ref (a c1)), none, none, none]) (by decide) (Nat.le_of_ble_eq_true rfl) ?_ rfl ?_
  · intro i v hv
    exact z_loe (vs := [.ref (a 106), .ref (a c1)]) (n := 3) rfl (by simp [z_c1i, z_c1r]) i v hv
  · intro X hXa C
    subst hXa
    unfold f2_share at h
    refine z_aload_n C dX2_share_0 rfl rfl ?_
    refine z_iconst (v := 0) C dX2_share_1 (by decide) ?_
    obtain ⟨σ1, eσ1, h⟩ := z_let_some h
    refine z_puti (k := 0) C z_CF2 (by decide) flX2_21 rfl rfl rfl rfl eσ1 dX2_share_2 ?_
    refine z_aload_n C dX2_share_5 rfl rfl ?_
    refine z_geta (k := 4) (q := (c1 + 1)) C z_CF1 (by decide) flX2_25 hk1 (sh1_r4 hk1) dX2_share_6 ?_
    refine z_iconst (v := 0) C dX2_share_9 (by decide) ?_
    refine z_aload_n C dX2_share_10 rfl rfl ?_
    refine z_geta (k := 3) (q := 109) C z_CF2 (by decide) flX2_18 rfl rfl dX2_share_11 ?_
    refine z_iconst (v := 0) C dX2_share_14 (by decide) ?_
    refine z_bipush (v := 8) C dX2_share_15 (by decide) ?_
    obtain ⟨b2, h⟩ := z_chk_some h
    obtain ⟨σ3, eσ3, h⟩ := z_let_some h
    refine z_copyi (st := []) C (sh1_k4 hk1) rfl (sh1_l4 hk1) rfl b2 eσ3 rfl (Nat.le_of_ble_eq_true rfl) mlX2_30 dX2_share_17 ?_
    refine z_iconst (v := 0) C dX2_share_20 (by decide) ?_
    refine z_istore_n (lo' := [some (.ref (z_a X 106)), some (.ref (z_a X c1)), some (.int 0), none, none]) C dX2_share_21 rfl (Nat.le_of_ble_eq_true rfl) rfl ?_
    exact t2_share_L22 C _ c1 0 σ3 hk1 h
set_option maxHeartbeats 4000000 in
set_option maxRecDepth 100000 in
theorem t11_gives_J17 {X : z_Ct} (C : z_Cx S1 X RX11 cX11_gives 2 29 (some .int)) {u : Int32 × z_M} (v1 : Int32) (σ : z_M) (h : f11_gives_J17 v1 σ = some u) : z_W S1 X 17 [some (.ref (z_a X 0)), some (.int v1)] [] σ (z_oi u) := by
  unfold f11_gives_J17 at h
  refine z_aload_n C dX11_gives_17 rfl rfl ?_
  refine z_geta (k := 9) (q := 106) C z_CF11 (by decide) flX11_75 rfl rfl dX11_gives_18 ?_
  refine z_aload_n C dX11_gives_21 rfl rfl ?_
  refine z_geta (k := 0) (q := 1) C z_CF11 (by decide) flX11_10 rfl rfl dX11_gives_22 ?_
  obtain ⟨r1, σ2, mσ2, h⟩ := z_bnd2 h
  refine z_cvi (As := [.ref (z_a X 1)]) (c := 106) (st := []) C (t2_share 1 rfl mσ2) kvX2_share rfl mlX11_257 z_CF2 rfl rfl (by decide) rfl (Nat.le_of_ble_eq_true rfl) dX11_gives_25 ?_
  refine z_if_ne (tgt := 33) C dX11_gives_28 (by decide) (fun hc => ?_) (fun hc => ?_)
  · replace h := z_neg hc h
    refine z_iload_n C dX11_gives_33 rfl rfl ?_
    refine z_if_ne (tgt := 47) C dX11_gives_34 (by decide) (fun hc => ?_) (fun hc => ?_)
    · replace h := z_neg hc h
      refine z_aload_n C dX11_gives_47 rfl rfl ?_
      refine z_geta (k := 9) (q := 106) C z_CF11 (by decide) flX11_75 rfl rfl dX11_gives_48 ?_
      refine z_geta (k := 1) (q := 107) C z_CF2 (by decide) flX11_264 rfl rfl dX11_gives_51 ?_
      refine z_iload_n C dX11_gives_54 rfl rfl ?_
      refine z_bipush (v := 10) C dX11_gives_55 (by decide) ?_
      refine z_isub C dX11_gives_57 ?_
      obtain ⟨b3, h⟩ := z_chk_some h
      refine z_iald C rfl rfl b3 dX11_gives_58 ?_
      exact z_iret C h dX11_gives_59
    · replace h := z_pos hc h
      refine z_aload_n C dX11_gives_37 rfl rfl ?_
      refine z_geta (k := 9) (q := 106) C z_CF11 (by decide) flX11_75 rfl rfl dX11_gives_38 ?_
      refine z_geti (k := 0) C z_CF2 (by decide) flX11_261 rfl rfl dX11_gives_41 ?_
      refine z_goto (tgt := 59) C dX11_gives_44 (by decide) ?_
      exact z_iret C h dX11_gives_59
  · replace h := z_pos hc h
    refine z_iconst (v := (-1)) C dX11_gives_31 (by decide) ?_
    exact z_iret C h dX11_gives_32
set_option maxHeartbeats 4000000 in
set_option maxRecDepth 100000 in
theorem t11_gives {a : Nat → Nat} (p1 : Int32) {σ : z_M} {u : Int32 × z_M} (h : f11_gives p1 σ = some u) : z_Mt yX11_gives (z_w yX11_gives cX11_gives 2 (some .int)) 29 S1 a σ [.ref (a 0), .int p1] (z_oi u) := by
  refine z_head (lo := [some (.ref (a 0)), some (.int p1)]) (by decide) (Nat.le_of_ble_eq_true rfl) ?_ rfl ?_
  · intro i v hv
    exact z_loe (vs := [.ref (a 0), .int p1]) (n := 0) rfl (by simp [z_c1i, z_c1r]) i v hv
  · intro X hXa C
    subst hXa
    unfold f11_gives at h
    refine z_iload_n C dX11_gives_0 rfl rfl ?_
    refine z_if_eq (tgt := 17) C dX11_gives_1 (by decide) (fun hc => ?_) (fun hc => ?_)
    · replace h := z_pos hc h
      exact t11_gives_J17 C p1 σ h
    · replace h := z_neg hc h
      refine z_aload_n C dX11_gives_4 rfl rfl ?_
      refine z_iload_n C dX11_gives_5 rfl rfl ?_
      refine z_bipush (v := 10) C dX11_gives_6 (by decide) ?_
      refine z_isub C dX11_gives_8 ?_
      obtain ⟨r1, σ2, mσ2, h⟩ := z_bnd2 h
      refine z_cvi (As := [.int (p1 - 10)]) (c := 0) (st := []) C (t11_isHouse (p1 - 10) mσ2) kvX11_isHouse rfl mlX11_165 z_CF11 rfl rfl (by decide) rfl (Nat.le_of_ble_eq_true rfl) dX11_gives_9 ?_
      refine z_if_ne (tgt := 17) C dX11_gives_12 (by decide) (fun hc => ?_) (fun hc => ?_)
      · replace h := z_neg hc h
        exact t11_gives_J17 C p1 σ2 h
      · replace h := z_pos hc h
        refine z_iconst (v := (-1)) C dX11_gives_15 (by decide) ?_
        exact z_iret C h dX11_gives_16
set_option maxHeartbeats 4000000 in
set_option maxRecDepth 100000 in
theorem t6_worksDone_J72 {X : z_Ct} (C : z_Cx S1 X RX6 cX6_worksDone 5 2 (some .int)) {u : Int32 × z_M} {k4 : Nat → Int32 → Int32 → z_M → Option (Int32 × z_M)} (hr4 : ∀ (c1 : Nat) (v2 : Int32) (v3 : Int32) (σ : z_M), S1.1 c1 = 1 → k4 c1 v2 v3 σ = some u → z_W S1 X 4 [none, some (.ref (z_a X c1)), some (.int v2), some (.int v3), none] [] σ (z_oi u)) (c1 : Nat) (v2 : Int32) (v3 : Int32) (s0 : Int32) (s1 : Int32) (σ : z_M) (hk1 : S1.1 c1 = 1) (h : f6_worksDone_J72 k4 c1 v2 v3 s0 s1 σ = some u) : z_W S1 X 72 [none, some (.ref (z_a X c1)), some (.int v2), some (.int v3), none] [.int s1, .int s0] σ (z_oi u) := by
  unfold f6_worksDone_J72 at h
  refine z_icmp_ne (tgt := 81) C dX6_worksDone_72 (by decide) (fun hc => ?_) (fun hc => ?_)
  · replace h := z_neg hc h
    refine z_iinc (v := v3 + 1) (lo' := [none, some (.ref (z_a X c1)), some (.int v2), some (.int (v3 + 1)), none]) C dX6_worksDone_81 rfl rfl rfl ?_
    refine z_goto (tgt := 4) C dX6_worksDone_84 (by decide) ?_
    exact hr4 c1 v2 (v3 + 1) σ hk1 h
  · replace h := z_pos hc h
    refine z_iload_n C dX6_worksDone_75 rfl rfl ?_
    refine z_iconst (v := 1) C dX6_worksDone_76 (by decide) ?_
    refine z_iload_n C dX6_worksDone_77 rfl rfl ?_
    refine z_ishl C dX6_worksDone_78 ?_
    refine z_ior C dX6_worksDone_79 ?_
    refine z_istore_n (lo' := [none, some (.ref (z_a X c1)), some (.int (v2 ||| (z_shl 1 v3))), some (.int v3), none]) C dX6_worksDone_80 rfl (Nat.le_of_ble_eq_true rfl) rfl ?_
    refine z_iinc (v := v3 + 1) (lo' := [none, some (.ref (z_a X c1)), some (.int (v2 ||| (z_shl 1 v3))), some (.int (v3 + 1)), none]) C dX6_worksDone_81 rfl rfl rfl ?_
    refine z_goto (tgt := 4) C dX6_worksDone_84 (by decide) ?_
    exact hr4 c1 (v2 ||| (z_shl 1 v3)) (v3 + 1) σ hk1 h
set_option maxHeartbeats 4000000 in
set_option maxRecDepth 100000 in
theorem t6_worksDone_J54 {X : z_Ct} (C : z_Cx S1 X RX6 cX6_worksDone 5 2 (some .int)) {u : Int32 × z_M} {k4 : Nat → Int32 → Int32 → z_M → Option (Int32 × z_M)} (hr4 : ∀ (c1 : Nat) (v2 : Int32) (v3 : Int32) (σ : z_M), S1.1 c1 = 1 → k4 c1 v2 v3 σ = some u → z_W S1 X 4 [none, some (.ref (z_a X c1)), some (.int v2), some (.int v3), none] [] σ (z_oi u)) (c1 : Nat) (v2 : Int32) (v3 : Int32) (s0 : Int32) (σ : z_M) (hk1 : S1.1 c1 = 1) (h : f6_worksDone_J54 k4 c1 v2 v3 s0 σ = some u) : z_W S1 X 54 [none, some (.ref (z_a X c1)), some (.int v2), some (.int v3), none] [.int s0] σ (z_oi u) := by
  unfold f6_worksDone_J54 at h
  refine z_aload_n C dX6_worksDone_54 rfl rfl ?_
  refine z_geta (k := 8) (q := (c1 + 9)) C z_CF1 (by decide) flX6_18 hk1 (sh1_r8 hk1) dX6_worksDone_55 ?_
  refine z_iload_n C dX6_worksDone_58 rfl rfl ?_
  refine z_iconst (v := 1) C dX6_worksDone_59 (by decide) ?_
  obtain ⟨r1, σ2, mσ2, h⟩ := z_bnd2 h
  refine z_cvi (As := [.int v3, .int 1]) (c := (c1 + 9)) (st := [.int s0]) C (t9_at (c1 + 9) v3 1 (sh1_k8 hk1) mσ2) kvX9_at rfl mlX6_34 z_CF9 (sh1_k8 hk1) rfl (by decide) rfl (Nat.le_of_ble_eq_true rfl) dX6_worksDone_60 ?_
  refine z_iconst (v := 1) C dX6_worksDone_63 (by decide) ?_
  refine z_icmp_ne (tgt := 71) C dX6_worksDone_64 (by decide) (fun hc => ?_) (fun hc => ?_)
  · replace h := z_neg hc h
    refine z_iconst (v := 0) C dX6_worksDone_71 (by decide) ?_
    exact t6_worksDone_J72 C hr4 c1 v2 v3 s0 0 σ2 hk1 h
  · replace h := z_pos hc h
    refine z_iconst (v := 1) C dX6_worksDone_67 (by decide) ?_
    refine z_goto (tgt := 72) C dX6_worksDone_68 (by decide) ?_
    exact t6_worksDone_J72 C hr4 c1 v2 v3 s0 1 σ2 hk1 h
set_option maxHeartbeats 4000000 in
set_option maxRecDepth 100000 in
theorem t6_worksDone_L4 {X : z_Ct} (C : z_Cx S1 X RX6 cX6_worksDone 5 2 (some .int)) {u : Int32 × z_M} : ∀ (n : Nat) (c1 : Nat) (v2 : Int32) (v3 : Int32) (σ : z_M),S1.1 c1 = 1 →  f6_worksDone_L4 n c1 v2 v3 σ = some u → z_W S1 X 4 [none, some (.ref (z_a X c1)), some (.int v2), some (.int v3), none] [] σ (z_oi u) := by
  intro n
  induction n with
  | zero => intro c1 v2 v3 σ hk1 h; rw [f6_worksDone_L4] at h; cases h
  | succ n ih =>
    intro c1 v2 v3 σ hk1 h
    rw [f6_worksDone_L4] at h
    refine z_iload_n C dX6_worksDone_4 rfl rfl ?_
    refine z_aload_n C dX6_worksDone_5 rfl rfl ?_
    refine z_geta (k := 8) (q := (c1 + 9)) C z_CF1 (by decide) flX6_18 hk1 (sh1_r8 hk1) dX6_worksDone_6 ?_
    refine z_geti (k := 2) C z_CF9 (by decide) flX6_24 (sh1_k8 hk1) (sh9_n2 (sh1_k8 hk1)) dX6_worksDone_9 ?_
    refine z_icmp_ge (tgt := 87) C dX6_worksDone_12 (by decide) (fun hc => ?_) (fun hc => ?_)
    · replace h := z_neg hc h
      refine z_iload_n C dX6_worksDone_87 rfl rfl ?_
      exact z_iret C h dX6_worksDone_88
    · replace h := z_pos hc h
      refine z_aload_n C dX6_worksDone_15 rfl rfl ?_
      refine z_geta (k := 13) (q := (c1 + 17)) C z_CF1 (by decide) flX6_30 hk1 (sh1_r13 hk1) dX6_worksDone_16 ?_
      refine z_aload_n C dX6_worksDone_19 rfl rfl ?_
      refine z_geta (k := 8) (q := (c1 + 9)) C z_CF1 (by decide) flX6_18 hk1 (sh1_r8 hk1) dX6_worksDone_20 ?_
      refine z_iload_n C dX6_worksDone_23 rfl rfl ?_
      refine z_iconst (v := 0) C dX6_worksDone_24 (by decide) ?_
      obtain ⟨r1, σ2, mσ2, h⟩ := z_bnd2 h
      refine z_cvi (As := [.int v3, .int 0]) (c := (c1 + 9)) (st := [.ref (z_a X (c1 + 17))]) C (t9_at (c1 + 9) v3 0 (sh1_k8 hk1) mσ2) kvX9_at rfl mlX6_34 z_CF9 (sh1_k8 hk1) rfl (by decide) rfl (Nat.le_of_ble_eq_true rfl) dX6_worksDone_25 ?_
      refine z_aload_n C dX6_worksDone_28 rfl rfl ?_
      refine z_geta (k := 8) (q := (c1 + 9)) C z_CF1 (by decide) flX6_18 hk1 (sh1_r8 hk1) dX6_worksDone_29 ?_
      refine z_iload_n C dX6_worksDone_32 rfl rfl ?_
      refine z_iconst (v := 2) C dX6_worksDone_33 (by decide) ?_
      obtain ⟨r3, σ4, mσ4, h⟩ := z_bnd2 h
      refine z_cvi (As := [.int v3, .int 2]) (c := (c1 + 9)) (st := [.int r1, .ref (z_a X (c1 + 17))]) C (t9_at (c1 + 9) v3 2 (sh1_k8 hk1) mσ4) kvX9_at rfl mlX6_34 z_CF9 (sh1_k8 hk1) rfl (by decide) rfl (Nat.le_of_ble_eq_true rfl) dX6_worksDone_34 ?_
      obtain ⟨r5, σ6, mσ6, h⟩ := z_bnd2 h
      refine z_cvi (As := [.int r1, .int r3]) (c := (c1 + 17)) (st := []) C (t0_degreeOf (c1 + 17) r1 r3 (sh1_k13 hk1) mσ6) kvX0_degreeOf rfl mlX6_38 z_CF0 (sh1_k13 hk1) rfl (by decide) rfl (Nat.le_of_ble_eq_true rfl) dX6_worksDone_37 ?_
      refine z_istore (lo' := [none, some (.ref (z_a X c1)), some (.int v2), some (.int v3), some (.int r5)]) C dX6_worksDone_40 (Nat.le_of_ble_eq_true rfl) rfl ?_
      refine z_iload C dX6_worksDone_42 rfl ?_
      refine z_bipush (v := 90) C dX6_worksDone_44 (by decide) ?_
      refine z_icmp_lt (tgt := 53) C dX6_worksDone_46 (by decide) (fun hc => ?_) (fun hc => ?_)
      · replace h := z_pos hc h
        refine z_iconst (v := 0) C dX6_worksDone_53 (by decide) ?_
        refine z_kill (lo' := [none, some (.ref (z_a X c1)), some (.int v2), some (.int v3), none]) [4] rfl ?_
        exact t6_worksDone_J54 C ih c1 v2 v3 0 σ6 hk1 h
      · replace h := z_neg hc h
        refine z_iconst (v := 1) C dX6_worksDone_49 (by decide) ?_
        refine z_goto (tgt := 54) C dX6_worksDone_50 (by decide) ?_
        refine z_kill (lo' := [none, some (.ref (z_a X c1)), some (.int v2), some (.int v3), none]) [4] rfl ?_
        exact t6_worksDone_J54 C ih c1 v2 v3 1 σ6 hk1 h
set_option maxHeartbeats 4000000 in
set_option maxRecDepth 100000 in
theorem t6_worksDone {a : Nat → Nat} (c1 : Nat) {σ : z_M} (hk1 : S1.1 c1 = 1) {u : Int32 × z_M} (h : f6_worksDone c1 σ = some u) : z_Mt yX6_worksDone (z_w yX6_worksDone cX6_worksDone 5 (some .int)) 2 S1 a σ [.ref (a 110), .ref (a c1)] (z_oi u) := by
  refine z_head (lo := [some (.ref (a 110)), some (.ref (a c1)), none, none, none]) (by decide) (Nat.le_of_ble_eq_true rfl) ?_ rfl ?_
  · intro i v hv
    exact z_loe (vs := [.ref (a 110), .ref (a c1)]) (n := 3) rfl (by simp [z_c1i, z_c1r]) i v hv
  · intro X hXa C
    subst hXa
    unfold f6_worksDone at h
    refine z_iconst (v := 0) C dX6_worksDone_0 (by decide) ?_
    refine z_istore_n (lo' := [some (.ref (z_a X 110)), some (.ref (z_a X c1)), some (.int 0), none, none]) C dX6_worksDone_1 rfl (Nat.le_of_ble_eq_true rfl) rfl ?_
    refine z_iconst (v := 0) C dX6_worksDone_2 (by decide) ?_
    refine z_istore_n (lo' := [some (.ref (z_a X 110)), some (.ref (z_a X c1)), some (.int 0), some (.int 0), none]) C dX6_worksDone_3 rfl (Nat.le_of_ble_eq_true rfl) rfl ?_
    refine z_kill (lo' := [none, some (.ref (z_a X c1)), some (.int 0), some (.int 0), none]) [0] rfl ?_
    exact t6_worksDone_L4 C _ c1 0 0 σ hk1 h
set_option maxHeartbeats 4000000 in
set_option maxRecDepth 100000 in
theorem t11_done {a : Nat → Nat} {σ : z_M} {u : Int32 × z_M} (h : f11_done σ = some u) : z_Mt yX11_done (z_w yX11_done cX11_done 1 (some .int)) 3 S1 a σ [.ref (a 0)] (z_oi u) := by
  refine z_head (lo := [some (.ref (a 0))]) (by decide) (Nat.le_of_ble_eq_true rfl) ?_ rfl ?_
  · intro i v hv
    exact z_loe (vs := [.ref (a 0)]) (n := 0) rfl (by simp [z_c1i, z_c1r]) i v hv
  · intro X hXa C
    subst hXa
    unfold f11_done at h
    refine z_aload_n C dX11_done_0 rfl rfl ?_
    refine z_geta (k := 10) (q := 110) C z_CF11 (by decide) flX11_82 rfl rfl dX11_done_1 ?_
    refine z_aload_n C dX11_done_4 rfl rfl ?_
    refine z_geta (k := 0) (q := 1) C z_CF11 (by decide) flX11_10 rfl rfl dX11_done_5 ?_
    obtain ⟨r1, σ2, mσ2, h⟩ := z_bnd2 h
    refine z_cvi (As := [.ref (z_a X 1)]) (c := 110) (st := []) C (t6_worksDone 1 rfl mσ2) kvX6_worksDone rfl mlX11_267 z_CF6 rfl rfl (by decide) rfl (Nat.le_of_ble_eq_true rfl) dX11_done_8 ?_
    exact z_iret C h dX11_done_11
set_option maxHeartbeats 4000000 in
set_option maxRecDepth 100000 in
theorem t0_sumOf_L5 {X : z_Ct} (C : z_Cx S1 X RX0 cX0_sumOf 5 1 (some .int)) {u : Int32 × z_M} : ∀ (n : Nat) (c0 : Nat) (v1 : Int32) (v2 : Int32) (v3 : Int32) (v4 : Int32) (σ : z_M),S1.1 c0 = 0 →  f0_sumOf_L5 n c0 v1 v2 v3 v4 σ = some u → z_W S1 X 5 [some (.ref (z_a X c0)), some (.int v1), some (.int v2), some (.int v3), some (.int v4)] [] σ (z_oi u) := by
  intro n
  induction n with
  | zero => intro c0 v1 v2 v3 v4 σ hk0 h; rw [f0_sumOf_L5] at h; cases h
  | succ n ih =>
    intro c0 v1 v2 v3 v4 σ hk0 h
    rw [f0_sumOf_L5] at h
    refine z_iload C dX0_sumOf_5 rfl ?_
    refine z_bipush (v := 8) C dX0_sumOf_7 (by decide) ?_
    refine z_icmp_ge (tgt := 42) C dX0_sumOf_9 (by decide) (fun hc => ?_) (fun hc => ?_)
    · replace h := z_neg hc h
      refine z_iload_n C dX0_sumOf_42 rfl rfl ?_
      exact z_iret C h dX0_sumOf_43
    · replace h := z_pos hc h
      refine z_iload_n C dX0_sumOf_12 rfl rfl ?_
      refine z_iload C dX0_sumOf_13 rfl ?_
      refine z_ishr C dX0_sumOf_15 ?_
      refine z_iconst (v := 1) C dX0_sumOf_16 (by decide) ?_
      refine z_iand C dX0_sumOf_17 ?_
      refine z_if_eq (tgt := 36) C dX0_sumOf_18 (by decide) (fun hc => ?_) (fun hc => ?_)
      · replace h := z_pos hc h
        refine z_iinc (v := v4 + 1) (lo' := [some (.ref (z_a X c0)), some (.int v1), some (.int v2), some (.int v3), some (.int (v4 + 1))]) C dX0_sumOf_36 rfl rfl rfl ?_
        refine z_goto (tgt := 5) C dX0_sumOf_39 (by decide) ?_
        exact ih c0 v1 v2 v3 (v4 + 1) σ hk0 h
      · replace h := z_neg hc h
        refine z_iload_n C dX0_sumOf_21 rfl rfl ?_
        refine z_aload_n C dX0_sumOf_22 rfl rfl ?_
        refine z_geta (k := 0) (q := (c0 + 1)) C z_CF0 (by decide) flX0_9 hk0 (sh0_r0 hk0) dX0_sumOf_23 ?_
        refine z_iload_n C dX0_sumOf_26 rfl rfl ?_
        refine z_bipush (v := 8) C dX0_sumOf_27 (by decide) ?_
        refine z_imul C dX0_sumOf_29 ?_
        refine z_iload C dX0_sumOf_30 rfl ?_
        refine z_iadd C dX0_sumOf_32 ?_
        obtain ⟨b1, h⟩ := z_chk_some h
        refine z_iald C (sh0_k0 hk0) (sh0_l0 hk0) b1 dX0_sumOf_33 ?_
        refine z_iadd C dX0_sumOf_34 ?_
        obtain ⟨x2, ex2, h⟩ := z_let_some h
        refine z_top ex2 ?_
        refine z_istore_n (lo' := [some (.ref (z_a X c0)), some (.int v1), some (.int v2), some (.int x2), some (.int v4)]) C dX0_sumOf_35 rfl (Nat.le_of_ble_eq_true rfl) rfl ?_
        refine z_iinc (v := v4 + 1) (lo' := [some (.ref (z_a X c0)), some (.int v1), some (.int v2), some (.int x2), some (.int (v4 + 1))]) C dX0_sumOf_36 rfl rfl rfl ?_
        refine z_goto (tgt := 5) C dX0_sumOf_39 (by decide) ?_
        exact ih c0 v1 v2 x2 (v4 + 1) σ hk0 h
set_option maxHeartbeats 4000000 in
set_option maxRecDepth 100000 in
theorem t0_sumOf {a : Nat → Nat} (c0 : Nat) (p1 : Int32) (p2 : Int32) {σ : z_M} (hk0 : S1.1 c0 = 0) {u : Int32 × z_M} (h : f0_sumOf c0 p1 p2 σ = some u) : z_Mt yX0_sumOf (z_w yX0_sumOf cX0_sumOf 5 (some .int)) 1 S1 a σ [.ref (a c0), .int p1, .int p2] (z_oi u) := by
  refine z_head (lo := [some (.ref (a c0)), some (.int p1), some (.int p2), none, none]) (by decide) (Nat.le_of_ble_eq_true rfl) ?_ rfl ?_
  · intro i v hv
    exact z_loe (vs := [.ref (a c0), .int p1, .int p2]) (n := 2) rfl (by simp [z_c1i, z_c1r]) i v hv
  · intro X hXa C
    subst hXa
    unfold f0_sumOf at h
    refine z_iconst (v := 0) C dX0_sumOf_0 (by decide) ?_
    refine z_istore_n (lo' := [some (.ref (z_a X c0)), some (.int p1), some (.int p2), some (.int 0), none]) C dX0_sumOf_1 rfl (Nat.le_of_ble_eq_true rfl) rfl ?_
    refine z_iconst (v := 0) C dX0_sumOf_2 (by decide) ?_
    refine z_istore (lo' := [some (.ref (z_a X c0)), some (.int p1), some (.int p2), some (.int 0), some (.int 0)]) C dX0_sumOf_3 (Nat.le_of_ble_eq_true rfl) rfl ?_
    exact t0_sumOf_L5 C _ c0 p1 p2 0 0 σ hk0 h
set_option maxHeartbeats 4000000 in
set_option maxRecDepth 100000 in
theorem t6_findClashes_L23 {X : z_Ct} (C : z_Cx S1 X RX6 cX6_findClashes 3 2 none) {u : Unit × z_M} : ∀ (n : Nat) (c1 : Nat) (v2 : Int32) (σ : z_M),S1.1 c1 = 9 →  f6_findClashes_L23 n c1 v2 σ = some u → z_W S1 X 23 [some (.ref (z_a X 110)), some (.ref (z_a X c1)), some (.int v2)] [] σ (z_ov u) := by
  intro n
  induction n with
  | zero => intro c1 v2 σ hk1 h; rw [f6_findClashes_L23] at h; cases h
  | succ n ih =>
    intro c1 v2 σ hk1 h
    rw [f6_findClashes_L23] at h
    refine z_iload_n C dX6_findClashes_23 rfl rfl ?_
    refine z_aload_n C dX6_findClashes_24 rfl rfl ?_
    refine z_geti (k := 2) C z_CF9 (by decide) flX6_24 hk1 (sh9_n2 hk1) dX6_findClashes_25 ?_
    refine z_icmp_ge (tgt := 66) C dX6_findClashes_28 (by decide) (fun hc => ?_) (fun hc => ?_)
    · replace h := z_neg hc h
      exact z_vret C h dX6_findClashes_66
    · replace h := z_pos hc h
      refine z_aload_n C dX6_findClashes_31 rfl rfl ?_
      refine z_iload_n C dX6_findClashes_32 rfl rfl ?_
      refine z_iconst (v := 2) C dX6_findClashes_33 (by decide) ?_
      obtain ⟨r1, σ2, mσ2, h⟩ := z_bnd2 h
      refine z_cvi (As := [.int v2, .int 2]) (c := c1) (st := []) C (t9_at c1 v2 2 hk1 mσ2) kvX9_at rfl mlX6_34 z_CF9 hk1 rfl (by decide) rfl (Nat.le_of_ble_eq_true rfl) dX6_findClashes_34 ?_
      refine z_if_ne (tgt := 60) C dX6_findClashes_37 (by decide) (fun hc => ?_) (fun hc => ?_)
      · replace h := z_neg hc h
        refine z_iinc (v := v2 + 1) (lo' := [some (.ref (z_a X 110)), some (.ref (z_a X c1)), some (.int (v2 + 1))]) C dX6_findClashes_60 rfl rfl rfl ?_
        refine z_goto (tgt := 23) C dX6_findClashes_63 (by decide) ?_
        exact ih c1 (v2 + 1) σ2 hk1 h
      · replace h := z_pos hc h
        refine z_aload_n C dX6_findClashes_40 rfl rfl ?_
        refine z_geta (k := 0) (q := 111) C z_CF6 (by decide) flX6_9 rfl rfl dX6_findClashes_41 ?_
        refine z_aload_n C dX6_findClashes_44 rfl rfl ?_
        refine z_iload_n C dX6_findClashes_45 rfl rfl ?_
        refine z_iconst (v := 0) C dX6_findClashes_46 (by decide) ?_
        obtain ⟨r3, σ4, mσ4, h⟩ := z_bnd2 h
        refine z_cvi (As := [.int v2, .int 0]) (c := c1) (st := [.ref (z_a X 111)]) C (t9_at c1 v2 0 hk1 mσ4) kvX9_at rfl mlX6_34 z_CF9 hk1 rfl (by decide) rfl (Nat.le_of_ble_eq_true rfl) dX6_findClashes_47 ?_
        refine z_dup2 C dX6_findClashes_50 rfl rfl ?_
        obtain ⟨b5, h⟩ := z_chk_some h
        refine z_iald C rfl rfl b5 dX6_findClashes_51 ?_
        refine z_aload_n C dX6_findClashes_52 rfl rfl ?_
        refine z_iload_n C dX6_findClashes_53 rfl rfl ?_
        refine z_iconst (v := 1) C dX6_findClashes_54 (by decide) ?_
        obtain ⟨r6, σ7, mσ7, h⟩ := z_bnd2 h
        refine z_cvi (As := [.int v2, .int 1]) (c := c1) (st := [.int (σ4 111 (z_ix r3)), .int r3, .ref (z_a X 111)]) C (t9_at c1 v2 1 hk1 mσ7) kvX9_at rfl mlX6_34 z_CF9 hk1 rfl (by decide) rfl (Nat.le_of_ble_eq_true rfl) dX6_findClashes_55 ?_
        refine z_ior C dX6_findClashes_58 ?_
        obtain ⟨b8, h⟩ := z_chk_some h
        obtain ⟨σ9, eσ9, h⟩ := z_let_some h
        refine z_iast C rfl rfl b8 eσ9 dX6_findClashes_59 ?_
        refine z_iinc (v := v2 + 1) (lo' := [some (.ref (z_a X 110)), some (.ref (z_a X c1)), some (.int (v2 + 1))]) C dX6_findClashes_60 rfl rfl rfl ?_
        refine z_goto (tgt := 23) C dX6_findClashes_63 (by decide) ?_
        exact ih c1 (v2 + 1) σ9 hk1 h
set_option maxHeartbeats 4000000 in
set_option maxRecDepth 100000 in
theorem t6_findClashes_J21 {X : z_Ct} (C : z_Cx S1 X RX6 cX6_findClashes 3 2 none) {u : Unit × z_M} (c1 : Nat) (σ : z_M) (hk1 : S1.1 c1 = 9) (h : f6_findClashes_J21 c1 σ = some u) : z_W S1 X 21 [some (.ref (z_a X 110)), some (.ref (z_a X c1)), none] [] σ (z_ov u) := by
  unfold f6_findClashes_J21 at h
  refine z_iconst (v := 0) C dX6_findClashes_21 (by decide) ?_
  refine z_istore_n (lo' := [some (.ref (z_a X 110)), some (.ref (z_a X c1)), some (.int 0)]) C dX6_findClashes_22 rfl (Nat.le_of_ble_eq_true rfl) rfl ?_
  exact t6_findClashes_L23 C _ c1 0 σ hk1 h
set_option maxHeartbeats 4000000 in
set_option maxRecDepth 100000 in
theorem t6_findClashes_L2 {X : z_Ct} (C : z_Cx S1 X RX6 cX6_findClashes 3 2 none) {u : Unit × z_M} : ∀ (n : Nat) (c1 : Nat) (v2 : Int32) (σ : z_M),S1.1 c1 = 9 →  f6_findClashes_L2 n c1 v2 σ = some u → z_W S1 X 2 [some (.ref (z_a X 110)), some (.ref (z_a X c1)), some (.int v2)] [] σ (z_ov u) := by
  intro n
  induction n with
  | zero => intro c1 v2 σ hk1 h; rw [f6_findClashes_L2] at h; cases h
  | succ n ih =>
    intro c1 v2 σ hk1 h
    rw [f6_findClashes_L2] at h
    refine z_iload_n C dX6_findClashes_2 rfl rfl ?_
    refine z_bipush (v := 8) C dX6_findClashes_3 (by decide) ?_
    refine z_icmp_ge (tgt := 21) C dX6_findClashes_5 (by decide) (fun hc => ?_) (fun hc => ?_)
    · replace h := z_neg hc h
      refine z_kill (lo' := [some (.ref (z_a X 110)), some (.ref (z_a X c1)), none]) [2] rfl ?_
      exact t6_findClashes_J21 C c1 σ hk1 h
    · replace h := z_pos hc h
      refine z_aload_n C dX6_findClashes_8 rfl rfl ?_
      refine z_geta (k := 0) (q := 111) C z_CF6 (by decide) flX6_9 rfl rfl dX6_findClashes_9 ?_
      refine z_iload_n C dX6_findClashes_12 rfl rfl ?_
      refine z_iconst (v := 0) C dX6_findClashes_13 (by decide) ?_
      obtain ⟨b1, h⟩ := z_chk_some h
      obtain ⟨σ2, eσ2, h⟩ := z_let_some h
      refine z_iast C rfl rfl b1 eσ2 dX6_findClashes_14 ?_
      refine z_iinc (v := v2 + 1) (lo' := [some (.ref (z_a X 110)), some (.ref (z_a X c1)), some (.int (v2 + 1))]) C dX6_findClashes_15 rfl rfl rfl ?_
      refine z_goto (tgt := 2) C dX6_findClashes_18 (by decide) ?_
      exact ih c1 (v2 + 1) σ2 hk1 h
set_option maxHeartbeats 4000000 in
set_option maxRecDepth 100000 in
theorem t6_findClashes {a : Nat → Nat} (c1 : Nat) {σ : z_M} (hk1 : S1.1 c1 = 9) {u : Unit × z_M} (h : f6_findClashes c1 σ = some u) : z_Mt yX6_findClashes (z_w yX6_findClashes cX6_findClashes 3 none) 2 S1 a σ [.ref (a 110), .ref (a c1)] (z_ov u) := by
  refine z_head (lo := [some (.ref (a 110)), some (.ref (a c1)), none]) (by decide) (Nat.le_of_ble_eq_true rfl) ?_ rfl ?_
  · intro i v hv
    exact z_loe (vs := [.ref (a 110), .ref (a c1)]) (n := 1) rfl (by simp [z_c1i, z_c1r]) i v hv
  · intro X hXa C
    subst hXa
    unfold f6_findClashes at h
    refine z_iconst (v := 0) C dX6_findClashes_0 (by decide) ?_
    refine z_istore_n (lo' := [some (.ref (z_a X 110)), some (.ref (z_a X c1)), some (.int 0)]) C dX6_findClashes_1 rfl (Nat.le_of_ble_eq_true rfl) rfl ?_
    exact t6_findClashes_L2 C _ c1 0 σ hk1 h
set_option maxHeartbeats 4000000 in
set_option maxRecDepth 100000 in
theorem t6_isAtPeace_L2 {X : z_Ct} (C : z_Cx S1 X RX6 cX6_isAtPeace 3 1 (some .boolean)) {u : Int32 × z_M} : ∀ (n : Nat) (v1 : Int32) (v2 : Int32) (σ : z_M), f6_isAtPeace_L2 n v1 v2 σ = some u → z_W S1 X 2 [some (.ref (z_a X 110)), some (.int v1), some (.int v2)] [] σ (z_oi u) := by
  intro n
  induction n with
  | zero => intro v1 v2 σ h; rw [f6_isAtPeace_L2] at h; cases h
  | succ n ih =>
    intro v1 v2 σ h
    rw [f6_isAtPeace_L2] at h
    refine z_iload_n C dX6_isAtPeace_2 rfl rfl ?_
    refine z_bipush (v := 8) C dX6_isAtPeace_3 (by decide) ?_
    refine z_icmp_ge (tgt := 35) C dX6_isAtPeace_5 (by decide) (fun hc => ?_) (fun hc => ?_)
    · replace h := z_neg hc h
      refine z_iconst (v := 1) C dX6_isAtPeace_35 (by decide) ?_
      exact z_zret C (by decide) h dX6_isAtPeace_36
    · replace h := z_pos hc h
      refine z_iload_n C dX6_isAtPeace_8 rfl rfl ?_
      refine z_iload_n C dX6_isAtPeace_9 rfl rfl ?_
      refine z_ishr C dX6_isAtPeace_10 ?_
      refine z_iconst (v := 1) C dX6_isAtPeace_11 (by decide) ?_
      refine z_iand C dX6_isAtPeace_12 ?_
      refine z_if_eq (tgt := 29) C dX6_isAtPeace_13 (by decide) (fun hc => ?_) (fun hc => ?_)
      · replace h := z_pos hc h
        refine z_iinc (v := v2 + 1) (lo' := [some (.ref (z_a X 110)), some (.int v1), some (.int (v2 + 1))]) C dX6_isAtPeace_29 rfl rfl rfl ?_
        refine z_goto (tgt := 2) C dX6_isAtPeace_32 (by decide) ?_
        exact ih v1 (v2 + 1) σ h
      · replace h := z_neg hc h
        refine z_aload_n C dX6_isAtPeace_16 rfl rfl ?_
        refine z_geta (k := 0) (q := 111) C z_CF6 (by decide) flX6_9 rfl rfl dX6_isAtPeace_17 ?_
        refine z_iload_n C dX6_isAtPeace_20 rfl rfl ?_
        obtain ⟨b1, h⟩ := z_chk_some h
        refine z_iald C rfl rfl b1 dX6_isAtPeace_21 ?_
        refine z_iload_n C dX6_isAtPeace_22 rfl rfl ?_
        refine z_iand C dX6_isAtPeace_23 ?_
        refine z_if_eq (tgt := 29) C dX6_isAtPeace_24 (by decide) (fun hc => ?_) (fun hc => ?_)
        · replace h := z_pos hc h
          refine z_iinc (v := v2 + 1) (lo' := [some (.ref (z_a X 110)), some (.int v1), some (.int (v2 + 1))]) C dX6_isAtPeace_29 rfl rfl rfl ?_
          refine z_goto (tgt := 2) C dX6_isAtPeace_32 (by decide) ?_
          exact ih v1 (v2 + 1) σ h
        · replace h := z_neg hc h
          refine z_iconst (v := 0) C dX6_isAtPeace_27 (by decide) ?_
          exact z_zret C (by decide) h dX6_isAtPeace_28
set_option maxHeartbeats 4000000 in
set_option maxRecDepth 100000 in
theorem t6_isAtPeace {a : Nat → Nat} (p1 : Int32) {σ : z_M} {u : Int32 × z_M} (h : f6_isAtPeace p1 σ = some u) : z_Mt yX6_isAtPeace (z_w yX6_isAtPeace cX6_isAtPeace 3 (some .boolean)) 1 S1 a σ [.ref (a 110), .int p1] (z_oi u) := by
  refine z_head (lo := [some (.ref (a 110)), some (.int p1), none]) (by decide) (Nat.le_of_ble_eq_true rfl) ?_ rfl ?_
  · intro i v hv
    exact z_loe (vs := [.ref (a 110), .int p1]) (n := 1) rfl (by simp [z_c1i, z_c1r]) i v hv
  · intro X hXa C
    subst hXa
    unfold f6_isAtPeace at h
    refine z_iconst (v := 0) C dX6_isAtPeace_0 (by decide) ?_
    refine z_istore_n (lo' := [some (.ref (z_a X 110)), some (.int p1), some (.int 0)]) C dX6_isAtPeace_1 rfl (Nat.le_of_ble_eq_true rfl) rfl ?_
    exact t6_isAtPeace_L2 C _ p1 0 σ h
set_option maxHeartbeats 4000000 in
set_option maxRecDepth 100000 in
theorem t6_toStrike_L34 {X : z_Ct} (C : z_Cx S1 X RX6 cX6_toStrike 8 3 (some .int)) {u : Int32 × z_M} : ∀ (n : Nat) (c1 : Nat) (v2 : Int32) (v3 : Int32) (v4 : Int32) (v5 : Int32) (v6 : Int32) (σ : z_M),S1.1 c1 = 1 →  f6_toStrike_L34 n c1 v2 v3 v4 v5 v6 σ = some u → z_W S1 X 34 [some (.ref (z_a X 110)), some (.ref (z_a X c1)), some (.int v2), some (.int v3), some (.int v4), some (.int v5), some (.int v6), none] [] σ (z_oi u) := by
  intro n
  induction n with
  | zero => intro c1 v2 v3 v4 v5 v6 σ hk1 h; rw [f6_toStrike_L34] at h; cases h
  | succ n ih =>
    intro c1 v2 v3 v4 v5 v6 σ hk1 h
    rw [f6_toStrike_L34] at h
    refine z_iload C dX6_toStrike_34 rfl ?_
    refine z_sipush (v := 256) C dX6_toStrike_36 (by decide) ?_
    refine z_icmp_ge (tgt := 97) C dX6_toStrike_39 (by decide) (fun hc => ?_) (fun hc => ?_)
    · replace h := z_neg hc h
      refine z_iload C dX6_toStrike_97 rfl ?_
      exact z_iret C h dX6_toStrike_99
    · replace h := z_pos hc h
      refine z_iload C dX6_toStrike_42 rfl ?_
      refine z_iload_n C dX6_toStrike_44 rfl rfl ?_
      refine z_iconst (v := (-1)) C dX6_toStrike_45 (by decide) ?_
      refine z_ixor C dX6_toStrike_46 ?_
      refine z_iand C dX6_toStrike_47 ?_
      refine z_if_ne (tgt := 91) C dX6_toStrike_48 (by decide) (fun hc => ?_) (fun hc => ?_)
      · replace h := z_neg hc h
        refine z_iinc (v := v6 + 1) (lo' := [some (.ref (z_a X 110)), some (.ref (z_a X c1)), some (.int v2), some (.int v3), some (.int v4), some (.int v5), some (.int (v6 + 1)), none]) C dX6_toStrike_91 rfl rfl rfl ?_
        refine z_goto (tgt := 34) C dX6_toStrike_94 (by decide) ?_
        exact ih c1 v2 v3 v4 v5 (v6 + 1) σ hk1 h
      · replace h := z_pos hc h
        refine z_aload_n C dX6_toStrike_51 rfl rfl ?_
        refine z_iload_n C dX6_toStrike_52 rfl rfl ?_
        refine z_iload C dX6_toStrike_53 rfl ?_
        refine z_iconst (v := (-1)) C dX6_toStrike_55 (by decide) ?_
        refine z_ixor C dX6_toStrike_56 ?_
        refine z_iand C dX6_toStrike_57 ?_
        obtain ⟨r1, σ2, mσ2, h⟩ := z_bnd2 h
        refine z_cvi (As := [.int (v3 &&& (v6 ^^^ (-1)))]) (c := 110) (st := []) C (t6_isAtPeace (v3 &&& (v6 ^^^ (-1))) mσ2) kvX6_isAtPeace rfl mlX6_57 z_CF6 rfl rfl (by decide) rfl (Nat.le_of_ble_eq_true rfl) dX6_toStrike_58 ?_
        refine z_if_eq (tgt := 91) C dX6_toStrike_61 (by decide) (fun hc => ?_) (fun hc => ?_)
        · replace h := z_pos hc h
          refine z_iinc (v := v6 + 1) (lo' := [some (.ref (z_a X 110)), some (.ref (z_a X c1)), some (.int v2), some (.int v3), some (.int v4), some (.int v5), some (.int (v6 + 1)), none]) C dX6_toStrike_91 rfl rfl rfl ?_
          refine z_goto (tgt := 34) C dX6_toStrike_94 (by decide) ?_
          exact ih c1 v2 v3 v4 v5 (v6 + 1) σ2 hk1 h
        · replace h := z_neg hc h
          refine z_aload_n C dX6_toStrike_64 rfl rfl ?_
          refine z_geta (k := 13) (q := (c1 + 17)) C z_CF1 (by decide) flX6_30 hk1 (sh1_r13 hk1) dX6_toStrike_65 ?_
          refine z_iload_n C dX6_toStrike_68 rfl rfl ?_
          refine z_iload C dX6_toStrike_69 rfl ?_
          obtain ⟨r3, σ4, mσ4, h⟩ := z_bnd2 h
          refine z_cvi (As := [.int v2, .int v6]) (c := (c1 + 17)) (st := []) C (t0_sumOf (c1 + 17) v2 v6 (sh1_k13 hk1) mσ4) kvX0_sumOf rfl mlX6_54 z_CF0 (sh1_k13 hk1) rfl (by decide) rfl (Nat.le_of_ble_eq_true rfl) dX6_toStrike_71 ?_
          refine z_istore (lo' := [some (.ref (z_a X 110)), some (.ref (z_a X c1)), some (.int v2), some (.int v3), some (.int v4), some (.int v5), some (.int v6), some (.int r3)]) C dX6_toStrike_74 (Nat.le_of_ble_eq_true rfl) rfl ?_
          refine z_iload C dX6_toStrike_76 rfl ?_
          refine z_iload C dX6_toStrike_78 rfl ?_
          refine z_icmp_ge (tgt := 91) C dX6_toStrike_80 (by decide) (fun hc => ?_) (fun hc => ?_)
          · replace h := z_neg hc h
            refine z_iinc (v := v6 + 1) (lo' := [some (.ref (z_a X 110)), some (.ref (z_a X c1)), some (.int v2), some (.int v3), some (.int v4), some (.int v5), some (.int (v6 + 1)), some (.int r3)]) C dX6_toStrike_91 rfl rfl rfl ?_
            refine z_goto (tgt := 34) C dX6_toStrike_94 (by decide) ?_
            refine z_kill (lo' := [some (.ref (z_a X 110)), some (.ref (z_a X c1)), some (.int v2), some (.int v3), some (.int v4), some (.int v5), some (.int (v6 + 1)), none]) [7] rfl ?_
            exact ih c1 v2 v3 v4 v5 (v6 + 1) σ4 hk1 h
          · replace h := z_pos hc h
            refine z_iload C dX6_toStrike_83 rfl ?_
            refine z_istore (lo' := [some (.ref (z_a X 110)), some (.ref (z_a X c1)), some (.int v2), some (.int v3), some (.int v4), some (.int r3), some (.int v6), some (.int r3)]) C dX6_toStrike_85 (Nat.le_of_ble_eq_true rfl) rfl ?_
            refine z_iload C dX6_toStrike_87 rfl ?_
            refine z_istore (lo' := [some (.ref (z_a X 110)), some (.ref (z_a X c1)), some (.int v2), some (.int v3), some (.int v6), some (.int r3), some (.int v6), some (.int r3)]) C dX6_toStrike_89 (Nat.le_of_ble_eq_true rfl) rfl ?_
            refine z_iinc (v := v6 + 1) (lo' := [some (.ref (z_a X 110)), some (.ref (z_a X c1)), some (.int v2), some (.int v3), some (.int v6), some (.int r3), some (.int (v6 + 1)), some (.int r3)]) C dX6_toStrike_91 rfl rfl rfl ?_
            refine z_goto (tgt := 34) C dX6_toStrike_94 (by decide) ?_
            refine z_kill (lo' := [some (.ref (z_a X 110)), some (.ref (z_a X c1)), some (.int v2), some (.int v3), some (.int v6), some (.int r3), some (.int (v6 + 1)), none]) [7] rfl ?_
            exact ih c1 v2 v3 v6 r3 (v6 + 1) σ4 hk1 h
set_option maxHeartbeats 4000000 in
set_option maxRecDepth 100000 in
theorem t6_toStrike {a : Nat → Nat} (c1 : Nat) (p2 : Int32) {σ : z_M} (hk1 : S1.1 c1 = 1) {u : Int32 × z_M} (h : f6_toStrike c1 p2 σ = some u) : z_Mt yX6_toStrike (z_w yX6_toStrike cX6_toStrike 8 (some .int)) 3 S1 a σ [.ref (a 110), .ref (a c1), .int p2] (z_oi u) := by
  refine z_head (lo := [some (.ref (a 110)), some (.ref (a c1)), some (.int p2), none, none, none, none, none]) (by decide) (Nat.le_of_ble_eq_true rfl) ?_ rfl ?_
  · intro i v hv
    exact z_loe (vs := [.ref (a 110), .ref (a c1), .int p2]) (n := 5) rfl (by simp [z_c1i, z_c1r]) i v hv
  · intro X hXa C
    subst hXa
    unfold f6_toStrike at h
    refine z_aload_n C dX6_toStrike_0 rfl rfl ?_
    refine z_aload_n C dX6_toStrike_1 rfl rfl ?_
    refine z_geta (k := 6) (q := (c1 + 3)) C z_CF1 (by decide) flX6_43 hk1 (sh1_r6 hk1) dX6_toStrike_2 ?_
    obtain ⟨⟨⟩, σ2, mσ2, h⟩ := z_bnd2 h
    refine z_cvv (As := [.ref (z_a X (c1 + 3))]) (c := 110) (st := []) C (t6_findClashes (c1 + 3) (sh1_k6 hk1) mσ2) kvX6_findClashes rfl mlX6_46 z_CF6 rfl rfl (by decide) rfl (Nat.le_of_ble_eq_true rfl) dX6_toStrike_5 ?_
    refine z_aload_n C dX6_toStrike_8 rfl rfl ?_
    refine z_geta (k := 13) (q := (c1 + 17)) C z_CF1 (by decide) flX6_30 hk1 (sh1_r13 hk1) dX6_toStrike_9 ?_
    refine z_iload_n C dX6_toStrike_12 rfl rfl ?_
    obtain ⟨r3, σ4, mσ4, h⟩ := z_bnd2 h
    refine z_cvi (As := [.int p2]) (c := (c1 + 17)) (st := []) C (t0_sureOf (c1 + 17) p2 (sh1_k13 hk1) mσ4) kvX0_sureOf rfl mlX6_50 z_CF0 (sh1_k13 hk1) rfl (by decide) rfl (Nat.le_of_ble_eq_true rfl) dX6_toStrike_13 ?_
    refine z_istore_n (lo' := [some (.ref (z_a X 110)), some (.ref (z_a X c1)), some (.int p2), some (.int r3), none, none, none, none]) C dX6_toStrike_16 rfl (Nat.le_of_ble_eq_true rfl) rfl ?_
    refine z_iload_n C dX6_toStrike_17 rfl rfl ?_
    refine z_istore (lo' := [some (.ref (z_a X 110)), some (.ref (z_a X c1)), some (.int p2), some (.int r3), some (.int r3), none, none, none]) C dX6_toStrike_18 (Nat.le_of_ble_eq_true rfl) rfl ?_
    refine z_aload_n C dX6_toStrike_20 rfl rfl ?_
    refine z_geta (k := 13) (q := (c1 + 17)) C z_CF1 (by decide) flX6_30 hk1 (sh1_r13 hk1) dX6_toStrike_21 ?_
    refine z_iload_n C dX6_toStrike_24 rfl rfl ?_
    refine z_iload_n C dX6_toStrike_25 rfl rfl ?_
    obtain ⟨r5, σ6, mσ6, h⟩ := z_bnd2 h
    refine z_cvi (As := [.int p2, .int r3]) (c := (c1 + 17)) (st := []) C (t0_sumOf (c1 + 17) p2 r3 (sh1_k13 hk1) mσ6) kvX0_sumOf rfl mlX6_54 z_CF0 (sh1_k13 hk1) rfl (by decide) rfl (Nat.le_of_ble_eq_true rfl) dX6_toStrike_26 ?_
    refine z_istore (lo' := [some (.ref (z_a X 110)), some (.ref (z_a X c1)), some (.int p2), some (.int r3), some (.int r3), some (.int r5), none, none]) C dX6_toStrike_29 (Nat.le_of_ble_eq_true rfl) rfl ?_
    refine z_iconst (v := 0) C dX6_toStrike_31 (by decide) ?_
    refine z_istore (lo' := [some (.ref (z_a X 110)), some (.ref (z_a X c1)), some (.int p2), some (.int r3), some (.int r3), some (.int r5), some (.int 0), none]) C dX6_toStrike_32 (Nat.le_of_ble_eq_true rfl) rfl ?_
    exact t6_toStrike_L34 C _ c1 p2 r3 r3 r5 0 σ6 hk1 h
set_option maxHeartbeats 4000000 in
set_option maxRecDepth 100000 in
theorem t11_struck {a : Nat → Nat} (p1 : Int32) (p2 : Int32) {σ : z_M} {u : Int32 × z_M} (h : f11_struck p1 p2 σ = some u) : z_Mt yX11_struck (z_w yX11_struck cX11_struck 4 (some .int)) 4 S1 a σ [.ref (a 0), .int p1, .int p2] (z_oi u) := by
  refine z_head (lo := [some (.ref (a 0)), some (.int p1), some (.int p2), none]) (by decide) (Nat.le_of_ble_eq_true rfl) ?_ rfl ?_
  · intro i v hv
    exact z_loe (vs := [.ref (a 0), .int p1, .int p2]) (n := 1) rfl (by simp [z_c1i, z_c1r]) i v hv
  · intro X hXa C
    subst hXa
    unfold f11_struck at h
    refine z_aload_n C dX11_struck_0 rfl rfl ?_
    refine z_iload_n C dX11_struck_1 rfl rfl ?_
    obtain ⟨r1, σ2, mσ2, h⟩ := z_bnd2 h
    refine z_cvi (As := [.int p1]) (c := 0) (st := []) C (t11_isHouse p1 mσ2) kvX11_isHouse rfl mlX11_165 z_CF11 rfl rfl (by decide) rfl (Nat.le_of_ble_eq_true rfl) dX11_struck_2 ?_
    refine z_if_eq (tgt := 17) C dX11_struck_5 (by decide) (fun hc => ?_) (fun hc => ?_)
    · replace h := z_pos hc h
      refine z_iconst (v := (-1)) C dX11_struck_17 (by decide) ?_
      exact z_iret C h dX11_struck_18
    · replace h := z_neg hc h
      refine z_iload_n C dX11_struck_8 rfl rfl ?_
      refine z_if_lt (tgt := 17) C dX11_struck_9 (by decide) (fun hc => ?_) (fun hc => ?_)
      · replace h := z_pos hc h
        refine z_iconst (v := (-1)) C dX11_struck_17 (by decide) ?_
        exact z_iret C h dX11_struck_18
      · replace h := z_neg hc h
        refine z_iload_n C dX11_struck_12 rfl rfl ?_
        refine z_iconst (v := 1) C dX11_struck_13 (by decide) ?_
        refine z_icmp_le (tgt := 19) C dX11_struck_14 (by decide) (fun hc => ?_) (fun hc => ?_)
        · replace h := z_neg hc h
          refine z_aload_n C dX11_struck_19 rfl rfl ?_
          refine z_geta (k := 10) (q := 110) C z_CF11 (by decide) flX11_82 rfl rfl dX11_struck_20 ?_
          refine z_aload_n C dX11_struck_23 rfl rfl ?_
          refine z_geta (k := 0) (q := 1) C z_CF11 (by decide) flX11_10 rfl rfl dX11_struck_24 ?_
          refine z_iload_n C dX11_struck_27 rfl rfl ?_
          obtain ⟨r3, σ4, mσ4, h⟩ := z_bnd2 h
          refine z_cvi (As := [.ref (z_a X 1), .int p1]) (c := 110) (st := []) C (t6_toStrike 1 p1 rfl mσ4) kvX6_toStrike rfl mlX11_271 z_CF6 rfl rfl (by decide) rfl (Nat.le_of_ble_eq_true rfl) dX11_struck_28 ?_
          refine z_istore_n (lo' := [some (.ref (z_a X 0)), some (.int p1), some (.int p2), some (.int r3)]) C dX11_struck_31 rfl (Nat.le_of_ble_eq_true rfl) rfl ?_
          refine z_iload_n C dX11_struck_32 rfl rfl ?_
          refine z_iconst (v := 1) C dX11_struck_33 (by decide) ?_
          refine z_icmp_ne (tgt := 41) C dX11_struck_34 (by decide) (fun hc => ?_) (fun hc => ?_)
          · replace h := z_neg hc h
            refine z_aload_n C dX11_struck_41 rfl rfl ?_
            refine z_geta (k := 0) (q := 1) C z_CF11 (by decide) flX11_10 rfl rfl dX11_struck_42 ?_
            refine z_geta (k := 13) (q := 18) C z_CF1 (by decide) flX11_32 rfl rfl dX11_struck_45 ?_
            refine z_iload_n C dX11_struck_48 rfl rfl ?_
            refine z_iload_n C dX11_struck_49 rfl rfl ?_
            obtain ⟨r5, σ6, mσ6, h⟩ := z_bnd2 h
            refine z_cvi (As := [.int p1, .int r3]) (c := 18) (st := []) C (t0_sumOf 18 p1 r3 rfl mσ6) kvX0_sumOf rfl mlX11_275 z_CF0 rfl rfl (by decide) rfl (Nat.le_of_ble_eq_true rfl) dX11_struck_50 ?_
            exact z_iret C h dX11_struck_53
          · replace h := z_pos hc h
            refine z_iload_n C dX11_struck_37 rfl rfl ?_
            refine z_goto (tgt := 53) C dX11_struck_38 (by decide) ?_
            exact z_iret C h dX11_struck_53
        · replace h := z_pos hc h
          refine z_iconst (v := (-1)) C dX11_struck_17 (by decide) ?_
          exact z_iret C h dX11_struck_18
set_option maxHeartbeats 4000000 in
set_option maxRecDepth 100000 in
theorem t6_follows_L5 {X : z_Ct} (C : z_Cx S1 X RX6 cX6_follows 5 2 (some .int)) {u : Int32 × z_M} : ∀ (n : Nat) (c1 : Nat) (v2 : Int32) (v3 : Int32) (v4 : Int32) (σ : z_M),S1.1 c1 = 9 →  f6_follows_L5 n c1 v2 v3 v4 σ = some u → z_W S1 X 5 [none, some (.ref (z_a X c1)), some (.int v2), some (.int v3), some (.int v4)] [] σ (z_oi u) := by
  intro n
  induction n with
  | zero => intro c1 v2 v3 v4 σ hk1 h; rw [f6_follows_L5] at h; cases h
  | succ n ih =>
    intro c1 v2 v3 v4 σ hk1 h
    rw [f6_follows_L5] at h
    refine z_iload C dX6_follows_5 rfl ?_
    refine z_aload_n C dX6_follows_7 rfl rfl ?_
    refine z_geti (k := 2) C z_CF9 (by decide) flX6_24 hk1 (sh9_n2 hk1) dX6_follows_8 ?_
    refine z_icmp_ge (tgt := 56) C dX6_follows_11 (by decide) (fun hc => ?_) (fun hc => ?_)
    · replace h := z_neg hc h
      refine z_iload_n C dX6_follows_56 rfl rfl ?_
      exact z_iret C h dX6_follows_57
    · replace h := z_pos hc h
      refine z_aload_n C dX6_follows_14 rfl rfl ?_
      refine z_iload C dX6_follows_15 rfl ?_
      refine z_iconst (v := 2) C dX6_follows_17 (by decide) ?_
      obtain ⟨r1, σ2, mσ2, h⟩ := z_bnd2 h
      refine z_cvi (As := [.int v4, .int 2]) (c := c1) (st := []) C (t9_at c1 v4 2 hk1 mσ2) kvX9_at rfl mlX6_34 z_CF9 hk1 rfl (by decide) rfl (Nat.le_of_ble_eq_true rfl) dX6_follows_18 ?_
      refine z_if_le (tgt := 50) C dX6_follows_21 (by decide) (fun hc => ?_) (fun hc => ?_)
      · replace h := z_neg hc h
        refine z_iinc (v := v4 + 1) (lo' := [none, some (.ref (z_a X c1)), some (.int v2), some (.int v3), some (.int (v4 + 1))]) C dX6_follows_50 rfl rfl rfl ?_
        refine z_goto (tgt := 5) C dX6_follows_53 (by decide) ?_
        exact ih c1 v2 v3 (v4 + 1) σ2 hk1 h
      · replace h := z_pos hc h
        refine z_aload_n C dX6_follows_24 rfl rfl ?_
        refine z_iload C dX6_follows_25 rfl ?_
        refine z_iconst (v := 1) C dX6_follows_27 (by decide) ?_
        obtain ⟨r3, σ4, mσ4, h⟩ := z_bnd2 h
        refine z_cvi (As := [.int v4, .int 1]) (c := c1) (st := []) C (t9_at c1 v4 1 hk1 mσ4) kvX9_at rfl mlX6_34 z_CF9 hk1 rfl (by decide) rfl (Nat.le_of_ble_eq_true rfl) dX6_follows_28 ?_
        refine z_iload_n C dX6_follows_31 rfl rfl ?_
        refine z_iconst (v := (-1)) C dX6_follows_32 (by decide) ?_
        refine z_ixor C dX6_follows_33 ?_
        refine z_iand C dX6_follows_34 ?_
        refine z_if_ne (tgt := 50) C dX6_follows_35 (by decide) (fun hc => ?_) (fun hc => ?_)
        · replace h := z_neg hc h
          refine z_iinc (v := v4 + 1) (lo' := [none, some (.ref (z_a X c1)), some (.int v2), some (.int v3), some (.int (v4 + 1))]) C dX6_follows_50 rfl rfl rfl ?_
          refine z_goto (tgt := 5) C dX6_follows_53 (by decide) ?_
          exact ih c1 v2 v3 (v4 + 1) σ4 hk1 h
        · replace h := z_pos hc h
          refine z_iload_n C dX6_follows_38 rfl rfl ?_
          refine z_iconst (v := 1) C dX6_follows_39 (by decide) ?_
          refine z_aload_n C dX6_follows_40 rfl rfl ?_
          refine z_iload C dX6_follows_41 rfl ?_
          refine z_iconst (v := 0) C dX6_follows_43 (by decide) ?_
          obtain ⟨r5, σ6, mσ6, h⟩ := z_bnd2 h
          refine z_cvi (As := [.int v4, .int 0]) (c := c1) (st := [.int 1, .int v3]) C (t9_at c1 v4 0 hk1 mσ6) kvX9_at rfl mlX6_34 z_CF9 hk1 rfl (by decide) rfl (Nat.le_of_ble_eq_true rfl) dX6_follows_44 ?_
          refine z_ishl C dX6_follows_47 ?_
          refine z_ior C dX6_follows_48 ?_
          refine z_istore_n (lo' := [none, some (.ref (z_a X c1)), some (.int v2), some (.int (v3 ||| (z_shl 1 r5))), some (.int v4)]) C dX6_follows_49 rfl (Nat.le_of_ble_eq_true rfl) rfl ?_
          refine z_iinc (v := v4 + 1) (lo' := [none, some (.ref (z_a X c1)), some (.int v2), some (.int (v3 ||| (z_shl 1 r5))), some (.int (v4 + 1))]) C dX6_follows_50 rfl rfl rfl ?_
          refine z_goto (tgt := 5) C dX6_follows_53 (by decide) ?_
          exact ih c1 v2 (v3 ||| (z_shl 1 r5)) (v4 + 1) σ6 hk1 h
set_option maxHeartbeats 4000000 in
set_option maxRecDepth 100000 in
theorem t6_follows {a : Nat → Nat} (c1 : Nat) (p2 : Int32) {σ : z_M} (hk1 : S1.1 c1 = 9) {u : Int32 × z_M} (h : f6_follows c1 p2 σ = some u) : z_Mt yX6_follows (z_w yX6_follows cX6_follows 5 (some .int)) 2 S1 a σ [.ref (a 110), .ref (a c1), .int p2] (z_oi u) := by
  refine z_head (lo := [some (.ref (a 110)), some (.ref (a c1)), some (.int p2), none, none]) (by decide) (Nat.le_of_ble_eq_true rfl) ?_ rfl ?_
  · intro i v hv
    exact z_loe (vs := [.ref (a 110), .ref (a c1), .int p2]) (n := 2) rfl (by simp [z_c1i, z_c1r]) i v hv
  · intro X hXa C
    subst hXa
    unfold f6_follows at h
    refine z_iconst (v := 0) C dX6_follows_0 (by decide) ?_
    refine z_istore_n (lo' := [some (.ref (z_a X 110)), some (.ref (z_a X c1)), some (.int p2), some (.int 0), none]) C dX6_follows_1 rfl (Nat.le_of_ble_eq_true rfl) rfl ?_
    refine z_iconst (v := 0) C dX6_follows_2 (by decide) ?_
    refine z_istore (lo' := [some (.ref (z_a X 110)), some (.ref (z_a X c1)), some (.int p2), some (.int 0), some (.int 0)]) C dX6_follows_3 (Nat.le_of_ble_eq_true rfl) rfl ?_
    refine z_kill (lo' := [none, some (.ref (z_a X c1)), some (.int p2), some (.int 0), some (.int 0)]) [0] rfl ?_
    exact t6_follows_L5 C _ c1 p2 0 0 σ hk1 h
set_option maxHeartbeats 4000000 in
set_option maxRecDepth 100000 in
theorem t6_falls_J113 {X : z_Ct} (C : z_Cx S1 X RX6 cX6_falls 8 3 (some .int)) {u : Int32 × z_M} (v4 : Int32) (v6 : Int32) (σ : z_M) (h : f6_falls_J113 v4 v6 σ = some u) : z_W S1 X 113 [none, none, none, none, some (.int v4), none, some (.int v6), none] [] σ (z_oi u) := by
  unfold f6_falls_J113 at h
  refine z_iload C dX6_falls_113 rfl ?_
  refine z_iload C dX6_falls_115 rfl ?_
  refine z_iconst (v := (-1)) C dX6_falls_117 (by decide) ?_
  refine z_ixor C dX6_falls_118 ?_
  refine z_iand C dX6_falls_119 ?_
  exact z_iret C h dX6_falls_120
set_option maxHeartbeats 4000000 in
set_option maxRecDepth 100000 in
theorem t6_falls_L82 {X : z_Ct} (C : z_Cx S1 X RX6 cX6_falls 8 3 (some .int)) {u : Int32 × z_M} : ∀ (n : Nat) (c1 : Nat) (v4 : Int32) (v6 : Int32) (v7 : Int32) (σ : z_M),S1.1 c1 = 1 →  f6_falls_L82 n c1 v4 v6 v7 σ = some u → z_W S1 X 82 [some (.ref (z_a X 110)), some (.ref (z_a X c1)), none, none, some (.int v4), none, some (.int v6), some (.int v7)] [] σ (z_oi u) := by
  intro n
  induction n with
  | zero => intro c1 v4 v6 v7 σ hk1 h; rw [f6_falls_L82] at h; cases h
  | succ n ih =>
    intro c1 v4 v6 v7 σ hk1 h
    rw [f6_falls_L82] at h
    refine z_iload C dX6_falls_82 rfl ?_
    refine z_bipush (v := 8) C dX6_falls_84 (by decide) ?_
    refine z_icmp_ge (tgt := 113) C dX6_falls_86 (by decide) (fun hc => ?_) (fun hc => ?_)
    · replace h := z_neg hc h
      refine z_kill (lo' := [none, none, none, none, some (.int v4), none, some (.int v6), none]) [0, 1, 7] rfl ?_
      exact t6_falls_J113 C v4 v6 σ h
    · replace h := z_pos hc h
      refine z_iload C dX6_falls_89 rfl ?_
      refine z_iload C dX6_falls_91 rfl ?_
      refine z_aload_n C dX6_falls_93 rfl rfl ?_
      refine z_aload_n C dX6_falls_94 rfl rfl ?_
      refine z_geta (k := 6) (q := (c1 + 3)) C z_CF1 (by decide) flX6_43 hk1 (sh1_r6 hk1) dX6_falls_95 ?_
      refine z_iload C dX6_falls_98 rfl ?_
      obtain ⟨r1, σ2, mσ2, h⟩ := z_bnd2 h
      refine z_cvi (As := [.ref (z_a X (c1 + 3)), .int v6]) (c := 110) (st := [.int v4, .int v6]) C (t6_follows (c1 + 3) v6 (sh1_k6 hk1) mσ2) kvX6_follows rfl mlX6_61 z_CF6 rfl rfl (by decide) rfl (Nat.le_of_ble_eq_true rfl) dX6_falls_100 ?_
      refine z_iand C dX6_falls_103 ?_
      refine z_ior C dX6_falls_104 ?_
      refine z_istore (lo' := [some (.ref (z_a X 110)), some (.ref (z_a X c1)), none, none, some (.int v4), none, some (.int (v6 ||| (v4 &&& r1))), some (.int v7)]) C dX6_falls_105 (Nat.le_of_ble_eq_true rfl) rfl ?_
      refine z_iinc (v := v7 + 1) (lo' := [some (.ref (z_a X 110)), some (.ref (z_a X c1)), none, none, some (.int v4), none, some (.int (v6 ||| (v4 &&& r1))), some (.int (v7 + 1))]) C dX6_falls_107 rfl rfl rfl ?_
      refine z_goto (tgt := 82) C dX6_falls_110 (by decide) ?_
      exact ih c1 v4 (v6 ||| (v4 &&& r1)) (v7 + 1) σ2 hk1 h
set_option maxHeartbeats 4000000 in
set_option maxRecDepth 100000 in
theorem t6_falls_J70 {X : z_Ct} (C : z_Cx S1 X RX6 cX6_falls 8 3 (some .int)) {u : Int32 × z_M} (c1 : Nat) (v4 : Int32) (v5 : Int32) (σ : z_M) (hk1 : S1.1 c1 = 1) (h : f6_falls_J70 c1 v4 v5 σ = some u) : z_W S1 X 70 [some (.ref (z_a X 110)), some (.ref (z_a X c1)), none, none, some (.int v4), some (.int v5), none, none] [] σ (z_oi u) := by
  unfold f6_falls_J70 at h
  refine z_iload C dX6_falls_70 rfl ?_
  refine z_iload C dX6_falls_72 rfl ?_
  refine z_iconst (v := (-1)) C dX6_falls_74 (by decide) ?_
  refine z_ixor C dX6_falls_75 ?_
  refine z_iand C dX6_falls_76 ?_
  refine z_istore (lo' := [some (.ref (z_a X 110)), some (.ref (z_a X c1)), none, none, some (.int v4), some (.int v5), some (.int (v4 &&& (v5 ^^^ (-1)))), none]) C dX6_falls_77 (Nat.le_of_ble_eq_true rfl) rfl ?_
  refine z_iconst (v := 0) C dX6_falls_79 (by decide) ?_
  refine z_istore (lo' := [some (.ref (z_a X 110)), some (.ref (z_a X c1)), none, none, some (.int v4), some (.int v5), some (.int (v4 &&& (v5 ^^^ (-1)))), some (.int 0)]) C dX6_falls_80 (Nat.le_of_ble_eq_true rfl) rfl ?_
  refine z_kill (lo' := [some (.ref (z_a X 110)), some (.ref (z_a X c1)), none, none, some (.int v4), none, some (.int (v4 &&& (v5 ^^^ (-1)))), some (.int 0)]) [5] rfl ?_
  exact t6_falls_L82 C _ c1 v4 (v4 &&& (v5 ^^^ (-1))) 0 σ hk1 h
set_option maxHeartbeats 4000000 in
set_option maxRecDepth 100000 in
theorem t6_falls_L22 {X : z_Ct} (C : z_Cx S1 X RX6 cX6_falls 8 3 (some .int)) {u : Int32 × z_M} : ∀ (n : Nat) (c1 : Nat) (v4 : Int32) (v5 : Int32) (v6 : Int32) (σ : z_M),S1.1 c1 = 1 →  f6_falls_L22 n c1 v4 v5 v6 σ = some u → z_W S1 X 22 [some (.ref (z_a X 110)), some (.ref (z_a X c1)), none, none, some (.int v4), some (.int v5), some (.int v6), none] [] σ (z_oi u) := by
  intro n
  induction n with
  | zero => intro c1 v4 v5 v6 σ hk1 h; rw [f6_falls_L22] at h; cases h
  | succ n ih =>
    intro c1 v4 v5 v6 σ hk1 h
    rw [f6_falls_L22] at h
    refine z_iload C dX6_falls_22 rfl ?_
    refine z_aload_n C dX6_falls_24 rfl rfl ?_
    refine z_geta (k := 6) (q := (c1 + 3)) C z_CF1 (by decide) flX6_43 hk1 (sh1_r6 hk1) dX6_falls_25 ?_
    refine z_geti (k := 2) C z_CF9 (by decide) flX6_24 (sh1_k6 hk1) (sh9_n2 (sh1_k6 hk1)) dX6_falls_28 ?_
    refine z_icmp_ge (tgt := 70) C dX6_falls_31 (by decide) (fun hc => ?_) (fun hc => ?_)
    · replace h := z_neg hc h
      refine z_kill (lo' := [some (.ref (z_a X 110)), some (.ref (z_a X c1)), none, none, some (.int v4), some (.int v5), none, none]) [6] rfl ?_
      exact t6_falls_J70 C c1 v4 v5 σ hk1 h
    · replace h := z_pos hc h
      refine z_aload_n C dX6_falls_34 rfl rfl ?_
      refine z_geta (k := 6) (q := (c1 + 3)) C z_CF1 (by decide) flX6_43 hk1 (sh1_r6 hk1) dX6_falls_35 ?_
      refine z_iload C dX6_falls_38 rfl ?_
      refine z_iconst (v := 2) C dX6_falls_40 (by decide) ?_
      obtain ⟨r1, σ2, mσ2, h⟩ := z_bnd2 h
      refine z_cvi (As := [.int v6, .int 2]) (c := (c1 + 3)) (st := []) C (t9_at (c1 + 3) v6 2 (sh1_k6 hk1) mσ2) kvX9_at rfl mlX6_34 z_CF9 (sh1_k6 hk1) rfl (by decide) rfl (Nat.le_of_ble_eq_true rfl) dX6_falls_41 ?_
      refine z_if_le (tgt := 64) C dX6_falls_44 (by decide) (fun hc => ?_) (fun hc => ?_)
      · replace h := z_neg hc h
        refine z_iinc (v := v6 + 1) (lo' := [some (.ref (z_a X 110)), some (.ref (z_a X c1)), none, none, some (.int v4), some (.int v5), some (.int (v6 + 1)), none]) C dX6_falls_64 rfl rfl rfl ?_
        refine z_goto (tgt := 22) C dX6_falls_67 (by decide) ?_
        exact ih c1 v4 v5 (v6 + 1) σ2 hk1 h
      · replace h := z_pos hc h
        refine z_iload C dX6_falls_47 rfl ?_
        refine z_iconst (v := 1) C dX6_falls_49 (by decide) ?_
        refine z_aload_n C dX6_falls_50 rfl rfl ?_
        refine z_geta (k := 6) (q := (c1 + 3)) C z_CF1 (by decide) flX6_43 hk1 (sh1_r6 hk1) dX6_falls_51 ?_
        refine z_iload C dX6_falls_54 rfl ?_
        refine z_iconst (v := 0) C dX6_falls_56 (by decide) ?_
        obtain ⟨r3, σ4, mσ4, h⟩ := z_bnd2 h
        refine z_cvi (As := [.int v6, .int 0]) (c := (c1 + 3)) (st := [.int 1, .int v5]) C (t9_at (c1 + 3) v6 0 (sh1_k6 hk1) mσ4) kvX9_at rfl mlX6_34 z_CF9 (sh1_k6 hk1) rfl (by decide) rfl (Nat.le_of_ble_eq_true rfl) dX6_falls_57 ?_
        refine z_ishl C dX6_falls_60 ?_
        refine z_ior C dX6_falls_61 ?_
        refine z_istore (lo' := [some (.ref (z_a X 110)), some (.ref (z_a X c1)), none, none, some (.int v4), some (.int (v5 ||| (z_shl 1 r3))), some (.int v6), none]) C dX6_falls_62 (Nat.le_of_ble_eq_true rfl) rfl ?_
        refine z_iinc (v := v6 + 1) (lo' := [some (.ref (z_a X 110)), some (.ref (z_a X c1)), none, none, some (.int v4), some (.int (v5 ||| (z_shl 1 r3))), some (.int (v6 + 1)), none]) C dX6_falls_64 rfl rfl rfl ?_
        refine z_goto (tgt := 22) C dX6_falls_67 (by decide) ?_
        exact ih c1 v4 (v5 ||| (z_shl 1 r3)) (v6 + 1) σ4 hk1 h
set_option maxHeartbeats 4000000 in
set_option maxRecDepth 100000 in
theorem t6_falls {a : Nat → Nat} (c1 : Nat) (p2 : Int32) (p3 : Int32) {σ : z_M} (hk1 : S1.1 c1 = 1) {u : Int32 × z_M} (h : f6_falls c1 p2 p3 σ = some u) : z_Mt yX6_falls (z_w yX6_falls cX6_falls 8 (some .int)) 3 S1 a σ [.ref (a 110), .ref (a c1), .int p2, .int p3] (z_oi u) := by
  refine z_head (lo := [some (.ref (a 110)), some (.ref (a c1)), some (.int p2), some (.int p3), none, none, none, none]) (by decide) (Nat.le_of_ble_eq_true rfl) ?_ rfl ?_
  · intro i v hv
    exact z_loe (vs := [.ref (a 110), .ref (a c1), .int p2, .int p3]) (n := 4) rfl (by simp [z_c1i, z_c1r]) i v hv
  · intro X hXa C
    subst hXa
    unfold f6_falls at h
    refine z_aload_n C dX6_falls_0 rfl rfl ?_
    refine z_geta (k := 13) (q := (c1 + 17)) C z_CF1 (by decide) flX6_30 hk1 (sh1_r13 hk1) dX6_falls_1 ?_
    refine z_iload_n C dX6_falls_4 rfl rfl ?_
    obtain ⟨r1, σ2, mσ2, h⟩ := z_bnd2 h
    refine z_cvi (As := [.int p2]) (c := (c1 + 17)) (st := []) C (t0_sureOf (c1 + 17) p2 (sh1_k13 hk1) mσ2) kvX0_sureOf rfl mlX6_50 z_CF0 (sh1_k13 hk1) rfl (by decide) rfl (Nat.le_of_ble_eq_true rfl) dX6_falls_5 ?_
    refine z_iconst (v := 1) C dX6_falls_8 (by decide) ?_
    refine z_iload_n C dX6_falls_9 rfl rfl ?_
    refine z_ishl C dX6_falls_10 ?_
    refine z_iconst (v := (-1)) C dX6_falls_11 (by decide) ?_
    refine z_ixor C dX6_falls_12 ?_
    refine z_iand C dX6_falls_13 ?_
    refine z_istore (lo' := [some (.ref (z_a X 110)), some (.ref (z_a X c1)), some (.int p2), some (.int p3), some (.int (r1 &&& ((z_shl 1 p3) ^^^ (-1)))), none, none, none]) C dX6_falls_14 (Nat.le_of_ble_eq_true rfl) rfl ?_
    refine z_iconst (v := 0) C dX6_falls_16 (by decide) ?_
    refine z_istore (lo' := [some (.ref (z_a X 110)), some (.ref (z_a X c1)), some (.int p2), some (.int p3), some (.int (r1 &&& ((z_shl 1 p3) ^^^ (-1)))), some (.int 0), none, none]) C dX6_falls_17 (Nat.le_of_ble_eq_true rfl) rfl ?_
    refine z_iconst (v := 0) C dX6_falls_19 (by decide) ?_
    refine z_istore (lo' := [some (.ref (z_a X 110)), some (.ref (z_a X c1)), some (.int p2), some (.int p3), some (.int (r1 &&& ((z_shl 1 p3) ^^^ (-1)))), some (.int 0), some (.int 0), none]) C dX6_falls_20 (Nat.le_of_ble_eq_true rfl) rfl ?_
    refine z_kill (lo' := [some (.ref (z_a X 110)), some (.ref (z_a X c1)), none, none, some (.int (r1 &&& ((z_shl 1 p3) ^^^ (-1)))), some (.int 0), some (.int 0), none]) [2, 3] rfl ?_
    exact t6_falls_L22 C _ c1 (r1 &&& ((z_shl 1 p3) ^^^ (-1))) 0 0 σ2 hk1 h
set_option maxHeartbeats 4000000 in
set_option maxRecDepth 100000 in
theorem t11_down {a : Nat → Nat} (p1 : Int32) (p2 : Int32) {σ : z_M} {u : Int32 × z_M} (h : f11_down p1 p2 σ = some u) : z_Mt yX11_down (z_w yX11_down cX11_down 3 (some .int)) 4 S1 a σ [.ref (a 0), .int p1, .int p2] (z_oi u) := by
  refine z_head (lo := [some (.ref (a 0)), some (.int p1), some (.int p2)]) (by decide) (Nat.le_of_ble_eq_true rfl) ?_ rfl ?_
  · intro i v hv
    exact z_loe (vs := [.ref (a 0), .int p1, .int p2]) (n := 0) rfl (by simp [z_c1i, z_c1r]) i v hv
  · intro X hXa C
    subst hXa
    unfold f11_down at h
    refine z_aload_n C dX11_down_0 rfl rfl ?_
    refine z_iload_n C dX11_down_1 rfl rfl ?_
    obtain ⟨r1, σ2, mσ2, h⟩ := z_bnd2 h
    refine z_cvi (As := [.int p1]) (c := 0) (st := []) C (t11_isHouse p1 mσ2) kvX11_isHouse rfl mlX11_165 z_CF11 rfl rfl (by decide) rfl (Nat.le_of_ble_eq_true rfl) dX11_down_2 ?_
    refine z_if_eq (tgt := 32) C dX11_down_5 (by decide) (fun hc => ?_) (fun hc => ?_)
    · replace h := z_pos hc h
      refine z_iconst (v := (-1)) C dX11_down_32 (by decide) ?_
      exact z_iret C h dX11_down_33
    · replace h := z_neg hc h
      refine z_iload_n C dX11_down_8 rfl rfl ?_
      obtain ⟨r3, σ4, mσ4, h⟩ := z_bnd2 h
      refine z_csi (As := [.int p2]) (st := []) C (t11_isThing p2 mσ4) kvX11_isThing rfl mlX11_107 (by decide) rfl (Nat.le_of_ble_eq_true rfl) dX11_down_9 ?_
      refine z_if_eq (tgt := 32) C dX11_down_12 (by decide) (fun hc => ?_) (fun hc => ?_)
      · replace h := z_pos hc h
        refine z_iconst (v := (-1)) C dX11_down_32 (by decide) ?_
        exact z_iret C h dX11_down_33
      · replace h := z_neg hc h
        refine z_aload_n C dX11_down_15 rfl rfl ?_
        refine z_geta (k := 0) (q := 1) C z_CF11 (by decide) flX11_10 rfl rfl dX11_down_16 ?_
        refine z_geta (k := 13) (q := 18) C z_CF1 (by decide) flX11_32 rfl rfl dX11_down_19 ?_
        refine z_iload_n C dX11_down_22 rfl rfl ?_
        refine z_iload_n C dX11_down_23 rfl rfl ?_
        obtain ⟨r5, σ6, mσ6, h⟩ := z_bnd2 h
        refine z_cvi (As := [.int p1, .int p2]) (c := 18) (st := []) C (t0_degreeOf 18 p1 p2 rfl mσ6) kvX0_degreeOf rfl mlX11_217 z_CF0 rfl rfl (by decide) rfl (Nat.le_of_ble_eq_true rfl) dX11_down_24 ?_
        refine z_bipush (v := 90) C dX11_down_27 (by decide) ?_
        refine z_icmp_ge (tgt := 34) C dX11_down_29 (by decide) (fun hc => ?_) (fun hc => ?_)
        · replace h := z_neg hc h
          refine z_aload_n C dX11_down_34 rfl rfl ?_
          refine z_geta (k := 10) (q := 110) C z_CF11 (by decide) flX11_82 rfl rfl dX11_down_35 ?_
          refine z_aload_n C dX11_down_38 rfl rfl ?_
          refine z_geta (k := 0) (q := 1) C z_CF11 (by decide) flX11_10 rfl rfl dX11_down_39 ?_
          refine z_iload_n C dX11_down_42 rfl rfl ?_
          refine z_iload_n C dX11_down_43 rfl rfl ?_
          obtain ⟨r7, σ8, mσ8, h⟩ := z_bnd2 h
          refine z_cvi (As := [.ref (z_a X 1), .int p1, .int p2]) (c := 110) (st := []) C (t6_falls 1 p1 p2 rfl mσ8) kvX6_falls rfl mlX11_278 z_CF6 rfl rfl (by decide) rfl (Nat.le_of_ble_eq_true rfl) dX11_down_44 ?_
          exact z_iret C h dX11_down_47
        · replace h := z_pos hc h
          refine z_iconst (v := (-1)) C dX11_down_32 (by decide) ?_
          exact z_iret C h dX11_down_33
set_option maxHeartbeats 4000000 in
set_option maxRecDepth 100000 in
theorem t4_flight_J76 {X : z_Ct} (C : z_Cx S1 X RX4 cX4_flight 8 1 (some .int)) {u : Int32 × z_M} {k8 : Nat → Int32 → Int32 → Int32 → z_M → Option (Int32 × z_M)} (hr8 : ∀ (c1 : Nat) (v3 : Int32) (v4 : Int32) (v5 : Int32) (σ : z_M), S1.1 c1 = 1 → k8 c1 v3 v4 v5 σ = some u → z_W S1 X 8 [none, some (.ref (z_a X c1)), none, some (.int v3), some (.int v4), some (.int v5), none, none] [] σ (z_oi u)) (c1 : Nat) (v3 : Int32) (v5 : Int32) (v6 : Int32) (σ : z_M) (hk1 : S1.1 c1 = 1) (h : f4_flight_J76 k8 c1 v3 v5 v6 σ = some u) : z_W S1 X 76 [none, some (.ref (z_a X c1)), none, some (.int v3), none, some (.int v5), some (.int v6), none] [] σ (z_oi u) := by
  unfold f4_flight_J76 at h
  refine z_iload C dX4_flight_76 rfl ?_
  refine z_istore (lo' := [none, some (.ref (z_a X c1)), none, some (.int v3), some (.int v6), some (.int v5), some (.int v6), none]) C dX4_flight_78 (Nat.le_of_ble_eq_true rfl) rfl ?_
  refine z_iinc (v := v5 + 1) (lo' := [none, some (.ref (z_a X c1)), none, some (.int v3), some (.int v6), some (.int (v5 + 1)), some (.int v6), none]) C dX4_flight_80 rfl rfl rfl ?_
  refine z_goto (tgt := 8) C dX4_flight_83 (by decide) ?_
  refine z_kill (lo' := [none, some (.ref (z_a X c1)), none, some (.int v3), some (.int v6), some (.int (v5 + 1)), none, none]) [6] rfl ?_
  exact hr8 c1 v3 v6 (v5 + 1) σ hk1 h
set_option maxHeartbeats 4000000 in
set_option maxRecDepth 100000 in
theorem t4_flight_L22 {X : z_Ct} (C : z_Cx S1 X RX4 cX4_flight 8 1 (some .int)) {u : Int32 × z_M} {k8 : Nat → Int32 → Int32 → Int32 → z_M → Option (Int32 × z_M)} (hr8 : ∀ (c1 : Nat) (v3 : Int32) (v4 : Int32) (v5 : Int32) (σ : z_M), S1.1 c1 = 1 → k8 c1 v3 v4 v5 σ = some u → z_W S1 X 8 [none, some (.ref (z_a X c1)), none, some (.int v3), some (.int v4), some (.int v5), none, none] [] σ (z_oi u)) : ∀ (n : Nat) (c1 : Nat) (v3 : Int32) (v4 : Int32) (v5 : Int32) (v6 : Int32) (v7 : Int32) (σ : z_M),S1.1 c1 = 1 →  f4_flight_L22 k8 n c1 v3 v4 v5 v6 v7 σ = some u → z_W S1 X 22 [none, some (.ref (z_a X c1)), none, some (.int v3), some (.int v4), some (.int v5), some (.int v6), some (.int v7)] [] σ (z_oi u) := by
  intro n
  induction n with
  | zero => intro c1 v3 v4 v5 v6 v7 σ hk1 h; rw [f4_flight_L22] at h; cases h
  | succ n ih =>
    intro c1 v3 v4 v5 v6 v7 σ hk1 h
    rw [f4_flight_L22] at h
    refine z_iload C dX4_flight_22 rfl ?_
    refine z_aload_n C dX4_flight_24 rfl rfl ?_
    refine z_geti (k := 0) C z_CF1 (by decide) flX4_15 hk1 (sh1_n0 hk1) dX4_flight_25 ?_
    refine z_icmp_ge (tgt := 76) C dX4_flight_28 (by decide) (fun hc => ?_) (fun hc => ?_)
    · replace h := z_neg hc h
      refine z_kill (lo' := [none, some (.ref (z_a X c1)), none, some (.int v3), none, some (.int v5), some (.int v6), none]) [4, 7] rfl ?_
      exact t4_flight_J76 C hr8 c1 v3 v5 v6 σ hk1 h
    · replace h := z_pos hc h
      refine z_iload C dX4_flight_31 rfl ?_
      refine z_iload C dX4_flight_33 rfl ?_
      refine z_ishr C dX4_flight_35 ?_
      refine z_iconst (v := 1) C dX4_flight_36 (by decide) ?_
      refine z_iand C dX4_flight_37 ?_
      refine z_if_eq (tgt := 70) C dX4_flight_38 (by decide) (fun hc => ?_) (fun hc => ?_)
      · replace h := z_pos hc h
        refine z_iinc (v := v7 + 1) (lo' := [none, some (.ref (z_a X c1)), none, some (.int v3), some (.int v4), some (.int v5), some (.int v6), some (.int (v7 + 1))]) C dX4_flight_70 rfl rfl rfl ?_
        refine z_goto (tgt := 22) C dX4_flight_73 (by decide) ?_
        exact ih c1 v3 v4 v5 v6 (v7 + 1) σ hk1 h
      · replace h := z_neg hc h
        refine z_aload_n C dX4_flight_41 rfl rfl ?_
        refine z_geta (k := 13) (q := (c1 + 17)) C z_CF1 (by decide) flX4_21 hk1 (sh1_r13 hk1) dX4_flight_42 ?_
        refine z_geta (k := 1) (q := (c1 + 19)) C z_CF0 (by decide) flX4_25 (sh1_k13 hk1) (sh0_r1 (sh1_k13 hk1)) dX4_flight_45 ?_
        refine z_iload C dX4_flight_48 rfl ?_
        obtain ⟨b1, h⟩ := z_chk_some h
        refine z_iald C (sh0_k1 (sh1_k13 hk1)) (sh0_l1 (sh1_k13 hk1)) b1 dX4_flight_50 ?_
        refine z_iload_n C dX4_flight_51 rfl rfl ?_
        refine z_icmp_ne (tgt := 58) C dX4_flight_52 (by decide) (fun hc => ?_) (fun hc => ?_)
        · replace h := z_neg hc h
          refine z_iload C dX4_flight_58 rfl ?_
          refine z_aload_n C dX4_flight_60 rfl rfl ?_
          refine z_geta (k := 5) (q := (c1 + 2)) C z_CF1 (by decide) flX4_30 hk1 (sh1_r5 hk1) dX4_flight_61 ?_
          refine z_iload C dX4_flight_64 rfl ?_
          obtain ⟨b2, h⟩ := z_chk_some h
          refine z_iald C (sh1_k5 hk1) (sh1_l5 hk1) b2 dX4_flight_66 ?_
          refine z_ior C dX4_flight_67 ?_
          refine z_istore (lo' := [none, some (.ref (z_a X c1)), none, some (.int v3), some (.int v4), some (.int v5), some (.int (v6 ||| (σ (c1 + 2) (z_ix v7)))), some (.int v7)]) C dX4_flight_68 (Nat.le_of_ble_eq_true rfl) rfl ?_
          refine z_iinc (v := v7 + 1) (lo' := [none, some (.ref (z_a X c1)), none, some (.int v3), some (.int v4), some (.int v5), some (.int (v6 ||| (σ (c1 + 2) (z_ix v7)))), some (.int (v7 + 1))]) C dX4_flight_70 rfl rfl rfl ?_
          refine z_goto (tgt := 22) C dX4_flight_73 (by decide) ?_
          exact ih c1 v3 v4 v5 (v6 ||| (σ (c1 + 2) (z_ix v7))) (v7 + 1) σ hk1 h
        · replace h := z_pos hc h
          refine z_iload C dX4_flight_55 rfl ?_
          exact z_iret C h dX4_flight_57
set_option maxHeartbeats 4000000 in
set_option maxRecDepth 100000 in
theorem t4_flight_L8 {X : z_Ct} (C : z_Cx S1 X RX4 cX4_flight 8 1 (some .int)) {u : Int32 × z_M} : ∀ (n : Nat) (c1 : Nat) (v3 : Int32) (v4 : Int32) (v5 : Int32) (σ : z_M),S1.1 c1 = 1 →  f4_flight_L8 n c1 v3 v4 v5 σ = some u → z_W S1 X 8 [none, some (.ref (z_a X c1)), none, some (.int v3), some (.int v4), some (.int v5), none, none] [] σ (z_oi u) := by
  intro n
  induction n with
  | zero => intro c1 v3 v4 v5 σ hk1 h; rw [f4_flight_L8] at h; cases h
  | succ n ih =>
    intro c1 v3 v4 v5 σ hk1 h
    rw [f4_flight_L8] at h
    refine z_iload C dX4_flight_8 rfl ?_
    refine z_bipush (v := 8) C dX4_flight_10 (by decide) ?_
    refine z_icmp_ge (tgt := 86) C dX4_flight_12 (by decide) (fun hc => ?_) (fun hc => ?_)
    · replace h := z_neg hc h
      refine z_iconst (v := (-1)) C dX4_flight_86 (by decide) ?_
      exact z_iret C h dX4_flight_87
    · replace h := z_pos hc h
      refine z_iload C dX4_flight_15 rfl ?_
      refine z_istore (lo' := [none, some (.ref (z_a X c1)), none, some (.int v3), some (.int v4), some (.int v5), some (.int v4), none]) C dX4_flight_17 (Nat.le_of_ble_eq_true rfl) rfl ?_
      refine z_iconst (v := 0) C dX4_flight_19 (by decide) ?_
      refine z_istore (lo' := [none, some (.ref (z_a X c1)), none, some (.int v3), some (.int v4), some (.int v5), some (.int v4), some (.int 0)]) C dX4_flight_20 (Nat.le_of_ble_eq_true rfl) rfl ?_
      exact t4_flight_L22 C ih _ c1 v3 v4 v5 v4 0 σ hk1 h
set_option maxHeartbeats 4000000 in
set_option maxRecDepth 100000 in
theorem t4_flight {a : Nat → Nat} (c1 : Nat) (p2 : Int32) (p3 : Int32) {σ : z_M} (hk1 : S1.1 c1 = 1) {u : Int32 × z_M} (h : f4_flight c1 p2 p3 σ = some u) : z_Mt yX4_flight (z_w yX4_flight cX4_flight 8 (some .int)) 1 S1 a σ [.ref (a 113), .ref (a c1), .int p2, .int p3] (z_oi u) := by
  refine z_head (lo := [some (.ref (a 113)), some (.ref (a c1)), some (.int p2), some (.int p3), none, none, none, none]) (by decide) (Nat.le_of_ble_eq_true rfl) ?_ rfl ?_
  · intro i v hv
    exact z_loe (vs := [.ref (a 113), .ref (a c1), .int p2, .int p3]) (n := 4) rfl (by simp [z_c1i, z_c1r]) i v hv
  · intro X hXa C
    subst hXa
    unfold f4_flight at h
    refine z_iconst (v := 1) C dX4_flight_0 (by decide) ?_
    refine z_iload_n C dX4_flight_1 rfl rfl ?_
    refine z_ishl C dX4_flight_2 ?_
    refine z_istore (lo' := [some (.ref (z_a X 113)), some (.ref (z_a X c1)), some (.int p2), some (.int p3), some (.int (z_shl 1 p2)), none, none, none]) C dX4_flight_3 (Nat.le_of_ble_eq_true rfl) rfl ?_
    refine z_iconst (v := 0) C dX4_flight_5 (by decide) ?_
    refine z_istore (lo' := [some (.ref (z_a X 113)), some (.ref (z_a X c1)), some (.int p2), some (.int p3), some (.int (z_shl 1 p2)), some (.int 0), none, none]) C dX4_flight_6 (Nat.le_of_ble_eq_true rfl) rfl ?_
    refine z_kill (lo' := [none, some (.ref (z_a X c1)), none, some (.int p3), some (.int (z_shl 1 p2)), some (.int 0), none, none]) [0, 2] rfl ?_
    exact t4_flight_L8 C _ c1 p3 (z_shl 1 p2) 0 σ hk1 h
set_option maxHeartbeats 4000000 in
set_option maxRecDepth 100000 in
theorem t11_by {a : Nat → Nat} (p1 : Int32) (p2 : Int32) {σ : z_M} {u : Int32 × z_M} (h : f11_by p1 p2 σ = some u) : z_Mt yX11_by (z_w yX11_by cX11_by 3 (some .int)) 2 S1 a σ [.ref (a 0), .int p1, .int p2] (z_oi u) := by
  refine z_head (lo := [some (.ref (a 0)), some (.int p1), some (.int p2)]) (by decide) (Nat.le_of_ble_eq_true rfl) ?_ rfl ?_
  · intro i v hv
    exact z_loe (vs := [.ref (a 0), .int p1, .int p2]) (n := 0) rfl (by simp [z_c1i, z_c1r]) i v hv
  · intro X hXa C
    subst hXa
    unfold f11_by at h
    refine z_aload_n C dX11_by_0 rfl rfl ?_
    refine z_iload_n C dX11_by_1 rfl rfl ?_
    obtain ⟨r1, σ2, mσ2, h⟩ := z_bnd2 h
    refine z_cvi (As := [.int p1]) (c := 0) (st := []) C (t11_isHouse p1 mσ2) kvX11_isHouse rfl mlX11_165 z_CF11 rfl rfl (by decide) rfl (Nat.le_of_ble_eq_true rfl) dX11_by_2 ?_
    refine z_if_eq (tgt := 15) C dX11_by_5 (by decide) (fun hc => ?_) (fun hc => ?_)
    · replace h := z_pos hc h
      refine z_iconst (v := (-1)) C dX11_by_15 (by decide) ?_
      exact z_iret C h dX11_by_16
    · replace h := z_neg hc h
      refine z_iload_n C dX11_by_8 rfl rfl ?_
      obtain ⟨r3, σ4, mσ4, h⟩ := z_bnd2 h
      refine z_csi (As := [.int p2]) (st := []) C (t11_isThing p2 mσ4) kvX11_isThing rfl mlX11_107 (by decide) rfl (Nat.le_of_ble_eq_true rfl) dX11_by_9 ?_
      refine z_if_ne (tgt := 17) C dX11_by_12 (by decide) (fun hc => ?_) (fun hc => ?_)
      · replace h := z_neg hc h
        refine z_aload_n C dX11_by_17 rfl rfl ?_
        refine z_geta (k := 11) (q := 113) C z_CF11 (by decide) flX11_89 rfl rfl dX11_by_18 ?_
        refine z_aload_n C dX11_by_21 rfl rfl ?_
        refine z_geta (k := 0) (q := 1) C z_CF11 (by decide) flX11_10 rfl rfl dX11_by_22 ?_
        refine z_iload_n C dX11_by_25 rfl rfl ?_
        refine z_iload_n C dX11_by_26 rfl rfl ?_
        obtain ⟨r5, σ6, mσ6, h⟩ := z_bnd2 h
        refine z_cvi (As := [.ref (z_a X 1), .int p1, .int p2]) (c := 113) (st := []) C (t4_flight 1 p1 p2 rfl mσ6) kvX4_flight rfl mlX11_282 z_CF4 rfl rfl (by decide) rfl (Nat.le_of_ble_eq_true rfl) dX11_by_27 ?_
        exact z_iret C h dX11_by_30
      · replace h := z_pos hc h
        refine z_iconst (v := (-1)) C dX11_by_15 (by decide) ?_
        exact z_iret C h dX11_by_16
set_option maxHeartbeats 4000000 in
set_option maxRecDepth 100000 in
theorem t4_cut_J88 {X : z_Ct} (C : z_Cx S1 X RX4 cX4_cut 8 2 (some .int)) {u : Int32 × z_M} {k7 : Nat → Int32 → Int32 → Int32 → Int32 → z_M → Option (Int32 × z_M)} (hr7 : ∀ (c1 : Nat) (v2 : Int32) (v3 : Int32) (v4 : Int32) (v5 : Int32) (σ : z_M), S1.1 c1 = 1 → k7 c1 v2 v3 v4 v5 σ = some u → z_W S1 X 7 [none, some (.ref (z_a X c1)), some (.int v2), some (.int v3), some (.int v4), some (.int v5), none, none] [] σ (z_oi u)) (c1 : Nat) (v2 : Int32) (v3 : Int32) (v4 : Int32) (v5 : Int32) (v6 : Int32) (σ : z_M) (hk1 : S1.1 c1 = 1) (h : f4_cut_J88 k7 c1 v2 v3 v4 v5 v6 σ = some u) : z_W S1 X 88 [none, some (.ref (z_a X c1)), some (.int v2), some (.int v3), some (.int v4), some (.int v5), some (.int v6), none] [] σ (z_oi u) := by
  unfold f4_cut_J88 at h
  refine z_iload C dX4_cut_88 rfl ?_
  refine z_iload C dX4_cut_90 rfl ?_
  refine z_mmin (st := []) C rfl (Nat.le_of_ble_eq_true rfl) mlX4_39 dX4_cut_92 ?_
  refine z_istore (lo' := [none, some (.ref (z_a X c1)), some (.int v2), some (.int v3), some (.int (z_min v4 v6)), some (.int v5), some (.int v6), none]) C dX4_cut_95 (Nat.le_of_ble_eq_true rfl) rfl ?_
  refine z_iinc (v := v5 + 1) (lo' := [none, some (.ref (z_a X c1)), some (.int v2), some (.int v3), some (.int (z_min v4 v6)), some (.int (v5 + 1)), some (.int v6), none]) C dX4_cut_97 rfl rfl rfl ?_
  refine z_goto (tgt := 7) C dX4_cut_100 (by decide) ?_
  refine z_kill (lo' := [none, some (.ref (z_a X c1)), some (.int v2), some (.int v3), some (.int (z_min v4 v6)), some (.int (v5 + 1)), none, none]) [6] rfl ?_
  exact hr7 c1 v2 v3 (z_min v4 v6) (v5 + 1) σ hk1 h
set_option maxHeartbeats 4000000 in
set_option maxRecDepth 100000 in
theorem t4_cut_L43 {X : z_Ct} (C : z_Cx S1 X RX4 cX4_cut 8 2 (some .int)) {u : Int32 × z_M} {k7 : Nat → Int32 → Int32 → Int32 → Int32 → z_M → Option (Int32 × z_M)} (hr7 : ∀ (c1 : Nat) (v2 : Int32) (v3 : Int32) (v4 : Int32) (v5 : Int32) (σ : z_M), S1.1 c1 = 1 → k7 c1 v2 v3 v4 v5 σ = some u → z_W S1 X 7 [none, some (.ref (z_a X c1)), some (.int v2), some (.int v3), some (.int v4), some (.int v5), none, none] [] σ (z_oi u)) : ∀ (n : Nat) (c1 : Nat) (v2 : Int32) (v3 : Int32) (v4 : Int32) (v5 : Int32) (v6 : Int32) (v7 : Int32) (σ : z_M),S1.1 c1 = 1 →  f4_cut_L43 k7 n c1 v2 v3 v4 v5 v6 v7 σ = some u → z_W S1 X 43 [none, some (.ref (z_a X c1)), some (.int v2), some (.int v3), some (.int v4), some (.int v5), some (.int v6), some (.int v7)] [] σ (z_oi u) := by
  intro n
  induction n with
  | zero => intro c1 v2 v3 v4 v5 v6 v7 σ hk1 h; rw [f4_cut_L43] at h; cases h
  | succ n ih =>
    intro c1 v2 v3 v4 v5 v6 v7 σ hk1 h
    rw [f4_cut_L43] at h
    refine z_iload C dX4_cut_43 rfl ?_
    refine z_aload_n C dX4_cut_45 rfl rfl ?_
    refine z_geti (k := 0) C z_CF1 (by decide) flX4_15 hk1 (sh1_n0 hk1) dX4_cut_46 ?_
    refine z_icmp_ge (tgt := 88) C dX4_cut_49 (by decide) (fun hc => ?_) (fun hc => ?_)
    · replace h := z_neg hc h
      refine z_kill (lo' := [none, some (.ref (z_a X c1)), some (.int v2), some (.int v3), some (.int v4), some (.int v5), some (.int v6), none]) [7] rfl ?_
      exact t4_cut_J88 C hr7 c1 v2 v3 v4 v5 v6 σ hk1 h
    · replace h := z_pos hc h
      refine z_iload C dX4_cut_52 rfl ?_
      refine z_iload C dX4_cut_54 rfl ?_
      refine z_ishr C dX4_cut_56 ?_
      refine z_iconst (v := 1) C dX4_cut_57 (by decide) ?_
      refine z_iand C dX4_cut_58 ?_
      refine z_if_eq (tgt := 82) C dX4_cut_59 (by decide) (fun hc => ?_) (fun hc => ?_)
      · replace h := z_pos hc h
        refine z_iinc (v := v7 + 1) (lo' := [none, some (.ref (z_a X c1)), some (.int v2), some (.int v3), some (.int v4), some (.int v5), some (.int v6), some (.int (v7 + 1))]) C dX4_cut_82 rfl rfl rfl ?_
        refine z_goto (tgt := 43) C dX4_cut_85 (by decide) ?_
        exact ih c1 v2 v3 v4 v5 v6 (v7 + 1) σ hk1 h
      · replace h := z_neg hc h
        refine z_iload C dX4_cut_62 rfl ?_
        refine z_aload_n C dX4_cut_64 rfl rfl ?_
        refine z_geta (k := 5) (q := (c1 + 2)) C z_CF1 (by decide) flX4_30 hk1 (sh1_r5 hk1) dX4_cut_65 ?_
        refine z_iload C dX4_cut_68 rfl ?_
        obtain ⟨b1, h⟩ := z_chk_some h
        refine z_iald C (sh1_k5 hk1) (sh1_l5 hk1) b1 dX4_cut_70 ?_
        refine z_iload C dX4_cut_71 rfl ?_
        refine z_iconst (v := (-1)) C dX4_cut_73 (by decide) ?_
        refine z_ixor C dX4_cut_74 ?_
        refine z_iand C dX4_cut_75 ?_
        obtain ⟨r2, σ3, mσ3, h⟩ := z_bnd2 h
        refine z_csi (As := [.int ((σ (c1 + 2) (z_ix v7)) &&& (v5 ^^^ (-1)))]) (st := [.int v6]) C (tj6_bitCount ((σ (c1 + 2) (z_ix v7)) &&& (v5 ^^^ (-1))) mσ3) kvJ6_bitCount_0f7a4 rfl mlX4_33 (by decide) rfl (Nat.le_of_ble_eq_true rfl) dX4_cut_76 ?_
        refine z_iadd C dX4_cut_79 ?_
        refine z_istore (lo' := [none, some (.ref (z_a X c1)), some (.int v2), some (.int v3), some (.int v4), some (.int v5), some (.int (v6 + r2)), some (.int v7)]) C dX4_cut_80 (Nat.le_of_ble_eq_true rfl) rfl ?_
        refine z_iinc (v := v7 + 1) (lo' := [none, some (.ref (z_a X c1)), some (.int v2), some (.int v3), some (.int v4), some (.int v5), some (.int (v6 + r2)), some (.int (v7 + 1))]) C dX4_cut_82 rfl rfl rfl ?_
        refine z_goto (tgt := 43) C dX4_cut_85 (by decide) ?_
        exact ih c1 v2 v3 v4 v5 (v6 + r2) (v7 + 1) σ3 hk1 h
set_option maxHeartbeats 4000000 in
set_option maxRecDepth 100000 in
theorem t4_cut_L7 {X : z_Ct} (C : z_Cx S1 X RX4 cX4_cut 8 2 (some .int)) {u : Int32 × z_M} : ∀ (n : Nat) (c1 : Nat) (v2 : Int32) (v3 : Int32) (v4 : Int32) (v5 : Int32) (σ : z_M),S1.1 c1 = 1 →  f4_cut_L7 n c1 v2 v3 v4 v5 σ = some u → z_W S1 X 7 [none, some (.ref (z_a X c1)), some (.int v2), some (.int v3), some (.int v4), some (.int v5), none, none] [] σ (z_oi u) := by
  intro n
  induction n with
  | zero => intro c1 v2 v3 v4 v5 σ hk1 h; rw [f4_cut_L7] at h; cases h
  | succ n ih =>
    intro c1 v2 v3 v4 v5 σ hk1 h
    rw [f4_cut_L7] at h
    refine z_iload C dX4_cut_7 rfl ?_
    refine z_iconst (v := 1) C dX4_cut_9 (by decide) ?_
    refine z_aload_n C dX4_cut_10 rfl rfl ?_
    refine z_geti (k := 0) C z_CF1 (by decide) flX4_15 hk1 (sh1_n0 hk1) dX4_cut_11 ?_
    refine z_ishl C dX4_cut_14 ?_
    refine z_icmp_ge (tgt := 103) C dX4_cut_15 (by decide) (fun hc => ?_) (fun hc => ?_)
    · replace h := z_neg hc h
      refine z_iload C dX4_cut_103 rfl ?_
      exact z_iret C h dX4_cut_105
    · replace h := z_pos hc h
      refine z_iload C dX4_cut_18 rfl ?_
      refine z_iload_n C dX4_cut_20 rfl rfl ?_
      refine z_ishr C dX4_cut_21 ?_
      refine z_iconst (v := 1) C dX4_cut_22 (by decide) ?_
      refine z_iand C dX4_cut_23 ?_
      refine z_iconst (v := 1) C dX4_cut_24 (by decide) ?_
      refine z_icmp_ne (tgt := 97) C dX4_cut_25 (by decide) (fun hc => ?_) (fun hc => ?_)
      · replace h := z_neg hc h
        refine z_iinc (v := v5 + 1) (lo' := [none, some (.ref (z_a X c1)), some (.int v2), some (.int v3), some (.int v4), some (.int (v5 + 1)), none, none]) C dX4_cut_97 rfl rfl rfl ?_
        refine z_goto (tgt := 7) C dX4_cut_100 (by decide) ?_
        exact ih c1 v2 v3 v4 (v5 + 1) σ hk1 h
      · replace h := z_pos hc h
        refine z_iload C dX4_cut_28 rfl ?_
        refine z_iload_n C dX4_cut_30 rfl rfl ?_
        refine z_ishr C dX4_cut_31 ?_
        refine z_iconst (v := 1) C dX4_cut_32 (by decide) ?_
        refine z_iand C dX4_cut_33 ?_
        refine z_if_ne (tgt := 97) C dX4_cut_34 (by decide) (fun hc => ?_) (fun hc => ?_)
        · replace h := z_neg hc h
          refine z_iinc (v := v5 + 1) (lo' := [none, some (.ref (z_a X c1)), some (.int v2), some (.int v3), some (.int v4), some (.int (v5 + 1)), none, none]) C dX4_cut_97 rfl rfl rfl ?_
          refine z_goto (tgt := 7) C dX4_cut_100 (by decide) ?_
          exact ih c1 v2 v3 v4 (v5 + 1) σ hk1 h
        · replace h := z_pos hc h
          refine z_iconst (v := 0) C dX4_cut_37 (by decide) ?_
          refine z_istore (lo' := [none, some (.ref (z_a X c1)), some (.int v2), some (.int v3), some (.int v4), some (.int v5), some (.int 0), none]) C dX4_cut_38 (Nat.le_of_ble_eq_true rfl) rfl ?_
          refine z_iconst (v := 0) C dX4_cut_40 (by decide) ?_
          refine z_istore (lo' := [none, some (.ref (z_a X c1)), some (.int v2), some (.int v3), some (.int v4), some (.int v5), some (.int 0), some (.int 0)]) C dX4_cut_41 (Nat.le_of_ble_eq_true rfl) rfl ?_
          exact t4_cut_L43 C ih _ c1 v2 v3 v4 v5 0 0 σ hk1 h
set_option maxHeartbeats 4000000 in
set_option maxRecDepth 100000 in
theorem t4_cut {a : Nat → Nat} (c1 : Nat) (p2 : Int32) (p3 : Int32) {σ : z_M} (hk1 : S1.1 c1 = 1) {u : Int32 × z_M} (h : f4_cut c1 p2 p3 σ = some u) : z_Mt yX4_cut (z_w yX4_cut cX4_cut 8 (some .int)) 2 S1 a σ [.ref (a 113), .ref (a c1), .int p2, .int p3] (z_oi u) := by
  refine z_head (lo := [some (.ref (a 113)), some (.ref (a c1)), some (.int p2), some (.int p3), none, none, none, none]) (by decide) (Nat.le_of_ble_eq_true rfl) ?_ rfl ?_
  · intro i v hv
    exact z_loe (vs := [.ref (a 113), .ref (a c1), .int p2, .int p3]) (n := 4) rfl (by simp [z_c1i, z_c1r]) i v hv
  · intro X hXa C
    subst hXa
    unfold f4_cut at h
    refine z_bipush (v := 64) C dX4_cut_0 (by decide) ?_
    refine z_istore (lo' := [some (.ref (z_a X 113)), some (.ref (z_a X c1)), some (.int p2), some (.int p3), some (.int 64), none, none, none]) C dX4_cut_2 (Nat.le_of_ble_eq_true rfl) rfl ?_
    refine z_iconst (v := 0) C dX4_cut_4 (by decide) ?_
    refine z_istore (lo' := [some (.ref (z_a X 113)), some (.ref (z_a X c1)), some (.int p2), some (.int p3), some (.int 64), some (.int 0), none, none]) C dX4_cut_5 (Nat.le_of_ble_eq_true rfl) rfl ?_
    refine z_kill (lo' := [none, some (.ref (z_a X c1)), some (.int p2), some (.int p3), some (.int 64), some (.int 0), none, none]) [0] rfl ?_
    exact t4_cut_L7 C _ c1 p2 p3 64 0 σ hk1 h
set_option maxHeartbeats 4000000 in
set_option maxRecDepth 100000 in
theorem t11_part {a : Nat → Nat} (p1 : Int32) (p2 : Int32) {σ : z_M} {u : Int32 × z_M} (h : f11_part p1 p2 σ = some u) : z_Mt yX11_part (z_w yX11_part cX11_part 3 (some .int)) 3 S1 a σ [.ref (a 0), .int p1, .int p2] (z_oi u) := by
  refine z_head (lo := [some (.ref (a 0)), some (.int p1), some (.int p2)]) (by decide) (Nat.le_of_ble_eq_true rfl) ?_ rfl ?_
  · intro i v hv
    exact z_loe (vs := [.ref (a 0), .int p1, .int p2]) (n := 0) rfl (by simp [z_c1i, z_c1r]) i v hv
  · intro X hXa C
    subst hXa
    unfold f11_part at h
    refine z_aload_n C dX11_part_0 rfl rfl ?_
    refine z_iload_n C dX11_part_1 rfl rfl ?_
    refine z_iload_n C dX11_part_2 rfl rfl ?_
    obtain ⟨r1, σ2, mσ2, h⟩ := z_bnd2 h
    refine z_cvi (As := [.int p1, .int p2]) (c := 0) (st := []) C (t11_areTwo p1 p2 mσ2) kvX11_areTwo rfl mlX11_124 z_CF11 rfl rfl (by decide) rfl (Nat.le_of_ble_eq_true rfl) dX11_part_3 ?_
    refine z_if_ne (tgt := 11) C dX11_part_6 (by decide) (fun hc => ?_) (fun hc => ?_)
    · replace h := z_neg hc h
      refine z_aload_n C dX11_part_11 rfl rfl ?_
      refine z_geta (k := 11) (q := 113) C z_CF11 (by decide) flX11_89 rfl rfl dX11_part_12 ?_
      refine z_aload_n C dX11_part_15 rfl rfl ?_
      refine z_geta (k := 0) (q := 1) C z_CF11 (by decide) flX11_10 rfl rfl dX11_part_16 ?_
      refine z_iload_n C dX11_part_19 rfl rfl ?_
      refine z_iload_n C dX11_part_20 rfl rfl ?_
      obtain ⟨r3, σ4, mσ4, h⟩ := z_bnd2 h
      refine z_cvi (As := [.ref (z_a X 1), .int p1, .int p2]) (c := 113) (st := []) C (t4_cut 1 p1 p2 rfl mσ4) kvX4_cut rfl mlX11_285 z_CF4 rfl rfl (by decide) rfl (Nat.le_of_ble_eq_true rfl) dX11_part_21 ?_
      exact z_iret C h dX11_part_24
    · replace h := z_pos hc h
      refine z_iconst (v := (-1)) C dX11_part_9 (by decide) ?_
      exact z_iret C h dX11_part_10
set_option maxHeartbeats 4000000 in
set_option maxRecDepth 100000 in
theorem t1_heard {a : Nat → Nat} (c0 : Nat) (p1 : Int32) (p2 : Int32) (p3 : Int32) {σ : z_M} (hk0 : S1.1 c0 = 1) {u : Unit × z_M} (h : f1_heard c0 p1 p2 p3 σ = some u) : z_Mt yX1_heard (z_w yX1_heard cX1_heard 5 none) 1 S1 a σ [.ref (a c0), .int p1, .int p2, .int p3] (z_ov u) := by
  refine z_head (lo := [some (.ref (a c0)), some (.int p1), some (.int p2), some (.int p3), none]) (by decide) (Nat.le_of_ble_eq_true rfl) ?_ rfl ?_
  · intro i v hv
    exact z_loe (vs := [.ref (a c0), .int p1, .int p2, .int p3]) (n := 1) rfl (by simp [z_c1i, z_c1r]) i v hv
  · intro X hXa C
    subst hXa
    unfold f1_heard at h
    refine z_aload_n C dX1_heard_0 rfl rfl ?_
    refine z_geti (k := 11) C z_CF1 (by decide) flX1_62 hk0 (sh1_n11 hk0) dX1_heard_1 ?_
    refine z_iconst (v := 3) C dX1_heard_4 (by decide) ?_
    refine z_imul C dX1_heard_5 ?_
    refine z_istore (lo' := [some (.ref (z_a X c0)), some (.int p1), some (.int p2), some (.int p3), some (.int ((σ c0 11) * 3))]) C dX1_heard_6 (Nat.le_of_ble_eq_true rfl) rfl ?_
    refine z_iload C dX1_heard_8 rfl ?_
    refine z_iconst (v := 3) C dX1_heard_10 (by decide) ?_
    refine z_iadd C dX1_heard_11 ?_
    refine z_aload_n C dX1_heard_12 rfl rfl ?_
    refine z_geta (k := 10) (q := (c0 + 15)) C z_CF1 (by decide) flX1_40 hk0 (sh1_r10 hk0) dX1_heard_13 ?_
    refine z_alen (v := 36) C (sh1_k10 hk0) (sh1_l10 hk0) (by decide) dX1_heard_16 ?_
    refine z_icmp_le (tgt := 21) C dX1_heard_17 (by decide) (fun hc => ?_) (fun hc => ?_)
    · replace h := z_neg hc h
      refine z_aload_n C dX1_heard_21 rfl rfl ?_
      refine z_geta (k := 10) (q := (c0 + 15)) C z_CF1 (by decide) flX1_40 hk0 (sh1_r10 hk0) dX1_heard_22 ?_
      refine z_iload C dX1_heard_25 rfl ?_
      refine z_iload_n C dX1_heard_27 rfl rfl ?_
      obtain ⟨b1, h⟩ := z_chk_some h
      obtain ⟨σ2, eσ2, h⟩ := z_let_some h
      refine z_iast C (sh1_k10 hk0) (sh1_l10 hk0) b1 eσ2 dX1_heard_28 ?_
      refine z_aload_n C dX1_heard_29 rfl rfl ?_
      refine z_geta (k := 10) (q := (c0 + 15)) C z_CF1 (by decide) flX1_40 hk0 (sh1_r10 hk0) dX1_heard_30 ?_
      refine z_iload C dX1_heard_33 rfl ?_
      refine z_iconst (v := 1) C dX1_heard_35 (by decide) ?_
      refine z_iadd C dX1_heard_36 ?_
      refine z_iload_n C dX1_heard_37 rfl rfl ?_
      obtain ⟨b3, h⟩ := z_chk_some h
      obtain ⟨σ4, eσ4, h⟩ := z_let_some h
      refine z_iast C (sh1_k10 hk0) (sh1_l10 hk0) b3 eσ4 dX1_heard_38 ?_
      refine z_aload_n C dX1_heard_39 rfl rfl ?_
      refine z_geta (k := 10) (q := (c0 + 15)) C z_CF1 (by decide) flX1_40 hk0 (sh1_r10 hk0) dX1_heard_40 ?_
      refine z_iload C dX1_heard_43 rfl ?_
      refine z_iconst (v := 2) C dX1_heard_45 (by decide) ?_
      refine z_iadd C dX1_heard_46 ?_
      refine z_iload_n C dX1_heard_47 rfl rfl ?_
      obtain ⟨b5, h⟩ := z_chk_some h
      obtain ⟨σ6, eσ6, h⟩ := z_let_some h
      refine z_iast C (sh1_k10 hk0) (sh1_l10 hk0) b5 eσ6 dX1_heard_48 ?_
      refine z_aload_n C dX1_heard_49 rfl rfl ?_
      refine z_dup C dX1_heard_50 rfl ?_
      refine z_geti (k := 11) C z_CF1 (by decide) flX1_62 hk0 (sh1_n11 hk0) dX1_heard_51 ?_
      refine z_iconst (v := 1) C dX1_heard_54 (by decide) ?_
      refine z_iadd C dX1_heard_55 ?_
      obtain ⟨σ7, eσ7, h⟩ := z_let_some h
      refine z_puti (k := 11) C z_CF1 (by decide) flX1_62 rfl rfl hk0 (sh1_n11 hk0) eσ7 dX1_heard_56 ?_
      exact z_vret C h dX1_heard_59
    · replace h := z_pos hc h
      exact z_vret C h dX1_heard_20
set_option maxHeartbeats 4000000 in
set_option maxRecDepth 100000 in
theorem t11_talk {a : Nat → Nat} (p1 : Int32) (p2 : Int32) (p3 : Int32) {σ : z_M} {u : Int32 × z_M} (h : f11_talk p1 p2 p3 σ = some u) : z_Mt yX11_talk (z_w yX11_talk cX11_talk 4 (some .int)) 2 S1 a σ [.ref (a 0), .int p1, .int p2, .int p3] (z_oi u) := by
  refine z_head (lo := [some (.ref (a 0)), some (.int p1), some (.int p2), some (.int p3)]) (by decide) (Nat.le_of_ble_eq_true rfl) ?_ rfl ?_
  · intro i v hv
    exact z_loe (vs := [.ref (a 0), .int p1, .int p2, .int p3]) (n := 0) rfl (by simp [z_c1i, z_c1r]) i v hv
  · intro X hXa C
    subst hXa
    unfold f11_talk at h
    refine z_iload_n C dX11_talk_0 rfl rfl ?_
    refine z_iconst (v := (-1)) C dX11_talk_1 (by decide) ?_
    refine z_icmp_ne (tgt := 15) C dX11_talk_2 (by decide) (fun hc => ?_) (fun hc => ?_)
    · replace h := z_neg hc h
      refine z_aload_n C dX11_talk_15 rfl rfl ?_
      refine z_iload_n C dX11_talk_16 rfl rfl ?_
      obtain ⟨r1, σ2, mσ2, h⟩ := z_bnd2 h
      refine z_cvi (As := [.int p1]) (c := 0) (st := []) C (t11_isHouse p1 mσ2) kvX11_isHouse rfl mlX11_165 z_CF11 rfl rfl (by decide) rfl (Nat.le_of_ble_eq_true rfl) dX11_talk_17 ?_
      refine z_if_eq (tgt := 51) C dX11_talk_20 (by decide) (fun hc => ?_) (fun hc => ?_)
      · replace h := z_pos hc h
        refine z_iconst (v := (-1)) C dX11_talk_51 (by decide) ?_
        exact z_iret C h dX11_talk_52
      · replace h := z_neg hc h
        refine z_iload_n C dX11_talk_23 rfl rfl ?_
        obtain ⟨r3, σ4, mσ4, h⟩ := z_bnd2 h
        refine z_csi (As := [.int p2]) (st := []) C (t11_isThing p2 mσ4) kvX11_isThing rfl mlX11_107 (by decide) rfl (Nat.le_of_ble_eq_true rfl) dX11_talk_24 ?_
        refine z_if_eq (tgt := 51) C dX11_talk_27 (by decide) (fun hc => ?_) (fun hc => ?_)
        · replace h := z_pos hc h
          refine z_iconst (v := (-1)) C dX11_talk_51 (by decide) ?_
          exact z_iret C h dX11_talk_52
        · replace h := z_neg hc h
          refine z_iload_n C dX11_talk_30 rfl rfl ?_
          refine z_if_lt (tgt := 51) C dX11_talk_31 (by decide) (fun hc => ?_) (fun hc => ?_)
          · replace h := z_pos hc h
            refine z_iconst (v := (-1)) C dX11_talk_51 (by decide) ?_
            exact z_iret C h dX11_talk_52
          · replace h := z_neg hc h
            refine z_iload_n C dX11_talk_34 rfl rfl ?_
            refine z_iconst (v := 1) C dX11_talk_35 (by decide) ?_
            refine z_icmp_gt (tgt := 51) C dX11_talk_36 (by decide) (fun hc => ?_) (fun hc => ?_)
            · replace h := z_pos hc h
              refine z_iconst (v := (-1)) C dX11_talk_51 (by decide) ?_
              exact z_iret C h dX11_talk_52
            · replace h := z_neg hc h
              refine z_aload_n C dX11_talk_39 rfl rfl ?_
              refine z_geta (k := 0) (q := 1) C z_CF11 (by decide) flX11_10 rfl rfl dX11_talk_40 ?_
              refine z_geti (k := 11) C z_CF1 (by decide) flX11_288 rfl rfl dX11_talk_43 ?_
              refine z_bipush (v := 12) C dX11_talk_46 (by decide) ?_
              refine z_icmp_lt (tgt := 53) C dX11_talk_48 (by decide) (fun hc => ?_) (fun hc => ?_)
              · replace h := z_pos hc h
                refine z_aload_n C dX11_talk_53 rfl rfl ?_
                refine z_geta (k := 0) (q := 1) C z_CF11 (by decide) flX11_10 rfl rfl dX11_talk_54 ?_
                refine z_iload_n C dX11_talk_57 rfl rfl ?_
                refine z_iload_n C dX11_talk_58 rfl rfl ?_
                refine z_iload_n C dX11_talk_59 rfl rfl ?_
                obtain ⟨⟨⟩, σ6, mσ6, h⟩ := z_bnd2 h
                refine z_cvv (As := [.int p1, .int p2, .int p3]) (c := 1) (st := []) C (t1_heard 1 p1 p2 p3 rfl mσ6) kvX1_heard rfl mlX11_291 z_CF1 rfl rfl (by decide) rfl (Nat.le_of_ble_eq_true rfl) dX11_talk_60 ?_
                refine z_aload_n C dX11_talk_63 rfl rfl ?_
                refine z_geta (k := 0) (q := 1) C z_CF11 (by decide) flX11_10 rfl rfl dX11_talk_64 ?_
                refine z_geti (k := 11) C z_CF1 (by decide) flX11_288 rfl rfl dX11_talk_67 ?_
                exact z_iret C h dX11_talk_70
              · replace h := z_neg hc h
                refine z_iconst (v := (-1)) C dX11_talk_51 (by decide) ?_
                exact z_iret C h dX11_talk_52
    · replace h := z_pos hc h
      refine z_aload_n C dX11_talk_5 rfl rfl ?_
      refine z_geta (k := 0) (q := 1) C z_CF11 (by decide) flX11_10 rfl rfl dX11_talk_6 ?_
      refine z_iconst (v := 0) C dX11_talk_9 (by decide) ?_
      obtain ⟨σ7, eσ7, h⟩ := z_let_some h
      refine z_puti (k := 11) C z_CF1 (by decide) flX11_288 rfl rfl rfl rfl eσ7 dX11_talk_10 ?_
      refine z_iconst (v := 0) C dX11_talk_13 (by decide) ?_
      exact z_iret C h dX11_talk_14
set_option maxHeartbeats 4000000 in
set_option maxRecDepth 100000 in
theorem t6_isFit_J85 {X : z_Ct} (C : z_Cx S1 X RX6 cX6_isFit 9 2 (some .boolean)) {u : Int32 × z_M} (v3 : Int32) (v5 : Int32) (σ : z_M) (h : f6_isFit_J85 v3 v5 σ = some u) : z_W S1 X 85 [none, none, none, some (.int v3), none, some (.int v5), none, none, none] [] σ (z_oi u) := by
  unfold f6_isFit_J85 at h
  refine z_iload C dX6_isFit_85 rfl ?_
  refine z_iload_n C dX6_isFit_87 rfl rfl ?_
  refine z_icmp_gt (tgt := 95) C dX6_isFit_88 (by decide) (fun hc => ?_) (fun hc => ?_)
  · replace h := z_pos hc h
    refine z_iconst (v := 0) C dX6_isFit_95 (by decide) ?_
    exact z_zret C (by decide) h dX6_isFit_96
  · replace h := z_neg hc h
    refine z_iconst (v := 1) C dX6_isFit_91 (by decide) ?_
    refine z_goto (tgt := 96) C dX6_isFit_92 (by decide) ?_
    exact z_zret C (by decide) h dX6_isFit_96
set_option maxHeartbeats 4000000 in
set_option maxRecDepth 100000 in
theorem t6_isFit_L20 {X : z_Ct} (C : z_Cx S1 X RX6 cX6_isFit 9 2 (some .boolean)) {u : Int32 × z_M} : ∀ (n : Nat) (c1 : Nat) (v2 : Int32) (v3 : Int32) (v4 : Int32) (v5 : Int32) (v6 : Int32) (σ : z_M),S1.1 c1 = 1 →  f6_isFit_L20 n c1 v2 v3 v4 v5 v6 σ = some u → z_W S1 X 20 [none, some (.ref (z_a X c1)), some (.int v2), some (.int v3), some (.int v4), some (.int v5), some (.int v6), none, none] [] σ (z_oi u) := by
  intro n
  induction n with
  | zero => intro c1 v2 v3 v4 v5 v6 σ hk1 h; rw [f6_isFit_L20] at h; cases h
  | succ n ih =>
    intro c1 v2 v3 v4 v5 v6 σ hk1 h
    rw [f6_isFit_L20] at h
    refine z_iload C dX6_isFit_20 rfl ?_
    refine z_aload_n C dX6_isFit_22 rfl rfl ?_
    refine z_geti (k := 11) C z_CF1 (by decide) flX6_82 hk1 (sh1_n11 hk1) dX6_isFit_23 ?_
    refine z_icmp_ge (tgt := 85) C dX6_isFit_26 (by decide) (fun hc => ?_) (fun hc => ?_)
    · replace h := z_neg hc h
      refine z_kill (lo' := [none, none, none, some (.int v3), none, some (.int v5), none, none, none]) [1, 2, 4, 6] rfl ?_
      exact t6_isFit_J85 C v3 v5 σ h
    · replace h := z_pos hc h
      refine z_iload C dX6_isFit_29 rfl ?_
      refine z_iconst (v := 3) C dX6_isFit_31 (by decide) ?_
      refine z_imul C dX6_isFit_32 ?_
      refine z_istore (lo' := [none, some (.ref (z_a X c1)), some (.int v2), some (.int v3), some (.int v4), some (.int v5), some (.int v6), some (.int (v6 * 3)), none]) C dX6_isFit_33 (Nat.le_of_ble_eq_true rfl) rfl ?_
      refine z_iload C dX6_isFit_35 rfl ?_
      refine z_aload_n C dX6_isFit_37 rfl rfl ?_
      refine z_geta (k := 10) (q := (c1 + 15)) C z_CF1 (by decide) flX6_85 hk1 (sh1_r10 hk1) dX6_isFit_38 ?_
      refine z_iload C dX6_isFit_41 rfl ?_
      refine z_iconst (v := 1) C dX6_isFit_43 (by decide) ?_
      refine z_iadd C dX6_isFit_44 ?_
      obtain ⟨b1, h⟩ := z_chk_some h
      refine z_iald C (sh1_k10 hk1) (sh1_l10 hk1) b1 dX6_isFit_45 ?_
      refine z_ishr C dX6_isFit_46 ?_
      refine z_iconst (v := 1) C dX6_isFit_47 (by decide) ?_
      refine z_iand C dX6_isFit_48 ?_
      obtain ⟨x2, ex2, h⟩ := z_let_some h
      refine z_top ex2 ?_
      refine z_istore (lo' := [none, some (.ref (z_a X c1)), some (.int v2), some (.int v3), some (.int v4), some (.int v5), some (.int v6), some (.int (v6 * 3)), some (.int x2)]) C dX6_isFit_49 (Nat.le_of_ble_eq_true rfl) rfl ?_
      refine z_aload_n C dX6_isFit_51 rfl rfl ?_
      refine z_geta (k := 10) (q := (c1 + 15)) C z_CF1 (by decide) flX6_85 hk1 (sh1_r10 hk1) dX6_isFit_52 ?_
      refine z_iload C dX6_isFit_55 rfl ?_
      obtain ⟨b3, h⟩ := z_chk_some h
      refine z_iald C (sh1_k10 hk1) (sh1_l10 hk1) b3 dX6_isFit_57 ?_
      refine z_iload_n C dX6_isFit_58 rfl rfl ?_
      refine z_icmp_ne (tgt := 79) C dX6_isFit_59 (by decide) (fun hc => ?_) (fun hc => ?_)
      · replace h := z_neg hc h
        refine z_iinc (v := v6 + 1) (lo' := [none, some (.ref (z_a X c1)), some (.int v2), some (.int v3), some (.int v4), some (.int v5), some (.int (v6 + 1)), some (.int (v6 * 3)), some (.int x2)]) C dX6_isFit_79 rfl rfl rfl ?_
        refine z_goto (tgt := 20) C dX6_isFit_82 (by decide) ?_
        refine z_kill (lo' := [none, some (.ref (z_a X c1)), some (.int v2), some (.int v3), some (.int v4), some (.int v5), some (.int (v6 + 1)), none, none]) [7, 8] rfl ?_
        exact ih c1 v2 v3 v4 v5 (v6 + 1) σ hk1 h
      · replace h := z_pos hc h
        refine z_iload C dX6_isFit_62 rfl ?_
        refine z_aload_n C dX6_isFit_64 rfl rfl ?_
        refine z_geta (k := 10) (q := (c1 + 15)) C z_CF1 (by decide) flX6_85 hk1 (sh1_r10 hk1) dX6_isFit_65 ?_
        refine z_iload C dX6_isFit_68 rfl ?_
        refine z_iconst (v := 2) C dX6_isFit_70 (by decide) ?_
        refine z_iadd C dX6_isFit_71 ?_
        obtain ⟨b4, h⟩ := z_chk_some h
        refine z_iald C (sh1_k10 hk1) (sh1_l10 hk1) b4 dX6_isFit_72 ?_
        refine z_icmp_ne (tgt := 79) C dX6_isFit_73 (by decide) (fun hc => ?_) (fun hc => ?_)
        · replace h := z_neg hc h
          refine z_iinc (v := v6 + 1) (lo' := [none, some (.ref (z_a X c1)), some (.int v2), some (.int v3), some (.int v4), some (.int v5), some (.int (v6 + 1)), some (.int (v6 * 3)), some (.int x2)]) C dX6_isFit_79 rfl rfl rfl ?_
          refine z_goto (tgt := 20) C dX6_isFit_82 (by decide) ?_
          refine z_kill (lo' := [none, some (.ref (z_a X c1)), some (.int v2), some (.int v3), some (.int v4), some (.int v5), some (.int (v6 + 1)), none, none]) [7, 8] rfl ?_
          exact ih c1 v2 v3 v4 v5 (v6 + 1) σ hk1 h
        · replace h := z_pos hc h
          refine z_iinc (v := v5 + 1) (lo' := [none, some (.ref (z_a X c1)), some (.int v2), some (.int v3), some (.int v4), some (.int (v5 + 1)), some (.int v6), some (.int (v6 * 3)), some (.int x2)]) C dX6_isFit_76 rfl rfl rfl ?_
          refine z_iinc (v := v6 + 1) (lo' := [none, some (.ref (z_a X c1)), some (.int v2), some (.int v3), some (.int v4), some (.int (v5 + 1)), some (.int (v6 + 1)), some (.int (v6 * 3)), some (.int x2)]) C dX6_isFit_79 rfl rfl rfl ?_
          refine z_goto (tgt := 20) C dX6_isFit_82 (by decide) ?_
          refine z_kill (lo' := [none, some (.ref (z_a X c1)), some (.int v2), some (.int v3), some (.int v4), some (.int (v5 + 1)), some (.int (v6 + 1)), none, none]) [7, 8] rfl ?_
          exact ih c1 v2 v3 v4 (v5 + 1) (v6 + 1) σ hk1 h
set_option maxHeartbeats 4000000 in
set_option maxRecDepth 100000 in
theorem t6_isFit {a : Nat → Nat} (c1 : Nat) (p2 : Int32) (p3 : Int32) (p4 : Int32) {σ : z_M} (hk1 : S1.1 c1 = 1) {u : Int32 × z_M} (h : f6_isFit c1 p2 p3 p4 σ = some u) : z_Mt yX6_isFit (z_w yX6_isFit cX6_isFit 9 (some .boolean)) 2 S1 a σ [.ref (a 110), .ref (a c1), .int p2, .int p3, .int p4] (z_oi u) := by
  refine z_head (lo := [some (.ref (a 110)), some (.ref (a c1)), some (.int p2), some (.int p3), some (.int p4), none, none, none, none]) (by decide) (Nat.le_of_ble_eq_true rfl) ?_ rfl ?_
  · intro i v hv
    exact z_loe (vs := [.ref (a 110), .ref (a c1), .int p2, .int p3, .int p4]) (n := 4) rfl (by simp [z_c1i, z_c1r]) i v hv
  · intro X hXa C
    subst hXa
    unfold f6_isFit at h
    refine z_iload C dX6_isFit_0 rfl ?_
    obtain ⟨r1, σ2, mσ2, h⟩ := z_bnd2 h
    refine z_csi (As := [.int p4]) (st := []) C (tj6_bitCount p4 mσ2) kvJ6_bitCount_0f7a4 rfl mlX6_74 (by decide) rfl (Nat.le_of_ble_eq_true rfl) dX6_isFit_2 ?_
    refine z_aload_n C dX6_isFit_5 rfl rfl ?_
    refine z_geti (k := 1) C z_CF1 (by decide) flX6_79 hk1 (sh1_n1 hk1) dX6_isFit_6 ?_
    refine z_icmp_le (tgt := 14) C dX6_isFit_9 (by decide) (fun hc => ?_) (fun hc => ?_)
    · replace h := z_neg hc h
      refine z_iconst (v := 0) C dX6_isFit_14 (by decide) ?_
      refine z_istore (lo' := [some (.ref (z_a X 110)), some (.ref (z_a X c1)), some (.int p2), some (.int p3), some (.int p4), some (.int 0), none, none, none]) C dX6_isFit_15 (Nat.le_of_ble_eq_true rfl) rfl ?_
      refine z_iconst (v := 0) C dX6_isFit_17 (by decide) ?_
      refine z_istore (lo' := [some (.ref (z_a X 110)), some (.ref (z_a X c1)), some (.int p2), some (.int p3), some (.int p4), some (.int 0), some (.int 0), none, none]) C dX6_isFit_18 (Nat.le_of_ble_eq_true rfl) rfl ?_
      refine z_kill (lo' := [none, some (.ref (z_a X c1)), some (.int p2), some (.int p3), some (.int p4), some (.int 0), some (.int 0), none, none]) [0] rfl ?_
      exact t6_isFit_L20 C _ c1 p2 p3 p4 0 0 σ2 hk1 h
    · replace h := z_pos hc h
      refine z_iconst (v := 0) C dX6_isFit_12 (by decide) ?_
      exact z_zret C (by decide) h dX6_isFit_13
set_option maxHeartbeats 4000000 in
set_option maxRecDepth 100000 in
theorem t6_countFits_L6 {X : z_Ct} (C : z_Cx S1 X RX6 cX6_countFits 6 3 (some .int)) {u : Int32 × z_M} : ∀ (n : Nat) (c1 : Nat) (v2 : Int32) (v3 : Int32) (v4 : Int32) (v5 : Int32) (σ : z_M),S1.1 c1 = 1 →  f6_countFits_L6 n c1 v2 v3 v4 v5 σ = some u → z_W S1 X 6 [some (.ref (z_a X 110)), some (.ref (z_a X c1)), some (.int v2), some (.int v3), some (.int v4), some (.int v5)] [] σ (z_oi u) := by
  intro n
  induction n with
  | zero => intro c1 v2 v3 v4 v5 σ hk1 h; rw [f6_countFits_L6] at h; cases h
  | succ n ih =>
    intro c1 v2 v3 v4 v5 σ hk1 h
    rw [f6_countFits_L6] at h
    refine z_iload C dX6_countFits_6 rfl ?_
    refine z_sipush (v := 256) C dX6_countFits_8 (by decide) ?_
    refine z_icmp_ge (tgt := 35) C dX6_countFits_11 (by decide) (fun hc => ?_) (fun hc => ?_)
    · replace h := z_neg hc h
      refine z_iload C dX6_countFits_35 rfl ?_
      exact z_iret C h dX6_countFits_37
    · replace h := z_pos hc h
      refine z_aload_n C dX6_countFits_14 rfl rfl ?_
      refine z_aload_n C dX6_countFits_15 rfl rfl ?_
      refine z_iload_n C dX6_countFits_16 rfl rfl ?_
      refine z_iload_n C dX6_countFits_17 rfl rfl ?_
      refine z_iload C dX6_countFits_18 rfl ?_
      obtain ⟨r1, σ2, mσ2, h⟩ := z_bnd2 h
      refine z_cvi (As := [.ref (z_a X c1), .int v2, .int v3, .int v5]) (c := 110) (st := []) C (t6_isFit c1 v2 v3 v5 hk1 mσ2) kvX6_isFit rfl mlX6_65 z_CF6 rfl rfl (by decide) rfl (Nat.le_of_ble_eq_true rfl) dX6_countFits_20 ?_
      refine z_if_eq (tgt := 29) C dX6_countFits_23 (by decide) (fun hc => ?_) (fun hc => ?_)
      · replace h := z_pos hc h
        refine z_iinc (v := v5 + 1) (lo' := [some (.ref (z_a X 110)), some (.ref (z_a X c1)), some (.int v2), some (.int v3), some (.int v4), some (.int (v5 + 1))]) C dX6_countFits_29 rfl rfl rfl ?_
        refine z_goto (tgt := 6) C dX6_countFits_32 (by decide) ?_
        exact ih c1 v2 v3 v4 (v5 + 1) σ2 hk1 h
      · replace h := z_neg hc h
        refine z_iinc (v := v4 + 1) (lo' := [some (.ref (z_a X 110)), some (.ref (z_a X c1)), some (.int v2), some (.int v3), some (.int (v4 + 1)), some (.int v5)]) C dX6_countFits_26 rfl rfl rfl ?_
        refine z_iinc (v := v5 + 1) (lo' := [some (.ref (z_a X 110)), some (.ref (z_a X c1)), some (.int v2), some (.int v3), some (.int (v4 + 1)), some (.int (v5 + 1))]) C dX6_countFits_29 rfl rfl rfl ?_
        refine z_goto (tgt := 6) C dX6_countFits_32 (by decide) ?_
        exact ih c1 v2 v3 (v4 + 1) (v5 + 1) σ2 hk1 h
set_option maxHeartbeats 4000000 in
set_option maxRecDepth 100000 in
theorem t6_countFits {a : Nat → Nat} (c1 : Nat) (p2 : Int32) (p3 : Int32) {σ : z_M} (hk1 : S1.1 c1 = 1) {u : Int32 × z_M} (h : f6_countFits c1 p2 p3 σ = some u) : z_Mt yX6_countFits (z_w yX6_countFits cX6_countFits 6 (some .int)) 3 S1 a σ [.ref (a 110), .ref (a c1), .int p2, .int p3] (z_oi u) := by
  refine z_head (lo := [some (.ref (a 110)), some (.ref (a c1)), some (.int p2), some (.int p3), none, none]) (by decide) (Nat.le_of_ble_eq_true rfl) ?_ rfl ?_
  · intro i v hv
    exact z_loe (vs := [.ref (a 110), .ref (a c1), .int p2, .int p3]) (n := 2) rfl (by simp [z_c1i, z_c1r]) i v hv
  · intro X hXa C
    subst hXa
    unfold f6_countFits at h
    refine z_iconst (v := 0) C dX6_countFits_0 (by decide) ?_
    refine z_istore (lo' := [some (.ref (z_a X 110)), some (.ref (z_a X c1)), some (.int p2), some (.int p3), some (.int 0), none]) C dX6_countFits_1 (Nat.le_of_ble_eq_true rfl) rfl ?_
    refine z_iconst (v := 0) C dX6_countFits_3 (by decide) ?_
    refine z_istore (lo' := [some (.ref (z_a X 110)), some (.ref (z_a X c1)), some (.int p2), some (.int p3), some (.int 0), some (.int 0)]) C dX6_countFits_4 (Nat.le_of_ble_eq_true rfl) rfl ?_
    exact t6_countFits_L6 C _ c1 p2 p3 0 0 σ hk1 h
set_option maxHeartbeats 4000000 in
set_option maxRecDepth 100000 in
theorem t11_fits {a : Nat → Nat} (p1 : Int32) (p2 : Int32) {σ : z_M} {u : Int32 × z_M} (h : f11_fits p1 p2 σ = some u) : z_Mt yX11_fits (z_w yX11_fits cX11_fits 3 (some .int)) 4 S1 a σ [.ref (a 0), .int p1, .int p2] (z_oi u) := by
  refine z_head (lo := [some (.ref (a 0)), some (.int p1), some (.int p2)]) (by decide) (Nat.le_of_ble_eq_true rfl) ?_ rfl ?_
  · intro i v hv
    exact z_loe (vs := [.ref (a 0), .int p1, .int p2]) (n := 0) rfl (by simp [z_c1i, z_c1r]) i v hv
  · intro X hXa C
    subst hXa
    unfold f11_fits at h
    refine z_aload_n C dX11_fits_0 rfl rfl ?_
    refine z_iload_n C dX11_fits_1 rfl rfl ?_
    obtain ⟨r1, σ2, mσ2, h⟩ := z_bnd2 h
    refine z_cvi (As := [.int p1]) (c := 0) (st := []) C (t11_isHouse p1 mσ2) kvX11_isHouse rfl mlX11_165 z_CF11 rfl rfl (by decide) rfl (Nat.le_of_ble_eq_true rfl) dX11_fits_2 ?_
    refine z_if_eq (tgt := 17) C dX11_fits_5 (by decide) (fun hc => ?_) (fun hc => ?_)
    · replace h := z_pos hc h
      refine z_iconst (v := (-1)) C dX11_fits_17 (by decide) ?_
      exact z_iret C h dX11_fits_18
    · replace h := z_neg hc h
      refine z_iload_n C dX11_fits_8 rfl rfl ?_
      refine z_if_lt (tgt := 17) C dX11_fits_9 (by decide) (fun hc => ?_) (fun hc => ?_)
      · replace h := z_pos hc h
        refine z_iconst (v := (-1)) C dX11_fits_17 (by decide) ?_
        exact z_iret C h dX11_fits_18
      · replace h := z_neg hc h
        refine z_iload_n C dX11_fits_12 rfl rfl ?_
        refine z_iconst (v := 3) C dX11_fits_13 (by decide) ?_
        refine z_icmp_le (tgt := 19) C dX11_fits_14 (by decide) (fun hc => ?_) (fun hc => ?_)
        · replace h := z_neg hc h
          refine z_aload_n C dX11_fits_19 rfl rfl ?_
          refine z_geta (k := 10) (q := 110) C z_CF11 (by decide) flX11_82 rfl rfl dX11_fits_20 ?_
          refine z_aload_n C dX11_fits_23 rfl rfl ?_
          refine z_geta (k := 0) (q := 1) C z_CF11 (by decide) flX11_10 rfl rfl dX11_fits_24 ?_
          refine z_iload_n C dX11_fits_27 rfl rfl ?_
          refine z_iload_n C dX11_fits_28 rfl rfl ?_
          obtain ⟨r3, σ4, mσ4, h⟩ := z_bnd2 h
          refine z_cvi (As := [.ref (z_a X 1), .int p1, .int p2]) (c := 110) (st := []) C (t6_countFits 1 p1 p2 rfl mσ4) kvX6_countFits rfl mlX11_294 z_CF6 rfl rfl (by decide) rfl (Nat.le_of_ble_eq_true rfl) dX11_fits_29 ?_
          exact z_iret C h dX11_fits_32
        · replace h := z_pos hc h
          refine z_iconst (v := (-1)) C dX11_fits_17 (by decide) ?_
          exact z_iret C h dX11_fits_18
set_option maxHeartbeats 4000000 in
set_option maxRecDepth 100000 in
theorem t6_bestQuestion_J86 {X : z_Ct} (C : z_Cx S1 X RX6 cX6_bestQuestion 9 3 (some .int)) {u : Int32 × z_M} {k30 : Nat → Int32 → Int32 → Int32 → Int32 → z_M → Option (Int32 × z_M)} (hr30 : ∀ (c1 : Nat) (v2 : Int32) (v3 : Int32) (v4 : Int32) (v5 : Int32) (σ : z_M), S1.1 c1 = 1 → k30 c1 v2 v3 v4 v5 σ = some u → z_W S1 X 30 [some (.ref (z_a X 110)), some (.ref (z_a X c1)), some (.int v2), some (.int v3), some (.int v4), some (.int v5), none, none, none] [] σ (z_oi u)) (c1 : Nat) (v2 : Int32) (v3 : Int32) (v4 : Int32) (v5 : Int32) (σ : z_M) (hk1 : S1.1 c1 = 1) (h : f6_bestQuestion_J86 k30 c1 v2 v3 v4 v5 σ = some u) : z_W S1 X 86 [some (.ref (z_a X 110)), some (.ref (z_a X c1)), some (.int v2), some (.int v3), some (.int v4), some (.int v5), none, none, none] [] σ (z_oi u) := by
  unfold f6_bestQuestion_J86 at h
  refine z_iinc (v := v5 + 1) (lo' := [some (.ref (z_a X 110)), some (.ref (z_a X c1)), some (.int v2), some (.int v3), some (.int v4), some (.int (v5 + 1)), none, none, none]) C dX6_bestQuestion_86 rfl rfl rfl ?_
  refine z_goto (tgt := 30) C dX6_bestQuestion_89 (by decide) ?_
  exact hr30 c1 v2 v3 v4 (v5 + 1) σ hk1 h
set_option maxHeartbeats 4000000 in
set_option maxRecDepth 100000 in
theorem t6_bestQuestion_L56 {X : z_Ct} (C : z_Cx S1 X RX6 cX6_bestQuestion 9 3 (some .int)) {u : Int32 × z_M} {k30 : Nat → Int32 → Int32 → Int32 → Int32 → z_M → Option (Int32 × z_M)} (hr30 : ∀ (c1 : Nat) (v2 : Int32) (v3 : Int32) (v4 : Int32) (v5 : Int32) (σ : z_M), S1.1 c1 = 1 → k30 c1 v2 v3 v4 v5 σ = some u → z_W S1 X 30 [some (.ref (z_a X 110)), some (.ref (z_a X c1)), some (.int v2), some (.int v3), some (.int v4), some (.int v5), none, none, none] [] σ (z_oi u)) : ∀ (n : Nat) (c1 : Nat) (v2 : Int32) (v3 : Int32) (v4 : Int32) (v5 : Int32) (v6 : Int32) (σ : z_M),S1.1 c1 = 1 →  f6_bestQuestion_L56 k30 n c1 v2 v3 v4 v5 v6 σ = some u → z_W S1 X 56 [some (.ref (z_a X 110)), some (.ref (z_a X c1)), some (.int v2), some (.int v3), some (.int v4), some (.int v5), some (.int v6), none, none] [] σ (z_oi u) := by
  intro n
  induction n with
  | zero => intro c1 v2 v3 v4 v5 v6 σ hk1 h; rw [f6_bestQuestion_L56] at h; cases h
  | succ n ih =>
    intro c1 v2 v3 v4 v5 v6 σ hk1 h
    rw [f6_bestQuestion_L56] at h
    refine z_iload C dX6_bestQuestion_56 rfl ?_
    refine z_bipush (v := 8) C dX6_bestQuestion_58 (by decide) ?_
    refine z_icmp_ge (tgt := 86) C dX6_bestQuestion_60 (by decide) (fun hc => ?_) (fun hc => ?_)
    · replace h := z_neg hc h
      refine z_kill (lo' := [some (.ref (z_a X 110)), some (.ref (z_a X c1)), some (.int v2), some (.int v3), some (.int v4), some (.int v5), none, none, none]) [6] rfl ?_
      exact t6_bestQuestion_J86 C hr30 c1 v2 v3 v4 v5 σ hk1 h
    · replace h := z_pos hc h
      refine z_aload_n C dX6_bestQuestion_63 rfl rfl ?_
      refine z_geta (k := 1) (q := 112) C z_CF6 (by decide) flX6_15 rfl rfl dX6_bestQuestion_64 ?_
      refine z_iload C dX6_bestQuestion_67 rfl ?_
      refine z_dup2 C dX6_bestQuestion_69 rfl rfl ?_
      obtain ⟨b1, h⟩ := z_chk_some h
      refine z_iald C rfl rfl b1 dX6_bestQuestion_70 ?_
      refine z_iload C dX6_bestQuestion_71 rfl ?_
      refine z_iload C dX6_bestQuestion_73 rfl ?_
      refine z_ishr C dX6_bestQuestion_75 ?_
      refine z_iconst (v := 1) C dX6_bestQuestion_76 (by decide) ?_
      refine z_iand C dX6_bestQuestion_77 ?_
      refine z_iadd C dX6_bestQuestion_78 ?_
      obtain ⟨b2, h⟩ := z_chk_some h
      obtain ⟨σ3, eσ3, h⟩ := z_let_some h
      refine z_iast C rfl rfl b2 eσ3 dX6_bestQuestion_79 ?_
      refine z_iinc (v := v6 + 1) (lo' := [some (.ref (z_a X 110)), some (.ref (z_a X c1)), some (.int v2), some (.int v3), some (.int v4), some (.int v5), some (.int (v6 + 1)), none, none]) C dX6_bestQuestion_80 rfl rfl rfl ?_
      refine z_goto (tgt := 56) C dX6_bestQuestion_83 (by decide) ?_
      exact ih c1 v2 v3 v4 v5 (v6 + 1) σ3 hk1 h
set_option maxHeartbeats 4000000 in
set_option maxRecDepth 100000 in
theorem t6_bestQuestion_L104 {X : z_Ct} (C : z_Cx S1 X RX6 cX6_bestQuestion 9 3 (some .int)) {u : Int32 × z_M} : ∀ (n : Nat) (v4 : Int32) (v5 : Int32) (v6 : Int32) (v7 : Int32) (σ : z_M), f6_bestQuestion_L104 n v4 v5 v6 v7 σ = some u → z_W S1 X 104 [some (.ref (z_a X 110)), none, none, none, some (.int v4), some (.int v5), some (.int v6), some (.int v7), none] [] σ (z_oi u) := by
  intro n
  induction n with
  | zero => intro v4 v5 v6 v7 σ h; rw [f6_bestQuestion_L104] at h; cases h
  | succ n ih =>
    intro v4 v5 v6 v7 σ h
    rw [f6_bestQuestion_L104] at h
    refine z_iload C dX6_bestQuestion_104 rfl ?_
    refine z_bipush (v := 8) C dX6_bestQuestion_106 (by decide) ?_
    refine z_icmp_ge (tgt := 160) C dX6_bestQuestion_108 (by decide) (fun hc => ?_) (fun hc => ?_)
    · replace h := z_neg hc h
      refine z_iload C dX6_bestQuestion_160 rfl ?_
      exact z_iret C h dX6_bestQuestion_162
    · replace h := z_pos hc h
      refine z_iload C dX6_bestQuestion_111 rfl ?_
      refine z_iconst (v := 1) C dX6_bestQuestion_113 (by decide) ?_
      refine z_icmp_le (tgt := 160) C dX6_bestQuestion_114 (by decide) (fun hc => ?_) (fun hc => ?_)
      · replace h := z_neg hc h
        refine z_iload C dX6_bestQuestion_160 rfl ?_
        exact z_iret C h dX6_bestQuestion_162
      · replace h := z_pos hc h
        refine z_aload_n C dX6_bestQuestion_117 rfl rfl ?_
        refine z_geta (k := 1) (q := 112) C z_CF6 (by decide) flX6_15 rfl rfl dX6_bestQuestion_118 ?_
        refine z_iload C dX6_bestQuestion_121 rfl ?_
        obtain ⟨b1, h⟩ := z_chk_some h
        refine z_iald C rfl rfl b1 dX6_bestQuestion_123 ?_
        refine z_iload C dX6_bestQuestion_124 rfl ?_
        refine z_aload_n C dX6_bestQuestion_126 rfl rfl ?_
        refine z_geta (k := 1) (q := 112) C z_CF6 (by decide) flX6_15 rfl rfl dX6_bestQuestion_127 ?_
        refine z_iload C dX6_bestQuestion_130 rfl ?_
        obtain ⟨b2, h⟩ := z_chk_some h
        refine z_iald C rfl rfl b2 dX6_bestQuestion_132 ?_
        refine z_isub C dX6_bestQuestion_133 ?_
        refine z_mmax (st := []) C rfl (Nat.le_of_ble_eq_true rfl) mlX6_69 dX6_bestQuestion_134 ?_
        obtain ⟨x3, ex3, h⟩ := z_let_some h
        refine z_top ex3 ?_
        refine z_istore (lo' := [some (.ref (z_a X 110)), none, none, none, some (.int v4), some (.int v5), some (.int v6), some (.int v7), some (.int x3)]) C dX6_bestQuestion_137 (Nat.le_of_ble_eq_true rfl) rfl ?_
        refine z_iload C dX6_bestQuestion_139 rfl ?_
        refine z_iload C dX6_bestQuestion_141 rfl ?_
        refine z_icmp_ge (tgt := 154) C dX6_bestQuestion_143 (by decide) (fun hc => ?_) (fun hc => ?_)
        · replace h := z_neg hc h
          refine z_iinc (v := v7 + 1) (lo' := [some (.ref (z_a X 110)), none, none, none, some (.int v4), some (.int v5), some (.int v6), some (.int (v7 + 1)), some (.int x3)]) C dX6_bestQuestion_154 rfl rfl rfl ?_
          refine z_goto (tgt := 104) C dX6_bestQuestion_157 (by decide) ?_
          refine z_kill (lo' := [some (.ref (z_a X 110)), none, none, none, some (.int v4), some (.int v5), some (.int v6), some (.int (v7 + 1)), none]) [8] rfl ?_
          exact ih v4 v5 v6 (v7 + 1) σ h
        · replace h := z_pos hc h
          refine z_iload C dX6_bestQuestion_146 rfl ?_
          refine z_istore (lo' := [some (.ref (z_a X 110)), none, none, none, some (.int v4), some (.int v5), some (.int x3), some (.int v7), some (.int x3)]) C dX6_bestQuestion_148 (Nat.le_of_ble_eq_true rfl) rfl ?_
          refine z_iload C dX6_bestQuestion_150 rfl ?_
          refine z_istore (lo' := [some (.ref (z_a X 110)), none, none, none, some (.int v4), some (.int v7), some (.int x3), some (.int v7), some (.int x3)]) C dX6_bestQuestion_152 (Nat.le_of_ble_eq_true rfl) rfl ?_
          refine z_iinc (v := v7 + 1) (lo' := [some (.ref (z_a X 110)), none, none, none, some (.int v4), some (.int v7), some (.int x3), some (.int (v7 + 1)), some (.int x3)]) C dX6_bestQuestion_154 rfl rfl rfl ?_
          refine z_goto (tgt := 104) C dX6_bestQuestion_157 (by decide) ?_
          refine z_kill (lo' := [some (.ref (z_a X 110)), none, none, none, some (.int v4), some (.int v7), some (.int x3), some (.int (v7 + 1)), none]) [8] rfl ?_
          exact ih v4 v7 x3 (v7 + 1) σ h
set_option maxHeartbeats 4000000 in
set_option maxRecDepth 100000 in
theorem t6_bestQuestion_J92 {X : z_Ct} (C : z_Cx S1 X RX6 cX6_bestQuestion 9 3 (some .int)) {u : Int32 × z_M} (v4 : Int32) (σ : z_M) (h : f6_bestQuestion_J92 v4 σ = some u) : z_W S1 X 92 [some (.ref (z_a X 110)), none, none, none, some (.int v4), none, none, none, none] [] σ (z_oi u) := by
  unfold f6_bestQuestion_J92 at h
  refine z_iconst (v := (-1)) C dX6_bestQuestion_92 (by decide) ?_
  refine z_istore (lo' := [some (.ref (z_a X 110)), none, none, none, some (.int v4), some (.int (-1)), none, none, none]) C dX6_bestQuestion_93 (Nat.le_of_ble_eq_true rfl) rfl ?_
  refine z_iload C dX6_bestQuestion_95 rfl ?_
  refine z_iconst (v := 1) C dX6_bestQuestion_97 (by decide) ?_
  refine z_iadd C dX6_bestQuestion_98 ?_
  refine z_istore (lo' := [some (.ref (z_a X 110)), none, none, none, some (.int v4), some (.int (-1)), some (.int (v4 + 1)), none, none]) C dX6_bestQuestion_99 (Nat.le_of_ble_eq_true rfl) rfl ?_
  refine z_iconst (v := 0) C dX6_bestQuestion_101 (by decide) ?_
  refine z_istore (lo' := [some (.ref (z_a X 110)), none, none, none, some (.int v4), some (.int (-1)), some (.int (v4 + 1)), some (.int 0), none]) C dX6_bestQuestion_102 (Nat.le_of_ble_eq_true rfl) rfl ?_
  exact t6_bestQuestion_L104 C _ v4 (-1) (v4 + 1) 0 σ h
set_option maxHeartbeats 4000000 in
set_option maxRecDepth 100000 in
theorem t6_bestQuestion_L30 {X : z_Ct} (C : z_Cx S1 X RX6 cX6_bestQuestion 9 3 (some .int)) {u : Int32 × z_M} : ∀ (n : Nat) (c1 : Nat) (v2 : Int32) (v3 : Int32) (v4 : Int32) (v5 : Int32) (σ : z_M),S1.1 c1 = 1 →  f6_bestQuestion_L30 n c1 v2 v3 v4 v5 σ = some u → z_W S1 X 30 [some (.ref (z_a X 110)), some (.ref (z_a X c1)), some (.int v2), some (.int v3), some (.int v4), some (.int v5), none, none, none] [] σ (z_oi u) := by
  intro n
  induction n with
  | zero => intro c1 v2 v3 v4 v5 σ hk1 h; rw [f6_bestQuestion_L30] at h; cases h
  | succ n ih =>
    intro c1 v2 v3 v4 v5 σ hk1 h
    rw [f6_bestQuestion_L30] at h
    refine z_iload C dX6_bestQuestion_30 rfl ?_
    refine z_sipush (v := 256) C dX6_bestQuestion_32 (by decide) ?_
    refine z_icmp_ge (tgt := 92) C dX6_bestQuestion_35 (by decide) (fun hc => ?_) (fun hc => ?_)
    · replace h := z_neg hc h
      refine z_kill (lo' := [some (.ref (z_a X 110)), none, none, none, some (.int v4), none, none, none, none]) [1, 2, 3, 5] rfl ?_
      exact t6_bestQuestion_J92 C v4 σ h
    · replace h := z_pos hc h
      refine z_aload_n C dX6_bestQuestion_38 rfl rfl ?_
      refine z_aload_n C dX6_bestQuestion_39 rfl rfl ?_
      refine z_iload_n C dX6_bestQuestion_40 rfl rfl ?_
      refine z_iload_n C dX6_bestQuestion_41 rfl rfl ?_
      refine z_iload C dX6_bestQuestion_42 rfl ?_
      obtain ⟨r1, σ2, mσ2, h⟩ := z_bnd2 h
      refine z_cvi (As := [.ref (z_a X c1), .int v2, .int v3, .int v5]) (c := 110) (st := []) C (t6_isFit c1 v2 v3 v5 hk1 mσ2) kvX6_isFit rfl mlX6_65 z_CF6 rfl rfl (by decide) rfl (Nat.le_of_ble_eq_true rfl) dX6_bestQuestion_44 ?_
      refine z_if_eq (tgt := 86) C dX6_bestQuestion_47 (by decide) (fun hc => ?_) (fun hc => ?_)
      · replace h := z_pos hc h
        exact t6_bestQuestion_J86 C ih c1 v2 v3 v4 v5 σ2 hk1 h
      · replace h := z_neg hc h
        refine z_iinc (v := v4 + 1) (lo' := [some (.ref (z_a X 110)), some (.ref (z_a X c1)), some (.int v2), some (.int v3), some (.int (v4 + 1)), some (.int v5), none, none, none]) C dX6_bestQuestion_50 rfl rfl rfl ?_
        refine z_iconst (v := 0) C dX6_bestQuestion_53 (by decide) ?_
        refine z_istore (lo' := [some (.ref (z_a X 110)), some (.ref (z_a X c1)), some (.int v2), some (.int v3), some (.int (v4 + 1)), some (.int v5), some (.int 0), none, none]) C dX6_bestQuestion_54 (Nat.le_of_ble_eq_true rfl) rfl ?_
        exact t6_bestQuestion_L56 C ih _ c1 v2 v3 (v4 + 1) v5 0 σ2 hk1 h
set_option maxHeartbeats 4000000 in
set_option maxRecDepth 100000 in
theorem t6_bestQuestion_J27 {X : z_Ct} (C : z_Cx S1 X RX6 cX6_bestQuestion 9 3 (some .int)) {u : Int32 × z_M} (c1 : Nat) (v2 : Int32) (v3 : Int32) (v4 : Int32) (σ : z_M) (hk1 : S1.1 c1 = 1) (h : f6_bestQuestion_J27 c1 v2 v3 v4 σ = some u) : z_W S1 X 27 [some (.ref (z_a X 110)), some (.ref (z_a X c1)), some (.int v2), some (.int v3), some (.int v4), none, none, none, none] [] σ (z_oi u) := by
  unfold f6_bestQuestion_J27 at h
  refine z_iconst (v := 0) C dX6_bestQuestion_27 (by decide) ?_
  refine z_istore (lo' := [some (.ref (z_a X 110)), some (.ref (z_a X c1)), some (.int v2), some (.int v3), some (.int v4), some (.int 0), none, none, none]) C dX6_bestQuestion_28 (Nat.le_of_ble_eq_true rfl) rfl ?_
  exact t6_bestQuestion_L30 C _ c1 v2 v3 v4 0 σ hk1 h
set_option maxHeartbeats 4000000 in
set_option maxRecDepth 100000 in
theorem t6_bestQuestion_L6 {X : z_Ct} (C : z_Cx S1 X RX6 cX6_bestQuestion 9 3 (some .int)) {u : Int32 × z_M} : ∀ (n : Nat) (c1 : Nat) (v2 : Int32) (v3 : Int32) (v4 : Int32) (v5 : Int32) (σ : z_M),S1.1 c1 = 1 →  f6_bestQuestion_L6 n c1 v2 v3 v4 v5 σ = some u → z_W S1 X 6 [some (.ref (z_a X 110)), some (.ref (z_a X c1)), some (.int v2), some (.int v3), some (.int v4), some (.int v5), none, none, none] [] σ (z_oi u) := by
  intro n
  induction n with
  | zero => intro c1 v2 v3 v4 v5 σ hk1 h; rw [f6_bestQuestion_L6] at h; cases h
  | succ n ih =>
    intro c1 v2 v3 v4 v5 σ hk1 h
    rw [f6_bestQuestion_L6] at h
    refine z_iload C dX6_bestQuestion_6 rfl ?_
    refine z_bipush (v := 8) C dX6_bestQuestion_8 (by decide) ?_
    refine z_icmp_ge (tgt := 27) C dX6_bestQuestion_10 (by decide) (fun hc => ?_) (fun hc => ?_)
    · replace h := z_neg hc h
      refine z_kill (lo' := [some (.ref (z_a X 110)), some (.ref (z_a X c1)), some (.int v2), some (.int v3), some (.int v4), none, none, none, none]) [5] rfl ?_
      exact t6_bestQuestion_J27 C c1 v2 v3 v4 σ hk1 h
    · replace h := z_pos hc h
      refine z_aload_n C dX6_bestQuestion_13 rfl rfl ?_
      refine z_geta (k := 1) (q := 112) C z_CF6 (by decide) flX6_15 rfl rfl dX6_bestQuestion_14 ?_
      refine z_iload C dX6_bestQuestion_17 rfl ?_
      refine z_iconst (v := 0) C dX6_bestQuestion_19 (by decide) ?_
      obtain ⟨b1, h⟩ := z_chk_some h
      obtain ⟨σ2, eσ2, h⟩ := z_let_some h
      refine z_iast C rfl rfl b1 eσ2 dX6_bestQuestion_20 ?_
      refine z_iinc (v := v5 + 1) (lo' := [some (.ref (z_a X 110)), some (.ref (z_a X c1)), some (.int v2), some (.int v3), some (.int v4), some (.int (v5 + 1)), none, none, none]) C dX6_bestQuestion_21 rfl rfl rfl ?_
      refine z_goto (tgt := 6) C dX6_bestQuestion_24 (by decide) ?_
      exact ih c1 v2 v3 v4 (v5 + 1) σ2 hk1 h
set_option maxHeartbeats 4000000 in
set_option maxRecDepth 100000 in
theorem t6_bestQuestion {a : Nat → Nat} (c1 : Nat) (p2 : Int32) (p3 : Int32) {σ : z_M} (hk1 : S1.1 c1 = 1) {u : Int32 × z_M} (h : f6_bestQuestion c1 p2 p3 σ = some u) : z_Mt yX6_bestQuestion (z_w yX6_bestQuestion cX6_bestQuestion 9 (some .int)) 3 S1 a σ [.ref (a 110), .ref (a c1), .int p2, .int p3] (z_oi u) := by
  refine z_head (lo := [some (.ref (a 110)), some (.ref (a c1)), some (.int p2), some (.int p3), none, none, none, none, none]) (by decide) (Nat.le_of_ble_eq_true rfl) ?_ rfl ?_
  · intro i v hv
    exact z_loe (vs := [.ref (a 110), .ref (a c1), .int p2, .int p3]) (n := 5) rfl (by simp [z_c1i, z_c1r]) i v hv
  · intro X hXa C
    subst hXa
    unfold f6_bestQuestion at h
    refine z_iconst (v := 0) C dX6_bestQuestion_0 (by decide) ?_
    refine z_istore (lo' := [some (.ref (z_a X 110)), some (.ref (z_a X c1)), some (.int p2), some (.int p3), some (.int 0), none, none, none, none]) C dX6_bestQuestion_1 (Nat.le_of_ble_eq_true rfl) rfl ?_
    refine z_iconst (v := 0) C dX6_bestQuestion_3 (by decide) ?_
    refine z_istore (lo' := [some (.ref (z_a X 110)), some (.ref (z_a X c1)), some (.int p2), some (.int p3), some (.int 0), some (.int 0), none, none, none]) C dX6_bestQuestion_4 (Nat.le_of_ble_eq_true rfl) rfl ?_
    exact t6_bestQuestion_L6 C _ c1 p2 p3 0 0 σ hk1 h
set_option maxHeartbeats 4000000 in
set_option maxRecDepth 100000 in
theorem t11_ask {a : Nat → Nat} (p1 : Int32) (p2 : Int32) {σ : z_M} {u : Int32 × z_M} (h : f11_ask p1 p2 σ = some u) : z_Mt yX11_ask (z_w yX11_ask cX11_ask 3 (some .int)) 4 S1 a σ [.ref (a 0), .int p1, .int p2] (z_oi u) := by
  refine z_head (lo := [some (.ref (a 0)), some (.int p1), some (.int p2)]) (by decide) (Nat.le_of_ble_eq_true rfl) ?_ rfl ?_
  · intro i v hv
    exact z_loe (vs := [.ref (a 0), .int p1, .int p2]) (n := 0) rfl (by simp [z_c1i, z_c1r]) i v hv
  · intro X hXa C
    subst hXa
    unfold f11_ask at h
    refine z_aload_n C dX11_ask_0 rfl rfl ?_
    refine z_iload_n C dX11_ask_1 rfl rfl ?_
    obtain ⟨r1, σ2, mσ2, h⟩ := z_bnd2 h
    refine z_cvi (As := [.int p1]) (c := 0) (st := []) C (t11_isHouse p1 mσ2) kvX11_isHouse rfl mlX11_165 z_CF11 rfl rfl (by decide) rfl (Nat.le_of_ble_eq_true rfl) dX11_ask_2 ?_
    refine z_if_eq (tgt := 17) C dX11_ask_5 (by decide) (fun hc => ?_) (fun hc => ?_)
    · replace h := z_pos hc h
      refine z_iconst (v := (-1)) C dX11_ask_17 (by decide) ?_
      exact z_iret C h dX11_ask_18
    · replace h := z_neg hc h
      refine z_iload_n C dX11_ask_8 rfl rfl ?_
      refine z_if_lt (tgt := 17) C dX11_ask_9 (by decide) (fun hc => ?_) (fun hc => ?_)
      · replace h := z_pos hc h
        refine z_iconst (v := (-1)) C dX11_ask_17 (by decide) ?_
        exact z_iret C h dX11_ask_18
      · replace h := z_neg hc h
        refine z_iload_n C dX11_ask_12 rfl rfl ?_
        refine z_iconst (v := 3) C dX11_ask_13 (by decide) ?_
        refine z_icmp_le (tgt := 19) C dX11_ask_14 (by decide) (fun hc => ?_) (fun hc => ?_)
        · replace h := z_neg hc h
          refine z_aload_n C dX11_ask_19 rfl rfl ?_
          refine z_geta (k := 10) (q := 110) C z_CF11 (by decide) flX11_82 rfl rfl dX11_ask_20 ?_
          refine z_aload_n C dX11_ask_23 rfl rfl ?_
          refine z_geta (k := 0) (q := 1) C z_CF11 (by decide) flX11_10 rfl rfl dX11_ask_24 ?_
          refine z_iload_n C dX11_ask_27 rfl rfl ?_
          refine z_iload_n C dX11_ask_28 rfl rfl ?_
          obtain ⟨r3, σ4, mσ4, h⟩ := z_bnd2 h
          refine z_cvi (As := [.ref (z_a X 1), .int p1, .int p2]) (c := 110) (st := []) C (t6_bestQuestion 1 p1 p2 rfl mσ4) kvX6_bestQuestion rfl mlX11_297 z_CF6 rfl rfl (by decide) rfl (Nat.le_of_ble_eq_true rfl) dX11_ask_29 ?_
          exact z_iret C h dX11_ask_32
        · replace h := z_pos hc h
          refine z_iconst (v := (-1)) C dX11_ask_17 (by decide) ?_
          exact z_iret C h dX11_ask_18
set_option maxHeartbeats 4000000 in
set_option maxRecDepth 100000 in
theorem t7_bears_J66 {X : z_Ct} (C : z_Cx S1 X RX7 cX7_bears 6 6 (some .boolean)) {u : Int32 × z_M} (c0 : Nat) (v1 : Int32) (σ : z_M) (hk0 : S1.1 c0 = 7) (h : f7_bears_J66 c0 v1 σ = some u) : z_W S1 X 66 [some (.ref (z_a X c0)), some (.int v1), none, none, none, none] [] σ (z_oi u) := by
  unfold f7_bears_J66 at h
  refine z_aload_n C dX7_bears_66 rfl rfl ?_
  refine z_geta (k := 1) (q := (z_sb c0)) C z_CF7 (by decide) flX7_15 hk0 (sh7_r1 hk0) dX7_bears_67 ?_
  refine z_iload_n C dX7_bears_70 rfl rfl ?_
  obtain ⟨r1, σ2, mσ2, h⟩ := z_bnd2 h
  refine z_cvi (As := [.int v1]) (c := (z_sb c0)) (st := []) C (t0_hasPot (z_sb c0) v1 (sh7_k1 hk0) mσ2) kvX0_hasPot rfl mlX7_86 z_CF0 (sh7_k1 hk0) rfl (by decide) rfl (Nat.le_of_ble_eq_true rfl) dX7_bears_71 ?_
  obtain ⟨b3, h⟩ := z_chk_some h
  exact z_zret C b3 h dX7_bears_74
set_option maxHeartbeats 4000000 in
set_option maxRecDepth 100000 in
theorem t7_bears_L17 {X : z_Ct} (C : z_Cx S1 X RX7 cX7_bears 6 6 (some .boolean)) {u : Int32 × z_M} : ∀ (n : Nat) (c0 : Nat) (v1 : Int32) (v2 : Int32) (v3 : Int32) (v4 : Int32) (v5 : Int32) (σ : z_M),S1.1 c0 = 7 →  f7_bears_L17 n c0 v1 v2 v3 v4 v5 σ = some u → z_W S1 X 17 [some (.ref (z_a X c0)), some (.int v1), some (.int v2), some (.int v3), some (.int v4), some (.int v5)] [] σ (z_oi u) := by
  intro n
  induction n with
  | zero => intro c0 v1 v2 v3 v4 v5 σ hk0 h; rw [f7_bears_L17] at h; cases h
  | succ n ih =>
    intro c0 v1 v2 v3 v4 v5 σ hk0 h
    rw [f7_bears_L17] at h
    refine z_iload C dX7_bears_17 rfl ?_
    refine z_iload_n C dX7_bears_19 rfl rfl ?_
    refine z_icmp_ge (tgt := 66) C dX7_bears_20 (by decide) (fun hc => ?_) (fun hc => ?_)
    · replace h := z_neg hc h
      refine z_kill (lo' := [some (.ref (z_a X c0)), some (.int v1), none, none, none, none]) [2, 3, 4, 5] rfl ?_
      exact t7_bears_J66 C c0 v1 σ hk0 h
    · replace h := z_pos hc h
      refine z_aload_n C dX7_bears_23 rfl rfl ?_
      refine z_geta (k := 1) (q := (z_sb c0)) C z_CF7 (by decide) flX7_15 hk0 (sh7_r1 hk0) dX7_bears_24 ?_
      refine z_iload_n C dX7_bears_27 rfl rfl ?_
      obtain ⟨r1, σ2, mσ2, h⟩ := z_bnd2 h
      refine z_cvi (As := [.int v1]) (c := (z_sb c0)) (st := []) C (t0_hasPot (z_sb c0) v1 (sh7_k1 hk0) mσ2) kvX0_hasPot rfl mlX7_86 z_CF0 (sh7_k1 hk0) rfl (by decide) rfl (Nat.le_of_ble_eq_true rfl) dX7_bears_28 ?_
      refine z_if_eq (tgt := 66) C dX7_bears_31 (by decide) (fun hc => ?_) (fun hc => ?_)
      · replace h := z_pos hc h
        refine z_kill (lo' := [some (.ref (z_a X c0)), some (.int v1), none, none, none, none]) [2, 3, 4, 5] rfl ?_
        exact t7_bears_J66 C c0 v1 σ2 hk0 h
      · replace h := z_neg hc h
        refine z_aload_n C dX7_bears_34 rfl rfl ?_
        refine z_iload_n C dX7_bears_35 rfl rfl ?_
        refine z_iload_n C dX7_bears_36 rfl rfl ?_
        obtain ⟨⟨⟩, σ4, mσ4, h⟩ := z_bnd2 h
        refine z_cvv (As := [.int v1, .int v3]) (c := c0) (st := []) C (t7_pour c0 v1 v3 hk0 mσ4) kvX7_pour rfl mlX7_120 z_CF7 hk0 rfl (by decide) rfl (Nat.le_of_ble_eq_true rfl) dX7_bears_37 ?_
        refine z_aload_n C dX7_bears_40 rfl rfl ?_
        refine z_iload_n C dX7_bears_41 rfl rfl ?_
        refine z_iload C dX7_bears_42 rfl ?_
        obtain ⟨⟨⟩, σ6, mσ6, h⟩ := z_bnd2 h
        refine z_cvv (As := [.int v1, .int v4]) (c := c0) (st := []) C (t7_growPot c0 v1 v4 hk0 mσ6) kvX7_growPot rfl mlX7_94 z_CF7 hk0 rfl (by decide) rfl (Nat.le_of_ble_eq_true rfl) dX7_bears_44 ?_
        refine z_aload_n C dX7_bears_47 rfl rfl ?_
        refine z_geta (k := 1) (q := (z_sb c0)) C z_CF7 (by decide) flX7_15 hk0 (sh7_r1 hk0) dX7_bears_48 ?_
        refine z_dup C dX7_bears_51 rfl ?_
        refine z_geti (k := 6) C z_CF0 (by decide) flX7_74 (sh7_k1 hk0) (sh0_n6 (sh7_k1 hk0)) dX7_bears_52 ?_
        refine z_iconst (v := 1) C dX7_bears_55 (by decide) ?_
        refine z_iadd C dX7_bears_56 ?_
        obtain ⟨σ7, eσ7, h⟩ := z_let_some h
        refine z_puti (k := 6) C z_CF0 (by decide) flX7_74 rfl rfl (sh7_k1 hk0) (sh0_n6 (sh7_k1 hk0)) eσ7 dX7_bears_57 ?_
        refine z_iinc (v := v5 + 1) (lo' := [some (.ref (z_a X c0)), some (.int v1), some (.int v2), some (.int v3), some (.int v4), some (.int (v5 + 1))]) C dX7_bears_60 rfl rfl rfl ?_
        refine z_goto (tgt := 17) C dX7_bears_63 (by decide) ?_
        exact ih c0 v1 v2 v3 v4 (v5 + 1) σ7 hk0 h
set_option maxHeartbeats 4000000 in
set_option maxRecDepth 100000 in
theorem t7_bears {a : Nat → Nat} (c0 : Nat) (p1 : Int32) (p2 : Int32) (p3 : Int32) {σ : z_M} (hk0 : S1.1 c0 = 7) {u : Int32 × z_M} (h : f7_bears c0 p1 p2 p3 σ = some u) : z_Mt yX7_bears (z_w yX7_bears cX7_bears 6 (some .boolean)) 6 S1 a σ [.ref (a c0), .int p1, .int p2, .int p3] (z_oi u) := by
  refine z_head (lo := [some (.ref (a c0)), some (.int p1), some (.int p2), some (.int p3), none, none]) (by decide) (Nat.le_of_ble_eq_true rfl) ?_ rfl ?_
  · intro i v hv
    exact z_loe (vs := [.ref (a c0), .int p1, .int p2, .int p3]) (n := 2) rfl (by simp [z_c1i, z_c1r]) i v hv
  · intro X hXa C
    subst hXa
    unfold f7_bears at h
    refine z_aload_n C dX7_bears_0 rfl rfl ?_
    obtain ⟨⟨⟩, σ2, mσ2, h⟩ := z_bnd2 h
    refine z_cvv (As := []) (c := c0) (st := []) C (t7_fallAsleep c0 hk0 mσ2) kvX7_fallAsleep rfl mlX7_173 z_CF7 hk0 rfl (by decide) rfl (Nat.le_of_ble_eq_true rfl) dX7_bears_1 ?_
    refine z_aload_n C dX7_bears_4 rfl rfl ?_
    refine z_geta (k := 1) (q := (z_sb c0)) C z_CF7 (by decide) flX7_15 hk0 (sh7_r1 hk0) dX7_bears_5 ?_
    refine z_iload_n C dX7_bears_8 rfl rfl ?_
    obtain ⟨r3, σ4, mσ4, h⟩ := z_bnd2 h
    refine z_cvi (As := [.int p1]) (c := (z_sb c0)) (st := []) C (t0_sures (z_sb c0) p1 (sh7_k1 hk0) mσ4) kvX0_sures rfl mlX7_90 z_CF0 (sh7_k1 hk0) rfl (by decide) rfl (Nat.le_of_ble_eq_true rfl) dX7_bears_9 ?_
    refine z_istore (lo' := [some (.ref (z_a X c0)), some (.int p1), some (.int p2), some (.int p3), some (.int r3), none]) C dX7_bears_12 (Nat.le_of_ble_eq_true rfl) rfl ?_
    refine z_iconst (v := 0) C dX7_bears_14 (by decide) ?_
    refine z_istore (lo' := [some (.ref (z_a X c0)), some (.int p1), some (.int p2), some (.int p3), some (.int r3), some (.int 0)]) C dX7_bears_15 (Nat.le_of_ble_eq_true rfl) rfl ?_
    exact t7_bears_L17 C _ c0 p1 p2 p3 r3 0 σ4 hk0 h
set_option maxHeartbeats 4000000 in
set_option maxRecDepth 100000 in
theorem t11_waters_J68 {X : z_Ct} (C : z_Cx S1 X RX11 cX11_waters 6 7 (some .int)) {u : Int32 × z_M} {k47 : Int32 → Int32 → Int32 → Int32 → z_M → Option (Int32 × z_M)} (hr47 : ∀ (v1 : Int32) (v2 : Int32) (v3 : Int32) (v4 : Int32) (σ : z_M), k47 v1 v2 v3 v4 σ = some u → z_W S1 X 47 [some (.ref (z_a X 0)), some (.int v1), some (.int v2), some (.int v3), some (.int v4), none] [] σ (z_oi u)) (v1 : Int32) (v2 : Int32) (v3 : Int32) (v4 : Int32) (s0 : Int32) (σ : z_M) (h : f11_waters_J68 k47 v1 v2 v3 v4 s0 σ = some u) : z_W S1 X 68 [some (.ref (z_a X 0)), some (.int v1), some (.int v2), some (.int v3), some (.int v4), none] [.int s0] σ (z_oi u) := by
  unfold f11_waters_J68 at h
  refine z_istore (lo' := [some (.ref (z_a X 0)), some (.int v1), some (.int v2), some (.int v3), some (.int v4), some (.int s0)]) C dX11_waters_68 (Nat.le_of_ble_eq_true rfl) rfl ?_
  refine z_aload_n C dX11_waters_70 rfl rfl ?_
  refine z_geta (k := 4) (q := 51) C z_CF11 (by decide) flX11_46 rfl rfl dX11_waters_71 ?_
  refine z_iload_n C dX11_waters_74 rfl rfl ?_
  refine z_iload_n C dX11_waters_75 rfl rfl ?_
  refine z_iload C dX11_waters_76 rfl ?_
  obtain ⟨r1, σ2, mσ2, h⟩ := z_bnd2 h
  refine z_cvi (As := [.int v1, .int v2, .int s0]) (c := 51) (st := []) C (t7_bears 51 v1 v2 s0 rfl mσ2) kvX7_bears rfl mlX11_300 z_CF7 rfl rfl (by decide) rfl (Nat.le_of_ble_eq_true rfl) dX11_waters_78 ?_
  refine z_if_eq (tgt := 87) C dX11_waters_81 (by decide) (fun hc => ?_) (fun hc => ?_)
  · replace h := z_pos hc h
    refine z_iinc (v := v4 + 1) (lo' := [some (.ref (z_a X 0)), some (.int v1), some (.int v2), some (.int v3), some (.int (v4 + 1)), some (.int s0)]) C dX11_waters_87 rfl rfl rfl ?_
    refine z_goto (tgt := 47) C dX11_waters_90 (by decide) ?_
    refine z_kill (lo' := [some (.ref (z_a X 0)), some (.int v1), some (.int v2), some (.int v3), some (.int (v4 + 1)), none]) [5] rfl ?_
    exact hr47 v1 v2 v3 (v4 + 1) σ2 h
  · replace h := z_neg hc h
    refine z_iload C dX11_waters_84 rfl ?_
    exact z_iret C h dX11_waters_86
set_option maxHeartbeats 4000000 in
set_option maxRecDepth 100000 in
theorem t11_waters_L47 {X : z_Ct} (C : z_Cx S1 X RX11 cX11_waters 6 7 (some .int)) {u : Int32 × z_M} : ∀ (n : Nat) (v1 : Int32) (v2 : Int32) (v3 : Int32) (v4 : Int32) (σ : z_M), f11_waters_L47 n v1 v2 v3 v4 σ = some u → z_W S1 X 47 [some (.ref (z_a X 0)), some (.int v1), some (.int v2), some (.int v3), some (.int v4), none] [] σ (z_oi u) := by
  intro n
  induction n with
  | zero => intro v1 v2 v3 v4 σ h; rw [f11_waters_L47] at h; cases h
  | succ n ih =>
    intro v1 v2 v3 v4 σ h
    rw [f11_waters_L47] at h
    refine z_iload C dX11_waters_47 rfl ?_
    refine z_bipush (v := 40) C dX11_waters_49 (by decide) ?_
    refine z_icmp_gt (tgt := 93) C dX11_waters_51 (by decide) (fun hc => ?_) (fun hc => ?_)
    · replace h := z_pos hc h
      refine z_iconst (v := (-1)) C dX11_waters_93 (by decide) ?_
      exact z_iret C h dX11_waters_94
    · replace h := z_neg hc h
      refine z_iload_n C dX11_waters_54 rfl rfl ?_
      refine z_if_ne (tgt := 63) C dX11_waters_55 (by decide) (fun hc => ?_) (fun hc => ?_)
      · replace h := z_neg hc h
        refine z_bipush (v := 40) C dX11_waters_63 (by decide) ?_
        refine z_iload C dX11_waters_65 rfl ?_
        refine z_isub C dX11_waters_67 ?_
        exact t11_waters_J68 C ih v1 v2 v3 v4 (40 - v4) σ h
      · replace h := z_pos hc h
        refine z_iload C dX11_waters_58 rfl ?_
        refine z_goto (tgt := 68) C dX11_waters_60 (by decide) ?_
        exact t11_waters_J68 C ih v1 v2 v3 v4 v4 σ h
set_option maxHeartbeats 4000000 in
set_option maxRecDepth 100000 in
theorem t11_waters {a : Nat → Nat} (p1 : Int32) (p2 : Int32) (p3 : Int32) {σ : z_M} {u : Int32 × z_M} (h : f11_waters p1 p2 p3 σ = some u) : z_Mt yX11_waters (z_w yX11_waters cX11_waters 6 (some .int)) 7 S1 a σ [.ref (a 0), .int p1, .int p2, .int p3] (z_oi u) := by
  refine z_head (lo := [some (.ref (a 0)), some (.int p1), some (.int p2), some (.int p3), none, none]) (by decide) (Nat.le_of_ble_eq_true rfl) ?_ rfl ?_
  · intro i v hv
    exact z_loe (vs := [.ref (a 0), .int p1, .int p2, .int p3]) (n := 2) rfl (by simp [z_c1i, z_c1r]) i v hv
  · intro X hXa C
    subst hXa
    unfold f11_waters at h
    refine z_aload_n C dX11_waters_0 rfl rfl ?_
    refine z_iload_n C dX11_waters_1 rfl rfl ?_
    obtain ⟨r1, σ2, mσ2, h⟩ := z_bnd2 h
    refine z_cvi (As := [.int p1]) (c := 0) (st := []) C (t11_isHouse p1 mσ2) kvX11_isHouse rfl mlX11_165 z_CF11 rfl rfl (by decide) rfl (Nat.le_of_ble_eq_true rfl) dX11_waters_2 ?_
    refine z_if_eq (tgt := 42) C dX11_waters_5 (by decide) (fun hc => ?_) (fun hc => ?_)
    · replace h := z_pos hc h
      refine z_iconst (v := (-1)) C dX11_waters_42 (by decide) ?_
      exact z_iret C h dX11_waters_43
    · replace h := z_neg hc h
      refine z_iload_n C dX11_waters_8 rfl rfl ?_
      refine z_iconst (v := 1) C dX11_waters_9 (by decide) ?_
      refine z_icmp_lt (tgt := 42) C dX11_waters_10 (by decide) (fun hc => ?_) (fun hc => ?_)
      · replace h := z_pos hc h
        refine z_iconst (v := (-1)) C dX11_waters_42 (by decide) ?_
        exact z_iret C h dX11_waters_43
      · replace h := z_neg hc h
        refine z_iload_n C dX11_waters_13 rfl rfl ?_
        refine z_bipush (v := 30) C dX11_waters_14 (by decide) ?_
        refine z_icmp_gt (tgt := 42) C dX11_waters_16 (by decide) (fun hc => ?_) (fun hc => ?_)
        · replace h := z_pos hc h
          refine z_iconst (v := (-1)) C dX11_waters_42 (by decide) ?_
          exact z_iret C h dX11_waters_43
        · replace h := z_neg hc h
          refine z_iload_n C dX11_waters_19 rfl rfl ?_
          refine z_if_lt (tgt := 42) C dX11_waters_20 (by decide) (fun hc => ?_) (fun hc => ?_)
          · replace h := z_pos hc h
            refine z_iconst (v := (-1)) C dX11_waters_42 (by decide) ?_
            exact z_iret C h dX11_waters_43
          · replace h := z_neg hc h
            refine z_iload_n C dX11_waters_23 rfl rfl ?_
            refine z_iconst (v := 1) C dX11_waters_24 (by decide) ?_
            refine z_icmp_gt (tgt := 42) C dX11_waters_25 (by decide) (fun hc => ?_) (fun hc => ?_)
            · replace h := z_pos hc h
              refine z_iconst (v := (-1)) C dX11_waters_42 (by decide) ?_
              exact z_iret C h dX11_waters_43
            · replace h := z_neg hc h
              refine z_aload_n C dX11_waters_28 rfl rfl ?_
              refine z_geta (k := 0) (q := 1) C z_CF11 (by decide) flX11_10 rfl rfl dX11_waters_29 ?_
              refine z_geta (k := 13) (q := 18) C z_CF1 (by decide) flX11_32 rfl rfl dX11_waters_32 ?_
              refine z_iload_n C dX11_waters_35 rfl rfl ?_
              obtain ⟨r3, σ4, mσ4, h⟩ := z_bnd2 h
              refine z_cvi (As := [.int p1]) (c := 18) (st := []) C (t0_hasPot 18 p1 rfl mσ4) kvX0_hasPot rfl mlX11_168 z_CF0 rfl rfl (by decide) rfl (Nat.le_of_ble_eq_true rfl) dX11_waters_36 ?_
              refine z_if_ne (tgt := 44) C dX11_waters_39 (by decide) (fun hc => ?_) (fun hc => ?_)
              · replace h := z_neg hc h
                refine z_iconst (v := 0) C dX11_waters_44 (by decide) ?_
                refine z_istore (lo' := [some (.ref (z_a X 0)), some (.int p1), some (.int p2), some (.int p3), some (.int 0), none]) C dX11_waters_45 (Nat.le_of_ble_eq_true rfl) rfl ?_
                exact t11_waters_L47 C _ p1 p2 p3 0 σ4 h
              · replace h := z_pos hc h
                refine z_iconst (v := (-1)) C dX11_waters_42 (by decide) ?_
                exact z_iret C h dX11_waters_43
set_option maxHeartbeats 4000000 in
set_option maxRecDepth 100000 in
theorem t4_leftOf_L13 {X : z_Ct} (C : z_Cx S1 X RX4 cX4_leftOf 5 1 (some .int)) {u : Int32 × z_M} : ∀ (n : Nat) (c1 : Nat) (v3 : Int32) (v4 : Int32) (σ : z_M),S1.1 c1 = 1 →  f4_leftOf_L13 n c1 v3 v4 σ = some u → z_W S1 X 13 [none, some (.ref (z_a X c1)), none, some (.int v3), some (.int v4)] [] σ (z_oi u) := by
  intro n
  induction n with
  | zero => intro c1 v3 v4 σ hk1 h; rw [f4_leftOf_L13] at h; cases h
  | succ n ih =>
    intro c1 v3 v4 σ hk1 h
    rw [f4_leftOf_L13] at h
    refine z_iload C dX4_leftOf_13 rfl ?_
    refine z_aload_n C dX4_leftOf_15 rfl rfl ?_
    refine z_geti (k := 0) C z_CF1 (by decide) flX4_15 hk1 (sh1_n0 hk1) dX4_leftOf_16 ?_
    refine z_icmp_ge (tgt := 41) C dX4_leftOf_19 (by decide) (fun hc => ?_) (fun hc => ?_)
    · replace h := z_neg hc h
      refine z_iload_n C dX4_leftOf_41 rfl rfl ?_
      exact z_iret C h dX4_leftOf_42
    · replace h := z_pos hc h
      refine z_iload_n C dX4_leftOf_22 rfl rfl ?_
      refine z_aload_n C dX4_leftOf_23 rfl rfl ?_
      refine z_geta (k := 13) (q := (c1 + 17)) C z_CF1 (by decide) flX4_21 hk1 (sh1_r13 hk1) dX4_leftOf_24 ?_
      refine z_geta (k := 2) (q := (c1 + 20)) C z_CF0 (by decide) flX4_49 (sh1_k13 hk1) (sh0_r2 (sh1_k13 hk1)) dX4_leftOf_27 ?_
      refine z_iload C dX4_leftOf_30 rfl ?_
      obtain ⟨b1, h⟩ := z_chk_some h
      refine z_iald C (sh0_k2 (sh1_k13 hk1)) (sh0_l2 (sh1_k13 hk1)) b1 dX4_leftOf_32 ?_
      refine z_ixor C dX4_leftOf_33 ?_
      refine z_istore_n (lo' := [none, some (.ref (z_a X c1)), none, some (.int (v3 ^^^ (σ (c1 + 20) (z_ix v4)))), some (.int v4)]) C dX4_leftOf_34 rfl (Nat.le_of_ble_eq_true rfl) rfl ?_
      refine z_iinc (v := v4 + 1) (lo' := [none, some (.ref (z_a X c1)), none, some (.int (v3 ^^^ (σ (c1 + 20) (z_ix v4)))), some (.int (v4 + 1))]) C dX4_leftOf_35 rfl rfl rfl ?_
      refine z_goto (tgt := 13) C dX4_leftOf_38 (by decide) ?_
      exact ih c1 (v3 ^^^ (σ (c1 + 20) (z_ix v4))) (v4 + 1) σ hk1 h
set_option maxHeartbeats 4000000 in
set_option maxRecDepth 100000 in
theorem t4_leftOf {a : Nat → Nat} (c1 : Nat) (p2 : Int32) {σ : z_M} (hk1 : S1.1 c1 = 1) {u : Int32 × z_M} (h : f4_leftOf c1 p2 σ = some u) : z_Mt yX4_leftOf (z_w yX4_leftOf cX4_leftOf 5 (some .int)) 1 S1 a σ [.ref (a 113), .ref (a c1), .int p2] (z_oi u) := by
  refine z_head (lo := [some (.ref (a 113)), some (.ref (a c1)), some (.int p2), none, none]) (by decide) (Nat.le_of_ble_eq_true rfl) ?_ rfl ?_
  · intro i v hv
    exact z_loe (vs := [.ref (a 113), .ref (a c1), .int p2]) (n := 2) rfl (by simp [z_c1i, z_c1r]) i v hv
  · intro X hXa C
    subst hXa
    unfold f4_leftOf at h
    refine z_aload_n C dX4_leftOf_0 rfl rfl ?_
    refine z_geta (k := 13) (q := (c1 + 17)) C z_CF1 (by decide) flX4_21 hk1 (sh1_r13 hk1) dX4_leftOf_1 ?_
    refine z_geta (k := 2) (q := (c1 + 20)) C z_CF0 (by decide) flX4_49 (sh1_k13 hk1) (sh0_r2 (sh1_k13 hk1)) dX4_leftOf_4 ?_
    refine z_iload_n C dX4_leftOf_7 rfl rfl ?_
    obtain ⟨b1, h⟩ := z_chk_some h
    refine z_iald C (sh0_k2 (sh1_k13 hk1)) (sh0_l2 (sh1_k13 hk1)) b1 dX4_leftOf_8 ?_
    refine z_istore_n (lo' := [some (.ref (z_a X 113)), some (.ref (z_a X c1)), some (.int p2), some (.int (σ (c1 + 20) (z_ix p2))), none]) C dX4_leftOf_9 rfl (Nat.le_of_ble_eq_true rfl) rfl ?_
    refine z_iconst (v := 0) C dX4_leftOf_10 (by decide) ?_
    refine z_istore (lo' := [some (.ref (z_a X 113)), some (.ref (z_a X c1)), some (.int p2), some (.int (σ (c1 + 20) (z_ix p2))), some (.int 0)]) C dX4_leftOf_11 (Nat.le_of_ble_eq_true rfl) rfl ?_
    refine z_kill (lo' := [none, some (.ref (z_a X c1)), none, some (.int (σ (c1 + 20) (z_ix p2))), some (.int 0)]) [0, 2] rfl ?_
    exact t4_leftOf_L13 C _ c1 (σ (c1 + 20) (z_ix p2)) 0 σ hk1 h
set_option maxHeartbeats 4000000 in
set_option maxRecDepth 100000 in
theorem t4_winningPot_L2 {X : z_Ct} (C : z_Cx S1 X RX4 cX4_winningPot 3 2 (some .int)) {u : Int32 × z_M} : ∀ (n : Nat) (c1 : Nat) (v2 : Int32) (σ : z_M),S1.1 c1 = 1 →  f4_winningPot_L2 n c1 v2 σ = some u → z_W S1 X 2 [some (.ref (z_a X 113)), some (.ref (z_a X c1)), some (.int v2)] [] σ (z_oi u) := by
  intro n
  induction n with
  | zero => intro c1 v2 σ hk1 h; rw [f4_winningPot_L2] at h; cases h
  | succ n ih =>
    intro c1 v2 σ hk1 h
    rw [f4_winningPot_L2] at h
    refine z_iload_n C dX4_winningPot_2 rfl rfl ?_
    refine z_aload_n C dX4_winningPot_3 rfl rfl ?_
    refine z_geti (k := 0) C z_CF1 (by decide) flX4_15 hk1 (sh1_n0 hk1) dX4_winningPot_4 ?_
    refine z_icmp_ge (tgt := 36) C dX4_winningPot_7 (by decide) (fun hc => ?_) (fun hc => ?_)
    · replace h := z_neg hc h
      refine z_iconst (v := (-1)) C dX4_winningPot_36 (by decide) ?_
      exact z_iret C h dX4_winningPot_37
    · replace h := z_pos hc h
      refine z_aload_n C dX4_winningPot_10 rfl rfl ?_
      refine z_aload_n C dX4_winningPot_11 rfl rfl ?_
      refine z_iload_n C dX4_winningPot_12 rfl rfl ?_
      obtain ⟨r1, σ2, mσ2, h⟩ := z_bnd2 h
      refine z_cvi (As := [.ref (z_a X c1), .int v2]) (c := 113) (st := []) C (t4_leftOf c1 v2 hk1 mσ2) kvX4_leftOf rfl mlX4_45 z_CF4 rfl rfl (by decide) rfl (Nat.le_of_ble_eq_true rfl) dX4_winningPot_13 ?_
      refine z_aload_n C dX4_winningPot_16 rfl rfl ?_
      refine z_geta (k := 13) (q := (c1 + 17)) C z_CF1 (by decide) flX4_21 hk1 (sh1_r13 hk1) dX4_winningPot_17 ?_
      refine z_geta (k := 2) (q := (c1 + 20)) C z_CF0 (by decide) flX4_49 (sh1_k13 hk1) (sh0_r2 (sh1_k13 hk1)) dX4_winningPot_20 ?_
      refine z_iload_n C dX4_winningPot_23 rfl rfl ?_
      obtain ⟨b3, h⟩ := z_chk_some h
      refine z_iald C (sh0_k2 (sh1_k13 hk1)) (sh0_l2 (sh1_k13 hk1)) b3 dX4_winningPot_24 ?_
      refine z_icmp_ge (tgt := 30) C dX4_winningPot_25 (by decide) (fun hc => ?_) (fun hc => ?_)
      · replace h := z_neg hc h
        refine z_iinc (v := v2 + 1) (lo' := [some (.ref (z_a X 113)), some (.ref (z_a X c1)), some (.int (v2 + 1))]) C dX4_winningPot_30 rfl rfl rfl ?_
        refine z_goto (tgt := 2) C dX4_winningPot_33 (by decide) ?_
        exact ih c1 (v2 + 1) σ2 hk1 h
      · replace h := z_pos hc h
        refine z_iload_n C dX4_winningPot_28 rfl rfl ?_
        exact z_iret C h dX4_winningPot_29
set_option maxHeartbeats 4000000 in
set_option maxRecDepth 100000 in
theorem t4_winningPot {a : Nat → Nat} (c1 : Nat) {σ : z_M} (hk1 : S1.1 c1 = 1) {u : Int32 × z_M} (h : f4_winningPot c1 σ = some u) : z_Mt yX4_winningPot (z_w yX4_winningPot cX4_winningPot 3 (some .int)) 2 S1 a σ [.ref (a 113), .ref (a c1)] (z_oi u) := by
  refine z_head (lo := [some (.ref (a 113)), some (.ref (a c1)), none]) (by decide) (Nat.le_of_ble_eq_true rfl) ?_ rfl ?_
  · intro i v hv
    exact z_loe (vs := [.ref (a 113), .ref (a c1)]) (n := 1) rfl (by simp [z_c1i, z_c1r]) i v hv
  · intro X hXa C
    subst hXa
    unfold f4_winningPot at h
    refine z_iconst (v := 0) C dX4_winningPot_0 (by decide) ?_
    refine z_istore_n (lo' := [some (.ref (z_a X 113)), some (.ref (z_a X c1)), some (.int 0)]) C dX4_winningPot_1 rfl (Nat.le_of_ble_eq_true rfl) rfl ?_
    exact t4_winningPot_L2 C _ c1 0 σ hk1 h
set_option maxHeartbeats 4000000 in
set_option maxRecDepth 100000 in
theorem t11_game {a : Nat → Nat} (p1 : Int32) {σ : z_M} {u : Int32 × z_M} (h : f11_game p1 σ = some u) : z_Mt yX11_game (z_w yX11_game cX11_game 3 (some .int)) 3 S1 a σ [.ref (a 0), .int p1] (z_oi u) := by
  refine z_head (lo := [some (.ref (a 0)), some (.int p1), none]) (by decide) (Nat.le_of_ble_eq_true rfl) ?_ rfl ?_
  · intro i v hv
    exact z_loe (vs := [.ref (a 0), .int p1]) (n := 1) rfl (by simp [z_c1i, z_c1r]) i v hv
  · intro X hXa C
    subst hXa
    unfold f11_game at h
    refine z_iload_n C dX11_game_0 rfl rfl ?_
    refine z_if_lt (tgt := 9) C dX11_game_1 (by decide) (fun hc => ?_) (fun hc => ?_)
    · replace h := z_pos hc h
      refine z_iconst (v := (-1)) C dX11_game_9 (by decide) ?_
      exact z_iret C h dX11_game_10
    · replace h := z_neg hc h
      refine z_iload_n C dX11_game_4 rfl rfl ?_
      refine z_iconst (v := 1) C dX11_game_5 (by decide) ?_
      refine z_icmp_le (tgt := 11) C dX11_game_6 (by decide) (fun hc => ?_) (fun hc => ?_)
      · replace h := z_neg hc h
        refine z_aload_n C dX11_game_11 rfl rfl ?_
        refine z_geta (k := 11) (q := 113) C z_CF11 (by decide) flX11_89 rfl rfl dX11_game_12 ?_
        refine z_aload_n C dX11_game_15 rfl rfl ?_
        refine z_geta (k := 0) (q := 1) C z_CF11 (by decide) flX11_10 rfl rfl dX11_game_16 ?_
        obtain ⟨r1, σ2, mσ2, h⟩ := z_bnd2 h
        refine z_cvi (As := [.ref (z_a X 1)]) (c := 113) (st := []) C (t4_winningPot 1 rfl mσ2) kvX4_winningPot rfl mlX11_304 z_CF4 rfl rfl (by decide) rfl (Nat.le_of_ble_eq_true rfl) dX11_game_19 ?_
        refine z_istore_n (lo' := [some (.ref (z_a X 0)), some (.int p1), some (.int r1)]) C dX11_game_22 rfl (Nat.le_of_ble_eq_true rfl) rfl ?_
        refine z_iload_n C dX11_game_23 rfl rfl ?_
        refine z_if_eq (tgt := 32) C dX11_game_24 (by decide) (fun hc => ?_) (fun hc => ?_)
        · replace h := z_pos hc h
          refine z_iload_n C dX11_game_32 rfl rfl ?_
          refine z_goto (tgt := 48) C dX11_game_33 (by decide) ?_
          exact z_iret C h dX11_game_48
        · replace h := z_neg hc h
          refine z_iload_n C dX11_game_27 rfl rfl ?_
          refine z_iconst (v := (-1)) C dX11_game_28 (by decide) ?_
          refine z_icmp_ne (tgt := 36) C dX11_game_29 (by decide) (fun hc => ?_) (fun hc => ?_)
          · replace h := z_neg hc h
            refine z_aload_n C dX11_game_36 rfl rfl ?_
            refine z_geta (k := 11) (q := 113) C z_CF11 (by decide) flX11_89 rfl rfl dX11_game_37 ?_
            refine z_aload_n C dX11_game_40 rfl rfl ?_
            refine z_geta (k := 0) (q := 1) C z_CF11 (by decide) flX11_10 rfl rfl dX11_game_41 ?_
            refine z_iload_n C dX11_game_44 rfl rfl ?_
            obtain ⟨r3, σ4, mσ4, h⟩ := z_bnd2 h
            refine z_cvi (As := [.ref (z_a X 1), .int r1]) (c := 113) (st := []) C (t4_leftOf 1 r1 rfl mσ4) kvX4_leftOf rfl mlX11_307 z_CF4 rfl rfl (by decide) rfl (Nat.le_of_ble_eq_true rfl) dX11_game_45 ?_
            exact z_iret C h dX11_game_48
          · replace h := z_pos hc h
            refine z_iload_n C dX11_game_32 rfl rfl ?_
            refine z_goto (tgt := 48) C dX11_game_33 (by decide) ?_
            exact z_iret C h dX11_game_48
      · replace h := z_pos hc h
        refine z_iconst (v := (-1)) C dX11_game_9 (by decide) ?_
        exact z_iret C h dX11_game_10
set_option maxHeartbeats 4000000 in
set_option maxRecDepth 100000 in
theorem t4_leastFilled_J92 {X : z_Ct} (C : z_Cx S1 X RX4 cX4_leastFilled 10 1 (some .int)) {u : Int32 × z_M} {k7 : Nat → Int32 → Int32 → Int32 → Int32 → z_M → Option (Int32 × z_M)} (hr7 : ∀ (c1 : Nat) (v2 : Int32) (v3 : Int32) (v4 : Int32) (v5 : Int32) (σ : z_M), S1.1 c1 = 1 → k7 c1 v2 v3 v4 v5 σ = some u → z_W S1 X 7 [some (.ref (z_a X 113)), some (.ref (z_a X c1)), some (.int v2), some (.int v3), some (.int v4), some (.int v5), none, none, none, none] [] σ (z_oi u)) (c1 : Nat) (v2 : Int32) (v3 : Int32) (v4 : Int32) (v5 : Int32) (s0 : Int32) (σ : z_M) (hk1 : S1.1 c1 = 1) (h : f4_leastFilled_J92 k7 c1 v2 v3 v4 v5 s0 σ = some u) : z_W S1 X 92 [some (.ref (z_a X 113)), some (.ref (z_a X c1)), some (.int v2), some (.int v3), some (.int v4), some (.int v5), none, none, none, none] [.int s0] σ (z_oi u) := by
  unfold f4_leastFilled_J92 at h
  refine z_istore (lo' := [some (.ref (z_a X 113)), some (.ref (z_a X c1)), some (.int v2), some (.int v3), some (.int v4), some (.int v5), none, none, none, some (.int s0)]) C dX4_leastFilled_92 (Nat.le_of_ble_eq_true rfl) rfl ?_
  refine z_iload C dX4_leastFilled_94 rfl ?_
  refine z_iload C dX4_leastFilled_96 rfl ?_
  refine z_mmin (st := []) C rfl (Nat.le_of_ble_eq_true rfl) mlX4_39 dX4_leastFilled_98 ?_
  refine z_istore (lo' := [some (.ref (z_a X 113)), some (.ref (z_a X c1)), some (.int v2), some (.int v3), some (.int (z_min v4 s0)), some (.int v5), none, none, none, some (.int s0)]) C dX4_leastFilled_101 (Nat.le_of_ble_eq_true rfl) rfl ?_
  refine z_iinc (v := v5 + 1) (lo' := [some (.ref (z_a X 113)), some (.ref (z_a X c1)), some (.int v2), some (.int v3), some (.int (z_min v4 s0)), some (.int (v5 + 1)), none, none, none, some (.int s0)]) C dX4_leastFilled_103 rfl rfl rfl ?_
  refine z_goto (tgt := 7) C dX4_leastFilled_106 (by decide) ?_
  refine z_kill (lo' := [some (.ref (z_a X 113)), some (.ref (z_a X c1)), some (.int v2), some (.int v3), some (.int (z_min v4 s0)), some (.int (v5 + 1)), none, none, none, none]) [9] rfl ?_
  exact hr7 c1 v2 v3 (z_min v4 s0) (v5 + 1) σ hk1 h
set_option maxHeartbeats 4000000 in
set_option maxRecDepth 100000 in
theorem t4_leastFilled_L7 {X : z_Ct} (C : z_Cx S1 X RX4 cX4_leastFilled 10 1 (some .int)) {u : Int32 × z_M} : ∀ (n : Nat) (c1 : Nat) (v2 : Int32) (v3 : Int32) (v4 : Int32) (v5 : Int32) (σ : z_M),S1.1 c1 = 1 →  f4_leastFilled_L7 n c1 v2 v3 v4 v5 σ = some u → z_W S1 X 7 [some (.ref (z_a X 113)), some (.ref (z_a X c1)), some (.int v2), some (.int v3), some (.int v4), some (.int v5), none, none, none, none] [] σ (z_oi u) := by
  intro n
  induction n with
  | zero => intro c1 v2 v3 v4 v5 σ hk1 h; rw [f4_leastFilled_L7] at h; cases h
  | succ n ih =>
    intro c1 v2 v3 v4 v5 σ hk1 h
    rw [f4_leastFilled_L7] at h
    refine z_iload C dX4_leastFilled_7 rfl ?_
    refine z_aload_n C dX4_leastFilled_9 rfl rfl ?_
    refine z_geti (k := 0) C z_CF1 (by decide) flX4_15 hk1 (sh1_n0 hk1) dX4_leastFilled_10 ?_
    refine z_icmp_ge (tgt := 109) C dX4_leastFilled_13 (by decide) (fun hc => ?_) (fun hc => ?_)
    · replace h := z_neg hc h
      refine z_iload C dX4_leastFilled_109 rfl ?_
      exact z_iret C h dX4_leastFilled_111
    · replace h := z_pos hc h
      refine z_iload_n C dX4_leastFilled_16 rfl rfl ?_
      refine z_iload C dX4_leastFilled_17 rfl ?_
      refine z_ishr C dX4_leastFilled_19 ?_
      refine z_iconst (v := 1) C dX4_leastFilled_20 (by decide) ?_
      refine z_iand C dX4_leastFilled_21 ?_
      refine z_if_eq (tgt := 103) C dX4_leastFilled_22 (by decide) (fun hc => ?_) (fun hc => ?_)
      · replace h := z_pos hc h
        refine z_iinc (v := v5 + 1) (lo' := [some (.ref (z_a X 113)), some (.ref (z_a X c1)), some (.int v2), some (.int v3), some (.int v4), some (.int (v5 + 1)), none, none, none, none]) C dX4_leastFilled_103 rfl rfl rfl ?_
        refine z_goto (tgt := 7) C dX4_leastFilled_106 (by decide) ?_
        exact ih c1 v2 v3 v4 (v5 + 1) σ hk1 h
      · replace h := z_neg hc h
        refine z_aload_n C dX4_leastFilled_25 rfl rfl ?_
        refine z_geta (k := 0) (q := 114) C z_CF4 (by decide) flX4_9 rfl rfl dX4_leastFilled_26 ?_
        refine z_iload_n C dX4_leastFilled_29 rfl rfl ?_
        refine z_iconst (v := 1) C dX4_leastFilled_30 (by decide) ?_
        refine z_iload C dX4_leastFilled_31 rfl ?_
        refine z_ishl C dX4_leastFilled_33 ?_
        refine z_iconst (v := (-1)) C dX4_leastFilled_34 (by decide) ?_
        refine z_ixor C dX4_leastFilled_35 ?_
        refine z_iand C dX4_leastFilled_36 ?_
        obtain ⟨b1, h⟩ := z_chk_some h
        refine z_iald C rfl rfl b1 dX4_leastFilled_37 ?_
        obtain ⟨x2, ex2, h⟩ := z_let_some h
        refine z_top ex2 ?_
        refine z_istore (lo' := [some (.ref (z_a X 113)), some (.ref (z_a X c1)), some (.int v2), some (.int v3), some (.int v4), some (.int v5), some (.int x2), none, none, none]) C dX4_leastFilled_38 (Nat.le_of_ble_eq_true rfl) rfl ?_
        refine z_aload_n C dX4_leastFilled_40 rfl rfl ?_
        refine z_geta (k := 13) (q := (c1 + 17)) C z_CF1 (by decide) flX4_21 hk1 (sh1_r13 hk1) dX4_leastFilled_41 ?_
        refine z_geta (k := 2) (q := (c1 + 20)) C z_CF0 (by decide) flX4_49 (sh1_k13 hk1) (sh0_r2 (sh1_k13 hk1)) dX4_leastFilled_44 ?_
        refine z_iload C dX4_leastFilled_47 rfl ?_
        obtain ⟨b3, h⟩ := z_chk_some h
        refine z_iald C (sh0_k2 (sh1_k13 hk1)) (sh0_l2 (sh1_k13 hk1)) b3 dX4_leastFilled_49 ?_
        refine z_istore (lo' := [some (.ref (z_a X 113)), some (.ref (z_a X c1)), some (.int v2), some (.int v3), some (.int v4), some (.int v5), some (.int x2), some (.int (σ (c1 + 20) (z_ix v5))), none, none]) C dX4_leastFilled_50 (Nat.le_of_ble_eq_true rfl) rfl ?_
        refine z_iload C dX4_leastFilled_52 rfl ?_
        refine z_sipush (v := 1000) C dX4_leastFilled_54 (by decide) ?_
        refine z_irem C dX4_leastFilled_57 (by decide) ?_
        refine z_iload C dX4_leastFilled_58 rfl ?_
        refine z_iadd C dX4_leastFilled_60 ?_
        obtain ⟨x4, ex4, h⟩ := z_let_some h
        refine z_top ex4 ?_
        refine z_istore (lo' := [some (.ref (z_a X 113)), some (.ref (z_a X c1)), some (.int v2), some (.int v3), some (.int v4), some (.int v5), some (.int x2), some (.int (σ (c1 + 20) (z_ix v5))), some (.int x4), none]) C dX4_leastFilled_61 (Nat.le_of_ble_eq_true rfl) rfl ?_
        refine z_iload C dX4_leastFilled_63 rfl ?_
        refine z_iload_n C dX4_leastFilled_65 rfl rfl ?_
        refine z_icmp_gt (tgt := 77) C dX4_leastFilled_66 (by decide) (fun hc => ?_) (fun hc => ?_)
        · replace h := z_pos hc h
          refine z_iload C dX4_leastFilled_77 rfl ?_
          refine z_sipush (v := 1000) C dX4_leastFilled_79 (by decide) ?_
          refine z_idiv C dX4_leastFilled_82 (by decide) ?_
          refine z_iconst (v := 1) C dX4_leastFilled_83 (by decide) ?_
          refine z_iadd C dX4_leastFilled_84 ?_
          refine z_sipush (v := 1000) C dX4_leastFilled_85 (by decide) ?_
          refine z_imul C dX4_leastFilled_88 ?_
          refine z_iload C dX4_leastFilled_89 rfl ?_
          refine z_iadd C dX4_leastFilled_91 ?_
          refine z_kill (lo' := [some (.ref (z_a X 113)), some (.ref (z_a X c1)), some (.int v2), some (.int v3), some (.int v4), some (.int v5), none, none, none, none]) [6, 7, 8] rfl ?_
          exact t4_leastFilled_J92 C ih c1 v2 v3 v4 v5 ((((x2 / 1000) + 1) * 1000) + (σ (c1 + 20) (z_ix v5))) σ hk1 h
        · replace h := z_neg hc h
          refine z_iload C dX4_leastFilled_69 rfl ?_
          refine z_iload C dX4_leastFilled_71 rfl ?_
          refine z_iadd C dX4_leastFilled_73 ?_
          refine z_goto (tgt := 92) C dX4_leastFilled_74 (by decide) ?_
          refine z_kill (lo' := [some (.ref (z_a X 113)), some (.ref (z_a X c1)), some (.int v2), some (.int v3), some (.int v4), some (.int v5), none, none, none, none]) [6, 7, 8] rfl ?_
          exact t4_leastFilled_J92 C ih c1 v2 v3 v4 v5 (x2 + (σ (c1 + 20) (z_ix v5))) σ hk1 h
set_option maxHeartbeats 4000000 in
set_option maxRecDepth 100000 in
theorem t4_leastFilled {a : Nat → Nat} (c1 : Nat) (p2 : Int32) (p3 : Int32) {σ : z_M} (hk1 : S1.1 c1 = 1) {u : Int32 × z_M} (h : f4_leastFilled c1 p2 p3 σ = some u) : z_Mt yX4_leastFilled (z_w yX4_leastFilled cX4_leastFilled 10 (some .int)) 1 S1 a σ [.ref (a 113), .ref (a c1), .int p2, .int p3] (z_oi u) := by
  refine z_head (lo := [some (.ref (a 113)), some (.ref (a c1)), some (.int p2), some (.int p3), none, none, none, none, none, none]) (by decide) (Nat.le_of_ble_eq_true rfl) ?_ rfl ?_
  · intro i v hv
    exact z_loe (vs := [.ref (a 113), .ref (a c1), .int p2, .int p3]) (n := 6) rfl (by simp [z_c1i, z_c1r]) i v hv
  · intro X hXa C
    subst hXa
    unfold f4_leastFilled at h
    refine z_ldc (v := 256000) C dX4_leastFilled_0 cnX4_60 ?_
    refine z_istore (lo' := [some (.ref (z_a X 113)), some (.ref (z_a X c1)), some (.int p2), some (.int p3), some (.int 256000), none, none, none, none, none]) C dX4_leastFilled_2 (Nat.le_of_ble_eq_true rfl) rfl ?_
    refine z_iconst (v := 0) C dX4_leastFilled_4 (by decide) ?_
    refine z_istore (lo' := [some (.ref (z_a X 113)), some (.ref (z_a X c1)), some (.int p2), some (.int p3), some (.int 256000), some (.int 0), none, none, none, none]) C dX4_leastFilled_5 (Nat.le_of_ble_eq_true rfl) rfl ?_
    exact t4_leastFilled_L7 C _ c1 p2 p3 256000 0 σ hk1 h
set_option maxHeartbeats 4000000 in
set_option maxRecDepth 100000 in
theorem t4_fewest_J101 {X : z_Ct} (C : z_Cx S1 X RX4 cX4_fewest 5 2 (some .int)) {u : Int32 × z_M} (v3 : Int32) (σ : z_M) (h : f4_fewest_J101 v3 σ = some u) : z_W S1 X 101 [some (.ref (z_a X 113)), none, none, some (.int v3), none] [] σ (z_oi u) := by
  unfold f4_fewest_J101 at h
  refine z_aload_n C dX4_fewest_101 rfl rfl ?_
  refine z_geta (k := 0) (q := 114) C z_CF4 (by decide) flX4_9 rfl rfl dX4_fewest_102 ?_
  refine z_iload_n C dX4_fewest_105 rfl rfl ?_
  obtain ⟨b1, h⟩ := z_chk_some h
  refine z_iald C rfl rfl b1 dX4_fewest_106 ?_
  refine z_sipush (v := 1000) C dX4_fewest_107 (by decide) ?_
  refine z_idiv C dX4_fewest_110 (by decide) ?_
  exact z_iret C h dX4_fewest_111
set_option maxHeartbeats 4000000 in
set_option maxRecDepth 100000 in
theorem t4_fewest_L65 {X : z_Ct} (C : z_Cx S1 X RX4 cX4_fewest 5 2 (some .int)) {u : Int32 × z_M} : ∀ (n : Nat) (c1 : Nat) (v2 : Int32) (v3 : Int32) (v4 : Int32) (σ : z_M),S1.1 c1 = 1 →  f4_fewest_L65 n c1 v2 v3 v4 σ = some u → z_W S1 X 65 [some (.ref (z_a X 113)), some (.ref (z_a X c1)), some (.int v2), some (.int v3), some (.int v4)] [] σ (z_oi u) := by
  intro n
  induction n with
  | zero => intro c1 v2 v3 v4 σ hk1 h; rw [f4_fewest_L65] at h; cases h
  | succ n ih =>
    intro c1 v2 v3 v4 σ hk1 h
    rw [f4_fewest_L65] at h
    refine z_iload C dX4_fewest_65 rfl ?_
    refine z_iload_n C dX4_fewest_67 rfl rfl ?_
    refine z_icmp_gt (tgt := 101) C dX4_fewest_68 (by decide) (fun hc => ?_) (fun hc => ?_)
    · replace h := z_pos hc h
      refine z_kill (lo' := [some (.ref (z_a X 113)), none, none, some (.int v3), none]) [1, 2, 4] rfl ?_
      exact t4_fewest_J101 C v3 σ h
    · replace h := z_neg hc h
      refine z_iload C dX4_fewest_71 rfl ?_
      refine z_iload_n C dX4_fewest_73 rfl rfl ?_
      refine z_iconst (v := (-1)) C dX4_fewest_74 (by decide) ?_
      refine z_ixor C dX4_fewest_75 ?_
      refine z_iand C dX4_fewest_76 ?_
      refine z_if_ne (tgt := 95) C dX4_fewest_77 (by decide) (fun hc => ?_) (fun hc => ?_)
      · replace h := z_neg hc h
        refine z_iinc (v := v4 + 1) (lo' := [some (.ref (z_a X 113)), some (.ref (z_a X c1)), some (.int v2), some (.int v3), some (.int (v4 + 1))]) C dX4_fewest_95 rfl rfl rfl ?_
        refine z_goto (tgt := 65) C dX4_fewest_98 (by decide) ?_
        exact ih c1 v2 v3 (v4 + 1) σ hk1 h
      · replace h := z_pos hc h
        refine z_aload_n C dX4_fewest_80 rfl rfl ?_
        refine z_geta (k := 0) (q := 114) C z_CF4 (by decide) flX4_9 rfl rfl dX4_fewest_81 ?_
        refine z_iload C dX4_fewest_84 rfl ?_
        refine z_aload_n C dX4_fewest_86 rfl rfl ?_
        refine z_aload_n C dX4_fewest_87 rfl rfl ?_
        refine z_iload C dX4_fewest_88 rfl ?_
        refine z_iload_n C dX4_fewest_90 rfl rfl ?_
        obtain ⟨r1, σ2, mσ2, h⟩ := z_bnd2 h
        refine z_cvi (As := [.ref (z_a X c1), .int v4, .int v2]) (c := 113) (st := [.int v4, .ref (z_a X 114)]) C (t4_leastFilled c1 v4 v2 hk1 mσ2) kvX4_leastFilled rfl mlX4_56 z_CF4 rfl rfl (by decide) rfl (Nat.le_of_ble_eq_true rfl) dX4_fewest_91 ?_
        obtain ⟨b3, h⟩ := z_chk_some h
        obtain ⟨σ4, eσ4, h⟩ := z_let_some h
        refine z_iast C rfl rfl b3 eσ4 dX4_fewest_94 ?_
        refine z_iinc (v := v4 + 1) (lo' := [some (.ref (z_a X 113)), some (.ref (z_a X c1)), some (.int v2), some (.int v3), some (.int (v4 + 1))]) C dX4_fewest_95 rfl rfl rfl ?_
        refine z_goto (tgt := 65) C dX4_fewest_98 (by decide) ?_
        exact ih c1 v2 v3 (v4 + 1) σ4 hk1 h
set_option maxHeartbeats 4000000 in
set_option maxRecDepth 100000 in
theorem t4_fewest_J55 {X : z_Ct} (C : z_Cx S1 X RX4 cX4_fewest 5 2 (some .int)) {u : Int32 × z_M} (c1 : Nat) (v2 : Int32) (v3 : Int32) (σ : z_M) (hk1 : S1.1 c1 = 1) (h : f4_fewest_J55 c1 v2 v3 σ = some u) : z_W S1 X 55 [some (.ref (z_a X 113)), some (.ref (z_a X c1)), some (.int v2), some (.int v3), none] [] σ (z_oi u) := by
  unfold f4_fewest_J55 at h
  refine z_aload_n C dX4_fewest_55 rfl rfl ?_
  refine z_geta (k := 0) (q := 114) C z_CF4 (by decide) flX4_9 rfl rfl dX4_fewest_56 ?_
  refine z_iconst (v := 0) C dX4_fewest_59 (by decide) ?_
  refine z_iload_n C dX4_fewest_60 rfl rfl ?_
  obtain ⟨b1, h⟩ := z_chk_some h
  obtain ⟨σ2, eσ2, h⟩ := z_let_some h
  refine z_iast C rfl rfl b1 eσ2 dX4_fewest_61 ?_
  refine z_iconst (v := 1) C dX4_fewest_62 (by decide) ?_
  refine z_istore (lo' := [some (.ref (z_a X 113)), some (.ref (z_a X c1)), some (.int v2), some (.int v3), some (.int 1)]) C dX4_fewest_63 (Nat.le_of_ble_eq_true rfl) rfl ?_
  exact t4_fewest_L65 C _ c1 v2 v3 1 σ2 hk1 h
set_option maxHeartbeats 4000000 in
set_option maxRecDepth 100000 in
theorem t4_fewest_L5 {X : z_Ct} (C : z_Cx S1 X RX4 cX4_fewest 5 2 (some .int)) {u : Int32 × z_M} : ∀ (n : Nat) (c1 : Nat) (v2 : Int32) (v3 : Int32) (v4 : Int32) (σ : z_M),S1.1 c1 = 1 →  f4_fewest_L5 n c1 v2 v3 v4 σ = some u → z_W S1 X 5 [some (.ref (z_a X 113)), some (.ref (z_a X c1)), some (.int v2), some (.int v3), some (.int v4)] [] σ (z_oi u) := by
  intro n
  induction n with
  | zero => intro c1 v2 v3 v4 σ hk1 h; rw [f4_fewest_L5] at h; cases h
  | succ n ih =>
    intro c1 v2 v3 v4 σ hk1 h
    rw [f4_fewest_L5] at h
    refine z_iload C dX4_fewest_5 rfl ?_
    refine z_aload_n C dX4_fewest_7 rfl rfl ?_
    refine z_geti (k := 0) C z_CF1 (by decide) flX4_15 hk1 (sh1_n0 hk1) dX4_fewest_8 ?_
    refine z_icmp_ge (tgt := 55) C dX4_fewest_11 (by decide) (fun hc => ?_) (fun hc => ?_)
    · replace h := z_neg hc h
      refine z_kill (lo' := [some (.ref (z_a X 113)), some (.ref (z_a X c1)), some (.int v2), some (.int v3), none]) [4] rfl ?_
      exact t4_fewest_J55 C c1 v2 v3 σ hk1 h
    · replace h := z_pos hc h
      refine z_aload_n C dX4_fewest_14 rfl rfl ?_
      refine z_geta (k := 13) (q := (c1 + 17)) C z_CF1 (by decide) flX4_21 hk1 (sh1_r13 hk1) dX4_fewest_15 ?_
      refine z_geta (k := 2) (q := (c1 + 20)) C z_CF0 (by decide) flX4_49 (sh1_k13 hk1) (sh0_r2 (sh1_k13 hk1)) dX4_fewest_18 ?_
      refine z_iload C dX4_fewest_21 rfl ?_
      obtain ⟨b1, h⟩ := z_chk_some h
      refine z_iald C (sh0_k2 (sh1_k13 hk1)) (sh0_l2 (sh1_k13 hk1)) b1 dX4_fewest_23 ?_
      refine z_iload_n C dX4_fewest_24 rfl rfl ?_
      refine z_icmp_le (tgt := 30) C dX4_fewest_25 (by decide) (fun hc => ?_) (fun hc => ?_)
      · replace h := z_neg hc h
        refine z_aload_n C dX4_fewest_30 rfl rfl ?_
        refine z_geta (k := 13) (q := (c1 + 17)) C z_CF1 (by decide) flX4_21 hk1 (sh1_r13 hk1) dX4_fewest_31 ?_
        refine z_iload C dX4_fewest_34 rfl ?_
        obtain ⟨r2, σ3, mσ3, h⟩ := z_bnd2 h
        refine z_cvi (As := [.int v4]) (c := (c1 + 17)) (st := []) C (t0_hasPot (c1 + 17) v4 (sh1_k13 hk1) mσ3) kvX0_hasPot rfl mlX4_52 z_CF0 (sh1_k13 hk1) rfl (by decide) rfl (Nat.le_of_ble_eq_true rfl) dX4_fewest_36 ?_
        refine z_if_eq (tgt := 49) C dX4_fewest_39 (by decide) (fun hc => ?_) (fun hc => ?_)
        · replace h := z_pos hc h
          refine z_iinc (v := v4 + 1) (lo' := [some (.ref (z_a X 113)), some (.ref (z_a X c1)), some (.int v2), some (.int v3), some (.int (v4 + 1))]) C dX4_fewest_49 rfl rfl rfl ?_
          refine z_goto (tgt := 5) C dX4_fewest_52 (by decide) ?_
          exact ih c1 v2 v3 (v4 + 1) σ3 hk1 h
        · replace h := z_neg hc h
          refine z_iload_n C dX4_fewest_42 rfl rfl ?_
          refine z_iconst (v := 1) C dX4_fewest_43 (by decide) ?_
          refine z_iload C dX4_fewest_44 rfl ?_
          refine z_ishl C dX4_fewest_46 ?_
          refine z_ior C dX4_fewest_47 ?_
          refine z_istore_n (lo' := [some (.ref (z_a X 113)), some (.ref (z_a X c1)), some (.int v2), some (.int (v3 ||| (z_shl 1 v4))), some (.int v4)]) C dX4_fewest_48 rfl (Nat.le_of_ble_eq_true rfl) rfl ?_
          refine z_iinc (v := v4 + 1) (lo' := [some (.ref (z_a X 113)), some (.ref (z_a X c1)), some (.int v2), some (.int (v3 ||| (z_shl 1 v4))), some (.int (v4 + 1))]) C dX4_fewest_49 rfl rfl rfl ?_
          refine z_goto (tgt := 5) C dX4_fewest_52 (by decide) ?_
          exact ih c1 v2 (v3 ||| (z_shl 1 v4)) (v4 + 1) σ3 hk1 h
      · replace h := z_pos hc h
        refine z_iconst (v := (-1)) C dX4_fewest_28 (by decide) ?_
        exact z_iret C h dX4_fewest_29
set_option maxHeartbeats 4000000 in
set_option maxRecDepth 100000 in
theorem t4_fewest {a : Nat → Nat} (c1 : Nat) (p2 : Int32) {σ : z_M} (hk1 : S1.1 c1 = 1) {u : Int32 × z_M} (h : f4_fewest c1 p2 σ = some u) : z_Mt yX4_fewest (z_w yX4_fewest cX4_fewest 5 (some .int)) 2 S1 a σ [.ref (a 113), .ref (a c1), .int p2] (z_oi u) := by
  refine z_head (lo := [some (.ref (a 113)), some (.ref (a c1)), some (.int p2), none, none]) (by decide) (Nat.le_of_ble_eq_true rfl) ?_ rfl ?_
  · intro i v hv
    exact z_loe (vs := [.ref (a 113), .ref (a c1), .int p2]) (n := 2) rfl (by simp [z_c1i, z_c1r]) i v hv
  · intro X hXa C
    subst hXa
    unfold f4_fewest at h
    refine z_iconst (v := 0) C dX4_fewest_0 (by decide) ?_
    refine z_istore_n (lo' := [some (.ref (z_a X 113)), some (.ref (z_a X c1)), some (.int p2), some (.int 0), none]) C dX4_fewest_1 rfl (Nat.le_of_ble_eq_true rfl) rfl ?_
    refine z_iconst (v := 0) C dX4_fewest_2 (by decide) ?_
    refine z_istore (lo' := [some (.ref (z_a X 113)), some (.ref (z_a X c1)), some (.int p2), some (.int 0), some (.int 0)]) C dX4_fewest_3 (Nat.le_of_ble_eq_true rfl) rfl ?_
    exact t4_fewest_L5 C _ c1 p2 0 0 σ hk1 h
set_option maxHeartbeats 4000000 in
set_option maxRecDepth 100000 in
theorem t11_greenhouses {a : Nat → Nat} (p1 : Int32) {σ : z_M} {u : Int32 × z_M} (h : f11_greenhouses p1 σ = some u) : z_Mt yX11_greenhouses (z_w yX11_greenhouses cX11_greenhouses 2 (some .int)) 3 S1 a σ [.ref (a 0), .int p1] (z_oi u) := by
  refine z_head (lo := [some (.ref (a 0)), some (.int p1)]) (by decide) (Nat.le_of_ble_eq_true rfl) ?_ rfl ?_
  · intro i v hv
    exact z_loe (vs := [.ref (a 0), .int p1]) (n := 0) rfl (by simp [z_c1i, z_c1r]) i v hv
  · intro X hXa C
    subst hXa
    unfold f11_greenhouses at h
    refine z_iload_n C dX11_greenhouses_0 rfl rfl ?_
    refine z_iconst (v := 1) C dX11_greenhouses_1 (by decide) ?_
    refine z_icmp_lt (tgt := 12) C dX11_greenhouses_2 (by decide) (fun hc => ?_) (fun hc => ?_)
    · replace h := z_pos hc h
      refine z_iconst (v := (-1)) C dX11_greenhouses_12 (by decide) ?_
      exact z_iret C h dX11_greenhouses_13
    · replace h := z_neg hc h
      refine z_iload_n C dX11_greenhouses_5 rfl rfl ?_
      refine z_sipush (v := 999) C dX11_greenhouses_6 (by decide) ?_
      refine z_icmp_le (tgt := 14) C dX11_greenhouses_9 (by decide) (fun hc => ?_) (fun hc => ?_)
      · replace h := z_neg hc h
        refine z_aload_n C dX11_greenhouses_14 rfl rfl ?_
        refine z_geta (k := 11) (q := 113) C z_CF11 (by decide) flX11_89 rfl rfl dX11_greenhouses_15 ?_
        refine z_aload_n C dX11_greenhouses_18 rfl rfl ?_
        refine z_geta (k := 0) (q := 1) C z_CF11 (by decide) flX11_10 rfl rfl dX11_greenhouses_19 ?_
        refine z_iload_n C dX11_greenhouses_22 rfl rfl ?_
        obtain ⟨r1, σ2, mσ2, h⟩ := z_bnd2 h
        refine z_cvi (As := [.ref (z_a X 1), .int p1]) (c := 113) (st := []) C (t4_fewest 1 p1 rfl mσ2) kvX4_fewest rfl mlX11_310 z_CF4 rfl rfl (by decide) rfl (Nat.le_of_ble_eq_true rfl) dX11_greenhouses_23 ?_
        exact z_iret C h dX11_greenhouses_26
      · replace h := z_pos hc h
        refine z_iconst (v := (-1)) C dX11_greenhouses_12 (by decide) ?_
        exact z_iret C h dX11_greenhouses_13
set_option maxHeartbeats 4000000 in
set_option maxRecDepth 100000 in
theorem t10_goBack_J27 {X : z_Ct} (C : z_Cx S1 X RX10 cX10_goBack 2 2 (some .boolean)) {u : Int32 × z_M} (c1 : Nat) (s1 : Int32) (σ : z_M) (hk1 : S1.1 c1 = 0) (h : f10_goBack_J27 c1 s1 σ = some u) : z_W S1 X 27 [some (.ref (z_a X 58)), some (.ref (z_a X c1))] [.int s1, .ref (z_a X 58)] σ (z_oi u) := by
  unfold f10_goBack_J27 at h
  obtain ⟨σ1, eσ1, h⟩ := z_let_some h
  refine z_puti (k := 1) C z_CF10 (by decide) flX10_16 rfl rfl rfl rfl eσ1 dX10_goBack_27 ?_
  refine z_aload_n C dX10_goBack_30 rfl rfl ?_
  refine z_dup C dX10_goBack_31 rfl ?_
  refine z_geti (k := 2) C z_CF10 (by decide) flX10_24 rfl rfl dX10_goBack_32 ?_
  refine z_iconst (v := 1) C dX10_goBack_35 (by decide) ?_
  refine z_isub C dX10_goBack_36 ?_
  obtain ⟨σ2, eσ2, h⟩ := z_let_some h
  refine z_puti (k := 2) C z_CF10 (by decide) flX10_24 rfl rfl rfl rfl eσ2 dX10_goBack_37 ?_
  refine z_aload_n C dX10_goBack_40 rfl rfl ?_
  refine z_aload_n C dX10_goBack_41 rfl rfl ?_
  refine z_geta (k := 0) (q := 59) C z_CF10 (by decide) flX10_11 rfl rfl dX10_goBack_42 ?_
  refine z_aload_n C dX10_goBack_45 rfl rfl ?_
  refine z_geti (k := 1) C z_CF10 (by decide) flX10_16 rfl rfl dX10_goBack_46 ?_
  obtain ⟨b3, h⟩ := z_chk_some h
  refine z_aald C rfl rfl b3 (sh_ring b3) dX10_goBack_49 ?_
  obtain ⟨⟨⟩, σ5, mσ5, h⟩ := z_bnd2 h
  refine z_cvv (As := [.ref (z_a X (60 + 6 * z_ix (σ2 58 1)))]) (c := c1) (st := []) C (t0_copyFrom c1 (60 + 6 * z_ix (σ2 58 1)) hk1 (sh_ringk b3) mσ5) kvX0_copyFrom rfl mlX10_20 z_CF0 hk1 rfl (by decide) rfl (Nat.le_of_ble_eq_true rfl) dX10_goBack_50 ?_
  refine z_iconst (v := 1) C dX10_goBack_53 (by decide) ?_
  exact z_zret C (by decide) h dX10_goBack_54
set_option maxHeartbeats 4000000 in
set_option maxRecDepth 100000 in
theorem t10_goBack {a : Nat → Nat} (c1 : Nat) {σ : z_M} (hk1 : S1.1 c1 = 0) {u : Int32 × z_M} (h : f10_goBack c1 σ = some u) : z_Mt yX10_goBack (z_w yX10_goBack cX10_goBack 2 (some .boolean)) 2 S1 a σ [.ref (a 58), .ref (a c1)] (z_oi u) := by
  refine z_head (lo := [some (.ref (a 58)), some (.ref (a c1))]) (by decide) (Nat.le_of_ble_eq_true rfl) ?_ rfl ?_
  · intro i v hv
    exact z_loe (vs := [.ref (a 58), .ref (a c1)]) (n := 0) rfl (by simp [z_c1i, z_c1r]) i v hv
  · intro X hXa C
    subst hXa
    unfold f10_goBack at h
    refine z_aload_n C dX10_goBack_0 rfl rfl ?_
    refine z_geti (k := 2) C z_CF10 (by decide) flX10_24 rfl rfl dX10_goBack_1 ?_
    refine z_if_ne (tgt := 9) C dX10_goBack_4 (by decide) (fun hc => ?_) (fun hc => ?_)
    · replace h := z_neg hc h
      refine z_aload_n C dX10_goBack_9 rfl rfl ?_
      refine z_aload_n C dX10_goBack_10 rfl rfl ?_
      refine z_geti (k := 1) C z_CF10 (by decide) flX10_16 rfl rfl dX10_goBack_11 ?_
      refine z_if_le (tgt := 26) C dX10_goBack_14 (by decide) (fun hc => ?_) (fun hc => ?_)
      · replace h := z_neg hc h
        refine z_iconst (v := 5) C dX10_goBack_26 (by decide) ?_
        exact t10_goBack_J27 C c1 5 σ hk1 h
      · replace h := z_pos hc h
        refine z_aload_n C dX10_goBack_17 rfl rfl ?_
        refine z_geti (k := 1) C z_CF10 (by decide) flX10_16 rfl rfl dX10_goBack_18 ?_
        refine z_iconst (v := 1) C dX10_goBack_21 (by decide) ?_
        refine z_isub C dX10_goBack_22 ?_
        refine z_goto (tgt := 27) C dX10_goBack_23 (by decide) ?_
        exact t10_goBack_J27 C c1 ((σ 58 1) - 1) σ hk1 h
    · replace h := z_pos hc h
      refine z_iconst (v := 0) C dX10_goBack_7 (by decide) ?_
      exact z_zret C (by decide) h dX10_goBack_8
set_option maxHeartbeats 4000000 in
set_option maxRecDepth 100000 in
theorem t11_undo {a : Nat → Nat} {σ : z_M} {u : Int32 × z_M} (h : f11_undo σ = some u) : z_Mt yX11_undo (z_w yX11_undo cX11_undo 1 (some .boolean)) 3 S1 a σ [.ref (a 0)] (z_oi u) := by
  refine z_head (lo := [some (.ref (a 0))]) (by decide) (Nat.le_of_ble_eq_true rfl) ?_ rfl ?_
  · intro i v hv
    exact z_loe (vs := [.ref (a 0)]) (n := 0) rfl (by simp [z_c1i, z_c1r]) i v hv
  · intro X hXa C
    subst hXa
    unfold f11_undo at h
    refine z_aload_n C dX11_undo_0 rfl rfl ?_
    refine z_geta (k := 5) (q := 58) C z_CF11 (by decide) flX11_52 rfl rfl dX11_undo_1 ?_
    refine z_aload_n C dX11_undo_4 rfl rfl ?_
    refine z_geta (k := 0) (q := 1) C z_CF11 (by decide) flX11_10 rfl rfl dX11_undo_5 ?_
    refine z_geta (k := 13) (q := 18) C z_CF1 (by decide) flX11_32 rfl rfl dX11_undo_8 ?_
    obtain ⟨r1, σ2, mσ2, h⟩ := z_bnd2 h
    refine z_cvi (As := [.ref (z_a X 18)]) (c := 58) (st := []) C (t10_goBack 18 rfl mσ2) kvX10_goBack rfl mlX11_313 z_CF10 rfl rfl (by decide) rfl (Nat.le_of_ble_eq_true rfl) dX11_undo_11 ?_
    obtain ⟨b3, h⟩ := z_chk_some h
    exact z_zret C b3 h dX11_undo_14
set_option maxHeartbeats 4000000 in
set_option maxRecDepth 100000 in
theorem t1_copyFrom {a : Nat → Nat} (c0 : Nat) (c1 : Nat) {σ : z_M} (hk0 : S1.1 c0 = 1) (hk1 : S1.1 c1 = 1) {u : Unit × z_M} (h : f1_copyFrom c0 c1 σ = some u) : z_Mt yX1_copyFrom (z_w yX1_copyFrom cX1_copyFrom 2 none) 2 S1 a σ [.ref (a c0), .ref (a c1)] (z_ov u) := by
  refine z_head (lo := [some (.ref (a c0)), some (.ref (a c1))]) (by decide) (Nat.le_of_ble_eq_true rfl) ?_ rfl ?_
  · intro i v hv
    exact z_loe (vs := [.ref (a c0), .ref (a c1)]) (n := 0) rfl (by simp [z_c1i, z_c1r]) i v hv
  · intro X hXa C
    subst hXa
    unfold f1_copyFrom at h
    refine z_aload_n C dX1_copyFrom_0 rfl rfl ?_
    refine z_aload_n C dX1_copyFrom_1 rfl rfl ?_
    refine z_geti (k := 0) C z_CF1 (by decide) flX1_53 hk1 (sh1_n0 hk1) dX1_copyFrom_2 ?_
    obtain ⟨σ1, eσ1, h⟩ := z_let_some h
    refine z_puti (k := 0) C z_CF1 (by decide) flX1_53 rfl rfl hk0 (sh1_n0 hk0) eσ1 dX1_copyFrom_5 ?_
    refine z_aload_n C dX1_copyFrom_8 rfl rfl ?_
    refine z_aload_n C dX1_copyFrom_9 rfl rfl ?_
    refine z_geti (k := 1) C z_CF1 (by decide) flX1_9 hk1 (sh1_n1 hk1) dX1_copyFrom_10 ?_
    obtain ⟨σ2, eσ2, h⟩ := z_let_some h
    refine z_puti (k := 1) C z_CF1 (by decide) flX1_9 rfl rfl hk0 (sh1_n1 hk0) eσ2 dX1_copyFrom_13 ?_
    refine z_aload_n C dX1_copyFrom_16 rfl rfl ?_
    refine z_aload_n C dX1_copyFrom_17 rfl rfl ?_
    refine z_geti (k := 2) C z_CF1 (by decide) flX1_56 hk1 (sh1_n2 hk1) dX1_copyFrom_18 ?_
    obtain ⟨σ3, eσ3, h⟩ := z_let_some h
    refine z_puti (k := 2) C z_CF1 (by decide) flX1_56 rfl rfl hk0 (sh1_n2 hk0) eσ3 dX1_copyFrom_21 ?_
    refine z_aload_n C dX1_copyFrom_24 rfl rfl ?_
    refine z_aload_n C dX1_copyFrom_25 rfl rfl ?_
    refine z_geti (k := 3) C z_CF1 (by decide) flX1_59 hk1 (sh1_n3 hk1) dX1_copyFrom_26 ?_
    obtain ⟨σ4, eσ4, h⟩ := z_let_some h
    refine z_puti (k := 3) C z_CF1 (by decide) flX1_59 rfl rfl hk0 (sh1_n3 hk0) eσ4 dX1_copyFrom_29 ?_
    refine z_aload_n C dX1_copyFrom_32 rfl rfl ?_
    refine z_aload_n C dX1_copyFrom_33 rfl rfl ?_
    refine z_geti (k := 11) C z_CF1 (by decide) flX1_62 hk1 (sh1_n11 hk1) dX1_copyFrom_34 ?_
    obtain ⟨σ5, eσ5, h⟩ := z_let_some h
    refine z_puti (k := 11) C z_CF1 (by decide) flX1_62 rfl rfl hk0 (sh1_n11 hk0) eσ5 dX1_copyFrom_37 ?_
    refine z_aload_n C dX1_copyFrom_40 rfl rfl ?_
    refine z_geta (k := 4) (q := (c1 + 1)) C z_CF1 (by decide) flX1_15 hk1 (sh1_r4 hk1) dX1_copyFrom_41 ?_
    refine z_iconst (v := 0) C dX1_copyFrom_44 (by decide) ?_
    refine z_aload_n C dX1_copyFrom_45 rfl rfl ?_
    refine z_geta (k := 4) (q := (c0 + 1)) C z_CF1 (by decide) flX1_15 hk0 (sh1_r4 hk0) dX1_copyFrom_46 ?_
    refine z_iconst (v := 0) C dX1_copyFrom_49 (by decide) ?_
    refine z_bipush (v := 8) C dX1_copyFrom_50 (by decide) ?_
    obtain ⟨b6, h⟩ := z_chk_some h
    obtain ⟨σ7, eσ7, h⟩ := z_let_some h
    refine z_copyi (st := []) C (sh1_k4 hk1) (sh1_k4 hk0) (sh1_l4 hk1) (sh1_l4 hk0) b6 eσ7 rfl (Nat.le_of_ble_eq_true rfl) mlX1_65 dX1_copyFrom_52 ?_
    refine z_aload_n C dX1_copyFrom_55 rfl rfl ?_
    refine z_geta (k := 5) (q := (c1 + 2)) C z_CF1 (by decide) flX1_19 hk1 (sh1_r5 hk1) dX1_copyFrom_56 ?_
    refine z_iconst (v := 0) C dX1_copyFrom_59 (by decide) ?_
    refine z_aload_n C dX1_copyFrom_60 rfl rfl ?_
    refine z_geta (k := 5) (q := (c0 + 2)) C z_CF1 (by decide) flX1_19 hk0 (sh1_r5 hk0) dX1_copyFrom_61 ?_
    refine z_iconst (v := 0) C dX1_copyFrom_64 (by decide) ?_
    refine z_bipush (v := 8) C dX1_copyFrom_65 (by decide) ?_
    obtain ⟨b8, h⟩ := z_chk_some h
    obtain ⟨σ9, eσ9, h⟩ := z_let_some h
    refine z_copyi (st := []) C (sh1_k5 hk1) (sh1_k5 hk0) (sh1_l5 hk1) (sh1_l5 hk0) b8 eσ9 rfl (Nat.le_of_ble_eq_true rfl) mlX1_65 dX1_copyFrom_67 ?_
    refine z_aload_n C dX1_copyFrom_70 rfl rfl ?_
    refine z_geta (k := 10) (q := (c1 + 15)) C z_CF1 (by decide) flX1_40 hk1 (sh1_r10 hk1) dX1_copyFrom_71 ?_
    refine z_iconst (v := 0) C dX1_copyFrom_74 (by decide) ?_
    refine z_aload_n C dX1_copyFrom_75 rfl rfl ?_
    refine z_geta (k := 10) (q := (c0 + 15)) C z_CF1 (by decide) flX1_40 hk0 (sh1_r10 hk0) dX1_copyFrom_76 ?_
    refine z_iconst (v := 0) C dX1_copyFrom_79 (by decide) ?_
    refine z_aload_n C dX1_copyFrom_80 rfl rfl ?_
    refine z_geta (k := 10) (q := (c0 + 15)) C z_CF1 (by decide) flX1_40 hk0 (sh1_r10 hk0) dX1_copyFrom_81 ?_
    refine z_alen (v := 36) C (sh1_k10 hk0) (sh1_l10 hk0) (by decide) dX1_copyFrom_84 ?_
    obtain ⟨b10, h⟩ := z_chk_some h
    obtain ⟨σ11, eσ11, h⟩ := z_let_some h
    refine z_copyi (st := []) C (sh1_k10 hk1) (sh1_k10 hk0) (sh1_l10 hk1) (sh1_l10 hk0) b10 eσ11 rfl (Nat.le_of_ble_eq_true rfl) mlX1_65 dX1_copyFrom_85 ?_
    refine z_aload_n C dX1_copyFrom_88 rfl rfl ?_
    refine z_geta (k := 12) (q := (c1 + 16)) C z_CF1 (by decide) flX1_43 hk1 (sh1_r12 hk1) dX1_copyFrom_89 ?_
    refine z_iconst (v := 0) C dX1_copyFrom_92 (by decide) ?_
    refine z_aload_n C dX1_copyFrom_93 rfl rfl ?_
    refine z_geta (k := 12) (q := (c0 + 16)) C z_CF1 (by decide) flX1_43 hk0 (sh1_r12 hk0) dX1_copyFrom_94 ?_
    refine z_iconst (v := 0) C dX1_copyFrom_97 (by decide) ?_
    refine z_aload_n C dX1_copyFrom_98 rfl rfl ?_
    refine z_geta (k := 12) (q := (c0 + 16)) C z_CF1 (by decide) flX1_43 hk0 (sh1_r12 hk0) dX1_copyFrom_99 ?_
    refine z_alen (v := 600) C (sh1_k12 hk0) (sh1_l12 hk0) (by decide) dX1_copyFrom_102 ?_
    obtain ⟨b12, h⟩ := z_chk_some h
    obtain ⟨σ13, eσ13, h⟩ := z_let_some h
    refine z_copyi (st := []) C (sh1_k12 hk1) (sh1_k12 hk0) (sh1_l12 hk1) (sh1_l12 hk0) b12 eσ13 rfl (Nat.le_of_ble_eq_true rfl) mlX1_65 dX1_copyFrom_103 ?_
    refine z_aload_n C dX1_copyFrom_106 rfl rfl ?_
    refine z_geta (k := 6) (q := (c0 + 3)) C z_CF1 (by decide) flX1_27 hk0 (sh1_r6 hk0) dX1_copyFrom_107 ?_
    refine z_aload_n C dX1_copyFrom_110 rfl rfl ?_
    refine z_geta (k := 6) (q := (c1 + 3)) C z_CF1 (by decide) flX1_27 hk1 (sh1_r6 hk1) dX1_copyFrom_111 ?_
    obtain ⟨⟨⟩, σ15, mσ15, h⟩ := z_bnd2 h
    refine z_cvv (As := [.ref (z_a X (c1 + 3))]) (c := (c0 + 3)) (st := []) C (t9_copyFrom (c0 + 3) (c1 + 3) (sh1_k6 hk0) (sh1_k6 hk1) mσ15) kvX9_copyFrom rfl mlX1_71 z_CF9 (sh1_k6 hk0) rfl (by decide) rfl (Nat.le_of_ble_eq_true rfl) dX1_copyFrom_114 ?_
    refine z_aload_n C dX1_copyFrom_117 rfl rfl ?_
    refine z_geta (k := 7) (q := (c0 + 6)) C z_CF1 (by decide) flX1_31 hk0 (sh1_r7 hk0) dX1_copyFrom_118 ?_
    refine z_aload_n C dX1_copyFrom_121 rfl rfl ?_
    refine z_geta (k := 7) (q := (c1 + 6)) C z_CF1 (by decide) flX1_31 hk1 (sh1_r7 hk1) dX1_copyFrom_122 ?_
    obtain ⟨⟨⟩, σ17, mσ17, h⟩ := z_bnd2 h
    refine z_cvv (As := [.ref (z_a X (c1 + 6))]) (c := (c0 + 6)) (st := []) C (t9_copyFrom (c0 + 6) (c1 + 6) (sh1_k7 hk0) (sh1_k7 hk1) mσ17) kvX9_copyFrom rfl mlX1_71 z_CF9 (sh1_k7 hk0) rfl (by decide) rfl (Nat.le_of_ble_eq_true rfl) dX1_copyFrom_125 ?_
    refine z_aload_n C dX1_copyFrom_128 rfl rfl ?_
    refine z_geta (k := 8) (q := (c0 + 9)) C z_CF1 (by decide) flX1_34 hk0 (sh1_r8 hk0) dX1_copyFrom_129 ?_
    refine z_aload_n C dX1_copyFrom_132 rfl rfl ?_
    refine z_geta (k := 8) (q := (c1 + 9)) C z_CF1 (by decide) flX1_34 hk1 (sh1_r8 hk1) dX1_copyFrom_133 ?_
    obtain ⟨⟨⟩, σ19, mσ19, h⟩ := z_bnd2 h
    refine z_cvv (As := [.ref (z_a X (c1 + 9))]) (c := (c0 + 9)) (st := []) C (t9_copyFrom (c0 + 9) (c1 + 9) (sh1_k8 hk0) (sh1_k8 hk1) mσ19) kvX9_copyFrom rfl mlX1_71 z_CF9 (sh1_k8 hk0) rfl (by decide) rfl (Nat.le_of_ble_eq_true rfl) dX1_copyFrom_136 ?_
    refine z_aload_n C dX1_copyFrom_139 rfl rfl ?_
    refine z_geta (k := 9) (q := (c0 + 12)) C z_CF1 (by decide) flX1_37 hk0 (sh1_r9 hk0) dX1_copyFrom_140 ?_
    refine z_aload_n C dX1_copyFrom_143 rfl rfl ?_
    refine z_geta (k := 9) (q := (c1 + 12)) C z_CF1 (by decide) flX1_37 hk1 (sh1_r9 hk1) dX1_copyFrom_144 ?_
    obtain ⟨⟨⟩, σ21, mσ21, h⟩ := z_bnd2 h
    refine z_cvv (As := [.ref (z_a X (c1 + 12))]) (c := (c0 + 12)) (st := []) C (t9_copyFrom (c0 + 12) (c1 + 12) (sh1_k9 hk0) (sh1_k9 hk1) mσ21) kvX9_copyFrom rfl mlX1_71 z_CF9 (sh1_k9 hk0) rfl (by decide) rfl (Nat.le_of_ble_eq_true rfl) dX1_copyFrom_147 ?_
    refine z_aload_n C dX1_copyFrom_150 rfl rfl ?_
    refine z_geta (k := 13) (q := (c0 + 17)) C z_CF1 (by decide) flX1_49 hk0 (sh1_r13 hk0) dX1_copyFrom_151 ?_
    refine z_aload_n C dX1_copyFrom_154 rfl rfl ?_
    refine z_geta (k := 13) (q := (c1 + 17)) C z_CF1 (by decide) flX1_49 hk1 (sh1_r13 hk1) dX1_copyFrom_155 ?_
    obtain ⟨⟨⟩, σ23, mσ23, h⟩ := z_bnd2 h
    refine z_cvv (As := [.ref (z_a X (c1 + 17))]) (c := (c0 + 17)) (st := []) C (t0_copyFrom (c0 + 17) (c1 + 17) (sh1_k13 hk0) (sh1_k13 hk1) mσ23) kvX0_copyFrom rfl mlX1_75 z_CF0 (sh1_k13 hk0) rfl (by decide) rfl (Nat.le_of_ble_eq_true rfl) dX1_copyFrom_158 ?_
    exact z_vret C h dX1_copyFrom_161
set_option maxHeartbeats 4000000 in
set_option maxRecDepth 100000 in
theorem t11_image {a : Nat → Nat} (p1 : Int32) {σ : z_M} {u : Int32 × z_M} (h : f11_image p1 σ = some u) : z_Mt yX11_image (z_w yX11_image cX11_image 2 (some .boolean)) 3 S1 a σ [.ref (a 0), .int p1] (z_oi u) := by
  refine z_head (lo := [some (.ref (a 0)), some (.int p1)]) (by decide) (Nat.le_of_ble_eq_true rfl) ?_ rfl ?_
  · intro i v hv
    exact z_loe (vs := [.ref (a 0), .int p1]) (n := 0) rfl (by simp [z_c1i, z_c1r]) i v hv
  · intro X hXa C
    subst hXa
    unfold f11_image at h
    refine z_iload_n C dX11_image_0 rfl rfl ?_
    refine z_if_eq (tgt := 22) C dX11_image_1 (by decide) (fun hc => ?_) (fun hc => ?_)
    · replace h := z_pos hc h
      refine z_aload_n C dX11_image_22 rfl rfl ?_
      refine z_geti (k := 2) C z_CF11 (by decide) flX11_19 rfl rfl dX11_image_23 ?_
      refine z_if_ne (tgt := 31) C dX11_image_26 (by decide) (fun hc => ?_) (fun hc => ?_)
      · replace h := z_neg hc h
        refine z_aload_n C dX11_image_31 rfl rfl ?_
        refine z_geta (k := 0) (q := 1) C z_CF11 (by decide) flX11_10 rfl rfl dX11_image_32 ?_
        refine z_aload_n C dX11_image_35 rfl rfl ?_
        refine z_geta (k := 1) (q := 24) C z_CF11 (by decide) flX11_16 rfl rfl dX11_image_36 ?_
        obtain ⟨⟨⟩, σ2, mσ2, h⟩ := z_bnd2 h
        refine z_cvv (As := [.ref (z_a X 24)]) (c := 1) (st := []) C (t1_copyFrom 1 24 rfl rfl mσ2) kvX1_copyFrom rfl mlX11_317 z_CF1 rfl rfl (by decide) rfl (Nat.le_of_ble_eq_true rfl) dX11_image_39 ?_
        refine z_aload_n C dX11_image_42 rfl rfl ?_
        refine z_geta (k := 5) (q := 58) C z_CF11 (by decide) flX11_52 rfl rfl dX11_image_43 ?_
        obtain ⟨⟨⟩, σ4, mσ4, h⟩ := z_bnd2 h
        refine z_cvv (As := []) (c := 58) (st := []) C (t10_forget mσ4) kvX10_forget rfl mlX11_97 z_CF10 rfl rfl (by decide) rfl (Nat.le_of_ble_eq_true rfl) dX11_image_46 ?_
        refine z_iconst (v := 1) C dX11_image_49 (by decide) ?_
        exact z_zret C (by decide) h dX11_image_50
      · replace h := z_pos hc h
        refine z_iconst (v := 0) C dX11_image_29 (by decide) ?_
        exact z_zret C (by decide) h dX11_image_30
    · replace h := z_neg hc h
      refine z_aload_n C dX11_image_4 rfl rfl ?_
      refine z_geta (k := 1) (q := 24) C z_CF11 (by decide) flX11_16 rfl rfl dX11_image_5 ?_
      refine z_aload_n C dX11_image_8 rfl rfl ?_
      refine z_geta (k := 0) (q := 1) C z_CF11 (by decide) flX11_10 rfl rfl dX11_image_9 ?_
      obtain ⟨⟨⟩, σ6, mσ6, h⟩ := z_bnd2 h
      refine z_cvv (As := [.ref (z_a X 1)]) (c := 24) (st := []) C (t1_copyFrom 24 1 rfl rfl mσ6) kvX1_copyFrom rfl mlX11_317 z_CF1 rfl rfl (by decide) rfl (Nat.le_of_ble_eq_true rfl) dX11_image_12 ?_
      refine z_aload_n C dX11_image_15 rfl rfl ?_
      refine z_iconst (v := 1) C dX11_image_16 (by decide) ?_
      obtain ⟨σ7, eσ7, h⟩ := z_let_some h
      refine z_putz (k := 2) C z_CF11 (by decide) flX11_19 rfl rfl rfl rfl (by decide) eσ7 dX11_image_17 ?_
      refine z_iconst (v := 1) C dX11_image_20 (by decide) ?_
      exact z_zret C (by decide) h dX11_image_21
set_option maxHeartbeats 4000000 in
set_option maxRecDepth 100000 in
theorem t1_pots_L4 {X : z_Ct} (C : z_Cx S1 X RX1 cX1_pots 3 2 (some .int)) {u : Int32 × z_M} : ∀ (n : Nat) (c0 : Nat) (v1 : Int32) (v2 : Int32) (σ : z_M),S1.1 c0 = 1 →  f1_pots_L4 n c0 v1 v2 σ = some u → z_W S1 X 4 [some (.ref (z_a X c0)), some (.int v1), some (.int v2)] [] σ (z_oi u) := by
  intro n
  induction n with
  | zero => intro c0 v1 v2 σ hk0 h; rw [f1_pots_L4] at h; cases h
  | succ n ih =>
    intro c0 v1 v2 σ hk0 h
    rw [f1_pots_L4] at h
    refine z_iload_n C dX1_pots_4 rfl rfl ?_
    refine z_aload_n C dX1_pots_5 rfl rfl ?_
    refine z_geti (k := 0) C z_CF1 (by decide) flX1_53 hk0 (sh1_n0 hk0) dX1_pots_6 ?_
    refine z_icmp_ge (tgt := 32) C dX1_pots_9 (by decide) (fun hc => ?_) (fun hc => ?_)
    · replace h := z_neg hc h
      refine z_iload_n C dX1_pots_32 rfl rfl ?_
      exact z_iret C h dX1_pots_33
    · replace h := z_pos hc h
      refine z_aload_n C dX1_pots_12 rfl rfl ?_
      refine z_geta (k := 13) (q := (c0 + 17)) C z_CF1 (by decide) flX1_49 hk0 (sh1_r13 hk0) dX1_pots_13 ?_
      refine z_iload_n C dX1_pots_16 rfl rfl ?_
      obtain ⟨r1, σ2, mσ2, h⟩ := z_bnd2 h
      refine z_cvi (As := [.int v2]) (c := (c0 + 17)) (st := []) C (t0_hasPot (c0 + 17) v2 (sh1_k13 hk0) mσ2) kvX0_hasPot rfl mlX1_78 z_CF0 (sh1_k13 hk0) rfl (by decide) rfl (Nat.le_of_ble_eq_true rfl) dX1_pots_17 ?_
      refine z_if_eq (tgt := 26) C dX1_pots_20 (by decide) (fun hc => ?_) (fun hc => ?_)
      · replace h := z_pos hc h
        refine z_iinc (v := v2 + 1) (lo' := [some (.ref (z_a X c0)), some (.int v1), some (.int (v2 + 1))]) C dX1_pots_26 rfl rfl rfl ?_
        refine z_goto (tgt := 4) C dX1_pots_29 (by decide) ?_
        exact ih c0 v1 (v2 + 1) σ2 hk0 h
      · replace h := z_neg hc h
        refine z_iinc (v := v1 + 1) (lo' := [some (.ref (z_a X c0)), some (.int (v1 + 1)), some (.int v2)]) C dX1_pots_23 rfl rfl rfl ?_
        refine z_iinc (v := v2 + 1) (lo' := [some (.ref (z_a X c0)), some (.int (v1 + 1)), some (.int (v2 + 1))]) C dX1_pots_26 rfl rfl rfl ?_
        refine z_goto (tgt := 4) C dX1_pots_29 (by decide) ?_
        exact ih c0 (v1 + 1) (v2 + 1) σ2 hk0 h
set_option maxHeartbeats 4000000 in
set_option maxRecDepth 100000 in
theorem t1_pots {a : Nat → Nat} (c0 : Nat) {σ : z_M} (hk0 : S1.1 c0 = 1) {u : Int32 × z_M} (h : f1_pots c0 σ = some u) : z_Mt yX1_pots (z_w yX1_pots cX1_pots 3 (some .int)) 2 S1 a σ [.ref (a c0)] (z_oi u) := by
  refine z_head (lo := [some (.ref (a c0)), none, none]) (by decide) (Nat.le_of_ble_eq_true rfl) ?_ rfl ?_
  · intro i v hv
    exact z_loe (vs := [.ref (a c0)]) (n := 2) rfl (by simp [z_c1i, z_c1r]) i v hv
  · intro X hXa C
    subst hXa
    unfold f1_pots at h
    refine z_iconst (v := 0) C dX1_pots_0 (by decide) ?_
    refine z_istore_n (lo' := [some (.ref (z_a X c0)), some (.int 0), none]) C dX1_pots_1 rfl (Nat.le_of_ble_eq_true rfl) rfl ?_
    refine z_iconst (v := 0) C dX1_pots_2 (by decide) ?_
    refine z_istore_n (lo' := [some (.ref (z_a X c0)), some (.int 0), some (.int 0)]) C dX1_pots_3 rfl (Nat.le_of_ble_eq_true rfl) rfl ?_
    exact t1_pots_L4 C _ c0 0 0 σ hk0 h
set_option maxHeartbeats 4000000 in
set_option maxRecDepth 100000 in
theorem t11_look {a : Nat → Nat} (p1 : Int32) {σ : z_M} {u : Int32 × z_M} (h : f11_look p1 σ = some u) : z_Mt yX11_look (z_w yX11_look cX11_look 2 (some .int)) 3 S1 a σ [.ref (a 0), .int p1] (z_oi u) := by
  refine z_head (lo := [some (.ref (a 0)), some (.int p1)]) (by decide) (Nat.le_of_ble_eq_true rfl) ?_ rfl ?_
  · intro i v hv
    exact z_loe (vs := [.ref (a 0), .int p1]) (n := 0) rfl (by simp [z_c1i, z_c1r]) i v hv
  · intro X hXa C
    subst hXa
    unfold f11_look at h
    refine z_iload_n C dX11_look_0 rfl rfl ?_
    by_cases hs0 : p1 = 0
    · replace h := z_pos hs0 h
      refine z_tabIn (tgt := 76) C dX11_look_1 (v := 0) (by rw [hs0]; decide) (by decide) (by decide) rfl (by decide) ?_
      refine z_aload_n C dX11_look_76 rfl rfl ?_
      refine z_geta (k := 0) (q := 1) C z_CF11 (by decide) flX11_10 rfl rfl dX11_look_77 ?_
      refine z_geti (k := 0) C z_CF1 (by decide) flX11_100 rfl rfl dX11_look_80 ?_
      exact z_iret C h dX11_look_83
    · replace h := z_neg hs0 h
      by_cases hs1 : p1 = 1
      · replace h := z_pos hs1 h
        refine z_tabIn (tgt := 84) C dX11_look_1 (v := 1) (by rw [hs1]; decide) (by decide) (by decide) rfl (by decide) ?_
        refine z_aload_n C dX11_look_84 rfl rfl ?_
        refine z_geta (k := 0) (q := 1) C z_CF11 (by decide) flX11_10 rfl rfl dX11_look_85 ?_
        refine z_geta (k := 13) (q := 18) C z_CF1 (by decide) flX11_32 rfl rfl dX11_look_88 ?_
        refine z_geti (k := 6) C z_CF0 (by decide) flX11_189 rfl rfl dX11_look_91 ?_
        exact z_iret C h dX11_look_94
      · replace h := z_neg hs1 h
        by_cases hs2 : p1 = 2
        · replace h := z_pos hs2 h
          refine z_tabIn (tgt := 95) C dX11_look_1 (v := 2) (by rw [hs2]; decide) (by decide) (by decide) rfl (by decide) ?_
          refine z_aload_n C dX11_look_95 rfl rfl ?_
          refine z_geta (k := 0) (q := 1) C z_CF11 (by decide) flX11_10 rfl rfl dX11_look_96 ?_
          refine z_geta (k := 13) (q := 18) C z_CF1 (by decide) flX11_32 rfl rfl dX11_look_99 ?_
          refine z_geti (k := 7) C z_CF0 (by decide) flX11_320 rfl rfl dX11_look_102 ?_
          exact z_iret C h dX11_look_105
        · replace h := z_neg hs2 h
          by_cases hs3 : p1 = 3
          · replace h := z_pos hs3 h
            refine z_tabIn (tgt := 106) C dX11_look_1 (v := 3) (by rw [hs3]; decide) (by decide) (by decide) rfl (by decide) ?_
            refine z_aload_n C dX11_look_106 rfl rfl ?_
            refine z_geta (k := 0) (q := 1) C z_CF11 (by decide) flX11_10 rfl rfl dX11_look_107 ?_
            obtain ⟨r1, σ2, mσ2, h⟩ := z_bnd2 h
            refine z_cvi (As := []) (c := 1) (st := []) C (t1_pots 1 rfl mσ2) kvX1_pots rfl mlX11_323 z_CF1 rfl rfl (by decide) rfl (Nat.le_of_ble_eq_true rfl) dX11_look_110 ?_
            exact z_iret C h dX11_look_113
          · replace h := z_neg hs3 h
            by_cases hs4 : p1 = 4
            · replace h := z_pos hs4 h
              refine z_tabIn (tgt := 114) C dX11_look_1 (v := 4) (by rw [hs4]; decide) (by decide) (by decide) rfl (by decide) ?_
              refine z_aload_n C dX11_look_114 rfl rfl ?_
              refine z_geta (k := 0) (q := 1) C z_CF11 (by decide) flX11_10 rfl rfl dX11_look_115 ?_
              refine z_geta (k := 13) (q := 18) C z_CF1 (by decide) flX11_32 rfl rfl dX11_look_118 ?_
              refine z_geti (k := 8) C z_CF0 (by decide) flX11_245 rfl rfl dX11_look_121 ?_
              exact z_iret C h dX11_look_124
            · replace h := z_neg hs4 h
              by_cases hs5 : p1 = 5
              · replace h := z_pos hs5 h
                refine z_tabIn (tgt := 125) C dX11_look_1 (v := 5) (by rw [hs5]; decide) (by decide) (by decide) rfl (by decide) ?_
                refine z_aload_n C dX11_look_125 rfl rfl ?_
                refine z_geta (k := 0) (q := 1) C z_CF11 (by decide) flX11_10 rfl rfl dX11_look_126 ?_
                refine z_geta (k := 13) (q := 18) C z_CF1 (by decide) flX11_32 rfl rfl dX11_look_129 ?_
                refine z_geti (k := 5) C z_CF0 (by decide) flX11_93 rfl rfl dX11_look_132 ?_
                exact z_iret C h dX11_look_135
              · replace h := z_neg hs5 h
                by_cases hs6 : p1 = 6
                · replace h := z_pos hs6 h
                  refine z_tabIn (tgt := 136) C dX11_look_1 (v := 6) (by rw [hs6]; decide) (by decide) (by decide) rfl (by decide) ?_
                  refine z_aload_n C dX11_look_136 rfl rfl ?_
                  refine z_geta (k := 0) (q := 1) C z_CF11 (by decide) flX11_10 rfl rfl dX11_look_137 ?_
                  refine z_iload_n C dX11_look_140 rfl rfl ?_
                  refine z_bipush (v := 6) C dX11_look_141 (by decide) ?_
                  refine z_isub C dX11_look_143 ?_
                  obtain ⟨r3, σ4, mσ4, h⟩ := z_bnd2 h
                  refine z_cva (As := [.int (p1 - 6)]) (c := 1) (st := []) C (t1_told 1 (p1 - 6) rfl mσ4) kvX1_told rfl mlX11_142 z_CF1 rfl rfl (by decide) rfl (Nat.le_of_ble_eq_true rfl) dX11_look_144 ?_
                  refine z_geti (k := 2) C z_CF9 (by decide) flX11_156 (hk_told mσ4) (sh9_n2 (hk_told mσ4)) dX11_look_147 ?_
                  exact z_iret C h dX11_look_150
                · replace h := z_neg hs6 h
                  by_cases hs7 : p1 = 7
                  · replace h := z_pos hs7 h
                    refine z_tabIn (tgt := 136) C dX11_look_1 (v := 7) (by rw [hs7]; decide) (by decide) (by decide) rfl (by decide) ?_
                    refine z_aload_n C dX11_look_136 rfl rfl ?_
                    refine z_geta (k := 0) (q := 1) C z_CF11 (by decide) flX11_10 rfl rfl dX11_look_137 ?_
                    refine z_iload_n C dX11_look_140 rfl rfl ?_
                    refine z_bipush (v := 6) C dX11_look_141 (by decide) ?_
                    refine z_isub C dX11_look_143 ?_
                    obtain ⟨r5, σ6, mσ6, h⟩ := z_bnd2 h
                    refine z_cva (As := [.int (p1 - 6)]) (c := 1) (st := []) C (t1_told 1 (p1 - 6) rfl mσ6) kvX1_told rfl mlX11_142 z_CF1 rfl rfl (by decide) rfl (Nat.le_of_ble_eq_true rfl) dX11_look_144 ?_
                    refine z_geti (k := 2) C z_CF9 (by decide) flX11_156 (hk_told mσ6) (sh9_n2 (hk_told mσ6)) dX11_look_147 ?_
                    exact z_iret C h dX11_look_150
                  · replace h := z_neg hs7 h
                    by_cases hs8 : p1 = 8
                    · replace h := z_pos hs8 h
                      refine z_tabIn (tgt := 136) C dX11_look_1 (v := 8) (by rw [hs8]; decide) (by decide) (by decide) rfl (by decide) ?_
                      refine z_aload_n C dX11_look_136 rfl rfl ?_
                      refine z_geta (k := 0) (q := 1) C z_CF11 (by decide) flX11_10 rfl rfl dX11_look_137 ?_
                      refine z_iload_n C dX11_look_140 rfl rfl ?_
                      refine z_bipush (v := 6) C dX11_look_141 (by decide) ?_
                      refine z_isub C dX11_look_143 ?_
                      obtain ⟨r7, σ8, mσ8, h⟩ := z_bnd2 h
                      refine z_cva (As := [.int (p1 - 6)]) (c := 1) (st := []) C (t1_told 1 (p1 - 6) rfl mσ8) kvX1_told rfl mlX11_142 z_CF1 rfl rfl (by decide) rfl (Nat.le_of_ble_eq_true rfl) dX11_look_144 ?_
                      refine z_geti (k := 2) C z_CF9 (by decide) flX11_156 (hk_told mσ8) (sh9_n2 (hk_told mσ8)) dX11_look_147 ?_
                      exact z_iret C h dX11_look_150
                    · replace h := z_neg hs8 h
                      by_cases hs9 : p1 = 9
                      · replace h := z_pos hs9 h
                        refine z_tabIn (tgt := 136) C dX11_look_1 (v := 9) (by rw [hs9]; decide) (by decide) (by decide) rfl (by decide) ?_
                        refine z_aload_n C dX11_look_136 rfl rfl ?_
                        refine z_geta (k := 0) (q := 1) C z_CF11 (by decide) flX11_10 rfl rfl dX11_look_137 ?_
                        refine z_iload_n C dX11_look_140 rfl rfl ?_
                        refine z_bipush (v := 6) C dX11_look_141 (by decide) ?_
                        refine z_isub C dX11_look_143 ?_
                        obtain ⟨r9, σ10, mσ10, h⟩ := z_bnd2 h
                        refine z_cva (As := [.int (p1 - 6)]) (c := 1) (st := []) C (t1_told 1 (p1 - 6) rfl mσ10) kvX1_told rfl mlX11_142 z_CF1 rfl rfl (by decide) rfl (Nat.le_of_ble_eq_true rfl) dX11_look_144 ?_
                        refine z_geti (k := 2) C z_CF9 (by decide) flX11_156 (hk_told mσ10) (sh9_n2 (hk_told mσ10)) dX11_look_147 ?_
                        exact z_iret C h dX11_look_150
                      · replace h := z_neg hs9 h
                        by_cases hs10 : p1 = 10
                        · replace h := z_pos hs10 h
                          refine z_tabIn (tgt := 151) C dX11_look_1 (v := 10) (by rw [hs10]; decide) (by decide) (by decide) rfl (by decide) ?_
                          refine z_aload_n C dX11_look_151 rfl rfl ?_
                          refine z_geta (k := 0) (q := 1) C z_CF11 (by decide) flX11_10 rfl rfl dX11_look_152 ?_
                          refine z_geti (k := 11) C z_CF1 (by decide) flX11_288 rfl rfl dX11_look_155 ?_
                          exact z_iret C h dX11_look_158
                        · replace h := z_neg hs10 h
                          by_cases hs11 : p1 = 11
                          · replace h := z_pos hs11 h
                            refine z_tabIn (tgt := 159) C dX11_look_1 (v := 11) (by rw [hs11]; decide) (by decide) (by decide) rfl (by decide) ?_
                            refine z_aload_n C dX11_look_159 rfl rfl ?_
                            refine z_geta (k := 5) (q := 58) C z_CF11 (by decide) flX11_52 rfl rfl dX11_look_160 ?_
                            refine z_geti (k := 2) C z_CF10 (by decide) flX11_326 rfl rfl dX11_look_163 ?_
                            exact z_iret C h dX11_look_166
                          · replace h := z_neg hs11 h
                            by_cases hs12 : p1 = 12
                            · replace h := z_pos hs12 h
                              refine z_tabIn (tgt := 167) C dX11_look_1 (v := 12) (by rw [hs12]; decide) (by decide) (by decide) rfl (by decide) ?_
                              refine z_aload_n C dX11_look_167 rfl rfl ?_
                              refine z_geta (k := 0) (q := 1) C z_CF11 (by decide) flX11_10 rfl rfl dX11_look_168 ?_
                              refine z_geti (k := 1) C z_CF1 (by decide) flX11_111 rfl rfl dX11_look_171 ?_
                              exact z_iret C h dX11_look_174
                            · replace h := z_neg hs12 h
                              by_cases hs13 : p1 = 13
                              · replace h := z_pos hs13 h
                                refine z_tabIn (tgt := 175) C dX11_look_1 (v := 13) (by rw [hs13]; decide) (by decide) (by decide) rfl (by decide) ?_
                                refine z_aload_n C dX11_look_175 rfl rfl ?_
                                refine z_geta (k := 0) (q := 1) C z_CF11 (by decide) flX11_10 rfl rfl dX11_look_176 ?_
                                refine z_geti (k := 2) C z_CF1 (by decide) flX11_114 rfl rfl dX11_look_179 ?_
                                exact z_iret C h dX11_look_182
                              · replace h := z_neg hs13 h
                                by_cases hs14 : p1 = 14
                                · replace h := z_pos hs14 h
                                  refine z_tabIn (tgt := 183) C dX11_look_1 (v := 14) (by rw [hs14]; decide) (by decide) (by decide) rfl (by decide) ?_
                                  refine z_aload_n C dX11_look_183 rfl rfl ?_
                                  refine z_geta (k := 0) (q := 1) C z_CF11 (by decide) flX11_10 rfl rfl dX11_look_184 ?_
                                  refine z_geti (k := 3) C z_CF1 (by decide) flX11_117 rfl rfl dX11_look_187 ?_
                                  exact z_iret C h dX11_look_190
                                · replace h := z_neg hs14 h
                                  refine z_tabOut (tgt := 191) C dX11_look_1 (z_none 15 (fun k hk => by
                                      rcases (show k = 0 ∨ k = 1 ∨ k = 2 ∨ k = 3 ∨ k = 4 ∨ k = 5 ∨ k = 6 ∨ k = 7 ∨ k = 8 ∨ k = 9 ∨ k = 10 ∨ k = 11 ∨ k = 12 ∨ k = 13 ∨ k = 14 by omega) with rfl | rfl | rfl | rfl | rfl | rfl | rfl | rfl | rfl | rfl | rfl | rfl | rfl | rfl | rfl
                                      · exact z_toInt hs0 (by decide)
                                      · exact z_toInt hs1 (by decide)
                                      · exact z_toInt hs2 (by decide)
                                      · exact z_toInt hs3 (by decide)
                                      · exact z_toInt hs4 (by decide)
                                      · exact z_toInt hs5 (by decide)
                                      · exact z_toInt hs6 (by decide)
                                      · exact z_toInt hs7 (by decide)
                                      · exact z_toInt hs8 (by decide)
                                      · exact z_toInt hs9 (by decide)
                                      · exact z_toInt hs10 (by decide)
                                      · exact z_toInt hs11 (by decide)
                                      · exact z_toInt hs12 (by decide)
                                      · exact z_toInt hs13 (by decide)
                                      · exact z_toInt hs14 (by decide))) (by decide) ?_
                                  refine z_iload_n C dX11_look_191 rfl rfl ?_
                                  refine z_bipush (v := 20) C dX11_look_192 (by decide) ?_
                                  refine z_isub C dX11_look_194 ?_
                                  obtain ⟨r11, σ12, mσ12, h⟩ := z_bnd2 h
                                  refine z_csi (As := [.int (p1 - 20)]) (st := []) C (t11_isThing (p1 - 20) mσ12) kvX11_isThing rfl mlX11_107 (by decide) rfl (Nat.le_of_ble_eq_true rfl) dX11_look_195 ?_
                                  refine z_if_eq (tgt := 216) C dX11_look_198 (by decide) (fun hc => ?_) (fun hc => ?_)
                                  · replace h := z_pos hc h
                                    refine z_iconst (v := (-1)) C dX11_look_216 (by decide) ?_
                                    exact z_iret C h dX11_look_217
                                  · replace h := z_neg hc h
                                    refine z_aload_n C dX11_look_201 rfl rfl ?_
                                    refine z_geta (k := 0) (q := 1) C z_CF11 (by decide) flX11_10 rfl rfl dX11_look_202 ?_
                                    refine z_geta (k := 4) (q := 2) C z_CF1 (by decide) flX11_120 rfl rfl dX11_look_205 ?_
                                    refine z_iload_n C dX11_look_208 rfl rfl ?_
                                    refine z_bipush (v := 20) C dX11_look_209 (by decide) ?_
                                    refine z_isub C dX11_look_211 ?_
                                    obtain ⟨b13, h⟩ := z_chk_some h
                                    refine z_iald C rfl rfl b13 dX11_look_212 ?_
                                    refine z_goto (tgt := 217) C dX11_look_213 (by decide) ?_
                                    exact z_iret C h dX11_look_217
