set_option maxHeartbeats 4000000 in
set_option maxRecDepth 100000 in
theorem t12_lineOf_L2 {X : z_Ct} (C : z_Cx S2 X RX12 cX12_lineOf 4 3 (some .int)) {u : Int32 × z_M} : ∀ (n : Nat) (v1 : Int32) (v2 : Int32) (σ : z_M), f12_lineOf_L2 n v1 v2 σ = some u → z_W S2 X 2 [some (.ref (z_a X 0)), some (.int v1), some (.int v2), none] [] σ (z_oi u) := by
  intro n
  induction n with
  | zero => intro v1 v2 σ h; rw [f12_lineOf_L2] at h; cases h
  | succ n ih =>
    intro v1 v2 σ h
    rw [f12_lineOf_L2] at h
    refine z_iload_n C dX12_lineOf_2 rfl rfl ?_
    refine z_aload_n C dX12_lineOf_3 rfl rfl ?_
    refine z_geta (k := 20) (q := 9) C z_CF12 (by decide) flX12_34 rfl rfl dX12_lineOf_4 ?_
    refine z_iconst (v := 1) C dX12_lineOf_7 (by decide) ?_
    obtain ⟨b1, h⟩ := z_chk_some h
    refine z_iald C rfl rfl b1 dX12_lineOf_8 ?_
    refine z_icmp_ge (tgt := 70) C dX12_lineOf_9 (by decide) (fun hc => ?_) (fun hc => ?_)
    · replace h := z_neg hc h
      refine z_iconst (v := (-1)) C dX12_lineOf_70 (by decide) ?_
      exact z_iret C h dX12_lineOf_71
    · replace h := z_pos hc h
      refine z_bipush (v := 16) C dX12_lineOf_12 (by decide) ?_
      refine z_iload_n C dX12_lineOf_14 rfl rfl ?_
      refine z_iadd C dX12_lineOf_15 ?_
      refine z_istore_n (lo' := [some (.ref (z_a X 0)), some (.int v1), some (.int v2), some (.int (16 + v2))]) C dX12_lineOf_16 rfl (Nat.le_of_ble_eq_true rfl) rfl ?_
      refine z_aload_n C dX12_lineOf_17 rfl rfl ?_
      refine z_geta (k := 21) (q := 10) C z_CF12 (by decide) flX12_37 rfl rfl dX12_lineOf_18 ?_
      refine z_iload_n C dX12_lineOf_21 rfl rfl ?_
      obtain ⟨b2, h⟩ := z_chk_some h
      refine z_iald C rfl rfl b2 dX12_lineOf_22 ?_
      refine z_iload_n C dX12_lineOf_23 rfl rfl ?_
      refine z_icmp_ne (tgt := 64) C dX12_lineOf_24 (by decide) (fun hc => ?_) (fun hc => ?_)
      · replace h := z_neg hc h
        refine z_iinc (v := v2 + 1) (lo' := [some (.ref (z_a X 0)), some (.int v1), some (.int (v2 + 1)), some (.int (16 + v2))]) C dX12_lineOf_64 rfl rfl rfl ?_
        refine z_goto (tgt := 2) C dX12_lineOf_67 (by decide) ?_
        refine z_kill (lo' := [some (.ref (z_a X 0)), some (.int v1), some (.int (v2 + 1)), none]) [3] rfl ?_
        exact ih v1 (v2 + 1) σ h
      · replace h := z_pos hc h
        refine z_aload_n C dX12_lineOf_27 rfl rfl ?_
        refine z_geta (k := 23) (q := 12) C z_CF12 (by decide) flX12_43 rfl rfl dX12_lineOf_28 ?_
        refine z_iload_n C dX12_lineOf_31 rfl rfl ?_
        obtain ⟨b3, h⟩ := z_chk_some h
        refine z_iald C rfl rfl b3 dX12_lineOf_32 ?_
        refine z_aload_n C dX12_lineOf_33 rfl rfl ?_
        refine z_geta (k := 24) (q := 13) C z_CF12 (by decide) flX12_46 rfl rfl dX12_lineOf_34 ?_
        refine z_iload_n C dX12_lineOf_37 rfl rfl ?_
        obtain ⟨b4, h⟩ := z_chk_some h
        refine z_iald C rfl rfl b4 dX12_lineOf_38 ?_
        refine z_icmp_eq (tgt := 62) C dX12_lineOf_39 (by decide) (fun hc => ?_) (fun hc => ?_)
        · replace h := z_pos hc h
          refine z_iload_n C dX12_lineOf_62 rfl rfl ?_
          exact z_iret C h dX12_lineOf_63
        · replace h := z_neg hc h
          refine z_aload_n C dX12_lineOf_42 rfl rfl ?_
          refine z_iconst (v := 1) C dX12_lineOf_43 (by decide) ?_
          refine z_aload_n C dX12_lineOf_44 rfl rfl ?_
          refine z_geta (k := 23) (q := 12) C z_CF12 (by decide) flX12_43 rfl rfl dX12_lineOf_45 ?_
          refine z_iload_n C dX12_lineOf_48 rfl rfl ?_
          obtain ⟨b5, h⟩ := z_chk_some h
          refine z_iald C rfl rfl b5 dX12_lineOf_49 ?_
          refine z_aload_n C dX12_lineOf_50 rfl rfl ?_
          refine z_geta (k := 24) (q := 13) C z_CF12 (by decide) flX12_46 rfl rfl dX12_lineOf_51 ?_
          refine z_iload_n C dX12_lineOf_54 rfl rfl ?_
          obtain ⟨b6, h⟩ := z_chk_some h
          refine z_iald C rfl rfl b6 dX12_lineOf_55 ?_
          obtain ⟨r7, σ8, mσ8, h⟩ := z_bnd2 h
          refine z_cvi (As := [.int 1, .int (σ 12 (z_ix (16 + v2))), .int (σ 13 (z_ix (16 + v2)))]) (c := 0) (st := []) C (t12_runs 1 (σ 12 (z_ix (16 + v2))) (σ 13 (z_ix (16 + v2))) mσ8) kvX12_runs rfl mlX12_321 z_CF12 rfl rfl (by decide) rfl (Nat.le_of_ble_eq_true rfl) dX12_lineOf_56 ?_
          refine z_if_eq (tgt := 64) C dX12_lineOf_59 (by decide) (fun hc => ?_) (fun hc => ?_)
          · replace h := z_pos hc h
            refine z_iinc (v := v2 + 1) (lo' := [some (.ref (z_a X 0)), some (.int v1), some (.int (v2 + 1)), some (.int (16 + v2))]) C dX12_lineOf_64 rfl rfl rfl ?_
            refine z_goto (tgt := 2) C dX12_lineOf_67 (by decide) ?_
            refine z_kill (lo' := [some (.ref (z_a X 0)), some (.int v1), some (.int (v2 + 1)), none]) [3] rfl ?_
            exact ih v1 (v2 + 1) σ8 h
          · replace h := z_neg hc h
            refine z_iload_n C dX12_lineOf_62 rfl rfl ?_
            exact z_iret C h dX12_lineOf_63
set_option maxHeartbeats 4000000 in
set_option maxRecDepth 100000 in
theorem t12_lineOf {a : Nat → Nat} (p1 : Int32) {σ : z_M} {u : Int32 × z_M} (h : f12_lineOf p1 σ = some u) : z_Mt yX12_lineOf (z_w yX12_lineOf cX12_lineOf 4 (some .int)) 3 S2 a σ [.ref (a 0), .int p1] (z_oi u) := by
  refine z_head (lo := [some (.ref (a 0)), some (.int p1), none, none]) (by decide) (Nat.le_of_ble_eq_true rfl) ?_ rfl ?_
  · intro i v hv
    exact z_loe (vs := [.ref (a 0), .int p1]) (n := 2) rfl (by simp [z_c1i, z_c1r]) i v hv
  · intro X hXa C
    subst hXa
    unfold f12_lineOf at h
    refine z_iconst (v := 0) C dX12_lineOf_0 (by decide) ?_
    refine z_istore_n (lo' := [some (.ref (z_a X 0)), some (.int p1), some (.int 0), none]) C dX12_lineOf_1 rfl (Nat.le_of_ble_eq_true rfl) rfl ?_
    exact t12_lineOf_L2 C _ p1 0 σ h
set_option maxHeartbeats 4000000 in
set_option maxRecDepth 100000 in
theorem t12_asks {a : Nat → Nat} (p1 : Int32) {σ : z_M} {u : Unit × z_M} (h : f12_asks p1 σ = some u) : z_Mt yX12_asks (z_w yX12_asks cX12_asks 2 none) 3 S2 a σ [.ref (a 0), .int p1] (z_ov u) := by
  refine z_head (lo := [some (.ref (a 0)), some (.int p1)]) (by decide) (Nat.le_of_ble_eq_true rfl) ?_ rfl ?_
  · intro i v hv
    exact z_loe (vs := [.ref (a 0), .int p1]) (n := 0) rfl (by simp [z_c1i, z_c1r]) i v hv
  · intro X hXa C
    subst hXa
    unfold f12_asks at h
    refine z_aload_n C dX12_asks_0 rfl rfl ?_
    refine z_geta (k := 42) (q := 20) C z_CF12 (by decide) flX12_71 rfl rfl dX12_asks_1 ?_
    refine z_iconst (v := 0) C dX12_asks_4 (by decide) ?_
    refine z_aload_n C dX12_asks_5 rfl rfl ?_
    refine z_geta (k := 1) (q := 1) C z_CF12 (by decide) flX12_7 rfl rfl dX12_asks_6 ?_
    refine z_bipush (v := 76) C dX12_asks_9 (by decide) ?_
    refine z_iload_n C dX12_asks_11 rfl rfl ?_
    refine z_iadd C dX12_asks_12 ?_
    obtain ⟨b1, h⟩ := z_chk_some h
    refine z_iald C rfl rfl b1 dX12_asks_13 ?_
    obtain ⟨b2, h⟩ := z_chk_some h
    obtain ⟨σ3, eσ3, h⟩ := z_let_some h
    refine z_iast C rfl rfl b2 eσ3 dX12_asks_14 ?_
    refine z_aload_n C dX12_asks_15 rfl rfl ?_
    refine z_geta (k := 42) (q := 20) C z_CF12 (by decide) flX12_71 rfl rfl dX12_asks_16 ?_
    refine z_iconst (v := 1) C dX12_asks_19 (by decide) ?_
    refine z_aload_n C dX12_asks_20 rfl rfl ?_
    refine z_geta (k := 1) (q := 1) C z_CF12 (by decide) flX12_7 rfl rfl dX12_asks_21 ?_
    refine z_bipush (v := 84) C dX12_asks_24 (by decide) ?_
    refine z_iload_n C dX12_asks_26 rfl rfl ?_
    refine z_iadd C dX12_asks_27 ?_
    obtain ⟨b4, h⟩ := z_chk_some h
    refine z_iald C rfl rfl b4 dX12_asks_28 ?_
    obtain ⟨b5, h⟩ := z_chk_some h
    obtain ⟨σ6, eσ6, h⟩ := z_let_some h
    refine z_iast C rfl rfl b5 eσ6 dX12_asks_29 ?_
    refine z_aload_n C dX12_asks_30 rfl rfl ?_
    refine z_geta (k := 42) (q := 20) C z_CF12 (by decide) flX12_71 rfl rfl dX12_asks_31 ?_
    refine z_iconst (v := 2) C dX12_asks_34 (by decide) ?_
    refine z_aload_n C dX12_asks_35 rfl rfl ?_
    refine z_geta (k := 1) (q := 1) C z_CF12 (by decide) flX12_7 rfl rfl dX12_asks_36 ?_
    refine z_bipush (v := 92) C dX12_asks_39 (by decide) ?_
    refine z_iload_n C dX12_asks_41 rfl rfl ?_
    refine z_iadd C dX12_asks_42 ?_
    obtain ⟨b7, h⟩ := z_chk_some h
    refine z_iald C rfl rfl b7 dX12_asks_43 ?_
    obtain ⟨b8, h⟩ := z_chk_some h
    obtain ⟨σ9, eσ9, h⟩ := z_let_some h
    refine z_iast C rfl rfl b8 eσ9 dX12_asks_44 ?_
    refine z_aload_n C dX12_asks_45 rfl rfl ?_
    refine z_geta (k := 42) (q := 20) C z_CF12 (by decide) flX12_71 rfl rfl dX12_asks_46 ?_
    refine z_iconst (v := 3) C dX12_asks_49 (by decide) ?_
    refine z_aload_n C dX12_asks_50 rfl rfl ?_
    refine z_iload_n C dX12_asks_51 rfl rfl ?_
    refine z_aload_n C dX12_asks_52 rfl rfl ?_
    refine z_iload_n C dX12_asks_53 rfl rfl ?_
    obtain ⟨r10, σ11, mσ11, h⟩ := z_bnd2 h
    refine z_cvi (As := [.int p1]) (c := 0) (st := [.int p1, .ref (z_a X 0), .int 3, .ref (z_a X 20)]) C (t12_potOf p1 mσ11) kvX12_potOf rfl mlX12_324 z_CF12 rfl rfl (by decide) rfl (Nat.le_of_ble_eq_true rfl) dX12_asks_54 ?_
    obtain ⟨r12, σ13, mσ13, h⟩ := z_bnd2 h
    refine z_cvi (As := [.int p1, .int r10]) (c := 0) (st := [.int 3, .ref (z_a X 20)]) C (t12_degreeOf p1 r10 mσ13) kvX12_degreeOf rfl mlX12_134 z_CF12 rfl rfl (by decide) rfl (Nat.le_of_ble_eq_true rfl) dX12_asks_57 ?_
    obtain ⟨b14, h⟩ := z_chk_some h
    obtain ⟨σ15, eσ15, h⟩ := z_let_some h
    refine z_iast C rfl rfl b14 eσ15 dX12_asks_60 ?_
    refine z_aload_n C dX12_asks_61 rfl rfl ?_
    refine z_geta (k := 42) (q := 20) C z_CF12 (by decide) flX12_71 rfl rfl dX12_asks_62 ?_
    refine z_iconst (v := 4) C dX12_asks_65 (by decide) ?_
    refine z_aload_n C dX12_asks_66 rfl rfl ?_
    refine z_iload_n C dX12_asks_67 rfl rfl ?_
    obtain ⟨r16, σ17, mσ17, h⟩ := z_bnd2 h
    refine z_cvi (As := [.int p1]) (c := 0) (st := [.int 4, .ref (z_a X 20)]) C (t12_potOf p1 mσ17) kvX12_potOf rfl mlX12_324 z_CF12 rfl rfl (by decide) rfl (Nat.le_of_ble_eq_true rfl) dX12_asks_68 ?_
    obtain ⟨b18, h⟩ := z_chk_some h
    obtain ⟨σ19, eσ19, h⟩ := z_let_some h
    refine z_iast C rfl rfl b18 eσ19 dX12_asks_71 ?_
    refine z_aload_n C dX12_asks_72 rfl rfl ?_
    refine z_geta (k := 42) (q := 20) C z_CF12 (by decide) flX12_71 rfl rfl dX12_asks_73 ?_
    refine z_iconst (v := 5) C dX12_asks_76 (by decide) ?_
    refine z_aload_n C dX12_asks_77 rfl rfl ?_
    refine z_geta (k := 1) (q := 1) C z_CF12 (by decide) flX12_7 rfl rfl dX12_asks_78 ?_
    refine z_iconst (v := 0) C dX12_asks_81 (by decide) ?_
    obtain ⟨b20, h⟩ := z_chk_some h
    refine z_iald C rfl rfl b20 dX12_asks_82 ?_
    obtain ⟨b21, h⟩ := z_chk_some h
    obtain ⟨σ22, eσ22, h⟩ := z_let_some h
    refine z_iast C rfl rfl b21 eσ22 dX12_asks_83 ?_
    refine z_aload_n C dX12_asks_84 rfl rfl ?_
    refine z_geta (k := 42) (q := 20) C z_CF12 (by decide) flX12_71 rfl rfl dX12_asks_85 ?_
    refine z_bipush (v := 6) C dX12_asks_88 (by decide) ?_
    refine z_aload_n C dX12_asks_90 rfl rfl ?_
    refine z_aload_n C dX12_asks_91 rfl rfl ?_
    refine z_iload_n C dX12_asks_92 rfl rfl ?_
    obtain ⟨r23, σ24, mσ24, h⟩ := z_bnd2 h
    refine z_cvi (As := [.int p1]) (c := 0) (st := [.ref (z_a X 0), .int 6, .ref (z_a X 20)]) C (t12_suresOf p1 mσ24) kvX12_suresOf rfl mlX12_327 z_CF12 rfl rfl (by decide) rfl (Nat.le_of_ble_eq_true rfl) dX12_asks_93 ?_
    obtain ⟨r25, σ26, mσ26, h⟩ := z_bnd2 h
    refine z_cvi (As := [.int r23]) (c := 0) (st := [.int 6, .ref (z_a X 20)]) C (t12_onesOf r23 mσ26) kvX12_onesOf rfl mlX12_330 z_CF12 rfl rfl (by decide) rfl (Nat.le_of_ble_eq_true rfl) dX12_asks_96 ?_
    obtain ⟨b27, h⟩ := z_chk_some h
    obtain ⟨σ28, eσ28, h⟩ := z_let_some h
    refine z_iast C rfl rfl b27 eσ28 dX12_asks_99 ?_
    refine z_aload_n C dX12_asks_100 rfl rfl ?_
    refine z_geta (k := 42) (q := 20) C z_CF12 (by decide) flX12_71 rfl rfl dX12_asks_101 ?_
    refine z_bipush (v := 7) C dX12_asks_104 (by decide) ?_
    refine z_aload_n C dX12_asks_106 rfl rfl ?_
    refine z_aload_n C dX12_asks_107 rfl rfl ?_
    refine z_geta (k := 11) (q := 5) C z_CF12 (by decide) flX12_22 rfl rfl dX12_asks_108 ?_
    refine z_iload_n C dX12_asks_111 rfl rfl ?_
    obtain ⟨b29, h⟩ := z_chk_some h
    refine z_iald C rfl rfl b29 dX12_asks_112 ?_
    obtain ⟨r30, σ31, mσ31, h⟩ := z_bnd2 h
    refine z_cvi (As := [.int (σ28 5 (z_ix p1))]) (c := 0) (st := [.int 7, .ref (z_a X 20)]) C (t12_onesOf (σ28 5 (z_ix p1)) mσ31) kvX12_onesOf rfl mlX12_330 z_CF12 rfl rfl (by decide) rfl (Nat.le_of_ble_eq_true rfl) dX12_asks_113 ?_
    obtain ⟨b32, h⟩ := z_chk_some h
    obtain ⟨σ33, eσ33, h⟩ := z_let_some h
    refine z_iast C rfl rfl b32 eσ33 dX12_asks_116 ?_
    exact z_vret C h dX12_asks_117
set_option maxHeartbeats 4000000 in
set_option maxRecDepth 100000 in
theorem t12_lawTells_J37 {X : z_Ct} (C : z_Cx S2 X RX12 cX12_lawTells 6 4 (some .int)) {u : Int32 × z_M} (v3 : Int32) (v4 : Int32) (s1 : Int32) (σ : z_M) (h : f12_lawTells_J37 v3 v4 s1 σ = some u) : z_W S2 X 37 [none, none, none, some (.int v3), some (.int v4), none] [.int s1, .ref (z_a X 0)] σ (z_oi u) := by
  unfold f12_lawTells_J37 at h
  refine z_iload_n C dX12_lawTells_37 rfl rfl ?_
  refine z_iload C dX12_lawTells_38 rfl ?_
  obtain ⟨r1, σ2, mσ2, h⟩ := z_bnd2 h
  refine z_cvi (As := [.int s1, .int v3, .int v4]) (c := 0) (st := []) C (t12_held s1 v3 v4 mσ2) kvX12_held rfl mlX12_336 z_CF12 rfl rfl (by decide) rfl (Nat.le_of_ble_eq_true rfl) dX12_lawTells_40 ?_
  exact z_iret C h dX12_lawTells_43
set_option maxHeartbeats 4000000 in
set_option maxRecDepth 100000 in
theorem t12_lawTells {a : Nat → Nat} (p1 : Int32) (p2 : Int32) (p3 : Int32) (p4 : Int32) {σ : z_M} {u : Int32 × z_M} (h : f12_lawTells p1 p2 p3 p4 σ = some u) : z_Mt yX12_lawTells (z_w yX12_lawTells cX12_lawTells 6 (some .int)) 4 S2 a σ [.ref (a 0), .int p1, .int p2, .int p3, .int p4] (z_oi u) := by
  refine z_head (lo := [some (.ref (a 0)), some (.int p1), some (.int p2), some (.int p3), some (.int p4), none]) (by decide) (Nat.le_of_ble_eq_true rfl) ?_ rfl ?_
  · intro i v hv
    exact z_loe (vs := [.ref (a 0), .int p1, .int p2, .int p3, .int p4]) (n := 1) rfl (by simp [z_c1i, z_c1r]) i v hv
  · intro X hXa C
    subst hXa
    unfold f12_lawTells at h
    refine z_aload_n C dX12_lawTells_0 rfl rfl ?_
    refine z_iload_n C dX12_lawTells_1 rfl rfl ?_
    obtain ⟨r1, σ2, mσ2, h⟩ := z_bnd2 h
    refine z_cvi (As := [.int p1]) (c := 0) (st := []) C (t12_lineOf p1 mσ2) kvX12_lineOf rfl mlX12_333 z_CF12 rfl rfl (by decide) rfl (Nat.le_of_ble_eq_true rfl) dX12_lawTells_2 ?_
    refine z_istore (lo' := [some (.ref (z_a X 0)), some (.int p1), some (.int p2), some (.int p3), some (.int p4), some (.int r1)]) C dX12_lawTells_5 (Nat.le_of_ble_eq_true rfl) rfl ?_
    refine z_aload_n C dX12_lawTells_7 rfl rfl ?_
    refine z_iload C dX12_lawTells_8 rfl ?_
    refine z_iconst (v := (-1)) C dX12_lawTells_10 (by decide) ?_
    refine z_icmp_ne (tgt := 18) C dX12_lawTells_11 (by decide) (fun hc => ?_) (fun hc => ?_)
    · replace h := z_neg hc h
      refine z_aload_n C dX12_lawTells_18 rfl rfl ?_
      refine z_iconst (v := 1) C dX12_lawTells_19 (by decide) ?_
      refine z_aload_n C dX12_lawTells_20 rfl rfl ?_
      refine z_geta (k := 22) (q := 11) C z_CF12 (by decide) flX12_40 rfl rfl dX12_lawTells_21 ?_
      refine z_iload C dX12_lawTells_24 rfl ?_
      obtain ⟨b3, h⟩ := z_chk_some h
      refine z_iald C rfl rfl b3 dX12_lawTells_26 ?_
      refine z_aload_n C dX12_lawTells_27 rfl rfl ?_
      refine z_geta (k := 23) (q := 12) C z_CF12 (by decide) flX12_43 rfl rfl dX12_lawTells_28 ?_
      refine z_iload C dX12_lawTells_31 rfl ?_
      obtain ⟨b4, h⟩ := z_chk_some h
      refine z_iald C rfl rfl b4 dX12_lawTells_33 ?_
      obtain ⟨r5, σ6, mσ6, h⟩ := z_bnd2 h
      refine z_cvi (As := [.int 1, .int (σ2 11 (z_ix r1)), .int (σ2 12 (z_ix r1))]) (c := 0) (st := [.ref (z_a X 0)]) C (t12_runs 1 (σ2 11 (z_ix r1)) (σ2 12 (z_ix r1)) mσ6) kvX12_runs rfl mlX12_321 z_CF12 rfl rfl (by decide) rfl (Nat.le_of_ble_eq_true rfl) dX12_lawTells_34 ?_
      refine z_kill (lo' := [none, none, none, some (.int p3), some (.int p4), none]) [0, 1, 2, 5] rfl ?_
      exact t12_lawTells_J37 C p3 p4 r5 σ6 h
    · replace h := z_pos hc h
      refine z_iload_n C dX12_lawTells_14 rfl rfl ?_
      refine z_goto (tgt := 37) C dX12_lawTells_15 (by decide) ?_
      refine z_kill (lo' := [none, none, none, some (.int p3), some (.int p4), none]) [0, 1, 2, 5] rfl ?_
      exact t12_lawTells_J37 C p3 p4 p2 σ2 h
set_option maxHeartbeats 4000000 in
set_option maxRecDepth 100000 in
theorem t12_growAsked {a : Nat → Nat} {σ : z_M} {u : Int32 × z_M} (h : f12_growAsked σ = some u) : z_Mt yX12_growAsked (z_w yX12_growAsked cX12_growAsked 1 (some .int)) 5 S2 a σ [.ref (a 0)] (z_oi u) := by
  refine z_head (lo := [some (.ref (a 0))]) (by decide) (Nat.le_of_ble_eq_true rfl) ?_ rfl ?_
  · intro i v hv
    exact z_loe (vs := [.ref (a 0)]) (n := 0) rfl (by simp [z_c1i, z_c1r]) i v hv
  · intro X hXa C
    subst hXa
    unfold f12_growAsked at h
    refine z_aload_n C dX12_growAsked_0 rfl rfl ?_
    refine z_iconst (v := 0) C dX12_growAsked_1 (by decide) ?_
    refine z_aload_n C dX12_growAsked_2 rfl rfl ?_
    refine z_geta (k := 42) (q := 20) C z_CF12 (by decide) flX12_71 rfl rfl dX12_growAsked_3 ?_
    refine z_iconst (v := 2) C dX12_growAsked_6 (by decide) ?_
    obtain ⟨b1, h⟩ := z_chk_some h
    refine z_iald C rfl rfl b1 dX12_growAsked_7 ?_
    refine z_iconst (v := 5) C dX12_growAsked_8 (by decide) ?_
    refine z_isub C dX12_growAsked_9 ?_
    refine z_bipush (v := (-99)) C dX12_growAsked_10 (by decide) ?_
    refine z_bipush (v := 99) C dX12_growAsked_12 (by decide) ?_
    obtain ⟨r2, σ3, mσ3, h⟩ := z_bnd2 h
    refine z_cvi (As := [.int 0, .int ((σ 20 (z_ix 2)) - 5), .int (-99), .int 99]) (c := 0) (st := []) C (t12_lawTells 0 ((σ 20 (z_ix 2)) - 5) (-99) 99 mσ3) kvX12_lawTells rfl mlX12_339 z_CF12 rfl rfl (by decide) rfl (Nat.le_of_ble_eq_true rfl) dX12_growAsked_14 ?_
    exact z_iret C h dX12_growAsked_17
set_option maxHeartbeats 4000000 in
set_option maxRecDepth 100000 in
theorem t12_lowerAsked {a : Nat → Nat} {σ : z_M} {u : Int32 × z_M} (h : f12_lowerAsked σ = some u) : z_Mt yX12_lowerAsked (z_w yX12_lowerAsked cX12_lowerAsked 1 (some .int)) 5 S2 a σ [.ref (a 0)] (z_oi u) := by
  refine z_head (lo := [some (.ref (a 0))]) (by decide) (Nat.le_of_ble_eq_true rfl) ?_ rfl ?_
  · intro i v hv
    exact z_loe (vs := [.ref (a 0)]) (n := 0) rfl (by simp [z_c1i, z_c1r]) i v hv
  · intro X hXa C
    subst hXa
    unfold f12_lowerAsked at h
    refine z_aload_n C dX12_lowerAsked_0 rfl rfl ?_
    refine z_iconst (v := 1) C dX12_lowerAsked_1 (by decide) ?_
    refine z_aload_n C dX12_lowerAsked_2 rfl rfl ?_
    refine z_geta (k := 42) (q := 20) C z_CF12 (by decide) flX12_71 rfl rfl dX12_lowerAsked_3 ?_
    refine z_iconst (v := 0) C dX12_lowerAsked_6 (by decide) ?_
    obtain ⟨b1, h⟩ := z_chk_some h
    refine z_iald C rfl rfl b1 dX12_lowerAsked_7 ?_
    refine z_bipush (v := 10) C dX12_lowerAsked_8 (by decide) ?_
    refine z_idiv C dX12_lowerAsked_10 (by decide) ?_
    refine z_iconst (v := 0) C dX12_lowerAsked_11 (by decide) ?_
    refine z_bipush (v := 100) C dX12_lowerAsked_12 (by decide) ?_
    obtain ⟨r2, σ3, mσ3, h⟩ := z_bnd2 h
    refine z_cvi (As := [.int 1, .int ((σ 20 (z_ix 0)) / 10), .int 0, .int 100]) (c := 0) (st := []) C (t12_lawTells 1 ((σ 20 (z_ix 0)) / 10) 0 100 mσ3) kvX12_lawTells rfl mlX12_339 z_CF12 rfl rfl (by decide) rfl (Nat.le_of_ble_eq_true rfl) dX12_lowerAsked_14 ?_
    exact z_iret C h dX12_lowerAsked_17
set_option maxHeartbeats 4000000 in
set_option maxRecDepth 100000 in
theorem t12_seedAsked {a : Nat → Nat} {σ : z_M} {u : Int32 × z_M} (h : f12_seedAsked σ = some u) : z_Mt yX12_seedAsked (z_w yX12_seedAsked cX12_seedAsked 1 (some .int)) 5 S2 a σ [.ref (a 0)] (z_oi u) := by
  refine z_head (lo := [some (.ref (a 0))]) (by decide) (Nat.le_of_ble_eq_true rfl) ?_ rfl ?_
  · intro i v hv
    exact z_loe (vs := [.ref (a 0)]) (n := 0) rfl (by simp [z_c1i, z_c1r]) i v hv
  · intro X hXa C
    subst hXa
    unfold f12_seedAsked at h
    refine z_aload_n C dX12_seedAsked_0 rfl rfl ?_
    refine z_iconst (v := 2) C dX12_seedAsked_1 (by decide) ?_
    refine z_bipush (v := 10) C dX12_seedAsked_2 (by decide) ?_
    refine z_iconst (v := 0) C dX12_seedAsked_4 (by decide) ?_
    refine z_bipush (v := 99) C dX12_seedAsked_5 (by decide) ?_
    obtain ⟨r1, σ2, mσ2, h⟩ := z_bnd2 h
    refine z_cvi (As := [.int 2, .int 10, .int 0, .int 99]) (c := 0) (st := []) C (t12_lawTells 2 10 0 99 mσ2) kvX12_lawTells rfl mlX12_339 z_CF12 rfl rfl (by decide) rfl (Nat.le_of_ble_eq_true rfl) dX12_seedAsked_7 ?_
    exact z_iret C h dX12_seedAsked_10
set_option maxHeartbeats 4000000 in
set_option maxRecDepth 100000 in
theorem t12_notes {a : Nat → Nat} (p1 : Int32) (p2 : Int32) (p3 : Int32) {σ : z_M} {u : Unit × z_M} (h : f12_notes p1 p2 p3 σ = some u) : z_Mt yX12_notes (z_w yX12_notes cX12_notes 5 none) 1 S2 a σ [.ref (a 0), .int p1, .int p2, .int p3] (z_ov u) := by
  refine z_head (lo := [some (.ref (a 0)), some (.int p1), some (.int p2), some (.int p3), none]) (by decide) (Nat.le_of_ble_eq_true rfl) ?_ rfl ?_
  · intro i v hv
    exact z_loe (vs := [.ref (a 0), .int p1, .int p2, .int p3]) (n := 1) rfl (by simp [z_c1i, z_c1r]) i v hv
  · intro X hXa C
    subst hXa
    unfold f12_notes at h
    refine z_aload_n C dX12_notes_0 rfl rfl ?_
    refine z_geti (k := 5) C z_CF12 (by decide) flX12_119 rfl rfl dX12_notes_1 ?_
    refine z_if_ne (tgt := 19) C dX12_notes_4 (by decide) (fun hc => ?_) (fun hc => ?_)
    · replace h := z_neg hc h
      exact z_vret C h dX12_notes_19
    · replace h := z_pos hc h
      refine z_aload_n C dX12_notes_7 rfl rfl ?_
      refine z_geta (k := 1) (q := 1) C z_CF12 (by decide) flX12_7 rfl rfl dX12_notes_8 ?_
      refine z_iconst (v := 2) C dX12_notes_11 (by decide) ?_
      obtain ⟨b1, h⟩ := z_chk_some h
      refine z_iald C rfl rfl b1 dX12_notes_12 ?_
      refine z_sipush (v := 150) C dX12_notes_13 (by decide) ?_
      refine z_icmp_ne (tgt := 20) C dX12_notes_16 (by decide) (fun hc => ?_) (fun hc => ?_)
      · replace h := z_neg hc h
        refine z_iconst (v := 4) C dX12_notes_20 (by decide) ?_
        refine z_aload_n C dX12_notes_21 rfl rfl ?_
        refine z_geta (k := 1) (q := 1) C z_CF12 (by decide) flX12_7 rfl rfl dX12_notes_22 ?_
        refine z_iconst (v := 2) C dX12_notes_25 (by decide) ?_
        obtain ⟨b2, h⟩ := z_chk_some h
        refine z_iald C rfl rfl b2 dX12_notes_26 ?_
        refine z_imul C dX12_notes_27 ?_
        refine z_istore (lo' := [some (.ref (z_a X 0)), some (.int p1), some (.int p2), some (.int p3), some (.int (4 * (σ 1 (z_ix 2))))]) C dX12_notes_28 (Nat.le_of_ble_eq_true rfl) rfl ?_
        refine z_aload_n C dX12_notes_30 rfl rfl ?_
        refine z_geta (k := 12) (q := 6) C z_CF12 (by decide) flX12_25 rfl rfl dX12_notes_31 ?_
        refine z_iload C dX12_notes_34 rfl ?_
        refine z_aload_n C dX12_notes_36 rfl rfl ?_
        refine z_geta (k := 1) (q := 1) C z_CF12 (by decide) flX12_7 rfl rfl dX12_notes_37 ?_
        refine z_iconst (v := 0) C dX12_notes_40 (by decide) ?_
        obtain ⟨b3, h⟩ := z_chk_some h
        refine z_iald C rfl rfl b3 dX12_notes_41 ?_
        obtain ⟨b4, h⟩ := z_chk_some h
        obtain ⟨σ5, eσ5, h⟩ := z_let_some h
        refine z_iast C rfl rfl b4 eσ5 dX12_notes_42 ?_
        refine z_aload_n C dX12_notes_43 rfl rfl ?_
        refine z_geta (k := 12) (q := 6) C z_CF12 (by decide) flX12_25 rfl rfl dX12_notes_44 ?_
        refine z_iload C dX12_notes_47 rfl ?_
        refine z_iconst (v := 1) C dX12_notes_49 (by decide) ?_
        refine z_iadd C dX12_notes_50 ?_
        refine z_iload_n C dX12_notes_51 rfl rfl ?_
        obtain ⟨b6, h⟩ := z_chk_some h
        obtain ⟨σ7, eσ7, h⟩ := z_let_some h
        refine z_iast C rfl rfl b6 eσ7 dX12_notes_52 ?_
        refine z_aload_n C dX12_notes_53 rfl rfl ?_
        refine z_geta (k := 12) (q := 6) C z_CF12 (by decide) flX12_25 rfl rfl dX12_notes_54 ?_
        refine z_iload C dX12_notes_57 rfl ?_
        refine z_iconst (v := 2) C dX12_notes_59 (by decide) ?_
        refine z_iadd C dX12_notes_60 ?_
        refine z_iload_n C dX12_notes_61 rfl rfl ?_
        obtain ⟨b8, h⟩ := z_chk_some h
        obtain ⟨σ9, eσ9, h⟩ := z_let_some h
        refine z_iast C rfl rfl b8 eσ9 dX12_notes_62 ?_
        refine z_aload_n C dX12_notes_63 rfl rfl ?_
        refine z_geta (k := 12) (q := 6) C z_CF12 (by decide) flX12_25 rfl rfl dX12_notes_64 ?_
        refine z_iload C dX12_notes_67 rfl ?_
        refine z_iconst (v := 3) C dX12_notes_69 (by decide) ?_
        refine z_iadd C dX12_notes_70 ?_
        refine z_iload_n C dX12_notes_71 rfl rfl ?_
        obtain ⟨b10, h⟩ := z_chk_some h
        obtain ⟨σ11, eσ11, h⟩ := z_let_some h
        refine z_iast C rfl rfl b10 eσ11 dX12_notes_72 ?_
        refine z_aload_n C dX12_notes_73 rfl rfl ?_
        refine z_geta (k := 1) (q := 1) C z_CF12 (by decide) flX12_7 rfl rfl dX12_notes_74 ?_
        refine z_iconst (v := 2) C dX12_notes_77 (by decide) ?_
        refine z_aload_n C dX12_notes_78 rfl rfl ?_
        refine z_geta (k := 1) (q := 1) C z_CF12 (by decide) flX12_7 rfl rfl dX12_notes_79 ?_
        refine z_iconst (v := 2) C dX12_notes_82 (by decide) ?_
        obtain ⟨b12, h⟩ := z_chk_some h
        refine z_iald C rfl rfl b12 dX12_notes_83 ?_
        refine z_iconst (v := 1) C dX12_notes_84 (by decide) ?_
        refine z_iadd C dX12_notes_85 ?_
        obtain ⟨b13, h⟩ := z_chk_some h
        obtain ⟨σ14, eσ14, h⟩ := z_let_some h
        refine z_iast C rfl rfl b13 eσ14 dX12_notes_86 ?_
        exact z_vret C h dX12_notes_87
      · replace h := z_pos hc h
        exact z_vret C h dX12_notes_19
set_option maxHeartbeats 4000000 in
set_option maxRecDepth 100000 in
theorem t12_pots {a : Nat → Nat} (p1 : Int32) (p2 : Int32) (p3 : Int32) (p4 : Int32) (p5 : Int32) {σ : z_M} {u : Unit × z_M} (h : f12_pots p1 p2 p3 p4 p5 σ = some u) : z_Mt yX12_pots (z_w yX12_pots cX12_pots 6 none) 2 S2 a σ [.ref (a 0), .int p1, .int p2, .int p3, .int p4, .int p5] (z_ov u) := by
  refine z_head (lo := [some (.ref (a 0)), some (.int p1), some (.int p2), some (.int p3), some (.int p4), some (.int p5)]) (by decide) (Nat.le_of_ble_eq_true rfl) ?_ rfl ?_
  · intro i v hv
    exact z_loe (vs := [.ref (a 0), .int p1, .int p2, .int p3, .int p4, .int p5]) (n := 0) rfl (by simp [z_c1i, z_c1r]) i v hv
  · intro X hXa C
    subst hXa
    unfold f12_pots at h
    refine z_aload_n C dX12_pots_0 rfl rfl ?_
    refine z_geta (k := 1) (q := 1) C z_CF12 (by decide) flX12_7 rfl rfl dX12_pots_1 ?_
    refine z_bipush (v := 68) C dX12_pots_4 (by decide) ?_
    refine z_iload_n C dX12_pots_6 rfl rfl ?_
    refine z_iadd C dX12_pots_7 ?_
    refine z_iload_n C dX12_pots_8 rfl rfl ?_
    refine z_iconst (v := 1) C dX12_pots_9 (by decide) ?_
    refine z_iadd C dX12_pots_10 ?_
    obtain ⟨b1, h⟩ := z_chk_some h
    obtain ⟨σ2, eσ2, h⟩ := z_let_some h
    refine z_iast C rfl rfl b1 eσ2 dX12_pots_11 ?_
    refine z_aload_n C dX12_pots_12 rfl rfl ?_
    refine z_geta (k := 1) (q := 1) C z_CF12 (by decide) flX12_7 rfl rfl dX12_pots_13 ?_
    refine z_bipush (v := 76) C dX12_pots_16 (by decide) ?_
    refine z_iload_n C dX12_pots_18 rfl rfl ?_
    refine z_iadd C dX12_pots_19 ?_
    refine z_iload_n C dX12_pots_20 rfl rfl ?_
    obtain ⟨b3, h⟩ := z_chk_some h
    obtain ⟨σ4, eσ4, h⟩ := z_let_some h
    refine z_iast C rfl rfl b3 eσ4 dX12_pots_21 ?_
    refine z_aload_n C dX12_pots_22 rfl rfl ?_
    refine z_geta (k := 1) (q := 1) C z_CF12 (by decide) flX12_7 rfl rfl dX12_pots_23 ?_
    refine z_bipush (v := 84) C dX12_pots_26 (by decide) ?_
    refine z_iload_n C dX12_pots_28 rfl rfl ?_
    refine z_iadd C dX12_pots_29 ?_
    refine z_iload C dX12_pots_30 rfl ?_
    obtain ⟨b5, h⟩ := z_chk_some h
    obtain ⟨σ6, eσ6, h⟩ := z_let_some h
    refine z_iast C rfl rfl b5 eσ6 dX12_pots_32 ?_
    refine z_aload_n C dX12_pots_33 rfl rfl ?_
    refine z_geta (k := 1) (q := 1) C z_CF12 (by decide) flX12_7 rfl rfl dX12_pots_34 ?_
    refine z_bipush (v := 92) C dX12_pots_37 (by decide) ?_
    refine z_iload_n C dX12_pots_39 rfl rfl ?_
    refine z_iadd C dX12_pots_40 ?_
    refine z_iconst (v := 0) C dX12_pots_41 (by decide) ?_
    obtain ⟨b7, h⟩ := z_chk_some h
    obtain ⟨σ8, eσ8, h⟩ := z_let_some h
    refine z_iast C rfl rfl b7 eσ8 dX12_pots_42 ?_
    refine z_aload_n C dX12_pots_43 rfl rfl ?_
    refine z_iload C dX12_pots_44 rfl ?_
    refine z_iload_n C dX12_pots_46 rfl rfl ?_
    refine z_iload_n C dX12_pots_47 rfl rfl ?_
    obtain ⟨⟨⟩, σ10, mσ10, h⟩ := z_bnd2 h
    refine z_cvv (As := [.int p5, .int p1, .int p2]) (c := 0) (st := []) C (t12_notes p5 p1 p2 mσ10) kvX12_notes rfl mlX12_343 z_CF12 rfl rfl (by decide) rfl (Nat.le_of_ble_eq_true rfl) dX12_pots_48 ?_
    exact z_vret C h dX12_pots_51
set_option maxHeartbeats 4000000 in
set_option maxRecDepth 100000 in
theorem t12_loses {a : Nat → Nat} (p1 : Int32) (p2 : Int32) {σ : z_M} {u : Unit × z_M} (h : f12_loses p1 p2 σ = some u) : z_Mt yX12_loses (z_w yX12_loses cX12_loses 3 none) 2 S2 a σ [.ref (a 0), .int p1, .int p2] (z_ov u) := by
  refine z_head (lo := [some (.ref (a 0)), some (.int p1), some (.int p2)]) (by decide) (Nat.le_of_ble_eq_true rfl) ?_ rfl ?_
  · intro i v hv
    exact z_loe (vs := [.ref (a 0), .int p1, .int p2]) (n := 0) rfl (by simp [z_c1i, z_c1r]) i v hv
  · intro X hXa C
    subst hXa
    unfold f12_loses at h
    refine z_aload_n C dX12_loses_0 rfl rfl ?_
    refine z_iload_n C dX12_loses_1 rfl rfl ?_
    refine z_iload_n C dX12_loses_2 rfl rfl ?_
    refine z_aload_n C dX12_loses_3 rfl rfl ?_
    refine z_iload_n C dX12_loses_4 rfl rfl ?_
    obtain ⟨r1, σ2, mσ2, h⟩ := z_bnd2 h
    refine z_cvi (As := [.int p1]) (c := 0) (st := [.int p1, .int p2, .ref (z_a X 0)]) C (t12_potOf p1 mσ2) kvX12_potOf rfl mlX12_324 z_CF12 rfl rfl (by decide) rfl (Nat.le_of_ble_eq_true rfl) dX12_loses_5 ?_
    obtain ⟨⟨⟩, σ4, mσ4, h⟩ := z_bnd2 h
    refine z_cvv (As := [.int p2, .int p1, .int r1]) (c := 0) (st := []) C (t12_notes p2 p1 r1 mσ4) kvX12_notes rfl mlX12_343 z_CF12 rfl rfl (by decide) rfl (Nat.le_of_ble_eq_true rfl) dX12_loses_8 ?_
    refine z_aload_n C dX12_loses_11 rfl rfl ?_
    refine z_geta (k := 1) (q := 1) C z_CF12 (by decide) flX12_7 rfl rfl dX12_loses_12 ?_
    refine z_bipush (v := 68) C dX12_loses_15 (by decide) ?_
    refine z_iload_n C dX12_loses_17 rfl rfl ?_
    refine z_iadd C dX12_loses_18 ?_
    refine z_iconst (v := 0) C dX12_loses_19 (by decide) ?_
    obtain ⟨b5, h⟩ := z_chk_some h
    obtain ⟨σ6, eσ6, h⟩ := z_let_some h
    refine z_iast C rfl rfl b5 eσ6 dX12_loses_20 ?_
    exact z_vret C h dX12_loses_21
set_option maxHeartbeats 4000000 in
set_option maxRecDepth 100000 in
theorem t12_canDo_J28 {X : z_Ct} (C : z_Cx S2 X RX12 cX12_canDo 3 2 (some .boolean)) {u : Int32 × z_M} (s0 : Int32) (s1 : Int32) (σ : z_M) (h : f12_canDo_J28 s0 s1 σ = some u) : z_W S2 X 28 [none, none, none] [.int s1, .int s0] σ (z_oi u) := by
  unfold f12_canDo_J28 at h
  refine z_icmp_ne (tgt := 35) C dX12_canDo_28 (by decide) (fun hc => ?_) (fun hc => ?_)
  · replace h := z_neg hc h
    refine z_iconst (v := 0) C dX12_canDo_35 (by decide) ?_
    exact z_zret C (by decide) h dX12_canDo_36
  · replace h := z_pos hc h
    refine z_iconst (v := 1) C dX12_canDo_31 (by decide) ?_
    refine z_goto (tgt := 36) C dX12_canDo_32 (by decide) ?_
    exact z_zret C (by decide) h dX12_canDo_36
set_option maxHeartbeats 4000000 in
set_option maxRecDepth 100000 in
theorem t12_canDo_J14 {X : z_Ct} (C : z_Cx S2 X RX12 cX12_canDo 3 2 (some .boolean)) {u : Int32 × z_M} (v2 : Int32) (s0 : Int32) (σ : z_M) (h : f12_canDo_J14 v2 s0 σ = some u) : z_W S2 X 14 [some (.ref (z_a X 0)), none, some (.int v2)] [.int s0] σ (z_oi u) := by
  unfold f12_canDo_J14 at h
  refine z_aload_n C dX12_canDo_14 rfl rfl ?_
  refine z_iload_n C dX12_canDo_15 rfl rfl ?_
  obtain ⟨r1, σ2, mσ2, h⟩ := z_bnd2 h
  refine z_cvi (As := [.int v2]) (c := 0) (st := [.int s0]) C (t12_potOf v2 mσ2) kvX12_potOf rfl mlX12_324 z_CF12 rfl rfl (by decide) rfl (Nat.le_of_ble_eq_true rfl) dX12_canDo_16 ?_
  refine z_iconst (v := (-1)) C dX12_canDo_19 (by decide) ?_
  refine z_icmp_ne (tgt := 27) C dX12_canDo_20 (by decide) (fun hc => ?_) (fun hc => ?_)
  · replace h := z_neg hc h
    refine z_iconst (v := 0) C dX12_canDo_27 (by decide) ?_
    refine z_kill (lo' := [none, none, none]) [0, 2] rfl ?_
    exact t12_canDo_J28 C s0 0 σ2 h
  · replace h := z_pos hc h
    refine z_iconst (v := 1) C dX12_canDo_23 (by decide) ?_
    refine z_goto (tgt := 28) C dX12_canDo_24 (by decide) ?_
    refine z_kill (lo' := [none, none, none]) [0, 2] rfl ?_
    exact t12_canDo_J28 C s0 1 σ2 h
set_option maxHeartbeats 4000000 in
set_option maxRecDepth 100000 in
theorem t12_canDo {a : Nat → Nat} (p1 : Int32) (p2 : Int32) {σ : z_M} {u : Int32 × z_M} (h : f12_canDo p1 p2 σ = some u) : z_Mt yX12_canDo (z_w yX12_canDo cX12_canDo 3 (some .boolean)) 2 S2 a σ [.ref (a 0), .int p1, .int p2] (z_oi u) := by
  refine z_head (lo := [some (.ref (a 0)), some (.int p1), some (.int p2)]) (by decide) (Nat.le_of_ble_eq_true rfl) ?_ rfl ?_
  · intro i v hv
    exact z_loe (vs := [.ref (a 0), .int p1, .int p2]) (n := 0) rfl (by simp [z_c1i, z_c1r]) i v hv
  · intro X hXa C
    subst hXa
    unfold f12_canDo at h
    refine z_iload_n C dX12_canDo_0 rfl rfl ?_
    refine z_iconst (v := 3) C dX12_canDo_1 (by decide) ?_
    refine z_icmp_eq (tgt := 31) C dX12_canDo_2 (by decide) (fun hc => ?_) (fun hc => ?_)
    · replace h := z_pos hc h
      refine z_iconst (v := 1) C dX12_canDo_31 (by decide) ?_
      refine z_goto (tgt := 36) C dX12_canDo_32 (by decide) ?_
      exact z_zret C (by decide) h dX12_canDo_36
    · replace h := z_neg hc h
      refine z_iload_n C dX12_canDo_5 rfl rfl ?_
      refine z_if_ne (tgt := 13) C dX12_canDo_6 (by decide) (fun hc => ?_) (fun hc => ?_)
      · replace h := z_neg hc h
        refine z_iconst (v := 0) C dX12_canDo_13 (by decide) ?_
        refine z_kill (lo' := [some (.ref (z_a X 0)), none, some (.int p2)]) [1] rfl ?_
        exact t12_canDo_J14 C p2 0 σ h
      · replace h := z_pos hc h
        refine z_iconst (v := 1) C dX12_canDo_9 (by decide) ?_
        refine z_goto (tgt := 14) C dX12_canDo_10 (by decide) ?_
        refine z_kill (lo' := [some (.ref (z_a X 0)), none, some (.int p2)]) [1] rfl ?_
        exact t12_canDo_J14 C p2 1 σ h
set_option maxHeartbeats 4000000 in
set_option maxRecDepth 100000 in
theorem t12_does_J58 {X : z_Ct} (C : z_Cx S2 X RX12 cX12_does 5 3 none) {u : Unit × z_M} (v1 : Int32) (v2 : Int32) (v3 : Int32) (v4 : Int32) (σ : z_M) (h : f12_does_J58 v1 v2 v3 v4 σ = some u) : z_W S2 X 58 [some (.ref (z_a X 0)), some (.int v1), some (.int v2), some (.int v3), some (.int v4)] [] σ (z_ov u) := by
  unfold f12_does_J58 at h
  refine z_iload_n C dX12_does_58 rfl rfl ?_
  refine z_iconst (v := 3) C dX12_does_59 (by decide) ?_
  refine z_icmp_ne (tgt := 71) C dX12_does_60 (by decide) (fun hc => ?_) (fun hc => ?_)
  · replace h := z_neg hc h
    exact z_vret C h dX12_does_71
  · replace h := z_pos hc h
    refine z_aload_n C dX12_does_63 rfl rfl ?_
    refine z_iload_n C dX12_does_64 rfl rfl ?_
    refine z_iload_n C dX12_does_65 rfl rfl ?_
    refine z_iload C dX12_does_66 rfl ?_
    obtain ⟨⟨⟩, σ2, mσ2, h⟩ := z_bnd2 h
    refine z_cvv (As := [.int v2, .int v3, .int v4]) (c := 0) (st := []) C (t12_degreeBe v2 v3 v4 mσ2) kvX12_degreeBe rfl mlX12_138 z_CF12 rfl rfl (by decide) rfl (Nat.le_of_ble_eq_true rfl) dX12_does_68 ?_
    exact z_vret C h dX12_does_71
set_option maxHeartbeats 4000000 in
set_option maxRecDepth 100000 in
theorem t12_does_J26 {X : z_Ct} (C : z_Cx S2 X RX12 cX12_does 5 3 none) {u : Unit × z_M} (v1 : Int32) (v2 : Int32) (v3 : Int32) (v4 : Int32) (σ : z_M) (h : f12_does_J26 v1 v2 v3 v4 σ = some u) : z_W S2 X 26 [some (.ref (z_a X 0)), some (.int v1), some (.int v2), some (.int v3), some (.int v4)] [] σ (z_ov u) := by
  unfold f12_does_J26 at h
  refine z_iload_n C dX12_does_26 rfl rfl ?_
  refine z_iconst (v := 2) C dX12_does_27 (by decide) ?_
  refine z_icmp_ne (tgt := 58) C dX12_does_28 (by decide) (fun hc => ?_) (fun hc => ?_)
  · replace h := z_neg hc h
    exact t12_does_J58 C v1 v2 v3 v4 σ h
  · replace h := z_pos hc h
    refine z_aload_n C dX12_does_31 rfl rfl ?_
    refine z_geta (k := 1) (q := 1) C z_CF12 (by decide) flX12_7 rfl rfl dX12_does_32 ?_
    refine z_bipush (v := 92) C dX12_does_35 (by decide) ?_
    refine z_iload_n C dX12_does_37 rfl rfl ?_
    refine z_iadd C dX12_does_38 ?_
    refine z_aload_n C dX12_does_39 rfl rfl ?_
    refine z_aload_n C dX12_does_40 rfl rfl ?_
    refine z_geta (k := 1) (q := 1) C z_CF12 (by decide) flX12_7 rfl rfl dX12_does_41 ?_
    refine z_bipush (v := 92) C dX12_does_44 (by decide) ?_
    refine z_iload_n C dX12_does_46 rfl rfl ?_
    refine z_iadd C dX12_does_47 ?_
    obtain ⟨b1, h⟩ := z_chk_some h
    refine z_iald C rfl rfl b1 dX12_does_48 ?_
    refine z_iload_n C dX12_does_49 rfl rfl ?_
    refine z_iadd C dX12_does_50 ?_
    refine z_iconst (v := 0) C dX12_does_51 (by decide) ?_
    refine z_bipush (v := 99) C dX12_does_52 (by decide) ?_
    obtain ⟨r2, σ3, mσ3, h⟩ := z_bnd2 h
    refine z_cvi (As := [.int ((σ 1 (z_ix (92 + v2))) + v3), .int 0, .int 99]) (c := 0) (st := [.int (92 + v2), .ref (z_a X 1)]) C (t12_held ((σ 1 (z_ix (92 + v2))) + v3) 0 99 mσ3) kvX12_held rfl mlX12_336 z_CF12 rfl rfl (by decide) rfl (Nat.le_of_ble_eq_true rfl) dX12_does_54 ?_
    obtain ⟨b4, h⟩ := z_chk_some h
    obtain ⟨σ5, eσ5, h⟩ := z_let_some h
    refine z_iast C rfl rfl b4 eσ5 dX12_does_57 ?_
    exact t12_does_J58 C v1 v2 v3 v4 σ5 h
set_option maxHeartbeats 4000000 in
set_option maxRecDepth 100000 in
theorem t12_does_J15 {X : z_Ct} (C : z_Cx S2 X RX12 cX12_does 5 3 none) {u : Unit × z_M} (v1 : Int32) (v2 : Int32) (v3 : Int32) (v4 : Int32) (σ : z_M) (h : f12_does_J15 v1 v2 v3 v4 σ = some u) : z_W S2 X 15 [some (.ref (z_a X 0)), some (.int v1), some (.int v2), some (.int v3), some (.int v4)] [] σ (z_ov u) := by
  unfold f12_does_J15 at h
  refine z_iload_n C dX12_does_15 rfl rfl ?_
  refine z_iconst (v := 1) C dX12_does_16 (by decide) ?_
  refine z_icmp_ne (tgt := 26) C dX12_does_17 (by decide) (fun hc => ?_) (fun hc => ?_)
  · replace h := z_neg hc h
    exact t12_does_J26 C v1 v2 v3 v4 σ h
  · replace h := z_pos hc h
    refine z_aload_n C dX12_does_20 rfl rfl ?_
    refine z_iload_n C dX12_does_21 rfl rfl ?_
    refine z_iconst (v := 1) C dX12_does_22 (by decide) ?_
    obtain ⟨⟨⟩, σ2, mσ2, h⟩ := z_bnd2 h
    refine z_cvv (As := [.int v2, .int 1]) (c := 0) (st := []) C (t12_loses v2 1 mσ2) kvX12_loses rfl mlX12_350 z_CF12 rfl rfl (by decide) rfl (Nat.le_of_ble_eq_true rfl) dX12_does_23 ?_
    exact t12_does_J26 C v1 v2 v3 v4 σ2 h
set_option maxHeartbeats 4000000 in
set_option maxRecDepth 100000 in
theorem t12_does {a : Nat → Nat} (p1 : Int32) (p2 : Int32) (p3 : Int32) (p4 : Int32) {σ : z_M} {u : Unit × z_M} (h : f12_does p1 p2 p3 p4 σ = some u) : z_Mt yX12_does (z_w yX12_does cX12_does 5 none) 3 S2 a σ [.ref (a 0), .int p1, .int p2, .int p3, .int p4] (z_ov u) := by
  refine z_head (lo := [some (.ref (a 0)), some (.int p1), some (.int p2), some (.int p3), some (.int p4)]) (by decide) (Nat.le_of_ble_eq_true rfl) ?_ rfl ?_
  · intro i v hv
    exact z_loe (vs := [.ref (a 0), .int p1, .int p2, .int p3, .int p4]) (n := 0) rfl (by simp [z_c1i, z_c1r]) i v hv
  · intro X hXa C
    subst hXa
    unfold f12_does at h
    refine z_iload_n C dX12_does_0 rfl rfl ?_
    refine z_if_ne (tgt := 15) C dX12_does_1 (by decide) (fun hc => ?_) (fun hc => ?_)
    · replace h := z_neg hc h
      exact t12_does_J15 C p1 p2 p3 p4 σ h
    · replace h := z_pos hc h
      refine z_aload_n C dX12_does_4 rfl rfl ?_
      refine z_iload_n C dX12_does_5 rfl rfl ?_
      refine z_iload_n C dX12_does_6 rfl rfl ?_
      refine z_bipush (v := 10) C dX12_does_7 (by decide) ?_
      refine z_iload C dX12_does_9 rfl ?_
      refine z_iconst (v := 0) C dX12_does_11 (by decide) ?_
      obtain ⟨⟨⟩, σ2, mσ2, h⟩ := z_bnd2 h
      refine z_cvv (As := [.int p2, .int p3, .int 10, .int p4, .int 0]) (c := 0) (st := []) C (t12_pots p2 p3 10 p4 0 mσ2) kvX12_pots rfl mlX12_346 z_CF12 rfl rfl (by decide) rfl (Nat.le_of_ble_eq_true rfl) dX12_does_12 ?_
      exact t12_does_J15 C p1 p2 p3 p4 σ2 h
set_option maxHeartbeats 4000000 in
set_option maxRecDepth 100000 in
theorem t12_acts {a : Nat → Nat} (p1 : Int32) (p2 : Int32) (p3 : Int32) (p4 : Int32) {σ : z_M} {u : Int32 × z_M} (h : f12_acts p1 p2 p3 p4 σ = some u) : z_Mt yX12_acts (z_w yX12_acts cX12_acts 5 (some .boolean)) 4 S2 a σ [.ref (a 0), .int p1, .int p2, .int p3, .int p4] (z_oi u) := by
  refine z_head (lo := [some (.ref (a 0)), some (.int p1), some (.int p2), some (.int p3), some (.int p4)]) (by decide) (Nat.le_of_ble_eq_true rfl) ?_ rfl ?_
  · intro i v hv
    exact z_loe (vs := [.ref (a 0), .int p1, .int p2, .int p3, .int p4]) (n := 0) rfl (by simp [z_c1i, z_c1r]) i v hv
  · intro X hXa C
    subst hXa
    unfold f12_acts at h
    refine z_aload_n C dX12_acts_0 rfl rfl ?_
    refine z_iload_n C dX12_acts_1 rfl rfl ?_
    refine z_iload_n C dX12_acts_2 rfl rfl ?_
    obtain ⟨r1, σ2, mσ2, h⟩ := z_bnd2 h
    refine z_cvi (As := [.int p1, .int p2]) (c := 0) (st := []) C (t12_canDo p1 p2 mσ2) kvX12_canDo rfl mlX12_353 z_CF12 rfl rfl (by decide) rfl (Nat.le_of_ble_eq_true rfl) dX12_acts_3 ?_
    refine z_if_ne (tgt := 11) C dX12_acts_6 (by decide) (fun hc => ?_) (fun hc => ?_)
    · replace h := z_neg hc h
      refine z_aload_n C dX12_acts_11 rfl rfl ?_
      obtain ⟨⟨⟩, σ4, mσ4, h⟩ := z_bnd2 h
      refine z_cvv (As := []) (c := 0) (st := []) C (t12_keepsAhead mσ4) kvX12_keepsAhead rfl mlX12_357 z_CF12 rfl rfl (by decide) rfl (Nat.le_of_ble_eq_true rfl) dX12_acts_12 ?_
      refine z_aload_n C dX12_acts_15 rfl rfl ?_
      refine z_iload_n C dX12_acts_16 rfl rfl ?_
      refine z_iload_n C dX12_acts_17 rfl rfl ?_
      refine z_iload_n C dX12_acts_18 rfl rfl ?_
      refine z_iload C dX12_acts_19 rfl ?_
      obtain ⟨⟨⟩, σ6, mσ6, h⟩ := z_bnd2 h
      refine z_cvv (As := [.int p1, .int p2, .int p3, .int p4]) (c := 0) (st := []) C (t12_does p1 p2 p3 p4 mσ6) kvX12_does rfl mlX12_360 z_CF12 rfl rfl (by decide) rfl (Nat.le_of_ble_eq_true rfl) dX12_acts_21 ?_
      refine z_iconst (v := 1) C dX12_acts_24 (by decide) ?_
      exact z_zret C (by decide) h dX12_acts_25
    · replace h := z_pos hc h
      refine z_iconst (v := 0) C dX12_acts_9 (by decide) ?_
      exact z_zret C (by decide) h dX12_acts_10
set_option maxHeartbeats 4000000 in
set_option maxRecDepth 100000 in
theorem t12_pot_J47 {X : z_Ct} (C : z_Cx S2 X RX12 cX12_pot 4 5 (some .boolean)) {u : Int32 × z_M} (σ : z_M) (h : f12_pot_J47 σ = some u) : z_W S2 X 47 [none, none, none, none] [] σ (z_oi u) := by
  unfold f12_pot_J47 at h
  refine z_iconst (v := 0) C dX12_pot_47 (by decide) ?_
  exact z_zret C (by decide) h dX12_pot_48
set_option maxHeartbeats 4000000 in
set_option maxRecDepth 100000 in
theorem t12_pot {a : Nat → Nat} (p1 : Int32) (p2 : Int32) (p3 : Int32) {σ : z_M} {u : Int32 × z_M} (h : f12_pot p1 p2 p3 σ = some u) : z_Mt yX12_pot (z_w yX12_pot cX12_pot 4 (some .boolean)) 5 S2 a σ [.ref (a 0), .int p1, .int p2, .int p3] (z_oi u) := by
  refine z_head (lo := [some (.ref (a 0)), some (.int p1), some (.int p2), some (.int p3)]) (by decide) (Nat.le_of_ble_eq_true rfl) ?_ rfl ?_
  · intro i v hv
    exact z_loe (vs := [.ref (a 0), .int p1, .int p2, .int p3]) (n := 0) rfl (by simp [z_c1i, z_c1r]) i v hv
  · intro X hXa C
    subst hXa
    unfold f12_pot at h
    refine z_aload_n C dX12_pot_0 rfl rfl ?_
    refine z_iconst (v := 0) C dX12_pot_1 (by decide) ?_
    obtain ⟨σ1, eσ1, h⟩ := z_let_some h
    refine z_puti (k := 0) C z_CF12 (by decide) flX12_113 rfl rfl rfl rfl eσ1 dX12_pot_2 ?_
    refine z_aload_n C dX12_pot_5 rfl rfl ?_
    refine z_iload_n C dX12_pot_6 rfl rfl ?_
    obtain ⟨r2, σ3, mσ3, h⟩ := z_bnd2 h
    refine z_cvi (As := [.int p1]) (c := 0) (st := []) C (t12_isHouse p1 mσ3) kvX12_isHouse rfl mlX12_156 z_CF12 rfl rfl (by decide) rfl (Nat.le_of_ble_eq_true rfl) dX12_pot_7 ?_
    refine z_if_eq (tgt := 47) C dX12_pot_10 (by decide) (fun hc => ?_) (fun hc => ?_)
    · replace h := z_pos hc h
      refine z_kill (lo' := [none, none, none, none]) [0, 1, 2, 3] rfl ?_
      exact t12_pot_J47 C σ3 h
    · replace h := z_neg hc h
      refine z_aload_n C dX12_pot_13 rfl rfl ?_
      refine z_iload_n C dX12_pot_14 rfl rfl ?_
      obtain ⟨r4, σ5, mσ5, h⟩ := z_bnd2 h
      refine z_cvi (As := [.int p2]) (c := 0) (st := []) C (t12_isThing p2 mσ5) kvX12_isThing rfl mlX12_146 z_CF12 rfl rfl (by decide) rfl (Nat.le_of_ble_eq_true rfl) dX12_pot_15 ?_
      refine z_if_eq (tgt := 47) C dX12_pot_18 (by decide) (fun hc => ?_) (fun hc => ?_)
      · replace h := z_pos hc h
        refine z_kill (lo' := [none, none, none, none]) [0, 1, 2, 3] rfl ?_
        exact t12_pot_J47 C σ5 h
      · replace h := z_neg hc h
        refine z_aload_n C dX12_pot_21 rfl rfl ?_
        refine z_iload_n C dX12_pot_22 rfl rfl ?_
        refine z_iconst (v := 0) C dX12_pot_23 (by decide) ?_
        refine z_bipush (v := 9) C dX12_pot_24 (by decide) ?_
        obtain ⟨r6, σ7, mσ7, h⟩ := z_bnd2 h
        refine z_cvi (As := [.int p3, .int 0, .int 9]) (c := 0) (st := []) C (t12_isIn p3 0 9 mσ7) kvX12_isIn rfl mlX12_142 z_CF12 rfl rfl (by decide) rfl (Nat.le_of_ble_eq_true rfl) dX12_pot_26 ?_
        refine z_if_eq (tgt := 47) C dX12_pot_29 (by decide) (fun hc => ?_) (fun hc => ?_)
        · replace h := z_pos hc h
          refine z_kill (lo' := [none, none, none, none]) [0, 1, 2, 3] rfl ?_
          exact t12_pot_J47 C σ7 h
        · replace h := z_neg hc h
          refine z_aload_n C dX12_pot_32 rfl rfl ?_
          refine z_iconst (v := 0) C dX12_pot_33 (by decide) ?_
          refine z_iload_n C dX12_pot_34 rfl rfl ?_
          refine z_iload_n C dX12_pot_35 rfl rfl ?_
          refine z_iload_n C dX12_pot_36 rfl rfl ?_
          obtain ⟨r8, σ9, mσ9, h⟩ := z_bnd2 h
          refine z_cvi (As := [.int 0, .int p1, .int p2, .int p3]) (c := 0) (st := []) C (t12_acts 0 p1 p2 p3 mσ9) kvX12_acts rfl mlX12_364 z_CF12 rfl rfl (by decide) rfl (Nat.le_of_ble_eq_true rfl) dX12_pot_37 ?_
          refine z_if_eq (tgt := 47) C dX12_pot_40 (by decide) (fun hc => ?_) (fun hc => ?_)
          · replace h := z_pos hc h
            refine z_kill (lo' := [none, none, none, none]) [0, 1, 2, 3] rfl ?_
            exact t12_pot_J47 C σ9 h
          · replace h := z_neg hc h
            refine z_iconst (v := 1) C dX12_pot_43 (by decide) ?_
            refine z_goto (tgt := 48) C dX12_pot_44 (by decide) ?_
            exact z_zret C (by decide) h dX12_pot_48
set_option maxHeartbeats 4000000 in
set_option maxRecDepth 100000 in
theorem t12_water_J39 {X : z_Ct} (C : z_Cx S2 X RX12 cX12_water 3 5 (some .boolean)) {u : Int32 × z_M} (σ : z_M) (h : f12_water_J39 σ = some u) : z_W S2 X 39 [none, none, none] [] σ (z_oi u) := by
  unfold f12_water_J39 at h
  refine z_iconst (v := 0) C dX12_water_39 (by decide) ?_
  exact z_zret C (by decide) h dX12_water_40
set_option maxHeartbeats 4000000 in
set_option maxRecDepth 100000 in
theorem t12_water {a : Nat → Nat} (p1 : Int32) (p2 : Int32) {σ : z_M} {u : Int32 × z_M} (h : f12_water p1 p2 σ = some u) : z_Mt yX12_water (z_w yX12_water cX12_water 3 (some .boolean)) 5 S2 a σ [.ref (a 0), .int p1, .int p2] (z_oi u) := by
  refine z_head (lo := [some (.ref (a 0)), some (.int p1), some (.int p2)]) (by decide) (Nat.le_of_ble_eq_true rfl) ?_ rfl ?_
  · intro i v hv
    exact z_loe (vs := [.ref (a 0), .int p1, .int p2]) (n := 0) rfl (by simp [z_c1i, z_c1r]) i v hv
  · intro X hXa C
    subst hXa
    unfold f12_water at h
    refine z_aload_n C dX12_water_0 rfl rfl ?_
    refine z_iconst (v := 0) C dX12_water_1 (by decide) ?_
    obtain ⟨σ1, eσ1, h⟩ := z_let_some h
    refine z_puti (k := 0) C z_CF12 (by decide) flX12_113 rfl rfl rfl rfl eσ1 dX12_water_2 ?_
    refine z_aload_n C dX12_water_5 rfl rfl ?_
    refine z_iload_n C dX12_water_6 rfl rfl ?_
    obtain ⟨r2, σ3, mσ3, h⟩ := z_bnd2 h
    refine z_cvi (As := [.int p1]) (c := 0) (st := []) C (t12_isHouse p1 mσ3) kvX12_isHouse rfl mlX12_156 z_CF12 rfl rfl (by decide) rfl (Nat.le_of_ble_eq_true rfl) dX12_water_7 ?_
    refine z_if_eq (tgt := 39) C dX12_water_10 (by decide) (fun hc => ?_) (fun hc => ?_)
    · replace h := z_pos hc h
      refine z_kill (lo' := [none, none, none]) [0, 1, 2] rfl ?_
      exact t12_water_J39 C σ3 h
    · replace h := z_neg hc h
      refine z_aload_n C dX12_water_13 rfl rfl ?_
      refine z_iload_n C dX12_water_14 rfl rfl ?_
      refine z_iconst (v := 1) C dX12_water_15 (by decide) ?_
      refine z_bipush (v := 99) C dX12_water_16 (by decide) ?_
      obtain ⟨r4, σ5, mσ5, h⟩ := z_bnd2 h
      refine z_cvi (As := [.int p2, .int 1, .int 99]) (c := 0) (st := []) C (t12_isIn p2 1 99 mσ5) kvX12_isIn rfl mlX12_142 z_CF12 rfl rfl (by decide) rfl (Nat.le_of_ble_eq_true rfl) dX12_water_18 ?_
      refine z_if_eq (tgt := 39) C dX12_water_21 (by decide) (fun hc => ?_) (fun hc => ?_)
      · replace h := z_pos hc h
        refine z_kill (lo' := [none, none, none]) [0, 1, 2] rfl ?_
        exact t12_water_J39 C σ5 h
      · replace h := z_neg hc h
        refine z_aload_n C dX12_water_24 rfl rfl ?_
        refine z_iconst (v := 2) C dX12_water_25 (by decide) ?_
        refine z_iload_n C dX12_water_26 rfl rfl ?_
        refine z_iload_n C dX12_water_27 rfl rfl ?_
        refine z_iconst (v := 0) C dX12_water_28 (by decide) ?_
        obtain ⟨r6, σ7, mσ7, h⟩ := z_bnd2 h
        refine z_cvi (As := [.int 2, .int p1, .int p2, .int 0]) (c := 0) (st := []) C (t12_acts 2 p1 p2 0 mσ7) kvX12_acts rfl mlX12_364 z_CF12 rfl rfl (by decide) rfl (Nat.le_of_ble_eq_true rfl) dX12_water_29 ?_
        refine z_if_eq (tgt := 39) C dX12_water_32 (by decide) (fun hc => ?_) (fun hc => ?_)
        · replace h := z_pos hc h
          refine z_kill (lo' := [none, none, none]) [0, 1, 2] rfl ?_
          exact t12_water_J39 C σ7 h
        · replace h := z_neg hc h
          refine z_iconst (v := 1) C dX12_water_35 (by decide) ?_
          refine z_goto (tgt := 40) C dX12_water_36 (by decide) ?_
          exact z_zret C (by decide) h dX12_water_40
set_option maxHeartbeats 4000000 in
set_option maxRecDepth 100000 in
theorem t12_weed_J28 {X : z_Ct} (C : z_Cx S2 X RX12 cX12_weed 2 5 (some .boolean)) {u : Int32 × z_M} (σ : z_M) (h : f12_weed_J28 σ = some u) : z_W S2 X 28 [none, none] [] σ (z_oi u) := by
  unfold f12_weed_J28 at h
  refine z_iconst (v := 0) C dX12_weed_28 (by decide) ?_
  exact z_zret C (by decide) h dX12_weed_29
set_option maxHeartbeats 4000000 in
set_option maxRecDepth 100000 in
theorem t12_weed {a : Nat → Nat} (p1 : Int32) {σ : z_M} {u : Int32 × z_M} (h : f12_weed p1 σ = some u) : z_Mt yX12_weed (z_w yX12_weed cX12_weed 2 (some .boolean)) 5 S2 a σ [.ref (a 0), .int p1] (z_oi u) := by
  refine z_head (lo := [some (.ref (a 0)), some (.int p1)]) (by decide) (Nat.le_of_ble_eq_true rfl) ?_ rfl ?_
  · intro i v hv
    exact z_loe (vs := [.ref (a 0), .int p1]) (n := 0) rfl (by simp [z_c1i, z_c1r]) i v hv
  · intro X hXa C
    subst hXa
    unfold f12_weed at h
    refine z_aload_n C dX12_weed_0 rfl rfl ?_
    refine z_iconst (v := 0) C dX12_weed_1 (by decide) ?_
    obtain ⟨σ1, eσ1, h⟩ := z_let_some h
    refine z_puti (k := 0) C z_CF12 (by decide) flX12_113 rfl rfl rfl rfl eσ1 dX12_weed_2 ?_
    refine z_aload_n C dX12_weed_5 rfl rfl ?_
    refine z_iload_n C dX12_weed_6 rfl rfl ?_
    obtain ⟨r2, σ3, mσ3, h⟩ := z_bnd2 h
    refine z_cvi (As := [.int p1]) (c := 0) (st := []) C (t12_isHouse p1 mσ3) kvX12_isHouse rfl mlX12_156 z_CF12 rfl rfl (by decide) rfl (Nat.le_of_ble_eq_true rfl) dX12_weed_7 ?_
    refine z_if_eq (tgt := 28) C dX12_weed_10 (by decide) (fun hc => ?_) (fun hc => ?_)
    · replace h := z_pos hc h
      refine z_kill (lo' := [none, none]) [0, 1] rfl ?_
      exact t12_weed_J28 C σ3 h
    · replace h := z_neg hc h
      refine z_aload_n C dX12_weed_13 rfl rfl ?_
      refine z_iconst (v := 1) C dX12_weed_14 (by decide) ?_
      refine z_iload_n C dX12_weed_15 rfl rfl ?_
      refine z_iconst (v := 0) C dX12_weed_16 (by decide) ?_
      refine z_iconst (v := 0) C dX12_weed_17 (by decide) ?_
      obtain ⟨r4, σ5, mσ5, h⟩ := z_bnd2 h
      refine z_cvi (As := [.int 1, .int p1, .int 0, .int 0]) (c := 0) (st := []) C (t12_acts 1 p1 0 0 mσ5) kvX12_acts rfl mlX12_364 z_CF12 rfl rfl (by decide) rfl (Nat.le_of_ble_eq_true rfl) dX12_weed_18 ?_
      refine z_if_eq (tgt := 28) C dX12_weed_21 (by decide) (fun hc => ?_) (fun hc => ?_)
      · replace h := z_pos hc h
        refine z_kill (lo' := [none, none]) [0, 1] rfl ?_
        exact t12_weed_J28 C σ5 h
      · replace h := z_neg hc h
        refine z_iconst (v := 1) C dX12_weed_24 (by decide) ?_
        refine z_goto (tgt := 29) C dX12_weed_25 (by decide) ?_
        exact z_zret C (by decide) h dX12_weed_29
set_option maxHeartbeats 4000000 in
set_option maxRecDepth 100000 in
theorem t12_tell_J47 {X : z_Ct} (C : z_Cx S2 X RX12 cX12_tell 4 5 (some .boolean)) {u : Int32 × z_M} (σ : z_M) (h : f12_tell_J47 σ = some u) : z_W S2 X 47 [none, none, none, none] [] σ (z_oi u) := by
  unfold f12_tell_J47 at h
  refine z_iconst (v := 0) C dX12_tell_47 (by decide) ?_
  exact z_zret C (by decide) h dX12_tell_48
set_option maxHeartbeats 4000000 in
set_option maxRecDepth 100000 in
theorem t12_tell {a : Nat → Nat} (p1 : Int32) (p2 : Int32) (p3 : Int32) {σ : z_M} {u : Int32 × z_M} (h : f12_tell p1 p2 p3 σ = some u) : z_Mt yX12_tell (z_w yX12_tell cX12_tell 4 (some .boolean)) 5 S2 a σ [.ref (a 0), .int p1, .int p2, .int p3] (z_oi u) := by
  refine z_head (lo := [some (.ref (a 0)), some (.int p1), some (.int p2), some (.int p3)]) (by decide) (Nat.le_of_ble_eq_true rfl) ?_ rfl ?_
  · intro i v hv
    exact z_loe (vs := [.ref (a 0), .int p1, .int p2, .int p3]) (n := 0) rfl (by simp [z_c1i, z_c1r]) i v hv
  · intro X hXa C
    subst hXa
    unfold f12_tell at h
    refine z_aload_n C dX12_tell_0 rfl rfl ?_
    refine z_iconst (v := 0) C dX12_tell_1 (by decide) ?_
    obtain ⟨σ1, eσ1, h⟩ := z_let_some h
    refine z_puti (k := 0) C z_CF12 (by decide) flX12_113 rfl rfl rfl rfl eσ1 dX12_tell_2 ?_
    refine z_aload_n C dX12_tell_5 rfl rfl ?_
    refine z_iload_n C dX12_tell_6 rfl rfl ?_
    obtain ⟨r2, σ3, mσ3, h⟩ := z_bnd2 h
    refine z_cvi (As := [.int p1]) (c := 0) (st := []) C (t12_isHouse p1 mσ3) kvX12_isHouse rfl mlX12_156 z_CF12 rfl rfl (by decide) rfl (Nat.le_of_ble_eq_true rfl) dX12_tell_7 ?_
    refine z_if_eq (tgt := 47) C dX12_tell_10 (by decide) (fun hc => ?_) (fun hc => ?_)
    · replace h := z_pos hc h
      refine z_kill (lo' := [none, none, none, none]) [0, 1, 2, 3] rfl ?_
      exact t12_tell_J47 C σ3 h
    · replace h := z_neg hc h
      refine z_aload_n C dX12_tell_13 rfl rfl ?_
      refine z_iload_n C dX12_tell_14 rfl rfl ?_
      obtain ⟨r4, σ5, mσ5, h⟩ := z_bnd2 h
      refine z_cvi (As := [.int p2]) (c := 0) (st := []) C (t12_isThing p2 mσ5) kvX12_isThing rfl mlX12_146 z_CF12 rfl rfl (by decide) rfl (Nat.le_of_ble_eq_true rfl) dX12_tell_15 ?_
      refine z_if_eq (tgt := 47) C dX12_tell_18 (by decide) (fun hc => ?_) (fun hc => ?_)
      · replace h := z_pos hc h
        refine z_kill (lo' := [none, none, none, none]) [0, 1, 2, 3] rfl ?_
        exact t12_tell_J47 C σ5 h
      · replace h := z_neg hc h
        refine z_aload_n C dX12_tell_21 rfl rfl ?_
        refine z_iload_n C dX12_tell_22 rfl rfl ?_
        refine z_iconst (v := 0) C dX12_tell_23 (by decide) ?_
        refine z_bipush (v := 100) C dX12_tell_24 (by decide) ?_
        obtain ⟨r6, σ7, mσ7, h⟩ := z_bnd2 h
        refine z_cvi (As := [.int p3, .int 0, .int 100]) (c := 0) (st := []) C (t12_isIn p3 0 100 mσ7) kvX12_isIn rfl mlX12_142 z_CF12 rfl rfl (by decide) rfl (Nat.le_of_ble_eq_true rfl) dX12_tell_26 ?_
        refine z_if_eq (tgt := 47) C dX12_tell_29 (by decide) (fun hc => ?_) (fun hc => ?_)
        · replace h := z_pos hc h
          refine z_kill (lo' := [none, none, none, none]) [0, 1, 2, 3] rfl ?_
          exact t12_tell_J47 C σ7 h
        · replace h := z_neg hc h
          refine z_aload_n C dX12_tell_32 rfl rfl ?_
          refine z_iconst (v := 3) C dX12_tell_33 (by decide) ?_
          refine z_iload_n C dX12_tell_34 rfl rfl ?_
          refine z_iload_n C dX12_tell_35 rfl rfl ?_
          refine z_iload_n C dX12_tell_36 rfl rfl ?_
          obtain ⟨r8, σ9, mσ9, h⟩ := z_bnd2 h
          refine z_cvi (As := [.int 3, .int p1, .int p2, .int p3]) (c := 0) (st := []) C (t12_acts 3 p1 p2 p3 mσ9) kvX12_acts rfl mlX12_364 z_CF12 rfl rfl (by decide) rfl (Nat.le_of_ble_eq_true rfl) dX12_tell_37 ?_
          refine z_if_eq (tgt := 47) C dX12_tell_40 (by decide) (fun hc => ?_) (fun hc => ?_)
          · replace h := z_pos hc h
            refine z_kill (lo' := [none, none, none, none]) [0, 1, 2, 3] rfl ?_
            exact t12_tell_J47 C σ9 h
          · replace h := z_neg hc h
            refine z_iconst (v := 1) C dX12_tell_43 (by decide) ?_
            refine z_goto (tgt := 48) C dX12_tell_44 (by decide) ?_
            exact z_zret C (by decide) h dX12_tell_48
set_option maxHeartbeats 4000000 in
set_option maxRecDepth 100000 in
theorem t12_ofReason {a : Nat → Nat} (p1 : Int32) (p2 : Int32) {σ : z_M} {u : Int32 × z_M} (h : f12_ofReason p1 p2 σ = some u) : z_Mt yX12_ofReason (z_w yX12_ofReason cX12_ofReason 3 (some .int)) 1 S2 a σ [.ref (a 0), .int p1, .int p2] (z_oi u) := by
  refine z_head (lo := [some (.ref (a 0)), some (.int p1), some (.int p2)]) (by decide) (Nat.le_of_ble_eq_true rfl) ?_ rfl ?_
  · intro i v hv
    exact z_loe (vs := [.ref (a 0), .int p1, .int p2]) (n := 0) rfl (by simp [z_c1i, z_c1r]) i v hv
  · intro X hXa C
    subst hXa
    unfold f12_ofReason at h
    refine z_aload_n C dX12_ofReason_0 rfl rfl ?_
    refine z_geta (k := 37) (q := 17) C z_CF12 (by decide) flX12_62 rfl rfl dX12_ofReason_1 ?_
    refine z_iconst (v := 3) C dX12_ofReason_4 (by decide) ?_
    refine z_iload_n C dX12_ofReason_5 rfl rfl ?_
    refine z_imul C dX12_ofReason_6 ?_
    refine z_iload_n C dX12_ofReason_7 rfl rfl ?_
    refine z_iadd C dX12_ofReason_8 ?_
    obtain ⟨b1, h⟩ := z_chk_some h
    refine z_iald C rfl rfl b1 dX12_ofReason_9 ?_
    exact z_iret C h dX12_ofReason_10
set_option maxHeartbeats 4000000 in
set_option maxRecDepth 100000 in
theorem t12_reasonsAt_L2 {X : z_Ct} (C : z_Cx S2 X RX12 cX12_reasonsAt 4 3 none) {u : Unit × z_M} : ∀ (n : Nat) (v1 : Int32) (v2 : Int32) (σ : z_M), f12_reasonsAt_L2 n v1 v2 σ = some u → z_W S2 X 2 [some (.ref (z_a X 0)), some (.int v1), some (.int v2), none] [] σ (z_ov u) := by
  intro n
  induction n with
  | zero => intro v1 v2 σ h; rw [f12_reasonsAt_L2] at h; cases h
  | succ n ih =>
    intro v1 v2 σ h
    rw [f12_reasonsAt_L2] at h
    refine z_iload_n C dX12_reasonsAt_2 rfl rfl ?_
    refine z_aload_n C dX12_reasonsAt_3 rfl rfl ?_
    refine z_geti (k := 36) C z_CF12 (by decide) flX12_297 rfl rfl dX12_reasonsAt_4 ?_
    refine z_icmp_ge (tgt := 75) C dX12_reasonsAt_7 (by decide) (fun hc => ?_) (fun hc => ?_)
    · replace h := z_neg hc h
      exact z_vret C h dX12_reasonsAt_75
    · replace h := z_pos hc h
      refine z_aload_n C dX12_reasonsAt_10 rfl rfl ?_
      refine z_iload_n C dX12_reasonsAt_11 rfl rfl ?_
      refine z_iconst (v := 0) C dX12_reasonsAt_12 (by decide) ?_
      obtain ⟨r1, σ2, mσ2, h⟩ := z_bnd2 h
      refine z_cvi (As := [.int v2, .int 0]) (c := 0) (st := []) C (t12_ofReason v2 0 mσ2) kvX12_ofReason rfl mlX12_368 z_CF12 rfl rfl (by decide) rfl (Nat.le_of_ble_eq_true rfl) dX12_reasonsAt_13 ?_
      refine z_istore_n (lo' := [some (.ref (z_a X 0)), some (.int v1), some (.int v2), some (.int r1)]) C dX12_reasonsAt_16 rfl (Nat.le_of_ble_eq_true rfl) rfl ?_
      refine z_aload_n C dX12_reasonsAt_17 rfl rfl ?_
      refine z_iload_n C dX12_reasonsAt_18 rfl rfl ?_
      refine z_iconst (v := 2) C dX12_reasonsAt_19 (by decide) ?_
      obtain ⟨r3, σ4, mσ4, h⟩ := z_bnd2 h
      refine z_cvi (As := [.int v2, .int 2]) (c := 0) (st := []) C (t12_ofReason v2 2 mσ4) kvX12_ofReason rfl mlX12_368 z_CF12 rfl rfl (by decide) rfl (Nat.le_of_ble_eq_true rfl) dX12_reasonsAt_20 ?_
      refine z_if_le (tgt := 69) C dX12_reasonsAt_23 (by decide) (fun hc => ?_) (fun hc => ?_)
      · replace h := z_neg hc h
        refine z_iinc (v := v2 + 1) (lo' := [some (.ref (z_a X 0)), some (.int v1), some (.int (v2 + 1)), some (.int r1)]) C dX12_reasonsAt_69 rfl rfl rfl ?_
        refine z_goto (tgt := 2) C dX12_reasonsAt_72 (by decide) ?_
        refine z_kill (lo' := [some (.ref (z_a X 0)), some (.int v1), some (.int (v2 + 1)), none]) [3] rfl ?_
        exact ih v1 (v2 + 1) σ4 h
      · replace h := z_pos hc h
        refine z_aload_n C dX12_reasonsAt_26 rfl rfl ?_
        refine z_iload_n C dX12_reasonsAt_27 rfl rfl ?_
        refine z_iconst (v := 1) C dX12_reasonsAt_28 (by decide) ?_
        obtain ⟨r5, σ6, mσ6, h⟩ := z_bnd2 h
        refine z_cvi (As := [.int v2, .int 1]) (c := 0) (st := []) C (t12_ofReason v2 1 mσ6) kvX12_ofReason rfl mlX12_368 z_CF12 rfl rfl (by decide) rfl (Nat.le_of_ble_eq_true rfl) dX12_reasonsAt_29 ?_
        refine z_aload_n C dX12_reasonsAt_32 rfl rfl ?_
        refine z_iload_n C dX12_reasonsAt_33 rfl rfl ?_
        obtain ⟨r7, σ8, mσ8, h⟩ := z_bnd2 h
        refine z_cvi (As := [.int v1]) (c := 0) (st := [.int r5]) C (t12_suresOf v1 mσ8) kvX12_suresOf rfl mlX12_327 z_CF12 rfl rfl (by decide) rfl (Nat.le_of_ble_eq_true rfl) dX12_reasonsAt_34 ?_
        refine z_iconst (v := (-1)) C dX12_reasonsAt_37 (by decide) ?_
        refine z_ixor C dX12_reasonsAt_38 ?_
        refine z_iand C dX12_reasonsAt_39 ?_
        refine z_if_ne (tgt := 69) C dX12_reasonsAt_40 (by decide) (fun hc => ?_) (fun hc => ?_)
        · replace h := z_neg hc h
          refine z_iinc (v := v2 + 1) (lo' := [some (.ref (z_a X 0)), some (.int v1), some (.int (v2 + 1)), some (.int r1)]) C dX12_reasonsAt_69 rfl rfl rfl ?_
          refine z_goto (tgt := 2) C dX12_reasonsAt_72 (by decide) ?_
          refine z_kill (lo' := [some (.ref (z_a X 0)), some (.int v1), some (.int (v2 + 1)), none]) [3] rfl ?_
          exact ih v1 (v2 + 1) σ8 h
        · replace h := z_pos hc h
          refine z_aload_n C dX12_reasonsAt_43 rfl rfl ?_
          refine z_iload_n C dX12_reasonsAt_44 rfl rfl ?_
          refine z_iload_n C dX12_reasonsAt_45 rfl rfl ?_
          refine z_aload_n C dX12_reasonsAt_46 rfl rfl ?_
          refine z_aload_n C dX12_reasonsAt_47 rfl rfl ?_
          refine z_iload_n C dX12_reasonsAt_48 rfl rfl ?_
          refine z_iload_n C dX12_reasonsAt_49 rfl rfl ?_
          obtain ⟨r9, σ10, mσ10, h⟩ := z_bnd2 h
          refine z_cvi (As := [.int v1, .int r1]) (c := 0) (st := [.ref (z_a X 0), .int r1, .int v1, .ref (z_a X 0)]) C (t12_degreeOf v1 r1 mσ10) kvX12_degreeOf rfl mlX12_134 z_CF12 rfl rfl (by decide) rfl (Nat.le_of_ble_eq_true rfl) dX12_reasonsAt_50 ?_
          refine z_aload_n C dX12_reasonsAt_53 rfl rfl ?_
          refine z_iload_n C dX12_reasonsAt_54 rfl rfl ?_
          refine z_iconst (v := 2) C dX12_reasonsAt_55 (by decide) ?_
          obtain ⟨r11, σ12, mσ12, h⟩ := z_bnd2 h
          refine z_cvi (As := [.int v2, .int 2]) (c := 0) (st := [.int r9, .ref (z_a X 0), .int r1, .int v1, .ref (z_a X 0)]) C (t12_ofReason v2 2 mσ12) kvX12_ofReason rfl mlX12_368 z_CF12 rfl rfl (by decide) rfl (Nat.le_of_ble_eq_true rfl) dX12_reasonsAt_56 ?_
          refine z_iadd C dX12_reasonsAt_59 ?_
          refine z_iconst (v := 0) C dX12_reasonsAt_60 (by decide) ?_
          refine z_bipush (v := 100) C dX12_reasonsAt_61 (by decide) ?_
          obtain ⟨r13, σ14, mσ14, h⟩ := z_bnd2 h
          refine z_cvi (As := [.int (r9 + r11), .int 0, .int 100]) (c := 0) (st := [.int r1, .int v1, .ref (z_a X 0)]) C (t12_held (r9 + r11) 0 100 mσ14) kvX12_held rfl mlX12_336 z_CF12 rfl rfl (by decide) rfl (Nat.le_of_ble_eq_true rfl) dX12_reasonsAt_63 ?_
          obtain ⟨⟨⟩, σ16, mσ16, h⟩ := z_bnd2 h
          refine z_cvv (As := [.int v1, .int r1, .int r13]) (c := 0) (st := []) C (t12_degreeBe v1 r1 r13 mσ16) kvX12_degreeBe rfl mlX12_138 z_CF12 rfl rfl (by decide) rfl (Nat.le_of_ble_eq_true rfl) dX12_reasonsAt_66 ?_
          refine z_iinc (v := v2 + 1) (lo' := [some (.ref (z_a X 0)), some (.int v1), some (.int (v2 + 1)), some (.int r1)]) C dX12_reasonsAt_69 rfl rfl rfl ?_
          refine z_goto (tgt := 2) C dX12_reasonsAt_72 (by decide) ?_
          refine z_kill (lo' := [some (.ref (z_a X 0)), some (.int v1), some (.int (v2 + 1)), none]) [3] rfl ?_
          exact ih v1 (v2 + 1) σ16 h
set_option maxHeartbeats 4000000 in
set_option maxRecDepth 100000 in
theorem t12_reasonsAt {a : Nat → Nat} (p1 : Int32) {σ : z_M} {u : Unit × z_M} (h : f12_reasonsAt p1 σ = some u) : z_Mt yX12_reasonsAt (z_w yX12_reasonsAt cX12_reasonsAt 4 none) 3 S2 a σ [.ref (a 0), .int p1] (z_ov u) := by
  refine z_head (lo := [some (.ref (a 0)), some (.int p1), none, none]) (by decide) (Nat.le_of_ble_eq_true rfl) ?_ rfl ?_
  · intro i v hv
    exact z_loe (vs := [.ref (a 0), .int p1]) (n := 2) rfl (by simp [z_c1i, z_c1r]) i v hv
  · intro X hXa C
    subst hXa
    unfold f12_reasonsAt at h
    refine z_iconst (v := 0) C dX12_reasonsAt_0 (by decide) ?_
    refine z_istore_n (lo' := [some (.ref (z_a X 0)), some (.int p1), some (.int 0), none]) C dX12_reasonsAt_1 rfl (Nat.le_of_ble_eq_true rfl) rfl ?_
    exact t12_reasonsAt_L2 C _ p1 0 σ h
set_option maxHeartbeats 4000000 in
set_option maxRecDepth 100000 in
theorem t12_grows {a : Nat → Nat} (p1 : Int32) {σ : z_M} {u : Unit × z_M} (h : f12_grows p1 σ = some u) : z_Mt yX12_grows (z_w yX12_grows cX12_grows 5 none) 6 S2 a σ [.ref (a 0), .int p1] (z_ov u) := by
  refine z_head (lo := [some (.ref (a 0)), some (.int p1), none, none, none]) (by decide) (Nat.le_of_ble_eq_true rfl) ?_ rfl ?_
  · intro i v hv
    exact z_loe (vs := [.ref (a 0), .int p1]) (n := 3) rfl (by simp [z_c1i, z_c1r]) i v hv
  · intro X hXa C
    subst hXa
    unfold f12_grows at h
    refine z_aload_n C dX12_grows_0 rfl rfl ?_
    refine z_iload_n C dX12_grows_1 rfl rfl ?_
    obtain ⟨⟨⟩, σ2, mσ2, h⟩ := z_bnd2 h
    refine z_cvv (As := [.int p1]) (c := 0) (st := []) C (t12_asks p1 mσ2) kvX12_asks rfl mlX12_371 z_CF12 rfl rfl (by decide) rfl (Nat.le_of_ble_eq_true rfl) dX12_grows_2 ?_
    refine z_aload_n C dX12_grows_5 rfl rfl ?_
    obtain ⟨r3, σ4, mσ4, h⟩ := z_bnd2 h
    refine z_cvi (As := []) (c := 0) (st := []) C (t12_lowerAsked mσ4) kvX12_lowerAsked rfl mlX12_374 z_CF12 rfl rfl (by decide) rfl (Nat.le_of_ble_eq_true rfl) dX12_grows_6 ?_
    refine z_istore_n (lo' := [some (.ref (z_a X 0)), some (.int p1), some (.int r3), none, none]) C dX12_grows_9 rfl (Nat.le_of_ble_eq_true rfl) rfl ?_
    refine z_aload_n C dX12_grows_10 rfl rfl ?_
    obtain ⟨r5, σ6, mσ6, h⟩ := z_bnd2 h
    refine z_cvi (As := []) (c := 0) (st := []) C (t12_growAsked mσ6) kvX12_growAsked rfl mlX12_377 z_CF12 rfl rfl (by decide) rfl (Nat.le_of_ble_eq_true rfl) dX12_grows_11 ?_
    refine z_istore_n (lo' := [some (.ref (z_a X 0)), some (.int p1), some (.int r3), some (.int r5), none]) C dX12_grows_14 rfl (Nat.le_of_ble_eq_true rfl) rfl ?_
    refine z_aload_n C dX12_grows_15 rfl rfl ?_
    refine z_iload_n C dX12_grows_16 rfl rfl ?_
    obtain ⟨r7, σ8, mσ8, h⟩ := z_bnd2 h
    refine z_cvi (As := [.int p1]) (c := 0) (st := []) C (t12_potOf p1 mσ8) kvX12_potOf rfl mlX12_324 z_CF12 rfl rfl (by decide) rfl (Nat.le_of_ble_eq_true rfl) dX12_grows_17 ?_
    refine z_istore (lo' := [some (.ref (z_a X 0)), some (.int p1), some (.int r3), some (.int r5), some (.int r7)]) C dX12_grows_20 (Nat.le_of_ble_eq_true rfl) rfl ?_
    refine z_aload_n C dX12_grows_22 rfl rfl ?_
    refine z_iload_n C dX12_grows_23 rfl rfl ?_
    refine z_iload C dX12_grows_24 rfl ?_
    refine z_aload_n C dX12_grows_26 rfl rfl ?_
    refine z_iconst (v := 0) C dX12_grows_27 (by decide) ?_
    refine z_aload_n C dX12_grows_28 rfl rfl ?_
    refine z_iload_n C dX12_grows_29 rfl rfl ?_
    refine z_iload C dX12_grows_30 rfl ?_
    obtain ⟨r9, σ10, mσ10, h⟩ := z_bnd2 h
    refine z_cvi (As := [.int p1, .int r7]) (c := 0) (st := [.int 0, .ref (z_a X 0), .int r7, .int p1, .ref (z_a X 0)]) C (t12_degreeOf p1 r7 mσ10) kvX12_degreeOf rfl mlX12_134 z_CF12 rfl rfl (by decide) rfl (Nat.le_of_ble_eq_true rfl) dX12_grows_32 ?_
    refine z_iload_n C dX12_grows_35 rfl rfl ?_
    refine z_isub C dX12_grows_36 ?_
    obtain ⟨r11, σ12, mσ12, h⟩ := z_bnd2 h
    refine z_cvi (As := [.int 0, .int (r9 - r3)]) (c := 0) (st := [.int r7, .int p1, .ref (z_a X 0)]) C (t12_greater 0 (r9 - r3) mσ12) kvX12_greater rfl mlX12_380 z_CF12 rfl rfl (by decide) rfl (Nat.le_of_ble_eq_true rfl) dX12_grows_37 ?_
    obtain ⟨⟨⟩, σ14, mσ14, h⟩ := z_bnd2 h
    refine z_cvv (As := [.int p1, .int r7, .int r11]) (c := 0) (st := []) C (t12_degreeBe p1 r7 r11 mσ14) kvX12_degreeBe rfl mlX12_138 z_CF12 rfl rfl (by decide) rfl (Nat.le_of_ble_eq_true rfl) dX12_grows_40 ?_
    refine z_aload_n C dX12_grows_43 rfl rfl ?_
    refine z_geta (k := 1) (q := 1) C z_CF12 (by decide) flX12_7 rfl rfl dX12_grows_44 ?_
    refine z_bipush (v := 76) C dX12_grows_47 (by decide) ?_
    refine z_iload_n C dX12_grows_49 rfl rfl ?_
    refine z_iadd C dX12_grows_50 ?_
    refine z_aload_n C dX12_grows_51 rfl rfl ?_
    refine z_aload_n C dX12_grows_52 rfl rfl ?_
    refine z_geta (k := 1) (q := 1) C z_CF12 (by decide) flX12_7 rfl rfl dX12_grows_53 ?_
    refine z_bipush (v := 76) C dX12_grows_56 (by decide) ?_
    refine z_iload_n C dX12_grows_58 rfl rfl ?_
    refine z_iadd C dX12_grows_59 ?_
    obtain ⟨b15, h⟩ := z_chk_some h
    refine z_iald C rfl rfl b15 dX12_grows_60 ?_
    refine z_iload_n C dX12_grows_61 rfl rfl ?_
    refine z_iadd C dX12_grows_62 ?_
    refine z_bipush (v := (-99)) C dX12_grows_63 (by decide) ?_
    refine z_bipush (v := 99) C dX12_grows_65 (by decide) ?_
    obtain ⟨r16, σ17, mσ17, h⟩ := z_bnd2 h
    refine z_cvi (As := [.int ((σ14 1 (z_ix (76 + p1))) + r5), .int (-99), .int 99]) (c := 0) (st := [.int (76 + p1), .ref (z_a X 1)]) C (t12_held ((σ14 1 (z_ix (76 + p1))) + r5) (-99) 99 mσ17) kvX12_held rfl mlX12_336 z_CF12 rfl rfl (by decide) rfl (Nat.le_of_ble_eq_true rfl) dX12_grows_67 ?_
    obtain ⟨b18, h⟩ := z_chk_some h
    obtain ⟨σ19, eσ19, h⟩ := z_let_some h
    refine z_iast C rfl rfl b18 eσ19 dX12_grows_70 ?_
    refine z_aload_n C dX12_grows_71 rfl rfl ?_
    refine z_geta (k := 1) (q := 1) C z_CF12 (by decide) flX12_7 rfl rfl dX12_grows_72 ?_
    refine z_bipush (v := 92) C dX12_grows_75 (by decide) ?_
    refine z_iload_n C dX12_grows_77 rfl rfl ?_
    refine z_iadd C dX12_grows_78 ?_
    refine z_iconst (v := 0) C dX12_grows_79 (by decide) ?_
    obtain ⟨b20, h⟩ := z_chk_some h
    obtain ⟨σ21, eσ21, h⟩ := z_let_some h
    refine z_iast C rfl rfl b20 eσ21 dX12_grows_80 ?_
    refine z_aload_n C dX12_grows_81 rfl rfl ?_
    refine z_geta (k := 1) (q := 1) C z_CF12 (by decide) flX12_7 rfl rfl dX12_grows_82 ?_
    refine z_bipush (v := 76) C dX12_grows_85 (by decide) ?_
    refine z_iload_n C dX12_grows_87 rfl rfl ?_
    refine z_iadd C dX12_grows_88 ?_
    obtain ⟨b22, h⟩ := z_chk_some h
    refine z_iald C rfl rfl b22 dX12_grows_89 ?_
    refine z_iconst (v := 1) C dX12_grows_90 (by decide) ?_
    refine z_icmp_ge (tgt := 100) C dX12_grows_91 (by decide) (fun hc => ?_) (fun hc => ?_)
    · replace h := z_neg hc h
      exact z_vret C h dX12_grows_100
    · replace h := z_pos hc h
      refine z_aload_n C dX12_grows_94 rfl rfl ?_
      refine z_iload_n C dX12_grows_95 rfl rfl ?_
      refine z_iconst (v := 2) C dX12_grows_96 (by decide) ?_
      obtain ⟨⟨⟩, σ24, mσ24, h⟩ := z_bnd2 h
      refine z_cvv (As := [.int p1, .int 2]) (c := 0) (st := []) C (t12_loses p1 2 mσ24) kvX12_loses rfl mlX12_350 z_CF12 rfl rfl (by decide) rfl (Nat.le_of_ble_eq_true rfl) dX12_grows_97 ?_
      exact z_vret C h dX12_grows_100
set_option maxHeartbeats 4000000 in
set_option maxRecDepth 100000 in
theorem t12_freezes_L31 {X : z_Ct} (C : z_Cx S2 X RX12 cX12_freezes 2 3 none) {u : Unit × z_M} : ∀ (n : Nat) (v1 : Int32) (σ : z_M), f12_freezes_L31 n v1 σ = some u → z_W S2 X 31 [some (.ref (z_a X 0)), some (.int v1)] [] σ (z_ov u) := by
  intro n
  induction n with
  | zero => intro v1 σ h; rw [f12_freezes_L31] at h; cases h
  | succ n ih =>
    intro v1 σ h
    rw [f12_freezes_L31] at h
    refine z_iload_n C dX12_freezes_31 rfl rfl ?_
    refine z_aload_n C dX12_freezes_32 rfl rfl ?_
    refine z_geti (k := 6) C z_CF12 (by decide) flX12_131 rfl rfl dX12_freezes_33 ?_
    refine z_icmp_ge (tgt := 78) C dX12_freezes_36 (by decide) (fun hc => ?_) (fun hc => ?_)
    · replace h := z_neg hc h
      exact z_vret C h dX12_freezes_78
    · replace h := z_pos hc h
      refine z_aload_n C dX12_freezes_39 rfl rfl ?_
      refine z_iload_n C dX12_freezes_40 rfl rfl ?_
      obtain ⟨r1, σ2, mσ2, h⟩ := z_bnd2 h
      refine z_cvi (As := [.int v1]) (c := 0) (st := []) C (t12_potOf v1 mσ2) kvX12_potOf rfl mlX12_324 z_CF12 rfl rfl (by decide) rfl (Nat.le_of_ble_eq_true rfl) dX12_freezes_41 ?_
      refine z_iconst (v := (-1)) C dX12_freezes_44 (by decide) ?_
      refine z_icmp_eq (tgt := 72) C dX12_freezes_45 (by decide) (fun hc => ?_) (fun hc => ?_)
      · replace h := z_pos hc h
        refine z_iinc (v := v1 + 1) (lo' := [some (.ref (z_a X 0)), some (.int (v1 + 1))]) C dX12_freezes_72 rfl rfl rfl ?_
        refine z_goto (tgt := 31) C dX12_freezes_75 (by decide) ?_
        exact ih (v1 + 1) σ2 h
      · replace h := z_neg hc h
        refine z_aload_n C dX12_freezes_48 rfl rfl ?_
        refine z_bipush (v := 10) C dX12_freezes_49 (by decide) ?_
        obtain ⟨r3, σ4, mσ4, h⟩ := z_bnd2 h
        refine z_cvi (As := [.int 10]) (c := 0) (st := []) C (t12_draw 10 mσ4) kvX12_draw rfl mlX12_383 z_CF12 rfl rfl (by decide) rfl (Nat.le_of_ble_eq_true rfl) dX12_freezes_51 ?_
        refine z_aload_n C dX12_freezes_54 rfl rfl ?_
        refine z_geta (k := 1) (q := 1) C z_CF12 (by decide) flX12_7 rfl rfl dX12_freezes_55 ?_
        refine z_bipush (v := 84) C dX12_freezes_58 (by decide) ?_
        refine z_iload_n C dX12_freezes_60 rfl rfl ?_
        refine z_iadd C dX12_freezes_61 ?_
        obtain ⟨b5, h⟩ := z_chk_some h
        refine z_iald C rfl rfl b5 dX12_freezes_62 ?_
        refine z_icmp_ge (tgt := 72) C dX12_freezes_63 (by decide) (fun hc => ?_) (fun hc => ?_)
        · replace h := z_neg hc h
          refine z_iinc (v := v1 + 1) (lo' := [some (.ref (z_a X 0)), some (.int (v1 + 1))]) C dX12_freezes_72 rfl rfl rfl ?_
          refine z_goto (tgt := 31) C dX12_freezes_75 (by decide) ?_
          exact ih (v1 + 1) σ4 h
        · replace h := z_pos hc h
          refine z_aload_n C dX12_freezes_66 rfl rfl ?_
          refine z_iload_n C dX12_freezes_67 rfl rfl ?_
          refine z_iconst (v := 3) C dX12_freezes_68 (by decide) ?_
          obtain ⟨⟨⟩, σ7, mσ7, h⟩ := z_bnd2 h
          refine z_cvv (As := [.int v1, .int 3]) (c := 0) (st := []) C (t12_loses v1 3 mσ7) kvX12_loses rfl mlX12_350 z_CF12 rfl rfl (by decide) rfl (Nat.le_of_ble_eq_true rfl) dX12_freezes_69 ?_
          refine z_iinc (v := v1 + 1) (lo' := [some (.ref (z_a X 0)), some (.int (v1 + 1))]) C dX12_freezes_72 rfl rfl rfl ?_
          refine z_goto (tgt := 31) C dX12_freezes_75 (by decide) ?_
          exact ih (v1 + 1) σ7 h
set_option maxHeartbeats 4000000 in
set_option maxRecDepth 100000 in
theorem t12_freezes {a : Nat → Nat} {σ : z_M} {u : Unit × z_M} (h : f12_freezes σ = some u) : z_Mt yX12_freezes (z_w yX12_freezes cX12_freezes 2 none) 3 S2 a σ [.ref (a 0)] (z_ov u) := by
  refine z_head (lo := [some (.ref (a 0)), none]) (by decide) (Nat.le_of_ble_eq_true rfl) ?_ rfl ?_
  · intro i v hv
    exact z_loe (vs := [.ref (a 0)]) (n := 1) rfl (by simp [z_c1i, z_c1r]) i v hv
  · intro X hXa C
    subst hXa
    unfold f12_freezes at h
    refine z_aload_n C dX12_freezes_0 rfl rfl ?_
    refine z_geti (k := 5) C z_CF12 (by decide) flX12_119 rfl rfl dX12_freezes_1 ?_
    refine z_if_ne (tgt := 28) C dX12_freezes_4 (by decide) (fun hc => ?_) (fun hc => ?_)
    · replace h := z_neg hc h
      exact z_vret C h dX12_freezes_28
    · replace h := z_pos hc h
      refine z_aload_n C dX12_freezes_7 rfl rfl ?_
      refine z_geti (k := 8) C z_CF12 (by decide) flX12_150 rfl rfl dX12_freezes_8 ?_
      refine z_if_eq (tgt := 28) C dX12_freezes_11 (by decide) (fun hc => ?_) (fun hc => ?_)
      · replace h := z_pos hc h
        exact z_vret C h dX12_freezes_28
      · replace h := z_neg hc h
        refine z_aload_n C dX12_freezes_14 rfl rfl ?_
        refine z_sipush (v := 1000) C dX12_freezes_15 (by decide) ?_
        obtain ⟨r1, σ2, mσ2, h⟩ := z_bnd2 h
        refine z_cvi (As := [.int 1000]) (c := 0) (st := []) C (t12_draw 1000 mσ2) kvX12_draw rfl mlX12_383 z_CF12 rfl rfl (by decide) rfl (Nat.le_of_ble_eq_true rfl) dX12_freezes_18 ?_
        refine z_aload_n C dX12_freezes_21 rfl rfl ?_
        refine z_geti (k := 8) C z_CF12 (by decide) flX12_150 rfl rfl dX12_freezes_22 ?_
        refine z_icmp_lt (tgt := 29) C dX12_freezes_25 (by decide) (fun hc => ?_) (fun hc => ?_)
        · replace h := z_pos hc h
          refine z_iconst (v := 0) C dX12_freezes_29 (by decide) ?_
          refine z_istore_n (lo' := [some (.ref (z_a X 0)), some (.int 0)]) C dX12_freezes_30 rfl (Nat.le_of_ble_eq_true rfl) rfl ?_
          exact t12_freezes_L31 C _ 0 σ2 h
        · replace h := z_neg hc h
          exact z_vret C h dX12_freezes_28
set_option maxHeartbeats 4000000 in
set_option maxRecDepth 100000 in
theorem t12_emptyBy_L2 {X : z_Ct} (C : z_Cx S2 X RX12 cX12_emptyBy 3 2 (some .int)) {u : Int32 × z_M} : ∀ (n : Nat) (v1 : Int32) (v2 : Int32) (σ : z_M), f12_emptyBy_L2 n v1 v2 σ = some u → z_W S2 X 2 [some (.ref (z_a X 0)), some (.int v1), some (.int v2)] [] σ (z_oi u) := by
  intro n
  induction n with
  | zero => intro v1 v2 σ h; rw [f12_emptyBy_L2] at h; cases h
  | succ n ih =>
    intro v1 v2 σ h
    rw [f12_emptyBy_L2] at h
    refine z_iload_n C dX12_emptyBy_2 rfl rfl ?_
    refine z_aload_n C dX12_emptyBy_3 rfl rfl ?_
    refine z_geti (k := 6) C z_CF12 (by decide) flX12_131 rfl rfl dX12_emptyBy_4 ?_
    refine z_icmp_ge (tgt := 41) C dX12_emptyBy_7 (by decide) (fun hc => ?_) (fun hc => ?_)
    · replace h := z_neg hc h
      refine z_iconst (v := (-1)) C dX12_emptyBy_41 (by decide) ?_
      exact z_iret C h dX12_emptyBy_42
    · replace h := z_pos hc h
      refine z_aload_n C dX12_emptyBy_10 rfl rfl ?_
      refine z_geta (k := 11) (q := 5) C z_CF12 (by decide) flX12_22 rfl rfl dX12_emptyBy_11 ?_
      refine z_iload_n C dX12_emptyBy_14 rfl rfl ?_
      obtain ⟨b1, h⟩ := z_chk_some h
      refine z_iald C rfl rfl b1 dX12_emptyBy_15 ?_
      refine z_iload_n C dX12_emptyBy_16 rfl rfl ?_
      refine z_ishr C dX12_emptyBy_17 ?_
      refine z_iconst (v := 1) C dX12_emptyBy_18 (by decide) ?_
      refine z_iand C dX12_emptyBy_19 ?_
      refine z_iconst (v := 1) C dX12_emptyBy_20 (by decide) ?_
      refine z_icmp_ne (tgt := 35) C dX12_emptyBy_21 (by decide) (fun hc => ?_) (fun hc => ?_)
      · replace h := z_neg hc h
        refine z_iinc (v := v2 + 1) (lo' := [some (.ref (z_a X 0)), some (.int v1), some (.int (v2 + 1))]) C dX12_emptyBy_35 rfl rfl rfl ?_
        refine z_goto (tgt := 2) C dX12_emptyBy_38 (by decide) ?_
        exact ih v1 (v2 + 1) σ h
      · replace h := z_pos hc h
        refine z_aload_n C dX12_emptyBy_24 rfl rfl ?_
        refine z_iload_n C dX12_emptyBy_25 rfl rfl ?_
        obtain ⟨r2, σ3, mσ3, h⟩ := z_bnd2 h
        refine z_cvi (As := [.int v2]) (c := 0) (st := []) C (t12_potOf v2 mσ3) kvX12_potOf rfl mlX12_324 z_CF12 rfl rfl (by decide) rfl (Nat.le_of_ble_eq_true rfl) dX12_emptyBy_26 ?_
        refine z_iconst (v := (-1)) C dX12_emptyBy_29 (by decide) ?_
        refine z_icmp_ne (tgt := 35) C dX12_emptyBy_30 (by decide) (fun hc => ?_) (fun hc => ?_)
        · replace h := z_neg hc h
          refine z_iinc (v := v2 + 1) (lo' := [some (.ref (z_a X 0)), some (.int v1), some (.int (v2 + 1))]) C dX12_emptyBy_35 rfl rfl rfl ?_
          refine z_goto (tgt := 2) C dX12_emptyBy_38 (by decide) ?_
          exact ih v1 (v2 + 1) σ3 h
        · replace h := z_pos hc h
          refine z_iload_n C dX12_emptyBy_33 rfl rfl ?_
          exact z_iret C h dX12_emptyBy_34
set_option maxHeartbeats 4000000 in
set_option maxRecDepth 100000 in
theorem t12_emptyBy {a : Nat → Nat} (p1 : Int32) {σ : z_M} {u : Int32 × z_M} (h : f12_emptyBy p1 σ = some u) : z_Mt yX12_emptyBy (z_w yX12_emptyBy cX12_emptyBy 3 (some .int)) 2 S2 a σ [.ref (a 0), .int p1] (z_oi u) := by
  refine z_head (lo := [some (.ref (a 0)), some (.int p1), none]) (by decide) (Nat.le_of_ble_eq_true rfl) ?_ rfl ?_
  · intro i v hv
    exact z_loe (vs := [.ref (a 0), .int p1]) (n := 1) rfl (by simp [z_c1i, z_c1r]) i v hv
  · intro X hXa C
    subst hXa
    unfold f12_emptyBy at h
    refine z_iconst (v := 0) C dX12_emptyBy_0 (by decide) ?_
    refine z_istore_n (lo' := [some (.ref (z_a X 0)), some (.int p1), some (.int 0)]) C dX12_emptyBy_1 rfl (Nat.le_of_ble_eq_true rfl) rfl ?_
    exact t12_emptyBy_L2 C _ p1 0 σ h
set_option maxHeartbeats 4000000 in
set_option maxRecDepth 100000 in
theorem t12_swarms {a : Nat → Nat} (p1 : Int32) {σ : z_M} {u : Unit × z_M} (h : f12_swarms p1 σ = some u) : z_Mt yX12_swarms (z_w yX12_swarms cX12_swarms 4 none) 6 S2 a σ [.ref (a 0), .int p1] (z_ov u) := by
  refine z_head (lo := [some (.ref (a 0)), some (.int p1), none, none]) (by decide) (Nat.le_of_ble_eq_true rfl) ?_ rfl ?_
  · intro i v hv
    exact z_loe (vs := [.ref (a 0), .int p1]) (n := 2) rfl (by simp [z_c1i, z_c1r]) i v hv
  · intro X hXa C
    subst hXa
    unfold f12_swarms at h
    refine z_aload_n C dX12_swarms_0 rfl rfl ?_
    refine z_sipush (v := 1000) C dX12_swarms_1 (by decide) ?_
    obtain ⟨r1, σ2, mσ2, h⟩ := z_bnd2 h
    refine z_cvi (As := [.int 1000]) (c := 0) (st := []) C (t12_draw 1000 mσ2) kvX12_draw rfl mlX12_383 z_CF12 rfl rfl (by decide) rfl (Nat.le_of_ble_eq_true rfl) dX12_swarms_4 ?_
    refine z_aload_n C dX12_swarms_7 rfl rfl ?_
    refine z_geti (k := 9) C z_CF12 (by decide) flX12_153 rfl rfl dX12_swarms_8 ?_
    refine z_icmp_lt (tgt := 15) C dX12_swarms_11 (by decide) (fun hc => ?_) (fun hc => ?_)
    · replace h := z_pos hc h
      refine z_aload_n C dX12_swarms_15 rfl rfl ?_
      refine z_iload_n C dX12_swarms_16 rfl rfl ?_
      obtain ⟨r3, σ4, mσ4, h⟩ := z_bnd2 h
      refine z_cvi (As := [.int p1]) (c := 0) (st := []) C (t12_emptyBy p1 mσ4) kvX12_emptyBy rfl mlX12_386 z_CF12 rfl rfl (by decide) rfl (Nat.le_of_ble_eq_true rfl) dX12_swarms_17 ?_
      refine z_istore_n (lo' := [some (.ref (z_a X 0)), some (.int p1), some (.int r3), none]) C dX12_swarms_20 rfl (Nat.le_of_ble_eq_true rfl) rfl ?_
      refine z_aload_n C dX12_swarms_21 rfl rfl ?_
      refine z_iload_n C dX12_swarms_22 rfl rfl ?_
      obtain ⟨⟨⟩, σ6, mσ6, h⟩ := z_bnd2 h
      refine z_cvv (As := [.int p1]) (c := 0) (st := []) C (t12_asks p1 mσ6) kvX12_asks rfl mlX12_371 z_CF12 rfl rfl (by decide) rfl (Nat.le_of_ble_eq_true rfl) dX12_swarms_23 ?_
      refine z_aload_n C dX12_swarms_26 rfl rfl ?_
      obtain ⟨r7, σ8, mσ8, h⟩ := z_bnd2 h
      refine z_cvi (As := []) (c := 0) (st := []) C (t12_seedAsked mσ8) kvX12_seedAsked rfl mlX12_389 z_CF12 rfl rfl (by decide) rfl (Nat.le_of_ble_eq_true rfl) dX12_swarms_27 ?_
      refine z_istore_n (lo' := [some (.ref (z_a X 0)), some (.int p1), some (.int r3), some (.int r7)]) C dX12_swarms_30 rfl (Nat.le_of_ble_eq_true rfl) rfl ?_
      refine z_iload_n C dX12_swarms_31 rfl rfl ?_
      refine z_iconst (v := (-1)) C dX12_swarms_32 (by decide) ?_
      refine z_icmp_eq (tgt := 61) C dX12_swarms_33 (by decide) (fun hc => ?_) (fun hc => ?_)
      · replace h := z_pos hc h
        exact z_vret C h dX12_swarms_61
      · replace h := z_neg hc h
        refine z_iload_n C dX12_swarms_36 rfl rfl ?_
        refine z_if_le (tgt := 61) C dX12_swarms_37 (by decide) (fun hc => ?_) (fun hc => ?_)
        · replace h := z_neg hc h
          exact z_vret C h dX12_swarms_61
        · replace h := z_pos hc h
          refine z_aload_n C dX12_swarms_40 rfl rfl ?_
          refine z_iload_n C dX12_swarms_41 rfl rfl ?_
          refine z_aload_n C dX12_swarms_42 rfl rfl ?_
          refine z_iload_n C dX12_swarms_43 rfl rfl ?_
          obtain ⟨r9, σ10, mσ10, h⟩ := z_bnd2 h
          refine z_cvi (As := [.int p1]) (c := 0) (st := [.int r3, .ref (z_a X 0)]) C (t12_potOf p1 mσ10) kvX12_potOf rfl mlX12_324 z_CF12 rfl rfl (by decide) rfl (Nat.le_of_ble_eq_true rfl) dX12_swarms_44 ?_
          refine z_iload_n C dX12_swarms_47 rfl rfl ?_
          refine z_aload_n C dX12_swarms_48 rfl rfl ?_
          refine z_geta (k := 1) (q := 1) C z_CF12 (by decide) flX12_7 rfl rfl dX12_swarms_49 ?_
          refine z_bipush (v := 84) C dX12_swarms_52 (by decide) ?_
          refine z_iload_n C dX12_swarms_54 rfl rfl ?_
          refine z_iadd C dX12_swarms_55 ?_
          obtain ⟨b11, h⟩ := z_chk_some h
          refine z_iald C rfl rfl b11 dX12_swarms_56 ?_
          refine z_iconst (v := 4) C dX12_swarms_57 (by decide) ?_
          obtain ⟨⟨⟩, σ13, mσ13, h⟩ := z_bnd2 h
          refine z_cvv (As := [.int r3, .int r9, .int r7, .int (σ10 1 (z_ix (84 + p1))), .int 4]) (c := 0) (st := []) C (t12_pots r3 r9 r7 (σ10 1 (z_ix (84 + p1))) 4 mσ13) kvX12_pots rfl mlX12_346 z_CF12 rfl rfl (by decide) rfl (Nat.le_of_ble_eq_true rfl) dX12_swarms_58 ?_
          exact z_vret C h dX12_swarms_61
    · replace h := z_neg hc h
      exact z_vret C h dX12_swarms_14
set_option maxHeartbeats 4000000 in
set_option maxRecDepth 100000 in
theorem t12_carriesOn_L64 {X : z_Ct} (C : z_Cx S2 X RX12 cX12_carriesOn 3 7 none) {u : Unit × z_M} : ∀ (n : Nat) (v1 : Int32) (v2 : Int32) (σ : z_M), f12_carriesOn_L64 n v1 v2 σ = some u → z_W S2 X 64 [some (.ref (z_a X 0)), some (.int v1), some (.int v2)] [] σ (z_ov u) := by
  intro n
  induction n with
  | zero => intro v1 v2 σ h; rw [f12_carriesOn_L64] at h; cases h
  | succ n ih =>
    intro v1 v2 σ h
    rw [f12_carriesOn_L64] at h
    refine z_iload_n C dX12_carriesOn_64 rfl rfl ?_
    refine z_aload_n C dX12_carriesOn_65 rfl rfl ?_
    refine z_geti (k := 6) C z_CF12 (by decide) flX12_131 rfl rfl dX12_carriesOn_66 ?_
    refine z_icmp_ge (tgt := 92) C dX12_carriesOn_69 (by decide) (fun hc => ?_) (fun hc => ?_)
    · replace h := z_neg hc h
      exact z_vret C h dX12_carriesOn_92
    · replace h := z_pos hc h
      refine z_iload_n C dX12_carriesOn_72 rfl rfl ?_
      refine z_iload_n C dX12_carriesOn_73 rfl rfl ?_
      refine z_ishr C dX12_carriesOn_74 ?_
      refine z_iconst (v := 1) C dX12_carriesOn_75 (by decide) ?_
      refine z_iand C dX12_carriesOn_76 ?_
      refine z_iconst (v := 1) C dX12_carriesOn_77 (by decide) ?_
      refine z_icmp_ne (tgt := 86) C dX12_carriesOn_78 (by decide) (fun hc => ?_) (fun hc => ?_)
      · replace h := z_neg hc h
        refine z_iinc (v := v2 + 1) (lo' := [some (.ref (z_a X 0)), some (.int v1), some (.int (v2 + 1))]) C dX12_carriesOn_86 rfl rfl rfl ?_
        refine z_goto (tgt := 64) C dX12_carriesOn_89 (by decide) ?_
        exact ih v1 (v2 + 1) σ h
      · replace h := z_pos hc h
        refine z_aload_n C dX12_carriesOn_81 rfl rfl ?_
        refine z_iload_n C dX12_carriesOn_82 rfl rfl ?_
        obtain ⟨⟨⟩, σ2, mσ2, h⟩ := z_bnd2 h
        refine z_cvv (As := [.int v2]) (c := 0) (st := []) C (t12_swarms v2 mσ2) kvX12_swarms rfl mlX12_392 z_CF12 rfl rfl (by decide) rfl (Nat.le_of_ble_eq_true rfl) dX12_carriesOn_83 ?_
        refine z_iinc (v := v2 + 1) (lo' := [some (.ref (z_a X 0)), some (.int v1), some (.int (v2 + 1))]) C dX12_carriesOn_86 rfl rfl rfl ?_
        refine z_goto (tgt := 64) C dX12_carriesOn_89 (by decide) ?_
        exact ih v1 (v2 + 1) σ2 h
set_option maxHeartbeats 4000000 in
set_option maxRecDepth 100000 in
theorem t12_carriesOn_J62 {X : z_Ct} (C : z_Cx S2 X RX12 cX12_carriesOn 3 7 none) {u : Unit × z_M} (v1 : Int32) (σ : z_M) (h : f12_carriesOn_J62 v1 σ = some u) : z_W S2 X 62 [some (.ref (z_a X 0)), some (.int v1), none] [] σ (z_ov u) := by
  unfold f12_carriesOn_J62 at h
  refine z_iconst (v := 0) C dX12_carriesOn_62 (by decide) ?_
  refine z_istore_n (lo' := [some (.ref (z_a X 0)), some (.int v1), some (.int 0)]) C dX12_carriesOn_63 rfl (Nat.le_of_ble_eq_true rfl) rfl ?_
  exact t12_carriesOn_L64 C _ v1 0 σ h
set_option maxHeartbeats 4000000 in
set_option maxRecDepth 100000 in
theorem t12_carriesOn_L19 {X : z_Ct} (C : z_Cx S2 X RX12 cX12_carriesOn 3 7 none) {u : Unit × z_M} : ∀ (n : Nat) (v1 : Int32) (v2 : Int32) (σ : z_M), f12_carriesOn_L19 n v1 v2 σ = some u → z_W S2 X 19 [some (.ref (z_a X 0)), some (.int v1), some (.int v2)] [] σ (z_ov u) := by
  intro n
  induction n with
  | zero => intro v1 v2 σ h; rw [f12_carriesOn_L19] at h; cases h
  | succ n ih =>
    intro v1 v2 σ h
    rw [f12_carriesOn_L19] at h
    refine z_iload_n C dX12_carriesOn_19 rfl rfl ?_
    refine z_aload_n C dX12_carriesOn_20 rfl rfl ?_
    refine z_geti (k := 6) C z_CF12 (by decide) flX12_131 rfl rfl dX12_carriesOn_21 ?_
    refine z_icmp_ge (tgt := 62) C dX12_carriesOn_24 (by decide) (fun hc => ?_) (fun hc => ?_)
    · replace h := z_neg hc h
      refine z_kill (lo' := [some (.ref (z_a X 0)), some (.int v1), none]) [2] rfl ?_
      exact t12_carriesOn_J62 C v1 σ h
    · replace h := z_pos hc h
      refine z_aload_n C dX12_carriesOn_27 rfl rfl ?_
      refine z_iload_n C dX12_carriesOn_28 rfl rfl ?_
      obtain ⟨r1, σ2, mσ2, h⟩ := z_bnd2 h
      refine z_cvi (As := [.int v2]) (c := 0) (st := []) C (t12_potOf v2 mσ2) kvX12_potOf rfl mlX12_324 z_CF12 rfl rfl (by decide) rfl (Nat.le_of_ble_eq_true rfl) dX12_carriesOn_29 ?_
      refine z_iconst (v := (-1)) C dX12_carriesOn_32 (by decide) ?_
      refine z_icmp_eq (tgt := 56) C dX12_carriesOn_33 (by decide) (fun hc => ?_) (fun hc => ?_)
      · replace h := z_pos hc h
        refine z_iinc (v := v2 + 1) (lo' := [some (.ref (z_a X 0)), some (.int v1), some (.int (v2 + 1))]) C dX12_carriesOn_56 rfl rfl rfl ?_
        refine z_goto (tgt := 19) C dX12_carriesOn_59 (by decide) ?_
        exact ih v1 (v2 + 1) σ2 h
      · replace h := z_neg hc h
        refine z_aload_n C dX12_carriesOn_36 rfl rfl ?_
        refine z_geta (k := 1) (q := 1) C z_CF12 (by decide) flX12_7 rfl rfl dX12_carriesOn_37 ?_
        refine z_bipush (v := 76) C dX12_carriesOn_40 (by decide) ?_
        refine z_iload_n C dX12_carriesOn_42 rfl rfl ?_
        refine z_iadd C dX12_carriesOn_43 ?_
        obtain ⟨b3, h⟩ := z_chk_some h
        refine z_iald C rfl rfl b3 dX12_carriesOn_44 ?_
        refine z_bipush (v := 50) C dX12_carriesOn_45 (by decide) ?_
        refine z_icmp_lt (tgt := 56) C dX12_carriesOn_47 (by decide) (fun hc => ?_) (fun hc => ?_)
        · replace h := z_pos hc h
          refine z_iinc (v := v2 + 1) (lo' := [some (.ref (z_a X 0)), some (.int v1), some (.int (v2 + 1))]) C dX12_carriesOn_56 rfl rfl rfl ?_
          refine z_goto (tgt := 19) C dX12_carriesOn_59 (by decide) ?_
          exact ih v1 (v2 + 1) σ2 h
        · replace h := z_neg hc h
          refine z_iload_n C dX12_carriesOn_50 rfl rfl ?_
          refine z_iconst (v := 1) C dX12_carriesOn_51 (by decide) ?_
          refine z_iload_n C dX12_carriesOn_52 rfl rfl ?_
          refine z_ishl C dX12_carriesOn_53 ?_
          refine z_ior C dX12_carriesOn_54 ?_
          refine z_istore_n (lo' := [some (.ref (z_a X 0)), some (.int (v1 ||| (z_shl 1 v2))), some (.int v2)]) C dX12_carriesOn_55 rfl (Nat.le_of_ble_eq_true rfl) rfl ?_
          refine z_iinc (v := v2 + 1) (lo' := [some (.ref (z_a X 0)), some (.int (v1 ||| (z_shl 1 v2))), some (.int (v2 + 1))]) C dX12_carriesOn_56 rfl rfl rfl ?_
          refine z_goto (tgt := 19) C dX12_carriesOn_59 (by decide) ?_
          exact ih (v1 ||| (z_shl 1 v2)) (v2 + 1) σ2 h
set_option maxHeartbeats 4000000 in
set_option maxRecDepth 100000 in
theorem t12_carriesOn {a : Nat → Nat} {σ : z_M} {u : Unit × z_M} (h : f12_carriesOn σ = some u) : z_Mt yX12_carriesOn (z_w yX12_carriesOn cX12_carriesOn 3 none) 7 S2 a σ [.ref (a 0)] (z_ov u) := by
  refine z_head (lo := [some (.ref (a 0)), none, none]) (by decide) (Nat.le_of_ble_eq_true rfl) ?_ rfl ?_
  · intro i v hv
    exact z_loe (vs := [.ref (a 0)]) (n := 2) rfl (by simp [z_c1i, z_c1r]) i v hv
  · intro X hXa C
    subst hXa
    unfold f12_carriesOn at h
    refine z_aload_n C dX12_carriesOn_0 rfl rfl ?_
    refine z_geti (k := 5) C z_CF12 (by decide) flX12_119 rfl rfl dX12_carriesOn_1 ?_
    refine z_if_ne (tgt := 14) C dX12_carriesOn_4 (by decide) (fun hc => ?_) (fun hc => ?_)
    · replace h := z_neg hc h
      exact z_vret C h dX12_carriesOn_14
    · replace h := z_pos hc h
      refine z_aload_n C dX12_carriesOn_7 rfl rfl ?_
      refine z_geti (k := 9) C z_CF12 (by decide) flX12_153 rfl rfl dX12_carriesOn_8 ?_
      refine z_if_ne (tgt := 15) C dX12_carriesOn_11 (by decide) (fun hc => ?_) (fun hc => ?_)
      · replace h := z_neg hc h
        refine z_iconst (v := 0) C dX12_carriesOn_15 (by decide) ?_
        refine z_istore_n (lo' := [some (.ref (z_a X 0)), some (.int 0), none]) C dX12_carriesOn_16 rfl (Nat.le_of_ble_eq_true rfl) rfl ?_
        refine z_iconst (v := 0) C dX12_carriesOn_17 (by decide) ?_
        refine z_istore_n (lo' := [some (.ref (z_a X 0)), some (.int 0), some (.int 0)]) C dX12_carriesOn_18 rfl (Nat.le_of_ble_eq_true rfl) rfl ?_
        exact t12_carriesOn_L19 C _ 0 0 σ h
      · replace h := z_pos hc h
        exact z_vret C h dX12_carriesOn_14
set_option maxHeartbeats 4000000 in
set_option maxRecDepth 100000 in
theorem t12_inspects_L45 {X : z_Ct} (C : z_Cx S2 X RX12 cX12_inspects 2 3 none) {u : Unit × z_M} : ∀ (n : Nat) (v1 : Int32) (σ : z_M), f12_inspects_L45 n v1 σ = some u → z_W S2 X 45 [some (.ref (z_a X 0)), some (.int v1)] [] σ (z_ov u) := by
  intro n
  induction n with
  | zero => intro v1 σ h; rw [f12_inspects_L45] at h; cases h
  | succ n ih =>
    intro v1 σ h
    rw [f12_inspects_L45] at h
    refine z_iload_n C dX12_inspects_45 rfl rfl ?_
    refine z_aload_n C dX12_inspects_46 rfl rfl ?_
    refine z_geti (k := 6) C z_CF12 (by decide) flX12_131 rfl rfl dX12_inspects_47 ?_
    refine z_icmp_ge (tgt := 107) C dX12_inspects_50 (by decide) (fun hc => ?_) (fun hc => ?_)
    · replace h := z_neg hc h
      exact z_vret C h dX12_inspects_107
    · replace h := z_pos hc h
      refine z_aload_n C dX12_inspects_53 rfl rfl ?_
      refine z_aload_n C dX12_inspects_54 rfl rfl ?_
      refine z_iload_n C dX12_inspects_55 rfl rfl ?_
      obtain ⟨r1, σ2, mσ2, h⟩ := z_bnd2 h
      refine z_cvi (As := [.int v1]) (c := 0) (st := [.ref (z_a X 0)]) C (t12_suresOf v1 mσ2) kvX12_suresOf rfl mlX12_327 z_CF12 rfl rfl (by decide) rfl (Nat.le_of_ble_eq_true rfl) dX12_inspects_56 ?_
      obtain ⟨r3, σ4, mσ4, h⟩ := z_bnd2 h
      refine z_cvi (As := [.int r1]) (c := 0) (st := []) C (t12_onesOf r1 mσ4) kvX12_onesOf rfl mlX12_330 z_CF12 rfl rfl (by decide) rfl (Nat.le_of_ble_eq_true rfl) dX12_inspects_59 ?_
      refine z_aload_n C dX12_inspects_62 rfl rfl ?_
      obtain ⟨r5, σ6, mσ6, h⟩ := z_bnd2 h
      refine z_cvi (As := []) (c := 0) (st := [.int r3]) C (t12_most mσ6) kvX12_most rfl mlX12_398 z_CF12 rfl rfl (by decide) rfl (Nat.le_of_ble_eq_true rfl) dX12_inspects_63 ?_
      refine z_icmp_gt (tgt := 72) C dX12_inspects_66 (by decide) (fun hc => ?_) (fun hc => ?_)
      · replace h := z_pos hc h
        refine z_aload_n C dX12_inspects_72 rfl rfl ?_
        refine z_geta (k := 1) (q := 1) C z_CF12 (by decide) flX12_7 rfl rfl dX12_inspects_73 ?_
        refine z_iconst (v := 3) C dX12_inspects_76 (by decide) ?_
        refine z_aload_n C dX12_inspects_77 rfl rfl ?_
        refine z_geta (k := 1) (q := 1) C z_CF12 (by decide) flX12_7 rfl rfl dX12_inspects_78 ?_
        refine z_iconst (v := 3) C dX12_inspects_81 (by decide) ?_
        obtain ⟨b7, h⟩ := z_chk_some h
        refine z_iald C rfl rfl b7 dX12_inspects_82 ?_
        refine z_iconst (v := 1) C dX12_inspects_83 (by decide) ?_
        refine z_iadd C dX12_inspects_84 ?_
        obtain ⟨b8, h⟩ := z_chk_some h
        obtain ⟨σ9, eσ9, h⟩ := z_let_some h
        refine z_iast C rfl rfl b8 eσ9 dX12_inspects_85 ?_
        refine z_aload_n C dX12_inspects_86 rfl rfl ?_
        refine z_iconst (v := 5) C dX12_inspects_87 (by decide) ?_
        refine z_iload_n C dX12_inspects_88 rfl rfl ?_
        refine z_aload_n C dX12_inspects_89 rfl rfl ?_
        refine z_aload_n C dX12_inspects_90 rfl rfl ?_
        refine z_iload_n C dX12_inspects_91 rfl rfl ?_
        obtain ⟨r10, σ11, mσ11, h⟩ := z_bnd2 h
        refine z_cvi (As := [.int v1]) (c := 0) (st := [.ref (z_a X 0), .int v1, .int 5, .ref (z_a X 0)]) C (t12_suresOf v1 mσ11) kvX12_suresOf rfl mlX12_327 z_CF12 rfl rfl (by decide) rfl (Nat.le_of_ble_eq_true rfl) dX12_inspects_92 ?_
        obtain ⟨r12, σ13, mσ13, h⟩ := z_bnd2 h
        refine z_cvi (As := [.int r10]) (c := 0) (st := [.int v1, .int 5, .ref (z_a X 0)]) C (t12_onesOf r10 mσ13) kvX12_onesOf rfl mlX12_330 z_CF12 rfl rfl (by decide) rfl (Nat.le_of_ble_eq_true rfl) dX12_inspects_95 ?_
        obtain ⟨⟨⟩, σ15, mσ15, h⟩ := z_bnd2 h
        refine z_cvv (As := [.int 5, .int v1, .int r12]) (c := 0) (st := []) C (t12_notes 5 v1 r12 mσ15) kvX12_notes rfl mlX12_343 z_CF12 rfl rfl (by decide) rfl (Nat.le_of_ble_eq_true rfl) dX12_inspects_98 ?_
        refine z_iinc (v := v1 + 1) (lo' := [some (.ref (z_a X 0)), some (.int (v1 + 1))]) C dX12_inspects_101 rfl rfl rfl ?_
        refine z_goto (tgt := 45) C dX12_inspects_104 (by decide) ?_
        exact ih (v1 + 1) σ15 h
      · replace h := z_neg hc h
        refine z_goto (tgt := 101) C dX12_inspects_69 (by decide) ?_
        refine z_iinc (v := v1 + 1) (lo' := [some (.ref (z_a X 0)), some (.int (v1 + 1))]) C dX12_inspects_101 rfl rfl rfl ?_
        refine z_goto (tgt := 45) C dX12_inspects_104 (by decide) ?_
        exact ih (v1 + 1) σ6 h
set_option maxHeartbeats 4000000 in
set_option maxRecDepth 100000 in
theorem t12_inspects_J43 {X : z_Ct} (C : z_Cx S2 X RX12 cX12_inspects 2 3 none) {u : Unit × z_M} (σ : z_M) (h : f12_inspects_J43 σ = some u) : z_W S2 X 43 [some (.ref (z_a X 0)), none] [] σ (z_ov u) := by
  unfold f12_inspects_J43 at h
  refine z_iconst (v := 0) C dX12_inspects_43 (by decide) ?_
  refine z_istore_n (lo' := [some (.ref (z_a X 0)), some (.int 0)]) C dX12_inspects_44 rfl (Nat.le_of_ble_eq_true rfl) rfl ?_
  exact t12_inspects_L45 C _ 0 σ h
set_option maxHeartbeats 4000000 in
set_option maxRecDepth 100000 in
theorem t12_inspects_L12 {X : z_Ct} (C : z_Cx S2 X RX12 cX12_inspects 2 3 none) {u : Unit × z_M} : ∀ (n : Nat) (v1 : Int32) (σ : z_M), f12_inspects_L12 n v1 σ = some u → z_W S2 X 12 [some (.ref (z_a X 0)), some (.int v1)] [] σ (z_ov u) := by
  intro n
  induction n with
  | zero => intro v1 σ h; rw [f12_inspects_L12] at h; cases h
  | succ n ih =>
    intro v1 σ h
    rw [f12_inspects_L12] at h
    refine z_iload_n C dX12_inspects_12 rfl rfl ?_
    refine z_if_lt (tgt := 43) C dX12_inspects_13 (by decide) (fun hc => ?_) (fun hc => ?_)
    · replace h := z_pos hc h
      refine z_kill (lo' := [some (.ref (z_a X 0)), none]) [1] rfl ?_
      exact t12_inspects_J43 C σ h
    · replace h := z_neg hc h
      refine z_aload_n C dX12_inspects_16 rfl rfl ?_
      refine z_aload_n C dX12_inspects_17 rfl rfl ?_
      refine z_iload_n C dX12_inspects_18 rfl rfl ?_
      obtain ⟨r1, σ2, mσ2, h⟩ := z_bnd2 h
      refine z_cvi (As := [.int v1]) (c := 0) (st := [.ref (z_a X 0)]) C (t12_suresOf v1 mσ2) kvX12_suresOf rfl mlX12_327 z_CF12 rfl rfl (by decide) rfl (Nat.le_of_ble_eq_true rfl) dX12_inspects_19 ?_
      obtain ⟨r3, σ4, mσ4, h⟩ := z_bnd2 h
      refine z_cvi (As := [.int r1]) (c := 0) (st := []) C (t12_onesOf r1 mσ4) kvX12_onesOf rfl mlX12_330 z_CF12 rfl rfl (by decide) rfl (Nat.le_of_ble_eq_true rfl) dX12_inspects_22 ?_
      refine z_aload_n C dX12_inspects_25 rfl rfl ?_
      obtain ⟨r5, σ6, mσ6, h⟩ := z_bnd2 h
      refine z_cvi (As := []) (c := 0) (st := [.int r3]) C (t12_most mσ6) kvX12_most rfl mlX12_398 z_CF12 rfl rfl (by decide) rfl (Nat.le_of_ble_eq_true rfl) dX12_inspects_26 ?_
      refine z_icmp_le (tgt := 37) C dX12_inspects_29 (by decide) (fun hc => ?_) (fun hc => ?_)
      · replace h := z_neg hc h
        refine z_iinc (v := v1 + (-1)) (lo' := [some (.ref (z_a X 0)), some (.int (v1 + (-1)))]) C dX12_inspects_37 rfl rfl rfl ?_
        refine z_goto (tgt := 12) C dX12_inspects_40 (by decide) ?_
        exact ih (v1 + (-1)) σ6 h
      · replace h := z_pos hc h
        refine z_aload_n C dX12_inspects_32 rfl rfl ?_
        refine z_iload_n C dX12_inspects_33 rfl rfl ?_
        obtain ⟨σ7, eσ7, h⟩ := z_let_some h
        refine z_puti (k := 44) C z_CF12 (by decide) flX12_395 rfl rfl rfl rfl eσ7 dX12_inspects_34 ?_
        refine z_iinc (v := v1 + (-1)) (lo' := [some (.ref (z_a X 0)), some (.int (v1 + (-1)))]) C dX12_inspects_37 rfl rfl rfl ?_
        refine z_goto (tgt := 12) C dX12_inspects_40 (by decide) ?_
        exact ih (v1 + (-1)) σ7 h
set_option maxHeartbeats 4000000 in
set_option maxRecDepth 100000 in
theorem t12_inspects {a : Nat → Nat} {σ : z_M} {u : Unit × z_M} (h : f12_inspects σ = some u) : z_Mt yX12_inspects (z_w yX12_inspects cX12_inspects 2 none) 3 S2 a σ [.ref (a 0)] (z_ov u) := by
  refine z_head (lo := [some (.ref (a 0)), none]) (by decide) (Nat.le_of_ble_eq_true rfl) ?_ rfl ?_
  · intro i v hv
    exact z_loe (vs := [.ref (a 0)]) (n := 1) rfl (by simp [z_c1i, z_c1r]) i v hv
  · intro X hXa C
    subst hXa
    unfold f12_inspects at h
    refine z_aload_n C dX12_inspects_0 rfl rfl ?_
    refine z_iconst (v := (-1)) C dX12_inspects_1 (by decide) ?_
    obtain ⟨σ1, eσ1, h⟩ := z_let_some h
    refine z_puti (k := 44) C z_CF12 (by decide) flX12_395 rfl rfl rfl rfl eσ1 dX12_inspects_2 ?_
    refine z_aload_n C dX12_inspects_5 rfl rfl ?_
    refine z_geti (k := 6) C z_CF12 (by decide) flX12_131 rfl rfl dX12_inspects_6 ?_
    refine z_iconst (v := 1) C dX12_inspects_9 (by decide) ?_
    refine z_isub C dX12_inspects_10 ?_
    refine z_istore_n (lo' := [some (.ref (z_a X 0)), some (.int ((σ1 0 6) - 1))]) C dX12_inspects_11 rfl (Nat.le_of_ble_eq_true rfl) rfl ?_
    exact t12_inspects_L12 C _ ((σ1 0 6) - 1) σ1 h
set_option maxHeartbeats 4000000 in
set_option maxRecDepth 100000 in
theorem t12_goesBy_J145 {X : z_Ct} (C : z_Cx S2 X RX12 cX12_goesBy 3 8 none) {u : Unit × z_M} (σ : z_M) (h : f12_goesBy_J145 σ = some u) : z_W S2 X 145 [some (.ref (z_a X 0)), none, none] [] σ (z_ov u) := by
  unfold f12_goesBy_J145 at h
  refine z_aload_n C dX12_goesBy_145 rfl rfl ?_
  obtain ⟨⟨⟩, σ2, mσ2, h⟩ := z_bnd2 h
  refine z_cvv (As := []) (c := 0) (st := []) C (t12_freezes mσ2) kvX12_freezes rfl mlX12_407 z_CF12 rfl rfl (by decide) rfl (Nat.le_of_ble_eq_true rfl) dX12_goesBy_146 ?_
  refine z_aload_n C dX12_goesBy_149 rfl rfl ?_
  obtain ⟨⟨⟩, σ4, mσ4, h⟩ := z_bnd2 h
  refine z_cvv (As := []) (c := 0) (st := []) C (t12_carriesOn mσ4) kvX12_carriesOn rfl mlX12_410 z_CF12 rfl rfl (by decide) rfl (Nat.le_of_ble_eq_true rfl) dX12_goesBy_150 ?_
  refine z_aload_n C dX12_goesBy_153 rfl rfl ?_
  obtain ⟨⟨⟩, σ6, mσ6, h⟩ := z_bnd2 h
  refine z_cvv (As := []) (c := 0) (st := []) C (t12_inspects mσ6) kvX12_inspects rfl mlX12_413 z_CF12 rfl rfl (by decide) rfl (Nat.le_of_ble_eq_true rfl) dX12_goesBy_154 ?_
  refine z_aload_n C dX12_goesBy_157 rfl rfl ?_
  refine z_geta (k := 1) (q := 1) C z_CF12 (by decide) flX12_7 rfl rfl dX12_goesBy_158 ?_
  refine z_iconst (v := 0) C dX12_goesBy_161 (by decide) ?_
  refine z_aload_n C dX12_goesBy_162 rfl rfl ?_
  refine z_geta (k := 1) (q := 1) C z_CF12 (by decide) flX12_7 rfl rfl dX12_goesBy_163 ?_
  refine z_iconst (v := 0) C dX12_goesBy_166 (by decide) ?_
  obtain ⟨b7, h⟩ := z_chk_some h
  refine z_iald C rfl rfl b7 dX12_goesBy_167 ?_
  refine z_iconst (v := 1) C dX12_goesBy_168 (by decide) ?_
  refine z_iadd C dX12_goesBy_169 ?_
  obtain ⟨b8, h⟩ := z_chk_some h
  obtain ⟨σ9, eσ9, h⟩ := z_let_some h
  refine z_iast C rfl rfl b8 eσ9 dX12_goesBy_170 ?_
  exact z_vret C h dX12_goesBy_171
set_option maxHeartbeats 4000000 in
set_option maxRecDepth 100000 in
theorem t12_goesBy_L117 {X : z_Ct} (C : z_Cx S2 X RX12 cX12_goesBy 3 8 none) {u : Unit × z_M} : ∀ (n : Nat) (v1 : Int32) (σ : z_M), f12_goesBy_L117 n v1 σ = some u → z_W S2 X 117 [some (.ref (z_a X 0)), some (.int v1), none] [] σ (z_ov u) := by
  intro n
  induction n with
  | zero => intro v1 σ h; rw [f12_goesBy_L117] at h; cases h
  | succ n ih =>
    intro v1 σ h
    rw [f12_goesBy_L117] at h
    refine z_iload_n C dX12_goesBy_117 rfl rfl ?_
    refine z_aload_n C dX12_goesBy_118 rfl rfl ?_
    refine z_geti (k := 6) C z_CF12 (by decide) flX12_131 rfl rfl dX12_goesBy_119 ?_
    refine z_icmp_ge (tgt := 145) C dX12_goesBy_122 (by decide) (fun hc => ?_) (fun hc => ?_)
    · replace h := z_neg hc h
      refine z_kill (lo' := [some (.ref (z_a X 0)), none, none]) [1] rfl ?_
      exact t12_goesBy_J145 C σ h
    · replace h := z_pos hc h
      refine z_aload_n C dX12_goesBy_125 rfl rfl ?_
      refine z_iload_n C dX12_goesBy_126 rfl rfl ?_
      obtain ⟨r1, σ2, mσ2, h⟩ := z_bnd2 h
      refine z_cvi (As := [.int v1]) (c := 0) (st := []) C (t12_potOf v1 mσ2) kvX12_potOf rfl mlX12_324 z_CF12 rfl rfl (by decide) rfl (Nat.le_of_ble_eq_true rfl) dX12_goesBy_127 ?_
      refine z_iconst (v := (-1)) C dX12_goesBy_130 (by decide) ?_
      refine z_icmp_eq (tgt := 139) C dX12_goesBy_131 (by decide) (fun hc => ?_) (fun hc => ?_)
      · replace h := z_pos hc h
        refine z_iinc (v := v1 + 1) (lo' := [some (.ref (z_a X 0)), some (.int (v1 + 1)), none]) C dX12_goesBy_139 rfl rfl rfl ?_
        refine z_goto (tgt := 117) C dX12_goesBy_142 (by decide) ?_
        exact ih (v1 + 1) σ2 h
      · replace h := z_neg hc h
        refine z_aload_n C dX12_goesBy_134 rfl rfl ?_
        refine z_iload_n C dX12_goesBy_135 rfl rfl ?_
        obtain ⟨⟨⟩, σ4, mσ4, h⟩ := z_bnd2 h
        refine z_cvv (As := [.int v1]) (c := 0) (st := []) C (t12_grows v1 mσ4) kvX12_grows rfl mlX12_404 z_CF12 rfl rfl (by decide) rfl (Nat.le_of_ble_eq_true rfl) dX12_goesBy_136 ?_
        refine z_iinc (v := v1 + 1) (lo' := [some (.ref (z_a X 0)), some (.int (v1 + 1)), none]) C dX12_goesBy_139 rfl rfl rfl ?_
        refine z_goto (tgt := 117) C dX12_goesBy_142 (by decide) ?_
        exact ih (v1 + 1) σ4 h
set_option maxHeartbeats 4000000 in
set_option maxRecDepth 100000 in
theorem t12_goesBy_J115 {X : z_Ct} (C : z_Cx S2 X RX12 cX12_goesBy 3 8 none) {u : Unit × z_M} (σ : z_M) (h : f12_goesBy_J115 σ = some u) : z_W S2 X 115 [some (.ref (z_a X 0)), none, none] [] σ (z_ov u) := by
  unfold f12_goesBy_J115 at h
  refine z_iconst (v := 0) C dX12_goesBy_115 (by decide) ?_
  refine z_istore_n (lo' := [some (.ref (z_a X 0)), some (.int 0), none]) C dX12_goesBy_116 rfl (Nat.le_of_ble_eq_true rfl) rfl ?_
  exact t12_goesBy_L117 C _ 0 σ h
set_option maxHeartbeats 4000000 in
set_option maxRecDepth 100000 in
theorem t12_goesBy_L96 {X : z_Ct} (C : z_Cx S2 X RX12 cX12_goesBy 3 8 none) {u : Unit × z_M} : ∀ (n : Nat) (v1 : Int32) (σ : z_M), f12_goesBy_L96 n v1 σ = some u → z_W S2 X 96 [some (.ref (z_a X 0)), some (.int v1), none] [] σ (z_ov u) := by
  intro n
  induction n with
  | zero => intro v1 σ h; rw [f12_goesBy_L96] at h; cases h
  | succ n ih =>
    intro v1 σ h
    rw [f12_goesBy_L96] at h
    refine z_iload_n C dX12_goesBy_96 rfl rfl ?_
    refine z_aload_n C dX12_goesBy_97 rfl rfl ?_
    refine z_geti (k := 6) C z_CF12 (by decide) flX12_131 rfl rfl dX12_goesBy_98 ?_
    refine z_icmp_ge (tgt := 115) C dX12_goesBy_101 (by decide) (fun hc => ?_) (fun hc => ?_)
    · replace h := z_neg hc h
      refine z_kill (lo' := [some (.ref (z_a X 0)), none, none]) [1] rfl ?_
      exact t12_goesBy_J115 C σ h
    · replace h := z_pos hc h
      refine z_aload_n C dX12_goesBy_104 rfl rfl ?_
      refine z_iload_n C dX12_goesBy_105 rfl rfl ?_
      obtain ⟨⟨⟩, σ2, mσ2, h⟩ := z_bnd2 h
      refine z_cvv (As := [.int v1]) (c := 0) (st := []) C (t12_reasonsAt v1 mσ2) kvX12_reasonsAt rfl mlX12_401 z_CF12 rfl rfl (by decide) rfl (Nat.le_of_ble_eq_true rfl) dX12_goesBy_106 ?_
      refine z_iinc (v := v1 + 1) (lo' := [some (.ref (z_a X 0)), some (.int (v1 + 1)), none]) C dX12_goesBy_109 rfl rfl rfl ?_
      refine z_goto (tgt := 96) C dX12_goesBy_112 (by decide) ?_
      exact ih (v1 + 1) σ2 h
set_option maxHeartbeats 4000000 in
set_option maxRecDepth 100000 in
theorem t12_goesBy_J94 {X : z_Ct} (C : z_Cx S2 X RX12 cX12_goesBy 3 8 none) {u : Unit × z_M} (σ : z_M) (h : f12_goesBy_J94 σ = some u) : z_W S2 X 94 [some (.ref (z_a X 0)), none, none] [] σ (z_ov u) := by
  unfold f12_goesBy_J94 at h
  refine z_iconst (v := 0) C dX12_goesBy_94 (by decide) ?_
  refine z_istore_n (lo' := [some (.ref (z_a X 0)), some (.int 0), none]) C dX12_goesBy_95 rfl (Nat.le_of_ble_eq_true rfl) rfl ?_
  exact t12_goesBy_L96 C _ 0 σ h
set_option maxHeartbeats 4000000 in
set_option maxRecDepth 100000 in
theorem t12_goesBy_L2 {X : z_Ct} (C : z_Cx S2 X RX12 cX12_goesBy 3 8 none) {u : Unit × z_M} : ∀ (n : Nat) (v1 : Int32) (σ : z_M), f12_goesBy_L2 n v1 σ = some u → z_W S2 X 2 [some (.ref (z_a X 0)), some (.int v1), none] [] σ (z_ov u) := by
  intro n
  induction n with
  | zero => intro v1 σ h; rw [f12_goesBy_L2] at h; cases h
  | succ n ih =>
    intro v1 σ h
    rw [f12_goesBy_L2] at h
    refine z_iload_n C dX12_goesBy_2 rfl rfl ?_
    refine z_aload_n C dX12_goesBy_3 rfl rfl ?_
    refine z_geti (k := 40) C z_CF12 (by decide) flX12_300 rfl rfl dX12_goesBy_4 ?_
    refine z_icmp_ge (tgt := 94) C dX12_goesBy_7 (by decide) (fun hc => ?_) (fun hc => ?_)
    · replace h := z_neg hc h
      refine z_kill (lo' := [some (.ref (z_a X 0)), none, none]) [1] rfl ?_
      exact t12_goesBy_J94 C σ h
    · replace h := z_pos hc h
      refine z_iconst (v := 5) C dX12_goesBy_10 (by decide) ?_
      refine z_iload_n C dX12_goesBy_11 rfl rfl ?_
      refine z_imul C dX12_goesBy_12 ?_
      refine z_istore_n (lo' := [some (.ref (z_a X 0)), some (.int v1), some (.int (5 * v1))]) C dX12_goesBy_13 rfl (Nat.le_of_ble_eq_true rfl) rfl ?_
      refine z_aload_n C dX12_goesBy_14 rfl rfl ?_
      refine z_geta (k := 41) (q := 19) C z_CF12 (by decide) flX12_68 rfl rfl dX12_goesBy_15 ?_
      refine z_iload_n C dX12_goesBy_18 rfl rfl ?_
      obtain ⟨b1, h⟩ := z_chk_some h
      refine z_iald C rfl rfl b1 dX12_goesBy_19 ?_
      refine z_aload_n C dX12_goesBy_20 rfl rfl ?_
      refine z_geta (k := 1) (q := 1) C z_CF12 (by decide) flX12_7 rfl rfl dX12_goesBy_21 ?_
      refine z_iconst (v := 0) C dX12_goesBy_24 (by decide) ?_
      obtain ⟨b2, h⟩ := z_chk_some h
      refine z_iald C rfl rfl b2 dX12_goesBy_25 ?_
      refine z_icmp_ne (tgt := 88) C dX12_goesBy_26 (by decide) (fun hc => ?_) (fun hc => ?_)
      · replace h := z_neg hc h
        refine z_iinc (v := v1 + 1) (lo' := [some (.ref (z_a X 0)), some (.int (v1 + 1)), some (.int (5 * v1))]) C dX12_goesBy_88 rfl rfl rfl ?_
        refine z_goto (tgt := 2) C dX12_goesBy_91 (by decide) ?_
        refine z_kill (lo' := [some (.ref (z_a X 0)), some (.int (v1 + 1)), none]) [2] rfl ?_
        exact ih (v1 + 1) σ h
      · replace h := z_pos hc h
        refine z_aload_n C dX12_goesBy_29 rfl rfl ?_
        refine z_aload_n C dX12_goesBy_30 rfl rfl ?_
        refine z_geta (k := 41) (q := 19) C z_CF12 (by decide) flX12_68 rfl rfl dX12_goesBy_31 ?_
        refine z_iload_n C dX12_goesBy_34 rfl rfl ?_
        refine z_iconst (v := 1) C dX12_goesBy_35 (by decide) ?_
        refine z_iadd C dX12_goesBy_36 ?_
        obtain ⟨b3, h⟩ := z_chk_some h
        refine z_iald C rfl rfl b3 dX12_goesBy_37 ?_
        refine z_aload_n C dX12_goesBy_38 rfl rfl ?_
        refine z_geta (k := 41) (q := 19) C z_CF12 (by decide) flX12_68 rfl rfl dX12_goesBy_39 ?_
        refine z_iload_n C dX12_goesBy_42 rfl rfl ?_
        refine z_iconst (v := 2) C dX12_goesBy_43 (by decide) ?_
        refine z_iadd C dX12_goesBy_44 ?_
        obtain ⟨b4, h⟩ := z_chk_some h
        refine z_iald C rfl rfl b4 dX12_goesBy_45 ?_
        obtain ⟨r5, σ6, mσ6, h⟩ := z_bnd2 h
        refine z_cvi (As := [.int (σ 19 (z_ix ((5 * v1) + 1))), .int (σ 19 (z_ix ((5 * v1) + 2)))]) (c := 0) (st := []) C (t12_canDo (σ 19 (z_ix ((5 * v1) + 1))) (σ 19 (z_ix ((5 * v1) + 2))) mσ6) kvX12_canDo rfl mlX12_353 z_CF12 rfl rfl (by decide) rfl (Nat.le_of_ble_eq_true rfl) dX12_goesBy_46 ?_
        refine z_if_eq (tgt := 88) C dX12_goesBy_49 (by decide) (fun hc => ?_) (fun hc => ?_)
        · replace h := z_pos hc h
          refine z_iinc (v := v1 + 1) (lo' := [some (.ref (z_a X 0)), some (.int (v1 + 1)), some (.int (5 * v1))]) C dX12_goesBy_88 rfl rfl rfl ?_
          refine z_goto (tgt := 2) C dX12_goesBy_91 (by decide) ?_
          refine z_kill (lo' := [some (.ref (z_a X 0)), some (.int (v1 + 1)), none]) [2] rfl ?_
          exact ih (v1 + 1) σ6 h
        · replace h := z_neg hc h
          refine z_aload_n C dX12_goesBy_52 rfl rfl ?_
          refine z_aload_n C dX12_goesBy_53 rfl rfl ?_
          refine z_geta (k := 41) (q := 19) C z_CF12 (by decide) flX12_68 rfl rfl dX12_goesBy_54 ?_
          refine z_iload_n C dX12_goesBy_57 rfl rfl ?_
          refine z_iconst (v := 1) C dX12_goesBy_58 (by decide) ?_
          refine z_iadd C dX12_goesBy_59 ?_
          obtain ⟨b7, h⟩ := z_chk_some h
          refine z_iald C rfl rfl b7 dX12_goesBy_60 ?_
          refine z_aload_n C dX12_goesBy_61 rfl rfl ?_
          refine z_geta (k := 41) (q := 19) C z_CF12 (by decide) flX12_68 rfl rfl dX12_goesBy_62 ?_
          refine z_iload_n C dX12_goesBy_65 rfl rfl ?_
          refine z_iconst (v := 2) C dX12_goesBy_66 (by decide) ?_
          refine z_iadd C dX12_goesBy_67 ?_
          obtain ⟨b8, h⟩ := z_chk_some h
          refine z_iald C rfl rfl b8 dX12_goesBy_68 ?_
          refine z_aload_n C dX12_goesBy_69 rfl rfl ?_
          refine z_geta (k := 41) (q := 19) C z_CF12 (by decide) flX12_68 rfl rfl dX12_goesBy_70 ?_
          refine z_iload_n C dX12_goesBy_73 rfl rfl ?_
          refine z_iconst (v := 3) C dX12_goesBy_74 (by decide) ?_
          refine z_iadd C dX12_goesBy_75 ?_
          obtain ⟨b9, h⟩ := z_chk_some h
          refine z_iald C rfl rfl b9 dX12_goesBy_76 ?_
          refine z_aload_n C dX12_goesBy_77 rfl rfl ?_
          refine z_geta (k := 41) (q := 19) C z_CF12 (by decide) flX12_68 rfl rfl dX12_goesBy_78 ?_
          refine z_iload_n C dX12_goesBy_81 rfl rfl ?_
          refine z_iconst (v := 4) C dX12_goesBy_82 (by decide) ?_
          refine z_iadd C dX12_goesBy_83 ?_
          obtain ⟨b10, h⟩ := z_chk_some h
          refine z_iald C rfl rfl b10 dX12_goesBy_84 ?_
          obtain ⟨⟨⟩, σ12, mσ12, h⟩ := z_bnd2 h
          refine z_cvv (As := [.int (σ6 19 (z_ix ((5 * v1) + 1))), .int (σ6 19 (z_ix ((5 * v1) + 2))), .int (σ6 19 (z_ix ((5 * v1) + 3))), .int (σ6 19 (z_ix ((5 * v1) + 4)))]) (c := 0) (st := []) C (t12_does (σ6 19 (z_ix ((5 * v1) + 1))) (σ6 19 (z_ix ((5 * v1) + 2))) (σ6 19 (z_ix ((5 * v1) + 3))) (σ6 19 (z_ix ((5 * v1) + 4))) mσ12) kvX12_does rfl mlX12_360 z_CF12 rfl rfl (by decide) rfl (Nat.le_of_ble_eq_true rfl) dX12_goesBy_85 ?_
          refine z_iinc (v := v1 + 1) (lo' := [some (.ref (z_a X 0)), some (.int (v1 + 1)), some (.int (5 * v1))]) C dX12_goesBy_88 rfl rfl rfl ?_
          refine z_goto (tgt := 2) C dX12_goesBy_91 (by decide) ?_
          refine z_kill (lo' := [some (.ref (z_a X 0)), some (.int (v1 + 1)), none]) [2] rfl ?_
          exact ih (v1 + 1) σ12 h
set_option maxHeartbeats 4000000 in
set_option maxRecDepth 100000 in
theorem t12_goesBy {a : Nat → Nat} {σ : z_M} {u : Unit × z_M} (h : f12_goesBy σ = some u) : z_Mt yX12_goesBy (z_w yX12_goesBy cX12_goesBy 3 none) 8 S2 a σ [.ref (a 0)] (z_ov u) := by
  refine z_head (lo := [some (.ref (a 0)), none, none]) (by decide) (Nat.le_of_ble_eq_true rfl) ?_ rfl ?_
  · intro i v hv
    exact z_loe (vs := [.ref (a 0)]) (n := 2) rfl (by simp [z_c1i, z_c1r]) i v hv
  · intro X hXa C
    subst hXa
    unfold f12_goesBy at h
    refine z_iconst (v := 0) C dX12_goesBy_0 (by decide) ?_
    refine z_istore_n (lo' := [some (.ref (z_a X 0)), some (.int 0), none]) C dX12_goesBy_1 rfl (Nat.le_of_ble_eq_true rfl) rfl ?_
    exact t12_goesBy_L2 C _ 0 σ h
set_option maxHeartbeats 4000000 in
set_option maxRecDepth 100000 in
theorem t12_weeks_J60 {X : z_Ct} (C : z_Cx S2 X RX12 cX12_weeks 4 9 (some .int)) {u : Int32 × z_M} (v2 : Int32) (σ : z_M) (h : f12_weeks_J60 v2 σ = some u) : z_W S2 X 60 [some (.ref (z_a X 0)), none, some (.int v2), none] [] σ (z_oi u) := by
  unfold f12_weeks_J60 at h
  refine z_aload_n C dX12_weeks_60 rfl rfl ?_
  refine z_geta (k := 1) (q := 1) C z_CF12 (by decide) flX12_7 rfl rfl dX12_weeks_61 ?_
  refine z_iconst (v := 3) C dX12_weeks_64 (by decide) ?_
  obtain ⟨b1, h⟩ := z_chk_some h
  refine z_iald C rfl rfl b1 dX12_weeks_65 ?_
  refine z_iload_n C dX12_weeks_66 rfl rfl ?_
  refine z_isub C dX12_weeks_67 ?_
  exact z_iret C h dX12_weeks_68
set_option maxHeartbeats 4000000 in
set_option maxRecDepth 100000 in
theorem t12_weeks_L41 {X : z_Ct} (C : z_Cx S2 X RX12 cX12_weeks 4 9 (some .int)) {u : Int32 × z_M} : ∀ (n : Nat) (v1 : Int32) (v2 : Int32) (v3 : Int32) (σ : z_M), f12_weeks_L41 n v1 v2 v3 σ = some u → z_W S2 X 41 [some (.ref (z_a X 0)), some (.int v1), some (.int v2), some (.int v3)] [] σ (z_oi u) := by
  intro n
  induction n with
  | zero => intro v1 v2 v3 σ h; rw [f12_weeks_L41] at h; cases h
  | succ n ih =>
    intro v1 v2 v3 σ h
    rw [f12_weeks_L41] at h
    refine z_iload_n C dX12_weeks_41 rfl rfl ?_
    refine z_iload_n C dX12_weeks_42 rfl rfl ?_
    refine z_icmp_ge (tgt := 60) C dX12_weeks_43 (by decide) (fun hc => ?_) (fun hc => ?_)
    · replace h := z_neg hc h
      refine z_kill (lo' := [some (.ref (z_a X 0)), none, some (.int v2), none]) [1, 3] rfl ?_
      exact t12_weeks_J60 C v2 σ h
    · replace h := z_pos hc h
      refine z_aload_n C dX12_weeks_46 rfl rfl ?_
      obtain ⟨⟨⟩, σ2, mσ2, h⟩ := z_bnd2 h
      refine z_cvv (As := []) (c := 0) (st := []) C (t12_keepsAhead mσ2) kvX12_keepsAhead rfl mlX12_357 z_CF12 rfl rfl (by decide) rfl (Nat.le_of_ble_eq_true rfl) dX12_weeks_47 ?_
      refine z_aload_n C dX12_weeks_50 rfl rfl ?_
      obtain ⟨⟨⟩, σ4, mσ4, h⟩ := z_bnd2 h
      refine z_cvv (As := []) (c := 0) (st := []) C (t12_goesBy mσ4) kvX12_goesBy rfl mlX12_416 z_CF12 rfl rfl (by decide) rfl (Nat.le_of_ble_eq_true rfl) dX12_weeks_51 ?_
      refine z_iinc (v := v3 + 1) (lo' := [some (.ref (z_a X 0)), some (.int v1), some (.int v2), some (.int (v3 + 1))]) C dX12_weeks_54 rfl rfl rfl ?_
      refine z_goto (tgt := 41) C dX12_weeks_57 (by decide) ?_
      exact ih v1 v2 (v3 + 1) σ4 h
set_option maxHeartbeats 4000000 in
set_option maxRecDepth 100000 in
theorem t12_weeks {a : Nat → Nat} (p1 : Int32) {σ : z_M} {u : Int32 × z_M} (h : f12_weeks p1 σ = some u) : z_Mt yX12_weeks (z_w yX12_weeks cX12_weeks 4 (some .int)) 9 S2 a σ [.ref (a 0), .int p1] (z_oi u) := by
  refine z_head (lo := [some (.ref (a 0)), some (.int p1), none, none]) (by decide) (Nat.le_of_ble_eq_true rfl) ?_ rfl ?_
  · intro i v hv
    exact z_loe (vs := [.ref (a 0), .int p1]) (n := 2) rfl (by simp [z_c1i, z_c1r]) i v hv
  · intro X hXa C
    subst hXa
    unfold f12_weeks at h
    refine z_aload_n C dX12_weeks_0 rfl rfl ?_
    refine z_iconst (v := 0) C dX12_weeks_1 (by decide) ?_
    obtain ⟨σ1, eσ1, h⟩ := z_let_some h
    refine z_puti (k := 0) C z_CF12 (by decide) flX12_113 rfl rfl rfl rfl eσ1 dX12_weeks_2 ?_
    refine z_aload_n C dX12_weeks_5 rfl rfl ?_
    refine z_iload_n C dX12_weeks_6 rfl rfl ?_
    refine z_iconst (v := 1) C dX12_weeks_7 (by decide) ?_
    refine z_bipush (v := 60) C dX12_weeks_8 (by decide) ?_
    obtain ⟨r2, σ3, mσ3, h⟩ := z_bnd2 h
    refine z_cvi (As := [.int p1, .int 1, .int 60]) (c := 0) (st := []) C (t12_isIn p1 1 60 mσ3) kvX12_isIn rfl mlX12_142 z_CF12 rfl rfl (by decide) rfl (Nat.le_of_ble_eq_true rfl) dX12_weeks_10 ?_
    refine z_if_eq (tgt := 30) C dX12_weeks_13 (by decide) (fun hc => ?_) (fun hc => ?_)
    · replace h := z_pos hc h
      refine z_iconst (v := (-1)) C dX12_weeks_30 (by decide) ?_
      exact z_iret C h dX12_weeks_31
    · replace h := z_neg hc h
      refine z_aload_n C dX12_weeks_16 rfl rfl ?_
      refine z_geta (k := 1) (q := 1) C z_CF12 (by decide) flX12_7 rfl rfl dX12_weeks_17 ?_
      refine z_iconst (v := 0) C dX12_weeks_20 (by decide) ?_
      obtain ⟨b4, h⟩ := z_chk_some h
      refine z_iald C rfl rfl b4 dX12_weeks_21 ?_
      refine z_iload_n C dX12_weeks_22 rfl rfl ?_
      refine z_iadd C dX12_weeks_23 ?_
      refine z_sipush (v := 999) C dX12_weeks_24 (by decide) ?_
      refine z_icmp_le (tgt := 32) C dX12_weeks_27 (by decide) (fun hc => ?_) (fun hc => ?_)
      · replace h := z_neg hc h
        refine z_aload_n C dX12_weeks_32 rfl rfl ?_
        refine z_geta (k := 1) (q := 1) C z_CF12 (by decide) flX12_7 rfl rfl dX12_weeks_33 ?_
        refine z_iconst (v := 3) C dX12_weeks_36 (by decide) ?_
        obtain ⟨b5, h⟩ := z_chk_some h
        refine z_iald C rfl rfl b5 dX12_weeks_37 ?_
        refine z_istore_n (lo' := [some (.ref (z_a X 0)), some (.int p1), some (.int (σ3 1 (z_ix 3))), none]) C dX12_weeks_38 rfl (Nat.le_of_ble_eq_true rfl) rfl ?_
        refine z_iconst (v := 0) C dX12_weeks_39 (by decide) ?_
        refine z_istore_n (lo' := [some (.ref (z_a X 0)), some (.int p1), some (.int (σ3 1 (z_ix 3))), some (.int 0)]) C dX12_weeks_40 rfl (Nat.le_of_ble_eq_true rfl) rfl ?_
        exact t12_weeks_L41 C _ p1 (σ3 1 (z_ix 3)) 0 σ3 h
      · replace h := z_pos hc h
        refine z_iconst (v := (-1)) C dX12_weeks_30 (by decide) ?_
        exact z_iret C h dX12_weeks_31
set_option maxHeartbeats 4000000 in
set_option maxRecDepth 100000 in
theorem t12_ofPot {a : Nat → Nat} (p1 : Int32) (p2 : Int32) {σ : z_M} {u : Int32 × z_M} (h : f12_ofPot p1 p2 σ = some u) : z_Mt yX12_ofPot (z_w yX12_ofPot cX12_ofPot 3 (some .int)) 6 S2 a σ [.ref (a 0), .int p1, .int p2] (z_oi u) := by
  refine z_head (lo := [some (.ref (a 0)), some (.int p1), some (.int p2)]) (by decide) (Nat.le_of_ble_eq_true rfl) ?_ rfl ?_
  · intro i v hv
    exact z_loe (vs := [.ref (a 0), .int p1, .int p2]) (n := 0) rfl (by simp [z_c1i, z_c1r]) i v hv
  · intro X hXa C
    subst hXa
    unfold f12_ofPot at h
    refine z_aload_n C dX12_ofPot_0 rfl rfl ?_
    refine z_iload_n C dX12_ofPot_1 rfl rfl ?_
    obtain ⟨r1, σ2, mσ2, h⟩ := z_bnd2 h
    refine z_cvi (As := [.int p1]) (c := 0) (st := []) C (t12_potOf p1 mσ2) kvX12_potOf rfl mlX12_324 z_CF12 rfl rfl (by decide) rfl (Nat.le_of_ble_eq_true rfl) dX12_ofPot_2 ?_
    refine z_iconst (v := (-1)) C dX12_ofPot_5 (by decide) ?_
    refine z_icmp_ne (tgt := 12) C dX12_ofPot_6 (by decide) (fun hc => ?_) (fun hc => ?_)
    · replace h := z_neg hc h
      refine z_aload_n C dX12_ofPot_12 rfl rfl ?_
      refine z_iload_n C dX12_ofPot_13 rfl rfl ?_
      obtain ⟨⟨⟩, σ4, mσ4, h⟩ := z_bnd2 h
      refine z_cvv (As := [.int p1]) (c := 0) (st := []) C (t12_asks p1 mσ4) kvX12_asks rfl mlX12_371 z_CF12 rfl rfl (by decide) rfl (Nat.le_of_ble_eq_true rfl) dX12_ofPot_14 ?_
      refine z_iload_n C dX12_ofPot_17 rfl rfl ?_
      refine z_bipush (v := 6) C dX12_ofPot_18 (by decide) ?_
      refine z_icmp_ne (tgt := 30) C dX12_ofPot_20 (by decide) (fun hc => ?_) (fun hc => ?_)
      · replace h := z_neg hc h
        refine z_iload_n C dX12_ofPot_30 rfl rfl ?_
        refine z_bipush (v := 7) C dX12_ofPot_31 (by decide) ?_
        refine z_icmp_ne (tgt := 43) C dX12_ofPot_33 (by decide) (fun hc => ?_) (fun hc => ?_)
        · replace h := z_neg hc h
          refine z_aload_n C dX12_ofPot_43 rfl rfl ?_
          obtain ⟨r5, σ6, mσ6, h⟩ := z_bnd2 h
          refine z_cvi (As := []) (c := 0) (st := []) C (t12_seedAsked mσ6) kvX12_seedAsked rfl mlX12_389 z_CF12 rfl rfl (by decide) rfl (Nat.le_of_ble_eq_true rfl) dX12_ofPot_44 ?_
          exact z_iret C h dX12_ofPot_47
        · replace h := z_pos hc h
          refine z_aload_n C dX12_ofPot_36 rfl rfl ?_
          obtain ⟨r7, σ8, mσ8, h⟩ := z_bnd2 h
          refine z_cvi (As := []) (c := 0) (st := []) C (t12_lowerAsked mσ8) kvX12_lowerAsked rfl mlX12_374 z_CF12 rfl rfl (by decide) rfl (Nat.le_of_ble_eq_true rfl) dX12_ofPot_37 ?_
          refine z_goto (tgt := 47) C dX12_ofPot_40 (by decide) ?_
          exact z_iret C h dX12_ofPot_47
      · replace h := z_pos hc h
        refine z_aload_n C dX12_ofPot_23 rfl rfl ?_
        obtain ⟨r9, σ10, mσ10, h⟩ := z_bnd2 h
        refine z_cvi (As := []) (c := 0) (st := []) C (t12_growAsked mσ10) kvX12_growAsked rfl mlX12_377 z_CF12 rfl rfl (by decide) rfl (Nat.le_of_ble_eq_true rfl) dX12_ofPot_24 ?_
        refine z_goto (tgt := 47) C dX12_ofPot_27 (by decide) ?_
        exact z_iret C h dX12_ofPot_47
    · replace h := z_pos hc h
      refine z_bipush (v := (-100)) C dX12_ofPot_9 (by decide) ?_
      exact z_iret C h dX12_ofPot_11
set_option maxHeartbeats 4000000 in
set_option maxRecDepth 100000 in
theorem t12_of_J31 {X : z_Ct} (C : z_Cx S2 X RX12 cX12_of 4 7 (some .int)) {u : Int32 × z_M} (v1 : Int32) (v2 : Int32) (s0 : Int32) (σ : z_M) (h : f12_of_J31 v1 v2 s0 σ = some u) : z_W S2 X 31 [some (.ref (z_a X 0)), some (.int v1), some (.int v2), none] [.int s0] σ (z_oi u) := by
  unfold f12_of_J31 at h
  refine z_istore_n (lo' := [some (.ref (z_a X 0)), some (.int v1), some (.int v2), some (.int s0)]) C dX12_of_31 rfl (Nat.le_of_ble_eq_true rfl) rfl ?_
  refine z_iload_n C dX12_of_32 rfl rfl ?_
  refine z_if_ne (tgt := 42) C dX12_of_33 (by decide) (fun hc => ?_) (fun hc => ?_)
  · replace h := z_neg hc h
    refine z_iload_n C dX12_of_42 rfl rfl ?_
    refine z_iconst (v := 1) C dX12_of_43 (by decide) ?_
    refine z_icmp_ne (tgt := 65) C dX12_of_44 (by decide) (fun hc => ?_) (fun hc => ?_)
    · replace h := z_neg hc h
      refine z_iload_n C dX12_of_65 rfl rfl ?_
      refine z_iconst (v := 2) C dX12_of_66 (by decide) ?_
      refine z_icmp_ne (tgt := 88) C dX12_of_67 (by decide) (fun hc => ?_) (fun hc => ?_)
      · replace h := z_neg hc h
        refine z_iload_n C dX12_of_88 rfl rfl ?_
        refine z_iconst (v := 3) C dX12_of_89 (by decide) ?_
        refine z_icmp_ne (tgt := 111) C dX12_of_90 (by decide) (fun hc => ?_) (fun hc => ?_)
        · replace h := z_neg hc h
          refine z_iload_n C dX12_of_111 rfl rfl ?_
          refine z_iconst (v := 4) C dX12_of_112 (by decide) ?_
          refine z_icmp_ne (tgt := 122) C dX12_of_113 (by decide) (fun hc => ?_) (fun hc => ?_)
          · replace h := z_neg hc h
            refine z_iload_n C dX12_of_122 rfl rfl ?_
            refine z_iconst (v := 5) C dX12_of_123 (by decide) ?_
            refine z_icmp_ne (tgt := 134) C dX12_of_124 (by decide) (fun hc => ?_) (fun hc => ?_)
            · replace h := z_neg hc h
              refine z_aload_n C dX12_of_134 rfl rfl ?_
              refine z_iload_n C dX12_of_135 rfl rfl ?_
              refine z_bipush (v := 6) C dX12_of_136 (by decide) ?_
              refine z_bipush (v := 8) C dX12_of_138 (by decide) ?_
              obtain ⟨r1, σ2, mσ2, h⟩ := z_bnd2 h
              refine z_cvi (As := [.int v2, .int 6, .int 8]) (c := 0) (st := []) C (t12_isIn v2 6 8 mσ2) kvX12_isIn rfl mlX12_142 z_CF12 rfl rfl (by decide) rfl (Nat.le_of_ble_eq_true rfl) dX12_of_140 ?_
              refine z_if_eq (tgt := 153) C dX12_of_143 (by decide) (fun hc => ?_) (fun hc => ?_)
              · replace h := z_pos hc h
                refine z_aload_n C dX12_of_153 rfl rfl ?_
                refine z_iload_n C dX12_of_154 rfl rfl ?_
                refine z_bipush (v := 10) C dX12_of_155 (by decide) ?_
                refine z_bipush (v := 17) C dX12_of_157 (by decide) ?_
                obtain ⟨r3, σ4, mσ4, h⟩ := z_bnd2 h
                refine z_cvi (As := [.int v2, .int 10, .int 17]) (c := 0) (st := []) C (t12_isIn v2 10 17 mσ4) kvX12_isIn rfl mlX12_142 z_CF12 rfl rfl (by decide) rfl (Nat.le_of_ble_eq_true rfl) dX12_of_159 ?_
                refine z_if_eq (tgt := 177) C dX12_of_162 (by decide) (fun hc => ?_) (fun hc => ?_)
                · replace h := z_pos hc h
                  refine z_sipush (v := (-1000)) C dX12_of_177 (by decide) ?_
                  exact z_iret C h dX12_of_180
                · replace h := z_neg hc h
                  refine z_aload_n C dX12_of_165 rfl rfl ?_
                  refine z_iload_n C dX12_of_166 rfl rfl ?_
                  refine z_iload_n C dX12_of_167 rfl rfl ?_
                  refine z_bipush (v := 10) C dX12_of_168 (by decide) ?_
                  refine z_isub C dX12_of_170 ?_
                  obtain ⟨r5, σ6, mσ6, h⟩ := z_bnd2 h
                  refine z_cvi (As := [.int v1, .int (v2 - 10)]) (c := 0) (st := []) C (t12_degreeOf v1 (v2 - 10) mσ6) kvX12_degreeOf rfl mlX12_134 z_CF12 rfl rfl (by decide) rfl (Nat.le_of_ble_eq_true rfl) dX12_of_171 ?_
                  refine z_goto (tgt := 180) C dX12_of_174 (by decide) ?_
                  exact z_iret C h dX12_of_180
              · replace h := z_neg hc h
                refine z_aload_n C dX12_of_146 rfl rfl ?_
                refine z_iload_n C dX12_of_147 rfl rfl ?_
                refine z_iload_n C dX12_of_148 rfl rfl ?_
                obtain ⟨r7, σ8, mσ8, h⟩ := z_bnd2 h
                refine z_cvi (As := [.int v1, .int v2]) (c := 0) (st := []) C (t12_ofPot v1 v2 mσ8) kvX12_ofPot rfl mlX12_419 z_CF12 rfl rfl (by decide) rfl (Nat.le_of_ble_eq_true rfl) dX12_of_149 ?_
                exact z_iret C h dX12_of_152
            · replace h := z_pos hc h
              refine z_aload_n C dX12_of_127 rfl rfl ?_
              refine z_geta (k := 11) (q := 5) C z_CF12 (by decide) flX12_22 rfl rfl dX12_of_128 ?_
              refine z_iload_n C dX12_of_131 rfl rfl ?_
              obtain ⟨b9, h⟩ := z_chk_some h
              refine z_iald C rfl rfl b9 dX12_of_132 ?_
              exact z_iret C h dX12_of_133
          · replace h := z_pos hc h
            refine z_aload_n C dX12_of_116 rfl rfl ?_
            refine z_iload_n C dX12_of_117 rfl rfl ?_
            obtain ⟨r10, σ11, mσ11, h⟩ := z_bnd2 h
            refine z_cvi (As := [.int v1]) (c := 0) (st := []) C (t12_suresOf v1 mσ11) kvX12_suresOf rfl mlX12_327 z_CF12 rfl rfl (by decide) rfl (Nat.le_of_ble_eq_true rfl) dX12_of_118 ?_
            exact z_iret C h dX12_of_121
        · replace h := z_pos hc h
          refine z_iload_n C dX12_of_93 rfl rfl ?_
          refine z_if_eq (tgt := 109) C dX12_of_94 (by decide) (fun hc => ?_) (fun hc => ?_)
          · replace h := z_pos hc h
            refine z_iconst (v := 0) C dX12_of_109 (by decide) ?_
            exact z_iret C h dX12_of_110
          · replace h := z_neg hc h
            refine z_aload_n C dX12_of_97 rfl rfl ?_
            refine z_geta (k := 1) (q := 1) C z_CF12 (by decide) flX12_7 rfl rfl dX12_of_98 ?_
            refine z_bipush (v := 92) C dX12_of_101 (by decide) ?_
            refine z_iload_n C dX12_of_103 rfl rfl ?_
            refine z_iadd C dX12_of_104 ?_
            obtain ⟨b12, h⟩ := z_chk_some h
            refine z_iald C rfl rfl b12 dX12_of_105 ?_
            refine z_goto (tgt := 110) C dX12_of_106 (by decide) ?_
            exact z_iret C h dX12_of_110
      · replace h := z_pos hc h
        refine z_iload_n C dX12_of_70 rfl rfl ?_
        refine z_if_eq (tgt := 86) C dX12_of_71 (by decide) (fun hc => ?_) (fun hc => ?_)
        · replace h := z_pos hc h
          refine z_iconst (v := (-1)) C dX12_of_86 (by decide) ?_
          exact z_iret C h dX12_of_87
        · replace h := z_neg hc h
          refine z_aload_n C dX12_of_74 rfl rfl ?_
          refine z_geta (k := 1) (q := 1) C z_CF12 (by decide) flX12_7 rfl rfl dX12_of_75 ?_
          refine z_bipush (v := 84) C dX12_of_78 (by decide) ?_
          refine z_iload_n C dX12_of_80 rfl rfl ?_
          refine z_iadd C dX12_of_81 ?_
          obtain ⟨b13, h⟩ := z_chk_some h
          refine z_iald C rfl rfl b13 dX12_of_82 ?_
          refine z_goto (tgt := 87) C dX12_of_83 (by decide) ?_
          exact z_iret C h dX12_of_87
    · replace h := z_pos hc h
      refine z_iload_n C dX12_of_47 rfl rfl ?_
      refine z_if_eq (tgt := 63) C dX12_of_48 (by decide) (fun hc => ?_) (fun hc => ?_)
      · replace h := z_pos hc h
        refine z_iconst (v := 0) C dX12_of_63 (by decide) ?_
        exact z_iret C h dX12_of_64
      · replace h := z_neg hc h
        refine z_aload_n C dX12_of_51 rfl rfl ?_
        refine z_geta (k := 1) (q := 1) C z_CF12 (by decide) flX12_7 rfl rfl dX12_of_52 ?_
        refine z_bipush (v := 76) C dX12_of_55 (by decide) ?_
        refine z_iload_n C dX12_of_57 rfl rfl ?_
        refine z_iadd C dX12_of_58 ?_
        obtain ⟨b14, h⟩ := z_chk_some h
        refine z_iald C rfl rfl b14 dX12_of_59 ?_
        refine z_goto (tgt := 64) C dX12_of_60 (by decide) ?_
        exact z_iret C h dX12_of_64
  · replace h := z_pos hc h
    refine z_aload_n C dX12_of_36 rfl rfl ?_
    refine z_iload_n C dX12_of_37 rfl rfl ?_
    obtain ⟨r15, σ16, mσ16, h⟩ := z_bnd2 h
    refine z_cvi (As := [.int v1]) (c := 0) (st := []) C (t12_potOf v1 mσ16) kvX12_potOf rfl mlX12_324 z_CF12 rfl rfl (by decide) rfl (Nat.le_of_ble_eq_true rfl) dX12_of_38 ?_
    exact z_iret C h dX12_of_41
set_option maxHeartbeats 4000000 in
set_option maxRecDepth 100000 in
theorem t12_of {a : Nat → Nat} (p1 : Int32) (p2 : Int32) {σ : z_M} {u : Int32 × z_M} (h : f12_of p1 p2 σ = some u) : z_Mt yX12_of (z_w yX12_of cX12_of 4 (some .int)) 7 S2 a σ [.ref (a 0), .int p1, .int p2] (z_oi u) := by
  refine z_head (lo := [some (.ref (a 0)), some (.int p1), some (.int p2), none]) (by decide) (Nat.le_of_ble_eq_true rfl) ?_ rfl ?_
  · intro i v hv
    exact z_loe (vs := [.ref (a 0), .int p1, .int p2]) (n := 1) rfl (by simp [z_c1i, z_c1r]) i v hv
  · intro X hXa C
    subst hXa
    unfold f12_of at h
    refine z_aload_n C dX12_of_0 rfl rfl ?_
    refine z_iconst (v := 0) C dX12_of_1 (by decide) ?_
    obtain ⟨σ1, eσ1, h⟩ := z_let_some h
    refine z_puti (k := 0) C z_CF12 (by decide) flX12_113 rfl rfl rfl rfl eσ1 dX12_of_2 ?_
    refine z_aload_n C dX12_of_5 rfl rfl ?_
    refine z_iload_n C dX12_of_6 rfl rfl ?_
    obtain ⟨r2, σ3, mσ3, h⟩ := z_bnd2 h
    refine z_cvi (As := [.int p1]) (c := 0) (st := []) C (t12_isHouse p1 mσ3) kvX12_isHouse rfl mlX12_156 z_CF12 rfl rfl (by decide) rfl (Nat.le_of_ble_eq_true rfl) dX12_of_7 ?_
    refine z_if_ne (tgt := 17) C dX12_of_10 (by decide) (fun hc => ?_) (fun hc => ?_)
    · replace h := z_neg hc h
      refine z_aload_n C dX12_of_17 rfl rfl ?_
      refine z_iload_n C dX12_of_18 rfl rfl ?_
      obtain ⟨r4, σ5, mσ5, h⟩ := z_bnd2 h
      refine z_cvi (As := [.int p1]) (c := 0) (st := []) C (t12_potOf p1 mσ5) kvX12_potOf rfl mlX12_324 z_CF12 rfl rfl (by decide) rfl (Nat.le_of_ble_eq_true rfl) dX12_of_19 ?_
      refine z_iconst (v := (-1)) C dX12_of_22 (by decide) ?_
      refine z_icmp_eq (tgt := 30) C dX12_of_23 (by decide) (fun hc => ?_) (fun hc => ?_)
      · replace h := z_pos hc h
        refine z_iconst (v := 0) C dX12_of_30 (by decide) ?_
        exact t12_of_J31 C p1 p2 0 σ5 h
      · replace h := z_neg hc h
        refine z_iconst (v := 1) C dX12_of_26 (by decide) ?_
        refine z_goto (tgt := 31) C dX12_of_27 (by decide) ?_
        exact t12_of_J31 C p1 p2 1 σ5 h
    · replace h := z_pos hc h
      refine z_sipush (v := (-1000)) C dX12_of_13 (by decide) ?_
      exact z_iret C h dX12_of_16
set_option maxHeartbeats 4000000 in
set_option maxRecDepth 100000 in
theorem t12_reason_J39 {X : z_Ct} (C : z_Cx S2 X RX12 cX12_reason 3 2 (some .int)) {u : Int32 × z_M} (σ : z_M) (h : f12_reason_J39 σ = some u) : z_W S2 X 39 [none, none, none] [] σ (z_oi u) := by
  unfold f12_reason_J39 at h
  refine z_iconst (v := (-1)) C dX12_reason_39 (by decide) ?_
  exact z_iret C h dX12_reason_40
set_option maxHeartbeats 4000000 in
set_option maxRecDepth 100000 in
theorem t12_reason {a : Nat → Nat} (p1 : Int32) (p2 : Int32) {σ : z_M} {u : Int32 × z_M} (h : f12_reason p1 p2 σ = some u) : z_Mt yX12_reason (z_w yX12_reason cX12_reason 3 (some .int)) 2 S2 a σ [.ref (a 0), .int p1, .int p2] (z_oi u) := by
  refine z_head (lo := [some (.ref (a 0)), some (.int p1), some (.int p2)]) (by decide) (Nat.le_of_ble_eq_true rfl) ?_ rfl ?_
  · intro i v hv
    exact z_loe (vs := [.ref (a 0), .int p1, .int p2]) (n := 0) rfl (by simp [z_c1i, z_c1r]) i v hv
  · intro X hXa C
    subst hXa
    unfold f12_reason at h
    refine z_aload_n C dX12_reason_0 rfl rfl ?_
    refine z_iconst (v := 0) C dX12_reason_1 (by decide) ?_
    obtain ⟨σ1, eσ1, h⟩ := z_let_some h
    refine z_puti (k := 0) C z_CF12 (by decide) flX12_113 rfl rfl rfl rfl eσ1 dX12_reason_2 ?_
    refine z_aload_n C dX12_reason_5 rfl rfl ?_
    refine z_iload_n C dX12_reason_6 rfl rfl ?_
    refine z_iconst (v := 0) C dX12_reason_7 (by decide) ?_
    refine z_aload_n C dX12_reason_8 rfl rfl ?_
    refine z_geti (k := 36) C z_CF12 (by decide) flX12_297 rfl rfl dX12_reason_9 ?_
    refine z_iconst (v := 1) C dX12_reason_12 (by decide) ?_
    refine z_isub C dX12_reason_13 ?_
    obtain ⟨r2, σ3, mσ3, h⟩ := z_bnd2 h
    refine z_cvi (As := [.int p1, .int 0, .int ((σ1 0 36) - 1)]) (c := 0) (st := []) C (t12_isIn p1 0 ((σ1 0 36) - 1) mσ3) kvX12_isIn rfl mlX12_142 z_CF12 rfl rfl (by decide) rfl (Nat.le_of_ble_eq_true rfl) dX12_reason_14 ?_
    refine z_if_eq (tgt := 39) C dX12_reason_17 (by decide) (fun hc => ?_) (fun hc => ?_)
    · replace h := z_pos hc h
      refine z_kill (lo' := [none, none, none]) [0, 1, 2] rfl ?_
      exact t12_reason_J39 C σ3 h
    · replace h := z_neg hc h
      refine z_aload_n C dX12_reason_20 rfl rfl ?_
      refine z_iload_n C dX12_reason_21 rfl rfl ?_
      refine z_iconst (v := 0) C dX12_reason_22 (by decide) ?_
      refine z_iconst (v := 2) C dX12_reason_23 (by decide) ?_
      obtain ⟨r4, σ5, mσ5, h⟩ := z_bnd2 h
      refine z_cvi (As := [.int p2, .int 0, .int 2]) (c := 0) (st := []) C (t12_isIn p2 0 2 mσ5) kvX12_isIn rfl mlX12_142 z_CF12 rfl rfl (by decide) rfl (Nat.le_of_ble_eq_true rfl) dX12_reason_24 ?_
      refine z_if_eq (tgt := 39) C dX12_reason_27 (by decide) (fun hc => ?_) (fun hc => ?_)
      · replace h := z_pos hc h
        refine z_kill (lo' := [none, none, none]) [0, 1, 2] rfl ?_
        exact t12_reason_J39 C σ5 h
      · replace h := z_neg hc h
        refine z_aload_n C dX12_reason_30 rfl rfl ?_
        refine z_iload_n C dX12_reason_31 rfl rfl ?_
        refine z_iload_n C dX12_reason_32 rfl rfl ?_
        obtain ⟨r6, σ7, mσ7, h⟩ := z_bnd2 h
        refine z_cvi (As := [.int p1, .int p2]) (c := 0) (st := []) C (t12_ofReason p1 p2 mσ7) kvX12_ofReason rfl mlX12_368 z_CF12 rfl rfl (by decide) rfl (Nat.le_of_ble_eq_true rfl) dX12_reason_33 ?_
        refine z_goto (tgt := 40) C dX12_reason_36 (by decide) ?_
        exact z_iret C h dX12_reason_40
set_option maxHeartbeats 4000000 in
set_option maxRecDepth 100000 in
theorem t12_book_J45 {X : z_Ct} (C : z_Cx S2 X RX12 cX12_book 3 2 (some .int)) {u : Int32 × z_M} (σ : z_M) (h : f12_book_J45 σ = some u) : z_W S2 X 45 [none, none, none] [] σ (z_oi u) := by
  unfold f12_book_J45 at h
  refine z_iconst (v := (-1)) C dX12_book_45 (by decide) ?_
  exact z_iret C h dX12_book_46
set_option maxHeartbeats 4000000 in
set_option maxRecDepth 100000 in
theorem t12_book {a : Nat → Nat} (p1 : Int32) (p2 : Int32) {σ : z_M} {u : Int32 × z_M} (h : f12_book p1 p2 σ = some u) : z_Mt yX12_book (z_w yX12_book cX12_book 3 (some .int)) 2 S2 a σ [.ref (a 0), .int p1, .int p2] (z_oi u) := by
  refine z_head (lo := [some (.ref (a 0)), some (.int p1), some (.int p2)]) (by decide) (Nat.le_of_ble_eq_true rfl) ?_ rfl ?_
  · intro i v hv
    exact z_loe (vs := [.ref (a 0), .int p1, .int p2]) (n := 0) rfl (by simp [z_c1i, z_c1r]) i v hv
  · intro X hXa C
    subst hXa
    unfold f12_book at h
    refine z_aload_n C dX12_book_0 rfl rfl ?_
    refine z_iconst (v := 0) C dX12_book_1 (by decide) ?_
    obtain ⟨σ1, eσ1, h⟩ := z_let_some h
    refine z_puti (k := 0) C z_CF12 (by decide) flX12_113 rfl rfl rfl rfl eσ1 dX12_book_2 ?_
    refine z_aload_n C dX12_book_5 rfl rfl ?_
    refine z_iload_n C dX12_book_6 rfl rfl ?_
    refine z_iconst (v := 0) C dX12_book_7 (by decide) ?_
    refine z_aload_n C dX12_book_8 rfl rfl ?_
    refine z_geta (k := 1) (q := 1) C z_CF12 (by decide) flX12_7 rfl rfl dX12_book_9 ?_
    refine z_iconst (v := 2) C dX12_book_12 (by decide) ?_
    obtain ⟨b2, h⟩ := z_chk_some h
    refine z_iald C rfl rfl b2 dX12_book_13 ?_
    refine z_iconst (v := 1) C dX12_book_14 (by decide) ?_
    refine z_isub C dX12_book_15 ?_
    obtain ⟨r3, σ4, mσ4, h⟩ := z_bnd2 h
    refine z_cvi (As := [.int p1, .int 0, .int ((σ1 1 (z_ix 2)) - 1)]) (c := 0) (st := []) C (t12_isIn p1 0 ((σ1 1 (z_ix 2)) - 1) mσ4) kvX12_isIn rfl mlX12_142 z_CF12 rfl rfl (by decide) rfl (Nat.le_of_ble_eq_true rfl) dX12_book_16 ?_
    refine z_if_eq (tgt := 45) C dX12_book_19 (by decide) (fun hc => ?_) (fun hc => ?_)
    · replace h := z_pos hc h
      refine z_kill (lo' := [none, none, none]) [0, 1, 2] rfl ?_
      exact t12_book_J45 C σ4 h
    · replace h := z_neg hc h
      refine z_aload_n C dX12_book_22 rfl rfl ?_
      refine z_iload_n C dX12_book_23 rfl rfl ?_
      refine z_iconst (v := 0) C dX12_book_24 (by decide) ?_
      refine z_iconst (v := 3) C dX12_book_25 (by decide) ?_
      obtain ⟨r5, σ6, mσ6, h⟩ := z_bnd2 h
      refine z_cvi (As := [.int p2, .int 0, .int 3]) (c := 0) (st := []) C (t12_isIn p2 0 3 mσ6) kvX12_isIn rfl mlX12_142 z_CF12 rfl rfl (by decide) rfl (Nat.le_of_ble_eq_true rfl) dX12_book_26 ?_
      refine z_if_eq (tgt := 45) C dX12_book_29 (by decide) (fun hc => ?_) (fun hc => ?_)
      · replace h := z_pos hc h
        refine z_kill (lo' := [none, none, none]) [0, 1, 2] rfl ?_
        exact t12_book_J45 C σ6 h
      · replace h := z_neg hc h
        refine z_aload_n C dX12_book_32 rfl rfl ?_
        refine z_geta (k := 12) (q := 6) C z_CF12 (by decide) flX12_25 rfl rfl dX12_book_33 ?_
        refine z_iconst (v := 4) C dX12_book_36 (by decide) ?_
        refine z_iload_n C dX12_book_37 rfl rfl ?_
        refine z_imul C dX12_book_38 ?_
        refine z_iload_n C dX12_book_39 rfl rfl ?_
        refine z_iadd C dX12_book_40 ?_
        obtain ⟨b7, h⟩ := z_chk_some h
        refine z_iald C rfl rfl b7 dX12_book_41 ?_
        refine z_goto (tgt := 46) C dX12_book_42 (by decide) ?_
        exact z_iret C h dX12_book_46
set_option maxHeartbeats 4000000 in
set_option maxRecDepth 100000 in
theorem t12_first_J87 {X : z_Ct} (C : z_Cx S2 X RX12 cX12_first 6 9 (some .int)) {u : Int32 × z_M} (v2 : Int32) (v3 : Int32) (v4 : Int32) (σ : z_M) (h : f12_first_J87 v2 v3 v4 σ = some u) : z_W S2 X 87 [some (.ref (z_a X 0)), none, some (.int v2), some (.int v3), some (.int v4), none] [] σ (z_oi u) := by
  unfold f12_first_J87 at h
  refine z_aload_n C dX12_first_87 rfl rfl ?_
  refine z_geta (k := 1) (q := 1) C z_CF12 (by decide) flX12_7 rfl rfl dX12_first_88 ?_
  refine z_iconst (v := 3) C dX12_first_91 (by decide) ?_
  obtain ⟨b1, h⟩ := z_chk_some h
  refine z_iald C rfl rfl b1 dX12_first_92 ?_
  refine z_aload_n C dX12_first_93 rfl rfl ?_
  refine z_geta (k := 4) (q := 3) C z_CF12 (by decide) flX12_16 rfl rfl dX12_first_94 ?_
  refine z_iconst (v := 3) C dX12_first_97 (by decide) ?_
  obtain ⟨b2, h⟩ := z_chk_some h
  refine z_iald C rfl rfl b2 dX12_first_98 ?_
  refine z_isub C dX12_first_99 ?_
  refine z_istore (lo' := [some (.ref (z_a X 0)), none, some (.int v2), some (.int v3), some (.int v4), some (.int ((σ 1 (z_ix 3)) - (σ 3 (z_ix 3))))]) C dX12_first_100 (Nat.le_of_ble_eq_true rfl) rfl ?_
  refine z_aload_n C dX12_first_102 rfl rfl ?_
  obtain ⟨⟨⟩, σ4, mσ4, h⟩ := z_bnd2 h
  refine z_cvv (As := []) (c := 0) (st := []) C (t12_endsThought mσ4) kvX12_endsThought rfl mlX12_425 z_CF12 rfl rfl (by decide) rfl (Nat.le_of_ble_eq_true rfl) dX12_first_103 ?_
  refine z_iload_n C dX12_first_106 rfl rfl ?_
  refine z_if_ne (tgt := 114) C dX12_first_107 (by decide) (fun hc => ?_) (fun hc => ?_)
  · replace h := z_neg hc h
    refine z_iload_n C dX12_first_114 rfl rfl ?_
    refine z_iconst (v := 1) C dX12_first_115 (by decide) ?_
    refine z_icmp_ne (tgt := 124) C dX12_first_116 (by decide) (fun hc => ?_) (fun hc => ?_)
    · replace h := z_neg hc h
      refine z_iload C dX12_first_124 rfl ?_
      exact z_iret C h dX12_first_126
    · replace h := z_pos hc h
      refine z_iload C dX12_first_119 rfl ?_
      refine z_goto (tgt := 126) C dX12_first_121 (by decide) ?_
      exact z_iret C h dX12_first_126
  · replace h := z_pos hc h
    refine z_iload_n C dX12_first_110 rfl rfl ?_
    refine z_goto (tgt := 126) C dX12_first_111 (by decide) ?_
    exact z_iret C h dX12_first_126
set_option maxHeartbeats 4000000 in
set_option maxRecDepth 100000 in
theorem t12_first_L40 {X : z_Ct} (C : z_Cx S2 X RX12 cX12_first 6 9 (some .int)) {u : Int32 × z_M} : ∀ (n : Nat) (v1 : Int32) (v2 : Int32) (v3 : Int32) (v4 : Int32) (v5 : Int32) (σ : z_M), f12_first_L40 n v1 v2 v3 v4 v5 σ = some u → z_W S2 X 40 [some (.ref (z_a X 0)), some (.int v1), some (.int v2), some (.int v3), some (.int v4), some (.int v5)] [] σ (z_oi u) := by
  intro n
  induction n with
  | zero => intro v1 v2 v3 v4 v5 σ h; rw [f12_first_L40] at h; cases h
  | succ n ih =>
    intro v1 v2 v3 v4 v5 σ h
    rw [f12_first_L40] at h
    refine z_iload C dX12_first_40 rfl ?_
    refine z_iload_n C dX12_first_42 rfl rfl ?_
    refine z_icmp_ge (tgt := 87) C dX12_first_43 (by decide) (fun hc => ?_) (fun hc => ?_)
    · replace h := z_neg hc h
      refine z_kill (lo' := [some (.ref (z_a X 0)), none, some (.int v2), some (.int v3), some (.int v4), none]) [1, 5] rfl ?_
      exact t12_first_J87 C v2 v3 v4 σ h
    · replace h := z_pos hc h
      refine z_aload_n C dX12_first_46 rfl rfl ?_
      obtain ⟨⟨⟩, σ2, mσ2, h⟩ := z_bnd2 h
      refine z_cvv (As := []) (c := 0) (st := []) C (t12_goesBy mσ2) kvX12_goesBy rfl mlX12_416 z_CF12 rfl rfl (by decide) rfl (Nat.le_of_ble_eq_true rfl) dX12_first_47 ?_
      refine z_iload_n C dX12_first_50 rfl rfl ?_
      refine z_iconst (v := (-1)) C dX12_first_51 (by decide) ?_
      refine z_icmp_ne (tgt := 81) C dX12_first_52 (by decide) (fun hc => ?_) (fun hc => ?_)
      · replace h := z_neg hc h
        refine z_iinc (v := v5 + 1) (lo' := [some (.ref (z_a X 0)), some (.int v1), some (.int v2), some (.int v3), some (.int v4), some (.int (v5 + 1))]) C dX12_first_81 rfl rfl rfl ?_
        refine z_goto (tgt := 40) C dX12_first_84 (by decide) ?_
        exact ih v1 v2 v3 v4 (v5 + 1) σ2 h
      · replace h := z_pos hc h
        refine z_aload_n C dX12_first_55 rfl rfl ?_
        refine z_geti (k := 44) C z_CF12 (by decide) flX12_395 rfl rfl dX12_first_56 ?_
        refine z_iconst (v := (-1)) C dX12_first_59 (by decide) ?_
        refine z_icmp_ne (tgt := 66) C dX12_first_60 (by decide) (fun hc => ?_) (fun hc => ?_)
        · replace h := z_neg hc h
          refine z_aload_n C dX12_first_66 rfl rfl ?_
          refine z_geti (k := 44) C z_CF12 (by decide) flX12_395 rfl rfl dX12_first_67 ?_
          refine z_istore_n (lo' := [some (.ref (z_a X 0)), some (.int v1), some (.int v2), some (.int (σ2 0 44)), some (.int v4), some (.int v5)]) C dX12_first_70 rfl (Nat.le_of_ble_eq_true rfl) rfl ?_
          refine z_aload_n C dX12_first_71 rfl rfl ?_
          refine z_geta (k := 1) (q := 1) C z_CF12 (by decide) flX12_7 rfl rfl dX12_first_72 ?_
          refine z_iconst (v := 0) C dX12_first_75 (by decide) ?_
          obtain ⟨b3, h⟩ := z_chk_some h
          refine z_iald C rfl rfl b3 dX12_first_76 ?_
          refine z_iconst (v := 1) C dX12_first_77 (by decide) ?_
          refine z_isub C dX12_first_78 ?_
          refine z_istore (lo' := [some (.ref (z_a X 0)), some (.int v1), some (.int v2), some (.int (σ2 0 44)), some (.int ((σ2 1 (z_ix 0)) - 1)), some (.int v5)]) C dX12_first_79 (Nat.le_of_ble_eq_true rfl) rfl ?_
          refine z_iinc (v := v5 + 1) (lo' := [some (.ref (z_a X 0)), some (.int v1), some (.int v2), some (.int (σ2 0 44)), some (.int ((σ2 1 (z_ix 0)) - 1)), some (.int (v5 + 1))]) C dX12_first_81 rfl rfl rfl ?_
          refine z_goto (tgt := 40) C dX12_first_84 (by decide) ?_
          exact ih v1 v2 (σ2 0 44) ((σ2 1 (z_ix 0)) - 1) (v5 + 1) σ2 h
        · replace h := z_pos hc h
          refine z_goto (tgt := 81) C dX12_first_63 (by decide) ?_
          refine z_iinc (v := v5 + 1) (lo' := [some (.ref (z_a X 0)), some (.int v1), some (.int v2), some (.int v3), some (.int v4), some (.int (v5 + 1))]) C dX12_first_81 rfl rfl rfl ?_
          refine z_goto (tgt := 40) C dX12_first_84 (by decide) ?_
          exact ih v1 v2 v3 v4 (v5 + 1) σ2 h
set_option maxHeartbeats 4000000 in
set_option maxRecDepth 100000 in
theorem t12_first {a : Nat → Nat} (p1 : Int32) (p2 : Int32) {σ : z_M} {u : Int32 × z_M} (h : f12_first p1 p2 σ = some u) : z_Mt yX12_first (z_w yX12_first cX12_first 6 (some .int)) 9 S2 a σ [.ref (a 0), .int p1, .int p2] (z_oi u) := by
  refine z_head (lo := [some (.ref (a 0)), some (.int p1), some (.int p2), none, none, none]) (by decide) (Nat.le_of_ble_eq_true rfl) ?_ rfl ?_
  · intro i v hv
    exact z_loe (vs := [.ref (a 0), .int p1, .int p2]) (n := 3) rfl (by simp [z_c1i, z_c1r]) i v hv
  · intro X hXa C
    subst hXa
    unfold f12_first at h
    refine z_aload_n C dX12_first_0 rfl rfl ?_
    refine z_iconst (v := 0) C dX12_first_1 (by decide) ?_
    obtain ⟨σ1, eσ1, h⟩ := z_let_some h
    refine z_puti (k := 0) C z_CF12 (by decide) flX12_113 rfl rfl rfl rfl eσ1 dX12_first_2 ?_
    refine z_aload_n C dX12_first_5 rfl rfl ?_
    refine z_iload_n C dX12_first_6 rfl rfl ?_
    refine z_iconst (v := 1) C dX12_first_7 (by decide) ?_
    refine z_bipush (v := 60) C dX12_first_8 (by decide) ?_
    obtain ⟨r2, σ3, mσ3, h⟩ := z_bnd2 h
    refine z_cvi (As := [.int p1, .int 1, .int 60]) (c := 0) (st := []) C (t12_isIn p1 1 60 mσ3) kvX12_isIn rfl mlX12_142 z_CF12 rfl rfl (by decide) rfl (Nat.le_of_ble_eq_true rfl) dX12_first_10 ?_
    refine z_if_eq (tgt := 26) C dX12_first_13 (by decide) (fun hc => ?_) (fun hc => ?_)
    · replace h := z_pos hc h
      refine z_iconst (v := (-1)) C dX12_first_26 (by decide) ?_
      exact z_iret C h dX12_first_27
    · replace h := z_neg hc h
      refine z_aload_n C dX12_first_16 rfl rfl ?_
      refine z_iload_n C dX12_first_17 rfl rfl ?_
      refine z_iconst (v := 0) C dX12_first_18 (by decide) ?_
      refine z_iconst (v := 2) C dX12_first_19 (by decide) ?_
      obtain ⟨r4, σ5, mσ5, h⟩ := z_bnd2 h
      refine z_cvi (As := [.int p2, .int 0, .int 2]) (c := 0) (st := []) C (t12_isIn p2 0 2 mσ5) kvX12_isIn rfl mlX12_142 z_CF12 rfl rfl (by decide) rfl (Nat.le_of_ble_eq_true rfl) dX12_first_20 ?_
      refine z_if_ne (tgt := 28) C dX12_first_23 (by decide) (fun hc => ?_) (fun hc => ?_)
      · replace h := z_neg hc h
        refine z_iconst (v := (-1)) C dX12_first_28 (by decide) ?_
        refine z_istore_n (lo' := [some (.ref (z_a X 0)), some (.int p1), some (.int p2), some (.int (-1)), none, none]) C dX12_first_29 rfl (Nat.le_of_ble_eq_true rfl) rfl ?_
        refine z_iconst (v := (-1)) C dX12_first_30 (by decide) ?_
        refine z_istore (lo' := [some (.ref (z_a X 0)), some (.int p1), some (.int p2), some (.int (-1)), some (.int (-1)), none]) C dX12_first_31 (Nat.le_of_ble_eq_true rfl) rfl ?_
        refine z_aload_n C dX12_first_33 rfl rfl ?_
        obtain ⟨⟨⟩, σ7, mσ7, h⟩ := z_bnd2 h
        refine z_cvv (As := []) (c := 0) (st := []) C (t12_thinks mσ7) kvX12_thinks rfl mlX12_422 z_CF12 rfl rfl (by decide) rfl (Nat.le_of_ble_eq_true rfl) dX12_first_34 ?_
        refine z_iconst (v := 0) C dX12_first_37 (by decide) ?_
        refine z_istore (lo' := [some (.ref (z_a X 0)), some (.int p1), some (.int p2), some (.int (-1)), some (.int (-1)), some (.int 0)]) C dX12_first_38 (Nat.le_of_ble_eq_true rfl) rfl ?_
        exact t12_first_L40 C _ p1 p2 (-1) (-1) 0 σ7 h
      · replace h := z_pos hc h
        refine z_iconst (v := (-1)) C dX12_first_26 (by decide) ?_
        exact z_iret C h dX12_first_27
set_option maxHeartbeats 4000000 in
set_option maxRecDepth 100000 in
theorem t12_findsNeeds_J116 {X : z_Ct} (C : z_Cx S2 X RX12 cX12_findsNeeds 3 3 none) {u : Unit × z_M} {k2 : Int32 → z_M → Option (Unit × z_M)} (hr2 : ∀ (v1 : Int32) (σ : z_M), k2 v1 σ = some u → z_W S2 X 2 [some (.ref (z_a X 0)), some (.int v1), none] [] σ (z_ov u)) (v1 : Int32) (σ : z_M) (h : f12_findsNeeds_J116 k2 v1 σ = some u) : z_W S2 X 116 [some (.ref (z_a X 0)), some (.int v1), none] [] σ (z_ov u) := by
  unfold f12_findsNeeds_J116 at h
  refine z_iinc (v := v1 + 1) (lo' := [some (.ref (z_a X 0)), some (.int (v1 + 1)), none]) C dX12_findsNeeds_116 rfl rfl rfl ?_
  refine z_goto (tgt := 2) C dX12_findsNeeds_119 (by decide) ?_
  exact hr2 (v1 + 1) σ h
set_option maxHeartbeats 4000000 in
set_option maxRecDepth 100000 in
theorem t12_findsNeeds_L49 {X : z_Ct} (C : z_Cx S2 X RX12 cX12_findsNeeds 3 3 none) {u : Unit × z_M} {k2 : Int32 → z_M → Option (Unit × z_M)} (hr2 : ∀ (v1 : Int32) (σ : z_M), k2 v1 σ = some u → z_W S2 X 2 [some (.ref (z_a X 0)), some (.int v1), none] [] σ (z_ov u)) : ∀ (n : Nat) (v1 : Int32) (v2 : Int32) (σ : z_M), f12_findsNeeds_L49 k2 n v1 v2 σ = some u → z_W S2 X 49 [some (.ref (z_a X 0)), some (.int v1), some (.int v2)] [] σ (z_ov u) := by
  intro n
  induction n with
  | zero => intro v1 v2 σ h; rw [f12_findsNeeds_L49] at h; cases h
  | succ n ih =>
    intro v1 v2 σ h
    rw [f12_findsNeeds_L49] at h
    refine z_iload_n C dX12_findsNeeds_49 rfl rfl ?_
    refine z_aload_n C dX12_findsNeeds_50 rfl rfl ?_
    refine z_geti (k := 38) C z_CF12 (by decide) flX12_303 rfl rfl dX12_findsNeeds_51 ?_
    refine z_icmp_ge (tgt := 116) C dX12_findsNeeds_54 (by decide) (fun hc => ?_) (fun hc => ?_)
    · replace h := z_neg hc h
      refine z_kill (lo' := [some (.ref (z_a X 0)), some (.int v1), none]) [2] rfl ?_
      exact t12_findsNeeds_J116 C hr2 v1 σ h
    · replace h := z_pos hc h
      refine z_aload_n C dX12_findsNeeds_57 rfl rfl ?_
      refine z_geta (k := 39) (q := 18) C z_CF12 (by decide) flX12_65 rfl rfl dX12_findsNeeds_58 ?_
      refine z_iconst (v := 3) C dX12_findsNeeds_61 (by decide) ?_
      refine z_iload_n C dX12_findsNeeds_62 rfl rfl ?_
      refine z_imul C dX12_findsNeeds_63 ?_
      obtain ⟨b1, h⟩ := z_chk_some h
      refine z_iald C rfl rfl b1 dX12_findsNeeds_64 ?_
      refine z_iload_n C dX12_findsNeeds_65 rfl rfl ?_
      refine z_icmp_ne (tgt := 110) C dX12_findsNeeds_66 (by decide) (fun hc => ?_) (fun hc => ?_)
      · replace h := z_neg hc h
        refine z_iinc (v := v2 + 1) (lo' := [some (.ref (z_a X 0)), some (.int v1), some (.int (v2 + 1))]) C dX12_findsNeeds_110 rfl rfl rfl ?_
        refine z_goto (tgt := 49) C dX12_findsNeeds_113 (by decide) ?_
        exact ih v1 (v2 + 1) σ h
      · replace h := z_pos hc h
        refine z_aload_n C dX12_findsNeeds_69 rfl rfl ?_
        refine z_geta (k := 39) (q := 18) C z_CF12 (by decide) flX12_65 rfl rfl dX12_findsNeeds_70 ?_
        refine z_iconst (v := 3) C dX12_findsNeeds_73 (by decide) ?_
        refine z_iload_n C dX12_findsNeeds_74 rfl rfl ?_
        refine z_imul C dX12_findsNeeds_75 ?_
        refine z_iconst (v := 1) C dX12_findsNeeds_76 (by decide) ?_
        refine z_iadd C dX12_findsNeeds_77 ?_
        obtain ⟨b2, h⟩ := z_chk_some h
        refine z_iald C rfl rfl b2 dX12_findsNeeds_78 ?_
        refine z_iconst (v := 1) C dX12_findsNeeds_79 (by decide) ?_
        refine z_icmp_ne (tgt := 110) C dX12_findsNeeds_80 (by decide) (fun hc => ?_) (fun hc => ?_)
        · replace h := z_neg hc h
          refine z_iinc (v := v2 + 1) (lo' := [some (.ref (z_a X 0)), some (.int v1), some (.int (v2 + 1))]) C dX12_findsNeeds_110 rfl rfl rfl ?_
          refine z_goto (tgt := 49) C dX12_findsNeeds_113 (by decide) ?_
          exact ih v1 (v2 + 1) σ h
        · replace h := z_pos hc h
          refine z_aload_n C dX12_findsNeeds_83 rfl rfl ?_
          refine z_geta (k := 45) (q := 22) C z_CF12 (by decide) flX12_77 rfl rfl dX12_findsNeeds_84 ?_
          refine z_iload_n C dX12_findsNeeds_87 rfl rfl ?_
          refine z_aload_n C dX12_findsNeeds_88 rfl rfl ?_
          refine z_geta (k := 45) (q := 22) C z_CF12 (by decide) flX12_77 rfl rfl dX12_findsNeeds_89 ?_
          refine z_iload_n C dX12_findsNeeds_92 rfl rfl ?_
          obtain ⟨b3, h⟩ := z_chk_some h
          refine z_iald C rfl rfl b3 dX12_findsNeeds_93 ?_
          refine z_iconst (v := 1) C dX12_findsNeeds_94 (by decide) ?_
          refine z_aload_n C dX12_findsNeeds_95 rfl rfl ?_
          refine z_geta (k := 39) (q := 18) C z_CF12 (by decide) flX12_65 rfl rfl dX12_findsNeeds_96 ?_
          refine z_iconst (v := 3) C dX12_findsNeeds_99 (by decide) ?_
          refine z_iload_n C dX12_findsNeeds_100 rfl rfl ?_
          refine z_imul C dX12_findsNeeds_101 ?_
          refine z_iconst (v := 2) C dX12_findsNeeds_102 (by decide) ?_
          refine z_iadd C dX12_findsNeeds_103 ?_
          obtain ⟨b4, h⟩ := z_chk_some h
          refine z_iald C rfl rfl b4 dX12_findsNeeds_104 ?_
          refine z_ishl C dX12_findsNeeds_105 ?_
          refine z_iconst (v := (-1)) C dX12_findsNeeds_106 (by decide) ?_
          refine z_ixor C dX12_findsNeeds_107 ?_
          refine z_iand C dX12_findsNeeds_108 ?_
          obtain ⟨b5, h⟩ := z_chk_some h
          obtain ⟨σ6, eσ6, h⟩ := z_let_some h
          refine z_iast C rfl rfl b5 eσ6 dX12_findsNeeds_109 ?_
          refine z_iinc (v := v2 + 1) (lo' := [some (.ref (z_a X 0)), some (.int v1), some (.int (v2 + 1))]) C dX12_findsNeeds_110 rfl rfl rfl ?_
          refine z_goto (tgt := 49) C dX12_findsNeeds_113 (by decide) ?_
          exact ih v1 (v2 + 1) σ6 h
set_option maxHeartbeats 4000000 in
set_option maxRecDepth 100000 in
theorem t12_findsNeeds_L2 {X : z_Ct} (C : z_Cx S2 X RX12 cX12_findsNeeds 3 3 none) {u : Unit × z_M} : ∀ (n : Nat) (v1 : Int32) (σ : z_M), f12_findsNeeds_L2 n v1 σ = some u → z_W S2 X 2 [some (.ref (z_a X 0)), some (.int v1), none] [] σ (z_ov u) := by
  intro n
  induction n with
  | zero => intro v1 σ h; rw [f12_findsNeeds_L2] at h; cases h
  | succ n ih =>
    intro v1 σ h
    rw [f12_findsNeeds_L2] at h
    refine z_iload_n C dX12_findsNeeds_2 rfl rfl ?_
    refine z_aload_n C dX12_findsNeeds_3 rfl rfl ?_
    refine z_geti (k := 6) C z_CF12 (by decide) flX12_131 rfl rfl dX12_findsNeeds_4 ?_
    refine z_icmp_ge (tgt := 122) C dX12_findsNeeds_7 (by decide) (fun hc => ?_) (fun hc => ?_)
    · replace h := z_neg hc h
      exact z_vret C h dX12_findsNeeds_122
    · replace h := z_pos hc h
      refine z_aload_n C dX12_findsNeeds_10 rfl rfl ?_
      refine z_geta (k := 45) (q := 22) C z_CF12 (by decide) flX12_77 rfl rfl dX12_findsNeeds_11 ?_
      refine z_iload_n C dX12_findsNeeds_14 rfl rfl ?_
      refine z_aload_n C dX12_findsNeeds_15 rfl rfl ?_
      refine z_iload_n C dX12_findsNeeds_16 rfl rfl ?_
      obtain ⟨r1, σ2, mσ2, h⟩ := z_bnd2 h
      refine z_cvi (As := [.int v1]) (c := 0) (st := [.int v1, .ref (z_a X 22)]) C (t12_suresOf v1 mσ2) kvX12_suresOf rfl mlX12_327 z_CF12 rfl rfl (by decide) rfl (Nat.le_of_ble_eq_true rfl) dX12_findsNeeds_17 ?_
      obtain ⟨b3, h⟩ := z_chk_some h
      obtain ⟨σ4, eσ4, h⟩ := z_let_some h
      refine z_iast C rfl rfl b3 eσ4 dX12_findsNeeds_20 ?_
      refine z_aload_n C dX12_findsNeeds_21 rfl rfl ?_
      refine z_geta (k := 46) (q := 23) C z_CF12 (by decide) flX12_80 rfl rfl dX12_findsNeeds_22 ?_
      refine z_iload_n C dX12_findsNeeds_25 rfl rfl ?_
      refine z_aload_n C dX12_findsNeeds_26 rfl rfl ?_
      refine z_iconst (v := 0) C dX12_findsNeeds_27 (by decide) ?_
      refine z_aload_n C dX12_findsNeeds_28 rfl rfl ?_
      refine z_aload_n C dX12_findsNeeds_29 rfl rfl ?_
      refine z_geta (k := 45) (q := 22) C z_CF12 (by decide) flX12_77 rfl rfl dX12_findsNeeds_30 ?_
      refine z_iload_n C dX12_findsNeeds_33 rfl rfl ?_
      obtain ⟨b5, h⟩ := z_chk_some h
      refine z_iald C rfl rfl b5 dX12_findsNeeds_34 ?_
      obtain ⟨r6, σ7, mσ7, h⟩ := z_bnd2 h
      refine z_cvi (As := [.int (σ4 22 (z_ix v1))]) (c := 0) (st := [.int 0, .ref (z_a X 0), .int v1, .ref (z_a X 23)]) C (t12_onesOf (σ4 22 (z_ix v1)) mσ7) kvX12_onesOf rfl mlX12_330 z_CF12 rfl rfl (by decide) rfl (Nat.le_of_ble_eq_true rfl) dX12_findsNeeds_35 ?_
      refine z_aload_n C dX12_findsNeeds_38 rfl rfl ?_
      obtain ⟨r8, σ9, mσ9, h⟩ := z_bnd2 h
      refine z_cvi (As := []) (c := 0) (st := [.int r6, .int 0, .ref (z_a X 0), .int v1, .ref (z_a X 23)]) C (t12_most mσ9) kvX12_most rfl mlX12_398 z_CF12 rfl rfl (by decide) rfl (Nat.le_of_ble_eq_true rfl) dX12_findsNeeds_39 ?_
      refine z_isub C dX12_findsNeeds_42 ?_
      obtain ⟨r10, σ11, mσ11, h⟩ := z_bnd2 h
      refine z_cvi (As := [.int 0, .int (r6 - r8)]) (c := 0) (st := [.int v1, .ref (z_a X 23)]) C (t12_greater 0 (r6 - r8) mσ11) kvX12_greater rfl mlX12_380 z_CF12 rfl rfl (by decide) rfl (Nat.le_of_ble_eq_true rfl) dX12_findsNeeds_43 ?_
      obtain ⟨b12, h⟩ := z_chk_some h
      obtain ⟨σ13, eσ13, h⟩ := z_let_some h
      refine z_iast C rfl rfl b12 eσ13 dX12_findsNeeds_46 ?_
      refine z_iconst (v := 0) C dX12_findsNeeds_47 (by decide) ?_
      refine z_istore_n (lo' := [some (.ref (z_a X 0)), some (.int v1), some (.int 0)]) C dX12_findsNeeds_48 rfl (Nat.le_of_ble_eq_true rfl) rfl ?_
      exact t12_findsNeeds_L49 C ih _ v1 0 σ13 h
set_option maxHeartbeats 4000000 in
set_option maxRecDepth 100000 in
theorem t12_findsNeeds {a : Nat → Nat} {σ : z_M} {u : Unit × z_M} (h : f12_findsNeeds σ = some u) : z_Mt yX12_findsNeeds (z_w yX12_findsNeeds cX12_findsNeeds 3 none) 3 S2 a σ [.ref (a 0)] (z_ov u) := by
  refine z_head (lo := [some (.ref (a 0)), none, none]) (by decide) (Nat.le_of_ble_eq_true rfl) ?_ rfl ?_
  · intro i v hv
    exact z_loe (vs := [.ref (a 0)]) (n := 2) rfl (by simp [z_c1i, z_c1r]) i v hv
  · intro X hXa C
    subst hXa
    unfold f12_findsNeeds at h
    refine z_iconst (v := 0) C dX12_findsNeeds_0 (by decide) ?_
    refine z_istore_n (lo' := [some (.ref (z_a X 0)), some (.int 0), none]) C dX12_findsNeeds_1 rfl (Nat.le_of_ble_eq_true rfl) rfl ?_
    exact t12_findsNeeds_L2 C _ 0 σ h
set_option maxHeartbeats 4000000 in
set_option maxRecDepth 100000 in
theorem t12_freeThing_L2 {X : z_Ct} (C : z_Cx S2 X RX12 cX12_freeThing 3 1 (some .int)) {u : Int32 × z_M} : ∀ (n : Nat) (v1 : Int32) (v2 : Int32) (σ : z_M), f12_freeThing_L2 n v1 v2 σ = some u → z_W S2 X 2 [some (.ref (z_a X 0)), some (.int v1), some (.int v2)] [] σ (z_oi u) := by
  intro n
  induction n with
  | zero => intro v1 v2 σ h; rw [f12_freeThing_L2] at h; cases h
  | succ n ih =>
    intro v1 v2 σ h
    rw [f12_freeThing_L2] at h
    refine z_iload_n C dX12_freeThing_2 rfl rfl ?_
    refine z_bipush (v := 8) C dX12_freeThing_3 (by decide) ?_
    refine z_icmp_ge (tgt := 47) C dX12_freeThing_5 (by decide) (fun hc => ?_) (fun hc => ?_)
    · replace h := z_neg hc h
      refine z_iconst (v := (-1)) C dX12_freeThing_47 (by decide) ?_
      exact z_iret C h dX12_freeThing_48
    · replace h := z_pos hc h
      refine z_aload_n C dX12_freeThing_8 rfl rfl ?_
      refine z_geta (k := 45) (q := 22) C z_CF12 (by decide) flX12_77 rfl rfl dX12_freeThing_9 ?_
      refine z_iload_n C dX12_freeThing_12 rfl rfl ?_
      obtain ⟨b1, h⟩ := z_chk_some h
      refine z_iald C rfl rfl b1 dX12_freeThing_13 ?_
      refine z_aload_n C dX12_freeThing_14 rfl rfl ?_
      refine z_geta (k := 47) (q := 24) C z_CF12 (by decide) flX12_83 rfl rfl dX12_freeThing_15 ?_
      refine z_iload_n C dX12_freeThing_18 rfl rfl ?_
      obtain ⟨b2, h⟩ := z_chk_some h
      refine z_iald C rfl rfl b2 dX12_freeThing_19 ?_
      refine z_iconst (v := (-1)) C dX12_freeThing_20 (by decide) ?_
      refine z_ixor C dX12_freeThing_21 ?_
      refine z_iand C dX12_freeThing_22 ?_
      refine z_iconst (v := 1) C dX12_freeThing_23 (by decide) ?_
      refine z_iload_n C dX12_freeThing_24 rfl rfl ?_
      refine z_ishl C dX12_freeThing_25 ?_
      refine z_iand C dX12_freeThing_26 ?_
      refine z_if_eq (tgt := 41) C dX12_freeThing_27 (by decide) (fun hc => ?_) (fun hc => ?_)
      · replace h := z_pos hc h
        refine z_iinc (v := v2 + 1) (lo' := [some (.ref (z_a X 0)), some (.int v1), some (.int (v2 + 1))]) C dX12_freeThing_41 rfl rfl rfl ?_
        refine z_goto (tgt := 2) C dX12_freeThing_44 (by decide) ?_
        exact ih v1 (v2 + 1) σ h
      · replace h := z_neg hc h
        refine z_aload_n C dX12_freeThing_30 rfl rfl ?_
        refine z_geta (k := 48) (q := 25) C z_CF12 (by decide) flX12_86 rfl rfl dX12_freeThing_31 ?_
        refine z_iload_n C dX12_freeThing_34 rfl rfl ?_
        obtain ⟨b3, h⟩ := z_chk_some h
        refine z_iald C rfl rfl b3 dX12_freeThing_35 ?_
        refine z_if_le (tgt := 41) C dX12_freeThing_36 (by decide) (fun hc => ?_) (fun hc => ?_)
        · replace h := z_neg hc h
          refine z_iinc (v := v2 + 1) (lo' := [some (.ref (z_a X 0)), some (.int v1), some (.int (v2 + 1))]) C dX12_freeThing_41 rfl rfl rfl ?_
          refine z_goto (tgt := 2) C dX12_freeThing_44 (by decide) ?_
          exact ih v1 (v2 + 1) σ h
        · replace h := z_pos hc h
          refine z_iload_n C dX12_freeThing_39 rfl rfl ?_
          exact z_iret C h dX12_freeThing_40
set_option maxHeartbeats 4000000 in
set_option maxRecDepth 100000 in
theorem t12_freeThing {a : Nat → Nat} (p1 : Int32) {σ : z_M} {u : Int32 × z_M} (h : f12_freeThing p1 σ = some u) : z_Mt yX12_freeThing (z_w yX12_freeThing cX12_freeThing 3 (some .int)) 1 S2 a σ [.ref (a 0), .int p1] (z_oi u) := by
  refine z_head (lo := [some (.ref (a 0)), some (.int p1), none]) (by decide) (Nat.le_of_ble_eq_true rfl) ?_ rfl ?_
  · intro i v hv
    exact z_loe (vs := [.ref (a 0), .int p1]) (n := 1) rfl (by simp [z_c1i, z_c1r]) i v hv
  · intro X hXa C
    subst hXa
    unfold f12_freeThing at h
    refine z_iconst (v := 0) C dX12_freeThing_0 (by decide) ?_
    refine z_istore_n (lo' := [some (.ref (z_a X 0)), some (.int p1), some (.int 0)]) C dX12_freeThing_1 rfl (Nat.le_of_ble_eq_true rfl) rfl ?_
    exact t12_freeThing_L2 C _ p1 0 σ h
set_option maxHeartbeats 4000000 in
set_option maxRecDepth 100000 in
theorem t12_reaches_J25 {X : z_Ct} (C : z_Cx S2 X RX12 cX12_reaches 7 2 (some .int)) {u : Int32 × z_M} {k2 : Int32 → Int32 → Int32 → z_M → Option (Int32 × z_M)} (hr2 : ∀ (v1 : Int32) (v2 : Int32) (v3 : Int32) (σ : z_M), k2 v1 v2 v3 σ = some u → z_W S2 X 2 [some (.ref (z_a X 0)), some (.int v1), some (.int v2), some (.int v3), none, none, none] [] σ (z_oi u)) (v1 : Int32) (v2 : Int32) (v3 : Int32) (s1 : Int32) (s2 : Int32) (σ : z_M) (h : f12_reaches_J25 k2 v1 v2 v3 s1 s2 σ = some u) : z_W S2 X 25 [some (.ref (z_a X 0)), some (.int v1), some (.int v2), some (.int v3), none, none, none] [.int s2, .int s1, .ref (z_a X 26)] σ (z_oi u) := by
  unfold f12_reaches_J25 at h
  obtain ⟨b1, h⟩ := z_chk_some h
  obtain ⟨σ2, eσ2, h⟩ := z_let_some h
  refine z_iast C rfl rfl b1 eσ2 dX12_reaches_25 ?_
  refine z_iinc (v := v3 + 1) (lo' := [some (.ref (z_a X 0)), some (.int v1), some (.int v2), some (.int (v3 + 1)), none, none, none]) C dX12_reaches_26 rfl rfl rfl ?_
  refine z_goto (tgt := 2) C dX12_reaches_29 (by decide) ?_
  exact hr2 v1 v2 (v3 + 1) σ2 h
set_option maxHeartbeats 4000000 in
set_option maxRecDepth 100000 in
theorem t12_reaches_J167 {X : z_Ct} (C : z_Cx S2 X RX12 cX12_reaches 7 2 (some .int)) {u : Int32 × z_M} {k34 : Int32 → Int32 → z_M → Option (Int32 × z_M)} {k43 : Int32 → Int32 → Int32 → z_M → Option (Int32 × z_M)} (hr34 : ∀ (v1 : Int32) (v3 : Int32) (σ : z_M), k34 v1 v3 σ = some u → z_W S2 X 34 [some (.ref (z_a X 0)), some (.int v1), none, some (.int v3), none, none, none] [] σ (z_oi u)) (hr43 : ∀ (v1 : Int32) (v3 : Int32) (v4 : Int32) (σ : z_M), k43 v1 v3 v4 σ = some u → z_W S2 X 43 [some (.ref (z_a X 0)), some (.int v1), none, some (.int v3), some (.int v4), none, none] [] σ (z_oi u)) (v1 : Int32) (v3 : Int32) (v4 : Int32) (σ : z_M) (h : f12_reaches_J167 k34 k43 v1 v3 v4 σ = some u) : z_W S2 X 167 [some (.ref (z_a X 0)), some (.int v1), none, some (.int v3), some (.int v4), none, none] [] σ (z_oi u) := by
  unfold f12_reaches_J167 at h
  refine z_iinc (v := v4 + 1) (lo' := [some (.ref (z_a X 0)), some (.int v1), none, some (.int v3), some (.int (v4 + 1)), none, none]) C dX12_reaches_167 rfl rfl rfl ?_
  refine z_goto (tgt := 43) C dX12_reaches_170 (by decide) ?_
  exact hr43 v1 v3 (v4 + 1) σ h
set_option maxHeartbeats 4000000 in
set_option maxRecDepth 100000 in
theorem t12_reaches_L82 {X : z_Ct} (C : z_Cx S2 X RX12 cX12_reaches 7 2 (some .int)) {u : Int32 × z_M} {k34 : Int32 → Int32 → z_M → Option (Int32 × z_M)} {k43 : Int32 → Int32 → Int32 → z_M → Option (Int32 × z_M)} (hr34 : ∀ (v1 : Int32) (v3 : Int32) (σ : z_M), k34 v1 v3 σ = some u → z_W S2 X 34 [some (.ref (z_a X 0)), some (.int v1), none, some (.int v3), none, none, none] [] σ (z_oi u)) (hr43 : ∀ (v1 : Int32) (v3 : Int32) (v4 : Int32) (σ : z_M), k43 v1 v3 v4 σ = some u → z_W S2 X 43 [some (.ref (z_a X 0)), some (.int v1), none, some (.int v3), some (.int v4), none, none] [] σ (z_oi u)) : ∀ (n : Nat) (v1 : Int32) (v3 : Int32) (v4 : Int32) (v5 : Int32) (σ : z_M), f12_reaches_L82 k34 k43 n v1 v3 v4 v5 σ = some u → z_W S2 X 82 [some (.ref (z_a X 0)), some (.int v1), none, some (.int v3), some (.int v4), some (.int v5), none] [] σ (z_oi u) := by
  intro n
  induction n with
  | zero => intro v1 v3 v4 v5 σ h; rw [f12_reaches_L82] at h; cases h
  | succ n ih =>
    intro v1 v3 v4 v5 σ h
    rw [f12_reaches_L82] at h
    refine z_iload C dX12_reaches_82 rfl ?_
    refine z_aload_n C dX12_reaches_84 rfl rfl ?_
    refine z_geti (k := 6) C z_CF12 (by decide) flX12_131 rfl rfl dX12_reaches_85 ?_
    refine z_icmp_ge (tgt := 167) C dX12_reaches_88 (by decide) (fun hc => ?_) (fun hc => ?_)
    · replace h := z_neg hc h
      refine z_kill (lo' := [some (.ref (z_a X 0)), some (.int v1), none, some (.int v3), some (.int v4), none, none]) [5] rfl ?_
      exact t12_reaches_J167 C hr34 hr43 v1 v3 v4 σ h
    · replace h := z_pos hc h
      refine z_aload_n C dX12_reaches_91 rfl rfl ?_
      refine z_geta (k := 45) (q := 22) C z_CF12 (by decide) flX12_77 rfl rfl dX12_reaches_92 ?_
      refine z_iload C dX12_reaches_95 rfl ?_
      obtain ⟨b1, h⟩ := z_chk_some h
      refine z_iald C rfl rfl b1 dX12_reaches_97 ?_
      refine z_aload_n C dX12_reaches_98 rfl rfl ?_
      refine z_geta (k := 47) (q := 24) C z_CF12 (by decide) flX12_83 rfl rfl dX12_reaches_99 ?_
      refine z_iload C dX12_reaches_102 rfl ?_
      obtain ⟨b2, h⟩ := z_chk_some h
      refine z_iald C rfl rfl b2 dX12_reaches_104 ?_
      refine z_iconst (v := (-1)) C dX12_reaches_105 (by decide) ?_
      refine z_ixor C dX12_reaches_106 ?_
      refine z_iand C dX12_reaches_107 ?_
      refine z_aload_n C dX12_reaches_108 rfl rfl ?_
      refine z_geta (k := 47) (q := 24) C z_CF12 (by decide) flX12_83 rfl rfl dX12_reaches_109 ?_
      refine z_iload C dX12_reaches_112 rfl ?_
      obtain ⟨b3, h⟩ := z_chk_some h
      refine z_iald C rfl rfl b3 dX12_reaches_114 ?_
      refine z_iand C dX12_reaches_115 ?_
      obtain ⟨x4, ex4, h⟩ := z_let_some h
      refine z_top ex4 ?_
      refine z_istore (lo' := [some (.ref (z_a X 0)), some (.int v1), none, some (.int v3), some (.int v4), some (.int v5), some (.int x4)]) C dX12_reaches_116 (Nat.le_of_ble_eq_true rfl) rfl ?_
      refine z_aload_n C dX12_reaches_118 rfl rfl ?_
      refine z_geta (k := 49) (q := 26) C z_CF12 (by decide) flX12_89 rfl rfl dX12_reaches_119 ?_
      refine z_iload C dX12_reaches_122 rfl ?_
      obtain ⟨b5, h⟩ := z_chk_some h
      refine z_iald C rfl rfl b5 dX12_reaches_124 ?_
      refine z_iconst (v := (-1)) C dX12_reaches_125 (by decide) ?_
      refine z_icmp_ne (tgt := 161) C dX12_reaches_126 (by decide) (fun hc => ?_) (fun hc => ?_)
      · replace h := z_neg hc h
        refine z_iinc (v := v5 + 1) (lo' := [some (.ref (z_a X 0)), some (.int v1), none, some (.int v3), some (.int v4), some (.int (v5 + 1)), some (.int x4)]) C dX12_reaches_161 rfl rfl rfl ?_
        refine z_goto (tgt := 82) C dX12_reaches_164 (by decide) ?_
        refine z_kill (lo' := [some (.ref (z_a X 0)), some (.int v1), none, some (.int v3), some (.int v4), some (.int (v5 + 1)), none]) [6] rfl ?_
        exact ih v1 v3 v4 (v5 + 1) σ h
      · replace h := z_pos hc h
        refine z_iload C dX12_reaches_129 rfl ?_
        refine z_if_ne (tgt := 137) C dX12_reaches_131 (by decide) (fun hc => ?_) (fun hc => ?_)
        · replace h := z_neg hc h
          refine z_aload_n C dX12_reaches_137 rfl rfl ?_
          refine z_geta (k := 49) (q := 26) C z_CF12 (by decide) flX12_89 rfl rfl dX12_reaches_138 ?_
          refine z_iload C dX12_reaches_141 rfl ?_
          refine z_iload C dX12_reaches_143 rfl ?_
          obtain ⟨b6, h⟩ := z_chk_some h
          obtain ⟨σ7, eσ7, h⟩ := z_let_some h
          refine z_iast C rfl rfl b6 eσ7 dX12_reaches_145 ?_
          refine z_aload_n C dX12_reaches_146 rfl rfl ?_
          refine z_geta (k := 50) (q := 27) C z_CF12 (by decide) flX12_92 rfl rfl dX12_reaches_147 ?_
          refine z_iload C dX12_reaches_150 rfl ?_
          refine z_iload C dX12_reaches_152 rfl ?_
          refine z_iload C dX12_reaches_154 rfl ?_
          refine z_ineg C dX12_reaches_156 ?_
          refine z_iand C dX12_reaches_157 ?_
          obtain ⟨b8, h⟩ := z_chk_some h
          obtain ⟨σ9, eσ9, h⟩ := z_let_some h
          refine z_iast C rfl rfl b8 eσ9 dX12_reaches_158 ?_
          refine z_iconst (v := 1) C dX12_reaches_159 (by decide) ?_
          refine z_istore_n (lo' := [some (.ref (z_a X 0)), some (.int v1), none, some (.int 1), some (.int v4), some (.int v5), some (.int x4)]) C dX12_reaches_160 rfl (Nat.le_of_ble_eq_true rfl) rfl ?_
          refine z_iinc (v := v5 + 1) (lo' := [some (.ref (z_a X 0)), some (.int v1), none, some (.int 1), some (.int v4), some (.int (v5 + 1)), some (.int x4)]) C dX12_reaches_161 rfl rfl rfl ?_
          refine z_goto (tgt := 82) C dX12_reaches_164 (by decide) ?_
          refine z_kill (lo' := [some (.ref (z_a X 0)), some (.int v1), none, some (.int 1), some (.int v4), some (.int (v5 + 1)), none]) [6] rfl ?_
          exact ih v1 1 v4 (v5 + 1) σ9 h
        · replace h := z_pos hc h
          refine z_goto (tgt := 161) C dX12_reaches_134 (by decide) ?_
          refine z_iinc (v := v5 + 1) (lo' := [some (.ref (z_a X 0)), some (.int v1), none, some (.int v3), some (.int v4), some (.int (v5 + 1)), some (.int x4)]) C dX12_reaches_161 rfl rfl rfl ?_
          refine z_goto (tgt := 82) C dX12_reaches_164 (by decide) ?_
          refine z_kill (lo' := [some (.ref (z_a X 0)), some (.int v1), none, some (.int v3), some (.int v4), some (.int (v5 + 1)), none]) [6] rfl ?_
          exact ih v1 v3 v4 (v5 + 1) σ h
set_option maxHeartbeats 4000000 in
set_option maxRecDepth 100000 in
theorem t12_reaches_J173 {X : z_Ct} (C : z_Cx S2 X RX12 cX12_reaches 7 2 (some .int)) {u : Int32 × z_M} {k34 : Int32 → Int32 → z_M → Option (Int32 × z_M)} (hr34 : ∀ (v1 : Int32) (v3 : Int32) (σ : z_M), k34 v1 v3 σ = some u → z_W S2 X 34 [some (.ref (z_a X 0)), some (.int v1), none, some (.int v3), none, none, none] [] σ (z_oi u)) (v1 : Int32) (v3 : Int32) (σ : z_M) (h : f12_reaches_J173 k34 v1 v3 σ = some u) : z_W S2 X 173 [some (.ref (z_a X 0)), some (.int v1), none, some (.int v3), none, none, none] [] σ (z_oi u) := by
  unfold f12_reaches_J173 at h
  refine z_goto (tgt := 34) C dX12_reaches_173 (by decide) ?_
  exact hr34 v1 v3 σ h
set_option maxHeartbeats 4000000 in
set_option maxRecDepth 100000 in
theorem t12_reaches_L43 {X : z_Ct} (C : z_Cx S2 X RX12 cX12_reaches 7 2 (some .int)) {u : Int32 × z_M} {k34 : Int32 → Int32 → z_M → Option (Int32 × z_M)} (hr34 : ∀ (v1 : Int32) (v3 : Int32) (σ : z_M), k34 v1 v3 σ = some u → z_W S2 X 34 [some (.ref (z_a X 0)), some (.int v1), none, some (.int v3), none, none, none] [] σ (z_oi u)) : ∀ (n : Nat) (v1 : Int32) (v3 : Int32) (v4 : Int32) (σ : z_M), f12_reaches_L43 k34 n v1 v3 v4 σ = some u → z_W S2 X 43 [some (.ref (z_a X 0)), some (.int v1), none, some (.int v3), some (.int v4), none, none] [] σ (z_oi u) := by
  intro n
  induction n with
  | zero => intro v1 v3 v4 σ h; rw [f12_reaches_L43] at h; cases h
  | succ n ih =>
    intro v1 v3 v4 σ h
    rw [f12_reaches_L43] at h
    refine z_iload C dX12_reaches_43 rfl ?_
    refine z_aload_n C dX12_reaches_45 rfl rfl ?_
    refine z_geti (k := 6) C z_CF12 (by decide) flX12_131 rfl rfl dX12_reaches_46 ?_
    refine z_icmp_ge (tgt := 173) C dX12_reaches_49 (by decide) (fun hc => ?_) (fun hc => ?_)
    · replace h := z_neg hc h
      refine z_kill (lo' := [some (.ref (z_a X 0)), some (.int v1), none, some (.int v3), none, none, none]) [4] rfl ?_
      exact t12_reaches_J173 C hr34 v1 v3 σ h
    · replace h := z_pos hc h
      refine z_aload_n C dX12_reaches_52 rfl rfl ?_
      refine z_geta (k := 49) (q := 26) C z_CF12 (by decide) flX12_89 rfl rfl dX12_reaches_53 ?_
      refine z_iload C dX12_reaches_56 rfl ?_
      obtain ⟨b1, h⟩ := z_chk_some h
      refine z_iald C rfl rfl b1 dX12_reaches_58 ?_
      refine z_iconst (v := (-1)) C dX12_reaches_59 (by decide) ?_
      refine z_icmp_ne (tgt := 66) C dX12_reaches_60 (by decide) (fun hc => ?_) (fun hc => ?_)
      · replace h := z_neg hc h
        refine z_aload_n C dX12_reaches_66 rfl rfl ?_
        refine z_iload C dX12_reaches_67 rfl ?_
        obtain ⟨r2, σ3, mσ3, h⟩ := z_bnd2 h
        refine z_cvi (As := [.int v4]) (c := 0) (st := []) C (t12_freeThing v4 mσ3) kvX12_freeThing rfl mlX12_428 z_CF12 rfl rfl (by decide) rfl (Nat.le_of_ble_eq_true rfl) dX12_reaches_69 ?_
        refine z_iconst (v := (-1)) C dX12_reaches_72 (by decide) ?_
        refine z_icmp_eq (tgt := 79) C dX12_reaches_73 (by decide) (fun hc => ?_) (fun hc => ?_)
        · replace h := z_pos hc h
          refine z_iload_n C dX12_reaches_79 rfl rfl ?_
          refine z_istore (lo' := [some (.ref (z_a X 0)), some (.int v1), none, some (.int v3), some (.int v4), some (.int v1), none]) C dX12_reaches_80 (Nat.le_of_ble_eq_true rfl) rfl ?_
          exact t12_reaches_L82 C hr34 ih _ v1 v3 v4 v1 σ3 h
        · replace h := z_neg hc h
          refine z_iload C dX12_reaches_76 rfl ?_
          exact z_iret C h dX12_reaches_78
      · replace h := z_pos hc h
        refine z_goto (tgt := 167) C dX12_reaches_63 (by decide) ?_
        exact t12_reaches_J167 C hr34 ih v1 v3 v4 σ h
set_option maxHeartbeats 4000000 in
set_option maxRecDepth 100000 in
theorem t12_reaches_L34 {X : z_Ct} (C : z_Cx S2 X RX12 cX12_reaches 7 2 (some .int)) {u : Int32 × z_M} : ∀ (n : Nat) (v1 : Int32) (v3 : Int32) (σ : z_M), f12_reaches_L34 n v1 v3 σ = some u → z_W S2 X 34 [some (.ref (z_a X 0)), some (.int v1), none, some (.int v3), none, none, none] [] σ (z_oi u) := by
  intro n
  induction n with
  | zero => intro v1 v3 σ h; rw [f12_reaches_L34] at h; cases h
  | succ n ih =>
    intro v1 v3 σ h
    rw [f12_reaches_L34] at h
    refine z_iload_n C dX12_reaches_34 rfl rfl ?_
    refine z_if_eq (tgt := 176) C dX12_reaches_35 (by decide) (fun hc => ?_) (fun hc => ?_)
    · replace h := z_pos hc h
      refine z_iconst (v := (-1)) C dX12_reaches_176 (by decide) ?_
      exact z_iret C h dX12_reaches_177
    · replace h := z_neg hc h
      refine z_iconst (v := 0) C dX12_reaches_38 (by decide) ?_
      refine z_istore_n (lo' := [some (.ref (z_a X 0)), some (.int v1), none, some (.int 0), none, none, none]) C dX12_reaches_39 rfl (Nat.le_of_ble_eq_true rfl) rfl ?_
      refine z_iconst (v := 0) C dX12_reaches_40 (by decide) ?_
      refine z_istore (lo' := [some (.ref (z_a X 0)), some (.int v1), none, some (.int 0), some (.int 0), none, none]) C dX12_reaches_41 (Nat.le_of_ble_eq_true rfl) rfl ?_
      exact t12_reaches_L43 C ih _ v1 0 0 σ h
set_option maxHeartbeats 4000000 in
set_option maxRecDepth 100000 in
theorem t12_reaches_J32 {X : z_Ct} (C : z_Cx S2 X RX12 cX12_reaches 7 2 (some .int)) {u : Int32 × z_M} (v1 : Int32) (σ : z_M) (h : f12_reaches_J32 v1 σ = some u) : z_W S2 X 32 [some (.ref (z_a X 0)), some (.int v1), none, none, none, none, none] [] σ (z_oi u) := by
  unfold f12_reaches_J32 at h
  refine z_iconst (v := 1) C dX12_reaches_32 (by decide) ?_
  refine z_istore_n (lo' := [some (.ref (z_a X 0)), some (.int v1), none, some (.int 1), none, none, none]) C dX12_reaches_33 rfl (Nat.le_of_ble_eq_true rfl) rfl ?_
  exact t12_reaches_L34 C _ v1 1 σ h
set_option maxHeartbeats 4000000 in
set_option maxRecDepth 100000 in
theorem t12_reaches_L2 {X : z_Ct} (C : z_Cx S2 X RX12 cX12_reaches 7 2 (some .int)) {u : Int32 × z_M} : ∀ (n : Nat) (v1 : Int32) (v2 : Int32) (v3 : Int32) (σ : z_M), f12_reaches_L2 n v1 v2 v3 σ = some u → z_W S2 X 2 [some (.ref (z_a X 0)), some (.int v1), some (.int v2), some (.int v3), none, none, none] [] σ (z_oi u) := by
  intro n
  induction n with
  | zero => intro v1 v2 v3 σ h; rw [f12_reaches_L2] at h; cases h
  | succ n ih =>
    intro v1 v2 v3 σ h
    rw [f12_reaches_L2] at h
    refine z_iload_n C dX12_reaches_2 rfl rfl ?_
    refine z_aload_n C dX12_reaches_3 rfl rfl ?_
    refine z_geti (k := 6) C z_CF12 (by decide) flX12_131 rfl rfl dX12_reaches_4 ?_
    refine z_icmp_ge (tgt := 32) C dX12_reaches_7 (by decide) (fun hc => ?_) (fun hc => ?_)
    · replace h := z_neg hc h
      refine z_kill (lo' := [some (.ref (z_a X 0)), some (.int v1), none, none, none, none, none]) [2, 3] rfl ?_
      exact t12_reaches_J32 C v1 σ h
    · replace h := z_pos hc h
      refine z_aload_n C dX12_reaches_10 rfl rfl ?_
      refine z_geta (k := 49) (q := 26) C z_CF12 (by decide) flX12_89 rfl rfl dX12_reaches_11 ?_
      refine z_iload_n C dX12_reaches_14 rfl rfl ?_
      refine z_iload_n C dX12_reaches_15 rfl rfl ?_
      refine z_iload_n C dX12_reaches_16 rfl rfl ?_
      refine z_icmp_ne (tgt := 24) C dX12_reaches_17 (by decide) (fun hc => ?_) (fun hc => ?_)
      · replace h := z_neg hc h
        refine z_iconst (v := (-1)) C dX12_reaches_24 (by decide) ?_
        exact t12_reaches_J25 C ih v1 v2 v3 v3 (-1) σ h
      · replace h := z_pos hc h
        refine z_iload_n C dX12_reaches_20 rfl rfl ?_
        refine z_goto (tgt := 25) C dX12_reaches_21 (by decide) ?_
        exact t12_reaches_J25 C ih v1 v2 v3 v3 v2 σ h
set_option maxHeartbeats 4000000 in
set_option maxRecDepth 100000 in
theorem t12_reaches {a : Nat → Nat} (p1 : Int32) (p2 : Int32) {σ : z_M} {u : Int32 × z_M} (h : f12_reaches p1 p2 σ = some u) : z_Mt yX12_reaches (z_w yX12_reaches cX12_reaches 7 (some .int)) 2 S2 a σ [.ref (a 0), .int p1, .int p2] (z_oi u) := by
  refine z_head (lo := [some (.ref (a 0)), some (.int p1), some (.int p2), none, none, none, none]) (by decide) (Nat.le_of_ble_eq_true rfl) ?_ rfl ?_
  · intro i v hv
    exact z_loe (vs := [.ref (a 0), .int p1, .int p2]) (n := 4) rfl (by simp [z_c1i, z_c1r]) i v hv
  · intro X hXa C
    subst hXa
    unfold f12_reaches at h
    refine z_iconst (v := 0) C dX12_reaches_0 (by decide) ?_
    refine z_istore_n (lo' := [some (.ref (z_a X 0)), some (.int p1), some (.int p2), some (.int 0), none, none, none]) C dX12_reaches_1 rfl (Nat.le_of_ble_eq_true rfl) rfl ?_
    exact t12_reaches_L2 C _ p1 p2 0 σ h
set_option maxHeartbeats 4000000 in
set_option maxRecDepth 100000 in
theorem t12_getsOne_J90 {X : z_Ct} (C : z_Cx S2 X RX12 cX12_getsOne 7 3 (some .boolean)) {u : Int32 × z_M} (v2 : Int32) (v5 : Int32) (σ : z_M) (h : f12_getsOne_J90 v2 v5 σ = some u) : z_W S2 X 90 [some (.ref (z_a X 0)), none, some (.int v2), none, none, some (.int v5), none] [] σ (z_oi u) := by
  unfold f12_getsOne_J90 at h
  refine z_aload_n C dX12_getsOne_90 rfl rfl ?_
  refine z_geta (k := 47) (q := 24) C z_CF12 (by decide) flX12_83 rfl rfl dX12_getsOne_91 ?_
  refine z_iload_n C dX12_getsOne_94 rfl rfl ?_
  refine z_aload_n C dX12_getsOne_95 rfl rfl ?_
  refine z_geta (k := 47) (q := 24) C z_CF12 (by decide) flX12_83 rfl rfl dX12_getsOne_96 ?_
  refine z_iload_n C dX12_getsOne_99 rfl rfl ?_
  obtain ⟨b1, h⟩ := z_chk_some h
  refine z_iald C rfl rfl b1 dX12_getsOne_100 ?_
  refine z_iload C dX12_getsOne_101 rfl ?_
  refine z_ior C dX12_getsOne_103 ?_
  obtain ⟨b2, h⟩ := z_chk_some h
  obtain ⟨σ3, eσ3, h⟩ := z_let_some h
  refine z_iast C rfl rfl b2 eσ3 dX12_getsOne_104 ?_
  refine z_iconst (v := 1) C dX12_getsOne_105 (by decide) ?_
  exact z_zret C (by decide) h dX12_getsOne_106
set_option maxHeartbeats 4000000 in
set_option maxRecDepth 100000 in
theorem t12_getsOne_L43 {X : z_Ct} (C : z_Cx S2 X RX12 cX12_getsOne 7 3 (some .boolean)) {u : Int32 × z_M} : ∀ (n : Nat) (v2 : Int32) (v3 : Int32) (v5 : Int32) (σ : z_M), f12_getsOne_L43 n v2 v3 v5 σ = some u → z_W S2 X 43 [some (.ref (z_a X 0)), none, some (.int v2), some (.int v3), none, some (.int v5), none] [] σ (z_oi u) := by
  intro n
  induction n with
  | zero => intro v2 v3 v5 σ h; rw [f12_getsOne_L43] at h; cases h
  | succ n ih =>
    intro v2 v3 v5 σ h
    rw [f12_getsOne_L43] at h
    refine z_iload_n C dX12_getsOne_43 rfl rfl ?_
    refine z_iload_n C dX12_getsOne_44 rfl rfl ?_
    refine z_icmp_eq (tgt := 90) C dX12_getsOne_45 (by decide) (fun hc => ?_) (fun hc => ?_)
    · replace h := z_pos hc h
      refine z_kill (lo' := [some (.ref (z_a X 0)), none, some (.int v2), none, none, some (.int v5), none]) [3] rfl ?_
      exact t12_getsOne_J90 C v2 v5 σ h
    · replace h := z_neg hc h
      refine z_aload_n C dX12_getsOne_48 rfl rfl ?_
      refine z_geta (k := 50) (q := 27) C z_CF12 (by decide) flX12_92 rfl rfl dX12_getsOne_49 ?_
      refine z_iload_n C dX12_getsOne_52 rfl rfl ?_
      obtain ⟨b1, h⟩ := z_chk_some h
      refine z_iald C rfl rfl b1 dX12_getsOne_53 ?_
      refine z_istore (lo' := [some (.ref (z_a X 0)), none, some (.int v2), some (.int v3), none, some (.int v5), some (.int (σ 27 (z_ix v3)))]) C dX12_getsOne_54 (Nat.le_of_ble_eq_true rfl) rfl ?_
      refine z_aload_n C dX12_getsOne_56 rfl rfl ?_
      refine z_geta (k := 47) (q := 24) C z_CF12 (by decide) flX12_83 rfl rfl dX12_getsOne_57 ?_
      refine z_iload_n C dX12_getsOne_60 rfl rfl ?_
      refine z_aload_n C dX12_getsOne_61 rfl rfl ?_
      refine z_geta (k := 47) (q := 24) C z_CF12 (by decide) flX12_83 rfl rfl dX12_getsOne_62 ?_
      refine z_iload_n C dX12_getsOne_65 rfl rfl ?_
      obtain ⟨b2, h⟩ := z_chk_some h
      refine z_iald C rfl rfl b2 dX12_getsOne_66 ?_
      refine z_iload C dX12_getsOne_67 rfl ?_
      refine z_iconst (v := (-1)) C dX12_getsOne_69 (by decide) ?_
      refine z_ixor C dX12_getsOne_70 ?_
      refine z_iand C dX12_getsOne_71 ?_
      refine z_iload C dX12_getsOne_72 rfl ?_
      refine z_ior C dX12_getsOne_74 ?_
      obtain ⟨b3, h⟩ := z_chk_some h
      obtain ⟨σ4, eσ4, h⟩ := z_let_some h
      refine z_iast C rfl rfl b3 eσ4 dX12_getsOne_75 ?_
      refine z_iload C dX12_getsOne_76 rfl ?_
      refine z_istore (lo' := [some (.ref (z_a X 0)), none, some (.int v2), some (.int v3), none, some (.int (σ 27 (z_ix v3))), some (.int (σ 27 (z_ix v3)))]) C dX12_getsOne_78 (Nat.le_of_ble_eq_true rfl) rfl ?_
      refine z_aload_n C dX12_getsOne_80 rfl rfl ?_
      refine z_geta (k := 49) (q := 26) C z_CF12 (by decide) flX12_89 rfl rfl dX12_getsOne_81 ?_
      refine z_iload_n C dX12_getsOne_84 rfl rfl ?_
      obtain ⟨b5, h⟩ := z_chk_some h
      refine z_iald C rfl rfl b5 dX12_getsOne_85 ?_
      refine z_istore_n (lo' := [some (.ref (z_a X 0)), none, some (.int v2), some (.int (σ4 26 (z_ix v3))), none, some (.int (σ 27 (z_ix v3))), some (.int (σ 27 (z_ix v3)))]) C dX12_getsOne_86 rfl (Nat.le_of_ble_eq_true rfl) rfl ?_
      refine z_goto (tgt := 43) C dX12_getsOne_87 (by decide) ?_
      refine z_kill (lo' := [some (.ref (z_a X 0)), none, some (.int v2), some (.int (σ4 26 (z_ix v3))), none, some (.int (σ 27 (z_ix v3))), none]) [6] rfl ?_
      exact ih v2 (σ4 26 (z_ix v3)) (σ 27 (z_ix v3)) σ4 h
set_option maxHeartbeats 4000000 in
set_option maxRecDepth 100000 in
theorem t12_getsOne {a : Nat → Nat} (p1 : Int32) (p2 : Int32) {σ : z_M} {u : Int32 × z_M} (h : f12_getsOne p1 p2 σ = some u) : z_Mt yX12_getsOne (z_w yX12_getsOne cX12_getsOne 7 (some .boolean)) 3 S2 a σ [.ref (a 0), .int p1, .int p2] (z_oi u) := by
  refine z_head (lo := [some (.ref (a 0)), some (.int p1), some (.int p2), none, none, none, none]) (by decide) (Nat.le_of_ble_eq_true rfl) ?_ rfl ?_
  · intro i v hv
    exact z_loe (vs := [.ref (a 0), .int p1, .int p2]) (n := 4) rfl (by simp [z_c1i, z_c1r]) i v hv
  · intro X hXa C
    subst hXa
    unfold f12_getsOne at h
    refine z_aload_n C dX12_getsOne_0 rfl rfl ?_
    refine z_iload_n C dX12_getsOne_1 rfl rfl ?_
    refine z_iload_n C dX12_getsOne_2 rfl rfl ?_
    obtain ⟨r1, σ2, mσ2, h⟩ := z_bnd2 h
    refine z_cvi (As := [.int p1, .int p2]) (c := 0) (st := []) C (t12_reaches p1 p2 mσ2) kvX12_reaches rfl mlX12_431 z_CF12 rfl rfl (by decide) rfl (Nat.le_of_ble_eq_true rfl) dX12_getsOne_3 ?_
    refine z_istore_n (lo' := [some (.ref (z_a X 0)), some (.int p1), some (.int p2), some (.int r1), none, none, none]) C dX12_getsOne_6 rfl (Nat.le_of_ble_eq_true rfl) rfl ?_
    refine z_iload_n C dX12_getsOne_7 rfl rfl ?_
    refine z_iconst (v := (-1)) C dX12_getsOne_8 (by decide) ?_
    refine z_icmp_ne (tgt := 14) C dX12_getsOne_9 (by decide) (fun hc => ?_) (fun hc => ?_)
    · replace h := z_neg hc h
      refine z_aload_n C dX12_getsOne_14 rfl rfl ?_
      refine z_iload_n C dX12_getsOne_15 rfl rfl ?_
      obtain ⟨r3, σ4, mσ4, h⟩ := z_bnd2 h
      refine z_cvi (As := [.int r1]) (c := 0) (st := []) C (t12_freeThing r1 mσ4) kvX12_freeThing rfl mlX12_428 z_CF12 rfl rfl (by decide) rfl (Nat.le_of_ble_eq_true rfl) dX12_getsOne_16 ?_
      refine z_istore (lo' := [some (.ref (z_a X 0)), some (.int p1), some (.int p2), some (.int r1), some (.int r3), none, none]) C dX12_getsOne_19 (Nat.le_of_ble_eq_true rfl) rfl ?_
      refine z_aload_n C dX12_getsOne_21 rfl rfl ?_
      refine z_geta (k := 48) (q := 25) C z_CF12 (by decide) flX12_86 rfl rfl dX12_getsOne_22 ?_
      refine z_iload C dX12_getsOne_25 rfl ?_
      refine z_aload_n C dX12_getsOne_27 rfl rfl ?_
      refine z_geta (k := 48) (q := 25) C z_CF12 (by decide) flX12_86 rfl rfl dX12_getsOne_28 ?_
      refine z_iload C dX12_getsOne_31 rfl ?_
      obtain ⟨b5, h⟩ := z_chk_some h
      refine z_iald C rfl rfl b5 dX12_getsOne_33 ?_
      refine z_iconst (v := 1) C dX12_getsOne_34 (by decide) ?_
      refine z_isub C dX12_getsOne_35 ?_
      obtain ⟨b6, h⟩ := z_chk_some h
      obtain ⟨σ7, eσ7, h⟩ := z_let_some h
      refine z_iast C rfl rfl b6 eσ7 dX12_getsOne_36 ?_
      refine z_iconst (v := 1) C dX12_getsOne_37 (by decide) ?_
      refine z_iload C dX12_getsOne_38 rfl ?_
      refine z_ishl C dX12_getsOne_40 ?_
      refine z_istore (lo' := [some (.ref (z_a X 0)), some (.int p1), some (.int p2), some (.int r1), some (.int r3), some (.int (z_shl 1 r3)), none]) C dX12_getsOne_41 (Nat.le_of_ble_eq_true rfl) rfl ?_
      refine z_kill (lo' := [some (.ref (z_a X 0)), none, some (.int p2), some (.int r1), none, some (.int (z_shl 1 r3)), none]) [1, 4] rfl ?_
      exact t12_getsOne_L43 C _ p2 r1 (z_shl 1 r3) σ7 h
    · replace h := z_pos hc h
      refine z_iconst (v := 0) C dX12_getsOne_12 (by decide) ?_
      exact z_zret C (by decide) h dX12_getsOne_13
set_option maxHeartbeats 4000000 in
set_option maxRecDepth 100000 in
theorem t12_canAll_J50 {X : z_Ct} (C : z_Cx S2 X RX12 cX12_canAll 5 4 (some .boolean)) {u : Int32 × z_M} {k4 : Int32 → Int32 → Int32 → z_M → Option (Int32 × z_M)} (hr4 : ∀ (v1 : Int32) (v2 : Int32) (v3 : Int32) (σ : z_M), k4 v1 v2 v3 σ = some u → z_W S2 X 4 [some (.ref (z_a X 0)), some (.int v1), some (.int v2), some (.int v3), none] [] σ (z_oi u)) (v1 : Int32) (v2 : Int32) (v3 : Int32) (σ : z_M) (h : f12_canAll_J50 k4 v1 v2 v3 σ = some u) : z_W S2 X 50 [some (.ref (z_a X 0)), some (.int v1), some (.int v2), some (.int v3), none] [] σ (z_oi u) := by
  unfold f12_canAll_J50 at h
  refine z_iinc (v := v3 + 1) (lo' := [some (.ref (z_a X 0)), some (.int v1), some (.int v2), some (.int (v3 + 1)), none]) C dX12_canAll_50 rfl rfl rfl ?_
  refine z_goto (tgt := 4) C dX12_canAll_53 (by decide) ?_
  exact hr4 v1 v2 (v3 + 1) σ h
set_option maxHeartbeats 4000000 in
set_option maxRecDepth 100000 in
theorem t12_canAll_L22 {X : z_Ct} (C : z_Cx S2 X RX12 cX12_canAll 5 4 (some .boolean)) {u : Int32 × z_M} {k4 : Int32 → Int32 → Int32 → z_M → Option (Int32 × z_M)} (hr4 : ∀ (v1 : Int32) (v2 : Int32) (v3 : Int32) (σ : z_M), k4 v1 v2 v3 σ = some u → z_W S2 X 4 [some (.ref (z_a X 0)), some (.int v1), some (.int v2), some (.int v3), none] [] σ (z_oi u)) : ∀ (n : Nat) (v1 : Int32) (v2 : Int32) (v3 : Int32) (v4 : Int32) (σ : z_M), f12_canAll_L22 k4 n v1 v2 v3 v4 σ = some u → z_W S2 X 22 [some (.ref (z_a X 0)), some (.int v1), some (.int v2), some (.int v3), some (.int v4)] [] σ (z_oi u) := by
  intro n
  induction n with
  | zero => intro v1 v2 v3 v4 σ h; rw [f12_canAll_L22] at h; cases h
  | succ n ih =>
    intro v1 v2 v3 v4 σ h
    rw [f12_canAll_L22] at h
    refine z_iload C dX12_canAll_22 rfl ?_
    refine z_aload_n C dX12_canAll_24 rfl rfl ?_
    refine z_geta (k := 46) (q := 23) C z_CF12 (by decide) flX12_80 rfl rfl dX12_canAll_25 ?_
    refine z_iload_n C dX12_canAll_28 rfl rfl ?_
    obtain ⟨b1, h⟩ := z_chk_some h
    refine z_iald C rfl rfl b1 dX12_canAll_29 ?_
    refine z_icmp_ge (tgt := 50) C dX12_canAll_30 (by decide) (fun hc => ?_) (fun hc => ?_)
    · replace h := z_neg hc h
      refine z_kill (lo' := [some (.ref (z_a X 0)), some (.int v1), some (.int v2), some (.int v3), none]) [4] rfl ?_
      exact t12_canAll_J50 C hr4 v1 v2 v3 σ h
    · replace h := z_pos hc h
      refine z_iload_n C dX12_canAll_33 rfl rfl ?_
      refine z_if_eq (tgt := 50) C dX12_canAll_34 (by decide) (fun hc => ?_) (fun hc => ?_)
      · replace h := z_pos hc h
        refine z_kill (lo' := [some (.ref (z_a X 0)), some (.int v1), some (.int v2), some (.int v3), none]) [4] rfl ?_
        exact t12_canAll_J50 C hr4 v1 v2 v3 σ h
      · replace h := z_neg hc h
        refine z_aload_n C dX12_canAll_37 rfl rfl ?_
        refine z_iload_n C dX12_canAll_38 rfl rfl ?_
        refine z_iload_n C dX12_canAll_39 rfl rfl ?_
        obtain ⟨r2, σ3, mσ3, h⟩ := z_bnd2 h
        refine z_cvi (As := [.int v1, .int v3]) (c := 0) (st := []) C (t12_getsOne v1 v3 mσ3) kvX12_getsOne rfl mlX12_434 z_CF12 rfl rfl (by decide) rfl (Nat.le_of_ble_eq_true rfl) dX12_canAll_40 ?_
        refine z_istore_n (lo' := [some (.ref (z_a X 0)), some (.int v1), some (.int r2), some (.int v3), some (.int v4)]) C dX12_canAll_43 rfl (Nat.le_of_ble_eq_true rfl) rfl ?_
        refine z_iinc (v := v4 + 1) (lo' := [some (.ref (z_a X 0)), some (.int v1), some (.int r2), some (.int v3), some (.int (v4 + 1))]) C dX12_canAll_44 rfl rfl rfl ?_
        refine z_goto (tgt := 22) C dX12_canAll_47 (by decide) ?_
        exact ih v1 r2 v3 (v4 + 1) σ3 h
set_option maxHeartbeats 4000000 in
set_option maxRecDepth 100000 in
theorem t12_canAll_L4 {X : z_Ct} (C : z_Cx S2 X RX12 cX12_canAll 5 4 (some .boolean)) {u : Int32 × z_M} : ∀ (n : Nat) (v1 : Int32) (v2 : Int32) (v3 : Int32) (σ : z_M), f12_canAll_L4 n v1 v2 v3 σ = some u → z_W S2 X 4 [some (.ref (z_a X 0)), some (.int v1), some (.int v2), some (.int v3), none] [] σ (z_oi u) := by
  intro n
  induction n with
  | zero => intro v1 v2 v3 σ h; rw [f12_canAll_L4] at h; cases h
  | succ n ih =>
    intro v1 v2 v3 σ h
    rw [f12_canAll_L4] at h
    refine z_iload_n C dX12_canAll_4 rfl rfl ?_
    refine z_aload_n C dX12_canAll_5 rfl rfl ?_
    refine z_geti (k := 6) C z_CF12 (by decide) flX12_131 rfl rfl dX12_canAll_6 ?_
    refine z_icmp_ge (tgt := 56) C dX12_canAll_9 (by decide) (fun hc => ?_) (fun hc => ?_)
    · replace h := z_neg hc h
      refine z_iload_n C dX12_canAll_56 rfl rfl ?_
      obtain ⟨b1, h⟩ := z_chk_some h
      exact z_zret C b1 h dX12_canAll_57
    · replace h := z_pos hc h
      refine z_aload_n C dX12_canAll_12 rfl rfl ?_
      refine z_geta (k := 47) (q := 24) C z_CF12 (by decide) flX12_83 rfl rfl dX12_canAll_13 ?_
      refine z_iload_n C dX12_canAll_16 rfl rfl ?_
      refine z_iconst (v := 0) C dX12_canAll_17 (by decide) ?_
      obtain ⟨b2, h⟩ := z_chk_some h
      obtain ⟨σ3, eσ3, h⟩ := z_let_some h
      refine z_iast C rfl rfl b2 eσ3 dX12_canAll_18 ?_
      refine z_iconst (v := 0) C dX12_canAll_19 (by decide) ?_
      refine z_istore (lo' := [some (.ref (z_a X 0)), some (.int v1), some (.int v2), some (.int v3), some (.int 0)]) C dX12_canAll_20 (Nat.le_of_ble_eq_true rfl) rfl ?_
      exact t12_canAll_L22 C ih _ v1 v2 v3 0 σ3 h
set_option maxHeartbeats 4000000 in
set_option maxRecDepth 100000 in
theorem t12_canAll {a : Nat → Nat} (p1 : Int32) {σ : z_M} {u : Int32 × z_M} (h : f12_canAll p1 σ = some u) : z_Mt yX12_canAll (z_w yX12_canAll cX12_canAll 5 (some .boolean)) 4 S2 a σ [.ref (a 0), .int p1] (z_oi u) := by
  refine z_head (lo := [some (.ref (a 0)), some (.int p1), none, none, none]) (by decide) (Nat.le_of_ble_eq_true rfl) ?_ rfl ?_
  · intro i v hv
    exact z_loe (vs := [.ref (a 0), .int p1]) (n := 3) rfl (by simp [z_c1i, z_c1r]) i v hv
  · intro X hXa C
    subst hXa
    unfold f12_canAll at h
    refine z_iconst (v := 1) C dX12_canAll_0 (by decide) ?_
    refine z_istore_n (lo' := [some (.ref (z_a X 0)), some (.int p1), some (.int 1), none, none]) C dX12_canAll_1 rfl (Nat.le_of_ble_eq_true rfl) rfl ?_
    refine z_iload_n C dX12_canAll_2 rfl rfl ?_
    refine z_istore_n (lo' := [some (.ref (z_a X 0)), some (.int p1), some (.int 1), some (.int p1), none]) C dX12_canAll_3 rfl (Nat.le_of_ble_eq_true rfl) rfl ?_
    exact t12_canAll_L4 C _ p1 1 p1 σ h
set_option maxHeartbeats 4000000 in
set_option maxRecDepth 100000 in
theorem t12_canTake_J141 {X : z_Ct} (C : z_Cx S2 X RX12 cX12_canTake 5 5 (some .boolean)) {u : Int32 × z_M} (v1 : Int32) (σ : z_M) (h : f12_canTake_J141 v1 σ = some u) : z_W S2 X 141 [some (.ref (z_a X 0)), some (.int v1), none, none, none] [] σ (z_oi u) := by
  unfold f12_canTake_J141 at h
  refine z_aload_n C dX12_canTake_141 rfl rfl ?_
  refine z_iload_n C dX12_canTake_142 rfl rfl ?_
  refine z_iconst (v := 1) C dX12_canTake_143 (by decide) ?_
  refine z_iadd C dX12_canTake_144 ?_
  obtain ⟨r1, σ2, mσ2, h⟩ := z_bnd2 h
  refine z_cvi (As := [.int (v1 + 1)]) (c := 0) (st := []) C (t12_canAll (v1 + 1) mσ2) kvX12_canAll rfl mlX12_437 z_CF12 rfl rfl (by decide) rfl (Nat.le_of_ble_eq_true rfl) dX12_canTake_145 ?_
  obtain ⟨b3, h⟩ := z_chk_some h
  exact z_zret C b3 h dX12_canTake_148
set_option maxHeartbeats 4000000 in
set_option maxRecDepth 100000 in
theorem t12_canTake_L120 {X : z_Ct} (C : z_Cx S2 X RX12 cX12_canTake 5 5 (some .boolean)) {u : Int32 × z_M} : ∀ (n : Nat) (v1 : Int32) (v3 : Int32) (σ : z_M), f12_canTake_L120 n v1 v3 σ = some u → z_W S2 X 120 [some (.ref (z_a X 0)), some (.int v1), none, some (.int v3), none] [] σ (z_oi u) := by
  intro n
  induction n with
  | zero => intro v1 v3 σ h; rw [f12_canTake_L120] at h; cases h
  | succ n ih =>
    intro v1 v3 σ h
    rw [f12_canTake_L120] at h
    refine z_iload_n C dX12_canTake_120 rfl rfl ?_
    refine z_aload_n C dX12_canTake_121 rfl rfl ?_
    refine z_geti (k := 6) C z_CF12 (by decide) flX12_131 rfl rfl dX12_canTake_122 ?_
    refine z_icmp_ge (tgt := 141) C dX12_canTake_125 (by decide) (fun hc => ?_) (fun hc => ?_)
    · replace h := z_neg hc h
      refine z_kill (lo' := [some (.ref (z_a X 0)), some (.int v1), none, none, none]) [3] rfl ?_
      exact t12_canTake_J141 C v1 σ h
    · replace h := z_pos hc h
      refine z_aload_n C dX12_canTake_128 rfl rfl ?_
      refine z_geta (k := 47) (q := 24) C z_CF12 (by decide) flX12_83 rfl rfl dX12_canTake_129 ?_
      refine z_iload_n C dX12_canTake_132 rfl rfl ?_
      refine z_iconst (v := 0) C dX12_canTake_133 (by decide) ?_
      obtain ⟨b1, h⟩ := z_chk_some h
      obtain ⟨σ2, eσ2, h⟩ := z_let_some h
      refine z_iast C rfl rfl b1 eσ2 dX12_canTake_134 ?_
      refine z_iinc (v := v3 + 1) (lo' := [some (.ref (z_a X 0)), some (.int v1), none, some (.int (v3 + 1)), none]) C dX12_canTake_135 rfl rfl rfl ?_
      refine z_goto (tgt := 120) C dX12_canTake_138 (by decide) ?_
      exact ih v1 (v3 + 1) σ2 h
set_option maxHeartbeats 4000000 in
set_option maxRecDepth 100000 in
theorem t12_canTake_J118 {X : z_Ct} (C : z_Cx S2 X RX12 cX12_canTake 5 5 (some .boolean)) {u : Int32 × z_M} (v1 : Int32) (σ : z_M) (h : f12_canTake_J118 v1 σ = some u) : z_W S2 X 118 [some (.ref (z_a X 0)), some (.int v1), none, none, none] [] σ (z_oi u) := by
  unfold f12_canTake_J118 at h
  refine z_iconst (v := 0) C dX12_canTake_118 (by decide) ?_
  refine z_istore_n (lo' := [some (.ref (z_a X 0)), some (.int v1), none, some (.int 0), none]) C dX12_canTake_119 rfl (Nat.le_of_ble_eq_true rfl) rfl ?_
  exact t12_canTake_L120 C _ v1 0 σ h
set_option maxHeartbeats 4000000 in
set_option maxRecDepth 100000 in
theorem t12_canTake_L95 {X : z_Ct} (C : z_Cx S2 X RX12 cX12_canTake 5 5 (some .boolean)) {u : Int32 × z_M} : ∀ (n : Nat) (v1 : Int32) (v3 : Int32) (σ : z_M), f12_canTake_L95 n v1 v3 σ = some u → z_W S2 X 95 [some (.ref (z_a X 0)), some (.int v1), none, some (.int v3), none] [] σ (z_oi u) := by
  intro n
  induction n with
  | zero => intro v1 v3 σ h; rw [f12_canTake_L95] at h; cases h
  | succ n ih =>
    intro v1 v3 σ h
    rw [f12_canTake_L95] at h
    refine z_iload_n C dX12_canTake_95 rfl rfl ?_
    refine z_bipush (v := 8) C dX12_canTake_96 (by decide) ?_
    refine z_icmp_ge (tgt := 118) C dX12_canTake_98 (by decide) (fun hc => ?_) (fun hc => ?_)
    · replace h := z_neg hc h
      refine z_kill (lo' := [some (.ref (z_a X 0)), some (.int v1), none, none, none]) [3] rfl ?_
      exact t12_canTake_J118 C v1 σ h
    · replace h := z_pos hc h
      refine z_aload_n C dX12_canTake_101 rfl rfl ?_
      refine z_geta (k := 48) (q := 25) C z_CF12 (by decide) flX12_86 rfl rfl dX12_canTake_102 ?_
      refine z_iload_n C dX12_canTake_105 rfl rfl ?_
      obtain ⟨b1, h⟩ := z_chk_some h
      refine z_iald C rfl rfl b1 dX12_canTake_106 ?_
      refine z_if_ge (tgt := 112) C dX12_canTake_107 (by decide) (fun hc => ?_) (fun hc => ?_)
      · replace h := z_neg hc h
        refine z_iinc (v := v3 + 1) (lo' := [some (.ref (z_a X 0)), some (.int v1), none, some (.int (v3 + 1)), none]) C dX12_canTake_112 rfl rfl rfl ?_
        refine z_goto (tgt := 95) C dX12_canTake_115 (by decide) ?_
        exact ih v1 (v3 + 1) σ h
      · replace h := z_pos hc h
        refine z_iconst (v := 0) C dX12_canTake_110 (by decide) ?_
        exact z_zret C (by decide) h dX12_canTake_111
set_option maxHeartbeats 4000000 in
set_option maxRecDepth 100000 in
theorem t12_canTake_J93 {X : z_Ct} (C : z_Cx S2 X RX12 cX12_canTake 5 5 (some .boolean)) {u : Int32 × z_M} (v1 : Int32) (σ : z_M) (h : f12_canTake_J93 v1 σ = some u) : z_W S2 X 93 [some (.ref (z_a X 0)), some (.int v1), none, none, none] [] σ (z_oi u) := by
  unfold f12_canTake_J93 at h
  refine z_iconst (v := 0) C dX12_canTake_93 (by decide) ?_
  refine z_istore_n (lo' := [some (.ref (z_a X 0)), some (.int v1), none, some (.int 0), none]) C dX12_canTake_94 rfl (Nat.le_of_ble_eq_true rfl) rfl ?_
  exact t12_canTake_L95 C _ v1 0 σ h
set_option maxHeartbeats 4000000 in
set_option maxRecDepth 100000 in
theorem t12_canTake_J87 {X : z_Ct} (C : z_Cx S2 X RX12 cX12_canTake 5 5 (some .boolean)) {u : Int32 × z_M} {k35 : Int32 → Int32 → z_M → Option (Int32 × z_M)} (hr35 : ∀ (v1 : Int32) (v3 : Int32) (σ : z_M), k35 v1 v3 σ = some u → z_W S2 X 35 [some (.ref (z_a X 0)), some (.int v1), none, some (.int v3), none] [] σ (z_oi u)) (v1 : Int32) (v3 : Int32) (σ : z_M) (h : f12_canTake_J87 k35 v1 v3 σ = some u) : z_W S2 X 87 [some (.ref (z_a X 0)), some (.int v1), none, some (.int v3), none] [] σ (z_oi u) := by
  unfold f12_canTake_J87 at h
  refine z_iinc (v := v3 + 1) (lo' := [some (.ref (z_a X 0)), some (.int v1), none, some (.int (v3 + 1)), none]) C dX12_canTake_87 rfl rfl rfl ?_
  refine z_goto (tgt := 35) C dX12_canTake_90 (by decide) ?_
  exact hr35 v1 (v3 + 1) σ h
set_option maxHeartbeats 4000000 in
set_option maxRecDepth 100000 in
theorem t12_canTake_L43 {X : z_Ct} (C : z_Cx S2 X RX12 cX12_canTake 5 5 (some .boolean)) {u : Int32 × z_M} {k35 : Int32 → Int32 → z_M → Option (Int32 × z_M)} (hr35 : ∀ (v1 : Int32) (v3 : Int32) (σ : z_M), k35 v1 v3 σ = some u → z_W S2 X 35 [some (.ref (z_a X 0)), some (.int v1), none, some (.int v3), none] [] σ (z_oi u)) : ∀ (n : Nat) (v1 : Int32) (v3 : Int32) (v4 : Int32) (σ : z_M), f12_canTake_L43 k35 n v1 v3 v4 σ = some u → z_W S2 X 43 [some (.ref (z_a X 0)), some (.int v1), none, some (.int v3), some (.int v4)] [] σ (z_oi u) := by
  intro n
  induction n with
  | zero => intro v1 v3 v4 σ h; rw [f12_canTake_L43] at h; cases h
  | succ n ih =>
    intro v1 v3 v4 σ h
    rw [f12_canTake_L43] at h
    refine z_iload C dX12_canTake_43 rfl ?_
    refine z_bipush (v := 8) C dX12_canTake_45 (by decide) ?_
    refine z_icmp_ge (tgt := 87) C dX12_canTake_47 (by decide) (fun hc => ?_) (fun hc => ?_)
    · replace h := z_neg hc h
      refine z_kill (lo' := [some (.ref (z_a X 0)), some (.int v1), none, some (.int v3), none]) [4] rfl ?_
      exact t12_canTake_J87 C hr35 v1 v3 σ h
    · replace h := z_pos hc h
      refine z_aload_n C dX12_canTake_50 rfl rfl ?_
      refine z_geta (k := 51) (q := 28) C z_CF12 (by decide) flX12_95 rfl rfl dX12_canTake_51 ?_
      refine z_iload_n C dX12_canTake_54 rfl rfl ?_
      obtain ⟨b1, h⟩ := z_chk_some h
      refine z_iald C rfl rfl b1 dX12_canTake_55 ?_
      refine z_iload C dX12_canTake_56 rfl ?_
      refine z_ishr C dX12_canTake_58 ?_
      refine z_iconst (v := 1) C dX12_canTake_59 (by decide) ?_
      refine z_iand C dX12_canTake_60 ?_
      refine z_iconst (v := 1) C dX12_canTake_61 (by decide) ?_
      refine z_icmp_ne (tgt := 81) C dX12_canTake_62 (by decide) (fun hc => ?_) (fun hc => ?_)
      · replace h := z_neg hc h
        refine z_iinc (v := v4 + 1) (lo' := [some (.ref (z_a X 0)), some (.int v1), none, some (.int v3), some (.int (v4 + 1))]) C dX12_canTake_81 rfl rfl rfl ?_
        refine z_goto (tgt := 43) C dX12_canTake_84 (by decide) ?_
        exact ih v1 v3 (v4 + 1) σ h
      · replace h := z_pos hc h
        refine z_aload_n C dX12_canTake_65 rfl rfl ?_
        refine z_geta (k := 48) (q := 25) C z_CF12 (by decide) flX12_86 rfl rfl dX12_canTake_66 ?_
        refine z_iload C dX12_canTake_69 rfl ?_
        refine z_aload_n C dX12_canTake_71 rfl rfl ?_
        refine z_geta (k := 48) (q := 25) C z_CF12 (by decide) flX12_86 rfl rfl dX12_canTake_72 ?_
        refine z_iload C dX12_canTake_75 rfl ?_
        obtain ⟨b2, h⟩ := z_chk_some h
        refine z_iald C rfl rfl b2 dX12_canTake_77 ?_
        refine z_iconst (v := 1) C dX12_canTake_78 (by decide) ?_
        refine z_isub C dX12_canTake_79 ?_
        obtain ⟨b3, h⟩ := z_chk_some h
        obtain ⟨σ4, eσ4, h⟩ := z_let_some h
        refine z_iast C rfl rfl b3 eσ4 dX12_canTake_80 ?_
        refine z_iinc (v := v4 + 1) (lo' := [some (.ref (z_a X 0)), some (.int v1), none, some (.int v3), some (.int (v4 + 1))]) C dX12_canTake_81 rfl rfl rfl ?_
        refine z_goto (tgt := 43) C dX12_canTake_84 (by decide) ?_
        exact ih v1 v3 (v4 + 1) σ4 h
set_option maxHeartbeats 4000000 in
set_option maxRecDepth 100000 in
theorem t12_canTake_L35 {X : z_Ct} (C : z_Cx S2 X RX12 cX12_canTake 5 5 (some .boolean)) {u : Int32 × z_M} : ∀ (n : Nat) (v1 : Int32) (v3 : Int32) (σ : z_M), f12_canTake_L35 n v1 v3 σ = some u → z_W S2 X 35 [some (.ref (z_a X 0)), some (.int v1), none, some (.int v3), none] [] σ (z_oi u) := by
  intro n
  induction n with
  | zero => intro v1 v3 σ h; rw [f12_canTake_L35] at h; cases h
  | succ n ih =>
    intro v1 v3 σ h
    rw [f12_canTake_L35] at h
    refine z_iload_n C dX12_canTake_35 rfl rfl ?_
    refine z_iload_n C dX12_canTake_36 rfl rfl ?_
    refine z_icmp_gt (tgt := 93) C dX12_canTake_37 (by decide) (fun hc => ?_) (fun hc => ?_)
    · replace h := z_pos hc h
      refine z_kill (lo' := [some (.ref (z_a X 0)), some (.int v1), none, none, none]) [3] rfl ?_
      exact t12_canTake_J93 C v1 σ h
    · replace h := z_neg hc h
      refine z_iconst (v := 0) C dX12_canTake_40 (by decide) ?_
      refine z_istore (lo' := [some (.ref (z_a X 0)), some (.int v1), none, some (.int v3), some (.int 0)]) C dX12_canTake_41 (Nat.le_of_ble_eq_true rfl) rfl ?_
      exact t12_canTake_L43 C ih _ v1 v3 0 σ h
set_option maxHeartbeats 4000000 in
set_option maxRecDepth 100000 in
theorem t12_canTake_J26 {X : z_Ct} (C : z_Cx S2 X RX12 cX12_canTake 5 5 (some .boolean)) {u : Int32 × z_M} (v1 : Int32) (v2 : Int32) (σ : z_M) (h : f12_canTake_J26 v1 v2 σ = some u) : z_W S2 X 26 [some (.ref (z_a X 0)), some (.int v1), some (.int v2), none, none] [] σ (z_oi u) := by
  unfold f12_canTake_J26 at h
  refine z_aload_n C dX12_canTake_26 rfl rfl ?_
  refine z_geta (k := 51) (q := 28) C z_CF12 (by decide) flX12_95 rfl rfl dX12_canTake_27 ?_
  refine z_iload_n C dX12_canTake_30 rfl rfl ?_
  refine z_iload_n C dX12_canTake_31 rfl rfl ?_
  obtain ⟨b1, h⟩ := z_chk_some h
  obtain ⟨σ2, eσ2, h⟩ := z_let_some h
  refine z_iast C rfl rfl b1 eσ2 dX12_canTake_32 ?_
  refine z_iconst (v := 0) C dX12_canTake_33 (by decide) ?_
  refine z_istore_n (lo' := [some (.ref (z_a X 0)), some (.int v1), some (.int v2), some (.int 0), none]) C dX12_canTake_34 rfl (Nat.le_of_ble_eq_true rfl) rfl ?_
  refine z_kill (lo' := [some (.ref (z_a X 0)), some (.int v1), none, some (.int 0), none]) [2] rfl ?_
  exact t12_canTake_L35 C _ v1 0 σ2 h
set_option maxHeartbeats 4000000 in
set_option maxRecDepth 100000 in
theorem t12_canTake_L2 {X : z_Ct} (C : z_Cx S2 X RX12 cX12_canTake 5 5 (some .boolean)) {u : Int32 × z_M} : ∀ (n : Nat) (v1 : Int32) (v2 : Int32) (v3 : Int32) (σ : z_M), f12_canTake_L2 n v1 v2 v3 σ = some u → z_W S2 X 2 [some (.ref (z_a X 0)), some (.int v1), some (.int v2), some (.int v3), none] [] σ (z_oi u) := by
  intro n
  induction n with
  | zero => intro v1 v2 v3 σ h; rw [f12_canTake_L2] at h; cases h
  | succ n ih =>
    intro v1 v2 v3 σ h
    rw [f12_canTake_L2] at h
    refine z_iload_n C dX12_canTake_2 rfl rfl ?_
    refine z_bipush (v := 8) C dX12_canTake_3 (by decide) ?_
    refine z_icmp_ge (tgt := 26) C dX12_canTake_5 (by decide) (fun hc => ?_) (fun hc => ?_)
    · replace h := z_neg hc h
      refine z_kill (lo' := [some (.ref (z_a X 0)), some (.int v1), some (.int v2), none, none]) [3] rfl ?_
      exact t12_canTake_J26 C v1 v2 σ h
    · replace h := z_pos hc h
      refine z_aload_n C dX12_canTake_8 rfl rfl ?_
      refine z_geta (k := 48) (q := 25) C z_CF12 (by decide) flX12_86 rfl rfl dX12_canTake_9 ?_
      refine z_iload_n C dX12_canTake_12 rfl rfl ?_
      refine z_aload_n C dX12_canTake_13 rfl rfl ?_
      refine z_geta (k := 10) (q := 4) C z_CF12 (by decide) flX12_19 rfl rfl dX12_canTake_14 ?_
      refine z_iload_n C dX12_canTake_17 rfl rfl ?_
      obtain ⟨b1, h⟩ := z_chk_some h
      refine z_iald C rfl rfl b1 dX12_canTake_18 ?_
      obtain ⟨b2, h⟩ := z_chk_some h
      obtain ⟨σ3, eσ3, h⟩ := z_let_some h
      refine z_iast C rfl rfl b2 eσ3 dX12_canTake_19 ?_
      refine z_iinc (v := v3 + 1) (lo' := [some (.ref (z_a X 0)), some (.int v1), some (.int v2), some (.int (v3 + 1)), none]) C dX12_canTake_20 rfl rfl rfl ?_
      refine z_goto (tgt := 2) C dX12_canTake_23 (by decide) ?_
      exact ih v1 v2 (v3 + 1) σ3 h
set_option maxHeartbeats 4000000 in
set_option maxRecDepth 100000 in
theorem t12_canTake {a : Nat → Nat} (p1 : Int32) (p2 : Int32) {σ : z_M} {u : Int32 × z_M} (h : f12_canTake p1 p2 σ = some u) : z_Mt yX12_canTake (z_w yX12_canTake cX12_canTake 5 (some .boolean)) 5 S2 a σ [.ref (a 0), .int p1, .int p2] (z_oi u) := by
  refine z_head (lo := [some (.ref (a 0)), some (.int p1), some (.int p2), none, none]) (by decide) (Nat.le_of_ble_eq_true rfl) ?_ rfl ?_
  · intro i v hv
    exact z_loe (vs := [.ref (a 0), .int p1, .int p2]) (n := 2) rfl (by simp [z_c1i, z_c1r]) i v hv
  · intro X hXa C
    subst hXa
    unfold f12_canTake at h
    refine z_iconst (v := 0) C dX12_canTake_0 (by decide) ?_
    refine z_istore_n (lo' := [some (.ref (z_a X 0)), some (.int p1), some (.int p2), some (.int 0), none]) C dX12_canTake_1 rfl (Nat.le_of_ble_eq_true rfl) rfl ?_
    exact t12_canTake_L2 C _ p1 p2 0 σ h
set_option maxHeartbeats 4000000 in
set_option maxRecDepth 100000 in
theorem t12_setFor_L2 {X : z_Ct} (C : z_Cx S2 X RX12 cX12_setFor 3 6 (some .int)) {u : Int32 × z_M} : ∀ (n : Nat) (v1 : Int32) (v2 : Int32) (σ : z_M), f12_setFor_L2 n v1 v2 σ = some u → z_W S2 X 2 [some (.ref (z_a X 0)), some (.int v1), some (.int v2)] [] σ (z_oi u) := by
  intro n
  induction n with
  | zero => intro v1 v2 σ h; rw [f12_setFor_L2] at h; cases h
  | succ n ih =>
    intro v1 v2 σ h
    rw [f12_setFor_L2] at h
    refine z_iload_n C dX12_setFor_2 rfl rfl ?_
    refine z_sipush (v := 256) C dX12_setFor_3 (by decide) ?_
    refine z_icmp_ge (tgt := 53) C dX12_setFor_6 (by decide) (fun hc => ?_) (fun hc => ?_)
    · replace h := z_neg hc h
      refine z_iconst (v := (-1)) C dX12_setFor_53 (by decide) ?_
      exact z_iret C h dX12_setFor_54
    · replace h := z_pos hc h
      refine z_iload_n C dX12_setFor_9 rfl rfl ?_
      refine z_aload_n C dX12_setFor_10 rfl rfl ?_
      refine z_geta (k := 45) (q := 22) C z_CF12 (by decide) flX12_77 rfl rfl dX12_setFor_11 ?_
      refine z_iload_n C dX12_setFor_14 rfl rfl ?_
      obtain ⟨b1, h⟩ := z_chk_some h
      refine z_iald C rfl rfl b1 dX12_setFor_15 ?_
      refine z_iconst (v := (-1)) C dX12_setFor_16 (by decide) ?_
      refine z_ixor C dX12_setFor_17 ?_
      refine z_iand C dX12_setFor_18 ?_
      refine z_if_ne (tgt := 47) C dX12_setFor_19 (by decide) (fun hc => ?_) (fun hc => ?_)
      · replace h := z_neg hc h
        refine z_iinc (v := v2 + 1) (lo' := [some (.ref (z_a X 0)), some (.int v1), some (.int (v2 + 1))]) C dX12_setFor_47 rfl rfl rfl ?_
        refine z_goto (tgt := 2) C dX12_setFor_50 (by decide) ?_
        exact ih v1 (v2 + 1) σ h
      · replace h := z_pos hc h
        refine z_aload_n C dX12_setFor_22 rfl rfl ?_
        refine z_iload_n C dX12_setFor_23 rfl rfl ?_
        obtain ⟨r2, σ3, mσ3, h⟩ := z_bnd2 h
        refine z_cvi (As := [.int v2]) (c := 0) (st := []) C (t12_onesOf v2 mσ3) kvX12_onesOf rfl mlX12_330 z_CF12 rfl rfl (by decide) rfl (Nat.le_of_ble_eq_true rfl) dX12_setFor_24 ?_
        refine z_aload_n C dX12_setFor_27 rfl rfl ?_
        refine z_geta (k := 46) (q := 23) C z_CF12 (by decide) flX12_80 rfl rfl dX12_setFor_28 ?_
        refine z_iload_n C dX12_setFor_31 rfl rfl ?_
        obtain ⟨b4, h⟩ := z_chk_some h
        refine z_iald C rfl rfl b4 dX12_setFor_32 ?_
        refine z_icmp_ne (tgt := 47) C dX12_setFor_33 (by decide) (fun hc => ?_) (fun hc => ?_)
        · replace h := z_neg hc h
          refine z_iinc (v := v2 + 1) (lo' := [some (.ref (z_a X 0)), some (.int v1), some (.int (v2 + 1))]) C dX12_setFor_47 rfl rfl rfl ?_
          refine z_goto (tgt := 2) C dX12_setFor_50 (by decide) ?_
          exact ih v1 (v2 + 1) σ3 h
        · replace h := z_pos hc h
          refine z_aload_n C dX12_setFor_36 rfl rfl ?_
          refine z_iload_n C dX12_setFor_37 rfl rfl ?_
          refine z_iload_n C dX12_setFor_38 rfl rfl ?_
          obtain ⟨r5, σ6, mσ6, h⟩ := z_bnd2 h
          refine z_cvi (As := [.int v1, .int v2]) (c := 0) (st := []) C (t12_canTake v1 v2 mσ6) kvX12_canTake rfl mlX12_440 z_CF12 rfl rfl (by decide) rfl (Nat.le_of_ble_eq_true rfl) dX12_setFor_39 ?_
          refine z_if_eq (tgt := 47) C dX12_setFor_42 (by decide) (fun hc => ?_) (fun hc => ?_)
          · replace h := z_pos hc h
            refine z_iinc (v := v2 + 1) (lo' := [some (.ref (z_a X 0)), some (.int v1), some (.int (v2 + 1))]) C dX12_setFor_47 rfl rfl rfl ?_
            refine z_goto (tgt := 2) C dX12_setFor_50 (by decide) ?_
            exact ih v1 (v2 + 1) σ6 h
          · replace h := z_neg hc h
            refine z_iload_n C dX12_setFor_45 rfl rfl ?_
            exact z_iret C h dX12_setFor_46
set_option maxHeartbeats 4000000 in
set_option maxRecDepth 100000 in
theorem t12_setFor {a : Nat → Nat} (p1 : Int32) {σ : z_M} {u : Int32 × z_M} (h : f12_setFor p1 σ = some u) : z_Mt yX12_setFor (z_w yX12_setFor cX12_setFor 3 (some .int)) 6 S2 a σ [.ref (a 0), .int p1] (z_oi u) := by
  refine z_head (lo := [some (.ref (a 0)), some (.int p1), none]) (by decide) (Nat.le_of_ble_eq_true rfl) ?_ rfl ?_
  · intro i v hv
    exact z_loe (vs := [.ref (a 0), .int p1]) (n := 1) rfl (by simp [z_c1i, z_c1r]) i v hv
  · intro X hXa C
    subst hXa
    unfold f12_setFor at h
    refine z_iconst (v := 0) C dX12_setFor_0 (by decide) ?_
    refine z_istore_n (lo' := [some (.ref (z_a X 0)), some (.int p1), some (.int 0)]) C dX12_setFor_1 rfl (Nat.le_of_ble_eq_true rfl) rfl ?_
    exact t12_setFor_L2 C _ p1 0 σ h
set_option maxHeartbeats 4000000 in
set_option maxRecDepth 100000 in
theorem t12_gives_J86 {X : z_Ct} (C : z_Cx S2 X RX12 cX12_gives 4 7 (some .int)) {u : Int32 × z_M} (v1 : Int32) (v2 : Int32) (σ : z_M) (h : f12_gives_J86 v1 v2 σ = some u) : z_W S2 X 86 [some (.ref (z_a X 0)), some (.int v1), some (.int v2), none] [] σ (z_oi u) := by
  unfold f12_gives_J86 at h
  refine z_iload_n C dX12_gives_86 rfl rfl ?_
  refine z_if_ne (tgt := 94) C dX12_gives_87 (by decide) (fun hc => ?_) (fun hc => ?_)
  · replace h := z_neg hc h
    refine z_aload_n C dX12_gives_94 rfl rfl ?_
    refine z_geta (k := 51) (q := 28) C z_CF12 (by decide) flX12_95 rfl rfl dX12_gives_95 ?_
    refine z_iload_n C dX12_gives_98 rfl rfl ?_
    refine z_bipush (v := 10) C dX12_gives_99 (by decide) ?_
    refine z_isub C dX12_gives_101 ?_
    obtain ⟨b1, h⟩ := z_chk_some h
    refine z_iald C rfl rfl b1 dX12_gives_102 ?_
    exact z_iret C h dX12_gives_103
  · replace h := z_pos hc h
    refine z_iload_n C dX12_gives_90 rfl rfl ?_
    refine z_goto (tgt := 103) C dX12_gives_91 (by decide) ?_
    exact z_iret C h dX12_gives_103
set_option maxHeartbeats 4000000 in
set_option maxRecDepth 100000 in
theorem t12_gives_L36 {X : z_Ct} (C : z_Cx S2 X RX12 cX12_gives 4 7 (some .int)) {u : Int32 × z_M} : ∀ (n : Nat) (v1 : Int32) (v2 : Int32) (v3 : Int32) (σ : z_M), f12_gives_L36 n v1 v2 v3 σ = some u → z_W S2 X 36 [some (.ref (z_a X 0)), some (.int v1), some (.int v2), some (.int v3)] [] σ (z_oi u) := by
  intro n
  induction n with
  | zero => intro v1 v2 v3 σ h; rw [f12_gives_L36] at h; cases h
  | succ n ih =>
    intro v1 v2 v3 σ h
    rw [f12_gives_L36] at h
    refine z_iload_n C dX12_gives_36 rfl rfl ?_
    refine z_aload_n C dX12_gives_37 rfl rfl ?_
    refine z_geti (k := 6) C z_CF12 (by decide) flX12_131 rfl rfl dX12_gives_38 ?_
    refine z_icmp_ge (tgt := 86) C dX12_gives_41 (by decide) (fun hc => ?_) (fun hc => ?_)
    · replace h := z_neg hc h
      refine z_kill (lo' := [some (.ref (z_a X 0)), some (.int v1), some (.int v2), none]) [3] rfl ?_
      exact t12_gives_J86 C v1 v2 σ h
    · replace h := z_pos hc h
      refine z_aload_n C dX12_gives_44 rfl rfl ?_
      refine z_geta (k := 51) (q := 28) C z_CF12 (by decide) flX12_95 rfl rfl dX12_gives_45 ?_
      refine z_iload_n C dX12_gives_48 rfl rfl ?_
      refine z_aload_n C dX12_gives_49 rfl rfl ?_
      refine z_iload_n C dX12_gives_50 rfl rfl ?_
      obtain ⟨r1, σ2, mσ2, h⟩ := z_bnd2 h
      refine z_cvi (As := [.int v3]) (c := 0) (st := [.int v3, .ref (z_a X 28)]) C (t12_setFor v3 mσ2) kvX12_setFor rfl mlX12_446 z_CF12 rfl rfl (by decide) rfl (Nat.le_of_ble_eq_true rfl) dX12_gives_51 ?_
      obtain ⟨b3, h⟩ := z_chk_some h
      obtain ⟨σ4, eσ4, h⟩ := z_let_some h
      refine z_iast C rfl rfl b3 eσ4 dX12_gives_54 ?_
      refine z_aload_n C dX12_gives_55 rfl rfl ?_
      refine z_geta (k := 51) (q := 28) C z_CF12 (by decide) flX12_95 rfl rfl dX12_gives_56 ?_
      refine z_iload_n C dX12_gives_59 rfl rfl ?_
      obtain ⟨b5, h⟩ := z_chk_some h
      refine z_iald C rfl rfl b5 dX12_gives_60 ?_
      refine z_iconst (v := (-1)) C dX12_gives_61 (by decide) ?_
      refine z_icmp_ne (tgt := 67) C dX12_gives_62 (by decide) (fun hc => ?_) (fun hc => ?_)
      · replace h := z_neg hc h
        refine z_iload_n C dX12_gives_67 rfl rfl ?_
        refine z_aload_n C dX12_gives_68 rfl rfl ?_
        refine z_aload_n C dX12_gives_69 rfl rfl ?_
        refine z_geta (k := 51) (q := 28) C z_CF12 (by decide) flX12_95 rfl rfl dX12_gives_70 ?_
        refine z_iload_n C dX12_gives_73 rfl rfl ?_
        obtain ⟨b6, h⟩ := z_chk_some h
        refine z_iald C rfl rfl b6 dX12_gives_74 ?_
        obtain ⟨r7, σ8, mσ8, h⟩ := z_bnd2 h
        refine z_cvi (As := [.int (σ4 28 (z_ix v3))]) (c := 0) (st := [.int v2]) C (t12_onesOf (σ4 28 (z_ix v3)) mσ8) kvX12_onesOf rfl mlX12_330 z_CF12 rfl rfl (by decide) rfl (Nat.le_of_ble_eq_true rfl) dX12_gives_75 ?_
        refine z_iadd C dX12_gives_78 ?_
        refine z_istore_n (lo' := [some (.ref (z_a X 0)), some (.int v1), some (.int (v2 + r7)), some (.int v3)]) C dX12_gives_79 rfl (Nat.le_of_ble_eq_true rfl) rfl ?_
        refine z_iinc (v := v3 + 1) (lo' := [some (.ref (z_a X 0)), some (.int v1), some (.int (v2 + r7)), some (.int (v3 + 1))]) C dX12_gives_80 rfl rfl rfl ?_
        refine z_goto (tgt := 36) C dX12_gives_83 (by decide) ?_
        exact ih v1 (v2 + r7) (v3 + 1) σ8 h
      · replace h := z_pos hc h
        refine z_iconst (v := (-1)) C dX12_gives_65 (by decide) ?_
        exact z_iret C h dX12_gives_66
set_option maxHeartbeats 4000000 in
set_option maxRecDepth 100000 in
theorem t12_gives_J28 {X : z_Ct} (C : z_Cx S2 X RX12 cX12_gives 4 7 (some .int)) {u : Int32 × z_M} (v1 : Int32) (σ : z_M) (h : f12_gives_J28 v1 σ = some u) : z_W S2 X 28 [some (.ref (z_a X 0)), some (.int v1), none, none] [] σ (z_oi u) := by
  unfold f12_gives_J28 at h
  refine z_aload_n C dX12_gives_28 rfl rfl ?_
  obtain ⟨⟨⟩, σ2, mσ2, h⟩ := z_bnd2 h
  refine z_cvv (As := []) (c := 0) (st := []) C (t12_findsNeeds mσ2) kvX12_findsNeeds rfl mlX12_443 z_CF12 rfl rfl (by decide) rfl (Nat.le_of_ble_eq_true rfl) dX12_gives_29 ?_
  refine z_iconst (v := 0) C dX12_gives_32 (by decide) ?_
  refine z_istore_n (lo' := [some (.ref (z_a X 0)), some (.int v1), some (.int 0), none]) C dX12_gives_33 rfl (Nat.le_of_ble_eq_true rfl) rfl ?_
  refine z_iconst (v := 0) C dX12_gives_34 (by decide) ?_
  refine z_istore_n (lo' := [some (.ref (z_a X 0)), some (.int v1), some (.int 0), some (.int 0)]) C dX12_gives_35 rfl (Nat.le_of_ble_eq_true rfl) rfl ?_
  exact t12_gives_L36 C _ v1 0 0 σ2 h
set_option maxHeartbeats 4000000 in
set_option maxRecDepth 100000 in
theorem t12_gives {a : Nat → Nat} (p1 : Int32) {σ : z_M} {u : Int32 × z_M} (h : f12_gives p1 σ = some u) : z_Mt yX12_gives (z_w yX12_gives cX12_gives 4 (some .int)) 7 S2 a σ [.ref (a 0), .int p1] (z_oi u) := by
  refine z_head (lo := [some (.ref (a 0)), some (.int p1), none, none]) (by decide) (Nat.le_of_ble_eq_true rfl) ?_ rfl ?_
  · intro i v hv
    exact z_loe (vs := [.ref (a 0), .int p1]) (n := 2) rfl (by simp [z_c1i, z_c1r]) i v hv
  · intro X hXa C
    subst hXa
    unfold f12_gives at h
    refine z_aload_n C dX12_gives_0 rfl rfl ?_
    refine z_iconst (v := 0) C dX12_gives_1 (by decide) ?_
    obtain ⟨σ1, eσ1, h⟩ := z_let_some h
    refine z_puti (k := 0) C z_CF12 (by decide) flX12_113 rfl rfl rfl rfl eσ1 dX12_gives_2 ?_
    refine z_iload_n C dX12_gives_5 rfl rfl ?_
    refine z_if_eq (tgt := 28) C dX12_gives_6 (by decide) (fun hc => ?_) (fun hc => ?_)
    · replace h := z_pos hc h
      exact t12_gives_J28 C p1 σ1 h
    · replace h := z_neg hc h
      refine z_aload_n C dX12_gives_9 rfl rfl ?_
      refine z_iload_n C dX12_gives_10 rfl rfl ?_
      refine z_bipush (v := 10) C dX12_gives_11 (by decide) ?_
      refine z_bipush (v := 9) C dX12_gives_13 (by decide) ?_
      refine z_aload_n C dX12_gives_15 rfl rfl ?_
      refine z_geti (k := 6) C z_CF12 (by decide) flX12_131 rfl rfl dX12_gives_16 ?_
      refine z_iadd C dX12_gives_19 ?_
      obtain ⟨r2, σ3, mσ3, h⟩ := z_bnd2 h
      refine z_cvi (As := [.int p1, .int 10, .int (9 + (σ1 0 6))]) (c := 0) (st := []) C (t12_isIn p1 10 (9 + (σ1 0 6)) mσ3) kvX12_isIn rfl mlX12_142 z_CF12 rfl rfl (by decide) rfl (Nat.le_of_ble_eq_true rfl) dX12_gives_20 ?_
      refine z_if_ne (tgt := 28) C dX12_gives_23 (by decide) (fun hc => ?_) (fun hc => ?_)
      · replace h := z_neg hc h
        exact t12_gives_J28 C p1 σ3 h
      · replace h := z_pos hc h
        refine z_iconst (v := (-1)) C dX12_gives_26 (by decide) ?_
        exact z_iret C h dX12_gives_27
set_option maxHeartbeats 4000000 in
set_option maxRecDepth 100000 in
theorem t12_done_L9 {X : z_Ct} (C : z_Cx S2 X RX12 cX12_done 3 3 (some .int)) {u : Int32 × z_M} : ∀ (n : Nat) (v1 : Int32) (v2 : Int32) (σ : z_M), f12_done_L9 n v1 v2 σ = some u → z_W S2 X 9 [some (.ref (z_a X 0)), some (.int v1), some (.int v2)] [] σ (z_oi u) := by
  intro n
  induction n with
  | zero => intro v1 v2 σ h; rw [f12_done_L9] at h; cases h
  | succ n ih =>
    intro v1 v2 σ h
    rw [f12_done_L9] at h
    refine z_iload_n C dX12_done_9 rfl rfl ?_
    refine z_aload_n C dX12_done_10 rfl rfl ?_
    refine z_geti (k := 38) C z_CF12 (by decide) flX12_303 rfl rfl dX12_done_11 ?_
    refine z_icmp_ge (tgt := 67) C dX12_done_14 (by decide) (fun hc => ?_) (fun hc => ?_)
    · replace h := z_neg hc h
      refine z_iload_n C dX12_done_67 rfl rfl ?_
      exact z_iret C h dX12_done_68
    · replace h := z_pos hc h
      refine z_aload_n C dX12_done_17 rfl rfl ?_
      refine z_aload_n C dX12_done_18 rfl rfl ?_
      refine z_geta (k := 39) (q := 18) C z_CF12 (by decide) flX12_65 rfl rfl dX12_done_19 ?_
      refine z_iconst (v := 3) C dX12_done_22 (by decide) ?_
      refine z_iload_n C dX12_done_23 rfl rfl ?_
      refine z_imul C dX12_done_24 ?_
      obtain ⟨b1, h⟩ := z_chk_some h
      refine z_iald C rfl rfl b1 dX12_done_25 ?_
      obtain ⟨r2, σ3, mσ3, h⟩ := z_bnd2 h
      refine z_cvi (As := [.int (σ 18 (z_ix (3 * v2)))]) (c := 0) (st := []) C (t12_suresOf (σ 18 (z_ix (3 * v2))) mσ3) kvX12_suresOf rfl mlX12_327 z_CF12 rfl rfl (by decide) rfl (Nat.le_of_ble_eq_true rfl) dX12_done_26 ?_
      refine z_aload_n C dX12_done_29 rfl rfl ?_
      refine z_geta (k := 39) (q := 18) C z_CF12 (by decide) flX12_65 rfl rfl dX12_done_30 ?_
      refine z_iconst (v := 3) C dX12_done_33 (by decide) ?_
      refine z_iload_n C dX12_done_34 rfl rfl ?_
      refine z_imul C dX12_done_35 ?_
      refine z_iconst (v := 2) C dX12_done_36 (by decide) ?_
      refine z_iadd C dX12_done_37 ?_
      obtain ⟨b4, h⟩ := z_chk_some h
      refine z_iald C rfl rfl b4 dX12_done_38 ?_
      refine z_ishr C dX12_done_39 ?_
      refine z_iconst (v := 1) C dX12_done_40 (by decide) ?_
      refine z_iand C dX12_done_41 ?_
      refine z_aload_n C dX12_done_42 rfl rfl ?_
      refine z_geta (k := 39) (q := 18) C z_CF12 (by decide) flX12_65 rfl rfl dX12_done_43 ?_
      refine z_iconst (v := 3) C dX12_done_46 (by decide) ?_
      refine z_iload_n C dX12_done_47 rfl rfl ?_
      refine z_imul C dX12_done_48 ?_
      refine z_iconst (v := 1) C dX12_done_49 (by decide) ?_
      refine z_iadd C dX12_done_50 ?_
      obtain ⟨b5, h⟩ := z_chk_some h
      refine z_iald C rfl rfl b5 dX12_done_51 ?_
      refine z_icmp_ne (tgt := 61) C dX12_done_52 (by decide) (fun hc => ?_) (fun hc => ?_)
      · replace h := z_neg hc h
        refine z_iinc (v := v2 + 1) (lo' := [some (.ref (z_a X 0)), some (.int v1), some (.int (v2 + 1))]) C dX12_done_61 rfl rfl rfl ?_
        refine z_goto (tgt := 9) C dX12_done_64 (by decide) ?_
        exact ih v1 (v2 + 1) σ3 h
      · replace h := z_pos hc h
        refine z_iload_n C dX12_done_55 rfl rfl ?_
        refine z_iconst (v := 1) C dX12_done_56 (by decide) ?_
        refine z_iload_n C dX12_done_57 rfl rfl ?_
        refine z_ishl C dX12_done_58 ?_
        refine z_ior C dX12_done_59 ?_
        refine z_istore_n (lo' := [some (.ref (z_a X 0)), some (.int (v1 ||| (z_shl 1 v2))), some (.int v2)]) C dX12_done_60 rfl (Nat.le_of_ble_eq_true rfl) rfl ?_
        refine z_iinc (v := v2 + 1) (lo' := [some (.ref (z_a X 0)), some (.int (v1 ||| (z_shl 1 v2))), some (.int (v2 + 1))]) C dX12_done_61 rfl rfl rfl ?_
        refine z_goto (tgt := 9) C dX12_done_64 (by decide) ?_
        exact ih (v1 ||| (z_shl 1 v2)) (v2 + 1) σ3 h
set_option maxHeartbeats 4000000 in
set_option maxRecDepth 100000 in
theorem t12_done {a : Nat → Nat} {σ : z_M} {u : Int32 × z_M} (h : f12_done σ = some u) : z_Mt yX12_done (z_w yX12_done cX12_done 3 (some .int)) 3 S2 a σ [.ref (a 0)] (z_oi u) := by
  refine z_head (lo := [some (.ref (a 0)), none, none]) (by decide) (Nat.le_of_ble_eq_true rfl) ?_ rfl ?_
  · intro i v hv
    exact z_loe (vs := [.ref (a 0)]) (n := 2) rfl (by simp [z_c1i, z_c1r]) i v hv
  · intro X hXa C
    subst hXa
    unfold f12_done at h
    refine z_aload_n C dX12_done_0 rfl rfl ?_
    refine z_iconst (v := 0) C dX12_done_1 (by decide) ?_
    obtain ⟨σ1, eσ1, h⟩ := z_let_some h
    refine z_puti (k := 0) C z_CF12 (by decide) flX12_113 rfl rfl rfl rfl eσ1 dX12_done_2 ?_
    refine z_iconst (v := 0) C dX12_done_5 (by decide) ?_
    refine z_istore_n (lo' := [some (.ref (z_a X 0)), some (.int 0), none]) C dX12_done_6 rfl (Nat.le_of_ble_eq_true rfl) rfl ?_
    refine z_iconst (v := 0) C dX12_done_7 (by decide) ?_
    refine z_istore_n (lo' := [some (.ref (z_a X 0)), some (.int 0), some (.int 0)]) C dX12_done_8 rfl (Nat.le_of_ble_eq_true rfl) rfl ?_
    exact t12_done_L9 C _ 0 0 σ1 h
set_option maxHeartbeats 4000000 in
set_option maxRecDepth 100000 in
theorem t12_areAtPeace_L2 {X : z_Ct} (C : z_Cx S2 X RX12 cX12_areAtPeace 3 2 (some .boolean)) {u : Int32 × z_M} : ∀ (n : Nat) (v1 : Int32) (v2 : Int32) (σ : z_M), f12_areAtPeace_L2 n v1 v2 σ = some u → z_W S2 X 2 [some (.ref (z_a X 0)), some (.int v1), some (.int v2)] [] σ (z_oi u) := by
  intro n
  induction n with
  | zero => intro v1 v2 σ h; rw [f12_areAtPeace_L2] at h; cases h
  | succ n ih =>
    intro v1 v2 σ h
    rw [f12_areAtPeace_L2] at h
    refine z_iload_n C dX12_areAtPeace_2 rfl rfl ?_
    refine z_aload_n C dX12_areAtPeace_3 rfl rfl ?_
    refine z_geti (k := 36) C z_CF12 (by decide) flX12_297 rfl rfl dX12_areAtPeace_4 ?_
    refine z_icmp_ge (tgt := 52) C dX12_areAtPeace_7 (by decide) (fun hc => ?_) (fun hc => ?_)
    · replace h := z_neg hc h
      refine z_iconst (v := 1) C dX12_areAtPeace_52 (by decide) ?_
      exact z_zret C (by decide) h dX12_areAtPeace_53
    · replace h := z_pos hc h
      refine z_aload_n C dX12_areAtPeace_10 rfl rfl ?_
      refine z_iload_n C dX12_areAtPeace_11 rfl rfl ?_
      refine z_iconst (v := 2) C dX12_areAtPeace_12 (by decide) ?_
      obtain ⟨r1, σ2, mσ2, h⟩ := z_bnd2 h
      refine z_cvi (As := [.int v2, .int 2]) (c := 0) (st := []) C (t12_ofReason v2 2 mσ2) kvX12_ofReason rfl mlX12_368 z_CF12 rfl rfl (by decide) rfl (Nat.le_of_ble_eq_true rfl) dX12_areAtPeace_13 ?_
      refine z_if_ne (tgt := 46) C dX12_areAtPeace_16 (by decide) (fun hc => ?_) (fun hc => ?_)
      · replace h := z_neg hc h
        refine z_iinc (v := v2 + 1) (lo' := [some (.ref (z_a X 0)), some (.int v1), some (.int (v2 + 1))]) C dX12_areAtPeace_46 rfl rfl rfl ?_
        refine z_goto (tgt := 2) C dX12_areAtPeace_49 (by decide) ?_
        exact ih v1 (v2 + 1) σ2 h
      · replace h := z_pos hc h
        refine z_iload_n C dX12_areAtPeace_19 rfl rfl ?_
        refine z_aload_n C dX12_areAtPeace_20 rfl rfl ?_
        refine z_iload_n C dX12_areAtPeace_21 rfl rfl ?_
        refine z_iconst (v := 0) C dX12_areAtPeace_22 (by decide) ?_
        obtain ⟨r3, σ4, mσ4, h⟩ := z_bnd2 h
        refine z_cvi (As := [.int v2, .int 0]) (c := 0) (st := [.int v1]) C (t12_ofReason v2 0 mσ4) kvX12_ofReason rfl mlX12_368 z_CF12 rfl rfl (by decide) rfl (Nat.le_of_ble_eq_true rfl) dX12_areAtPeace_23 ?_
        refine z_ishr C dX12_areAtPeace_26 ?_
        refine z_iconst (v := 1) C dX12_areAtPeace_27 (by decide) ?_
        refine z_iand C dX12_areAtPeace_28 ?_
        refine z_iconst (v := 1) C dX12_areAtPeace_29 (by decide) ?_
        refine z_icmp_ne (tgt := 46) C dX12_areAtPeace_30 (by decide) (fun hc => ?_) (fun hc => ?_)
        · replace h := z_neg hc h
          refine z_iinc (v := v2 + 1) (lo' := [some (.ref (z_a X 0)), some (.int v1), some (.int (v2 + 1))]) C dX12_areAtPeace_46 rfl rfl rfl ?_
          refine z_goto (tgt := 2) C dX12_areAtPeace_49 (by decide) ?_
          exact ih v1 (v2 + 1) σ4 h
        · replace h := z_pos hc h
          refine z_iload_n C dX12_areAtPeace_33 rfl rfl ?_
          refine z_aload_n C dX12_areAtPeace_34 rfl rfl ?_
          refine z_iload_n C dX12_areAtPeace_35 rfl rfl ?_
          refine z_iconst (v := 1) C dX12_areAtPeace_36 (by decide) ?_
          obtain ⟨r5, σ6, mσ6, h⟩ := z_bnd2 h
          refine z_cvi (As := [.int v2, .int 1]) (c := 0) (st := [.int v1]) C (t12_ofReason v2 1 mσ6) kvX12_ofReason rfl mlX12_368 z_CF12 rfl rfl (by decide) rfl (Nat.le_of_ble_eq_true rfl) dX12_areAtPeace_37 ?_
          refine z_iand C dX12_areAtPeace_40 ?_
          refine z_if_eq (tgt := 46) C dX12_areAtPeace_41 (by decide) (fun hc => ?_) (fun hc => ?_)
          · replace h := z_pos hc h
            refine z_iinc (v := v2 + 1) (lo' := [some (.ref (z_a X 0)), some (.int v1), some (.int (v2 + 1))]) C dX12_areAtPeace_46 rfl rfl rfl ?_
            refine z_goto (tgt := 2) C dX12_areAtPeace_49 (by decide) ?_
            exact ih v1 (v2 + 1) σ6 h
          · replace h := z_neg hc h
            refine z_iconst (v := 0) C dX12_areAtPeace_44 (by decide) ?_
            exact z_zret C (by decide) h dX12_areAtPeace_45
set_option maxHeartbeats 4000000 in
set_option maxRecDepth 100000 in
theorem t12_areAtPeace {a : Nat → Nat} (p1 : Int32) {σ : z_M} {u : Int32 × z_M} (h : f12_areAtPeace p1 σ = some u) : z_Mt yX12_areAtPeace (z_w yX12_areAtPeace cX12_areAtPeace 3 (some .boolean)) 2 S2 a σ [.ref (a 0), .int p1] (z_oi u) := by
  refine z_head (lo := [some (.ref (a 0)), some (.int p1), none]) (by decide) (Nat.le_of_ble_eq_true rfl) ?_ rfl ?_
  · intro i v hv
    exact z_loe (vs := [.ref (a 0), .int p1]) (n := 1) rfl (by simp [z_c1i, z_c1r]) i v hv
  · intro X hXa C
    subst hXa
    unfold f12_areAtPeace at h
    refine z_iconst (v := 0) C dX12_areAtPeace_0 (by decide) ?_
    refine z_istore_n (lo' := [some (.ref (z_a X 0)), some (.int p1), some (.int 0)]) C dX12_areAtPeace_1 rfl (Nat.le_of_ble_eq_true rfl) rfl ?_
    exact t12_areAtPeace_L2 C _ p1 0 σ h
set_option maxHeartbeats 4000000 in
set_option maxRecDepth 100000 in
theorem t12_struck_J147 {X : z_Ct} (C : z_Cx S2 X RX12 cX12_struck 9 3 (some .int)) {u : Int32 × z_M} {k42 : Int32 → Int32 → Int32 → Int32 → Int32 → Int32 → z_M → Option (Int32 × z_M)} (hr42 : ∀ (v1 : Int32) (v2 : Int32) (v3 : Int32) (v4 : Int32) (v5 : Int32) (v6 : Int32) (σ : z_M), k42 v1 v2 v3 v4 v5 v6 σ = some u → z_W S2 X 42 [some (.ref (z_a X 0)), some (.int v1), some (.int v2), some (.int v3), some (.int v4), some (.int v5), some (.int v6), none, none] [] σ (z_oi u)) (v1 : Int32) (v2 : Int32) (v3 : Int32) (v4 : Int32) (v6 : Int32) (s0 : Int32) (σ : z_M) (h : f12_struck_J147 k42 v1 v2 v3 v4 v6 s0 σ = some u) : z_W S2 X 147 [some (.ref (z_a X 0)), some (.int v1), some (.int v2), some (.int v3), some (.int v4), none, some (.int v6), none, none] [.int s0] σ (z_oi u) := by
  unfold f12_struck_J147 at h
  refine z_istore (lo' := [some (.ref (z_a X 0)), some (.int v1), some (.int v2), some (.int v3), some (.int v4), some (.int s0), some (.int v6), none, none]) C dX12_struck_147 (Nat.le_of_ble_eq_true rfl) rfl ?_
  refine z_iinc (v := v6 + 1) (lo' := [some (.ref (z_a X 0)), some (.int v1), some (.int v2), some (.int v3), some (.int v4), some (.int s0), some (.int (v6 + 1)), none, none]) C dX12_struck_149 rfl rfl rfl ?_
  refine z_goto (tgt := 42) C dX12_struck_152 (by decide) ?_
  exact hr42 v1 v2 v3 v4 s0 (v6 + 1) σ h
set_option maxHeartbeats 4000000 in
set_option maxRecDepth 100000 in
theorem t12_struck_J131 {X : z_Ct} (C : z_Cx S2 X RX12 cX12_struck 9 3 (some .int)) {u : Int32 × z_M} {k42 : Int32 → Int32 → Int32 → Int32 → Int32 → Int32 → z_M → Option (Int32 × z_M)} (hr42 : ∀ (v1 : Int32) (v2 : Int32) (v3 : Int32) (v4 : Int32) (v5 : Int32) (v6 : Int32) (σ : z_M), k42 v1 v2 v3 v4 v5 v6 σ = some u → z_W S2 X 42 [some (.ref (z_a X 0)), some (.int v1), some (.int v2), some (.int v3), some (.int v4), some (.int v5), some (.int v6), none, none] [] σ (z_oi u)) (v1 : Int32) (v2 : Int32) (v3 : Int32) (v5 : Int32) (v6 : Int32) (v7 : Int32) (s0 : Int32) (σ : z_M) (h : f12_struck_J131 k42 v1 v2 v3 v5 v6 v7 s0 σ = some u) : z_W S2 X 131 [some (.ref (z_a X 0)), some (.int v1), some (.int v2), some (.int v3), none, some (.int v5), some (.int v6), some (.int v7), none] [.int s0] σ (z_oi u) := by
  unfold f12_struck_J131 at h
  refine z_istore (lo' := [some (.ref (z_a X 0)), some (.int v1), some (.int v2), some (.int v3), some (.int s0), some (.int v5), some (.int v6), some (.int v7), none]) C dX12_struck_131 (Nat.le_of_ble_eq_true rfl) rfl ?_
  refine z_iload C dX12_struck_133 rfl ?_
  refine z_iload C dX12_struck_135 rfl ?_
  refine z_icmp_ge (tgt := 145) C dX12_struck_137 (by decide) (fun hc => ?_) (fun hc => ?_)
  · replace h := z_neg hc h
    refine z_iload C dX12_struck_145 rfl ?_
    refine z_kill (lo' := [some (.ref (z_a X 0)), some (.int v1), some (.int v2), some (.int v3), some (.int s0), none, some (.int v6), none, none]) [5, 7] rfl ?_
    exact t12_struck_J147 C hr42 v1 v2 v3 s0 v6 v5 σ h
  · replace h := z_pos hc h
    refine z_iload C dX12_struck_140 rfl ?_
    refine z_goto (tgt := 147) C dX12_struck_142 (by decide) ?_
    refine z_kill (lo' := [some (.ref (z_a X 0)), some (.int v1), some (.int v2), some (.int v3), some (.int s0), none, some (.int v6), none, none]) [5, 7] rfl ?_
    exact t12_struck_J147 C hr42 v1 v2 v3 s0 v6 v7 σ h
set_option maxHeartbeats 4000000 in
set_option maxRecDepth 100000 in
theorem t12_struck_J117 {X : z_Ct} (C : z_Cx S2 X RX12 cX12_struck 9 3 (some .int)) {u : Int32 × z_M} {k42 : Int32 → Int32 → Int32 → Int32 → Int32 → Int32 → z_M → Option (Int32 × z_M)} (hr42 : ∀ (v1 : Int32) (v2 : Int32) (v3 : Int32) (v4 : Int32) (v5 : Int32) (v6 : Int32) (σ : z_M), k42 v1 v2 v3 v4 v5 v6 σ = some u → z_W S2 X 42 [some (.ref (z_a X 0)), some (.int v1), some (.int v2), some (.int v3), some (.int v4), some (.int v5), some (.int v6), none, none] [] σ (z_oi u)) (v1 : Int32) (v2 : Int32) (v3 : Int32) (v4 : Int32) (v5 : Int32) (v6 : Int32) (v7 : Int32) (σ : z_M) (h : f12_struck_J117 k42 v1 v2 v3 v4 v5 v6 v7 σ = some u) : z_W S2 X 117 [some (.ref (z_a X 0)), some (.int v1), some (.int v2), some (.int v3), some (.int v4), some (.int v5), some (.int v6), some (.int v7), none] [] σ (z_oi u) := by
  unfold f12_struck_J117 at h
  refine z_iload C dX12_struck_117 rfl ?_
  refine z_iload C dX12_struck_119 rfl ?_
  refine z_icmp_ge (tgt := 129) C dX12_struck_121 (by decide) (fun hc => ?_) (fun hc => ?_)
  · replace h := z_neg hc h
    refine z_iload C dX12_struck_129 rfl ?_
    refine z_kill (lo' := [some (.ref (z_a X 0)), some (.int v1), some (.int v2), some (.int v3), none, some (.int v5), some (.int v6), some (.int v7), none]) [4] rfl ?_
    exact t12_struck_J131 C hr42 v1 v2 v3 v5 v6 v7 v4 σ h
  · replace h := z_pos hc h
    refine z_iload C dX12_struck_124 rfl ?_
    refine z_goto (tgt := 131) C dX12_struck_126 (by decide) ?_
    refine z_kill (lo' := [some (.ref (z_a X 0)), some (.int v1), some (.int v2), some (.int v3), none, some (.int v5), some (.int v6), some (.int v7), none]) [4] rfl ?_
    exact t12_struck_J131 C hr42 v1 v2 v3 v5 v6 v7 v6 σ h
set_option maxHeartbeats 4000000 in
set_option maxRecDepth 100000 in
theorem t12_struck_L81 {X : z_Ct} (C : z_Cx S2 X RX12 cX12_struck 9 3 (some .int)) {u : Int32 × z_M} {k42 : Int32 → Int32 → Int32 → Int32 → Int32 → Int32 → z_M → Option (Int32 × z_M)} (hr42 : ∀ (v1 : Int32) (v2 : Int32) (v3 : Int32) (v4 : Int32) (v5 : Int32) (v6 : Int32) (σ : z_M), k42 v1 v2 v3 v4 v5 v6 σ = some u → z_W S2 X 42 [some (.ref (z_a X 0)), some (.int v1), some (.int v2), some (.int v3), some (.int v4), some (.int v5), some (.int v6), none, none] [] σ (z_oi u)) : ∀ (n : Nat) (v1 : Int32) (v2 : Int32) (v3 : Int32) (v4 : Int32) (v5 : Int32) (v6 : Int32) (v7 : Int32) (v8 : Int32) (σ : z_M), f12_struck_L81 k42 n v1 v2 v3 v4 v5 v6 v7 v8 σ = some u → z_W S2 X 81 [some (.ref (z_a X 0)), some (.int v1), some (.int v2), some (.int v3), some (.int v4), some (.int v5), some (.int v6), some (.int v7), some (.int v8)] [] σ (z_oi u) := by
  intro n
  induction n with
  | zero => intro v1 v2 v3 v4 v5 v6 v7 v8 σ h; rw [f12_struck_L81] at h; cases h
  | succ n ih =>
    intro v1 v2 v3 v4 v5 v6 v7 v8 σ h
    rw [f12_struck_L81] at h
    refine z_iload C dX12_struck_81 rfl ?_
    refine z_bipush (v := 8) C dX12_struck_83 (by decide) ?_
    refine z_icmp_ge (tgt := 117) C dX12_struck_85 (by decide) (fun hc => ?_) (fun hc => ?_)
    · replace h := z_neg hc h
      refine z_kill (lo' := [some (.ref (z_a X 0)), some (.int v1), some (.int v2), some (.int v3), some (.int v4), some (.int v5), some (.int v6), some (.int v7), none]) [8] rfl ?_
      exact t12_struck_J117 C hr42 v1 v2 v3 v4 v5 v6 v7 σ h
    · replace h := z_pos hc h
      refine z_iload C dX12_struck_88 rfl ?_
      refine z_iload C dX12_struck_90 rfl ?_
      refine z_ishr C dX12_struck_92 ?_
      refine z_iconst (v := 1) C dX12_struck_93 (by decide) ?_
      refine z_iand C dX12_struck_94 ?_
      refine z_iconst (v := 1) C dX12_struck_95 (by decide) ?_
      refine z_icmp_ne (tgt := 111) C dX12_struck_96 (by decide) (fun hc => ?_) (fun hc => ?_)
      · replace h := z_neg hc h
        refine z_iinc (v := v8 + 1) (lo' := [some (.ref (z_a X 0)), some (.int v1), some (.int v2), some (.int v3), some (.int v4), some (.int v5), some (.int v6), some (.int v7), some (.int (v8 + 1))]) C dX12_struck_111 rfl rfl rfl ?_
        refine z_goto (tgt := 81) C dX12_struck_114 (by decide) ?_
        exact ih v1 v2 v3 v4 v5 v6 v7 (v8 + 1) σ h
      · replace h := z_pos hc h
        refine z_iload C dX12_struck_99 rfl ?_
        refine z_aload_n C dX12_struck_101 rfl rfl ?_
        refine z_iload_n C dX12_struck_102 rfl rfl ?_
        refine z_iload C dX12_struck_103 rfl ?_
        obtain ⟨r1, σ2, mσ2, h⟩ := z_bnd2 h
        refine z_cvi (As := [.int v1, .int v8]) (c := 0) (st := [.int v7]) C (t12_degreeOf v1 v8 mσ2) kvX12_degreeOf rfl mlX12_134 z_CF12 rfl rfl (by decide) rfl (Nat.le_of_ble_eq_true rfl) dX12_struck_105 ?_
        refine z_iadd C dX12_struck_108 ?_
        refine z_istore (lo' := [some (.ref (z_a X 0)), some (.int v1), some (.int v2), some (.int v3), some (.int v4), some (.int v5), some (.int v6), some (.int (v7 + r1)), some (.int v8)]) C dX12_struck_109 (Nat.le_of_ble_eq_true rfl) rfl ?_
        refine z_iinc (v := v8 + 1) (lo' := [some (.ref (z_a X 0)), some (.int v1), some (.int v2), some (.int v3), some (.int v4), some (.int v5), some (.int v6), some (.int (v7 + r1)), some (.int (v8 + 1))]) C dX12_struck_111 rfl rfl rfl ?_
        refine z_goto (tgt := 81) C dX12_struck_114 (by decide) ?_
        exact ih v1 v2 v3 v4 v5 v6 (v7 + r1) (v8 + 1) σ2 h
set_option maxHeartbeats 4000000 in
set_option maxRecDepth 100000 in
theorem t12_struck_J155 {X : z_Ct} (C : z_Cx S2 X RX12 cX12_struck 9 3 (some .int)) {u : Int32 × z_M} (v2 : Int32) (v4 : Int32) (v5 : Int32) (σ : z_M) (h : f12_struck_J155 v2 v4 v5 σ = some u) : z_W S2 X 155 [none, none, some (.int v2), none, some (.int v4), some (.int v5), none, none, none] [] σ (z_oi u) := by
  unfold f12_struck_J155 at h
  refine z_iload_n C dX12_struck_155 rfl rfl ?_
  refine z_if_ne (tgt := 164) C dX12_struck_156 (by decide) (fun hc => ?_) (fun hc => ?_)
  · replace h := z_neg hc h
    refine z_iload C dX12_struck_164 rfl ?_
    exact z_iret C h dX12_struck_166
  · replace h := z_pos hc h
    refine z_iload C dX12_struck_159 rfl ?_
    refine z_goto (tgt := 166) C dX12_struck_161 (by decide) ?_
    exact z_iret C h dX12_struck_166
set_option maxHeartbeats 4000000 in
set_option maxRecDepth 100000 in
theorem t12_struck_L42 {X : z_Ct} (C : z_Cx S2 X RX12 cX12_struck 9 3 (some .int)) {u : Int32 × z_M} : ∀ (n : Nat) (v1 : Int32) (v2 : Int32) (v3 : Int32) (v4 : Int32) (v5 : Int32) (v6 : Int32) (σ : z_M), f12_struck_L42 n v1 v2 v3 v4 v5 v6 σ = some u → z_W S2 X 42 [some (.ref (z_a X 0)), some (.int v1), some (.int v2), some (.int v3), some (.int v4), some (.int v5), some (.int v6), none, none] [] σ (z_oi u) := by
  intro n
  induction n with
  | zero => intro v1 v2 v3 v4 v5 v6 σ h; rw [f12_struck_L42] at h; cases h
  | succ n ih =>
    intro v1 v2 v3 v4 v5 v6 σ h
    rw [f12_struck_L42] at h
    refine z_iload C dX12_struck_42 rfl ?_
    refine z_sipush (v := 256) C dX12_struck_44 (by decide) ?_
    refine z_icmp_ge (tgt := 155) C dX12_struck_47 (by decide) (fun hc => ?_) (fun hc => ?_)
    · replace h := z_neg hc h
      refine z_kill (lo' := [none, none, some (.int v2), none, some (.int v4), some (.int v5), none, none, none]) [0, 1, 3, 6] rfl ?_
      exact t12_struck_J155 C v2 v4 v5 σ h
    · replace h := z_pos hc h
      refine z_iload C dX12_struck_50 rfl ?_
      refine z_iload_n C dX12_struck_52 rfl rfl ?_
      refine z_iconst (v := (-1)) C dX12_struck_53 (by decide) ?_
      refine z_ixor C dX12_struck_54 ?_
      refine z_iand C dX12_struck_55 ?_
      refine z_if_ne (tgt := 149) C dX12_struck_56 (by decide) (fun hc => ?_) (fun hc => ?_)
      · replace h := z_neg hc h
        refine z_iinc (v := v6 + 1) (lo' := [some (.ref (z_a X 0)), some (.int v1), some (.int v2), some (.int v3), some (.int v4), some (.int v5), some (.int (v6 + 1)), none, none]) C dX12_struck_149 rfl rfl rfl ?_
        refine z_goto (tgt := 42) C dX12_struck_152 (by decide) ?_
        exact ih v1 v2 v3 v4 v5 (v6 + 1) σ h
      · replace h := z_pos hc h
        refine z_aload_n C dX12_struck_59 rfl rfl ?_
        refine z_iload_n C dX12_struck_60 rfl rfl ?_
        refine z_iload C dX12_struck_61 rfl ?_
        refine z_iconst (v := (-1)) C dX12_struck_63 (by decide) ?_
        refine z_ixor C dX12_struck_64 ?_
        refine z_iand C dX12_struck_65 ?_
        obtain ⟨r1, σ2, mσ2, h⟩ := z_bnd2 h
        refine z_cvi (As := [.int (v3 &&& (v6 ^^^ (-1)))]) (c := 0) (st := []) C (t12_areAtPeace (v3 &&& (v6 ^^^ (-1))) mσ2) kvX12_areAtPeace rfl mlX12_450 z_CF12 rfl rfl (by decide) rfl (Nat.le_of_ble_eq_true rfl) dX12_struck_66 ?_
        refine z_if_ne (tgt := 75) C dX12_struck_69 (by decide) (fun hc => ?_) (fun hc => ?_)
        · replace h := z_neg hc h
          refine z_iconst (v := 0) C dX12_struck_75 (by decide) ?_
          refine z_istore (lo' := [some (.ref (z_a X 0)), some (.int v1), some (.int v2), some (.int v3), some (.int v4), some (.int v5), some (.int v6), some (.int 0), none]) C dX12_struck_76 (Nat.le_of_ble_eq_true rfl) rfl ?_
          refine z_iconst (v := 0) C dX12_struck_78 (by decide) ?_
          refine z_istore (lo' := [some (.ref (z_a X 0)), some (.int v1), some (.int v2), some (.int v3), some (.int v4), some (.int v5), some (.int v6), some (.int 0), some (.int 0)]) C dX12_struck_79 (Nat.le_of_ble_eq_true rfl) rfl ?_
          exact t12_struck_L81 C ih _ v1 v2 v3 v4 v5 v6 0 0 σ2 h
        · replace h := z_pos hc h
          refine z_goto (tgt := 149) C dX12_struck_72 (by decide) ?_
          refine z_iinc (v := v6 + 1) (lo' := [some (.ref (z_a X 0)), some (.int v1), some (.int v2), some (.int v3), some (.int v4), some (.int v5), some (.int (v6 + 1)), none, none]) C dX12_struck_149 rfl rfl rfl ?_
          refine z_goto (tgt := 42) C dX12_struck_152 (by decide) ?_
          exact ih v1 v2 v3 v4 v5 (v6 + 1) σ2 h
set_option maxHeartbeats 4000000 in
set_option maxRecDepth 100000 in
theorem t12_struck {a : Nat → Nat} (p1 : Int32) (p2 : Int32) {σ : z_M} {u : Int32 × z_M} (h : f12_struck p1 p2 σ = some u) : z_Mt yX12_struck (z_w yX12_struck cX12_struck 9 (some .int)) 3 S2 a σ [.ref (a 0), .int p1, .int p2] (z_oi u) := by
  refine z_head (lo := [some (.ref (a 0)), some (.int p1), some (.int p2), none, none, none, none, none, none]) (by decide) (Nat.le_of_ble_eq_true rfl) ?_ rfl ?_
  · intro i v hv
    exact z_loe (vs := [.ref (a 0), .int p1, .int p2]) (n := 6) rfl (by simp [z_c1i, z_c1r]) i v hv
  · intro X hXa C
    subst hXa
    unfold f12_struck at h
    refine z_aload_n C dX12_struck_0 rfl rfl ?_
    refine z_iconst (v := 0) C dX12_struck_1 (by decide) ?_
    obtain ⟨σ1, eσ1, h⟩ := z_let_some h
    refine z_puti (k := 0) C z_CF12 (by decide) flX12_113 rfl rfl rfl rfl eσ1 dX12_struck_2 ?_
    refine z_aload_n C dX12_struck_5 rfl rfl ?_
    refine z_iload_n C dX12_struck_6 rfl rfl ?_
    obtain ⟨r2, σ3, mσ3, h⟩ := z_bnd2 h
    refine z_cvi (As := [.int p1]) (c := 0) (st := []) C (t12_isHouse p1 mσ3) kvX12_isHouse rfl mlX12_156 z_CF12 rfl rfl (by decide) rfl (Nat.le_of_ble_eq_true rfl) dX12_struck_7 ?_
    refine z_if_eq (tgt := 23) C dX12_struck_10 (by decide) (fun hc => ?_) (fun hc => ?_)
    · replace h := z_pos hc h
      refine z_iconst (v := (-1)) C dX12_struck_23 (by decide) ?_
      exact z_iret C h dX12_struck_24
    · replace h := z_neg hc h
      refine z_aload_n C dX12_struck_13 rfl rfl ?_
      refine z_iload_n C dX12_struck_14 rfl rfl ?_
      refine z_iconst (v := 0) C dX12_struck_15 (by decide) ?_
      refine z_iconst (v := 1) C dX12_struck_16 (by decide) ?_
      obtain ⟨r4, σ5, mσ5, h⟩ := z_bnd2 h
      refine z_cvi (As := [.int p2, .int 0, .int 1]) (c := 0) (st := []) C (t12_isIn p2 0 1 mσ5) kvX12_isIn rfl mlX12_142 z_CF12 rfl rfl (by decide) rfl (Nat.le_of_ble_eq_true rfl) dX12_struck_17 ?_
      refine z_if_ne (tgt := 25) C dX12_struck_20 (by decide) (fun hc => ?_) (fun hc => ?_)
      · replace h := z_neg hc h
        refine z_aload_n C dX12_struck_25 rfl rfl ?_
        refine z_iload_n C dX12_struck_26 rfl rfl ?_
        obtain ⟨r6, σ7, mσ7, h⟩ := z_bnd2 h
        refine z_cvi (As := [.int p1]) (c := 0) (st := []) C (t12_suresOf p1 mσ7) kvX12_suresOf rfl mlX12_327 z_CF12 rfl rfl (by decide) rfl (Nat.le_of_ble_eq_true rfl) dX12_struck_27 ?_
        refine z_istore_n (lo' := [some (.ref (z_a X 0)), some (.int p1), some (.int p2), some (.int r6), none, none, none, none, none]) C dX12_struck_30 rfl (Nat.le_of_ble_eq_true rfl) rfl ?_
        refine z_iconst (v := (-1)) C dX12_struck_31 (by decide) ?_
        refine z_istore (lo' := [some (.ref (z_a X 0)), some (.int p1), some (.int p2), some (.int r6), some (.int (-1)), none, none, none, none]) C dX12_struck_32 (Nat.le_of_ble_eq_true rfl) rfl ?_
        refine z_ldcw (v := 100000) C dX12_struck_34 cnX12_449 ?_
        refine z_istore (lo' := [some (.ref (z_a X 0)), some (.int p1), some (.int p2), some (.int r6), some (.int (-1)), some (.int 100000), none, none, none]) C dX12_struck_37 (Nat.le_of_ble_eq_true rfl) rfl ?_
        refine z_iconst (v := 0) C dX12_struck_39 (by decide) ?_
        refine z_istore (lo' := [some (.ref (z_a X 0)), some (.int p1), some (.int p2), some (.int r6), some (.int (-1)), some (.int 100000), some (.int 0), none, none]) C dX12_struck_40 (Nat.le_of_ble_eq_true rfl) rfl ?_
        exact t12_struck_L42 C _ p1 p2 r6 (-1) 100000 0 σ7 h
      · replace h := z_pos hc h
        refine z_iconst (v := (-1)) C dX12_struck_23 (by decide) ?_
        exact z_iret C h dX12_struck_24
set_option maxHeartbeats 4000000 in
set_option maxRecDepth 100000 in
theorem t12_doesStand_J62 {X : z_Ct} (C : z_Cx S2 X RX12 cX12_doesStand 5 2 (some .boolean)) {u : Int32 × z_M} (v3 : Int32) (σ : z_M) (h : f12_doesStand_J62 v3 σ = some u) : z_W S2 X 62 [none, none, none, some (.int v3), none] [] σ (z_oi u) := by
  unfold f12_doesStand_J62 at h
  refine z_iload_n C dX12_doesStand_62 rfl rfl ?_
  refine z_if_ne (tgt := 70) C dX12_doesStand_63 (by decide) (fun hc => ?_) (fun hc => ?_)
  · replace h := z_neg hc h
    refine z_iconst (v := 0) C dX12_doesStand_70 (by decide) ?_
    exact z_zret C (by decide) h dX12_doesStand_71
  · replace h := z_pos hc h
    refine z_iconst (v := 1) C dX12_doesStand_66 (by decide) ?_
    refine z_goto (tgt := 71) C dX12_doesStand_67 (by decide) ?_
    exact z_zret C (by decide) h dX12_doesStand_71
set_option maxHeartbeats 4000000 in
set_option maxRecDepth 100000 in
theorem t12_doesStand_L5 {X : z_Ct} (C : z_Cx S2 X RX12 cX12_doesStand 5 2 (some .boolean)) {u : Int32 × z_M} : ∀ (n : Nat) (v1 : Int32) (v2 : Int32) (v3 : Int32) (v4 : Int32) (σ : z_M), f12_doesStand_L5 n v1 v2 v3 v4 σ = some u → z_W S2 X 5 [some (.ref (z_a X 0)), some (.int v1), some (.int v2), some (.int v3), some (.int v4)] [] σ (z_oi u) := by
  intro n
  induction n with
  | zero => intro v1 v2 v3 v4 σ h; rw [f12_doesStand_L5] at h; cases h
  | succ n ih =>
    intro v1 v2 v3 v4 σ h
    rw [f12_doesStand_L5] at h
    refine z_iload C dX12_doesStand_5 rfl ?_
    refine z_aload_n C dX12_doesStand_7 rfl rfl ?_
    refine z_geti (k := 36) C z_CF12 (by decide) flX12_297 rfl rfl dX12_doesStand_8 ?_
    refine z_icmp_ge (tgt := 62) C dX12_doesStand_11 (by decide) (fun hc => ?_) (fun hc => ?_)
    · replace h := z_neg hc h
      refine z_kill (lo' := [none, none, none, some (.int v3), none]) [0, 1, 2, 4] rfl ?_
      exact t12_doesStand_J62 C v3 σ h
    · replace h := z_pos hc h
      refine z_aload_n C dX12_doesStand_14 rfl rfl ?_
      refine z_iload C dX12_doesStand_15 rfl ?_
      refine z_iconst (v := 2) C dX12_doesStand_17 (by decide) ?_
      obtain ⟨r1, σ2, mσ2, h⟩ := z_bnd2 h
      refine z_cvi (As := [.int v4, .int 2]) (c := 0) (st := []) C (t12_ofReason v4 2 mσ2) kvX12_ofReason rfl mlX12_368 z_CF12 rfl rfl (by decide) rfl (Nat.le_of_ble_eq_true rfl) dX12_doesStand_18 ?_
      refine z_if_eq (tgt := 56) C dX12_doesStand_21 (by decide) (fun hc => ?_) (fun hc => ?_)
      · replace h := z_pos hc h
        refine z_iinc (v := v4 + 1) (lo' := [some (.ref (z_a X 0)), some (.int v1), some (.int v2), some (.int v3), some (.int (v4 + 1))]) C dX12_doesStand_56 rfl rfl rfl ?_
        refine z_goto (tgt := 5) C dX12_doesStand_59 (by decide) ?_
        exact ih v1 v2 v3 (v4 + 1) σ2 h
      · replace h := z_neg hc h
        refine z_aload_n C dX12_doesStand_24 rfl rfl ?_
        refine z_iload C dX12_doesStand_25 rfl ?_
        refine z_iconst (v := 0) C dX12_doesStand_27 (by decide) ?_
        obtain ⟨r3, σ4, mσ4, h⟩ := z_bnd2 h
        refine z_cvi (As := [.int v4, .int 0]) (c := 0) (st := []) C (t12_ofReason v4 0 mσ4) kvX12_ofReason rfl mlX12_368 z_CF12 rfl rfl (by decide) rfl (Nat.le_of_ble_eq_true rfl) dX12_doesStand_28 ?_
        refine z_iload_n C dX12_doesStand_31 rfl rfl ?_
        refine z_icmp_eq (tgt := 38) C dX12_doesStand_32 (by decide) (fun hc => ?_) (fun hc => ?_)
        · replace h := z_pos hc h
          refine z_aload_n C dX12_doesStand_38 rfl rfl ?_
          refine z_iload C dX12_doesStand_39 rfl ?_
          refine z_iconst (v := 1) C dX12_doesStand_41 (by decide) ?_
          obtain ⟨r5, σ6, mσ6, h⟩ := z_bnd2 h
          refine z_cvi (As := [.int v4, .int 1]) (c := 0) (st := []) C (t12_ofReason v4 1 mσ6) kvX12_ofReason rfl mlX12_368 z_CF12 rfl rfl (by decide) rfl (Nat.le_of_ble_eq_true rfl) dX12_doesStand_42 ?_
          refine z_iload_n C dX12_doesStand_45 rfl rfl ?_
          refine z_iconst (v := (-1)) C dX12_doesStand_46 (by decide) ?_
          refine z_ixor C dX12_doesStand_47 ?_
          refine z_iand C dX12_doesStand_48 ?_
          refine z_if_ne (tgt := 54) C dX12_doesStand_49 (by decide) (fun hc => ?_) (fun hc => ?_)
          · replace h := z_neg hc h
            refine z_iconst (v := 1) C dX12_doesStand_54 (by decide) ?_
            refine z_istore_n (lo' := [some (.ref (z_a X 0)), some (.int v1), some (.int v2), some (.int 1), some (.int v4)]) C dX12_doesStand_55 rfl (Nat.le_of_ble_eq_true rfl) rfl ?_
            refine z_iinc (v := v4 + 1) (lo' := [some (.ref (z_a X 0)), some (.int v1), some (.int v2), some (.int 1), some (.int (v4 + 1))]) C dX12_doesStand_56 rfl rfl rfl ?_
            refine z_goto (tgt := 5) C dX12_doesStand_59 (by decide) ?_
            exact ih v1 v2 1 (v4 + 1) σ6 h
          · replace h := z_pos hc h
            refine z_iconst (v := 1) C dX12_doesStand_52 (by decide) ?_
            exact z_zret C (by decide) h dX12_doesStand_53
        · replace h := z_neg hc h
          refine z_goto (tgt := 56) C dX12_doesStand_35 (by decide) ?_
          refine z_iinc (v := v4 + 1) (lo' := [some (.ref (z_a X 0)), some (.int v1), some (.int v2), some (.int v3), some (.int (v4 + 1))]) C dX12_doesStand_56 rfl rfl rfl ?_
          refine z_goto (tgt := 5) C dX12_doesStand_59 (by decide) ?_
          exact ih v1 v2 v3 (v4 + 1) σ4 h
set_option maxHeartbeats 4000000 in
set_option maxRecDepth 100000 in
theorem t12_doesStand {a : Nat → Nat} (p1 : Int32) (p2 : Int32) {σ : z_M} {u : Int32 × z_M} (h : f12_doesStand p1 p2 σ = some u) : z_Mt yX12_doesStand (z_w yX12_doesStand cX12_doesStand 5 (some .boolean)) 2 S2 a σ [.ref (a 0), .int p1, .int p2] (z_oi u) := by
  refine z_head (lo := [some (.ref (a 0)), some (.int p1), some (.int p2), none, none]) (by decide) (Nat.le_of_ble_eq_true rfl) ?_ rfl ?_
  · intro i v hv
    exact z_loe (vs := [.ref (a 0), .int p1, .int p2]) (n := 2) rfl (by simp [z_c1i, z_c1r]) i v hv
  · intro X hXa C
    subst hXa
    unfold f12_doesStand at h
    refine z_iconst (v := 0) C dX12_doesStand_0 (by decide) ?_
    refine z_istore_n (lo' := [some (.ref (z_a X 0)), some (.int p1), some (.int p2), some (.int 0), none]) C dX12_doesStand_1 rfl (Nat.le_of_ble_eq_true rfl) rfl ?_
    refine z_iconst (v := 0) C dX12_doesStand_2 (by decide) ?_
    refine z_istore (lo' := [some (.ref (z_a X 0)), some (.int p1), some (.int p2), some (.int 0), some (.int 0)]) C dX12_doesStand_3 (Nat.le_of_ble_eq_true rfl) rfl ?_
    exact t12_doesStand_L5 C _ p1 p2 0 0 σ h
set_option maxHeartbeats 4000000 in
set_option maxRecDepth 100000 in
theorem t12_down_J113 {X : z_Ct} (C : z_Cx S2 X RX12 cX12_down 7 3 (some .int)) {u : Int32 × z_M} (v3 : Int32) (v4 : Int32) (σ : z_M) (h : f12_down_J113 v3 v4 σ = some u) : z_W S2 X 113 [none, none, none, some (.int v3), some (.int v4), none, none] [] σ (z_oi u) := by
  unfold f12_down_J113 at h
  refine z_iload_n C dX12_down_113 rfl rfl ?_
  refine z_iload C dX12_down_114 rfl ?_
  refine z_iconst (v := (-1)) C dX12_down_116 (by decide) ?_
  refine z_ixor C dX12_down_117 ?_
  refine z_iand C dX12_down_118 ?_
  exact z_iret C h dX12_down_119
set_option maxHeartbeats 4000000 in
set_option maxRecDepth 100000 in
theorem t12_down_J110 {X : z_Ct} (C : z_Cx S2 X RX12 cX12_down 7 3 (some .int)) {u : Int32 × z_M} {k53 : Int32 → Int32 → Int32 → z_M → Option (Int32 × z_M)} (hr53 : ∀ (v3 : Int32) (v4 : Int32) (v5 : Int32) (σ : z_M), k53 v3 v4 v5 σ = some u → z_W S2 X 53 [some (.ref (z_a X 0)), none, none, some (.int v3), some (.int v4), some (.int v5), none] [] σ (z_oi u)) (v3 : Int32) (v4 : Int32) (v5 : Int32) (σ : z_M) (h : f12_down_J110 k53 v3 v4 v5 σ = some u) : z_W S2 X 110 [some (.ref (z_a X 0)), none, none, some (.int v3), some (.int v4), some (.int v5), none] [] σ (z_oi u) := by
  unfold f12_down_J110 at h
  refine z_goto (tgt := 53) C dX12_down_110 (by decide) ?_
  exact hr53 v3 v4 v5 σ h
set_option maxHeartbeats 4000000 in
set_option maxRecDepth 100000 in
theorem t12_down_L67 {X : z_Ct} (C : z_Cx S2 X RX12 cX12_down 7 3 (some .int)) {u : Int32 × z_M} {k53 : Int32 → Int32 → Int32 → z_M → Option (Int32 × z_M)} (hr53 : ∀ (v3 : Int32) (v4 : Int32) (v5 : Int32) (σ : z_M), k53 v3 v4 v5 σ = some u → z_W S2 X 53 [some (.ref (z_a X 0)), none, none, some (.int v3), some (.int v4), some (.int v5), none] [] σ (z_oi u)) : ∀ (n : Nat) (v3 : Int32) (v4 : Int32) (v5 : Int32) (v6 : Int32) (σ : z_M), f12_down_L67 k53 n v3 v4 v5 v6 σ = some u → z_W S2 X 67 [some (.ref (z_a X 0)), none, none, some (.int v3), some (.int v4), some (.int v5), some (.int v6)] [] σ (z_oi u) := by
  intro n
  induction n with
  | zero => intro v3 v4 v5 v6 σ h; rw [f12_down_L67] at h; cases h
  | succ n ih =>
    intro v3 v4 v5 v6 σ h
    rw [f12_down_L67] at h
    refine z_iload C dX12_down_67 rfl ?_
    refine z_bipush (v := 8) C dX12_down_69 (by decide) ?_
    refine z_icmp_ge (tgt := 110) C dX12_down_71 (by decide) (fun hc => ?_) (fun hc => ?_)
    · replace h := z_neg hc h
      refine z_kill (lo' := [some (.ref (z_a X 0)), none, none, some (.int v3), some (.int v4), some (.int v5), none]) [6] rfl ?_
      exact t12_down_J110 C hr53 v3 v4 v5 σ h
    · replace h := z_pos hc h
      refine z_iload_n C dX12_down_74 rfl rfl ?_
      refine z_iload C dX12_down_75 rfl ?_
      refine z_ishr C dX12_down_77 ?_
      refine z_iconst (v := 1) C dX12_down_78 (by decide) ?_
      refine z_iand C dX12_down_79 ?_
      refine z_iconst (v := 1) C dX12_down_80 (by decide) ?_
      refine z_icmp_ne (tgt := 104) C dX12_down_81 (by decide) (fun hc => ?_) (fun hc => ?_)
      · replace h := z_neg hc h
        refine z_iinc (v := v6 + 1) (lo' := [some (.ref (z_a X 0)), none, none, some (.int v3), some (.int v4), some (.int v5), some (.int (v6 + 1))]) C dX12_down_104 rfl rfl rfl ?_
        refine z_goto (tgt := 67) C dX12_down_107 (by decide) ?_
        exact ih v3 v4 v5 (v6 + 1) σ h
      · replace h := z_pos hc h
        refine z_aload_n C dX12_down_84 rfl rfl ?_
        refine z_iload C dX12_down_85 rfl ?_
        refine z_iload C dX12_down_87 rfl ?_
        obtain ⟨r1, σ2, mσ2, h⟩ := z_bnd2 h
        refine z_cvi (As := [.int v6, .int v5]) (c := 0) (st := []) C (t12_doesStand v6 v5 mσ2) kvX12_doesStand rfl mlX12_453 z_CF12 rfl rfl (by decide) rfl (Nat.le_of_ble_eq_true rfl) dX12_down_89 ?_
        refine z_if_eq (tgt := 104) C dX12_down_92 (by decide) (fun hc => ?_) (fun hc => ?_)
        · replace h := z_pos hc h
          refine z_iinc (v := v6 + 1) (lo' := [some (.ref (z_a X 0)), none, none, some (.int v3), some (.int v4), some (.int v5), some (.int (v6 + 1))]) C dX12_down_104 rfl rfl rfl ?_
          refine z_goto (tgt := 67) C dX12_down_107 (by decide) ?_
          exact ih v3 v4 v5 (v6 + 1) σ2 h
        · replace h := z_neg hc h
          refine z_iload C dX12_down_95 rfl ?_
          refine z_iconst (v := 1) C dX12_down_97 (by decide) ?_
          refine z_iload C dX12_down_98 rfl ?_
          refine z_ishl C dX12_down_100 ?_
          refine z_ior C dX12_down_101 ?_
          refine z_istore (lo' := [some (.ref (z_a X 0)), none, none, some (.int v3), some (.int (v4 ||| (z_shl 1 v6))), some (.int v5), some (.int v6)]) C dX12_down_102 (Nat.le_of_ble_eq_true rfl) rfl ?_
          refine z_iinc (v := v6 + 1) (lo' := [some (.ref (z_a X 0)), none, none, some (.int v3), some (.int (v4 ||| (z_shl 1 v6))), some (.int v5), some (.int (v6 + 1))]) C dX12_down_104 rfl rfl rfl ?_
          refine z_goto (tgt := 67) C dX12_down_107 (by decide) ?_
          exact ih v3 (v4 ||| (z_shl 1 v6)) v5 (v6 + 1) σ2 h
set_option maxHeartbeats 4000000 in
set_option maxRecDepth 100000 in
theorem t12_down_L53 {X : z_Ct} (C : z_Cx S2 X RX12 cX12_down 7 3 (some .int)) {u : Int32 × z_M} : ∀ (n : Nat) (v3 : Int32) (v4 : Int32) (v5 : Int32) (σ : z_M), f12_down_L53 n v3 v4 v5 σ = some u → z_W S2 X 53 [some (.ref (z_a X 0)), none, none, some (.int v3), some (.int v4), some (.int v5), none] [] σ (z_oi u) := by
  intro n
  induction n with
  | zero => intro v3 v4 v5 σ h; rw [f12_down_L53] at h; cases h
  | succ n ih =>
    intro v3 v4 v5 σ h
    rw [f12_down_L53] at h
    refine z_iload C dX12_down_53 rfl ?_
    refine z_iload C dX12_down_55 rfl ?_
    refine z_icmp_eq (tgt := 113) C dX12_down_57 (by decide) (fun hc => ?_) (fun hc => ?_)
    · replace h := z_pos hc h
      refine z_kill (lo' := [none, none, none, some (.int v3), some (.int v4), none, none]) [0, 5] rfl ?_
      exact t12_down_J113 C v3 v4 σ h
    · replace h := z_neg hc h
      refine z_iload C dX12_down_60 rfl ?_
      refine z_istore (lo' := [some (.ref (z_a X 0)), none, none, some (.int v3), some (.int v4), some (.int v4), none]) C dX12_down_62 (Nat.le_of_ble_eq_true rfl) rfl ?_
      refine z_iconst (v := 0) C dX12_down_64 (by decide) ?_
      refine z_istore (lo' := [some (.ref (z_a X 0)), none, none, some (.int v3), some (.int v4), some (.int v4), some (.int 0)]) C dX12_down_65 (Nat.le_of_ble_eq_true rfl) rfl ?_
      exact t12_down_L67 C ih _ v3 v4 v4 0 σ h
set_option maxHeartbeats 4000000 in
set_option maxRecDepth 100000 in
theorem t12_down {a : Nat → Nat} (p1 : Int32) (p2 : Int32) {σ : z_M} {u : Int32 × z_M} (h : f12_down p1 p2 σ = some u) : z_Mt yX12_down (z_w yX12_down cX12_down 7 (some .int)) 3 S2 a σ [.ref (a 0), .int p1, .int p2] (z_oi u) := by
  refine z_head (lo := [some (.ref (a 0)), some (.int p1), some (.int p2), none, none, none, none]) (by decide) (Nat.le_of_ble_eq_true rfl) ?_ rfl ?_
  · intro i v hv
    exact z_loe (vs := [.ref (a 0), .int p1, .int p2]) (n := 4) rfl (by simp [z_c1i, z_c1r]) i v hv
  · intro X hXa C
    subst hXa
    unfold f12_down at h
    refine z_aload_n C dX12_down_0 rfl rfl ?_
    refine z_iconst (v := 0) C dX12_down_1 (by decide) ?_
    obtain ⟨σ1, eσ1, h⟩ := z_let_some h
    refine z_puti (k := 0) C z_CF12 (by decide) flX12_113 rfl rfl rfl rfl eσ1 dX12_down_2 ?_
    refine z_aload_n C dX12_down_5 rfl rfl ?_
    refine z_iload_n C dX12_down_6 rfl rfl ?_
    obtain ⟨r2, σ3, mσ3, h⟩ := z_bnd2 h
    refine z_cvi (As := [.int p1]) (c := 0) (st := []) C (t12_isHouse p1 mσ3) kvX12_isHouse rfl mlX12_156 z_CF12 rfl rfl (by decide) rfl (Nat.le_of_ble_eq_true rfl) dX12_down_7 ?_
    refine z_if_eq (tgt := 33) C dX12_down_10 (by decide) (fun hc => ?_) (fun hc => ?_)
    · replace h := z_pos hc h
      refine z_iconst (v := (-1)) C dX12_down_33 (by decide) ?_
      exact z_iret C h dX12_down_34
    · replace h := z_neg hc h
      refine z_aload_n C dX12_down_13 rfl rfl ?_
      refine z_iload_n C dX12_down_14 rfl rfl ?_
      obtain ⟨r4, σ5, mσ5, h⟩ := z_bnd2 h
      refine z_cvi (As := [.int p2]) (c := 0) (st := []) C (t12_isThing p2 mσ5) kvX12_isThing rfl mlX12_146 z_CF12 rfl rfl (by decide) rfl (Nat.le_of_ble_eq_true rfl) dX12_down_15 ?_
      refine z_if_eq (tgt := 33) C dX12_down_18 (by decide) (fun hc => ?_) (fun hc => ?_)
      · replace h := z_pos hc h
        refine z_iconst (v := (-1)) C dX12_down_33 (by decide) ?_
        exact z_iret C h dX12_down_34
      · replace h := z_neg hc h
        refine z_aload_n C dX12_down_21 rfl rfl ?_
        refine z_iload_n C dX12_down_22 rfl rfl ?_
        obtain ⟨r6, σ7, mσ7, h⟩ := z_bnd2 h
        refine z_cvi (As := [.int p1]) (c := 0) (st := []) C (t12_suresOf p1 mσ7) kvX12_suresOf rfl mlX12_327 z_CF12 rfl rfl (by decide) rfl (Nat.le_of_ble_eq_true rfl) dX12_down_23 ?_
        refine z_iload_n C dX12_down_26 rfl rfl ?_
        refine z_ishr C dX12_down_27 ?_
        refine z_iconst (v := 1) C dX12_down_28 (by decide) ?_
        refine z_iand C dX12_down_29 ?_
        refine z_if_ne (tgt := 35) C dX12_down_30 (by decide) (fun hc => ?_) (fun hc => ?_)
        · replace h := z_neg hc h
          refine z_aload_n C dX12_down_35 rfl rfl ?_
          refine z_iload_n C dX12_down_36 rfl rfl ?_
          obtain ⟨r8, σ9, mσ9, h⟩ := z_bnd2 h
          refine z_cvi (As := [.int p1]) (c := 0) (st := []) C (t12_suresOf p1 mσ9) kvX12_suresOf rfl mlX12_327 z_CF12 rfl rfl (by decide) rfl (Nat.le_of_ble_eq_true rfl) dX12_down_37 ?_
          refine z_iconst (v := 1) C dX12_down_40 (by decide) ?_
          refine z_iload_n C dX12_down_41 rfl rfl ?_
          refine z_ishl C dX12_down_42 ?_
          refine z_iconst (v := (-1)) C dX12_down_43 (by decide) ?_
          refine z_ixor C dX12_down_44 ?_
          refine z_iand C dX12_down_45 ?_
          refine z_istore_n (lo' := [some (.ref (z_a X 0)), some (.int p1), some (.int p2), some (.int (r8 &&& ((z_shl 1 p2) ^^^ (-1)))), none, none, none]) C dX12_down_46 rfl (Nat.le_of_ble_eq_true rfl) rfl ?_
          refine z_iconst (v := 0) C dX12_down_47 (by decide) ?_
          refine z_istore (lo' := [some (.ref (z_a X 0)), some (.int p1), some (.int p2), some (.int (r8 &&& ((z_shl 1 p2) ^^^ (-1)))), some (.int 0), none, none]) C dX12_down_48 (Nat.le_of_ble_eq_true rfl) rfl ?_
          refine z_iconst (v := (-1)) C dX12_down_50 (by decide) ?_
          refine z_istore (lo' := [some (.ref (z_a X 0)), some (.int p1), some (.int p2), some (.int (r8 &&& ((z_shl 1 p2) ^^^ (-1)))), some (.int 0), some (.int (-1)), none]) C dX12_down_51 (Nat.le_of_ble_eq_true rfl) rfl ?_
          refine z_kill (lo' := [some (.ref (z_a X 0)), none, none, some (.int (r8 &&& ((z_shl 1 p2) ^^^ (-1)))), some (.int 0), some (.int (-1)), none]) [1, 2] rfl ?_
          exact t12_down_L53 C _ (r8 &&& ((z_shl 1 p2) ^^^ (-1))) 0 (-1) σ9 h
        · replace h := z_pos hc h
          refine z_iconst (v := (-1)) C dX12_down_33 (by decide) ?_
          exact z_iret C h dX12_down_34
set_option maxHeartbeats 4000000 in
set_option maxRecDepth 100000 in
theorem t12_by_J95 {X : z_Ct} (C : z_Cx S2 X RX12 cX12_by 7 2 (some .int)) {u : Int32 × z_M} {k30 : Int32 → Int32 → Int32 → z_M → Option (Int32 × z_M)} (hr30 : ∀ (v2 : Int32) (v3 : Int32) (v4 : Int32) (σ : z_M), k30 v2 v3 v4 σ = some u → z_W S2 X 30 [some (.ref (z_a X 0)), none, some (.int v2), some (.int v3), some (.int v4), none, none] [] σ (z_oi u)) (v2 : Int32) (v4 : Int32) (v5 : Int32) (σ : z_M) (h : f12_by_J95 k30 v2 v4 v5 σ = some u) : z_W S2 X 95 [some (.ref (z_a X 0)), none, some (.int v2), none, some (.int v4), some (.int v5), none] [] σ (z_oi u) := by
  unfold f12_by_J95 at h
  refine z_iload C dX12_by_95 rfl ?_
  refine z_istore_n (lo' := [some (.ref (z_a X 0)), none, some (.int v2), some (.int v5), some (.int v4), some (.int v5), none]) C dX12_by_97 rfl (Nat.le_of_ble_eq_true rfl) rfl ?_
  refine z_iinc (v := v4 + 1) (lo' := [some (.ref (z_a X 0)), none, some (.int v2), some (.int v5), some (.int (v4 + 1)), some (.int v5), none]) C dX12_by_98 rfl rfl rfl ?_
  refine z_goto (tgt := 30) C dX12_by_101 (by decide) ?_
  refine z_kill (lo' := [some (.ref (z_a X 0)), none, some (.int v2), some (.int v5), some (.int (v4 + 1)), none, none]) [5] rfl ?_
  exact hr30 v2 v5 (v4 + 1) σ h
set_option maxHeartbeats 4000000 in
set_option maxRecDepth 100000 in
theorem t12_by_L43 {X : z_Ct} (C : z_Cx S2 X RX12 cX12_by 7 2 (some .int)) {u : Int32 × z_M} {k30 : Int32 → Int32 → Int32 → z_M → Option (Int32 × z_M)} (hr30 : ∀ (v2 : Int32) (v3 : Int32) (v4 : Int32) (σ : z_M), k30 v2 v3 v4 σ = some u → z_W S2 X 30 [some (.ref (z_a X 0)), none, some (.int v2), some (.int v3), some (.int v4), none, none] [] σ (z_oi u)) : ∀ (n : Nat) (v2 : Int32) (v3 : Int32) (v4 : Int32) (v5 : Int32) (v6 : Int32) (σ : z_M), f12_by_L43 k30 n v2 v3 v4 v5 v6 σ = some u → z_W S2 X 43 [some (.ref (z_a X 0)), none, some (.int v2), some (.int v3), some (.int v4), some (.int v5), some (.int v6)] [] σ (z_oi u) := by
  intro n
  induction n with
  | zero => intro v2 v3 v4 v5 v6 σ h; rw [f12_by_L43] at h; cases h
  | succ n ih =>
    intro v2 v3 v4 v5 v6 σ h
    rw [f12_by_L43] at h
    refine z_iload C dX12_by_43 rfl ?_
    refine z_aload_n C dX12_by_45 rfl rfl ?_
    refine z_geti (k := 6) C z_CF12 (by decide) flX12_131 rfl rfl dX12_by_46 ?_
    refine z_icmp_ge (tgt := 95) C dX12_by_49 (by decide) (fun hc => ?_) (fun hc => ?_)
    · replace h := z_neg hc h
      refine z_kill (lo' := [some (.ref (z_a X 0)), none, some (.int v2), none, some (.int v4), some (.int v5), none]) [3, 6] rfl ?_
      exact t12_by_J95 C hr30 v2 v4 v5 σ h
    · replace h := z_pos hc h
      refine z_iload_n C dX12_by_52 rfl rfl ?_
      refine z_iload C dX12_by_53 rfl ?_
      refine z_ishr C dX12_by_55 ?_
      refine z_iconst (v := 1) C dX12_by_56 (by decide) ?_
      refine z_iand C dX12_by_57 ?_
      refine z_if_ne (tgt := 64) C dX12_by_58 (by decide) (fun hc => ?_) (fun hc => ?_)
      · replace h := z_neg hc h
        refine z_aload_n C dX12_by_64 rfl rfl ?_
        refine z_iload C dX12_by_65 rfl ?_
        obtain ⟨r1, σ2, mσ2, h⟩ := z_bnd2 h
        refine z_cvi (As := [.int v6]) (c := 0) (st := []) C (t12_potOf v6 mσ2) kvX12_potOf rfl mlX12_324 z_CF12 rfl rfl (by decide) rfl (Nat.le_of_ble_eq_true rfl) dX12_by_67 ?_
        refine z_iload_n C dX12_by_70 rfl rfl ?_
        refine z_icmp_ne (tgt := 77) C dX12_by_71 (by decide) (fun hc => ?_) (fun hc => ?_)
        · replace h := z_neg hc h
          refine z_iload C dX12_by_77 rfl ?_
          refine z_aload_n C dX12_by_79 rfl rfl ?_
          refine z_geta (k := 11) (q := 5) C z_CF12 (by decide) flX12_22 rfl rfl dX12_by_80 ?_
          refine z_iload C dX12_by_83 rfl ?_
          obtain ⟨b3, h⟩ := z_chk_some h
          refine z_iald C rfl rfl b3 dX12_by_85 ?_
          refine z_ior C dX12_by_86 ?_
          refine z_istore (lo' := [some (.ref (z_a X 0)), none, some (.int v2), some (.int v3), some (.int v4), some (.int (v5 ||| (σ2 5 (z_ix v6)))), some (.int v6)]) C dX12_by_87 (Nat.le_of_ble_eq_true rfl) rfl ?_
          refine z_iinc (v := v6 + 1) (lo' := [some (.ref (z_a X 0)), none, some (.int v2), some (.int v3), some (.int v4), some (.int (v5 ||| (σ2 5 (z_ix v6)))), some (.int (v6 + 1))]) C dX12_by_89 rfl rfl rfl ?_
          refine z_goto (tgt := 43) C dX12_by_92 (by decide) ?_
          exact ih v2 v3 v4 (v5 ||| (σ2 5 (z_ix v6))) (v6 + 1) σ2 h
        · replace h := z_pos hc h
          refine z_iload C dX12_by_74 rfl ?_
          exact z_iret C h dX12_by_76
      · replace h := z_pos hc h
        refine z_goto (tgt := 89) C dX12_by_61 (by decide) ?_
        refine z_iinc (v := v6 + 1) (lo' := [some (.ref (z_a X 0)), none, some (.int v2), some (.int v3), some (.int v4), some (.int v5), some (.int (v6 + 1))]) C dX12_by_89 rfl rfl rfl ?_
        refine z_goto (tgt := 43) C dX12_by_92 (by decide) ?_
        exact ih v2 v3 v4 v5 (v6 + 1) σ h
set_option maxHeartbeats 4000000 in
set_option maxRecDepth 100000 in
theorem t12_by_L30 {X : z_Ct} (C : z_Cx S2 X RX12 cX12_by 7 2 (some .int)) {u : Int32 × z_M} : ∀ (n : Nat) (v2 : Int32) (v3 : Int32) (v4 : Int32) (σ : z_M), f12_by_L30 n v2 v3 v4 σ = some u → z_W S2 X 30 [some (.ref (z_a X 0)), none, some (.int v2), some (.int v3), some (.int v4), none, none] [] σ (z_oi u) := by
  intro n
  induction n with
  | zero => intro v2 v3 v4 σ h; rw [f12_by_L30] at h; cases h
  | succ n ih =>
    intro v2 v3 v4 σ h
    rw [f12_by_L30] at h
    refine z_iload C dX12_by_30 rfl ?_
    refine z_bipush (v := 8) C dX12_by_32 (by decide) ?_
    refine z_icmp_ge (tgt := 104) C dX12_by_34 (by decide) (fun hc => ?_) (fun hc => ?_)
    · replace h := z_neg hc h
      refine z_iconst (v := (-1)) C dX12_by_104 (by decide) ?_
      exact z_iret C h dX12_by_105
    · replace h := z_pos hc h
      refine z_iload_n C dX12_by_37 rfl rfl ?_
      refine z_istore (lo' := [some (.ref (z_a X 0)), none, some (.int v2), some (.int v3), some (.int v4), some (.int v3), none]) C dX12_by_38 (Nat.le_of_ble_eq_true rfl) rfl ?_
      refine z_iconst (v := 0) C dX12_by_40 (by decide) ?_
      refine z_istore (lo' := [some (.ref (z_a X 0)), none, some (.int v2), some (.int v3), some (.int v4), some (.int v3), some (.int 0)]) C dX12_by_41 (Nat.le_of_ble_eq_true rfl) rfl ?_
      exact t12_by_L43 C ih _ v2 v3 v4 v3 0 σ h
set_option maxHeartbeats 4000000 in
set_option maxRecDepth 100000 in
theorem t12_by {a : Nat → Nat} (p1 : Int32) (p2 : Int32) {σ : z_M} {u : Int32 × z_M} (h : f12_by p1 p2 σ = some u) : z_Mt yX12_by (z_w yX12_by cX12_by 7 (some .int)) 2 S2 a σ [.ref (a 0), .int p1, .int p2] (z_oi u) := by
  refine z_head (lo := [some (.ref (a 0)), some (.int p1), some (.int p2), none, none, none, none]) (by decide) (Nat.le_of_ble_eq_true rfl) ?_ rfl ?_
  · intro i v hv
    exact z_loe (vs := [.ref (a 0), .int p1, .int p2]) (n := 4) rfl (by simp [z_c1i, z_c1r]) i v hv
  · intro X hXa C
    subst hXa
    unfold f12_by at h
    refine z_aload_n C dX12_by_0 rfl rfl ?_
    refine z_iconst (v := 0) C dX12_by_1 (by decide) ?_
    obtain ⟨σ1, eσ1, h⟩ := z_let_some h
    refine z_puti (k := 0) C z_CF12 (by decide) flX12_113 rfl rfl rfl rfl eσ1 dX12_by_2 ?_
    refine z_aload_n C dX12_by_5 rfl rfl ?_
    refine z_iload_n C dX12_by_6 rfl rfl ?_
    obtain ⟨r2, σ3, mσ3, h⟩ := z_bnd2 h
    refine z_cvi (As := [.int p1]) (c := 0) (st := []) C (t12_isHouse p1 mσ3) kvX12_isHouse rfl mlX12_156 z_CF12 rfl rfl (by decide) rfl (Nat.le_of_ble_eq_true rfl) dX12_by_7 ?_
    refine z_if_eq (tgt := 21) C dX12_by_10 (by decide) (fun hc => ?_) (fun hc => ?_)
    · replace h := z_pos hc h
      refine z_iconst (v := (-1)) C dX12_by_21 (by decide) ?_
      exact z_iret C h dX12_by_22
    · replace h := z_neg hc h
      refine z_aload_n C dX12_by_13 rfl rfl ?_
      refine z_iload_n C dX12_by_14 rfl rfl ?_
      obtain ⟨r4, σ5, mσ5, h⟩ := z_bnd2 h
      refine z_cvi (As := [.int p2]) (c := 0) (st := []) C (t12_isThing p2 mσ5) kvX12_isThing rfl mlX12_146 z_CF12 rfl rfl (by decide) rfl (Nat.le_of_ble_eq_true rfl) dX12_by_15 ?_
      refine z_if_ne (tgt := 23) C dX12_by_18 (by decide) (fun hc => ?_) (fun hc => ?_)
      · replace h := z_neg hc h
        refine z_iconst (v := 1) C dX12_by_23 (by decide) ?_
        refine z_iload_n C dX12_by_24 rfl rfl ?_
        refine z_ishl C dX12_by_25 ?_
        refine z_istore_n (lo' := [some (.ref (z_a X 0)), some (.int p1), some (.int p2), some (.int (z_shl 1 p1)), none, none, none]) C dX12_by_26 rfl (Nat.le_of_ble_eq_true rfl) rfl ?_
        refine z_iconst (v := 0) C dX12_by_27 (by decide) ?_
        refine z_istore (lo' := [some (.ref (z_a X 0)), some (.int p1), some (.int p2), some (.int (z_shl 1 p1)), some (.int 0), none, none]) C dX12_by_28 (Nat.le_of_ble_eq_true rfl) rfl ?_
        refine z_kill (lo' := [some (.ref (z_a X 0)), none, some (.int p2), some (.int (z_shl 1 p1)), some (.int 0), none, none]) [1] rfl ?_
        exact t12_by_L30 C _ p2 (z_shl 1 p1) 0 σ5 h
      · replace h := z_pos hc h
        refine z_iconst (v := (-1)) C dX12_by_21 (by decide) ?_
        exact z_iret C h dX12_by_22
set_option maxHeartbeats 4000000 in
set_option maxRecDepth 100000 in
theorem t12_linesOut_L4 {X : z_Ct} (C : z_Cx S2 X RX12 cX12_linesOut 4 2 (some .int)) {u : Int32 × z_M} : ∀ (n : Nat) (v1 : Int32) (v2 : Int32) (v3 : Int32) (σ : z_M), f12_linesOut_L4 n v1 v2 v3 σ = some u → z_W S2 X 4 [some (.ref (z_a X 0)), some (.int v1), some (.int v2), some (.int v3)] [] σ (z_oi u) := by
  intro n
  induction n with
  | zero => intro v1 v2 v3 σ h; rw [f12_linesOut_L4] at h; cases h
  | succ n ih =>
    intro v1 v2 v3 σ h
    rw [f12_linesOut_L4] at h
    refine z_iload_n C dX12_linesOut_4 rfl rfl ?_
    refine z_aload_n C dX12_linesOut_5 rfl rfl ?_
    refine z_geti (k := 6) C z_CF12 (by decide) flX12_131 rfl rfl dX12_linesOut_6 ?_
    refine z_icmp_ge (tgt := 44) C dX12_linesOut_9 (by decide) (fun hc => ?_) (fun hc => ?_)
    · replace h := z_neg hc h
      refine z_iload_n C dX12_linesOut_44 rfl rfl ?_
      exact z_iret C h dX12_linesOut_45
    · replace h := z_pos hc h
      refine z_iload_n C dX12_linesOut_12 rfl rfl ?_
      refine z_iload_n C dX12_linesOut_13 rfl rfl ?_
      refine z_ishr C dX12_linesOut_14 ?_
      refine z_iconst (v := 1) C dX12_linesOut_15 (by decide) ?_
      refine z_iand C dX12_linesOut_16 ?_
      refine z_iconst (v := 1) C dX12_linesOut_17 (by decide) ?_
      refine z_icmp_ne (tgt := 38) C dX12_linesOut_18 (by decide) (fun hc => ?_) (fun hc => ?_)
      · replace h := z_neg hc h
        refine z_iinc (v := v3 + 1) (lo' := [some (.ref (z_a X 0)), some (.int v1), some (.int v2), some (.int (v3 + 1))]) C dX12_linesOut_38 rfl rfl rfl ?_
        refine z_goto (tgt := 4) C dX12_linesOut_41 (by decide) ?_
        exact ih v1 v2 (v3 + 1) σ h
      · replace h := z_pos hc h
        refine z_iload_n C dX12_linesOut_21 rfl rfl ?_
        refine z_aload_n C dX12_linesOut_22 rfl rfl ?_
        refine z_aload_n C dX12_linesOut_23 rfl rfl ?_
        refine z_geta (k := 11) (q := 5) C z_CF12 (by decide) flX12_22 rfl rfl dX12_linesOut_24 ?_
        refine z_iload_n C dX12_linesOut_27 rfl rfl ?_
        obtain ⟨b1, h⟩ := z_chk_some h
        refine z_iald C rfl rfl b1 dX12_linesOut_28 ?_
        refine z_iload_n C dX12_linesOut_29 rfl rfl ?_
        refine z_iconst (v := (-1)) C dX12_linesOut_30 (by decide) ?_
        refine z_ixor C dX12_linesOut_31 ?_
        refine z_iand C dX12_linesOut_32 ?_
        obtain ⟨r2, σ3, mσ3, h⟩ := z_bnd2 h
        refine z_cvi (As := [.int ((σ 5 (z_ix v3)) &&& (v1 ^^^ (-1)))]) (c := 0) (st := [.int v2]) C (t12_onesOf ((σ 5 (z_ix v3)) &&& (v1 ^^^ (-1))) mσ3) kvX12_onesOf rfl mlX12_330 z_CF12 rfl rfl (by decide) rfl (Nat.le_of_ble_eq_true rfl) dX12_linesOut_33 ?_
        refine z_iadd C dX12_linesOut_36 ?_
        refine z_istore_n (lo' := [some (.ref (z_a X 0)), some (.int v1), some (.int (v2 + r2)), some (.int v3)]) C dX12_linesOut_37 rfl (Nat.le_of_ble_eq_true rfl) rfl ?_
        refine z_iinc (v := v3 + 1) (lo' := [some (.ref (z_a X 0)), some (.int v1), some (.int (v2 + r2)), some (.int (v3 + 1))]) C dX12_linesOut_38 rfl rfl rfl ?_
        refine z_goto (tgt := 4) C dX12_linesOut_41 (by decide) ?_
        exact ih v1 (v2 + r2) (v3 + 1) σ3 h
set_option maxHeartbeats 4000000 in
set_option maxRecDepth 100000 in
theorem t12_linesOut {a : Nat → Nat} (p1 : Int32) {σ : z_M} {u : Int32 × z_M} (h : f12_linesOut p1 σ = some u) : z_Mt yX12_linesOut (z_w yX12_linesOut cX12_linesOut 4 (some .int)) 2 S2 a σ [.ref (a 0), .int p1] (z_oi u) := by
  refine z_head (lo := [some (.ref (a 0)), some (.int p1), none, none]) (by decide) (Nat.le_of_ble_eq_true rfl) ?_ rfl ?_
  · intro i v hv
    exact z_loe (vs := [.ref (a 0), .int p1]) (n := 2) rfl (by simp [z_c1i, z_c1r]) i v hv
  · intro X hXa C
    subst hXa
    unfold f12_linesOut at h
    refine z_iconst (v := 0) C dX12_linesOut_0 (by decide) ?_
    refine z_istore_n (lo' := [some (.ref (z_a X 0)), some (.int p1), some (.int 0), none]) C dX12_linesOut_1 rfl (Nat.le_of_ble_eq_true rfl) rfl ?_
    refine z_iconst (v := 0) C dX12_linesOut_2 (by decide) ?_
    refine z_istore_n (lo' := [some (.ref (z_a X 0)), some (.int p1), some (.int 0), some (.int 0)]) C dX12_linesOut_3 rfl (Nat.le_of_ble_eq_true rfl) rfl ?_
    exact t12_linesOut_L4 C _ p1 0 0 σ h
set_option maxHeartbeats 4000000 in
set_option maxRecDepth 100000 in
theorem t12_part_L35 {X : z_Ct} (C : z_Cx S2 X RX12 cX12_part 5 3 (some .int)) {u : Int32 × z_M} : ∀ (n : Nat) (v1 : Int32) (v2 : Int32) (v3 : Int32) (v4 : Int32) (σ : z_M), f12_part_L35 n v1 v2 v3 v4 σ = some u → z_W S2 X 35 [some (.ref (z_a X 0)), some (.int v1), some (.int v2), some (.int v3), some (.int v4)] [] σ (z_oi u) := by
  intro n
  induction n with
  | zero => intro v1 v2 v3 v4 σ h; rw [f12_part_L35] at h; cases h
  | succ n ih =>
    intro v1 v2 v3 v4 σ h
    rw [f12_part_L35] at h
    refine z_iload C dX12_part_35 rfl ?_
    refine z_iconst (v := 1) C dX12_part_37 (by decide) ?_
    refine z_aload_n C dX12_part_38 rfl rfl ?_
    refine z_geti (k := 6) C z_CF12 (by decide) flX12_131 rfl rfl dX12_part_39 ?_
    refine z_ishl C dX12_part_42 ?_
    refine z_icmp_ge (tgt := 88) C dX12_part_43 (by decide) (fun hc => ?_) (fun hc => ?_)
    · replace h := z_neg hc h
      refine z_iload_n C dX12_part_88 rfl rfl ?_
      exact z_iret C h dX12_part_89
    · replace h := z_pos hc h
      refine z_iload C dX12_part_46 rfl ?_
      refine z_iload_n C dX12_part_48 rfl rfl ?_
      refine z_ishr C dX12_part_49 ?_
      refine z_iconst (v := 1) C dX12_part_50 (by decide) ?_
      refine z_iand C dX12_part_51 ?_
      refine z_iconst (v := 1) C dX12_part_52 (by decide) ?_
      refine z_icmp_ne (tgt := 82) C dX12_part_53 (by decide) (fun hc => ?_) (fun hc => ?_)
      · replace h := z_neg hc h
        refine z_iinc (v := v4 + 1) (lo' := [some (.ref (z_a X 0)), some (.int v1), some (.int v2), some (.int v3), some (.int (v4 + 1))]) C dX12_part_82 rfl rfl rfl ?_
        refine z_goto (tgt := 35) C dX12_part_85 (by decide) ?_
        exact ih v1 v2 v3 (v4 + 1) σ h
      · replace h := z_pos hc h
        refine z_iload C dX12_part_56 rfl ?_
        refine z_iload_n C dX12_part_58 rfl rfl ?_
        refine z_ishr C dX12_part_59 ?_
        refine z_iconst (v := 1) C dX12_part_60 (by decide) ?_
        refine z_iand C dX12_part_61 ?_
        refine z_if_ne (tgt := 82) C dX12_part_62 (by decide) (fun hc => ?_) (fun hc => ?_)
        · replace h := z_neg hc h
          refine z_iinc (v := v4 + 1) (lo' := [some (.ref (z_a X 0)), some (.int v1), some (.int v2), some (.int v3), some (.int (v4 + 1))]) C dX12_part_82 rfl rfl rfl ?_
          refine z_goto (tgt := 35) C dX12_part_85 (by decide) ?_
          exact ih v1 v2 v3 (v4 + 1) σ h
        · replace h := z_pos hc h
          refine z_aload_n C dX12_part_65 rfl rfl ?_
          refine z_iload C dX12_part_66 rfl ?_
          obtain ⟨r1, σ2, mσ2, h⟩ := z_bnd2 h
          refine z_cvi (As := [.int v4]) (c := 0) (st := []) C (t12_linesOut v4 mσ2) kvX12_linesOut rfl mlX12_456 z_CF12 rfl rfl (by decide) rfl (Nat.le_of_ble_eq_true rfl) dX12_part_68 ?_
          refine z_iload_n C dX12_part_71 rfl rfl ?_
          refine z_icmp_ge (tgt := 82) C dX12_part_72 (by decide) (fun hc => ?_) (fun hc => ?_)
          · replace h := z_neg hc h
            refine z_iinc (v := v4 + 1) (lo' := [some (.ref (z_a X 0)), some (.int v1), some (.int v2), some (.int v3), some (.int (v4 + 1))]) C dX12_part_82 rfl rfl rfl ?_
            refine z_goto (tgt := 35) C dX12_part_85 (by decide) ?_
            exact ih v1 v2 v3 (v4 + 1) σ2 h
          · replace h := z_pos hc h
            refine z_aload_n C dX12_part_75 rfl rfl ?_
            refine z_iload C dX12_part_76 rfl ?_
            obtain ⟨r3, σ4, mσ4, h⟩ := z_bnd2 h
            refine z_cvi (As := [.int v4]) (c := 0) (st := []) C (t12_linesOut v4 mσ4) kvX12_linesOut rfl mlX12_456 z_CF12 rfl rfl (by decide) rfl (Nat.le_of_ble_eq_true rfl) dX12_part_78 ?_
            refine z_istore_n (lo' := [some (.ref (z_a X 0)), some (.int v1), some (.int v2), some (.int r3), some (.int v4)]) C dX12_part_81 rfl (Nat.le_of_ble_eq_true rfl) rfl ?_
            refine z_iinc (v := v4 + 1) (lo' := [some (.ref (z_a X 0)), some (.int v1), some (.int v2), some (.int r3), some (.int (v4 + 1))]) C dX12_part_82 rfl rfl rfl ?_
            refine z_goto (tgt := 35) C dX12_part_85 (by decide) ?_
            exact ih v1 v2 r3 (v4 + 1) σ4 h
set_option maxHeartbeats 4000000 in
set_option maxRecDepth 100000 in
theorem t12_part {a : Nat → Nat} (p1 : Int32) (p2 : Int32) {σ : z_M} {u : Int32 × z_M} (h : f12_part p1 p2 σ = some u) : z_Mt yX12_part (z_w yX12_part cX12_part 5 (some .int)) 3 S2 a σ [.ref (a 0), .int p1, .int p2] (z_oi u) := by
  refine z_head (lo := [some (.ref (a 0)), some (.int p1), some (.int p2), none, none]) (by decide) (Nat.le_of_ble_eq_true rfl) ?_ rfl ?_
  · intro i v hv
    exact z_loe (vs := [.ref (a 0), .int p1, .int p2]) (n := 2) rfl (by simp [z_c1i, z_c1r]) i v hv
  · intro X hXa C
    subst hXa
    unfold f12_part at h
    refine z_aload_n C dX12_part_0 rfl rfl ?_
    refine z_iconst (v := 0) C dX12_part_1 (by decide) ?_
    obtain ⟨σ1, eσ1, h⟩ := z_let_some h
    refine z_puti (k := 0) C z_CF12 (by decide) flX12_113 rfl rfl rfl rfl eσ1 dX12_part_2 ?_
    refine z_aload_n C dX12_part_5 rfl rfl ?_
    refine z_iload_n C dX12_part_6 rfl rfl ?_
    obtain ⟨r2, σ3, mσ3, h⟩ := z_bnd2 h
    refine z_cvi (As := [.int p1]) (c := 0) (st := []) C (t12_isHouse p1 mσ3) kvX12_isHouse rfl mlX12_156 z_CF12 rfl rfl (by decide) rfl (Nat.le_of_ble_eq_true rfl) dX12_part_7 ?_
    refine z_if_eq (tgt := 26) C dX12_part_10 (by decide) (fun hc => ?_) (fun hc => ?_)
    · replace h := z_pos hc h
      refine z_iconst (v := (-1)) C dX12_part_26 (by decide) ?_
      exact z_iret C h dX12_part_27
    · replace h := z_neg hc h
      refine z_aload_n C dX12_part_13 rfl rfl ?_
      refine z_iload_n C dX12_part_14 rfl rfl ?_
      obtain ⟨r4, σ5, mσ5, h⟩ := z_bnd2 h
      refine z_cvi (As := [.int p2]) (c := 0) (st := []) C (t12_isHouse p2 mσ5) kvX12_isHouse rfl mlX12_156 z_CF12 rfl rfl (by decide) rfl (Nat.le_of_ble_eq_true rfl) dX12_part_15 ?_
      refine z_if_eq (tgt := 26) C dX12_part_18 (by decide) (fun hc => ?_) (fun hc => ?_)
      · replace h := z_pos hc h
        refine z_iconst (v := (-1)) C dX12_part_26 (by decide) ?_
        exact z_iret C h dX12_part_27
      · replace h := z_neg hc h
        refine z_iload_n C dX12_part_21 rfl rfl ?_
        refine z_iload_n C dX12_part_22 rfl rfl ?_
        refine z_icmp_ne (tgt := 28) C dX12_part_23 (by decide) (fun hc => ?_) (fun hc => ?_)
        · replace h := z_neg hc h
          refine z_ldcw (v := 100000) C dX12_part_28 cnX12_449 ?_
          refine z_istore_n (lo' := [some (.ref (z_a X 0)), some (.int p1), some (.int p2), some (.int 100000), none]) C dX12_part_31 rfl (Nat.le_of_ble_eq_true rfl) rfl ?_
          refine z_iconst (v := 0) C dX12_part_32 (by decide) ?_
          refine z_istore (lo' := [some (.ref (z_a X 0)), some (.int p1), some (.int p2), some (.int 100000), some (.int 0)]) C dX12_part_33 (Nat.le_of_ble_eq_true rfl) rfl ?_
          exact t12_part_L35 C _ p1 p2 100000 0 σ5 h
        · replace h := z_pos hc h
          refine z_iconst (v := (-1)) C dX12_part_26 (by decide) ?_
          exact z_iret C h dX12_part_27
set_option maxHeartbeats 4000000 in
set_option maxRecDepth 100000 in
theorem t12_talk {a : Nat → Nat} (p1 : Int32) (p2 : Int32) (p3 : Int32) {σ : z_M} {u : Int32 × z_M} (h : f12_talk p1 p2 p3 σ = some u) : z_Mt yX12_talk (z_w yX12_talk cX12_talk 4 (some .int)) 2 S2 a σ [.ref (a 0), .int p1, .int p2, .int p3] (z_oi u) := by
  refine z_head (lo := [some (.ref (a 0)), some (.int p1), some (.int p2), some (.int p3)]) (by decide) (Nat.le_of_ble_eq_true rfl) ?_ rfl ?_
  · intro i v hv
    exact z_loe (vs := [.ref (a 0), .int p1, .int p2, .int p3]) (n := 0) rfl (by simp [z_c1i, z_c1r]) i v hv
  · intro X hXa C
    subst hXa
    unfold f12_talk at h
    refine z_aload_n C dX12_talk_0 rfl rfl ?_
    refine z_iconst (v := 0) C dX12_talk_1 (by decide) ?_
    obtain ⟨σ1, eσ1, h⟩ := z_let_some h
    refine z_puti (k := 0) C z_CF12 (by decide) flX12_113 rfl rfl rfl rfl eσ1 dX12_talk_2 ?_
    refine z_iload_n C dX12_talk_5 rfl rfl ?_
    refine z_iconst (v := (-1)) C dX12_talk_6 (by decide) ?_
    refine z_icmp_ne (tgt := 17) C dX12_talk_7 (by decide) (fun hc => ?_) (fun hc => ?_)
    · replace h := z_neg hc h
      refine z_aload_n C dX12_talk_17 rfl rfl ?_
      refine z_iload_n C dX12_talk_18 rfl rfl ?_
      obtain ⟨r2, σ3, mσ3, h⟩ := z_bnd2 h
      refine z_cvi (As := [.int p1]) (c := 0) (st := []) C (t12_isHouse p1 mσ3) kvX12_isHouse rfl mlX12_156 z_CF12 rfl rfl (by decide) rfl (Nat.le_of_ble_eq_true rfl) dX12_talk_19 ?_
      refine z_if_eq (tgt := 52) C dX12_talk_22 (by decide) (fun hc => ?_) (fun hc => ?_)
      · replace h := z_pos hc h
        refine z_iconst (v := (-1)) C dX12_talk_52 (by decide) ?_
        exact z_iret C h dX12_talk_53
      · replace h := z_neg hc h
        refine z_aload_n C dX12_talk_25 rfl rfl ?_
        refine z_iload_n C dX12_talk_26 rfl rfl ?_
        obtain ⟨r4, σ5, mσ5, h⟩ := z_bnd2 h
        refine z_cvi (As := [.int p2]) (c := 0) (st := []) C (t12_isThing p2 mσ5) kvX12_isThing rfl mlX12_146 z_CF12 rfl rfl (by decide) rfl (Nat.le_of_ble_eq_true rfl) dX12_talk_27 ?_
        refine z_if_eq (tgt := 52) C dX12_talk_30 (by decide) (fun hc => ?_) (fun hc => ?_)
        · replace h := z_pos hc h
          refine z_iconst (v := (-1)) C dX12_talk_52 (by decide) ?_
          exact z_iret C h dX12_talk_53
        · replace h := z_neg hc h
          refine z_aload_n C dX12_talk_33 rfl rfl ?_
          refine z_iload_n C dX12_talk_34 rfl rfl ?_
          refine z_iconst (v := 0) C dX12_talk_35 (by decide) ?_
          refine z_iconst (v := 1) C dX12_talk_36 (by decide) ?_
          obtain ⟨r6, σ7, mσ7, h⟩ := z_bnd2 h
          refine z_cvi (As := [.int p3, .int 0, .int 1]) (c := 0) (st := []) C (t12_isIn p3 0 1 mσ7) kvX12_isIn rfl mlX12_142 z_CF12 rfl rfl (by decide) rfl (Nat.le_of_ble_eq_true rfl) dX12_talk_37 ?_
          refine z_if_eq (tgt := 52) C dX12_talk_40 (by decide) (fun hc => ?_) (fun hc => ?_)
          · replace h := z_pos hc h
            refine z_iconst (v := (-1)) C dX12_talk_52 (by decide) ?_
            exact z_iret C h dX12_talk_53
          · replace h := z_neg hc h
            refine z_aload_n C dX12_talk_43 rfl rfl ?_
            refine z_geti (k := 52) C z_CF12 (by decide) flX12_459 rfl rfl dX12_talk_44 ?_
            refine z_bipush (v := 12) C dX12_talk_47 (by decide) ?_
            refine z_icmp_ne (tgt := 54) C dX12_talk_49 (by decide) (fun hc => ?_) (fun hc => ?_)
            · replace h := z_neg hc h
              refine z_aload_n C dX12_talk_54 rfl rfl ?_
              refine z_geta (k := 53) (q := 29) C z_CF12 (by decide) flX12_98 rfl rfl dX12_talk_55 ?_
              refine z_aload_n C dX12_talk_58 rfl rfl ?_
              refine z_geti (k := 52) C z_CF12 (by decide) flX12_459 rfl rfl dX12_talk_59 ?_
              refine z_iload_n C dX12_talk_62 rfl rfl ?_
              obtain ⟨b8, h⟩ := z_chk_some h
              obtain ⟨σ9, eσ9, h⟩ := z_let_some h
              refine z_iast C rfl rfl b8 eσ9 dX12_talk_63 ?_
              refine z_aload_n C dX12_talk_64 rfl rfl ?_
              refine z_geta (k := 54) (q := 30) C z_CF12 (by decide) flX12_101 rfl rfl dX12_talk_65 ?_
              refine z_aload_n C dX12_talk_68 rfl rfl ?_
              refine z_geti (k := 52) C z_CF12 (by decide) flX12_459 rfl rfl dX12_talk_69 ?_
              refine z_iload_n C dX12_talk_72 rfl rfl ?_
              obtain ⟨b10, h⟩ := z_chk_some h
              obtain ⟨σ11, eσ11, h⟩ := z_let_some h
              refine z_iast C rfl rfl b10 eσ11 dX12_talk_73 ?_
              refine z_aload_n C dX12_talk_74 rfl rfl ?_
              refine z_geta (k := 55) (q := 31) C z_CF12 (by decide) flX12_104 rfl rfl dX12_talk_75 ?_
              refine z_aload_n C dX12_talk_78 rfl rfl ?_
              refine z_geti (k := 52) C z_CF12 (by decide) flX12_459 rfl rfl dX12_talk_79 ?_
              refine z_iload_n C dX12_talk_82 rfl rfl ?_
              obtain ⟨b12, h⟩ := z_chk_some h
              obtain ⟨σ13, eσ13, h⟩ := z_let_some h
              refine z_iast C rfl rfl b12 eσ13 dX12_talk_83 ?_
              refine z_aload_n C dX12_talk_84 rfl rfl ?_
              refine z_aload_n C dX12_talk_85 rfl rfl ?_
              refine z_geti (k := 52) C z_CF12 (by decide) flX12_459 rfl rfl dX12_talk_86 ?_
              refine z_iconst (v := 1) C dX12_talk_89 (by decide) ?_
              refine z_iadd C dX12_talk_90 ?_
              obtain ⟨σ14, eσ14, h⟩ := z_let_some h
              refine z_puti (k := 52) C z_CF12 (by decide) flX12_459 rfl rfl rfl rfl eσ14 dX12_talk_91 ?_
              refine z_aload_n C dX12_talk_94 rfl rfl ?_
              refine z_geti (k := 52) C z_CF12 (by decide) flX12_459 rfl rfl dX12_talk_95 ?_
              exact z_iret C h dX12_talk_98
            · replace h := z_pos hc h
              refine z_iconst (v := (-1)) C dX12_talk_52 (by decide) ?_
              exact z_iret C h dX12_talk_53
    · replace h := z_pos hc h
      refine z_aload_n C dX12_talk_10 rfl rfl ?_
      refine z_iconst (v := 0) C dX12_talk_11 (by decide) ?_
      obtain ⟨σ15, eσ15, h⟩ := z_let_some h
      refine z_puti (k := 52) C z_CF12 (by decide) flX12_459 rfl rfl rfl rfl eσ15 dX12_talk_12 ?_
      refine z_iconst (v := 0) C dX12_talk_15 (by decide) ?_
      exact z_iret C h dX12_talk_16
set_option maxHeartbeats 4000000 in
set_option maxRecDepth 100000 in
theorem t12_doesFit_J81 {X : z_Ct} (C : z_Cx S2 X RX12 cX12_doesFit 6 2 (some .boolean)) {u : Int32 × z_M} (σ : z_M) (h : f12_doesFit_J81 σ = some u) : z_W S2 X 81 [none, none, none, none, none, none] [] σ (z_oi u) := by
  unfold f12_doesFit_J81 at h
  refine z_iconst (v := 0) C dX12_doesFit_81 (by decide) ?_
  exact z_zret C (by decide) h dX12_doesFit_82
set_option maxHeartbeats 4000000 in
set_option maxRecDepth 100000 in
theorem t12_doesFit_J59 {X : z_Ct} (C : z_Cx S2 X RX12 cX12_doesFit 6 2 (some .boolean)) {u : Int32 × z_M} (v2 : Int32) (v3 : Int32) (v4 : Int32) (σ : z_M) (h : f12_doesFit_J59 v2 v3 v4 σ = some u) : z_W S2 X 59 [some (.ref (z_a X 0)), none, some (.int v2), some (.int v3), some (.int v4), none] [] σ (z_oi u) := by
  unfold f12_doesFit_J59 at h
  refine z_aload_n C dX12_doesFit_59 rfl rfl ?_
  refine z_iload_n C dX12_doesFit_60 rfl rfl ?_
  obtain ⟨r1, σ2, mσ2, h⟩ := z_bnd2 h
  refine z_cvi (As := [.int v2]) (c := 0) (st := []) C (t12_onesOf v2 mσ2) kvX12_onesOf rfl mlX12_330 z_CF12 rfl rfl (by decide) rfl (Nat.le_of_ble_eq_true rfl) dX12_doesFit_61 ?_
  refine z_aload_n C dX12_doesFit_64 rfl rfl ?_
  obtain ⟨r3, σ4, mσ4, h⟩ := z_bnd2 h
  refine z_cvi (As := []) (c := 0) (st := [.int r1]) C (t12_most mσ4) kvX12_most rfl mlX12_398 z_CF12 rfl rfl (by decide) rfl (Nat.le_of_ble_eq_true rfl) dX12_doesFit_65 ?_
  refine z_icmp_gt (tgt := 81) C dX12_doesFit_68 (by decide) (fun hc => ?_) (fun hc => ?_)
  · replace h := z_pos hc h
    refine z_kill (lo' := [none, none, none, none, none, none]) [0, 2, 3, 4] rfl ?_
    exact t12_doesFit_J81 C σ4 h
  · replace h := z_neg hc h
    refine z_iload C dX12_doesFit_71 rfl ?_
    refine z_iload_n C dX12_doesFit_73 rfl rfl ?_
    refine z_icmp_gt (tgt := 81) C dX12_doesFit_74 (by decide) (fun hc => ?_) (fun hc => ?_)
    · replace h := z_pos hc h
      refine z_kill (lo' := [none, none, none, none, none, none]) [0, 2, 3, 4] rfl ?_
      exact t12_doesFit_J81 C σ4 h
    · replace h := z_neg hc h
      refine z_iconst (v := 1) C dX12_doesFit_77 (by decide) ?_
      refine z_goto (tgt := 82) C dX12_doesFit_78 (by decide) ?_
      exact z_zret C (by decide) h dX12_doesFit_82
set_option maxHeartbeats 4000000 in
set_option maxRecDepth 100000 in
theorem t12_doesFit_L6 {X : z_Ct} (C : z_Cx S2 X RX12 cX12_doesFit 6 2 (some .boolean)) {u : Int32 × z_M} : ∀ (n : Nat) (v1 : Int32) (v2 : Int32) (v3 : Int32) (v4 : Int32) (v5 : Int32) (σ : z_M), f12_doesFit_L6 n v1 v2 v3 v4 v5 σ = some u → z_W S2 X 6 [some (.ref (z_a X 0)), some (.int v1), some (.int v2), some (.int v3), some (.int v4), some (.int v5)] [] σ (z_oi u) := by
  intro n
  induction n with
  | zero => intro v1 v2 v3 v4 v5 σ h; rw [f12_doesFit_L6] at h; cases h
  | succ n ih =>
    intro v1 v2 v3 v4 v5 σ h
    rw [f12_doesFit_L6] at h
    refine z_iload C dX12_doesFit_6 rfl ?_
    refine z_aload_n C dX12_doesFit_8 rfl rfl ?_
    refine z_geti (k := 52) C z_CF12 (by decide) flX12_459 rfl rfl dX12_doesFit_9 ?_
    refine z_icmp_ge (tgt := 59) C dX12_doesFit_12 (by decide) (fun hc => ?_) (fun hc => ?_)
    · replace h := z_neg hc h
      refine z_kill (lo' := [some (.ref (z_a X 0)), none, some (.int v2), some (.int v3), some (.int v4), none]) [1, 5] rfl ?_
      exact t12_doesFit_J59 C v2 v3 v4 σ h
    · replace h := z_pos hc h
      refine z_aload_n C dX12_doesFit_15 rfl rfl ?_
      refine z_geta (k := 53) (q := 29) C z_CF12 (by decide) flX12_98 rfl rfl dX12_doesFit_16 ?_
      refine z_iload C dX12_doesFit_19 rfl ?_
      obtain ⟨b1, h⟩ := z_chk_some h
      refine z_iald C rfl rfl b1 dX12_doesFit_21 ?_
      refine z_iload_n C dX12_doesFit_22 rfl rfl ?_
      refine z_icmp_ne (tgt := 53) C dX12_doesFit_23 (by decide) (fun hc => ?_) (fun hc => ?_)
      · replace h := z_neg hc h
        refine z_iinc (v := v5 + 1) (lo' := [some (.ref (z_a X 0)), some (.int v1), some (.int v2), some (.int v3), some (.int v4), some (.int (v5 + 1))]) C dX12_doesFit_53 rfl rfl rfl ?_
        refine z_goto (tgt := 6) C dX12_doesFit_56 (by decide) ?_
        exact ih v1 v2 v3 v4 (v5 + 1) σ h
      · replace h := z_pos hc h
        refine z_iload_n C dX12_doesFit_26 rfl rfl ?_
        refine z_aload_n C dX12_doesFit_27 rfl rfl ?_
        refine z_geta (k := 54) (q := 30) C z_CF12 (by decide) flX12_101 rfl rfl dX12_doesFit_28 ?_
        refine z_iload C dX12_doesFit_31 rfl ?_
        obtain ⟨b2, h⟩ := z_chk_some h
        refine z_iald C rfl rfl b2 dX12_doesFit_33 ?_
        refine z_ishr C dX12_doesFit_34 ?_
        refine z_iconst (v := 1) C dX12_doesFit_35 (by decide) ?_
        refine z_iand C dX12_doesFit_36 ?_
        refine z_aload_n C dX12_doesFit_37 rfl rfl ?_
        refine z_geta (k := 55) (q := 31) C z_CF12 (by decide) flX12_104 rfl rfl dX12_doesFit_38 ?_
        refine z_iload C dX12_doesFit_41 rfl ?_
        obtain ⟨b3, h⟩ := z_chk_some h
        refine z_iald C rfl rfl b3 dX12_doesFit_43 ?_
        refine z_icmp_ne (tgt := 53) C dX12_doesFit_44 (by decide) (fun hc => ?_) (fun hc => ?_)
        · replace h := z_neg hc h
          refine z_iinc (v := v5 + 1) (lo' := [some (.ref (z_a X 0)), some (.int v1), some (.int v2), some (.int v3), some (.int v4), some (.int (v5 + 1))]) C dX12_doesFit_53 rfl rfl rfl ?_
          refine z_goto (tgt := 6) C dX12_doesFit_56 (by decide) ?_
          exact ih v1 v2 v3 v4 (v5 + 1) σ h
        · replace h := z_pos hc h
          refine z_iload C dX12_doesFit_47 rfl ?_
          refine z_iconst (v := 1) C dX12_doesFit_49 (by decide) ?_
          refine z_iadd C dX12_doesFit_50 ?_
          refine z_istore (lo' := [some (.ref (z_a X 0)), some (.int v1), some (.int v2), some (.int v3), some (.int (v4 + 1)), some (.int v5)]) C dX12_doesFit_51 (Nat.le_of_ble_eq_true rfl) rfl ?_
          refine z_iinc (v := v5 + 1) (lo' := [some (.ref (z_a X 0)), some (.int v1), some (.int v2), some (.int v3), some (.int (v4 + 1)), some (.int (v5 + 1))]) C dX12_doesFit_53 rfl rfl rfl ?_
          refine z_goto (tgt := 6) C dX12_doesFit_56 (by decide) ?_
          exact ih v1 v2 v3 (v4 + 1) (v5 + 1) σ h
set_option maxHeartbeats 4000000 in
set_option maxRecDepth 100000 in
theorem t12_doesFit {a : Nat → Nat} (p1 : Int32) (p2 : Int32) (p3 : Int32) {σ : z_M} {u : Int32 × z_M} (h : f12_doesFit p1 p2 p3 σ = some u) : z_Mt yX12_doesFit (z_w yX12_doesFit cX12_doesFit 6 (some .boolean)) 2 S2 a σ [.ref (a 0), .int p1, .int p2, .int p3] (z_oi u) := by
  refine z_head (lo := [some (.ref (a 0)), some (.int p1), some (.int p2), some (.int p3), none, none]) (by decide) (Nat.le_of_ble_eq_true rfl) ?_ rfl ?_
  · intro i v hv
    exact z_loe (vs := [.ref (a 0), .int p1, .int p2, .int p3]) (n := 2) rfl (by simp [z_c1i, z_c1r]) i v hv
  · intro X hXa C
    subst hXa
    unfold f12_doesFit at h
    refine z_iconst (v := 0) C dX12_doesFit_0 (by decide) ?_
    refine z_istore (lo' := [some (.ref (z_a X 0)), some (.int p1), some (.int p2), some (.int p3), some (.int 0), none]) C dX12_doesFit_1 (Nat.le_of_ble_eq_true rfl) rfl ?_
    refine z_iconst (v := 0) C dX12_doesFit_3 (by decide) ?_
    refine z_istore (lo' := [some (.ref (z_a X 0)), some (.int p1), some (.int p2), some (.int p3), some (.int 0), some (.int 0)]) C dX12_doesFit_4 (Nat.le_of_ble_eq_true rfl) rfl ?_
    exact t12_doesFit_L6 C _ p1 p2 p3 0 0 σ h
set_option maxHeartbeats 4000000 in
set_option maxRecDepth 100000 in
theorem t12_fitsWith_J29 {X : z_Ct} (C : z_Cx S2 X RX12 cX12_fitsWith 6 3 (some .int)) {u : Int32 × z_M} {k6 : Int32 → Int32 → Int32 → Int32 → Int32 → z_M → Option (Int32 × z_M)} (hr6 : ∀ (v1 : Int32) (v2 : Int32) (v3 : Int32) (v4 : Int32) (v5 : Int32) (σ : z_M), k6 v1 v2 v3 v4 v5 σ = some u → z_W S2 X 6 [some (.ref (z_a X 0)), some (.int v1), some (.int v2), some (.int v3), some (.int v4), some (.int v5)] [] σ (z_oi u)) (v1 : Int32) (v2 : Int32) (v3 : Int32) (v4 : Int32) (v5 : Int32) (σ : z_M) (h : f12_fitsWith_J29 k6 v1 v2 v3 v4 v5 σ = some u) : z_W S2 X 29 [some (.ref (z_a X 0)), some (.int v1), some (.int v2), some (.int v3), some (.int v4), some (.int v5)] [] σ (z_oi u) := by
  unfold f12_fitsWith_J29 at h
  refine z_aload_n C dX12_fitsWith_29 rfl rfl ?_
  refine z_iload_n C dX12_fitsWith_30 rfl rfl ?_
  refine z_iload C dX12_fitsWith_31 rfl ?_
  refine z_iload_n C dX12_fitsWith_33 rfl rfl ?_
  obtain ⟨r1, σ2, mσ2, h⟩ := z_bnd2 h
  refine z_cvi (As := [.int v1, .int v5, .int v2]) (c := 0) (st := []) C (t12_doesFit v1 v5 v2 mσ2) kvX12_doesFit rfl mlX12_462 z_CF12 rfl rfl (by decide) rfl (Nat.le_of_ble_eq_true rfl) dX12_fitsWith_34 ?_
  refine z_if_eq (tgt := 46) C dX12_fitsWith_37 (by decide) (fun hc => ?_) (fun hc => ?_)
  · replace h := z_pos hc h
    refine z_iinc (v := v5 + 1) (lo' := [some (.ref (z_a X 0)), some (.int v1), some (.int v2), some (.int v3), some (.int v4), some (.int (v5 + 1))]) C dX12_fitsWith_46 rfl rfl rfl ?_
    refine z_goto (tgt := 6) C dX12_fitsWith_49 (by decide) ?_
    exact hr6 v1 v2 v3 v4 (v5 + 1) σ2 h
  · replace h := z_neg hc h
    refine z_iload C dX12_fitsWith_40 rfl ?_
    refine z_iconst (v := 1) C dX12_fitsWith_42 (by decide) ?_
    refine z_iadd C dX12_fitsWith_43 ?_
    refine z_istore (lo' := [some (.ref (z_a X 0)), some (.int v1), some (.int v2), some (.int v3), some (.int (v4 + 1)), some (.int v5)]) C dX12_fitsWith_44 (Nat.le_of_ble_eq_true rfl) rfl ?_
    refine z_iinc (v := v5 + 1) (lo' := [some (.ref (z_a X 0)), some (.int v1), some (.int v2), some (.int v3), some (.int (v4 + 1)), some (.int (v5 + 1))]) C dX12_fitsWith_46 rfl rfl rfl ?_
    refine z_goto (tgt := 6) C dX12_fitsWith_49 (by decide) ?_
    exact hr6 v1 v2 v3 (v4 + 1) (v5 + 1) σ2 h
set_option maxHeartbeats 4000000 in
set_option maxRecDepth 100000 in
theorem t12_fitsWith_L6 {X : z_Ct} (C : z_Cx S2 X RX12 cX12_fitsWith 6 3 (some .int)) {u : Int32 × z_M} : ∀ (n : Nat) (v1 : Int32) (v2 : Int32) (v3 : Int32) (v4 : Int32) (v5 : Int32) (σ : z_M), f12_fitsWith_L6 n v1 v2 v3 v4 v5 σ = some u → z_W S2 X 6 [some (.ref (z_a X 0)), some (.int v1), some (.int v2), some (.int v3), some (.int v4), some (.int v5)] [] σ (z_oi u) := by
  intro n
  induction n with
  | zero => intro v1 v2 v3 v4 v5 σ h; rw [f12_fitsWith_L6] at h; cases h
  | succ n ih =>
    intro v1 v2 v3 v4 v5 σ h
    rw [f12_fitsWith_L6] at h
    refine z_iload C dX12_fitsWith_6 rfl ?_
    refine z_sipush (v := 256) C dX12_fitsWith_8 (by decide) ?_
    refine z_icmp_ge (tgt := 52) C dX12_fitsWith_11 (by decide) (fun hc => ?_) (fun hc => ?_)
    · replace h := z_neg hc h
      refine z_iload C dX12_fitsWith_52 rfl ?_
      exact z_iret C h dX12_fitsWith_54
    · replace h := z_pos hc h
      refine z_iload_n C dX12_fitsWith_14 rfl rfl ?_
      refine z_iconst (v := (-1)) C dX12_fitsWith_15 (by decide) ?_
      refine z_icmp_eq (tgt := 29) C dX12_fitsWith_16 (by decide) (fun hc => ?_) (fun hc => ?_)
      · replace h := z_pos hc h
        exact t12_fitsWith_J29 C ih v1 v2 v3 v4 v5 σ h
      · replace h := z_neg hc h
        refine z_iload C dX12_fitsWith_19 rfl ?_
        refine z_iload_n C dX12_fitsWith_21 rfl rfl ?_
        refine z_ishr C dX12_fitsWith_22 ?_
        refine z_iconst (v := 1) C dX12_fitsWith_23 (by decide) ?_
        refine z_iand C dX12_fitsWith_24 ?_
        refine z_iconst (v := 1) C dX12_fitsWith_25 (by decide) ?_
        refine z_icmp_ne (tgt := 46) C dX12_fitsWith_26 (by decide) (fun hc => ?_) (fun hc => ?_)
        · replace h := z_neg hc h
          refine z_iinc (v := v5 + 1) (lo' := [some (.ref (z_a X 0)), some (.int v1), some (.int v2), some (.int v3), some (.int v4), some (.int (v5 + 1))]) C dX12_fitsWith_46 rfl rfl rfl ?_
          refine z_goto (tgt := 6) C dX12_fitsWith_49 (by decide) ?_
          exact ih v1 v2 v3 v4 (v5 + 1) σ h
        · replace h := z_pos hc h
          exact t12_fitsWith_J29 C ih v1 v2 v3 v4 v5 σ h
set_option maxHeartbeats 4000000 in
set_option maxRecDepth 100000 in
theorem t12_fitsWith {a : Nat → Nat} (p1 : Int32) (p2 : Int32) (p3 : Int32) {σ : z_M} {u : Int32 × z_M} (h : f12_fitsWith p1 p2 p3 σ = some u) : z_Mt yX12_fitsWith (z_w yX12_fitsWith cX12_fitsWith 6 (some .int)) 3 S2 a σ [.ref (a 0), .int p1, .int p2, .int p3] (z_oi u) := by
  refine z_head (lo := [some (.ref (a 0)), some (.int p1), some (.int p2), some (.int p3), none, none]) (by decide) (Nat.le_of_ble_eq_true rfl) ?_ rfl ?_
  · intro i v hv
    exact z_loe (vs := [.ref (a 0), .int p1, .int p2, .int p3]) (n := 2) rfl (by simp [z_c1i, z_c1r]) i v hv
  · intro X hXa C
    subst hXa
    unfold f12_fitsWith at h
    refine z_iconst (v := 0) C dX12_fitsWith_0 (by decide) ?_
    refine z_istore (lo' := [some (.ref (z_a X 0)), some (.int p1), some (.int p2), some (.int p3), some (.int 0), none]) C dX12_fitsWith_1 (Nat.le_of_ble_eq_true rfl) rfl ?_
    refine z_iconst (v := 0) C dX12_fitsWith_3 (by decide) ?_
    refine z_istore (lo' := [some (.ref (z_a X 0)), some (.int p1), some (.int p2), some (.int p3), some (.int 0), some (.int 0)]) C dX12_fitsWith_4 (Nat.le_of_ble_eq_true rfl) rfl ?_
    exact t12_fitsWith_L6 C _ p1 p2 p3 0 0 σ h
set_option maxHeartbeats 4000000 in
set_option maxRecDepth 100000 in
theorem t12_fits_J33 {X : z_Ct} (C : z_Cx S2 X RX12 cX12_fits 3 4 (some .int)) {u : Int32 × z_M} (σ : z_M) (h : f12_fits_J33 σ = some u) : z_W S2 X 33 [none, none, none] [] σ (z_oi u) := by
  unfold f12_fits_J33 at h
  refine z_iconst (v := (-1)) C dX12_fits_33 (by decide) ?_
  exact z_iret C h dX12_fits_34
set_option maxHeartbeats 4000000 in
set_option maxRecDepth 100000 in
theorem t12_fits {a : Nat → Nat} (p1 : Int32) (p2 : Int32) {σ : z_M} {u : Int32 × z_M} (h : f12_fits p1 p2 σ = some u) : z_Mt yX12_fits (z_w yX12_fits cX12_fits 3 (some .int)) 4 S2 a σ [.ref (a 0), .int p1, .int p2] (z_oi u) := by
  refine z_head (lo := [some (.ref (a 0)), some (.int p1), some (.int p2)]) (by decide) (Nat.le_of_ble_eq_true rfl) ?_ rfl ?_
  · intro i v hv
    exact z_loe (vs := [.ref (a 0), .int p1, .int p2]) (n := 0) rfl (by simp [z_c1i, z_c1r]) i v hv
  · intro X hXa C
    subst hXa
    unfold f12_fits at h
    refine z_aload_n C dX12_fits_0 rfl rfl ?_
    refine z_iconst (v := 0) C dX12_fits_1 (by decide) ?_
    obtain ⟨σ1, eσ1, h⟩ := z_let_some h
    refine z_puti (k := 0) C z_CF12 (by decide) flX12_113 rfl rfl rfl rfl eσ1 dX12_fits_2 ?_
    refine z_aload_n C dX12_fits_5 rfl rfl ?_
    refine z_iload_n C dX12_fits_6 rfl rfl ?_
    obtain ⟨r2, σ3, mσ3, h⟩ := z_bnd2 h
    refine z_cvi (As := [.int p1]) (c := 0) (st := []) C (t12_isHouse p1 mσ3) kvX12_isHouse rfl mlX12_156 z_CF12 rfl rfl (by decide) rfl (Nat.le_of_ble_eq_true rfl) dX12_fits_7 ?_
    refine z_if_eq (tgt := 33) C dX12_fits_10 (by decide) (fun hc => ?_) (fun hc => ?_)
    · replace h := z_pos hc h
      refine z_kill (lo' := [none, none, none]) [0, 1, 2] rfl ?_
      exact t12_fits_J33 C σ3 h
    · replace h := z_neg hc h
      refine z_aload_n C dX12_fits_13 rfl rfl ?_
      refine z_iload_n C dX12_fits_14 rfl rfl ?_
      refine z_iconst (v := 0) C dX12_fits_15 (by decide) ?_
      refine z_iconst (v := 3) C dX12_fits_16 (by decide) ?_
      obtain ⟨r4, σ5, mσ5, h⟩ := z_bnd2 h
      refine z_cvi (As := [.int p2, .int 0, .int 3]) (c := 0) (st := []) C (t12_isIn p2 0 3 mσ5) kvX12_isIn rfl mlX12_142 z_CF12 rfl rfl (by decide) rfl (Nat.le_of_ble_eq_true rfl) dX12_fits_17 ?_
      refine z_if_eq (tgt := 33) C dX12_fits_20 (by decide) (fun hc => ?_) (fun hc => ?_)
      · replace h := z_pos hc h
        refine z_kill (lo' := [none, none, none]) [0, 1, 2] rfl ?_
        exact t12_fits_J33 C σ5 h
      · replace h := z_neg hc h
        refine z_aload_n C dX12_fits_23 rfl rfl ?_
        refine z_iload_n C dX12_fits_24 rfl rfl ?_
        refine z_iload_n C dX12_fits_25 rfl rfl ?_
        refine z_iconst (v := (-1)) C dX12_fits_26 (by decide) ?_
        obtain ⟨r6, σ7, mσ7, h⟩ := z_bnd2 h
        refine z_cvi (As := [.int p1, .int p2, .int (-1)]) (c := 0) (st := []) C (t12_fitsWith p1 p2 (-1) mσ7) kvX12_fitsWith rfl mlX12_465 z_CF12 rfl rfl (by decide) rfl (Nat.le_of_ble_eq_true rfl) dX12_fits_27 ?_
        refine z_goto (tgt := 34) C dX12_fits_30 (by decide) ?_
        exact z_iret C h dX12_fits_34
set_option maxHeartbeats 4000000 in
set_option maxRecDepth 100000 in
theorem t12_ask_J94 {X : z_Ct} (C : z_Cx S2 X RX12 cX12_ask 9 4 (some .int)) {u : Int32 × z_M} {k51 : Int32 → Int32 → Int32 → Int32 → Int32 → Int32 → z_M → Option (Int32 × z_M)} (hr51 : ∀ (v1 : Int32) (v2 : Int32) (v3 : Int32) (v4 : Int32) (v5 : Int32) (v6 : Int32) (σ : z_M), k51 v1 v2 v3 v4 v5 v6 σ = some u → z_W S2 X 51 [some (.ref (z_a X 0)), some (.int v1), some (.int v2), some (.int v3), some (.int v4), some (.int v5), some (.int v6), none, none] [] σ (z_oi u)) (v1 : Int32) (v2 : Int32) (v3 : Int32) (v5 : Int32) (v6 : Int32) (v8 : Int32) (s0 : Int32) (σ : z_M) (h : f12_ask_J94 k51 v1 v2 v3 v5 v6 v8 s0 σ = some u) : z_W S2 X 94 [some (.ref (z_a X 0)), some (.int v1), some (.int v2), some (.int v3), none, some (.int v5), some (.int v6), none, some (.int v8)] [.int s0] σ (z_oi u) := by
  unfold f12_ask_J94 at h
  refine z_istore (lo' := [some (.ref (z_a X 0)), some (.int v1), some (.int v2), some (.int v3), some (.int s0), some (.int v5), some (.int v6), none, some (.int v8)]) C dX12_ask_94 (Nat.le_of_ble_eq_true rfl) rfl ?_
  refine z_iload C dX12_ask_96 rfl ?_
  refine z_iload C dX12_ask_98 rfl ?_
  refine z_icmp_ge (tgt := 108) C dX12_ask_100 (by decide) (fun hc => ?_) (fun hc => ?_)
  · replace h := z_neg hc h
    refine z_iload C dX12_ask_108 rfl ?_
    refine z_istore (lo' := [some (.ref (z_a X 0)), some (.int v1), some (.int v2), some (.int v3), some (.int s0), some (.int v5), some (.int v6), none, some (.int v8)]) C dX12_ask_110 (Nat.le_of_ble_eq_true rfl) rfl ?_
    refine z_iinc (v := v6 + 1) (lo' := [some (.ref (z_a X 0)), some (.int v1), some (.int v2), some (.int v3), some (.int s0), some (.int v5), some (.int (v6 + 1)), none, some (.int v8)]) C dX12_ask_112 rfl rfl rfl ?_
    refine z_goto (tgt := 51) C dX12_ask_115 (by decide) ?_
    refine z_kill (lo' := [some (.ref (z_a X 0)), some (.int v1), some (.int v2), some (.int v3), some (.int s0), some (.int v5), some (.int (v6 + 1)), none, none]) [8] rfl ?_
    exact hr51 v1 v2 v3 s0 v5 (v6 + 1) σ h
  · replace h := z_pos hc h
    refine z_iload C dX12_ask_103 rfl ?_
    refine z_goto (tgt := 110) C dX12_ask_105 (by decide) ?_
    refine z_istore (lo' := [some (.ref (z_a X 0)), some (.int v1), some (.int v2), some (.int v3), some (.int s0), some (.int v8), some (.int v6), none, some (.int v8)]) C dX12_ask_110 (Nat.le_of_ble_eq_true rfl) rfl ?_
    refine z_iinc (v := v6 + 1) (lo' := [some (.ref (z_a X 0)), some (.int v1), some (.int v2), some (.int v3), some (.int s0), some (.int v8), some (.int (v6 + 1)), none, some (.int v8)]) C dX12_ask_112 rfl rfl rfl ?_
    refine z_goto (tgt := 51) C dX12_ask_115 (by decide) ?_
    refine z_kill (lo' := [some (.ref (z_a X 0)), some (.int v1), some (.int v2), some (.int v3), some (.int s0), some (.int v8), some (.int (v6 + 1)), none, none]) [8] rfl ?_
    exact hr51 v1 v2 v3 s0 v8 (v6 + 1) σ h
set_option maxHeartbeats 4000000 in
set_option maxRecDepth 100000 in
theorem t12_ask_L51 {X : z_Ct} (C : z_Cx S2 X RX12 cX12_ask 9 4 (some .int)) {u : Int32 × z_M} : ∀ (n : Nat) (v1 : Int32) (v2 : Int32) (v3 : Int32) (v4 : Int32) (v5 : Int32) (v6 : Int32) (σ : z_M), f12_ask_L51 n v1 v2 v3 v4 v5 v6 σ = some u → z_W S2 X 51 [some (.ref (z_a X 0)), some (.int v1), some (.int v2), some (.int v3), some (.int v4), some (.int v5), some (.int v6), none, none] [] σ (z_oi u) := by
  intro n
  induction n with
  | zero => intro v1 v2 v3 v4 v5 v6 σ h; rw [f12_ask_L51] at h; cases h
  | succ n ih =>
    intro v1 v2 v3 v4 v5 v6 σ h
    rw [f12_ask_L51] at h
    refine z_iload C dX12_ask_51 rfl ?_
    refine z_bipush (v := 8) C dX12_ask_53 (by decide) ?_
    refine z_icmp_ge (tgt := 118) C dX12_ask_55 (by decide) (fun hc => ?_) (fun hc => ?_)
    · replace h := z_neg hc h
      refine z_iload C dX12_ask_118 rfl ?_
      exact z_iret C h dX12_ask_120
    · replace h := z_pos hc h
      refine z_aload_n C dX12_ask_58 rfl rfl ?_
      refine z_iload_n C dX12_ask_59 rfl rfl ?_
      refine z_iload_n C dX12_ask_60 rfl rfl ?_
      refine z_iload C dX12_ask_61 rfl ?_
      obtain ⟨r1, σ2, mσ2, h⟩ := z_bnd2 h
      refine z_cvi (As := [.int v1, .int v2, .int v6]) (c := 0) (st := []) C (t12_fitsWith v1 v2 v6 mσ2) kvX12_fitsWith rfl mlX12_465 z_CF12 rfl rfl (by decide) rfl (Nat.le_of_ble_eq_true rfl) dX12_ask_63 ?_
      refine z_istore (lo' := [some (.ref (z_a X 0)), some (.int v1), some (.int v2), some (.int v3), some (.int v4), some (.int v5), some (.int v6), some (.int r1), none]) C dX12_ask_66 (Nat.le_of_ble_eq_true rfl) rfl ?_
      refine z_aload_n C dX12_ask_68 rfl rfl ?_
      refine z_iload C dX12_ask_69 rfl ?_
      refine z_iload_n C dX12_ask_71 rfl rfl ?_
      refine z_iload C dX12_ask_72 rfl ?_
      refine z_isub C dX12_ask_74 ?_
      obtain ⟨r3, σ4, mσ4, h⟩ := z_bnd2 h
      refine z_cvi (As := [.int r1, .int (v3 - r1)]) (c := 0) (st := []) C (t12_greater r1 (v3 - r1) mσ4) kvX12_greater rfl mlX12_380 z_CF12 rfl rfl (by decide) rfl (Nat.le_of_ble_eq_true rfl) dX12_ask_75 ?_
      refine z_istore (lo' := [some (.ref (z_a X 0)), some (.int v1), some (.int v2), some (.int v3), some (.int v4), some (.int v5), some (.int v6), some (.int r1), some (.int r3)]) C dX12_ask_78 (Nat.le_of_ble_eq_true rfl) rfl ?_
      refine z_iload C dX12_ask_80 rfl ?_
      refine z_iload C dX12_ask_82 rfl ?_
      refine z_icmp_ge (tgt := 92) C dX12_ask_84 (by decide) (fun hc => ?_) (fun hc => ?_)
      · replace h := z_neg hc h
        refine z_iload C dX12_ask_92 rfl ?_
        refine z_kill (lo' := [some (.ref (z_a X 0)), some (.int v1), some (.int v2), some (.int v3), none, some (.int v5), some (.int v6), none, some (.int r3)]) [4, 7] rfl ?_
        exact t12_ask_J94 C ih v1 v2 v3 v5 v6 r3 v4 σ4 h
      · replace h := z_pos hc h
        refine z_iload C dX12_ask_87 rfl ?_
        refine z_goto (tgt := 94) C dX12_ask_89 (by decide) ?_
        refine z_kill (lo' := [some (.ref (z_a X 0)), some (.int v1), some (.int v2), some (.int v3), none, some (.int v5), some (.int v6), none, some (.int r3)]) [4, 7] rfl ?_
        exact t12_ask_J94 C ih v1 v2 v3 v5 v6 r3 v6 σ4 h
set_option maxHeartbeats 4000000 in
set_option maxRecDepth 100000 in
theorem t12_ask {a : Nat → Nat} (p1 : Int32) (p2 : Int32) {σ : z_M} {u : Int32 × z_M} (h : f12_ask p1 p2 σ = some u) : z_Mt yX12_ask (z_w yX12_ask cX12_ask 9 (some .int)) 4 S2 a σ [.ref (a 0), .int p1, .int p2] (z_oi u) := by
  refine z_head (lo := [some (.ref (a 0)), some (.int p1), some (.int p2), none, none, none, none, none, none]) (by decide) (Nat.le_of_ble_eq_true rfl) ?_ rfl ?_
  · intro i v hv
    exact z_loe (vs := [.ref (a 0), .int p1, .int p2]) (n := 6) rfl (by simp [z_c1i, z_c1r]) i v hv
  · intro X hXa C
    subst hXa
    unfold f12_ask at h
    refine z_aload_n C dX12_ask_0 rfl rfl ?_
    refine z_iconst (v := 0) C dX12_ask_1 (by decide) ?_
    obtain ⟨σ1, eσ1, h⟩ := z_let_some h
    refine z_puti (k := 0) C z_CF12 (by decide) flX12_113 rfl rfl rfl rfl eσ1 dX12_ask_2 ?_
    refine z_aload_n C dX12_ask_5 rfl rfl ?_
    refine z_iload_n C dX12_ask_6 rfl rfl ?_
    obtain ⟨r2, σ3, mσ3, h⟩ := z_bnd2 h
    refine z_cvi (As := [.int p1]) (c := 0) (st := []) C (t12_isHouse p1 mσ3) kvX12_isHouse rfl mlX12_156 z_CF12 rfl rfl (by decide) rfl (Nat.le_of_ble_eq_true rfl) dX12_ask_7 ?_
    refine z_if_eq (tgt := 23) C dX12_ask_10 (by decide) (fun hc => ?_) (fun hc => ?_)
    · replace h := z_pos hc h
      refine z_iconst (v := (-1)) C dX12_ask_23 (by decide) ?_
      exact z_iret C h dX12_ask_24
    · replace h := z_neg hc h
      refine z_aload_n C dX12_ask_13 rfl rfl ?_
      refine z_iload_n C dX12_ask_14 rfl rfl ?_
      refine z_iconst (v := 0) C dX12_ask_15 (by decide) ?_
      refine z_iconst (v := 3) C dX12_ask_16 (by decide) ?_
      obtain ⟨r4, σ5, mσ5, h⟩ := z_bnd2 h
      refine z_cvi (As := [.int p2, .int 0, .int 3]) (c := 0) (st := []) C (t12_isIn p2 0 3 mσ5) kvX12_isIn rfl mlX12_142 z_CF12 rfl rfl (by decide) rfl (Nat.le_of_ble_eq_true rfl) dX12_ask_17 ?_
      refine z_if_ne (tgt := 25) C dX12_ask_20 (by decide) (fun hc => ?_) (fun hc => ?_)
      · replace h := z_neg hc h
        refine z_aload_n C dX12_ask_25 rfl rfl ?_
        refine z_iload_n C dX12_ask_26 rfl rfl ?_
        refine z_iload_n C dX12_ask_27 rfl rfl ?_
        refine z_iconst (v := (-1)) C dX12_ask_28 (by decide) ?_
        obtain ⟨r6, σ7, mσ7, h⟩ := z_bnd2 h
        refine z_cvi (As := [.int p1, .int p2, .int (-1)]) (c := 0) (st := []) C (t12_fitsWith p1 p2 (-1) mσ7) kvX12_fitsWith rfl mlX12_465 z_CF12 rfl rfl (by decide) rfl (Nat.le_of_ble_eq_true rfl) dX12_ask_29 ?_
        refine z_istore_n (lo' := [some (.ref (z_a X 0)), some (.int p1), some (.int p2), some (.int r6), none, none, none, none, none]) C dX12_ask_32 rfl (Nat.le_of_ble_eq_true rfl) rfl ?_
        refine z_iload_n C dX12_ask_33 rfl rfl ?_
        refine z_iconst (v := 2) C dX12_ask_34 (by decide) ?_
        refine z_icmp_ge (tgt := 40) C dX12_ask_35 (by decide) (fun hc => ?_) (fun hc => ?_)
        · replace h := z_neg hc h
          refine z_iconst (v := (-1)) C dX12_ask_40 (by decide) ?_
          refine z_istore (lo' := [some (.ref (z_a X 0)), some (.int p1), some (.int p2), some (.int r6), some (.int (-1)), none, none, none, none]) C dX12_ask_41 (Nat.le_of_ble_eq_true rfl) rfl ?_
          refine z_ldcw (v := 100000) C dX12_ask_43 cnX12_449 ?_
          refine z_istore (lo' := [some (.ref (z_a X 0)), some (.int p1), some (.int p2), some (.int r6), some (.int (-1)), some (.int 100000), none, none, none]) C dX12_ask_46 (Nat.le_of_ble_eq_true rfl) rfl ?_
          refine z_iconst (v := 0) C dX12_ask_48 (by decide) ?_
          refine z_istore (lo' := [some (.ref (z_a X 0)), some (.int p1), some (.int p2), some (.int r6), some (.int (-1)), some (.int 100000), some (.int 0), none, none]) C dX12_ask_49 (Nat.le_of_ble_eq_true rfl) rfl ?_
          exact t12_ask_L51 C _ p1 p2 r6 (-1) 100000 0 σ7 h
        · replace h := z_pos hc h
          refine z_iconst (v := (-1)) C dX12_ask_38 (by decide) ?_
          exact z_iret C h dX12_ask_39
      · replace h := z_pos hc h
        refine z_iconst (v := (-1)) C dX12_ask_23 (by decide) ?_
        exact z_iret C h dX12_ask_24
set_option maxHeartbeats 4000000 in
set_option maxRecDepth 100000 in
theorem t12_livesBy_J188 {X : z_Ct} (C : z_Cx S2 X RX12 cX12_livesBy 9 6 (some .boolean)) {u : Int32 × z_M} (v5 : Int32) (σ : z_M) (h : f12_livesBy_J188 v5 σ = some u) : z_W S2 X 188 [some (.ref (z_a X 0)), none, none, none, none, some (.int v5), none, none, none] [] σ (z_oi u) := by
  unfold f12_livesBy_J188 at h
  refine z_aload_n C dX12_livesBy_188 rfl rfl ?_
  obtain ⟨⟨⟩, σ2, mσ2, h⟩ := z_bnd2 h
  refine z_cvv (As := []) (c := 0) (st := []) C (t12_thinksAnew mσ2) kvX12_thinksAnew rfl mlX12_123 z_CF12 rfl rfl (by decide) rfl (Nat.le_of_ble_eq_true rfl) dX12_livesBy_189 ?_
  refine z_iload C dX12_livesBy_192 rfl ?_
  obtain ⟨b3, h⟩ := z_chk_some h
  exact z_zret C b3 h dX12_livesBy_194
set_option maxHeartbeats 4000000 in
set_option maxRecDepth 100000 in
theorem t12_livesBy_L17 {X : z_Ct} (C : z_Cx S2 X RX12 cX12_livesBy 9 6 (some .boolean)) {u : Int32 × z_M} : ∀ (n : Nat) (v1 : Int32) (v2 : Int32) (v3 : Int32) (v4 : Int32) (v5 : Int32) (v6 : Int32) (σ : z_M), f12_livesBy_L17 n v1 v2 v3 v4 v5 v6 σ = some u → z_W S2 X 17 [some (.ref (z_a X 0)), some (.int v1), some (.int v2), some (.int v3), some (.int v4), some (.int v5), some (.int v6), none, none] [] σ (z_oi u) := by
  intro n
  induction n with
  | zero => intro v1 v2 v3 v4 v5 v6 σ h; rw [f12_livesBy_L17] at h; cases h
  | succ n ih =>
    intro v1 v2 v3 v4 v5 v6 σ h
    rw [f12_livesBy_L17] at h
    refine z_iload C dX12_livesBy_17 rfl ?_
    refine z_iload_n C dX12_livesBy_19 rfl rfl ?_
    refine z_icmp_ge (tgt := 188) C dX12_livesBy_20 (by decide) (fun hc => ?_) (fun hc => ?_)
    · replace h := z_neg hc h
      refine z_kill (lo' := [some (.ref (z_a X 0)), none, none, none, none, some (.int v5), none, none, none]) [1, 2, 3, 4, 6] rfl ?_
      exact t12_livesBy_J188 C v5 σ h
    · replace h := z_pos hc h
      refine z_iload C dX12_livesBy_23 rfl ?_
      refine z_if_eq (tgt := 188) C dX12_livesBy_25 (by decide) (fun hc => ?_) (fun hc => ?_)
      · replace h := z_pos hc h
        refine z_kill (lo' := [some (.ref (z_a X 0)), none, none, none, none, some (.int v5), none, none, none]) [1, 2, 3, 4, 6] rfl ?_
        exact t12_livesBy_J188 C v5 σ h
      · replace h := z_neg hc h
        refine z_aload_n C dX12_livesBy_28 rfl rfl ?_
        refine z_geta (k := 1) (q := 1) C z_CF12 (by decide) flX12_7 rfl rfl dX12_livesBy_29 ?_
        refine z_bipush (v := 92) C dX12_livesBy_32 (by decide) ?_
        refine z_iload_n C dX12_livesBy_34 rfl rfl ?_
        refine z_iadd C dX12_livesBy_35 ?_
        refine z_aload_n C dX12_livesBy_36 rfl rfl ?_
        refine z_aload_n C dX12_livesBy_37 rfl rfl ?_
        refine z_geta (k := 1) (q := 1) C z_CF12 (by decide) flX12_7 rfl rfl dX12_livesBy_38 ?_
        refine z_bipush (v := 92) C dX12_livesBy_41 (by decide) ?_
        refine z_iload_n C dX12_livesBy_43 rfl rfl ?_
        refine z_iadd C dX12_livesBy_44 ?_
        obtain ⟨b1, h⟩ := z_chk_some h
        refine z_iald C rfl rfl b1 dX12_livesBy_45 ?_
        refine z_iload_n C dX12_livesBy_46 rfl rfl ?_
        refine z_iadd C dX12_livesBy_47 ?_
        refine z_iconst (v := 0) C dX12_livesBy_48 (by decide) ?_
        refine z_bipush (v := 99) C dX12_livesBy_49 (by decide) ?_
        obtain ⟨r2, σ3, mσ3, h⟩ := z_bnd2 h
        refine z_cvi (As := [.int ((σ 1 (z_ix (92 + v1))) + v3), .int 0, .int 99]) (c := 0) (st := [.int (92 + v1), .ref (z_a X 1)]) C (t12_held ((σ 1 (z_ix (92 + v1))) + v3) 0 99 mσ3) kvX12_held rfl mlX12_336 z_CF12 rfl rfl (by decide) rfl (Nat.le_of_ble_eq_true rfl) dX12_livesBy_51 ?_
        obtain ⟨b4, h⟩ := z_chk_some h
        obtain ⟨σ5, eσ5, h⟩ := z_let_some h
        refine z_iast C rfl rfl b4 eσ5 dX12_livesBy_54 ?_
        refine z_aload_n C dX12_livesBy_55 rfl rfl ?_
        refine z_iload_n C dX12_livesBy_56 rfl rfl ?_
        obtain ⟨⟨⟩, σ7, mσ7, h⟩ := z_bnd2 h
        refine z_cvv (As := [.int v1]) (c := 0) (st := []) C (t12_asks v1 mσ7) kvX12_asks rfl mlX12_371 z_CF12 rfl rfl (by decide) rfl (Nat.le_of_ble_eq_true rfl) dX12_livesBy_57 ?_
        refine z_aload_n C dX12_livesBy_60 rfl rfl ?_
        refine z_geta (k := 42) (q := 20) C z_CF12 (by decide) flX12_71 rfl rfl dX12_livesBy_61 ?_
        refine z_bipush (v := 6) C dX12_livesBy_64 (by decide) ?_
        refine z_iload C dX12_livesBy_66 rfl ?_
        obtain ⟨b8, h⟩ := z_chk_some h
        obtain ⟨σ9, eσ9, h⟩ := z_let_some h
        refine z_iast C rfl rfl b8 eσ9 dX12_livesBy_68 ?_
        refine z_aload_n C dX12_livesBy_69 rfl rfl ?_
        obtain ⟨r10, σ11, mσ11, h⟩ := z_bnd2 h
        refine z_cvi (As := []) (c := 0) (st := []) C (t12_lowerAsked mσ11) kvX12_lowerAsked rfl mlX12_374 z_CF12 rfl rfl (by decide) rfl (Nat.le_of_ble_eq_true rfl) dX12_livesBy_70 ?_
        refine z_istore (lo' := [some (.ref (z_a X 0)), some (.int v1), some (.int v2), some (.int v3), some (.int v4), some (.int v5), some (.int v6), some (.int r10), none]) C dX12_livesBy_73 (Nat.le_of_ble_eq_true rfl) rfl ?_
        refine z_aload_n C dX12_livesBy_75 rfl rfl ?_
        obtain ⟨r12, σ13, mσ13, h⟩ := z_bnd2 h
        refine z_cvi (As := []) (c := 0) (st := []) C (t12_growAsked mσ13) kvX12_growAsked rfl mlX12_377 z_CF12 rfl rfl (by decide) rfl (Nat.le_of_ble_eq_true rfl) dX12_livesBy_76 ?_
        refine z_istore (lo' := [some (.ref (z_a X 0)), some (.int v1), some (.int v2), some (.int v3), some (.int v4), some (.int v5), some (.int v6), some (.int r10), some (.int r12)]) C dX12_livesBy_79 (Nat.le_of_ble_eq_true rfl) rfl ?_
        refine z_aload_n C dX12_livesBy_81 rfl rfl ?_
        refine z_iload_n C dX12_livesBy_82 rfl rfl ?_
        refine z_aload_n C dX12_livesBy_83 rfl rfl ?_
        refine z_iload_n C dX12_livesBy_84 rfl rfl ?_
        obtain ⟨r14, σ15, mσ15, h⟩ := z_bnd2 h
        refine z_cvi (As := [.int v1]) (c := 0) (st := [.int v1, .ref (z_a X 0)]) C (t12_potOf v1 mσ15) kvX12_potOf rfl mlX12_324 z_CF12 rfl rfl (by decide) rfl (Nat.le_of_ble_eq_true rfl) dX12_livesBy_85 ?_
        refine z_aload_n C dX12_livesBy_88 rfl rfl ?_
        refine z_iconst (v := 0) C dX12_livesBy_89 (by decide) ?_
        refine z_aload_n C dX12_livesBy_90 rfl rfl ?_
        refine z_iload_n C dX12_livesBy_91 rfl rfl ?_
        refine z_aload_n C dX12_livesBy_92 rfl rfl ?_
        refine z_iload_n C dX12_livesBy_93 rfl rfl ?_
        obtain ⟨r16, σ17, mσ17, h⟩ := z_bnd2 h
        refine z_cvi (As := [.int v1]) (c := 0) (st := [.int v1, .ref (z_a X 0), .int 0, .ref (z_a X 0), .int r14, .int v1, .ref (z_a X 0)]) C (t12_potOf v1 mσ17) kvX12_potOf rfl mlX12_324 z_CF12 rfl rfl (by decide) rfl (Nat.le_of_ble_eq_true rfl) dX12_livesBy_94 ?_
        obtain ⟨r18, σ19, mσ19, h⟩ := z_bnd2 h
        refine z_cvi (As := [.int v1, .int r16]) (c := 0) (st := [.int 0, .ref (z_a X 0), .int r14, .int v1, .ref (z_a X 0)]) C (t12_degreeOf v1 r16 mσ19) kvX12_degreeOf rfl mlX12_134 z_CF12 rfl rfl (by decide) rfl (Nat.le_of_ble_eq_true rfl) dX12_livesBy_97 ?_
        refine z_iload C dX12_livesBy_100 rfl ?_
        refine z_isub C dX12_livesBy_102 ?_
        obtain ⟨r20, σ21, mσ21, h⟩ := z_bnd2 h
        refine z_cvi (As := [.int 0, .int (r18 - r10)]) (c := 0) (st := [.int r14, .int v1, .ref (z_a X 0)]) C (t12_greater 0 (r18 - r10) mσ21) kvX12_greater rfl mlX12_380 z_CF12 rfl rfl (by decide) rfl (Nat.le_of_ble_eq_true rfl) dX12_livesBy_103 ?_
        obtain ⟨⟨⟩, σ23, mσ23, h⟩ := z_bnd2 h
        refine z_cvv (As := [.int v1, .int r14, .int r20]) (c := 0) (st := []) C (t12_degreeBe v1 r14 r20 mσ23) kvX12_degreeBe rfl mlX12_138 z_CF12 rfl rfl (by decide) rfl (Nat.le_of_ble_eq_true rfl) dX12_livesBy_106 ?_
        refine z_aload_n C dX12_livesBy_109 rfl rfl ?_
        refine z_geta (k := 1) (q := 1) C z_CF12 (by decide) flX12_7 rfl rfl dX12_livesBy_110 ?_
        refine z_bipush (v := 76) C dX12_livesBy_113 (by decide) ?_
        refine z_iload_n C dX12_livesBy_115 rfl rfl ?_
        refine z_iadd C dX12_livesBy_116 ?_
        refine z_aload_n C dX12_livesBy_117 rfl rfl ?_
        refine z_aload_n C dX12_livesBy_118 rfl rfl ?_
        refine z_geta (k := 1) (q := 1) C z_CF12 (by decide) flX12_7 rfl rfl dX12_livesBy_119 ?_
        refine z_bipush (v := 76) C dX12_livesBy_122 (by decide) ?_
        refine z_iload_n C dX12_livesBy_124 rfl rfl ?_
        refine z_iadd C dX12_livesBy_125 ?_
        obtain ⟨b24, h⟩ := z_chk_some h
        refine z_iald C rfl rfl b24 dX12_livesBy_126 ?_
        refine z_iload C dX12_livesBy_127 rfl ?_
        refine z_iadd C dX12_livesBy_129 ?_
        refine z_bipush (v := (-99)) C dX12_livesBy_130 (by decide) ?_
        refine z_bipush (v := 99) C dX12_livesBy_132 (by decide) ?_
        obtain ⟨r25, σ26, mσ26, h⟩ := z_bnd2 h
        refine z_cvi (As := [.int ((σ23 1 (z_ix (76 + v1))) + r12), .int (-99), .int 99]) (c := 0) (st := [.int (76 + v1), .ref (z_a X 1)]) C (t12_held ((σ23 1 (z_ix (76 + v1))) + r12) (-99) 99 mσ26) kvX12_held rfl mlX12_336 z_CF12 rfl rfl (by decide) rfl (Nat.le_of_ble_eq_true rfl) dX12_livesBy_134 ?_
        obtain ⟨b27, h⟩ := z_chk_some h
        obtain ⟨σ28, eσ28, h⟩ := z_let_some h
        refine z_iast C rfl rfl b27 eσ28 dX12_livesBy_137 ?_
        refine z_aload_n C dX12_livesBy_138 rfl rfl ?_
        refine z_geta (k := 1) (q := 1) C z_CF12 (by decide) flX12_7 rfl rfl dX12_livesBy_139 ?_
        refine z_bipush (v := 92) C dX12_livesBy_142 (by decide) ?_
        refine z_iload_n C dX12_livesBy_144 rfl rfl ?_
        refine z_iadd C dX12_livesBy_145 ?_
        refine z_iconst (v := 0) C dX12_livesBy_146 (by decide) ?_
        obtain ⟨b29, h⟩ := z_chk_some h
        obtain ⟨σ30, eσ30, h⟩ := z_let_some h
        refine z_iast C rfl rfl b29 eσ30 dX12_livesBy_147 ?_
        refine z_aload_n C dX12_livesBy_148 rfl rfl ?_
        refine z_geta (k := 1) (q := 1) C z_CF12 (by decide) flX12_7 rfl rfl dX12_livesBy_149 ?_
        refine z_iconst (v := 0) C dX12_livesBy_152 (by decide) ?_
        refine z_aload_n C dX12_livesBy_153 rfl rfl ?_
        refine z_geta (k := 1) (q := 1) C z_CF12 (by decide) flX12_7 rfl rfl dX12_livesBy_154 ?_
        refine z_iconst (v := 0) C dX12_livesBy_157 (by decide) ?_
        obtain ⟨b31, h⟩ := z_chk_some h
        refine z_iald C rfl rfl b31 dX12_livesBy_158 ?_
        refine z_iconst (v := 1) C dX12_livesBy_159 (by decide) ?_
        refine z_iadd C dX12_livesBy_160 ?_
        obtain ⟨b32, h⟩ := z_chk_some h
        obtain ⟨σ33, eσ33, h⟩ := z_let_some h
        refine z_iast C rfl rfl b32 eσ33 dX12_livesBy_161 ?_
        refine z_aload_n C dX12_livesBy_162 rfl rfl ?_
        refine z_geta (k := 1) (q := 1) C z_CF12 (by decide) flX12_7 rfl rfl dX12_livesBy_163 ?_
        refine z_bipush (v := 76) C dX12_livesBy_166 (by decide) ?_
        refine z_iload_n C dX12_livesBy_168 rfl rfl ?_
        refine z_iadd C dX12_livesBy_169 ?_
        obtain ⟨b34, h⟩ := z_chk_some h
        refine z_iald C rfl rfl b34 dX12_livesBy_170 ?_
        refine z_iconst (v := 1) C dX12_livesBy_171 (by decide) ?_
        refine z_icmp_lt (tgt := 179) C dX12_livesBy_172 (by decide) (fun hc => ?_) (fun hc => ?_)
        · replace h := z_pos hc h
          refine z_iconst (v := 0) C dX12_livesBy_179 (by decide) ?_
          refine z_istore (lo' := [some (.ref (z_a X 0)), some (.int v1), some (.int v2), some (.int v3), some (.int v4), some (.int 0), some (.int v6), some (.int r10), some (.int r12)]) C dX12_livesBy_180 (Nat.le_of_ble_eq_true rfl) rfl ?_
          refine z_iinc (v := v6 + 1) (lo' := [some (.ref (z_a X 0)), some (.int v1), some (.int v2), some (.int v3), some (.int v4), some (.int 0), some (.int (v6 + 1)), some (.int r10), some (.int r12)]) C dX12_livesBy_182 rfl rfl rfl ?_
          refine z_goto (tgt := 17) C dX12_livesBy_185 (by decide) ?_
          refine z_kill (lo' := [some (.ref (z_a X 0)), some (.int v1), some (.int v2), some (.int v3), some (.int v4), some (.int 0), some (.int (v6 + 1)), none, none]) [7, 8] rfl ?_
          exact ih v1 v2 v3 v4 0 (v6 + 1) σ33 h
        · replace h := z_neg hc h
          refine z_iconst (v := 1) C dX12_livesBy_175 (by decide) ?_
          refine z_goto (tgt := 180) C dX12_livesBy_176 (by decide) ?_
          refine z_istore (lo' := [some (.ref (z_a X 0)), some (.int v1), some (.int v2), some (.int v3), some (.int v4), some (.int 1), some (.int v6), some (.int r10), some (.int r12)]) C dX12_livesBy_180 (Nat.le_of_ble_eq_true rfl) rfl ?_
          refine z_iinc (v := v6 + 1) (lo' := [some (.ref (z_a X 0)), some (.int v1), some (.int v2), some (.int v3), some (.int v4), some (.int 1), some (.int (v6 + 1)), some (.int r10), some (.int r12)]) C dX12_livesBy_182 rfl rfl rfl ?_
          refine z_goto (tgt := 17) C dX12_livesBy_185 (by decide) ?_
          refine z_kill (lo' := [some (.ref (z_a X 0)), some (.int v1), some (.int v2), some (.int v3), some (.int v4), some (.int 1), some (.int (v6 + 1)), none, none]) [7, 8] rfl ?_
          exact ih v1 v2 v3 v4 1 (v6 + 1) σ33 h
set_option maxHeartbeats 4000000 in
set_option maxRecDepth 100000 in
theorem t12_livesBy {a : Nat → Nat} (p1 : Int32) (p2 : Int32) (p3 : Int32) {σ : z_M} {u : Int32 × z_M} (h : f12_livesBy p1 p2 p3 σ = some u) : z_Mt yX12_livesBy (z_w yX12_livesBy cX12_livesBy 9 (some .boolean)) 6 S2 a σ [.ref (a 0), .int p1, .int p2, .int p3] (z_oi u) := by
  refine z_head (lo := [some (.ref (a 0)), some (.int p1), some (.int p2), some (.int p3), none, none, none, none, none]) (by decide) (Nat.le_of_ble_eq_true rfl) ?_ rfl ?_
  · intro i v hv
    exact z_loe (vs := [.ref (a 0), .int p1, .int p2, .int p3]) (n := 5) rfl (by simp [z_c1i, z_c1r]) i v hv
  · intro X hXa C
    subst hXa
    unfold f12_livesBy at h
    refine z_aload_n C dX12_livesBy_0 rfl rfl ?_
    refine z_aload_n C dX12_livesBy_1 rfl rfl ?_
    refine z_iload_n C dX12_livesBy_2 rfl rfl ?_
    obtain ⟨r1, σ2, mσ2, h⟩ := z_bnd2 h
    refine z_cvi (As := [.int p1]) (c := 0) (st := [.ref (z_a X 0)]) C (t12_suresOf p1 mσ2) kvX12_suresOf rfl mlX12_327 z_CF12 rfl rfl (by decide) rfl (Nat.le_of_ble_eq_true rfl) dX12_livesBy_3 ?_
    obtain ⟨r3, σ4, mσ4, h⟩ := z_bnd2 h
    refine z_cvi (As := [.int r1]) (c := 0) (st := []) C (t12_onesOf r1 mσ4) kvX12_onesOf rfl mlX12_330 z_CF12 rfl rfl (by decide) rfl (Nat.le_of_ble_eq_true rfl) dX12_livesBy_6 ?_
    refine z_istore (lo' := [some (.ref (z_a X 0)), some (.int p1), some (.int p2), some (.int p3), some (.int r3), none, none, none, none]) C dX12_livesBy_9 (Nat.le_of_ble_eq_true rfl) rfl ?_
    refine z_iconst (v := 1) C dX12_livesBy_11 (by decide) ?_
    refine z_istore (lo' := [some (.ref (z_a X 0)), some (.int p1), some (.int p2), some (.int p3), some (.int r3), some (.int 1), none, none, none]) C dX12_livesBy_12 (Nat.le_of_ble_eq_true rfl) rfl ?_
    refine z_iconst (v := 0) C dX12_livesBy_14 (by decide) ?_
    refine z_istore (lo' := [some (.ref (z_a X 0)), some (.int p1), some (.int p2), some (.int p3), some (.int r3), some (.int 1), some (.int 0), none, none]) C dX12_livesBy_15 (Nat.le_of_ble_eq_true rfl) rfl ?_
    exact t12_livesBy_L17 C _ p1 p2 p3 r3 1 0 σ4 h
set_option maxHeartbeats 4000000 in
set_option maxRecDepth 100000 in
theorem t12_waters_J99 {X : z_Ct} (C : z_Cx S2 X RX12 cX12_waters 7 7 (some .int)) {u : Int32 × z_M} (v3 : Int32) (v4 : Int32) (v5 : Int32) (σ : z_M) (h : f12_waters_J99 v3 v4 v5 σ = some u) : z_W S2 X 99 [some (.ref (z_a X 0)), none, none, some (.int v3), some (.int v4), some (.int v5), none] [] σ (z_oi u) := by
  unfold f12_waters_J99 at h
  refine z_aload_n C dX12_waters_99 rfl rfl ?_
  obtain ⟨⟨⟩, σ2, mσ2, h⟩ := z_bnd2 h
  refine z_cvv (As := []) (c := 0) (st := []) C (t12_endsThought mσ2) kvX12_endsThought rfl mlX12_425 z_CF12 rfl rfl (by decide) rfl (Nat.le_of_ble_eq_true rfl) dX12_waters_100 ?_
  refine z_iload_n C dX12_waters_103 rfl rfl ?_
  refine z_if_ne (tgt := 112) C dX12_waters_104 (by decide) (fun hc => ?_) (fun hc => ?_)
  · replace h := z_neg hc h
    refine z_iload C dX12_waters_112 rfl ?_
    exact z_iret C h dX12_waters_114
  · replace h := z_pos hc h
    refine z_iload C dX12_waters_107 rfl ?_
    refine z_goto (tgt := 114) C dX12_waters_109 (by decide) ?_
    exact z_iret C h dX12_waters_114
set_option maxHeartbeats 4000000 in
set_option maxRecDepth 100000 in
theorem t12_waters_J89 {X : z_Ct} (C : z_Cx S2 X RX12 cX12_waters 7 7 (some .int)) {u : Int32 × z_M} {k58 : Int32 → Int32 → Int32 → Int32 → Int32 → Int32 → z_M → Option (Int32 × z_M)} (hr58 : ∀ (v1 : Int32) (v2 : Int32) (v3 : Int32) (v4 : Int32) (v5 : Int32) (v6 : Int32) (σ : z_M), k58 v1 v2 v3 v4 v5 v6 σ = some u → z_W S2 X 58 [some (.ref (z_a X 0)), some (.int v1), some (.int v2), some (.int v3), some (.int v4), some (.int v5), some (.int v6)] [] σ (z_oi u)) (v1 : Int32) (v2 : Int32) (v3 : Int32) (v4 : Int32) (v6 : Int32) (σ : z_M) (h : f12_waters_J89 k58 v1 v2 v3 v4 v6 σ = some u) : z_W S2 X 89 [some (.ref (z_a X 0)), some (.int v1), some (.int v2), some (.int v3), some (.int v4), none, some (.int v6)] [] σ (z_oi u) := by
  unfold f12_waters_J89 at h
  refine z_iload C dX12_waters_89 rfl ?_
  refine z_istore (lo' := [some (.ref (z_a X 0)), some (.int v1), some (.int v2), some (.int v3), some (.int v4), some (.int v6), some (.int v6)]) C dX12_waters_91 (Nat.le_of_ble_eq_true rfl) rfl ?_
  refine z_iinc (v := v6 + 1) (lo' := [some (.ref (z_a X 0)), some (.int v1), some (.int v2), some (.int v3), some (.int v4), some (.int v6), some (.int (v6 + 1))]) C dX12_waters_93 rfl rfl rfl ?_
  refine z_goto (tgt := 58) C dX12_waters_96 (by decide) ?_
  exact hr58 v1 v2 v3 v4 v6 (v6 + 1) σ h
set_option maxHeartbeats 4000000 in
set_option maxRecDepth 100000 in
theorem t12_waters_L58 {X : z_Ct} (C : z_Cx S2 X RX12 cX12_waters 7 7 (some .int)) {u : Int32 × z_M} : ∀ (n : Nat) (v1 : Int32) (v2 : Int32) (v3 : Int32) (v4 : Int32) (v5 : Int32) (v6 : Int32) (σ : z_M), f12_waters_L58 n v1 v2 v3 v4 v5 v6 σ = some u → z_W S2 X 58 [some (.ref (z_a X 0)), some (.int v1), some (.int v2), some (.int v3), some (.int v4), some (.int v5), some (.int v6)] [] σ (z_oi u) := by
  intro n
  induction n with
  | zero => intro v1 v2 v3 v4 v5 v6 σ h; rw [f12_waters_L58] at h; cases h
  | succ n ih =>
    intro v1 v2 v3 v4 v5 v6 σ h
    rw [f12_waters_L58] at h
    refine z_iload C dX12_waters_58 rfl ?_
    refine z_bipush (v := 40) C dX12_waters_60 (by decide) ?_
    refine z_icmp_gt (tgt := 99) C dX12_waters_62 (by decide) (fun hc => ?_) (fun hc => ?_)
    · replace h := z_pos hc h
      refine z_kill (lo' := [some (.ref (z_a X 0)), none, none, some (.int v3), some (.int v4), some (.int v5), none]) [1, 2, 6] rfl ?_
      exact t12_waters_J99 C v3 v4 v5 σ h
    · replace h := z_neg hc h
      refine z_aload_n C dX12_waters_65 rfl rfl ?_
      refine z_iload_n C dX12_waters_66 rfl rfl ?_
      refine z_iload_n C dX12_waters_67 rfl rfl ?_
      refine z_iload C dX12_waters_68 rfl ?_
      obtain ⟨r1, σ2, mσ2, h⟩ := z_bnd2 h
      refine z_cvi (As := [.int v1, .int v2, .int v6]) (c := 0) (st := []) C (t12_livesBy v1 v2 v6 mσ2) kvX12_livesBy rfl mlX12_468 z_CF12 rfl rfl (by decide) rfl (Nat.le_of_ble_eq_true rfl) dX12_waters_70 ?_
      refine z_if_ne (tgt := 79) C dX12_waters_73 (by decide) (fun hc => ?_) (fun hc => ?_)
      · replace h := z_neg hc h
        refine z_iload C dX12_waters_79 rfl ?_
        refine z_iconst (v := (-1)) C dX12_waters_81 (by decide) ?_
        refine z_icmp_ne (tgt := 89) C dX12_waters_82 (by decide) (fun hc => ?_) (fun hc => ?_)
        · replace h := z_neg hc h
          refine z_kill (lo' := [some (.ref (z_a X 0)), some (.int v1), some (.int v2), some (.int v3), some (.int v4), none, some (.int v6)]) [5] rfl ?_
          exact t12_waters_J89 C ih v1 v2 v3 v4 v6 σ2 h
        · replace h := z_pos hc h
          refine z_iload C dX12_waters_85 rfl ?_
          refine z_istore (lo' := [some (.ref (z_a X 0)), some (.int v1), some (.int v2), some (.int v3), some (.int v6), some (.int v5), some (.int v6)]) C dX12_waters_87 (Nat.le_of_ble_eq_true rfl) rfl ?_
          refine z_kill (lo' := [some (.ref (z_a X 0)), some (.int v1), some (.int v2), some (.int v3), some (.int v6), none, some (.int v6)]) [5] rfl ?_
          exact t12_waters_J89 C ih v1 v2 v3 v6 v6 σ2 h
      · replace h := z_pos hc h
        refine z_goto (tgt := 93) C dX12_waters_76 (by decide) ?_
        refine z_iinc (v := v6 + 1) (lo' := [some (.ref (z_a X 0)), some (.int v1), some (.int v2), some (.int v3), some (.int v4), some (.int v5), some (.int (v6 + 1))]) C dX12_waters_93 rfl rfl rfl ?_
        refine z_goto (tgt := 58) C dX12_waters_96 (by decide) ?_
        exact ih v1 v2 v3 v4 v5 (v6 + 1) σ2 h
set_option maxHeartbeats 4000000 in
set_option maxRecDepth 100000 in
theorem t12_waters {a : Nat → Nat} (p1 : Int32) (p2 : Int32) (p3 : Int32) {σ : z_M} {u : Int32 × z_M} (h : f12_waters p1 p2 p3 σ = some u) : z_Mt yX12_waters (z_w yX12_waters cX12_waters 7 (some .int)) 7 S2 a σ [.ref (a 0), .int p1, .int p2, .int p3] (z_oi u) := by
  refine z_head (lo := [some (.ref (a 0)), some (.int p1), some (.int p2), some (.int p3), none, none, none]) (by decide) (Nat.le_of_ble_eq_true rfl) ?_ rfl ?_
  · intro i v hv
    exact z_loe (vs := [.ref (a 0), .int p1, .int p2, .int p3]) (n := 3) rfl (by simp [z_c1i, z_c1r]) i v hv
  · intro X hXa C
    subst hXa
    unfold f12_waters at h
    refine z_aload_n C dX12_waters_0 rfl rfl ?_
    refine z_iconst (v := 0) C dX12_waters_1 (by decide) ?_
    obtain ⟨σ1, eσ1, h⟩ := z_let_some h
    refine z_puti (k := 0) C z_CF12 (by decide) flX12_113 rfl rfl rfl rfl eσ1 dX12_waters_2 ?_
    refine z_aload_n C dX12_waters_5 rfl rfl ?_
    refine z_iload_n C dX12_waters_6 rfl rfl ?_
    obtain ⟨r2, σ3, mσ3, h⟩ := z_bnd2 h
    refine z_cvi (As := [.int p1]) (c := 0) (st := []) C (t12_isHouse p1 mσ3) kvX12_isHouse rfl mlX12_156 z_CF12 rfl rfl (by decide) rfl (Nat.le_of_ble_eq_true rfl) dX12_waters_7 ?_
    refine z_if_eq (tgt := 43) C dX12_waters_10 (by decide) (fun hc => ?_) (fun hc => ?_)
    · replace h := z_pos hc h
      refine z_iconst (v := (-1)) C dX12_waters_43 (by decide) ?_
      exact z_iret C h dX12_waters_44
    · replace h := z_neg hc h
      refine z_aload_n C dX12_waters_13 rfl rfl ?_
      refine z_iload_n C dX12_waters_14 rfl rfl ?_
      obtain ⟨r4, σ5, mσ5, h⟩ := z_bnd2 h
      refine z_cvi (As := [.int p1]) (c := 0) (st := []) C (t12_potOf p1 mσ5) kvX12_potOf rfl mlX12_324 z_CF12 rfl rfl (by decide) rfl (Nat.le_of_ble_eq_true rfl) dX12_waters_15 ?_
      refine z_iconst (v := (-1)) C dX12_waters_18 (by decide) ?_
      refine z_icmp_eq (tgt := 43) C dX12_waters_19 (by decide) (fun hc => ?_) (fun hc => ?_)
      · replace h := z_pos hc h
        refine z_iconst (v := (-1)) C dX12_waters_43 (by decide) ?_
        exact z_iret C h dX12_waters_44
      · replace h := z_neg hc h
        refine z_aload_n C dX12_waters_22 rfl rfl ?_
        refine z_iload_n C dX12_waters_23 rfl rfl ?_
        refine z_iconst (v := 1) C dX12_waters_24 (by decide) ?_
        refine z_bipush (v := 30) C dX12_waters_25 (by decide) ?_
        obtain ⟨r6, σ7, mσ7, h⟩ := z_bnd2 h
        refine z_cvi (As := [.int p2, .int 1, .int 30]) (c := 0) (st := []) C (t12_isIn p2 1 30 mσ7) kvX12_isIn rfl mlX12_142 z_CF12 rfl rfl (by decide) rfl (Nat.le_of_ble_eq_true rfl) dX12_waters_27 ?_
        refine z_if_eq (tgt := 43) C dX12_waters_30 (by decide) (fun hc => ?_) (fun hc => ?_)
        · replace h := z_pos hc h
          refine z_iconst (v := (-1)) C dX12_waters_43 (by decide) ?_
          exact z_iret C h dX12_waters_44
        · replace h := z_neg hc h
          refine z_aload_n C dX12_waters_33 rfl rfl ?_
          refine z_iload_n C dX12_waters_34 rfl rfl ?_
          refine z_iconst (v := 0) C dX12_waters_35 (by decide) ?_
          refine z_iconst (v := 1) C dX12_waters_36 (by decide) ?_
          obtain ⟨r8, σ9, mσ9, h⟩ := z_bnd2 h
          refine z_cvi (As := [.int p3, .int 0, .int 1]) (c := 0) (st := []) C (t12_isIn p3 0 1 mσ9) kvX12_isIn rfl mlX12_142 z_CF12 rfl rfl (by decide) rfl (Nat.le_of_ble_eq_true rfl) dX12_waters_37 ?_
          refine z_if_ne (tgt := 45) C dX12_waters_40 (by decide) (fun hc => ?_) (fun hc => ?_)
          · replace h := z_neg hc h
            refine z_iconst (v := (-1)) C dX12_waters_45 (by decide) ?_
            refine z_istore (lo' := [some (.ref (z_a X 0)), some (.int p1), some (.int p2), some (.int p3), some (.int (-1)), none, none]) C dX12_waters_46 (Nat.le_of_ble_eq_true rfl) rfl ?_
            refine z_iconst (v := (-1)) C dX12_waters_48 (by decide) ?_
            refine z_istore (lo' := [some (.ref (z_a X 0)), some (.int p1), some (.int p2), some (.int p3), some (.int (-1)), some (.int (-1)), none]) C dX12_waters_49 (Nat.le_of_ble_eq_true rfl) rfl ?_
            refine z_aload_n C dX12_waters_51 rfl rfl ?_
            obtain ⟨⟨⟩, σ11, mσ11, h⟩ := z_bnd2 h
            refine z_cvv (As := []) (c := 0) (st := []) C (t12_thinks mσ11) kvX12_thinks rfl mlX12_422 z_CF12 rfl rfl (by decide) rfl (Nat.le_of_ble_eq_true rfl) dX12_waters_52 ?_
            refine z_iconst (v := 0) C dX12_waters_55 (by decide) ?_
            refine z_istore (lo' := [some (.ref (z_a X 0)), some (.int p1), some (.int p2), some (.int p3), some (.int (-1)), some (.int (-1)), some (.int 0)]) C dX12_waters_56 (Nat.le_of_ble_eq_true rfl) rfl ?_
            exact t12_waters_L58 C _ p1 p2 p3 (-1) (-1) 0 σ11 h
          · replace h := z_pos hc h
            refine z_iconst (v := (-1)) C dX12_waters_43 (by decide) ?_
            exact z_iret C h dX12_waters_44
set_option maxHeartbeats 4000000 in
set_option maxRecDepth 100000 in
theorem t12_highOf {a : Nat → Nat} (p1 : Int32) {σ : z_M} {u : Int32 × z_M} (h : f12_highOf p1 σ = some u) : z_Mt yX12_highOf (z_w yX12_highOf cX12_highOf 2 (some .int)) 2 S2 a σ [.ref (a 0), .int p1] (z_oi u) := by
  refine z_head (lo := [some (.ref (a 0)), some (.int p1)]) (by decide) (Nat.le_of_ble_eq_true rfl) ?_ rfl ?_
  · intro i v hv
    exact z_loe (vs := [.ref (a 0), .int p1]) (n := 0) rfl (by simp [z_c1i, z_c1r]) i v hv
  · intro X hXa C
    subst hXa
    unfold f12_highOf at h
    refine z_aload_n C dX12_highOf_0 rfl rfl ?_
    refine z_iload_n C dX12_highOf_1 rfl rfl ?_
    obtain ⟨r1, σ2, mσ2, h⟩ := z_bnd2 h
    refine z_cvi (As := [.int p1]) (c := 0) (st := []) C (t12_potOf p1 mσ2) kvX12_potOf rfl mlX12_324 z_CF12 rfl rfl (by decide) rfl (Nat.le_of_ble_eq_true rfl) dX12_highOf_2 ?_
    refine z_iconst (v := (-1)) C dX12_highOf_5 (by decide) ?_
    refine z_icmp_ne (tgt := 13) C dX12_highOf_6 (by decide) (fun hc => ?_) (fun hc => ?_)
    · replace h := z_neg hc h
      refine z_aload_n C dX12_highOf_13 rfl rfl ?_
      refine z_geta (k := 1) (q := 1) C z_CF12 (by decide) flX12_7 rfl rfl dX12_highOf_14 ?_
      refine z_bipush (v := 76) C dX12_highOf_17 (by decide) ?_
      refine z_iload_n C dX12_highOf_19 rfl rfl ?_
      refine z_iadd C dX12_highOf_20 ?_
      obtain ⟨b3, h⟩ := z_chk_some h
      refine z_iald C rfl rfl b3 dX12_highOf_21 ?_
      exact z_iret C h dX12_highOf_22
    · replace h := z_pos hc h
      refine z_iconst (v := 0) C dX12_highOf_9 (by decide) ?_
      refine z_goto (tgt := 22) C dX12_highOf_10 (by decide) ?_
      exact z_iret C h dX12_highOf_22
set_option maxHeartbeats 4000000 in
set_option maxRecDepth 100000 in
theorem t12_game_J68 {X : z_Ct} (C : z_Cx S2 X RX12 cX12_game 4 3 (some .int)) {u : Int32 × z_M} (v1 : Int32) (v2 : Int32) (v3 : Int32) (σ : z_M) (h : f12_game_J68 v1 v2 v3 σ = some u) : z_W S2 X 68 [some (.ref (z_a X 0)), some (.int v1), some (.int v2), some (.int v3)] [] σ (z_oi u) := by
  unfold f12_game_J68 at h
  refine z_iload_n C dX12_game_68 rfl rfl ?_
  refine z_if_ne (tgt := 76) C dX12_game_69 (by decide) (fun hc => ?_) (fun hc => ?_)
  · replace h := z_neg hc h
    refine z_aload_n C dX12_game_76 rfl rfl ?_
    refine z_iload_n C dX12_game_77 rfl rfl ?_
    obtain ⟨r1, σ2, mσ2, h⟩ := z_bnd2 h
    refine z_cvi (As := [.int v3]) (c := 0) (st := []) C (t12_highOf v3 mσ2) kvX12_highOf rfl mlX12_471 z_CF12 rfl rfl (by decide) rfl (Nat.le_of_ble_eq_true rfl) dX12_game_78 ?_
    refine z_iload_n C dX12_game_81 rfl rfl ?_
    refine z_ixor C dX12_game_82 ?_
    exact z_iret C h dX12_game_83
  · replace h := z_pos hc h
    refine z_iload_n C dX12_game_72 rfl rfl ?_
    refine z_goto (tgt := 83) C dX12_game_73 (by decide) ?_
    exact z_iret C h dX12_game_83
set_option maxHeartbeats 4000000 in
set_option maxRecDepth 100000 in
theorem t12_game_L45 {X : z_Ct} (C : z_Cx S2 X RX12 cX12_game 4 3 (some .int)) {u : Int32 × z_M} : ∀ (n : Nat) (v1 : Int32) (v2 : Int32) (v3 : Int32) (σ : z_M), f12_game_L45 n v1 v2 v3 σ = some u → z_W S2 X 45 [some (.ref (z_a X 0)), some (.int v1), some (.int v2), some (.int v3)] [] σ (z_oi u) := by
  intro n
  induction n with
  | zero => intro v1 v2 v3 σ h; rw [f12_game_L45] at h; cases h
  | succ n ih =>
    intro v1 v2 v3 σ h
    rw [f12_game_L45] at h
    refine z_iload_n C dX12_game_45 rfl rfl ?_
    refine z_aload_n C dX12_game_46 rfl rfl ?_
    refine z_geti (k := 6) C z_CF12 (by decide) flX12_131 rfl rfl dX12_game_47 ?_
    refine z_icmp_ge (tgt := 90) C dX12_game_50 (by decide) (fun hc => ?_) (fun hc => ?_)
    · replace h := z_neg hc h
      refine z_iconst (v := (-1)) C dX12_game_90 (by decide) ?_
      exact z_iret C h dX12_game_91
    · replace h := z_pos hc h
      refine z_aload_n C dX12_game_53 rfl rfl ?_
      refine z_iload_n C dX12_game_54 rfl rfl ?_
      obtain ⟨r1, σ2, mσ2, h⟩ := z_bnd2 h
      refine z_cvi (As := [.int v3]) (c := 0) (st := []) C (t12_highOf v3 mσ2) kvX12_highOf rfl mlX12_471 z_CF12 rfl rfl (by decide) rfl (Nat.le_of_ble_eq_true rfl) dX12_game_55 ?_
      refine z_iload_n C dX12_game_58 rfl rfl ?_
      refine z_ixor C dX12_game_59 ?_
      refine z_aload_n C dX12_game_60 rfl rfl ?_
      refine z_iload_n C dX12_game_61 rfl rfl ?_
      obtain ⟨r3, σ4, mσ4, h⟩ := z_bnd2 h
      refine z_cvi (As := [.int v3]) (c := 0) (st := [.int (r1 ^^^ v2)]) C (t12_highOf v3 mσ4) kvX12_highOf rfl mlX12_471 z_CF12 rfl rfl (by decide) rfl (Nat.le_of_ble_eq_true rfl) dX12_game_62 ?_
      refine z_icmp_ge (tgt := 84) C dX12_game_65 (by decide) (fun hc => ?_) (fun hc => ?_)
      · replace h := z_neg hc h
        refine z_iinc (v := v3 + 1) (lo' := [some (.ref (z_a X 0)), some (.int v1), some (.int v2), some (.int (v3 + 1))]) C dX12_game_84 rfl rfl rfl ?_
        refine z_goto (tgt := 45) C dX12_game_87 (by decide) ?_
        exact ih v1 v2 (v3 + 1) σ4 h
      · replace h := z_pos hc h
        exact t12_game_J68 C v1 v2 v3 σ4 h
set_option maxHeartbeats 4000000 in
set_option maxRecDepth 100000 in
theorem t12_game_J43 {X : z_Ct} (C : z_Cx S2 X RX12 cX12_game 4 3 (some .int)) {u : Int32 × z_M} (v1 : Int32) (v2 : Int32) (σ : z_M) (h : f12_game_J43 v1 v2 σ = some u) : z_W S2 X 43 [some (.ref (z_a X 0)), some (.int v1), some (.int v2), none] [] σ (z_oi u) := by
  unfold f12_game_J43 at h
  refine z_iconst (v := 0) C dX12_game_43 (by decide) ?_
  refine z_istore_n (lo' := [some (.ref (z_a X 0)), some (.int v1), some (.int v2), some (.int 0)]) C dX12_game_44 rfl (Nat.le_of_ble_eq_true rfl) rfl ?_
  exact t12_game_L45 C _ v1 v2 0 σ h
set_option maxHeartbeats 4000000 in
set_option maxRecDepth 100000 in
theorem t12_game_L21 {X : z_Ct} (C : z_Cx S2 X RX12 cX12_game 4 3 (some .int)) {u : Int32 × z_M} : ∀ (n : Nat) (v1 : Int32) (v2 : Int32) (v3 : Int32) (σ : z_M), f12_game_L21 n v1 v2 v3 σ = some u → z_W S2 X 21 [some (.ref (z_a X 0)), some (.int v1), some (.int v2), some (.int v3)] [] σ (z_oi u) := by
  intro n
  induction n with
  | zero => intro v1 v2 v3 σ h; rw [f12_game_L21] at h; cases h
  | succ n ih =>
    intro v1 v2 v3 σ h
    rw [f12_game_L21] at h
    refine z_iload_n C dX12_game_21 rfl rfl ?_
    refine z_aload_n C dX12_game_22 rfl rfl ?_
    refine z_geti (k := 6) C z_CF12 (by decide) flX12_131 rfl rfl dX12_game_23 ?_
    refine z_icmp_ge (tgt := 43) C dX12_game_26 (by decide) (fun hc => ?_) (fun hc => ?_)
    · replace h := z_neg hc h
      refine z_kill (lo' := [some (.ref (z_a X 0)), some (.int v1), some (.int v2), none]) [3] rfl ?_
      exact t12_game_J43 C v1 v2 σ h
    · replace h := z_pos hc h
      refine z_iload_n C dX12_game_29 rfl rfl ?_
      refine z_aload_n C dX12_game_30 rfl rfl ?_
      refine z_iload_n C dX12_game_31 rfl rfl ?_
      obtain ⟨r1, σ2, mσ2, h⟩ := z_bnd2 h
      refine z_cvi (As := [.int v3]) (c := 0) (st := [.int v2]) C (t12_highOf v3 mσ2) kvX12_highOf rfl mlX12_471 z_CF12 rfl rfl (by decide) rfl (Nat.le_of_ble_eq_true rfl) dX12_game_32 ?_
      refine z_ixor C dX12_game_35 ?_
      refine z_istore_n (lo' := [some (.ref (z_a X 0)), some (.int v1), some (.int (v2 ^^^ r1)), some (.int v3)]) C dX12_game_36 rfl (Nat.le_of_ble_eq_true rfl) rfl ?_
      refine z_iinc (v := v3 + 1) (lo' := [some (.ref (z_a X 0)), some (.int v1), some (.int (v2 ^^^ r1)), some (.int (v3 + 1))]) C dX12_game_37 rfl rfl rfl ?_
      refine z_goto (tgt := 21) C dX12_game_40 (by decide) ?_
      exact ih v1 (v2 ^^^ r1) (v3 + 1) σ2 h
set_option maxHeartbeats 4000000 in
set_option maxRecDepth 100000 in
theorem t12_game {a : Nat → Nat} (p1 : Int32) {σ : z_M} {u : Int32 × z_M} (h : f12_game p1 σ = some u) : z_Mt yX12_game (z_w yX12_game cX12_game 4 (some .int)) 3 S2 a σ [.ref (a 0), .int p1] (z_oi u) := by
  refine z_head (lo := [some (.ref (a 0)), some (.int p1), none, none]) (by decide) (Nat.le_of_ble_eq_true rfl) ?_ rfl ?_
  · intro i v hv
    exact z_loe (vs := [.ref (a 0), .int p1]) (n := 2) rfl (by simp [z_c1i, z_c1r]) i v hv
  · intro X hXa C
    subst hXa
    unfold f12_game at h
    refine z_aload_n C dX12_game_0 rfl rfl ?_
    refine z_iconst (v := 0) C dX12_game_1 (by decide) ?_
    obtain ⟨σ1, eσ1, h⟩ := z_let_some h
    refine z_puti (k := 0) C z_CF12 (by decide) flX12_113 rfl rfl rfl rfl eσ1 dX12_game_2 ?_
    refine z_aload_n C dX12_game_5 rfl rfl ?_
    refine z_iload_n C dX12_game_6 rfl rfl ?_
    refine z_iconst (v := 0) C dX12_game_7 (by decide) ?_
    refine z_iconst (v := 1) C dX12_game_8 (by decide) ?_
    obtain ⟨r2, σ3, mσ3, h⟩ := z_bnd2 h
    refine z_cvi (As := [.int p1, .int 0, .int 1]) (c := 0) (st := []) C (t12_isIn p1 0 1 mσ3) kvX12_isIn rfl mlX12_142 z_CF12 rfl rfl (by decide) rfl (Nat.le_of_ble_eq_true rfl) dX12_game_9 ?_
    refine z_if_ne (tgt := 17) C dX12_game_12 (by decide) (fun hc => ?_) (fun hc => ?_)
    · replace h := z_neg hc h
      refine z_iconst (v := 0) C dX12_game_17 (by decide) ?_
      refine z_istore_n (lo' := [some (.ref (z_a X 0)), some (.int p1), some (.int 0), none]) C dX12_game_18 rfl (Nat.le_of_ble_eq_true rfl) rfl ?_
      refine z_iconst (v := 0) C dX12_game_19 (by decide) ?_
      refine z_istore_n (lo' := [some (.ref (z_a X 0)), some (.int p1), some (.int 0), some (.int 0)]) C dX12_game_20 rfl (Nat.le_of_ble_eq_true rfl) rfl ?_
      exact t12_game_L21 C _ p1 0 0 σ3 h
    · replace h := z_pos hc h
      refine z_iconst (v := (-1)) C dX12_game_15 (by decide) ?_
      exact z_iret C h dX12_game_16
set_option maxHeartbeats 4000000 in
set_option maxRecDepth 100000 in
theorem t12_sumOf_L4 {X : z_Ct} (C : z_Cx S2 X RX12 cX12_sumOf 4 3 (some .int)) {u : Int32 × z_M} : ∀ (n : Nat) (v1 : Int32) (v2 : Int32) (v3 : Int32) (σ : z_M), f12_sumOf_L4 n v1 v2 v3 σ = some u → z_W S2 X 4 [some (.ref (z_a X 0)), some (.int v1), some (.int v2), some (.int v3)] [] σ (z_oi u) := by
  intro n
  induction n with
  | zero => intro v1 v2 v3 σ h; rw [f12_sumOf_L4] at h; cases h
  | succ n ih =>
    intro v1 v2 v3 σ h
    rw [f12_sumOf_L4] at h
    refine z_iload_n C dX12_sumOf_4 rfl rfl ?_
    refine z_aload_n C dX12_sumOf_5 rfl rfl ?_
    refine z_geti (k := 6) C z_CF12 (by decide) flX12_131 rfl rfl dX12_sumOf_6 ?_
    refine z_icmp_ge (tgt := 35) C dX12_sumOf_9 (by decide) (fun hc => ?_) (fun hc => ?_)
    · replace h := z_neg hc h
      refine z_iload_n C dX12_sumOf_35 rfl rfl ?_
      exact z_iret C h dX12_sumOf_36
    · replace h := z_pos hc h
      refine z_iload_n C dX12_sumOf_12 rfl rfl ?_
      refine z_iload_n C dX12_sumOf_13 rfl rfl ?_
      refine z_ishr C dX12_sumOf_14 ?_
      refine z_iconst (v := 1) C dX12_sumOf_15 (by decide) ?_
      refine z_iand C dX12_sumOf_16 ?_
      refine z_iconst (v := 1) C dX12_sumOf_17 (by decide) ?_
      refine z_icmp_ne (tgt := 29) C dX12_sumOf_18 (by decide) (fun hc => ?_) (fun hc => ?_)
      · replace h := z_neg hc h
        refine z_iinc (v := v3 + 1) (lo' := [some (.ref (z_a X 0)), some (.int v1), some (.int v2), some (.int (v3 + 1))]) C dX12_sumOf_29 rfl rfl rfl ?_
        refine z_goto (tgt := 4) C dX12_sumOf_32 (by decide) ?_
        exact ih v1 v2 (v3 + 1) σ h
      · replace h := z_pos hc h
        refine z_iload_n C dX12_sumOf_21 rfl rfl ?_
        refine z_aload_n C dX12_sumOf_22 rfl rfl ?_
        refine z_iload_n C dX12_sumOf_23 rfl rfl ?_
        obtain ⟨r1, σ2, mσ2, h⟩ := z_bnd2 h
        refine z_cvi (As := [.int v3]) (c := 0) (st := [.int v2]) C (t12_highOf v3 mσ2) kvX12_highOf rfl mlX12_471 z_CF12 rfl rfl (by decide) rfl (Nat.le_of_ble_eq_true rfl) dX12_sumOf_24 ?_
        refine z_iadd C dX12_sumOf_27 ?_
        refine z_istore_n (lo' := [some (.ref (z_a X 0)), some (.int v1), some (.int (v2 + r1)), some (.int v3)]) C dX12_sumOf_28 rfl (Nat.le_of_ble_eq_true rfl) rfl ?_
        refine z_iinc (v := v3 + 1) (lo' := [some (.ref (z_a X 0)), some (.int v1), some (.int (v2 + r1)), some (.int (v3 + 1))]) C dX12_sumOf_29 rfl rfl rfl ?_
        refine z_goto (tgt := 4) C dX12_sumOf_32 (by decide) ?_
        exact ih v1 (v2 + r1) (v3 + 1) σ2 h
set_option maxHeartbeats 4000000 in
set_option maxRecDepth 100000 in
theorem t12_sumOf {a : Nat → Nat} (p1 : Int32) {σ : z_M} {u : Int32 × z_M} (h : f12_sumOf p1 σ = some u) : z_Mt yX12_sumOf (z_w yX12_sumOf cX12_sumOf 4 (some .int)) 3 S2 a σ [.ref (a 0), .int p1] (z_oi u) := by
  refine z_head (lo := [some (.ref (a 0)), some (.int p1), none, none]) (by decide) (Nat.le_of_ble_eq_true rfl) ?_ rfl ?_
  · intro i v hv
    exact z_loe (vs := [.ref (a 0), .int p1]) (n := 2) rfl (by simp [z_c1i, z_c1r]) i v hv
  · intro X hXa C
    subst hXa
    unfold f12_sumOf at h
    refine z_iconst (v := 0) C dX12_sumOf_0 (by decide) ?_
    refine z_istore_n (lo' := [some (.ref (z_a X 0)), some (.int p1), some (.int 0), none]) C dX12_sumOf_1 rfl (Nat.le_of_ble_eq_true rfl) rfl ?_
    refine z_iconst (v := 0) C dX12_sumOf_2 (by decide) ?_
    refine z_istore_n (lo' := [some (.ref (z_a X 0)), some (.int p1), some (.int 0), some (.int 0)]) C dX12_sumOf_3 rfl (Nat.le_of_ble_eq_true rfl) rfl ?_
    exact t12_sumOf_L4 C _ p1 0 0 σ h
set_option maxHeartbeats 4000000 in
set_option maxRecDepth 100000 in
theorem t12_greenhouses_J151 {X : z_Ct} (C : z_Cx S2 X RX12 cX12_greenhouses 5 4 (some .int)) {u : Int32 × z_M} (v2 : Int32) (σ : z_M) (h : f12_greenhouses_J151 v2 σ = some u) : z_W S2 X 151 [some (.ref (z_a X 0)), none, some (.int v2), none, none] [] σ (z_oi u) := by
  unfold f12_greenhouses_J151 at h
  refine z_aload_n C dX12_greenhouses_151 rfl rfl ?_
  refine z_geta (k := 56) (q := 32) C z_CF12 (by decide) flX12_107 rfl rfl dX12_greenhouses_152 ?_
  refine z_iload_n C dX12_greenhouses_155 rfl rfl ?_
  obtain ⟨b1, h⟩ := z_chk_some h
  refine z_iald C rfl rfl b1 dX12_greenhouses_156 ?_
  refine z_ldcw (v := 100000) C dX12_greenhouses_157 cnX12_449 ?_
  refine z_icmp_lt (tgt := 167) C dX12_greenhouses_160 (by decide) (fun hc => ?_) (fun hc => ?_)
  · replace h := z_pos hc h
    refine z_aload_n C dX12_greenhouses_167 rfl rfl ?_
    refine z_geta (k := 56) (q := 32) C z_CF12 (by decide) flX12_107 rfl rfl dX12_greenhouses_168 ?_
    refine z_iload_n C dX12_greenhouses_171 rfl rfl ?_
    obtain ⟨b2, h⟩ := z_chk_some h
    refine z_iald C rfl rfl b2 dX12_greenhouses_172 ?_
    exact z_iret C h dX12_greenhouses_173
  · replace h := z_neg hc h
    refine z_iconst (v := (-1)) C dX12_greenhouses_163 (by decide) ?_
    refine z_goto (tgt := 173) C dX12_greenhouses_164 (by decide) ?_
    exact z_iret C h dX12_greenhouses_173
set_option maxHeartbeats 4000000 in
set_option maxRecDepth 100000 in
theorem t12_greenhouses_J134 {X : z_Ct} (C : z_Cx S2 X RX12 cX12_greenhouses 5 4 (some .int)) {u : Int32 × z_M} {k61 : Int32 → Int32 → Int32 → z_M → Option (Int32 × z_M)} {k78 : Int32 → Int32 → Int32 → Int32 → z_M → Option (Int32 × z_M)} (hr61 : ∀ (v1 : Int32) (v2 : Int32) (v3 : Int32) (σ : z_M), k61 v1 v2 v3 σ = some u → z_W S2 X 61 [some (.ref (z_a X 0)), some (.int v1), some (.int v2), some (.int v3), none] [] σ (z_oi u)) (hr78 : ∀ (v1 : Int32) (v2 : Int32) (v3 : Int32) (v4 : Int32) (σ : z_M), k78 v1 v2 v3 v4 σ = some u → z_W S2 X 78 [some (.ref (z_a X 0)), some (.int v1), some (.int v2), some (.int v3), some (.int v4)] [] σ (z_oi u)) (v1 : Int32) (v2 : Int32) (v3 : Int32) (v4 : Int32) (σ : z_M) (h : f12_greenhouses_J134 k61 k78 v1 v2 v3 v4 σ = some u) : z_W S2 X 134 [some (.ref (z_a X 0)), some (.int v1), some (.int v2), some (.int v3), some (.int v4)] [] σ (z_oi u) := by
  unfold f12_greenhouses_J134 at h
  refine z_iload C dX12_greenhouses_134 rfl ?_
  refine z_iconst (v := 1) C dX12_greenhouses_136 (by decide) ?_
  refine z_isub C dX12_greenhouses_137 ?_
  refine z_iload_n C dX12_greenhouses_138 rfl rfl ?_
  refine z_iand C dX12_greenhouses_139 ?_
  refine z_istore (lo' := [some (.ref (z_a X 0)), some (.int v1), some (.int v2), some (.int v3), some (.int ((v4 - 1) &&& v3))]) C dX12_greenhouses_140 (Nat.le_of_ble_eq_true rfl) rfl ?_
  refine z_goto (tgt := 78) C dX12_greenhouses_142 (by decide) ?_
  exact hr78 v1 v2 v3 ((v4 - 1) &&& v3) σ h
set_option maxHeartbeats 4000000 in
set_option maxRecDepth 100000 in
theorem t12_greenhouses_J145 {X : z_Ct} (C : z_Cx S2 X RX12 cX12_greenhouses 5 4 (some .int)) {u : Int32 × z_M} {k61 : Int32 → Int32 → Int32 → z_M → Option (Int32 × z_M)} (hr61 : ∀ (v1 : Int32) (v2 : Int32) (v3 : Int32) (σ : z_M), k61 v1 v2 v3 σ = some u → z_W S2 X 61 [some (.ref (z_a X 0)), some (.int v1), some (.int v2), some (.int v3), none] [] σ (z_oi u)) (v1 : Int32) (v2 : Int32) (v3 : Int32) (σ : z_M) (h : f12_greenhouses_J145 k61 v1 v2 v3 σ = some u) : z_W S2 X 145 [some (.ref (z_a X 0)), some (.int v1), some (.int v2), some (.int v3), none] [] σ (z_oi u) := by
  unfold f12_greenhouses_J145 at h
  refine z_iinc (v := v3 + 1) (lo' := [some (.ref (z_a X 0)), some (.int v1), some (.int v2), some (.int (v3 + 1)), none]) C dX12_greenhouses_145 rfl rfl rfl ?_
  refine z_goto (tgt := 61) C dX12_greenhouses_148 (by decide) ?_
  exact hr61 v1 v2 (v3 + 1) σ h
set_option maxHeartbeats 4000000 in
set_option maxRecDepth 100000 in
theorem t12_greenhouses_L78 {X : z_Ct} (C : z_Cx S2 X RX12 cX12_greenhouses 5 4 (some .int)) {u : Int32 × z_M} {k61 : Int32 → Int32 → Int32 → z_M → Option (Int32 × z_M)} (hr61 : ∀ (v1 : Int32) (v2 : Int32) (v3 : Int32) (σ : z_M), k61 v1 v2 v3 σ = some u → z_W S2 X 61 [some (.ref (z_a X 0)), some (.int v1), some (.int v2), some (.int v3), none] [] σ (z_oi u)) : ∀ (n : Nat) (v1 : Int32) (v2 : Int32) (v3 : Int32) (v4 : Int32) (σ : z_M), f12_greenhouses_L78 k61 n v1 v2 v3 v4 σ = some u → z_W S2 X 78 [some (.ref (z_a X 0)), some (.int v1), some (.int v2), some (.int v3), some (.int v4)] [] σ (z_oi u) := by
  intro n
  induction n with
  | zero => intro v1 v2 v3 v4 σ h; rw [f12_greenhouses_L78] at h; cases h
  | succ n ih =>
    intro v1 v2 v3 v4 σ h
    rw [f12_greenhouses_L78] at h
    refine z_iload C dX12_greenhouses_78 rfl ?_
    refine z_if_le (tgt := 145) C dX12_greenhouses_80 (by decide) (fun hc => ?_) (fun hc => ?_)
    · replace h := z_neg hc h
      refine z_kill (lo' := [some (.ref (z_a X 0)), some (.int v1), some (.int v2), some (.int v3), none]) [4] rfl ?_
      exact t12_greenhouses_J145 C hr61 v1 v2 v3 σ h
    · replace h := z_pos hc h
      refine z_aload_n C dX12_greenhouses_83 rfl rfl ?_
      refine z_iload C dX12_greenhouses_84 rfl ?_
      obtain ⟨r1, σ2, mσ2, h⟩ := z_bnd2 h
      refine z_cvi (As := [.int v4]) (c := 0) (st := []) C (t12_sumOf v4 mσ2) kvX12_sumOf rfl mlX12_474 z_CF12 rfl rfl (by decide) rfl (Nat.le_of_ble_eq_true rfl) dX12_greenhouses_86 ?_
      refine z_iload_n C dX12_greenhouses_89 rfl rfl ?_
      refine z_icmp_gt (tgt := 134) C dX12_greenhouses_90 (by decide) (fun hc => ?_) (fun hc => ?_)
      · replace h := z_pos hc h
        exact t12_greenhouses_J134 C hr61 ih v1 v2 v3 v4 σ2 h
      · replace h := z_neg hc h
        refine z_aload_n C dX12_greenhouses_93 rfl rfl ?_
        refine z_geta (k := 56) (q := 32) C z_CF12 (by decide) flX12_107 rfl rfl dX12_greenhouses_94 ?_
        refine z_iload_n C dX12_greenhouses_97 rfl rfl ?_
        refine z_iload C dX12_greenhouses_98 rfl ?_
        refine z_iconst (v := (-1)) C dX12_greenhouses_100 (by decide) ?_
        refine z_ixor C dX12_greenhouses_101 ?_
        refine z_iand C dX12_greenhouses_102 ?_
        obtain ⟨b3, h⟩ := z_chk_some h
        refine z_iald C rfl rfl b3 dX12_greenhouses_103 ?_
        refine z_iconst (v := 1) C dX12_greenhouses_104 (by decide) ?_
        refine z_iadd C dX12_greenhouses_105 ?_
        refine z_aload_n C dX12_greenhouses_106 rfl rfl ?_
        refine z_geta (k := 56) (q := 32) C z_CF12 (by decide) flX12_107 rfl rfl dX12_greenhouses_107 ?_
        refine z_iload_n C dX12_greenhouses_110 rfl rfl ?_
        obtain ⟨b4, h⟩ := z_chk_some h
        refine z_iald C rfl rfl b4 dX12_greenhouses_111 ?_
        refine z_icmp_ge (tgt := 134) C dX12_greenhouses_112 (by decide) (fun hc => ?_) (fun hc => ?_)
        · replace h := z_neg hc h
          exact t12_greenhouses_J134 C hr61 ih v1 v2 v3 v4 σ2 h
        · replace h := z_pos hc h
          refine z_aload_n C dX12_greenhouses_115 rfl rfl ?_
          refine z_geta (k := 56) (q := 32) C z_CF12 (by decide) flX12_107 rfl rfl dX12_greenhouses_116 ?_
          refine z_iload_n C dX12_greenhouses_119 rfl rfl ?_
          refine z_aload_n C dX12_greenhouses_120 rfl rfl ?_
          refine z_geta (k := 56) (q := 32) C z_CF12 (by decide) flX12_107 rfl rfl dX12_greenhouses_121 ?_
          refine z_iload_n C dX12_greenhouses_124 rfl rfl ?_
          refine z_iload C dX12_greenhouses_125 rfl ?_
          refine z_iconst (v := (-1)) C dX12_greenhouses_127 (by decide) ?_
          refine z_ixor C dX12_greenhouses_128 ?_
          refine z_iand C dX12_greenhouses_129 ?_
          obtain ⟨b5, h⟩ := z_chk_some h
          refine z_iald C rfl rfl b5 dX12_greenhouses_130 ?_
          refine z_iconst (v := 1) C dX12_greenhouses_131 (by decide) ?_
          refine z_iadd C dX12_greenhouses_132 ?_
          obtain ⟨b6, h⟩ := z_chk_some h
          obtain ⟨σ7, eσ7, h⟩ := z_let_some h
          refine z_iast C rfl rfl b6 eσ7 dX12_greenhouses_133 ?_
          exact t12_greenhouses_J134 C hr61 ih v1 v2 v3 v4 σ7 h
set_option maxHeartbeats 4000000 in
set_option maxRecDepth 100000 in
theorem t12_greenhouses_L61 {X : z_Ct} (C : z_Cx S2 X RX12 cX12_greenhouses 5 4 (some .int)) {u : Int32 × z_M} : ∀ (n : Nat) (v1 : Int32) (v2 : Int32) (v3 : Int32) (σ : z_M), f12_greenhouses_L61 n v1 v2 v3 σ = some u → z_W S2 X 61 [some (.ref (z_a X 0)), some (.int v1), some (.int v2), some (.int v3), none] [] σ (z_oi u) := by
  intro n
  induction n with
  | zero => intro v1 v2 v3 σ h; rw [f12_greenhouses_L61] at h; cases h
  | succ n ih =>
    intro v1 v2 v3 σ h
    rw [f12_greenhouses_L61] at h
    refine z_iload_n C dX12_greenhouses_61 rfl rfl ?_
    refine z_iload_n C dX12_greenhouses_62 rfl rfl ?_
    refine z_icmp_gt (tgt := 151) C dX12_greenhouses_63 (by decide) (fun hc => ?_) (fun hc => ?_)
    · replace h := z_pos hc h
      refine z_kill (lo' := [some (.ref (z_a X 0)), none, some (.int v2), none, none]) [1, 3] rfl ?_
      exact t12_greenhouses_J151 C v2 σ h
    · replace h := z_neg hc h
      refine z_aload_n C dX12_greenhouses_66 rfl rfl ?_
      refine z_geta (k := 56) (q := 32) C z_CF12 (by decide) flX12_107 rfl rfl dX12_greenhouses_67 ?_
      refine z_iload_n C dX12_greenhouses_70 rfl rfl ?_
      refine z_ldcw (v := 100000) C dX12_greenhouses_71 cnX12_449 ?_
      obtain ⟨b1, h⟩ := z_chk_some h
      obtain ⟨σ2, eσ2, h⟩ := z_let_some h
      refine z_iast C rfl rfl b1 eσ2 dX12_greenhouses_74 ?_
      refine z_iload_n C dX12_greenhouses_75 rfl rfl ?_
      refine z_istore (lo' := [some (.ref (z_a X 0)), some (.int v1), some (.int v2), some (.int v3), some (.int v3)]) C dX12_greenhouses_76 (Nat.le_of_ble_eq_true rfl) rfl ?_
      exact t12_greenhouses_L78 C ih _ v1 v2 v3 v3 σ2 h
set_option maxHeartbeats 4000000 in
set_option maxRecDepth 100000 in
theorem t12_greenhouses_J52 {X : z_Ct} (C : z_Cx S2 X RX12 cX12_greenhouses 5 4 (some .int)) {u : Int32 × z_M} (v1 : Int32) (v2 : Int32) (σ : z_M) (h : f12_greenhouses_J52 v1 v2 σ = some u) : z_W S2 X 52 [some (.ref (z_a X 0)), some (.int v1), some (.int v2), none, none] [] σ (z_oi u) := by
  unfold f12_greenhouses_J52 at h
  refine z_aload_n C dX12_greenhouses_52 rfl rfl ?_
  refine z_geta (k := 56) (q := 32) C z_CF12 (by decide) flX12_107 rfl rfl dX12_greenhouses_53 ?_
  refine z_iconst (v := 0) C dX12_greenhouses_56 (by decide) ?_
  refine z_iconst (v := 0) C dX12_greenhouses_57 (by decide) ?_
  obtain ⟨b1, h⟩ := z_chk_some h
  obtain ⟨σ2, eσ2, h⟩ := z_let_some h
  refine z_iast C rfl rfl b1 eσ2 dX12_greenhouses_58 ?_
  refine z_iconst (v := 1) C dX12_greenhouses_59 (by decide) ?_
  refine z_istore_n (lo' := [some (.ref (z_a X 0)), some (.int v1), some (.int v2), some (.int 1), none]) C dX12_greenhouses_60 rfl (Nat.le_of_ble_eq_true rfl) rfl ?_
  exact t12_greenhouses_L61 C _ v1 v2 1 σ2 h
set_option maxHeartbeats 4000000 in
set_option maxRecDepth 100000 in
theorem t12_greenhouses_L23 {X : z_Ct} (C : z_Cx S2 X RX12 cX12_greenhouses 5 4 (some .int)) {u : Int32 × z_M} : ∀ (n : Nat) (v1 : Int32) (v2 : Int32) (v3 : Int32) (σ : z_M), f12_greenhouses_L23 n v1 v2 v3 σ = some u → z_W S2 X 23 [some (.ref (z_a X 0)), some (.int v1), some (.int v2), some (.int v3), none] [] σ (z_oi u) := by
  intro n
  induction n with
  | zero => intro v1 v2 v3 σ h; rw [f12_greenhouses_L23] at h; cases h
  | succ n ih =>
    intro v1 v2 v3 σ h
    rw [f12_greenhouses_L23] at h
    refine z_iload_n C dX12_greenhouses_23 rfl rfl ?_
    refine z_aload_n C dX12_greenhouses_24 rfl rfl ?_
    refine z_geti (k := 6) C z_CF12 (by decide) flX12_131 rfl rfl dX12_greenhouses_25 ?_
    refine z_icmp_ge (tgt := 52) C dX12_greenhouses_28 (by decide) (fun hc => ?_) (fun hc => ?_)
    · replace h := z_neg hc h
      refine z_kill (lo' := [some (.ref (z_a X 0)), some (.int v1), some (.int v2), none, none]) [3] rfl ?_
      exact t12_greenhouses_J52 C v1 v2 σ h
    · replace h := z_pos hc h
      refine z_aload_n C dX12_greenhouses_31 rfl rfl ?_
      refine z_iload_n C dX12_greenhouses_32 rfl rfl ?_
      obtain ⟨r1, σ2, mσ2, h⟩ := z_bnd2 h
      refine z_cvi (As := [.int v3]) (c := 0) (st := []) C (t12_potOf v3 mσ2) kvX12_potOf rfl mlX12_324 z_CF12 rfl rfl (by decide) rfl (Nat.le_of_ble_eq_true rfl) dX12_greenhouses_33 ?_
      refine z_iconst (v := (-1)) C dX12_greenhouses_36 (by decide) ?_
      refine z_icmp_eq (tgt := 46) C dX12_greenhouses_37 (by decide) (fun hc => ?_) (fun hc => ?_)
      · replace h := z_pos hc h
        refine z_iinc (v := v3 + 1) (lo' := [some (.ref (z_a X 0)), some (.int v1), some (.int v2), some (.int (v3 + 1)), none]) C dX12_greenhouses_46 rfl rfl rfl ?_
        refine z_goto (tgt := 23) C dX12_greenhouses_49 (by decide) ?_
        exact ih v1 v2 (v3 + 1) σ2 h
      · replace h := z_neg hc h
        refine z_iload_n C dX12_greenhouses_40 rfl rfl ?_
        refine z_iconst (v := 1) C dX12_greenhouses_41 (by decide) ?_
        refine z_iload_n C dX12_greenhouses_42 rfl rfl ?_
        refine z_ishl C dX12_greenhouses_43 ?_
        refine z_ior C dX12_greenhouses_44 ?_
        refine z_istore_n (lo' := [some (.ref (z_a X 0)), some (.int v1), some (.int (v2 ||| (z_shl 1 v3))), some (.int v3), none]) C dX12_greenhouses_45 rfl (Nat.le_of_ble_eq_true rfl) rfl ?_
        refine z_iinc (v := v3 + 1) (lo' := [some (.ref (z_a X 0)), some (.int v1), some (.int (v2 ||| (z_shl 1 v3))), some (.int (v3 + 1)), none]) C dX12_greenhouses_46 rfl rfl rfl ?_
        refine z_goto (tgt := 23) C dX12_greenhouses_49 (by decide) ?_
        exact ih v1 (v2 ||| (z_shl 1 v3)) (v3 + 1) σ2 h
set_option maxHeartbeats 4000000 in
set_option maxRecDepth 100000 in
theorem t12_greenhouses {a : Nat → Nat} (p1 : Int32) {σ : z_M} {u : Int32 × z_M} (h : f12_greenhouses p1 σ = some u) : z_Mt yX12_greenhouses (z_w yX12_greenhouses cX12_greenhouses 5 (some .int)) 4 S2 a σ [.ref (a 0), .int p1] (z_oi u) := by
  refine z_head (lo := [some (.ref (a 0)), some (.int p1), none, none, none]) (by decide) (Nat.le_of_ble_eq_true rfl) ?_ rfl ?_
  · intro i v hv
    exact z_loe (vs := [.ref (a 0), .int p1]) (n := 3) rfl (by simp [z_c1i, z_c1r]) i v hv
  · intro X hXa C
    subst hXa
    unfold f12_greenhouses at h
    refine z_aload_n C dX12_greenhouses_0 rfl rfl ?_
    refine z_iconst (v := 0) C dX12_greenhouses_1 (by decide) ?_
    obtain ⟨σ1, eσ1, h⟩ := z_let_some h
    refine z_puti (k := 0) C z_CF12 (by decide) flX12_113 rfl rfl rfl rfl eσ1 dX12_greenhouses_2 ?_
    refine z_aload_n C dX12_greenhouses_5 rfl rfl ?_
    refine z_iload_n C dX12_greenhouses_6 rfl rfl ?_
    refine z_iconst (v := 1) C dX12_greenhouses_7 (by decide) ?_
    refine z_sipush (v := 999) C dX12_greenhouses_8 (by decide) ?_
    obtain ⟨r2, σ3, mσ3, h⟩ := z_bnd2 h
    refine z_cvi (As := [.int p1, .int 1, .int 999]) (c := 0) (st := []) C (t12_isIn p1 1 999 mσ3) kvX12_isIn rfl mlX12_142 z_CF12 rfl rfl (by decide) rfl (Nat.le_of_ble_eq_true rfl) dX12_greenhouses_11 ?_
    refine z_if_ne (tgt := 19) C dX12_greenhouses_14 (by decide) (fun hc => ?_) (fun hc => ?_)
    · replace h := z_neg hc h
      refine z_iconst (v := 0) C dX12_greenhouses_19 (by decide) ?_
      refine z_istore_n (lo' := [some (.ref (z_a X 0)), some (.int p1), some (.int 0), none, none]) C dX12_greenhouses_20 rfl (Nat.le_of_ble_eq_true rfl) rfl ?_
      refine z_iconst (v := 0) C dX12_greenhouses_21 (by decide) ?_
      refine z_istore_n (lo' := [some (.ref (z_a X 0)), some (.int p1), some (.int 0), some (.int 0), none]) C dX12_greenhouses_22 rfl (Nat.le_of_ble_eq_true rfl) rfl ?_
      exact t12_greenhouses_L23 C _ p1 0 0 σ3 h
    · replace h := z_pos hc h
      refine z_iconst (v := (-1)) C dX12_greenhouses_17 (by decide) ?_
      exact z_iret C h dX12_greenhouses_18
set_option maxHeartbeats 4000000 in
set_option maxRecDepth 100000 in
theorem t12_keeps {a : Nat → Nat} (p1 : Int32) {σ : z_M} {u : Int32 × z_M} (h : f12_keeps p1 σ = some u) : z_Mt yX12_keeps (z_w yX12_keeps cX12_keeps 2 (some .int)) 1 S2 a σ [.ref (a 0), .int p1] (z_oi u) := by
  refine z_head (lo := [some (.ref (a 0)), some (.int p1)]) (by decide) (Nat.le_of_ble_eq_true rfl) ?_ rfl ?_
  · intro i v hv
    exact z_loe (vs := [.ref (a 0), .int p1]) (n := 0) rfl (by simp [z_c1i, z_c1r]) i v hv
  · intro X hXa C
    subst hXa
    unfold f12_keeps at h
    refine z_aload_n C dX12_keeps_0 rfl rfl ?_
    refine z_aload_n C dX12_keeps_1 rfl rfl ?_
    refine z_geti (k := 59) C z_CF12 (by decide) flX12_477 rfl rfl dX12_keeps_2 ?_
    refine z_iconst (v := 1) C dX12_keeps_5 (by decide) ?_
    refine z_iadd C dX12_keeps_6 ?_
    obtain ⟨σ1, eσ1, h⟩ := z_let_some h
    refine z_puti (k := 59) C z_CF12 (by decide) flX12_477 rfl rfl rfl rfl eσ1 dX12_keeps_7 ?_
    refine z_aload_n C dX12_keeps_10 rfl rfl ?_
    refine z_geti (k := 57) C z_CF12 (by decide) flX12_480 rfl rfl dX12_keeps_11 ?_
    refine z_if_ne (tgt := 29) C dX12_keeps_14 (by decide) (fun hc => ?_) (fun hc => ?_)
    · replace h := z_neg hc h
      refine z_aload_n C dX12_keeps_29 rfl rfl ?_
      refine z_geta (k := 60) (q := 33) C z_CF12 (by decide) flX12_110 rfl rfl dX12_keeps_30 ?_
      refine z_aload_n C dX12_keeps_33 rfl rfl ?_
      refine z_geti (k := 59) C z_CF12 (by decide) flX12_477 rfl rfl dX12_keeps_34 ?_
      refine z_iconst (v := 1) C dX12_keeps_37 (by decide) ?_
      refine z_isub C dX12_keeps_38 ?_
      refine z_iload_n C dX12_keeps_39 rfl rfl ?_
      obtain ⟨b2, h⟩ := z_chk_some h
      obtain ⟨σ3, eσ3, h⟩ := z_let_some h
      refine z_iast C rfl rfl b2 eσ3 dX12_keeps_40 ?_
      refine z_iload_n C dX12_keeps_41 rfl rfl ?_
      exact z_iret C h dX12_keeps_42
    · replace h := z_pos hc h
      refine z_aload_n C dX12_keeps_17 rfl rfl ?_
      refine z_geta (k := 60) (q := 33) C z_CF12 (by decide) flX12_110 rfl rfl dX12_keeps_18 ?_
      refine z_aload_n C dX12_keeps_21 rfl rfl ?_
      refine z_geti (k := 59) C z_CF12 (by decide) flX12_477 rfl rfl dX12_keeps_22 ?_
      refine z_iconst (v := 1) C dX12_keeps_25 (by decide) ?_
      refine z_isub C dX12_keeps_26 ?_
      obtain ⟨b4, h⟩ := z_chk_some h
      refine z_iald C rfl rfl b4 dX12_keeps_27 ?_
      exact z_iret C h dX12_keeps_28
set_option maxHeartbeats 4000000 in
set_option maxRecDepth 100000 in
theorem t12_keepsLaw_L99 {X : z_Ct} (C : z_Cx S2 X RX12 cX12_keepsLaw 2 2 none) {u : Unit × z_M} : ∀ (n : Nat) (v1 : Int32) (σ : z_M), f12_keepsLaw_L99 n v1 σ = some u → z_W S2 X 99 [some (.ref (z_a X 0)), some (.int v1)] [] σ (z_ov u) := by
  intro n
  induction n with
  | zero => intro v1 σ h; rw [f12_keepsLaw_L99] at h; cases h
  | succ n ih =>
    intro v1 σ h
    rw [f12_keepsLaw_L99] at h
    refine z_iload_n C dX12_keepsLaw_99 rfl rfl ?_
    refine z_sipush (v := 800) C dX12_keepsLaw_100 (by decide) ?_
    refine z_icmp_ge (tgt := 144) C dX12_keepsLaw_103 (by decide) (fun hc => ?_) (fun hc => ?_)
    · replace h := z_neg hc h
      exact z_vret C h dX12_keepsLaw_144
    · replace h := z_pos hc h
      refine z_aload_n C dX12_keepsLaw_106 rfl rfl ?_
      refine z_geta (k := 25) (q := 14) C z_CF12 (by decide) flX12_49 rfl rfl dX12_keepsLaw_107 ?_
      refine z_iload_n C dX12_keepsLaw_110 rfl rfl ?_
      refine z_aload_n C dX12_keepsLaw_111 rfl rfl ?_
      refine z_aload_n C dX12_keepsLaw_112 rfl rfl ?_
      refine z_geta (k := 25) (q := 14) C z_CF12 (by decide) flX12_49 rfl rfl dX12_keepsLaw_113 ?_
      refine z_iload_n C dX12_keepsLaw_116 rfl rfl ?_
      obtain ⟨b1, h⟩ := z_chk_some h
      refine z_iald C rfl rfl b1 dX12_keepsLaw_117 ?_
      obtain ⟨r2, σ3, mσ3, h⟩ := z_bnd2 h
      refine z_cvi (As := [.int (σ 14 (z_ix v1))]) (c := 0) (st := [.int v1, .ref (z_a X 14)]) C (t12_keeps (σ 14 (z_ix v1)) mσ3) kvX12_keeps rfl mlX12_483 z_CF12 rfl rfl (by decide) rfl (Nat.le_of_ble_eq_true rfl) dX12_keepsLaw_118 ?_
      obtain ⟨b4, h⟩ := z_chk_some h
      obtain ⟨σ5, eσ5, h⟩ := z_let_some h
      refine z_iast C rfl rfl b4 eσ5 dX12_keepsLaw_121 ?_
      refine z_aload_n C dX12_keepsLaw_122 rfl rfl ?_
      refine z_geta (k := 26) (q := 15) C z_CF12 (by decide) flX12_52 rfl rfl dX12_keepsLaw_123 ?_
      refine z_iload_n C dX12_keepsLaw_126 rfl rfl ?_
      refine z_aload_n C dX12_keepsLaw_127 rfl rfl ?_
      refine z_aload_n C dX12_keepsLaw_128 rfl rfl ?_
      refine z_geta (k := 26) (q := 15) C z_CF12 (by decide) flX12_52 rfl rfl dX12_keepsLaw_129 ?_
      refine z_iload_n C dX12_keepsLaw_132 rfl rfl ?_
      obtain ⟨b6, h⟩ := z_chk_some h
      refine z_iald C rfl rfl b6 dX12_keepsLaw_133 ?_
      obtain ⟨r7, σ8, mσ8, h⟩ := z_bnd2 h
      refine z_cvi (As := [.int (σ5 15 (z_ix v1))]) (c := 0) (st := [.int v1, .ref (z_a X 15)]) C (t12_keeps (σ5 15 (z_ix v1)) mσ8) kvX12_keeps rfl mlX12_483 z_CF12 rfl rfl (by decide) rfl (Nat.le_of_ble_eq_true rfl) dX12_keepsLaw_134 ?_
      obtain ⟨b9, h⟩ := z_chk_some h
      obtain ⟨σ10, eσ10, h⟩ := z_let_some h
      refine z_iast C rfl rfl b9 eσ10 dX12_keepsLaw_137 ?_
      refine z_iinc (v := v1 + 1) (lo' := [some (.ref (z_a X 0)), some (.int (v1 + 1))]) C dX12_keepsLaw_138 rfl rfl rfl ?_
      refine z_goto (tgt := 99) C dX12_keepsLaw_141 (by decide) ?_
      exact ih (v1 + 1) σ10 h
set_option maxHeartbeats 4000000 in
set_option maxRecDepth 100000 in
theorem t12_keepsLaw_J95 {X : z_Ct} (C : z_Cx S2 X RX12 cX12_keepsLaw 2 2 none) {u : Unit × z_M} (σ : z_M) (h : f12_keepsLaw_J95 σ = some u) : z_W S2 X 95 [some (.ref (z_a X 0)), none] [] σ (z_ov u) := by
  unfold f12_keepsLaw_J95 at h
  refine z_sipush (v := 400) C dX12_keepsLaw_95 (by decide) ?_
  refine z_istore_n (lo' := [some (.ref (z_a X 0)), some (.int 400)]) C dX12_keepsLaw_98 rfl (Nat.le_of_ble_eq_true rfl) rfl ?_
  exact t12_keepsLaw_L99 C _ 400 σ h
set_option maxHeartbeats 4000000 in
set_option maxRecDepth 100000 in
theorem t12_keepsLaw_L19 {X : z_Ct} (C : z_Cx S2 X RX12 cX12_keepsLaw 2 2 none) {u : Unit × z_M} : ∀ (n : Nat) (v1 : Int32) (σ : z_M), f12_keepsLaw_L19 n v1 σ = some u → z_W S2 X 19 [some (.ref (z_a X 0)), some (.int v1)] [] σ (z_ov u) := by
  intro n
  induction n with
  | zero => intro v1 σ h; rw [f12_keepsLaw_L19] at h; cases h
  | succ n ih =>
    intro v1 σ h
    rw [f12_keepsLaw_L19] at h
    refine z_iload_n C dX12_keepsLaw_19 rfl rfl ?_
    refine z_bipush (v := 32) C dX12_keepsLaw_20 (by decide) ?_
    refine z_icmp_ge (tgt := 95) C dX12_keepsLaw_22 (by decide) (fun hc => ?_) (fun hc => ?_)
    · replace h := z_neg hc h
      refine z_kill (lo' := [some (.ref (z_a X 0)), none]) [1] rfl ?_
      exact t12_keepsLaw_J95 C σ h
    · replace h := z_pos hc h
      refine z_aload_n C dX12_keepsLaw_25 rfl rfl ?_
      refine z_geta (k := 21) (q := 10) C z_CF12 (by decide) flX12_37 rfl rfl dX12_keepsLaw_26 ?_
      refine z_iload_n C dX12_keepsLaw_29 rfl rfl ?_
      refine z_aload_n C dX12_keepsLaw_30 rfl rfl ?_
      refine z_aload_n C dX12_keepsLaw_31 rfl rfl ?_
      refine z_geta (k := 21) (q := 10) C z_CF12 (by decide) flX12_37 rfl rfl dX12_keepsLaw_32 ?_
      refine z_iload_n C dX12_keepsLaw_35 rfl rfl ?_
      obtain ⟨b1, h⟩ := z_chk_some h
      refine z_iald C rfl rfl b1 dX12_keepsLaw_36 ?_
      obtain ⟨r2, σ3, mσ3, h⟩ := z_bnd2 h
      refine z_cvi (As := [.int (σ 10 (z_ix v1))]) (c := 0) (st := [.int v1, .ref (z_a X 10)]) C (t12_keeps (σ 10 (z_ix v1)) mσ3) kvX12_keeps rfl mlX12_483 z_CF12 rfl rfl (by decide) rfl (Nat.le_of_ble_eq_true rfl) dX12_keepsLaw_37 ?_
      obtain ⟨b4, h⟩ := z_chk_some h
      obtain ⟨σ5, eσ5, h⟩ := z_let_some h
      refine z_iast C rfl rfl b4 eσ5 dX12_keepsLaw_40 ?_
      refine z_aload_n C dX12_keepsLaw_41 rfl rfl ?_
      refine z_geta (k := 22) (q := 11) C z_CF12 (by decide) flX12_40 rfl rfl dX12_keepsLaw_42 ?_
      refine z_iload_n C dX12_keepsLaw_45 rfl rfl ?_
      refine z_aload_n C dX12_keepsLaw_46 rfl rfl ?_
      refine z_aload_n C dX12_keepsLaw_47 rfl rfl ?_
      refine z_geta (k := 22) (q := 11) C z_CF12 (by decide) flX12_40 rfl rfl dX12_keepsLaw_48 ?_
      refine z_iload_n C dX12_keepsLaw_51 rfl rfl ?_
      obtain ⟨b6, h⟩ := z_chk_some h
      refine z_iald C rfl rfl b6 dX12_keepsLaw_52 ?_
      obtain ⟨r7, σ8, mσ8, h⟩ := z_bnd2 h
      refine z_cvi (As := [.int (σ5 11 (z_ix v1))]) (c := 0) (st := [.int v1, .ref (z_a X 11)]) C (t12_keeps (σ5 11 (z_ix v1)) mσ8) kvX12_keeps rfl mlX12_483 z_CF12 rfl rfl (by decide) rfl (Nat.le_of_ble_eq_true rfl) dX12_keepsLaw_53 ?_
      obtain ⟨b9, h⟩ := z_chk_some h
      obtain ⟨σ10, eσ10, h⟩ := z_let_some h
      refine z_iast C rfl rfl b9 eσ10 dX12_keepsLaw_56 ?_
      refine z_aload_n C dX12_keepsLaw_57 rfl rfl ?_
      refine z_geta (k := 23) (q := 12) C z_CF12 (by decide) flX12_43 rfl rfl dX12_keepsLaw_58 ?_
      refine z_iload_n C dX12_keepsLaw_61 rfl rfl ?_
      refine z_aload_n C dX12_keepsLaw_62 rfl rfl ?_
      refine z_aload_n C dX12_keepsLaw_63 rfl rfl ?_
      refine z_geta (k := 23) (q := 12) C z_CF12 (by decide) flX12_43 rfl rfl dX12_keepsLaw_64 ?_
      refine z_iload_n C dX12_keepsLaw_67 rfl rfl ?_
      obtain ⟨b11, h⟩ := z_chk_some h
      refine z_iald C rfl rfl b11 dX12_keepsLaw_68 ?_
      obtain ⟨r12, σ13, mσ13, h⟩ := z_bnd2 h
      refine z_cvi (As := [.int (σ10 12 (z_ix v1))]) (c := 0) (st := [.int v1, .ref (z_a X 12)]) C (t12_keeps (σ10 12 (z_ix v1)) mσ13) kvX12_keeps rfl mlX12_483 z_CF12 rfl rfl (by decide) rfl (Nat.le_of_ble_eq_true rfl) dX12_keepsLaw_69 ?_
      obtain ⟨b14, h⟩ := z_chk_some h
      obtain ⟨σ15, eσ15, h⟩ := z_let_some h
      refine z_iast C rfl rfl b14 eσ15 dX12_keepsLaw_72 ?_
      refine z_aload_n C dX12_keepsLaw_73 rfl rfl ?_
      refine z_geta (k := 24) (q := 13) C z_CF12 (by decide) flX12_46 rfl rfl dX12_keepsLaw_74 ?_
      refine z_iload_n C dX12_keepsLaw_77 rfl rfl ?_
      refine z_aload_n C dX12_keepsLaw_78 rfl rfl ?_
      refine z_aload_n C dX12_keepsLaw_79 rfl rfl ?_
      refine z_geta (k := 24) (q := 13) C z_CF12 (by decide) flX12_46 rfl rfl dX12_keepsLaw_80 ?_
      refine z_iload_n C dX12_keepsLaw_83 rfl rfl ?_
      obtain ⟨b16, h⟩ := z_chk_some h
      refine z_iald C rfl rfl b16 dX12_keepsLaw_84 ?_
      obtain ⟨r17, σ18, mσ18, h⟩ := z_bnd2 h
      refine z_cvi (As := [.int (σ15 13 (z_ix v1))]) (c := 0) (st := [.int v1, .ref (z_a X 13)]) C (t12_keeps (σ15 13 (z_ix v1)) mσ18) kvX12_keeps rfl mlX12_483 z_CF12 rfl rfl (by decide) rfl (Nat.le_of_ble_eq_true rfl) dX12_keepsLaw_85 ?_
      obtain ⟨b19, h⟩ := z_chk_some h
      obtain ⟨σ20, eσ20, h⟩ := z_let_some h
      refine z_iast C rfl rfl b19 eσ20 dX12_keepsLaw_88 ?_
      refine z_iinc (v := v1 + 1) (lo' := [some (.ref (z_a X 0)), some (.int (v1 + 1))]) C dX12_keepsLaw_89 rfl rfl rfl ?_
      refine z_goto (tgt := 19) C dX12_keepsLaw_92 (by decide) ?_
      exact ih (v1 + 1) σ20 h
set_option maxHeartbeats 4000000 in
set_option maxRecDepth 100000 in
theorem t12_keepsLaw {a : Nat → Nat} {σ : z_M} {u : Unit × z_M} (h : f12_keepsLaw σ = some u) : z_Mt yX12_keepsLaw (z_w yX12_keepsLaw cX12_keepsLaw 2 none) 2 S2 a σ [.ref (a 0)] (z_ov u) := by
  refine z_head (lo := [some (.ref (a 0)), none]) (by decide) (Nat.le_of_ble_eq_true rfl) ?_ rfl ?_
  · intro i v hv
    exact z_loe (vs := [.ref (a 0)]) (n := 1) rfl (by simp [z_c1i, z_c1r]) i v hv
  · intro X hXa C
    subst hXa
    unfold f12_keepsLaw at h
    refine z_aload_n C dX12_keepsLaw_0 rfl rfl ?_
    refine z_geta (k := 20) (q := 9) C z_CF12 (by decide) flX12_34 rfl rfl dX12_keepsLaw_1 ?_
    refine z_iconst (v := 1) C dX12_keepsLaw_4 (by decide) ?_
    refine z_aload_n C dX12_keepsLaw_5 rfl rfl ?_
    refine z_aload_n C dX12_keepsLaw_6 rfl rfl ?_
    refine z_geta (k := 20) (q := 9) C z_CF12 (by decide) flX12_34 rfl rfl dX12_keepsLaw_7 ?_
    refine z_iconst (v := 1) C dX12_keepsLaw_10 (by decide) ?_
    obtain ⟨b1, h⟩ := z_chk_some h
    refine z_iald C rfl rfl b1 dX12_keepsLaw_11 ?_
    obtain ⟨r2, σ3, mσ3, h⟩ := z_bnd2 h
    refine z_cvi (As := [.int (σ 9 (z_ix 1))]) (c := 0) (st := [.int 1, .ref (z_a X 9)]) C (t12_keeps (σ 9 (z_ix 1)) mσ3) kvX12_keeps rfl mlX12_483 z_CF12 rfl rfl (by decide) rfl (Nat.le_of_ble_eq_true rfl) dX12_keepsLaw_12 ?_
    obtain ⟨b4, h⟩ := z_chk_some h
    obtain ⟨σ5, eσ5, h⟩ := z_let_some h
    refine z_iast C rfl rfl b4 eσ5 dX12_keepsLaw_15 ?_
    refine z_bipush (v := 16) C dX12_keepsLaw_16 (by decide) ?_
    refine z_istore_n (lo' := [some (.ref (z_a X 0)), some (.int 16)]) C dX12_keepsLaw_18 rfl (Nat.le_of_ble_eq_true rfl) rfl ?_
    exact t12_keepsLaw_L19 C _ 16 σ5 h
set_option maxHeartbeats 4000000 in
set_option maxRecDepth 100000 in
theorem t12_keepsTold_L266 {X : z_Ct} (C : z_Cx S2 X RX12 cX12_keepsTold 2 2 none) {u : Unit × z_M} : ∀ (n : Nat) (v1 : Int32) (σ : z_M), f12_keepsTold_L266 n v1 σ = some u → z_W S2 X 266 [some (.ref (z_a X 0)), some (.int v1)] [] σ (z_ov u) := by
  intro n
  induction n with
  | zero => intro v1 σ h; rw [f12_keepsTold_L266] at h; cases h
  | succ n ih =>
    intro v1 σ h
    rw [f12_keepsTold_L266] at h
    refine z_iload_n C dX12_keepsTold_266 rfl rfl ?_
    refine z_bipush (v := 80) C dX12_keepsTold_267 (by decide) ?_
    refine z_icmp_ge (tgt := 294) C dX12_keepsTold_269 (by decide) (fun hc => ?_) (fun hc => ?_)
    · replace h := z_neg hc h
      exact z_vret C h dX12_keepsTold_294
    · replace h := z_pos hc h
      refine z_aload_n C dX12_keepsTold_272 rfl rfl ?_
      refine z_geta (k := 41) (q := 19) C z_CF12 (by decide) flX12_68 rfl rfl dX12_keepsTold_273 ?_
      refine z_iload_n C dX12_keepsTold_276 rfl rfl ?_
      refine z_aload_n C dX12_keepsTold_277 rfl rfl ?_
      refine z_aload_n C dX12_keepsTold_278 rfl rfl ?_
      refine z_geta (k := 41) (q := 19) C z_CF12 (by decide) flX12_68 rfl rfl dX12_keepsTold_279 ?_
      refine z_iload_n C dX12_keepsTold_282 rfl rfl ?_
      obtain ⟨b1, h⟩ := z_chk_some h
      refine z_iald C rfl rfl b1 dX12_keepsTold_283 ?_
      obtain ⟨r2, σ3, mσ3, h⟩ := z_bnd2 h
      refine z_cvi (As := [.int (σ 19 (z_ix v1))]) (c := 0) (st := [.int v1, .ref (z_a X 19)]) C (t12_keeps (σ 19 (z_ix v1)) mσ3) kvX12_keeps rfl mlX12_483 z_CF12 rfl rfl (by decide) rfl (Nat.le_of_ble_eq_true rfl) dX12_keepsTold_284 ?_
      obtain ⟨b4, h⟩ := z_chk_some h
      obtain ⟨σ5, eσ5, h⟩ := z_let_some h
      refine z_iast C rfl rfl b4 eσ5 dX12_keepsTold_287 ?_
      refine z_iinc (v := v1 + 1) (lo' := [some (.ref (z_a X 0)), some (.int (v1 + 1))]) C dX12_keepsTold_288 rfl rfl rfl ?_
      refine z_goto (tgt := 266) C dX12_keepsTold_291 (by decide) ?_
      exact ih (v1 + 1) σ5 h
set_option maxHeartbeats 4000000 in
set_option maxRecDepth 100000 in
theorem t12_keepsTold_J264 {X : z_Ct} (C : z_Cx S2 X RX12 cX12_keepsTold 2 2 none) {u : Unit × z_M} (σ : z_M) (h : f12_keepsTold_J264 σ = some u) : z_W S2 X 264 [some (.ref (z_a X 0)), none] [] σ (z_ov u) := by
  unfold f12_keepsTold_J264 at h
  refine z_iconst (v := 0) C dX12_keepsTold_264 (by decide) ?_
  refine z_istore_n (lo' := [some (.ref (z_a X 0)), some (.int 0)]) C dX12_keepsTold_265 rfl (Nat.le_of_ble_eq_true rfl) rfl ?_
  exact t12_keepsTold_L266 C _ 0 σ h
set_option maxHeartbeats 4000000 in
set_option maxRecDepth 100000 in
theorem t12_keepsTold_L236 {X : z_Ct} (C : z_Cx S2 X RX12 cX12_keepsTold 2 2 none) {u : Unit × z_M} : ∀ (n : Nat) (v1 : Int32) (σ : z_M), f12_keepsTold_L236 n v1 σ = some u → z_W S2 X 236 [some (.ref (z_a X 0)), some (.int v1)] [] σ (z_ov u) := by
  intro n
  induction n with
  | zero => intro v1 σ h; rw [f12_keepsTold_L236] at h; cases h
  | succ n ih =>
    intro v1 σ h
    rw [f12_keepsTold_L236] at h
    refine z_iload_n C dX12_keepsTold_236 rfl rfl ?_
    refine z_bipush (v := 36) C dX12_keepsTold_237 (by decide) ?_
    refine z_icmp_ge (tgt := 264) C dX12_keepsTold_239 (by decide) (fun hc => ?_) (fun hc => ?_)
    · replace h := z_neg hc h
      refine z_kill (lo' := [some (.ref (z_a X 0)), none]) [1] rfl ?_
      exact t12_keepsTold_J264 C σ h
    · replace h := z_pos hc h
      refine z_aload_n C dX12_keepsTold_242 rfl rfl ?_
      refine z_geta (k := 39) (q := 18) C z_CF12 (by decide) flX12_65 rfl rfl dX12_keepsTold_243 ?_
      refine z_iload_n C dX12_keepsTold_246 rfl rfl ?_
      refine z_aload_n C dX12_keepsTold_247 rfl rfl ?_
      refine z_aload_n C dX12_keepsTold_248 rfl rfl ?_
      refine z_geta (k := 39) (q := 18) C z_CF12 (by decide) flX12_65 rfl rfl dX12_keepsTold_249 ?_
      refine z_iload_n C dX12_keepsTold_252 rfl rfl ?_
      obtain ⟨b1, h⟩ := z_chk_some h
      refine z_iald C rfl rfl b1 dX12_keepsTold_253 ?_
      obtain ⟨r2, σ3, mσ3, h⟩ := z_bnd2 h
      refine z_cvi (As := [.int (σ 18 (z_ix v1))]) (c := 0) (st := [.int v1, .ref (z_a X 18)]) C (t12_keeps (σ 18 (z_ix v1)) mσ3) kvX12_keeps rfl mlX12_483 z_CF12 rfl rfl (by decide) rfl (Nat.le_of_ble_eq_true rfl) dX12_keepsTold_254 ?_
      obtain ⟨b4, h⟩ := z_chk_some h
      obtain ⟨σ5, eσ5, h⟩ := z_let_some h
      refine z_iast C rfl rfl b4 eσ5 dX12_keepsTold_257 ?_
      refine z_iinc (v := v1 + 1) (lo' := [some (.ref (z_a X 0)), some (.int (v1 + 1))]) C dX12_keepsTold_258 rfl rfl rfl ?_
      refine z_goto (tgt := 236) C dX12_keepsTold_261 (by decide) ?_
      exact ih (v1 + 1) σ5 h
set_option maxHeartbeats 4000000 in
set_option maxRecDepth 100000 in
theorem t12_keepsTold_J234 {X : z_Ct} (C : z_Cx S2 X RX12 cX12_keepsTold 2 2 none) {u : Unit × z_M} (σ : z_M) (h : f12_keepsTold_J234 σ = some u) : z_W S2 X 234 [some (.ref (z_a X 0)), none] [] σ (z_ov u) := by
  unfold f12_keepsTold_J234 at h
  refine z_iconst (v := 0) C dX12_keepsTold_234 (by decide) ?_
  refine z_istore_n (lo' := [some (.ref (z_a X 0)), some (.int 0)]) C dX12_keepsTold_235 rfl (Nat.le_of_ble_eq_true rfl) rfl ?_
  exact t12_keepsTold_L236 C _ 0 σ h
set_option maxHeartbeats 4000000 in
set_option maxRecDepth 100000 in
theorem t12_keepsTold_L206 {X : z_Ct} (C : z_Cx S2 X RX12 cX12_keepsTold 2 2 none) {u : Unit × z_M} : ∀ (n : Nat) (v1 : Int32) (σ : z_M), f12_keepsTold_L206 n v1 σ = some u → z_W S2 X 206 [some (.ref (z_a X 0)), some (.int v1)] [] σ (z_ov u) := by
  intro n
  induction n with
  | zero => intro v1 σ h; rw [f12_keepsTold_L206] at h; cases h
  | succ n ih =>
    intro v1 σ h
    rw [f12_keepsTold_L206] at h
    refine z_iload_n C dX12_keepsTold_206 rfl rfl ?_
    refine z_bipush (v := 48) C dX12_keepsTold_207 (by decide) ?_
    refine z_icmp_ge (tgt := 234) C dX12_keepsTold_209 (by decide) (fun hc => ?_) (fun hc => ?_)
    · replace h := z_neg hc h
      refine z_kill (lo' := [some (.ref (z_a X 0)), none]) [1] rfl ?_
      exact t12_keepsTold_J234 C σ h
    · replace h := z_pos hc h
      refine z_aload_n C dX12_keepsTold_212 rfl rfl ?_
      refine z_geta (k := 37) (q := 17) C z_CF12 (by decide) flX12_62 rfl rfl dX12_keepsTold_213 ?_
      refine z_iload_n C dX12_keepsTold_216 rfl rfl ?_
      refine z_aload_n C dX12_keepsTold_217 rfl rfl ?_
      refine z_aload_n C dX12_keepsTold_218 rfl rfl ?_
      refine z_geta (k := 37) (q := 17) C z_CF12 (by decide) flX12_62 rfl rfl dX12_keepsTold_219 ?_
      refine z_iload_n C dX12_keepsTold_222 rfl rfl ?_
      obtain ⟨b1, h⟩ := z_chk_some h
      refine z_iald C rfl rfl b1 dX12_keepsTold_223 ?_
      obtain ⟨r2, σ3, mσ3, h⟩ := z_bnd2 h
      refine z_cvi (As := [.int (σ 17 (z_ix v1))]) (c := 0) (st := [.int v1, .ref (z_a X 17)]) C (t12_keeps (σ 17 (z_ix v1)) mσ3) kvX12_keeps rfl mlX12_483 z_CF12 rfl rfl (by decide) rfl (Nat.le_of_ble_eq_true rfl) dX12_keepsTold_224 ?_
      obtain ⟨b4, h⟩ := z_chk_some h
      obtain ⟨σ5, eσ5, h⟩ := z_let_some h
      refine z_iast C rfl rfl b4 eσ5 dX12_keepsTold_227 ?_
      refine z_iinc (v := v1 + 1) (lo' := [some (.ref (z_a X 0)), some (.int (v1 + 1))]) C dX12_keepsTold_228 rfl rfl rfl ?_
      refine z_goto (tgt := 206) C dX12_keepsTold_231 (by decide) ?_
      exact ih (v1 + 1) σ5 h
set_option maxHeartbeats 4000000 in
set_option maxRecDepth 100000 in
theorem t12_keepsTold_J204 {X : z_Ct} (C : z_Cx S2 X RX12 cX12_keepsTold 2 2 none) {u : Unit × z_M} (σ : z_M) (h : f12_keepsTold_J204 σ = some u) : z_W S2 X 204 [some (.ref (z_a X 0)), none] [] σ (z_ov u) := by
  unfold f12_keepsTold_J204 at h
  refine z_iconst (v := 0) C dX12_keepsTold_204 (by decide) ?_
  refine z_istore_n (lo' := [some (.ref (z_a X 0)), some (.int 0)]) C dX12_keepsTold_205 rfl (Nat.le_of_ble_eq_true rfl) rfl ?_
  exact t12_keepsTold_L206 C _ 0 σ h
set_option maxHeartbeats 4000000 in
set_option maxRecDepth 100000 in
theorem t12_keepsTold_L144 {X : z_Ct} (C : z_Cx S2 X RX12 cX12_keepsTold 2 2 none) {u : Unit × z_M} : ∀ (n : Nat) (v1 : Int32) (σ : z_M), f12_keepsTold_L144 n v1 σ = some u → z_W S2 X 144 [some (.ref (z_a X 0)), some (.int v1)] [] σ (z_ov u) := by
  intro n
  induction n with
  | zero => intro v1 σ h; rw [f12_keepsTold_L144] at h; cases h
  | succ n ih =>
    intro v1 σ h
    rw [f12_keepsTold_L144] at h
    refine z_iload_n C dX12_keepsTold_144 rfl rfl ?_
    refine z_bipush (v := 12) C dX12_keepsTold_145 (by decide) ?_
    refine z_icmp_ge (tgt := 204) C dX12_keepsTold_147 (by decide) (fun hc => ?_) (fun hc => ?_)
    · replace h := z_neg hc h
      refine z_kill (lo' := [some (.ref (z_a X 0)), none]) [1] rfl ?_
      exact t12_keepsTold_J204 C σ h
    · replace h := z_pos hc h
      refine z_aload_n C dX12_keepsTold_150 rfl rfl ?_
      refine z_geta (k := 53) (q := 29) C z_CF12 (by decide) flX12_98 rfl rfl dX12_keepsTold_151 ?_
      refine z_iload_n C dX12_keepsTold_154 rfl rfl ?_
      refine z_aload_n C dX12_keepsTold_155 rfl rfl ?_
      refine z_aload_n C dX12_keepsTold_156 rfl rfl ?_
      refine z_geta (k := 53) (q := 29) C z_CF12 (by decide) flX12_98 rfl rfl dX12_keepsTold_157 ?_
      refine z_iload_n C dX12_keepsTold_160 rfl rfl ?_
      obtain ⟨b1, h⟩ := z_chk_some h
      refine z_iald C rfl rfl b1 dX12_keepsTold_161 ?_
      obtain ⟨r2, σ3, mσ3, h⟩ := z_bnd2 h
      refine z_cvi (As := [.int (σ 29 (z_ix v1))]) (c := 0) (st := [.int v1, .ref (z_a X 29)]) C (t12_keeps (σ 29 (z_ix v1)) mσ3) kvX12_keeps rfl mlX12_483 z_CF12 rfl rfl (by decide) rfl (Nat.le_of_ble_eq_true rfl) dX12_keepsTold_162 ?_
      obtain ⟨b4, h⟩ := z_chk_some h
      obtain ⟨σ5, eσ5, h⟩ := z_let_some h
      refine z_iast C rfl rfl b4 eσ5 dX12_keepsTold_165 ?_
      refine z_aload_n C dX12_keepsTold_166 rfl rfl ?_
      refine z_geta (k := 54) (q := 30) C z_CF12 (by decide) flX12_101 rfl rfl dX12_keepsTold_167 ?_
      refine z_iload_n C dX12_keepsTold_170 rfl rfl ?_
      refine z_aload_n C dX12_keepsTold_171 rfl rfl ?_
      refine z_aload_n C dX12_keepsTold_172 rfl rfl ?_
      refine z_geta (k := 54) (q := 30) C z_CF12 (by decide) flX12_101 rfl rfl dX12_keepsTold_173 ?_
      refine z_iload_n C dX12_keepsTold_176 rfl rfl ?_
      obtain ⟨b6, h⟩ := z_chk_some h
      refine z_iald C rfl rfl b6 dX12_keepsTold_177 ?_
      obtain ⟨r7, σ8, mσ8, h⟩ := z_bnd2 h
      refine z_cvi (As := [.int (σ5 30 (z_ix v1))]) (c := 0) (st := [.int v1, .ref (z_a X 30)]) C (t12_keeps (σ5 30 (z_ix v1)) mσ8) kvX12_keeps rfl mlX12_483 z_CF12 rfl rfl (by decide) rfl (Nat.le_of_ble_eq_true rfl) dX12_keepsTold_178 ?_
      obtain ⟨b9, h⟩ := z_chk_some h
      obtain ⟨σ10, eσ10, h⟩ := z_let_some h
      refine z_iast C rfl rfl b9 eσ10 dX12_keepsTold_181 ?_
      refine z_aload_n C dX12_keepsTold_182 rfl rfl ?_
      refine z_geta (k := 55) (q := 31) C z_CF12 (by decide) flX12_104 rfl rfl dX12_keepsTold_183 ?_
      refine z_iload_n C dX12_keepsTold_186 rfl rfl ?_
      refine z_aload_n C dX12_keepsTold_187 rfl rfl ?_
      refine z_aload_n C dX12_keepsTold_188 rfl rfl ?_
      refine z_geta (k := 55) (q := 31) C z_CF12 (by decide) flX12_104 rfl rfl dX12_keepsTold_189 ?_
      refine z_iload_n C dX12_keepsTold_192 rfl rfl ?_
      obtain ⟨b11, h⟩ := z_chk_some h
      refine z_iald C rfl rfl b11 dX12_keepsTold_193 ?_
      obtain ⟨r12, σ13, mσ13, h⟩ := z_bnd2 h
      refine z_cvi (As := [.int (σ10 31 (z_ix v1))]) (c := 0) (st := [.int v1, .ref (z_a X 31)]) C (t12_keeps (σ10 31 (z_ix v1)) mσ13) kvX12_keeps rfl mlX12_483 z_CF12 rfl rfl (by decide) rfl (Nat.le_of_ble_eq_true rfl) dX12_keepsTold_194 ?_
      obtain ⟨b14, h⟩ := z_chk_some h
      obtain ⟨σ15, eσ15, h⟩ := z_let_some h
      refine z_iast C rfl rfl b14 eσ15 dX12_keepsTold_197 ?_
      refine z_iinc (v := v1 + 1) (lo' := [some (.ref (z_a X 0)), some (.int (v1 + 1))]) C dX12_keepsTold_198 rfl rfl rfl ?_
      refine z_goto (tgt := 144) C dX12_keepsTold_201 (by decide) ?_
      exact ih (v1 + 1) σ15 h
set_option maxHeartbeats 4000000 in
set_option maxRecDepth 100000 in
theorem t12_keepsTold_J142 {X : z_Ct} (C : z_Cx S2 X RX12 cX12_keepsTold 2 2 none) {u : Unit × z_M} (σ : z_M) (h : f12_keepsTold_J142 σ = some u) : z_W S2 X 142 [some (.ref (z_a X 0)), none] [] σ (z_ov u) := by
  unfold f12_keepsTold_J142 at h
  refine z_iconst (v := 0) C dX12_keepsTold_142 (by decide) ?_
  refine z_istore_n (lo' := [some (.ref (z_a X 0)), some (.int 0)]) C dX12_keepsTold_143 rfl (Nat.le_of_ble_eq_true rfl) rfl ?_
  exact t12_keepsTold_L144 C _ 0 σ h
set_option maxHeartbeats 4000000 in
set_option maxRecDepth 100000 in
theorem t12_keepsTold_L98 {X : z_Ct} (C : z_Cx S2 X RX12 cX12_keepsTold 2 2 none) {u : Unit × z_M} : ∀ (n : Nat) (v1 : Int32) (σ : z_M), f12_keepsTold_L98 n v1 σ = some u → z_W S2 X 98 [some (.ref (z_a X 0)), some (.int v1)] [] σ (z_ov u) := by
  intro n
  induction n with
  | zero => intro v1 σ h; rw [f12_keepsTold_L98] at h; cases h
  | succ n ih =>
    intro v1 σ h
    rw [f12_keepsTold_L98] at h
    refine z_iload_n C dX12_keepsTold_98 rfl rfl ?_
    refine z_bipush (v := 8) C dX12_keepsTold_99 (by decide) ?_
    refine z_icmp_ge (tgt := 142) C dX12_keepsTold_101 (by decide) (fun hc => ?_) (fun hc => ?_)
    · replace h := z_neg hc h
      refine z_kill (lo' := [some (.ref (z_a X 0)), none]) [1] rfl ?_
      exact t12_keepsTold_J142 C σ h
    · replace h := z_pos hc h
      refine z_aload_n C dX12_keepsTold_104 rfl rfl ?_
      refine z_geta (k := 10) (q := 4) C z_CF12 (by decide) flX12_19 rfl rfl dX12_keepsTold_105 ?_
      refine z_iload_n C dX12_keepsTold_108 rfl rfl ?_
      refine z_aload_n C dX12_keepsTold_109 rfl rfl ?_
      refine z_aload_n C dX12_keepsTold_110 rfl rfl ?_
      refine z_geta (k := 10) (q := 4) C z_CF12 (by decide) flX12_19 rfl rfl dX12_keepsTold_111 ?_
      refine z_iload_n C dX12_keepsTold_114 rfl rfl ?_
      obtain ⟨b1, h⟩ := z_chk_some h
      refine z_iald C rfl rfl b1 dX12_keepsTold_115 ?_
      obtain ⟨r2, σ3, mσ3, h⟩ := z_bnd2 h
      refine z_cvi (As := [.int (σ 4 (z_ix v1))]) (c := 0) (st := [.int v1, .ref (z_a X 4)]) C (t12_keeps (σ 4 (z_ix v1)) mσ3) kvX12_keeps rfl mlX12_483 z_CF12 rfl rfl (by decide) rfl (Nat.le_of_ble_eq_true rfl) dX12_keepsTold_116 ?_
      obtain ⟨b4, h⟩ := z_chk_some h
      obtain ⟨σ5, eσ5, h⟩ := z_let_some h
      refine z_iast C rfl rfl b4 eσ5 dX12_keepsTold_119 ?_
      refine z_aload_n C dX12_keepsTold_120 rfl rfl ?_
      refine z_geta (k := 11) (q := 5) C z_CF12 (by decide) flX12_22 rfl rfl dX12_keepsTold_121 ?_
      refine z_iload_n C dX12_keepsTold_124 rfl rfl ?_
      refine z_aload_n C dX12_keepsTold_125 rfl rfl ?_
      refine z_aload_n C dX12_keepsTold_126 rfl rfl ?_
      refine z_geta (k := 11) (q := 5) C z_CF12 (by decide) flX12_22 rfl rfl dX12_keepsTold_127 ?_
      refine z_iload_n C dX12_keepsTold_130 rfl rfl ?_
      obtain ⟨b6, h⟩ := z_chk_some h
      refine z_iald C rfl rfl b6 dX12_keepsTold_131 ?_
      obtain ⟨r7, σ8, mσ8, h⟩ := z_bnd2 h
      refine z_cvi (As := [.int (σ5 5 (z_ix v1))]) (c := 0) (st := [.int v1, .ref (z_a X 5)]) C (t12_keeps (σ5 5 (z_ix v1)) mσ8) kvX12_keeps rfl mlX12_483 z_CF12 rfl rfl (by decide) rfl (Nat.le_of_ble_eq_true rfl) dX12_keepsTold_132 ?_
      obtain ⟨b9, h⟩ := z_chk_some h
      obtain ⟨σ10, eσ10, h⟩ := z_let_some h
      refine z_iast C rfl rfl b9 eσ10 dX12_keepsTold_135 ?_
      refine z_iinc (v := v1 + 1) (lo' := [some (.ref (z_a X 0)), some (.int (v1 + 1))]) C dX12_keepsTold_136 rfl rfl rfl ?_
      refine z_goto (tgt := 98) C dX12_keepsTold_139 (by decide) ?_
      exact ih (v1 + 1) σ10 h
set_option maxHeartbeats 4000000 in
set_option maxRecDepth 100000 in
theorem t12_keepsTold {a : Nat → Nat} {σ : z_M} {u : Unit × z_M} (h : f12_keepsTold σ = some u) : z_Mt yX12_keepsTold (z_w yX12_keepsTold cX12_keepsTold 2 none) 2 S2 a σ [.ref (a 0)] (z_ov u) := by
  refine z_head (lo := [some (.ref (a 0)), none]) (by decide) (Nat.le_of_ble_eq_true rfl) ?_ rfl ?_
  · intro i v hv
    exact z_loe (vs := [.ref (a 0)]) (n := 1) rfl (by simp [z_c1i, z_c1r]) i v hv
  · intro X hXa C
    subst hXa
    unfold f12_keepsTold at h
    refine z_aload_n C dX12_keepsTold_0 rfl rfl ?_
    refine z_aload_n C dX12_keepsTold_1 rfl rfl ?_
    refine z_aload_n C dX12_keepsTold_2 rfl rfl ?_
    refine z_geti (k := 6) C z_CF12 (by decide) flX12_131 rfl rfl dX12_keepsTold_3 ?_
    obtain ⟨r1, σ2, mσ2, h⟩ := z_bnd2 h
    refine z_cvi (As := [.int (σ 0 6)]) (c := 0) (st := [.ref (z_a X 0)]) C (t12_keeps (σ 0 6) mσ2) kvX12_keeps rfl mlX12_483 z_CF12 rfl rfl (by decide) rfl (Nat.le_of_ble_eq_true rfl) dX12_keepsTold_6 ?_
    obtain ⟨σ3, eσ3, h⟩ := z_let_some h
    refine z_puti (k := 6) C z_CF12 (by decide) flX12_131 rfl rfl rfl rfl eσ3 dX12_keepsTold_9 ?_
    refine z_aload_n C dX12_keepsTold_12 rfl rfl ?_
    refine z_aload_n C dX12_keepsTold_13 rfl rfl ?_
    refine z_aload_n C dX12_keepsTold_14 rfl rfl ?_
    refine z_geti (k := 7) C z_CF12 (by decide) flX12_128 rfl rfl dX12_keepsTold_15 ?_
    obtain ⟨r4, σ5, mσ5, h⟩ := z_bnd2 h
    refine z_cvi (As := [.int (σ3 0 7)]) (c := 0) (st := [.ref (z_a X 0)]) C (t12_keeps (σ3 0 7) mσ5) kvX12_keeps rfl mlX12_483 z_CF12 rfl rfl (by decide) rfl (Nat.le_of_ble_eq_true rfl) dX12_keepsTold_18 ?_
    obtain ⟨σ6, eσ6, h⟩ := z_let_some h
    refine z_puti (k := 7) C z_CF12 (by decide) flX12_128 rfl rfl rfl rfl eσ6 dX12_keepsTold_21 ?_
    refine z_aload_n C dX12_keepsTold_24 rfl rfl ?_
    refine z_aload_n C dX12_keepsTold_25 rfl rfl ?_
    refine z_aload_n C dX12_keepsTold_26 rfl rfl ?_
    refine z_geti (k := 8) C z_CF12 (by decide) flX12_150 rfl rfl dX12_keepsTold_27 ?_
    obtain ⟨r7, σ8, mσ8, h⟩ := z_bnd2 h
    refine z_cvi (As := [.int (σ6 0 8)]) (c := 0) (st := [.ref (z_a X 0)]) C (t12_keeps (σ6 0 8) mσ8) kvX12_keeps rfl mlX12_483 z_CF12 rfl rfl (by decide) rfl (Nat.le_of_ble_eq_true rfl) dX12_keepsTold_30 ?_
    obtain ⟨σ9, eσ9, h⟩ := z_let_some h
    refine z_puti (k := 8) C z_CF12 (by decide) flX12_150 rfl rfl rfl rfl eσ9 dX12_keepsTold_33 ?_
    refine z_aload_n C dX12_keepsTold_36 rfl rfl ?_
    refine z_aload_n C dX12_keepsTold_37 rfl rfl ?_
    refine z_aload_n C dX12_keepsTold_38 rfl rfl ?_
    refine z_geti (k := 9) C z_CF12 (by decide) flX12_153 rfl rfl dX12_keepsTold_39 ?_
    obtain ⟨r10, σ11, mσ11, h⟩ := z_bnd2 h
    refine z_cvi (As := [.int (σ9 0 9)]) (c := 0) (st := [.ref (z_a X 0)]) C (t12_keeps (σ9 0 9) mσ11) kvX12_keeps rfl mlX12_483 z_CF12 rfl rfl (by decide) rfl (Nat.le_of_ble_eq_true rfl) dX12_keepsTold_42 ?_
    obtain ⟨σ12, eσ12, h⟩ := z_let_some h
    refine z_puti (k := 9) C z_CF12 (by decide) flX12_153 rfl rfl rfl rfl eσ12 dX12_keepsTold_45 ?_
    refine z_aload_n C dX12_keepsTold_48 rfl rfl ?_
    refine z_aload_n C dX12_keepsTold_49 rfl rfl ?_
    refine z_aload_n C dX12_keepsTold_50 rfl rfl ?_
    refine z_geti (k := 36) C z_CF12 (by decide) flX12_297 rfl rfl dX12_keepsTold_51 ?_
    obtain ⟨r13, σ14, mσ14, h⟩ := z_bnd2 h
    refine z_cvi (As := [.int (σ12 0 36)]) (c := 0) (st := [.ref (z_a X 0)]) C (t12_keeps (σ12 0 36) mσ14) kvX12_keeps rfl mlX12_483 z_CF12 rfl rfl (by decide) rfl (Nat.le_of_ble_eq_true rfl) dX12_keepsTold_54 ?_
    obtain ⟨σ15, eσ15, h⟩ := z_let_some h
    refine z_puti (k := 36) C z_CF12 (by decide) flX12_297 rfl rfl rfl rfl eσ15 dX12_keepsTold_57 ?_
    refine z_aload_n C dX12_keepsTold_60 rfl rfl ?_
    refine z_aload_n C dX12_keepsTold_61 rfl rfl ?_
    refine z_aload_n C dX12_keepsTold_62 rfl rfl ?_
    refine z_geti (k := 38) C z_CF12 (by decide) flX12_303 rfl rfl dX12_keepsTold_63 ?_
    obtain ⟨r16, σ17, mσ17, h⟩ := z_bnd2 h
    refine z_cvi (As := [.int (σ15 0 38)]) (c := 0) (st := [.ref (z_a X 0)]) C (t12_keeps (σ15 0 38) mσ17) kvX12_keeps rfl mlX12_483 z_CF12 rfl rfl (by decide) rfl (Nat.le_of_ble_eq_true rfl) dX12_keepsTold_66 ?_
    obtain ⟨σ18, eσ18, h⟩ := z_let_some h
    refine z_puti (k := 38) C z_CF12 (by decide) flX12_303 rfl rfl rfl rfl eσ18 dX12_keepsTold_69 ?_
    refine z_aload_n C dX12_keepsTold_72 rfl rfl ?_
    refine z_aload_n C dX12_keepsTold_73 rfl rfl ?_
    refine z_aload_n C dX12_keepsTold_74 rfl rfl ?_
    refine z_geti (k := 40) C z_CF12 (by decide) flX12_300 rfl rfl dX12_keepsTold_75 ?_
    obtain ⟨r19, σ20, mσ20, h⟩ := z_bnd2 h
    refine z_cvi (As := [.int (σ18 0 40)]) (c := 0) (st := [.ref (z_a X 0)]) C (t12_keeps (σ18 0 40) mσ20) kvX12_keeps rfl mlX12_483 z_CF12 rfl rfl (by decide) rfl (Nat.le_of_ble_eq_true rfl) dX12_keepsTold_78 ?_
    obtain ⟨σ21, eσ21, h⟩ := z_let_some h
    refine z_puti (k := 40) C z_CF12 (by decide) flX12_300 rfl rfl rfl rfl eσ21 dX12_keepsTold_81 ?_
    refine z_aload_n C dX12_keepsTold_84 rfl rfl ?_
    refine z_aload_n C dX12_keepsTold_85 rfl rfl ?_
    refine z_aload_n C dX12_keepsTold_86 rfl rfl ?_
    refine z_geti (k := 52) C z_CF12 (by decide) flX12_459 rfl rfl dX12_keepsTold_87 ?_
    obtain ⟨r22, σ23, mσ23, h⟩ := z_bnd2 h
    refine z_cvi (As := [.int (σ21 0 52)]) (c := 0) (st := [.ref (z_a X 0)]) C (t12_keeps (σ21 0 52) mσ23) kvX12_keeps rfl mlX12_483 z_CF12 rfl rfl (by decide) rfl (Nat.le_of_ble_eq_true rfl) dX12_keepsTold_90 ?_
    obtain ⟨σ24, eσ24, h⟩ := z_let_some h
    refine z_puti (k := 52) C z_CF12 (by decide) flX12_459 rfl rfl rfl rfl eσ24 dX12_keepsTold_93 ?_
    refine z_iconst (v := 0) C dX12_keepsTold_96 (by decide) ?_
    refine z_istore_n (lo' := [some (.ref (z_a X 0)), some (.int 0)]) C dX12_keepsTold_97 rfl (Nat.le_of_ble_eq_true rfl) rfl ?_
    exact t12_keepsTold_L98 C _ 0 σ24 h
set_option maxHeartbeats 4000000 in
set_option maxRecDepth 100000 in
theorem t12_image_J98 {X : z_Ct} (C : z_Cx S2 X RX12 cX12_image 3 3 (some .boolean)) {u : Int32 × z_M} (v1 : Int32) (σ : z_M) (h : f12_image_J98 v1 σ = some u) : z_W S2 X 98 [some (.ref (z_a X 0)), some (.int v1), none] [] σ (z_oi u) := by
  unfold f12_image_J98 at h
  refine z_aload_n C dX12_image_98 rfl rfl ?_
  obtain ⟨⟨⟩, σ2, mσ2, h⟩ := z_bnd2 h
  refine z_cvv (As := []) (c := 0) (st := []) C (t12_keepsLaw mσ2) kvX12_keepsLaw rfl mlX12_492 z_CF12 rfl rfl (by decide) rfl (Nat.le_of_ble_eq_true rfl) dX12_image_99 ?_
  refine z_iload_n C dX12_image_102 rfl rfl ?_
  refine z_if_ne (tgt := 111) C dX12_image_103 (by decide) (fun hc => ?_) (fun hc => ?_)
  · replace h := z_neg hc h
    refine z_iconst (v := 1) C dX12_image_111 (by decide) ?_
    exact z_zret C (by decide) h dX12_image_112
  · replace h := z_pos hc h
    refine z_aload_n C dX12_image_106 rfl rfl ?_
    refine z_iconst (v := 0) C dX12_image_107 (by decide) ?_
    obtain ⟨σ3, eσ3, h⟩ := z_let_some h
    refine z_puti (k := 3) C z_CF12 (by decide) flX12_116 rfl rfl rfl rfl eσ3 dX12_image_108 ?_
    refine z_iconst (v := 1) C dX12_image_111 (by decide) ?_
    exact z_zret C (by decide) h dX12_image_112
set_option maxHeartbeats 4000000 in
set_option maxRecDepth 100000 in
theorem t12_image_L69 {X : z_Ct} (C : z_Cx S2 X RX12 cX12_image 3 3 (some .boolean)) {u : Int32 × z_M} : ∀ (n : Nat) (v1 : Int32) (v2 : Int32) (σ : z_M), f12_image_L69 n v1 v2 σ = some u → z_W S2 X 69 [some (.ref (z_a X 0)), some (.int v1), some (.int v2)] [] σ (z_oi u) := by
  intro n
  induction n with
  | zero => intro v1 v2 σ h; rw [f12_image_L69] at h; cases h
  | succ n ih =>
    intro v1 v2 σ h
    rw [f12_image_L69] at h
    refine z_iload_n C dX12_image_69 rfl rfl ?_
    refine z_sipush (v := 600) C dX12_image_70 (by decide) ?_
    refine z_icmp_ge (tgt := 98) C dX12_image_73 (by decide) (fun hc => ?_) (fun hc => ?_)
    · replace h := z_neg hc h
      refine z_kill (lo' := [some (.ref (z_a X 0)), some (.int v1), none]) [2] rfl ?_
      exact t12_image_J98 C v1 σ h
    · replace h := z_pos hc h
      refine z_aload_n C dX12_image_76 rfl rfl ?_
      refine z_geta (k := 12) (q := 6) C z_CF12 (by decide) flX12_25 rfl rfl dX12_image_77 ?_
      refine z_iload_n C dX12_image_80 rfl rfl ?_
      refine z_aload_n C dX12_image_81 rfl rfl ?_
      refine z_aload_n C dX12_image_82 rfl rfl ?_
      refine z_geta (k := 12) (q := 6) C z_CF12 (by decide) flX12_25 rfl rfl dX12_image_83 ?_
      refine z_iload_n C dX12_image_86 rfl rfl ?_
      obtain ⟨b1, h⟩ := z_chk_some h
      refine z_iald C rfl rfl b1 dX12_image_87 ?_
      obtain ⟨r2, σ3, mσ3, h⟩ := z_bnd2 h
      refine z_cvi (As := [.int (σ 6 (z_ix v2))]) (c := 0) (st := [.int v2, .ref (z_a X 6)]) C (t12_keeps (σ 6 (z_ix v2)) mσ3) kvX12_keeps rfl mlX12_483 z_CF12 rfl rfl (by decide) rfl (Nat.le_of_ble_eq_true rfl) dX12_image_88 ?_
      obtain ⟨b4, h⟩ := z_chk_some h
      obtain ⟨σ5, eσ5, h⟩ := z_let_some h
      refine z_iast C rfl rfl b4 eσ5 dX12_image_91 ?_
      refine z_iinc (v := v2 + 1) (lo' := [some (.ref (z_a X 0)), some (.int v1), some (.int (v2 + 1))]) C dX12_image_92 rfl rfl rfl ?_
      refine z_goto (tgt := 69) C dX12_image_95 (by decide) ?_
      exact ih v1 (v2 + 1) σ5 h
set_option maxHeartbeats 4000000 in
set_option maxRecDepth 100000 in
theorem t12_image_J63 {X : z_Ct} (C : z_Cx S2 X RX12 cX12_image 3 3 (some .boolean)) {u : Int32 × z_M} (v1 : Int32) (σ : z_M) (h : f12_image_J63 v1 σ = some u) : z_W S2 X 63 [some (.ref (z_a X 0)), some (.int v1), none] [] σ (z_oi u) := by
  unfold f12_image_J63 at h
  refine z_aload_n C dX12_image_63 rfl rfl ?_
  obtain ⟨⟨⟩, σ2, mσ2, h⟩ := z_bnd2 h
  refine z_cvv (As := []) (c := 0) (st := []) C (t12_keepsTold mσ2) kvX12_keepsTold rfl mlX12_489 z_CF12 rfl rfl (by decide) rfl (Nat.le_of_ble_eq_true rfl) dX12_image_64 ?_
  refine z_iconst (v := 0) C dX12_image_67 (by decide) ?_
  refine z_istore_n (lo' := [some (.ref (z_a X 0)), some (.int v1), some (.int 0)]) C dX12_image_68 rfl (Nat.le_of_ble_eq_true rfl) rfl ?_
  exact t12_image_L69 C _ v1 0 σ2 h
set_option maxHeartbeats 4000000 in
set_option maxRecDepth 100000 in
theorem t12_image_L35 {X : z_Ct} (C : z_Cx S2 X RX12 cX12_image 3 3 (some .boolean)) {u : Int32 × z_M} : ∀ (n : Nat) (v1 : Int32) (v2 : Int32) (σ : z_M), f12_image_L35 n v1 v2 σ = some u → z_W S2 X 35 [some (.ref (z_a X 0)), some (.int v1), some (.int v2)] [] σ (z_oi u) := by
  intro n
  induction n with
  | zero => intro v1 v2 σ h; rw [f12_image_L35] at h; cases h
  | succ n ih =>
    intro v1 v2 σ h
    rw [f12_image_L35] at h
    refine z_iload_n C dX12_image_35 rfl rfl ?_
    refine z_bipush (v := 100) C dX12_image_36 (by decide) ?_
    refine z_icmp_ge (tgt := 63) C dX12_image_38 (by decide) (fun hc => ?_) (fun hc => ?_)
    · replace h := z_neg hc h
      refine z_kill (lo' := [some (.ref (z_a X 0)), some (.int v1), none]) [2] rfl ?_
      exact t12_image_J63 C v1 σ h
    · replace h := z_pos hc h
      refine z_aload_n C dX12_image_41 rfl rfl ?_
      refine z_geta (k := 1) (q := 1) C z_CF12 (by decide) flX12_7 rfl rfl dX12_image_42 ?_
      refine z_iload_n C dX12_image_45 rfl rfl ?_
      refine z_aload_n C dX12_image_46 rfl rfl ?_
      refine z_aload_n C dX12_image_47 rfl rfl ?_
      refine z_geta (k := 1) (q := 1) C z_CF12 (by decide) flX12_7 rfl rfl dX12_image_48 ?_
      refine z_iload_n C dX12_image_51 rfl rfl ?_
      obtain ⟨b1, h⟩ := z_chk_some h
      refine z_iald C rfl rfl b1 dX12_image_52 ?_
      obtain ⟨r2, σ3, mσ3, h⟩ := z_bnd2 h
      refine z_cvi (As := [.int (σ 1 (z_ix v2))]) (c := 0) (st := [.int v2, .ref (z_a X 1)]) C (t12_keeps (σ 1 (z_ix v2)) mσ3) kvX12_keeps rfl mlX12_483 z_CF12 rfl rfl (by decide) rfl (Nat.le_of_ble_eq_true rfl) dX12_image_53 ?_
      obtain ⟨b4, h⟩ := z_chk_some h
      obtain ⟨σ5, eσ5, h⟩ := z_let_some h
      refine z_iast C rfl rfl b4 eσ5 dX12_image_56 ?_
      refine z_iinc (v := v2 + 1) (lo' := [some (.ref (z_a X 0)), some (.int v1), some (.int (v2 + 1))]) C dX12_image_57 rfl rfl rfl ?_
      refine z_goto (tgt := 35) C dX12_image_60 (by decide) ?_
      exact ih v1 (v2 + 1) σ5 h
set_option maxHeartbeats 4000000 in
set_option maxRecDepth 100000 in
theorem t12_image_J18 {X : z_Ct} (C : z_Cx S2 X RX12 cX12_image 3 3 (some .boolean)) {u : Int32 × z_M} (v1 : Int32) (σ : z_M) (h : f12_image_J18 v1 σ = some u) : z_W S2 X 18 [some (.ref (z_a X 0)), some (.int v1), none] [] σ (z_oi u) := by
  unfold f12_image_J18 at h
  refine z_aload_n C dX12_image_18 rfl rfl ?_
  refine z_iload_n C dX12_image_19 rfl rfl ?_
  obtain ⟨b1, h⟩ := z_chk_some h
  obtain ⟨σ2, eσ2, h⟩ := z_let_some h
  refine z_putz (k := 57) C z_CF12 (by decide) flX12_480 rfl rfl rfl rfl b1 eσ2 dX12_image_20 ?_
  refine z_aload_n C dX12_image_23 rfl rfl ?_
  refine z_iconst (v := 1) C dX12_image_24 (by decide) ?_
  obtain ⟨σ3, eσ3, h⟩ := z_let_some h
  refine z_putz (k := 58) C z_CF12 (by decide) flX12_486 rfl rfl rfl rfl (by decide) eσ3 dX12_image_25 ?_
  refine z_aload_n C dX12_image_28 rfl rfl ?_
  refine z_iconst (v := 0) C dX12_image_29 (by decide) ?_
  obtain ⟨σ4, eσ4, h⟩ := z_let_some h
  refine z_puti (k := 59) C z_CF12 (by decide) flX12_477 rfl rfl rfl rfl eσ4 dX12_image_30 ?_
  refine z_iconst (v := 0) C dX12_image_33 (by decide) ?_
  refine z_istore_n (lo' := [some (.ref (z_a X 0)), some (.int v1), some (.int 0)]) C dX12_image_34 rfl (Nat.le_of_ble_eq_true rfl) rfl ?_
  exact t12_image_L35 C _ v1 0 σ4 h
set_option maxHeartbeats 4000000 in
set_option maxRecDepth 100000 in
theorem t12_image {a : Nat → Nat} (p1 : Int32) {σ : z_M} {u : Int32 × z_M} (h : f12_image p1 σ = some u) : z_Mt yX12_image (z_w yX12_image cX12_image 3 (some .boolean)) 3 S2 a σ [.ref (a 0), .int p1] (z_oi u) := by
  refine z_head (lo := [some (.ref (a 0)), some (.int p1), none]) (by decide) (Nat.le_of_ble_eq_true rfl) ?_ rfl ?_
  · intro i v hv
    exact z_loe (vs := [.ref (a 0), .int p1]) (n := 1) rfl (by simp [z_c1i, z_c1r]) i v hv
  · intro X hXa C
    subst hXa
    unfold f12_image at h
    refine z_aload_n C dX12_image_0 rfl rfl ?_
    refine z_iconst (v := 0) C dX12_image_1 (by decide) ?_
    obtain ⟨σ1, eσ1, h⟩ := z_let_some h
    refine z_puti (k := 0) C z_CF12 (by decide) flX12_113 rfl rfl rfl rfl eσ1 dX12_image_2 ?_
    refine z_iload_n C dX12_image_5 rfl rfl ?_
    refine z_if_ne (tgt := 18) C dX12_image_6 (by decide) (fun hc => ?_) (fun hc => ?_)
    · replace h := z_neg hc h
      exact t12_image_J18 C p1 σ1 h
    · replace h := z_pos hc h
      refine z_aload_n C dX12_image_9 rfl rfl ?_
      refine z_geti (k := 58) C z_CF12 (by decide) flX12_486 rfl rfl dX12_image_10 ?_
      refine z_if_ne (tgt := 18) C dX12_image_13 (by decide) (fun hc => ?_) (fun hc => ?_)
      · replace h := z_neg hc h
        exact t12_image_J18 C p1 σ1 h
      · replace h := z_pos hc h
        refine z_iconst (v := 0) C dX12_image_16 (by decide) ?_
        exact z_zret C (by decide) h dX12_image_17
set_option maxHeartbeats 4000000 in
set_option maxRecDepth 100000 in
theorem t12_potMany_L4 {X : z_Ct} (C : z_Cx S2 X RX12 cX12_potMany 3 2 (some .int)) {u : Int32 × z_M} : ∀ (n : Nat) (v1 : Int32) (v2 : Int32) (σ : z_M), f12_potMany_L4 n v1 v2 σ = some u → z_W S2 X 4 [some (.ref (z_a X 0)), some (.int v1), some (.int v2)] [] σ (z_oi u) := by
  intro n
  induction n with
  | zero => intro v1 v2 σ h; rw [f12_potMany_L4] at h; cases h
  | succ n ih =>
    intro v1 v2 σ h
    rw [f12_potMany_L4] at h
    refine z_iload_n C dX12_potMany_4 rfl rfl ?_
    refine z_aload_n C dX12_potMany_5 rfl rfl ?_
    refine z_geti (k := 6) C z_CF12 (by decide) flX12_131 rfl rfl dX12_potMany_6 ?_
    refine z_icmp_ge (tgt := 31) C dX12_potMany_9 (by decide) (fun hc => ?_) (fun hc => ?_)
    · replace h := z_neg hc h
      refine z_iload_n C dX12_potMany_31 rfl rfl ?_
      exact z_iret C h dX12_potMany_32
    · replace h := z_pos hc h
      refine z_aload_n C dX12_potMany_12 rfl rfl ?_
      refine z_iload_n C dX12_potMany_13 rfl rfl ?_
      obtain ⟨r1, σ2, mσ2, h⟩ := z_bnd2 h
      refine z_cvi (As := [.int v2]) (c := 0) (st := []) C (t12_potOf v2 mσ2) kvX12_potOf rfl mlX12_324 z_CF12 rfl rfl (by decide) rfl (Nat.le_of_ble_eq_true rfl) dX12_potMany_14 ?_
      refine z_iconst (v := (-1)) C dX12_potMany_17 (by decide) ?_
      refine z_icmp_eq (tgt := 25) C dX12_potMany_18 (by decide) (fun hc => ?_) (fun hc => ?_)
      · replace h := z_pos hc h
        refine z_iinc (v := v2 + 1) (lo' := [some (.ref (z_a X 0)), some (.int v1), some (.int (v2 + 1))]) C dX12_potMany_25 rfl rfl rfl ?_
        refine z_goto (tgt := 4) C dX12_potMany_28 (by decide) ?_
        exact ih v1 (v2 + 1) σ2 h
      · replace h := z_neg hc h
        refine z_iload_n C dX12_potMany_21 rfl rfl ?_
        refine z_iconst (v := 1) C dX12_potMany_22 (by decide) ?_
        refine z_iadd C dX12_potMany_23 ?_
        refine z_istore_n (lo' := [some (.ref (z_a X 0)), some (.int (v1 + 1)), some (.int v2)]) C dX12_potMany_24 rfl (Nat.le_of_ble_eq_true rfl) rfl ?_
        refine z_iinc (v := v2 + 1) (lo' := [some (.ref (z_a X 0)), some (.int (v1 + 1)), some (.int (v2 + 1))]) C dX12_potMany_25 rfl rfl rfl ?_
        refine z_goto (tgt := 4) C dX12_potMany_28 (by decide) ?_
        exact ih (v1 + 1) (v2 + 1) σ2 h
set_option maxHeartbeats 4000000 in
set_option maxRecDepth 100000 in
theorem t12_potMany {a : Nat → Nat} {σ : z_M} {u : Int32 × z_M} (h : f12_potMany σ = some u) : z_Mt yX12_potMany (z_w yX12_potMany cX12_potMany 3 (some .int)) 2 S2 a σ [.ref (a 0)] (z_oi u) := by
  refine z_head (lo := [some (.ref (a 0)), none, none]) (by decide) (Nat.le_of_ble_eq_true rfl) ?_ rfl ?_
  · intro i v hv
    exact z_loe (vs := [.ref (a 0)]) (n := 2) rfl (by simp [z_c1i, z_c1r]) i v hv
  · intro X hXa C
    subst hXa
    unfold f12_potMany at h
    refine z_iconst (v := 0) C dX12_potMany_0 (by decide) ?_
    refine z_istore_n (lo' := [some (.ref (z_a X 0)), some (.int 0), none]) C dX12_potMany_1 rfl (Nat.le_of_ble_eq_true rfl) rfl ?_
    refine z_iconst (v := 0) C dX12_potMany_2 (by decide) ?_
    refine z_istore_n (lo' := [some (.ref (z_a X 0)), some (.int 0), some (.int 0)]) C dX12_potMany_3 rfl (Nat.le_of_ble_eq_true rfl) rfl ?_
    exact t12_potMany_L4 C _ 0 0 σ h
set_option maxHeartbeats 4000000 in
set_option maxRecDepth 100000 in
theorem t12_look {a : Nat → Nat} (p1 : Int32) {σ : z_M} {u : Int32 × z_M} (h : f12_look p1 σ = some u) : z_Mt yX12_look (z_w yX12_look cX12_look 2 (some .int)) 3 S2 a σ [.ref (a 0), .int p1] (z_oi u) := by
  refine z_head (lo := [some (.ref (a 0)), some (.int p1)]) (by decide) (Nat.le_of_ble_eq_true rfl) ?_ rfl ?_
  · intro i v hv
    exact z_loe (vs := [.ref (a 0), .int p1]) (n := 0) rfl (by simp [z_c1i, z_c1r]) i v hv
  · intro X hXa C
    subst hXa
    unfold f12_look at h
    refine z_aload_n C dX12_look_0 rfl rfl ?_
    refine z_iconst (v := 0) C dX12_look_1 (by decide) ?_
    obtain ⟨σ1, eσ1, h⟩ := z_let_some h
    refine z_puti (k := 0) C z_CF12 (by decide) flX12_113 rfl rfl rfl rfl eσ1 dX12_look_2 ?_
    refine z_iload_n C dX12_look_5 rfl rfl ?_
    refine z_if_ne (tgt := 14) C dX12_look_6 (by decide) (fun hc => ?_) (fun hc => ?_)
    · replace h := z_neg hc h
      refine z_iload_n C dX12_look_14 rfl rfl ?_
      refine z_iconst (v := 1) C dX12_look_15 (by decide) ?_
      refine z_icmp_ne (tgt := 26) C dX12_look_16 (by decide) (fun hc => ?_) (fun hc => ?_)
      · replace h := z_neg hc h
        refine z_iload_n C dX12_look_26 rfl rfl ?_
        refine z_iconst (v := 2) C dX12_look_27 (by decide) ?_
        refine z_icmp_ne (tgt := 38) C dX12_look_28 (by decide) (fun hc => ?_) (fun hc => ?_)
        · replace h := z_neg hc h
          refine z_iload_n C dX12_look_38 rfl rfl ?_
          refine z_iconst (v := 3) C dX12_look_39 (by decide) ?_
          refine z_icmp_ne (tgt := 48) C dX12_look_40 (by decide) (fun hc => ?_) (fun hc => ?_)
          · replace h := z_neg hc h
            refine z_iload_n C dX12_look_48 rfl rfl ?_
            refine z_iconst (v := 4) C dX12_look_49 (by decide) ?_
            refine z_icmp_ne (tgt := 60) C dX12_look_50 (by decide) (fun hc => ?_) (fun hc => ?_)
            · replace h := z_neg hc h
              refine z_iload_n C dX12_look_60 rfl rfl ?_
              refine z_iconst (v := 5) C dX12_look_61 (by decide) ?_
              refine z_icmp_ne (tgt := 72) C dX12_look_62 (by decide) (fun hc => ?_) (fun hc => ?_)
              · replace h := z_neg hc h
                refine z_iload_n C dX12_look_72 rfl rfl ?_
                refine z_bipush (v := 6) C dX12_look_73 (by decide) ?_
                refine z_icmp_ne (tgt := 83) C dX12_look_75 (by decide) (fun hc => ?_) (fun hc => ?_)
                · replace h := z_neg hc h
                  refine z_iload_n C dX12_look_83 rfl rfl ?_
                  refine z_bipush (v := 7) C dX12_look_84 (by decide) ?_
                  refine z_icmp_ne (tgt := 96) C dX12_look_86 (by decide) (fun hc => ?_) (fun hc => ?_)
                  · replace h := z_neg hc h
                    refine z_iload_n C dX12_look_96 rfl rfl ?_
                    refine z_bipush (v := 8) C dX12_look_97 (by decide) ?_
                    refine z_icmp_ne (tgt := 107) C dX12_look_99 (by decide) (fun hc => ?_) (fun hc => ?_)
                    · replace h := z_neg hc h
                      refine z_iload_n C dX12_look_107 rfl rfl ?_
                      refine z_bipush (v := 9) C dX12_look_108 (by decide) ?_
                      refine z_icmp_ne (tgt := 118) C dX12_look_110 (by decide) (fun hc => ?_) (fun hc => ?_)
                      · replace h := z_neg hc h
                        refine z_iload_n C dX12_look_118 rfl rfl ?_
                        refine z_bipush (v := 10) C dX12_look_119 (by decide) ?_
                        refine z_icmp_ne (tgt := 129) C dX12_look_121 (by decide) (fun hc => ?_) (fun hc => ?_)
                        · replace h := z_neg hc h
                          refine z_iload_n C dX12_look_129 rfl rfl ?_
                          refine z_bipush (v := 11) C dX12_look_130 (by decide) ?_
                          refine z_icmp_ne (tgt := 140) C dX12_look_132 (by decide) (fun hc => ?_) (fun hc => ?_)
                          · replace h := z_neg hc h
                            refine z_iload_n C dX12_look_140 rfl rfl ?_
                            refine z_bipush (v := 12) C dX12_look_141 (by decide) ?_
                            refine z_icmp_ne (tgt := 151) C dX12_look_143 (by decide) (fun hc => ?_) (fun hc => ?_)
                            · replace h := z_neg hc h
                              refine z_iload_n C dX12_look_151 rfl rfl ?_
                              refine z_bipush (v := 13) C dX12_look_152 (by decide) ?_
                              refine z_icmp_ne (tgt := 162) C dX12_look_154 (by decide) (fun hc => ?_) (fun hc => ?_)
                              · replace h := z_neg hc h
                                refine z_iload_n C dX12_look_162 rfl rfl ?_
                                refine z_bipush (v := 14) C dX12_look_163 (by decide) ?_
                                refine z_icmp_ne (tgt := 173) C dX12_look_165 (by decide) (fun hc => ?_) (fun hc => ?_)
                                · replace h := z_neg hc h
                                  refine z_aload_n C dX12_look_173 rfl rfl ?_
                                  refine z_iload_n C dX12_look_174 rfl rfl ?_
                                  refine z_bipush (v := 20) C dX12_look_175 (by decide) ?_
                                  refine z_bipush (v := 27) C dX12_look_177 (by decide) ?_
                                  obtain ⟨r2, σ3, mσ3, h⟩ := z_bnd2 h
                                  refine z_cvi (As := [.int p1, .int 20, .int 27]) (c := 0) (st := []) C (t12_isIn p1 20 27 mσ3) kvX12_isIn rfl mlX12_142 z_CF12 rfl rfl (by decide) rfl (Nat.le_of_ble_eq_true rfl) dX12_look_179 ?_
                                  refine z_if_eq (tgt := 197) C dX12_look_182 (by decide) (fun hc => ?_) (fun hc => ?_)
                                  · replace h := z_pos hc h
                                    refine z_iconst (v := (-1)) C dX12_look_197 (by decide) ?_
                                    exact z_iret C h dX12_look_198
                                  · replace h := z_neg hc h
                                    refine z_aload_n C dX12_look_185 rfl rfl ?_
                                    refine z_geta (k := 10) (q := 4) C z_CF12 (by decide) flX12_19 rfl rfl dX12_look_186 ?_
                                    refine z_iload_n C dX12_look_189 rfl rfl ?_
                                    refine z_bipush (v := 20) C dX12_look_190 (by decide) ?_
                                    refine z_isub C dX12_look_192 ?_
                                    obtain ⟨b4, h⟩ := z_chk_some h
                                    refine z_iald C rfl rfl b4 dX12_look_193 ?_
                                    refine z_goto (tgt := 198) C dX12_look_194 (by decide) ?_
                                    exact z_iret C h dX12_look_198
                                · replace h := z_pos hc h
                                  refine z_aload_n C dX12_look_168 rfl rfl ?_
                                  refine z_geti (k := 9) C z_CF12 (by decide) flX12_153 rfl rfl dX12_look_169 ?_
                                  exact z_iret C h dX12_look_172
                              · replace h := z_pos hc h
                                refine z_aload_n C dX12_look_157 rfl rfl ?_
                                refine z_geti (k := 8) C z_CF12 (by decide) flX12_150 rfl rfl dX12_look_158 ?_
                                exact z_iret C h dX12_look_161
                            · replace h := z_pos hc h
                              refine z_aload_n C dX12_look_146 rfl rfl ?_
                              obtain ⟨r5, σ6, mσ6, h⟩ := z_bnd2 h
                              refine z_cvi (As := []) (c := 0) (st := []) C (t12_most mσ6) kvX12_most rfl mlX12_398 z_CF12 rfl rfl (by decide) rfl (Nat.le_of_ble_eq_true rfl) dX12_look_147 ?_
                              exact z_iret C h dX12_look_150
                          · replace h := z_pos hc h
                            refine z_aload_n C dX12_look_135 rfl rfl ?_
                            refine z_geti (k := 3) C z_CF12 (by decide) flX12_116 rfl rfl dX12_look_136 ?_
                            exact z_iret C h dX12_look_139
                        · replace h := z_pos hc h
                          refine z_aload_n C dX12_look_124 rfl rfl ?_
                          refine z_geti (k := 52) C z_CF12 (by decide) flX12_459 rfl rfl dX12_look_125 ?_
                          exact z_iret C h dX12_look_128
                      · replace h := z_pos hc h
                        refine z_aload_n C dX12_look_113 rfl rfl ?_
                        refine z_geti (k := 40) C z_CF12 (by decide) flX12_300 rfl rfl dX12_look_114 ?_
                        exact z_iret C h dX12_look_117
                    · replace h := z_pos hc h
                      refine z_aload_n C dX12_look_102 rfl rfl ?_
                      refine z_geti (k := 38) C z_CF12 (by decide) flX12_303 rfl rfl dX12_look_103 ?_
                      exact z_iret C h dX12_look_106
                  · replace h := z_pos hc h
                    refine z_aload_n C dX12_look_89 rfl rfl ?_
                    refine z_geta (k := 20) (q := 9) C z_CF12 (by decide) flX12_34 rfl rfl dX12_look_90 ?_
                    refine z_iconst (v := 1) C dX12_look_93 (by decide) ?_
                    obtain ⟨b7, h⟩ := z_chk_some h
                    refine z_iald C rfl rfl b7 dX12_look_94 ?_
                    exact z_iret C h dX12_look_95
                · replace h := z_pos hc h
                  refine z_aload_n C dX12_look_78 rfl rfl ?_
                  refine z_geti (k := 36) C z_CF12 (by decide) flX12_297 rfl rfl dX12_look_79 ?_
                  exact z_iret C h dX12_look_82
              · replace h := z_pos hc h
                refine z_aload_n C dX12_look_65 rfl rfl ?_
                refine z_geta (k := 1) (q := 1) C z_CF12 (by decide) flX12_7 rfl rfl dX12_look_66 ?_
                refine z_iconst (v := 1) C dX12_look_69 (by decide) ?_
                obtain ⟨b8, h⟩ := z_chk_some h
                refine z_iald C rfl rfl b8 dX12_look_70 ?_
                exact z_iret C h dX12_look_71
            · replace h := z_pos hc h
              refine z_aload_n C dX12_look_53 rfl rfl ?_
              refine z_geta (k := 1) (q := 1) C z_CF12 (by decide) flX12_7 rfl rfl dX12_look_54 ?_
              refine z_iconst (v := 2) C dX12_look_57 (by decide) ?_
              obtain ⟨b9, h⟩ := z_chk_some h
              refine z_iald C rfl rfl b9 dX12_look_58 ?_
              exact z_iret C h dX12_look_59
          · replace h := z_pos hc h
            refine z_aload_n C dX12_look_43 rfl rfl ?_
            obtain ⟨r10, σ11, mσ11, h⟩ := z_bnd2 h
            refine z_cvi (As := []) (c := 0) (st := []) C (t12_potMany mσ11) kvX12_potMany rfl mlX12_495 z_CF12 rfl rfl (by decide) rfl (Nat.le_of_ble_eq_true rfl) dX12_look_44 ?_
            exact z_iret C h dX12_look_47
        · replace h := z_pos hc h
          refine z_aload_n C dX12_look_31 rfl rfl ?_
          refine z_geta (k := 1) (q := 1) C z_CF12 (by decide) flX12_7 rfl rfl dX12_look_32 ?_
          refine z_iconst (v := 3) C dX12_look_35 (by decide) ?_
          obtain ⟨b12, h⟩ := z_chk_some h
          refine z_iald C rfl rfl b12 dX12_look_36 ?_
          exact z_iret C h dX12_look_37
      · replace h := z_pos hc h
        refine z_aload_n C dX12_look_19 rfl rfl ?_
        refine z_geta (k := 1) (q := 1) C z_CF12 (by decide) flX12_7 rfl rfl dX12_look_20 ?_
        refine z_iconst (v := 0) C dX12_look_23 (by decide) ?_
        obtain ⟨b13, h⟩ := z_chk_some h
        refine z_iald C rfl rfl b13 dX12_look_24 ?_
        exact z_iret C h dX12_look_25
    · replace h := z_pos hc h
      refine z_aload_n C dX12_look_9 rfl rfl ?_
      refine z_geti (k := 6) C z_CF12 (by decide) flX12_131 rfl rfl dX12_look_10 ?_
      exact z_iret C h dX12_look_13
