set_option maxHeartbeats 4000000 in
set_option maxRecDepth 100000 in
theorem t12_isIn_J14 {X : z_Ct} (C : z_Cx S2 X RX12 cX12_isIn 4 1 (some .boolean)) {u : Int32 × z_M} (σ : z_M) (h : f12_isIn_J14 σ = some u) : z_W S2 X 14 [none, none, none, none] [] σ (z_oi u) := by
  unfold f12_isIn_J14 at h
  refine z_iconst (v := 0) C dX12_isIn_14 (by decide) ?_
  exact z_zret C (by decide) h dX12_isIn_15
set_option maxHeartbeats 4000000 in
set_option maxRecDepth 100000 in
theorem t12_isIn {a : Nat → Nat} (p1 : Int32) (p2 : Int32) (p3 : Int32) {σ : z_M} {u : Int32 × z_M} (h : f12_isIn p1 p2 p3 σ = some u) : z_Mt yX12_isIn (z_w yX12_isIn cX12_isIn 4 (some .boolean)) 1 S2 a σ [.ref (a 0), .int p1, .int p2, .int p3] (z_oi u) := by
  refine z_head (lo := [some (.ref (a 0)), some (.int p1), some (.int p2), some (.int p3)]) (by decide) (Nat.le_of_ble_eq_true rfl) ?_ rfl ?_
  · intro i v hv
    exact z_loe (vs := [.ref (a 0), .int p1, .int p2, .int p3]) (n := 0) rfl (by simp [z_c1i, z_c1r]) i v hv
  · intro X hXa C
    subst hXa
    unfold f12_isIn at h
    refine z_iload_n C dX12_isIn_0 rfl rfl ?_
    refine z_iload_n C dX12_isIn_1 rfl rfl ?_
    refine z_icmp_lt (tgt := 14) C dX12_isIn_2 (by decide) (fun hc => ?_) (fun hc => ?_)
    · replace h := z_pos hc h
      refine z_kill (lo' := [none, none, none, none]) [0, 1, 2, 3] rfl ?_
      exact t12_isIn_J14 C σ h
    · replace h := z_neg hc h
      refine z_iload_n C dX12_isIn_5 rfl rfl ?_
      refine z_iload_n C dX12_isIn_6 rfl rfl ?_
      refine z_icmp_gt (tgt := 14) C dX12_isIn_7 (by decide) (fun hc => ?_) (fun hc => ?_)
      · replace h := z_pos hc h
        refine z_kill (lo' := [none, none, none, none]) [0, 1, 2, 3] rfl ?_
        exact t12_isIn_J14 C σ h
      · replace h := z_neg hc h
        refine z_iconst (v := 1) C dX12_isIn_10 (by decide) ?_
        refine z_goto (tgt := 15) C dX12_isIn_11 (by decide) ?_
        exact z_zret C (by decide) h dX12_isIn_15
set_option maxHeartbeats 4000000 in
set_option maxRecDepth 100000 in
theorem t12_held {a : Nat → Nat} (p1 : Int32) (p2 : Int32) (p3 : Int32) {σ : z_M} {u : Int32 × z_M} (h : f12_held p1 p2 p3 σ = some u) : z_Mt yX12_held (z_w yX12_held cX12_held 4 (some .int)) 1 S2 a σ [.ref (a 0), .int p1, .int p2, .int p3] (z_oi u) := by
  refine z_head (lo := [some (.ref (a 0)), some (.int p1), some (.int p2), some (.int p3)]) (by decide) (Nat.le_of_ble_eq_true rfl) ?_ rfl ?_
  · intro i v hv
    exact z_loe (vs := [.ref (a 0), .int p1, .int p2, .int p3]) (n := 0) rfl (by simp [z_c1i, z_c1r]) i v hv
  · intro X hXa C
    subst hXa
    unfold f12_held at h
    refine z_iload_n C dX12_held_0 rfl rfl ?_
    refine z_iload_n C dX12_held_1 rfl rfl ?_
    refine z_icmp_ge (tgt := 9) C dX12_held_2 (by decide) (fun hc => ?_) (fun hc => ?_)
    · replace h := z_neg hc h
      refine z_iload_n C dX12_held_9 rfl rfl ?_
      refine z_iload_n C dX12_held_10 rfl rfl ?_
      refine z_icmp_le (tgt := 18) C dX12_held_11 (by decide) (fun hc => ?_) (fun hc => ?_)
      · replace h := z_neg hc h
        refine z_iload_n C dX12_held_18 rfl rfl ?_
        exact z_iret C h dX12_held_19
      · replace h := z_pos hc h
        refine z_iload_n C dX12_held_14 rfl rfl ?_
        refine z_goto (tgt := 19) C dX12_held_15 (by decide) ?_
        exact z_iret C h dX12_held_19
    · replace h := z_pos hc h
      refine z_iload_n C dX12_held_5 rfl rfl ?_
      refine z_goto (tgt := 19) C dX12_held_6 (by decide) ?_
      exact z_iret C h dX12_held_19
set_option maxHeartbeats 4000000 in
set_option maxRecDepth 100000 in
theorem t12_greater {a : Nat → Nat} (p1 : Int32) (p2 : Int32) {σ : z_M} {u : Int32 × z_M} (h : f12_greater p1 p2 σ = some u) : z_Mt yX12_greater (z_w yX12_greater cX12_greater 3 (some .int)) 1 S2 a σ [.ref (a 0), .int p1, .int p2] (z_oi u) := by
  refine z_head (lo := [some (.ref (a 0)), some (.int p1), some (.int p2)]) (by decide) (Nat.le_of_ble_eq_true rfl) ?_ rfl ?_
  · intro i v hv
    exact z_loe (vs := [.ref (a 0), .int p1, .int p2]) (n := 0) rfl (by simp [z_c1i, z_c1r]) i v hv
  · intro X hXa C
    subst hXa
    unfold f12_greater at h
    refine z_iload_n C dX12_greater_0 rfl rfl ?_
    refine z_iload_n C dX12_greater_1 rfl rfl ?_
    refine z_icmp_le (tgt := 9) C dX12_greater_2 (by decide) (fun hc => ?_) (fun hc => ?_)
    · replace h := z_neg hc h
      refine z_iload_n C dX12_greater_9 rfl rfl ?_
      exact z_iret C h dX12_greater_10
    · replace h := z_pos hc h
      refine z_iload_n C dX12_greater_5 rfl rfl ?_
      refine z_goto (tgt := 10) C dX12_greater_6 (by decide) ?_
      exact z_iret C h dX12_greater_10
set_option maxHeartbeats 4000000 in
set_option maxRecDepth 100000 in
theorem t12_onesOf_L4 {X : z_Ct} (C : z_Cx S2 X RX12 cX12_onesOf 4 1 (some .int)) {u : Int32 × z_M} : ∀ (n : Nat) (v2 : Int32) (v3 : Int32) (σ : z_M), f12_onesOf_L4 n v2 v3 σ = some u → z_W S2 X 4 [none, none, some (.int v2), some (.int v3)] [] σ (z_oi u) := by
  intro n
  induction n with
  | zero => intro v2 v3 σ h; rw [f12_onesOf_L4] at h; cases h
  | succ n ih =>
    intro v2 v3 σ h
    rw [f12_onesOf_L4] at h
    refine z_iload_n C dX12_onesOf_4 rfl rfl ?_
    refine z_if_eq (tgt := 21) C dX12_onesOf_5 (by decide) (fun hc => ?_) (fun hc => ?_)
    · replace h := z_pos hc h
      refine z_iload_n C dX12_onesOf_21 rfl rfl ?_
      exact z_iret C h dX12_onesOf_22
    · replace h := z_neg hc h
      refine z_iload_n C dX12_onesOf_8 rfl rfl ?_
      refine z_iconst (v := 1) C dX12_onesOf_9 (by decide) ?_
      refine z_iadd C dX12_onesOf_10 ?_
      refine z_istore_n (lo' := [none, none, some (.int (v2 + 1)), some (.int v3)]) C dX12_onesOf_11 rfl (Nat.le_of_ble_eq_true rfl) rfl ?_
      refine z_iload_n C dX12_onesOf_12 rfl rfl ?_
      refine z_iload_n C dX12_onesOf_13 rfl rfl ?_
      refine z_iconst (v := 1) C dX12_onesOf_14 (by decide) ?_
      refine z_isub C dX12_onesOf_15 ?_
      refine z_iand C dX12_onesOf_16 ?_
      refine z_istore_n (lo' := [none, none, some (.int (v2 + 1)), some (.int (v3 &&& (v3 - 1)))]) C dX12_onesOf_17 rfl (Nat.le_of_ble_eq_true rfl) rfl ?_
      refine z_goto (tgt := 4) C dX12_onesOf_18 (by decide) ?_
      exact ih (v2 + 1) (v3 &&& (v3 - 1)) σ h
set_option maxHeartbeats 4000000 in
set_option maxRecDepth 100000 in
theorem t12_onesOf {a : Nat → Nat} (p1 : Int32) {σ : z_M} {u : Int32 × z_M} (h : f12_onesOf p1 σ = some u) : z_Mt yX12_onesOf (z_w yX12_onesOf cX12_onesOf 4 (some .int)) 1 S2 a σ [.ref (a 0), .int p1] (z_oi u) := by
  refine z_head (lo := [some (.ref (a 0)), some (.int p1), none, none]) (by decide) (Nat.le_of_ble_eq_true rfl) ?_ rfl ?_
  · intro i v hv
    exact z_loe (vs := [.ref (a 0), .int p1]) (n := 2) rfl (by simp [z_c1i, z_c1r]) i v hv
  · intro X hXa C
    subst hXa
    unfold f12_onesOf at h
    refine z_iconst (v := 0) C dX12_onesOf_0 (by decide) ?_
    refine z_istore_n (lo' := [some (.ref (z_a X 0)), some (.int p1), some (.int 0), none]) C dX12_onesOf_1 rfl (Nat.le_of_ble_eq_true rfl) rfl ?_
    refine z_iload_n C dX12_onesOf_2 rfl rfl ?_
    refine z_istore_n (lo' := [some (.ref (z_a X 0)), some (.int p1), some (.int 0), some (.int p1)]) C dX12_onesOf_3 rfl (Nat.le_of_ble_eq_true rfl) rfl ?_
    refine z_kill (lo' := [none, none, some (.int 0), some (.int p1)]) [0, 1] rfl ?_
    exact t12_onesOf_L4 C _ 0 p1 σ h
set_option maxHeartbeats 4000000 in
set_option maxRecDepth 100000 in
theorem t12_keepsAhead_J87 {X : z_Ct} (C : z_Cx S2 X RX12 cX12_keepsAhead 2 1 none) {u : Unit × z_M} (σ : z_M) (h : f12_keepsAhead_J87 σ = some u) : z_W S2 X 87 [some (.ref (z_a X 0)), none] [] σ (z_ov u) := by
  unfold f12_keepsAhead_J87 at h
  refine z_aload_n C dX12_keepsAhead_87 rfl rfl ?_
  refine z_aload_n C dX12_keepsAhead_88 rfl rfl ?_
  refine z_geti (k := 3) C z_CF12 (by decide) flX12_116 rfl rfl dX12_keepsAhead_89 ?_
  refine z_iconst (v := 1) C dX12_keepsAhead_92 (by decide) ?_
  refine z_iadd C dX12_keepsAhead_93 ?_
  obtain ⟨σ1, eσ1, h⟩ := z_let_some h
  refine z_puti (k := 3) C z_CF12 (by decide) flX12_116 rfl rfl rfl rfl eσ1 dX12_keepsAhead_94 ?_
  exact z_vret C h dX12_keepsAhead_97
set_option maxHeartbeats 4000000 in
set_option maxRecDepth 100000 in
theorem t12_keepsAhead_L55 {X : z_Ct} (C : z_Cx S2 X RX12 cX12_keepsAhead 2 1 none) {u : Unit × z_M} : ∀ (n : Nat) (v1 : Int32) (σ : z_M), f12_keepsAhead_L55 n v1 σ = some u → z_W S2 X 55 [some (.ref (z_a X 0)), some (.int v1)] [] σ (z_ov u) := by
  intro n
  induction n with
  | zero => intro v1 σ h; rw [f12_keepsAhead_L55] at h; cases h
  | succ n ih =>
    intro v1 σ h
    rw [f12_keepsAhead_L55] at h
    refine z_iload_n C dX12_keepsAhead_55 rfl rfl ?_
    refine z_bipush (v := 100) C dX12_keepsAhead_56 (by decide) ?_
    refine z_icmp_ge (tgt := 87) C dX12_keepsAhead_58 (by decide) (fun hc => ?_) (fun hc => ?_)
    · replace h := z_neg hc h
      refine z_kill (lo' := [some (.ref (z_a X 0)), none]) [1] rfl ?_
      exact t12_keepsAhead_J87 C σ h
    · replace h := z_pos hc h
      refine z_aload_n C dX12_keepsAhead_61 rfl rfl ?_
      refine z_geta (k := 2) (q := 2) C z_CF12 (by decide) flX12_13 rfl rfl dX12_keepsAhead_62 ?_
      refine z_bipush (v := 100) C dX12_keepsAhead_65 (by decide) ?_
      refine z_aload_n C dX12_keepsAhead_67 rfl rfl ?_
      refine z_geti (k := 3) C z_CF12 (by decide) flX12_116 rfl rfl dX12_keepsAhead_68 ?_
      refine z_imul C dX12_keepsAhead_71 ?_
      refine z_iload_n C dX12_keepsAhead_72 rfl rfl ?_
      refine z_iadd C dX12_keepsAhead_73 ?_
      refine z_aload_n C dX12_keepsAhead_74 rfl rfl ?_
      refine z_geta (k := 1) (q := 1) C z_CF12 (by decide) flX12_7 rfl rfl dX12_keepsAhead_75 ?_
      refine z_iload_n C dX12_keepsAhead_78 rfl rfl ?_
      obtain ⟨b1, h⟩ := z_chk_some h
      refine z_iald C rfl rfl b1 dX12_keepsAhead_79 ?_
      obtain ⟨b2, h⟩ := z_chk_some h
      obtain ⟨σ3, eσ3, h⟩ := z_let_some h
      refine z_iast C rfl rfl b2 eσ3 dX12_keepsAhead_80 ?_
      refine z_iinc (v := v1 + 1) (lo' := [some (.ref (z_a X 0)), some (.int (v1 + 1))]) C dX12_keepsAhead_81 rfl rfl rfl ?_
      refine z_goto (tgt := 55) C dX12_keepsAhead_84 (by decide) ?_
      exact ih (v1 + 1) σ3 h
set_option maxHeartbeats 4000000 in
set_option maxRecDepth 100000 in
theorem t12_keepsAhead_J53 {X : z_Ct} (C : z_Cx S2 X RX12 cX12_keepsAhead 2 1 none) {u : Unit × z_M} (σ : z_M) (h : f12_keepsAhead_J53 σ = some u) : z_W S2 X 53 [some (.ref (z_a X 0)), none] [] σ (z_ov u) := by
  unfold f12_keepsAhead_J53 at h
  refine z_iconst (v := 0) C dX12_keepsAhead_53 (by decide) ?_
  refine z_istore_n (lo' := [some (.ref (z_a X 0)), some (.int 0)]) C dX12_keepsAhead_54 rfl (Nat.le_of_ble_eq_true rfl) rfl ?_
  exact t12_keepsAhead_L55 C _ 0 σ h
set_option maxHeartbeats 4000000 in
set_option maxRecDepth 100000 in
theorem t12_keepsAhead_L21 {X : z_Ct} (C : z_Cx S2 X RX12 cX12_keepsAhead 2 1 none) {u : Unit × z_M} : ∀ (n : Nat) (v1 : Int32) (σ : z_M), f12_keepsAhead_L21 n v1 σ = some u → z_W S2 X 21 [some (.ref (z_a X 0)), some (.int v1)] [] σ (z_ov u) := by
  intro n
  induction n with
  | zero => intro v1 σ h; rw [f12_keepsAhead_L21] at h; cases h
  | succ n ih =>
    intro v1 σ h
    rw [f12_keepsAhead_L21] at h
    refine z_iload_n C dX12_keepsAhead_21 rfl rfl ?_
    refine z_bipush (v := 100) C dX12_keepsAhead_22 (by decide) ?_
    refine z_aload_n C dX12_keepsAhead_24 rfl rfl ?_
    refine z_geti (k := 3) C z_CF12 (by decide) flX12_116 rfl rfl dX12_keepsAhead_25 ?_
    refine z_imul C dX12_keepsAhead_28 ?_
    refine z_icmp_ge (tgt := 53) C dX12_keepsAhead_29 (by decide) (fun hc => ?_) (fun hc => ?_)
    · replace h := z_neg hc h
      refine z_kill (lo' := [some (.ref (z_a X 0)), none]) [1] rfl ?_
      exact t12_keepsAhead_J53 C σ h
    · replace h := z_pos hc h
      refine z_aload_n C dX12_keepsAhead_32 rfl rfl ?_
      refine z_geta (k := 2) (q := 2) C z_CF12 (by decide) flX12_13 rfl rfl dX12_keepsAhead_33 ?_
      refine z_iload_n C dX12_keepsAhead_36 rfl rfl ?_
      refine z_aload_n C dX12_keepsAhead_37 rfl rfl ?_
      refine z_geta (k := 2) (q := 2) C z_CF12 (by decide) flX12_13 rfl rfl dX12_keepsAhead_38 ?_
      refine z_iload_n C dX12_keepsAhead_41 rfl rfl ?_
      refine z_bipush (v := 100) C dX12_keepsAhead_42 (by decide) ?_
      refine z_iadd C dX12_keepsAhead_44 ?_
      obtain ⟨b1, h⟩ := z_chk_some h
      refine z_iald C rfl rfl b1 dX12_keepsAhead_45 ?_
      obtain ⟨b2, h⟩ := z_chk_some h
      obtain ⟨σ3, eσ3, h⟩ := z_let_some h
      refine z_iast C rfl rfl b2 eσ3 dX12_keepsAhead_46 ?_
      refine z_iinc (v := v1 + 1) (lo' := [some (.ref (z_a X 0)), some (.int (v1 + 1))]) C dX12_keepsAhead_47 rfl rfl rfl ?_
      refine z_goto (tgt := 21) C dX12_keepsAhead_50 (by decide) ?_
      exact ih (v1 + 1) σ3 h
set_option maxHeartbeats 4000000 in
set_option maxRecDepth 100000 in
theorem t12_keepsAhead {a : Nat → Nat} {σ : z_M} {u : Unit × z_M} (h : f12_keepsAhead σ = some u) : z_Mt yX12_keepsAhead (z_w yX12_keepsAhead cX12_keepsAhead 2 none) 1 S2 a σ [.ref (a 0)] (z_ov u) := by
  refine z_head (lo := [some (.ref (a 0)), none]) (by decide) (Nat.le_of_ble_eq_true rfl) ?_ rfl ?_
  · intro i v hv
    exact z_loe (vs := [.ref (a 0)]) (n := 1) rfl (by simp [z_c1i, z_c1r]) i v hv
  · intro X hXa C
    subst hXa
    unfold f12_keepsAhead at h
    refine z_aload_n C dX12_keepsAhead_0 rfl rfl ?_
    refine z_geti (k := 3) C z_CF12 (by decide) flX12_116 rfl rfl dX12_keepsAhead_1 ?_
    refine z_bipush (v := 6) C dX12_keepsAhead_4 (by decide) ?_
    refine z_icmp_ne (tgt := 53) C dX12_keepsAhead_6 (by decide) (fun hc => ?_) (fun hc => ?_)
    · replace h := z_neg hc h
      exact t12_keepsAhead_J53 C σ h
    · replace h := z_pos hc h
      refine z_aload_n C dX12_keepsAhead_9 rfl rfl ?_
      refine z_aload_n C dX12_keepsAhead_10 rfl rfl ?_
      refine z_geti (k := 3) C z_CF12 (by decide) flX12_116 rfl rfl dX12_keepsAhead_11 ?_
      refine z_iconst (v := 1) C dX12_keepsAhead_14 (by decide) ?_
      refine z_isub C dX12_keepsAhead_15 ?_
      obtain ⟨σ1, eσ1, h⟩ := z_let_some h
      refine z_puti (k := 3) C z_CF12 (by decide) flX12_116 rfl rfl rfl rfl eσ1 dX12_keepsAhead_16 ?_
      refine z_iconst (v := 0) C dX12_keepsAhead_19 (by decide) ?_
      refine z_istore_n (lo' := [some (.ref (z_a X 0)), some (.int 0)]) C dX12_keepsAhead_20 rfl (Nat.le_of_ble_eq_true rfl) rfl ?_
      exact t12_keepsAhead_L21 C _ 0 σ1 h
set_option maxHeartbeats 4000000 in
set_option maxRecDepth 100000 in
theorem t12_undo_L26 {X : z_Ct} (C : z_Cx S2 X RX12 cX12_undo 2 1 (some .boolean)) {u : Int32 × z_M} : ∀ (n : Nat) (v1 : Int32) (σ : z_M), f12_undo_L26 n v1 σ = some u → z_W S2 X 26 [some (.ref (z_a X 0)), some (.int v1)] [] σ (z_oi u) := by
  intro n
  induction n with
  | zero => intro v1 σ h; rw [f12_undo_L26] at h; cases h
  | succ n ih =>
    intro v1 σ h
    rw [f12_undo_L26] at h
    refine z_iload_n C dX12_undo_26 rfl rfl ?_
    refine z_bipush (v := 100) C dX12_undo_27 (by decide) ?_
    refine z_icmp_ge (tgt := 58) C dX12_undo_29 (by decide) (fun hc => ?_) (fun hc => ?_)
    · replace h := z_neg hc h
      refine z_iconst (v := 1) C dX12_undo_58 (by decide) ?_
      exact z_zret C (by decide) h dX12_undo_59
    · replace h := z_pos hc h
      refine z_aload_n C dX12_undo_32 rfl rfl ?_
      refine z_geta (k := 1) (q := 1) C z_CF12 (by decide) flX12_7 rfl rfl dX12_undo_33 ?_
      refine z_iload_n C dX12_undo_36 rfl rfl ?_
      refine z_aload_n C dX12_undo_37 rfl rfl ?_
      refine z_geta (k := 2) (q := 2) C z_CF12 (by decide) flX12_13 rfl rfl dX12_undo_38 ?_
      refine z_bipush (v := 100) C dX12_undo_41 (by decide) ?_
      refine z_aload_n C dX12_undo_43 rfl rfl ?_
      refine z_geti (k := 3) C z_CF12 (by decide) flX12_116 rfl rfl dX12_undo_44 ?_
      refine z_imul C dX12_undo_47 ?_
      refine z_iload_n C dX12_undo_48 rfl rfl ?_
      refine z_iadd C dX12_undo_49 ?_
      obtain ⟨b1, h⟩ := z_chk_some h
      refine z_iald C rfl rfl b1 dX12_undo_50 ?_
      obtain ⟨b2, h⟩ := z_chk_some h
      obtain ⟨σ3, eσ3, h⟩ := z_let_some h
      refine z_iast C rfl rfl b2 eσ3 dX12_undo_51 ?_
      refine z_iinc (v := v1 + 1) (lo' := [some (.ref (z_a X 0)), some (.int (v1 + 1))]) C dX12_undo_52 rfl rfl rfl ?_
      refine z_goto (tgt := 26) C dX12_undo_55 (by decide) ?_
      exact ih (v1 + 1) σ3 h
set_option maxHeartbeats 4000000 in
set_option maxRecDepth 100000 in
theorem t12_undo {a : Nat → Nat} {σ : z_M} {u : Int32 × z_M} (h : f12_undo σ = some u) : z_Mt yX12_undo (z_w yX12_undo cX12_undo 2 (some .boolean)) 1 S2 a σ [.ref (a 0)] (z_oi u) := by
  refine z_head (lo := [some (.ref (a 0)), none]) (by decide) (Nat.le_of_ble_eq_true rfl) ?_ rfl ?_
  · intro i v hv
    exact z_loe (vs := [.ref (a 0)]) (n := 1) rfl (by simp [z_c1i, z_c1r]) i v hv
  · intro X hXa C
    subst hXa
    unfold f12_undo at h
    refine z_aload_n C dX12_undo_0 rfl rfl ?_
    refine z_iconst (v := 0) C dX12_undo_1 (by decide) ?_
    obtain ⟨σ1, eσ1, h⟩ := z_let_some h
    refine z_puti (k := 0) C z_CF12 (by decide) flX12_113 rfl rfl rfl rfl eσ1 dX12_undo_2 ?_
    refine z_aload_n C dX12_undo_5 rfl rfl ?_
    refine z_geti (k := 3) C z_CF12 (by decide) flX12_116 rfl rfl dX12_undo_6 ?_
    refine z_if_ne (tgt := 14) C dX12_undo_9 (by decide) (fun hc => ?_) (fun hc => ?_)
    · replace h := z_neg hc h
      refine z_aload_n C dX12_undo_14 rfl rfl ?_
      refine z_aload_n C dX12_undo_15 rfl rfl ?_
      refine z_geti (k := 3) C z_CF12 (by decide) flX12_116 rfl rfl dX12_undo_16 ?_
      refine z_iconst (v := 1) C dX12_undo_19 (by decide) ?_
      refine z_isub C dX12_undo_20 ?_
      obtain ⟨σ2, eσ2, h⟩ := z_let_some h
      refine z_puti (k := 3) C z_CF12 (by decide) flX12_116 rfl rfl rfl rfl eσ2 dX12_undo_21 ?_
      refine z_iconst (v := 0) C dX12_undo_24 (by decide) ?_
      refine z_istore_n (lo' := [some (.ref (z_a X 0)), some (.int 0)]) C dX12_undo_25 rfl (Nat.le_of_ble_eq_true rfl) rfl ?_
      exact t12_undo_L26 C _ 0 σ2 h
    · replace h := z_pos hc h
      refine z_iconst (v := 0) C dX12_undo_12 (by decide) ?_
      exact z_zret C (by decide) h dX12_undo_13
set_option maxHeartbeats 4000000 in
set_option maxRecDepth 100000 in
theorem t12_thinks_J26 {X : z_Ct} (C : z_Cx S2 X RX12 cX12_thinks 2 1 none) {u : Unit × z_M} (σ : z_M) (h : f12_thinks_J26 σ = some u) : z_W S2 X 26 [some (.ref (z_a X 0)), none] [] σ (z_ov u) := by
  unfold f12_thinks_J26 at h
  refine z_aload_n C dX12_thinks_26 rfl rfl ?_
  refine z_iconst (v := 1) C dX12_thinks_27 (by decide) ?_
  obtain ⟨σ1, eσ1, h⟩ := z_let_some h
  refine z_putz (k := 5) C z_CF12 (by decide) flX12_119 rfl rfl rfl rfl (by decide) eσ1 dX12_thinks_28 ?_
  exact z_vret C h dX12_thinks_31
set_option maxHeartbeats 4000000 in
set_option maxRecDepth 100000 in
theorem t12_thinks_L2 {X : z_Ct} (C : z_Cx S2 X RX12 cX12_thinks 2 1 none) {u : Unit × z_M} : ∀ (n : Nat) (v1 : Int32) (σ : z_M), f12_thinks_L2 n v1 σ = some u → z_W S2 X 2 [some (.ref (z_a X 0)), some (.int v1)] [] σ (z_ov u) := by
  intro n
  induction n with
  | zero => intro v1 σ h; rw [f12_thinks_L2] at h; cases h
  | succ n ih =>
    intro v1 σ h
    rw [f12_thinks_L2] at h
    refine z_iload_n C dX12_thinks_2 rfl rfl ?_
    refine z_bipush (v := 100) C dX12_thinks_3 (by decide) ?_
    refine z_icmp_ge (tgt := 26) C dX12_thinks_5 (by decide) (fun hc => ?_) (fun hc => ?_)
    · replace h := z_neg hc h
      refine z_kill (lo' := [some (.ref (z_a X 0)), none]) [1] rfl ?_
      exact t12_thinks_J26 C σ h
    · replace h := z_pos hc h
      refine z_aload_n C dX12_thinks_8 rfl rfl ?_
      refine z_geta (k := 4) (q := 3) C z_CF12 (by decide) flX12_16 rfl rfl dX12_thinks_9 ?_
      refine z_iload_n C dX12_thinks_12 rfl rfl ?_
      refine z_aload_n C dX12_thinks_13 rfl rfl ?_
      refine z_geta (k := 1) (q := 1) C z_CF12 (by decide) flX12_7 rfl rfl dX12_thinks_14 ?_
      refine z_iload_n C dX12_thinks_17 rfl rfl ?_
      obtain ⟨b1, h⟩ := z_chk_some h
      refine z_iald C rfl rfl b1 dX12_thinks_18 ?_
      obtain ⟨b2, h⟩ := z_chk_some h
      obtain ⟨σ3, eσ3, h⟩ := z_let_some h
      refine z_iast C rfl rfl b2 eσ3 dX12_thinks_19 ?_
      refine z_iinc (v := v1 + 1) (lo' := [some (.ref (z_a X 0)), some (.int (v1 + 1))]) C dX12_thinks_20 rfl rfl rfl ?_
      refine z_goto (tgt := 2) C dX12_thinks_23 (by decide) ?_
      exact ih (v1 + 1) σ3 h
set_option maxHeartbeats 4000000 in
set_option maxRecDepth 100000 in
theorem t12_thinks {a : Nat → Nat} {σ : z_M} {u : Unit × z_M} (h : f12_thinks σ = some u) : z_Mt yX12_thinks (z_w yX12_thinks cX12_thinks 2 none) 1 S2 a σ [.ref (a 0)] (z_ov u) := by
  refine z_head (lo := [some (.ref (a 0)), none]) (by decide) (Nat.le_of_ble_eq_true rfl) ?_ rfl ?_
  · intro i v hv
    exact z_loe (vs := [.ref (a 0)]) (n := 1) rfl (by simp [z_c1i, z_c1r]) i v hv
  · intro X hXa C
    subst hXa
    unfold f12_thinks at h
    refine z_iconst (v := 0) C dX12_thinks_0 (by decide) ?_
    refine z_istore_n (lo' := [some (.ref (z_a X 0)), some (.int 0)]) C dX12_thinks_1 rfl (Nat.le_of_ble_eq_true rfl) rfl ?_
    exact t12_thinks_L2 C _ 0 σ h
set_option maxHeartbeats 4000000 in
set_option maxRecDepth 100000 in
theorem t12_thinksAnew_L2 {X : z_Ct} (C : z_Cx S2 X RX12 cX12_thinksAnew 2 1 none) {u : Unit × z_M} : ∀ (n : Nat) (v1 : Int32) (σ : z_M), f12_thinksAnew_L2 n v1 σ = some u → z_W S2 X 2 [some (.ref (z_a X 0)), some (.int v1)] [] σ (z_ov u) := by
  intro n
  induction n with
  | zero => intro v1 σ h; rw [f12_thinksAnew_L2] at h; cases h
  | succ n ih =>
    intro v1 σ h
    rw [f12_thinksAnew_L2] at h
    refine z_iload_n C dX12_thinksAnew_2 rfl rfl ?_
    refine z_bipush (v := 100) C dX12_thinksAnew_3 (by decide) ?_
    refine z_icmp_ge (tgt := 26) C dX12_thinksAnew_5 (by decide) (fun hc => ?_) (fun hc => ?_)
    · replace h := z_neg hc h
      exact z_vret C h dX12_thinksAnew_26
    · replace h := z_pos hc h
      refine z_aload_n C dX12_thinksAnew_8 rfl rfl ?_
      refine z_geta (k := 1) (q := 1) C z_CF12 (by decide) flX12_7 rfl rfl dX12_thinksAnew_9 ?_
      refine z_iload_n C dX12_thinksAnew_12 rfl rfl ?_
      refine z_aload_n C dX12_thinksAnew_13 rfl rfl ?_
      refine z_geta (k := 4) (q := 3) C z_CF12 (by decide) flX12_16 rfl rfl dX12_thinksAnew_14 ?_
      refine z_iload_n C dX12_thinksAnew_17 rfl rfl ?_
      obtain ⟨b1, h⟩ := z_chk_some h
      refine z_iald C rfl rfl b1 dX12_thinksAnew_18 ?_
      obtain ⟨b2, h⟩ := z_chk_some h
      obtain ⟨σ3, eσ3, h⟩ := z_let_some h
      refine z_iast C rfl rfl b2 eσ3 dX12_thinksAnew_19 ?_
      refine z_iinc (v := v1 + 1) (lo' := [some (.ref (z_a X 0)), some (.int (v1 + 1))]) C dX12_thinksAnew_20 rfl rfl rfl ?_
      refine z_goto (tgt := 2) C dX12_thinksAnew_23 (by decide) ?_
      exact ih (v1 + 1) σ3 h
set_option maxHeartbeats 4000000 in
set_option maxRecDepth 100000 in
theorem t12_thinksAnew {a : Nat → Nat} {σ : z_M} {u : Unit × z_M} (h : f12_thinksAnew σ = some u) : z_Mt yX12_thinksAnew (z_w yX12_thinksAnew cX12_thinksAnew 2 none) 1 S2 a σ [.ref (a 0)] (z_ov u) := by
  refine z_head (lo := [some (.ref (a 0)), none]) (by decide) (Nat.le_of_ble_eq_true rfl) ?_ rfl ?_
  · intro i v hv
    exact z_loe (vs := [.ref (a 0)]) (n := 1) rfl (by simp [z_c1i, z_c1r]) i v hv
  · intro X hXa C
    subst hXa
    unfold f12_thinksAnew at h
    refine z_iconst (v := 0) C dX12_thinksAnew_0 (by decide) ?_
    refine z_istore_n (lo' := [some (.ref (z_a X 0)), some (.int 0)]) C dX12_thinksAnew_1 rfl (Nat.le_of_ble_eq_true rfl) rfl ?_
    exact t12_thinksAnew_L2 C _ 0 σ h
set_option maxHeartbeats 4000000 in
set_option maxRecDepth 100000 in
theorem t12_endsThought {a : Nat → Nat} {σ : z_M} {u : Unit × z_M} (h : f12_endsThought σ = some u) : z_Mt yX12_endsThought (z_w yX12_endsThought cX12_endsThought 1 none) 2 S2 a σ [.ref (a 0)] (z_ov u) := by
  refine z_head (lo := [some (.ref (a 0))]) (by decide) (Nat.le_of_ble_eq_true rfl) ?_ rfl ?_
  · intro i v hv
    exact z_loe (vs := [.ref (a 0)]) (n := 0) rfl (by simp [z_c1i, z_c1r]) i v hv
  · intro X hXa C
    subst hXa
    unfold f12_endsThought at h
    refine z_aload_n C dX12_endsThought_0 rfl rfl ?_
    obtain ⟨⟨⟩, σ2, mσ2, h⟩ := z_bnd2 h
    refine z_cvv (As := []) (c := 0) (st := []) C (t12_thinksAnew mσ2) kvX12_thinksAnew rfl mlX12_123 z_CF12 rfl rfl (by decide) rfl (Nat.le_of_ble_eq_true rfl) dX12_endsThought_1 ?_
    refine z_aload_n C dX12_endsThought_4 rfl rfl ?_
    refine z_iconst (v := 0) C dX12_endsThought_5 (by decide) ?_
    obtain ⟨σ3, eσ3, h⟩ := z_let_some h
    refine z_putz (k := 5) C z_CF12 (by decide) flX12_119 rfl rfl rfl rfl (by decide) eσ3 dX12_endsThought_6 ?_
    exact z_vret C h dX12_endsThought_9
set_option maxHeartbeats 4000000 in
set_option maxRecDepth 100000 in
theorem t12_state {a : Nat → Nat} (p1 : Int32) {σ : z_M} {u : Int32 × z_M} (h : f12_state p1 σ = some u) : z_Mt yX12_state (z_w yX12_state cX12_state 3 (some .int)) 1 S2 a σ [.ref (a 0), .int p1] (z_oi u) := by
  refine z_head (lo := [some (.ref (a 0)), some (.int p1), none]) (by decide) (Nat.le_of_ble_eq_true rfl) ?_ rfl ?_
  · intro i v hv
    exact z_loe (vs := [.ref (a 0), .int p1]) (n := 1) rfl (by simp [z_c1i, z_c1r]) i v hv
  · intro X hXa C
    subst hXa
    unfold f12_state at h
    refine z_aload_n C dX12_state_0 rfl rfl ?_
    refine z_iconst (v := 0) C dX12_state_1 (by decide) ?_
    obtain ⟨σ1, eσ1, h⟩ := z_let_some h
    refine z_puti (k := 0) C z_CF12 (by decide) flX12_113 rfl rfl rfl rfl eσ1 dX12_state_2 ?_
    refine z_aload_n C dX12_state_5 rfl rfl ?_
    refine z_geta (k := 1) (q := 1) C z_CF12 (by decide) flX12_7 rfl rfl dX12_state_6 ?_
    refine z_iconst (v := 1) C dX12_state_9 (by decide) ?_
    obtain ⟨b2, h⟩ := z_chk_some h
    refine z_iald C rfl rfl b2 dX12_state_10 ?_
    refine z_istore_n (lo' := [some (.ref (z_a X 0)), some (.int p1), some (.int (σ1 1 (z_ix 1)))]) C dX12_state_11 rfl (Nat.le_of_ble_eq_true rfl) rfl ?_
    refine z_aload_n C dX12_state_12 rfl rfl ?_
    refine z_geta (k := 1) (q := 1) C z_CF12 (by decide) flX12_7 rfl rfl dX12_state_13 ?_
    refine z_iconst (v := 1) C dX12_state_16 (by decide) ?_
    refine z_iload_n C dX12_state_17 rfl rfl ?_
    obtain ⟨b3, h⟩ := z_chk_some h
    obtain ⟨σ4, eσ4, h⟩ := z_let_some h
    refine z_iast C rfl rfl b3 eσ4 dX12_state_18 ?_
    refine z_aload_n C dX12_state_19 rfl rfl ?_
    refine z_iconst (v := 0) C dX12_state_20 (by decide) ?_
    obtain ⟨σ5, eσ5, h⟩ := z_let_some h
    refine z_puti (k := 3) C z_CF12 (by decide) flX12_116 rfl rfl rfl rfl eσ5 dX12_state_21 ?_
    refine z_iload_n C dX12_state_24 rfl rfl ?_
    exact z_iret C h dX12_state_25
set_option maxHeartbeats 4000000 in
set_option maxRecDepth 100000 in
theorem t12_draw {a : Nat → Nat} (p1 : Int32) {σ : z_M} {u : Int32 × z_M} (h : f12_draw p1 σ = some u) : z_Mt yX12_draw (z_w yX12_draw cX12_draw 2 (some .int)) 1 S2 a σ [.ref (a 0), .int p1] (z_oi u) := by
  refine z_head (lo := [some (.ref (a 0)), some (.int p1)]) (by decide) (Nat.le_of_ble_eq_true rfl) ?_ rfl ?_
  · intro i v hv
    exact z_loe (vs := [.ref (a 0), .int p1]) (n := 0) rfl (by simp [z_c1i, z_c1r]) i v hv
  · intro X hXa C
    subst hXa
    unfold f12_draw at h
    refine z_aload_n C dX12_draw_0 rfl rfl ?_
    refine z_geta (k := 1) (q := 1) C z_CF12 (by decide) flX12_7 rfl rfl dX12_draw_1 ?_
    refine z_iconst (v := 1) C dX12_draw_4 (by decide) ?_
    refine z_ldc (v := 1664525) C dX12_draw_5 cnX12_126 ?_
    refine z_aload_n C dX12_draw_7 rfl rfl ?_
    refine z_geta (k := 1) (q := 1) C z_CF12 (by decide) flX12_7 rfl rfl dX12_draw_8 ?_
    refine z_iconst (v := 1) C dX12_draw_11 (by decide) ?_
    obtain ⟨b1, h⟩ := z_chk_some h
    refine z_iald C rfl rfl b1 dX12_draw_12 ?_
    refine z_imul C dX12_draw_13 ?_
    refine z_ldc (v := 1013904223) C dX12_draw_14 cnX12_127 ?_
    refine z_iadd C dX12_draw_16 ?_
    obtain ⟨b2, h⟩ := z_chk_some h
    obtain ⟨σ3, eσ3, h⟩ := z_let_some h
    refine z_iast C rfl rfl b2 eσ3 dX12_draw_17 ?_
    refine z_aload_n C dX12_draw_18 rfl rfl ?_
    refine z_geta (k := 1) (q := 1) C z_CF12 (by decide) flX12_7 rfl rfl dX12_draw_19 ?_
    refine z_iconst (v := 1) C dX12_draw_22 (by decide) ?_
    obtain ⟨b4, h⟩ := z_chk_some h
    refine z_iald C rfl rfl b4 dX12_draw_23 ?_
    refine z_bipush (v := 8) C dX12_draw_24 (by decide) ?_
    refine z_iushr C dX12_draw_26 ?_
    refine z_iload_n C dX12_draw_27 rfl rfl ?_
    obtain ⟨b5, h⟩ := z_chk_some h
    refine z_irem C dX12_draw_28 (by simpa using b5) ?_
    exact z_iret C h dX12_draw_29
set_option maxHeartbeats 4000000 in
set_option maxRecDepth 100000 in
theorem t12_most {a : Nat → Nat} {σ : z_M} {u : Int32 × z_M} (h : f12_most σ = some u) : z_Mt yX12_most (z_w yX12_most cX12_most 1 (some .int)) 1 S2 a σ [.ref (a 0)] (z_oi u) := by
  refine z_head (lo := [some (.ref (a 0))]) (by decide) (Nat.le_of_ble_eq_true rfl) ?_ rfl ?_
  · intro i v hv
    exact z_loe (vs := [.ref (a 0)]) (n := 0) rfl (by simp [z_c1i, z_c1r]) i v hv
  · intro X hXa C
    subst hXa
    unfold f12_most at h
    refine z_aload_n C dX12_most_0 rfl rfl ?_
    refine z_geti (k := 7) C z_CF12 (by decide) flX12_128 rfl rfl dX12_most_1 ?_
    refine z_iconst (v := 3) C dX12_most_4 (by decide) ?_
    refine z_iadd C dX12_most_5 ?_
    exact z_iret C h dX12_most_6
set_option maxHeartbeats 4000000 in
set_option maxRecDepth 100000 in
theorem t12_isHouse_J16 {X : z_Ct} (C : z_Cx S2 X RX12 cX12_isHouse 2 1 (some .boolean)) {u : Int32 × z_M} (σ : z_M) (h : f12_isHouse_J16 σ = some u) : z_W S2 X 16 [none, none] [] σ (z_oi u) := by
  unfold f12_isHouse_J16 at h
  refine z_iconst (v := 0) C dX12_isHouse_16 (by decide) ?_
  exact z_zret C (by decide) h dX12_isHouse_17
set_option maxHeartbeats 4000000 in
set_option maxRecDepth 100000 in
theorem t12_isHouse {a : Nat → Nat} (p1 : Int32) {σ : z_M} {u : Int32 × z_M} (h : f12_isHouse p1 σ = some u) : z_Mt yX12_isHouse (z_w yX12_isHouse cX12_isHouse 2 (some .boolean)) 1 S2 a σ [.ref (a 0), .int p1] (z_oi u) := by
  refine z_head (lo := [some (.ref (a 0)), some (.int p1)]) (by decide) (Nat.le_of_ble_eq_true rfl) ?_ rfl ?_
  · intro i v hv
    exact z_loe (vs := [.ref (a 0), .int p1]) (n := 0) rfl (by simp [z_c1i, z_c1r]) i v hv
  · intro X hXa C
    subst hXa
    unfold f12_isHouse at h
    refine z_iload_n C dX12_isHouse_0 rfl rfl ?_
    refine z_if_lt (tgt := 16) C dX12_isHouse_1 (by decide) (fun hc => ?_) (fun hc => ?_)
    · replace h := z_pos hc h
      refine z_kill (lo' := [none, none]) [0, 1] rfl ?_
      exact t12_isHouse_J16 C σ h
    · replace h := z_neg hc h
      refine z_iload_n C dX12_isHouse_4 rfl rfl ?_
      refine z_aload_n C dX12_isHouse_5 rfl rfl ?_
      refine z_geti (k := 6) C z_CF12 (by decide) flX12_131 rfl rfl dX12_isHouse_6 ?_
      refine z_icmp_ge (tgt := 16) C dX12_isHouse_9 (by decide) (fun hc => ?_) (fun hc => ?_)
      · replace h := z_neg hc h
        refine z_kill (lo' := [none, none]) [0, 1] rfl ?_
        exact t12_isHouse_J16 C σ h
      · replace h := z_pos hc h
        refine z_iconst (v := 1) C dX12_isHouse_12 (by decide) ?_
        refine z_goto (tgt := 17) C dX12_isHouse_13 (by decide) ?_
        exact z_zret C (by decide) h dX12_isHouse_17
set_option maxHeartbeats 4000000 in
set_option maxRecDepth 100000 in
theorem t12_isThing_J14 {X : z_Ct} (C : z_Cx S2 X RX12 cX12_isThing 2 1 (some .boolean)) {u : Int32 × z_M} (σ : z_M) (h : f12_isThing_J14 σ = some u) : z_W S2 X 14 [none, none] [] σ (z_oi u) := by
  unfold f12_isThing_J14 at h
  refine z_iconst (v := 0) C dX12_isThing_14 (by decide) ?_
  exact z_zret C (by decide) h dX12_isThing_15
set_option maxHeartbeats 4000000 in
set_option maxRecDepth 100000 in
theorem t12_isThing {a : Nat → Nat} (p1 : Int32) {σ : z_M} {u : Int32 × z_M} (h : f12_isThing p1 σ = some u) : z_Mt yX12_isThing (z_w yX12_isThing cX12_isThing 2 (some .boolean)) 1 S2 a σ [.ref (a 0), .int p1] (z_oi u) := by
  refine z_head (lo := [some (.ref (a 0)), some (.int p1)]) (by decide) (Nat.le_of_ble_eq_true rfl) ?_ rfl ?_
  · intro i v hv
    exact z_loe (vs := [.ref (a 0), .int p1]) (n := 0) rfl (by simp [z_c1i, z_c1r]) i v hv
  · intro X hXa C
    subst hXa
    unfold f12_isThing at h
    refine z_iload_n C dX12_isThing_0 rfl rfl ?_
    refine z_if_lt (tgt := 14) C dX12_isThing_1 (by decide) (fun hc => ?_) (fun hc => ?_)
    · replace h := z_pos hc h
      refine z_kill (lo' := [none, none]) [0, 1] rfl ?_
      exact t12_isThing_J14 C σ h
    · replace h := z_neg hc h
      refine z_iload_n C dX12_isThing_4 rfl rfl ?_
      refine z_bipush (v := 8) C dX12_isThing_5 (by decide) ?_
      refine z_icmp_ge (tgt := 14) C dX12_isThing_7 (by decide) (fun hc => ?_) (fun hc => ?_)
      · replace h := z_neg hc h
        refine z_kill (lo' := [none, none]) [0, 1] rfl ?_
        exact t12_isThing_J14 C σ h
      · replace h := z_pos hc h
        refine z_iconst (v := 1) C dX12_isThing_10 (by decide) ?_
        refine z_goto (tgt := 15) C dX12_isThing_11 (by decide) ?_
        exact z_zret C (by decide) h dX12_isThing_15
set_option maxHeartbeats 4000000 in
set_option maxRecDepth 100000 in
theorem t12_degreeOf {a : Nat → Nat} (p1 : Int32) (p2 : Int32) {σ : z_M} {u : Int32 × z_M} (h : f12_degreeOf p1 p2 σ = some u) : z_Mt yX12_degreeOf (z_w yX12_degreeOf cX12_degreeOf 3 (some .int)) 1 S2 a σ [.ref (a 0), .int p1, .int p2] (z_oi u) := by
  refine z_head (lo := [some (.ref (a 0)), some (.int p1), some (.int p2)]) (by decide) (Nat.le_of_ble_eq_true rfl) ?_ rfl ?_
  · intro i v hv
    exact z_loe (vs := [.ref (a 0), .int p1, .int p2]) (n := 0) rfl (by simp [z_c1i, z_c1r]) i v hv
  · intro X hXa C
    subst hXa
    unfold f12_degreeOf at h
    refine z_aload_n C dX12_degreeOf_0 rfl rfl ?_
    refine z_geta (k := 1) (q := 1) C z_CF12 (by decide) flX12_7 rfl rfl dX12_degreeOf_1 ?_
    refine z_iconst (v := 4) C dX12_degreeOf_4 (by decide) ?_
    refine z_bipush (v := 8) C dX12_degreeOf_5 (by decide) ?_
    refine z_iload_n C dX12_degreeOf_7 rfl rfl ?_
    refine z_imul C dX12_degreeOf_8 ?_
    refine z_iadd C dX12_degreeOf_9 ?_
    refine z_iload_n C dX12_degreeOf_10 rfl rfl ?_
    refine z_iadd C dX12_degreeOf_11 ?_
    obtain ⟨b1, h⟩ := z_chk_some h
    refine z_iald C rfl rfl b1 dX12_degreeOf_12 ?_
    refine z_bipush (v := 50) C dX12_degreeOf_13 (by decide) ?_
    refine z_iadd C dX12_degreeOf_15 ?_
    exact z_iret C h dX12_degreeOf_16
set_option maxHeartbeats 4000000 in
set_option maxRecDepth 100000 in
theorem t12_degreeBe {a : Nat → Nat} (p1 : Int32) (p2 : Int32) (p3 : Int32) {σ : z_M} {u : Unit × z_M} (h : f12_degreeBe p1 p2 p3 σ = some u) : z_Mt yX12_degreeBe (z_w yX12_degreeBe cX12_degreeBe 4 none) 1 S2 a σ [.ref (a 0), .int p1, .int p2, .int p3] (z_ov u) := by
  refine z_head (lo := [some (.ref (a 0)), some (.int p1), some (.int p2), some (.int p3)]) (by decide) (Nat.le_of_ble_eq_true rfl) ?_ rfl ?_
  · intro i v hv
    exact z_loe (vs := [.ref (a 0), .int p1, .int p2, .int p3]) (n := 0) rfl (by simp [z_c1i, z_c1r]) i v hv
  · intro X hXa C
    subst hXa
    unfold f12_degreeBe at h
    refine z_aload_n C dX12_degreeBe_0 rfl rfl ?_
    refine z_geta (k := 1) (q := 1) C z_CF12 (by decide) flX12_7 rfl rfl dX12_degreeBe_1 ?_
    refine z_iconst (v := 4) C dX12_degreeBe_4 (by decide) ?_
    refine z_bipush (v := 8) C dX12_degreeBe_5 (by decide) ?_
    refine z_iload_n C dX12_degreeBe_7 rfl rfl ?_
    refine z_imul C dX12_degreeBe_8 ?_
    refine z_iadd C dX12_degreeBe_9 ?_
    refine z_iload_n C dX12_degreeBe_10 rfl rfl ?_
    refine z_iadd C dX12_degreeBe_11 ?_
    refine z_iload_n C dX12_degreeBe_12 rfl rfl ?_
    refine z_bipush (v := 50) C dX12_degreeBe_13 (by decide) ?_
    refine z_isub C dX12_degreeBe_15 ?_
    obtain ⟨b1, h⟩ := z_chk_some h
    obtain ⟨σ2, eσ2, h⟩ := z_let_some h
    refine z_iast C rfl rfl b1 eσ2 dX12_degreeBe_16 ?_
    exact z_vret C h dX12_degreeBe_17
set_option maxHeartbeats 4000000 in
set_option maxRecDepth 100000 in
theorem t12_suresOf_L4 {X : z_Ct} (C : z_Cx S2 X RX12 cX12_suresOf 4 2 (some .int)) {u : Int32 × z_M} : ∀ (n : Nat) (v1 : Int32) (v2 : Int32) (v3 : Int32) (σ : z_M), f12_suresOf_L4 n v1 v2 v3 σ = some u → z_W S2 X 4 [some (.ref (z_a X 0)), some (.int v1), some (.int v2), some (.int v3)] [] σ (z_oi u) := by
  intro n
  induction n with
  | zero => intro v1 v2 v3 σ h; rw [f12_suresOf_L4] at h; cases h
  | succ n ih =>
    intro v1 v2 v3 σ h
    rw [f12_suresOf_L4] at h
    refine z_iload_n C dX12_suresOf_4 rfl rfl ?_
    refine z_bipush (v := 8) C dX12_suresOf_5 (by decide) ?_
    refine z_icmp_ge (tgt := 33) C dX12_suresOf_7 (by decide) (fun hc => ?_) (fun hc => ?_)
    · replace h := z_neg hc h
      refine z_iload_n C dX12_suresOf_33 rfl rfl ?_
      exact z_iret C h dX12_suresOf_34
    · replace h := z_pos hc h
      refine z_aload_n C dX12_suresOf_10 rfl rfl ?_
      refine z_iload_n C dX12_suresOf_11 rfl rfl ?_
      refine z_iload_n C dX12_suresOf_12 rfl rfl ?_
      obtain ⟨r1, σ2, mσ2, h⟩ := z_bnd2 h
      refine z_cvi (As := [.int v1, .int v3]) (c := 0) (st := []) C (t12_degreeOf v1 v3 mσ2) kvX12_degreeOf rfl mlX12_134 z_CF12 rfl rfl (by decide) rfl (Nat.le_of_ble_eq_true rfl) dX12_suresOf_13 ?_
      refine z_bipush (v := 90) C dX12_suresOf_16 (by decide) ?_
      refine z_icmp_lt (tgt := 27) C dX12_suresOf_18 (by decide) (fun hc => ?_) (fun hc => ?_)
      · replace h := z_pos hc h
        refine z_iinc (v := v3 + 1) (lo' := [some (.ref (z_a X 0)), some (.int v1), some (.int v2), some (.int (v3 + 1))]) C dX12_suresOf_27 rfl rfl rfl ?_
        refine z_goto (tgt := 4) C dX12_suresOf_30 (by decide) ?_
        exact ih v1 v2 (v3 + 1) σ2 h
      · replace h := z_neg hc h
        refine z_iload_n C dX12_suresOf_21 rfl rfl ?_
        refine z_iconst (v := 1) C dX12_suresOf_22 (by decide) ?_
        refine z_iload_n C dX12_suresOf_23 rfl rfl ?_
        refine z_ishl C dX12_suresOf_24 ?_
        refine z_ior C dX12_suresOf_25 ?_
        refine z_istore_n (lo' := [some (.ref (z_a X 0)), some (.int v1), some (.int (v2 ||| (z_shl 1 v3))), some (.int v3)]) C dX12_suresOf_26 rfl (Nat.le_of_ble_eq_true rfl) rfl ?_
        refine z_iinc (v := v3 + 1) (lo' := [some (.ref (z_a X 0)), some (.int v1), some (.int (v2 ||| (z_shl 1 v3))), some (.int (v3 + 1))]) C dX12_suresOf_27 rfl rfl rfl ?_
        refine z_goto (tgt := 4) C dX12_suresOf_30 (by decide) ?_
        exact ih v1 (v2 ||| (z_shl 1 v3)) (v3 + 1) σ2 h
set_option maxHeartbeats 4000000 in
set_option maxRecDepth 100000 in
theorem t12_suresOf {a : Nat → Nat} (p1 : Int32) {σ : z_M} {u : Int32 × z_M} (h : f12_suresOf p1 σ = some u) : z_Mt yX12_suresOf (z_w yX12_suresOf cX12_suresOf 4 (some .int)) 2 S2 a σ [.ref (a 0), .int p1] (z_oi u) := by
  refine z_head (lo := [some (.ref (a 0)), some (.int p1), none, none]) (by decide) (Nat.le_of_ble_eq_true rfl) ?_ rfl ?_
  · intro i v hv
    exact z_loe (vs := [.ref (a 0), .int p1]) (n := 2) rfl (by simp [z_c1i, z_c1r]) i v hv
  · intro X hXa C
    subst hXa
    unfold f12_suresOf at h
    refine z_iconst (v := 0) C dX12_suresOf_0 (by decide) ?_
    refine z_istore_n (lo' := [some (.ref (z_a X 0)), some (.int p1), some (.int 0), none]) C dX12_suresOf_1 rfl (Nat.le_of_ble_eq_true rfl) rfl ?_
    refine z_iconst (v := 0) C dX12_suresOf_2 (by decide) ?_
    refine z_istore_n (lo' := [some (.ref (z_a X 0)), some (.int p1), some (.int 0), some (.int 0)]) C dX12_suresOf_3 rfl (Nat.le_of_ble_eq_true rfl) rfl ?_
    exact t12_suresOf_L4 C _ p1 0 0 σ h
set_option maxHeartbeats 4000000 in
set_option maxRecDepth 100000 in
theorem t12_potOf {a : Nat → Nat} (p1 : Int32) {σ : z_M} {u : Int32 × z_M} (h : f12_potOf p1 σ = some u) : z_Mt yX12_potOf (z_w yX12_potOf cX12_potOf 2 (some .int)) 1 S2 a σ [.ref (a 0), .int p1] (z_oi u) := by
  refine z_head (lo := [some (.ref (a 0)), some (.int p1)]) (by decide) (Nat.le_of_ble_eq_true rfl) ?_ rfl ?_
  · intro i v hv
    exact z_loe (vs := [.ref (a 0), .int p1]) (n := 0) rfl (by simp [z_c1i, z_c1r]) i v hv
  · intro X hXa C
    subst hXa
    unfold f12_potOf at h
    refine z_aload_n C dX12_potOf_0 rfl rfl ?_
    refine z_geta (k := 1) (q := 1) C z_CF12 (by decide) flX12_7 rfl rfl dX12_potOf_1 ?_
    refine z_bipush (v := 68) C dX12_potOf_4 (by decide) ?_
    refine z_iload_n C dX12_potOf_6 rfl rfl ?_
    refine z_iadd C dX12_potOf_7 ?_
    obtain ⟨b1, h⟩ := z_chk_some h
    refine z_iald C rfl rfl b1 dX12_potOf_8 ?_
    refine z_iconst (v := 1) C dX12_potOf_9 (by decide) ?_
    refine z_isub C dX12_potOf_10 ?_
    exact z_iret C h dX12_potOf_11
set_option maxHeartbeats 4000000 in
set_option maxRecDepth 100000 in
theorem t12_house_J85 {X : z_Ct} (C : z_Cx S2 X RX12 cX12_house 3 2 (some .int)) {u : Int32 × z_M} (v1 : Int32) (σ : z_M) (h : f12_house_J85 v1 σ = some u) : z_W S2 X 85 [some (.ref (z_a X 0)), some (.int v1), none] [] σ (z_oi u) := by
  unfold f12_house_J85 at h
  refine z_aload_n C dX12_house_85 rfl rfl ?_
  refine z_geta (k := 11) (q := 5) C z_CF12 (by decide) flX12_22 rfl rfl dX12_house_86 ?_
  refine z_iload_n C dX12_house_89 rfl rfl ?_
  refine z_iconst (v := 0) C dX12_house_90 (by decide) ?_
  obtain ⟨b1, h⟩ := z_chk_some h
  obtain ⟨σ2, eσ2, h⟩ := z_let_some h
  refine z_iast C rfl rfl b1 eσ2 dX12_house_91 ?_
  refine z_aload_n C dX12_house_92 rfl rfl ?_
  refine z_aload_n C dX12_house_93 rfl rfl ?_
  refine z_geti (k := 6) C z_CF12 (by decide) flX12_131 rfl rfl dX12_house_94 ?_
  refine z_iconst (v := 1) C dX12_house_97 (by decide) ?_
  refine z_iadd C dX12_house_98 ?_
  obtain ⟨σ3, eσ3, h⟩ := z_let_some h
  refine z_puti (k := 6) C z_CF12 (by decide) flX12_131 rfl rfl rfl rfl eσ3 dX12_house_99 ?_
  refine z_aload_n C dX12_house_102 rfl rfl ?_
  refine z_iconst (v := 0) C dX12_house_103 (by decide) ?_
  obtain ⟨σ4, eσ4, h⟩ := z_let_some h
  refine z_puti (k := 3) C z_CF12 (by decide) flX12_116 rfl rfl rfl rfl eσ4 dX12_house_104 ?_
  refine z_iload_n C dX12_house_107 rfl rfl ?_
  exact z_iret C h dX12_house_108
set_option maxHeartbeats 4000000 in
set_option maxRecDepth 100000 in
theorem t12_house_L55 {X : z_Ct} (C : z_Cx S2 X RX12 cX12_house 3 2 (some .int)) {u : Int32 × z_M} : ∀ (n : Nat) (v1 : Int32) (v2 : Int32) (σ : z_M), f12_house_L55 n v1 v2 σ = some u → z_W S2 X 55 [some (.ref (z_a X 0)), some (.int v1), some (.int v2)] [] σ (z_oi u) := by
  intro n
  induction n with
  | zero => intro v1 v2 σ h; rw [f12_house_L55] at h; cases h
  | succ n ih =>
    intro v1 v2 σ h
    rw [f12_house_L55] at h
    refine z_iload_n C dX12_house_55 rfl rfl ?_
    refine z_bipush (v := 8) C dX12_house_56 (by decide) ?_
    refine z_icmp_ge (tgt := 85) C dX12_house_58 (by decide) (fun hc => ?_) (fun hc => ?_)
    · replace h := z_neg hc h
      refine z_kill (lo' := [some (.ref (z_a X 0)), some (.int v1), none]) [2] rfl ?_
      exact t12_house_J85 C v1 σ h
    · replace h := z_pos hc h
      refine z_aload_n C dX12_house_61 rfl rfl ?_
      refine z_geta (k := 11) (q := 5) C z_CF12 (by decide) flX12_22 rfl rfl dX12_house_62 ?_
      refine z_iload_n C dX12_house_65 rfl rfl ?_
      refine z_aload_n C dX12_house_66 rfl rfl ?_
      refine z_geta (k := 11) (q := 5) C z_CF12 (by decide) flX12_22 rfl rfl dX12_house_67 ?_
      refine z_iload_n C dX12_house_70 rfl rfl ?_
      obtain ⟨b1, h⟩ := z_chk_some h
      refine z_iald C rfl rfl b1 dX12_house_71 ?_
      refine z_iconst (v := 1) C dX12_house_72 (by decide) ?_
      refine z_iload_n C dX12_house_73 rfl rfl ?_
      refine z_ishl C dX12_house_74 ?_
      refine z_iconst (v := (-1)) C dX12_house_75 (by decide) ?_
      refine z_ixor C dX12_house_76 ?_
      refine z_iand C dX12_house_77 ?_
      obtain ⟨b2, h⟩ := z_chk_some h
      obtain ⟨σ3, eσ3, h⟩ := z_let_some h
      refine z_iast C rfl rfl b2 eσ3 dX12_house_78 ?_
      refine z_iinc (v := v2 + 1) (lo' := [some (.ref (z_a X 0)), some (.int v1), some (.int (v2 + 1))]) C dX12_house_79 rfl rfl rfl ?_
      refine z_goto (tgt := 55) C dX12_house_82 (by decide) ?_
      exact ih v1 (v2 + 1) σ3 h
set_option maxHeartbeats 4000000 in
set_option maxRecDepth 100000 in
theorem t12_house_J43 {X : z_Ct} (C : z_Cx S2 X RX12 cX12_house 3 2 (some .int)) {u : Int32 × z_M} (v1 : Int32) (σ : z_M) (h : f12_house_J43 v1 σ = some u) : z_W S2 X 43 [some (.ref (z_a X 0)), some (.int v1), none] [] σ (z_oi u) := by
  unfold f12_house_J43 at h
  refine z_aload_n C dX12_house_43 rfl rfl ?_
  refine z_geta (k := 1) (q := 1) C z_CF12 (by decide) flX12_7 rfl rfl dX12_house_44 ?_
  refine z_bipush (v := 68) C dX12_house_47 (by decide) ?_
  refine z_iload_n C dX12_house_49 rfl rfl ?_
  refine z_iadd C dX12_house_50 ?_
  refine z_iconst (v := 0) C dX12_house_51 (by decide) ?_
  obtain ⟨b1, h⟩ := z_chk_some h
  obtain ⟨σ2, eσ2, h⟩ := z_let_some h
  refine z_iast C rfl rfl b1 eσ2 dX12_house_52 ?_
  refine z_iconst (v := 0) C dX12_house_53 (by decide) ?_
  refine z_istore_n (lo' := [some (.ref (z_a X 0)), some (.int v1), some (.int 0)]) C dX12_house_54 rfl (Nat.le_of_ble_eq_true rfl) rfl ?_
  exact t12_house_L55 C _ v1 0 σ2 h
set_option maxHeartbeats 4000000 in
set_option maxRecDepth 100000 in
theorem t12_house_L23 {X : z_Ct} (C : z_Cx S2 X RX12 cX12_house 3 2 (some .int)) {u : Int32 × z_M} : ∀ (n : Nat) (v1 : Int32) (v2 : Int32) (σ : z_M), f12_house_L23 n v1 v2 σ = some u → z_W S2 X 23 [some (.ref (z_a X 0)), some (.int v1), some (.int v2)] [] σ (z_oi u) := by
  intro n
  induction n with
  | zero => intro v1 v2 σ h; rw [f12_house_L23] at h; cases h
  | succ n ih =>
    intro v1 v2 σ h
    rw [f12_house_L23] at h
    refine z_iload_n C dX12_house_23 rfl rfl ?_
    refine z_bipush (v := 8) C dX12_house_24 (by decide) ?_
    refine z_icmp_ge (tgt := 43) C dX12_house_26 (by decide) (fun hc => ?_) (fun hc => ?_)
    · replace h := z_neg hc h
      refine z_kill (lo' := [some (.ref (z_a X 0)), some (.int v1), none]) [2] rfl ?_
      exact t12_house_J43 C v1 σ h
    · replace h := z_pos hc h
      refine z_aload_n C dX12_house_29 rfl rfl ?_
      refine z_iload_n C dX12_house_30 rfl rfl ?_
      refine z_iload_n C dX12_house_31 rfl rfl ?_
      refine z_bipush (v := 50) C dX12_house_32 (by decide) ?_
      obtain ⟨⟨⟩, σ2, mσ2, h⟩ := z_bnd2 h
      refine z_cvv (As := [.int v1, .int v2, .int 50]) (c := 0) (st := []) C (t12_degreeBe v1 v2 50 mσ2) kvX12_degreeBe rfl mlX12_138 z_CF12 rfl rfl (by decide) rfl (Nat.le_of_ble_eq_true rfl) dX12_house_34 ?_
      refine z_iinc (v := v2 + 1) (lo' := [some (.ref (z_a X 0)), some (.int v1), some (.int (v2 + 1))]) C dX12_house_37 rfl rfl rfl ?_
      refine z_goto (tgt := 23) C dX12_house_40 (by decide) ?_
      exact ih v1 (v2 + 1) σ2 h
set_option maxHeartbeats 4000000 in
set_option maxRecDepth 100000 in
theorem t12_house {a : Nat → Nat} {σ : z_M} {u : Int32 × z_M} (h : f12_house σ = some u) : z_Mt yX12_house (z_w yX12_house cX12_house 3 (some .int)) 2 S2 a σ [.ref (a 0)] (z_oi u) := by
  refine z_head (lo := [some (.ref (a 0)), none, none]) (by decide) (Nat.le_of_ble_eq_true rfl) ?_ rfl ?_
  · intro i v hv
    exact z_loe (vs := [.ref (a 0)]) (n := 2) rfl (by simp [z_c1i, z_c1r]) i v hv
  · intro X hXa C
    subst hXa
    unfold f12_house at h
    refine z_aload_n C dX12_house_0 rfl rfl ?_
    refine z_iconst (v := 0) C dX12_house_1 (by decide) ?_
    obtain ⟨σ1, eσ1, h⟩ := z_let_some h
    refine z_puti (k := 0) C z_CF12 (by decide) flX12_113 rfl rfl rfl rfl eσ1 dX12_house_2 ?_
    refine z_aload_n C dX12_house_5 rfl rfl ?_
    refine z_geti (k := 6) C z_CF12 (by decide) flX12_131 rfl rfl dX12_house_6 ?_
    refine z_bipush (v := 8) C dX12_house_9 (by decide) ?_
    refine z_icmp_ne (tgt := 16) C dX12_house_11 (by decide) (fun hc => ?_) (fun hc => ?_)
    · replace h := z_neg hc h
      refine z_aload_n C dX12_house_16 rfl rfl ?_
      refine z_geti (k := 6) C z_CF12 (by decide) flX12_131 rfl rfl dX12_house_17 ?_
      refine z_istore_n (lo' := [some (.ref (z_a X 0)), some (.int (σ1 0 6)), none]) C dX12_house_20 rfl (Nat.le_of_ble_eq_true rfl) rfl ?_
      refine z_iconst (v := 0) C dX12_house_21 (by decide) ?_
      refine z_istore_n (lo' := [some (.ref (z_a X 0)), some (.int (σ1 0 6)), some (.int 0)]) C dX12_house_22 rfl (Nat.le_of_ble_eq_true rfl) rfl ?_
      exact t12_house_L23 C _ (σ1 0 6) 0 σ1 h
    · replace h := z_pos hc h
      refine z_iconst (v := (-1)) C dX12_house_14 (by decide) ?_
      exact z_iret C h dX12_house_15
set_option maxHeartbeats 4000000 in
set_option maxRecDepth 100000 in
theorem t12_set_J103 {X : z_Ct} (C : z_Cx S2 X RX12 cX12_set 4 2 (some .boolean)) {u : Int32 × z_M} (σ : z_M) (h : f12_set_J103 σ = some u) : z_W S2 X 103 [some (.ref (z_a X 0)), none, none, none] [] σ (z_oi u) := by
  unfold f12_set_J103 at h
  refine z_aload_n C dX12_set_103 rfl rfl ?_
  refine z_iconst (v := 0) C dX12_set_104 (by decide) ?_
  obtain ⟨σ1, eσ1, h⟩ := z_let_some h
  refine z_puti (k := 3) C z_CF12 (by decide) flX12_116 rfl rfl rfl rfl eσ1 dX12_set_105 ?_
  refine z_iconst (v := 1) C dX12_set_108 (by decide) ?_
  exact z_zret C (by decide) h dX12_set_109
set_option maxHeartbeats 4000000 in
set_option maxRecDepth 100000 in
theorem t12_set_J91 {X : z_Ct} (C : z_Cx S2 X RX12 cX12_set 4 2 (some .boolean)) {u : Int32 × z_M} (v1 : Int32) (v2 : Int32) (v3 : Int32) (σ : z_M) (h : f12_set_J91 v1 v2 v3 σ = some u) : z_W S2 X 91 [some (.ref (z_a X 0)), some (.int v1), some (.int v2), some (.int v3)] [] σ (z_oi u) := by
  unfold f12_set_J91 at h
  refine z_iload_n C dX12_set_91 rfl rfl ?_
  refine z_iconst (v := 3) C dX12_set_92 (by decide) ?_
  refine z_icmp_ne (tgt := 103) C dX12_set_93 (by decide) (fun hc => ?_) (fun hc => ?_)
  · replace h := z_neg hc h
    refine z_kill (lo' := [some (.ref (z_a X 0)), none, none, none]) [1, 2, 3] rfl ?_
    exact t12_set_J103 C σ h
  · replace h := z_pos hc h
    refine z_aload_n C dX12_set_96 rfl rfl ?_
    refine z_geta (k := 10) (q := 4) C z_CF12 (by decide) flX12_19 rfl rfl dX12_set_97 ?_
    refine z_iload_n C dX12_set_100 rfl rfl ?_
    refine z_iload_n C dX12_set_101 rfl rfl ?_
    obtain ⟨b1, h⟩ := z_chk_some h
    obtain ⟨σ2, eσ2, h⟩ := z_let_some h
    refine z_iast C rfl rfl b1 eσ2 dX12_set_102 ?_
    refine z_kill (lo' := [some (.ref (z_a X 0)), none, none, none]) [1, 2, 3] rfl ?_
    exact t12_set_J103 C σ2 h
set_option maxHeartbeats 4000000 in
set_option maxRecDepth 100000 in
theorem t12_set_J81 {X : z_Ct} (C : z_Cx S2 X RX12 cX12_set 4 2 (some .boolean)) {u : Int32 × z_M} (v1 : Int32) (v2 : Int32) (v3 : Int32) (σ : z_M) (h : f12_set_J81 v1 v2 v3 σ = some u) : z_W S2 X 81 [some (.ref (z_a X 0)), some (.int v1), some (.int v2), some (.int v3)] [] σ (z_oi u) := by
  unfold f12_set_J81 at h
  refine z_iload_n C dX12_set_81 rfl rfl ?_
  refine z_iconst (v := 2) C dX12_set_82 (by decide) ?_
  refine z_icmp_ne (tgt := 91) C dX12_set_83 (by decide) (fun hc => ?_) (fun hc => ?_)
  · replace h := z_neg hc h
    exact t12_set_J91 C v1 v2 v3 σ h
  · replace h := z_pos hc h
    refine z_aload_n C dX12_set_86 rfl rfl ?_
    refine z_iload_n C dX12_set_87 rfl rfl ?_
    obtain ⟨σ1, eσ1, h⟩ := z_let_some h
    refine z_puti (k := 9) C z_CF12 (by decide) flX12_153 rfl rfl rfl rfl eσ1 dX12_set_88 ?_
    exact t12_set_J91 C v1 v2 v3 σ1 h
set_option maxHeartbeats 4000000 in
set_option maxRecDepth 100000 in
theorem t12_set_J71 {X : z_Ct} (C : z_Cx S2 X RX12 cX12_set 4 2 (some .boolean)) {u : Int32 × z_M} (v1 : Int32) (v2 : Int32) (v3 : Int32) (σ : z_M) (h : f12_set_J71 v1 v2 v3 σ = some u) : z_W S2 X 71 [some (.ref (z_a X 0)), some (.int v1), some (.int v2), some (.int v3)] [] σ (z_oi u) := by
  unfold f12_set_J71 at h
  refine z_iload_n C dX12_set_71 rfl rfl ?_
  refine z_iconst (v := 1) C dX12_set_72 (by decide) ?_
  refine z_icmp_ne (tgt := 81) C dX12_set_73 (by decide) (fun hc => ?_) (fun hc => ?_)
  · replace h := z_neg hc h
    exact t12_set_J81 C v1 v2 v3 σ h
  · replace h := z_pos hc h
    refine z_aload_n C dX12_set_76 rfl rfl ?_
    refine z_iload_n C dX12_set_77 rfl rfl ?_
    obtain ⟨σ1, eσ1, h⟩ := z_let_some h
    refine z_puti (k := 8) C z_CF12 (by decide) flX12_150 rfl rfl rfl rfl eσ1 dX12_set_78 ?_
    exact t12_set_J81 C v1 v2 v3 σ1 h
set_option maxHeartbeats 4000000 in
set_option maxRecDepth 100000 in
theorem t12_set_J60 {X : z_Ct} (C : z_Cx S2 X RX12 cX12_set 4 2 (some .boolean)) {u : Int32 × z_M} (v1 : Int32) (v2 : Int32) (v3 : Int32) (σ : z_M) (h : f12_set_J60 v1 v2 v3 σ = some u) : z_W S2 X 60 [some (.ref (z_a X 0)), some (.int v1), some (.int v2), some (.int v3)] [] σ (z_oi u) := by
  unfold f12_set_J60 at h
  refine z_iload_n C dX12_set_60 rfl rfl ?_
  refine z_if_ne (tgt := 71) C dX12_set_61 (by decide) (fun hc => ?_) (fun hc => ?_)
  · replace h := z_neg hc h
    exact t12_set_J71 C v1 v2 v3 σ h
  · replace h := z_pos hc h
    refine z_aload_n C dX12_set_64 rfl rfl ?_
    refine z_iload_n C dX12_set_65 rfl rfl ?_
    refine z_iconst (v := 3) C dX12_set_66 (by decide) ?_
    refine z_isub C dX12_set_67 ?_
    obtain ⟨σ1, eσ1, h⟩ := z_let_some h
    refine z_puti (k := 7) C z_CF12 (by decide) flX12_128 rfl rfl rfl rfl eσ1 dX12_set_68 ?_
    exact t12_set_J71 C v1 v2 v3 σ1 h
set_option maxHeartbeats 4000000 in
set_option maxRecDepth 100000 in
theorem t12_set_J39 {X : z_Ct} (C : z_Cx S2 X RX12 cX12_set 4 2 (some .boolean)) {u : Int32 × z_M} (v1 : Int32) (v2 : Int32) (v3 : Int32) (s1 : Int32) (s2 : Int32) (s3 : Int32) (σ : z_M) (h : f12_set_J39 v1 v2 v3 s1 s2 s3 σ = some u) : z_W S2 X 39 [some (.ref (z_a X 0)), some (.int v1), some (.int v2), some (.int v3)] [.int s3, .int s2, .int s1, .ref (z_a X 0)] σ (z_oi u) := by
  unfold f12_set_J39 at h
  obtain ⟨r1, σ2, mσ2, h⟩ := z_bnd2 h
  refine z_cvi (As := [.int s1, .int s2, .int s3]) (c := 0) (st := []) C (t12_isIn s1 s2 s3 mσ2) kvX12_isIn rfl mlX12_142 z_CF12 rfl rfl (by decide) rfl (Nat.le_of_ble_eq_true rfl) dX12_set_39 ?_
  refine z_if_eq (tgt := 58) C dX12_set_42 (by decide) (fun hc => ?_) (fun hc => ?_)
  · replace h := z_pos hc h
    refine z_iconst (v := 0) C dX12_set_58 (by decide) ?_
    exact z_zret C (by decide) h dX12_set_59
  · replace h := z_neg hc h
    refine z_iload_n C dX12_set_45 rfl rfl ?_
    refine z_iconst (v := 3) C dX12_set_46 (by decide) ?_
    refine z_icmp_ne (tgt := 60) C dX12_set_47 (by decide) (fun hc => ?_) (fun hc => ?_)
    · replace h := z_neg hc h
      exact t12_set_J60 C v1 v2 v3 σ2 h
    · replace h := z_pos hc h
      refine z_aload_n C dX12_set_50 rfl rfl ?_
      refine z_iload_n C dX12_set_51 rfl rfl ?_
      obtain ⟨r3, σ4, mσ4, h⟩ := z_bnd2 h
      refine z_cvi (As := [.int v2]) (c := 0) (st := []) C (t12_isThing v2 mσ4) kvX12_isThing rfl mlX12_146 z_CF12 rfl rfl (by decide) rfl (Nat.le_of_ble_eq_true rfl) dX12_set_52 ?_
      refine z_if_ne (tgt := 60) C dX12_set_55 (by decide) (fun hc => ?_) (fun hc => ?_)
      · replace h := z_neg hc h
        exact t12_set_J60 C v1 v2 v3 σ4 h
      · replace h := z_pos hc h
        refine z_iconst (v := 0) C dX12_set_58 (by decide) ?_
        exact z_zret C (by decide) h dX12_set_59
set_option maxHeartbeats 4000000 in
set_option maxRecDepth 100000 in
theorem t12_set {a : Nat → Nat} (p1 : Int32) (p2 : Int32) (p3 : Int32) {σ : z_M} {u : Int32 × z_M} (h : f12_set p1 p2 p3 σ = some u) : z_Mt yX12_set (z_w yX12_set cX12_set 4 (some .boolean)) 2 S2 a σ [.ref (a 0), .int p1, .int p2, .int p3] (z_oi u) := by
  refine z_head (lo := [some (.ref (a 0)), some (.int p1), some (.int p2), some (.int p3)]) (by decide) (Nat.le_of_ble_eq_true rfl) ?_ rfl ?_
  · intro i v hv
    exact z_loe (vs := [.ref (a 0), .int p1, .int p2, .int p3]) (n := 0) rfl (by simp [z_c1i, z_c1r]) i v hv
  · intro X hXa C
    subst hXa
    unfold f12_set at h
    refine z_aload_n C dX12_set_0 rfl rfl ?_
    refine z_iconst (v := 0) C dX12_set_1 (by decide) ?_
    obtain ⟨σ1, eσ1, h⟩ := z_let_some h
    refine z_puti (k := 0) C z_CF12 (by decide) flX12_113 rfl rfl rfl rfl eσ1 dX12_set_2 ?_
    refine z_aload_n C dX12_set_5 rfl rfl ?_
    refine z_iload_n C dX12_set_6 rfl rfl ?_
    refine z_iconst (v := 0) C dX12_set_7 (by decide) ?_
    refine z_iconst (v := 3) C dX12_set_8 (by decide) ?_
    obtain ⟨r2, σ3, mσ3, h⟩ := z_bnd2 h
    refine z_cvi (As := [.int p1, .int 0, .int 3]) (c := 0) (st := []) C (t12_isIn p1 0 3 mσ3) kvX12_isIn rfl mlX12_142 z_CF12 rfl rfl (by decide) rfl (Nat.le_of_ble_eq_true rfl) dX12_set_9 ?_
    refine z_if_eq (tgt := 58) C dX12_set_12 (by decide) (fun hc => ?_) (fun hc => ?_)
    · replace h := z_pos hc h
      refine z_iconst (v := 0) C dX12_set_58 (by decide) ?_
      exact z_zret C (by decide) h dX12_set_59
    · replace h := z_neg hc h
      refine z_aload_n C dX12_set_15 rfl rfl ?_
      refine z_iload_n C dX12_set_16 rfl rfl ?_
      refine z_iconst (v := 0) C dX12_set_17 (by decide) ?_
      refine z_iload_n C dX12_set_18 rfl rfl ?_
      refine z_if_ne (tgt := 27) C dX12_set_19 (by decide) (fun hc => ?_) (fun hc => ?_)
      · replace h := z_neg hc h
        refine z_iload_n C dX12_set_27 rfl rfl ?_
        refine z_iconst (v := 3) C dX12_set_28 (by decide) ?_
        refine z_icmp_ne (tgt := 36) C dX12_set_29 (by decide) (fun hc => ?_) (fun hc => ?_)
        · replace h := z_neg hc h
          refine z_sipush (v := 1000) C dX12_set_36 (by decide) ?_
          exact t12_set_J39 C p1 p2 p3 p3 0 1000 σ3 h
        · replace h := z_pos hc h
          refine z_iconst (v := 5) C dX12_set_32 (by decide) ?_
          refine z_goto (tgt := 39) C dX12_set_33 (by decide) ?_
          exact t12_set_J39 C p1 p2 p3 p3 0 5 σ3 h
      · replace h := z_pos hc h
        refine z_bipush (v := 8) C dX12_set_22 (by decide) ?_
        refine z_goto (tgt := 39) C dX12_set_24 (by decide) ?_
        exact t12_set_J39 C p1 p2 p3 p3 0 8 σ3 h
set_option maxHeartbeats 4000000 in
set_option maxRecDepth 100000 in
theorem t12_line_J97 {X : z_Ct} (C : z_Cx S2 X RX12 cX12_line 4 2 (some .boolean)) {u : Int32 × z_M} (s1 : Int32) (s2 : Int32) (σ : z_M) (h : f12_line_J97 s1 s2 σ = some u) : z_W S2 X 97 [some (.ref (z_a X 0)), none, none, none] [.int s2, .int s1, .ref (z_a X 5)] σ (z_oi u) := by
  unfold f12_line_J97 at h
  obtain ⟨b1, h⟩ := z_chk_some h
  obtain ⟨σ2, eσ2, h⟩ := z_let_some h
  refine z_iast C rfl rfl b1 eσ2 dX12_line_97 ?_
  refine z_aload_n C dX12_line_98 rfl rfl ?_
  refine z_iconst (v := 0) C dX12_line_99 (by decide) ?_
  obtain ⟨σ3, eσ3, h⟩ := z_let_some h
  refine z_puti (k := 3) C z_CF12 (by decide) flX12_116 rfl rfl rfl rfl eσ3 dX12_line_100 ?_
  refine z_iconst (v := 1) C dX12_line_103 (by decide) ?_
  exact z_zret C (by decide) h dX12_line_104
set_option maxHeartbeats 4000000 in
set_option maxRecDepth 100000 in
theorem t12_line_J62 {X : z_Ct} (C : z_Cx S2 X RX12 cX12_line 4 2 (some .boolean)) {u : Int32 × z_M} (v1 : Int32) (v2 : Int32) (v3 : Int32) (s1 : Int32) (s2 : Int32) (σ : z_M) (h : f12_line_J62 v1 v2 v3 s1 s2 σ = some u) : z_W S2 X 62 [some (.ref (z_a X 0)), some (.int v1), some (.int v2), some (.int v3)] [.int s2, .int s1, .ref (z_a X 5)] σ (z_oi u) := by
  unfold f12_line_J62 at h
  obtain ⟨b1, h⟩ := z_chk_some h
  obtain ⟨σ2, eσ2, h⟩ := z_let_some h
  refine z_iast C rfl rfl b1 eσ2 dX12_line_62 ?_
  refine z_aload_n C dX12_line_63 rfl rfl ?_
  refine z_geta (k := 11) (q := 5) C z_CF12 (by decide) flX12_22 rfl rfl dX12_line_64 ?_
  refine z_iload_n C dX12_line_67 rfl rfl ?_
  refine z_iload_n C dX12_line_68 rfl rfl ?_
  refine z_if_eq (tgt := 85) C dX12_line_69 (by decide) (fun hc => ?_) (fun hc => ?_)
  · replace h := z_pos hc h
    refine z_aload_n C dX12_line_85 rfl rfl ?_
    refine z_geta (k := 11) (q := 5) C z_CF12 (by decide) flX12_22 rfl rfl dX12_line_86 ?_
    refine z_iload_n C dX12_line_89 rfl rfl ?_
    obtain ⟨b3, h⟩ := z_chk_some h
    refine z_iald C rfl rfl b3 dX12_line_90 ?_
    refine z_iconst (v := 1) C dX12_line_91 (by decide) ?_
    refine z_iload_n C dX12_line_92 rfl rfl ?_
    refine z_ishl C dX12_line_93 ?_
    refine z_iconst (v := (-1)) C dX12_line_94 (by decide) ?_
    refine z_ixor C dX12_line_95 ?_
    refine z_iand C dX12_line_96 ?_
    refine z_kill (lo' := [some (.ref (z_a X 0)), none, none, none]) [1, 2, 3] rfl ?_
    exact t12_line_J97 C v2 ((σ2 5 (z_ix v2)) &&& ((z_shl 1 v1) ^^^ (-1))) σ2 h
  · replace h := z_neg hc h
    refine z_aload_n C dX12_line_72 rfl rfl ?_
    refine z_geta (k := 11) (q := 5) C z_CF12 (by decide) flX12_22 rfl rfl dX12_line_73 ?_
    refine z_iload_n C dX12_line_76 rfl rfl ?_
    obtain ⟨b4, h⟩ := z_chk_some h
    refine z_iald C rfl rfl b4 dX12_line_77 ?_
    refine z_iconst (v := 1) C dX12_line_78 (by decide) ?_
    refine z_iload_n C dX12_line_79 rfl rfl ?_
    refine z_ishl C dX12_line_80 ?_
    refine z_ior C dX12_line_81 ?_
    refine z_goto (tgt := 97) C dX12_line_82 (by decide) ?_
    refine z_kill (lo' := [some (.ref (z_a X 0)), none, none, none]) [1, 2, 3] rfl ?_
    exact t12_line_J97 C v2 ((σ2 5 (z_ix v2)) ||| (z_shl 1 v1)) σ2 h
set_option maxHeartbeats 4000000 in
set_option maxRecDepth 100000 in
theorem t12_line {a : Nat → Nat} (p1 : Int32) (p2 : Int32) (p3 : Int32) {σ : z_M} {u : Int32 × z_M} (h : f12_line p1 p2 p3 σ = some u) : z_Mt yX12_line (z_w yX12_line cX12_line 4 (some .boolean)) 2 S2 a σ [.ref (a 0), .int p1, .int p2, .int p3] (z_oi u) := by
  refine z_head (lo := [some (.ref (a 0)), some (.int p1), some (.int p2), some (.int p3)]) (by decide) (Nat.le_of_ble_eq_true rfl) ?_ rfl ?_
  · intro i v hv
    exact z_loe (vs := [.ref (a 0), .int p1, .int p2, .int p3]) (n := 0) rfl (by simp [z_c1i, z_c1r]) i v hv
  · intro X hXa C
    subst hXa
    unfold f12_line at h
    refine z_aload_n C dX12_line_0 rfl rfl ?_
    refine z_iconst (v := 0) C dX12_line_1 (by decide) ?_
    obtain ⟨σ1, eσ1, h⟩ := z_let_some h
    refine z_puti (k := 0) C z_CF12 (by decide) flX12_113 rfl rfl rfl rfl eσ1 dX12_line_2 ?_
    refine z_aload_n C dX12_line_5 rfl rfl ?_
    refine z_iload_n C dX12_line_6 rfl rfl ?_
    obtain ⟨r2, σ3, mσ3, h⟩ := z_bnd2 h
    refine z_cvi (As := [.int p1]) (c := 0) (st := []) C (t12_isHouse p1 mσ3) kvX12_isHouse rfl mlX12_156 z_CF12 rfl rfl (by decide) rfl (Nat.le_of_ble_eq_true rfl) dX12_line_7 ?_
    refine z_if_eq (tgt := 26) C dX12_line_10 (by decide) (fun hc => ?_) (fun hc => ?_)
    · replace h := z_pos hc h
      refine z_iconst (v := 0) C dX12_line_26 (by decide) ?_
      exact z_zret C (by decide) h dX12_line_27
    · replace h := z_neg hc h
      refine z_aload_n C dX12_line_13 rfl rfl ?_
      refine z_iload_n C dX12_line_14 rfl rfl ?_
      obtain ⟨r4, σ5, mσ5, h⟩ := z_bnd2 h
      refine z_cvi (As := [.int p2]) (c := 0) (st := []) C (t12_isHouse p2 mσ5) kvX12_isHouse rfl mlX12_156 z_CF12 rfl rfl (by decide) rfl (Nat.le_of_ble_eq_true rfl) dX12_line_15 ?_
      refine z_if_eq (tgt := 26) C dX12_line_18 (by decide) (fun hc => ?_) (fun hc => ?_)
      · replace h := z_pos hc h
        refine z_iconst (v := 0) C dX12_line_26 (by decide) ?_
        exact z_zret C (by decide) h dX12_line_27
      · replace h := z_neg hc h
        refine z_iload_n C dX12_line_21 rfl rfl ?_
        refine z_iload_n C dX12_line_22 rfl rfl ?_
        refine z_icmp_ne (tgt := 28) C dX12_line_23 (by decide) (fun hc => ?_) (fun hc => ?_)
        · replace h := z_neg hc h
          refine z_aload_n C dX12_line_28 rfl rfl ?_
          refine z_geta (k := 11) (q := 5) C z_CF12 (by decide) flX12_22 rfl rfl dX12_line_29 ?_
          refine z_iload_n C dX12_line_32 rfl rfl ?_
          refine z_iload_n C dX12_line_33 rfl rfl ?_
          refine z_if_eq (tgt := 50) C dX12_line_34 (by decide) (fun hc => ?_) (fun hc => ?_)
          · replace h := z_pos hc h
            refine z_aload_n C dX12_line_50 rfl rfl ?_
            refine z_geta (k := 11) (q := 5) C z_CF12 (by decide) flX12_22 rfl rfl dX12_line_51 ?_
            refine z_iload_n C dX12_line_54 rfl rfl ?_
            obtain ⟨b6, h⟩ := z_chk_some h
            refine z_iald C rfl rfl b6 dX12_line_55 ?_
            refine z_iconst (v := 1) C dX12_line_56 (by decide) ?_
            refine z_iload_n C dX12_line_57 rfl rfl ?_
            refine z_ishl C dX12_line_58 ?_
            refine z_iconst (v := (-1)) C dX12_line_59 (by decide) ?_
            refine z_ixor C dX12_line_60 ?_
            refine z_iand C dX12_line_61 ?_
            exact t12_line_J62 C p1 p2 p3 p1 ((σ5 5 (z_ix p1)) &&& ((z_shl 1 p2) ^^^ (-1))) σ5 h
          · replace h := z_neg hc h
            refine z_aload_n C dX12_line_37 rfl rfl ?_
            refine z_geta (k := 11) (q := 5) C z_CF12 (by decide) flX12_22 rfl rfl dX12_line_38 ?_
            refine z_iload_n C dX12_line_41 rfl rfl ?_
            obtain ⟨b7, h⟩ := z_chk_some h
            refine z_iald C rfl rfl b7 dX12_line_42 ?_
            refine z_iconst (v := 1) C dX12_line_43 (by decide) ?_
            refine z_iload_n C dX12_line_44 rfl rfl ?_
            refine z_ishl C dX12_line_45 ?_
            refine z_ior C dX12_line_46 ?_
            refine z_goto (tgt := 62) C dX12_line_47 (by decide) ?_
            exact t12_line_J62 C p1 p2 p3 p1 ((σ5 5 (z_ix p1)) ||| (z_shl 1 p2)) σ5 h
        · replace h := z_pos hc h
          refine z_iconst (v := 0) C dX12_line_26 (by decide) ?_
          exact z_zret C (by decide) h dX12_line_27
set_option maxHeartbeats 4000000 in
set_option maxRecDepth 100000 in
theorem t12_types_L3 {X : z_Ct} (C : z_Cx S2 X RX12 cX12_types 3 1 none) {u : Unit × z_M} : ∀ (n : Nat) (v1 : Int32) (v2 : Int32) (σ : z_M), f12_types_L3 n v1 v2 σ = some u → z_W S2 X 3 [some (.ref (z_a X 0)), some (.int v1), some (.int v2)] [] σ (z_ov u) := by
  intro n
  induction n with
  | zero => intro v1 v2 σ h; rw [f12_types_L3] at h; cases h
  | succ n ih =>
    intro v1 v2 σ h
    rw [f12_types_L3] at h
    refine z_iload_n C dX12_types_3 rfl rfl ?_
    refine z_if_lt (tgt := 39) C dX12_types_4 (by decide) (fun hc => ?_) (fun hc => ?_)
    · replace h := z_pos hc h
      exact z_vret C h dX12_types_39
    · replace h := z_neg hc h
      refine z_aload_n C dX12_types_7 rfl rfl ?_
      refine z_geta (k := 13) (q := 7) C z_CF12 (by decide) flX12_28 rfl rfl dX12_types_8 ?_
      refine z_aload_n C dX12_types_11 rfl rfl ?_
      refine z_geti (k := 14) C z_CF12 (by decide) flX12_159 rfl rfl dX12_types_12 ?_
      refine z_iload_n C dX12_types_15 rfl rfl ?_
      refine z_iload_n C dX12_types_16 rfl rfl ?_
      refine z_ishr C dX12_types_17 ?_
      refine z_sipush (v := 255) C dX12_types_18 (by decide) ?_
      refine z_iand C dX12_types_21 ?_
      obtain ⟨b1, h⟩ := z_chk_some h
      obtain ⟨σ2, eσ2, h⟩ := z_let_some h
      refine z_iast C rfl rfl b1 eσ2 dX12_types_22 ?_
      refine z_aload_n C dX12_types_23 rfl rfl ?_
      refine z_aload_n C dX12_types_24 rfl rfl ?_
      refine z_geti (k := 14) C z_CF12 (by decide) flX12_159 rfl rfl dX12_types_25 ?_
      refine z_iconst (v := 1) C dX12_types_28 (by decide) ?_
      refine z_iadd C dX12_types_29 ?_
      obtain ⟨σ3, eσ3, h⟩ := z_let_some h
      refine z_puti (k := 14) C z_CF12 (by decide) flX12_159 rfl rfl rfl rfl eσ3 dX12_types_30 ?_
      refine z_iinc (v := v2 + (-8)) (lo' := [some (.ref (z_a X 0)), some (.int v1), some (.int (v2 + (-8)))]) C dX12_types_33 rfl rfl rfl ?_
      refine z_goto (tgt := 3) C dX12_types_36 (by decide) ?_
      exact ih v1 (v2 + (-8)) σ3 h
set_option maxHeartbeats 4000000 in
set_option maxRecDepth 100000 in
theorem t12_types {a : Nat → Nat} (p1 : Int32) {σ : z_M} {u : Unit × z_M} (h : f12_types p1 σ = some u) : z_Mt yX12_types (z_w yX12_types cX12_types 3 none) 1 S2 a σ [.ref (a 0), .int p1] (z_ov u) := by
  refine z_head (lo := [some (.ref (a 0)), some (.int p1), none]) (by decide) (Nat.le_of_ble_eq_true rfl) ?_ rfl ?_
  · intro i v hv
    exact z_loe (vs := [.ref (a 0), .int p1]) (n := 1) rfl (by simp [z_c1i, z_c1r]) i v hv
  · intro X hXa C
    subst hXa
    unfold f12_types at h
    refine z_bipush (v := 24) C dX12_types_0 (by decide) ?_
    refine z_istore_n (lo' := [some (.ref (z_a X 0)), some (.int p1), some (.int 24)]) C dX12_types_2 rfl (Nat.le_of_ble_eq_true rfl) rfl ?_
    exact t12_types_L3 C _ p1 24 σ h
set_option maxHeartbeats 4000000 in
set_option maxRecDepth 100000 in
theorem t12_feed {a : Nat → Nat} (p1 : Int32) (p2 : Int32) (p3 : Int32) (p4 : Int32) (p5 : Int32) {σ : z_M} {u : Int32 × z_M} (h : f12_feed p1 p2 p3 p4 p5 σ = some u) : z_Mt yX12_feed (z_w yX12_feed cX12_feed 6 (some .int)) 2 S2 a σ [.ref (a 0), .int p1, .int p2, .int p3, .int p4, .int p5] (z_oi u) := by
  refine z_head (lo := [some (.ref (a 0)), some (.int p1), some (.int p2), some (.int p3), some (.int p4), some (.int p5)]) (by decide) (Nat.le_of_ble_eq_true rfl) ?_ rfl ?_
  · intro i v hv
    exact z_loe (vs := [.ref (a 0), .int p1, .int p2, .int p3, .int p4, .int p5]) (n := 0) rfl (by simp [z_c1i, z_c1r]) i v hv
  · intro X hXa C
    subst hXa
    unfold f12_feed at h
    refine z_aload_n C dX12_feed_0 rfl rfl ?_
    refine z_iconst (v := 0) C dX12_feed_1 (by decide) ?_
    obtain ⟨σ1, eσ1, h⟩ := z_let_some h
    refine z_puti (k := 0) C z_CF12 (by decide) flX12_113 rfl rfl rfl rfl eσ1 dX12_feed_2 ?_
    refine z_aload_n C dX12_feed_5 rfl rfl ?_
    refine z_geti (k := 14) C z_CF12 (by decide) flX12_159 rfl rfl dX12_feed_6 ?_
    refine z_sipush (v := 380) C dX12_feed_9 (by decide) ?_
    refine z_icmp_le (tgt := 17) C dX12_feed_12 (by decide) (fun hc => ?_) (fun hc => ?_)
    · replace h := z_neg hc h
      refine z_aload_n C dX12_feed_17 rfl rfl ?_
      refine z_iload_n C dX12_feed_18 rfl rfl ?_
      obtain ⟨⟨⟩, σ3, mσ3, h⟩ := z_bnd2 h
      refine z_cvv (As := [.int p1]) (c := 0) (st := []) C (t12_types p1 mσ3) kvX12_types rfl mlX12_162 z_CF12 rfl rfl (by decide) rfl (Nat.le_of_ble_eq_true rfl) dX12_feed_19 ?_
      refine z_aload_n C dX12_feed_22 rfl rfl ?_
      refine z_iload_n C dX12_feed_23 rfl rfl ?_
      obtain ⟨⟨⟩, σ5, mσ5, h⟩ := z_bnd2 h
      refine z_cvv (As := [.int p2]) (c := 0) (st := []) C (t12_types p2 mσ5) kvX12_types rfl mlX12_162 z_CF12 rfl rfl (by decide) rfl (Nat.le_of_ble_eq_true rfl) dX12_feed_24 ?_
      refine z_aload_n C dX12_feed_27 rfl rfl ?_
      refine z_iload_n C dX12_feed_28 rfl rfl ?_
      obtain ⟨⟨⟩, σ7, mσ7, h⟩ := z_bnd2 h
      refine z_cvv (As := [.int p3]) (c := 0) (st := []) C (t12_types p3 mσ7) kvX12_types rfl mlX12_162 z_CF12 rfl rfl (by decide) rfl (Nat.le_of_ble_eq_true rfl) dX12_feed_29 ?_
      refine z_aload_n C dX12_feed_32 rfl rfl ?_
      refine z_iload C dX12_feed_33 rfl ?_
      obtain ⟨⟨⟩, σ9, mσ9, h⟩ := z_bnd2 h
      refine z_cvv (As := [.int p4]) (c := 0) (st := []) C (t12_types p4 mσ9) kvX12_types rfl mlX12_162 z_CF12 rfl rfl (by decide) rfl (Nat.le_of_ble_eq_true rfl) dX12_feed_35 ?_
      refine z_aload_n C dX12_feed_38 rfl rfl ?_
      refine z_iload C dX12_feed_39 rfl ?_
      obtain ⟨⟨⟩, σ11, mσ11, h⟩ := z_bnd2 h
      refine z_cvv (As := [.int p5]) (c := 0) (st := []) C (t12_types p5 mσ11) kvX12_types rfl mlX12_162 z_CF12 rfl rfl (by decide) rfl (Nat.le_of_ble_eq_true rfl) dX12_feed_41 ?_
      refine z_aload_n C dX12_feed_44 rfl rfl ?_
      refine z_geti (k := 14) C z_CF12 (by decide) flX12_159 rfl rfl dX12_feed_45 ?_
      exact z_iret C h dX12_feed_48
    · replace h := z_pos hc h
      refine z_iconst (v := (-1)) C dX12_feed_15 (by decide) ?_
      exact z_iret C h dX12_feed_16
set_option maxHeartbeats 4000000 in
set_option maxRecDepth 100000 in
theorem t12_end {a : Nat → Nat} (p1 : Int32) {σ : z_M} {u : Int32 × z_M} (h : f12_end p1 σ = some u) : z_Mt yX12_end (z_w yX12_end cX12_end 2 (some .boolean)) 2 S2 a σ [.ref (a 0), .int p1] (z_oi u) := by
  refine z_head (lo := [some (.ref (a 0)), some (.int p1)]) (by decide) (Nat.le_of_ble_eq_true rfl) ?_ rfl ?_
  · intro i v hv
    exact z_loe (vs := [.ref (a 0), .int p1]) (n := 0) rfl (by simp [z_c1i, z_c1r]) i v hv
  · intro X hXa C
    subst hXa
    unfold f12_end at h
    refine z_aload_n C dX12_end_0 rfl rfl ?_
    refine z_iconst (v := 0) C dX12_end_1 (by decide) ?_
    obtain ⟨σ1, eσ1, h⟩ := z_let_some h
    refine z_puti (k := 0) C z_CF12 (by decide) flX12_113 rfl rfl rfl rfl eσ1 dX12_end_2 ?_
    refine z_aload_n C dX12_end_5 rfl rfl ?_
    refine z_iload_n C dX12_end_6 rfl rfl ?_
    refine z_iconst (v := 0) C dX12_end_7 (by decide) ?_
    refine z_aload_n C dX12_end_8 rfl rfl ?_
    refine z_geti (k := 14) C z_CF12 (by decide) flX12_159 rfl rfl dX12_end_9 ?_
    obtain ⟨r2, σ3, mσ3, h⟩ := z_bnd2 h
    refine z_cvi (As := [.int p1, .int 0, .int (σ1 0 14)]) (c := 0) (st := []) C (t12_isIn p1 0 (σ1 0 14) mσ3) kvX12_isIn rfl mlX12_142 z_CF12 rfl rfl (by decide) rfl (Nat.le_of_ble_eq_true rfl) dX12_end_12 ?_
    refine z_if_ne (tgt := 20) C dX12_end_15 (by decide) (fun hc => ?_) (fun hc => ?_)
    · replace h := z_neg hc h
      refine z_aload_n C dX12_end_20 rfl rfl ?_
      refine z_iload_n C dX12_end_21 rfl rfl ?_
      obtain ⟨σ4, eσ4, h⟩ := z_let_some h
      refine z_puti (k := 14) C z_CF12 (by decide) flX12_159 rfl rfl rfl rfl eσ4 dX12_end_22 ?_
      refine z_iconst (v := 1) C dX12_end_25 (by decide) ?_
      exact z_zret C (by decide) h dX12_end_26
    · replace h := z_pos hc h
      refine z_iconst (v := 0) C dX12_end_18 (by decide) ?_
      exact z_zret C (by decide) h dX12_end_19
set_option maxHeartbeats 4000000 in
set_option maxRecDepth 100000 in
theorem t12_raw {a : Nat → Nat} (p1 : Int32) {σ : z_M} {u : Int32 × z_M} (h : f12_raw p1 σ = some u) : z_Mt yX12_raw (z_w yX12_raw cX12_raw 2 (some .int)) 1 S2 a σ [.ref (a 0), .int p1] (z_oi u) := by
  refine z_head (lo := [some (.ref (a 0)), some (.int p1)]) (by decide) (Nat.le_of_ble_eq_true rfl) ?_ rfl ?_
  · intro i v hv
    exact z_loe (vs := [.ref (a 0), .int p1]) (n := 0) rfl (by simp [z_c1i, z_c1r]) i v hv
  · intro X hXa C
    subst hXa
    unfold f12_raw at h
    refine z_iload_n C dX12_raw_0 rfl rfl ?_
    refine z_aload_n C dX12_raw_1 rfl rfl ?_
    refine z_geti (k := 14) C z_CF12 (by decide) flX12_159 rfl rfl dX12_raw_2 ?_
    refine z_icmp_ge (tgt := 17) C dX12_raw_5 (by decide) (fun hc => ?_) (fun hc => ?_)
    · replace h := z_neg hc h
      refine z_iconst (v := (-1)) C dX12_raw_17 (by decide) ?_
      exact z_iret C h dX12_raw_18
    · replace h := z_pos hc h
      refine z_aload_n C dX12_raw_8 rfl rfl ?_
      refine z_geta (k := 13) (q := 7) C z_CF12 (by decide) flX12_28 rfl rfl dX12_raw_9 ?_
      refine z_iload_n C dX12_raw_12 rfl rfl ?_
      obtain ⟨b1, h⟩ := z_chk_some h
      refine z_iald C rfl rfl b1 dX12_raw_13 ?_
      refine z_goto (tgt := 18) C dX12_raw_14 (by decide) ?_
      exact z_iret C h dX12_raw_18
set_option maxHeartbeats 4000000 in
set_option maxRecDepth 100000 in
theorem t12_isLetter {a : Nat → Nat} (p1 : Int32) {σ : z_M} {u : Int32 × z_M} (h : f12_isLetter p1 σ = some u) : z_Mt yX12_isLetter (z_w yX12_isLetter cX12_isLetter 2 (some .boolean)) 2 S2 a σ [.ref (a 0), .int p1] (z_oi u) := by
  refine z_head (lo := [some (.ref (a 0)), some (.int p1)]) (by decide) (Nat.le_of_ble_eq_true rfl) ?_ rfl ?_
  · intro i v hv
    exact z_loe (vs := [.ref (a 0), .int p1]) (n := 0) rfl (by simp [z_c1i, z_c1r]) i v hv
  · intro X hXa C
    subst hXa
    unfold f12_isLetter at h
    refine z_aload_n C dX12_isLetter_0 rfl rfl ?_
    refine z_iload_n C dX12_isLetter_1 rfl rfl ?_
    refine z_bipush (v := 97) C dX12_isLetter_2 (by decide) ?_
    refine z_bipush (v := 122) C dX12_isLetter_4 (by decide) ?_
    obtain ⟨r1, σ2, mσ2, h⟩ := z_bnd2 h
    refine z_cvi (As := [.int p1, .int 97, .int 122]) (c := 0) (st := []) C (t12_isIn p1 97 122 mσ2) kvX12_isIn rfl mlX12_142 z_CF12 rfl rfl (by decide) rfl (Nat.le_of_ble_eq_true rfl) dX12_isLetter_6 ?_
    refine z_if_ne (tgt := 24) C dX12_isLetter_9 (by decide) (fun hc => ?_) (fun hc => ?_)
    · replace h := z_neg hc h
      refine z_iconst (v := 1) C dX12_isLetter_24 (by decide) ?_
      refine z_goto (tgt := 29) C dX12_isLetter_25 (by decide) ?_
      exact z_zret C (by decide) h dX12_isLetter_29
    · replace h := z_pos hc h
      refine z_aload_n C dX12_isLetter_12 rfl rfl ?_
      refine z_iload_n C dX12_isLetter_13 rfl rfl ?_
      refine z_bipush (v := 65) C dX12_isLetter_14 (by decide) ?_
      refine z_bipush (v := 90) C dX12_isLetter_16 (by decide) ?_
      obtain ⟨r3, σ4, mσ4, h⟩ := z_bnd2 h
      refine z_cvi (As := [.int p1, .int 65, .int 90]) (c := 0) (st := []) C (t12_isIn p1 65 90 mσ4) kvX12_isIn rfl mlX12_142 z_CF12 rfl rfl (by decide) rfl (Nat.le_of_ble_eq_true rfl) dX12_isLetter_18 ?_
      refine z_if_eq (tgt := 28) C dX12_isLetter_21 (by decide) (fun hc => ?_) (fun hc => ?_)
      · replace h := z_pos hc h
        refine z_iconst (v := 0) C dX12_isLetter_28 (by decide) ?_
        exact z_zret C (by decide) h dX12_isLetter_29
      · replace h := z_neg hc h
        refine z_iconst (v := 1) C dX12_isLetter_24 (by decide) ?_
        refine z_goto (tgt := 29) C dX12_isLetter_25 (by decide) ?_
        exact z_zret C (by decide) h dX12_isLetter_29
set_option maxHeartbeats 4000000 in
set_option maxRecDepth 100000 in
theorem t12_isDigit {a : Nat → Nat} (p1 : Int32) {σ : z_M} {u : Int32 × z_M} (h : f12_isDigit p1 σ = some u) : z_Mt yX12_isDigit (z_w yX12_isDigit cX12_isDigit 2 (some .boolean)) 2 S2 a σ [.ref (a 0), .int p1] (z_oi u) := by
  refine z_head (lo := [some (.ref (a 0)), some (.int p1)]) (by decide) (Nat.le_of_ble_eq_true rfl) ?_ rfl ?_
  · intro i v hv
    exact z_loe (vs := [.ref (a 0), .int p1]) (n := 0) rfl (by simp [z_c1i, z_c1r]) i v hv
  · intro X hXa C
    subst hXa
    unfold f12_isDigit at h
    refine z_aload_n C dX12_isDigit_0 rfl rfl ?_
    refine z_iload_n C dX12_isDigit_1 rfl rfl ?_
    refine z_bipush (v := 48) C dX12_isDigit_2 (by decide) ?_
    refine z_bipush (v := 57) C dX12_isDigit_4 (by decide) ?_
    obtain ⟨r1, σ2, mσ2, h⟩ := z_bnd2 h
    refine z_cvi (As := [.int p1, .int 48, .int 57]) (c := 0) (st := []) C (t12_isIn p1 48 57 mσ2) kvX12_isIn rfl mlX12_142 z_CF12 rfl rfl (by decide) rfl (Nat.le_of_ble_eq_true rfl) dX12_isDigit_6 ?_
    obtain ⟨b3, h⟩ := z_chk_some h
    exact z_zret C b3 h dX12_isDigit_9
set_option maxHeartbeats 4000000 in
set_option maxRecDepth 100000 in
theorem t12_isMarkSign {a : Nat → Nat} (p1 : Int32) {σ : z_M} {u : Int32 × z_M} (h : f12_isMarkSign p1 σ = some u) : z_Mt yX12_isMarkSign (z_w yX12_isMarkSign cX12_isMarkSign 2 (some .boolean)) 1 S2 a σ [.ref (a 0), .int p1] (z_oi u) := by
  refine z_head (lo := [some (.ref (a 0)), some (.int p1)]) (by decide) (Nat.le_of_ble_eq_true rfl) ?_ rfl ?_
  · intro i v hv
    exact z_loe (vs := [.ref (a 0), .int p1]) (n := 0) rfl (by simp [z_c1i, z_c1r]) i v hv
  · intro X hXa C
    subst hXa
    unfold f12_isMarkSign at h
    refine z_iload_n C dX12_isMarkSign_0 rfl rfl ?_
    refine z_bipush (v := 59) C dX12_isMarkSign_1 (by decide) ?_
    refine z_icmp_eq (tgt := 60) C dX12_isMarkSign_3 (by decide) (fun hc => ?_) (fun hc => ?_)
    · replace h := z_pos hc h
      refine z_iconst (v := 1) C dX12_isMarkSign_60 (by decide) ?_
      refine z_goto (tgt := 65) C dX12_isMarkSign_61 (by decide) ?_
      exact z_zret C (by decide) h dX12_isMarkSign_65
    · replace h := z_neg hc h
      refine z_iload_n C dX12_isMarkSign_6 rfl rfl ?_
      refine z_bipush (v := 43) C dX12_isMarkSign_7 (by decide) ?_
      refine z_icmp_eq (tgt := 60) C dX12_isMarkSign_9 (by decide) (fun hc => ?_) (fun hc => ?_)
      · replace h := z_pos hc h
        refine z_iconst (v := 1) C dX12_isMarkSign_60 (by decide) ?_
        refine z_goto (tgt := 65) C dX12_isMarkSign_61 (by decide) ?_
        exact z_zret C (by decide) h dX12_isMarkSign_65
      · replace h := z_neg hc h
        refine z_iload_n C dX12_isMarkSign_12 rfl rfl ?_
        refine z_bipush (v := 45) C dX12_isMarkSign_13 (by decide) ?_
        refine z_icmp_eq (tgt := 60) C dX12_isMarkSign_15 (by decide) (fun hc => ?_) (fun hc => ?_)
        · replace h := z_pos hc h
          refine z_iconst (v := 1) C dX12_isMarkSign_60 (by decide) ?_
          refine z_goto (tgt := 65) C dX12_isMarkSign_61 (by decide) ?_
          exact z_zret C (by decide) h dX12_isMarkSign_65
        · replace h := z_neg hc h
          refine z_iload_n C dX12_isMarkSign_18 rfl rfl ?_
          refine z_bipush (v := 42) C dX12_isMarkSign_19 (by decide) ?_
          refine z_icmp_eq (tgt := 60) C dX12_isMarkSign_21 (by decide) (fun hc => ?_) (fun hc => ?_)
          · replace h := z_pos hc h
            refine z_iconst (v := 1) C dX12_isMarkSign_60 (by decide) ?_
            refine z_goto (tgt := 65) C dX12_isMarkSign_61 (by decide) ?_
            exact z_zret C (by decide) h dX12_isMarkSign_65
          · replace h := z_neg hc h
            refine z_iload_n C dX12_isMarkSign_24 rfl rfl ?_
            refine z_bipush (v := 47) C dX12_isMarkSign_25 (by decide) ?_
            refine z_icmp_eq (tgt := 60) C dX12_isMarkSign_27 (by decide) (fun hc => ?_) (fun hc => ?_)
            · replace h := z_pos hc h
              refine z_iconst (v := 1) C dX12_isMarkSign_60 (by decide) ?_
              refine z_goto (tgt := 65) C dX12_isMarkSign_61 (by decide) ?_
              exact z_zret C (by decide) h dX12_isMarkSign_65
            · replace h := z_neg hc h
              refine z_iload_n C dX12_isMarkSign_30 rfl rfl ?_
              refine z_bipush (v := 40) C dX12_isMarkSign_31 (by decide) ?_
              refine z_icmp_eq (tgt := 60) C dX12_isMarkSign_33 (by decide) (fun hc => ?_) (fun hc => ?_)
              · replace h := z_pos hc h
                refine z_iconst (v := 1) C dX12_isMarkSign_60 (by decide) ?_
                refine z_goto (tgt := 65) C dX12_isMarkSign_61 (by decide) ?_
                exact z_zret C (by decide) h dX12_isMarkSign_65
              · replace h := z_neg hc h
                refine z_iload_n C dX12_isMarkSign_36 rfl rfl ?_
                refine z_bipush (v := 41) C dX12_isMarkSign_37 (by decide) ?_
                refine z_icmp_eq (tgt := 60) C dX12_isMarkSign_39 (by decide) (fun hc => ?_) (fun hc => ?_)
                · replace h := z_pos hc h
                  refine z_iconst (v := 1) C dX12_isMarkSign_60 (by decide) ?_
                  refine z_goto (tgt := 65) C dX12_isMarkSign_61 (by decide) ?_
                  exact z_zret C (by decide) h dX12_isMarkSign_65
                · replace h := z_neg hc h
                  refine z_iload_n C dX12_isMarkSign_42 rfl rfl ?_
                  refine z_bipush (v := 60) C dX12_isMarkSign_43 (by decide) ?_
                  refine z_icmp_eq (tgt := 60) C dX12_isMarkSign_45 (by decide) (fun hc => ?_) (fun hc => ?_)
                  · replace h := z_pos hc h
                    refine z_iconst (v := 1) C dX12_isMarkSign_60 (by decide) ?_
                    refine z_goto (tgt := 65) C dX12_isMarkSign_61 (by decide) ?_
                    exact z_zret C (by decide) h dX12_isMarkSign_65
                  · replace h := z_neg hc h
                    refine z_iload_n C dX12_isMarkSign_48 rfl rfl ?_
                    refine z_bipush (v := 61) C dX12_isMarkSign_49 (by decide) ?_
                    refine z_icmp_eq (tgt := 60) C dX12_isMarkSign_51 (by decide) (fun hc => ?_) (fun hc => ?_)
                    · replace h := z_pos hc h
                      refine z_iconst (v := 1) C dX12_isMarkSign_60 (by decide) ?_
                      refine z_goto (tgt := 65) C dX12_isMarkSign_61 (by decide) ?_
                      exact z_zret C (by decide) h dX12_isMarkSign_65
                    · replace h := z_neg hc h
                      refine z_iload_n C dX12_isMarkSign_54 rfl rfl ?_
                      refine z_bipush (v := 62) C dX12_isMarkSign_55 (by decide) ?_
                      refine z_icmp_ne (tgt := 64) C dX12_isMarkSign_57 (by decide) (fun hc => ?_) (fun hc => ?_)
                      · replace h := z_neg hc h
                        refine z_iconst (v := 0) C dX12_isMarkSign_64 (by decide) ?_
                        exact z_zret C (by decide) h dX12_isMarkSign_65
                      · replace h := z_pos hc h
                        refine z_iconst (v := 1) C dX12_isMarkSign_60 (by decide) ?_
                        refine z_goto (tgt := 65) C dX12_isMarkSign_61 (by decide) ?_
                        exact z_zret C (by decide) h dX12_isMarkSign_65
set_option maxHeartbeats 4000000 in
set_option maxRecDepth 100000 in
theorem t12_wordAt_J115 {X : z_Ct} (C : z_Cx S2 X RX12 cX12_wordAt 6 1 (some .int)) {u : Int32 × z_M} {k5 : Int32 → Int32 → Int32 → Int32 → z_M → Option (Int32 × z_M)} (hr5 : ∀ (v1 : Int32) (v2 : Int32) (v3 : Int32) (v4 : Int32) (σ : z_M), k5 v1 v2 v3 v4 σ = some u → z_W S2 X 5 [some (.ref (z_a X 0)), some (.int v1), some (.int v2), some (.int v3), some (.int v4), none] [] σ (z_oi u)) (v1 : Int32) (v2 : Int32) (v3 : Int32) (v4 : Int32) (σ : z_M) (h : f12_wordAt_J115 k5 v1 v2 v3 v4 σ = some u) : z_W S2 X 115 [some (.ref (z_a X 0)), some (.int v1), some (.int v2), some (.int v3), some (.int v4), none] [] σ (z_oi u) := by
  unfold f12_wordAt_J115 at h
  refine z_goto (tgt := 5) C dX12_wordAt_115 (by decide) ?_
  exact hr5 v1 v2 v3 v4 σ h
set_option maxHeartbeats 4000000 in
set_option maxRecDepth 100000 in
theorem t12_wordAt_L94 {X : z_Ct} (C : z_Cx S2 X RX12 cX12_wordAt 6 1 (some .int)) {u : Int32 × z_M} {k5 : Int32 → Int32 → Int32 → Int32 → z_M → Option (Int32 × z_M)} (hr5 : ∀ (v1 : Int32) (v2 : Int32) (v3 : Int32) (v4 : Int32) (σ : z_M), k5 v1 v2 v3 v4 σ = some u → z_W S2 X 5 [some (.ref (z_a X 0)), some (.int v1), some (.int v2), some (.int v3), some (.int v4), none] [] σ (z_oi u)) : ∀ (n : Nat) (v1 : Int32) (v2 : Int32) (v3 : Int32) (v4 : Int32) (σ : z_M), f12_wordAt_L94 k5 n v1 v2 v3 v4 σ = some u → z_W S2 X 94 [some (.ref (z_a X 0)), some (.int v1), some (.int v2), some (.int v3), some (.int v4), none] [] σ (z_oi u) := by
  intro n
  induction n with
  | zero => intro v1 v2 v3 v4 σ h; rw [f12_wordAt_L94] at h; cases h
  | succ n ih =>
    intro v1 v2 v3 v4 σ h
    rw [f12_wordAt_L94] at h
    refine z_aload_n C dX12_wordAt_94 rfl rfl ?_
    refine z_geta (k := 19) (q := 8) C z_CF12 (by decide) flX12_31 rfl rfl dX12_wordAt_95 ?_
    refine z_iload C dX12_wordAt_98 rfl ?_
    obtain ⟨b1, h⟩ := z_chk_some h
    refine z_iald C rfl rfl b1 dX12_wordAt_100 ?_
    refine z_bipush (v := 32) C dX12_wordAt_101 (by decide) ?_
    refine z_icmp_eq (tgt := 115) C dX12_wordAt_103 (by decide) (fun hc => ?_) (fun hc => ?_)
    · replace h := z_pos hc h
      exact t12_wordAt_J115 C hr5 v1 v2 v3 v4 σ h
    · replace h := z_neg hc h
      refine z_iload C dX12_wordAt_106 rfl ?_
      refine z_iconst (v := 1) C dX12_wordAt_108 (by decide) ?_
      refine z_iadd C dX12_wordAt_109 ?_
      refine z_istore (lo' := [some (.ref (z_a X 0)), some (.int v1), some (.int v2), some (.int v3), some (.int (v4 + 1)), none]) C dX12_wordAt_110 (Nat.le_of_ble_eq_true rfl) rfl ?_
      refine z_goto (tgt := 94) C dX12_wordAt_112 (by decide) ?_
      exact ih v1 v2 v3 (v4 + 1) σ h
set_option maxHeartbeats 4000000 in
set_option maxRecDepth 100000 in
theorem t12_wordAt_J88 {X : z_Ct} (C : z_Cx S2 X RX12 cX12_wordAt 6 1 (some .int)) {u : Int32 × z_M} {k5 : Int32 → Int32 → Int32 → Int32 → z_M → Option (Int32 × z_M)} (hr5 : ∀ (v1 : Int32) (v2 : Int32) (v3 : Int32) (v4 : Int32) (σ : z_M), k5 v1 v2 v3 v4 σ = some u → z_W S2 X 5 [some (.ref (z_a X 0)), some (.int v1), some (.int v2), some (.int v3), some (.int v4), none] [] σ (z_oi u)) (v1 : Int32) (v2 : Int32) (v3 : Int32) (v4 : Int32) (σ : z_M) (h : f12_wordAt_J88 k5 v1 v2 v3 v4 σ = some u) : z_W S2 X 88 [some (.ref (z_a X 0)), some (.int v1), some (.int v2), some (.int v3), some (.int v4), none] [] σ (z_oi u) := by
  unfold f12_wordAt_J88 at h
  refine z_iload C dX12_wordAt_88 rfl ?_
  refine z_iconst (v := 1) C dX12_wordAt_90 (by decide) ?_
  refine z_iadd C dX12_wordAt_91 ?_
  refine z_istore (lo' := [some (.ref (z_a X 0)), some (.int v1), some (.int v2), some (.int v3), some (.int (v4 + 1)), none]) C dX12_wordAt_92 (Nat.le_of_ble_eq_true rfl) rfl ?_
  exact t12_wordAt_L94 C hr5 _ v1 v2 v3 (v4 + 1) σ h
set_option maxHeartbeats 4000000 in
set_option maxRecDepth 100000 in
theorem t12_wordAt_J61 {X : z_Ct} (C : z_Cx S2 X RX12 cX12_wordAt 6 1 (some .int)) {u : Int32 × z_M} {k5 : Int32 → Int32 → Int32 → Int32 → z_M → Option (Int32 × z_M)} (hr5 : ∀ (v1 : Int32) (v2 : Int32) (v3 : Int32) (v4 : Int32) (σ : z_M), k5 v1 v2 v3 v4 σ = some u → z_W S2 X 5 [some (.ref (z_a X 0)), some (.int v1), some (.int v2), some (.int v3), some (.int v4), none] [] σ (z_oi u)) (v1 : Int32) (v2 : Int32) (v3 : Int32) (v4 : Int32) (v5 : Int32) (σ : z_M) (h : f12_wordAt_J61 k5 v1 v2 v3 v4 v5 σ = some u) : z_W S2 X 61 [some (.ref (z_a X 0)), some (.int v1), some (.int v2), some (.int v3), some (.int v4), some (.int v5)] [] σ (z_oi u) := by
  unfold f12_wordAt_J61 at h
  refine z_iload_n C dX12_wordAt_61 rfl rfl ?_
  refine z_iload C dX12_wordAt_62 rfl ?_
  refine z_iadd C dX12_wordAt_64 ?_
  refine z_iload_n C dX12_wordAt_65 rfl rfl ?_
  refine z_icmp_ne (tgt := 88) C dX12_wordAt_66 (by decide) (fun hc => ?_) (fun hc => ?_)
  · replace h := z_neg hc h
    refine z_kill (lo' := [some (.ref (z_a X 0)), some (.int v1), some (.int v2), some (.int v3), some (.int v4), none]) [5] rfl ?_
    exact t12_wordAt_J88 C hr5 v1 v2 v3 v4 σ h
  · replace h := z_pos hc h
    refine z_aload_n C dX12_wordAt_69 rfl rfl ?_
    refine z_geta (k := 19) (q := 8) C z_CF12 (by decide) flX12_31 rfl rfl dX12_wordAt_70 ?_
    refine z_iload C dX12_wordAt_73 rfl ?_
    refine z_iconst (v := 1) C dX12_wordAt_75 (by decide) ?_
    refine z_iadd C dX12_wordAt_76 ?_
    refine z_iload C dX12_wordAt_77 rfl ?_
    refine z_iadd C dX12_wordAt_79 ?_
    obtain ⟨b1, h⟩ := z_chk_some h
    refine z_iald C rfl rfl b1 dX12_wordAt_80 ?_
    refine z_bipush (v := 32) C dX12_wordAt_81 (by decide) ?_
    refine z_icmp_ne (tgt := 88) C dX12_wordAt_83 (by decide) (fun hc => ?_) (fun hc => ?_)
    · replace h := z_neg hc h
      refine z_kill (lo' := [some (.ref (z_a X 0)), some (.int v1), some (.int v2), some (.int v3), some (.int v4), none]) [5] rfl ?_
      exact t12_wordAt_J88 C hr5 v1 v2 v3 v4 σ h
    · replace h := z_pos hc h
      refine z_iload_n C dX12_wordAt_86 rfl rfl ?_
      exact z_iret C h dX12_wordAt_87
set_option maxHeartbeats 4000000 in
set_option maxRecDepth 100000 in
theorem t12_wordAt_L20 {X : z_Ct} (C : z_Cx S2 X RX12 cX12_wordAt 6 1 (some .int)) {u : Int32 × z_M} {k5 : Int32 → Int32 → Int32 → Int32 → z_M → Option (Int32 × z_M)} (hr5 : ∀ (v1 : Int32) (v2 : Int32) (v3 : Int32) (v4 : Int32) (σ : z_M), k5 v1 v2 v3 v4 σ = some u → z_W S2 X 5 [some (.ref (z_a X 0)), some (.int v1), some (.int v2), some (.int v3), some (.int v4), none] [] σ (z_oi u)) : ∀ (n : Nat) (v1 : Int32) (v2 : Int32) (v3 : Int32) (v4 : Int32) (v5 : Int32) (σ : z_M), f12_wordAt_L20 k5 n v1 v2 v3 v4 v5 σ = some u → z_W S2 X 20 [some (.ref (z_a X 0)), some (.int v1), some (.int v2), some (.int v3), some (.int v4), some (.int v5)] [] σ (z_oi u) := by
  intro n
  induction n with
  | zero => intro v1 v2 v3 v4 v5 σ h; rw [f12_wordAt_L20] at h; cases h
  | succ n ih =>
    intro v1 v2 v3 v4 v5 σ h
    rw [f12_wordAt_L20] at h
    refine z_iload_n C dX12_wordAt_20 rfl rfl ?_
    refine z_iload C dX12_wordAt_21 rfl ?_
    refine z_iadd C dX12_wordAt_23 ?_
    refine z_iload_n C dX12_wordAt_24 rfl rfl ?_
    refine z_icmp_ge (tgt := 61) C dX12_wordAt_25 (by decide) (fun hc => ?_) (fun hc => ?_)
    · replace h := z_neg hc h
      exact t12_wordAt_J61 C hr5 v1 v2 v3 v4 v5 σ h
    · replace h := z_pos hc h
      refine z_aload_n C dX12_wordAt_28 rfl rfl ?_
      refine z_geta (k := 19) (q := 8) C z_CF12 (by decide) flX12_31 rfl rfl dX12_wordAt_29 ?_
      refine z_iload C dX12_wordAt_32 rfl ?_
      refine z_iconst (v := 1) C dX12_wordAt_34 (by decide) ?_
      refine z_iadd C dX12_wordAt_35 ?_
      refine z_iload C dX12_wordAt_36 rfl ?_
      refine z_iadd C dX12_wordAt_38 ?_
      obtain ⟨b1, h⟩ := z_chk_some h
      refine z_iald C rfl rfl b1 dX12_wordAt_39 ?_
      refine z_aload_n C dX12_wordAt_40 rfl rfl ?_
      refine z_geta (k := 13) (q := 7) C z_CF12 (by decide) flX12_28 rfl rfl dX12_wordAt_41 ?_
      refine z_iload_n C dX12_wordAt_44 rfl rfl ?_
      refine z_iload C dX12_wordAt_45 rfl ?_
      refine z_iadd C dX12_wordAt_47 ?_
      obtain ⟨b2, h⟩ := z_chk_some h
      refine z_iald C rfl rfl b2 dX12_wordAt_48 ?_
      refine z_icmp_ne (tgt := 61) C dX12_wordAt_49 (by decide) (fun hc => ?_) (fun hc => ?_)
      · replace h := z_neg hc h
        exact t12_wordAt_J61 C hr5 v1 v2 v3 v4 v5 σ h
      · replace h := z_pos hc h
        refine z_iload C dX12_wordAt_52 rfl ?_
        refine z_iconst (v := 1) C dX12_wordAt_54 (by decide) ?_
        refine z_iadd C dX12_wordAt_55 ?_
        refine z_istore (lo' := [some (.ref (z_a X 0)), some (.int v1), some (.int v2), some (.int v3), some (.int v4), some (.int (v5 + 1))]) C dX12_wordAt_56 (Nat.le_of_ble_eq_true rfl) rfl ?_
        refine z_goto (tgt := 20) C dX12_wordAt_58 (by decide) ?_
        exact ih v1 v2 v3 v4 (v5 + 1) σ h
set_option maxHeartbeats 4000000 in
set_option maxRecDepth 100000 in
theorem t12_wordAt_L5 {X : z_Ct} (C : z_Cx S2 X RX12 cX12_wordAt 6 1 (some .int)) {u : Int32 × z_M} : ∀ (n : Nat) (v1 : Int32) (v2 : Int32) (v3 : Int32) (v4 : Int32) (σ : z_M), f12_wordAt_L5 n v1 v2 v3 v4 σ = some u → z_W S2 X 5 [some (.ref (z_a X 0)), some (.int v1), some (.int v2), some (.int v3), some (.int v4), none] [] σ (z_oi u) := by
  intro n
  induction n with
  | zero => intro v1 v2 v3 v4 σ h; rw [f12_wordAt_L5] at h; cases h
  | succ n ih =>
    intro v1 v2 v3 v4 σ h
    rw [f12_wordAt_L5] at h
    refine z_iload C dX12_wordAt_5 rfl ?_
    refine z_sipush (v := 144) C dX12_wordAt_7 (by decide) ?_
    refine z_icmp_ge (tgt := 118) C dX12_wordAt_10 (by decide) (fun hc => ?_) (fun hc => ?_)
    · replace h := z_neg hc h
      refine z_iconst (v := (-1)) C dX12_wordAt_118 (by decide) ?_
      exact z_iret C h dX12_wordAt_119
    · replace h := z_pos hc h
      refine z_iconst (v := 0) C dX12_wordAt_13 (by decide) ?_
      refine z_istore (lo' := [some (.ref (z_a X 0)), some (.int v1), some (.int v2), some (.int v3), some (.int v4), some (.int 0)]) C dX12_wordAt_14 (Nat.le_of_ble_eq_true rfl) rfl ?_
      refine z_iload_n C dX12_wordAt_16 rfl rfl ?_
      refine z_iconst (v := 1) C dX12_wordAt_17 (by decide) ?_
      refine z_iadd C dX12_wordAt_18 ?_
      refine z_istore_n (lo' := [some (.ref (z_a X 0)), some (.int v1), some (.int v2), some (.int (v3 + 1)), some (.int v4), some (.int 0)]) C dX12_wordAt_19 rfl (Nat.le_of_ble_eq_true rfl) rfl ?_
      exact t12_wordAt_L20 C ih _ v1 v2 (v3 + 1) v4 0 σ h
set_option maxHeartbeats 4000000 in
set_option maxRecDepth 100000 in
theorem t12_wordAt {a : Nat → Nat} (p1 : Int32) (p2 : Int32) {σ : z_M} {u : Int32 × z_M} (h : f12_wordAt p1 p2 σ = some u) : z_Mt yX12_wordAt (z_w yX12_wordAt cX12_wordAt 6 (some .int)) 1 S2 a σ [.ref (a 0), .int p1, .int p2] (z_oi u) := by
  refine z_head (lo := [some (.ref (a 0)), some (.int p1), some (.int p2), none, none, none]) (by decide) (Nat.le_of_ble_eq_true rfl) ?_ rfl ?_
  · intro i v hv
    exact z_loe (vs := [.ref (a 0), .int p1, .int p2]) (n := 3) rfl (by simp [z_c1i, z_c1r]) i v hv
  · intro X hXa C
    subst hXa
    unfold f12_wordAt at h
    refine z_iconst (v := (-1)) C dX12_wordAt_0 (by decide) ?_
    refine z_istore_n (lo' := [some (.ref (z_a X 0)), some (.int p1), some (.int p2), some (.int (-1)), none, none]) C dX12_wordAt_1 rfl (Nat.le_of_ble_eq_true rfl) rfl ?_
    refine z_iconst (v := 0) C dX12_wordAt_2 (by decide) ?_
    refine z_istore (lo' := [some (.ref (z_a X 0)), some (.int p1), some (.int p2), some (.int (-1)), some (.int 0), none]) C dX12_wordAt_3 (Nat.le_of_ble_eq_true rfl) rfl ?_
    exact t12_wordAt_L5 C _ p1 p2 (-1) 0 σ h
set_option maxHeartbeats 4000000 in
set_option maxRecDepth 100000 in
theorem t12_reads_J26 {X : z_Ct} (C : z_Cx S2 X RX12 cX12_reads 2 3 none) {u : Unit × z_M} {k0 : z_M → Option (Unit × z_M)} (hr0 : ∀ (σ : z_M), k0 σ = some u → z_W S2 X 0 [some (.ref (z_a X 0)), none] [] σ (z_ov u)) (σ : z_M) (h : f12_reads_J26 k0 σ = some u) : z_W S2 X 26 [some (.ref (z_a X 0)), none] [] σ (z_ov u) := by
  unfold f12_reads_J26 at h
  refine z_aload_n C dX12_reads_26 rfl rfl ?_
  refine z_aload_n C dX12_reads_27 rfl rfl ?_
  refine z_geti (k := 15) C z_CF12 (by decide) flX12_166 rfl rfl dX12_reads_28 ?_
  refine z_iconst (v := 1) C dX12_reads_31 (by decide) ?_
  refine z_iadd C dX12_reads_32 ?_
  obtain ⟨σ1, eσ1, h⟩ := z_let_some h
  refine z_puti (k := 15) C z_CF12 (by decide) flX12_166 rfl rfl rfl rfl eσ1 dX12_reads_33 ?_
  refine z_goto (tgt := 0) C dX12_reads_36 (by decide) ?_
  exact hr0 σ1 h
set_option maxHeartbeats 4000000 in
set_option maxRecDepth 100000 in
theorem t12_reads_J239 {X : z_Ct} (C : z_Cx S2 X RX12 cX12_reads 2 3 none) {u : Unit × z_M} (σ : z_M) (h : f12_reads_J239 σ = some u) : z_W S2 X 239 [some (.ref (z_a X 0)), none] [] σ (z_ov u) := by
  unfold f12_reads_J239 at h
  refine z_aload_n C dX12_reads_239 rfl rfl ?_
  refine z_geti (k := 15) C z_CF12 (by decide) flX12_166 rfl rfl dX12_reads_240 ?_
  refine z_aload_n C dX12_reads_243 rfl rfl ?_
  refine z_geti (k := 16) C z_CF12 (by decide) flX12_173 rfl rfl dX12_reads_244 ?_
  refine z_isub C dX12_reads_247 ?_
  refine z_iconst (v := 5) C dX12_reads_248 (by decide) ?_
  refine z_icmp_ge (tgt := 273) C dX12_reads_249 (by decide) (fun hc => ?_) (fun hc => ?_)
  · replace h := z_neg hc h
    exact z_vret C h dX12_reads_273
  · replace h := z_pos hc h
    refine z_aload_n C dX12_reads_252 rfl rfl ?_
    refine z_iconst (v := 3) C dX12_reads_253 (by decide) ?_
    obtain ⟨σ1, eσ1, h⟩ := z_let_some h
    refine z_puti (k := 17) C z_CF12 (by decide) flX12_176 rfl rfl rfl rfl eσ1 dX12_reads_254 ?_
    refine z_goto (tgt := 273) C dX12_reads_257 (by decide) ?_
    exact z_vret C h dX12_reads_273
set_option maxHeartbeats 4000000 in
set_option maxRecDepth 100000 in
theorem t12_reads_J223 {X : z_Ct} (C : z_Cx S2 X RX12 cX12_reads 2 3 none) {u : Unit × z_M} {k171 : z_M → Option (Unit × z_M)} (hr171 : ∀ (σ : z_M), k171 σ = some u → z_W S2 X 171 [some (.ref (z_a X 0)), none] [] σ (z_ov u)) (s1 : Int32) (σ : z_M) (h : f12_reads_J223 k171 s1 σ = some u) : z_W S2 X 223 [some (.ref (z_a X 0)), none] [.int s1, .ref (z_a X 0)] σ (z_ov u) := by
  unfold f12_reads_J223 at h
  obtain ⟨σ1, eσ1, h⟩ := z_let_some h
  refine z_puti (k := 18) C z_CF12 (by decide) flX12_179 rfl rfl rfl rfl eσ1 dX12_reads_223 ?_
  refine z_aload_n C dX12_reads_226 rfl rfl ?_
  refine z_aload_n C dX12_reads_227 rfl rfl ?_
  refine z_geti (k := 15) C z_CF12 (by decide) flX12_166 rfl rfl dX12_reads_228 ?_
  refine z_iconst (v := 1) C dX12_reads_231 (by decide) ?_
  refine z_iadd C dX12_reads_232 ?_
  obtain ⟨σ2, eσ2, h⟩ := z_let_some h
  refine z_puti (k := 15) C z_CF12 (by decide) flX12_166 rfl rfl rfl rfl eσ2 dX12_reads_233 ?_
  refine z_goto (tgt := 171) C dX12_reads_236 (by decide) ?_
  exact hr171 σ2 h
set_option maxHeartbeats 4000000 in
set_option maxRecDepth 100000 in
theorem t12_reads_L171 {X : z_Ct} (C : z_Cx S2 X RX12 cX12_reads 2 3 none) {u : Unit × z_M} : ∀ (n : Nat) (σ : z_M), f12_reads_L171 n σ = some u → z_W S2 X 171 [some (.ref (z_a X 0)), none] [] σ (z_ov u) := by
  intro n
  induction n with
  | zero => intro σ h; rw [f12_reads_L171] at h; cases h
  | succ n ih =>
    intro σ h
    rw [f12_reads_L171] at h
    refine z_aload_n C dX12_reads_171 rfl rfl ?_
    refine z_aload_n C dX12_reads_172 rfl rfl ?_
    refine z_aload_n C dX12_reads_173 rfl rfl ?_
    refine z_geti (k := 15) C z_CF12 (by decide) flX12_166 rfl rfl dX12_reads_174 ?_
    obtain ⟨r1, σ2, mσ2, h⟩ := z_bnd2 h
    refine z_cvi (As := [.int (σ 0 15)]) (c := 0) (st := [.ref (z_a X 0)]) C (t12_raw (σ 0 15) mσ2) kvX12_raw rfl mlX12_169 z_CF12 rfl rfl (by decide) rfl (Nat.le_of_ble_eq_true rfl) dX12_reads_177 ?_
    obtain ⟨r3, σ4, mσ4, h⟩ := z_bnd2 h
    refine z_cvi (As := [.int r1]) (c := 0) (st := []) C (t12_isDigit r1 mσ4) kvX12_isDigit rfl mlX12_188 z_CF12 rfl rfl (by decide) rfl (Nat.le_of_ble_eq_true rfl) dX12_reads_180 ?_
    refine z_if_eq (tgt := 239) C dX12_reads_183 (by decide) (fun hc => ?_) (fun hc => ?_)
    · replace h := z_pos hc h
      exact t12_reads_J239 C σ4 h
    · replace h := z_neg hc h
      refine z_aload_n C dX12_reads_186 rfl rfl ?_
      refine z_aload_n C dX12_reads_187 rfl rfl ?_
      refine z_geti (k := 18) C z_CF12 (by decide) flX12_179 rfl rfl dX12_reads_188 ?_
      refine z_sipush (v := 10000) C dX12_reads_191 (by decide) ?_
      refine z_icmp_ge (tgt := 219) C dX12_reads_194 (by decide) (fun hc => ?_) (fun hc => ?_)
      · replace h := z_neg hc h
        refine z_aload_n C dX12_reads_219 rfl rfl ?_
        refine z_geti (k := 18) C z_CF12 (by decide) flX12_179 rfl rfl dX12_reads_220 ?_
        exact t12_reads_J223 C ih (σ4 0 18) σ4 h
      · replace h := z_pos hc h
        refine z_bipush (v := 10) C dX12_reads_197 (by decide) ?_
        refine z_aload_n C dX12_reads_199 rfl rfl ?_
        refine z_geti (k := 18) C z_CF12 (by decide) flX12_179 rfl rfl dX12_reads_200 ?_
        refine z_imul C dX12_reads_203 ?_
        refine z_aload_n C dX12_reads_204 rfl rfl ?_
        refine z_aload_n C dX12_reads_205 rfl rfl ?_
        refine z_geti (k := 15) C z_CF12 (by decide) flX12_166 rfl rfl dX12_reads_206 ?_
        obtain ⟨r5, σ6, mσ6, h⟩ := z_bnd2 h
        refine z_cvi (As := [.int (σ4 0 15)]) (c := 0) (st := [.int (10 * (σ4 0 18)), .ref (z_a X 0)]) C (t12_raw (σ4 0 15) mσ6) kvX12_raw rfl mlX12_169 z_CF12 rfl rfl (by decide) rfl (Nat.le_of_ble_eq_true rfl) dX12_reads_209 ?_
        refine z_iadd C dX12_reads_212 ?_
        refine z_bipush (v := 48) C dX12_reads_213 (by decide) ?_
        refine z_isub C dX12_reads_215 ?_
        refine z_goto (tgt := 223) C dX12_reads_216 (by decide) ?_
        exact t12_reads_J223 C ih (((10 * (σ4 0 18)) + r5) - 48) σ6 h
set_option maxHeartbeats 4000000 in
set_option maxRecDepth 100000 in
theorem t12_reads_J123 {X : z_Ct} (C : z_Cx S2 X RX12 cX12_reads 2 3 none) {u : Unit × z_M} (σ : z_M) (h : f12_reads_J123 σ = some u) : z_W S2 X 123 [some (.ref (z_a X 0)), none] [] σ (z_ov u) := by
  unfold f12_reads_J123 at h
  refine z_aload_n C dX12_reads_123 rfl rfl ?_
  refine z_aload_n C dX12_reads_124 rfl rfl ?_
  refine z_aload_n C dX12_reads_125 rfl rfl ?_
  refine z_geti (k := 16) C z_CF12 (by decide) flX12_173 rfl rfl dX12_reads_126 ?_
  refine z_aload_n C dX12_reads_129 rfl rfl ?_
  refine z_geti (k := 15) C z_CF12 (by decide) flX12_166 rfl rfl dX12_reads_130 ?_
  obtain ⟨r1, σ2, mσ2, h⟩ := z_bnd2 h
  refine z_cvi (As := [.int (σ 0 16), .int (σ 0 15)]) (c := 0) (st := [.ref (z_a X 0)]) C (t12_wordAt (σ 0 16) (σ 0 15) mσ2) kvX12_wordAt rfl mlX12_185 z_CF12 rfl rfl (by decide) rfl (Nat.le_of_ble_eq_true rfl) dX12_reads_133 ?_
  obtain ⟨σ3, eσ3, h⟩ := z_let_some h
  refine z_puti (k := 18) C z_CF12 (by decide) flX12_179 rfl rfl rfl rfl eσ3 dX12_reads_136 ?_
  refine z_aload_n C dX12_reads_139 rfl rfl ?_
  refine z_geti (k := 18) C z_CF12 (by decide) flX12_179 rfl rfl dX12_reads_140 ?_
  refine z_iconst (v := (-1)) C dX12_reads_143 (by decide) ?_
  refine z_icmp_eq (tgt := 273) C dX12_reads_144 (by decide) (fun hc => ?_) (fun hc => ?_)
  · replace h := z_pos hc h
    exact z_vret C h dX12_reads_273
  · replace h := z_neg hc h
    refine z_aload_n C dX12_reads_147 rfl rfl ?_
    refine z_iconst (v := 2) C dX12_reads_148 (by decide) ?_
    obtain ⟨σ4, eσ4, h⟩ := z_let_some h
    refine z_puti (k := 17) C z_CF12 (by decide) flX12_176 rfl rfl rfl rfl eσ4 dX12_reads_149 ?_
    refine z_goto (tgt := 273) C dX12_reads_152 (by decide) ?_
    exact z_vret C h dX12_reads_273
set_option maxHeartbeats 4000000 in
set_option maxRecDepth 100000 in
theorem t12_reads_L95 {X : z_Ct} (C : z_Cx S2 X RX12 cX12_reads 2 3 none) {u : Unit × z_M} : ∀ (n : Nat) (σ : z_M), f12_reads_L95 n σ = some u → z_W S2 X 95 [some (.ref (z_a X 0)), none] [] σ (z_ov u) := by
  intro n
  induction n with
  | zero => intro σ h; rw [f12_reads_L95] at h; cases h
  | succ n ih =>
    intro σ h
    rw [f12_reads_L95] at h
    refine z_aload_n C dX12_reads_95 rfl rfl ?_
    refine z_aload_n C dX12_reads_96 rfl rfl ?_
    refine z_aload_n C dX12_reads_97 rfl rfl ?_
    refine z_geti (k := 15) C z_CF12 (by decide) flX12_166 rfl rfl dX12_reads_98 ?_
    obtain ⟨r1, σ2, mσ2, h⟩ := z_bnd2 h
    refine z_cvi (As := [.int (σ 0 15)]) (c := 0) (st := [.ref (z_a X 0)]) C (t12_raw (σ 0 15) mσ2) kvX12_raw rfl mlX12_169 z_CF12 rfl rfl (by decide) rfl (Nat.le_of_ble_eq_true rfl) dX12_reads_101 ?_
    obtain ⟨r3, σ4, mσ4, h⟩ := z_bnd2 h
    refine z_cvi (As := [.int r1]) (c := 0) (st := []) C (t12_isLetter r1 mσ4) kvX12_isLetter rfl mlX12_182 z_CF12 rfl rfl (by decide) rfl (Nat.le_of_ble_eq_true rfl) dX12_reads_104 ?_
    refine z_if_eq (tgt := 123) C dX12_reads_107 (by decide) (fun hc => ?_) (fun hc => ?_)
    · replace h := z_pos hc h
      exact t12_reads_J123 C σ4 h
    · replace h := z_neg hc h
      refine z_aload_n C dX12_reads_110 rfl rfl ?_
      refine z_aload_n C dX12_reads_111 rfl rfl ?_
      refine z_geti (k := 15) C z_CF12 (by decide) flX12_166 rfl rfl dX12_reads_112 ?_
      refine z_iconst (v := 1) C dX12_reads_115 (by decide) ?_
      refine z_iadd C dX12_reads_116 ?_
      obtain ⟨σ5, eσ5, h⟩ := z_let_some h
      refine z_puti (k := 15) C z_CF12 (by decide) flX12_166 rfl rfl rfl rfl eσ5 dX12_reads_117 ?_
      refine z_goto (tgt := 95) C dX12_reads_120 (by decide) ?_
      exact ih σ5 h
set_option maxHeartbeats 4000000 in
set_option maxRecDepth 100000 in
theorem t12_reads_J39 {X : z_Ct} (C : z_Cx S2 X RX12 cX12_reads 2 3 none) {u : Unit × z_M} (σ : z_M) (h : f12_reads_J39 σ = some u) : z_W S2 X 39 [some (.ref (z_a X 0)), none] [] σ (z_ov u) := by
  unfold f12_reads_J39 at h
  refine z_aload_n C dX12_reads_39 rfl rfl ?_
  refine z_aload_n C dX12_reads_40 rfl rfl ?_
  refine z_geti (k := 15) C z_CF12 (by decide) flX12_166 rfl rfl dX12_reads_41 ?_
  obtain ⟨σ1, eσ1, h⟩ := z_let_some h
  refine z_puti (k := 16) C z_CF12 (by decide) flX12_173 rfl rfl rfl rfl eσ1 dX12_reads_44 ?_
  refine z_aload_n C dX12_reads_47 rfl rfl ?_
  refine z_iconst (v := 1) C dX12_reads_48 (by decide) ?_
  obtain ⟨σ2, eσ2, h⟩ := z_let_some h
  refine z_puti (k := 17) C z_CF12 (by decide) flX12_176 rfl rfl rfl rfl eσ2 dX12_reads_49 ?_
  refine z_aload_n C dX12_reads_52 rfl rfl ?_
  refine z_aload_n C dX12_reads_53 rfl rfl ?_
  refine z_geti (k := 15) C z_CF12 (by decide) flX12_166 rfl rfl dX12_reads_54 ?_
  obtain ⟨r3, σ4, mσ4, h⟩ := z_bnd2 h
  refine z_cvi (As := [.int (σ2 0 15)]) (c := 0) (st := []) C (t12_raw (σ2 0 15) mσ4) kvX12_raw rfl mlX12_169 z_CF12 rfl rfl (by decide) rfl (Nat.le_of_ble_eq_true rfl) dX12_reads_57 ?_
  refine z_istore_n (lo' := [some (.ref (z_a X 0)), some (.int r3)]) C dX12_reads_60 rfl (Nat.le_of_ble_eq_true rfl) rfl ?_
  refine z_iload_n C dX12_reads_61 rfl rfl ?_
  refine z_iconst (v := (-1)) C dX12_reads_62 (by decide) ?_
  refine z_icmp_ne (tgt := 72) C dX12_reads_63 (by decide) (fun hc => ?_) (fun hc => ?_)
  · replace h := z_neg hc h
    refine z_aload_n C dX12_reads_72 rfl rfl ?_
    refine z_aload_n C dX12_reads_73 rfl rfl ?_
    refine z_geti (k := 15) C z_CF12 (by decide) flX12_166 rfl rfl dX12_reads_74 ?_
    refine z_iconst (v := 1) C dX12_reads_77 (by decide) ?_
    refine z_iadd C dX12_reads_78 ?_
    obtain ⟨σ5, eσ5, h⟩ := z_let_some h
    refine z_puti (k := 15) C z_CF12 (by decide) flX12_166 rfl rfl rfl rfl eσ5 dX12_reads_79 ?_
    refine z_aload_n C dX12_reads_82 rfl rfl ?_
    refine z_iload_n C dX12_reads_83 rfl rfl ?_
    obtain ⟨σ6, eσ6, h⟩ := z_let_some h
    refine z_puti (k := 18) C z_CF12 (by decide) flX12_179 rfl rfl rfl rfl eσ6 dX12_reads_84 ?_
    refine z_aload_n C dX12_reads_87 rfl rfl ?_
    refine z_iload_n C dX12_reads_88 rfl rfl ?_
    obtain ⟨r7, σ8, mσ8, h⟩ := z_bnd2 h
    refine z_cvi (As := [.int r3]) (c := 0) (st := []) C (t12_isLetter r3 mσ8) kvX12_isLetter rfl mlX12_182 z_CF12 rfl rfl (by decide) rfl (Nat.le_of_ble_eq_true rfl) dX12_reads_89 ?_
    refine z_if_eq (tgt := 155) C dX12_reads_92 (by decide) (fun hc => ?_) (fun hc => ?_)
    · replace h := z_pos hc h
      refine z_aload_n C dX12_reads_155 rfl rfl ?_
      refine z_iload_n C dX12_reads_156 rfl rfl ?_
      obtain ⟨r9, σ10, mσ10, h⟩ := z_bnd2 h
      refine z_cvi (As := [.int r3]) (c := 0) (st := []) C (t12_isDigit r3 mσ10) kvX12_isDigit rfl mlX12_188 z_CF12 rfl rfl (by decide) rfl (Nat.le_of_ble_eq_true rfl) dX12_reads_157 ?_
      refine z_if_eq (tgt := 260) C dX12_reads_160 (by decide) (fun hc => ?_) (fun hc => ?_)
      · replace h := z_pos hc h
        refine z_aload_n C dX12_reads_260 rfl rfl ?_
        refine z_iload_n C dX12_reads_261 rfl rfl ?_
        obtain ⟨r11, σ12, mσ12, h⟩ := z_bnd2 h
        refine z_cvi (As := [.int r3]) (c := 0) (st := []) C (t12_isMarkSign r3 mσ12) kvX12_isMarkSign rfl mlX12_191 z_CF12 rfl rfl (by decide) rfl (Nat.le_of_ble_eq_true rfl) dX12_reads_262 ?_
        refine z_if_eq (tgt := 273) C dX12_reads_265 (by decide) (fun hc => ?_) (fun hc => ?_)
        · replace h := z_pos hc h
          exact z_vret C h dX12_reads_273
        · replace h := z_neg hc h
          refine z_aload_n C dX12_reads_268 rfl rfl ?_
          refine z_iconst (v := 4) C dX12_reads_269 (by decide) ?_
          obtain ⟨σ13, eσ13, h⟩ := z_let_some h
          refine z_puti (k := 17) C z_CF12 (by decide) flX12_176 rfl rfl rfl rfl eσ13 dX12_reads_270 ?_
          exact z_vret C h dX12_reads_273
      · replace h := z_neg hc h
        refine z_aload_n C dX12_reads_163 rfl rfl ?_
        refine z_iload_n C dX12_reads_164 rfl rfl ?_
        refine z_bipush (v := 48) C dX12_reads_165 (by decide) ?_
        refine z_isub C dX12_reads_167 ?_
        obtain ⟨σ14, eσ14, h⟩ := z_let_some h
        refine z_puti (k := 18) C z_CF12 (by decide) flX12_179 rfl rfl rfl rfl eσ14 dX12_reads_168 ?_
        refine z_kill (lo' := [some (.ref (z_a X 0)), none]) [1] rfl ?_
        exact t12_reads_L171 C _ σ14 h
    · replace h := z_neg hc h
      refine z_kill (lo' := [some (.ref (z_a X 0)), none]) [1] rfl ?_
      exact t12_reads_L95 C _ σ8 h
  · replace h := z_pos hc h
    refine z_aload_n C dX12_reads_66 rfl rfl ?_
    refine z_iconst (v := 0) C dX12_reads_67 (by decide) ?_
    obtain ⟨σ15, eσ15, h⟩ := z_let_some h
    refine z_puti (k := 17) C z_CF12 (by decide) flX12_176 rfl rfl rfl rfl eσ15 dX12_reads_68 ?_
    exact z_vret C h dX12_reads_71
set_option maxHeartbeats 4000000 in
set_option maxRecDepth 100000 in
theorem t12_reads_L0 {X : z_Ct} (C : z_Cx S2 X RX12 cX12_reads 2 3 none) {u : Unit × z_M} : ∀ (n : Nat) (σ : z_M), f12_reads_L0 n σ = some u → z_W S2 X 0 [some (.ref (z_a X 0)), none] [] σ (z_ov u) := by
  intro n
  induction n with
  | zero => intro σ h; rw [f12_reads_L0] at h; cases h
  | succ n ih =>
    intro σ h
    rw [f12_reads_L0] at h
    refine z_aload_n C dX12_reads_0 rfl rfl ?_
    refine z_aload_n C dX12_reads_1 rfl rfl ?_
    refine z_geti (k := 15) C z_CF12 (by decide) flX12_166 rfl rfl dX12_reads_2 ?_
    obtain ⟨r1, σ2, mσ2, h⟩ := z_bnd2 h
    refine z_cvi (As := [.int (σ 0 15)]) (c := 0) (st := []) C (t12_raw (σ 0 15) mσ2) kvX12_raw rfl mlX12_169 z_CF12 rfl rfl (by decide) rfl (Nat.le_of_ble_eq_true rfl) dX12_reads_5 ?_
    refine z_bipush (v := 32) C dX12_reads_8 (by decide) ?_
    refine z_icmp_eq (tgt := 26) C dX12_reads_10 (by decide) (fun hc => ?_) (fun hc => ?_)
    · replace h := z_pos hc h
      exact t12_reads_J26 C ih σ2 h
    · replace h := z_neg hc h
      refine z_aload_n C dX12_reads_13 rfl rfl ?_
      refine z_aload_n C dX12_reads_14 rfl rfl ?_
      refine z_geti (k := 15) C z_CF12 (by decide) flX12_166 rfl rfl dX12_reads_15 ?_
      obtain ⟨r3, σ4, mσ4, h⟩ := z_bnd2 h
      refine z_cvi (As := [.int (σ2 0 15)]) (c := 0) (st := []) C (t12_raw (σ2 0 15) mσ4) kvX12_raw rfl mlX12_169 z_CF12 rfl rfl (by decide) rfl (Nat.le_of_ble_eq_true rfl) dX12_reads_18 ?_
      refine z_bipush (v := 10) C dX12_reads_21 (by decide) ?_
      refine z_icmp_ne (tgt := 39) C dX12_reads_23 (by decide) (fun hc => ?_) (fun hc => ?_)
      · replace h := z_neg hc h
        exact t12_reads_J39 C σ4 h
      · replace h := z_pos hc h
        exact t12_reads_J26 C ih σ4 h
set_option maxHeartbeats 4000000 in
set_option maxRecDepth 100000 in
theorem t12_reads {a : Nat → Nat} {σ : z_M} {u : Unit × z_M} (h : f12_reads σ = some u) : z_Mt yX12_reads (z_w yX12_reads cX12_reads 2 none) 3 S2 a σ [.ref (a 0)] (z_ov u) := by
  refine z_head (lo := [some (.ref (a 0)), none]) (by decide) (Nat.le_of_ble_eq_true rfl) ?_ rfl ?_
  · intro i v hv
    exact z_loe (vs := [.ref (a 0)]) (n := 1) rfl (by simp [z_c1i, z_c1r]) i v hv
  · intro X hXa C
    subst hXa
    unfold f12_reads at h
    exact t12_reads_L0 C _ σ h
set_option maxHeartbeats 4000000 in
set_option maxRecDepth 100000 in
theorem t12_errs {a : Nat → Nat} (p1 : Int32) {σ : z_M} {u : Int32 × z_M} (h : f12_errs p1 σ = some u) : z_Mt yX12_errs (z_w yX12_errs cX12_errs 2 (some .int)) 1 S2 a σ [.ref (a 0), .int p1] (z_oi u) := by
  refine z_head (lo := [some (.ref (a 0)), some (.int p1)]) (by decide) (Nat.le_of_ble_eq_true rfl) ?_ rfl ?_
  · intro i v hv
    exact z_loe (vs := [.ref (a 0), .int p1]) (n := 0) rfl (by simp [z_c1i, z_c1r]) i v hv
  · intro X hXa C
    subst hXa
    unfold f12_errs at h
    refine z_aload_n C dX12_errs_0 rfl rfl ?_
    refine z_iload_n C dX12_errs_1 rfl rfl ?_
    obtain ⟨σ1, eσ1, h⟩ := z_let_some h
    refine z_puti (k := 32) C z_CF12 (by decide) flX12_194 rfl rfl rfl rfl eσ1 dX12_errs_2 ?_
    refine z_aload_n C dX12_errs_5 rfl rfl ?_
    refine z_aload_n C dX12_errs_6 rfl rfl ?_
    refine z_geti (k := 16) C z_CF12 (by decide) flX12_173 rfl rfl dX12_errs_7 ?_
    obtain ⟨σ2, eσ2, h⟩ := z_let_some h
    refine z_puti (k := 33) C z_CF12 (by decide) flX12_197 rfl rfl rfl rfl eσ2 dX12_errs_10 ?_
    refine z_iconst (v := (-1)) C dX12_errs_13 (by decide) ?_
    exact z_iret C h dX12_errs_14
set_option maxHeartbeats 4000000 in
set_option maxRecDepth 100000 in
theorem t12_isWord_J20 {X : z_Ct} (C : z_Cx S2 X RX12 cX12_isWord 2 1 (some .boolean)) {u : Int32 × z_M} (σ : z_M) (h : f12_isWord_J20 σ = some u) : z_W S2 X 20 [none, none] [] σ (z_oi u) := by
  unfold f12_isWord_J20 at h
  refine z_iconst (v := 0) C dX12_isWord_20 (by decide) ?_
  exact z_zret C (by decide) h dX12_isWord_21
set_option maxHeartbeats 4000000 in
set_option maxRecDepth 100000 in
theorem t12_isWord {a : Nat → Nat} (p1 : Int32) {σ : z_M} {u : Int32 × z_M} (h : f12_isWord p1 σ = some u) : z_Mt yX12_isWord (z_w yX12_isWord cX12_isWord 2 (some .boolean)) 1 S2 a σ [.ref (a 0), .int p1] (z_oi u) := by
  refine z_head (lo := [some (.ref (a 0)), some (.int p1)]) (by decide) (Nat.le_of_ble_eq_true rfl) ?_ rfl ?_
  · intro i v hv
    exact z_loe (vs := [.ref (a 0), .int p1]) (n := 0) rfl (by simp [z_c1i, z_c1r]) i v hv
  · intro X hXa C
    subst hXa
    unfold f12_isWord at h
    refine z_aload_n C dX12_isWord_0 rfl rfl ?_
    refine z_geti (k := 17) C z_CF12 (by decide) flX12_176 rfl rfl dX12_isWord_1 ?_
    refine z_iconst (v := 2) C dX12_isWord_4 (by decide) ?_
    refine z_icmp_ne (tgt := 20) C dX12_isWord_5 (by decide) (fun hc => ?_) (fun hc => ?_)
    · replace h := z_neg hc h
      refine z_kill (lo' := [none, none]) [0, 1] rfl ?_
      exact t12_isWord_J20 C σ h
    · replace h := z_pos hc h
      refine z_aload_n C dX12_isWord_8 rfl rfl ?_
      refine z_geti (k := 18) C z_CF12 (by decide) flX12_179 rfl rfl dX12_isWord_9 ?_
      refine z_iload_n C dX12_isWord_12 rfl rfl ?_
      refine z_icmp_ne (tgt := 20) C dX12_isWord_13 (by decide) (fun hc => ?_) (fun hc => ?_)
      · replace h := z_neg hc h
        refine z_kill (lo' := [none, none]) [0, 1] rfl ?_
        exact t12_isWord_J20 C σ h
      · replace h := z_pos hc h
        refine z_iconst (v := 1) C dX12_isWord_16 (by decide) ?_
        refine z_goto (tgt := 21) C dX12_isWord_17 (by decide) ?_
        exact z_zret C (by decide) h dX12_isWord_21
set_option maxHeartbeats 4000000 in
set_option maxRecDepth 100000 in
theorem t12_isSign_J20 {X : z_Ct} (C : z_Cx S2 X RX12 cX12_isSign 2 1 (some .boolean)) {u : Int32 × z_M} (σ : z_M) (h : f12_isSign_J20 σ = some u) : z_W S2 X 20 [none, none] [] σ (z_oi u) := by
  unfold f12_isSign_J20 at h
  refine z_iconst (v := 0) C dX12_isSign_20 (by decide) ?_
  exact z_zret C (by decide) h dX12_isSign_21
set_option maxHeartbeats 4000000 in
set_option maxRecDepth 100000 in
theorem t12_isSign {a : Nat → Nat} (p1 : Int32) {σ : z_M} {u : Int32 × z_M} (h : f12_isSign p1 σ = some u) : z_Mt yX12_isSign (z_w yX12_isSign cX12_isSign 2 (some .boolean)) 1 S2 a σ [.ref (a 0), .int p1] (z_oi u) := by
  refine z_head (lo := [some (.ref (a 0)), some (.int p1)]) (by decide) (Nat.le_of_ble_eq_true rfl) ?_ rfl ?_
  · intro i v hv
    exact z_loe (vs := [.ref (a 0), .int p1]) (n := 0) rfl (by simp [z_c1i, z_c1r]) i v hv
  · intro X hXa C
    subst hXa
    unfold f12_isSign at h
    refine z_aload_n C dX12_isSign_0 rfl rfl ?_
    refine z_geti (k := 17) C z_CF12 (by decide) flX12_176 rfl rfl dX12_isSign_1 ?_
    refine z_iconst (v := 4) C dX12_isSign_4 (by decide) ?_
    refine z_icmp_ne (tgt := 20) C dX12_isSign_5 (by decide) (fun hc => ?_) (fun hc => ?_)
    · replace h := z_neg hc h
      refine z_kill (lo' := [none, none]) [0, 1] rfl ?_
      exact t12_isSign_J20 C σ h
    · replace h := z_pos hc h
      refine z_aload_n C dX12_isSign_8 rfl rfl ?_
      refine z_geti (k := 18) C z_CF12 (by decide) flX12_179 rfl rfl dX12_isSign_9 ?_
      refine z_iload_n C dX12_isSign_12 rfl rfl ?_
      refine z_icmp_ne (tgt := 20) C dX12_isSign_13 (by decide) (fun hc => ?_) (fun hc => ?_)
      · replace h := z_neg hc h
        refine z_kill (lo' := [none, none]) [0, 1] rfl ?_
        exact t12_isSign_J20 C σ h
      · replace h := z_pos hc h
        refine z_iconst (v := 1) C dX12_isSign_16 (by decide) ?_
        refine z_goto (tgt := 21) C dX12_isSign_17 (by decide) ?_
        exact z_zret C (by decide) h dX12_isSign_21
set_option maxHeartbeats 4000000 in
set_option maxRecDepth 100000 in
theorem t12_emits {a : Nat → Nat} (p1 : Int32) (p2 : Int32) {σ : z_M} {u : Unit × z_M} (h : f12_emits p1 p2 σ = some u) : z_Mt yX12_emits (z_w yX12_emits cX12_emits 3 none) 1 S2 a σ [.ref (a 0), .int p1, .int p2] (z_ov u) := by
  refine z_head (lo := [some (.ref (a 0)), some (.int p1), some (.int p2)]) (by decide) (Nat.le_of_ble_eq_true rfl) ?_ rfl ?_
  · intro i v hv
    exact z_loe (vs := [.ref (a 0), .int p1, .int p2]) (n := 0) rfl (by simp [z_c1i, z_c1r]) i v hv
  · intro X hXa C
    subst hXa
    unfold f12_emits at h
    refine z_aload_n C dX12_emits_0 rfl rfl ?_
    refine z_geta (k := 25) (q := 14) C z_CF12 (by decide) flX12_49 rfl rfl dX12_emits_1 ?_
    refine z_sipush (v := 800) C dX12_emits_4 (by decide) ?_
    refine z_aload_n C dX12_emits_7 rfl rfl ?_
    refine z_geti (k := 28) C z_CF12 (by decide) flX12_200 rfl rfl dX12_emits_8 ?_
    refine z_iadd C dX12_emits_11 ?_
    refine z_iload_n C dX12_emits_12 rfl rfl ?_
    obtain ⟨b1, h⟩ := z_chk_some h
    obtain ⟨σ2, eσ2, h⟩ := z_let_some h
    refine z_iast C rfl rfl b1 eσ2 dX12_emits_13 ?_
    refine z_aload_n C dX12_emits_14 rfl rfl ?_
    refine z_geta (k := 26) (q := 15) C z_CF12 (by decide) flX12_52 rfl rfl dX12_emits_15 ?_
    refine z_sipush (v := 800) C dX12_emits_18 (by decide) ?_
    refine z_aload_n C dX12_emits_21 rfl rfl ?_
    refine z_geti (k := 28) C z_CF12 (by decide) flX12_200 rfl rfl dX12_emits_22 ?_
    refine z_iadd C dX12_emits_25 ?_
    refine z_iload_n C dX12_emits_26 rfl rfl ?_
    obtain ⟨b3, h⟩ := z_chk_some h
    obtain ⟨σ4, eσ4, h⟩ := z_let_some h
    refine z_iast C rfl rfl b3 eσ4 dX12_emits_27 ?_
    refine z_aload_n C dX12_emits_28 rfl rfl ?_
    refine z_aload_n C dX12_emits_29 rfl rfl ?_
    refine z_geti (k := 28) C z_CF12 (by decide) flX12_200 rfl rfl dX12_emits_30 ?_
    refine z_iconst (v := 1) C dX12_emits_33 (by decide) ?_
    refine z_iadd C dX12_emits_34 ?_
    obtain ⟨σ5, eσ5, h⟩ := z_let_some h
    refine z_puti (k := 28) C z_CF12 (by decide) flX12_200 rfl rfl rfl rfl eσ5 dX12_emits_35 ?_
    exact z_vret C h dX12_emits_38
set_option maxHeartbeats 4000000 in
set_option maxRecDepth 100000 in
theorem t12_canAsk {a : Nat → Nat} (p1 : Int32) {σ : z_M} {u : Int32 × z_M} (h : f12_canAsk p1 σ = some u) : z_Mt yX12_canAsk (z_w yX12_canAsk cX12_canAsk 2 (some .boolean)) 2 S2 a σ [.ref (a 0), .int p1] (z_oi u) := by
  refine z_head (lo := [some (.ref (a 0)), some (.int p1)]) (by decide) (Nat.le_of_ble_eq_true rfl) ?_ rfl ?_
  · intro i v hv
    exact z_loe (vs := [.ref (a 0), .int p1]) (n := 0) rfl (by simp [z_c1i, z_c1r]) i v hv
  · intro X hXa C
    subst hXa
    unfold f12_canAsk at h
    refine z_aload_n C dX12_canAsk_0 rfl rfl ?_
    refine z_iload_n C dX12_canAsk_1 rfl rfl ?_
    refine z_bipush (v := 7) C dX12_canAsk_2 (by decide) ?_
    refine z_bipush (v := 14) C dX12_canAsk_4 (by decide) ?_
    obtain ⟨r1, σ2, mσ2, h⟩ := z_bnd2 h
    refine z_cvi (As := [.int p1, .int 7, .int 14]) (c := 0) (st := []) C (t12_isIn p1 7 14 mσ2) kvX12_isIn rfl mlX12_142 z_CF12 rfl rfl (by decide) rfl (Nat.le_of_ble_eq_true rfl) dX12_canAsk_6 ?_
    obtain ⟨b3, h⟩ := z_chk_some h
    exact z_zret C b3 h dX12_canAsk_9
set_option maxHeartbeats 4000000 in
set_option maxRecDepth 100000 in
theorem t12_readUnit_J71 {X : z_Ct} (C : z_Cx S2 X RX12 cX12_readUnit 2 4 (some .int)) {u : Int32 × z_M} (s1 : Int32) (s2 : Int32) (σ : z_M) (h : f12_readUnit_J71 s1 s2 σ = some u) : z_W S2 X 71 [some (.ref (z_a X 0)), none] [.int s2, .int s1, .ref (z_a X 0)] σ (z_oi u) := by
  unfold f12_readUnit_J71 at h
  obtain ⟨⟨⟩, σ2, mσ2, h⟩ := z_bnd2 h
  refine z_cvv (As := [.int s1, .int s2]) (c := 0) (st := []) C (t12_emits s1 s2 mσ2) kvX12_emits rfl mlX12_209 z_CF12 rfl rfl (by decide) rfl (Nat.le_of_ble_eq_true rfl) dX12_readUnit_71 ?_
  refine z_aload_n C dX12_readUnit_74 rfl rfl ?_
  obtain ⟨⟨⟩, σ4, mσ4, h⟩ := z_bnd2 h
  refine z_cvv (As := []) (c := 0) (st := []) C (t12_reads mσ4) kvX12_reads rfl mlX12_213 z_CF12 rfl rfl (by decide) rfl (Nat.le_of_ble_eq_true rfl) dX12_readUnit_75 ?_
  refine z_iconst (v := 0) C dX12_readUnit_78 (by decide) ?_
  exact z_iret C h dX12_readUnit_79
set_option maxHeartbeats 4000000 in
set_option maxRecDepth 100000 in
theorem t12_readUnit_J53 {X : z_Ct} (C : z_Cx S2 X RX12 cX12_readUnit 2 4 (some .int)) {u : Int32 × z_M} (v1 : Int32) (s1 : Int32) (σ : z_M) (h : f12_readUnit_J53 v1 s1 σ = some u) : z_W S2 X 53 [some (.ref (z_a X 0)), some (.int v1)] [.int s1, .ref (z_a X 0)] σ (z_oi u) := by
  unfold f12_readUnit_J53 at h
  refine z_iload_n C dX12_readUnit_53 rfl rfl ?_
  refine z_if_eq (tgt := 67) C dX12_readUnit_54 (by decide) (fun hc => ?_) (fun hc => ?_)
  · replace h := z_pos hc h
    refine z_aload_n C dX12_readUnit_67 rfl rfl ?_
    refine z_geti (k := 18) C z_CF12 (by decide) flX12_179 rfl rfl dX12_readUnit_68 ?_
    refine z_kill (lo' := [some (.ref (z_a X 0)), none]) [1] rfl ?_
    exact t12_readUnit_J71 C s1 (σ 0 18) σ h
  · replace h := z_neg hc h
    refine z_aload_n C dX12_readUnit_57 rfl rfl ?_
    refine z_geti (k := 18) C z_CF12 (by decide) flX12_179 rfl rfl dX12_readUnit_58 ?_
    refine z_bipush (v := 7) C dX12_readUnit_61 (by decide) ?_
    refine z_isub C dX12_readUnit_63 ?_
    refine z_goto (tgt := 71) C dX12_readUnit_64 (by decide) ?_
    refine z_kill (lo' := [some (.ref (z_a X 0)), none]) [1] rfl ?_
    exact t12_readUnit_J71 C s1 ((σ 0 18) - 7) σ h
set_option maxHeartbeats 4000000 in
set_option maxRecDepth 100000 in
theorem t12_readUnit_J43 {X : z_Ct} (C : z_Cx S2 X RX12 cX12_readUnit 2 4 (some .int)) {u : Int32 × z_M} (v1 : Int32) (σ : z_M) (h : f12_readUnit_J43 v1 σ = some u) : z_W S2 X 43 [some (.ref (z_a X 0)), some (.int v1)] [] σ (z_oi u) := by
  unfold f12_readUnit_J43 at h
  refine z_aload_n C dX12_readUnit_43 rfl rfl ?_
  refine z_iload_n C dX12_readUnit_44 rfl rfl ?_
  refine z_if_eq (tgt := 52) C dX12_readUnit_45 (by decide) (fun hc => ?_) (fun hc => ?_)
  · replace h := z_pos hc h
    refine z_iconst (v := 0) C dX12_readUnit_52 (by decide) ?_
    exact t12_readUnit_J53 C v1 0 σ h
  · replace h := z_neg hc h
    refine z_iconst (v := 1) C dX12_readUnit_48 (by decide) ?_
    refine z_goto (tgt := 53) C dX12_readUnit_49 (by decide) ?_
    exact t12_readUnit_J53 C v1 1 σ h
set_option maxHeartbeats 4000000 in
set_option maxRecDepth 100000 in
theorem t12_readUnit_J24 {X : z_Ct} (C : z_Cx S2 X RX12 cX12_readUnit 2 4 (some .int)) {u : Int32 × z_M} (s0 : Int32) (σ : z_M) (h : f12_readUnit_J24 s0 σ = some u) : z_W S2 X 24 [some (.ref (z_a X 0)), none] [.int s0] σ (z_oi u) := by
  unfold f12_readUnit_J24 at h
  refine z_istore_n (lo' := [some (.ref (z_a X 0)), some (.int s0)]) C dX12_readUnit_24 rfl (Nat.le_of_ble_eq_true rfl) rfl ?_
  refine z_iload_n C dX12_readUnit_25 rfl rfl ?_
  refine z_if_ne (tgt := 43) C dX12_readUnit_26 (by decide) (fun hc => ?_) (fun hc => ?_)
  · replace h := z_neg hc h
    exact t12_readUnit_J43 C s0 σ h
  · replace h := z_pos hc h
    refine z_aload_n C dX12_readUnit_29 rfl rfl ?_
    refine z_geti (k := 17) C z_CF12 (by decide) flX12_176 rfl rfl dX12_readUnit_30 ?_
    refine z_iconst (v := 3) C dX12_readUnit_33 (by decide) ?_
    refine z_icmp_eq (tgt := 43) C dX12_readUnit_34 (by decide) (fun hc => ?_) (fun hc => ?_)
    · replace h := z_pos hc h
      exact t12_readUnit_J43 C s0 σ h
    · replace h := z_neg hc h
      refine z_aload_n C dX12_readUnit_37 rfl rfl ?_
      refine z_iconst (v := 1) C dX12_readUnit_38 (by decide) ?_
      obtain ⟨r1, σ2, mσ2, h⟩ := z_bnd2 h
      refine z_cvi (As := [.int 1]) (c := 0) (st := []) C (t12_errs 1 mσ2) kvX12_errs rfl mlX12_206 z_CF12 rfl rfl (by decide) rfl (Nat.le_of_ble_eq_true rfl) dX12_readUnit_39 ?_
      exact z_iret C h dX12_readUnit_42
set_option maxHeartbeats 4000000 in
set_option maxRecDepth 100000 in
theorem t12_readUnit_J23 {X : z_Ct} (C : z_Cx S2 X RX12 cX12_readUnit 2 4 (some .int)) {u : Int32 × z_M} (σ : z_M) (h : f12_readUnit_J23 σ = some u) : z_W S2 X 23 [some (.ref (z_a X 0)), none] [] σ (z_oi u) := by
  unfold f12_readUnit_J23 at h
  refine z_iconst (v := 0) C dX12_readUnit_23 (by decide) ?_
  exact t12_readUnit_J24 C 0 σ h
set_option maxHeartbeats 4000000 in
set_option maxRecDepth 100000 in
theorem t12_readUnit {a : Nat → Nat} {σ : z_M} {u : Int32 × z_M} (h : f12_readUnit σ = some u) : z_Mt yX12_readUnit (z_w yX12_readUnit cX12_readUnit 2 (some .int)) 4 S2 a σ [.ref (a 0)] (z_oi u) := by
  refine z_head (lo := [some (.ref (a 0)), none]) (by decide) (Nat.le_of_ble_eq_true rfl) ?_ rfl ?_
  · intro i v hv
    exact z_loe (vs := [.ref (a 0)]) (n := 1) rfl (by simp [z_c1i, z_c1r]) i v hv
  · intro X hXa C
    subst hXa
    unfold f12_readUnit at h
    refine z_aload_n C dX12_readUnit_0 rfl rfl ?_
    refine z_geti (k := 17) C z_CF12 (by decide) flX12_176 rfl rfl dX12_readUnit_1 ?_
    refine z_iconst (v := 2) C dX12_readUnit_4 (by decide) ?_
    refine z_icmp_ne (tgt := 23) C dX12_readUnit_5 (by decide) (fun hc => ?_) (fun hc => ?_)
    · replace h := z_neg hc h
      exact t12_readUnit_J23 C σ h
    · replace h := z_pos hc h
      refine z_aload_n C dX12_readUnit_8 rfl rfl ?_
      refine z_aload_n C dX12_readUnit_9 rfl rfl ?_
      refine z_geti (k := 18) C z_CF12 (by decide) flX12_179 rfl rfl dX12_readUnit_10 ?_
      obtain ⟨r1, σ2, mσ2, h⟩ := z_bnd2 h
      refine z_cvi (As := [.int (σ 0 18)]) (c := 0) (st := []) C (t12_canAsk (σ 0 18) mσ2) kvX12_canAsk rfl mlX12_203 z_CF12 rfl rfl (by decide) rfl (Nat.le_of_ble_eq_true rfl) dX12_readUnit_13 ?_
      refine z_if_eq (tgt := 23) C dX12_readUnit_16 (by decide) (fun hc => ?_) (fun hc => ?_)
      · replace h := z_pos hc h
        exact t12_readUnit_J23 C σ2 h
      · replace h := z_neg hc h
        refine z_iconst (v := 1) C dX12_readUnit_19 (by decide) ?_
        refine z_goto (tgt := 24) C dX12_readUnit_20 (by decide) ?_
        exact t12_readUnit_J24 C 1 σ2 h
set_option maxHeartbeats 4000000 in
set_option maxRecDepth 100000 in
theorem t12_readProduct_J68 {X : z_Ct} (C : z_Cx S2 X RX12 cX12_readProduct 2 5 (some .int)) {u : Int32 × z_M} (σ : z_M) (h : f12_readProduct_J68 σ = some u) : z_W S2 X 68 [some (.ref (z_a X 0)), none] [] σ (z_oi u) := by
  unfold f12_readProduct_J68 at h
  refine z_aload_n C dX12_readProduct_68 rfl rfl ?_
  refine z_iconst (v := 2) C dX12_readProduct_69 (by decide) ?_
  obtain ⟨r1, σ2, mσ2, h⟩ := z_bnd2 h
  refine z_cvi (As := [.int 2]) (c := 0) (st := []) C (t12_errs 2 mσ2) kvX12_errs rfl mlX12_206 z_CF12 rfl rfl (by decide) rfl (Nat.le_of_ble_eq_true rfl) dX12_readProduct_70 ?_
  exact z_iret C h dX12_readProduct_73
set_option maxHeartbeats 4000000 in
set_option maxRecDepth 100000 in
theorem t12_readProduct_J94 {X : z_Ct} (C : z_Cx S2 X RX12 cX12_readProduct 2 5 (some .int)) {u : Int32 × z_M} {k10 : z_M → Option (Int32 × z_M)} (hr10 : ∀ (σ : z_M), k10 σ = some u → z_W S2 X 10 [some (.ref (z_a X 0)), none] [] σ (z_oi u)) (s1 : Int32) (σ : z_M) (h : f12_readProduct_J94 k10 s1 σ = some u) : z_W S2 X 94 [some (.ref (z_a X 0)), none] [.int s1, .ref (z_a X 0)] σ (z_oi u) := by
  unfold f12_readProduct_J94 at h
  refine z_iconst (v := 0) C dX12_readProduct_94 (by decide) ?_
  obtain ⟨⟨⟩, σ2, mσ2, h⟩ := z_bnd2 h
  refine z_cvv (As := [.int s1, .int 0]) (c := 0) (st := []) C (t12_emits s1 0 mσ2) kvX12_emits rfl mlX12_209 z_CF12 rfl rfl (by decide) rfl (Nat.le_of_ble_eq_true rfl) dX12_readProduct_95 ?_
  refine z_goto (tgt := 10) C dX12_readProduct_98 (by decide) ?_
  exact hr10 σ2 h
set_option maxHeartbeats 4000000 in
set_option maxRecDepth 100000 in
theorem t12_readProduct_J74 {X : z_Ct} (C : z_Cx S2 X RX12 cX12_readProduct 2 5 (some .int)) {u : Int32 × z_M} {k10 : z_M → Option (Int32 × z_M)} (hr10 : ∀ (σ : z_M), k10 σ = some u → z_W S2 X 10 [some (.ref (z_a X 0)), none] [] σ (z_oi u)) (v1 : Int32) (σ : z_M) (h : f12_readProduct_J74 k10 v1 σ = some u) : z_W S2 X 74 [some (.ref (z_a X 0)), some (.int v1)] [] σ (z_oi u) := by
  unfold f12_readProduct_J74 at h
  refine z_aload_n C dX12_readProduct_74 rfl rfl ?_
  obtain ⟨r1, σ2, mσ2, h⟩ := z_bnd2 h
  refine z_cvi (As := []) (c := 0) (st := []) C (t12_readUnit mσ2) kvX12_readUnit rfl mlX12_216 z_CF12 rfl rfl (by decide) rfl (Nat.le_of_ble_eq_true rfl) dX12_readProduct_75 ?_
  refine z_iconst (v := (-1)) C dX12_readProduct_78 (by decide) ?_
  refine z_icmp_ne (tgt := 84) C dX12_readProduct_79 (by decide) (fun hc => ?_) (fun hc => ?_)
  · replace h := z_neg hc h
    refine z_aload_n C dX12_readProduct_84 rfl rfl ?_
    refine z_iload_n C dX12_readProduct_85 rfl rfl ?_
    refine z_if_eq (tgt := 93) C dX12_readProduct_86 (by decide) (fun hc => ?_) (fun hc => ?_)
    · replace h := z_pos hc h
      refine z_iconst (v := 5) C dX12_readProduct_93 (by decide) ?_
      refine z_kill (lo' := [some (.ref (z_a X 0)), none]) [1] rfl ?_
      exact t12_readProduct_J94 C hr10 5 σ2 h
    · replace h := z_neg hc h
      refine z_iconst (v := 4) C dX12_readProduct_89 (by decide) ?_
      refine z_goto (tgt := 94) C dX12_readProduct_90 (by decide) ?_
      refine z_kill (lo' := [some (.ref (z_a X 0)), none]) [1] rfl ?_
      exact t12_readProduct_J94 C hr10 4 σ2 h
  · replace h := z_pos hc h
    refine z_iconst (v := (-1)) C dX12_readProduct_82 (by decide) ?_
    exact z_iret C h dX12_readProduct_83
set_option maxHeartbeats 4000000 in
set_option maxRecDepth 100000 in
theorem t12_readProduct_J57 {X : z_Ct} (C : z_Cx S2 X RX12 cX12_readProduct 2 5 (some .int)) {u : Int32 × z_M} {k10 : z_M → Option (Int32 × z_M)} (hr10 : ∀ (σ : z_M), k10 σ = some u → z_W S2 X 10 [some (.ref (z_a X 0)), none] [] σ (z_oi u)) (v1 : Int32) (σ : z_M) (h : f12_readProduct_J57 k10 v1 σ = some u) : z_W S2 X 57 [some (.ref (z_a X 0)), some (.int v1)] [] σ (z_oi u) := by
  unfold f12_readProduct_J57 at h
  refine z_iload_n C dX12_readProduct_57 rfl rfl ?_
  refine z_if_ne (tgt := 74) C dX12_readProduct_58 (by decide) (fun hc => ?_) (fun hc => ?_)
  · replace h := z_neg hc h
    exact t12_readProduct_J74 C hr10 v1 σ h
  · replace h := z_pos hc h
    refine z_aload_n C dX12_readProduct_61 rfl rfl ?_
    refine z_geti (k := 18) C z_CF12 (by decide) flX12_179 rfl rfl dX12_readProduct_62 ?_
    refine z_if_ne (tgt := 74) C dX12_readProduct_65 (by decide) (fun hc => ?_) (fun hc => ?_)
    · replace h := z_neg hc h
      exact t12_readProduct_J74 C hr10 v1 σ h
    · replace h := z_pos hc h
      refine z_kill (lo' := [some (.ref (z_a X 0)), none]) [1] rfl ?_
      exact t12_readProduct_J68 C σ h
set_option maxHeartbeats 4000000 in
set_option maxRecDepth 100000 in
theorem t12_readProduct_J51 {X : z_Ct} (C : z_Cx S2 X RX12 cX12_readProduct 2 5 (some .int)) {u : Int32 × z_M} (σ : z_M) (h : f12_readProduct_J51 σ = some u) : z_W S2 X 51 [some (.ref (z_a X 0)), none] [] σ (z_oi u) := by
  unfold f12_readProduct_J51 at h
  refine z_aload_n C dX12_readProduct_51 rfl rfl ?_
  refine z_iconst (v := 1) C dX12_readProduct_52 (by decide) ?_
  obtain ⟨r1, σ2, mσ2, h⟩ := z_bnd2 h
  refine z_cvi (As := [.int 1]) (c := 0) (st := []) C (t12_errs 1 mσ2) kvX12_errs rfl mlX12_206 z_CF12 rfl rfl (by decide) rfl (Nat.le_of_ble_eq_true rfl) dX12_readProduct_53 ?_
  exact z_iret C h dX12_readProduct_56
set_option maxHeartbeats 4000000 in
set_option maxRecDepth 100000 in
theorem t12_readProduct_J28 {X : z_Ct} (C : z_Cx S2 X RX12 cX12_readProduct 2 5 (some .int)) {u : Int32 × z_M} {k10 : z_M → Option (Int32 × z_M)} (hr10 : ∀ (σ : z_M), k10 σ = some u → z_W S2 X 10 [some (.ref (z_a X 0)), none] [] σ (z_oi u)) (σ : z_M) (h : f12_readProduct_J28 k10 σ = some u) : z_W S2 X 28 [some (.ref (z_a X 0)), none] [] σ (z_oi u) := by
  unfold f12_readProduct_J28 at h
  refine z_aload_n C dX12_readProduct_28 rfl rfl ?_
  refine z_bipush (v := 42) C dX12_readProduct_29 (by decide) ?_
  obtain ⟨r1, σ2, mσ2, h⟩ := z_bnd2 h
  refine z_cvi (As := [.int 42]) (c := 0) (st := []) C (t12_isSign 42 mσ2) kvX12_isSign rfl mlX12_220 z_CF12 rfl rfl (by decide) rfl (Nat.le_of_ble_eq_true rfl) dX12_readProduct_31 ?_
  refine z_istore_n (lo' := [some (.ref (z_a X 0)), some (.int r1)]) C dX12_readProduct_34 rfl (Nat.le_of_ble_eq_true rfl) rfl ?_
  refine z_aload_n C dX12_readProduct_35 rfl rfl ?_
  obtain ⟨⟨⟩, σ4, mσ4, h⟩ := z_bnd2 h
  refine z_cvv (As := []) (c := 0) (st := []) C (t12_reads mσ4) kvX12_reads rfl mlX12_213 z_CF12 rfl rfl (by decide) rfl (Nat.le_of_ble_eq_true rfl) dX12_readProduct_36 ?_
  refine z_iload_n C dX12_readProduct_39 rfl rfl ?_
  refine z_if_ne (tgt := 57) C dX12_readProduct_40 (by decide) (fun hc => ?_) (fun hc => ?_)
  · replace h := z_neg hc h
    exact t12_readProduct_J57 C hr10 r1 σ4 h
  · replace h := z_pos hc h
    refine z_aload_n C dX12_readProduct_43 rfl rfl ?_
    refine z_geti (k := 17) C z_CF12 (by decide) flX12_176 rfl rfl dX12_readProduct_44 ?_
    refine z_iconst (v := 3) C dX12_readProduct_47 (by decide) ?_
    refine z_icmp_eq (tgt := 57) C dX12_readProduct_48 (by decide) (fun hc => ?_) (fun hc => ?_)
    · replace h := z_pos hc h
      exact t12_readProduct_J57 C hr10 r1 σ4 h
    · replace h := z_neg hc h
      refine z_kill (lo' := [some (.ref (z_a X 0)), none]) [1] rfl ?_
      exact t12_readProduct_J51 C σ4 h
set_option maxHeartbeats 4000000 in
set_option maxRecDepth 100000 in
theorem t12_readProduct_L10 {X : z_Ct} (C : z_Cx S2 X RX12 cX12_readProduct 2 5 (some .int)) {u : Int32 × z_M} : ∀ (n : Nat) (σ : z_M), f12_readProduct_L10 n σ = some u → z_W S2 X 10 [some (.ref (z_a X 0)), none] [] σ (z_oi u) := by
  intro n
  induction n with
  | zero => intro σ h; rw [f12_readProduct_L10] at h; cases h
  | succ n ih =>
    intro σ h
    rw [f12_readProduct_L10] at h
    refine z_aload_n C dX12_readProduct_10 rfl rfl ?_
    refine z_bipush (v := 42) C dX12_readProduct_11 (by decide) ?_
    obtain ⟨r1, σ2, mσ2, h⟩ := z_bnd2 h
    refine z_cvi (As := [.int 42]) (c := 0) (st := []) C (t12_isSign 42 mσ2) kvX12_isSign rfl mlX12_220 z_CF12 rfl rfl (by decide) rfl (Nat.le_of_ble_eq_true rfl) dX12_readProduct_13 ?_
    refine z_if_ne (tgt := 28) C dX12_readProduct_16 (by decide) (fun hc => ?_) (fun hc => ?_)
    · replace h := z_neg hc h
      exact t12_readProduct_J28 C ih σ2 h
    · replace h := z_pos hc h
      refine z_aload_n C dX12_readProduct_19 rfl rfl ?_
      refine z_bipush (v := 47) C dX12_readProduct_20 (by decide) ?_
      obtain ⟨r3, σ4, mσ4, h⟩ := z_bnd2 h
      refine z_cvi (As := [.int 47]) (c := 0) (st := []) C (t12_isSign 47 mσ4) kvX12_isSign rfl mlX12_220 z_CF12 rfl rfl (by decide) rfl (Nat.le_of_ble_eq_true rfl) dX12_readProduct_22 ?_
      refine z_if_eq (tgt := 101) C dX12_readProduct_25 (by decide) (fun hc => ?_) (fun hc => ?_)
      · replace h := z_pos hc h
        refine z_iconst (v := 0) C dX12_readProduct_101 (by decide) ?_
        exact z_iret C h dX12_readProduct_102
      · replace h := z_neg hc h
        exact t12_readProduct_J28 C ih σ4 h
set_option maxHeartbeats 4000000 in
set_option maxRecDepth 100000 in
theorem t12_readProduct {a : Nat → Nat} {σ : z_M} {u : Int32 × z_M} (h : f12_readProduct σ = some u) : z_Mt yX12_readProduct (z_w yX12_readProduct cX12_readProduct 2 (some .int)) 5 S2 a σ [.ref (a 0)] (z_oi u) := by
  refine z_head (lo := [some (.ref (a 0)), none]) (by decide) (Nat.le_of_ble_eq_true rfl) ?_ rfl ?_
  · intro i v hv
    exact z_loe (vs := [.ref (a 0)]) (n := 1) rfl (by simp [z_c1i, z_c1r]) i v hv
  · intro X hXa C
    subst hXa
    unfold f12_readProduct at h
    refine z_aload_n C dX12_readProduct_0 rfl rfl ?_
    obtain ⟨r1, σ2, mσ2, h⟩ := z_bnd2 h
    refine z_cvi (As := []) (c := 0) (st := []) C (t12_readUnit mσ2) kvX12_readUnit rfl mlX12_216 z_CF12 rfl rfl (by decide) rfl (Nat.le_of_ble_eq_true rfl) dX12_readProduct_1 ?_
    refine z_iconst (v := (-1)) C dX12_readProduct_4 (by decide) ?_
    refine z_icmp_ne (tgt := 10) C dX12_readProduct_5 (by decide) (fun hc => ?_) (fun hc => ?_)
    · replace h := z_neg hc h
      exact t12_readProduct_L10 C _ σ2 h
    · replace h := z_pos hc h
      refine z_iconst (v := (-1)) C dX12_readProduct_8 (by decide) ?_
      exact z_iret C h dX12_readProduct_9
set_option maxHeartbeats 4000000 in
set_option maxRecDepth 100000 in
theorem t12_readSum_J42 {X : z_Ct} (C : z_Cx S2 X RX12 cX12_readSum 2 6 (some .int)) {u : Int32 × z_M} {k10 : z_M → Option (Int32 × z_M)} (hr10 : ∀ (σ : z_M), k10 σ = some u → z_W S2 X 10 [some (.ref (z_a X 0)), none] [] σ (z_oi u)) (s0 : Int32) (σ : z_M) (h : f12_readSum_J42 k10 s0 σ = some u) : z_W S2 X 42 [some (.ref (z_a X 0)), none] [.int s0] σ (z_oi u) := by
  unfold f12_readSum_J42 at h
  refine z_istore_n (lo' := [some (.ref (z_a X 0)), some (.int s0)]) C dX12_readSum_42 rfl (Nat.le_of_ble_eq_true rfl) rfl ?_
  refine z_aload_n C dX12_readSum_43 rfl rfl ?_
  obtain ⟨⟨⟩, σ2, mσ2, h⟩ := z_bnd2 h
  refine z_cvv (As := []) (c := 0) (st := []) C (t12_reads mσ2) kvX12_reads rfl mlX12_213 z_CF12 rfl rfl (by decide) rfl (Nat.le_of_ble_eq_true rfl) dX12_readSum_44 ?_
  refine z_aload_n C dX12_readSum_47 rfl rfl ?_
  obtain ⟨r3, σ4, mσ4, h⟩ := z_bnd2 h
  refine z_cvi (As := []) (c := 0) (st := []) C (t12_readProduct mσ4) kvX12_readProduct rfl mlX12_223 z_CF12 rfl rfl (by decide) rfl (Nat.le_of_ble_eq_true rfl) dX12_readSum_48 ?_
  refine z_iconst (v := (-1)) C dX12_readSum_51 (by decide) ?_
  refine z_icmp_ne (tgt := 57) C dX12_readSum_52 (by decide) (fun hc => ?_) (fun hc => ?_)
  · replace h := z_neg hc h
    refine z_aload_n C dX12_readSum_57 rfl rfl ?_
    refine z_iload_n C dX12_readSum_58 rfl rfl ?_
    refine z_iconst (v := 0) C dX12_readSum_59 (by decide) ?_
    obtain ⟨⟨⟩, σ6, mσ6, h⟩ := z_bnd2 h
    refine z_cvv (As := [.int s0, .int 0]) (c := 0) (st := []) C (t12_emits s0 0 mσ6) kvX12_emits rfl mlX12_209 z_CF12 rfl rfl (by decide) rfl (Nat.le_of_ble_eq_true rfl) dX12_readSum_60 ?_
    refine z_goto (tgt := 10) C dX12_readSum_63 (by decide) ?_
    refine z_kill (lo' := [some (.ref (z_a X 0)), none]) [1] rfl ?_
    exact hr10 σ6 h
  · replace h := z_pos hc h
    refine z_iconst (v := (-1)) C dX12_readSum_55 (by decide) ?_
    exact z_iret C h dX12_readSum_56
set_option maxHeartbeats 4000000 in
set_option maxRecDepth 100000 in
theorem t12_readSum_J28 {X : z_Ct} (C : z_Cx S2 X RX12 cX12_readSum 2 6 (some .int)) {u : Int32 × z_M} {k10 : z_M → Option (Int32 × z_M)} (hr10 : ∀ (σ : z_M), k10 σ = some u → z_W S2 X 10 [some (.ref (z_a X 0)), none] [] σ (z_oi u)) (σ : z_M) (h : f12_readSum_J28 k10 σ = some u) : z_W S2 X 28 [some (.ref (z_a X 0)), none] [] σ (z_oi u) := by
  unfold f12_readSum_J28 at h
  refine z_aload_n C dX12_readSum_28 rfl rfl ?_
  refine z_geti (k := 18) C z_CF12 (by decide) flX12_179 rfl rfl dX12_readSum_29 ?_
  refine z_bipush (v := 43) C dX12_readSum_32 (by decide) ?_
  refine z_icmp_ne (tgt := 41) C dX12_readSum_34 (by decide) (fun hc => ?_) (fun hc => ?_)
  · replace h := z_neg hc h
    refine z_iconst (v := 3) C dX12_readSum_41 (by decide) ?_
    exact t12_readSum_J42 C hr10 3 σ h
  · replace h := z_pos hc h
    refine z_iconst (v := 2) C dX12_readSum_37 (by decide) ?_
    refine z_goto (tgt := 42) C dX12_readSum_38 (by decide) ?_
    exact t12_readSum_J42 C hr10 2 σ h
set_option maxHeartbeats 4000000 in
set_option maxRecDepth 100000 in
theorem t12_readSum_L10 {X : z_Ct} (C : z_Cx S2 X RX12 cX12_readSum 2 6 (some .int)) {u : Int32 × z_M} : ∀ (n : Nat) (σ : z_M), f12_readSum_L10 n σ = some u → z_W S2 X 10 [some (.ref (z_a X 0)), none] [] σ (z_oi u) := by
  intro n
  induction n with
  | zero => intro σ h; rw [f12_readSum_L10] at h; cases h
  | succ n ih =>
    intro σ h
    rw [f12_readSum_L10] at h
    refine z_aload_n C dX12_readSum_10 rfl rfl ?_
    refine z_bipush (v := 43) C dX12_readSum_11 (by decide) ?_
    obtain ⟨r1, σ2, mσ2, h⟩ := z_bnd2 h
    refine z_cvi (As := [.int 43]) (c := 0) (st := []) C (t12_isSign 43 mσ2) kvX12_isSign rfl mlX12_220 z_CF12 rfl rfl (by decide) rfl (Nat.le_of_ble_eq_true rfl) dX12_readSum_13 ?_
    refine z_if_ne (tgt := 28) C dX12_readSum_16 (by decide) (fun hc => ?_) (fun hc => ?_)
    · replace h := z_neg hc h
      exact t12_readSum_J28 C ih σ2 h
    · replace h := z_pos hc h
      refine z_aload_n C dX12_readSum_19 rfl rfl ?_
      refine z_bipush (v := 45) C dX12_readSum_20 (by decide) ?_
      obtain ⟨r3, σ4, mσ4, h⟩ := z_bnd2 h
      refine z_cvi (As := [.int 45]) (c := 0) (st := []) C (t12_isSign 45 mσ4) kvX12_isSign rfl mlX12_220 z_CF12 rfl rfl (by decide) rfl (Nat.le_of_ble_eq_true rfl) dX12_readSum_22 ?_
      refine z_if_eq (tgt := 66) C dX12_readSum_25 (by decide) (fun hc => ?_) (fun hc => ?_)
      · replace h := z_pos hc h
        refine z_iconst (v := 0) C dX12_readSum_66 (by decide) ?_
        exact z_iret C h dX12_readSum_67
      · replace h := z_neg hc h
        exact t12_readSum_J28 C ih σ4 h
set_option maxHeartbeats 4000000 in
set_option maxRecDepth 100000 in
theorem t12_readSum {a : Nat → Nat} {σ : z_M} {u : Int32 × z_M} (h : f12_readSum σ = some u) : z_Mt yX12_readSum (z_w yX12_readSum cX12_readSum 2 (some .int)) 6 S2 a σ [.ref (a 0)] (z_oi u) := by
  refine z_head (lo := [some (.ref (a 0)), none]) (by decide) (Nat.le_of_ble_eq_true rfl) ?_ rfl ?_
  · intro i v hv
    exact z_loe (vs := [.ref (a 0)]) (n := 1) rfl (by simp [z_c1i, z_c1r]) i v hv
  · intro X hXa C
    subst hXa
    unfold f12_readSum at h
    refine z_aload_n C dX12_readSum_0 rfl rfl ?_
    obtain ⟨r1, σ2, mσ2, h⟩ := z_bnd2 h
    refine z_cvi (As := []) (c := 0) (st := []) C (t12_readProduct mσ2) kvX12_readProduct rfl mlX12_223 z_CF12 rfl rfl (by decide) rfl (Nat.le_of_ble_eq_true rfl) dX12_readSum_1 ?_
    refine z_iconst (v := (-1)) C dX12_readSum_4 (by decide) ?_
    refine z_icmp_ne (tgt := 10) C dX12_readSum_5 (by decide) (fun hc => ?_) (fun hc => ?_)
    · replace h := z_neg hc h
      exact t12_readSum_L10 C _ σ2 h
    · replace h := z_pos hc h
      refine z_iconst (v := (-1)) C dX12_readSum_8 (by decide) ?_
      exact z_iret C h dX12_readSum_9
set_option maxHeartbeats 4000000 in
set_option maxRecDepth 100000 in
theorem t12_readCompared_J73 {X : z_Ct} (C : z_Cx S2 X RX12 cX12_readCompared 2 7 (some .int)) {u : Int32 × z_M} (s0 : Int32) (σ : z_M) (h : f12_readCompared_J73 s0 σ = some u) : z_W S2 X 73 [some (.ref (z_a X 0)), none] [.int s0] σ (z_oi u) := by
  unfold f12_readCompared_J73 at h
  refine z_istore_n (lo' := [some (.ref (z_a X 0)), some (.int s0)]) C dX12_readCompared_73 rfl (Nat.le_of_ble_eq_true rfl) rfl ?_
  refine z_aload_n C dX12_readCompared_74 rfl rfl ?_
  obtain ⟨⟨⟩, σ2, mσ2, h⟩ := z_bnd2 h
  refine z_cvv (As := []) (c := 0) (st := []) C (t12_reads mσ2) kvX12_reads rfl mlX12_213 z_CF12 rfl rfl (by decide) rfl (Nat.le_of_ble_eq_true rfl) dX12_readCompared_75 ?_
  refine z_aload_n C dX12_readCompared_78 rfl rfl ?_
  obtain ⟨r3, σ4, mσ4, h⟩ := z_bnd2 h
  refine z_cvi (As := []) (c := 0) (st := []) C (t12_readSum mσ4) kvX12_readSum rfl mlX12_226 z_CF12 rfl rfl (by decide) rfl (Nat.le_of_ble_eq_true rfl) dX12_readCompared_79 ?_
  refine z_iconst (v := (-1)) C dX12_readCompared_82 (by decide) ?_
  refine z_icmp_ne (tgt := 88) C dX12_readCompared_83 (by decide) (fun hc => ?_) (fun hc => ?_)
  · replace h := z_neg hc h
    refine z_aload_n C dX12_readCompared_88 rfl rfl ?_
    refine z_iload_n C dX12_readCompared_89 rfl rfl ?_
    refine z_iconst (v := 0) C dX12_readCompared_90 (by decide) ?_
    obtain ⟨⟨⟩, σ6, mσ6, h⟩ := z_bnd2 h
    refine z_cvv (As := [.int s0, .int 0]) (c := 0) (st := []) C (t12_emits s0 0 mσ6) kvX12_emits rfl mlX12_209 z_CF12 rfl rfl (by decide) rfl (Nat.le_of_ble_eq_true rfl) dX12_readCompared_91 ?_
    refine z_iconst (v := 0) C dX12_readCompared_94 (by decide) ?_
    exact z_iret C h dX12_readCompared_95
  · replace h := z_pos hc h
    refine z_iconst (v := (-1)) C dX12_readCompared_86 (by decide) ?_
    exact z_iret C h dX12_readCompared_87
set_option maxHeartbeats 4000000 in
set_option maxRecDepth 100000 in
theorem t12_readCompared_J43 {X : z_Ct} (C : z_Cx S2 X RX12 cX12_readCompared 2 7 (some .int)) {u : Int32 × z_M} (σ : z_M) (h : f12_readCompared_J43 σ = some u) : z_W S2 X 43 [some (.ref (z_a X 0)), none] [] σ (z_oi u) := by
  unfold f12_readCompared_J43 at h
  refine z_aload_n C dX12_readCompared_43 rfl rfl ?_
  refine z_geti (k := 18) C z_CF12 (by decide) flX12_179 rfl rfl dX12_readCompared_44 ?_
  refine z_bipush (v := 60) C dX12_readCompared_47 (by decide) ?_
  refine z_icmp_ne (tgt := 57) C dX12_readCompared_49 (by decide) (fun hc => ?_) (fun hc => ?_)
  · replace h := z_neg hc h
    refine z_aload_n C dX12_readCompared_57 rfl rfl ?_
    refine z_geti (k := 18) C z_CF12 (by decide) flX12_179 rfl rfl dX12_readCompared_58 ?_
    refine z_bipush (v := 61) C dX12_readCompared_61 (by decide) ?_
    refine z_icmp_ne (tgt := 71) C dX12_readCompared_63 (by decide) (fun hc => ?_) (fun hc => ?_)
    · replace h := z_neg hc h
      refine z_bipush (v := 8) C dX12_readCompared_71 (by decide) ?_
      exact t12_readCompared_J73 C 8 σ h
    · replace h := z_pos hc h
      refine z_bipush (v := 7) C dX12_readCompared_66 (by decide) ?_
      refine z_goto (tgt := 73) C dX12_readCompared_68 (by decide) ?_
      exact t12_readCompared_J73 C 7 σ h
  · replace h := z_pos hc h
    refine z_bipush (v := 6) C dX12_readCompared_52 (by decide) ?_
    refine z_goto (tgt := 73) C dX12_readCompared_54 (by decide) ?_
    exact t12_readCompared_J73 C 6 σ h
set_option maxHeartbeats 4000000 in
set_option maxRecDepth 100000 in
theorem t12_readCompared {a : Nat → Nat} {σ : z_M} {u : Int32 × z_M} (h : f12_readCompared σ = some u) : z_Mt yX12_readCompared (z_w yX12_readCompared cX12_readCompared 2 (some .int)) 7 S2 a σ [.ref (a 0)] (z_oi u) := by
  refine z_head (lo := [some (.ref (a 0)), none]) (by decide) (Nat.le_of_ble_eq_true rfl) ?_ rfl ?_
  · intro i v hv
    exact z_loe (vs := [.ref (a 0)]) (n := 1) rfl (by simp [z_c1i, z_c1r]) i v hv
  · intro X hXa C
    subst hXa
    unfold f12_readCompared at h
    refine z_aload_n C dX12_readCompared_0 rfl rfl ?_
    obtain ⟨r1, σ2, mσ2, h⟩ := z_bnd2 h
    refine z_cvi (As := []) (c := 0) (st := []) C (t12_readSum mσ2) kvX12_readSum rfl mlX12_226 z_CF12 rfl rfl (by decide) rfl (Nat.le_of_ble_eq_true rfl) dX12_readCompared_1 ?_
    refine z_iconst (v := (-1)) C dX12_readCompared_4 (by decide) ?_
    refine z_icmp_ne (tgt := 10) C dX12_readCompared_5 (by decide) (fun hc => ?_) (fun hc => ?_)
    · replace h := z_neg hc h
      refine z_aload_n C dX12_readCompared_10 rfl rfl ?_
      refine z_bipush (v := 60) C dX12_readCompared_11 (by decide) ?_
      obtain ⟨r3, σ4, mσ4, h⟩ := z_bnd2 h
      refine z_cvi (As := [.int 60]) (c := 0) (st := []) C (t12_isSign 60 mσ4) kvX12_isSign rfl mlX12_220 z_CF12 rfl rfl (by decide) rfl (Nat.le_of_ble_eq_true rfl) dX12_readCompared_13 ?_
      refine z_if_ne (tgt := 43) C dX12_readCompared_16 (by decide) (fun hc => ?_) (fun hc => ?_)
      · replace h := z_neg hc h
        exact t12_readCompared_J43 C σ4 h
      · replace h := z_pos hc h
        refine z_aload_n C dX12_readCompared_19 rfl rfl ?_
        refine z_bipush (v := 61) C dX12_readCompared_20 (by decide) ?_
        obtain ⟨r5, σ6, mσ6, h⟩ := z_bnd2 h
        refine z_cvi (As := [.int 61]) (c := 0) (st := []) C (t12_isSign 61 mσ6) kvX12_isSign rfl mlX12_220 z_CF12 rfl rfl (by decide) rfl (Nat.le_of_ble_eq_true rfl) dX12_readCompared_22 ?_
        refine z_if_ne (tgt := 43) C dX12_readCompared_25 (by decide) (fun hc => ?_) (fun hc => ?_)
        · replace h := z_neg hc h
          exact t12_readCompared_J43 C σ6 h
        · replace h := z_pos hc h
          refine z_aload_n C dX12_readCompared_28 rfl rfl ?_
          refine z_bipush (v := 62) C dX12_readCompared_29 (by decide) ?_
          obtain ⟨r7, σ8, mσ8, h⟩ := z_bnd2 h
          refine z_cvi (As := [.int 62]) (c := 0) (st := []) C (t12_isSign 62 mσ8) kvX12_isSign rfl mlX12_220 z_CF12 rfl rfl (by decide) rfl (Nat.le_of_ble_eq_true rfl) dX12_readCompared_31 ?_
          refine z_if_ne (tgt := 43) C dX12_readCompared_34 (by decide) (fun hc => ?_) (fun hc => ?_)
          · replace h := z_neg hc h
            exact t12_readCompared_J43 C σ8 h
          · replace h := z_pos hc h
            refine z_aload_n C dX12_readCompared_37 rfl rfl ?_
            refine z_iconst (v := 1) C dX12_readCompared_38 (by decide) ?_
            obtain ⟨r9, σ10, mσ10, h⟩ := z_bnd2 h
            refine z_cvi (As := [.int 1]) (c := 0) (st := []) C (t12_errs 1 mσ10) kvX12_errs rfl mlX12_206 z_CF12 rfl rfl (by decide) rfl (Nat.le_of_ble_eq_true rfl) dX12_readCompared_39 ?_
            exact z_iret C h dX12_readCompared_42
    · replace h := z_pos hc h
      refine z_iconst (v := (-1)) C dX12_readCompared_8 (by decide) ?_
      exact z_iret C h dX12_readCompared_9
set_option maxHeartbeats 4000000 in
set_option maxRecDepth 100000 in
theorem t12_waits {a : Nat → Nat} (p1 : Int32) {σ : z_M} {u : Unit × z_M} (h : f12_waits p1 σ = some u) : z_Mt yX12_waits (z_w yX12_waits cX12_waits 2 none) 1 S2 a σ [.ref (a 0), .int p1] (z_ov u) := by
  refine z_head (lo := [some (.ref (a 0)), some (.int p1)]) (by decide) (Nat.le_of_ble_eq_true rfl) ?_ rfl ?_
  · intro i v hv
    exact z_loe (vs := [.ref (a 0), .int p1]) (n := 0) rfl (by simp [z_c1i, z_c1r]) i v hv
  · intro X hXa C
    subst hXa
    unfold f12_waits at h
    refine z_aload_n C dX12_waits_0 rfl rfl ?_
    refine z_geta (k := 30) (q := 16) C z_CF12 (by decide) flX12_55 rfl rfl dX12_waits_1 ?_
    refine z_aload_n C dX12_waits_4 rfl rfl ?_
    refine z_geti (k := 31) C z_CF12 (by decide) flX12_229 rfl rfl dX12_waits_5 ?_
    refine z_iload_n C dX12_waits_8 rfl rfl ?_
    obtain ⟨b1, h⟩ := z_chk_some h
    obtain ⟨σ2, eσ2, h⟩ := z_let_some h
    refine z_iast C rfl rfl b1 eσ2 dX12_waits_9 ?_
    refine z_aload_n C dX12_waits_10 rfl rfl ?_
    refine z_aload_n C dX12_waits_11 rfl rfl ?_
    refine z_geti (k := 31) C z_CF12 (by decide) flX12_229 rfl rfl dX12_waits_12 ?_
    refine z_iconst (v := 1) C dX12_waits_15 (by decide) ?_
    refine z_iadd C dX12_waits_16 ?_
    obtain ⟨σ3, eσ3, h⟩ := z_let_some h
    refine z_puti (k := 31) C z_CF12 (by decide) flX12_229 rfl rfl rfl rfl eσ3 dX12_waits_17 ?_
    exact z_vret C h dX12_waits_20
set_option maxHeartbeats 4000000 in
set_option maxRecDepth 100000 in
theorem t12_settles_L0 {X : z_Ct} (C : z_Cx S2 X RX12 cX12_settles 2 2 none) {u : Unit × z_M} : ∀ (n : Nat) (v1 : Int32) (σ : z_M), f12_settles_L0 n v1 σ = some u → z_W S2 X 0 [some (.ref (z_a X 0)), some (.int v1)] [] σ (z_ov u) := by
  intro n
  induction n with
  | zero => intro v1 σ h; rw [f12_settles_L0] at h; cases h
  | succ n ih =>
    intro v1 σ h
    rw [f12_settles_L0] at h
    refine z_aload_n C dX12_settles_0 rfl rfl ?_
    refine z_geti (k := 31) C z_CF12 (by decide) flX12_229 rfl rfl dX12_settles_1 ?_
    refine z_if_le (tgt := 57) C dX12_settles_4 (by decide) (fun hc => ?_) (fun hc => ?_)
    · replace h := z_neg hc h
      exact z_vret C h dX12_settles_57
    · replace h := z_pos hc h
      refine z_aload_n C dX12_settles_7 rfl rfl ?_
      refine z_geta (k := 30) (q := 16) C z_CF12 (by decide) flX12_55 rfl rfl dX12_settles_8 ?_
      refine z_aload_n C dX12_settles_11 rfl rfl ?_
      refine z_geti (k := 31) C z_CF12 (by decide) flX12_229 rfl rfl dX12_settles_12 ?_
      refine z_iconst (v := 1) C dX12_settles_15 (by decide) ?_
      refine z_isub C dX12_settles_16 ?_
      obtain ⟨b1, h⟩ := z_chk_some h
      refine z_iald C rfl rfl b1 dX12_settles_17 ?_
      refine z_iload_n C dX12_settles_18 rfl rfl ?_
      refine z_icmp_ne (tgt := 57) C dX12_settles_19 (by decide) (fun hc => ?_) (fun hc => ?_)
      · replace h := z_neg hc h
        exact z_vret C h dX12_settles_57
      · replace h := z_pos hc h
        refine z_aload_n C dX12_settles_22 rfl rfl ?_
        refine z_aload_n C dX12_settles_23 rfl rfl ?_
        refine z_geti (k := 31) C z_CF12 (by decide) flX12_229 rfl rfl dX12_settles_24 ?_
        refine z_iconst (v := 1) C dX12_settles_27 (by decide) ?_
        refine z_isub C dX12_settles_28 ?_
        obtain ⟨σ2, eσ2, h⟩ := z_let_some h
        refine z_puti (k := 31) C z_CF12 (by decide) flX12_229 rfl rfl rfl rfl eσ2 dX12_settles_29 ?_
        refine z_aload_n C dX12_settles_32 rfl rfl ?_
        refine z_iload_n C dX12_settles_33 rfl rfl ?_
        refine z_iconst (v := 0) C dX12_settles_34 (by decide) ?_
        obtain ⟨⟨⟩, σ4, mσ4, h⟩ := z_bnd2 h
        refine z_cvv (As := [.int v1, .int 0]) (c := 0) (st := []) C (t12_emits v1 0 mσ4) kvX12_emits rfl mlX12_209 z_CF12 rfl rfl (by decide) rfl (Nat.le_of_ble_eq_true rfl) dX12_settles_35 ?_
        refine z_iload_n C dX12_settles_38 rfl rfl ?_
        refine z_bipush (v := 9) C dX12_settles_39 (by decide) ?_
        refine z_icmp_ne (tgt := 0) C dX12_settles_41 (by decide) (fun hc => ?_) (fun hc => ?_)
        · replace h := z_neg hc h
          exact ih v1 σ4 h
        · replace h := z_pos hc h
          refine z_aload_n C dX12_settles_44 rfl rfl ?_
          refine z_aload_n C dX12_settles_45 rfl rfl ?_
          refine z_geti (k := 29) C z_CF12 (by decide) flX12_232 rfl rfl dX12_settles_46 ?_
          refine z_iconst (v := 1) C dX12_settles_49 (by decide) ?_
          refine z_isub C dX12_settles_50 ?_
          obtain ⟨σ5, eσ5, h⟩ := z_let_some h
          refine z_puti (k := 29) C z_CF12 (by decide) flX12_232 rfl rfl rfl rfl eσ5 dX12_settles_51 ?_
          refine z_goto (tgt := 0) C dX12_settles_54 (by decide) ?_
          exact ih v1 σ5 h
set_option maxHeartbeats 4000000 in
set_option maxRecDepth 100000 in
theorem t12_settles {a : Nat → Nat} (p1 : Int32) {σ : z_M} {u : Unit × z_M} (h : f12_settles p1 σ = some u) : z_Mt yX12_settles (z_w yX12_settles cX12_settles 2 none) 2 S2 a σ [.ref (a 0), .int p1] (z_ov u) := by
  refine z_head (lo := [some (.ref (a 0)), some (.int p1)]) (by decide) (Nat.le_of_ble_eq_true rfl) ?_ rfl ?_
  · intro i v hv
    exact z_loe (vs := [.ref (a 0), .int p1]) (n := 0) rfl (by simp [z_c1i, z_c1r]) i v hv
  · intro X hXa C
    subst hXa
    unfold f12_settles at h
    exact t12_settles_L0 C _ p1 σ h
set_option maxHeartbeats 4000000 in
set_option maxRecDepth 100000 in
theorem t12_readAny_J200 {X : z_Ct} (C : z_Cx S2 X RX12 cX12_readAny 4 8 (some .int)) {u : Int32 × z_M} (σ : z_M) (h : f12_readAny_J200 σ = some u) : z_W S2 X 200 [some (.ref (z_a X 0)), none, none, none] [] σ (z_oi u) := by
  unfold f12_readAny_J200 at h
  refine z_aload_n C dX12_readAny_200 rfl rfl ?_
  refine z_iconst (v := 1) C dX12_readAny_201 (by decide) ?_
  obtain ⟨r1, σ2, mσ2, h⟩ := z_bnd2 h
  refine z_cvi (As := [.int 1]) (c := 0) (st := []) C (t12_errs 1 mσ2) kvX12_errs rfl mlX12_206 z_CF12 rfl rfl (by decide) rfl (Nat.le_of_ble_eq_true rfl) dX12_readAny_202 ?_
  exact z_iret C h dX12_readAny_205
set_option maxHeartbeats 4000000 in
set_option maxRecDepth 100000 in
theorem t12_readAny_J42 {X : z_Ct} (C : z_Cx S2 X RX12 cX12_readAny 4 8 (some .int)) {u : Int32 × z_M} (σ : z_M) (h : f12_readAny_J42 σ = some u) : z_W S2 X 42 [some (.ref (z_a X 0)), none, none, none] [] σ (z_oi u) := by
  unfold f12_readAny_J42 at h
  refine z_aload_n C dX12_readAny_42 rfl rfl ?_
  refine z_iconst (v := 3) C dX12_readAny_43 (by decide) ?_
  obtain ⟨r1, σ2, mσ2, h⟩ := z_bnd2 h
  refine z_cvi (As := [.int 3]) (c := 0) (st := []) C (t12_errs 3 mσ2) kvX12_errs rfl mlX12_206 z_CF12 rfl rfl (by decide) rfl (Nat.le_of_ble_eq_true rfl) dX12_readAny_44 ?_
  exact z_iret C h dX12_readAny_47
set_option maxHeartbeats 4000000 in
set_option maxRecDepth 100000 in
theorem t12_readAny_J78 {X : z_Ct} (C : z_Cx S2 X RX12 cX12_readAny 4 8 (some .int)) {u : Int32 × z_M} {k9 : Int32 → Int32 → z_M → Option (Int32 × z_M)} (hr9 : ∀ (v1 : Int32) (v2 : Int32) (σ : z_M), k9 v1 v2 σ = some u → z_W S2 X 9 [some (.ref (z_a X 0)), some (.int v1), some (.int v2), none] [] σ (z_oi u)) (v1 : Int32) (v2 : Int32) (s1 : Int32) (σ : z_M) (h : f12_readAny_J78 k9 v1 v2 s1 σ = some u) : z_W S2 X 78 [some (.ref (z_a X 0)), some (.int v1), some (.int v2), none] [.int s1, .ref (z_a X 0)] σ (z_oi u) := by
  unfold f12_readAny_J78 at h
  obtain ⟨⟨⟩, σ2, mσ2, h⟩ := z_bnd2 h
  refine z_cvv (As := [.int s1]) (c := 0) (st := []) C (t12_waits s1 mσ2) kvX12_waits rfl mlX12_238 z_CF12 rfl rfl (by decide) rfl (Nat.le_of_ble_eq_true rfl) dX12_readAny_78 ?_
  refine z_aload_n C dX12_readAny_81 rfl rfl ?_
  obtain ⟨⟨⟩, σ4, mσ4, h⟩ := z_bnd2 h
  refine z_cvv (As := []) (c := 0) (st := []) C (t12_reads mσ4) kvX12_reads rfl mlX12_213 z_CF12 rfl rfl (by decide) rfl (Nat.le_of_ble_eq_true rfl) dX12_readAny_82 ?_
  refine z_goto (tgt := 9) C dX12_readAny_85 (by decide) ?_
  exact hr9 v1 v2 σ4 h
set_option maxHeartbeats 4000000 in
set_option maxRecDepth 100000 in
theorem t12_readAny_J66 {X : z_Ct} (C : z_Cx S2 X RX12 cX12_readAny 4 8 (some .int)) {u : Int32 × z_M} {k9 : Int32 → Int32 → z_M → Option (Int32 × z_M)} (hr9 : ∀ (v1 : Int32) (v2 : Int32) (σ : z_M), k9 v1 v2 σ = some u → z_W S2 X 9 [some (.ref (z_a X 0)), some (.int v1), some (.int v2), none] [] σ (z_oi u)) (v1 : Int32) (v2 : Int32) (v3 : Int32) (σ : z_M) (h : f12_readAny_J66 k9 v1 v2 v3 σ = some u) : z_W S2 X 66 [some (.ref (z_a X 0)), some (.int v1), some (.int v2), some (.int v3)] [] σ (z_oi u) := by
  unfold f12_readAny_J66 at h
  refine z_aload_n C dX12_readAny_66 rfl rfl ?_
  refine z_iload_n C dX12_readAny_67 rfl rfl ?_
  refine z_if_eq (tgt := 76) C dX12_readAny_68 (by decide) (fun hc => ?_) (fun hc => ?_)
  · replace h := z_pos hc h
    refine z_bipush (v := 12) C dX12_readAny_76 (by decide) ?_
    refine z_kill (lo' := [some (.ref (z_a X 0)), some (.int v1), some (.int v2), none]) [3] rfl ?_
    exact t12_readAny_J78 C hr9 v1 v2 12 σ h
  · replace h := z_neg hc h
    refine z_bipush (v := 9) C dX12_readAny_71 (by decide) ?_
    refine z_goto (tgt := 78) C dX12_readAny_73 (by decide) ?_
    refine z_kill (lo' := [some (.ref (z_a X 0)), some (.int v1), some (.int v2), none]) [3] rfl ?_
    exact t12_readAny_J78 C hr9 v1 v2 9 σ h
set_option maxHeartbeats 4000000 in
set_option maxRecDepth 100000 in
theorem t12_readAny_J33 {X : z_Ct} (C : z_Cx S2 X RX12 cX12_readAny 4 8 (some .int)) {u : Int32 × z_M} {k9 : Int32 → Int32 → z_M → Option (Int32 × z_M)} (hr9 : ∀ (v1 : Int32) (v2 : Int32) (σ : z_M), k9 v1 v2 σ = some u → z_W S2 X 9 [some (.ref (z_a X 0)), some (.int v1), some (.int v2), none] [] σ (z_oi u)) (v1 : Int32) (v2 : Int32) (v3 : Int32) (σ : z_M) (h : f12_readAny_J33 k9 v1 v2 v3 σ = some u) : z_W S2 X 33 [some (.ref (z_a X 0)), some (.int v1), some (.int v2), some (.int v3)] [] σ (z_oi u) := by
  unfold f12_readAny_J33 at h
  refine z_aload_n C dX12_readAny_33 rfl rfl ?_
  refine z_geti (k := 29) C z_CF12 (by decide) flX12_232 rfl rfl dX12_readAny_34 ?_
  refine z_bipush (v := 8) C dX12_readAny_37 (by decide) ?_
  refine z_icmp_ne (tgt := 48) C dX12_readAny_39 (by decide) (fun hc => ?_) (fun hc => ?_)
  · replace h := z_neg hc h
    refine z_aload_n C dX12_readAny_48 rfl rfl ?_
    refine z_aload_n C dX12_readAny_49 rfl rfl ?_
    refine z_geti (k := 29) C z_CF12 (by decide) flX12_232 rfl rfl dX12_readAny_50 ?_
    refine z_iconst (v := 1) C dX12_readAny_53 (by decide) ?_
    refine z_iadd C dX12_readAny_54 ?_
    obtain ⟨σ1, eσ1, h⟩ := z_let_some h
    refine z_puti (k := 29) C z_CF12 (by decide) flX12_232 rfl rfl rfl rfl eσ1 dX12_readAny_55 ?_
    refine z_iload_n C dX12_readAny_58 rfl rfl ?_
    refine z_if_ne (tgt := 66) C dX12_readAny_59 (by decide) (fun hc => ?_) (fun hc => ?_)
    · replace h := z_neg hc h
      exact t12_readAny_J66 C hr9 v1 v2 v3 σ1 h
    · replace h := z_pos hc h
      refine z_iload_n C dX12_readAny_62 rfl rfl ?_
      refine z_iconst (v := 1) C dX12_readAny_63 (by decide) ?_
      refine z_iadd C dX12_readAny_64 ?_
      refine z_istore_n (lo' := [some (.ref (z_a X 0)), some (.int (v1 + 1)), some (.int v2), some (.int v3)]) C dX12_readAny_65 rfl (Nat.le_of_ble_eq_true rfl) rfl ?_
      exact t12_readAny_J66 C hr9 (v1 + 1) v2 v3 σ1 h
  · replace h := z_pos hc h
    refine z_kill (lo' := [some (.ref (z_a X 0)), none, none, none]) [1, 2, 3] rfl ?_
    exact t12_readAny_J42 C σ h
set_option maxHeartbeats 4000000 in
set_option maxRecDepth 100000 in
theorem t12_readAny_L9 {X : z_Ct} (C : z_Cx S2 X RX12 cX12_readAny 4 8 (some .int)) {u : Int32 × z_M} : ∀ (n : Nat) (v1 : Int32) (v2 : Int32) (σ : z_M), f12_readAny_L9 n v1 v2 σ = some u → z_W S2 X 9 [some (.ref (z_a X 0)), some (.int v1), some (.int v2), none] [] σ (z_oi u) := by
  intro n
  induction n with
  | zero => intro v1 v2 σ h; rw [f12_readAny_L9] at h; cases h
  | succ n ih =>
    intro v1 v2 σ h
    rw [f12_readAny_L9] at h
    refine z_iload_n C dX12_readAny_9 rfl rfl ?_
    refine z_if_eq (tgt := 109) C dX12_readAny_10 (by decide) (fun hc => ?_) (fun hc => ?_)
    · replace h := z_pos hc h
      refine z_aload_n C dX12_readAny_109 rfl rfl ?_
      refine z_iconst (v := 5) C dX12_readAny_110 (by decide) ?_
      obtain ⟨r1, σ2, mσ2, h⟩ := z_bnd2 h
      refine z_cvi (As := [.int 5]) (c := 0) (st := []) C (t12_isWord 5 mσ2) kvX12_isWord rfl mlX12_235 z_CF12 rfl rfl (by decide) rfl (Nat.le_of_ble_eq_true rfl) dX12_readAny_111 ?_
      refine z_if_eq (tgt := 138) C dX12_readAny_114 (by decide) (fun hc => ?_) (fun hc => ?_)
      · replace h := z_pos hc h
        refine z_aload_n C dX12_readAny_138 rfl rfl ?_
        refine z_iconst (v := 4) C dX12_readAny_139 (by decide) ?_
        obtain ⟨r3, σ4, mσ4, h⟩ := z_bnd2 h
        refine z_cvi (As := [.int 4]) (c := 0) (st := []) C (t12_isWord 4 mσ4) kvX12_isWord rfl mlX12_235 z_CF12 rfl rfl (by decide) rfl (Nat.le_of_ble_eq_true rfl) dX12_readAny_140 ?_
        refine z_if_eq (tgt := 173) C dX12_readAny_143 (by decide) (fun hc => ?_) (fun hc => ?_)
        · replace h := z_pos hc h
          refine z_aload_n C dX12_readAny_173 rfl rfl ?_
          refine z_bipush (v := 10) C dX12_readAny_174 (by decide) ?_
          obtain ⟨⟨⟩, σ6, mσ6, h⟩ := z_bnd2 h
          refine z_cvv (As := [.int 10]) (c := 0) (st := []) C (t12_settles 10 mσ6) kvX12_settles rfl mlX12_244 z_CF12 rfl rfl (by decide) rfl (Nat.le_of_ble_eq_true rfl) dX12_readAny_176 ?_
          refine z_aload_n C dX12_readAny_179 rfl rfl ?_
          refine z_bipush (v := 11) C dX12_readAny_180 (by decide) ?_
          obtain ⟨⟨⟩, σ8, mσ8, h⟩ := z_bnd2 h
          refine z_cvv (As := [.int 11]) (c := 0) (st := []) C (t12_settles 11 mσ8) kvX12_settles rfl mlX12_244 z_CF12 rfl rfl (by decide) rfl (Nat.le_of_ble_eq_true rfl) dX12_readAny_182 ?_
          refine z_iload_n C dX12_readAny_185 rfl rfl ?_
          refine z_if_ne (tgt := 191) C dX12_readAny_186 (by decide) (fun hc => ?_) (fun hc => ?_)
          · replace h := z_neg hc h
            refine z_aload_n C dX12_readAny_191 rfl rfl ?_
            refine z_bipush (v := 41) C dX12_readAny_192 (by decide) ?_
            obtain ⟨r9, σ10, mσ10, h⟩ := z_bnd2 h
            refine z_cvi (As := [.int 41]) (c := 0) (st := []) C (t12_isSign 41 mσ10) kvX12_isSign rfl mlX12_220 z_CF12 rfl rfl (by decide) rfl (Nat.le_of_ble_eq_true rfl) dX12_readAny_194 ?_
            refine z_if_ne (tgt := 206) C dX12_readAny_197 (by decide) (fun hc => ?_) (fun hc => ?_)
            · replace h := z_neg hc h
              refine z_aload_n C dX12_readAny_206 rfl rfl ?_
              refine z_aload_n C dX12_readAny_207 rfl rfl ?_
              refine z_geti (k := 31) C z_CF12 (by decide) flX12_229 rfl rfl dX12_readAny_208 ?_
              refine z_iconst (v := 1) C dX12_readAny_211 (by decide) ?_
              refine z_isub C dX12_readAny_212 ?_
              obtain ⟨σ11, eσ11, h⟩ := z_let_some h
              refine z_puti (k := 31) C z_CF12 (by decide) flX12_229 rfl rfl rfl rfl eσ11 dX12_readAny_213 ?_
              refine z_iload_n C dX12_readAny_216 rfl rfl ?_
              refine z_iconst (v := 1) C dX12_readAny_217 (by decide) ?_
              refine z_isub C dX12_readAny_218 ?_
              refine z_istore_n (lo' := [some (.ref (z_a X 0)), some (.int (v1 - 1)), some (.int v2), none]) C dX12_readAny_219 rfl (Nat.le_of_ble_eq_true rfl) rfl ?_
              refine z_aload_n C dX12_readAny_220 rfl rfl ?_
              refine z_aload_n C dX12_readAny_221 rfl rfl ?_
              refine z_geti (k := 29) C z_CF12 (by decide) flX12_232 rfl rfl dX12_readAny_222 ?_
              refine z_iconst (v := 1) C dX12_readAny_225 (by decide) ?_
              refine z_isub C dX12_readAny_226 ?_
              obtain ⟨σ12, eσ12, h⟩ := z_let_some h
              refine z_puti (k := 29) C z_CF12 (by decide) flX12_232 rfl rfl rfl rfl eσ12 dX12_readAny_227 ?_
              refine z_aload_n C dX12_readAny_230 rfl rfl ?_
              refine z_bipush (v := 9) C dX12_readAny_231 (by decide) ?_
              obtain ⟨⟨⟩, σ14, mσ14, h⟩ := z_bnd2 h
              refine z_cvv (As := [.int 9]) (c := 0) (st := []) C (t12_settles 9 mσ14) kvX12_settles rfl mlX12_244 z_CF12 rfl rfl (by decide) rfl (Nat.le_of_ble_eq_true rfl) dX12_readAny_233 ?_
              refine z_aload_n C dX12_readAny_236 rfl rfl ?_
              obtain ⟨⟨⟩, σ16, mσ16, h⟩ := z_bnd2 h
              refine z_cvv (As := []) (c := 0) (st := []) C (t12_reads mσ16) kvX12_reads rfl mlX12_213 z_CF12 rfl rfl (by decide) rfl (Nat.le_of_ble_eq_true rfl) dX12_readAny_237 ?_
              refine z_goto (tgt := 9) C dX12_readAny_240 (by decide) ?_
              exact ih (v1 - 1) v2 σ16 h
            · replace h := z_pos hc h
              refine z_kill (lo' := [some (.ref (z_a X 0)), none, none, none]) [1, 2] rfl ?_
              exact t12_readAny_J200 C σ10 h
          · replace h := z_pos hc h
            refine z_iconst (v := 0) C dX12_readAny_189 (by decide) ?_
            exact z_iret C h dX12_readAny_190
        · replace h := z_neg hc h
          refine z_aload_n C dX12_readAny_146 rfl rfl ?_
          refine z_bipush (v := 10) C dX12_readAny_147 (by decide) ?_
          obtain ⟨⟨⟩, σ18, mσ18, h⟩ := z_bnd2 h
          refine z_cvv (As := [.int 10]) (c := 0) (st := []) C (t12_settles 10 mσ18) kvX12_settles rfl mlX12_244 z_CF12 rfl rfl (by decide) rfl (Nat.le_of_ble_eq_true rfl) dX12_readAny_149 ?_
          refine z_aload_n C dX12_readAny_152 rfl rfl ?_
          refine z_bipush (v := 11) C dX12_readAny_153 (by decide) ?_
          obtain ⟨⟨⟩, σ20, mσ20, h⟩ := z_bnd2 h
          refine z_cvv (As := [.int 11]) (c := 0) (st := []) C (t12_settles 11 mσ20) kvX12_settles rfl mlX12_244 z_CF12 rfl rfl (by decide) rfl (Nat.le_of_ble_eq_true rfl) dX12_readAny_155 ?_
          refine z_aload_n C dX12_readAny_158 rfl rfl ?_
          refine z_bipush (v := 11) C dX12_readAny_159 (by decide) ?_
          obtain ⟨⟨⟩, σ22, mσ22, h⟩ := z_bnd2 h
          refine z_cvv (As := [.int 11]) (c := 0) (st := []) C (t12_waits 11 mσ22) kvX12_waits rfl mlX12_238 z_CF12 rfl rfl (by decide) rfl (Nat.le_of_ble_eq_true rfl) dX12_readAny_161 ?_
          refine z_aload_n C dX12_readAny_164 rfl rfl ?_
          obtain ⟨⟨⟩, σ24, mσ24, h⟩ := z_bnd2 h
          refine z_cvv (As := []) (c := 0) (st := []) C (t12_reads mσ24) kvX12_reads rfl mlX12_213 z_CF12 rfl rfl (by decide) rfl (Nat.le_of_ble_eq_true rfl) dX12_readAny_165 ?_
          refine z_iconst (v := 1) C dX12_readAny_168 (by decide) ?_
          refine z_istore_n (lo' := [some (.ref (z_a X 0)), some (.int v1), some (.int 1), none]) C dX12_readAny_169 rfl (Nat.le_of_ble_eq_true rfl) rfl ?_
          refine z_goto (tgt := 9) C dX12_readAny_170 (by decide) ?_
          exact ih v1 1 σ24 h
      · replace h := z_neg hc h
        refine z_aload_n C dX12_readAny_117 rfl rfl ?_
        refine z_bipush (v := 10) C dX12_readAny_118 (by decide) ?_
        obtain ⟨⟨⟩, σ26, mσ26, h⟩ := z_bnd2 h
        refine z_cvv (As := [.int 10]) (c := 0) (st := []) C (t12_settles 10 mσ26) kvX12_settles rfl mlX12_244 z_CF12 rfl rfl (by decide) rfl (Nat.le_of_ble_eq_true rfl) dX12_readAny_120 ?_
        refine z_aload_n C dX12_readAny_123 rfl rfl ?_
        refine z_bipush (v := 10) C dX12_readAny_124 (by decide) ?_
        obtain ⟨⟨⟩, σ28, mσ28, h⟩ := z_bnd2 h
        refine z_cvv (As := [.int 10]) (c := 0) (st := []) C (t12_waits 10 mσ28) kvX12_waits rfl mlX12_238 z_CF12 rfl rfl (by decide) rfl (Nat.le_of_ble_eq_true rfl) dX12_readAny_126 ?_
        refine z_aload_n C dX12_readAny_129 rfl rfl ?_
        obtain ⟨⟨⟩, σ30, mσ30, h⟩ := z_bnd2 h
        refine z_cvv (As := []) (c := 0) (st := []) C (t12_reads mσ30) kvX12_reads rfl mlX12_213 z_CF12 rfl rfl (by decide) rfl (Nat.le_of_ble_eq_true rfl) dX12_readAny_130 ?_
        refine z_iconst (v := 1) C dX12_readAny_133 (by decide) ?_
        refine z_istore_n (lo' := [some (.ref (z_a X 0)), some (.int v1), some (.int 1), none]) C dX12_readAny_134 rfl (Nat.le_of_ble_eq_true rfl) rfl ?_
        refine z_goto (tgt := 9) C dX12_readAny_135 (by decide) ?_
        exact ih v1 1 σ30 h
    · replace h := z_neg hc h
      refine z_aload_n C dX12_readAny_13 rfl rfl ?_
      refine z_bipush (v := 6) C dX12_readAny_14 (by decide) ?_
      obtain ⟨r31, σ32, mσ32, h⟩ := z_bnd2 h
      refine z_cvi (As := [.int 6]) (c := 0) (st := []) C (t12_isWord 6 mσ32) kvX12_isWord rfl mlX12_235 z_CF12 rfl rfl (by decide) rfl (Nat.le_of_ble_eq_true rfl) dX12_readAny_16 ?_
      refine z_istore_n (lo' := [some (.ref (z_a X 0)), some (.int v1), some (.int v2), some (.int r31)]) C dX12_readAny_19 rfl (Nat.le_of_ble_eq_true rfl) rfl ?_
      refine z_iload_n C dX12_readAny_20 rfl rfl ?_
      refine z_if_ne (tgt := 33) C dX12_readAny_21 (by decide) (fun hc => ?_) (fun hc => ?_)
      · replace h := z_neg hc h
        exact t12_readAny_J33 C ih v1 v2 r31 σ32 h
      · replace h := z_pos hc h
        refine z_aload_n C dX12_readAny_24 rfl rfl ?_
        refine z_bipush (v := 40) C dX12_readAny_25 (by decide) ?_
        obtain ⟨r33, σ34, mσ34, h⟩ := z_bnd2 h
        refine z_cvi (As := [.int 40]) (c := 0) (st := []) C (t12_isSign 40 mσ34) kvX12_isSign rfl mlX12_220 z_CF12 rfl rfl (by decide) rfl (Nat.le_of_ble_eq_true rfl) dX12_readAny_27 ?_
        refine z_if_eq (tgt := 88) C dX12_readAny_30 (by decide) (fun hc => ?_) (fun hc => ?_)
        · replace h := z_pos hc h
          refine z_aload_n C dX12_readAny_88 rfl rfl ?_
          obtain ⟨r35, σ36, mσ36, h⟩ := z_bnd2 h
          refine z_cvi (As := []) (c := 0) (st := []) C (t12_readCompared mσ36) kvX12_readCompared rfl mlX12_241 z_CF12 rfl rfl (by decide) rfl (Nat.le_of_ble_eq_true rfl) dX12_readAny_89 ?_
          refine z_iconst (v := (-1)) C dX12_readAny_92 (by decide) ?_
          refine z_icmp_ne (tgt := 98) C dX12_readAny_93 (by decide) (fun hc => ?_) (fun hc => ?_)
          · replace h := z_neg hc h
            refine z_aload_n C dX12_readAny_98 rfl rfl ?_
            refine z_bipush (v := 9) C dX12_readAny_99 (by decide) ?_
            obtain ⟨⟨⟩, σ38, mσ38, h⟩ := z_bnd2 h
            refine z_cvv (As := [.int 9]) (c := 0) (st := []) C (t12_settles 9 mσ38) kvX12_settles rfl mlX12_244 z_CF12 rfl rfl (by decide) rfl (Nat.le_of_ble_eq_true rfl) dX12_readAny_101 ?_
            refine z_iconst (v := 0) C dX12_readAny_104 (by decide) ?_
            refine z_istore_n (lo' := [some (.ref (z_a X 0)), some (.int v1), some (.int 0), some (.int r31)]) C dX12_readAny_105 rfl (Nat.le_of_ble_eq_true rfl) rfl ?_
            refine z_goto (tgt := 9) C dX12_readAny_106 (by decide) ?_
            refine z_kill (lo' := [some (.ref (z_a X 0)), some (.int v1), some (.int 0), none]) [3] rfl ?_
            exact ih v1 0 σ38 h
          · replace h := z_pos hc h
            refine z_iconst (v := (-1)) C dX12_readAny_96 (by decide) ?_
            exact z_iret C h dX12_readAny_97
        · replace h := z_neg hc h
          exact t12_readAny_J33 C ih v1 v2 r31 σ34 h
set_option maxHeartbeats 4000000 in
set_option maxRecDepth 100000 in
theorem t12_readAny {a : Nat → Nat} {σ : z_M} {u : Int32 × z_M} (h : f12_readAny σ = some u) : z_Mt yX12_readAny (z_w yX12_readAny cX12_readAny 4 (some .int)) 8 S2 a σ [.ref (a 0)] (z_oi u) := by
  refine z_head (lo := [some (.ref (a 0)), none, none, none]) (by decide) (Nat.le_of_ble_eq_true rfl) ?_ rfl ?_
  · intro i v hv
    exact z_loe (vs := [.ref (a 0)]) (n := 3) rfl (by simp [z_c1i, z_c1r]) i v hv
  · intro X hXa C
    subst hXa
    unfold f12_readAny at h
    refine z_iconst (v := 0) C dX12_readAny_0 (by decide) ?_
    refine z_istore_n (lo' := [some (.ref (z_a X 0)), some (.int 0), none, none]) C dX12_readAny_1 rfl (Nat.le_of_ble_eq_true rfl) rfl ?_
    refine z_aload_n C dX12_readAny_2 rfl rfl ?_
    refine z_iconst (v := 0) C dX12_readAny_3 (by decide) ?_
    obtain ⟨σ1, eσ1, h⟩ := z_let_some h
    refine z_puti (k := 31) C z_CF12 (by decide) flX12_229 rfl rfl rfl rfl eσ1 dX12_readAny_4 ?_
    refine z_iconst (v := 1) C dX12_readAny_7 (by decide) ?_
    refine z_istore_n (lo' := [some (.ref (z_a X 0)), some (.int 0), some (.int 1), none]) C dX12_readAny_8 rfl (Nat.le_of_ble_eq_true rfl) rfl ?_
    exact t12_readAny_L9 C _ 0 1 σ1 h
set_option maxHeartbeats 4000000 in
set_option maxRecDepth 100000 in
theorem t12_isLineWord {a : Nat → Nat} {σ : z_M} {u : Int32 × z_M} (h : f12_isLineWord σ = some u) : z_Mt yX12_isLineWord (z_w yX12_isLineWord cX12_isLineWord 1 (some .boolean)) 2 S2 a σ [.ref (a 0)] (z_oi u) := by
  refine z_head (lo := [some (.ref (a 0))]) (by decide) (Nat.le_of_ble_eq_true rfl) ?_ rfl ?_
  · intro i v hv
    exact z_loe (vs := [.ref (a 0)]) (n := 0) rfl (by simp [z_c1i, z_c1r]) i v hv
  · intro X hXa C
    subst hXa
    unfold f12_isLineWord at h
    refine z_aload_n C dX12_isLineWord_0 rfl rfl ?_
    refine z_iconst (v := 0) C dX12_isLineWord_1 (by decide) ?_
    obtain ⟨r1, σ2, mσ2, h⟩ := z_bnd2 h
    refine z_cvi (As := [.int 0]) (c := 0) (st := []) C (t12_isWord 0 mσ2) kvX12_isWord rfl mlX12_235 z_CF12 rfl rfl (by decide) rfl (Nat.le_of_ble_eq_true rfl) dX12_isLineWord_2 ?_
    refine z_if_ne (tgt := 24) C dX12_isLineWord_5 (by decide) (fun hc => ?_) (fun hc => ?_)
    · replace h := z_neg hc h
      refine z_iconst (v := 1) C dX12_isLineWord_24 (by decide) ?_
      refine z_goto (tgt := 29) C dX12_isLineWord_25 (by decide) ?_
      exact z_zret C (by decide) h dX12_isLineWord_29
    · replace h := z_pos hc h
      refine z_aload_n C dX12_isLineWord_8 rfl rfl ?_
      refine z_iconst (v := 1) C dX12_isLineWord_9 (by decide) ?_
      obtain ⟨r3, σ4, mσ4, h⟩ := z_bnd2 h
      refine z_cvi (As := [.int 1]) (c := 0) (st := []) C (t12_isWord 1 mσ4) kvX12_isWord rfl mlX12_235 z_CF12 rfl rfl (by decide) rfl (Nat.le_of_ble_eq_true rfl) dX12_isLineWord_10 ?_
      refine z_if_ne (tgt := 24) C dX12_isLineWord_13 (by decide) (fun hc => ?_) (fun hc => ?_)
      · replace h := z_neg hc h
        refine z_iconst (v := 1) C dX12_isLineWord_24 (by decide) ?_
        refine z_goto (tgt := 29) C dX12_isLineWord_25 (by decide) ?_
        exact z_zret C (by decide) h dX12_isLineWord_29
      · replace h := z_pos hc h
        refine z_aload_n C dX12_isLineWord_16 rfl rfl ?_
        refine z_iconst (v := 2) C dX12_isLineWord_17 (by decide) ?_
        obtain ⟨r5, σ6, mσ6, h⟩ := z_bnd2 h
        refine z_cvi (As := [.int 2]) (c := 0) (st := []) C (t12_isWord 2 mσ6) kvX12_isWord rfl mlX12_235 z_CF12 rfl rfl (by decide) rfl (Nat.le_of_ble_eq_true rfl) dX12_isLineWord_18 ?_
        refine z_if_eq (tgt := 28) C dX12_isLineWord_21 (by decide) (fun hc => ?_) (fun hc => ?_)
        · replace h := z_pos hc h
          refine z_iconst (v := 0) C dX12_isLineWord_28 (by decide) ?_
          exact z_zret C (by decide) h dX12_isLineWord_29
        · replace h := z_neg hc h
          refine z_iconst (v := 1) C dX12_isLineWord_24 (by decide) ?_
          refine z_goto (tgt := 29) C dX12_isLineWord_25 (by decide) ?_
          exact z_zret C (by decide) h dX12_isLineWord_29
set_option maxHeartbeats 4000000 in
set_option maxRecDepth 100000 in
theorem t12_readLaw_J128 {X : z_Ct} (C : z_Cx S2 X RX12 cX12_readLaw 3 9 (some .int)) {u : Int32 × z_M} (v1 : Int32) (σ : z_M) (h : f12_readLaw_J128 v1 σ = some u) : z_W S2 X 128 [some (.ref (z_a X 0)), some (.int v1), none] [] σ (z_oi u) := by
  unfold f12_readLaw_J128 at h
  refine z_aload_n C dX12_readLaw_128 rfl rfl ?_
  refine z_geti (k := 17) C z_CF12 (by decide) flX12_176 rfl rfl dX12_readLaw_129 ?_
  refine z_if_ne (tgt := 139) C dX12_readLaw_132 (by decide) (fun hc => ?_) (fun hc => ?_)
  · replace h := z_neg hc h
    refine z_aload_n C dX12_readLaw_139 rfl rfl ?_
    refine z_iconst (v := 1) C dX12_readLaw_140 (by decide) ?_
    obtain ⟨r1, σ2, mσ2, h⟩ := z_bnd2 h
    refine z_cvi (As := [.int 1]) (c := 0) (st := []) C (t12_errs 1 mσ2) kvX12_errs rfl mlX12_206 z_CF12 rfl rfl (by decide) rfl (Nat.le_of_ble_eq_true rfl) dX12_readLaw_141 ?_
    exact z_iret C h dX12_readLaw_144
  · replace h := z_pos hc h
    refine z_iload_n C dX12_readLaw_135 rfl rfl ?_
    refine z_goto (tgt := 144) C dX12_readLaw_136 (by decide) ?_
    exact z_iret C h dX12_readLaw_144
set_option maxHeartbeats 4000000 in
set_option maxRecDepth 100000 in
theorem t12_readLaw_J15 {X : z_Ct} (C : z_Cx S2 X RX12 cX12_readLaw 3 9 (some .int)) {u : Int32 × z_M} (σ : z_M) (h : f12_readLaw_J15 σ = some u) : z_W S2 X 15 [some (.ref (z_a X 0)), none, none] [] σ (z_oi u) := by
  unfold f12_readLaw_J15 at h
  refine z_aload_n C dX12_readLaw_15 rfl rfl ?_
  refine z_iconst (v := 3) C dX12_readLaw_16 (by decide) ?_
  obtain ⟨r1, σ2, mσ2, h⟩ := z_bnd2 h
  refine z_cvi (As := [.int 3]) (c := 0) (st := []) C (t12_errs 3 mσ2) kvX12_errs rfl mlX12_206 z_CF12 rfl rfl (by decide) rfl (Nat.le_of_ble_eq_true rfl) dX12_readLaw_17 ?_
  exact z_iret C h dX12_readLaw_20
set_option maxHeartbeats 4000000 in
set_option maxRecDepth 100000 in
theorem t12_readLaw_J111 {X : z_Ct} (C : z_Cx S2 X RX12 cX12_readLaw 3 9 (some .int)) {u : Int32 × z_M} (σ : z_M) (h : f12_readLaw_J111 σ = some u) : z_W S2 X 111 [some (.ref (z_a X 0)), none, none] [] σ (z_oi u) := by
  unfold f12_readLaw_J111 at h
  refine z_aload_n C dX12_readLaw_111 rfl rfl ?_
  refine z_iconst (v := 1) C dX12_readLaw_112 (by decide) ?_
  obtain ⟨r1, σ2, mσ2, h⟩ := z_bnd2 h
  refine z_cvi (As := [.int 1]) (c := 0) (st := []) C (t12_errs 1 mσ2) kvX12_errs rfl mlX12_206 z_CF12 rfl rfl (by decide) rfl (Nat.le_of_ble_eq_true rfl) dX12_readLaw_113 ?_
  exact z_iret C h dX12_readLaw_116
set_option maxHeartbeats 4000000 in
set_option maxRecDepth 100000 in
theorem t12_readLaw_J92 {X : z_Ct} (C : z_Cx S2 X RX12 cX12_readLaw 3 9 (some .int)) {u : Int32 × z_M} {k2 : Int32 → z_M → Option (Int32 × z_M)} (hr2 : ∀ (v1 : Int32) (σ : z_M), k2 v1 σ = some u → z_W S2 X 2 [some (.ref (z_a X 0)), some (.int v1), none] [] σ (z_oi u)) (v1 : Int32) (v2 : Int32) (σ : z_M) (h : f12_readLaw_J92 k2 v1 v2 σ = some u) : z_W S2 X 92 [some (.ref (z_a X 0)), some (.int v1), some (.int v2)] [] σ (z_oi u) := by
  unfold f12_readLaw_J92 at h
  refine z_aload_n C dX12_readLaw_92 rfl rfl ?_
  refine z_geta (k := 24) (q := 13) C z_CF12 (by decide) flX12_46 rfl rfl dX12_readLaw_93 ?_
  refine z_iload_n C dX12_readLaw_96 rfl rfl ?_
  refine z_aload_n C dX12_readLaw_97 rfl rfl ?_
  refine z_geti (k := 28) C z_CF12 (by decide) flX12_200 rfl rfl dX12_readLaw_98 ?_
  obtain ⟨b1, h⟩ := z_chk_some h
  obtain ⟨σ2, eσ2, h⟩ := z_let_some h
  refine z_iast C rfl rfl b1 eσ2 dX12_readLaw_101 ?_
  refine z_aload_n C dX12_readLaw_102 rfl rfl ?_
  refine z_bipush (v := 59) C dX12_readLaw_103 (by decide) ?_
  obtain ⟨r3, σ4, mσ4, h⟩ := z_bnd2 h
  refine z_cvi (As := [.int 59]) (c := 0) (st := []) C (t12_isSign 59 mσ4) kvX12_isSign rfl mlX12_220 z_CF12 rfl rfl (by decide) rfl (Nat.le_of_ble_eq_true rfl) dX12_readLaw_105 ?_
  refine z_if_ne (tgt := 117) C dX12_readLaw_108 (by decide) (fun hc => ?_) (fun hc => ?_)
  · replace h := z_neg hc h
    refine z_aload_n C dX12_readLaw_117 rfl rfl ?_
    obtain ⟨⟨⟩, σ6, mσ6, h⟩ := z_bnd2 h
    refine z_cvv (As := []) (c := 0) (st := []) C (t12_reads mσ6) kvX12_reads rfl mlX12_213 z_CF12 rfl rfl (by decide) rfl (Nat.le_of_ble_eq_true rfl) dX12_readLaw_118 ?_
    refine z_iload_n C dX12_readLaw_121 rfl rfl ?_
    refine z_iconst (v := 1) C dX12_readLaw_122 (by decide) ?_
    refine z_iadd C dX12_readLaw_123 ?_
    refine z_istore_n (lo' := [some (.ref (z_a X 0)), some (.int (v1 + 1)), some (.int v2)]) C dX12_readLaw_124 rfl (Nat.le_of_ble_eq_true rfl) rfl ?_
    refine z_goto (tgt := 2) C dX12_readLaw_125 (by decide) ?_
    refine z_kill (lo' := [some (.ref (z_a X 0)), some (.int (v1 + 1)), none]) [2] rfl ?_
    exact hr2 (v1 + 1) σ6 h
  · replace h := z_pos hc h
    refine z_kill (lo' := [some (.ref (z_a X 0)), none, none]) [1, 2] rfl ?_
    exact t12_readLaw_J111 C σ4 h
set_option maxHeartbeats 4000000 in
set_option maxRecDepth 100000 in
theorem t12_readLaw_L2 {X : z_Ct} (C : z_Cx S2 X RX12 cX12_readLaw 3 9 (some .int)) {u : Int32 × z_M} : ∀ (n : Nat) (v1 : Int32) (σ : z_M), f12_readLaw_L2 n v1 σ = some u → z_W S2 X 2 [some (.ref (z_a X 0)), some (.int v1), none] [] σ (z_oi u) := by
  intro n
  induction n with
  | zero => intro v1 σ h; rw [f12_readLaw_L2] at h; cases h
  | succ n ih =>
    intro v1 σ h
    rw [f12_readLaw_L2] at h
    refine z_aload_n C dX12_readLaw_2 rfl rfl ?_
    obtain ⟨r1, σ2, mσ2, h⟩ := z_bnd2 h
    refine z_cvi (As := []) (c := 0) (st := []) C (t12_isLineWord mσ2) kvX12_isLineWord rfl mlX12_247 z_CF12 rfl rfl (by decide) rfl (Nat.le_of_ble_eq_true rfl) dX12_readLaw_3 ?_
    refine z_if_eq (tgt := 128) C dX12_readLaw_6 (by decide) (fun hc => ?_) (fun hc => ?_)
    · replace h := z_pos hc h
      exact t12_readLaw_J128 C v1 σ2 h
    · replace h := z_neg hc h
      refine z_iload_n C dX12_readLaw_9 rfl rfl ?_
      refine z_bipush (v := 16) C dX12_readLaw_10 (by decide) ?_
      refine z_icmp_ne (tgt := 21) C dX12_readLaw_12 (by decide) (fun hc => ?_) (fun hc => ?_)
      · replace h := z_neg hc h
        refine z_bipush (v := 32) C dX12_readLaw_21 (by decide) ?_
        refine z_iload_n C dX12_readLaw_23 rfl rfl ?_
        refine z_iadd C dX12_readLaw_24 ?_
        refine z_istore_n (lo' := [some (.ref (z_a X 0)), some (.int v1), some (.int (32 + v1))]) C dX12_readLaw_25 rfl (Nat.le_of_ble_eq_true rfl) rfl ?_
        refine z_aload_n C dX12_readLaw_26 rfl rfl ?_
        refine z_geta (k := 21) (q := 10) C z_CF12 (by decide) flX12_37 rfl rfl dX12_readLaw_27 ?_
        refine z_iload_n C dX12_readLaw_30 rfl rfl ?_
        refine z_aload_n C dX12_readLaw_31 rfl rfl ?_
        refine z_geti (k := 18) C z_CF12 (by decide) flX12_179 rfl rfl dX12_readLaw_32 ?_
        obtain ⟨b3, h⟩ := z_chk_some h
        obtain ⟨σ4, eσ4, h⟩ := z_let_some h
        refine z_iast C rfl rfl b3 eσ4 dX12_readLaw_35 ?_
        refine z_aload_n C dX12_readLaw_36 rfl rfl ?_
        obtain ⟨⟨⟩, σ6, mσ6, h⟩ := z_bnd2 h
        refine z_cvv (As := []) (c := 0) (st := []) C (t12_reads mσ6) kvX12_reads rfl mlX12_213 z_CF12 rfl rfl (by decide) rfl (Nat.le_of_ble_eq_true rfl) dX12_readLaw_37 ?_
        refine z_aload_n C dX12_readLaw_40 rfl rfl ?_
        refine z_geta (k := 22) (q := 11) C z_CF12 (by decide) flX12_40 rfl rfl dX12_readLaw_41 ?_
        refine z_iload_n C dX12_readLaw_44 rfl rfl ?_
        refine z_aload_n C dX12_readLaw_45 rfl rfl ?_
        refine z_geti (k := 28) C z_CF12 (by decide) flX12_200 rfl rfl dX12_readLaw_46 ?_
        obtain ⟨b7, h⟩ := z_chk_some h
        obtain ⟨σ8, eσ8, h⟩ := z_let_some h
        refine z_iast C rfl rfl b7 eσ8 dX12_readLaw_49 ?_
        refine z_aload_n C dX12_readLaw_50 rfl rfl ?_
        obtain ⟨r9, σ10, mσ10, h⟩ := z_bnd2 h
        refine z_cvi (As := []) (c := 0) (st := []) C (t12_readSum mσ10) kvX12_readSum rfl mlX12_226 z_CF12 rfl rfl (by decide) rfl (Nat.le_of_ble_eq_true rfl) dX12_readLaw_51 ?_
        refine z_iconst (v := (-1)) C dX12_readLaw_54 (by decide) ?_
        refine z_icmp_ne (tgt := 60) C dX12_readLaw_55 (by decide) (fun hc => ?_) (fun hc => ?_)
        · replace h := z_neg hc h
          refine z_aload_n C dX12_readLaw_60 rfl rfl ?_
          refine z_geta (k := 23) (q := 12) C z_CF12 (by decide) flX12_43 rfl rfl dX12_readLaw_61 ?_
          refine z_iload_n C dX12_readLaw_64 rfl rfl ?_
          refine z_aload_n C dX12_readLaw_65 rfl rfl ?_
          refine z_geti (k := 28) C z_CF12 (by decide) flX12_200 rfl rfl dX12_readLaw_66 ?_
          obtain ⟨b11, h⟩ := z_chk_some h
          obtain ⟨σ12, eσ12, h⟩ := z_let_some h
          refine z_iast C rfl rfl b11 eσ12 dX12_readLaw_69 ?_
          refine z_aload_n C dX12_readLaw_70 rfl rfl ?_
          refine z_iconst (v := 3) C dX12_readLaw_71 (by decide) ?_
          obtain ⟨r13, σ14, mσ14, h⟩ := z_bnd2 h
          refine z_cvi (As := [.int 3]) (c := 0) (st := []) C (t12_isWord 3 mσ14) kvX12_isWord rfl mlX12_235 z_CF12 rfl rfl (by decide) rfl (Nat.le_of_ble_eq_true rfl) dX12_readLaw_72 ?_
          refine z_if_eq (tgt := 92) C dX12_readLaw_75 (by decide) (fun hc => ?_) (fun hc => ?_)
          · replace h := z_pos hc h
            exact t12_readLaw_J92 C ih v1 (32 + v1) σ14 h
          · replace h := z_neg hc h
            refine z_aload_n C dX12_readLaw_78 rfl rfl ?_
            obtain ⟨⟨⟩, σ16, mσ16, h⟩ := z_bnd2 h
            refine z_cvv (As := []) (c := 0) (st := []) C (t12_reads mσ16) kvX12_reads rfl mlX12_213 z_CF12 rfl rfl (by decide) rfl (Nat.le_of_ble_eq_true rfl) dX12_readLaw_79 ?_
            refine z_aload_n C dX12_readLaw_82 rfl rfl ?_
            obtain ⟨r17, σ18, mσ18, h⟩ := z_bnd2 h
            refine z_cvi (As := []) (c := 0) (st := []) C (t12_readAny mσ18) kvX12_readAny rfl mlX12_251 z_CF12 rfl rfl (by decide) rfl (Nat.le_of_ble_eq_true rfl) dX12_readLaw_83 ?_
            refine z_iconst (v := (-1)) C dX12_readLaw_86 (by decide) ?_
            refine z_icmp_ne (tgt := 92) C dX12_readLaw_87 (by decide) (fun hc => ?_) (fun hc => ?_)
            · replace h := z_neg hc h
              exact t12_readLaw_J92 C ih v1 (32 + v1) σ18 h
            · replace h := z_pos hc h
              refine z_iconst (v := (-1)) C dX12_readLaw_90 (by decide) ?_
              exact z_iret C h dX12_readLaw_91
        · replace h := z_pos hc h
          refine z_iconst (v := (-1)) C dX12_readLaw_58 (by decide) ?_
          exact z_iret C h dX12_readLaw_59
      · replace h := z_pos hc h
        refine z_kill (lo' := [some (.ref (z_a X 0)), none, none]) [1] rfl ?_
        exact t12_readLaw_J15 C σ2 h
set_option maxHeartbeats 4000000 in
set_option maxRecDepth 100000 in
theorem t12_readLaw {a : Nat → Nat} {σ : z_M} {u : Int32 × z_M} (h : f12_readLaw σ = some u) : z_Mt yX12_readLaw (z_w yX12_readLaw cX12_readLaw 3 (some .int)) 9 S2 a σ [.ref (a 0)] (z_oi u) := by
  refine z_head (lo := [some (.ref (a 0)), none, none]) (by decide) (Nat.le_of_ble_eq_true rfl) ?_ rfl ?_
  · intro i v hv
    exact z_loe (vs := [.ref (a 0)]) (n := 2) rfl (by simp [z_c1i, z_c1r]) i v hv
  · intro X hXa C
    subst hXa
    unfold f12_readLaw at h
    refine z_iconst (v := 0) C dX12_readLaw_0 (by decide) ?_
    refine z_istore_n (lo' := [some (.ref (z_a X 0)), some (.int 0), none]) C dX12_readLaw_1 rfl (Nat.le_of_ble_eq_true rfl) rfl ?_
    exact t12_readLaw_L2 C _ 0 σ h
set_option maxHeartbeats 4000000 in
set_option maxRecDepth 100000 in
theorem t12_takesLaw_J171 {X : z_Ct} (C : z_Cx S2 X RX12 cX12_takesLaw 3 1 none) {u : Unit × z_M} (v1 : Int32) (σ : z_M) (h : f12_takesLaw_J171 v1 σ = some u) : z_W S2 X 171 [some (.ref (z_a X 0)), some (.int v1), none] [] σ (z_ov u) := by
  unfold f12_takesLaw_J171 at h
  refine z_aload_n C dX12_takesLaw_171 rfl rfl ?_
  refine z_geta (k := 20) (q := 9) C z_CF12 (by decide) flX12_34 rfl rfl dX12_takesLaw_172 ?_
  refine z_aload_n C dX12_takesLaw_175 rfl rfl ?_
  refine z_geti (k := 27) C z_CF12 (by decide) flX12_254 rfl rfl dX12_takesLaw_176 ?_
  refine z_iload_n C dX12_takesLaw_179 rfl rfl ?_
  obtain ⟨b1, h⟩ := z_chk_some h
  obtain ⟨σ2, eσ2, h⟩ := z_let_some h
  refine z_iast C rfl rfl b1 eσ2 dX12_takesLaw_180 ?_
  exact z_vret C h dX12_takesLaw_181
set_option maxHeartbeats 4000000 in
set_option maxRecDepth 100000 in
theorem t12_takesLaw_L107 {X : z_Ct} (C : z_Cx S2 X RX12 cX12_takesLaw 3 1 none) {u : Unit × z_M} : ∀ (n : Nat) (v1 : Int32) (v2 : Int32) (σ : z_M), f12_takesLaw_L107 n v1 v2 σ = some u → z_W S2 X 107 [some (.ref (z_a X 0)), some (.int v1), some (.int v2)] [] σ (z_ov u) := by
  intro n
  induction n with
  | zero => intro v1 v2 σ h; rw [f12_takesLaw_L107] at h; cases h
  | succ n ih =>
    intro v1 v2 σ h
    rw [f12_takesLaw_L107] at h
    refine z_iload_n C dX12_takesLaw_107 rfl rfl ?_
    refine z_aload_n C dX12_takesLaw_108 rfl rfl ?_
    refine z_geti (k := 28) C z_CF12 (by decide) flX12_200 rfl rfl dX12_takesLaw_109 ?_
    refine z_icmp_ge (tgt := 171) C dX12_takesLaw_112 (by decide) (fun hc => ?_) (fun hc => ?_)
    · replace h := z_neg hc h
      refine z_kill (lo' := [some (.ref (z_a X 0)), some (.int v1), none]) [2] rfl ?_
      exact t12_takesLaw_J171 C v1 σ h
    · replace h := z_pos hc h
      refine z_aload_n C dX12_takesLaw_115 rfl rfl ?_
      refine z_geta (k := 25) (q := 14) C z_CF12 (by decide) flX12_49 rfl rfl dX12_takesLaw_116 ?_
      refine z_sipush (v := 400) C dX12_takesLaw_119 (by decide) ?_
      refine z_aload_n C dX12_takesLaw_122 rfl rfl ?_
      refine z_geti (k := 27) C z_CF12 (by decide) flX12_254 rfl rfl dX12_takesLaw_123 ?_
      refine z_imul C dX12_takesLaw_126 ?_
      refine z_iload_n C dX12_takesLaw_127 rfl rfl ?_
      refine z_iadd C dX12_takesLaw_128 ?_
      refine z_aload_n C dX12_takesLaw_129 rfl rfl ?_
      refine z_geta (k := 25) (q := 14) C z_CF12 (by decide) flX12_49 rfl rfl dX12_takesLaw_130 ?_
      refine z_sipush (v := 800) C dX12_takesLaw_133 (by decide) ?_
      refine z_iload_n C dX12_takesLaw_136 rfl rfl ?_
      refine z_iadd C dX12_takesLaw_137 ?_
      obtain ⟨b1, h⟩ := z_chk_some h
      refine z_iald C rfl rfl b1 dX12_takesLaw_138 ?_
      obtain ⟨b2, h⟩ := z_chk_some h
      obtain ⟨σ3, eσ3, h⟩ := z_let_some h
      refine z_iast C rfl rfl b2 eσ3 dX12_takesLaw_139 ?_
      refine z_aload_n C dX12_takesLaw_140 rfl rfl ?_
      refine z_geta (k := 26) (q := 15) C z_CF12 (by decide) flX12_52 rfl rfl dX12_takesLaw_141 ?_
      refine z_sipush (v := 400) C dX12_takesLaw_144 (by decide) ?_
      refine z_aload_n C dX12_takesLaw_147 rfl rfl ?_
      refine z_geti (k := 27) C z_CF12 (by decide) flX12_254 rfl rfl dX12_takesLaw_148 ?_
      refine z_imul C dX12_takesLaw_151 ?_
      refine z_iload_n C dX12_takesLaw_152 rfl rfl ?_
      refine z_iadd C dX12_takesLaw_153 ?_
      refine z_aload_n C dX12_takesLaw_154 rfl rfl ?_
      refine z_geta (k := 26) (q := 15) C z_CF12 (by decide) flX12_52 rfl rfl dX12_takesLaw_155 ?_
      refine z_sipush (v := 800) C dX12_takesLaw_158 (by decide) ?_
      refine z_iload_n C dX12_takesLaw_161 rfl rfl ?_
      refine z_iadd C dX12_takesLaw_162 ?_
      obtain ⟨b4, h⟩ := z_chk_some h
      refine z_iald C rfl rfl b4 dX12_takesLaw_163 ?_
      obtain ⟨b5, h⟩ := z_chk_some h
      obtain ⟨σ6, eσ6, h⟩ := z_let_some h
      refine z_iast C rfl rfl b5 eσ6 dX12_takesLaw_164 ?_
      refine z_iinc (v := v2 + 1) (lo' := [some (.ref (z_a X 0)), some (.int v1), some (.int (v2 + 1))]) C dX12_takesLaw_165 rfl rfl rfl ?_
      refine z_goto (tgt := 107) C dX12_takesLaw_168 (by decide) ?_
      exact ih v1 (v2 + 1) σ6 h
set_option maxHeartbeats 4000000 in
set_option maxRecDepth 100000 in
theorem t12_takesLaw_J105 {X : z_Ct} (C : z_Cx S2 X RX12 cX12_takesLaw 3 1 none) {u : Unit × z_M} (v1 : Int32) (σ : z_M) (h : f12_takesLaw_J105 v1 σ = some u) : z_W S2 X 105 [some (.ref (z_a X 0)), some (.int v1), none] [] σ (z_ov u) := by
  unfold f12_takesLaw_J105 at h
  refine z_iconst (v := 0) C dX12_takesLaw_105 (by decide) ?_
  refine z_istore_n (lo' := [some (.ref (z_a X 0)), some (.int v1), some (.int 0)]) C dX12_takesLaw_106 rfl (Nat.le_of_ble_eq_true rfl) rfl ?_
  exact t12_takesLaw_L107 C _ v1 0 σ h
set_option maxHeartbeats 4000000 in
set_option maxRecDepth 100000 in
theorem t12_takesLaw_L2 {X : z_Ct} (C : z_Cx S2 X RX12 cX12_takesLaw 3 1 none) {u : Unit × z_M} : ∀ (n : Nat) (v1 : Int32) (v2 : Int32) (σ : z_M), f12_takesLaw_L2 n v1 v2 σ = some u → z_W S2 X 2 [some (.ref (z_a X 0)), some (.int v1), some (.int v2)] [] σ (z_ov u) := by
  intro n
  induction n with
  | zero => intro v1 v2 σ h; rw [f12_takesLaw_L2] at h; cases h
  | succ n ih =>
    intro v1 v2 σ h
    rw [f12_takesLaw_L2] at h
    refine z_iload_n C dX12_takesLaw_2 rfl rfl ?_
    refine z_iload_n C dX12_takesLaw_3 rfl rfl ?_
    refine z_icmp_ge (tgt := 105) C dX12_takesLaw_4 (by decide) (fun hc => ?_) (fun hc => ?_)
    · replace h := z_neg hc h
      refine z_kill (lo' := [some (.ref (z_a X 0)), some (.int v1), none]) [2] rfl ?_
      exact t12_takesLaw_J105 C v1 σ h
    · replace h := z_pos hc h
      refine z_aload_n C dX12_takesLaw_7 rfl rfl ?_
      refine z_geta (k := 21) (q := 10) C z_CF12 (by decide) flX12_37 rfl rfl dX12_takesLaw_8 ?_
      refine z_bipush (v := 16) C dX12_takesLaw_11 (by decide) ?_
      refine z_aload_n C dX12_takesLaw_13 rfl rfl ?_
      refine z_geti (k := 27) C z_CF12 (by decide) flX12_254 rfl rfl dX12_takesLaw_14 ?_
      refine z_imul C dX12_takesLaw_17 ?_
      refine z_iload_n C dX12_takesLaw_18 rfl rfl ?_
      refine z_iadd C dX12_takesLaw_19 ?_
      refine z_aload_n C dX12_takesLaw_20 rfl rfl ?_
      refine z_geta (k := 21) (q := 10) C z_CF12 (by decide) flX12_37 rfl rfl dX12_takesLaw_21 ?_
      refine z_bipush (v := 32) C dX12_takesLaw_24 (by decide) ?_
      refine z_iload_n C dX12_takesLaw_26 rfl rfl ?_
      refine z_iadd C dX12_takesLaw_27 ?_
      obtain ⟨b1, h⟩ := z_chk_some h
      refine z_iald C rfl rfl b1 dX12_takesLaw_28 ?_
      obtain ⟨b2, h⟩ := z_chk_some h
      obtain ⟨σ3, eσ3, h⟩ := z_let_some h
      refine z_iast C rfl rfl b2 eσ3 dX12_takesLaw_29 ?_
      refine z_aload_n C dX12_takesLaw_30 rfl rfl ?_
      refine z_geta (k := 22) (q := 11) C z_CF12 (by decide) flX12_40 rfl rfl dX12_takesLaw_31 ?_
      refine z_bipush (v := 16) C dX12_takesLaw_34 (by decide) ?_
      refine z_aload_n C dX12_takesLaw_36 rfl rfl ?_
      refine z_geti (k := 27) C z_CF12 (by decide) flX12_254 rfl rfl dX12_takesLaw_37 ?_
      refine z_imul C dX12_takesLaw_40 ?_
      refine z_iload_n C dX12_takesLaw_41 rfl rfl ?_
      refine z_iadd C dX12_takesLaw_42 ?_
      refine z_aload_n C dX12_takesLaw_43 rfl rfl ?_
      refine z_geta (k := 22) (q := 11) C z_CF12 (by decide) flX12_40 rfl rfl dX12_takesLaw_44 ?_
      refine z_bipush (v := 32) C dX12_takesLaw_47 (by decide) ?_
      refine z_iload_n C dX12_takesLaw_49 rfl rfl ?_
      refine z_iadd C dX12_takesLaw_50 ?_
      obtain ⟨b4, h⟩ := z_chk_some h
      refine z_iald C rfl rfl b4 dX12_takesLaw_51 ?_
      obtain ⟨b5, h⟩ := z_chk_some h
      obtain ⟨σ6, eσ6, h⟩ := z_let_some h
      refine z_iast C rfl rfl b5 eσ6 dX12_takesLaw_52 ?_
      refine z_aload_n C dX12_takesLaw_53 rfl rfl ?_
      refine z_geta (k := 23) (q := 12) C z_CF12 (by decide) flX12_43 rfl rfl dX12_takesLaw_54 ?_
      refine z_bipush (v := 16) C dX12_takesLaw_57 (by decide) ?_
      refine z_aload_n C dX12_takesLaw_59 rfl rfl ?_
      refine z_geti (k := 27) C z_CF12 (by decide) flX12_254 rfl rfl dX12_takesLaw_60 ?_
      refine z_imul C dX12_takesLaw_63 ?_
      refine z_iload_n C dX12_takesLaw_64 rfl rfl ?_
      refine z_iadd C dX12_takesLaw_65 ?_
      refine z_aload_n C dX12_takesLaw_66 rfl rfl ?_
      refine z_geta (k := 23) (q := 12) C z_CF12 (by decide) flX12_43 rfl rfl dX12_takesLaw_67 ?_
      refine z_bipush (v := 32) C dX12_takesLaw_70 (by decide) ?_
      refine z_iload_n C dX12_takesLaw_72 rfl rfl ?_
      refine z_iadd C dX12_takesLaw_73 ?_
      obtain ⟨b7, h⟩ := z_chk_some h
      refine z_iald C rfl rfl b7 dX12_takesLaw_74 ?_
      obtain ⟨b8, h⟩ := z_chk_some h
      obtain ⟨σ9, eσ9, h⟩ := z_let_some h
      refine z_iast C rfl rfl b8 eσ9 dX12_takesLaw_75 ?_
      refine z_aload_n C dX12_takesLaw_76 rfl rfl ?_
      refine z_geta (k := 24) (q := 13) C z_CF12 (by decide) flX12_46 rfl rfl dX12_takesLaw_77 ?_
      refine z_bipush (v := 16) C dX12_takesLaw_80 (by decide) ?_
      refine z_aload_n C dX12_takesLaw_82 rfl rfl ?_
      refine z_geti (k := 27) C z_CF12 (by decide) flX12_254 rfl rfl dX12_takesLaw_83 ?_
      refine z_imul C dX12_takesLaw_86 ?_
      refine z_iload_n C dX12_takesLaw_87 rfl rfl ?_
      refine z_iadd C dX12_takesLaw_88 ?_
      refine z_aload_n C dX12_takesLaw_89 rfl rfl ?_
      refine z_geta (k := 24) (q := 13) C z_CF12 (by decide) flX12_46 rfl rfl dX12_takesLaw_90 ?_
      refine z_bipush (v := 32) C dX12_takesLaw_93 (by decide) ?_
      refine z_iload_n C dX12_takesLaw_95 rfl rfl ?_
      refine z_iadd C dX12_takesLaw_96 ?_
      obtain ⟨b10, h⟩ := z_chk_some h
      refine z_iald C rfl rfl b10 dX12_takesLaw_97 ?_
      obtain ⟨b11, h⟩ := z_chk_some h
      obtain ⟨σ12, eσ12, h⟩ := z_let_some h
      refine z_iast C rfl rfl b11 eσ12 dX12_takesLaw_98 ?_
      refine z_iinc (v := v2 + 1) (lo' := [some (.ref (z_a X 0)), some (.int v1), some (.int (v2 + 1))]) C dX12_takesLaw_99 rfl rfl rfl ?_
      refine z_goto (tgt := 2) C dX12_takesLaw_102 (by decide) ?_
      exact ih v1 (v2 + 1) σ12 h
set_option maxHeartbeats 4000000 in
set_option maxRecDepth 100000 in
theorem t12_takesLaw {a : Nat → Nat} (p1 : Int32) {σ : z_M} {u : Unit × z_M} (h : f12_takesLaw p1 σ = some u) : z_Mt yX12_takesLaw (z_w yX12_takesLaw cX12_takesLaw 3 none) 1 S2 a σ [.ref (a 0), .int p1] (z_ov u) := by
  refine z_head (lo := [some (.ref (a 0)), some (.int p1), none]) (by decide) (Nat.le_of_ble_eq_true rfl) ?_ rfl ?_
  · intro i v hv
    exact z_loe (vs := [.ref (a 0), .int p1]) (n := 1) rfl (by simp [z_c1i, z_c1r]) i v hv
  · intro X hXa C
    subst hXa
    unfold f12_takesLaw at h
    refine z_iconst (v := 0) C dX12_takesLaw_0 (by decide) ?_
    refine z_istore_n (lo' := [some (.ref (z_a X 0)), some (.int p1), some (.int 0)]) C dX12_takesLaw_1 rfl (Nat.le_of_ble_eq_true rfl) rfl ?_
    exact t12_takesLaw_L2 C _ p1 0 σ h
set_option maxHeartbeats 4000000 in
set_option maxRecDepth 100000 in
theorem t12_readNumber {a : Nat → Nat} (p1 : Int32) (p2 : Int32) {σ : z_M} {u : Int32 × z_M} (h : f12_readNumber p1 p2 σ = some u) : z_Mt yX12_readNumber (z_w yX12_readNumber cX12_readNumber 4 (some .int)) 4 S2 a σ [.ref (a 0), .int p1, .int p2] (z_oi u) := by
  refine z_head (lo := [some (.ref (a 0)), some (.int p1), some (.int p2), none]) (by decide) (Nat.le_of_ble_eq_true rfl) ?_ rfl ?_
  · intro i v hv
    exact z_loe (vs := [.ref (a 0), .int p1, .int p2]) (n := 1) rfl (by simp [z_c1i, z_c1r]) i v hv
  · intro X hXa C
    subst hXa
    unfold f12_readNumber at h
    refine z_aload_n C dX12_readNumber_0 rfl rfl ?_
    refine z_geti (k := 17) C z_CF12 (by decide) flX12_176 rfl rfl dX12_readNumber_1 ?_
    refine z_iconst (v := 3) C dX12_readNumber_4 (by decide) ?_
    refine z_icmp_eq (tgt := 14) C dX12_readNumber_5 (by decide) (fun hc => ?_) (fun hc => ?_)
    · replace h := z_pos hc h
      refine z_aload_n C dX12_readNumber_14 rfl rfl ?_
      refine z_aload_n C dX12_readNumber_15 rfl rfl ?_
      refine z_geti (k := 18) C z_CF12 (by decide) flX12_179 rfl rfl dX12_readNumber_16 ?_
      refine z_iload_n C dX12_readNumber_19 rfl rfl ?_
      refine z_iload_n C dX12_readNumber_20 rfl rfl ?_
      obtain ⟨r1, σ2, mσ2, h⟩ := z_bnd2 h
      refine z_cvi (As := [.int (σ 0 18), .int p1, .int p2]) (c := 0) (st := []) C (t12_isIn (σ 0 18) p1 p2 mσ2) kvX12_isIn rfl mlX12_142 z_CF12 rfl rfl (by decide) rfl (Nat.le_of_ble_eq_true rfl) dX12_readNumber_21 ?_
      refine z_if_ne (tgt := 33) C dX12_readNumber_24 (by decide) (fun hc => ?_) (fun hc => ?_)
      · replace h := z_neg hc h
        refine z_aload_n C dX12_readNumber_33 rfl rfl ?_
        refine z_geti (k := 18) C z_CF12 (by decide) flX12_179 rfl rfl dX12_readNumber_34 ?_
        refine z_istore_n (lo' := [some (.ref (z_a X 0)), some (.int p1), some (.int p2), some (.int (σ2 0 18))]) C dX12_readNumber_37 rfl (Nat.le_of_ble_eq_true rfl) rfl ?_
        refine z_aload_n C dX12_readNumber_38 rfl rfl ?_
        obtain ⟨⟨⟩, σ4, mσ4, h⟩ := z_bnd2 h
        refine z_cvv (As := []) (c := 0) (st := []) C (t12_reads mσ4) kvX12_reads rfl mlX12_213 z_CF12 rfl rfl (by decide) rfl (Nat.le_of_ble_eq_true rfl) dX12_readNumber_39 ?_
        refine z_iload_n C dX12_readNumber_42 rfl rfl ?_
        exact z_iret C h dX12_readNumber_43
      · replace h := z_pos hc h
        refine z_aload_n C dX12_readNumber_27 rfl rfl ?_
        refine z_iconst (v := 2) C dX12_readNumber_28 (by decide) ?_
        obtain ⟨r5, σ6, mσ6, h⟩ := z_bnd2 h
        refine z_cvi (As := [.int 2]) (c := 0) (st := []) C (t12_errs 2 mσ6) kvX12_errs rfl mlX12_206 z_CF12 rfl rfl (by decide) rfl (Nat.le_of_ble_eq_true rfl) dX12_readNumber_29 ?_
        exact z_iret C h dX12_readNumber_32
    · replace h := z_neg hc h
      refine z_aload_n C dX12_readNumber_8 rfl rfl ?_
      refine z_iconst (v := 1) C dX12_readNumber_9 (by decide) ?_
      obtain ⟨r7, σ8, mσ8, h⟩ := z_bnd2 h
      refine z_cvi (As := [.int 1]) (c := 0) (st := []) C (t12_errs 1 mσ8) kvX12_errs rfl mlX12_206 z_CF12 rfl rfl (by decide) rfl (Nat.le_of_ble_eq_true rfl) dX12_readNumber_10 ?_
      exact z_iret C h dX12_readNumber_13
set_option maxHeartbeats 4000000 in
set_option maxRecDepth 100000 in
theorem t12_readWord {a : Nat → Nat} (p1 : Int32) {σ : z_M} {u : Int32 × z_M} (h : f12_readWord p1 σ = some u) : z_Mt yX12_readWord (z_w yX12_readWord cX12_readWord 2 (some .int)) 4 S2 a σ [.ref (a 0), .int p1] (z_oi u) := by
  refine z_head (lo := [some (.ref (a 0)), some (.int p1)]) (by decide) (Nat.le_of_ble_eq_true rfl) ?_ rfl ?_
  · intro i v hv
    exact z_loe (vs := [.ref (a 0), .int p1]) (n := 0) rfl (by simp [z_c1i, z_c1r]) i v hv
  · intro X hXa C
    subst hXa
    unfold f12_readWord at h
    refine z_aload_n C dX12_readWord_0 rfl rfl ?_
    refine z_iload_n C dX12_readWord_1 rfl rfl ?_
    obtain ⟨r1, σ2, mσ2, h⟩ := z_bnd2 h
    refine z_cvi (As := [.int p1]) (c := 0) (st := []) C (t12_isWord p1 mσ2) kvX12_isWord rfl mlX12_235 z_CF12 rfl rfl (by decide) rfl (Nat.le_of_ble_eq_true rfl) dX12_readWord_2 ?_
    refine z_if_ne (tgt := 14) C dX12_readWord_5 (by decide) (fun hc => ?_) (fun hc => ?_)
    · replace h := z_neg hc h
      refine z_aload_n C dX12_readWord_14 rfl rfl ?_
      obtain ⟨⟨⟩, σ4, mσ4, h⟩ := z_bnd2 h
      refine z_cvv (As := []) (c := 0) (st := []) C (t12_reads mσ4) kvX12_reads rfl mlX12_213 z_CF12 rfl rfl (by decide) rfl (Nat.le_of_ble_eq_true rfl) dX12_readWord_15 ?_
      refine z_iconst (v := 0) C dX12_readWord_18 (by decide) ?_
      exact z_iret C h dX12_readWord_19
    · replace h := z_pos hc h
      refine z_aload_n C dX12_readWord_8 rfl rfl ?_
      refine z_iconst (v := 1) C dX12_readWord_9 (by decide) ?_
      obtain ⟨r5, σ6, mσ6, h⟩ := z_bnd2 h
      refine z_cvi (As := [.int 1]) (c := 0) (st := []) C (t12_errs 1 mσ6) kvX12_errs rfl mlX12_206 z_CF12 rfl rfl (by decide) rfl (Nat.le_of_ble_eq_true rfl) dX12_readWord_10 ?_
      exact z_iret C h dX12_readWord_13
set_option maxHeartbeats 4000000 in
set_option maxRecDepth 100000 in
theorem t12_readMark {a : Nat → Nat} (p1 : Int32) {σ : z_M} {u : Int32 × z_M} (h : f12_readMark p1 σ = some u) : z_Mt yX12_readMark (z_w yX12_readMark cX12_readMark 2 (some .int)) 4 S2 a σ [.ref (a 0), .int p1] (z_oi u) := by
  refine z_head (lo := [some (.ref (a 0)), some (.int p1)]) (by decide) (Nat.le_of_ble_eq_true rfl) ?_ rfl ?_
  · intro i v hv
    exact z_loe (vs := [.ref (a 0), .int p1]) (n := 0) rfl (by simp [z_c1i, z_c1r]) i v hv
  · intro X hXa C
    subst hXa
    unfold f12_readMark at h
    refine z_aload_n C dX12_readMark_0 rfl rfl ?_
    refine z_iload_n C dX12_readMark_1 rfl rfl ?_
    obtain ⟨r1, σ2, mσ2, h⟩ := z_bnd2 h
    refine z_cvi (As := [.int p1]) (c := 0) (st := []) C (t12_isSign p1 mσ2) kvX12_isSign rfl mlX12_220 z_CF12 rfl rfl (by decide) rfl (Nat.le_of_ble_eq_true rfl) dX12_readMark_2 ?_
    refine z_if_ne (tgt := 14) C dX12_readMark_5 (by decide) (fun hc => ?_) (fun hc => ?_)
    · replace h := z_neg hc h
      refine z_aload_n C dX12_readMark_14 rfl rfl ?_
      obtain ⟨⟨⟩, σ4, mσ4, h⟩ := z_bnd2 h
      refine z_cvv (As := []) (c := 0) (st := []) C (t12_reads mσ4) kvX12_reads rfl mlX12_213 z_CF12 rfl rfl (by decide) rfl (Nat.le_of_ble_eq_true rfl) dX12_readMark_15 ?_
      refine z_iconst (v := 0) C dX12_readMark_18 (by decide) ?_
      exact z_iret C h dX12_readMark_19
    · replace h := z_pos hc h
      refine z_aload_n C dX12_readMark_8 rfl rfl ?_
      refine z_iconst (v := 1) C dX12_readMark_9 (by decide) ?_
      obtain ⟨r5, σ6, mσ6, h⟩ := z_bnd2 h
      refine z_cvi (As := [.int 1]) (c := 0) (st := []) C (t12_errs 1 mσ6) kvX12_errs rfl mlX12_206 z_CF12 rfl rfl (by decide) rfl (Nat.le_of_ble_eq_true rfl) dX12_readMark_10 ?_
      exact z_iret C h dX12_readMark_13
set_option maxHeartbeats 4000000 in
set_option maxRecDepth 100000 in
theorem t12_readTold {a : Nat → Nat} (p1 : Int32) (p2 : Int32) (p3 : Int32) {σ : z_M} {u : Int32 × z_M} (h : f12_readTold p1 p2 p3 σ = some u) : z_Mt yX12_readTold (z_w yX12_readTold cX12_readTold 4 (some .int)) 5 S2 a σ [.ref (a 0), .int p1, .int p2, .int p3] (z_oi u) := by
  refine z_head (lo := [some (.ref (a 0)), some (.int p1), some (.int p2), some (.int p3)]) (by decide) (Nat.le_of_ble_eq_true rfl) ?_ rfl ?_
  · intro i v hv
    exact z_loe (vs := [.ref (a 0), .int p1, .int p2, .int p3]) (n := 0) rfl (by simp [z_c1i, z_c1r]) i v hv
  · intro X hXa C
    subst hXa
    unfold f12_readTold at h
    refine z_aload_n C dX12_readTold_0 rfl rfl ?_
    refine z_iload_n C dX12_readTold_1 rfl rfl ?_
    obtain ⟨r1, σ2, mσ2, h⟩ := z_bnd2 h
    refine z_cvi (As := [.int p1]) (c := 0) (st := []) C (t12_readWord p1 mσ2) kvX12_readWord rfl mlX12_257 z_CF12 rfl rfl (by decide) rfl (Nat.le_of_ble_eq_true rfl) dX12_readTold_2 ?_
    refine z_iconst (v := (-1)) C dX12_readTold_5 (by decide) ?_
    refine z_icmp_ne (tgt := 13) C dX12_readTold_6 (by decide) (fun hc => ?_) (fun hc => ?_)
    · replace h := z_neg hc h
      refine z_aload_n C dX12_readTold_13 rfl rfl ?_
      refine z_iload_n C dX12_readTold_14 rfl rfl ?_
      refine z_iload_n C dX12_readTold_15 rfl rfl ?_
      obtain ⟨r3, σ4, mσ4, h⟩ := z_bnd2 h
      refine z_cvi (As := [.int p2, .int p3]) (c := 0) (st := []) C (t12_readNumber p2 p3 mσ4) kvX12_readNumber rfl mlX12_260 z_CF12 rfl rfl (by decide) rfl (Nat.le_of_ble_eq_true rfl) dX12_readTold_16 ?_
      exact z_iret C h dX12_readTold_19
    · replace h := z_pos hc h
      refine z_iconst (v := (-1)) C dX12_readTold_9 (by decide) ?_
      refine z_goto (tgt := 19) C dX12_readTold_10 (by decide) ?_
      exact z_iret C h dX12_readTold_19
set_option maxHeartbeats 4000000 in
set_option maxRecDepth 100000 in
theorem t12_readOther_J36 {X : z_Ct} (C : z_Cx S2 X RX12 cX12_readOther 2 4 (some .int)) {u : Int32 × z_M} (σ : z_M) (h : f12_readOther_J36 σ = some u) : z_W S2 X 36 [some (.ref (z_a X 0)), none] [] σ (z_oi u) := by
  unfold f12_readOther_J36 at h
  refine z_aload_n C dX12_readOther_36 rfl rfl ?_
  refine z_iconst (v := 2) C dX12_readOther_37 (by decide) ?_
  obtain ⟨r1, σ2, mσ2, h⟩ := z_bnd2 h
  refine z_cvi (As := [.int 2]) (c := 0) (st := []) C (t12_errs 2 mσ2) kvX12_errs rfl mlX12_206 z_CF12 rfl rfl (by decide) rfl (Nat.le_of_ble_eq_true rfl) dX12_readOther_38 ?_
  exact z_iret C h dX12_readOther_41
set_option maxHeartbeats 4000000 in
set_option maxRecDepth 100000 in
theorem t12_readOther {a : Nat → Nat} (p1 : Int32) {σ : z_M} {u : Int32 × z_M} (h : f12_readOther p1 σ = some u) : z_Mt yX12_readOther (z_w yX12_readOther cX12_readOther 2 (some .int)) 4 S2 a σ [.ref (a 0), .int p1] (z_oi u) := by
  refine z_head (lo := [some (.ref (a 0)), some (.int p1)]) (by decide) (Nat.le_of_ble_eq_true rfl) ?_ rfl ?_
  · intro i v hv
    exact z_loe (vs := [.ref (a 0), .int p1]) (n := 0) rfl (by simp [z_c1i, z_c1r]) i v hv
  · intro X hXa C
    subst hXa
    unfold f12_readOther at h
    refine z_aload_n C dX12_readOther_0 rfl rfl ?_
    refine z_geti (k := 17) C z_CF12 (by decide) flX12_176 rfl rfl dX12_readOther_1 ?_
    refine z_iconst (v := 3) C dX12_readOther_4 (by decide) ?_
    refine z_icmp_eq (tgt := 14) C dX12_readOther_5 (by decide) (fun hc => ?_) (fun hc => ?_)
    · replace h := z_pos hc h
      refine z_aload_n C dX12_readOther_14 rfl rfl ?_
      refine z_geti (k := 18) C z_CF12 (by decide) flX12_179 rfl rfl dX12_readOther_15 ?_
      refine z_bipush (v := 8) C dX12_readOther_18 (by decide) ?_
      refine z_icmp_ge (tgt := 36) C dX12_readOther_20 (by decide) (fun hc => ?_) (fun hc => ?_)
      · replace h := z_neg hc h
        refine z_kill (lo' := [some (.ref (z_a X 0)), none]) [1] rfl ?_
        exact t12_readOther_J36 C σ h
      · replace h := z_pos hc h
        refine z_aload_n C dX12_readOther_23 rfl rfl ?_
        refine z_geti (k := 18) C z_CF12 (by decide) flX12_179 rfl rfl dX12_readOther_24 ?_
        refine z_aload_n C dX12_readOther_27 rfl rfl ?_
        refine z_geta (k := 37) (q := 17) C z_CF12 (by decide) flX12_62 rfl rfl dX12_readOther_28 ?_
        refine z_iload_n C dX12_readOther_31 rfl rfl ?_
        obtain ⟨b1, h⟩ := z_chk_some h
        refine z_iald C rfl rfl b1 dX12_readOther_32 ?_
        refine z_icmp_ne (tgt := 42) C dX12_readOther_33 (by decide) (fun hc => ?_) (fun hc => ?_)
        · replace h := z_neg hc h
          refine z_aload_n C dX12_readOther_42 rfl rfl ?_
          refine z_geta (k := 37) (q := 17) C z_CF12 (by decide) flX12_62 rfl rfl dX12_readOther_43 ?_
          refine z_iload_n C dX12_readOther_46 rfl rfl ?_
          refine z_iconst (v := 1) C dX12_readOther_47 (by decide) ?_
          refine z_iadd C dX12_readOther_48 ?_
          refine z_aload_n C dX12_readOther_49 rfl rfl ?_
          refine z_geta (k := 37) (q := 17) C z_CF12 (by decide) flX12_62 rfl rfl dX12_readOther_50 ?_
          refine z_iload_n C dX12_readOther_53 rfl rfl ?_
          refine z_iconst (v := 1) C dX12_readOther_54 (by decide) ?_
          refine z_iadd C dX12_readOther_55 ?_
          obtain ⟨b2, h⟩ := z_chk_some h
          refine z_iald C rfl rfl b2 dX12_readOther_56 ?_
          refine z_iconst (v := 1) C dX12_readOther_57 (by decide) ?_
          refine z_aload_n C dX12_readOther_58 rfl rfl ?_
          refine z_geti (k := 18) C z_CF12 (by decide) flX12_179 rfl rfl dX12_readOther_59 ?_
          refine z_ishl C dX12_readOther_62 ?_
          refine z_ior C dX12_readOther_63 ?_
          obtain ⟨b3, h⟩ := z_chk_some h
          obtain ⟨σ4, eσ4, h⟩ := z_let_some h
          refine z_iast C rfl rfl b3 eσ4 dX12_readOther_64 ?_
          refine z_aload_n C dX12_readOther_65 rfl rfl ?_
          obtain ⟨⟨⟩, σ6, mσ6, h⟩ := z_bnd2 h
          refine z_cvv (As := []) (c := 0) (st := []) C (t12_reads mσ6) kvX12_reads rfl mlX12_213 z_CF12 rfl rfl (by decide) rfl (Nat.le_of_ble_eq_true rfl) dX12_readOther_66 ?_
          refine z_iconst (v := 0) C dX12_readOther_69 (by decide) ?_
          exact z_iret C h dX12_readOther_70
        · replace h := z_pos hc h
          refine z_kill (lo' := [some (.ref (z_a X 0)), none]) [1] rfl ?_
          exact t12_readOther_J36 C σ h
    · replace h := z_neg hc h
      refine z_aload_n C dX12_readOther_8 rfl rfl ?_
      refine z_iconst (v := 1) C dX12_readOther_9 (by decide) ?_
      obtain ⟨r7, σ8, mσ8, h⟩ := z_bnd2 h
      refine z_cvi (As := [.int 1]) (c := 0) (st := []) C (t12_errs 1 mσ8) kvX12_errs rfl mlX12_206 z_CF12 rfl rfl (by decide) rfl (Nat.le_of_ble_eq_true rfl) dX12_readOther_10 ?_
      exact z_iret C h dX12_readOther_13
set_option maxHeartbeats 4000000 in
set_option maxRecDepth 100000 in
theorem t12_readReason_J89 {X : z_Ct} (C : z_Cx S2 X RX12 cX12_readReason 2 6 (some .int)) {u : Int32 × z_M} (v1 : Int32) (σ : z_M) (h : f12_readReason_J89 v1 σ = some u) : z_W S2 X 89 [some (.ref (z_a X 0)), some (.int v1)] [] σ (z_oi u) := by
  unfold f12_readReason_J89 at h
  refine z_aload_n C dX12_readReason_89 rfl rfl ?_
  refine z_geta (k := 37) (q := 17) C z_CF12 (by decide) flX12_62 rfl rfl dX12_readReason_90 ?_
  refine z_iload_n C dX12_readReason_93 rfl rfl ?_
  refine z_iconst (v := 2) C dX12_readReason_94 (by decide) ?_
  refine z_iadd C dX12_readReason_95 ?_
  refine z_aload_n C dX12_readReason_96 rfl rfl ?_
  refine z_bipush (v := 16) C dX12_readReason_97 (by decide) ?_
  refine z_iconst (v := 1) C dX12_readReason_99 (by decide) ?_
  refine z_bipush (v := 100) C dX12_readReason_100 (by decide) ?_
  obtain ⟨r1, σ2, mσ2, h⟩ := z_bnd2 h
  refine z_cvi (As := [.int 16, .int 1, .int 100]) (c := 0) (st := [.int (v1 + 2), .ref (z_a X 17)]) C (t12_readTold 16 1 100 mσ2) kvX12_readTold rfl mlX12_269 z_CF12 rfl rfl (by decide) rfl (Nat.le_of_ble_eq_true rfl) dX12_readReason_102 ?_
  obtain ⟨b3, h⟩ := z_chk_some h
  obtain ⟨σ4, eσ4, h⟩ := z_let_some h
  refine z_iast C rfl rfl b3 eσ4 dX12_readReason_105 ?_
  refine z_aload_n C dX12_readReason_106 rfl rfl ?_
  refine z_geta (k := 37) (q := 17) C z_CF12 (by decide) flX12_62 rfl rfl dX12_readReason_107 ?_
  refine z_iload_n C dX12_readReason_110 rfl rfl ?_
  refine z_iconst (v := 2) C dX12_readReason_111 (by decide) ?_
  refine z_iadd C dX12_readReason_112 ?_
  obtain ⟨b5, h⟩ := z_chk_some h
  refine z_iald C rfl rfl b5 dX12_readReason_113 ?_
  refine z_iconst (v := (-1)) C dX12_readReason_114 (by decide) ?_
  refine z_icmp_ne (tgt := 122) C dX12_readReason_115 (by decide) (fun hc => ?_) (fun hc => ?_)
  · replace h := z_neg hc h
    refine z_aload_n C dX12_readReason_122 rfl rfl ?_
    refine z_bipush (v := 59) C dX12_readReason_123 (by decide) ?_
    obtain ⟨r6, σ7, mσ7, h⟩ := z_bnd2 h
    refine z_cvi (As := [.int 59]) (c := 0) (st := []) C (t12_readMark 59 mσ7) kvX12_readMark rfl mlX12_266 z_CF12 rfl rfl (by decide) rfl (Nat.le_of_ble_eq_true rfl) dX12_readReason_125 ?_
    exact z_iret C h dX12_readReason_128
  · replace h := z_pos hc h
    refine z_iconst (v := (-1)) C dX12_readReason_118 (by decide) ?_
    refine z_goto (tgt := 128) C dX12_readReason_119 (by decide) ?_
    exact z_iret C h dX12_readReason_128
set_option maxHeartbeats 4000000 in
set_option maxRecDepth 100000 in
theorem t12_readReason_L66 {X : z_Ct} (C : z_Cx S2 X RX12 cX12_readReason 2 6 (some .int)) {u : Int32 × z_M} : ∀ (n : Nat) (v1 : Int32) (σ : z_M), f12_readReason_L66 n v1 σ = some u → z_W S2 X 66 [some (.ref (z_a X 0)), some (.int v1)] [] σ (z_oi u) := by
  intro n
  induction n with
  | zero => intro v1 σ h; rw [f12_readReason_L66] at h; cases h
  | succ n ih =>
    intro v1 σ h
    rw [f12_readReason_L66] at h
    refine z_aload_n C dX12_readReason_66 rfl rfl ?_
    obtain ⟨⟨⟩, σ2, mσ2, h⟩ := z_bnd2 h
    refine z_cvv (As := []) (c := 0) (st := []) C (t12_reads mσ2) kvX12_reads rfl mlX12_213 z_CF12 rfl rfl (by decide) rfl (Nat.le_of_ble_eq_true rfl) dX12_readReason_67 ?_
    refine z_aload_n C dX12_readReason_70 rfl rfl ?_
    refine z_iload_n C dX12_readReason_71 rfl rfl ?_
    obtain ⟨r3, σ4, mσ4, h⟩ := z_bnd2 h
    refine z_cvi (As := [.int v1]) (c := 0) (st := []) C (t12_readOther v1 mσ4) kvX12_readOther rfl mlX12_263 z_CF12 rfl rfl (by decide) rfl (Nat.le_of_ble_eq_true rfl) dX12_readReason_72 ?_
    refine z_iconst (v := (-1)) C dX12_readReason_75 (by decide) ?_
    refine z_icmp_ne (tgt := 81) C dX12_readReason_76 (by decide) (fun hc => ?_) (fun hc => ?_)
    · replace h := z_neg hc h
      refine z_aload_n C dX12_readReason_81 rfl rfl ?_
      refine z_iconst (v := 5) C dX12_readReason_82 (by decide) ?_
      obtain ⟨r5, σ6, mσ6, h⟩ := z_bnd2 h
      refine z_cvi (As := [.int 5]) (c := 0) (st := []) C (t12_isWord 5 mσ6) kvX12_isWord rfl mlX12_235 z_CF12 rfl rfl (by decide) rfl (Nat.le_of_ble_eq_true rfl) dX12_readReason_83 ?_
      refine z_if_ne (tgt := 66) C dX12_readReason_86 (by decide) (fun hc => ?_) (fun hc => ?_)
      · replace h := z_neg hc h
        exact ih v1 σ6 h
      · replace h := z_pos hc h
        exact t12_readReason_J89 C v1 σ6 h
    · replace h := z_pos hc h
      refine z_iconst (v := (-1)) C dX12_readReason_79 (by decide) ?_
      exact z_iret C h dX12_readReason_80
set_option maxHeartbeats 4000000 in
set_option maxRecDepth 100000 in
theorem t12_readReason {a : Nat → Nat} (p1 : Int32) {σ : z_M} {u : Int32 × z_M} (h : f12_readReason p1 σ = some u) : z_Mt yX12_readReason (z_w yX12_readReason cX12_readReason 2 (some .int)) 6 S2 a σ [.ref (a 0), .int p1] (z_oi u) := by
  refine z_head (lo := [some (.ref (a 0)), some (.int p1)]) (by decide) (Nat.le_of_ble_eq_true rfl) ?_ rfl ?_
  · intro i v hv
    exact z_loe (vs := [.ref (a 0), .int p1]) (n := 0) rfl (by simp [z_c1i, z_c1r]) i v hv
  · intro X hXa C
    subst hXa
    unfold f12_readReason at h
    refine z_aload_n C dX12_readReason_0 rfl rfl ?_
    refine z_geta (k := 37) (q := 17) C z_CF12 (by decide) flX12_62 rfl rfl dX12_readReason_1 ?_
    refine z_iload_n C dX12_readReason_4 rfl rfl ?_
    refine z_iconst (v := 1) C dX12_readReason_5 (by decide) ?_
    refine z_iadd C dX12_readReason_6 ?_
    refine z_iconst (v := 0) C dX12_readReason_7 (by decide) ?_
    obtain ⟨b1, h⟩ := z_chk_some h
    obtain ⟨σ2, eσ2, h⟩ := z_let_some h
    refine z_iast C rfl rfl b1 eσ2 dX12_readReason_8 ?_
    refine z_aload_n C dX12_readReason_9 rfl rfl ?_
    refine z_geta (k := 37) (q := 17) C z_CF12 (by decide) flX12_62 rfl rfl dX12_readReason_10 ?_
    refine z_iload_n C dX12_readReason_13 rfl rfl ?_
    refine z_iconst (v := 2) C dX12_readReason_14 (by decide) ?_
    refine z_iadd C dX12_readReason_15 ?_
    refine z_iconst (v := 0) C dX12_readReason_16 (by decide) ?_
    obtain ⟨b3, h⟩ := z_chk_some h
    obtain ⟨σ4, eσ4, h⟩ := z_let_some h
    refine z_iast C rfl rfl b3 eσ4 dX12_readReason_17 ?_
    refine z_aload_n C dX12_readReason_18 rfl rfl ?_
    refine z_bipush (v := 17) C dX12_readReason_19 (by decide) ?_
    obtain ⟨r5, σ6, mσ6, h⟩ := z_bnd2 h
    refine z_cvi (As := [.int 17]) (c := 0) (st := []) C (t12_isWord 17 mσ6) kvX12_isWord rfl mlX12_235 z_CF12 rfl rfl (by decide) rfl (Nat.le_of_ble_eq_true rfl) dX12_readReason_21 ?_
    refine z_if_eq (tgt := 51) C dX12_readReason_24 (by decide) (fun hc => ?_) (fun hc => ?_)
    · replace h := z_pos hc h
      refine z_aload_n C dX12_readReason_51 rfl rfl ?_
      refine z_bipush (v := 15) C dX12_readReason_52 (by decide) ?_
      obtain ⟨r7, σ8, mσ8, h⟩ := z_bnd2 h
      refine z_cvi (As := [.int 15]) (c := 0) (st := []) C (t12_isWord 15 mσ8) kvX12_isWord rfl mlX12_235 z_CF12 rfl rfl (by decide) rfl (Nat.le_of_ble_eq_true rfl) dX12_readReason_54 ?_
      refine z_if_ne (tgt := 66) C dX12_readReason_57 (by decide) (fun hc => ?_) (fun hc => ?_)
      · replace h := z_neg hc h
        exact t12_readReason_L66 C _ p1 σ8 h
      · replace h := z_pos hc h
        refine z_aload_n C dX12_readReason_60 rfl rfl ?_
        refine z_iconst (v := 1) C dX12_readReason_61 (by decide) ?_
        obtain ⟨r9, σ10, mσ10, h⟩ := z_bnd2 h
        refine z_cvi (As := [.int 1]) (c := 0) (st := []) C (t12_errs 1 mσ10) kvX12_errs rfl mlX12_206 z_CF12 rfl rfl (by decide) rfl (Nat.le_of_ble_eq_true rfl) dX12_readReason_62 ?_
        exact z_iret C h dX12_readReason_65
    · replace h := z_neg hc h
      refine z_aload_n C dX12_readReason_27 rfl rfl ?_
      obtain ⟨⟨⟩, σ12, mσ12, h⟩ := z_bnd2 h
      refine z_cvv (As := []) (c := 0) (st := []) C (t12_reads mσ12) kvX12_reads rfl mlX12_213 z_CF12 rfl rfl (by decide) rfl (Nat.le_of_ble_eq_true rfl) dX12_readReason_28 ?_
      refine z_aload_n C dX12_readReason_31 rfl rfl ?_
      refine z_iload_n C dX12_readReason_32 rfl rfl ?_
      obtain ⟨r13, σ14, mσ14, h⟩ := z_bnd2 h
      refine z_cvi (As := [.int p1]) (c := 0) (st := []) C (t12_readOther p1 mσ14) kvX12_readOther rfl mlX12_263 z_CF12 rfl rfl (by decide) rfl (Nat.le_of_ble_eq_true rfl) dX12_readReason_33 ?_
      refine z_iconst (v := (-1)) C dX12_readReason_36 (by decide) ?_
      refine z_icmp_ne (tgt := 44) C dX12_readReason_37 (by decide) (fun hc => ?_) (fun hc => ?_)
      · replace h := z_neg hc h
        refine z_aload_n C dX12_readReason_44 rfl rfl ?_
        refine z_bipush (v := 59) C dX12_readReason_45 (by decide) ?_
        obtain ⟨r15, σ16, mσ16, h⟩ := z_bnd2 h
        refine z_cvi (As := [.int 59]) (c := 0) (st := []) C (t12_readMark 59 mσ16) kvX12_readMark rfl mlX12_266 z_CF12 rfl rfl (by decide) rfl (Nat.le_of_ble_eq_true rfl) dX12_readReason_47 ?_
        exact z_iret C h dX12_readReason_50
      · replace h := z_pos hc h
        refine z_iconst (v := (-1)) C dX12_readReason_40 (by decide) ?_
        refine z_goto (tgt := 50) C dX12_readReason_41 (by decide) ?_
        exact z_iret C h dX12_readReason_50
set_option maxHeartbeats 4000000 in
set_option maxRecDepth 100000 in
theorem t12_readReasons_J31 {X : z_Ct} (C : z_Cx S2 X RX12 cX12_readReasons 3 7 (some .int)) {u : Int32 × z_M} (σ : z_M) (h : f12_readReasons_J31 σ = some u) : z_W S2 X 31 [some (.ref (z_a X 0)), none, none] [] σ (z_oi u) := by
  unfold f12_readReasons_J31 at h
  refine z_aload_n C dX12_readReasons_31 rfl rfl ?_
  refine z_iconst (v := 3) C dX12_readReasons_32 (by decide) ?_
  obtain ⟨r1, σ2, mσ2, h⟩ := z_bnd2 h
  refine z_cvi (As := [.int 3]) (c := 0) (st := []) C (t12_errs 3 mσ2) kvX12_errs rfl mlX12_206 z_CF12 rfl rfl (by decide) rfl (Nat.le_of_ble_eq_true rfl) dX12_readReasons_33 ?_
  exact z_iret C h dX12_readReasons_36
set_option maxHeartbeats 4000000 in
set_option maxRecDepth 100000 in
theorem t12_readReasons_J19 {X : z_Ct} (C : z_Cx S2 X RX12 cX12_readReasons 3 7 (some .int)) {u : Int32 × z_M} (σ : z_M) (h : f12_readReasons_J19 σ = some u) : z_W S2 X 19 [some (.ref (z_a X 0)), none, none] [] σ (z_oi u) := by
  unfold f12_readReasons_J19 at h
  refine z_aload_n C dX12_readReasons_19 rfl rfl ?_
  refine z_iconst (v := 2) C dX12_readReasons_20 (by decide) ?_
  obtain ⟨r1, σ2, mσ2, h⟩ := z_bnd2 h
  refine z_cvi (As := [.int 2]) (c := 0) (st := []) C (t12_errs 2 mσ2) kvX12_errs rfl mlX12_206 z_CF12 rfl rfl (by decide) rfl (Nat.le_of_ble_eq_true rfl) dX12_readReasons_21 ?_
  exact z_iret C h dX12_readReasons_24
set_option maxHeartbeats 4000000 in
set_option maxRecDepth 100000 in
theorem t12_readReasons_J76 {X : z_Ct} (C : z_Cx S2 X RX12 cX12_readReasons 3 7 (some .int)) {u : Int32 × z_M} (v1 : Int32) (σ : z_M) (h : f12_readReasons_J76 v1 σ = some u) : z_W S2 X 76 [some (.ref (z_a X 0)), some (.int v1), none] [] σ (z_oi u) := by
  unfold f12_readReasons_J76 at h
  refine z_aload_n C dX12_readReasons_76 rfl rfl ?_
  refine z_geti (k := 17) C z_CF12 (by decide) flX12_176 rfl rfl dX12_readReasons_77 ?_
  refine z_if_ne (tgt := 87) C dX12_readReasons_80 (by decide) (fun hc => ?_) (fun hc => ?_)
  · replace h := z_neg hc h
    refine z_aload_n C dX12_readReasons_87 rfl rfl ?_
    refine z_iconst (v := 1) C dX12_readReasons_88 (by decide) ?_
    obtain ⟨r1, σ2, mσ2, h⟩ := z_bnd2 h
    refine z_cvi (As := [.int 1]) (c := 0) (st := []) C (t12_errs 1 mσ2) kvX12_errs rfl mlX12_206 z_CF12 rfl rfl (by decide) rfl (Nat.le_of_ble_eq_true rfl) dX12_readReasons_89 ?_
    exact z_iret C h dX12_readReasons_92
  · replace h := z_pos hc h
    refine z_iload_n C dX12_readReasons_83 rfl rfl ?_
    refine z_goto (tgt := 92) C dX12_readReasons_84 (by decide) ?_
    exact z_iret C h dX12_readReasons_92
set_option maxHeartbeats 4000000 in
set_option maxRecDepth 100000 in
theorem t12_readReasons_L2 {X : z_Ct} (C : z_Cx S2 X RX12 cX12_readReasons 3 7 (some .int)) {u : Int32 × z_M} : ∀ (n : Nat) (v1 : Int32) (σ : z_M), f12_readReasons_L2 n v1 σ = some u → z_W S2 X 2 [some (.ref (z_a X 0)), some (.int v1), none] [] σ (z_oi u) := by
  intro n
  induction n with
  | zero => intro v1 σ h; rw [f12_readReasons_L2] at h; cases h
  | succ n ih =>
    intro v1 σ h
    rw [f12_readReasons_L2] at h
    refine z_aload_n C dX12_readReasons_2 rfl rfl ?_
    refine z_geti (k := 17) C z_CF12 (by decide) flX12_176 rfl rfl dX12_readReasons_3 ?_
    refine z_iconst (v := 3) C dX12_readReasons_6 (by decide) ?_
    refine z_icmp_ne (tgt := 76) C dX12_readReasons_7 (by decide) (fun hc => ?_) (fun hc => ?_)
    · replace h := z_neg hc h
      exact t12_readReasons_J76 C v1 σ h
    · replace h := z_pos hc h
      refine z_aload_n C dX12_readReasons_10 rfl rfl ?_
      refine z_geti (k := 18) C z_CF12 (by decide) flX12_179 rfl rfl dX12_readReasons_11 ?_
      refine z_bipush (v := 8) C dX12_readReasons_14 (by decide) ?_
      refine z_icmp_lt (tgt := 25) C dX12_readReasons_16 (by decide) (fun hc => ?_) (fun hc => ?_)
      · replace h := z_pos hc h
        refine z_iload_n C dX12_readReasons_25 rfl rfl ?_
        refine z_bipush (v := 16) C dX12_readReasons_26 (by decide) ?_
        refine z_icmp_ne (tgt := 37) C dX12_readReasons_28 (by decide) (fun hc => ?_) (fun hc => ?_)
        · replace h := z_neg hc h
          refine z_bipush (v := 48) C dX12_readReasons_37 (by decide) ?_
          refine z_iconst (v := 3) C dX12_readReasons_39 (by decide) ?_
          refine z_iload_n C dX12_readReasons_40 rfl rfl ?_
          refine z_imul C dX12_readReasons_41 ?_
          refine z_iadd C dX12_readReasons_42 ?_
          refine z_istore_n (lo' := [some (.ref (z_a X 0)), some (.int v1), some (.int (48 + (3 * v1)))]) C dX12_readReasons_43 rfl (Nat.le_of_ble_eq_true rfl) rfl ?_
          refine z_aload_n C dX12_readReasons_44 rfl rfl ?_
          refine z_geta (k := 37) (q := 17) C z_CF12 (by decide) flX12_62 rfl rfl dX12_readReasons_45 ?_
          refine z_iload_n C dX12_readReasons_48 rfl rfl ?_
          refine z_aload_n C dX12_readReasons_49 rfl rfl ?_
          refine z_geti (k := 18) C z_CF12 (by decide) flX12_179 rfl rfl dX12_readReasons_50 ?_
          obtain ⟨b1, h⟩ := z_chk_some h
          obtain ⟨σ2, eσ2, h⟩ := z_let_some h
          refine z_iast C rfl rfl b1 eσ2 dX12_readReasons_53 ?_
          refine z_aload_n C dX12_readReasons_54 rfl rfl ?_
          obtain ⟨⟨⟩, σ4, mσ4, h⟩ := z_bnd2 h
          refine z_cvv (As := []) (c := 0) (st := []) C (t12_reads mσ4) kvX12_reads rfl mlX12_213 z_CF12 rfl rfl (by decide) rfl (Nat.le_of_ble_eq_true rfl) dX12_readReasons_55 ?_
          refine z_aload_n C dX12_readReasons_58 rfl rfl ?_
          refine z_iload_n C dX12_readReasons_59 rfl rfl ?_
          obtain ⟨r5, σ6, mσ6, h⟩ := z_bnd2 h
          refine z_cvi (As := [.int (48 + (3 * v1))]) (c := 0) (st := []) C (t12_readReason (48 + (3 * v1)) mσ6) kvX12_readReason rfl mlX12_273 z_CF12 rfl rfl (by decide) rfl (Nat.le_of_ble_eq_true rfl) dX12_readReasons_60 ?_
          refine z_iconst (v := (-1)) C dX12_readReasons_63 (by decide) ?_
          refine z_icmp_ne (tgt := 69) C dX12_readReasons_64 (by decide) (fun hc => ?_) (fun hc => ?_)
          · replace h := z_neg hc h
            refine z_iload_n C dX12_readReasons_69 rfl rfl ?_
            refine z_iconst (v := 1) C dX12_readReasons_70 (by decide) ?_
            refine z_iadd C dX12_readReasons_71 ?_
            refine z_istore_n (lo' := [some (.ref (z_a X 0)), some (.int (v1 + 1)), some (.int (48 + (3 * v1)))]) C dX12_readReasons_72 rfl (Nat.le_of_ble_eq_true rfl) rfl ?_
            refine z_goto (tgt := 2) C dX12_readReasons_73 (by decide) ?_
            refine z_kill (lo' := [some (.ref (z_a X 0)), some (.int (v1 + 1)), none]) [2] rfl ?_
            exact ih (v1 + 1) σ6 h
          · replace h := z_pos hc h
            refine z_iconst (v := (-1)) C dX12_readReasons_67 (by decide) ?_
            exact z_iret C h dX12_readReasons_68
        · replace h := z_pos hc h
          refine z_kill (lo' := [some (.ref (z_a X 0)), none, none]) [1] rfl ?_
          exact t12_readReasons_J31 C σ h
      · replace h := z_neg hc h
        refine z_kill (lo' := [some (.ref (z_a X 0)), none, none]) [1] rfl ?_
        exact t12_readReasons_J19 C σ h
set_option maxHeartbeats 4000000 in
set_option maxRecDepth 100000 in
theorem t12_readReasons {a : Nat → Nat} {σ : z_M} {u : Int32 × z_M} (h : f12_readReasons σ = some u) : z_Mt yX12_readReasons (z_w yX12_readReasons cX12_readReasons 3 (some .int)) 7 S2 a σ [.ref (a 0)] (z_oi u) := by
  refine z_head (lo := [some (.ref (a 0)), none, none]) (by decide) (Nat.le_of_ble_eq_true rfl) ?_ rfl ?_
  · intro i v hv
    exact z_loe (vs := [.ref (a 0)]) (n := 2) rfl (by simp [z_c1i, z_c1r]) i v hv
  · intro X hXa C
    subst hXa
    unfold f12_readReasons at h
    refine z_iconst (v := 0) C dX12_readReasons_0 (by decide) ?_
    refine z_istore_n (lo' := [some (.ref (z_a X 0)), some (.int 0), none]) C dX12_readReasons_1 rfl (Nat.le_of_ble_eq_true rfl) rfl ?_
    exact t12_readReasons_L2 C _ 0 σ h
set_option maxHeartbeats 4000000 in
set_option maxRecDepth 100000 in
theorem t12_readWorks_J157 {X : z_Ct} (C : z_Cx S2 X RX12 cX12_readWorks 3 6 (some .int)) {u : Int32 × z_M} (v1 : Int32) (σ : z_M) (h : f12_readWorks_J157 v1 σ = some u) : z_W S2 X 157 [some (.ref (z_a X 0)), some (.int v1), none] [] σ (z_oi u) := by
  unfold f12_readWorks_J157 at h
  refine z_aload_n C dX12_readWorks_157 rfl rfl ?_
  refine z_geti (k := 17) C z_CF12 (by decide) flX12_176 rfl rfl dX12_readWorks_158 ?_
  refine z_if_ne (tgt := 168) C dX12_readWorks_161 (by decide) (fun hc => ?_) (fun hc => ?_)
  · replace h := z_neg hc h
    refine z_aload_n C dX12_readWorks_168 rfl rfl ?_
    refine z_iconst (v := 1) C dX12_readWorks_169 (by decide) ?_
    obtain ⟨r1, σ2, mσ2, h⟩ := z_bnd2 h
    refine z_cvi (As := [.int 1]) (c := 0) (st := []) C (t12_errs 1 mσ2) kvX12_errs rfl mlX12_206 z_CF12 rfl rfl (by decide) rfl (Nat.le_of_ble_eq_true rfl) dX12_readWorks_170 ?_
    exact z_iret C h dX12_readWorks_173
  · replace h := z_pos hc h
    refine z_iload_n C dX12_readWorks_164 rfl rfl ?_
    refine z_goto (tgt := 173) C dX12_readWorks_165 (by decide) ?_
    exact z_iret C h dX12_readWorks_173
set_option maxHeartbeats 4000000 in
set_option maxRecDepth 100000 in
theorem t12_readWorks_J17 {X : z_Ct} (C : z_Cx S2 X RX12 cX12_readWorks 3 6 (some .int)) {u : Int32 × z_M} (σ : z_M) (h : f12_readWorks_J17 σ = some u) : z_W S2 X 17 [some (.ref (z_a X 0)), none, none] [] σ (z_oi u) := by
  unfold f12_readWorks_J17 at h
  refine z_aload_n C dX12_readWorks_17 rfl rfl ?_
  refine z_iconst (v := 3) C dX12_readWorks_18 (by decide) ?_
  obtain ⟨r1, σ2, mσ2, h⟩ := z_bnd2 h
  refine z_cvi (As := [.int 3]) (c := 0) (st := []) C (t12_errs 3 mσ2) kvX12_errs rfl mlX12_206 z_CF12 rfl rfl (by decide) rfl (Nat.le_of_ble_eq_true rfl) dX12_readWorks_19 ?_
  exact z_iret C h dX12_readWorks_22
set_option maxHeartbeats 4000000 in
set_option maxRecDepth 100000 in
theorem t12_readWorks_J101 {X : z_Ct} (C : z_Cx S2 X RX12 cX12_readWorks 3 6 (some .int)) {u : Int32 × z_M} (σ : z_M) (h : f12_readWorks_J101 σ = some u) : z_W S2 X 101 [some (.ref (z_a X 0)), none, none] [] σ (z_oi u) := by
  unfold f12_readWorks_J101 at h
  refine z_aload_n C dX12_readWorks_101 rfl rfl ?_
  refine z_iconst (v := 1) C dX12_readWorks_102 (by decide) ?_
  obtain ⟨r1, σ2, mσ2, h⟩ := z_bnd2 h
  refine z_cvi (As := [.int 1]) (c := 0) (st := []) C (t12_errs 1 mσ2) kvX12_errs rfl mlX12_206 z_CF12 rfl rfl (by decide) rfl (Nat.le_of_ble_eq_true rfl) dX12_readWorks_103 ?_
  exact z_iret C h dX12_readWorks_106
set_option maxHeartbeats 4000000 in
set_option maxRecDepth 100000 in
theorem t12_readWorks_J107 {X : z_Ct} (C : z_Cx S2 X RX12 cX12_readWorks 3 6 (some .int)) {u : Int32 × z_M} {k2 : Int32 → z_M → Option (Int32 × z_M)} (hr2 : ∀ (v1 : Int32) (σ : z_M), k2 v1 σ = some u → z_W S2 X 2 [some (.ref (z_a X 0)), some (.int v1), none] [] σ (z_oi u)) (v1 : Int32) (v2 : Int32) (σ : z_M) (h : f12_readWorks_J107 k2 v1 v2 σ = some u) : z_W S2 X 107 [some (.ref (z_a X 0)), some (.int v1), some (.int v2)] [] σ (z_oi u) := by
  unfold f12_readWorks_J107 at h
  refine z_aload_n C dX12_readWorks_107 rfl rfl ?_
  obtain ⟨⟨⟩, σ2, mσ2, h⟩ := z_bnd2 h
  refine z_cvv (As := []) (c := 0) (st := []) C (t12_reads mσ2) kvX12_reads rfl mlX12_213 z_CF12 rfl rfl (by decide) rfl (Nat.le_of_ble_eq_true rfl) dX12_readWorks_108 ?_
  refine z_aload_n C dX12_readWorks_111 rfl rfl ?_
  refine z_geta (k := 39) (q := 18) C z_CF12 (by decide) flX12_65 rfl rfl dX12_readWorks_112 ?_
  refine z_iload_n C dX12_readWorks_115 rfl rfl ?_
  refine z_iconst (v := 2) C dX12_readWorks_116 (by decide) ?_
  refine z_iadd C dX12_readWorks_117 ?_
  refine z_aload_n C dX12_readWorks_118 rfl rfl ?_
  refine z_iconst (v := 0) C dX12_readWorks_119 (by decide) ?_
  refine z_bipush (v := 7) C dX12_readWorks_120 (by decide) ?_
  obtain ⟨r3, σ4, mσ4, h⟩ := z_bnd2 h
  refine z_cvi (As := [.int 0, .int 7]) (c := 0) (st := [.int (v2 + 2), .ref (z_a X 18)]) C (t12_readNumber 0 7 mσ4) kvX12_readNumber rfl mlX12_260 z_CF12 rfl rfl (by decide) rfl (Nat.le_of_ble_eq_true rfl) dX12_readWorks_122 ?_
  obtain ⟨b5, h⟩ := z_chk_some h
  obtain ⟨σ6, eσ6, h⟩ := z_let_some h
  refine z_iast C rfl rfl b5 eσ6 dX12_readWorks_125 ?_
  refine z_aload_n C dX12_readWorks_126 rfl rfl ?_
  refine z_geta (k := 39) (q := 18) C z_CF12 (by decide) flX12_65 rfl rfl dX12_readWorks_127 ?_
  refine z_iload_n C dX12_readWorks_130 rfl rfl ?_
  refine z_iconst (v := 2) C dX12_readWorks_131 (by decide) ?_
  refine z_iadd C dX12_readWorks_132 ?_
  obtain ⟨b7, h⟩ := z_chk_some h
  refine z_iald C rfl rfl b7 dX12_readWorks_133 ?_
  refine z_iconst (v := (-1)) C dX12_readWorks_134 (by decide) ?_
  refine z_icmp_eq (tgt := 148) C dX12_readWorks_135 (by decide) (fun hc => ?_) (fun hc => ?_)
  · replace h := z_pos hc h
    refine z_iconst (v := (-1)) C dX12_readWorks_148 (by decide) ?_
    exact z_iret C h dX12_readWorks_149
  · replace h := z_neg hc h
    refine z_aload_n C dX12_readWorks_138 rfl rfl ?_
    refine z_bipush (v := 59) C dX12_readWorks_139 (by decide) ?_
    obtain ⟨r8, σ9, mσ9, h⟩ := z_bnd2 h
    refine z_cvi (As := [.int 59]) (c := 0) (st := []) C (t12_readMark 59 mσ9) kvX12_readMark rfl mlX12_266 z_CF12 rfl rfl (by decide) rfl (Nat.le_of_ble_eq_true rfl) dX12_readWorks_141 ?_
    refine z_iconst (v := (-1)) C dX12_readWorks_144 (by decide) ?_
    refine z_icmp_ne (tgt := 150) C dX12_readWorks_145 (by decide) (fun hc => ?_) (fun hc => ?_)
    · replace h := z_neg hc h
      refine z_iload_n C dX12_readWorks_150 rfl rfl ?_
      refine z_iconst (v := 1) C dX12_readWorks_151 (by decide) ?_
      refine z_iadd C dX12_readWorks_152 ?_
      refine z_istore_n (lo' := [some (.ref (z_a X 0)), some (.int (v1 + 1)), some (.int v2)]) C dX12_readWorks_153 rfl (Nat.le_of_ble_eq_true rfl) rfl ?_
      refine z_goto (tgt := 2) C dX12_readWorks_154 (by decide) ?_
      refine z_kill (lo' := [some (.ref (z_a X 0)), some (.int (v1 + 1)), none]) [2] rfl ?_
      exact hr2 (v1 + 1) σ9 h
    · replace h := z_pos hc h
      refine z_iconst (v := (-1)) C dX12_readWorks_148 (by decide) ?_
      exact z_iret C h dX12_readWorks_149
set_option maxHeartbeats 4000000 in
set_option maxRecDepth 100000 in
theorem t12_readWorks_J82 {X : z_Ct} (C : z_Cx S2 X RX12 cX12_readWorks 3 6 (some .int)) {u : Int32 × z_M} {k2 : Int32 → z_M → Option (Int32 × z_M)} (hr2 : ∀ (v1 : Int32) (σ : z_M), k2 v1 σ = some u → z_W S2 X 2 [some (.ref (z_a X 0)), some (.int v1), none] [] σ (z_oi u)) (v1 : Int32) (v2 : Int32) (s1 : Int32) (s2 : Int32) (σ : z_M) (h : f12_readWorks_J82 k2 v1 v2 s1 s2 σ = some u) : z_W S2 X 82 [some (.ref (z_a X 0)), some (.int v1), some (.int v2)] [.int s2, .int s1, .ref (z_a X 18)] σ (z_oi u) := by
  unfold f12_readWorks_J82 at h
  obtain ⟨b1, h⟩ := z_chk_some h
  obtain ⟨σ2, eσ2, h⟩ := z_let_some h
  refine z_iast C rfl rfl b1 eσ2 dX12_readWorks_82 ?_
  refine z_aload_n C dX12_readWorks_83 rfl rfl ?_
  refine z_bipush (v := 19) C dX12_readWorks_84 (by decide) ?_
  obtain ⟨r3, σ4, mσ4, h⟩ := z_bnd2 h
  refine z_cvi (As := [.int 19]) (c := 0) (st := []) C (t12_isWord 19 mσ4) kvX12_isWord rfl mlX12_235 z_CF12 rfl rfl (by decide) rfl (Nat.le_of_ble_eq_true rfl) dX12_readWorks_86 ?_
  refine z_if_ne (tgt := 107) C dX12_readWorks_89 (by decide) (fun hc => ?_) (fun hc => ?_)
  · replace h := z_neg hc h
    exact t12_readWorks_J107 C hr2 v1 v2 σ4 h
  · replace h := z_pos hc h
    refine z_aload_n C dX12_readWorks_92 rfl rfl ?_
    refine z_bipush (v := 20) C dX12_readWorks_93 (by decide) ?_
    obtain ⟨r5, σ6, mσ6, h⟩ := z_bnd2 h
    refine z_cvi (As := [.int 20]) (c := 0) (st := []) C (t12_isWord 20 mσ6) kvX12_isWord rfl mlX12_235 z_CF12 rfl rfl (by decide) rfl (Nat.le_of_ble_eq_true rfl) dX12_readWorks_95 ?_
    refine z_if_ne (tgt := 107) C dX12_readWorks_98 (by decide) (fun hc => ?_) (fun hc => ?_)
    · replace h := z_neg hc h
      exact t12_readWorks_J107 C hr2 v1 v2 σ6 h
    · replace h := z_pos hc h
      refine z_kill (lo' := [some (.ref (z_a X 0)), none, none]) [1, 2] rfl ?_
      exact t12_readWorks_J101 C σ6 h
set_option maxHeartbeats 4000000 in
set_option maxRecDepth 100000 in
theorem t12_readWorks_L2 {X : z_Ct} (C : z_Cx S2 X RX12 cX12_readWorks 3 6 (some .int)) {u : Int32 × z_M} : ∀ (n : Nat) (v1 : Int32) (σ : z_M), f12_readWorks_L2 n v1 σ = some u → z_W S2 X 2 [some (.ref (z_a X 0)), some (.int v1), none] [] σ (z_oi u) := by
  intro n
  induction n with
  | zero => intro v1 σ h; rw [f12_readWorks_L2] at h; cases h
  | succ n ih =>
    intro v1 σ h
    rw [f12_readWorks_L2] at h
    refine z_aload_n C dX12_readWorks_2 rfl rfl ?_
    refine z_bipush (v := 18) C dX12_readWorks_3 (by decide) ?_
    obtain ⟨r1, σ2, mσ2, h⟩ := z_bnd2 h
    refine z_cvi (As := [.int 18]) (c := 0) (st := []) C (t12_isWord 18 mσ2) kvX12_isWord rfl mlX12_235 z_CF12 rfl rfl (by decide) rfl (Nat.le_of_ble_eq_true rfl) dX12_readWorks_5 ?_
    refine z_if_eq (tgt := 157) C dX12_readWorks_8 (by decide) (fun hc => ?_) (fun hc => ?_)
    · replace h := z_pos hc h
      exact t12_readWorks_J157 C v1 σ2 h
    · replace h := z_neg hc h
      refine z_iload_n C dX12_readWorks_11 rfl rfl ?_
      refine z_bipush (v := 12) C dX12_readWorks_12 (by decide) ?_
      refine z_icmp_ne (tgt := 23) C dX12_readWorks_14 (by decide) (fun hc => ?_) (fun hc => ?_)
      · replace h := z_neg hc h
        refine z_bipush (v := 36) C dX12_readWorks_23 (by decide) ?_
        refine z_iconst (v := 3) C dX12_readWorks_25 (by decide) ?_
        refine z_iload_n C dX12_readWorks_26 rfl rfl ?_
        refine z_imul C dX12_readWorks_27 ?_
        refine z_iadd C dX12_readWorks_28 ?_
        refine z_istore_n (lo' := [some (.ref (z_a X 0)), some (.int v1), some (.int (36 + (3 * v1)))]) C dX12_readWorks_29 rfl (Nat.le_of_ble_eq_true rfl) rfl ?_
        refine z_aload_n C dX12_readWorks_30 rfl rfl ?_
        refine z_geta (k := 39) (q := 18) C z_CF12 (by decide) flX12_65 rfl rfl dX12_readWorks_31 ?_
        refine z_iload_n C dX12_readWorks_34 rfl rfl ?_
        refine z_aload_n C dX12_readWorks_35 rfl rfl ?_
        refine z_bipush (v := 18) C dX12_readWorks_36 (by decide) ?_
        refine z_iconst (v := 0) C dX12_readWorks_38 (by decide) ?_
        refine z_aload_n C dX12_readWorks_39 rfl rfl ?_
        refine z_geti (k := 6) C z_CF12 (by decide) flX12_131 rfl rfl dX12_readWorks_40 ?_
        refine z_iconst (v := 1) C dX12_readWorks_43 (by decide) ?_
        refine z_isub C dX12_readWorks_44 ?_
        obtain ⟨r3, σ4, mσ4, h⟩ := z_bnd2 h
        refine z_cvi (As := [.int 18, .int 0, .int ((σ2 0 6) - 1)]) (c := 0) (st := [.int (36 + (3 * v1)), .ref (z_a X 18)]) C (t12_readTold 18 0 ((σ2 0 6) - 1) mσ4) kvX12_readTold rfl mlX12_269 z_CF12 rfl rfl (by decide) rfl (Nat.le_of_ble_eq_true rfl) dX12_readWorks_45 ?_
        obtain ⟨b5, h⟩ := z_chk_some h
        obtain ⟨σ6, eσ6, h⟩ := z_let_some h
        refine z_iast C rfl rfl b5 eσ6 dX12_readWorks_48 ?_
        refine z_aload_n C dX12_readWorks_49 rfl rfl ?_
        refine z_geta (k := 39) (q := 18) C z_CF12 (by decide) flX12_65 rfl rfl dX12_readWorks_50 ?_
        refine z_iload_n C dX12_readWorks_53 rfl rfl ?_
        obtain ⟨b7, h⟩ := z_chk_some h
        refine z_iald C rfl rfl b7 dX12_readWorks_54 ?_
        refine z_iconst (v := (-1)) C dX12_readWorks_55 (by decide) ?_
        refine z_icmp_ne (tgt := 61) C dX12_readWorks_56 (by decide) (fun hc => ?_) (fun hc => ?_)
        · replace h := z_neg hc h
          refine z_aload_n C dX12_readWorks_61 rfl rfl ?_
          refine z_geta (k := 39) (q := 18) C z_CF12 (by decide) flX12_65 rfl rfl dX12_readWorks_62 ?_
          refine z_iload_n C dX12_readWorks_65 rfl rfl ?_
          refine z_iconst (v := 1) C dX12_readWorks_66 (by decide) ?_
          refine z_iadd C dX12_readWorks_67 ?_
          refine z_aload_n C dX12_readWorks_68 rfl rfl ?_
          refine z_bipush (v := 19) C dX12_readWorks_69 (by decide) ?_
          obtain ⟨r8, σ9, mσ9, h⟩ := z_bnd2 h
          refine z_cvi (As := [.int 19]) (c := 0) (st := [.int ((36 + (3 * v1)) + 1), .ref (z_a X 18)]) C (t12_isWord 19 mσ9) kvX12_isWord rfl mlX12_235 z_CF12 rfl rfl (by decide) rfl (Nat.le_of_ble_eq_true rfl) dX12_readWorks_71 ?_
          refine z_if_eq (tgt := 81) C dX12_readWorks_74 (by decide) (fun hc => ?_) (fun hc => ?_)
          · replace h := z_pos hc h
            refine z_iconst (v := 0) C dX12_readWorks_81 (by decide) ?_
            exact t12_readWorks_J82 C ih v1 (36 + (3 * v1)) ((36 + (3 * v1)) + 1) 0 σ9 h
          · replace h := z_neg hc h
            refine z_iconst (v := 1) C dX12_readWorks_77 (by decide) ?_
            refine z_goto (tgt := 82) C dX12_readWorks_78 (by decide) ?_
            exact t12_readWorks_J82 C ih v1 (36 + (3 * v1)) ((36 + (3 * v1)) + 1) 1 σ9 h
        · replace h := z_pos hc h
          refine z_iconst (v := (-1)) C dX12_readWorks_59 (by decide) ?_
          exact z_iret C h dX12_readWorks_60
      · replace h := z_pos hc h
        refine z_kill (lo' := [some (.ref (z_a X 0)), none, none]) [1] rfl ?_
        exact t12_readWorks_J17 C σ2 h
set_option maxHeartbeats 4000000 in
set_option maxRecDepth 100000 in
theorem t12_readWorks {a : Nat → Nat} {σ : z_M} {u : Int32 × z_M} (h : f12_readWorks σ = some u) : z_Mt yX12_readWorks (z_w yX12_readWorks cX12_readWorks 3 (some .int)) 6 S2 a σ [.ref (a 0)] (z_oi u) := by
  refine z_head (lo := [some (.ref (a 0)), none, none]) (by decide) (Nat.le_of_ble_eq_true rfl) ?_ rfl ?_
  · intro i v hv
    exact z_loe (vs := [.ref (a 0)]) (n := 2) rfl (by simp [z_c1i, z_c1r]) i v hv
  · intro X hXa C
    subst hXa
    unfold f12_readWorks at h
    refine z_iconst (v := 0) C dX12_readWorks_0 (by decide) ?_
    refine z_istore_n (lo' := [some (.ref (z_a X 0)), some (.int 0), none]) C dX12_readWorks_1 rfl (Nat.le_of_ble_eq_true rfl) rfl ?_
    exact t12_readWorks_L2 C _ 0 σ h
set_option maxHeartbeats 4000000 in
set_option maxRecDepth 100000 in
theorem t12_kindOf {a : Nat → Nat} (p1 : Int32) {σ : z_M} {u : Int32 × z_M} (h : f12_kindOf p1 σ = some u) : z_Mt yX12_kindOf (z_w yX12_kindOf cX12_kindOf 2 (some .int)) 1 S2 a σ [.ref (a 0), .int p1] (z_oi u) := by
  refine z_head (lo := [some (.ref (a 0)), some (.int p1)]) (by decide) (Nat.le_of_ble_eq_true rfl) ?_ rfl ?_
  · intro i v hv
    exact z_loe (vs := [.ref (a 0), .int p1]) (n := 0) rfl (by simp [z_c1i, z_c1r]) i v hv
  · intro X hXa C
    subst hXa
    unfold f12_kindOf at h
    refine z_iload_n C dX12_kindOf_0 rfl rfl ?_
    refine z_bipush (v := 22) C dX12_kindOf_1 (by decide) ?_
    refine z_icmp_ne (tgt := 10) C dX12_kindOf_3 (by decide) (fun hc => ?_) (fun hc => ?_)
    · replace h := z_neg hc h
      refine z_iload_n C dX12_kindOf_10 rfl rfl ?_
      refine z_bipush (v := 9) C dX12_kindOf_11 (by decide) ?_
      refine z_icmp_ne (tgt := 20) C dX12_kindOf_13 (by decide) (fun hc => ?_) (fun hc => ?_)
      · replace h := z_neg hc h
        refine z_iload_n C dX12_kindOf_20 rfl rfl ?_
        refine z_bipush (v := 25) C dX12_kindOf_21 (by decide) ?_
        refine z_icmp_ne (tgt := 30) C dX12_kindOf_23 (by decide) (fun hc => ?_) (fun hc => ?_)
        · replace h := z_neg hc h
          refine z_iload_n C dX12_kindOf_30 rfl rfl ?_
          refine z_bipush (v := 26) C dX12_kindOf_31 (by decide) ?_
          refine z_icmp_ne (tgt := 40) C dX12_kindOf_33 (by decide) (fun hc => ?_) (fun hc => ?_)
          · replace h := z_neg hc h
            refine z_iconst (v := (-1)) C dX12_kindOf_40 (by decide) ?_
            exact z_iret C h dX12_kindOf_41
          · replace h := z_pos hc h
            refine z_iconst (v := 3) C dX12_kindOf_36 (by decide) ?_
            refine z_goto (tgt := 41) C dX12_kindOf_37 (by decide) ?_
            exact z_iret C h dX12_kindOf_41
        · replace h := z_pos hc h
          refine z_iconst (v := 1) C dX12_kindOf_26 (by decide) ?_
          refine z_goto (tgt := 41) C dX12_kindOf_27 (by decide) ?_
          exact z_iret C h dX12_kindOf_41
      · replace h := z_pos hc h
        refine z_iconst (v := 2) C dX12_kindOf_16 (by decide) ?_
        refine z_goto (tgt := 41) C dX12_kindOf_17 (by decide) ?_
        exact z_iret C h dX12_kindOf_41
    · replace h := z_pos hc h
      refine z_iconst (v := 0) C dX12_kindOf_6 (by decide) ?_
      refine z_goto (tgt := 41) C dX12_kindOf_7 (by decide) ?_
      exact z_iret C h dX12_kindOf_41
set_option maxHeartbeats 4000000 in
set_option maxRecDepth 100000 in
theorem t12_readDeed_J67 {X : z_Ct} (C : z_Cx S2 X RX12 cX12_readDeed 3 6 (some .int)) {u : Int32 × z_M} (v1 : Int32) (σ : z_M) (h : f12_readDeed_J67 v1 σ = some u) : z_W S2 X 67 [some (.ref (z_a X 0)), some (.int v1), none] [] σ (z_oi u) := by
  unfold f12_readDeed_J67 at h
  refine z_aload_n C dX12_readDeed_67 rfl rfl ?_
  refine z_geta (k := 41) (q := 19) C z_CF12 (by decide) flX12_68 rfl rfl dX12_readDeed_68 ?_
  refine z_iload_n C dX12_readDeed_71 rfl rfl ?_
  refine z_iconst (v := 3) C dX12_readDeed_72 (by decide) ?_
  refine z_iadd C dX12_readDeed_73 ?_
  obtain ⟨b1, h⟩ := z_chk_some h
  refine z_iald C rfl rfl b1 dX12_readDeed_74 ?_
  exact z_iret C h dX12_readDeed_75
set_option maxHeartbeats 4000000 in
set_option maxRecDepth 100000 in
theorem t12_readDeed_J108 {X : z_Ct} (C : z_Cx S2 X RX12 cX12_readDeed 3 6 (some .int)) {u : Int32 × z_M} (v1 : Int32) (s1 : Int32) (s2 : Int32) (σ : z_M) (h : f12_readDeed_J108 v1 s1 s2 σ = some u) : z_W S2 X 108 [some (.ref (z_a X 0)), some (.int v1), none] [.int s2, .int s1, .ref (z_a X 19)] σ (z_oi u) := by
  unfold f12_readDeed_J108 at h
  obtain ⟨b1, h⟩ := z_chk_some h
  obtain ⟨σ2, eσ2, h⟩ := z_let_some h
  refine z_iast C rfl rfl b1 eσ2 dX12_readDeed_108 ?_
  refine z_aload_n C dX12_readDeed_109 rfl rfl ?_
  refine z_geta (k := 41) (q := 19) C z_CF12 (by decide) flX12_68 rfl rfl dX12_readDeed_110 ?_
  refine z_iload_n C dX12_readDeed_113 rfl rfl ?_
  refine z_iconst (v := 4) C dX12_readDeed_114 (by decide) ?_
  refine z_iadd C dX12_readDeed_115 ?_
  obtain ⟨b3, h⟩ := z_chk_some h
  refine z_iald C rfl rfl b3 dX12_readDeed_116 ?_
  exact z_iret C h dX12_readDeed_117
set_option maxHeartbeats 4000000 in
set_option maxRecDepth 100000 in
theorem t12_readDeed_J49 {X : z_Ct} (C : z_Cx S2 X RX12 cX12_readDeed 3 6 (some .int)) {u : Int32 × z_M} (v1 : Int32) (v2 : Int32) (s1 : Int32) (s2 : Int32) (σ : z_M) (h : f12_readDeed_J49 v1 v2 s1 s2 σ = some u) : z_W S2 X 49 [some (.ref (z_a X 0)), some (.int v1), some (.int v2)] [.int s2, .int s1, .ref (z_a X 19)] σ (z_oi u) := by
  unfold f12_readDeed_J49 at h
  obtain ⟨b1, h⟩ := z_chk_some h
  obtain ⟨σ2, eσ2, h⟩ := z_let_some h
  refine z_iast C rfl rfl b1 eσ2 dX12_readDeed_49 ?_
  refine z_aload_n C dX12_readDeed_50 rfl rfl ?_
  refine z_geta (k := 41) (q := 19) C z_CF12 (by decide) flX12_68 rfl rfl dX12_readDeed_51 ?_
  refine z_iload_n C dX12_readDeed_54 rfl rfl ?_
  refine z_iconst (v := 3) C dX12_readDeed_55 (by decide) ?_
  refine z_iadd C dX12_readDeed_56 ?_
  obtain ⟨b3, h⟩ := z_chk_some h
  refine z_iald C rfl rfl b3 dX12_readDeed_57 ?_
  refine z_iconst (v := (-1)) C dX12_readDeed_58 (by decide) ?_
  refine z_icmp_eq (tgt := 67) C dX12_readDeed_59 (by decide) (fun hc => ?_) (fun hc => ?_)
  · replace h := z_pos hc h
    refine z_kill (lo' := [some (.ref (z_a X 0)), some (.int v1), none]) [2] rfl ?_
    exact t12_readDeed_J67 C v1 σ2 h
  · replace h := z_neg hc h
    refine z_iload_n C dX12_readDeed_62 rfl rfl ?_
    refine z_iconst (v := 2) C dX12_readDeed_63 (by decide) ?_
    refine z_icmp_ne (tgt := 76) C dX12_readDeed_64 (by decide) (fun hc => ?_) (fun hc => ?_)
    · replace h := z_neg hc h
      refine z_aload_n C dX12_readDeed_76 rfl rfl ?_
      refine z_geta (k := 41) (q := 19) C z_CF12 (by decide) flX12_68 rfl rfl dX12_readDeed_77 ?_
      refine z_iload_n C dX12_readDeed_80 rfl rfl ?_
      refine z_iconst (v := 4) C dX12_readDeed_81 (by decide) ?_
      refine z_iadd C dX12_readDeed_82 ?_
      refine z_iload_n C dX12_readDeed_83 rfl rfl ?_
      refine z_if_ne (tgt := 99) C dX12_readDeed_84 (by decide) (fun hc => ?_) (fun hc => ?_)
      · replace h := z_neg hc h
        refine z_aload_n C dX12_readDeed_99 rfl rfl ?_
        refine z_bipush (v := 27) C dX12_readDeed_100 (by decide) ?_
        refine z_iconst (v := 0) C dX12_readDeed_102 (by decide) ?_
        refine z_bipush (v := 100) C dX12_readDeed_103 (by decide) ?_
        obtain ⟨r4, σ5, mσ5, h⟩ := z_bnd2 h
        refine z_cvi (As := [.int 27, .int 0, .int 100]) (c := 0) (st := [.int (v1 + 4), .ref (z_a X 19)]) C (t12_readTold 27 0 100 mσ5) kvX12_readTold rfl mlX12_269 z_CF12 rfl rfl (by decide) rfl (Nat.le_of_ble_eq_true rfl) dX12_readDeed_105 ?_
        refine z_kill (lo' := [some (.ref (z_a X 0)), some (.int v1), none]) [2] rfl ?_
        exact t12_readDeed_J108 C v1 (v1 + 4) r4 σ5 h
      · replace h := z_pos hc h
        refine z_aload_n C dX12_readDeed_87 rfl rfl ?_
        refine z_bipush (v := 8) C dX12_readDeed_88 (by decide) ?_
        refine z_iconst (v := 0) C dX12_readDeed_90 (by decide) ?_
        refine z_bipush (v := 9) C dX12_readDeed_91 (by decide) ?_
        obtain ⟨r6, σ7, mσ7, h⟩ := z_bnd2 h
        refine z_cvi (As := [.int 8, .int 0, .int 9]) (c := 0) (st := [.int (v1 + 4), .ref (z_a X 19)]) C (t12_readTold 8 0 9 mσ7) kvX12_readTold rfl mlX12_269 z_CF12 rfl rfl (by decide) rfl (Nat.le_of_ble_eq_true rfl) dX12_readDeed_93 ?_
        refine z_goto (tgt := 108) C dX12_readDeed_96 (by decide) ?_
        refine z_kill (lo' := [some (.ref (z_a X 0)), some (.int v1), none]) [2] rfl ?_
        exact t12_readDeed_J108 C v1 (v1 + 4) r6 σ7 h
    · replace h := z_pos hc h
      refine z_kill (lo' := [some (.ref (z_a X 0)), some (.int v1), none]) [2] rfl ?_
      exact t12_readDeed_J67 C v1 σ2 h
set_option maxHeartbeats 4000000 in
set_option maxRecDepth 100000 in
theorem t12_readDeed {a : Nat → Nat} (p1 : Int32) {σ : z_M} {u : Int32 × z_M} (h : f12_readDeed p1 σ = some u) : z_Mt yX12_readDeed (z_w yX12_readDeed cX12_readDeed 3 (some .int)) 6 S2 a σ [.ref (a 0), .int p1] (z_oi u) := by
  refine z_head (lo := [some (.ref (a 0)), some (.int p1), none]) (by decide) (Nat.le_of_ble_eq_true rfl) ?_ rfl ?_
  · intro i v hv
    exact z_loe (vs := [.ref (a 0), .int p1]) (n := 1) rfl (by simp [z_c1i, z_c1r]) i v hv
  · intro X hXa C
    subst hXa
    unfold f12_readDeed at h
    refine z_aload_n C dX12_readDeed_0 rfl rfl ?_
    refine z_geta (k := 41) (q := 19) C z_CF12 (by decide) flX12_68 rfl rfl dX12_readDeed_1 ?_
    refine z_iload_n C dX12_readDeed_4 rfl rfl ?_
    refine z_iconst (v := 1) C dX12_readDeed_5 (by decide) ?_
    refine z_iadd C dX12_readDeed_6 ?_
    obtain ⟨b1, h⟩ := z_chk_some h
    refine z_iald C rfl rfl b1 dX12_readDeed_7 ?_
    refine z_istore_n (lo' := [some (.ref (z_a X 0)), some (.int p1), some (.int (σ 19 (z_ix (p1 + 1))))]) C dX12_readDeed_8 rfl (Nat.le_of_ble_eq_true rfl) rfl ?_
    refine z_iload_n C dX12_readDeed_9 rfl rfl ?_
    refine z_iconst (v := 1) C dX12_readDeed_10 (by decide) ?_
    refine z_icmp_ne (tgt := 16) C dX12_readDeed_11 (by decide) (fun hc => ?_) (fun hc => ?_)
    · replace h := z_neg hc h
      refine z_aload_n C dX12_readDeed_16 rfl rfl ?_
      refine z_geta (k := 41) (q := 19) C z_CF12 (by decide) flX12_68 rfl rfl dX12_readDeed_17 ?_
      refine z_iload_n C dX12_readDeed_20 rfl rfl ?_
      refine z_iconst (v := 3) C dX12_readDeed_21 (by decide) ?_
      refine z_iadd C dX12_readDeed_22 ?_
      refine z_iload_n C dX12_readDeed_23 rfl rfl ?_
      refine z_iconst (v := 2) C dX12_readDeed_24 (by decide) ?_
      refine z_icmp_ne (tgt := 40) C dX12_readDeed_25 (by decide) (fun hc => ?_) (fun hc => ?_)
      · replace h := z_neg hc h
        refine z_aload_n C dX12_readDeed_40 rfl rfl ?_
        refine z_bipush (v := 23) C dX12_readDeed_41 (by decide) ?_
        refine z_iconst (v := 0) C dX12_readDeed_43 (by decide) ?_
        refine z_bipush (v := 7) C dX12_readDeed_44 (by decide) ?_
        obtain ⟨r2, σ3, mσ3, h⟩ := z_bnd2 h
        refine z_cvi (As := [.int 23, .int 0, .int 7]) (c := 0) (st := [.int (p1 + 3), .ref (z_a X 19)]) C (t12_readTold 23 0 7 mσ3) kvX12_readTold rfl mlX12_269 z_CF12 rfl rfl (by decide) rfl (Nat.le_of_ble_eq_true rfl) dX12_readDeed_46 ?_
        exact t12_readDeed_J49 C p1 (σ 19 (z_ix (p1 + 1))) (p1 + 3) r2 σ3 h
      · replace h := z_pos hc h
        refine z_aload_n C dX12_readDeed_28 rfl rfl ?_
        refine z_bipush (v := 24) C dX12_readDeed_29 (by decide) ?_
        refine z_iconst (v := 1) C dX12_readDeed_31 (by decide) ?_
        refine z_bipush (v := 99) C dX12_readDeed_32 (by decide) ?_
        obtain ⟨r4, σ5, mσ5, h⟩ := z_bnd2 h
        refine z_cvi (As := [.int 24, .int 1, .int 99]) (c := 0) (st := [.int (p1 + 3), .ref (z_a X 19)]) C (t12_readTold 24 1 99 mσ5) kvX12_readTold rfl mlX12_269 z_CF12 rfl rfl (by decide) rfl (Nat.le_of_ble_eq_true rfl) dX12_readDeed_34 ?_
        refine z_goto (tgt := 49) C dX12_readDeed_37 (by decide) ?_
        exact t12_readDeed_J49 C p1 (σ 19 (z_ix (p1 + 1))) (p1 + 3) r4 σ5 h
    · replace h := z_pos hc h
      refine z_iconst (v := 0) C dX12_readDeed_14 (by decide) ?_
      exact z_iret C h dX12_readDeed_15
set_option maxHeartbeats 4000000 in
set_option maxRecDepth 100000 in
theorem t12_readPlanLine_J55 {X : z_Ct} (C : z_Cx S2 X RX12 cX12_readPlanLine 2 7 (some .int)) {u : Int32 × z_M} (v1 : Int32) (s1 : Int32) (s2 : Int32) (σ : z_M) (h : f12_readPlanLine_J55 v1 s1 s2 σ = some u) : z_W S2 X 55 [some (.ref (z_a X 0)), some (.int v1)] [.int s2, .int s1, .ref (z_a X 19)] σ (z_oi u) := by
  unfold f12_readPlanLine_J55 at h
  obtain ⟨b1, h⟩ := z_chk_some h
  obtain ⟨σ2, eσ2, h⟩ := z_let_some h
  refine z_iast C rfl rfl b1 eσ2 dX12_readPlanLine_55 ?_
  refine z_aload_n C dX12_readPlanLine_56 rfl rfl ?_
  refine z_geta (k := 41) (q := 19) C z_CF12 (by decide) flX12_68 rfl rfl dX12_readPlanLine_57 ?_
  refine z_iload_n C dX12_readPlanLine_60 rfl rfl ?_
  refine z_iconst (v := 1) C dX12_readPlanLine_61 (by decide) ?_
  refine z_iadd C dX12_readPlanLine_62 ?_
  obtain ⟨b3, h⟩ := z_chk_some h
  refine z_iald C rfl rfl b3 dX12_readPlanLine_63 ?_
  refine z_iconst (v := (-1)) C dX12_readPlanLine_64 (by decide) ?_
  refine z_icmp_ne (tgt := 74) C dX12_readPlanLine_65 (by decide) (fun hc => ?_) (fun hc => ?_)
  · replace h := z_neg hc h
    refine z_aload_n C dX12_readPlanLine_74 rfl rfl ?_
    obtain ⟨⟨⟩, σ5, mσ5, h⟩ := z_bnd2 h
    refine z_cvv (As := []) (c := 0) (st := []) C (t12_reads mσ5) kvX12_reads rfl mlX12_213 z_CF12 rfl rfl (by decide) rfl (Nat.le_of_ble_eq_true rfl) dX12_readPlanLine_75 ?_
    refine z_aload_n C dX12_readPlanLine_78 rfl rfl ?_
    refine z_geta (k := 41) (q := 19) C z_CF12 (by decide) flX12_68 rfl rfl dX12_readPlanLine_79 ?_
    refine z_iload_n C dX12_readPlanLine_82 rfl rfl ?_
    refine z_iconst (v := 2) C dX12_readPlanLine_83 (by decide) ?_
    refine z_iadd C dX12_readPlanLine_84 ?_
    refine z_aload_n C dX12_readPlanLine_85 rfl rfl ?_
    refine z_iconst (v := 0) C dX12_readPlanLine_86 (by decide) ?_
    refine z_aload_n C dX12_readPlanLine_87 rfl rfl ?_
    refine z_geti (k := 6) C z_CF12 (by decide) flX12_131 rfl rfl dX12_readPlanLine_88 ?_
    refine z_iconst (v := 1) C dX12_readPlanLine_91 (by decide) ?_
    refine z_isub C dX12_readPlanLine_92 ?_
    obtain ⟨r6, σ7, mσ7, h⟩ := z_bnd2 h
    refine z_cvi (As := [.int 0, .int ((σ5 0 6) - 1)]) (c := 0) (st := [.int (v1 + 2), .ref (z_a X 19)]) C (t12_readNumber 0 ((σ5 0 6) - 1) mσ7) kvX12_readNumber rfl mlX12_260 z_CF12 rfl rfl (by decide) rfl (Nat.le_of_ble_eq_true rfl) dX12_readPlanLine_93 ?_
    obtain ⟨b8, h⟩ := z_chk_some h
    obtain ⟨σ9, eσ9, h⟩ := z_let_some h
    refine z_iast C rfl rfl b8 eσ9 dX12_readPlanLine_96 ?_
    refine z_aload_n C dX12_readPlanLine_97 rfl rfl ?_
    refine z_geta (k := 41) (q := 19) C z_CF12 (by decide) flX12_68 rfl rfl dX12_readPlanLine_98 ?_
    refine z_iload_n C dX12_readPlanLine_101 rfl rfl ?_
    refine z_iconst (v := 2) C dX12_readPlanLine_102 (by decide) ?_
    refine z_iadd C dX12_readPlanLine_103 ?_
    obtain ⟨b10, h⟩ := z_chk_some h
    refine z_iald C rfl rfl b10 dX12_readPlanLine_104 ?_
    refine z_iconst (v := (-1)) C dX12_readPlanLine_105 (by decide) ?_
    refine z_icmp_ne (tgt := 111) C dX12_readPlanLine_106 (by decide) (fun hc => ?_) (fun hc => ?_)
    · replace h := z_neg hc h
      refine z_aload_n C dX12_readPlanLine_111 rfl rfl ?_
      refine z_geta (k := 41) (q := 19) C z_CF12 (by decide) flX12_68 rfl rfl dX12_readPlanLine_112 ?_
      refine z_iload_n C dX12_readPlanLine_115 rfl rfl ?_
      refine z_iconst (v := 3) C dX12_readPlanLine_116 (by decide) ?_
      refine z_iadd C dX12_readPlanLine_117 ?_
      refine z_iconst (v := 0) C dX12_readPlanLine_118 (by decide) ?_
      obtain ⟨b11, h⟩ := z_chk_some h
      obtain ⟨σ12, eσ12, h⟩ := z_let_some h
      refine z_iast C rfl rfl b11 eσ12 dX12_readPlanLine_119 ?_
      refine z_aload_n C dX12_readPlanLine_120 rfl rfl ?_
      refine z_geta (k := 41) (q := 19) C z_CF12 (by decide) flX12_68 rfl rfl dX12_readPlanLine_121 ?_
      refine z_iload_n C dX12_readPlanLine_124 rfl rfl ?_
      refine z_iconst (v := 4) C dX12_readPlanLine_125 (by decide) ?_
      refine z_iadd C dX12_readPlanLine_126 ?_
      refine z_iconst (v := 0) C dX12_readPlanLine_127 (by decide) ?_
      obtain ⟨b13, h⟩ := z_chk_some h
      obtain ⟨σ14, eσ14, h⟩ := z_let_some h
      refine z_iast C rfl rfl b13 eσ14 dX12_readPlanLine_128 ?_
      refine z_aload_n C dX12_readPlanLine_129 rfl rfl ?_
      refine z_iload_n C dX12_readPlanLine_130 rfl rfl ?_
      obtain ⟨r15, σ16, mσ16, h⟩ := z_bnd2 h
      refine z_cvi (As := [.int v1]) (c := 0) (st := []) C (t12_readDeed v1 mσ16) kvX12_readDeed rfl mlX12_279 z_CF12 rfl rfl (by decide) rfl (Nat.le_of_ble_eq_true rfl) dX12_readPlanLine_131 ?_
      refine z_iconst (v := (-1)) C dX12_readPlanLine_134 (by decide) ?_
      refine z_icmp_ne (tgt := 142) C dX12_readPlanLine_135 (by decide) (fun hc => ?_) (fun hc => ?_)
      · replace h := z_neg hc h
        refine z_aload_n C dX12_readPlanLine_142 rfl rfl ?_
        refine z_bipush (v := 59) C dX12_readPlanLine_143 (by decide) ?_
        obtain ⟨r17, σ18, mσ18, h⟩ := z_bnd2 h
        refine z_cvi (As := [.int 59]) (c := 0) (st := []) C (t12_readMark 59 mσ18) kvX12_readMark rfl mlX12_266 z_CF12 rfl rfl (by decide) rfl (Nat.le_of_ble_eq_true rfl) dX12_readPlanLine_145 ?_
        exact z_iret C h dX12_readPlanLine_148
      · replace h := z_pos hc h
        refine z_iconst (v := (-1)) C dX12_readPlanLine_138 (by decide) ?_
        refine z_goto (tgt := 148) C dX12_readPlanLine_139 (by decide) ?_
        exact z_iret C h dX12_readPlanLine_148
    · replace h := z_pos hc h
      refine z_iconst (v := (-1)) C dX12_readPlanLine_109 (by decide) ?_
      exact z_iret C h dX12_readPlanLine_110
  · replace h := z_pos hc h
    refine z_aload_n C dX12_readPlanLine_68 rfl rfl ?_
    refine z_iconst (v := 1) C dX12_readPlanLine_69 (by decide) ?_
    obtain ⟨r19, σ20, mσ20, h⟩ := z_bnd2 h
    refine z_cvi (As := [.int 1]) (c := 0) (st := []) C (t12_errs 1 mσ20) kvX12_errs rfl mlX12_206 z_CF12 rfl rfl (by decide) rfl (Nat.le_of_ble_eq_true rfl) dX12_readPlanLine_70 ?_
    exact z_iret C h dX12_readPlanLine_73
set_option maxHeartbeats 4000000 in
set_option maxRecDepth 100000 in
theorem t12_readPlanLine {a : Nat → Nat} (p1 : Int32) {σ : z_M} {u : Int32 × z_M} (h : f12_readPlanLine p1 σ = some u) : z_Mt yX12_readPlanLine (z_w yX12_readPlanLine cX12_readPlanLine 2 (some .int)) 7 S2 a σ [.ref (a 0), .int p1] (z_oi u) := by
  refine z_head (lo := [some (.ref (a 0)), some (.int p1)]) (by decide) (Nat.le_of_ble_eq_true rfl) ?_ rfl ?_
  · intro i v hv
    exact z_loe (vs := [.ref (a 0), .int p1]) (n := 0) rfl (by simp [z_c1i, z_c1r]) i v hv
  · intro X hXa C
    subst hXa
    unfold f12_readPlanLine at h
    refine z_aload_n C dX12_readPlanLine_0 rfl rfl ?_
    refine z_geta (k := 41) (q := 19) C z_CF12 (by decide) flX12_68 rfl rfl dX12_readPlanLine_1 ?_
    refine z_iload_n C dX12_readPlanLine_4 rfl rfl ?_
    refine z_aload_n C dX12_readPlanLine_5 rfl rfl ?_
    refine z_bipush (v := 21) C dX12_readPlanLine_6 (by decide) ?_
    refine z_iconst (v := 0) C dX12_readPlanLine_8 (by decide) ?_
    refine z_sipush (v := 999) C dX12_readPlanLine_9 (by decide) ?_
    obtain ⟨r1, σ2, mσ2, h⟩ := z_bnd2 h
    refine z_cvi (As := [.int 21, .int 0, .int 999]) (c := 0) (st := [.int p1, .ref (z_a X 19)]) C (t12_readTold 21 0 999 mσ2) kvX12_readTold rfl mlX12_269 z_CF12 rfl rfl (by decide) rfl (Nat.le_of_ble_eq_true rfl) dX12_readPlanLine_12 ?_
    obtain ⟨b3, h⟩ := z_chk_some h
    obtain ⟨σ4, eσ4, h⟩ := z_let_some h
    refine z_iast C rfl rfl b3 eσ4 dX12_readPlanLine_15 ?_
    refine z_aload_n C dX12_readPlanLine_16 rfl rfl ?_
    refine z_geta (k := 41) (q := 19) C z_CF12 (by decide) flX12_68 rfl rfl dX12_readPlanLine_17 ?_
    refine z_iload_n C dX12_readPlanLine_20 rfl rfl ?_
    obtain ⟨b5, h⟩ := z_chk_some h
    refine z_iald C rfl rfl b5 dX12_readPlanLine_21 ?_
    refine z_iconst (v := (-1)) C dX12_readPlanLine_22 (by decide) ?_
    refine z_icmp_ne (tgt := 28) C dX12_readPlanLine_23 (by decide) (fun hc => ?_) (fun hc => ?_)
    · replace h := z_neg hc h
      refine z_aload_n C dX12_readPlanLine_28 rfl rfl ?_
      refine z_geta (k := 41) (q := 19) C z_CF12 (by decide) flX12_68 rfl rfl dX12_readPlanLine_29 ?_
      refine z_iload_n C dX12_readPlanLine_32 rfl rfl ?_
      refine z_iconst (v := 1) C dX12_readPlanLine_33 (by decide) ?_
      refine z_iadd C dX12_readPlanLine_34 ?_
      refine z_aload_n C dX12_readPlanLine_35 rfl rfl ?_
      refine z_geti (k := 17) C z_CF12 (by decide) flX12_176 rfl rfl dX12_readPlanLine_36 ?_
      refine z_iconst (v := 2) C dX12_readPlanLine_39 (by decide) ?_
      refine z_icmp_ne (tgt := 54) C dX12_readPlanLine_40 (by decide) (fun hc => ?_) (fun hc => ?_)
      · replace h := z_neg hc h
        refine z_iconst (v := (-1)) C dX12_readPlanLine_54 (by decide) ?_
        exact t12_readPlanLine_J55 C p1 (p1 + 1) (-1) σ4 h
      · replace h := z_pos hc h
        refine z_aload_n C dX12_readPlanLine_43 rfl rfl ?_
        refine z_aload_n C dX12_readPlanLine_44 rfl rfl ?_
        refine z_geti (k := 18) C z_CF12 (by decide) flX12_179 rfl rfl dX12_readPlanLine_45 ?_
        obtain ⟨r6, σ7, mσ7, h⟩ := z_bnd2 h
        refine z_cvi (As := [.int (σ4 0 18)]) (c := 0) (st := [.int (p1 + 1), .ref (z_a X 19)]) C (t12_kindOf (σ4 0 18) mσ7) kvX12_kindOf rfl mlX12_276 z_CF12 rfl rfl (by decide) rfl (Nat.le_of_ble_eq_true rfl) dX12_readPlanLine_48 ?_
        refine z_goto (tgt := 55) C dX12_readPlanLine_51 (by decide) ?_
        exact t12_readPlanLine_J55 C p1 (p1 + 1) r6 σ7 h
    · replace h := z_pos hc h
      refine z_iconst (v := (-1)) C dX12_readPlanLine_26 (by decide) ?_
      exact z_iret C h dX12_readPlanLine_27
set_option maxHeartbeats 4000000 in
set_option maxRecDepth 100000 in
theorem t12_readPlan_J46 {X : z_Ct} (C : z_Cx S2 X RX12 cX12_readPlan 2 8 (some .int)) {u : Int32 × z_M} (v1 : Int32) (σ : z_M) (h : f12_readPlan_J46 v1 σ = some u) : z_W S2 X 46 [some (.ref (z_a X 0)), some (.int v1)] [] σ (z_oi u) := by
  unfold f12_readPlan_J46 at h
  refine z_aload_n C dX12_readPlan_46 rfl rfl ?_
  refine z_geti (k := 17) C z_CF12 (by decide) flX12_176 rfl rfl dX12_readPlan_47 ?_
  refine z_if_ne (tgt := 57) C dX12_readPlan_50 (by decide) (fun hc => ?_) (fun hc => ?_)
  · replace h := z_neg hc h
    refine z_aload_n C dX12_readPlan_57 rfl rfl ?_
    refine z_iconst (v := 1) C dX12_readPlan_58 (by decide) ?_
    obtain ⟨r1, σ2, mσ2, h⟩ := z_bnd2 h
    refine z_cvi (As := [.int 1]) (c := 0) (st := []) C (t12_errs 1 mσ2) kvX12_errs rfl mlX12_206 z_CF12 rfl rfl (by decide) rfl (Nat.le_of_ble_eq_true rfl) dX12_readPlan_59 ?_
    exact z_iret C h dX12_readPlan_62
  · replace h := z_pos hc h
    refine z_iload_n C dX12_readPlan_53 rfl rfl ?_
    refine z_goto (tgt := 62) C dX12_readPlan_54 (by decide) ?_
    exact z_iret C h dX12_readPlan_62
set_option maxHeartbeats 4000000 in
set_option maxRecDepth 100000 in
theorem t12_readPlan_J17 {X : z_Ct} (C : z_Cx S2 X RX12 cX12_readPlan 2 8 (some .int)) {u : Int32 × z_M} (σ : z_M) (h : f12_readPlan_J17 σ = some u) : z_W S2 X 17 [some (.ref (z_a X 0)), none] [] σ (z_oi u) := by
  unfold f12_readPlan_J17 at h
  refine z_aload_n C dX12_readPlan_17 rfl rfl ?_
  refine z_iconst (v := 3) C dX12_readPlan_18 (by decide) ?_
  obtain ⟨r1, σ2, mσ2, h⟩ := z_bnd2 h
  refine z_cvi (As := [.int 3]) (c := 0) (st := []) C (t12_errs 3 mσ2) kvX12_errs rfl mlX12_206 z_CF12 rfl rfl (by decide) rfl (Nat.le_of_ble_eq_true rfl) dX12_readPlan_19 ?_
  exact z_iret C h dX12_readPlan_22
set_option maxHeartbeats 4000000 in
set_option maxRecDepth 100000 in
theorem t12_readPlan_L2 {X : z_Ct} (C : z_Cx S2 X RX12 cX12_readPlan 2 8 (some .int)) {u : Int32 × z_M} : ∀ (n : Nat) (v1 : Int32) (σ : z_M), f12_readPlan_L2 n v1 σ = some u → z_W S2 X 2 [some (.ref (z_a X 0)), some (.int v1)] [] σ (z_oi u) := by
  intro n
  induction n with
  | zero => intro v1 σ h; rw [f12_readPlan_L2] at h; cases h
  | succ n ih =>
    intro v1 σ h
    rw [f12_readPlan_L2] at h
    refine z_aload_n C dX12_readPlan_2 rfl rfl ?_
    refine z_bipush (v := 21) C dX12_readPlan_3 (by decide) ?_
    obtain ⟨r1, σ2, mσ2, h⟩ := z_bnd2 h
    refine z_cvi (As := [.int 21]) (c := 0) (st := []) C (t12_isWord 21 mσ2) kvX12_isWord rfl mlX12_235 z_CF12 rfl rfl (by decide) rfl (Nat.le_of_ble_eq_true rfl) dX12_readPlan_5 ?_
    refine z_if_eq (tgt := 46) C dX12_readPlan_8 (by decide) (fun hc => ?_) (fun hc => ?_)
    · replace h := z_pos hc h
      exact t12_readPlan_J46 C v1 σ2 h
    · replace h := z_neg hc h
      refine z_iload_n C dX12_readPlan_11 rfl rfl ?_
      refine z_bipush (v := 16) C dX12_readPlan_12 (by decide) ?_
      refine z_icmp_ne (tgt := 23) C dX12_readPlan_14 (by decide) (fun hc => ?_) (fun hc => ?_)
      · replace h := z_neg hc h
        refine z_aload_n C dX12_readPlan_23 rfl rfl ?_
        refine z_bipush (v := 80) C dX12_readPlan_24 (by decide) ?_
        refine z_iconst (v := 5) C dX12_readPlan_26 (by decide) ?_
        refine z_iload_n C dX12_readPlan_27 rfl rfl ?_
        refine z_imul C dX12_readPlan_28 ?_
        refine z_iadd C dX12_readPlan_29 ?_
        obtain ⟨r3, σ4, mσ4, h⟩ := z_bnd2 h
        refine z_cvi (As := [.int (80 + (5 * v1))]) (c := 0) (st := []) C (t12_readPlanLine (80 + (5 * v1)) mσ4) kvX12_readPlanLine rfl mlX12_282 z_CF12 rfl rfl (by decide) rfl (Nat.le_of_ble_eq_true rfl) dX12_readPlan_30 ?_
        refine z_iconst (v := (-1)) C dX12_readPlan_33 (by decide) ?_
        refine z_icmp_ne (tgt := 39) C dX12_readPlan_34 (by decide) (fun hc => ?_) (fun hc => ?_)
        · replace h := z_neg hc h
          refine z_iload_n C dX12_readPlan_39 rfl rfl ?_
          refine z_iconst (v := 1) C dX12_readPlan_40 (by decide) ?_
          refine z_iadd C dX12_readPlan_41 ?_
          refine z_istore_n (lo' := [some (.ref (z_a X 0)), some (.int (v1 + 1))]) C dX12_readPlan_42 rfl (Nat.le_of_ble_eq_true rfl) rfl ?_
          refine z_goto (tgt := 2) C dX12_readPlan_43 (by decide) ?_
          exact ih (v1 + 1) σ4 h
        · replace h := z_pos hc h
          refine z_iconst (v := (-1)) C dX12_readPlan_37 (by decide) ?_
          exact z_iret C h dX12_readPlan_38
      · replace h := z_pos hc h
        refine z_kill (lo' := [some (.ref (z_a X 0)), none]) [1] rfl ?_
        exact t12_readPlan_J17 C σ2 h
set_option maxHeartbeats 4000000 in
set_option maxRecDepth 100000 in
theorem t12_readPlan {a : Nat → Nat} {σ : z_M} {u : Int32 × z_M} (h : f12_readPlan σ = some u) : z_Mt yX12_readPlan (z_w yX12_readPlan cX12_readPlan 2 (some .int)) 8 S2 a σ [.ref (a 0)] (z_oi u) := by
  refine z_head (lo := [some (.ref (a 0)), none]) (by decide) (Nat.le_of_ble_eq_true rfl) ?_ rfl ?_
  · intro i v hv
    exact z_loe (vs := [.ref (a 0)]) (n := 1) rfl (by simp [z_c1i, z_c1r]) i v hv
  · intro X hXa C
    subst hXa
    unfold f12_readPlan at h
    refine z_iconst (v := 0) C dX12_readPlan_0 (by decide) ?_
    refine z_istore_n (lo' := [some (.ref (z_a X 0)), some (.int 0)]) C dX12_readPlan_1 rfl (Nat.le_of_ble_eq_true rfl) rfl ?_
    exact t12_readPlan_L2 C _ 0 σ h
set_option maxHeartbeats 4000000 in
set_option maxRecDepth 100000 in
theorem t12_readsText {a : Nat → Nat} (p1 : Int32) {σ : z_M} {u : Int32 × z_M} (h : f12_readsText p1 σ = some u) : z_Mt yX12_readsText (z_w yX12_readsText cX12_readsText 2 (some .int)) 10 S2 a σ [.ref (a 0), .int p1] (z_oi u) := by
  refine z_head (lo := [some (.ref (a 0)), some (.int p1)]) (by decide) (Nat.le_of_ble_eq_true rfl) ?_ rfl ?_
  · intro i v hv
    exact z_loe (vs := [.ref (a 0), .int p1]) (n := 0) rfl (by simp [z_c1i, z_c1r]) i v hv
  · intro X hXa C
    subst hXa
    unfold f12_readsText at h
    refine z_aload_n C dX12_readsText_0 rfl rfl ?_
    refine z_iload_n C dX12_readsText_1 rfl rfl ?_
    obtain ⟨σ1, eσ1, h⟩ := z_let_some h
    refine z_puti (k := 27) C z_CF12 (by decide) flX12_254 rfl rfl rfl rfl eσ1 dX12_readsText_2 ?_
    refine z_aload_n C dX12_readsText_5 rfl rfl ?_
    obtain ⟨⟨⟩, σ3, mσ3, h⟩ := z_bnd2 h
    refine z_cvv (As := []) (c := 0) (st := []) C (t12_reads mσ3) kvX12_reads rfl mlX12_213 z_CF12 rfl rfl (by decide) rfl (Nat.le_of_ble_eq_true rfl) dX12_readsText_6 ?_
    refine z_iload_n C dX12_readsText_9 rfl rfl ?_
    refine z_if_ne (tgt := 18) C dX12_readsText_10 (by decide) (fun hc => ?_) (fun hc => ?_)
    · replace h := z_neg hc h
      refine z_iload_n C dX12_readsText_18 rfl rfl ?_
      refine z_iconst (v := 2) C dX12_readsText_19 (by decide) ?_
      refine z_icmp_ne (tgt := 28) C dX12_readsText_20 (by decide) (fun hc => ?_) (fun hc => ?_)
      · replace h := z_neg hc h
        refine z_iload_n C dX12_readsText_28 rfl rfl ?_
        refine z_iconst (v := 3) C dX12_readsText_29 (by decide) ?_
        refine z_icmp_ne (tgt := 40) C dX12_readsText_30 (by decide) (fun hc => ?_) (fun hc => ?_)
        · replace h := z_neg hc h
          refine z_aload_n C dX12_readsText_40 rfl rfl ?_
          obtain ⟨r4, σ5, mσ5, h⟩ := z_bnd2 h
          refine z_cvi (As := []) (c := 0) (st := []) C (t12_readLaw mσ5) kvX12_readLaw rfl mlX12_294 z_CF12 rfl rfl (by decide) rfl (Nat.le_of_ble_eq_true rfl) dX12_readsText_41 ?_
          exact z_iret C h dX12_readsText_44
        · replace h := z_pos hc h
          refine z_aload_n C dX12_readsText_33 rfl rfl ?_
          obtain ⟨r6, σ7, mσ7, h⟩ := z_bnd2 h
          refine z_cvi (As := []) (c := 0) (st := []) C (t12_readPlan mσ7) kvX12_readPlan rfl mlX12_291 z_CF12 rfl rfl (by decide) rfl (Nat.le_of_ble_eq_true rfl) dX12_readsText_34 ?_
          refine z_goto (tgt := 44) C dX12_readsText_37 (by decide) ?_
          exact z_iret C h dX12_readsText_44
      · replace h := z_pos hc h
        refine z_aload_n C dX12_readsText_23 rfl rfl ?_
        obtain ⟨r8, σ9, mσ9, h⟩ := z_bnd2 h
        refine z_cvi (As := []) (c := 0) (st := []) C (t12_readWorks mσ9) kvX12_readWorks rfl mlX12_288 z_CF12 rfl rfl (by decide) rfl (Nat.le_of_ble_eq_true rfl) dX12_readsText_24 ?_
        exact z_iret C h dX12_readsText_27
    · replace h := z_pos hc h
      refine z_aload_n C dX12_readsText_13 rfl rfl ?_
      obtain ⟨r10, σ11, mσ11, h⟩ := z_bnd2 h
      refine z_cvi (As := []) (c := 0) (st := []) C (t12_readReasons mσ11) kvX12_readReasons rfl mlX12_285 z_CF12 rfl rfl (by decide) rfl (Nat.le_of_ble_eq_true rfl) dX12_readsText_14 ?_
      exact z_iret C h dX12_readsText_17
set_option maxHeartbeats 4000000 in
set_option maxRecDepth 100000 in
theorem t12_takesOther_J114 {X : z_Ct} (C : z_Cx S2 X RX12 cX12_takesOther 4 1 none) {u : Unit × z_M} (v2 : Int32) (σ : z_M) (h : f12_takesOther_J114 v2 σ = some u) : z_W S2 X 114 [some (.ref (z_a X 0)), none, some (.int v2), none] [] σ (z_ov u) := by
  unfold f12_takesOther_J114 at h
  refine z_aload_n C dX12_takesOther_114 rfl rfl ?_
  refine z_iload_n C dX12_takesOther_115 rfl rfl ?_
  obtain ⟨σ1, eσ1, h⟩ := z_let_some h
  refine z_puti (k := 38) C z_CF12 (by decide) flX12_303 rfl rfl rfl rfl eσ1 dX12_takesOther_116 ?_
  refine z_goto (tgt := 127) C dX12_takesOther_119 (by decide) ?_
  exact z_vret C h dX12_takesOther_127
set_option maxHeartbeats 4000000 in
set_option maxRecDepth 100000 in
theorem t12_takesOther_L86 {X : z_Ct} (C : z_Cx S2 X RX12 cX12_takesOther 4 1 none) {u : Unit × z_M} : ∀ (n : Nat) (v2 : Int32) (v3 : Int32) (σ : z_M), f12_takesOther_L86 n v2 v3 σ = some u → z_W S2 X 86 [some (.ref (z_a X 0)), none, some (.int v2), some (.int v3)] [] σ (z_ov u) := by
  intro n
  induction n with
  | zero => intro v2 v3 σ h; rw [f12_takesOther_L86] at h; cases h
  | succ n ih =>
    intro v2 v3 σ h
    rw [f12_takesOther_L86] at h
    refine z_iload_n C dX12_takesOther_86 rfl rfl ?_
    refine z_iconst (v := 3) C dX12_takesOther_87 (by decide) ?_
    refine z_iload_n C dX12_takesOther_88 rfl rfl ?_
    refine z_imul C dX12_takesOther_89 ?_
    refine z_icmp_ge (tgt := 114) C dX12_takesOther_90 (by decide) (fun hc => ?_) (fun hc => ?_)
    · replace h := z_neg hc h
      refine z_kill (lo' := [some (.ref (z_a X 0)), none, some (.int v2), none]) [3] rfl ?_
      exact t12_takesOther_J114 C v2 σ h
    · replace h := z_pos hc h
      refine z_aload_n C dX12_takesOther_93 rfl rfl ?_
      refine z_geta (k := 39) (q := 18) C z_CF12 (by decide) flX12_65 rfl rfl dX12_takesOther_94 ?_
      refine z_iload_n C dX12_takesOther_97 rfl rfl ?_
      refine z_aload_n C dX12_takesOther_98 rfl rfl ?_
      refine z_geta (k := 39) (q := 18) C z_CF12 (by decide) flX12_65 rfl rfl dX12_takesOther_99 ?_
      refine z_bipush (v := 36) C dX12_takesOther_102 (by decide) ?_
      refine z_iload_n C dX12_takesOther_104 rfl rfl ?_
      refine z_iadd C dX12_takesOther_105 ?_
      obtain ⟨b1, h⟩ := z_chk_some h
      refine z_iald C rfl rfl b1 dX12_takesOther_106 ?_
      obtain ⟨b2, h⟩ := z_chk_some h
      obtain ⟨σ3, eσ3, h⟩ := z_let_some h
      refine z_iast C rfl rfl b2 eσ3 dX12_takesOther_107 ?_
      refine z_iinc (v := v3 + 1) (lo' := [some (.ref (z_a X 0)), none, some (.int v2), some (.int (v3 + 1))]) C dX12_takesOther_108 rfl rfl rfl ?_
      refine z_goto (tgt := 86) C dX12_takesOther_111 (by decide) ?_
      exact ih v2 (v3 + 1) σ3 h
set_option maxHeartbeats 4000000 in
set_option maxRecDepth 100000 in
theorem t12_takesOther_J79 {X : z_Ct} (C : z_Cx S2 X RX12 cX12_takesOther 4 1 none) {u : Unit × z_M} (v1 : Int32) (v2 : Int32) (σ : z_M) (h : f12_takesOther_J79 v1 v2 σ = some u) : z_W S2 X 79 [some (.ref (z_a X 0)), some (.int v1), some (.int v2), none] [] σ (z_ov u) := by
  unfold f12_takesOther_J79 at h
  refine z_iload_n C dX12_takesOther_79 rfl rfl ?_
  refine z_iconst (v := 2) C dX12_takesOther_80 (by decide) ?_
  refine z_icmp_ne (tgt := 122) C dX12_takesOther_81 (by decide) (fun hc => ?_) (fun hc => ?_)
  · replace h := z_neg hc h
    refine z_aload_n C dX12_takesOther_122 rfl rfl ?_
    refine z_iconst (v := 0) C dX12_takesOther_123 (by decide) ?_
    obtain ⟨σ1, eσ1, h⟩ := z_let_some h
    refine z_puti (k := 3) C z_CF12 (by decide) flX12_116 rfl rfl rfl rfl eσ1 dX12_takesOther_124 ?_
    exact z_vret C h dX12_takesOther_127
  · replace h := z_pos hc h
    refine z_iconst (v := 0) C dX12_takesOther_84 (by decide) ?_
    refine z_istore_n (lo' := [some (.ref (z_a X 0)), some (.int v1), some (.int v2), some (.int 0)]) C dX12_takesOther_85 rfl (Nat.le_of_ble_eq_true rfl) rfl ?_
    refine z_kill (lo' := [some (.ref (z_a X 0)), none, some (.int v2), some (.int 0)]) [1] rfl ?_
    exact t12_takesOther_L86 C _ v2 0 σ h
set_option maxHeartbeats 4000000 in
set_option maxRecDepth 100000 in
theorem t12_takesOther_J74 {X : z_Ct} (C : z_Cx S2 X RX12 cX12_takesOther 4 1 none) {u : Unit × z_M} (v1 : Int32) (v2 : Int32) (σ : z_M) (h : f12_takesOther_J74 v1 v2 σ = some u) : z_W S2 X 74 [some (.ref (z_a X 0)), some (.int v1), some (.int v2), none] [] σ (z_ov u) := by
  unfold f12_takesOther_J74 at h
  refine z_aload_n C dX12_takesOther_74 rfl rfl ?_
  refine z_iload_n C dX12_takesOther_75 rfl rfl ?_
  obtain ⟨σ1, eσ1, h⟩ := z_let_some h
  refine z_puti (k := 40) C z_CF12 (by decide) flX12_300 rfl rfl rfl rfl eσ1 dX12_takesOther_76 ?_
  exact t12_takesOther_J79 C v1 v2 σ1 h
set_option maxHeartbeats 4000000 in
set_option maxRecDepth 100000 in
theorem t12_takesOther_L46 {X : z_Ct} (C : z_Cx S2 X RX12 cX12_takesOther 4 1 none) {u : Unit × z_M} : ∀ (n : Nat) (v1 : Int32) (v2 : Int32) (v3 : Int32) (σ : z_M), f12_takesOther_L46 n v1 v2 v3 σ = some u → z_W S2 X 46 [some (.ref (z_a X 0)), some (.int v1), some (.int v2), some (.int v3)] [] σ (z_ov u) := by
  intro n
  induction n with
  | zero => intro v1 v2 v3 σ h; rw [f12_takesOther_L46] at h; cases h
  | succ n ih =>
    intro v1 v2 v3 σ h
    rw [f12_takesOther_L46] at h
    refine z_iload_n C dX12_takesOther_46 rfl rfl ?_
    refine z_iconst (v := 5) C dX12_takesOther_47 (by decide) ?_
    refine z_iload_n C dX12_takesOther_48 rfl rfl ?_
    refine z_imul C dX12_takesOther_49 ?_
    refine z_icmp_ge (tgt := 74) C dX12_takesOther_50 (by decide) (fun hc => ?_) (fun hc => ?_)
    · replace h := z_neg hc h
      refine z_kill (lo' := [some (.ref (z_a X 0)), some (.int v1), some (.int v2), none]) [3] rfl ?_
      exact t12_takesOther_J74 C v1 v2 σ h
    · replace h := z_pos hc h
      refine z_aload_n C dX12_takesOther_53 rfl rfl ?_
      refine z_geta (k := 41) (q := 19) C z_CF12 (by decide) flX12_68 rfl rfl dX12_takesOther_54 ?_
      refine z_iload_n C dX12_takesOther_57 rfl rfl ?_
      refine z_aload_n C dX12_takesOther_58 rfl rfl ?_
      refine z_geta (k := 41) (q := 19) C z_CF12 (by decide) flX12_68 rfl rfl dX12_takesOther_59 ?_
      refine z_bipush (v := 80) C dX12_takesOther_62 (by decide) ?_
      refine z_iload_n C dX12_takesOther_64 rfl rfl ?_
      refine z_iadd C dX12_takesOther_65 ?_
      obtain ⟨b1, h⟩ := z_chk_some h
      refine z_iald C rfl rfl b1 dX12_takesOther_66 ?_
      obtain ⟨b2, h⟩ := z_chk_some h
      obtain ⟨σ3, eσ3, h⟩ := z_let_some h
      refine z_iast C rfl rfl b2 eσ3 dX12_takesOther_67 ?_
      refine z_iinc (v := v3 + 1) (lo' := [some (.ref (z_a X 0)), some (.int v1), some (.int v2), some (.int (v3 + 1))]) C dX12_takesOther_68 rfl rfl rfl ?_
      refine z_goto (tgt := 46) C dX12_takesOther_71 (by decide) ?_
      exact ih v1 v2 (v3 + 1) σ3 h
set_option maxHeartbeats 4000000 in
set_option maxRecDepth 100000 in
theorem t12_takesOther_J39 {X : z_Ct} (C : z_Cx S2 X RX12 cX12_takesOther 4 1 none) {u : Unit × z_M} (v1 : Int32) (v2 : Int32) (σ : z_M) (h : f12_takesOther_J39 v1 v2 σ = some u) : z_W S2 X 39 [some (.ref (z_a X 0)), some (.int v1), some (.int v2), none] [] σ (z_ov u) := by
  unfold f12_takesOther_J39 at h
  refine z_iload_n C dX12_takesOther_39 rfl rfl ?_
  refine z_iconst (v := 3) C dX12_takesOther_40 (by decide) ?_
  refine z_icmp_ne (tgt := 79) C dX12_takesOther_41 (by decide) (fun hc => ?_) (fun hc => ?_)
  · replace h := z_neg hc h
    exact t12_takesOther_J79 C v1 v2 σ h
  · replace h := z_pos hc h
    refine z_iconst (v := 0) C dX12_takesOther_44 (by decide) ?_
    refine z_istore_n (lo' := [some (.ref (z_a X 0)), some (.int v1), some (.int v2), some (.int 0)]) C dX12_takesOther_45 rfl (Nat.le_of_ble_eq_true rfl) rfl ?_
    exact t12_takesOther_L46 C _ v1 v2 0 σ h
set_option maxHeartbeats 4000000 in
set_option maxRecDepth 100000 in
theorem t12_takesOther_J34 {X : z_Ct} (C : z_Cx S2 X RX12 cX12_takesOther 4 1 none) {u : Unit × z_M} (v1 : Int32) (v2 : Int32) (σ : z_M) (h : f12_takesOther_J34 v1 v2 σ = some u) : z_W S2 X 34 [some (.ref (z_a X 0)), some (.int v1), some (.int v2), none] [] σ (z_ov u) := by
  unfold f12_takesOther_J34 at h
  refine z_aload_n C dX12_takesOther_34 rfl rfl ?_
  refine z_iload_n C dX12_takesOther_35 rfl rfl ?_
  obtain ⟨σ1, eσ1, h⟩ := z_let_some h
  refine z_puti (k := 36) C z_CF12 (by decide) flX12_297 rfl rfl rfl rfl eσ1 dX12_takesOther_36 ?_
  exact t12_takesOther_J39 C v1 v2 σ1 h
set_option maxHeartbeats 4000000 in
set_option maxRecDepth 100000 in
theorem t12_takesOther_L6 {X : z_Ct} (C : z_Cx S2 X RX12 cX12_takesOther 4 1 none) {u : Unit × z_M} : ∀ (n : Nat) (v1 : Int32) (v2 : Int32) (v3 : Int32) (σ : z_M), f12_takesOther_L6 n v1 v2 v3 σ = some u → z_W S2 X 6 [some (.ref (z_a X 0)), some (.int v1), some (.int v2), some (.int v3)] [] σ (z_ov u) := by
  intro n
  induction n with
  | zero => intro v1 v2 v3 σ h; rw [f12_takesOther_L6] at h; cases h
  | succ n ih =>
    intro v1 v2 v3 σ h
    rw [f12_takesOther_L6] at h
    refine z_iload_n C dX12_takesOther_6 rfl rfl ?_
    refine z_iconst (v := 3) C dX12_takesOther_7 (by decide) ?_
    refine z_iload_n C dX12_takesOther_8 rfl rfl ?_
    refine z_imul C dX12_takesOther_9 ?_
    refine z_icmp_ge (tgt := 34) C dX12_takesOther_10 (by decide) (fun hc => ?_) (fun hc => ?_)
    · replace h := z_neg hc h
      refine z_kill (lo' := [some (.ref (z_a X 0)), some (.int v1), some (.int v2), none]) [3] rfl ?_
      exact t12_takesOther_J34 C v1 v2 σ h
    · replace h := z_pos hc h
      refine z_aload_n C dX12_takesOther_13 rfl rfl ?_
      refine z_geta (k := 37) (q := 17) C z_CF12 (by decide) flX12_62 rfl rfl dX12_takesOther_14 ?_
      refine z_iload_n C dX12_takesOther_17 rfl rfl ?_
      refine z_aload_n C dX12_takesOther_18 rfl rfl ?_
      refine z_geta (k := 37) (q := 17) C z_CF12 (by decide) flX12_62 rfl rfl dX12_takesOther_19 ?_
      refine z_bipush (v := 48) C dX12_takesOther_22 (by decide) ?_
      refine z_iload_n C dX12_takesOther_24 rfl rfl ?_
      refine z_iadd C dX12_takesOther_25 ?_
      obtain ⟨b1, h⟩ := z_chk_some h
      refine z_iald C rfl rfl b1 dX12_takesOther_26 ?_
      obtain ⟨b2, h⟩ := z_chk_some h
      obtain ⟨σ3, eσ3, h⟩ := z_let_some h
      refine z_iast C rfl rfl b2 eσ3 dX12_takesOther_27 ?_
      refine z_iinc (v := v3 + 1) (lo' := [some (.ref (z_a X 0)), some (.int v1), some (.int v2), some (.int (v3 + 1))]) C dX12_takesOther_28 rfl rfl rfl ?_
      refine z_goto (tgt := 6) C dX12_takesOther_31 (by decide) ?_
      exact ih v1 v2 (v3 + 1) σ3 h
set_option maxHeartbeats 4000000 in
set_option maxRecDepth 100000 in
theorem t12_takesOther {a : Nat → Nat} (p1 : Int32) (p2 : Int32) {σ : z_M} {u : Unit × z_M} (h : f12_takesOther p1 p2 σ = some u) : z_Mt yX12_takesOther (z_w yX12_takesOther cX12_takesOther 4 none) 1 S2 a σ [.ref (a 0), .int p1, .int p2] (z_ov u) := by
  refine z_head (lo := [some (.ref (a 0)), some (.int p1), some (.int p2), none]) (by decide) (Nat.le_of_ble_eq_true rfl) ?_ rfl ?_
  · intro i v hv
    exact z_loe (vs := [.ref (a 0), .int p1, .int p2]) (n := 1) rfl (by simp [z_c1i, z_c1r]) i v hv
  · intro X hXa C
    subst hXa
    unfold f12_takesOther at h
    refine z_iload_n C dX12_takesOther_0 rfl rfl ?_
    refine z_if_ne (tgt := 39) C dX12_takesOther_1 (by decide) (fun hc => ?_) (fun hc => ?_)
    · replace h := z_neg hc h
      exact t12_takesOther_J39 C p1 p2 σ h
    · replace h := z_pos hc h
      refine z_iconst (v := 0) C dX12_takesOther_4 (by decide) ?_
      refine z_istore_n (lo' := [some (.ref (z_a X 0)), some (.int p1), some (.int p2), some (.int 0)]) C dX12_takesOther_5 rfl (Nat.le_of_ble_eq_true rfl) rfl ?_
      exact t12_takesOther_L6 C _ p1 p2 0 σ h
set_option maxHeartbeats 4000000 in
set_option maxRecDepth 100000 in
theorem t12_text_J69 {X : z_Ct} (C : z_Cx S2 X RX12 cX12_text 3 11 (some .int)) {u : Int32 × z_M} (v1 : Int32) (v2 : Int32) (σ : z_M) (h : f12_text_J69 v1 v2 σ = some u) : z_W S2 X 69 [some (.ref (z_a X 0)), some (.int v1), some (.int v2)] [] σ (z_oi u) := by
  unfold f12_text_J69 at h
  refine z_aload_n C dX12_text_69 rfl rfl ?_
  refine z_iconst (v := 0) C dX12_text_70 (by decide) ?_
  obtain ⟨σ1, eσ1, h⟩ := z_let_some h
  refine z_puti (k := 14) C z_CF12 (by decide) flX12_159 rfl rfl rfl rfl eσ1 dX12_text_71 ?_
  refine z_iload_n C dX12_text_74 rfl rfl ?_
  refine z_iconst (v := (-1)) C dX12_text_75 (by decide) ?_
  refine z_icmp_ne (tgt := 81) C dX12_text_76 (by decide) (fun hc => ?_) (fun hc => ?_)
  · replace h := z_neg hc h
    refine z_iload_n C dX12_text_81 rfl rfl ?_
    refine z_iconst (v := 1) C dX12_text_82 (by decide) ?_
    refine z_icmp_ne (tgt := 94) C dX12_text_83 (by decide) (fun hc => ?_) (fun hc => ?_)
    · replace h := z_neg hc h
      refine z_aload_n C dX12_text_94 rfl rfl ?_
      refine z_iload_n C dX12_text_95 rfl rfl ?_
      refine z_iload_n C dX12_text_96 rfl rfl ?_
      obtain ⟨⟨⟩, σ3, mσ3, h⟩ := z_bnd2 h
      refine z_cvv (As := [.int v1, .int v2]) (c := 0) (st := []) C (t12_takesOther v1 v2 mσ3) kvX12_takesOther rfl mlX12_315 z_CF12 rfl rfl (by decide) rfl (Nat.le_of_ble_eq_true rfl) dX12_text_97 ?_
      refine z_iload_n C dX12_text_100 rfl rfl ?_
      exact z_iret C h dX12_text_101
    · replace h := z_pos hc h
      refine z_aload_n C dX12_text_86 rfl rfl ?_
      refine z_iload_n C dX12_text_87 rfl rfl ?_
      obtain ⟨⟨⟩, σ5, mσ5, h⟩ := z_bnd2 h
      refine z_cvv (As := [.int v2]) (c := 0) (st := []) C (t12_takesLaw v2 mσ5) kvX12_takesLaw rfl mlX12_312 z_CF12 rfl rfl (by decide) rfl (Nat.le_of_ble_eq_true rfl) dX12_text_88 ?_
      refine z_goto (tgt := 100) C dX12_text_91 (by decide) ?_
      refine z_iload_n C dX12_text_100 rfl rfl ?_
      exact z_iret C h dX12_text_101
  · replace h := z_pos hc h
    refine z_iconst (v := (-1)) C dX12_text_79 (by decide) ?_
    exact z_iret C h dX12_text_80
set_option maxHeartbeats 4000000 in
set_option maxRecDepth 100000 in
theorem t12_text {a : Nat → Nat} (p1 : Int32) {σ : z_M} {u : Int32 × z_M} (h : f12_text p1 σ = some u) : z_Mt yX12_text (z_w yX12_text cX12_text 3 (some .int)) 11 S2 a σ [.ref (a 0), .int p1] (z_oi u) := by
  refine z_head (lo := [some (.ref (a 0)), some (.int p1), none]) (by decide) (Nat.le_of_ble_eq_true rfl) ?_ rfl ?_
  · intro i v hv
    exact z_loe (vs := [.ref (a 0), .int p1]) (n := 1) rfl (by simp [z_c1i, z_c1r]) i v hv
  · intro X hXa C
    subst hXa
    unfold f12_text at h
    refine z_aload_n C dX12_text_0 rfl rfl ?_
    refine z_iconst (v := 0) C dX12_text_1 (by decide) ?_
    obtain ⟨σ1, eσ1, h⟩ := z_let_some h
    refine z_puti (k := 0) C z_CF12 (by decide) flX12_113 rfl rfl rfl rfl eσ1 dX12_text_2 ?_
    refine z_aload_n C dX12_text_5 rfl rfl ?_
    refine z_iconst (v := 0) C dX12_text_6 (by decide) ?_
    obtain ⟨σ2, eσ2, h⟩ := z_let_some h
    refine z_puti (k := 34) C z_CF12 (by decide) flX12_306 rfl rfl rfl rfl eσ2 dX12_text_7 ?_
    refine z_aload_n C dX12_text_10 rfl rfl ?_
    refine z_iconst (v := (-1)) C dX12_text_11 (by decide) ?_
    obtain ⟨σ3, eσ3, h⟩ := z_let_some h
    refine z_puti (k := 35) C z_CF12 (by decide) flX12_58 rfl rfl rfl rfl eσ3 dX12_text_12 ?_
    refine z_aload_n C dX12_text_15 rfl rfl ?_
    refine z_iconst (v := 0) C dX12_text_16 (by decide) ?_
    obtain ⟨σ4, eσ4, h⟩ := z_let_some h
    refine z_puti (k := 15) C z_CF12 (by decide) flX12_166 rfl rfl rfl rfl eσ4 dX12_text_17 ?_
    refine z_aload_n C dX12_text_20 rfl rfl ?_
    refine z_iconst (v := 0) C dX12_text_21 (by decide) ?_
    obtain ⟨σ5, eσ5, h⟩ := z_let_some h
    refine z_puti (k := 28) C z_CF12 (by decide) flX12_200 rfl rfl rfl rfl eσ5 dX12_text_22 ?_
    refine z_aload_n C dX12_text_25 rfl rfl ?_
    refine z_iconst (v := 0) C dX12_text_26 (by decide) ?_
    obtain ⟨σ6, eσ6, h⟩ := z_let_some h
    refine z_puti (k := 29) C z_CF12 (by decide) flX12_232 rfl rfl rfl rfl eσ6 dX12_text_27 ?_
    refine z_iconst (v := (-1)) C dX12_text_30 (by decide) ?_
    refine z_istore_n (lo' := [some (.ref (z_a X 0)), some (.int p1), some (.int (-1))]) C dX12_text_31 rfl (Nat.le_of_ble_eq_true rfl) rfl ?_
    refine z_aload_n C dX12_text_32 rfl rfl ?_
    refine z_iload_n C dX12_text_33 rfl rfl ?_
    refine z_iconst (v := 0) C dX12_text_34 (by decide) ?_
    refine z_iconst (v := 3) C dX12_text_35 (by decide) ?_
    obtain ⟨r7, σ8, mσ8, h⟩ := z_bnd2 h
    refine z_cvi (As := [.int p1, .int 0, .int 3]) (c := 0) (st := []) C (t12_isIn p1 0 3 mσ8) kvX12_isIn rfl mlX12_142 z_CF12 rfl rfl (by decide) rfl (Nat.le_of_ble_eq_true rfl) dX12_text_36 ?_
    refine z_if_eq (tgt := 69) C dX12_text_39 (by decide) (fun hc => ?_) (fun hc => ?_)
    · replace h := z_pos hc h
      exact t12_text_J69 C p1 (-1) σ8 h
    · replace h := z_neg hc h
      refine z_aload_n C dX12_text_42 rfl rfl ?_
      refine z_iload_n C dX12_text_43 rfl rfl ?_
      obtain ⟨r9, σ10, mσ10, h⟩ := z_bnd2 h
      refine z_cvi (As := [.int p1]) (c := 0) (st := []) C (t12_readsText p1 mσ10) kvX12_readsText rfl mlX12_309 z_CF12 rfl rfl (by decide) rfl (Nat.le_of_ble_eq_true rfl) dX12_text_44 ?_
      refine z_istore_n (lo' := [some (.ref (z_a X 0)), some (.int p1), some (.int r9)]) C dX12_text_47 rfl (Nat.le_of_ble_eq_true rfl) rfl ?_
      refine z_iload_n C dX12_text_48 rfl rfl ?_
      refine z_iconst (v := (-1)) C dX12_text_49 (by decide) ?_
      refine z_icmp_ne (tgt := 69) C dX12_text_50 (by decide) (fun hc => ?_) (fun hc => ?_)
      · replace h := z_neg hc h
        exact t12_text_J69 C p1 r9 σ10 h
      · replace h := z_pos hc h
        refine z_aload_n C dX12_text_53 rfl rfl ?_
        refine z_aload_n C dX12_text_54 rfl rfl ?_
        refine z_geti (k := 32) C z_CF12 (by decide) flX12_194 rfl rfl dX12_text_55 ?_
        obtain ⟨σ11, eσ11, h⟩ := z_let_some h
        refine z_puti (k := 34) C z_CF12 (by decide) flX12_306 rfl rfl rfl rfl eσ11 dX12_text_58 ?_
        refine z_aload_n C dX12_text_61 rfl rfl ?_
        refine z_aload_n C dX12_text_62 rfl rfl ?_
        refine z_geti (k := 33) C z_CF12 (by decide) flX12_197 rfl rfl dX12_text_63 ?_
        obtain ⟨σ12, eσ12, h⟩ := z_let_some h
        refine z_puti (k := 35) C z_CF12 (by decide) flX12_58 rfl rfl rfl rfl eσ12 dX12_text_66 ?_
        exact t12_text_J69 C p1 r9 σ12 h
set_option maxHeartbeats 4000000 in
set_option maxRecDepth 100000 in
theorem t12_fault {a : Nat → Nat} (p1 : Int32) {σ : z_M} {u : Int32 × z_M} (h : f12_fault p1 σ = some u) : z_Mt yX12_fault (z_w yX12_fault cX12_fault 2 (some .int)) 1 S2 a σ [.ref (a 0), .int p1] (z_oi u) := by
  refine z_head (lo := [some (.ref (a 0)), some (.int p1)]) (by decide) (Nat.le_of_ble_eq_true rfl) ?_ rfl ?_
  · intro i v hv
    exact z_loe (vs := [.ref (a 0), .int p1]) (n := 0) rfl (by simp [z_c1i, z_c1r]) i v hv
  · intro X hXa C
    subst hXa
    unfold f12_fault at h
    refine z_aload_n C dX12_fault_0 rfl rfl ?_
    refine z_iconst (v := 0) C dX12_fault_1 (by decide) ?_
    obtain ⟨σ1, eσ1, h⟩ := z_let_some h
    refine z_puti (k := 0) C z_CF12 (by decide) flX12_113 rfl rfl rfl rfl eσ1 dX12_fault_2 ?_
    refine z_iload_n C dX12_fault_5 rfl rfl ?_
    refine z_if_ne (tgt := 16) C dX12_fault_6 (by decide) (fun hc => ?_) (fun hc => ?_)
    · replace h := z_neg hc h
      refine z_iload_n C dX12_fault_16 rfl rfl ?_
      refine z_iconst (v := 1) C dX12_fault_17 (by decide) ?_
      refine z_icmp_ne (tgt := 28) C dX12_fault_18 (by decide) (fun hc => ?_) (fun hc => ?_)
      · replace h := z_neg hc h
        refine z_iconst (v := (-1)) C dX12_fault_28 (by decide) ?_
        exact z_iret C h dX12_fault_29
      · replace h := z_pos hc h
        refine z_aload_n C dX12_fault_21 rfl rfl ?_
        refine z_geti (k := 35) C z_CF12 (by decide) flX12_58 rfl rfl dX12_fault_22 ?_
        refine z_goto (tgt := 29) C dX12_fault_25 (by decide) ?_
        exact z_iret C h dX12_fault_29
    · replace h := z_pos hc h
      refine z_aload_n C dX12_fault_9 rfl rfl ?_
      refine z_geti (k := 34) C z_CF12 (by decide) flX12_306 rfl rfl dX12_fault_10 ?_
      refine z_goto (tgt := 29) C dX12_fault_13 (by decide) ?_
      exact z_iret C h dX12_fault_29
set_option maxHeartbeats 4000000 in
set_option maxRecDepth 100000 in
theorem t12_twoOf {a : Nat → Nat} (p1 : Int32) (p2 : Int32) (p3 : Int32) {σ : z_M} {u : Int32 × z_M} (h : f12_twoOf p1 p2 p3 σ = some u) : z_Mt yX12_twoOf (z_w yX12_twoOf cX12_twoOf 4 (some .int)) 1 S2 a σ [.ref (a 0), .int p1, .int p2, .int p3] (z_oi u) := by
  refine z_head (lo := [some (.ref (a 0)), some (.int p1), some (.int p2), some (.int p3)]) (by decide) (Nat.le_of_ble_eq_true rfl) ?_ rfl ?_
  · intro i v hv
    exact z_loe (vs := [.ref (a 0), .int p1, .int p2, .int p3]) (n := 0) rfl (by simp [z_c1i, z_c1r]) i v hv
  · intro X hXa C
    subst hXa
    unfold f12_twoOf at h
    refine z_iload_n C dX12_twoOf_0 rfl rfl ?_
    refine z_iconst (v := 2) C dX12_twoOf_1 (by decide) ?_
    refine z_icmp_ne (tgt := 9) C dX12_twoOf_2 (by decide) (fun hc => ?_) (fun hc => ?_)
    · replace h := z_neg hc h
      refine z_iload_n C dX12_twoOf_9 rfl rfl ?_
      refine z_iconst (v := 3) C dX12_twoOf_10 (by decide) ?_
      refine z_icmp_ne (tgt := 18) C dX12_twoOf_11 (by decide) (fun hc => ?_) (fun hc => ?_)
      · replace h := z_neg hc h
        refine z_iload_n C dX12_twoOf_18 rfl rfl ?_
        refine z_iconst (v := 4) C dX12_twoOf_19 (by decide) ?_
        refine z_icmp_ne (tgt := 27) C dX12_twoOf_20 (by decide) (fun hc => ?_) (fun hc => ?_)
        · replace h := z_neg hc h
          refine z_iload_n C dX12_twoOf_27 rfl rfl ?_
          refine z_iconst (v := 5) C dX12_twoOf_28 (by decide) ?_
          refine z_icmp_ne (tgt := 36) C dX12_twoOf_29 (by decide) (fun hc => ?_) (fun hc => ?_)
          · replace h := z_neg hc h
            refine z_iload_n C dX12_twoOf_36 rfl rfl ?_
            refine z_bipush (v := 6) C dX12_twoOf_37 (by decide) ?_
            refine z_icmp_ne (tgt := 53) C dX12_twoOf_39 (by decide) (fun hc => ?_) (fun hc => ?_)
            · replace h := z_neg hc h
              refine z_iload_n C dX12_twoOf_53 rfl rfl ?_
              refine z_bipush (v := 7) C dX12_twoOf_54 (by decide) ?_
              refine z_icmp_ne (tgt := 70) C dX12_twoOf_56 (by decide) (fun hc => ?_) (fun hc => ?_)
              · replace h := z_neg hc h
                refine z_iload_n C dX12_twoOf_70 rfl rfl ?_
                refine z_bipush (v := 8) C dX12_twoOf_71 (by decide) ?_
                refine z_icmp_ne (tgt := 87) C dX12_twoOf_73 (by decide) (fun hc => ?_) (fun hc => ?_)
                · replace h := z_neg hc h
                  refine z_iload_n C dX12_twoOf_87 rfl rfl ?_
                  refine z_bipush (v := 10) C dX12_twoOf_88 (by decide) ?_
                  refine z_icmp_ne (tgt := 99) C dX12_twoOf_90 (by decide) (fun hc => ?_) (fun hc => ?_)
                  · replace h := z_neg hc h
                    refine z_iload_n C dX12_twoOf_99 rfl rfl ?_
                    refine z_iload_n C dX12_twoOf_100 rfl rfl ?_
                    refine z_iadd C dX12_twoOf_101 ?_
                    refine z_if_le (tgt := 109) C dX12_twoOf_102 (by decide) (fun hc => ?_) (fun hc => ?_)
                    · replace h := z_neg hc h
                      refine z_iconst (v := 0) C dX12_twoOf_109 (by decide) ?_
                      exact z_iret C h dX12_twoOf_110
                    · replace h := z_pos hc h
                      refine z_iconst (v := 1) C dX12_twoOf_105 (by decide) ?_
                      refine z_goto (tgt := 110) C dX12_twoOf_106 (by decide) ?_
                      exact z_iret C h dX12_twoOf_110
                  · replace h := z_pos hc h
                    refine z_iload_n C dX12_twoOf_93 rfl rfl ?_
                    refine z_iload_n C dX12_twoOf_94 rfl rfl ?_
                    refine z_imul C dX12_twoOf_95 ?_
                    refine z_goto (tgt := 110) C dX12_twoOf_96 (by decide) ?_
                    exact z_iret C h dX12_twoOf_110
                · replace h := z_pos hc h
                  refine z_iload_n C dX12_twoOf_76 rfl rfl ?_
                  refine z_iload_n C dX12_twoOf_77 rfl rfl ?_
                  refine z_icmp_le (tgt := 85) C dX12_twoOf_78 (by decide) (fun hc => ?_) (fun hc => ?_)
                  · replace h := z_neg hc h
                    refine z_iconst (v := 0) C dX12_twoOf_85 (by decide) ?_
                    exact z_iret C h dX12_twoOf_86
                  · replace h := z_pos hc h
                    refine z_iconst (v := 1) C dX12_twoOf_81 (by decide) ?_
                    refine z_goto (tgt := 86) C dX12_twoOf_82 (by decide) ?_
                    exact z_iret C h dX12_twoOf_86
              · replace h := z_pos hc h
                refine z_iload_n C dX12_twoOf_59 rfl rfl ?_
                refine z_iload_n C dX12_twoOf_60 rfl rfl ?_
                refine z_icmp_ne (tgt := 68) C dX12_twoOf_61 (by decide) (fun hc => ?_) (fun hc => ?_)
                · replace h := z_neg hc h
                  refine z_iconst (v := 0) C dX12_twoOf_68 (by decide) ?_
                  exact z_iret C h dX12_twoOf_69
                · replace h := z_pos hc h
                  refine z_iconst (v := 1) C dX12_twoOf_64 (by decide) ?_
                  refine z_goto (tgt := 69) C dX12_twoOf_65 (by decide) ?_
                  exact z_iret C h dX12_twoOf_69
            · replace h := z_pos hc h
              refine z_iload_n C dX12_twoOf_42 rfl rfl ?_
              refine z_iload_n C dX12_twoOf_43 rfl rfl ?_
              refine z_icmp_ge (tgt := 51) C dX12_twoOf_44 (by decide) (fun hc => ?_) (fun hc => ?_)
              · replace h := z_neg hc h
                refine z_iconst (v := 0) C dX12_twoOf_51 (by decide) ?_
                exact z_iret C h dX12_twoOf_52
              · replace h := z_pos hc h
                refine z_iconst (v := 1) C dX12_twoOf_47 (by decide) ?_
                refine z_goto (tgt := 52) C dX12_twoOf_48 (by decide) ?_
                exact z_iret C h dX12_twoOf_52
          · replace h := z_pos hc h
            refine z_iload_n C dX12_twoOf_32 rfl rfl ?_
            refine z_iload_n C dX12_twoOf_33 rfl rfl ?_
            obtain ⟨b1, h⟩ := z_chk_some h
            refine z_idiv C dX12_twoOf_34 (by simpa using b1) ?_
            exact z_iret C h dX12_twoOf_35
        · replace h := z_pos hc h
          refine z_iload_n C dX12_twoOf_23 rfl rfl ?_
          refine z_iload_n C dX12_twoOf_24 rfl rfl ?_
          refine z_imul C dX12_twoOf_25 ?_
          exact z_iret C h dX12_twoOf_26
      · replace h := z_pos hc h
        refine z_iload_n C dX12_twoOf_14 rfl rfl ?_
        refine z_iload_n C dX12_twoOf_15 rfl rfl ?_
        refine z_isub C dX12_twoOf_16 ?_
        exact z_iret C h dX12_twoOf_17
    · replace h := z_pos hc h
      refine z_iload_n C dX12_twoOf_5 rfl rfl ?_
      refine z_iload_n C dX12_twoOf_6 rfl rfl ?_
      refine z_iadd C dX12_twoOf_7 ?_
      exact z_iret C h dX12_twoOf_8
set_option maxHeartbeats 4000000 in
set_option maxRecDepth 100000 in
theorem t12_runs_J83 {X : z_Ct} (C : z_Cx S2 X RX12 cX12_runs 6 2 (some .int)) {u : Int32 × z_M} {k12 : Int32 → Int32 → Int32 → Int32 → z_M → Option (Int32 × z_M)} (hr12 : ∀ (v1 : Int32) (v3 : Int32) (v4 : Int32) (v5 : Int32) (σ : z_M), k12 v1 v3 v4 v5 σ = some u → z_W S2 X 12 [some (.ref (z_a X 0)), some (.int v1), none, some (.int v3), some (.int v4), some (.int v5)] [] σ (z_oi u)) (v1 : Int32) (v3 : Int32) (v4 : Int32) (v5 : Int32) (s1 : Int32) (s2 : Int32) (σ : z_M) (h : f12_runs_J83 k12 v1 v3 v4 v5 s1 s2 σ = some u) : z_W S2 X 83 [some (.ref (z_a X 0)), some (.int v1), none, some (.int v3), some (.int v4), some (.int v5)] [.int s2, .int s1, .ref (z_a X 21)] σ (z_oi u) := by
  unfold f12_runs_J83 at h
  obtain ⟨b1, h⟩ := z_chk_some h
  obtain ⟨σ2, eσ2, h⟩ := z_let_some h
  refine z_iast C rfl rfl b1 eσ2 dX12_runs_83 ?_
  refine z_iload C dX12_runs_84 rfl ?_
  refine z_iconst (v := 1) C dX12_runs_86 (by decide) ?_
  refine z_iadd C dX12_runs_87 ?_
  refine z_istore (lo' := [some (.ref (z_a X 0)), some (.int v1), none, some (.int v3), some (.int (v4 + 1)), some (.int v5)]) C dX12_runs_88 (Nat.le_of_ble_eq_true rfl) rfl ?_
  refine z_goto (tgt := 170) C dX12_runs_90 (by decide) ?_
  refine z_iinc (v := v5 + 1) (lo' := [some (.ref (z_a X 0)), some (.int v1), none, some (.int v3), some (.int (v4 + 1)), some (.int (v5 + 1))]) C dX12_runs_170 rfl rfl rfl ?_
  refine z_goto (tgt := 12) C dX12_runs_173 (by decide) ?_
  exact hr12 v1 v3 (v4 + 1) (v5 + 1) σ2 h
set_option maxHeartbeats 4000000 in
set_option maxRecDepth 100000 in
theorem t12_runs_J45 {X : z_Ct} (C : z_Cx S2 X RX12 cX12_runs 6 2 (some .int)) {u : Int32 × z_M} {k12 : Int32 → Int32 → Int32 → Int32 → z_M → Option (Int32 × z_M)} (hr12 : ∀ (v1 : Int32) (v3 : Int32) (v4 : Int32) (v5 : Int32) (σ : z_M), k12 v1 v3 v4 v5 σ = some u → z_W S2 X 12 [some (.ref (z_a X 0)), some (.int v1), none, some (.int v3), some (.int v4), some (.int v5)] [] σ (z_oi u)) (v1 : Int32) (v3 : Int32) (v4 : Int32) (v5 : Int32) (σ : z_M) (h : f12_runs_J45 k12 v1 v3 v4 v5 σ = some u) : z_W S2 X 45 [some (.ref (z_a X 0)), some (.int v1), none, some (.int v3), some (.int v4), some (.int v5)] [] σ (z_oi u) := by
  unfold f12_runs_J45 at h
  refine z_aload_n C dX12_runs_45 rfl rfl ?_
  refine z_geta (k := 43) (q := 21) C z_CF12 (by decide) flX12_74 rfl rfl dX12_runs_46 ?_
  refine z_iload C dX12_runs_49 rfl ?_
  refine z_aload_n C dX12_runs_51 rfl rfl ?_
  refine z_geta (k := 25) (q := 14) C z_CF12 (by decide) flX12_49 rfl rfl dX12_runs_52 ?_
  refine z_iload C dX12_runs_55 rfl ?_
  obtain ⟨b1, h⟩ := z_chk_some h
  refine z_iald C rfl rfl b1 dX12_runs_57 ?_
  refine z_if_ne (tgt := 71) C dX12_runs_58 (by decide) (fun hc => ?_) (fun hc => ?_)
  · replace h := z_neg hc h
    refine z_aload_n C dX12_runs_71 rfl rfl ?_
    refine z_geta (k := 42) (q := 20) C z_CF12 (by decide) flX12_71 rfl rfl dX12_runs_72 ?_
    refine z_aload_n C dX12_runs_75 rfl rfl ?_
    refine z_geta (k := 26) (q := 15) C z_CF12 (by decide) flX12_52 rfl rfl dX12_runs_76 ?_
    refine z_iload C dX12_runs_79 rfl ?_
    obtain ⟨b2, h⟩ := z_chk_some h
    refine z_iald C rfl rfl b2 dX12_runs_81 ?_
    obtain ⟨b3, h⟩ := z_chk_some h
    refine z_iald C rfl rfl b3 dX12_runs_82 ?_
    exact t12_runs_J83 C hr12 v1 v3 v4 v5 v4 (σ 20 (z_ix (σ 15 (z_ix v5)))) σ h
  · replace h := z_pos hc h
    refine z_aload_n C dX12_runs_61 rfl rfl ?_
    refine z_geta (k := 26) (q := 15) C z_CF12 (by decide) flX12_52 rfl rfl dX12_runs_62 ?_
    refine z_iload C dX12_runs_65 rfl ?_
    obtain ⟨b4, h⟩ := z_chk_some h
    refine z_iald C rfl rfl b4 dX12_runs_67 ?_
    refine z_goto (tgt := 83) C dX12_runs_68 (by decide) ?_
    exact t12_runs_J83 C hr12 v1 v3 v4 v5 v4 (σ 15 (z_ix v5)) σ h
set_option maxHeartbeats 4000000 in
set_option maxRecDepth 100000 in
theorem t12_runs_J176 {X : z_Ct} (C : z_Cx S2 X RX12 cX12_runs 6 2 (some .int)) {u : Int32 × z_M} (σ : z_M) (h : f12_runs_J176 σ = some u) : z_W S2 X 176 [some (.ref (z_a X 0)), none, none, none, none, none] [] σ (z_oi u) := by
  unfold f12_runs_J176 at h
  refine z_aload_n C dX12_runs_176 rfl rfl ?_
  refine z_geta (k := 43) (q := 21) C z_CF12 (by decide) flX12_74 rfl rfl dX12_runs_177 ?_
  refine z_iconst (v := 0) C dX12_runs_180 (by decide) ?_
  obtain ⟨b1, h⟩ := z_chk_some h
  refine z_iald C rfl rfl b1 dX12_runs_181 ?_
  exact z_iret C h dX12_runs_182
set_option maxHeartbeats 4000000 in
set_option maxRecDepth 100000 in
theorem t12_runs_L12 {X : z_Ct} (C : z_Cx S2 X RX12 cX12_runs 6 2 (some .int)) {u : Int32 × z_M} : ∀ (n : Nat) (v1 : Int32) (v3 : Int32) (v4 : Int32) (v5 : Int32) (σ : z_M), f12_runs_L12 n v1 v3 v4 v5 σ = some u → z_W S2 X 12 [some (.ref (z_a X 0)), some (.int v1), none, some (.int v3), some (.int v4), some (.int v5)] [] σ (z_oi u) := by
  intro n
  induction n with
  | zero => intro v1 v3 v4 v5 σ h; rw [f12_runs_L12] at h; cases h
  | succ n ih =>
    intro v1 v3 v4 v5 σ h
    rw [f12_runs_L12] at h
    refine z_iload C dX12_runs_12 rfl ?_
    refine z_sipush (v := 400) C dX12_runs_14 (by decide) ?_
    refine z_iload_n C dX12_runs_17 rfl rfl ?_
    refine z_imul C dX12_runs_18 ?_
    refine z_iload_n C dX12_runs_19 rfl rfl ?_
    refine z_iadd C dX12_runs_20 ?_
    refine z_icmp_ge (tgt := 176) C dX12_runs_21 (by decide) (fun hc => ?_) (fun hc => ?_)
    · replace h := z_neg hc h
      refine z_kill (lo' := [some (.ref (z_a X 0)), none, none, none, none, none]) [1, 3, 4, 5] rfl ?_
      exact t12_runs_J176 C σ h
    · replace h := z_pos hc h
      refine z_aload_n C dX12_runs_24 rfl rfl ?_
      refine z_geta (k := 25) (q := 14) C z_CF12 (by decide) flX12_49 rfl rfl dX12_runs_25 ?_
      refine z_iload C dX12_runs_28 rfl ?_
      obtain ⟨b1, h⟩ := z_chk_some h
      refine z_iald C rfl rfl b1 dX12_runs_30 ?_
      refine z_if_eq (tgt := 45) C dX12_runs_31 (by decide) (fun hc => ?_) (fun hc => ?_)
      · replace h := z_pos hc h
        exact t12_runs_J45 C ih v1 v3 v4 v5 σ h
      · replace h := z_neg hc h
        refine z_aload_n C dX12_runs_34 rfl rfl ?_
        refine z_geta (k := 25) (q := 14) C z_CF12 (by decide) flX12_49 rfl rfl dX12_runs_35 ?_
        refine z_iload C dX12_runs_38 rfl ?_
        obtain ⟨b2, h⟩ := z_chk_some h
        refine z_iald C rfl rfl b2 dX12_runs_40 ?_
        refine z_iconst (v := 1) C dX12_runs_41 (by decide) ?_
        refine z_icmp_ne (tgt := 93) C dX12_runs_42 (by decide) (fun hc => ?_) (fun hc => ?_)
        · replace h := z_neg hc h
          refine z_aload_n C dX12_runs_93 rfl rfl ?_
          refine z_geta (k := 25) (q := 14) C z_CF12 (by decide) flX12_49 rfl rfl dX12_runs_94 ?_
          refine z_iload C dX12_runs_97 rfl ?_
          obtain ⟨b3, h⟩ := z_chk_some h
          refine z_iald C rfl rfl b3 dX12_runs_99 ?_
          refine z_bipush (v := 9) C dX12_runs_100 (by decide) ?_
          refine z_icmp_ne (tgt := 128) C dX12_runs_102 (by decide) (fun hc => ?_) (fun hc => ?_)
          · replace h := z_neg hc h
            refine z_iload C dX12_runs_128 rfl ?_
            refine z_iconst (v := 1) C dX12_runs_130 (by decide) ?_
            refine z_isub C dX12_runs_131 ?_
            refine z_istore (lo' := [some (.ref (z_a X 0)), some (.int v1), none, some (.int v3), some (.int (v4 - 1)), some (.int v5)]) C dX12_runs_132 (Nat.le_of_ble_eq_true rfl) rfl ?_
            refine z_aload_n C dX12_runs_134 rfl rfl ?_
            refine z_geta (k := 43) (q := 21) C z_CF12 (by decide) flX12_74 rfl rfl dX12_runs_135 ?_
            refine z_iload C dX12_runs_138 rfl ?_
            refine z_iconst (v := 1) C dX12_runs_140 (by decide) ?_
            refine z_isub C dX12_runs_141 ?_
            refine z_aload_n C dX12_runs_142 rfl rfl ?_
            refine z_aload_n C dX12_runs_143 rfl rfl ?_
            refine z_geta (k := 25) (q := 14) C z_CF12 (by decide) flX12_49 rfl rfl dX12_runs_144 ?_
            refine z_iload C dX12_runs_147 rfl ?_
            obtain ⟨b4, h⟩ := z_chk_some h
            refine z_iald C rfl rfl b4 dX12_runs_149 ?_
            refine z_aload_n C dX12_runs_150 rfl rfl ?_
            refine z_geta (k := 43) (q := 21) C z_CF12 (by decide) flX12_74 rfl rfl dX12_runs_151 ?_
            refine z_iload C dX12_runs_154 rfl ?_
            refine z_iconst (v := 1) C dX12_runs_156 (by decide) ?_
            refine z_isub C dX12_runs_157 ?_
            obtain ⟨b5, h⟩ := z_chk_some h
            refine z_iald C rfl rfl b5 dX12_runs_158 ?_
            refine z_aload_n C dX12_runs_159 rfl rfl ?_
            refine z_geta (k := 43) (q := 21) C z_CF12 (by decide) flX12_74 rfl rfl dX12_runs_160 ?_
            refine z_iload C dX12_runs_163 rfl ?_
            obtain ⟨b6, h⟩ := z_chk_some h
            refine z_iald C rfl rfl b6 dX12_runs_165 ?_
            obtain ⟨r7, σ8, mσ8, h⟩ := z_bnd2 h
            refine z_cvi (As := [.int (σ 14 (z_ix v5)), .int (σ 21 (z_ix ((v4 - 1) - 1))), .int (σ 21 (z_ix (v4 - 1)))]) (c := 0) (st := [.int ((v4 - 1) - 1), .ref (z_a X 21)]) C (t12_twoOf (σ 14 (z_ix v5)) (σ 21 (z_ix ((v4 - 1) - 1))) (σ 21 (z_ix (v4 - 1))) mσ8) kvX12_twoOf rfl mlX12_318 z_CF12 rfl rfl (by decide) rfl (Nat.le_of_ble_eq_true rfl) dX12_runs_166 ?_
            obtain ⟨b9, h⟩ := z_chk_some h
            obtain ⟨σ10, eσ10, h⟩ := z_let_some h
            refine z_iast C rfl rfl b9 eσ10 dX12_runs_169 ?_
            refine z_iinc (v := v5 + 1) (lo' := [some (.ref (z_a X 0)), some (.int v1), none, some (.int v3), some (.int (v4 - 1)), some (.int (v5 + 1))]) C dX12_runs_170 rfl rfl rfl ?_
            refine z_goto (tgt := 12) C dX12_runs_173 (by decide) ?_
            exact ih v1 v3 (v4 - 1) (v5 + 1) σ10 h
          · replace h := z_pos hc h
            refine z_aload_n C dX12_runs_105 rfl rfl ?_
            refine z_geta (k := 43) (q := 21) C z_CF12 (by decide) flX12_74 rfl rfl dX12_runs_106 ?_
            refine z_iload C dX12_runs_109 rfl ?_
            refine z_iconst (v := 1) C dX12_runs_111 (by decide) ?_
            refine z_isub C dX12_runs_112 ?_
            refine z_iconst (v := 1) C dX12_runs_113 (by decide) ?_
            refine z_aload_n C dX12_runs_114 rfl rfl ?_
            refine z_geta (k := 43) (q := 21) C z_CF12 (by decide) flX12_74 rfl rfl dX12_runs_115 ?_
            refine z_iload C dX12_runs_118 rfl ?_
            refine z_iconst (v := 1) C dX12_runs_120 (by decide) ?_
            refine z_isub C dX12_runs_121 ?_
            obtain ⟨b11, h⟩ := z_chk_some h
            refine z_iald C rfl rfl b11 dX12_runs_122 ?_
            refine z_isub C dX12_runs_123 ?_
            obtain ⟨b12, h⟩ := z_chk_some h
            obtain ⟨σ13, eσ13, h⟩ := z_let_some h
            refine z_iast C rfl rfl b12 eσ13 dX12_runs_124 ?_
            refine z_goto (tgt := 170) C dX12_runs_125 (by decide) ?_
            refine z_iinc (v := v5 + 1) (lo' := [some (.ref (z_a X 0)), some (.int v1), none, some (.int v3), some (.int v4), some (.int (v5 + 1))]) C dX12_runs_170 rfl rfl rfl ?_
            refine z_goto (tgt := 12) C dX12_runs_173 (by decide) ?_
            exact ih v1 v3 v4 (v5 + 1) σ13 h
        · replace h := z_pos hc h
          exact t12_runs_J45 C ih v1 v3 v4 v5 σ h
set_option maxHeartbeats 4000000 in
set_option maxRecDepth 100000 in
theorem t12_runs {a : Nat → Nat} (p1 : Int32) (p2 : Int32) (p3 : Int32) {σ : z_M} {u : Int32 × z_M} (h : f12_runs p1 p2 p3 σ = some u) : z_Mt yX12_runs (z_w yX12_runs cX12_runs 6 (some .int)) 2 S2 a σ [.ref (a 0), .int p1, .int p2, .int p3] (z_oi u) := by
  refine z_head (lo := [some (.ref (a 0)), some (.int p1), some (.int p2), some (.int p3), none, none]) (by decide) (Nat.le_of_ble_eq_true rfl) ?_ rfl ?_
  · intro i v hv
    exact z_loe (vs := [.ref (a 0), .int p1, .int p2, .int p3]) (n := 2) rfl (by simp [z_c1i, z_c1r]) i v hv
  · intro X hXa C
    subst hXa
    unfold f12_runs at h
    refine z_iconst (v := 0) C dX12_runs_0 (by decide) ?_
    refine z_istore (lo' := [some (.ref (z_a X 0)), some (.int p1), some (.int p2), some (.int p3), some (.int 0), none]) C dX12_runs_1 (Nat.le_of_ble_eq_true rfl) rfl ?_
    refine z_sipush (v := 400) C dX12_runs_3 (by decide) ?_
    refine z_iload_n C dX12_runs_6 rfl rfl ?_
    refine z_imul C dX12_runs_7 ?_
    refine z_iload_n C dX12_runs_8 rfl rfl ?_
    refine z_iadd C dX12_runs_9 ?_
    refine z_istore (lo' := [some (.ref (z_a X 0)), some (.int p1), some (.int p2), some (.int p3), some (.int 0), some (.int ((400 * p1) + p2))]) C dX12_runs_10 (Nat.le_of_ble_eq_true rfl) rfl ?_
    refine z_kill (lo' := [some (.ref (z_a X 0)), some (.int p1), none, some (.int p3), some (.int 0), some (.int ((400 * p1) + p2))]) [2] rfl ?_
    exact t12_runs_L12 C _ p1 p3 0 ((400 * p1) + p2) σ h
