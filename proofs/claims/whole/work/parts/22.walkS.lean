set_option maxHeartbeats 4000000 in
set_option maxRecDepth 100000 in
theorem tj0_isLatin1 {a : Nat → Nat} (i0 : Nat) {σ : z_M} (hi0 : i0 < 2) {u : Int32 × z_M} (h : fj0_isLatin1 i0 σ = some u) : z_Mt yJ0_isLatin1_aae02 (z_w yJ0_isLatin1_aae02 cJ0_isLatin1_aae02 1 (some .boolean)) 1 S1 a σ [.ref (a (1000 + i0))] (z_oi u) := by
  refine z_head (lo := [some (.ref (a (1000 + i0)))]) (by decide) (Nat.le_of_ble_eq_true rfl) ?_ rfl ?_
  · intro i v hv
    exact z_loe (vs := [.ref (a (1000 + i0))]) (n := 0) rfl (by simp [z_c1i, z_c1r]) i v hv
  · intro X hXa C
    subst hXa
    unfold fj0_isLatin1 at h
    refine z_scmp C flJ0_38 dJ0_isLatin1_aae02_0 ?_
    refine z_if_eq (tgt := 17) C dJ0_isLatin1_aae02_3 (by decide) (fun hc => ?_) (fun hc => ?_)
    · exact absurd hc (by decide)
    · skip
      refine z_aload_n C dJ0_isLatin1_aae02_6 rfl rfl ?_
      refine z_scod C hi0 flJ0_15 dJ0_isLatin1_aae02_7 ?_
      refine z_if_ne (tgt := 17) C dJ0_isLatin1_aae02_10 (by decide) (fun hc => ?_) (fun hc => ?_)
      · exact absurd hc (by decide)
      · skip
        refine z_iconst (v := 1) C dJ0_isLatin1_aae02_13 (by decide) ?_
        refine z_goto (tgt := 18) C dJ0_isLatin1_aae02_14 (by decide) ?_
        exact z_zret C (by decide) h dJ0_isLatin1_aae02_18
set_option maxHeartbeats 4000000 in
set_option maxRecDepth 100000 in
theorem tj0_coder {a : Nat → Nat} (i0 : Nat) {σ : z_M} (hi0 : i0 < 2) {u : Int32 × z_M} (h : fj0_coder i0 σ = some u) : z_Mt yJ0_coder_7d493 (z_w yJ0_coder_7d493 cJ0_coder_7d493 1 (some .byte)) 1 S1 a σ [.ref (a (1000 + i0))] (z_oi u) := by
  refine z_head (lo := [some (.ref (a (1000 + i0)))]) (by decide) (Nat.le_of_ble_eq_true rfl) ?_ rfl ?_
  · intro i v hv
    exact z_loe (vs := [.ref (a (1000 + i0))]) (n := 0) rfl (by simp [z_c1i, z_c1r]) i v hv
  · intro X hXa C
    subst hXa
    unfold fj0_coder at h
    refine z_scmp C flJ0_38 dJ0_coder_7d493_0 ?_
    refine z_if_eq (tgt := 13) C dJ0_coder_7d493_3 (by decide) (fun hc => ?_) (fun hc => ?_)
    · exact absurd hc (by decide)
    · skip
      refine z_aload_n C dJ0_coder_7d493_6 rfl rfl ?_
      refine z_scod C hi0 flJ0_15 dJ0_coder_7d493_7 ?_
      refine z_goto (tgt := 14) C dJ0_coder_7d493_10 (by decide) ?_
      exact z_bret C (by decide) h dJ0_coder_7d493_14
set_option maxHeartbeats 4000000 in
set_option maxRecDepth 100000 in
theorem tj0_length {a : Nat → Nat} (i0 : Nat) {σ : z_M} (hi0 : i0 < 2) {u : Int32 × z_M} (h : fj0_length i0 σ = some u) : z_Mt yJ0_length_8abf5 (z_w yJ0_length_8abf5 cJ0_length_8abf5 1 (some .int)) 2 S1 a σ [.ref (a (1000 + i0))] (z_oi u) := by
  refine z_head (lo := [some (.ref (a (1000 + i0)))]) (by decide) (Nat.le_of_ble_eq_true rfl) ?_ rfl ?_
  · intro i v hv
    exact z_loe (vs := [.ref (a (1000 + i0))]) (n := 0) rfl (by simp [z_c1i, z_c1r]) i v hv
  · intro X hXa C
    subst hXa
    unfold fj0_length at h
    refine z_aload_n C dJ0_length_8abf5_0 rfl rfl ?_
    refine z_sval C hi0 flJ0_9 dJ0_length_8abf5_1 ?_
    refine z_sblen C hi0 dJ0_length_8abf5_4 ?_
    refine z_aload_n C dJ0_length_8abf5_5 rfl rfl ?_
    obtain ⟨r1, σ2, mσ2, h⟩ := z_bnd2 h
    refine z_csv (i := i0) (As := []) (st := [.int (nI (z_sn i0))]) C hi0 (tj0_coder i0 hi0 mσ2) kvJ0_coder_7d493 rfl mlJ0_335 rfl (by decide) rfl (Nat.le_of_ble_eq_true rfl) dJ0_length_8abf5_6 ?_
    refine z_ishr C dJ0_length_8abf5_9 ?_
    exact z_iret C h dJ0_length_8abf5_10
set_option maxHeartbeats 4000000 in
set_option maxRecDepth 100000 in
theorem tj1_canEncode_J15 {X : z_Ct} (C : z_Cx S1 X RJ1 cJ1_canEncode_9a6ad 1 1 (some .boolean)) {u : Int32 × z_M} (σ : z_M) (h : fj1_canEncode_J15 σ = some u) : z_W S1 X 15 [none] [] σ (z_oi u) := by
  unfold fj1_canEncode_J15 at h
  refine z_iconst (v := 0) C dJ1_canEncode_9a6ad_15 (by decide) ?_
  exact z_zret C (by decide) h dJ1_canEncode_9a6ad_16
set_option maxHeartbeats 4000000 in
set_option maxRecDepth 100000 in
theorem tj1_canEncode {a : Nat → Nat} (p0 : Int32) {σ : z_M} {u : Int32 × z_M} (h : fj1_canEncode p0 σ = some u) : z_Mt yJ1_canEncode_9a6ad (z_w yJ1_canEncode_9a6ad cJ1_canEncode_9a6ad 1 (some .boolean)) 1 S1 a σ [.int p0] (z_oi u) := by
  refine z_head (lo := [some (.int p0)]) (by decide) (Nat.le_of_ble_eq_true rfl) ?_ rfl ?_
  · intro i v hv
    exact z_loe (vs := [.int p0]) (n := 0) rfl (by simp [z_c1i, z_c1r]) i v hv
  · intro X hXa C
    subst hXa
    unfold fj1_canEncode at h
    refine z_iload_n C dJ1_canEncode_9a6ad_0 rfl rfl ?_
    refine z_if_lt (tgt := 15) C dJ1_canEncode_9a6ad_1 (by decide) (fun hc => ?_) (fun hc => ?_)
    · replace h := z_pos hc h
      refine z_kill (lo' := [none]) [0] rfl ?_
      exact tj1_canEncode_J15 C σ h
    · replace h := z_neg hc h
      refine z_iload_n C dJ1_canEncode_9a6ad_4 rfl rfl ?_
      refine z_sipush (v := 255) C dJ1_canEncode_9a6ad_5 (by decide) ?_
      refine z_icmp_gt (tgt := 15) C dJ1_canEncode_9a6ad_8 (by decide) (fun hc => ?_) (fun hc => ?_)
      · replace h := z_pos hc h
        refine z_kill (lo' := [none]) [0] rfl ?_
        exact tj1_canEncode_J15 C σ h
      · replace h := z_neg hc h
        refine z_iconst (v := 1) C dJ1_canEncode_9a6ad_11 (by decide) ?_
        refine z_goto (tgt := 16) C dJ1_canEncode_9a6ad_12 (by decide) ?_
        exact z_zret C (by decide) h dJ1_canEncode_9a6ad_16
set_option maxHeartbeats 4000000 in
set_option maxRecDepth 100000 in
theorem tj1_indexOfChar_L7 {X : z_Ct} (C : z_Cx S1 X RJ1 cJ1_indexOfChar_4cfef 6 1 (some .int)) {u : Int32 × z_M} : ∀ (n : Nat) (i0 : Nat) (v3 : Int32) (v4 : Int32) (v5 : Int32) (σ : z_M),i0 < 2 →  fj1_indexOfChar_L7 n i0 v3 v4 v5 σ = some u → z_W S1 X 7 [some (.ref (z_a X (2000 + i0))), none, none, some (.int v3), some (.int v4), some (.int v5)] [] σ (z_oi u) := by
  intro n
  induction n with
  | zero => intro i0 v3 v4 v5 σ hi0 h; rw [fj1_indexOfChar_L7] at h; cases h
  | succ n ih =>
    intro i0 v3 v4 v5 σ hi0 h
    rw [fj1_indexOfChar_L7] at h
    refine z_iload C dJ1_indexOfChar_4cfef_7 rfl ?_
    refine z_iload_n C dJ1_indexOfChar_4cfef_9 rfl rfl ?_
    refine z_icmp_ge (tgt := 31) C dJ1_indexOfChar_4cfef_10 (by decide) (fun hc => ?_) (fun hc => ?_)
    · replace h := z_neg hc h
      refine z_iconst (v := (-1)) C dJ1_indexOfChar_4cfef_31 (by decide) ?_
      exact z_iret C h dJ1_indexOfChar_4cfef_32
    · replace h := z_pos hc h
      refine z_aload_n C dJ1_indexOfChar_4cfef_13 rfl rfl ?_
      refine z_iload C dJ1_indexOfChar_4cfef_14 rfl ?_
      obtain ⟨b1, h⟩ := z_chk_some h
      refine z_sbald C hi0 b1 dJ1_indexOfChar_4cfef_16 ?_
      refine z_iload C dJ1_indexOfChar_4cfef_17 rfl ?_
      refine z_icmp_ne (tgt := 25) C dJ1_indexOfChar_4cfef_19 (by decide) (fun hc => ?_) (fun hc => ?_)
      · replace h := z_neg hc h
        refine z_iinc (v := v5 + 1) (lo' := [some (.ref (z_a X (2000 + i0))), none, none, some (.int v3), some (.int v4), some (.int (v5 + 1))]) C dJ1_indexOfChar_4cfef_25 rfl rfl rfl ?_
        refine z_goto (tgt := 7) C dJ1_indexOfChar_4cfef_28 (by decide) ?_
        exact ih i0 v3 v4 (v5 + 1) σ hi0 h
      · replace h := z_pos hc h
        refine z_iload C dJ1_indexOfChar_4cfef_22 rfl ?_
        exact z_iret C h dJ1_indexOfChar_4cfef_24
set_option maxHeartbeats 4000000 in
set_option maxRecDepth 100000 in
theorem tj1_indexOfChar {a : Nat → Nat} (i0 : Nat) (p1 : Int32) (p2 : Int32) (p3 : Int32) {σ : z_M} (hi0 : i0 < 2) {u : Int32 × z_M} (h : fj1_indexOfChar i0 p1 p2 p3 σ = some u) : z_Mt yJ1_indexOfChar_4cfef (z_w yJ1_indexOfChar_4cfef cJ1_indexOfChar_4cfef 6 (some .int)) 1 S1 a σ [.ref (a (2000 + i0)), .int p1, .int p2, .int p3] (z_oi u) := by
  refine z_head (lo := [some (.ref (a (2000 + i0))), some (.int p1), some (.int p2), some (.int p3), none, none]) (by decide) (Nat.le_of_ble_eq_true rfl) ?_ rfl ?_
  · intro i v hv
    exact z_loe (vs := [.ref (a (2000 + i0)), .int p1, .int p2, .int p3]) (n := 2) rfl (by simp [z_c1i, z_c1r]) i v hv
  · intro X hXa C
    subst hXa
    unfold fj1_indexOfChar at h
    refine z_iload_n C dJ1_indexOfChar_4cfef_0 rfl rfl ?_
    refine z_i2b C dJ1_indexOfChar_4cfef_1 ?_
    refine z_istore (lo' := [some (.ref (z_a X (2000 + i0))), some (.int p1), some (.int p2), some (.int p3), some (.int p1.toInt8.toInt32), none]) C dJ1_indexOfChar_4cfef_2 (Nat.le_of_ble_eq_true rfl) rfl ?_
    refine z_iload_n C dJ1_indexOfChar_4cfef_4 rfl rfl ?_
    refine z_istore (lo' := [some (.ref (z_a X (2000 + i0))), some (.int p1), some (.int p2), some (.int p3), some (.int p1.toInt8.toInt32), some (.int p2)]) C dJ1_indexOfChar_4cfef_5 (Nat.le_of_ble_eq_true rfl) rfl ?_
    refine z_kill (lo' := [some (.ref (z_a X (2000 + i0))), none, none, some (.int p3), some (.int p1.toInt8.toInt32), some (.int p2)]) [1, 2] rfl ?_
    exact tj1_indexOfChar_L7 C _ i0 p3 p1.toInt8.toInt32 p2 σ hi0 h
set_option maxHeartbeats 4000000 in
set_option maxRecDepth 100000 in
theorem tj1_indexOf {a : Nat → Nat} (i0 : Nat) (p1 : Int32) (p2 : Int32) (p3 : Int32) {σ : z_M} (hi0 : i0 < 2) {u : Int32 × z_M} (h : fj1_indexOf i0 p1 p2 p3 σ = some u) : z_Mt yJ1_indexOf_4cfef (z_w yJ1_indexOf_4cfef cJ1_indexOf_4cfef 4 (some .int)) 2 S1 a σ [.ref (a (2000 + i0)), .int p1, .int p2, .int p3] (z_oi u) := by
  refine z_head (lo := [some (.ref (a (2000 + i0))), some (.int p1), some (.int p2), some (.int p3)]) (by decide) (Nat.le_of_ble_eq_true rfl) ?_ rfl ?_
  · intro i v hv
    exact z_loe (vs := [.ref (a (2000 + i0)), .int p1, .int p2, .int p3]) (n := 0) rfl (by simp [z_c1i, z_c1r]) i v hv
  · intro X hXa C
    subst hXa
    unfold fj1_indexOf at h
    refine z_iload_n C dJ1_indexOf_4cfef_0 rfl rfl ?_
    obtain ⟨r1, σ2, mσ2, h⟩ := z_bnd2 h
    refine z_csi (As := [.int p1]) (st := []) C (tj1_canEncode p1 mσ2) kvJ1_canEncode_9a6ad rfl mlJ1_88 (by decide) rfl (Nat.le_of_ble_eq_true rfl) dJ1_indexOf_4cfef_1 ?_
    refine z_if_ne (tgt := 9) C dJ1_indexOf_4cfef_4 (by decide) (fun hc => ?_) (fun hc => ?_)
    · replace h := z_neg hc h
      refine z_iload_n C dJ1_indexOf_4cfef_9 rfl rfl ?_
      refine z_iconst (v := 0) C dJ1_indexOf_4cfef_10 (by decide) ?_
      refine z_mmax (st := []) C rfl (Nat.le_of_ble_eq_true rfl) mlJ1_92 dJ1_indexOf_4cfef_11 ?_
      refine z_istore_n (lo' := [some (.ref (z_a X (2000 + i0))), some (.int p1), some (.int (z_max p2 0)), some (.int p3)]) C dJ1_indexOf_4cfef_14 rfl (Nat.le_of_ble_eq_true rfl) rfl ?_
      refine z_iload_n C dJ1_indexOf_4cfef_15 rfl rfl ?_
      refine z_aload_n C dJ1_indexOf_4cfef_16 rfl rfl ?_
      refine z_sblen C hi0 dJ1_indexOf_4cfef_17 ?_
      refine z_mmin (st := []) C rfl (Nat.le_of_ble_eq_true rfl) mlJ1_38 dJ1_indexOf_4cfef_18 ?_
      refine z_istore_n (lo' := [some (.ref (z_a X (2000 + i0))), some (.int p1), some (.int (z_max p2 0)), some (.int (z_min p3 (nI (z_sn i0))))]) C dJ1_indexOf_4cfef_21 rfl (Nat.le_of_ble_eq_true rfl) rfl ?_
      refine z_iload_n C dJ1_indexOf_4cfef_22 rfl rfl ?_
      refine z_iload_n C dJ1_indexOf_4cfef_23 rfl rfl ?_
      refine z_icmp_lt (tgt := 29) C dJ1_indexOf_4cfef_24 (by decide) (fun hc => ?_) (fun hc => ?_)
      · replace h := z_pos hc h
        refine z_aload_n C dJ1_indexOf_4cfef_29 rfl rfl ?_
        refine z_iload_n C dJ1_indexOf_4cfef_30 rfl rfl ?_
        refine z_iload_n C dJ1_indexOf_4cfef_31 rfl rfl ?_
        refine z_iload_n C dJ1_indexOf_4cfef_32 rfl rfl ?_
        obtain ⟨r3, σ4, mσ4, h⟩ := z_bnd2 h
        refine z_csi (As := [.ref (z_a X (2000 + i0)), .int p1, .int (z_max p2 0), .int (z_min p3 (nI (z_sn i0)))]) (st := []) C (tj1_indexOfChar i0 p1 (z_max p2 0) (z_min p3 (nI (z_sn i0))) hi0 mσ4) kvJ1_indexOfChar_4cfef rfl mlJ1_95 (by decide) rfl (Nat.le_of_ble_eq_true rfl) dJ1_indexOf_4cfef_33 ?_
        exact z_iret C h dJ1_indexOf_4cfef_36
      · replace h := z_neg hc h
        refine z_iconst (v := (-1)) C dJ1_indexOf_4cfef_27 (by decide) ?_
        exact z_iret C h dJ1_indexOf_4cfef_28
    · replace h := z_pos hc h
      refine z_iconst (v := (-1)) C dJ1_indexOf_4cfef_7 (by decide) ?_
      exact z_iret C h dJ1_indexOf_4cfef_8
set_option maxHeartbeats 4000000 in
set_option maxRecDepth 100000 in
theorem tj0_indexOf2 {a : Nat → Nat} (i0 : Nat) (p1 : Int32) (p2 : Int32) {σ : z_M} (hi0 : i0 < 2) {u : Int32 × z_M} (h : fj0_indexOf2 i0 p1 p2 σ = some u) : z_Mt yJ0_indexOf_7cf53 (z_w yJ0_indexOf_7cf53 cJ0_indexOf_7cf53 3 (some .int)) 3 S1 a σ [.ref (a (1000 + i0)), .int p1, .int p2] (z_oi u) := by
  refine z_head (lo := [some (.ref (a (1000 + i0))), some (.int p1), some (.int p2)]) (by decide) (Nat.le_of_ble_eq_true rfl) ?_ rfl ?_
  · intro i v hv
    exact z_loe (vs := [.ref (a (1000 + i0)), .int p1, .int p2]) (n := 0) rfl (by simp [z_c1i, z_c1r]) i v hv
  · intro X hXa C
    subst hXa
    unfold fj0_indexOf2 at h
    refine z_aload_n C dJ0_indexOf_7cf53_0 rfl rfl ?_
    obtain ⟨r1, σ2, mσ2, h⟩ := z_bnd2 h
    refine z_csv (i := i0) (As := []) (st := []) C hi0 (tj0_isLatin1 i0 hi0 mσ2) kvJ0_isLatin1_aae02 rfl mlJ0_492 rfl (by decide) rfl (Nat.le_of_ble_eq_true rfl) dJ0_indexOf_7cf53_1 ?_
    refine z_if_eq (tgt := 23) C dJ0_indexOf_7cf53_4 (by decide) (fun hc => ?_) (fun hc => ?_)
    · replace h := z_pos hc h
      cases h
    · replace h := z_neg hc h
      refine z_aload_n C dJ0_indexOf_7cf53_7 rfl rfl ?_
      refine z_sval C hi0 flJ0_9 dJ0_indexOf_7cf53_8 ?_
      refine z_iload_n C dJ0_indexOf_7cf53_11 rfl rfl ?_
      refine z_iload_n C dJ0_indexOf_7cf53_12 rfl rfl ?_
      refine z_aload_n C dJ0_indexOf_7cf53_13 rfl rfl ?_
      obtain ⟨r5, σ6, mσ6, h⟩ := z_bnd2 h
      refine z_csv (i := i0) (As := []) (st := [.int p2, .int p1, .ref (z_a X (2000 + i0))]) C hi0 (tj0_length i0 hi0 mσ6) kvJ0_length_8abf5 rfl mlJ0_505 rfl (by decide) rfl (Nat.le_of_ble_eq_true rfl) dJ0_indexOf_7cf53_14 ?_
      obtain ⟨r7, σ8, mσ8, h⟩ := z_bnd2 h
      refine z_csi (As := [.ref (z_a X (2000 + i0)), .int p1, .int p2, .int r5]) (st := []) C (tj1_indexOf i0 p1 p2 r5 hi0 mσ8) kvJ1_indexOf_4cfef rfl mlJ0_637 (by decide) rfl (Nat.le_of_ble_eq_true rfl) dJ0_indexOf_7cf53_17 ?_
      refine z_goto (tgt := 36) C dJ0_indexOf_7cf53_20 (by decide) ?_
      exact z_iret C h dJ0_indexOf_7cf53_36
set_option maxHeartbeats 4000000 in
set_option maxRecDepth 100000 in
theorem tj0_indexOf {a : Nat → Nat} (i0 : Nat) (p1 : Int32) {σ : z_M} (hi0 : i0 < 2) {u : Int32 × z_M} (h : fj0_indexOf i0 p1 σ = some u) : z_Mt yJ0_indexOf_0f7a4 (z_w yJ0_indexOf_0f7a4 cJ0_indexOf_0f7a4 2 (some .int)) 4 S1 a σ [.ref (a (1000 + i0)), .int p1] (z_oi u) := by
  refine z_head (lo := [some (.ref (a (1000 + i0))), some (.int p1)]) (by decide) (Nat.le_of_ble_eq_true rfl) ?_ rfl ?_
  · intro i v hv
    exact z_loe (vs := [.ref (a (1000 + i0)), .int p1]) (n := 0) rfl (by simp [z_c1i, z_c1r]) i v hv
  · intro X hXa C
    subst hXa
    unfold fj0_indexOf at h
    refine z_aload_n C dJ0_indexOf_0f7a4_0 rfl rfl ?_
    refine z_iload_n C dJ0_indexOf_0f7a4_1 rfl rfl ?_
    refine z_iconst (v := 0) C dJ0_indexOf_0f7a4_2 (by decide) ?_
    obtain ⟨r1, σ2, mσ2, h⟩ := z_bnd2 h
    refine z_csv (i := i0) (As := [.int p1, .int 0]) (st := []) C hi0 (tj0_indexOf2 i0 p1 0 hi0 mσ2) kvJ0_indexOf_7cf53 rfl mlJ0_633 rfl (by decide) rfl (Nat.le_of_ble_eq_true rfl) dJ0_indexOf_0f7a4_3 ?_
    exact z_iret C h dJ0_indexOf_0f7a4_6
set_option maxHeartbeats 4000000 in
set_option maxRecDepth 100000 in
theorem t8_signOf_J15 {X : z_Ct} (C : z_Cx S1 X RX8 cX8_signOf 2 5 (some .int)) {u : Int32 × z_M} (s0 : Int32) (σ : z_M) (h : f8_signOf_J15 s0 σ = some u) : z_W S1 X 15 [none, none] [.int s0] σ (z_oi u) := by
  unfold f8_signOf_J15 at h
  refine z_istore_n (lo' := [none, some (.int s0)]) C dX8_signOf_15 rfl (Nat.le_of_ble_eq_true rfl) rfl ?_
  refine z_iload_n C dX8_signOf_16 rfl rfl ?_
  refine z_if_ge (tgt := 25) C dX8_signOf_17 (by decide) (fun hc => ?_) (fun hc => ?_)
  · replace h := z_neg hc h
    refine z_bipush (v := 32) C dX8_signOf_25 (by decide) ?_
    refine z_iload_n C dX8_signOf_27 rfl rfl ?_
    refine z_iadd C dX8_signOf_28 ?_
    exact z_iret C h dX8_signOf_29
  · replace h := z_pos hc h
    refine z_bipush (v := 44) C dX8_signOf_20 (by decide) ?_
    refine z_goto (tgt := 29) C dX8_signOf_22 (by decide) ?_
    exact z_iret C h dX8_signOf_29
set_option maxHeartbeats 4000000 in
set_option maxRecDepth 100000 in
theorem t8_signOf {a : Nat → Nat} (p0 : Int32) {σ : z_M} {u : Int32 × z_M} (h : f8_signOf p0 σ = some u) : z_Mt yX8_signOf (z_w yX8_signOf cX8_signOf 2 (some .int)) 5 S1 a σ [.int p0] (z_oi u) := by
  refine z_head (lo := [some (.int p0), none]) (by decide) (Nat.le_of_ble_eq_true rfl) ?_ rfl ?_
  · intro i v hv
    exact z_loe (vs := [.int p0]) (n := 1) rfl (by simp [z_c1i, z_c1r]) i v hv
  · intro X hXa C
    subst hXa
    unfold f8_signOf at h
    refine z_iload_n C dX8_signOf_0 rfl rfl ?_
    refine z_if_le (tgt := 14) C dX8_signOf_1 (by decide) (fun hc => ?_) (fun hc => ?_)
    · replace h := z_neg hc h
      refine z_iconst (v := (-1)) C dX8_signOf_14 (by decide) ?_
      refine z_kill (lo' := [none, none]) [0] rfl ?_
      exact t8_signOf_J15 C (-1) σ h
    · replace h := z_pos hc h
      refine z_lds1 C dX8_signOf_4 ?_
      refine z_iload_n C dX8_signOf_6 rfl rfl ?_
      refine z_i2c C dX8_signOf_7 ?_
      obtain ⟨r1, σ2, mσ2, h⟩ := z_bnd2 h
      refine z_csv (i := 1) (As := [.int ((p0.toUInt32 % 65536).toInt32)]) (st := []) C (by decide) (tj0_indexOf 1 ((p0.toUInt32 % 65536).toInt32) (by decide) mσ2) kvJ0_indexOf_0f7a4 rfl mlX8_62 rfl (by decide) rfl (Nat.le_of_ble_eq_true rfl) dX8_signOf_8 ?_
      refine z_goto (tgt := 15) C dX8_signOf_11 (by decide) ?_
      refine z_kill (lo' := [none, none]) [0] rfl ?_
      exact t8_signOf_J15 C r1 σ2 h
set_option maxHeartbeats 4000000 in
set_option maxRecDepth 100000 in
theorem tj3_checkIndex {a : Nat → Nat} (p0 : Int32) (p1 : Int32) {σ : z_M} (w2 : Value) (hw2 : w2.category = 1) {u : Int32 × z_M} (h : fj3_checkIndex p0 p1 σ = some u) : z_Mt yJ3_checkIndex_8e157 (z_w yJ3_checkIndex_8e157 cJ3_checkIndex_8e157 3 (some .int)) 1 S1 a σ [.int p0, .int p1, w2] (z_oi u) := by
  refine z_head (lo := [some (.int p0), some (.int p1), some (w2)]) (by decide) (by simp [lg_sl, z_c1i, z_c1r, hw2]) ?_ rfl ?_
  · intro i v hv
    exact z_loe (vs := [.int p0, .int p1, w2]) (n := 0) rfl (by simp [z_c1i, z_c1r, hw2]) i v hv
  · intro X hXa C
    subst hXa
    unfold fj3_checkIndex at h
    refine z_iload_n C dJ3_checkIndex_8e157_0 rfl rfl ?_
    refine z_if_lt (tgt := 9) C dJ3_checkIndex_8e157_1 (by decide) (fun hc => ?_) (fun hc => ?_)
    · replace h := z_pos hc h
      cases h
    · replace h := z_neg hc h
      refine z_iload_n C dJ3_checkIndex_8e157_4 rfl rfl ?_
      refine z_iload_n C dJ3_checkIndex_8e157_5 rfl rfl ?_
      refine z_icmp_lt (tgt := 16) C dJ3_checkIndex_8e157_6 (by decide) (fun hc => ?_) (fun hc => ?_)
      · replace h := z_pos hc h
        refine z_iload_n C dJ3_checkIndex_8e157_16 rfl rfl ?_
        exact z_iret C h dJ3_checkIndex_8e157_17
      · replace h := z_neg hc h
        cases h
set_option maxHeartbeats 4000000 in
set_option maxRecDepth 100000 in
theorem tj0_checkIndex {a : Nat → Nat} (p0 : Int32) (p1 : Int32) {σ : z_M} {u : Unit × z_M} (h : fj0_checkIndex p0 p1 σ = some u) : z_Mt yJ0_checkIndex_df160 (z_w yJ0_checkIndex_df160 cJ0_checkIndex_df160 2 none) 2 S1 a σ [.int p0, .int p1] (z_ov u) := by
  refine z_head (lo := [some (.int p0), some (.int p1)]) (by decide) (Nat.le_of_ble_eq_true rfl) ?_ rfl ?_
  · intro i v hv
    exact z_loe (vs := [.int p0, .int p1]) (n := 0) rfl (by simp [z_c1i, z_c1r]) i v hv
  · intro X hXa C
    subst hXa
    unfold fj0_checkIndex at h
    refine z_iload_n C dJ0_checkIndex_df160_0 rfl rfl ?_
    refine z_iload_n C dJ0_checkIndex_df160_1 rfl rfl ?_
    refine z_sfmt C flJ0_1053 dJ0_checkIndex_df160_2 (fun w9 hw9 => ?_)
    obtain ⟨r1, σ2, mσ2, h⟩ := z_bnd2 h
    refine z_csi (As := [.int p0, .int p1, w9]) (st := []) C (tj3_checkIndex p0 p1 w9 hw9 mσ2) kvJ3_checkIndex_8e157 rfl mlJ0_1059 (by decide) rfl (Nat.le_of_ble_eq_true rfl) dJ0_checkIndex_df160_5 ?_
    refine z_pop C dJ0_checkIndex_df160_8 rfl ?_
    exact z_vret C h dJ0_checkIndex_df160_9
set_option maxHeartbeats 4000000 in
set_option maxRecDepth 100000 in
theorem tj1_charAt {a : Nat → Nat} (i0 : Nat) (p1 : Int32) {σ : z_M} (hi0 : i0 < 2) {u : Int32 × z_M} (h : fj1_charAt i0 p1 σ = some u) : z_Mt yJ1_charAt_3b067 (z_w yJ1_charAt_3b067 cJ1_charAt_3b067 2 (some .char)) 3 S1 a σ [.ref (a (2000 + i0)), .int p1] (z_oi u) := by
  refine z_head (lo := [some (.ref (a (2000 + i0))), some (.int p1)]) (by decide) (Nat.le_of_ble_eq_true rfl) ?_ rfl ?_
  · intro i v hv
    exact z_loe (vs := [.ref (a (2000 + i0)), .int p1]) (n := 0) rfl (by simp [z_c1i, z_c1r]) i v hv
  · intro X hXa C
    subst hXa
    unfold fj1_charAt at h
    refine z_iload_n C dJ1_charAt_3b067_0 rfl rfl ?_
    refine z_aload_n C dJ1_charAt_3b067_1 rfl rfl ?_
    refine z_sblen C hi0 dJ1_charAt_3b067_2 ?_
    obtain ⟨⟨⟩, σ2, mσ2, h⟩ := z_bnd2 h
    refine z_csu (As := [.int p1, .int (nI (z_sn i0))]) (st := []) C (tj0_checkIndex p1 (nI (z_sn i0)) mσ2) kvJ0_checkIndex_df160 rfl mlJ1_9 (by decide) rfl (Nat.le_of_ble_eq_true rfl) dJ1_charAt_3b067_3 ?_
    refine z_aload_n C dJ1_charAt_3b067_6 rfl rfl ?_
    refine z_iload_n C dJ1_charAt_3b067_7 rfl rfl ?_
    obtain ⟨b3, h⟩ := z_chk_some h
    refine z_sbald C hi0 b3 dJ1_charAt_3b067_8 ?_
    refine z_sipush (v := 255) C dJ1_charAt_3b067_9 (by decide) ?_
    refine z_iand C dJ1_charAt_3b067_12 ?_
    refine z_i2c C dJ1_charAt_3b067_13 ?_
    obtain ⟨b4, h⟩ := z_chk_some h
    exact z_cret C b4 h dJ1_charAt_3b067_14
set_option maxHeartbeats 4000000 in
set_option maxRecDepth 100000 in
theorem tj0_charAt {a : Nat → Nat} (i0 : Nat) (p1 : Int32) {σ : z_M} (hi0 : i0 < 2) {u : Int32 × z_M} (h : fj0_charAt i0 p1 σ = some u) : z_Mt yJ0_charAt_5068e (z_w yJ0_charAt_5068e cJ0_charAt_5068e 2 (some .char)) 4 S1 a σ [.ref (a (1000 + i0)), .int p1] (z_oi u) := by
  refine z_head (lo := [some (.ref (a (1000 + i0))), some (.int p1)]) (by decide) (Nat.le_of_ble_eq_true rfl) ?_ rfl ?_
  · intro i v hv
    exact z_loe (vs := [.ref (a (1000 + i0)), .int p1]) (n := 0) rfl (by simp [z_c1i, z_c1r]) i v hv
  · intro X hXa C
    subst hXa
    unfold fj0_charAt at h
    refine z_aload_n C dJ0_charAt_5068e_0 rfl rfl ?_
    obtain ⟨r1, σ2, mσ2, h⟩ := z_bnd2 h
    refine z_csv (i := i0) (As := []) (st := []) C hi0 (tj0_isLatin1 i0 hi0 mσ2) kvJ0_isLatin1_aae02 rfl mlJ0_492 rfl (by decide) rfl (Nat.le_of_ble_eq_true rfl) dJ0_charAt_5068e_1 ?_
    refine z_if_eq (tgt := 16) C dJ0_charAt_5068e_4 (by decide) (fun hc => ?_) (fun hc => ?_)
    · replace h := z_pos hc h
      cases h
    · replace h := z_neg hc h
      refine z_aload_n C dJ0_charAt_5068e_7 rfl rfl ?_
      refine z_sval C hi0 flJ0_9 dJ0_charAt_5068e_8 ?_
      refine z_iload_n C dJ0_charAt_5068e_11 rfl rfl ?_
      obtain ⟨r3, σ4, mσ4, h⟩ := z_bnd2 h
      refine z_csi (As := [.ref (z_a X (2000 + i0)), .int p1]) (st := []) C (tj1_charAt i0 p1 hi0 mσ4) kvJ1_charAt_3b067 rfl mlJ0_495 (by decide) rfl (Nat.le_of_ble_eq_true rfl) dJ0_charAt_5068e_12 ?_
      obtain ⟨b5, h⟩ := z_chk_some h
      exact z_cret C b5 h dJ0_charAt_5068e_15
set_option maxHeartbeats 4000000 in
set_option maxRecDepth 100000 in
theorem t8_wordOf_J86 {X : z_Ct} (C : z_Cx S1 X RX8 cX8_wordOf 7 5 (some .int)) {u : Int32 × z_M} {k8 : Int32 → Int32 → Int32 → Int32 → Int32 → z_M → Option (Int32 × z_M)} (hr8 : ∀ (v1 : Int32) (v2 : Int32) (v3 : Int32) (v4 : Int32) (v5 : Int32) (σ : z_M), k8 v1 v2 v3 v4 v5 σ = some u → z_W S1 X 8 [some (.ref (z_a X 96)), some (.int v1), some (.int v2), some (.int v3), some (.int v4), some (.int v5), none] [] σ (z_oi u)) (v1 : Int32) (v2 : Int32) (v3 : Int32) (v5 : Int32) (σ : z_M) (h : f8_wordOf_J86 k8 v1 v2 v3 v5 σ = some u) : z_W S1 X 86 [some (.ref (z_a X 96)), some (.int v1), some (.int v2), some (.int v3), none, some (.int v5), none] [] σ (z_oi u) := by
  unfold f8_wordOf_J86 at h
  refine z_iconst (v := (-1)) C dX8_wordOf_86 (by decide) ?_
  refine z_istore (lo' := [some (.ref (z_a X 96)), some (.int v1), some (.int v2), some (.int v3), some (.int (-1)), some (.int v5), none]) C dX8_wordOf_87 (Nat.le_of_ble_eq_true rfl) rfl ?_
  refine z_iinc (v := v5 + 1) (lo' := [some (.ref (z_a X 96)), some (.int v1), some (.int v2), some (.int v3), some (.int (-1)), some (.int (v5 + 1)), none]) C dX8_wordOf_89 rfl rfl rfl ?_
  refine z_goto (tgt := 8) C dX8_wordOf_92 (by decide) ?_
  exact hr8 v1 v2 v3 (-1) (v5 + 1) σ h
set_option maxHeartbeats 4000000 in
set_option maxRecDepth 100000 in
theorem t8_wordOf_L8 {X : z_Ct} (C : z_Cx S1 X RX8 cX8_wordOf 7 5 (some .int)) {u : Int32 × z_M} : ∀ (n : Nat) (v1 : Int32) (v2 : Int32) (v3 : Int32) (v4 : Int32) (v5 : Int32) (σ : z_M), f8_wordOf_L8 n v1 v2 v3 v4 v5 σ = some u → z_W S1 X 8 [some (.ref (z_a X 96)), some (.int v1), some (.int v2), some (.int v3), some (.int v4), some (.int v5), none] [] σ (z_oi u) := by
  intro n
  induction n with
  | zero => intro v1 v2 v3 v4 v5 σ h; rw [f8_wordOf_L8] at h; cases h
  | succ n ih =>
    intro v1 v2 v3 v4 v5 σ h
    rw [f8_wordOf_L8] at h
    refine z_iload C dX8_wordOf_8 rfl ?_
    refine z_lds0 C dX8_wordOf_10 ?_
    obtain ⟨r1, σ2, mσ2, h⟩ := z_bnd2 h
    refine z_csv (i := 0) (As := []) (st := [.int v5]) C (by decide) (tj0_length 0 (by decide) mσ2) kvJ0_length_8abf5 rfl mlX8_69 rfl (by decide) rfl (Nat.le_of_ble_eq_true rfl) dX8_wordOf_12 ?_
    refine z_icmp_ge (tgt := 95) C dX8_wordOf_15 (by decide) (fun hc => ?_) (fun hc => ?_)
    · replace h := z_neg hc h
      refine z_bipush (v := 44) C dX8_wordOf_95 (by decide) ?_
      exact z_iret C h dX8_wordOf_97
    · replace h := z_pos hc h
      refine z_lds0 C dX8_wordOf_18 ?_
      refine z_iload C dX8_wordOf_20 rfl ?_
      obtain ⟨r3, σ4, mσ4, h⟩ := z_bnd2 h
      refine z_csv (i := 0) (As := [.int v5]) (st := []) C (by decide) (tj0_charAt 0 v5 (by decide) mσ4) kvJ0_charAt_5068e rfl mlX8_72 rfl (by decide) rfl (Nat.le_of_ble_eq_true rfl) dX8_wordOf_22 ?_
      refine z_istore (lo' := [some (.ref (z_a X 96)), some (.int v1), some (.int v2), some (.int v3), some (.int v4), some (.int v5), some (.int r3)]) C dX8_wordOf_25 (Nat.le_of_ble_eq_true rfl) rfl ?_
      refine z_iload C dX8_wordOf_27 rfl ?_
      refine z_bipush (v := 32) C dX8_wordOf_29 (by decide) ?_
      refine z_icmp_ne (tgt := 53) C dX8_wordOf_31 (by decide) (fun hc => ?_) (fun hc => ?_)
      · replace h := z_neg hc h
        refine z_iload C dX8_wordOf_53 rfl ?_
        refine z_if_lt (tgt := 86) C dX8_wordOf_55 (by decide) (fun hc => ?_) (fun hc => ?_)
        · replace h := z_pos hc h
          refine z_kill (lo' := [some (.ref (z_a X 96)), some (.int v1), some (.int v2), some (.int v3), none, some (.int v5), none]) [4, 6] rfl ?_
          exact t8_wordOf_J86 C ih v1 v2 v3 v5 σ4 h
        · replace h := z_neg hc h
          refine z_iload_n C dX8_wordOf_58 rfl rfl ?_
          refine z_iload C dX8_wordOf_59 rfl ?_
          refine z_iadd C dX8_wordOf_61 ?_
          refine z_iload_n C dX8_wordOf_62 rfl rfl ?_
          refine z_icmp_ge (tgt := 86) C dX8_wordOf_63 (by decide) (fun hc => ?_) (fun hc => ?_)
          · replace h := z_neg hc h
            refine z_kill (lo' := [some (.ref (z_a X 96)), some (.int v1), some (.int v2), some (.int v3), none, some (.int v5), none]) [4, 6] rfl ?_
            exact t8_wordOf_J86 C ih v1 v2 v3 v5 σ4 h
          · replace h := z_pos hc h
            refine z_aload_n C dX8_wordOf_66 rfl rfl ?_
            refine z_geta (k := 0) (q := 97) C z_CF8 (by decide) flX8_9 rfl rfl dX8_wordOf_67 ?_
            refine z_iload_n C dX8_wordOf_70 rfl rfl ?_
            refine z_iload C dX8_wordOf_71 rfl ?_
            refine z_iadd C dX8_wordOf_73 ?_
            obtain ⟨b5, h⟩ := z_chk_some h
            refine z_bald C rfl rfl b5 dX8_wordOf_74 ?_
            refine z_iload C dX8_wordOf_75 rfl ?_
            refine z_icmp_ne (tgt := 86) C dX8_wordOf_77 (by decide) (fun hc => ?_) (fun hc => ?_)
            · replace h := z_neg hc h
              refine z_kill (lo' := [some (.ref (z_a X 96)), some (.int v1), some (.int v2), some (.int v3), none, some (.int v5), none]) [4, 6] rfl ?_
              exact t8_wordOf_J86 C ih v1 v2 v3 v5 σ4 h
            · replace h := z_pos hc h
              refine z_iinc (v := v4 + 1) (lo' := [some (.ref (z_a X 96)), some (.int v1), some (.int v2), some (.int v3), some (.int (v4 + 1)), some (.int v5), some (.int r3)]) C dX8_wordOf_80 rfl rfl rfl ?_
              refine z_goto (tgt := 89) C dX8_wordOf_83 (by decide) ?_
              refine z_iinc (v := v5 + 1) (lo' := [some (.ref (z_a X 96)), some (.int v1), some (.int v2), some (.int v3), some (.int (v4 + 1)), some (.int (v5 + 1)), some (.int r3)]) C dX8_wordOf_89 rfl rfl rfl ?_
              refine z_goto (tgt := 8) C dX8_wordOf_92 (by decide) ?_
              refine z_kill (lo' := [some (.ref (z_a X 96)), some (.int v1), some (.int v2), some (.int v3), some (.int (v4 + 1)), some (.int (v5 + 1)), none]) [6] rfl ?_
              exact ih v1 v2 v3 (v4 + 1) (v5 + 1) σ4 h
      · replace h := z_pos hc h
        refine z_iload C dX8_wordOf_34 rfl ?_
        refine z_iload_n C dX8_wordOf_36 rfl rfl ?_
        refine z_iload_n C dX8_wordOf_37 rfl rfl ?_
        refine z_isub C dX8_wordOf_38 ?_
        refine z_icmp_ne (tgt := 44) C dX8_wordOf_39 (by decide) (fun hc => ?_) (fun hc => ?_)
        · replace h := z_neg hc h
          refine z_iinc (v := v3 + 1) (lo' := [some (.ref (z_a X 96)), some (.int v1), some (.int v2), some (.int (v3 + 1)), some (.int v4), some (.int v5), some (.int r3)]) C dX8_wordOf_44 rfl rfl rfl ?_
          refine z_iconst (v := 0) C dX8_wordOf_47 (by decide) ?_
          refine z_istore (lo' := [some (.ref (z_a X 96)), some (.int v1), some (.int v2), some (.int (v3 + 1)), some (.int 0), some (.int v5), some (.int r3)]) C dX8_wordOf_48 (Nat.le_of_ble_eq_true rfl) rfl ?_
          refine z_goto (tgt := 89) C dX8_wordOf_50 (by decide) ?_
          refine z_iinc (v := v5 + 1) (lo' := [some (.ref (z_a X 96)), some (.int v1), some (.int v2), some (.int (v3 + 1)), some (.int 0), some (.int (v5 + 1)), some (.int r3)]) C dX8_wordOf_89 rfl rfl rfl ?_
          refine z_goto (tgt := 8) C dX8_wordOf_92 (by decide) ?_
          refine z_kill (lo' := [some (.ref (z_a X 96)), some (.int v1), some (.int v2), some (.int (v3 + 1)), some (.int 0), some (.int (v5 + 1)), none]) [6] rfl ?_
          exact ih v1 v2 (v3 + 1) 0 (v5 + 1) σ4 h
        · replace h := z_pos hc h
          refine z_iload_n C dX8_wordOf_42 rfl rfl ?_
          exact z_iret C h dX8_wordOf_43
set_option maxHeartbeats 4000000 in
set_option maxRecDepth 100000 in
theorem t8_wordOf {a : Nat → Nat} (p1 : Int32) (p2 : Int32) {σ : z_M} {u : Int32 × z_M} (h : f8_wordOf p1 p2 σ = some u) : z_Mt yX8_wordOf (z_w yX8_wordOf cX8_wordOf 7 (some .int)) 5 S1 a σ [.ref (a 96), .int p1, .int p2] (z_oi u) := by
  refine z_head (lo := [some (.ref (a 96)), some (.int p1), some (.int p2), none, none, none, none]) (by decide) (Nat.le_of_ble_eq_true rfl) ?_ rfl ?_
  · intro i v hv
    exact z_loe (vs := [.ref (a 96), .int p1, .int p2]) (n := 4) rfl (by simp [z_c1i, z_c1r]) i v hv
  · intro X hXa C
    subst hXa
    unfold f8_wordOf at h
    refine z_iconst (v := 0) C dX8_wordOf_0 (by decide) ?_
    refine z_istore_n (lo' := [some (.ref (z_a X 96)), some (.int p1), some (.int p2), some (.int 0), none, none, none]) C dX8_wordOf_1 rfl (Nat.le_of_ble_eq_true rfl) rfl ?_
    refine z_iconst (v := 0) C dX8_wordOf_2 (by decide) ?_
    refine z_istore (lo' := [some (.ref (z_a X 96)), some (.int p1), some (.int p2), some (.int 0), some (.int 0), none, none]) C dX8_wordOf_3 (Nat.le_of_ble_eq_true rfl) rfl ?_
    refine z_iconst (v := 0) C dX8_wordOf_5 (by decide) ?_
    refine z_istore (lo' := [some (.ref (z_a X 96)), some (.int p1), some (.int p2), some (.int 0), some (.int 0), some (.int 0), none]) C dX8_wordOf_6 (Nat.le_of_ble_eq_true rfl) rfl ?_
    exact t8_wordOf_L8 C _ p1 p2 0 0 0 σ h
set_option maxHeartbeats 4000000 in
set_option maxRecDepth 100000 in
theorem t8_cut_J96 {X : z_Ct} (C : z_Cx S1 X RX8 cX8_cut 5 6 none) {u : Unit × z_M} {k9 : Int32 → Int32 → z_M → Option (Unit × z_M)} (hr9 : ∀ (v1 : Int32) (v2 : Int32) (σ : z_M), k9 v1 v2 σ = some u → z_W S1 X 9 [some (.ref (z_a X 96)), some (.int v1), some (.int v2), none, none] [] σ (z_ov u)) (v1 : Int32) (v2 : Int32) (v4 : Int32) (s1 : Int32) (σ : z_M) (h : f8_cut_J96 k9 v1 v2 v4 s1 σ = some u) : z_W S1 X 96 [some (.ref (z_a X 96)), some (.int v1), some (.int v2), none, some (.int v4)] [.int s1, .ref (z_a X 96)] σ (z_ov u) := by
  unfold f8_cut_J96 at h
  refine z_aload_n C dX8_cut_96 rfl rfl ?_
  refine z_iload_n C dX8_cut_97 rfl rfl ?_
  refine z_iload C dX8_cut_98 rfl ?_
  obtain ⟨r1, σ2, mσ2, h⟩ := z_bnd2 h
  refine z_cvi (As := [.int v1, .int v4]) (c := 96) (st := [.int s1, .ref (z_a X 96)]) C (t8_numberOf v1 v4 mσ2) kvX8_numberOf rfl mlX8_54 z_CF8 rfl rfl (by decide) rfl (Nat.le_of_ble_eq_true rfl) dX8_cut_100 ?_
  refine z_iload_n C dX8_cut_103 rfl rfl ?_
  obtain ⟨⟨⟩, σ4, mσ4, h⟩ := z_bnd2 h
  refine z_cvv (As := [.int s1, .int r1, .int v1]) (c := 96) (st := []) C (t8_put s1 r1 v1 mσ4) kvX8_put rfl mlX8_44 z_CF8 rfl rfl (by decide) rfl (Nat.le_of_ble_eq_true rfl) dX8_cut_104 ?_
  refine z_goto (tgt := 132) C dX8_cut_107 (by decide) ?_
  refine z_iload C dX8_cut_132 rfl ?_
  refine z_istore_n (lo' := [some (.ref (z_a X 96)), some (.int v4), some (.int v2), none, some (.int v4)]) C dX8_cut_134 rfl (Nat.le_of_ble_eq_true rfl) rfl ?_
  refine z_iinc (v := v2 + 1) (lo' := [some (.ref (z_a X 96)), some (.int v4), some (.int (v2 + 1)), none, some (.int v4)]) C dX8_cut_135 rfl rfl rfl ?_
  refine z_goto (tgt := 9) C dX8_cut_138 (by decide) ?_
  refine z_kill (lo' := [some (.ref (z_a X 96)), some (.int v4), some (.int (v2 + 1)), none, none]) [4] rfl ?_
  exact hr9 v4 (v2 + 1) σ4 h
set_option maxHeartbeats 4000000 in
set_option maxRecDepth 100000 in
theorem t8_cut_J141 {X : z_Ct} (C : z_Cx S1 X RX8 cX8_cut 5 6 none) {u : Unit × z_M} (σ : z_M) (h : f8_cut_J141 σ = some u) : z_W S1 X 141 [some (.ref (z_a X 96)), none, none, none, none] [] σ (z_ov u) := by
  unfold f8_cut_J141 at h
  refine z_aload_n C dX8_cut_141 rfl rfl ?_
  refine z_bipush (v := 43) C dX8_cut_142 (by decide) ?_
  refine z_iconst (v := 0) C dX8_cut_144 (by decide) ?_
  refine z_aload_n C dX8_cut_145 rfl rfl ?_
  refine z_geti (k := 1) C z_CF8 (by decide) flX8_25 rfl rfl dX8_cut_146 ?_
  obtain ⟨⟨⟩, σ2, mσ2, h⟩ := z_bnd2 h
  refine z_cvv (As := [.int 43, .int 0, .int (σ 96 1)]) (c := 96) (st := []) C (t8_put 43 0 (σ 96 1) mσ2) kvX8_put rfl mlX8_44 z_CF8 rfl rfl (by decide) rfl (Nat.le_of_ble_eq_true rfl) dX8_cut_149 ?_
  exact z_vret C h dX8_cut_152
set_option maxHeartbeats 4000000 in
set_option maxRecDepth 100000 in
theorem t8_cut_L9 {X : z_Ct} (C : z_Cx S1 X RX8 cX8_cut 5 6 none) {u : Unit × z_M} : ∀ (n : Nat) (v1 : Int32) (v2 : Int32) (σ : z_M), f8_cut_L9 n v1 v2 σ = some u → z_W S1 X 9 [some (.ref (z_a X 96)), some (.int v1), some (.int v2), none, none] [] σ (z_ov u) := by
  intro n
  induction n with
  | zero => intro v1 v2 σ h; rw [f8_cut_L9] at h; cases h
  | succ n ih =>
    intro v1 v2 σ h
    rw [f8_cut_L9] at h
    refine z_iload_n C dX8_cut_9 rfl rfl ?_
    refine z_sipush (v := 400) C dX8_cut_10 (by decide) ?_
    refine z_icmp_ge (tgt := 141) C dX8_cut_13 (by decide) (fun hc => ?_) (fun hc => ?_)
    · replace h := z_neg hc h
      refine z_kill (lo' := [some (.ref (z_a X 96)), none, none, none, none]) [1, 2] rfl ?_
      exact t8_cut_J141 C σ h
    · replace h := z_pos hc h
      refine z_iload_n C dX8_cut_16 rfl rfl ?_
      refine z_aload_n C dX8_cut_17 rfl rfl ?_
      refine z_geti (k := 1) C z_CF8 (by decide) flX8_25 rfl rfl dX8_cut_18 ?_
      refine z_icmp_ge (tgt := 141) C dX8_cut_21 (by decide) (fun hc => ?_) (fun hc => ?_)
      · replace h := z_neg hc h
        refine z_kill (lo' := [some (.ref (z_a X 96)), none, none, none, none]) [1, 2] rfl ?_
        exact t8_cut_J141 C σ h
      · replace h := z_pos hc h
        refine z_aload_n C dX8_cut_24 rfl rfl ?_
        refine z_geta (k := 0) (q := 97) C z_CF8 (by decide) flX8_9 rfl rfl dX8_cut_25 ?_
        refine z_iload_n C dX8_cut_28 rfl rfl ?_
        obtain ⟨b1, h⟩ := z_chk_some h
        refine z_bald C rfl rfl b1 dX8_cut_29 ?_
        refine z_istore_n (lo' := [some (.ref (z_a X 96)), some (.int v1), some (.int v2), some (.int (σ 97 (z_ix v1))), none]) C dX8_cut_30 rfl (Nat.le_of_ble_eq_true rfl) rfl ?_
        refine z_iload_n C dX8_cut_31 rfl rfl ?_
        refine z_iconst (v := 1) C dX8_cut_32 (by decide) ?_
        refine z_iadd C dX8_cut_33 ?_
        refine z_istore (lo' := [some (.ref (z_a X 96)), some (.int v1), some (.int v2), some (.int (σ 97 (z_ix v1))), some (.int (v1 + 1))]) C dX8_cut_34 (Nat.le_of_ble_eq_true rfl) rfl ?_
        refine z_iload_n C dX8_cut_36 rfl rfl ?_
        obtain ⟨r2, σ3, mσ3, h⟩ := z_bnd2 h
        refine z_csi (As := [.int (σ 97 (z_ix v1))]) (st := []) C (t8_isLetter (σ 97 (z_ix v1)) mσ3) kvX8_isLetter rfl mlX8_32 (by decide) rfl (Nat.le_of_ble_eq_true rfl) dX8_cut_37 ?_
        refine z_if_eq (tgt := 66) C dX8_cut_40 (by decide) (fun hc => ?_) (fun hc => ?_)
        · replace h := z_pos hc h
          refine z_iload_n C dX8_cut_66 rfl rfl ?_
          obtain ⟨r4, σ5, mσ5, h⟩ := z_bnd2 h
          refine z_csi (As := [.int (σ 97 (z_ix v1))]) (st := []) C (t8_isDigit (σ 97 (z_ix v1)) mσ5) kvX8_isDigit rfl mlX8_48 (by decide) rfl (Nat.le_of_ble_eq_true rfl) dX8_cut_67 ?_
          refine z_if_eq (tgt := 110) C dX8_cut_70 (by decide) (fun hc => ?_) (fun hc => ?_)
          · replace h := z_pos hc h
            refine z_iload_n C dX8_cut_110 rfl rfl ?_
            refine z_bipush (v := 32) C dX8_cut_111 (by decide) ?_
            refine z_icmp_eq (tgt := 132) C dX8_cut_113 (by decide) (fun hc => ?_) (fun hc => ?_)
            · replace h := z_pos hc h
              refine z_iload C dX8_cut_132 rfl ?_
              refine z_istore_n (lo' := [some (.ref (z_a X 96)), some (.int (v1 + 1)), some (.int v2), some (.int (σ 97 (z_ix v1))), some (.int (v1 + 1))]) C dX8_cut_134 rfl (Nat.le_of_ble_eq_true rfl) rfl ?_
              refine z_iinc (v := v2 + 1) (lo' := [some (.ref (z_a X 96)), some (.int (v1 + 1)), some (.int (v2 + 1)), some (.int (σ 97 (z_ix v1))), some (.int (v1 + 1))]) C dX8_cut_135 rfl rfl rfl ?_
              refine z_goto (tgt := 9) C dX8_cut_138 (by decide) ?_
              refine z_kill (lo' := [some (.ref (z_a X 96)), some (.int (v1 + 1)), some (.int (v2 + 1)), none, none]) [3, 4] rfl ?_
              exact ih (v1 + 1) (v2 + 1) σ5 h
            · replace h := z_neg hc h
              refine z_iload_n C dX8_cut_116 rfl rfl ?_
              refine z_bipush (v := 10) C dX8_cut_117 (by decide) ?_
              refine z_icmp_eq (tgt := 132) C dX8_cut_119 (by decide) (fun hc => ?_) (fun hc => ?_)
              · replace h := z_pos hc h
                refine z_iload C dX8_cut_132 rfl ?_
                refine z_istore_n (lo' := [some (.ref (z_a X 96)), some (.int (v1 + 1)), some (.int v2), some (.int (σ 97 (z_ix v1))), some (.int (v1 + 1))]) C dX8_cut_134 rfl (Nat.le_of_ble_eq_true rfl) rfl ?_
                refine z_iinc (v := v2 + 1) (lo' := [some (.ref (z_a X 96)), some (.int (v1 + 1)), some (.int (v2 + 1)), some (.int (σ 97 (z_ix v1))), some (.int (v1 + 1))]) C dX8_cut_135 rfl rfl rfl ?_
                refine z_goto (tgt := 9) C dX8_cut_138 (by decide) ?_
                refine z_kill (lo' := [some (.ref (z_a X 96)), some (.int (v1 + 1)), some (.int (v2 + 1)), none, none]) [3, 4] rfl ?_
                exact ih (v1 + 1) (v2 + 1) σ5 h
              · replace h := z_neg hc h
                refine z_aload_n C dX8_cut_122 rfl rfl ?_
                refine z_iload_n C dX8_cut_123 rfl rfl ?_
                obtain ⟨r6, σ7, mσ7, h⟩ := z_bnd2 h
                refine z_csi (As := [.int (σ 97 (z_ix v1))]) (st := [.ref (z_a X 96)]) C (t8_signOf (σ 97 (z_ix v1)) mσ7) kvX8_signOf rfl mlX8_57 (by decide) rfl (Nat.le_of_ble_eq_true rfl) dX8_cut_124 ?_
                refine z_iconst (v := 0) C dX8_cut_127 (by decide) ?_
                refine z_iload_n C dX8_cut_128 rfl rfl ?_
                obtain ⟨⟨⟩, σ9, mσ9, h⟩ := z_bnd2 h
                refine z_cvv (As := [.int r6, .int 0, .int v1]) (c := 96) (st := []) C (t8_put r6 0 v1 mσ9) kvX8_put rfl mlX8_44 z_CF8 rfl rfl (by decide) rfl (Nat.le_of_ble_eq_true rfl) dX8_cut_129 ?_
                refine z_iload C dX8_cut_132 rfl ?_
                refine z_istore_n (lo' := [some (.ref (z_a X 96)), some (.int (v1 + 1)), some (.int v2), some (.int (σ 97 (z_ix v1))), some (.int (v1 + 1))]) C dX8_cut_134 rfl (Nat.le_of_ble_eq_true rfl) rfl ?_
                refine z_iinc (v := v2 + 1) (lo' := [some (.ref (z_a X 96)), some (.int (v1 + 1)), some (.int (v2 + 1)), some (.int (σ 97 (z_ix v1))), some (.int (v1 + 1))]) C dX8_cut_135 rfl rfl rfl ?_
                refine z_goto (tgt := 9) C dX8_cut_138 (by decide) ?_
                refine z_kill (lo' := [some (.ref (z_a X 96)), some (.int (v1 + 1)), some (.int (v2 + 1)), none, none]) [3, 4] rfl ?_
                exact ih (v1 + 1) (v2 + 1) σ9 h
          · replace h := z_neg hc h
            refine z_aload_n C dX8_cut_73 rfl rfl ?_
            refine z_iload_n C dX8_cut_74 rfl rfl ?_
            obtain ⟨r10, σ11, mσ11, h⟩ := z_bnd2 h
            refine z_cvi (As := [.int v1]) (c := 96) (st := []) C (t8_digitsEnd v1 mσ11) kvX8_digitsEnd rfl mlX8_51 z_CF8 rfl rfl (by decide) rfl (Nat.le_of_ble_eq_true rfl) dX8_cut_75 ?_
            refine z_istore (lo' := [some (.ref (z_a X 96)), some (.int v1), some (.int v2), some (.int (σ 97 (z_ix v1))), some (.int r10)]) C dX8_cut_78 (Nat.le_of_ble_eq_true rfl) rfl ?_
            refine z_aload_n C dX8_cut_80 rfl rfl ?_
            refine z_iload C dX8_cut_81 rfl ?_
            refine z_iload_n C dX8_cut_83 rfl rfl ?_
            refine z_isub C dX8_cut_84 ?_
            refine z_iconst (v := 4) C dX8_cut_85 (by decide) ?_
            refine z_icmp_le (tgt := 94) C dX8_cut_86 (by decide) (fun hc => ?_) (fun hc => ?_)
            · replace h := z_neg hc h
              refine z_bipush (v := 42) C dX8_cut_94 (by decide) ?_
              refine z_kill (lo' := [some (.ref (z_a X 96)), some (.int v1), some (.int v2), none, some (.int r10)]) [3] rfl ?_
              exact t8_cut_J96 C ih v1 v2 r10 42 σ11 h
            · replace h := z_pos hc h
              refine z_bipush (v := 44) C dX8_cut_89 (by decide) ?_
              refine z_goto (tgt := 96) C dX8_cut_91 (by decide) ?_
              refine z_kill (lo' := [some (.ref (z_a X 96)), some (.int v1), some (.int v2), none, some (.int r10)]) [3] rfl ?_
              exact t8_cut_J96 C ih v1 v2 r10 44 σ11 h
        · replace h := z_neg hc h
          refine z_aload_n C dX8_cut_43 rfl rfl ?_
          refine z_iload_n C dX8_cut_44 rfl rfl ?_
          obtain ⟨r12, σ13, mσ13, h⟩ := z_bnd2 h
          refine z_cvi (As := [.int v1]) (c := 96) (st := []) C (t8_lettersEnd v1 mσ13) kvX8_lettersEnd rfl mlX8_36 z_CF8 rfl rfl (by decide) rfl (Nat.le_of_ble_eq_true rfl) dX8_cut_45 ?_
          refine z_istore (lo' := [some (.ref (z_a X 96)), some (.int v1), some (.int v2), some (.int (σ 97 (z_ix v1))), some (.int r12)]) C dX8_cut_48 (Nat.le_of_ble_eq_true rfl) rfl ?_
          refine z_aload_n C dX8_cut_50 rfl rfl ?_
          refine z_aload_n C dX8_cut_51 rfl rfl ?_
          refine z_iload_n C dX8_cut_52 rfl rfl ?_
          refine z_iload C dX8_cut_53 rfl ?_
          obtain ⟨r14, σ15, mσ15, h⟩ := z_bnd2 h
          refine z_cvi (As := [.int v1, .int r12]) (c := 96) (st := [.ref (z_a X 96)]) C (t8_wordOf v1 r12 mσ15) kvX8_wordOf rfl mlX8_40 z_CF8 rfl rfl (by decide) rfl (Nat.le_of_ble_eq_true rfl) dX8_cut_55 ?_
          refine z_iconst (v := 0) C dX8_cut_58 (by decide) ?_
          refine z_iload_n C dX8_cut_59 rfl rfl ?_
          obtain ⟨⟨⟩, σ17, mσ17, h⟩ := z_bnd2 h
          refine z_cvv (As := [.int r14, .int 0, .int v1]) (c := 96) (st := []) C (t8_put r14 0 v1 mσ17) kvX8_put rfl mlX8_44 z_CF8 rfl rfl (by decide) rfl (Nat.le_of_ble_eq_true rfl) dX8_cut_60 ?_
          refine z_goto (tgt := 132) C dX8_cut_63 (by decide) ?_
          refine z_iload C dX8_cut_132 rfl ?_
          refine z_istore_n (lo' := [some (.ref (z_a X 96)), some (.int r12), some (.int v2), some (.int (σ 97 (z_ix v1))), some (.int r12)]) C dX8_cut_134 rfl (Nat.le_of_ble_eq_true rfl) rfl ?_
          refine z_iinc (v := v2 + 1) (lo' := [some (.ref (z_a X 96)), some (.int r12), some (.int (v2 + 1)), some (.int (σ 97 (z_ix v1))), some (.int r12)]) C dX8_cut_135 rfl rfl rfl ?_
          refine z_goto (tgt := 9) C dX8_cut_138 (by decide) ?_
          refine z_kill (lo' := [some (.ref (z_a X 96)), some (.int r12), some (.int (v2 + 1)), none, none]) [3, 4] rfl ?_
          exact ih r12 (v2 + 1) σ17 h
set_option maxHeartbeats 4000000 in
set_option maxRecDepth 100000 in
theorem t8_cut {a : Nat → Nat} {σ : z_M} {u : Unit × z_M} (h : f8_cut σ = some u) : z_Mt yX8_cut (z_w yX8_cut cX8_cut 5 none) 6 S1 a σ [.ref (a 96)] (z_ov u) := by
  refine z_head (lo := [some (.ref (a 96)), none, none, none, none]) (by decide) (Nat.le_of_ble_eq_true rfl) ?_ rfl ?_
  · intro i v hv
    exact z_loe (vs := [.ref (a 96)]) (n := 4) rfl (by simp [z_c1i, z_c1r]) i v hv
  · intro X hXa C
    subst hXa
    unfold f8_cut at h
    refine z_aload_n C dX8_cut_0 rfl rfl ?_
    refine z_iconst (v := 0) C dX8_cut_1 (by decide) ?_
    obtain ⟨σ1, eσ1, h⟩ := z_let_some h
    refine z_puti (k := 5) C z_CF8 (by decide) flX8_29 rfl rfl rfl rfl eσ1 dX8_cut_2 ?_
    refine z_iconst (v := 0) C dX8_cut_5 (by decide) ?_
    refine z_istore_n (lo' := [some (.ref (z_a X 96)), some (.int 0), none, none, none]) C dX8_cut_6 rfl (Nat.le_of_ble_eq_true rfl) rfl ?_
    refine z_iconst (v := 0) C dX8_cut_7 (by decide) ?_
    refine z_istore_n (lo' := [some (.ref (z_a X 96)), some (.int 0), some (.int 0), none, none]) C dX8_cut_8 rfl (Nat.le_of_ble_eq_true rfl) rfl ?_
    exact t8_cut_L9 C _ 0 0 σ1 h
set_option maxHeartbeats 4000000 in
set_option maxRecDepth 100000 in
theorem t3_read_J132 {X : z_Ct} (C : z_Cx S1 X RX3 cX3_read 4 7 (some .boolean)) {u : Int32 × z_M} (σ : z_M) (h : f3_read_J132 σ = some u) : z_W S1 X 132 [some (.ref (z_a X 101)), none, none, none] [] σ (z_oi u) := by
  unfold f3_read_J132 at h
  refine z_aload_n C dX3_read_132 rfl rfl ?_
  refine z_geti (k := 2) C z_CF3 (by decide) flX3_32 rfl rfl dX3_read_133 ?_
  refine z_if_ne (tgt := 143) C dX3_read_136 (by decide) (fun hc => ?_) (fun hc => ?_)
  · replace h := z_neg hc h
    refine z_iconst (v := 0) C dX3_read_143 (by decide) ?_
    exact z_zret C (by decide) h dX3_read_144
  · replace h := z_pos hc h
    refine z_iconst (v := 1) C dX3_read_139 (by decide) ?_
    refine z_goto (tgt := 144) C dX3_read_140 (by decide) ?_
    exact z_zret C (by decide) h dX3_read_144
set_option maxHeartbeats 4000000 in
set_option maxRecDepth 100000 in
theorem t3_read_L63 {X : z_Ct} (C : z_Cx S1 X RX3 cX3_read 4 7 (some .boolean)) {u : Int32 × z_M} : ∀ (n : Nat) (v1 : Int32) (v3 : Int32) (σ : z_M), f3_read_L63 n v1 v3 σ = some u → z_W S1 X 63 [some (.ref (z_a X 101)), some (.int v1), none, some (.int v3)] [] σ (z_oi u) := by
  intro n
  induction n with
  | zero => intro v1 v3 σ h; rw [f3_read_L63] at h; cases h
  | succ n ih =>
    intro v1 v3 σ h
    rw [f3_read_L63] at h
    refine z_iload_n C dX3_read_63 rfl rfl ?_
    refine z_aload_n C dX3_read_64 rfl rfl ?_
    refine z_geti (k := 6) C z_CF3 (by decide) flX3_38 rfl rfl dX3_read_65 ?_
    refine z_icmp_gt (tgt := 132) C dX3_read_68 (by decide) (fun hc => ?_) (fun hc => ?_)
    · replace h := z_pos hc h
      refine z_kill (lo' := [some (.ref (z_a X 101)), none, none, none]) [1, 3] rfl ?_
      exact t3_read_J132 C σ h
    · replace h := z_neg hc h
      refine z_aload_n C dX3_read_71 rfl rfl ?_
      refine z_geti (k := 2) C z_CF3 (by decide) flX3_32 rfl rfl dX3_read_72 ?_
      refine z_if_ne (tgt := 132) C dX3_read_75 (by decide) (fun hc => ?_) (fun hc => ?_)
      · replace h := z_neg hc h
        refine z_kill (lo' := [some (.ref (z_a X 101)), none, none, none]) [1, 3] rfl ?_
        exact t3_read_J132 C σ h
      · replace h := z_pos hc h
        refine z_aload_n C dX3_read_78 rfl rfl ?_
        obtain ⟨r1, σ2, mσ2, h⟩ := z_bnd2 h
        refine z_cvi (As := []) (c := 101) (st := []) C (t3_kind mσ2) kvX3_kind rfl mlX3_52 z_CF3 rfl rfl (by decide) rfl (Nat.le_of_ble_eq_true rfl) dX3_read_79 ?_
        refine z_bipush (v := 43) C dX3_read_82 (by decide) ?_
        refine z_icmp_eq (tgt := 132) C dX3_read_84 (by decide) (fun hc => ?_) (fun hc => ?_)
        · replace h := z_pos hc h
          refine z_kill (lo' := [some (.ref (z_a X 101)), none, none, none]) [1, 3] rfl ?_
          exact t3_read_J132 C σ2 h
        · replace h := z_neg hc h
          refine z_iload_n C dX3_read_87 rfl rfl ?_
          refine z_if_ne (tgt := 98) C dX3_read_88 (by decide) (fun hc => ?_) (fun hc => ?_)
          · replace h := z_neg hc h
            refine z_iload_n C dX3_read_98 rfl rfl ?_
            refine z_iconst (v := 1) C dX3_read_99 (by decide) ?_
            refine z_icmp_ne (tgt := 110) C dX3_read_100 (by decide) (fun hc => ?_) (fun hc => ?_)
            · replace h := z_neg hc h
              refine z_iload_n C dX3_read_110 rfl rfl ?_
              refine z_iconst (v := 2) C dX3_read_111 (by decide) ?_
              refine z_icmp_ne (tgt := 122) C dX3_read_112 (by decide) (fun hc => ?_) (fun hc => ?_)
              · replace h := z_neg hc h
                refine z_aload_n C dX3_read_122 rfl rfl ?_
                obtain ⟨⟨⟩, σ4, mσ4, h⟩ := z_bnd2 h
                refine z_cvv (As := []) (c := 101) (st := []) C (t3_readPlan mσ4) kvX3_readPlan rfl mlX3_65 z_CF3 rfl rfl (by decide) rfl (Nat.le_of_ble_eq_true rfl) dX3_read_123 ?_
                refine z_iinc (v := v3 + 1) (lo' := [some (.ref (z_a X 101)), some (.int v1), none, some (.int (v3 + 1))]) C dX3_read_126 rfl rfl rfl ?_
                refine z_goto (tgt := 63) C dX3_read_129 (by decide) ?_
                exact ih v1 (v3 + 1) σ4 h
              · replace h := z_pos hc h
                refine z_aload_n C dX3_read_115 rfl rfl ?_
                obtain ⟨⟨⟩, σ6, mσ6, h⟩ := z_bnd2 h
                refine z_cvv (As := []) (c := 101) (st := []) C (t3_readWork mσ6) kvX3_readWork rfl mlX3_62 z_CF3 rfl rfl (by decide) rfl (Nat.le_of_ble_eq_true rfl) dX3_read_116 ?_
                refine z_goto (tgt := 126) C dX3_read_119 (by decide) ?_
                refine z_iinc (v := v3 + 1) (lo' := [some (.ref (z_a X 101)), some (.int v1), none, some (.int (v3 + 1))]) C dX3_read_126 rfl rfl rfl ?_
                refine z_goto (tgt := 63) C dX3_read_129 (by decide) ?_
                exact ih v1 (v3 + 1) σ6 h
            · replace h := z_pos hc h
              refine z_aload_n C dX3_read_103 rfl rfl ?_
              obtain ⟨⟨⟩, σ8, mσ8, h⟩ := z_bnd2 h
              refine z_cvv (As := []) (c := 101) (st := []) C (t3_readLaw mσ8) kvX3_readLaw rfl mlX3_59 z_CF3 rfl rfl (by decide) rfl (Nat.le_of_ble_eq_true rfl) dX3_read_104 ?_
              refine z_goto (tgt := 126) C dX3_read_107 (by decide) ?_
              refine z_iinc (v := v3 + 1) (lo' := [some (.ref (z_a X 101)), some (.int v1), none, some (.int (v3 + 1))]) C dX3_read_126 rfl rfl rfl ?_
              refine z_goto (tgt := 63) C dX3_read_129 (by decide) ?_
              exact ih v1 (v3 + 1) σ8 h
          · replace h := z_pos hc h
            refine z_aload_n C dX3_read_91 rfl rfl ?_
            obtain ⟨⟨⟩, σ10, mσ10, h⟩ := z_bnd2 h
            refine z_cvv (As := []) (c := 101) (st := []) C (t3_readReason mσ10) kvX3_readReason rfl mlX3_56 z_CF3 rfl rfl (by decide) rfl (Nat.le_of_ble_eq_true rfl) dX3_read_92 ?_
            refine z_goto (tgt := 126) C dX3_read_95 (by decide) ?_
            refine z_iinc (v := v3 + 1) (lo' := [some (.ref (z_a X 101)), some (.int v1), none, some (.int (v3 + 1))]) C dX3_read_126 rfl rfl rfl ?_
            refine z_goto (tgt := 63) C dX3_read_129 (by decide) ?_
            exact ih v1 (v3 + 1) σ10 h
set_option maxHeartbeats 4000000 in
set_option maxRecDepth 100000 in
theorem t3_read_J39 {X : z_Ct} (C : z_Cx S1 X RX3 cX3_read 4 7 (some .boolean)) {u : Int32 × z_M} (v1 : Int32) (s1 : Int32) (σ : z_M) (h : f3_read_J39 v1 s1 σ = some u) : z_W S1 X 39 [some (.ref (z_a X 101)), some (.int v1), none, none] [.int s1, .ref (z_a X 101)] σ (z_oi u) := by
  unfold f3_read_J39 at h
  obtain ⟨σ1, eσ1, h⟩ := z_let_some h
  refine z_puti (k := 6) C z_CF3 (by decide) flX3_38 rfl rfl rfl rfl eσ1 dX3_read_39 ?_
  refine z_aload_n C dX3_read_42 rfl rfl ?_
  refine z_iconst (v := 0) C dX3_read_43 (by decide) ?_
  obtain ⟨σ2, eσ2, h⟩ := z_let_some h
  refine z_puti (k := 4) C z_CF3 (by decide) flX3_41 rfl rfl rfl rfl eσ2 dX3_read_44 ?_
  refine z_aload_n C dX3_read_47 rfl rfl ?_
  refine z_geta (k := 1) (q := 102) C z_CF3 (by decide) flX3_14 rfl rfl dX3_read_48 ?_
  obtain ⟨⟨⟩, σ4, mσ4, h⟩ := z_bnd2 h
  refine z_cvv (As := []) (c := 102) (st := []) C (t9_clear 102 rfl mσ4) kvX9_clear rfl mlX3_44 z_CF9 rfl rfl (by decide) rfl (Nat.le_of_ble_eq_true rfl) dX3_read_51 ?_
  refine z_aload_n C dX3_read_54 rfl rfl ?_
  refine z_geta (k := 0) (q := 96) C z_CF3 (by decide) flX3_28 rfl rfl dX3_read_55 ?_
  obtain ⟨⟨⟩, σ6, mσ6, h⟩ := z_bnd2 h
  refine z_cvv (As := []) (c := 96) (st := []) C (t8_cut mσ6) kvX8_cut rfl mlX3_47 z_CF8 rfl rfl (by decide) rfl (Nat.le_of_ble_eq_true rfl) dX3_read_58 ?_
  refine z_iconst (v := 0) C dX3_read_61 (by decide) ?_
  refine z_istore_n (lo' := [some (.ref (z_a X 101)), some (.int v1), none, some (.int 0)]) C dX3_read_62 rfl (Nat.le_of_ble_eq_true rfl) rfl ?_
  exact t3_read_L63 C _ v1 0 σ6 h
set_option maxHeartbeats 4000000 in
set_option maxRecDepth 100000 in
theorem t3_read {a : Nat → Nat} (p1 : Int32) (p2 : Int32) {σ : z_M} {u : Int32 × z_M} (h : f3_read p1 p2 σ = some u) : z_Mt yX3_read (z_w yX3_read cX3_read 4 (some .boolean)) 7 S1 a σ [.ref (a 101), .int p1, .int p2] (z_oi u) := by
  refine z_head (lo := [some (.ref (a 101)), some (.int p1), some (.int p2), none]) (by decide) (Nat.le_of_ble_eq_true rfl) ?_ rfl ?_
  · intro i v hv
    exact z_loe (vs := [.ref (a 101), .int p1, .int p2]) (n := 1) rfl (by simp [z_c1i, z_c1r]) i v hv
  · intro X hXa C
    subst hXa
    unfold f3_read at h
    refine z_aload_n C dX3_read_0 rfl rfl ?_
    refine z_iconst (v := 0) C dX3_read_1 (by decide) ?_
    obtain ⟨σ1, eσ1, h⟩ := z_let_some h
    refine z_puti (k := 2) C z_CF3 (by decide) flX3_32 rfl rfl rfl rfl eσ1 dX3_read_2 ?_
    refine z_aload_n C dX3_read_5 rfl rfl ?_
    refine z_iconst (v := (-1)) C dX3_read_6 (by decide) ?_
    obtain ⟨σ2, eσ2, h⟩ := z_let_some h
    refine z_puti (k := 3) C z_CF3 (by decide) flX3_20 rfl rfl rfl rfl eσ2 dX3_read_7 ?_
    refine z_iload_n C dX3_read_10 rfl rfl ?_
    refine z_if_lt (tgt := 19) C dX3_read_11 (by decide) (fun hc => ?_) (fun hc => ?_)
    · replace h := z_pos hc h
      refine z_iconst (v := 0) C dX3_read_19 (by decide) ?_
      exact z_zret C (by decide) h dX3_read_20
    · replace h := z_neg hc h
      refine z_iload_n C dX3_read_14 rfl rfl ?_
      refine z_iconst (v := 3) C dX3_read_15 (by decide) ?_
      refine z_icmp_le (tgt := 21) C dX3_read_16 (by decide) (fun hc => ?_) (fun hc => ?_)
      · replace h := z_neg hc h
        refine z_aload_n C dX3_read_21 rfl rfl ?_
        refine z_iload_n C dX3_read_22 rfl rfl ?_
        obtain ⟨σ3, eσ3, h⟩ := z_let_some h
        refine z_puti (k := 5) C z_CF3 (by decide) flX3_35 rfl rfl rfl rfl eσ3 dX3_read_23 ?_
        refine z_aload_n C dX3_read_26 rfl rfl ?_
        refine z_iload_n C dX3_read_27 rfl rfl ?_
        refine z_iconst (v := 2) C dX3_read_28 (by decide) ?_
        refine z_icmp_ne (tgt := 37) C dX3_read_29 (by decide) (fun hc => ?_) (fun hc => ?_)
        · replace h := z_neg hc h
          refine z_bipush (v := 16) C dX3_read_37 (by decide) ?_
          refine z_kill (lo' := [some (.ref (z_a X 101)), some (.int p1), none, none]) [2] rfl ?_
          exact t3_read_J39 C p1 16 σ3 h
        · replace h := z_pos hc h
          refine z_bipush (v := 12) C dX3_read_32 (by decide) ?_
          refine z_goto (tgt := 39) C dX3_read_34 (by decide) ?_
          refine z_kill (lo' := [some (.ref (z_a X 101)), some (.int p1), none, none]) [2] rfl ?_
          exact t3_read_J39 C p1 12 σ3 h
      · replace h := z_pos hc h
        refine z_iconst (v := 0) C dX3_read_19 (by decide) ?_
        exact z_zret C (by decide) h dX3_read_20
set_option maxHeartbeats 4000000 in
set_option maxRecDepth 100000 in
theorem t11_text_J46 {X : z_Ct} (C : z_Cx S1 X RX11 cX11_text 4 8 (some .int)) {u : Int32 × z_M} (v1 : Int32) (σ : z_M) (h : f11_text_J46 v1 σ = some u) : z_W S1 X 46 [some (.ref (z_a X 0)), some (.int v1), none, none] [] σ (z_oi u) := by
  unfold f11_text_J46 at h
  refine z_aload_n C dX11_text_46 rfl rfl ?_
  refine z_geta (k := 0) (q := 1) C z_CF11 (by decide) flX11_10 rfl rfl dX11_text_47 ?_
  refine z_iload_n C dX11_text_50 rfl rfl ?_
  obtain ⟨r1, σ2, mσ2, h⟩ := z_bnd2 h
  refine z_cva (As := [.int v1]) (c := 1) (st := []) C (t1_told 1 v1 rfl mσ2) kvX1_told rfl mlX11_142 z_CF1 rfl rfl (by decide) rfl (Nat.le_of_ble_eq_true rfl) dX11_text_51 ?_
  refine z_astore_n (lo' := [some (.ref (z_a X 0)), some (.int v1), none, some (.ref (z_a X r1))]) C dX11_text_54 rfl (Nat.le_of_ble_eq_true rfl) rfl ?_
  refine z_aload_n C dX11_text_55 rfl rfl ?_
  refine z_aload_n C dX11_text_56 rfl rfl ?_
  refine z_geta (k := 7) (q := 101) C z_CF11 (by decide) flX11_68 rfl rfl dX11_text_57 ?_
  refine z_geta (k := 1) (q := 102) C z_CF3 (by decide) flX11_146 rfl rfl dX11_text_60 ?_
  obtain ⟨⟨⟩, σ4, mσ4, h⟩ := z_bnd2 h
  refine z_cvv (As := [.ref (z_a X 102)]) (c := r1) (st := []) C (t9_copyFrom r1 102 (hk_told mσ2) rfl mσ4) kvX9_copyFrom rfl mlX11_150 z_CF9 (hk_told mσ2) rfl (by decide) rfl (Nat.le_of_ble_eq_true rfl) dX11_text_63 ?_
  refine z_aload_n C dX11_text_66 rfl rfl ?_
  refine z_geti (k := 2) C z_CF9 (by decide) flX11_156 (hk_told mσ2) (sh9_n2 (hk_told mσ2)) dX11_text_67 ?_
  exact z_iret C h dX11_text_70
set_option maxHeartbeats 4000000 in
set_option maxRecDepth 100000 in
theorem t11_text_J39 {X : z_Ct} (C : z_Cx S1 X RX11 cX11_text 4 8 (some .int)) {u : Int32 × z_M} (v1 : Int32) (σ : z_M) (h : f11_text_J39 v1 σ = some u) : z_W S1 X 39 [some (.ref (z_a X 0)), some (.int v1), none, none] [] σ (z_oi u) := by
  unfold f11_text_J39 at h
  refine z_aload_n C dX11_text_39 rfl rfl ?_
  refine z_geta (k := 5) (q := 58) C z_CF11 (by decide) flX11_52 rfl rfl dX11_text_40 ?_
  obtain ⟨⟨⟩, σ2, mσ2, h⟩ := z_bnd2 h
  refine z_cvv (As := []) (c := 58) (st := []) C (t10_forget mσ2) kvX10_forget rfl mlX11_97 z_CF10 rfl rfl (by decide) rfl (Nat.le_of_ble_eq_true rfl) dX11_text_43 ?_
  exact t11_text_J46 C v1 σ2 h
set_option maxHeartbeats 4000000 in
set_option maxRecDepth 100000 in
theorem t11_text {a : Nat → Nat} (p1 : Int32) {σ : z_M} {u : Int32 × z_M} (h : f11_text p1 σ = some u) : z_Mt yX11_text (z_w yX11_text cX11_text 4 (some .int)) 8 S1 a σ [.ref (a 0), .int p1] (z_oi u) := by
  refine z_head (lo := [some (.ref (a 0)), some (.int p1), none, none]) (by decide) (Nat.le_of_ble_eq_true rfl) ?_ rfl ?_
  · intro i v hv
    exact z_loe (vs := [.ref (a 0), .int p1]) (n := 2) rfl (by simp [z_c1i, z_c1r]) i v hv
  · intro X hXa C
    subst hXa
    unfold f11_text at h
    refine z_aload_n C dX11_text_0 rfl rfl ?_
    refine z_geta (k := 7) (q := 101) C z_CF11 (by decide) flX11_68 rfl rfl dX11_text_1 ?_
    refine z_iload_n C dX11_text_4 rfl rfl ?_
    refine z_aload_n C dX11_text_5 rfl rfl ?_
    refine z_geta (k := 0) (q := 1) C z_CF11 (by decide) flX11_10 rfl rfl dX11_text_6 ?_
    refine z_geti (k := 0) C z_CF1 (by decide) flX11_100 rfl rfl dX11_text_9 ?_
    obtain ⟨r1, σ2, mσ2, h⟩ := z_bnd2 h
    refine z_cvi (As := [.int p1, .int (σ 1 0)]) (c := 101) (st := []) C (t3_read p1 (σ 1 0) mσ2) kvX3_read rfl mlX11_139 z_CF3 rfl rfl (by decide) rfl (Nat.le_of_ble_eq_true rfl) dX11_text_12 ?_
    refine z_istore_n (lo' := [some (.ref (z_a X 0)), some (.int p1), some (.int r1), none]) C dX11_text_15 rfl (Nat.le_of_ble_eq_true rfl) rfl ?_
    refine z_aload_n C dX11_text_16 rfl rfl ?_
    refine z_geta (k := 6) (q := 96) C z_CF11 (by decide) flX11_59 rfl rfl dX11_text_17 ?_
    refine z_iconst (v := 0) C dX11_text_20 (by decide) ?_
    obtain ⟨σ3, eσ3, h⟩ := z_let_some h
    refine z_puti (k := 1) C z_CF8 (by decide) flX11_132 rfl rfl rfl rfl eσ3 dX11_text_21 ?_
    refine z_iload_n C dX11_text_24 rfl rfl ?_
    refine z_if_ne (tgt := 30) C dX11_text_25 (by decide) (fun hc => ?_) (fun hc => ?_)
    · replace h := z_neg hc h
      refine z_iload_n C dX11_text_30 rfl rfl ?_
      refine z_if_eq (tgt := 39) C dX11_text_31 (by decide) (fun hc => ?_) (fun hc => ?_)
      · replace h := z_pos hc h
        refine z_kill (lo' := [some (.ref (z_a X 0)), some (.int p1), none, none]) [2] rfl ?_
        exact t11_text_J39 C p1 σ3 h
      · replace h := z_neg hc h
        refine z_iload_n C dX11_text_34 rfl rfl ?_
        refine z_iconst (v := 3) C dX11_text_35 (by decide) ?_
        refine z_icmp_ne (tgt := 46) C dX11_text_36 (by decide) (fun hc => ?_) (fun hc => ?_)
        · replace h := z_neg hc h
          refine z_kill (lo' := [some (.ref (z_a X 0)), some (.int p1), none, none]) [2] rfl ?_
          exact t11_text_J46 C p1 σ3 h
        · replace h := z_pos hc h
          refine z_kill (lo' := [some (.ref (z_a X 0)), some (.int p1), none, none]) [2] rfl ?_
          exact t11_text_J39 C p1 σ3 h
    · replace h := z_pos hc h
      refine z_iconst (v := (-1)) C dX11_text_28 (by decide) ?_
      exact z_iret C h dX11_text_29
