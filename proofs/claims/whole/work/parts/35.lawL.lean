set_option maxHeartbeats 8000000 in
set_option maxRecDepth 100000 in
theorem law_loop {Rel : z_M → z_M → Prop} (hp : p_ok Rel) {X : z_Ct} {a2 : Nat → Nat} {b L : Nat} {xs : Nat → Int32} (hL : L ≤ 3072) (C : l_Cx X a2 b L xs) : ∀ (m j : Nat), j ≤ L + 6 → L + 12 - j < m → ∀ σ τ : z_M, Rel σ τ → l_W X a2 18 [some (.ref b), some (.ref (z_a X 0)), some (.ref (a2 0)), some (.int (nI j))] [] σ τ := by
  intro m
  induction m with
  | zero => intro j h1 h2; omega
  | succ m ih =>
    intro j h1 h2 σ τ hrel
    refine l_iload_n C dL_law_18 rfl rfl ?_
    refine l_aload_n C dL_law_19 rfl rfl ?_
    refine l_slen C dL_law_20 ?_
    refine l_bipush (v := 6) C dL_law_21 (by decide) ?_
    refine l_isub C dL_law_23 ?_
    have hsub : (nI L - 6).toInt = (L : Int) - 6 := pk_sub_toInt (a := L) (b := 6) (by omega) (by omega)
    refine l_icmp_gt (tgt := 1190) C dL_law_24 (by decide) (fun hc => ?_) (fun hc => ?_)
    · refine l_iconst (v := 1) C dL_law_1190 (by decide) ?_
      exact l_ret C dL_law_1191
    · have hj : j + 6 ≤ L := by
        rw [Int32.lt_iff_toInt_lt, hsub, nI_toInt (by omega)] at hc
        omega
      have hi : ∀ k : Nat, k < 6 → vp_in (nI (j + k)) L := fun k hk => vp_in_nI (by omega) (by omega)
      have h0 : vp_in (nI j) L := hi 0 (by omega)
      have g1 : vp_in (nI j + 1) L := by have := hi 1 (by omega); rwa [← nI_add] at this
      have g2 : vp_in (nI j + 2) L := by have := hi 2 (by omega); rwa [← nI_add] at this
      have g3 : vp_in (nI j + 3) L := by have := hi 3 (by omega); rwa [← nI_add] at this
      have g4 : vp_in (nI j + 4) L := by have := hi 4 (by omega); rwa [← nI_add] at this
      have g5 : vp_in (nI j + 5) L := by have := hi 5 (by omega); rwa [← nI_add] at this
      refine l_aload_n C dL_law_27 rfl rfl ?_
      refine l_iload_n C dL_law_28 rfl rfl ?_
      refine l_sld C h0 dL_law_29 ?_
      refine l_bipush (v := 31) C dL_law_30 (by decide) ?_
      refine l_iand C dL_law_32 ?_
      obtain ⟨v, hv, ev⟩ := pk_andE (xs (nI j).toNatClampNeg) (m := 31) 5 (by decide)
      rw [ev]
      have hv : v < 32 := hv
      have kk : ∀ σ τ : z_M, Rel σ τ → l_W X a2 1184 [some (.ref b), some (.ref (z_a X 0)), some (.ref (a2 0)), some (.int (nI j))] [] σ τ := by
        intro σ τ hrel
        refine l_iinc (v := nI (j + 6)) (lo' := [some (.ref b), some (.ref (z_a X 0)), some (.ref (a2 0)), some (.int (nI (j + 6)))]) C dL_law_1184 rfl (nI_add j 6) rfl ?_
        refine l_goto (tgt := 18) C dL_law_1187 (by decide) ?_
        exact ih (j + 6) (by omega) (by omega) σ τ hrel
      rcases (show v = 0 ∨ v = 1 ∨ v = 2 ∨ v = 3 ∨ v = 4 ∨ v = 5 ∨ v = 6 ∨ v = 7 ∨ v = 8 ∨ v = 9 ∨ v = 10 ∨ v = 11 ∨ v = 12 ∨ v = 13 ∨ v = 14 ∨ v = 15 ∨ v = 16 ∨ v = 17 ∨ v = 18 ∨ v = 19 ∨ v = 20 ∨ v = 21 ∨ v = 22 ∨ v = 23 ∨ v = 24 ∨ v = 25 ∨ v = 26 ∨ v = 27 ∨ v = 28 ∨ v = 29 ∨ v = 30 ∨ v = 31 by omega) with rfl | rfl | rfl | rfl | rfl | rfl | rfl | rfl | rfl | rfl | rfl | rfl | rfl | rfl | rfl | rfl | rfl | rfl | rfl | rfl | rfl | rfl | rfl | rfl | rfl | rfl | rfl | rfl | rfl | rfl | rfl | rfl
      · refine l_tab (tgt := 176) C dL_law_33 (v := 0) (by decide) (by decide) (by decide) rfl (by decide) ?_
        exact lc_state (p_ok_state hp) C h0 g1 g2 g3 g4 g5 hrel kk
      · refine l_tab (tgt := 199) C dL_law_33 (v := 1) (by decide) (by decide) (by decide) rfl (by decide) ?_
        exact lc_house (p_ok_house hp) C h0 g1 g2 g3 g4 g5 hrel kk
      · refine l_tab (tgt := 212) C dL_law_33 (v := 2) (by decide) (by decide) (by decide) rfl (by decide) ?_
        exact lc_set (p_ok_set hp) C h0 g1 g2 g3 g4 g5 hrel kk
      · refine l_tab (tgt := 255) C dL_law_33 (v := 3) (by decide) (by decide) (by decide) rfl (by decide) ?_
        exact lc_line (p_ok_line hp) C h0 g1 g2 g3 g4 g5 hrel kk
      · refine l_tab (tgt := 314) C dL_law_33 (v := 4) (by decide) (by decide) (by decide) rfl (by decide) ?_
        exact lc_feed (p_ok_feed hp) C h0 g1 g2 g3 g4 g5 hrel kk
      · refine l_tab (tgt := 377) C dL_law_33 (v := 5) (by decide) (by decide) (by decide) rfl (by decide) ?_
        exact lc_end (p_ok_end hp) C h0 g1 g2 g3 g4 g5 hrel kk
      · refine l_tab (tgt := 400) C dL_law_33 (v := 6) (by decide) (by decide) (by decide) rfl (by decide) ?_
        exact lc_text (p_ok_text hp) C h0 g1 g2 g3 g4 g5 hrel kk
      · refine l_tab (tgt := 423) C dL_law_33 (v := 7) (by decide) (by decide) (by decide) rfl (by decide) ?_
        exact lc_fault (p_ok_fault hp) C h0 g1 g2 g3 g4 g5 hrel kk
      · refine l_tab (tgt := 446) C dL_law_33 (v := 8) (by decide) (by decide) (by decide) rfl (by decide) ?_
        exact lc_pot (p_ok_pot hp) C h0 g1 g2 g3 g4 g5 hrel kk
      · refine l_tab (tgt := 489) C dL_law_33 (v := 9) (by decide) (by decide) (by decide) rfl (by decide) ?_
        exact lc_water (p_ok_water hp) C h0 g1 g2 g3 g4 g5 hrel kk
      · refine l_tab (tgt := 522) C dL_law_33 (v := 10) (by decide) (by decide) (by decide) rfl (by decide) ?_
        exact lc_weed (p_ok_weed hp) C h0 g1 g2 g3 g4 g5 hrel kk
      · refine l_tab (tgt := 545) C dL_law_33 (v := 11) (by decide) (by decide) (by decide) rfl (by decide) ?_
        exact lc_tell (p_ok_tell hp) C h0 g1 g2 g3 g4 g5 hrel kk
      · refine l_tab (tgt := 588) C dL_law_33 (v := 12) (by decide) (by decide) (by decide) rfl (by decide) ?_
        exact lc_weeks (p_ok_weeks hp) C h0 g1 g2 g3 g4 g5 hrel kk
      · refine l_tab (tgt := 611) C dL_law_33 (v := 13) (by decide) (by decide) (by decide) rfl (by decide) ?_
        exact lc_of (p_ok_of hp) C h0 g1 g2 g3 g4 g5 hrel kk
      · refine l_tab (tgt := 644) C dL_law_33 (v := 14) (by decide) (by decide) (by decide) rfl (by decide) ?_
        exact lc_reason (p_ok_reason hp) C h0 g1 g2 g3 g4 g5 hrel kk
      · refine l_tab (tgt := 677) C dL_law_33 (v := 15) (by decide) (by decide) (by decide) rfl (by decide) ?_
        exact lc_book (p_ok_book hp) C h0 g1 g2 g3 g4 g5 hrel kk
      · refine l_tab (tgt := 710) C dL_law_33 (v := 16) (by decide) (by decide) (by decide) rfl (by decide) ?_
        exact lc_first (p_ok_first hp) C h0 g1 g2 g3 g4 g5 hrel kk
      · refine l_tab (tgt := 743) C dL_law_33 (v := 17) (by decide) (by decide) (by decide) rfl (by decide) ?_
        exact lc_gives (p_ok_gives hp) C h0 g1 g2 g3 g4 g5 hrel kk
      · refine l_tab (tgt := 766) C dL_law_33 (v := 18) (by decide) (by decide) (by decide) rfl (by decide) ?_
        exact lc_done (p_ok_done hp) C h0 g1 g2 g3 g4 g5 hrel kk
      · refine l_tab (tgt := 779) C dL_law_33 (v := 19) (by decide) (by decide) (by decide) rfl (by decide) ?_
        exact lc_struck (p_ok_struck hp) C h0 g1 g2 g3 g4 g5 hrel kk
      · refine l_tab (tgt := 812) C dL_law_33 (v := 20) (by decide) (by decide) (by decide) rfl (by decide) ?_
        exact lc_down (p_ok_down hp) C h0 g1 g2 g3 g4 g5 hrel kk
      · refine l_tab (tgt := 845) C dL_law_33 (v := 21) (by decide) (by decide) (by decide) rfl (by decide) ?_
        exact lc_by (p_ok_by hp) C h0 g1 g2 g3 g4 g5 hrel kk
      · refine l_tab (tgt := 878) C dL_law_33 (v := 22) (by decide) (by decide) (by decide) rfl (by decide) ?_
        exact lc_part (p_ok_part hp) C h0 g1 g2 g3 g4 g5 hrel kk
      · refine l_tab (tgt := 911) C dL_law_33 (v := 23) (by decide) (by decide) (by decide) rfl (by decide) ?_
        exact lc_talk (p_ok_talk hp) C h0 g1 g2 g3 g4 g5 hrel kk
      · refine l_tab (tgt := 954) C dL_law_33 (v := 24) (by decide) (by decide) (by decide) rfl (by decide) ?_
        exact lc_fits (p_ok_fits hp) C h0 g1 g2 g3 g4 g5 hrel kk
      · refine l_tab (tgt := 987) C dL_law_33 (v := 25) (by decide) (by decide) (by decide) rfl (by decide) ?_
        exact lc_ask (p_ok_ask hp) C h0 g1 g2 g3 g4 g5 hrel kk
      · refine l_tab (tgt := 1020) C dL_law_33 (v := 26) (by decide) (by decide) (by decide) rfl (by decide) ?_
        exact lc_waters (p_ok_waters hp) C h0 g1 g2 g3 g4 g5 hrel kk
      · refine l_tab (tgt := 1063) C dL_law_33 (v := 27) (by decide) (by decide) (by decide) rfl (by decide) ?_
        exact lc_game (p_ok_game hp) C h0 g1 g2 g3 g4 g5 hrel kk
      · refine l_tab (tgt := 1086) C dL_law_33 (v := 28) (by decide) (by decide) (by decide) rfl (by decide) ?_
        exact lc_greenhouses (p_ok_greenhouses hp) C h0 g1 g2 g3 g4 g5 hrel kk
      · refine l_tab (tgt := 1109) C dL_law_33 (v := 29) (by decide) (by decide) (by decide) rfl (by decide) ?_
        exact lc_undo (p_ok_undo hp) C h0 g1 g2 g3 g4 g5 hrel kk
      · refine l_tab (tgt := 1122) C dL_law_33 (v := 30) (by decide) (by decide) (by decide) rfl (by decide) ?_
        exact lc_image (p_ok_image hp) C h0 g1 g2 g3 g4 g5 hrel kk
      · refine l_tab (tgt := 1161) C dL_law_33 (v := 31) (by decide) (by decide) (by decide) rfl (by decide) ?_
        exact lc_look (p_ok_look hp) C h0 g1 g2 g3 g4 g5 hrel kk
theorem l_arr {args : Array Value} {s : State} {ty : FieldType} (h : (Cond.arrayClass ty).before args s = true) : ∃ cA, ArrOfT s cA ty ∧ s.vm.findClass ("[" ++ ty.toString) = some cA := by
  obtain ⟨c, k, comp, h1, h2, h3⟩ := Cond.arrayClass_spec (args := args) (first := s) (o := none) (idx := []) h
  exact ⟨c, fun n z => ⟨(fun k9 h9 => by cases h9), k, h2, comp, h3⟩, h1⟩
theorem l_arrq {args : Array Value} {s : State} {C : String} (h : (Cond.arrayOver (.object C)).before args s = true) : ∃ cA, ArrOfT s cA (.object C) ∧ va_RA s cA (.object C) := by
  obtain ⟨comp, c, k, h1, -, h2, h3, h4⟩ := Cond.arrayOver_spec (args := args) (first := s) (o := none) (idx := []) h
  exact ⟨c, fun n z => ⟨(fun k9 h9 => by cases h9), k, h2, comp, h3⟩, k, comp, h2, h3, h1, h4⟩
theorem l_known {args : Array Value} {s : State} (hts : ∀ w ∈ z_T, w.before args s = true) (hov : (Cond.arrayOver (.object "PlantedDoubts$Beds")).before args s = true) : ∃ (D : va_G) (Y : z_Y), va_K D z_cl (z_ty Y) s := by
  obtain ⟨c0, iS0, hK0⟩ := u_known (C := RX0) (T := TX0) (N := 9) (n := 9) hts z_CF0.2.2.1 (hts (.instantiable RX0 9) (z_t1 66 rfl rfl))
  obtain ⟨c1, iS1, hK1⟩ := u_known (C := RX1) (T := TX1) (N := 14) (n := 14) hts z_CF1.2.2.1 (hts (.instantiable RX1 14) (z_t1 31 rfl rfl))
  obtain ⟨c2, iS2, hK2⟩ := u_known (C := RX2) (T := TX2) (N := 5) (n := 5) hts z_CF2.2.2.1 (hts (.instantiable RX2 5) (z_t2 88 rfl rfl))
  obtain ⟨c3, iS3, hK3⟩ := u_known (C := RX3) (T := TX3) (N := 10) (n := 10) hts z_CF3.2.2.1 (hts (.instantiable RX3 10) (z_t2 46 rfl rfl))
  obtain ⟨c4, iS4, hK4⟩ := u_known (C := RX4) (T := TX4) (N := 1) (n := 1) hts z_CF4.2.2.1 (hts (.instantiable RX4 1) (z_t2 125 rfl rfl))
  obtain ⟨c5, iS5, hK5⟩ := u_known (C := RX5) (T := TX5) (N := 2) (n := 2) hts z_CF5.2.2.1 (hts (.instantiable RX5 2) (z_t1 202 rfl rfl))
  obtain ⟨c6, iS6, hK6⟩ := u_known (C := RX6) (T := TX6) (N := 2) (n := 2) hts z_CF6.2.2.1 (hts (.instantiable RX6 2) (z_t2 112 rfl rfl))
  obtain ⟨c7, iS7, hK7⟩ := u_known (C := RX7) (T := TX7) (N := 4) (n := 4) hts z_CF7.2.2.1 (hts (.instantiable RX7 4) (z_t1 215 rfl rfl))
  obtain ⟨c8, iS8, hK8⟩ := u_known (C := RX8) (T := TX8) (N := 6) (n := 6) hts z_CF8.2.2.1 (hts (.instantiable RX8 6) (z_t2 16 rfl rfl))
  obtain ⟨c9, iS9, hK9⟩ := u_known (C := RX9) (T := TX9) (N := 4) (n := 4) hts z_CF9.2.2.1 (hts (.instantiable RX9 4) (z_t1 37 rfl rfl))
  obtain ⟨c10, iS10, hK10⟩ := u_known (C := RX10) (T := TX10) (N := 3) (n := 3) hts z_CF10.2.2.1 (hts (.instantiable RX10 3) (z_t1 236 rfl rfl))
  obtain ⟨c11, iS11, hK11⟩ := u_known (C := RX11) (T := TX11) (N := 12) (n := 12) hts z_CF11.2.2.1 (hts (.instantiable RX11 12) (z_t1 23 rfl rfl))
  obtain ⟨c12, iS12, hK12⟩ := u_known (C := RX12) (T := TX12) (N := 61) (n := 61) hts z_CF12.2.2.1 (hts (.instantiable RX12 61) (z_t5 142 rfl rfl))
  obtain ⟨cI, hI1, hI2⟩ := l_arr (ty := .int) (hts _ (by decide +kernel : Cond.arrayClass .int ∈ z_T))
  obtain ⟨cB, hB1, hB2⟩ := l_arr (ty := .byte) (hts _ (by decide +kernel : Cond.arrayClass .byte ∈ z_T))
  obtain ⟨cR, hR1, hR2⟩ := l_arrq hov
  refine ⟨(fun k => [c0, c1, c2, c3, c4, c5, c6, c7, c8, c9, c10, c11, c12].getD k 0, fun k => [iS0, iS1, iS2, iS3, iS4, iS5, iS6, iS7, iS8, iS9, iS10, iS11, iS12].getD k (fun _ => 0)), (cI, cB, cR), fun k q hq => ?_, fun k q hq => ?_⟩
  · match k, hq with
    | 0, hq => cases hq; exact hK0
    | 1, hq => cases hq; exact hK1
    | 2, hq => cases hq; exact hK2
    | 3, hq => cases hq; exact hK3
    | 4, hq => cases hq; exact hK4
    | 5, hq => cases hq; exact hK5
    | 6, hq => cases hq; exact hK6
    | 7, hq => cases hq; exact hK7
    | 8, hq => cases hq; exact hK8
    | 9, hq => cases hq; exact hK9
    | 10, hq => cases hq; exact hK10
    | 11, hq => cases hq; exact hK11
    | 12, hq => cases hq; exact hK12
    | k + 13, hq => simp [z_cl] at hq
  · match k, hq with
    | 0, hq => cases hq; exact ⟨hI1, hI2⟩
    | 1, hq => cases hq; exact ⟨hB1, hB2⟩
    | 2, hq => cases hq; exact ⟨hR1, hR2⟩
    | k + 3, hq => simp [z_ty] at hq
theorem l_nest {args : Array Value} {s : State} (hts : ∀ w ∈ lw_tbl, w.before args s = true) : n_nest s := ⟨va_Nw.of rfl (hts _ (List.mem_append_right _ (List.mem_append_left _ (List.mem_of_getElem? (i := 32) (l := tables_1_1) rfl)))), va_Nw.of rfl (hts _ (List.mem_append_right _ (List.mem_append_left _ (List.mem_of_getElem? (i := 203) (l := tables_1_1) rfl)))), va_Nw.of rfl (hts _ (List.mem_append_right _ (List.mem_append_right _ (List.mem_append_left _ (List.mem_of_getElem? (i := 17) (l := tables_1_2) rfl))))), va_Nw.of rfl (hts _ (List.mem_append_right _ (List.mem_append_right _ (List.mem_append_left _ (List.mem_of_getElem? (i := 89) (l := tables_1_2) rfl))))), va_Nw.of rfl (hts _ (List.mem_append_right _ (List.mem_append_right _ (List.mem_append_left _ (List.mem_of_getElem? (i := 113) (l := tables_1_2) rfl))))), va_Nw.of rfl (hts _ (List.mem_append_right _ (List.mem_append_right _ (List.mem_append_left _ (List.mem_of_getElem? (i := 126) (l := tables_1_2) rfl))))), va_AO.of (hts _ (List.mem_append_right _ (List.mem_append_right _ (List.mem_append_left _ (List.mem_of_getElem? (i := 2) (l := tables_1_2) rfl)))))⟩
theorem l_nest1 {args : Array Value} {s : State} (hts : ∀ w ∈ lw_tbl, w.before args s = true) : va_Nw z_nest s := va_Nw.of rfl (hts _ (List.mem_append_right _ (List.mem_append_right _ (List.mem_append_right _ (List.mem_append_right _ (List.mem_append_left _ (List.mem_of_getElem? (i := 105) (l := tables_1_4) rfl)))))))
def l_tm (i : Nat) : Term := if i = 0 then .string "PlantedDoubts$Tape" 67 else .string "PlantedDoubts$Tape" 60
set_option maxRecDepth 100000 in
set_option maxHeartbeats 8000000 in
theorem l_el0 : ∀ j, j < 144 → (Cond.eq (.elem (.field (l_tm 0) "java/lang/String" "value" "[B") (.int (Int32.ofNat j))) (.int ((z_byt.getD 0 []).getD j 0))) ∈ flatC (Jvm.Cond.and given_1 narrow_1) := by decide +kernel
set_option maxRecDepth 100000 in
theorem l_el1 : ∀ j, j < 10 → (Cond.eq (.elem (.field (l_tm 1) "java/lang/String" "value" "[B") (.int (Int32.ofNat j))) (.int ((z_byt.getD 1 []).getD j 0))) ∈ flatC (Jvm.Cond.and given_1 narrow_1) := by decide +kernel
theorem l_two {P : Nat → Prop} (h0 : P 0) (h1 : P 1) : ∀ i, i < 2 → P i := fun i hi => by
  match i, hi with
  | 0, _ => exact h0
  | 1, _ => exact h1
  | i + 2, h => exact absurd h (by omega)
set_option maxRecDepth 100000 in
theorem l_str {args : Array Value} {s : State} (h : (Jvm.Cond.and given_1 narrow_1).before args s = true) : ∃ adK adV : Nat → Nat, vk_S 2 z_len z_byt adK adV (fun q => s.heap.size ≤ q) s s.heap ∧ ∀ i : Nat, i < 2 → (l_tm i).eval args s none [] s = some (.ref (adK i)) := by
  have hs := flat_of_before _ h
  refine vk_Sof (tm := l_tm) (l_two (by decide) (by decide)) (l_two (hs _ (by decide +kernel)) (hs _ (by decide +kernel))) (l_two (hs _ (by decide +kernel)) (hs _ (by decide +kernel))) (l_two (hs _ (by decide +kernel)) (hs _ (by decide +kernel))) (l_two (hs _ (by decide +kernel)) (hs _ (by decide +kernel))) (l_two (fun j hj => hs _ (l_el0 j hj)) (fun j hj => hs _ (l_el1 j hj))) ?_ (fun a h => Nat.not_le.mpr h)
  intro i j hi hj hij
  have h9 : (Cond.not (Cond.eq (l_tm 0) (l_tm 1))).before args s = true := hs _ (by decide +kernel)
  match i, j, hi, hj, hij with
  | 0, 0, _, _, h => exact absurd rfl h
  | 0, 1, _, _, _ => exact Or.inl h9
  | 1, 0, _, _, _ => exact Or.inr h9
  | 1, 1, _, _, h => exact absurd rfl h
  | i + 2, _, h, _, _ => exact absurd h (by omega)
  | _, j + 2, _, h, _ => exact absurd h (by omega)
theorem l_gs {S : z_S} {a : Nat → Nat} {args : Array Value} {s : State} {adK adV : Nat → Nat} (hts : ∀ w ∈ lw_tbl, w.before args s = true) (h : (Jvm.Cond.and given_1 narrow_1).before args s = true) (hv : vk_S 2 z_len z_byt adK adV (fun q => s.heap.size ≤ q) s s.heap) (ht : ∀ i : Nat, i < 2 → (l_tm i).eval args s none [] s = some (.ref (adK i))) (hA : ∀ q, z_A S a q → s.heap.size ≤ q) (hk : ∀ i, i < 2 → a (1000 + i) = adK i ∧ a (2000 + i) = adV i) : z_Gs S a s s.heap := by
  have hs := flat_of_before _ h
  have hz : ∀ q : Nat, q < s.heap.size → ¬ (fun q : Nat => s.heap.size ≤ q) q := fun q h9 => Nat.not_le.mpr h9
  have hc : va_Z "java/lang/String" "COMPACT_STRINGS" "Z" (.int 1) (fun q => s.heap.size ≤ q) s s.heap := va_Zof (hts _ (List.mem_append_right _ (List.mem_append_right _ (List.mem_append_right _ (List.mem_append_left _ (List.mem_of_getElem? (i := 18) (l := tables_1_3) rfl)))))) (hts _ (List.mem_append_right _ (List.mem_append_left _ (List.mem_of_getElem? (i := 14) (l := tables_1_1) rfl)))) (va_eqi (hs _ (by decide +kernel))) hz
  have hf : z_fmt (fun q => s.heap.size ≤ q) s s.heap := va_Zqof (hts _ (List.mem_append_right _ (List.mem_append_right _ (List.mem_append_right _ (List.mem_append_left _ (List.mem_of_getElem? (i := 34) (l := tables_1_3) rfl)))))) (hts _ (List.mem_append_right _ (List.mem_append_left _ (List.mem_of_getElem? (i := 16) (l := tables_1_1) rfl)))) (hs _ (by decide +kernel)) hz
  have h0 := (hk 0 (by omega)).1
  have h1 := (hk 1 (by omega)).1
  have hr0 : vk_R "PlantedDoubts$Tape" 67 z_tx0 (adK 0) s := vk_R.of (A := args) (hts _ (List.mem_append_right _ (List.mem_append_right _ (List.mem_append_right _ (List.mem_append_left _ (List.mem_of_getElem? (i := 8) (l := tables_1_3) rfl)))))) (ht 0 (by omega))
  have hr1 : vk_R "PlantedDoubts$Tape" 60 z_tx1 (adK 1) s := vk_R.of (A := args) (hts _ (List.mem_append_right _ (List.mem_append_right _ (List.mem_append_right _ (List.mem_append_left _ (List.mem_of_getElem? (i := 75) (l := tables_1_3) rfl)))))) (ht 1 (by omega))
  refine ⟨l_nest1 hts, ?_, by rw [show a 1000 = adK 0 from h0]; exact hr0, by rw [show a 1001 = adK 1 from h1]; exact hr1, hc.narrow hA, hf.narrow hA⟩
  have hv2 := hv.narrow hA
  refine ⟨fun i hi => ?_, fun i j hi hj e => hv2.2 i j hi hj ?_⟩
  · obtain ⟨g1, g2, g3, g4⟩ := hv2.1 i hi
    obtain ⟨e1, e2⟩ := hk i hi
    exact ⟨by dsimp only; rw [e1]; exact g1, by dsimp only; rw [e1]; exact g2, by dsimp only; rw [e1, e2]; exact g3, by dsimp only; rw [e2]; exact g4⟩
  · dsimp only at e
    rw [(hk i hi).1, (hk j hj).1] at e
    exact e
set_option maxHeartbeats 8000000 in
set_option maxRecDepth 100000 in
/-- THE LAW, from its entry, over the pure statement -/
theorem law_start {Rel : z_M → z_M → Prop} (hp : p_ok Rel) (hrel : Rel i1 i2) {p : Program} {e : Env} {s : State} {m : MethodId} {below : List Frame} {meth : Method} {c : Code} (l : Launch) {b L : Nat} {xs : Nat → Int32} (hL : L ≤ 3072) (C0 : lw_At p s m meth c b L xs) : W p l e room_1 s m #[Value.ref b] below meth c s.heap [] 0 0 (lw_Z below #[Value.ref b] s) (entryFrame m ([Value.ref b] : List Value).toArray 4) := by
  obtain ⟨hx, hb, hr, hml, hown, hts0, hX, hbl, hlocks, hgv⟩ := id C0
  have hts : ∀ w ∈ z_T, w.before #[Value.ref b] s = true := fun w hw => hts0 w (List.mem_filter.mp hw).1
  have hA : ∀ q : Nat, s.heap.size ≤ q → (fun q : Nat => s.heap.size ≤ q) q := fun _ h => h
  obtain ⟨D, Y, hK⟩ := l_known hts (hts0 _ (List.mem_append_right _ (List.mem_append_right _ (List.mem_append_left _ (List.mem_of_getElem? (i := 2) (l := tables_1_2) rfl)))))
  have hne : n_nest s := l_nest hts0
  obtain ⟨adK, adV, hstr, hstt⟩ := l_str hgv
  have hS : va_S (fun q : Nat => s.heap.size ≤ q) s.heap s.heap [] := va_S.rf
  have hP : va_P D z_cl [] s.heap := fun k q h => by simp at h
  have hD : va_D (fun q : Nat => s.heap.size ≤ q) [] := ⟨fun i j p q h => by simp at h, fun k q h => by simp at h⟩
  have hl := lv_entry ([.ref b]) (n := 4) (Nat.le_of_ble_eq_true rfl)
  rw [lg_entry_eq]
  generalize (lg_sl ([.ref b]) ++ List.replicate (4 - (lg_sl ([.ref b])).length) Slot.unset).toArray = ls at hl ⊢
  have hl : z_Lh ls [some (.ref b), none, none, none] := ⟨hl.1, hl.2.1, fun i v h => by
    match i, h with
    | 0, h => cases h; exact ⟨hl.2.2 (0, .ref b) List.mem_cons_self, rfl⟩
    | 1, h => cases h
    | 2, h => cases h
    | 3, h => cases h
    | i + 4, h => simp at h⟩
  refine va_new (ci := 11) (fs := [.null, .null, .int 0, .null, .null, .null, .null, .null, .null, .null, .null, .null]) hx hb hts z_CF11.2.2.1 tyX11 z_CF11.2.2.2.1 hown (hts _ (z_t1 22 rfl rfl)) (hts (.instantiable RX11 12) (z_t1 23 rfl rfl)) (hts (.initialized RX11) (z_t1 1 rfl rfl)) hK hP hD hS hA rfl (by decide) (Nat.le_of_ble_eq_true rfl) (Nat.le_of_ble_eq_true rfl) dL_law_0 (fun b1 Ha hPa hDa hSa => ?_)
  refine lv_dup hx hb dL_law_3 rfl ?_
  have hPc : va_P D z_cl [(b1, .inr (11, [.null, .null, .int 0, .null, .null, .null, .null, .null, .null, .null, .null, .null]))] Ha := hPa
  refine n_after (Wf := w_PD) (b := b1) (wr := []) (va_runI (As := []) (rest := [.ref b1]) (n := 0) ⟨hx, hb, hml, hown, hts⟩ (tc_X11 l D Y Ha.size b1) ⟨callB_of 0 hts (z_w_good kiX11.2.2.1) rfl rfl rfl (hts _ kiX11.2.1) (hts (.methodLink R_law 9 yX11_init) (z_t1 24 rfl rfl)) kiX11.2.2.2.2.2 ⟨Nat.le_of_ble_eq_true rfl, Nat.le_of_ble_eq_true rfl⟩, rfl, hts _ kiX11.1⟩ ⟨n_blind, fun U hU hW => ⟨rfl, by rw [hU], by rw [hU]; exact hPc, va_K.moved hW.alike hK, hne.warm hW⟩⟩ rfl rfl hl.1 rfl (lv_room (Nat.le_of_ble_eq_true rfl)) dL_law_4 ⟨Nat.le_of_ble_eq_true rfl, Nat.le_of_ble_eq_true rfl⟩) hPa hDa hSa hA (fun q1 Hb locsb hq1 hPb hDb hSb => ?_)
  subst hq1
  refine lv_astore_n hx hb dL_law_7 rfl hl.has (Nat.le_of_ble_eq_true rfl) rfl (fun ls' h' => ?_)
  have hl := hl.of (i := 1) (v := .ref (q1 0)) rfl (Nat.le_of_ble_eq_true rfl) h'
  refine va_new (ci := 12) (fs := [.int 0, .null, .null, .int 0, .null, .int 0, .int 0, .int 0, .int 0, .int 0, .null, .null, .null, .null, .int 0, .int 0, .int 0, .int 0, .int 0, .null, .null, .null, .null, .null, .null, .null, .null, .int 0, .int 0, .int 0, .null, .int 0, .int 0, .int 0, .int 0, .int 0, .int 0, .null, .int 0, .null, .int 0, .null, .null, .null, .int 0, .null, .null, .null, .null, .null, .null, .null, .int 0, .null, .null, .null, .null, .int 0, .int 0, .int 0, .null]) hx hb hts z_CF12.2.2.1 tyX12 z_CF12.2.2.2.1 hown (hts _ (z_t5 141 rfl rfl)) (hts (.instantiable RX12 61) (z_t5 142 rfl rfl)) (hts (.initialized RX12) (z_t1 13 rfl rfl)) hK hPb hDb hSb hA rfl (by decide) (Nat.le_of_ble_eq_true rfl) (Nat.le_of_ble_eq_true rfl) dL_law_8 (fun b2 Hc hPd hDd hSd => ?_)
  refine lv_dup hx hb dL_law_11 rfl ?_
  have hPe : va_P D z_cl [(b2, .inr (12, [.int 0, .null, .null, .int 0, .null, .int 0, .int 0, .int 0, .int 0, .int 0, .null, .null, .null, .null, .int 0, .int 0, .int 0, .int 0, .int 0, .null, .null, .null, .null, .null, .null, .null, .null, .int 0, .int 0, .int 0, .null, .int 0, .int 0, .int 0, .int 0, .int 0, .int 0, .null, .int 0, .null, .int 0, .null, .null, .null, .int 0, .null, .null, .null, .null, .null, .null, .null, .int 0, .null, .null, .null, .null, .int 0, .int 0, .int 0, .null]))] Hc := hPd.sub [115] rfl
  refine n_after (Wf := w_Model) (b := b2) (va_runI (As := []) (rest := [.ref b2]) (n := 0) ⟨hx, hb, hml, hown, hts⟩ (tc_X12 l D Y Hc.size b2) ⟨callB_of 0 hts (z_w_good kiX12.2.2.1) rfl rfl rfl (hts _ kiX12.2.1) (hts (.methodLink R_law 12 yX12_init) (z_t5 143 rfl rfl)) kiX12.2.2.2.2.2 ⟨Nat.le_of_ble_eq_true rfl, Nat.le_of_ble_eq_true rfl⟩, rfl, hts _ kiX12.1⟩ ⟨n_blind, fun U hU hW => ⟨rfl, by rw [hU], by rw [hU]; exact hPe, va_K.moved hW.alike hK, hne.warm hW⟩⟩ rfl rfl hl.1 rfl (lv_room (Nat.le_of_ble_eq_true rfl)) dL_law_12 ⟨Nat.le_of_ble_eq_true rfl, Nat.le_of_ble_eq_true rfl⟩) hPd hDd hSd hA (fun q2 H locs hq2 hP hD hS => ?_)
  subst hq2
  refine lv_astore_n hx hb dL_law_15 rfl hl.has (Nat.le_of_ble_eq_true rfl) rfl (fun ls' h' => ?_)
  have hl := hl.of (i := 2) (v := .ref (q2 0)) rfl (Nat.le_of_ble_eq_true rfl) h'
  refine lv_iconst (v := 0) hx hb dL_law_16 (by decide) ?_
  refine lv_istore_n hx hb dL_law_17 rfl hl.has (Nat.le_of_ble_eq_true rfl) rfl (fun ls' h' => ?_)
  have hl := hl.of (i := 3) (v := .int 0) rfl (Nat.le_of_ble_eq_true rfl) h'
  rw [List.nil_append, l_i1_eq Y q1 adK adV, l_i2_eq Y q2 adK adV] at hP hD
  obtain ⟨a1, ea1⟩ : ∃ a, a = l_ad 115 q1 adK adV := ⟨_, rfl⟩
  obtain ⟨a2, ea2⟩ : ∃ a, a = l_ad 34 q2 adK adV := ⟨_, rfl⟩
  rw [← ea1, ← ea2] at hP hD
  have len1 : (z_wl S1 Y a1 i1).length = 115 := by simp [z_wl]; rfl
  have at1 : ∀ c, c < 115 → (z_wl S1 Y a1 i1 ++ z_wl S2 Y a2 i2)[c]? = some (a1 c, z_E S1 Y a1 i1 c) := fun c h => by
    rw [List.getElem?_append_left (by omega)]; exact z_wl_at (S := S1) h
  have at2 : ∀ c, c < 34 → (z_wl S1 Y a1 i1 ++ z_wl S2 Y a2 i2)[115 + c]? = some (a2 c, z_E S2 Y a2 i2 c) := fun c h => by
    rw [List.getElem?_append_right (by omega), len1, Nat.add_sub_cancel_left]; exact z_wl_at (S := S2) h
  have hP1 : va_P D z_cl (z_wl S1 Y a1 i1) H := fun k q hq => by
    obtain ⟨h1, h2⟩ := z_wl_of hq
    exact hP k q (by rw [h2]; exact at1 k h1)
  have hP2 : va_P D z_cl (z_wl S2 Y a2 i2) H := fun k q hq => by
    obtain ⟨h1, h2⟩ := z_wl_of hq
    exact hP (115 + k) q (by rw [h2]; exact at2 k h1)
  have hA1 : ∀ q, z_A S1 a1 q → s.heap.size ≤ q ∧ ¬ z_A S2 a2 q := by
    rintro q ⟨c1, h1, rfl⟩
    refine ⟨hD.2 c1 _ (at1 c1 h1), ?_⟩
    rintro ⟨c2, h2, e2⟩
    have h1' : c1 < 115 := h1
    have := hD.1 c1 (115 + c2) _ _ (at1 c1 h1) (at2 c2 h2) e2
    omega
  have hA2 : ∀ q, z_A S2 a2 q → s.heap.size ≤ q ∧ ¬ z_A S1 a1 q := by
    rintro q ⟨c2, h2, rfl⟩
    refine ⟨hD.2 (115 + c2) _ (at2 c2 h2), ?_⟩
    rintro ⟨c1, h1, e2⟩
    have h1' : c1 < 115 := h1
    have := hD.1 c1 (115 + c2) _ _ (at1 c1 h1) (at2 c2 h2) e2.symm
    omega
  have hI1 : z_In S1 a1 := fun i j hi hj e9 => hD.1 i j _ _ (at1 i hi) (at1 j hj) e9
  have hI2 : z_In S2 a2 := fun i j hi hj e9 => by
    have := hD.1 (115 + i) (115 + j) _ _ (at2 i hi) (at2 j hj) e9
    omega
  have hG1 : z_Gs S1 a1 s s.heap := l_gs hts0 hgv hstr hstt (fun q h => (hA1 q h).1) (by rw [ea1]; exact l_two ⟨rfl, rfl⟩ ⟨rfl, rfl⟩)
  have hG2 : z_Gs S2 a2 s s.heap := l_gs hts0 hgv hstr hstt (fun q h => (hA2 q h).1) (by rw [ea2]; exact l_two ⟨rfl, rfl⟩ ⟨rfl, rfl⟩)
  have h10 : q1 0 = a1 0 := by rw [ea1]; rfl
  have h20 : q2 0 = a2 0 := by rw [ea2]; rfl
  rw [h10, h20] at hl
  exact law_loop hp hL (X := (p, l, e, room_1, s, m, #[Value.ref b], below, meth, c, D, Y, a1)) (a2 := a2) ⟨hx, hb, hml, hown, hts, hK, hlocks, hr, rfl, rfl, hI1, hI2, hA1, hA2, hG1, hG2, hX, hbl, hL⟩ (L + 13) 0 (by omega) (by omega) i1 i2 hrel H _ _ hP1 hP2 hS hl
