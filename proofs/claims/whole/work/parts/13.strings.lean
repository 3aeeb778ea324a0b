def z_ch (v : Int32) : Bool := decide (v = (v.toUInt32 % 65536).toInt32)
def z_bt (v : Int32) : Bool := decide (v = v.toInt8.toInt32)
section ZS
variable {S : z_S} {X : z_Ct} {own : String} {cc : ByteArray} {nL d d1 : Nat} {ret ret1 : Option FieldType} {pc : Nat} {lo : List (Option Value)} {st : List Value} {σ σ1 : z_M} {o : Option Value × z_M} {i index n maxL : Nat} {y : MethodName} {bytes : ByteArray} {As : List Value} {r : Int32}
theorem z_lds0 (C : z_Cx S X "PlantedDoubts$Tape" cc nL d ret) (hd : decode cc pc = .ok (.ldc 67, 2)) (k : z_W S X (pc + 2) lo (.ref (z_a X (1000 + 0)) :: st) σ o) : z_W S X pc lo st σ o := by
  obtain ⟨p, l, e, R, s, m, args, below, meth, c, D, Y, a⟩ := X
  obtain ⟨hx, hb, hml, hown, hts, hK, hI, hok, hlk, hr, hR, hG⟩ := C
  intro H locs ls hP hS hl
  exact va_ldcS hx hb hown hG.2.2.1 hd (k H locs ls hP hS hl)
theorem z_lds1 (C : z_Cx S X "PlantedDoubts$Tape" cc nL d ret) (hd : decode cc pc = .ok (.ldc 60, 2)) (k : z_W S X (pc + 2) lo (.ref (z_a X (1000 + 1)) :: st) σ o) : z_W S X pc lo st σ o := by
  obtain ⟨p, l, e, R, s, m, args, below, meth, c, D, Y, a⟩ := X
  obtain ⟨hx, hb, hml, hown, hts, hK, hI, hok, hlk, hr, hR, hG⟩ := C
  intro H locs ls hP hS hl
  exact va_ldcS hx hb hown hG.2.2.2.1 hd (k H locs ls hP hS hl)
theorem z_sval (C : z_Cx S X own cc nL d ret) (hi : i < 2) (hl2 : Cond.fieldLink own index "java/lang/String" "value" "[B" ∈ z_T) (hd : decode cc pc = .ok (.getfield index, 3)) (k : z_W S X (pc + 3) lo (.ref (z_a X (2000 + i)) :: st) σ o) : z_W S X pc lo (.ref (z_a X (1000 + i)) :: st) σ o := by
  obtain ⟨p, l, e, R, s, m, args, below, meth, c, D, Y, a⟩ := X
  obtain ⟨hx, hb, hml, hown, hts, hK, hI, hok, hlk, hr, hR, hG⟩ := C
  intro H locs ls hP hS hl
  exact vk_getf hx hb (hG.2.1.1 i hi).2.2.1 hS hown (hts _ hl2) (fun _ h => h) hd (k H locs ls hP hS hl)
theorem z_scod (C : z_Cx S X own cc nL d ret) (hi : i < 2) (hl2 : Cond.fieldLink own index "java/lang/String" "coder" "B" ∈ z_T) (hd : decode cc pc = .ok (.getfield index, 3)) (k : z_W S X (pc + 3) lo (.int 0 :: st) σ o) : z_W S X pc lo (.ref (z_a X (1000 + i)) :: st) σ o := by
  obtain ⟨p, l, e, R, s, m, args, below, meth, c, D, Y, a⟩ := X
  obtain ⟨hx, hb, hml, hown, hts, hK, hI, hok, hlk, hr, hR, hG⟩ := C
  intro H locs ls hP hS hl
  exact vk_getf hx hb (hG.2.1.1 i hi).2.1 hS hown (hts _ hl2) (fun _ h => h) hd (k H locs ls hP hS hl)
theorem z_scmp (C : z_Cx S X own cc nL d ret) (hl2 : Cond.fieldLink own index "java/lang/String" "COMPACT_STRINGS" "Z" ∈ z_T) (hd : decode cc pc = .ok (.getstatic index, 3)) (k : z_W S X (pc + 3) lo (.int 1 :: st) σ o) : z_W S X pc lo st σ o := by
  obtain ⟨p, l, e, R, s, m, args, below, meth, c, D, Y, a⟩ := X
  obtain ⟨hx, hb, hml, hown, hts, hK, hI, hok, hlk, hr, hR, hG⟩ := C
  intro H locs ls hP hS hl
  exact va_gets hx hb hG.2.2.2.2.1 hS hown (hts _ hl2) (fun _ h => h) hd (k H locs ls hP hS hl)
theorem z_sfmt (C : z_Cx S X own cc nL d ret) (hl2 : Cond.fieldLink own index "jdk/internal/util/Preconditions" "SIOOBE_FORMATTER" "Ljava/util/function/BiFunction;" ∈ z_T) (hd : decode cc pc = .ok (.getstatic index, 3)) (k : ∀ w : Value, w.category = 1 → z_W S X (pc + 3) lo (w :: st) σ o) : z_W S X pc lo st σ o := by
  obtain ⟨p, l, e, R, s, m, args, below, meth, c, D, Y, a⟩ := X
  obtain ⟨hx, hb, hml, hown, hts, hK, hI, hok, hlk, hr, hR, hG⟩ := C
  intro H locs ls hP hS hl
  rcases hG.2.2.2.2.2 with h | ⟨t, h⟩
  · exact va_gets hx hb h hS hown (hts _ hl2) (fun _ h => h) hd (k .null rfl H locs ls hP hS hl)
  · exact va_gets hx hb h hS hown (hts _ hl2) (fun _ h => h) hd (k (.ref t) rfl H locs ls hP hS hl)
theorem z_sblen (C : z_Cx S X own cc nL d ret) (hi : i < 2) (hd : decode cc pc = .ok (.arraylength, 1)) (k : z_W S X (pc + 1) lo (.int (nI (z_sn i)) :: st) σ o) : z_W S X pc lo (.ref (z_a X (2000 + i)) :: st) σ o := by
  obtain ⟨p, l, e, R, s, m, args, below, meth, c, D, Y, a⟩ := X
  obtain ⟨hx, hb, hml, hown, hts, hK, hI, hok, hlk, hr, hR, hG⟩ := C
  intro H locs ls hP hS hl
  exact va_tlen hx hb (hG.2.1.1 i hi).2.2.2 hS rfl hd (k H locs ls hP hS hl)
theorem z_sbald (C : z_Cx S X own cc nL d ret) (hi : i < 2) {j : Int32} (hin : z_in j (z_sn i) = true) (hd : decode cc pc = .ok (.baload, 1)) (k : z_W S X (pc + 1) lo (.int (z_by i (z_ix j)) :: st) σ o) : z_W S X pc lo (.int j :: .ref (z_a X (2000 + i)) :: st) σ o := by
  obtain ⟨p, l, e, R, s, m, args, below, meth, c, D, Y, a⟩ := X
  obtain ⟨hx, hb, hml, hown, hts, hK, hI, hok, hlk, hr, hR, hG⟩ := C
  intro H locs ls hP hS hl
  exact va_tb hx hb (hG.2.1.1 i hi).2.2.2 hS (z_in_vp hin) rfl hd (k H locs ls hP hS hl)
theorem z_cret (C : z_Cx S X own cc nL d (some .char)) {v : Int32} {u : Int32 × z_M} (hc : z_ch v = true) (h : some (v, σ) = some u) (hd : decode cc pc = .ok (.ireturn, 1)) : z_W S X pc lo [.int v] σ (z_oi u) := by
  obtain ⟨p, l, e, R, s, m, args, below, meth, c9, D, Y, a⟩ := X
  obtain ⟨hx, hb, hml, hown, hts, hK, hI, hok, hlk, hrt, hR, hG⟩ := C
  intro H locs ls hP hS hlo
  cases h
  have h2 : v = (v.toUInt32 % 65536).toInt32 := by simpa [z_ch] using hc
  exact W.zret (v := v) hx hb hrt (by rw [h2]; exact pk_nc _) (fun t ht hW => ⟨rfl, by rw [ht]; exact hP, hS.F ht⟩) hS.2.2 hd
theorem z_bret (C : z_Cx S X own cc nL d (some .byte)) {v : Int32} {u : Int32 × z_M} (hc : z_bt v = true) (h : some (v, σ) = some u) (hd : decode cc pc = .ok (.ireturn, 1)) : z_W S X pc lo [.int v] σ (z_oi u) := by
  obtain ⟨p, l, e, R, s, m, args, below, meth, c9, D, Y, a⟩ := X
  obtain ⟨hx, hb, hml, hown, hts, hK, hI, hok, hlk, hrt, hR, hG⟩ := C
  intro H locs ls hP hS hlo
  cases h
  have h2 : v = v.toInt8.toInt32 := by simpa [z_bt] using hc
  exact W.zret (v := v) hx hb hrt (by rw [h2]; exact pk_nb _) (fun t ht hW => ⟨rfl, by rw [ht]; exact hP, hS.F ht⟩) hS.2.2 hd
/-- a call on a text -/
theorem z_csv (C : z_Cx S X own cc nL d ret) (hi : i < 2) (hM : z_Mt y (z_w y bytes maxL ret1) d1 S (z_a X) σ (.ref (z_a X (1000 + i)) :: As) (z_oi (r, σ1))) (kv : z_Kv y bytes maxL ret1 n) (hn : As.length = n) (hlk : Cond.methodLink own index y ∈ z_T) (hyc : y.cls = "java/lang/String") (hdd : d1 + 1 ≤ d) (hlen : lo.length = nL) (hst : (st.map fun v => v.category).sum ≤ 8) (hd : decode cc pc = .ok (.invokevirtual index, 3))
    (kk : z_W S X (pc + 3) lo (.int r :: st) σ1 o) : z_W S X pc lo (As.reverse ++ .ref (z_a X (1000 + i)) :: st) σ o := by
  obtain ⟨p, l, e, R, s, m, args, below, meth, c9, D, Y, a⟩ := X
  obtain ⟨hx, hb, hml, hown, hts, hK, hI, hok, hlks, hrt, hR, hG⟩ := C
  obtain ⟨k1, k2, k3, k4, k5, k6⟩ := kv
  intro H locs ls hP hS hlo
  have hrecv := vk_recv hG.2.1 hi hS
  rw [← hyc] at hrecv
  have hG9 : GoodIn z_T (wsV own index y.cls y (z_w y bytes maxL ret1)) := fun w hw => by
    rcases List.mem_append.mp hw with h | h
    · simp only [List.mem_cons, List.not_mem_nil, or_false] at h
      rcases h with rfl | rfl | rfl | rfl
      · exact z_T_good hlk
      · exact z_T_good k1
      · exact z_T_good k2
      · exact z_T_good k3
    · exact z_w_good k4 w h
  refine z_after (o1 := z_oi (r, σ1)) (va_runV (As := As) (rest := st) (n := n) ⟨hx, hb, hml, hown, hts⟩ (hM l D Y hI hok) (cwV n hts hG9 rfl rfl rfl ⟨rfl, k6⟩ ⟨by show d1 + 1 ≤ R.frames; omega, by show 8 + (maxL + 11) + 64 * d1 ≤ R.locals; omega⟩) ⟨z_blind, hrecv, fun U hU hW => ⟨rfl, by rw [hU]; exact hP, va_K.moved hW.alike hK, by rw [hU]; exact hG.moved hW hS⟩⟩ rfl hn (by rw [hlo.1, hlen]) rfl (lv_room hst) hd ⟨Nat.zero_le _, Nat.zero_le _⟩) hS (fun H1 locs1 hP1 hS1 => kk H1 locs1 ls hP1 hS1 hlo)
theorem z_csu (C : z_Cx S X own cc nL d ret) (hM : z_Mt y (z_w y bytes maxL ret1) d1 S (z_a X) σ As (z_ov ((), σ1))) (kv : z_Ks y bytes maxL ret1 n) (hn : As.length = n) (hlk : Cond.methodLink own index y ∈ z_T) (hdd : d1 + 1 ≤ d) (hlen : lo.length = nL) (hst : (st.map fun v => v.category).sum ≤ 8) (hd : decode cc pc = .ok (.invokestatic index, 3))
    (kk : z_W S X (pc + 3) lo st σ1 o) : z_W S X pc lo (As.reverse ++ st) σ o :=
  z_calls C hM kv hn hlk hdd hlen hst hd kk
end ZS
