theorem z_E_obj {S : z_S} {Y : z_Y} {a : Nat → Nat} {σ : z_M} {c ci : Nat} (hk : S.1 c = ci) (h : ci < 100) : z_E S Y a σ c = .inr (ci, (List.range (S.2.1 c)).map (z_fv S a σ c)) := by
  unfold z_E; rw [if_pos (by omega), hk]
theorem z_E_int {S : z_S} {Y : z_Y} {a : Nat → Nat} {σ : z_M} {c : Nat} (hk : S.1 c = 100) : z_E S Y a σ c = .inl (Y.1, S.2.1 c, .inl (σ c)) := by
  unfold z_E; rw [if_neg (by omega), if_pos hk]
theorem z_E_byte {S : z_S} {Y : z_Y} {a : Nat → Nat} {σ : z_M} {c : Nat} (hk : S.1 c = 101) : z_E S Y a σ c = .inl (Y.2.1, S.2.1 c, .inl (σ c)) := by
  unfold z_E; rw [if_neg (by omega), if_neg (by omega), if_pos hk]
theorem z_E_ref {S : z_S} {Y : z_Y} {a : Nat → Nat} {σ : z_M} {c : Nat} (hk : S.1 c = 102) : z_E S Y a σ c = .inl (Y.2.2, S.2.1 c, .inr (.inr (.inr (.inr (fun k => (S.2.2.1 c k).map a))))) := by
  unfold z_E; rw [if_neg (by omega), if_neg (by omega), if_neg (by omega)]
theorem z_set_same {σ : z_M} {c k : Nat} {v : Int32} : z_set σ c k v c = upd (σ c) k v := by simp [z_set]
theorem z_set_other {σ : z_M} {c k c' : Nat} {v : Int32} (h : c' ≠ c) : z_set σ c k v c' = σ c' := by simp [z_set, h]
theorem z_row_same {σ : z_M} {c : Nat} {f : Nat → Int32} : z_row σ c f c = f := by simp [z_row]
theorem z_row_other {σ : z_M} {c c' : Nat} {f : Nat → Int32} (h : c' ≠ c) : z_row σ c f c' = σ c' := by simp [z_row, h]
theorem z_fs_set {S : z_S} {a : Nat → Nat} {σ : z_M} {c k N : Nat} {v : Int32} (hr : S.2.2.1 c k = none) : ((List.range N).map (z_fv S a σ c)).set k (.int v) = (List.range N).map (z_fv S a (z_set σ c k v) c) := by
  apply List.ext_getElem?
  intro i
  by_cases hN : i < N
  · by_cases hi : i = k
    · subst hi
      rw [List.getElem?_set_self (by simpa using hN)]
      simp [hN, z_fv, hr, z_set_same, upd]
    · rw [List.getElem?_set_ne (Ne.symm hi)]
      simp only [List.getElem?_map, List.getElem?_range hN, Option.map_some]
      congr 1
      unfold z_fv
      cases S.2.2.1 c i with
      | none => simp [z_set_same, upd, hi]
      | some q => rfl
  · rw [List.getElem?_eq_none (by simp; omega), List.getElem?_eq_none (by simp; omega)]
section ZH
variable {S : z_S} {X : z_Ct} {own : String} {cc : ByteArray} {nL d : Nat} {ret : Option FieldType} {pc : Nat} {lo : List (Option Value)} {st : List Value} {σ σ' : z_M} {o : Option Value × z_M} {ci : Nat} {Cn : String} {Tn : u_T} {N : Nat} {ty : Nat → FieldType} {c k index : Nat}
theorem z_getv (C : z_Cx S X own cc nL d ret) (F : z_CF ci Cn Tn N ty) (hkN : k < N) (hl : Cond.fieldLink own index Cn (Tn k).2.1 (Tn k).2.2.1 ∈ z_T) (hk : S.1 c = ci) (hd : decode cc pc = .ok (.getfield index, 3))
    (kk : z_W S X (pc + 3) lo (z_fv S (z_a X) σ c k :: st) σ o) : z_W S X pc lo (.ref (z_a X c) :: st) σ o := by
  obtain ⟨p, l, e, R, s, m, args, below, meth, c0, D, Y, a⟩ := X
  obtain ⟨hx, hb, hml, hown, hts, hK, hI, hok, hlk, hr, hR, hG⟩ := C
  obtain ⟨f1, f2, f3, f4, f5, f6⟩ := F
  intro H locs ls hP hS hlo
  have hc : c < S.2.2.2 := hok.1 c (by omega)
  have hn : S.2.1 c = N := hok.2 c _ (by rw [hk]; exact f1)
  have hat := z_wl_at (S := S) (Y := Y) (a := a) (σ := σ) hc
  rw [z_E_obj hk f2] at hat
  exact va_get (D := D) hx hb hts f3 hown hK hP c hat f1 k hkN (hts _ hl) (fun x h => by rw [f6 k hkN] at h; exact h) (by simp [hn, hkN]; rfl) hd (kk H locs ls hP hS hlo)
theorem z_geti (C : z_Cx S X own cc nL d ret) (F : z_CF ci Cn Tn N ty) (hkN : k < N) (hl : Cond.fieldLink own index Cn (Tn k).2.1 (Tn k).2.2.1 ∈ z_T) (hk : S.1 c = ci) (hr : S.2.2.1 c k = none) (hd : decode cc pc = .ok (.getfield index, 3))
    (kk : z_W S X (pc + 3) lo (.int (σ c k) :: st) σ o) : z_W S X pc lo (.ref (z_a X c) :: st) σ o := by
  refine z_getv C F hkN hl hk hd ?_
  have : z_fv S (z_a X) σ c k = .int (σ c k) := by unfold z_fv; rw [hr]
  rw [this]; exact kk
theorem z_geta (C : z_Cx S X own cc nL d ret) (F : z_CF ci Cn Tn N ty) (hkN : k < N) (hl : Cond.fieldLink own index Cn (Tn k).2.1 (Tn k).2.2.1 ∈ z_T) (hk : S.1 c = ci) {q : Nat} (hr : S.2.2.1 c k = some q) (hd : decode cc pc = .ok (.getfield index, 3))
    (kk : z_W S X (pc + 3) lo (.ref (z_a X q) :: st) σ o) : z_W S X pc lo (.ref (z_a X c) :: st) σ o := by
  refine z_getv C F hkN hl hk hd ?_
  have : z_fv S (z_a X) σ c k = .ref (z_a X q) := by unfold z_fv; rw [hr]
  rw [this]; exact kk
theorem z_putv (C : z_Cx S X own cc nL d ret) (F : z_CF ci Cn Tn N ty) (hkN : k < N) (hl : Cond.fieldLink own index Cn (Tn k).2.1 (Tn k).2.2.1 ∈ z_T) (hfin : (Tn k).2.2.2 = false) (hk : S.1 c = ci) (hr : S.2.2.1 c k = none) {v : Int32} (hn : narrow (ty k) (.int v) = .int v) (hfit : fits (ty k) (.int v) = true) (hσ : σ' = z_set σ c k v) (hd : decode cc pc = .ok (.putfield index, 3))
    (kk : z_W S X (pc + 3) lo st σ' o) : z_W S X pc lo (.int v :: .ref (z_a X c) :: st) σ o := by
  obtain ⟨p, l, e, R, s, m, args, below, meth, c0, D, Y, a⟩ := X
  obtain ⟨hx, hb, hml, hown, hts, hK, hI, hok, hlk, hrt, hR, hG⟩ := C
  obtain ⟨f1, f2, f3, f4, f5, f6⟩ := F
  intro H locs ls hP hS hlo
  have hc : c < S.2.2.2 := hok.1 c (by omega)
  have hN : S.2.1 c = N := hok.2 c _ (by rw [hk]; exact f1)
  have hat := z_wl_at (S := S) (Y := Y) (a := a) (σ := σ) hc
  rw [z_E_obj hk f2] at hat
  refine va_put (D := D) hx hb hts f3 ty f4 f5 hown hK hP (z_D hI) hS c hat f1 k hkN (hts _ hl) (fun x h => by rw [f6 k hkN] at h; exact h) hfin (f4 k hkN) hn hfit (by simp [hN, hkN]) hd (fun H1 locs1 hP1 _ hS1 => ?_)
  rw [z_wl_set (σ' := σ') hc (by rw [hσ, z_E_obj hk f2, z_fs_set hr]) (fun c' h => by rw [hσ]; exact z_set_other h)] at hP1
  exact kk H1 locs1 ls hP1 hS1 hlo
theorem z_puti (C : z_Cx S X own cc nL d ret) (F : z_CF ci Cn Tn N ty) (hkN : k < N) (hl : Cond.fieldLink own index Cn (Tn k).2.1 (Tn k).2.2.1 ∈ z_T) (hfin : (Tn k).2.2.2 = false) (hty : ty k = .int) (hk : S.1 c = ci) (hr : S.2.2.1 c k = none) {v : Int32} (hσ : σ' = z_set σ c k v) (hd : decode cc pc = .ok (.putfield index, 3))
    (kk : z_W S X (pc + 3) lo st σ' o) : z_W S X pc lo (.int v :: .ref (z_a X c) :: st) σ o :=
  z_putv C F hkN hl hfin hk hr (by rw [hty]; rfl) (by rw [hty]; rfl) hσ hd kk
theorem z_putz (C : z_Cx S X own cc nL d ret) (F : z_CF ci Cn Tn N ty) (hkN : k < N) (hl : Cond.fieldLink own index Cn (Tn k).2.1 (Tn k).2.2.1 ∈ z_T) (hfin : (Tn k).2.2.2 = false) (hty : ty k = .boolean) (hk : S.1 c = ci) (hr : S.2.2.1 c k = none) {v : Int32} (h01 : z_01 v = true) (hσ : σ' = z_set σ c k v) (hd : decode cc pc = .ok (.putfield index, 3))
    (kk : z_W S X (pc + 3) lo st σ' o) : z_W S X pc lo (.int v :: .ref (z_a X c) :: st) σ o := by
  have h2 : v = 0 ∨ v = 1 := by simpa [z_01] using h01
  exact z_putv C F hkN hl hfin hk hr (by rw [hty]; rcases h2 with rfl | rfl <;> decide +kernel) (by rw [hty]; rcases h2 with rfl | rfl <;> decide +kernel) hσ hd kk
theorem z_iald (C : z_Cx S X own cc nL d ret) (hk : S.1 c = 100) {i : Int32} {n : Nat} (hn : S.2.1 c = n) (hin : z_in i n = true) (hd : decode cc pc = .ok (.iaload, 1)) (kk : z_W S X (pc + 1) lo (.int (σ c (z_ix i)) :: st) σ o) : z_W S X pc lo (.int i :: .ref (z_a X c) :: st) σ o := by
  obtain ⟨p, l, e, R, s, m, args, below, meth, c0, D, Y, a⟩ := X
  obtain ⟨hx, hb, hml, hown, hts, hK, hI, hok, hlk, hrt, hR, hG⟩ := C
  intro H locs ls hP hS hlo
  have hc : c < S.2.2.2 := hok.1 c (by omega)
  have hat := z_wl_at (S := S) (Y := Y) (a := a) (σ := σ) hc
  rw [z_E_int hk] at hat
  exact va_iald hx hb hK hP c 0 hat rfl (by rw [hn]; exact z_in_vp hin) hd (kk H locs ls hP hS hlo)
theorem z_bald (C : z_Cx S X own cc nL d ret) (hk : S.1 c = 101) {i : Int32} {n : Nat} (hn : S.2.1 c = n) (hin : z_in i n = true) (hd : decode cc pc = .ok (.baload, 1)) (kk : z_W S X (pc + 1) lo (.int (σ c (z_ix i)) :: st) σ o) : z_W S X pc lo (.int i :: .ref (z_a X c) :: st) σ o := by
  obtain ⟨p, l, e, R, s, m, args, below, meth, c0, D, Y, a⟩ := X
  obtain ⟨hx, hb, hml, hown, hts, hK, hI, hok, hlk, hrt, hR, hG⟩ := C
  intro H locs ls hP hS hlo
  have hc : c < S.2.2.2 := hok.1 c (by omega)
  have hat := z_wl_at (S := S) (Y := Y) (a := a) (σ := σ) hc
  rw [z_E_byte hk] at hat
  exact va_bald hx hb hK hP c 1 hat rfl (by rw [hn]; exact z_in_vp hin) hd (kk H locs ls hP hS hlo)
theorem z_aald (C : z_Cx S X own cc nL d ret) (hk : S.1 c = 102) {i : Int32} {n q : Nat} (hn : S.2.1 c = n) (hin : z_in i n = true) (hq : S.2.2.1 c (z_ix i) = some q) (hd : decode cc pc = .ok (.aaload, 1)) (kk : z_W S X (pc + 1) lo (.ref (z_a X q) :: st) σ o) : z_W S X pc lo (.int i :: .ref (z_a X c) :: st) σ o := by
  obtain ⟨p, l, e, R, s, m, args, below, meth, c0, D, Y, a⟩ := X
  obtain ⟨hx, hb, hml, hown, hts, hK, hI, hok, hlk, hrt, hR, hG⟩ := C
  intro H locs ls hP hS hlo
  have hc : c < S.2.2.2 := hok.1 c (by omega)
  have hat := z_wl_at (S := S) (Y := Y) (a := a) (σ := σ) hc
  rw [z_E_ref hk] at hat
  refine va_aldq hx hb hK hP c 2 hat rfl (by rw [hn]; exact z_in_vp hin) hd ?_
  have hq2 : S.2.2.1 c i.toNatClampNeg = some q := hq
  rw [hq2]
  exact kk H locs ls hP hS hlo
theorem z_iast (C : z_Cx S X own cc nL d ret) (hk : S.1 c = 100) {i v : Int32} {n : Nat} (hn : S.2.1 c = n) (hin : z_in i n = true) (hσ : σ' = z_set σ c (z_ix i) v) (hd : decode cc pc = .ok (.iastore, 1)) (kk : z_W S X (pc + 1) lo st σ' o) : z_W S X pc lo (.int v :: .int i :: .ref (z_a X c) :: st) σ o := by
  obtain ⟨p, l, e, R, s, m, args, below, meth, c0, D, Y, a⟩ := X
  obtain ⟨hx, hb, hml, hown, hts, hK, hI, hok, hlk, hrt, hR, hG⟩ := C
  intro H locs ls hP hS hlo
  have hc : c < S.2.2.2 := hok.1 c (by omega)
  have hat := z_wl_at (S := S) (Y := Y) (a := a) (σ := σ) hc
  rw [z_E_int hk] at hat
  refine va_iast hx hb hK hP (z_D hI) hS c 0 hat rfl (by rw [hn]; exact z_in_vp hin) hd (fun H1 locs1 hP1 _ hS1 => ?_)
  rw [z_wl_set (σ' := σ') hc (by rw [hσ, z_E_int hk, z_set_same]; rfl) (fun c' h => by rw [hσ]; exact z_set_other h)] at hP1
  exact kk H1 locs1 ls hP1 hS1 hlo
theorem z_bast (C : z_Cx S X own cc nL d ret) (hk : S.1 c = 101) {i v : Int32} {n : Nat} (hn : S.2.1 c = n) (hin : z_in i n = true) (hσ : σ' = z_set σ c (z_ix i) v.toInt8.toInt32) (hd : decode cc pc = .ok (.bastore, 1)) (kk : z_W S X (pc + 1) lo st σ' o) : z_W S X pc lo (.int v :: .int i :: .ref (z_a X c) :: st) σ o := by
  obtain ⟨p, l, e, R, s, m, args, below, meth, c0, D, Y, a⟩ := X
  obtain ⟨hx, hb, hml, hown, hts, hK, hI, hok, hlk, hrt, hR, hG⟩ := C
  intro H locs ls hP hS hlo
  have hc : c < S.2.2.2 := hok.1 c (by omega)
  have hat := z_wl_at (S := S) (Y := Y) (a := a) (σ := σ) hc
  rw [z_E_byte hk] at hat
  refine va_bast hx hb hK hP (z_D hI) hS c 1 hat rfl (by rw [hn]; exact z_in_vp hin) hd (fun H1 locs1 hP1 _ hS1 => ?_)
  rw [z_wl_set (σ' := σ') hc (by rw [hσ, z_E_byte hk, z_set_same, vp_nar_byte]; rfl) (fun c' h => by rw [hσ]; exact z_set_other h)] at hP1
  exact kk H1 locs1 ls hP1 hS1 hlo
theorem z_alen (C : z_Cx S X own cc nL d ret) (hk : S.1 c = 100) {v : Int32} {n : Nat} (hn : S.2.1 c = n) (hv : Int32.ofNat n = v) (hd : decode cc pc = .ok (.arraylength, 1)) (kk : z_W S X (pc + 1) lo (.int v :: st) σ o) : z_W S X pc lo (.ref (z_a X c) :: st) σ o := by
  obtain ⟨p, l, e, R, s, m, args, below, meth, c0, D, Y, a⟩ := X
  obtain ⟨hx, hb, hml, hown, hts, hK, hI, hok, hlk, hrt, hR, hG⟩ := C
  intro H locs ls hP hS hlo
  have hc : c < S.2.2.2 := hok.1 c (by omega)
  have hat := z_wl_at (S := S) (Y := Y) (a := a) (σ := σ) hc
  rw [z_E_int hk] at hat
  exact va_alen hx hb hK hP c 0 hat rfl (by show Int32.ofNat (S.2.1 c) = v; rw [hn]; exact hv) hd (kk H locs ls hP hS hlo)
theorem z_copyi (C : z_Cx S X own cc nL (d + 1) ret) {c0 c1 : Nat} (hk0 : S.1 c0 = 100) (hk1 : S.1 c1 = 100) {n0 n1 : Nat} (hn0 : S.2.1 c0 = n0) (hn1 : S.2.1 c1 = n1) {sp dp n : Int32} (hok2 : z_cok n0 sp n1 dp n = true) (hσ : σ' = z_cpy σ c0 sp c1 dp n) (hlen : lo.length = nL) (hst : (st.map fun v => v.category).sum ≤ 8) (hm : Cond.methodLink own index arraycopyName ∈ z_T) (hd : decode cc pc = .ok (.invokestatic index, 3)) (kk : z_W S X (pc + 3) lo st σ' o) : z_W S X pc lo (.int n :: .int dp :: .ref (z_a X c1) :: .int sp :: .ref (z_a X c0) :: st) σ o := by
  obtain ⟨p, l, e, R, s, m, args, below, meth, c9, D, Y, a⟩ := X
  obtain ⟨hx, hb, hml, hown, hts, hK, hI, hok, hlk, hrt, hR, hG⟩ := C
  intro H locs ls hP hS hlo
  have hc0 : c0 < S.2.2.2 := hok.1 c0 (by omega)
  have hc1 : c1 < S.2.2.2 := hok.1 c1 (by omega)
  have hat0 := z_wl_at (S := S) (Y := Y) (a := a) (σ := σ) hc0
  have hat1 := z_wl_at (S := S) (Y := Y) (a := a) (σ := σ) hc1
  rw [z_E_int hk0] at hat0
  rw [z_E_int hk1] at hat1
  simp only [z_cok, Bool.and_eq_true, Bool.not_eq_true', decide_eq_false_iff_not, decide_eq_true_eq] at hok2
  obtain ⟨g1, g2, g3, g4, g5⟩ := hok2
  have hnw : nativeFrameWords "java/lang/System" "arraycopy" 5 + 11 ≤ 50 := by decide +kernel
  have hw : ∀ w ∈ ([Cond.native arraycopyName, Cond.static arraycopyName, Cond.initialized "java/lang/System"] : List Cond), w ∈ z_T := by decide +kernel
  refine va_copyi hx hb (by rw [hml, hlo.1, hlen]) hown (hts _ hm) (hts _ (hw _ (by simp))) (hts _ (hw _ (by simp))) (hts _ (hw _ (by simp))) hK hP (z_D hI) hS c0 c1 0 0 hat0 hat1 rfl rfl rfl g1 g2 g3 (by rw [hn0]; exact g4) (by rw [hn1]; exact g5) (fun _ _ => rfl) (by omega) (by omega) hd (fun H1 locs1 hP1 _ hS1 => ?_)
  rw [z_wl_set (σ' := σ') hc1 (by rw [hσ, z_E_int hk1]; unfold z_cpy; rw [z_row_same]) (fun c' h => by rw [hσ]; exact z_row_other h)] at hP1
  exact kk H1 locs1 ls hP1 hS1 hlo
theorem z_mmax (C : z_Cx S X own cc nL (d + 1) ret) {x y : Int32} (hlen : lo.length = nL) (hst : (st.map fun v => v.category).sum ≤ 8) (hm : Cond.methodLink own index Lib.Math.max.name ∈ z_T) (hd : decode cc pc = .ok (.invokestatic index, 3)) (kk : z_W S X (pc + 3) lo (.int (z_max x y) :: st) σ o) : z_W S X pc lo (.int y :: .int x :: st) σ o := by
  obtain ⟨p, l, e, R, s, m, args, below, meth, c9, D, Y, a⟩ := X
  obtain ⟨hx, hb, hml, hown, hts, hK, hI, hok, hlk, hrt, hR, hG⟩ := C
  intro H locs ls hP hS hlo
  have hw : ∀ w ∈ ([Cond.static Lib.Math.max.name, Cond.initialized "java/lang/Math", Cond.code Lib.Math.max.name Lib.Math.max.code 2 (some .int)] : List Cond), w ∈ z_T := by decide +kernel
  exact va_mmax hx hb (by rw [hml, hlo.1, hlen]) hown (hts _ hm) (hts _ (hw _ (by simp))) (hts _ (hw _ (by simp))) (hts _ (hw _ (by simp))) (by omega) (by omega) (Nat.zero_le _) (Nat.zero_le _) hd (kk H locs ls hP hS hlo)
theorem z_mmin (C : z_Cx S X own cc nL (d + 1) ret) {x y : Int32} (hlen : lo.length = nL) (hst : (st.map fun v => v.category).sum ≤ 8) (hm : Cond.methodLink own index Lib.Math.min.name ∈ z_T) (hd : decode cc pc = .ok (.invokestatic index, 3)) (kk : z_W S X (pc + 3) lo (.int (z_min x y) :: st) σ o) : z_W S X pc lo (.int y :: .int x :: st) σ o := by
  obtain ⟨p, l, e, R, s, m, args, below, meth, c9, D, Y, a⟩ := X
  obtain ⟨hx, hb, hml, hown, hts, hK, hI, hok, hlk, hrt, hR, hG⟩ := C
  intro H locs ls hP hS hlo
  have hw : ∀ w ∈ ([Cond.static Lib.Math.min.name, Cond.initialized "java/lang/Math", Cond.code Lib.Math.min.name Lib.Math.min.code 2 (some .int)] : List Cond), w ∈ z_T := by decide +kernel
  exact va_mmin hx hb (by rw [hml, hlo.1, hlen]) hown (hts _ hm) (hts _ (hw _ (by simp))) (hts _ (hw _ (by simp))) (hts _ (hw _ (by simp))) (by omega) (by omega) (Nat.zero_le _) (Nat.zero_le _) hd (kk H locs ls hP hS hlo)
/-! ends -/
theorem z_iret (C : z_Cx S X own cc nL d (some .int)) {v : Int32} {u : Int32 × z_M} (h : some (v, σ) = some u) (hd : decode cc pc = .ok (.ireturn, 1)) : z_W S X pc lo [.int v] σ (z_oi u) := by
  obtain ⟨p, l, e, R, s, m, args, below, meth, c9, D, Y, a⟩ := X
  obtain ⟨hx, hb, hml, hown, hts, hK, hI, hok, hlk, hrt, hR, hG⟩ := C
  intro H locs ls hP hS hlo
  cases h
  exact W.iret (v := v) hx hb hrt (fun t ht hW => ⟨rfl, by rw [ht]; exact hP, hS.F ht⟩) hS.2.2 hd
theorem z_zret (C : z_Cx S X own cc nL d (some .boolean)) {v : Int32} {u : Int32 × z_M} (h01 : z_01 v = true) (h : some (v, σ) = some u) (hd : decode cc pc = .ok (.ireturn, 1)) : z_W S X pc lo [.int v] σ (z_oi u) := by
  obtain ⟨p, l, e, R, s, m, args, below, meth, c9, D, Y, a⟩ := X
  obtain ⟨hx, hb, hml, hown, hts, hK, hI, hok, hlk, hrt, hR, hG⟩ := C
  intro H locs ls hP hS hlo
  cases h
  have h2 : v = 0 ∨ v = 1 := by simpa [z_01] using h01
  exact W.zret (v := v) hx hb hrt (by rcases h2 with rfl | rfl <;> decide +kernel) (fun t ht hW => ⟨rfl, by rw [ht]; exact hP, hS.F ht⟩) hS.2.2 hd
theorem z_vret (C : z_Cx S X own cc nL d none) {u : Unit × z_M} (h : some ((), σ) = some u) (hd : decode cc pc = .ok (.return_, 1)) : z_W S X pc lo [] σ (z_ov u) := by
  obtain ⟨p, l, e, R, s, m, args, below, meth, c9, D, Y, a⟩ := X
  obtain ⟨hx, hb, hml, hown, hts, hK, hI, hok, hlk, hrt, hR, hG⟩ := C
  intro H locs ls hP hS hlo
  cases h
  exact W.vret hx hb hrt (fun t ht hW => ⟨rfl, by rw [ht]; exact hP, hS.F ht⟩) hS.2.2 hd
theorem z_aret {Cr : String} (C : z_Cx S X own cc nL d (some (.object Cr))) {q : Nat} {u : Nat × z_M} (h : some (q, σ) = some u) (hd : decode cc pc = .ok (.areturn, 1)) : z_W S X pc lo [.ref (z_a X q)] σ (z_or X u) := by
  obtain ⟨p, l, e, R, s, m, args, below, meth, c9, D, Y, a⟩ := X
  obtain ⟨hx, hb, hml, hown, hts, hK, hI, hok, hlk, hrt, hR, hG⟩ := C
  intro H locs ls hP hS hlo
  cases h
  exact W.aret (v := .ref (a q)) hx hb hrt (Or.inl ⟨_, rfl⟩) (Or.inr ⟨_, rfl⟩) (fun t ht hW => ⟨rfl, by rw [ht]; exact hP, hS.F ht⟩) hS.2.2 hd
end ZH
