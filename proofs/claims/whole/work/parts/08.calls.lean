/-- what the tables say of a callee -/
def z_Kv (y : MethodName) (bytes : ByteArray) (maxL : Nat) (ret : Option FieldType) (n : Nat) : Prop := Cond.instanceMethod y ∈ z_T ∧ Cond.selects y.cls y y ∈ z_T ∧ Cond.initialized y.cls ∈ z_T ∧ Cond.code y bytes maxL ret ∈ z_T ∧ maxL ≤ 40 ∧ (y.cls ≠ "java/lang/invoke/MethodHandle" ∧ y.cls ≠ "java/lang/invoke/VarHandle" ∧ (parseMethodDescriptor y.desc).map (fun d => d.parameters.length) = some n)
def z_Ks (y : MethodName) (bytes : ByteArray) (maxL : Nat) (ret : Option FieldType) (n : Nat) : Prop := Cond.static y ∈ z_T ∧ Cond.initialized y.cls ∈ z_T ∧ Cond.code y bytes maxL ret ∈ z_T ∧ maxL ≤ 40 ∧ (y.cls ≠ "java/lang/invoke/MethodHandle" ∧ y.cls ≠ "java/lang/invoke/VarHandle" ∧ (parseMethodDescriptor y.desc).map (fun d => d.parameters.length) = some n)
abbrev z_w (y : MethodName) (bytes : ByteArray) (maxL : Nat) (ret : Option FieldType) : List Cond := Cond.code y bytes maxL ret :: z_T
theorem z_w_good {y : MethodName} {bytes : ByteArray} {maxL : Nat} {ret : Option FieldType} (h : Cond.code y bytes maxL ret ∈ z_T) : GoodIn z_T (z_w y bytes maxL ret) := fun w hw => by
  rcases List.mem_cons.mp hw with rfl | hw
  · exact z_T_good h
  · exact z_T_good hw
section ZC
variable {S : z_S} {X : z_Ct} {own : String} {cc : ByteArray} {nL d d1 : Nat} {ret ret1 : Option FieldType} {pc : Nat} {lo : List (Option Value)} {st : List Value} {σ σ' : z_M} {o o1 : Option Value × z_M} {c index n maxL : Nat} {y : MethodName} {bytes : ByteArray} {As : List Value}
theorem z_blind {D : va_G} {Y : z_Y} {a : Nat → Nat} {vs : List Value} : FrameBlind (va_Pc vs (fun U => va_P D z_cl (z_wl S Y a σ) U.heap ∧ va_K D z_cl (z_ty Y) U ∧ z_Gs S a U U.heap)) := by
  rintro A U g mk ⟨rfl, hP, hK, hG⟩
  exact ⟨rfl, hP, va_K.moved (u := U) (U := U.calling g mk vs.toArray) (Vm.Alike.refl U.vm) hK, hG.same rfl⟩
/-- behind a call -/
theorem z_after {p : Program} {l : Launch} {e : Env} {R : Room} {s : State} {m : MethodId} {args : Array Value} {below : List Frame} {meth : Method} {c9 : Code} {D : va_G} {Y : z_Y} {a : Nat → Nat} {H : Heap} {locs : List Loc} {Q : State → Prop} {ls : Array Slot} {st0 : List Value} {av : Array Value}
    (hr : va_Run p l e R s m args below meth c9 H locs 0 0 0 0 (F0 m pc ls st0) st (z_Q S D Y a o1 av) (z_A S a)) (hS : va_S (z_A S a) s.heap H locs)
    (kk : ∀ (H1 : Heap) (locs1 : List Loc), va_P D z_cl (z_wl S Y a o1.2) H1 → va_S (z_A S a) s.heap H1 locs1 → W p l e R s m args below meth c9 H1 locs1 0 0 Q (F0 m (pc + 3) ls (o1.1.toList ++ st))) : W p l e R s m args below meth c9 H locs 0 0 Q (F0 m pc ls st0) := by
  intro T hT X
  obtain ⟨v, st₀, t, T', L, h0, X', hL, e1, e2, ⟨hv, hP1, hz, hk⟩, stp⟩ := hr T hT X
  cases hv
  rw [h0] at hz hk
  obtain ⟨t2, a1, b1⟩ := kk T'.heap (locs ++ L) (by rw [e1]; exact hP1)
    ⟨Nat.le_trans hS.1 (by rw [e1]; exact hz), fun q h1 h2 => by rw [e1, hk q (Nat.lt_of_lt_of_le h1 hS.1) h2]; exact hS.2.1 q h1 h2, fun q hq => by
      rcases List.mem_append.mp hq with h | h
      · exact hS.2.2 q h
      · exact hL q h⟩ T' rfl X'
  exact ⟨t2, stp t2 a1, b1⟩
theorem z_callv (C : z_Cx S X own cc nL d ret) (hM : z_Mt y (z_w y bytes maxL ret1) d1 S (z_a X) σ (.ref (z_a X c) :: As) o1) (kv : z_Kv y bytes maxL ret1 n) (hn : As.length = n) (hlk : Cond.methodLink own index y ∈ z_T) {q : vw_C} (hq : z_cl[S.1 c]? = some q) (hqn : q.1 = y.cls) (hdd : d1 + 1 ≤ d) (hlen : lo.length = nL) (hst : (st.map fun v => v.category).sum ≤ 8) (hd : decode cc pc = .ok (.invokevirtual index, 3))
    (kk : z_W S X (pc + 3) lo (o1.1.toList ++ st) o1.2 o) : z_W S X pc lo (As.reverse ++ .ref (z_a X c) :: st) σ o := by
  obtain ⟨p, l, e, R, s, m, args, below, meth, c9, D, Y, a⟩ := X
  obtain ⟨hx, hb, hml, hown, hts, hK, hI, hok, hlks, hrt, hR, hG⟩ := C
  obtain ⟨k1, k2, k3, k4, k5, k6⟩ := kv
  have hlt : S.1 c < 100 := by
    have := (List.getElem?_eq_some_iff.mp hq).1
    have h13 : z_cl.length = 13 := rfl
    omega
  have hc : c < S.2.2.2 := hok.1 c (by omega)
  intro H locs ls hP hS hlo
  have hat := z_wl_at (S := S) (Y := Y) (a := a) (σ := σ) hc
  rw [z_E_obj rfl hlt] at hat
  have hrecv := va_recv hK hP hq hat
  rw [hqn] at hrecv
  have hG9 : GoodIn z_T (wsV own index y.cls y (z_w y bytes maxL ret1)) := fun w hw => by
    rcases List.mem_append.mp hw with h | h
    · simp only [List.mem_cons, List.not_mem_nil, or_false] at h
      rcases h with rfl | rfl | rfl | rfl
      · exact z_T_good hlk
      · exact z_T_good k1
      · exact z_T_good k2
      · exact z_T_good k3
    · exact z_w_good k4 w h
  refine z_after (o1 := o1) (va_runV (As := As) (rest := st) (n := n) ⟨hx, hb, hml, hown, hts⟩ (hM l D Y hI hok) (cwV n hts hG9 rfl rfl rfl ⟨rfl, k6⟩ ⟨by show d1 + 1 ≤ R.frames; omega, by show 8 + (maxL + 11) + 64 * d1 ≤ R.locals; omega⟩) ⟨z_blind, hrecv, fun U hU hW => ⟨rfl, by rw [hU]; exact hP, va_K.moved hW.alike hK, by rw [hU]; exact hG.moved hW hS⟩⟩ rfl hn (by rw [hlo.1, hlen]) rfl (lv_room hst) hd ⟨Nat.zero_le _, Nat.zero_le _⟩) hS (fun H1 locs1 hP1 hS1 => kk H1 locs1 ls hP1 hS1 hlo)
theorem z_calls (C : z_Cx S X own cc nL d ret) (hM : z_Mt y (z_w y bytes maxL ret1) d1 S (z_a X) σ As o1) (kv : z_Ks y bytes maxL ret1 n) (hn : As.length = n) (hlk : Cond.methodLink own index y ∈ z_T) (hdd : d1 + 1 ≤ d) (hlen : lo.length = nL) (hst : (st.map fun v => v.category).sum ≤ 8) (hd : decode cc pc = .ok (.invokestatic index, 3))
    (kk : z_W S X (pc + 3) lo (o1.1.toList ++ st) o1.2 o) : z_W S X pc lo (As.reverse ++ st) σ o := by
  obtain ⟨p, l, e, R, s, m, args, below, meth, c9, D, Y, a⟩ := X
  obtain ⟨hx, hb, hml, hown, hts, hK, hI, hok, hlks, hrt, hR, hG⟩ := C
  obtain ⟨k1, k3, k4, k5, k6⟩ := kv
  intro H locs ls hP hS hlo
  refine z_after (o1 := o1) (va_runS (As := As) (rest := st) (n := n) ⟨hx, hb, hml, hown, hts⟩ (hM l D Y hI hok) ⟨callB_of n hts (z_w_good k4) rfl rfl rfl (hts _ k3) (hts _ hlk) k6 ⟨by show d1 + 1 ≤ R.frames; omega, by show 8 + (maxL + 11) + 64 * d1 ≤ R.locals; omega⟩, hts _ k1⟩ ⟨z_blind, fun U hU hW => ⟨rfl, by rw [hU]; exact hP, va_K.moved hW.alike hK, by rw [hU]; exact hG.moved hW hS⟩⟩ rfl hn (by rw [hlo.1, hlen]) rfl (lv_room hst) hd ⟨Nat.zero_le _, Nat.zero_le _⟩) hS (fun H1 locs1 hP1 hS1 => kk H1 locs1 ls hP1 hS1 hlo)
theorem z_calln (C : z_Cx S X "PlantedDoubts$Law" cc nL d ret) (hM : z_Mt ⟨"PlantedDoubts", "isThing", "(I)Z"⟩ (z_w ⟨"PlantedDoubts", "isThing", "(I)Z"⟩ bytes maxL ret1) d1 S (z_a X) σ As o1) (kv : z_Ks ⟨"PlantedDoubts", "isThing", "(I)Z"⟩ bytes maxL ret1 n) (hn : As.length = n) (hdd : d1 + 1 ≤ d) (hlen : lo.length = nL) (hst : (st.map fun v => v.category).sum ≤ 8) (hd : decode cc pc = .ok (.invokestatic 32, 3))
    (kk : z_W S X (pc + 3) lo (o1.1.toList ++ st) o1.2 o) : z_W S X pc lo (As.reverse ++ st) σ o := by
  obtain ⟨p, l, e, R, s, m, args, below, meth, c9, D, Y, a⟩ := X
  obtain ⟨hx, hb, hml, hown, hts, hK, hI, hok, hlks, hrt, hR, hG⟩ := C
  obtain ⟨k1, k3, k4, k5, k6⟩ := kv
  intro H locs ls hP hS hlo
  refine z_after (o1 := o1) (va_runSN (As := As) (rest := st) (n := n) ⟨hx, hb, hml, hown, hts⟩ (hM l D Y hI hok) ⟨va_cnB n hts (z_w_good k4) rfl rfl rfl hG.nest (hts _ k3) k6 ⟨by show d1 + 1 ≤ R.frames; omega, by show 8 + (maxL + 11) + 64 * d1 ≤ R.locals; omega⟩, hts _ k1, trivial⟩ ⟨z_blind, fun U hU hW => ⟨rfl, by rw [hU]; exact hP, va_K.moved hW.alike hK, by rw [hU]; exact hG.moved hW hS⟩⟩ rfl hn (by rw [hlo.1, hlen]) rfl (lv_room hst) hd ⟨Nat.zero_le _, Nat.zero_le _⟩) hS (fun H1 locs1 hP1 hS1 => kk H1 locs1 ls hP1 hS1 hlo)
/-- a method's head -/
theorem z_head {a : Nat → Nat} {vs : List Value} {maxL : Nat} (hy : plainName y.cls = true) (h1 : (lg_sl vs).length ≤ maxL) (hlo : ∀ (i : Nat) (v : Value), lo[i]? = some (some v) → (i, v) ∈ lv_args 0 vs ∧ v.category = 1) (hl : lo.length = maxL)
    (body : ∀ X : z_Ct, z_a X = a → z_Cx S X y.cls bytes maxL d1 ret → z_W S X 0 lo [] σ o) : z_Mt y (z_w y bytes maxL ret) d1 S a σ vs o := by
  intro l D Y hI hok
  refine Met.ofW (cc := bytes) (maxL := maxL) (ret := ret) hy rfl ?_
  intro p e s m args below meth c s₁ B hml hv
  obtain ⟨rfl, hP, hK, hG⟩ := hv
  have hts := atoms_spec (ws := z_w y bytes maxL ret) B.pre
  have hown : s.vm.findClass y.cls = some m.cls := findClass_of_methodNamed B.named
  have hb := body (p, l, e, (headSpec (z_w y bytes maxL ret) (z_rm d1)).room, s, m, vs.toArray, below, meth, c, D, Y, a) rfl ⟨B.exec, B.bytes, hml, hown, fun w hw => hts w (List.mem_cons_of_mem _ hw), hK, hI, hok, B.notSynchronized, B.returns, ⟨Nat.le_refl _, Nat.le_refl _⟩, hG⟩
  have he := lv_entry vs (n := maxL) h1
  rw [lg_entry_eq]
  exact hb s.heap [] _ hP va_S.rf ⟨by rw [he.1, hl], he.2.1, fun i v h => ⟨he.2.2 (i, v) (hlo i v h).1, (hlo i v h).2⟩⟩
end ZC
