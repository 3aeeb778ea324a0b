/-! THE CLAIM OUT OF ONE WALK OF THE LAW'S BODY. Your part is whole_start (and what it stands on); all else here is the same for every law, but numbers. -/
def R_law : String := "PlantedDoubtsLaw"
def lw_P (b : Addr) (xs : List Int32) (args : Array Value) (s : State) : Prop := args = #[.ref b] ∧ s.IntsAt b xs ∧ xs.length ≤ 3072 ∧ (Jvm.Cond.and given_1 narrow_1).before args s = true
def lw_Q (_ : Array Value) (s : State) (o : Outcome) (t : State) : Prop := o = .returned (some (.int 1)) ∧ Framed s o t [] 600000 7302250
def lw_Z (below : List Frame) (a : Array Value) (s : State) : State → Prop := fun t => ∃ o, t.status = .running ∧ Ended t below o ∧ lw_Q a s o t
/-- the law's own end, with 1 on the stack, nothing written that was there before, its room as the claim has it -/
theorem lw_ret {p : Program} {l : Launch} {e : Env} {s : State} {m : MethodId} {below : List Frame} {meth : Method} {c : Code} {b : Nat} (hx : p.tables.exec = Jvm.exec) (hb : c.code = code) (hr : meth.sig.returnType = ret) (hlocks : meth.locks = false) {pc : Nat} {H : Heap} {ls : Array Slot} (hdg : decode code pc = .ok (.ireturn, 1)) : W p l e room_1 s m #[Value.ref b] below meth c H [] 600000 7302250 (lw_Z below #[Value.ref b] s) (F0 m pc ls [.int 1]) := by
  intro T hT X
  obtain ⟨fs, hret, hrun, hended, hW, hframe⟩ := X.leave (v := some (.int 1)) (hlocks := hlocks) (fun h => by rw [hr] at h; cases h)
  have hmeth' : T.vm.method? m = some meth := X.method'
  refine ⟨T.setFrames fs, ?_, .returned (some (.int 1)), hrun, hended, rfl, ⟨_, rfl⟩, hW, hframe⟩
  jvm_step X.here [X.here.top, hx, hb, hdg, hmeth', hr, ret, narrow_b1]
  (try refine ⟨rfl, ?_⟩); (try refine ⟨rfl, ?_⟩)
  first | (intro acts; rw [hret _ acts rfl rfl rfl]) | rw [hret _ _ rfl rfl rfl]
  exact Steps.refl _
/-- what holds at the law's entry: the machine, the code, the tables' words (any of lw_tbl by 'hts w (by decide +kernel)'), the script of L ints xs at the cell b, what the Statement gives of the start (any of its parts by flat_of_before) -/
def lw_At (p : Program) (s : State) (m : MethodId) (meth : Method) (c : Code) (b L : Nat) (xs : Nat → Int32) : Prop :=
  p.tables.exec = Jvm.exec ∧ c.code = code ∧ meth.sig.returnType = ret ∧ c.maxLocals = 4 ∧ s.vm.findClass R_law = some m.cls ∧ (∀ w ∈ lw_tbl, w.before #[Value.ref b] s = true) ∧ va_X b L xs s s.heap ∧ b < s.heap.size ∧ meth.locks = false ∧ (Jvm.Cond.and given_1 narrow_1).before #[Value.ref b] s = true
theorem z_Gs.far {S : z_S} {a : Nat → Nat} {s U : State} {H0 H : Heap} (h : z_Gs S a s H0) (hW : s.WarmedH U.vm) (hq : ∀ q : Nat, q < H0.size → H[q]? = H0[q]?) : z_Gs S a U H :=
  ⟨va_Nw.warmM hW h.1, (h.2.1.moved hW.alike).kept (fun q h1 _ => hq q h1), h.2.2.1.warm hW, h.2.2.2.1.warm hW, (h.2.2.2.2.1.moved hW.alike).kept (fun q h1 _ => hq q h1), (va_Zq.moved hW.alike h.2.2.2.2.2).kept (fun q h1 _ => hq q h1)⟩
def l_Cx (X : z_Ct) (a2 : Nat → Nat) (b L : Nat) (xs : Nat → Int32) : Prop := match X with
  | (p, l, e, R, s, m, args, below, meth, c, D, Y, a) => p.tables.exec = Jvm.exec ∧ c.code = code ∧ c.maxLocals = 4 ∧ s.vm.findClass R_law = some m.cls ∧ (∀ w ∈ z_T, w.before args s = true) ∧ va_K D z_cl (z_ty Y) s ∧ meth.locks = false ∧ meth.sig.returnType = ret ∧ R = room_1 ∧ args = #[Value.ref b] ∧ z_In S1 a ∧ z_In S2 a2 ∧ (∀ q, z_A S1 a q → s.heap.size ≤ q ∧ ¬ z_A S2 a2 q) ∧ (∀ q, z_A S2 a2 q → s.heap.size ≤ q ∧ ¬ z_A S1 a q) ∧ z_Gs S1 a s s.heap ∧ z_Gs S2 a2 s s.heap ∧ va_X b L xs s s.heap ∧ b < s.heap.size ∧ L ≤ 3072
def l_W (X : z_Ct) (a2 : Nat → Nat) (pc : Nat) (lo : List (Option Value)) (st : List Value) (σ τ : z_M) : Prop := match X with
  | (p, l, e, R, s, m, args, below, meth, c, D, Y, a) => ∀ (H : Heap) (locs : List Loc) (ls : Array Slot), va_P D z_cl (z_wl S1 Y a σ) H → va_P D z_cl (z_wl S2 Y a2 τ) H → va_S (fun q => s.heap.size ≤ q) s.heap H locs → z_Lh ls lo → W p l e R s m args below meth c H locs 149 13979 (lw_Z below args s) (F0 m pc ls st)
section LR
variable {X : z_Ct} {a2 : Nat → Nat} {b L : Nat} {xs : Nat → Int32} {pc : Nat} {lo : List (Option Value)} {st : List Value} {σ τ : z_M}
theorem l_iconst (C : l_Cx X a2 b L xs) {i : Int} {v : Int32} (hd : decode code pc = .ok (.iconst i, 1)) (hv : Int32.ofInt i = v) (kk : l_W X a2 (pc + 1) lo (.int v :: st) σ τ) : l_W X a2 pc lo (st) σ τ := by
  obtain ⟨p, l, e, R, s, m, args, below, meth, c, D, Y, a⟩ := X
  obtain ⟨hx, hb, hml, hown, hts, hK, hlk, hr, hR, harg, hI1, hI2, hA1, hA2, hG1, hG2, hX, hbl, hL⟩ := C
  intro H locs ls hP1 hP2 hS hl
  exact lv_iconst hx hb hd hv (kk H locs ls hP1 hP2 hS hl)
theorem l_bipush (C : l_Cx X a2 b L xs) {i : Int} {v : Int32} (hd : decode code pc = .ok (.bipush i, 2)) (hv : (Int8.ofInt i).toInt32 = v) (kk : l_W X a2 (pc + 2) lo (.int v :: st) σ τ) : l_W X a2 pc lo (st) σ τ := by
  obtain ⟨p, l, e, R, s, m, args, below, meth, c, D, Y, a⟩ := X
  obtain ⟨hx, hb, hml, hown, hts, hK, hlk, hr, hR, harg, hI1, hI2, hA1, hA2, hG1, hG2, hX, hbl, hL⟩ := C
  intro H locs ls hP1 hP2 hS hl
  exact lv_bipush hx hb hd hv (kk H locs ls hP1 hP2 hS hl)
theorem l_iload_n (C : l_Cx X a2 b L xs) {i : Fin 4} {x : Int32} (hd : decode code pc = .ok (.iload_n i, 1)) {j : Nat} (hj : (i : Nat) = j) (hl2 : lo[j]? = some (some (.int x))) (kk : l_W X a2 (pc + 1) lo (.int x :: st) σ τ) : l_W X a2 pc lo (st) σ τ := by
  obtain ⟨p, l, e, R, s, m, args, below, meth, c, D, Y, a⟩ := X
  obtain ⟨hx, hb, hml, hown, hts, hK, hlk, hr, hR, harg, hI1, hI2, hA1, hA2, hG1, hG2, hX, hbl, hL⟩ := C
  intro H locs ls hP1 hP2 hS hl
  exact lv_iload_n hx hb hd hj (hl.at hl2) (kk H locs ls hP1 hP2 hS hl)
theorem l_aload_n (C : l_Cx X a2 b L xs) {i : Fin 4} {x : Nat} (hd : decode code pc = .ok (.aload_n i, 1)) {j : Nat} (hj : (i : Nat) = j) (hl2 : lo[j]? = some (some (.ref x))) (kk : l_W X a2 (pc + 1) lo (.ref x :: st) σ τ) : l_W X a2 pc lo (st) σ τ := by
  obtain ⟨p, l, e, R, s, m, args, below, meth, c, D, Y, a⟩ := X
  obtain ⟨hx, hb, hml, hown, hts, hK, hlk, hr, hR, harg, hI1, hI2, hA1, hA2, hG1, hG2, hX, hbl, hL⟩ := C
  intro H locs ls hP1 hP2 hS hl
  exact lv_aload_n hx hb hd hj (hl.at hl2) (kk H locs ls hP1 hP2 hS hl)
theorem l_iadd (C : l_Cx X a2 b L xs) {x y : Int32} (hd : decode code pc = .ok (.iadd, 1)) (kk : l_W X a2 (pc + 1) lo (.int (x + y) :: st) σ τ) : l_W X a2 pc lo (.int y :: .int x :: st) σ τ := by
  obtain ⟨p, l, e, R, s, m, args, below, meth, c, D, Y, a⟩ := X
  obtain ⟨hx, hb, hml, hown, hts, hK, hlk, hr, hR, harg, hI1, hI2, hA1, hA2, hG1, hG2, hX, hbl, hL⟩ := C
  intro H locs ls hP1 hP2 hS hl
  exact lv_iadd hx hb hd (kk H locs ls hP1 hP2 hS hl)
theorem l_isub (C : l_Cx X a2 b L xs) {x y : Int32} (hd : decode code pc = .ok (.isub, 1)) (kk : l_W X a2 (pc + 1) lo (.int (x - y) :: st) σ τ) : l_W X a2 pc lo (.int y :: .int x :: st) σ τ := by
  obtain ⟨p, l, e, R, s, m, args, below, meth, c, D, Y, a⟩ := X
  obtain ⟨hx, hb, hml, hown, hts, hK, hlk, hr, hR, harg, hI1, hI2, hA1, hA2, hG1, hG2, hX, hbl, hL⟩ := C
  intro H locs ls hP1 hP2 hS hl
  exact lv_isub hx hb hd (kk H locs ls hP1 hP2 hS hl)
theorem l_iand (C : l_Cx X a2 b L xs) {x y : Int32} (hd : decode code pc = .ok (.iand, 1)) (kk : l_W X a2 (pc + 1) lo (.int (x &&& y) :: st) σ τ) : l_W X a2 pc lo (.int y :: .int x :: st) σ τ := by
  obtain ⟨p, l, e, R, s, m, args, below, meth, c, D, Y, a⟩ := X
  obtain ⟨hx, hb, hml, hown, hts, hK, hlk, hr, hR, harg, hI1, hI2, hA1, hA2, hG1, hG2, hX, hbl, hL⟩ := C
  intro H locs ls hP1 hP2 hS hl
  exact lv_iand hx hb hd (kk H locs ls hP1 hP2 hS hl)
theorem l_iinc (C : l_Cx X a2 b L xs) {i : Nat} {z : Int} {x v : Int32} {lo' : List (Option Value)} (hd : decode code pc = .ok (.iinc i z, 3)) (hx0 : lo[i]? = some (some (.int x))) (hv : x + Int32.ofInt z = v) (hl2 : lo.set i (some (.int v)) = lo') (kk : l_W X a2 (pc + 3) lo' st σ τ) : l_W X a2 pc lo st σ τ := by
  obtain ⟨p, l, e, R, s, m, args, below, meth, c, D, Y, a⟩ := X
  obtain ⟨hx, hb, hml, hown, hts, hK, hlk, hr, hR, harg, hI1, hI2, hA1, hA2, hG1, hG2, hX, hbl, hL⟩ := C
  intro H locs ls hP1 hP2 hS hl
  have hi : i < lo.length := (List.getElem?_eq_some_iff.mp hx0).1
  obtain ⟨k9, hk9⟩ := List.getElem?_of_mem (z_pl_mem.mpr hx0)
  exact lv_iinc hx hb hd hl.has hk9 hv hi rfl (fun ls' h' => kk H locs ls' hP1 hP2 hS (hl2 ▸ hl.of rfl hi h'))
theorem l_goto (C : l_Cx X a2 b L xs) {off : Int} {tgt : Nat} (hd : decode code pc = .ok (.goto off, 3)) (ht : (pc : Int) + off = (tgt : Int)) (kk : l_W X a2 tgt lo st σ τ) : l_W X a2 pc lo st σ τ := by
  obtain ⟨p, l, e, R, s, m, args, below, meth, c, D, Y, a⟩ := X
  obtain ⟨hx, hb, hml, hown, hts, hK, hlk, hr, hR, harg, hI1, hI2, hA1, hA2, hG1, hG2, hX, hbl, hL⟩ := C
  intro H locs ls hP1 hP2 hS hl
  exact lv_goto hx hb hd ht (kk H locs ls hP1 hP2 hS hl)
theorem l_icmp_gt (C : l_Cx X a2 b L xs) {x y : Int32} {off : Int} {tgt : Nat} (hd : decode code pc = .ok (.if_icmp .gt off, 3)) (ht : (pc : Int) + off = (tgt : Int)) (kt : y < x → l_W X a2 tgt lo st σ τ) (kf : ¬ y < x → l_W X a2 (pc + 3) lo st σ τ) : l_W X a2 pc lo (.int y :: .int x :: st) σ τ := by
  obtain ⟨p, l, e, R, s, m, args, below, meth, c, D, Y, a⟩ := X
  obtain ⟨hx, hb, hml, hown, hts, hK, hlk, hr, hR, harg, hI1, hI2, hA1, hA2, hG1, hG2, hX, hbl, hL⟩ := C
  intro H locs ls hP1 hP2 hS hl
  exact lv_icmp_gt hx hb hd ht (fun g => kt g H locs ls hP1 hP2 hS hl) (fun g => kf g H locs ls hP1 hP2 hS hl)
theorem l_icmp_eq (C : l_Cx X a2 b L xs) {x : Int32} {off : Int} {tgt : Nat} (hd : decode code pc = .ok (.if_icmp .eq off, 3)) (ht : (pc : Int) + off = (tgt : Int)) (kt : l_W X a2 tgt lo st σ τ) : l_W X a2 pc lo (.int x :: .int x :: st) σ τ := by
  obtain ⟨p, l, e, R, s, m, args, below, meth, c, D, Y, a⟩ := X
  obtain ⟨hx, hb, hml, hown, hts, hK, hlk, hr, hR, harg, hI1, hI2, hA1, hA2, hG1, hG2, hX, hbl, hL⟩ := C
  intro H locs ls hP1 hP2 hS hl
  exact lv_icmp_eq hx hb hd ht (fun _ => kt H locs ls hP1 hP2 hS hl) (fun g => absurd rfl g)
theorem l_if_eq (C : l_Cx X a2 b L xs) {x : Int32} {off : Int} {tgt : Nat} (hd : decode code pc = .ok (.ifCond .eq off, 3)) (ht : (pc : Int) + off = (tgt : Int)) (kt : x = 0 → l_W X a2 tgt lo st σ τ) (kf : ¬ x = 0 → l_W X a2 (pc + 3) lo st σ τ) : l_W X a2 pc lo (.int x :: st) σ τ := by
  obtain ⟨p, l, e, R, s, m, args, below, meth, c, D, Y, a⟩ := X
  obtain ⟨hx, hb, hml, hown, hts, hK, hlk, hr, hR, harg, hI1, hI2, hA1, hA2, hG1, hG2, hX, hbl, hL⟩ := C
  intro H locs ls hP1 hP2 hS hl
  exact lv_if_eq hx hb hd ht (fun g => kt g H locs ls hP1 hP2 hS hl) (fun g => kf g H locs ls hP1 hP2 hS hl)
theorem l_sld (C : l_Cx X a2 b L xs) {i : Int32} (hi : vp_in i L) (hd : decode code pc = .ok (.iaload, 1)) (kk : l_W X a2 (pc + 1) lo (.int (xs i.toNatClampNeg) :: st) σ τ) : l_W X a2 pc lo (.int i :: .ref b :: st) σ τ := by
  obtain ⟨p, l, e, R, s, m, args, below, meth, c, D, Y, a⟩ := X
  obtain ⟨hx, hb, hml, hown, hts, hK, hlk, hr, hR, harg, hI1, hI2, hA1, hA2, hG1, hG2, hX, hbl, hL⟩ := C
  intro H locs ls hP1 hP2 hS hl
  exact va_sld hx hb hX hbl (Nat.not_le.mpr hbl) hS hi hd (kk H locs ls hP1 hP2 hS hl)
theorem l_slen (C : l_Cx X a2 b L xs) (hd : decode code pc = .ok (.arraylength, 1)) (kk : l_W X a2 (pc + 1) lo (.int (nI L) :: st) σ τ) : l_W X a2 pc lo (.ref b :: st) σ τ := by
  obtain ⟨p, l, e, R, s, m, args, below, meth, c, D, Y, a⟩ := X
  obtain ⟨hx, hb, hml, hown, hts, hK, hlk, hr, hR, harg, hI1, hI2, hA1, hA2, hG1, hG2, hX, hbl, hL⟩ := C
  intro H locs ls hP1 hP2 hS hl
  exact va_slen hx hb hX hbl (Nat.not_le.mpr hbl) hS hd (kk H locs ls hP1 hP2 hS hl)
theorem l_tab (C : l_Cx X a2 b L xs) {dflt lo0 hi0 : Int} {offs : Array Int} {len : Nat} {x : Int32} {off : Int} {tgt : Nat} (hd : decode code pc = .ok (.tableswitch dflt lo0 hi0 offs, len)) {v : Int} (hx0 : x.toInt = v) (h1 : ¬ v < lo0) (h2 : ¬ hi0 < v) (ho : offs[(v - lo0).toNat]? = some off) (ht : (pc : Int) + off = (tgt : Int)) (k : l_W X a2 tgt lo st σ τ) : l_W X a2 pc lo (.int x :: st) σ τ := by
  obtain ⟨p, l, e, R, s, m, args, below, meth, c, D, Y, a⟩ := X
  obtain ⟨hx, hb, hml, hown, hts, hK, hlk, hr, hR, harg, hI1, hI2, hA1, hA2, hG1, hG2, hX, hbl, hL⟩ := C
  intro H locs ls hP1 hP2 hS hl
  exact lv_tableIn hx hb hd (by rw [hx0]; exact h1) (by rw [hx0]; exact h2) (by rw [hx0]; exact ho) ht (k H locs ls hP1 hP2 hS hl)
theorem l_ret (C : l_Cx X a2 b L xs) (hd : decode code pc = .ok (.ireturn, 1)) : l_W X a2 pc lo [.int 1] σ τ := by
  obtain ⟨p, l, e, R, s, m, args, below, meth, c, D, Y, a⟩ := X
  obtain ⟨hx, hb, hml, hown, hts, hK, hlk, hr, hR, harg, hI1, hI2, hA1, hA2, hG1, hG2, hX, hbl, hL⟩ := C
  intro H locs ls hP1 hP2 hS hl
  subst harg
  subst hR
  refine va_forget hS.2.2 ?_
  refine W.widen (k := 600000) (n := 7302250) (by omega) (by omega) ?_
  exact lw_ret hx hb hr hlk hd
variable {S : z_S} {aa : Nat → Nat} {y : MethodName} {bytes : ByteArray} {maxL d1 index n9 cc : Nat} {ret1 : Option FieldType} {As : List Value} {r : Int32} {σ1 : z_M}
theorem l_c1 (C : l_Cx X a2 b L xs) (hM : z_Mt y (z_w y bytes maxL ret1) d1 S1 (z_a X) σ (.ref (z_a X 0) :: As) (z_oi (r, σ1))) (kv : z_Kv y bytes maxL ret1 n9) (hn : As.length = n9) (hli : Cond.methodLink R_law index y ∈ z_T) (hyc : RX11 = y.cls) (hdd : d1 ≤ 1000) (hlen : lo.length = 4) (hst : (st.map fun v => v.category).sum ≤ 8) (hd : decode code pc = .ok (.invokevirtual index, 3))
    (kk : l_W X a2 (pc + 3) lo (.int r :: st) σ1 τ) : l_W X a2 pc lo (As.reverse ++ .ref (z_a X 0) :: st) σ τ := by
  obtain ⟨p, l, e, R, s, m, args, below, meth, c, D, Y, a⟩ := X
  obtain ⟨hx, hb, hml, hown, hts, hK, hlk, hr, hR, harg, hI1, hI2, hA1, hA2, hG1, hG2, hX, hbl, hL⟩ := C
  intro H locs ls hP1 hP2 hS hl
  obtain ⟨k1, k2, k3, k4, k5, k6⟩ := kv
  have hat := z_wl_at (S := S1) (Y := Y) (a := a) (σ := σ) (c := 0) (by decide)
  rw [z_E_obj (ci := 11) rfl (by decide)] at hat
  have hrecv := va_recv hK hP1 (q := (RX11, TX11, 12)) rfl hat
  rw [hyc] at hrecv
  have hG9 : GoodIn z_T (wsV R_law index y.cls y (z_w y bytes maxL ret1)) := fun w hw => by
    rcases List.mem_append.mp hw with h | h
    · simp only [List.mem_cons, List.not_mem_nil, or_false] at h
      rcases h with rfl | rfl | rfl | rfl
      · exact z_T_good hli
      · exact z_T_good k1
      · exact z_T_good k2
      · exact z_T_good k3
    · exact z_w_good k4 w h
  subst hR
  have hrun := va_runV (p := p) (l := l) (e := e) (R := room_1) (below := below) (meth := meth) (locs := locs) (cells := 149) (slots := 13979) (g := F0 m pc ls (As.reverse ++ .ref (a 0) :: st)) (As := As) (rest := st) (n := n9) ⟨hx, hb, hml, hown, hts⟩ (hM l D Y hI1 S1_ok) (cwV n9 hts hG9 rfl rfl rfl ⟨rfl, k6⟩ ⟨by show d1 + 1 ≤ 2048; omega, by show 8 + (maxL + 11) + 64 * d1 ≤ 84000; omega⟩) ⟨z_blind, hrecv, fun U hU hW => ⟨rfl, by rw [hU]; exact hP1, va_K.moved hW.alike hK, by rw [hU]; exact hG1.far hW (fun q h => hS.2.1 q h (Nat.not_le.mpr h))⟩⟩ rfl hn (by rw [hl.1, hlen]) rfl (lv_room hst) hd ⟨by show 149 + 0 ≤ 600000; omega, by show 13979 + 0 ≤ 7302250; omega⟩
  intro T hT X
  obtain ⟨v, st₀, t, T', LL, h0, X', hLL, e1, e2, ⟨hv, hQ1, hz, hk⟩, stp⟩ := hrun T hT X
  cases hv
  rw [h0] at hz hk
  obtain ⟨t2, q1, q2⟩ := kk T'.heap (locs ++ LL) ls (by rw [e1]; exact hQ1) (hP2.kept (fun k x hx9 => by
      obtain ⟨hc9, rfl⟩ := z_wl_of hx9
      rw [e1]
      exact hk _ ((hP2 k _ hx9).lt) (hA2 _ ⟨k, hc9, rfl⟩).2))
    ⟨Nat.le_trans hS.1 (by rw [e1]; exact hz), fun q h1 h2 => by rw [e1, hk q (Nat.lt_of_lt_of_le h1 hS.1) (fun z => h2 (hA1 q z).1)]; exact hS.2.1 q h1 h2, fun q hq => by
      rcases List.mem_append.mp hq with h | h
      · exact hS.2.2 q h
      · exact (hA1 _ (hLL q h)).1⟩ hl T' rfl X'
  exact ⟨t2, stp t2 q1, q2⟩
theorem l_c2 (C : l_Cx X a2 b L xs) {τ1 : z_M} (hM : z_Mt y (z_w y bytes maxL ret1) d1 S2 a2 τ (.ref (a2 0) :: As) (z_oi (r, τ1))) (kv : z_Kv y bytes maxL ret1 n9) (hn : As.length = n9) (hli : Cond.methodLink R_law index y ∈ z_T) (hyc : RX12 = y.cls) (hdd : d1 ≤ 1000) (hlen : lo.length = 4) (hst : (st.map fun v => v.category).sum ≤ 8) (hd : decode code pc = .ok (.invokevirtual index, 3))
    (kk : l_W X a2 (pc + 3) lo (.int r :: st) σ τ1) : l_W X a2 pc lo (As.reverse ++ .ref (a2 0) :: st) σ τ := by
  obtain ⟨p, l, e, R, s, m, args, below, meth, c, D, Y, a⟩ := X
  obtain ⟨hx, hb, hml, hown, hts, hK, hlk, hr, hR, harg, hI1, hI2, hA1, hA2, hG1, hG2, hX, hbl, hL⟩ := C
  intro H locs ls hP1 hP2 hS hl
  obtain ⟨k1, k2, k3, k4, k5, k6⟩ := kv
  have hat := z_wl_at (S := S2) (Y := Y) (a := a2) (σ := τ) (c := 0) (by decide)
  rw [z_E_obj (ci := 12) rfl (by decide)] at hat
  have hrecv := va_recv hK hP2 (q := (RX12, TX12, 61)) rfl hat
  rw [hyc] at hrecv
  have hG9 : GoodIn z_T (wsV R_law index y.cls y (z_w y bytes maxL ret1)) := fun w hw => by
    rcases List.mem_append.mp hw with h | h
    · simp only [List.mem_cons, List.not_mem_nil, or_false] at h
      rcases h with rfl | rfl | rfl | rfl
      · exact z_T_good hli
      · exact z_T_good k1
      · exact z_T_good k2
      · exact z_T_good k3
    · exact z_w_good k4 w h
  subst hR
  have hrun := va_runV (p := p) (l := l) (e := e) (R := room_1) (below := below) (meth := meth) (locs := locs) (cells := 149) (slots := 13979) (g := F0 m pc ls (As.reverse ++ .ref (a2 0) :: st)) (As := As) (rest := st) (n := n9) ⟨hx, hb, hml, hown, hts⟩ (hM l D Y hI2 S2_ok) (cwV n9 hts hG9 rfl rfl rfl ⟨rfl, k6⟩ ⟨by show d1 + 1 ≤ 2048; omega, by show 8 + (maxL + 11) + 64 * d1 ≤ 84000; omega⟩) ⟨z_blind, hrecv, fun U hU hW => ⟨rfl, by rw [hU]; exact hP2, va_K.moved hW.alike hK, by rw [hU]; exact hG2.far hW (fun q h => hS.2.1 q h (Nat.not_le.mpr h))⟩⟩ rfl hn (by rw [hl.1, hlen]) rfl (lv_room hst) hd ⟨by show 149 + 0 ≤ 600000; omega, by show 13979 + 0 ≤ 7302250; omega⟩
  intro T hT X
  obtain ⟨v, st₀, t, T', LL, h0, X', hLL, e1, e2, ⟨hv, hQ1, hz, hk⟩, stp⟩ := hrun T hT X
  cases hv
  rw [h0] at hz hk
  obtain ⟨t2, q1, q2⟩ := kk T'.heap (locs ++ LL) ls (hP1.kept (fun k x hx9 => by
      obtain ⟨hc9, rfl⟩ := z_wl_of hx9
      rw [e1]
      exact hk _ ((hP1 k _ hx9).lt) (hA1 _ ⟨k, hc9, rfl⟩).2)) (by rw [e1]; exact hQ1)
    ⟨Nat.le_trans hS.1 (by rw [e1]; exact hz), fun q h1 h2 => by rw [e1, hk q (Nat.lt_of_lt_of_le h1 hS.1) (fun z => h2 (hA2 q z).1)]; exact hS.2.1 q h1 h2, fun q hq => by
      rcases List.mem_append.mp hq with h | h
      · exact hS.2.2 q h
      · exact (hA2 _ (hLL q h)).1⟩ hl T' rfl X'
  exact ⟨t2, stp t2 q1, q2⟩
end LR
