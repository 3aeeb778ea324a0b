def n_pre (w : Nat → Int32) (i : Nat) : Nat → Int32 := fun j => if j < i then w j else 0
theorem n_pre_step (w : Nat → Int32) (i : Nat) : upd (n_pre w i) i (w i) = n_pre w (i + 1) := by
  funext j
  unfold upd n_pre
  by_cases h : j = i
  · subst h; rw [if_pos rfl, if_pos (by omega)]
  · rw [if_neg h]
    by_cases h2 : j < i
    · rw [if_pos h2, if_pos (by omega)]
    · rw [if_neg h2, if_neg (by omega)]
theorem n_pre_0 (w : Nat → Int32) : n_pre w 0 = fun _ => 0 := by
  funext j
  unfold n_pre
  rw [if_neg (by omega)]
theorem n_nd : ∀ k : Nat, va_nd (List.range k) = true := by
  have key : ∀ (l : List Nat), l.Nodup → va_nd l = true := by
    intro l
    induction l with
    | nil => intro _; rfl
    | cons a l ih =>
      intro h
      rw [List.nodup_cons] at h
      unfold va_nd
      simp [h.1, ih h.2]
  intro k
  exact key _ List.nodup_range
/-! the walk of a constructor: a list of cells that grows -/
def n_nest (U : State) : Prop := va_Nw (.methodLinkNest "PlantedDoubts" 9 ⟨"PlantedDoubts$Garden", "<init>", "()V"⟩ "PlantedDoubts") U ∧ va_Nw (.methodLinkNest "PlantedDoubts" 25 ⟨"PlantedDoubts$Law", "<init>", "()V"⟩ "PlantedDoubts") U ∧ va_Nw (.methodLinkNest "PlantedDoubts" 58 ⟨"PlantedDoubts$Tape", "<init>", "()V"⟩ "PlantedDoubts") U ∧ va_Nw (.methodLinkNest "PlantedDoubts" 74 ⟨"PlantedDoubts$Gifts", "<init>", "()V"⟩ "PlantedDoubts") U ∧ va_Nw (.methodLinkNest "PlantedDoubts" 81 ⟨"PlantedDoubts$Mind", "<init>", "()V"⟩ "PlantedDoubts") U ∧ va_Nw (.methodLinkNest "PlantedDoubts" 88 ⟨"PlantedDoubts$Grounds", "<init>", "()V"⟩ "PlantedDoubts") U ∧ va_AO "PlantedDoubts$Beds" U
theorem n_nest.warm {s U : State} (h : n_nest s) (hW : s.WarmedH U.vm) : n_nest U := ⟨va_Nw.warmM hW h.1, va_Nw.warmM hW h.2.1, va_Nw.warmM hW h.2.2.1, va_Nw.warmM hW h.2.2.2.1, va_Nw.warmM hW h.2.2.2.2.1, va_Nw.warmM hW h.2.2.2.2.2.1, va_AO.moved hW.alike h.2.2.2.2.2.2⟩
theorem n_nest.same {s U : State} (h : n_nest s) (hv : U.vm = s.vm) : n_nest U := ⟨va_Nw.same rfl hv.symm h.1, va_Nw.same rfl hv.symm h.2.1, va_Nw.same rfl hv.symm h.2.2.1, va_Nw.same rfl hv.symm h.2.2.2.1, va_Nw.same rfl hv.symm h.2.2.2.2.1, va_Nw.same rfl hv.symm h.2.2.2.2.2.1, va_AO.moved (by rw [hv]; exact Vm.Alike.refl s.vm) h.2.2.2.2.2.2⟩
def n_Cx (X : z_Ct) (A : Nat → Prop) (own : String) (cc : ByteArray) (nL d mc ms : Nat) : Prop := match X with
  | (p, l, e, R, s, m, args, below, meth, c, D, Y, a) => p.tables.exec = Jvm.exec ∧ c.code = cc ∧ c.maxLocals = nL ∧ s.vm.findClass own = some m.cls ∧ (∀ w ∈ z_T, w.before args s = true) ∧ va_K D z_cl (z_ty Y) s ∧ meth.locks = false ∧ meth.sig.returnType = none ∧ (d ≤ R.frames ∧ 64 * d ≤ R.locals ∧ R.cells = mc ∧ R.slots = ms) ∧ (∀ q, s.heap.size ≤ q → A q) ∧ meth.name = "<init>" ∧ n_nest s
def n_W (X : z_Ct) (A : Nat → Prop) (k n : Nat) (Q : State → Prop) (pc : Nat) (lo : List (Option Value)) (st : List Value) (ws : va_W) : Prop := match X with
  | (p, l, e, R, s, m, args, below, meth, c, D, Y, a) => ∀ (H : Heap) (locs : List Loc) (ls : Array Slot), va_P D z_cl ws H → va_D A ws → va_S A s.heap H locs → z_Lh ls lo → W p l e R s m args below meth c H locs k n Q (F0 m pc ls st)
def n_Y (X : z_Ct) : z_Y := X.2.2.2.2.2.2.2.2.2.2.2.1
def n_Q (D : va_G) (Y : z_Y) (A : Nat → Prop) (b : Nat) (Wf : z_Y → (Nat → Nat) → va_W) : Array Value → State → Outcome → State → Prop := fun _ st oc t => oc = .returned none ∧ (∃ q : Nat → Nat, q 0 = b ∧ va_P D z_cl (Wf Y q) t.heap ∧ va_D A (Wf Y q)) ∧ va_F A st t
def n_MQ (X : z_Ct) (A : Nat → Prop) (b : Nat) (Wf : z_Y → (Nat → Nat) → va_W) (mc ms : Nat) : State → Prop := match X with
  | (p, l, e, R, s, m, args, below, meth, c, D, Y, a) => MQ below (n_Q D Y A b Wf) args s mc ms A
/-- a constructor's contract: of the blank cell it makes the cells Wf, the new object the first of them -/
def n_Mt (y : MethodName) (w : List Cond) (d mc ms ci : Nat) (fs : List Value) (As : List Value) (Wf : z_Y → (Nat → Nat) → va_W) : Prop := ∀ (l : Launch) (D : va_G) (Y : z_Y) (sz b : Nat), Met l y w { frames := d, cells := mc, slots := ms, locals := 64 * d } (va_Pc (.ref b :: As) (fun U => U.heap.size = sz ∧ va_P D z_cl [(b, .inr (ci, fs))] U.heap ∧ va_K D z_cl (z_ty Y) U ∧ n_nest U)) (n_Q D Y (va_A [(b, .inr (ci, fs))] sz) b Wf) mc ms (va_A [(b, .inr (ci, fs))] sz)
section NR
variable {X : z_Ct} {A : Nat → Prop} {own : String} {cc : ByteArray} {nL d mc ms k n : Nat} {Q : State → Prop} {pc : Nat} {lo : List (Option Value)} {st : List Value} {ws : va_W}
theorem n_iconst (C : n_Cx X A own cc nL d mc ms) {i : Int} {v : Int32} (hd : decode cc pc = .ok (.iconst i, 1)) (hv : Int32.ofInt i = v) (kk : n_W X A k n Q (pc + 1) lo (.int v :: st) ws) : n_W X A k n Q pc lo (st) ws := by
  obtain ⟨p, l, e, R, s, m, args, below, meth, c, D, Y, a⟩ := X
  obtain ⟨hx, hb, hml, hown, hts, hK, hlk, hr, hR, hA, hin, hne⟩ := C
  intro H locs ls hP hD hS hl
  exact lv_iconst hx hb hd hv (kk H locs ls hP hD hS hl)
theorem n_bipush (C : n_Cx X A own cc nL d mc ms) {i : Int} {v : Int32} (hd : decode cc pc = .ok (.bipush i, 2)) (hv : (Int8.ofInt i).toInt32 = v) (kk : n_W X A k n Q (pc + 2) lo (.int v :: st) ws) : n_W X A k n Q pc lo (st) ws := by
  obtain ⟨p, l, e, R, s, m, args, below, meth, c, D, Y, a⟩ := X
  obtain ⟨hx, hb, hml, hown, hts, hK, hlk, hr, hR, hA, hin, hne⟩ := C
  intro H locs ls hP hD hS hl
  exact lv_bipush hx hb hd hv (kk H locs ls hP hD hS hl)
theorem n_sipush (C : n_Cx X A own cc nL d mc ms) {i : Int} {v : Int32} (hd : decode cc pc = .ok (.sipush i, 3)) (hv : (Int16.ofInt i).toInt32 = v) (kk : n_W X A k n Q (pc + 3) lo (.int v :: st) ws) : n_W X A k n Q pc lo (st) ws := by
  obtain ⟨p, l, e, R, s, m, args, below, meth, c, D, Y, a⟩ := X
  obtain ⟨hx, hb, hml, hown, hts, hK, hlk, hr, hR, hA, hin, hne⟩ := C
  intro H locs ls hP hD hS hl
  exact lv_sipush hx hb hd hv (kk H locs ls hP hD hS hl)
theorem n_iload (C : n_Cx X A own cc nL d mc ms) {i : Nat} {x : Int32} (hd : decode cc pc = .ok (.iload i, 2)) (hl2 : lo[i]? = some (some (.int x))) (kk : n_W X A k n Q (pc + 2) lo (.int x :: st) ws) : n_W X A k n Q pc lo (st) ws := by
  obtain ⟨p, l, e, R, s, m, args, below, meth, c, D, Y, a⟩ := X
  obtain ⟨hx, hb, hml, hown, hts, hK, hlk, hr, hR, hA, hin, hne⟩ := C
  intro H locs ls hP hD hS hl
  exact lv_iload hx hb hd (hl.at hl2) (kk H locs ls hP hD hS hl)
theorem n_iload_n (C : n_Cx X A own cc nL d mc ms) {i : Fin 4} {x : Int32} (hd : decode cc pc = .ok (.iload_n i, 1)) {j : Nat} (hj : (i : Nat) = j) (hl2 : lo[j]? = some (some (.int x))) (kk : n_W X A k n Q (pc + 1) lo (.int x :: st) ws) : n_W X A k n Q pc lo (st) ws := by
  obtain ⟨p, l, e, R, s, m, args, below, meth, c, D, Y, a⟩ := X
  obtain ⟨hx, hb, hml, hown, hts, hK, hlk, hr, hR, hA, hin, hne⟩ := C
  intro H locs ls hP hD hS hl
  exact lv_iload_n hx hb hd hj (hl.at hl2) (kk H locs ls hP hD hS hl)
theorem n_aload_n (C : n_Cx X A own cc nL d mc ms) {i : Fin 4} {x : Nat} (hd : decode cc pc = .ok (.aload_n i, 1)) {j : Nat} (hj : (i : Nat) = j) (hl2 : lo[j]? = some (some (.ref x))) (kk : n_W X A k n Q (pc + 1) lo (.ref x :: st) ws) : n_W X A k n Q pc lo (st) ws := by
  obtain ⟨p, l, e, R, s, m, args, below, meth, c, D, Y, a⟩ := X
  obtain ⟨hx, hb, hml, hown, hts, hK, hlk, hr, hR, hA, hin, hne⟩ := C
  intro H locs ls hP hD hS hl
  exact lv_aload_n hx hb hd hj (hl.at hl2) (kk H locs ls hP hD hS hl)
theorem n_dup (C : n_Cx X A own cc nL d mc ms) {v : Value} (hd : decode cc pc = .ok (.dup, 1)) (hc : v.category = 1) (kk : n_W X A k n Q (pc + 1) lo (v :: v :: st) ws) : n_W X A k n Q pc lo (v :: st) ws := by
  obtain ⟨p, l, e, R, s, m, args, below, meth, c, D, Y, a⟩ := X
  obtain ⟨hx, hb, hml, hown, hts, hK, hlk, hr, hR, hA, hin, hne⟩ := C
  intro H locs ls hP hD hS hl
  exact lv_dup hx hb hd hc (kk H locs ls hP hD hS hl)
theorem n_imul (C : n_Cx X A own cc nL d mc ms) {x y : Int32} (hd : decode cc pc = .ok (.imul, 1)) (kk : n_W X A k n Q (pc + 1) lo (.int (x * y) :: st) ws) : n_W X A k n Q pc lo (.int y :: .int x :: st) ws := by
  obtain ⟨p, l, e, R, s, m, args, below, meth, c, D, Y, a⟩ := X
  obtain ⟨hx, hb, hml, hown, hts, hK, hlk, hr, hR, hA, hin, hne⟩ := C
  intro H locs ls hP hD hS hl
  exact lv_imul hx hb hd (kk H locs ls hP hD hS hl)
theorem n_istore_n (C : n_Cx X A own cc nL d mc ms) {i : Fin 4} {j : Nat} {x : Int32} {lo' : List (Option Value)} (hd : decode cc pc = .ok (.istore_n i, 1)) (hj : (i : Nat) = j) (hi : j < lo.length) (hl2 : lo.set j (some (.int x)) = lo') (kk : n_W X A k n Q (pc + 1) lo' st ws) : n_W X A k n Q pc lo (.int x :: st) ws := by
  obtain ⟨p, l, e, R, s, m, args, below, meth, c, D, Y, a⟩ := X
  obtain ⟨hx, hb, hml, hown, hts, hK, hlk, hr, hR, hA, hin, hne⟩ := C
  intro H locs ls hP hD hS hl
  exact lv_istore_n hx hb hd hj hl.has hi rfl (fun ls' h' => kk H locs ls' hP hD hS (hl2 ▸ hl.of rfl hi h'))
theorem n_iinc (C : n_Cx X A own cc nL d mc ms) {i : Nat} {z : Int} {x v : Int32} {lo' : List (Option Value)} (hd : decode cc pc = .ok (.iinc i z, 3)) (hx0 : lo[i]? = some (some (.int x))) (hv : x + Int32.ofInt z = v) (hl2 : lo.set i (some (.int v)) = lo') (kk : n_W X A k n Q (pc + 3) lo' st ws) : n_W X A k n Q pc lo st ws := by
  obtain ⟨p, l, e, R, s, m, args, below, meth, c, D, Y, a⟩ := X
  obtain ⟨hx, hb, hml, hown, hts, hK, hlk, hr, hR, hA, hin, hne⟩ := C
  intro H locs ls hP hD hS hl
  have hi : i < lo.length := (List.getElem?_eq_some_iff.mp hx0).1
  obtain ⟨k9, hk9⟩ := List.getElem?_of_mem (z_pl_mem.mpr hx0)
  exact lv_iinc hx hb hd hl.has hk9 hv hi rfl (fun ls' h' => kk H locs ls' hP hD hS (hl2 ▸ hl.of rfl hi h'))
theorem n_goto (C : n_Cx X A own cc nL d mc ms) {off : Int} {tgt : Nat} (hd : decode cc pc = .ok (.goto off, 3)) (ht : (pc : Int) + off = (tgt : Int)) (kk : n_W X A k n Q tgt lo st ws) : n_W X A k n Q pc lo st ws := by
  obtain ⟨p, l, e, R, s, m, args, below, meth, c, D, Y, a⟩ := X
  obtain ⟨hx, hb, hml, hown, hts, hK, hlk, hr, hR, hA, hin, hne⟩ := C
  intro H locs ls hP hD hS hl
  exact lv_goto hx hb hd ht (kk H locs ls hP hD hS hl)
theorem n_icmp_ge (C : n_Cx X A own cc nL d mc ms) {x y : Int32} {off : Int} {tgt : Nat} (hd : decode cc pc = .ok (.if_icmp .ge off, 3)) (ht : (pc : Int) + off = (tgt : Int)) (kt : ¬ x < y → n_W X A k n Q tgt lo st ws) (kf : x < y → n_W X A k n Q (pc + 3) lo st ws) : n_W X A k n Q pc lo (.int y :: .int x :: st) ws := by
  obtain ⟨p, l, e, R, s, m, args, below, meth, c, D, Y, a⟩ := X
  obtain ⟨hx, hb, hml, hown, hts, hK, hlk, hr, hR, hA, hin, hne⟩ := C
  intro H locs ls hP hD hS hl
  exact lv_icmp_ge hx hb hd ht (fun g => kt (Int32.not_lt.mpr g) H locs ls hP hD hS hl) (fun g => kf (Int32.not_le.mp g) H locs ls hP hD hS hl)
theorem n_get (C : n_Cx X A own cc nL d mc ms) {ci : Nat} {Cn : String} {Tn : u_T} {N : Nat} {ty : Nat → FieldType} {j index b : Nat} {fs : List Value} {v : Value} (F : z_CF ci Cn Tn N ty) (q0 : Nat) (he : ws[q0]? = some (b, .inr (ci, fs))) (hj : j < N) (hl2 : Cond.fieldLink own index Cn (Tn j).2.1 (Tn j).2.2.1 ∈ z_T) (hv : fs[j]? = some v) (hd : decode cc pc = .ok (.getfield index, 3)) (kk : n_W X A k n Q (pc + 3) lo (v :: st) ws) : n_W X A k n Q pc lo (.ref b :: st) ws := by
  obtain ⟨p, l, e, R, s, m, args, below, meth, c, D, Y, a⟩ := X
  obtain ⟨hx, hb, hml, hown, hts, hK, hlk, hr, hR, hA, hin, hne⟩ := C
  intro H locs ls hP hD hS hl
  obtain ⟨f1, f2, f3, f4, f5, f6⟩ := F
  exact va_get (D := D) hx hb hts f3 hown hK hP q0 he f1 j hj (hts _ hl2) (fun x h => by rw [f6 j hj] at h; exact h) hv hd (kk H locs ls hP hD hS hl)
theorem n_putF (C : n_Cx X A own cc nL d mc ms) {ci : Nat} {Cn : String} {Tn : u_T} {N : Nat} {ty : Nat → FieldType} {j index b : Nat} {fs : List Value} {v : Value} {ws' : va_W} (F : z_CF ci Cn Tn N ty) (q0 : Nat) (he : ws[q0]? = some (b, .inr (ci, fs))) (hj : j < N) (hl2 : Cond.fieldLink own index Cn (Tn j).2.1 (Tn j).2.2.1 ∈ z_T) (hfin : (Tn j).2.2.2 = true) (hown2 : Cn = own) (hn : narrow (ty j) v = v) (hfit : fits (ty j) v = true) (hlen : j < fs.length) (hws : ws.set q0 (b, .inr (ci, fs.set j v)) = ws') (hd : decode cc pc = .ok (.putfield index, 3)) (kk : n_W X A k n Q (pc + 3) lo st ws') : n_W X A k n Q pc lo (v :: .ref b :: st) ws := by
  obtain ⟨p, l, e, R, s, m, args, below, meth, c, D, Y, a⟩ := X
  obtain ⟨hx, hb, hml, hown, hts, hK, hlk, hr, hR, hA, hin, hne⟩ := C
  intro H locs ls hP hD hS hl
  obtain ⟨f1, f2, f3, f4, f5, f6⟩ := F
  exact va_putF (D := D) hx hb hts f3 ty f4 f5 hown hK hP hD hS q0 he f1 j hj (hts _ hl2) (fun x h => by rw [f6 j hj] at h; exact h) hfin hin (by rw [f6 j hj]; exact hown2) (f4 j hj) hn hfit hlen hd (fun H1 locs1 hP1 hD1 hS1 => kk H1 locs1 ls (hws ▸ hP1) (hws ▸ hD1) hS1 hl)
theorem n_put (C : n_Cx X A own cc nL d mc ms) {ci : Nat} {Cn : String} {Tn : u_T} {N : Nat} {ty : Nat → FieldType} {j index b : Nat} {fs : List Value} {v : Value} {ws' : va_W} (F : z_CF ci Cn Tn N ty) (q0 : Nat) (he : ws[q0]? = some (b, .inr (ci, fs))) (hj : j < N) (hl2 : Cond.fieldLink own index Cn (Tn j).2.1 (Tn j).2.2.1 ∈ z_T) (hfin : (Tn j).2.2.2 = false) (hn : narrow (ty j) v = v) (hfit : fits (ty j) v = true) (hlen : j < fs.length) (hws : ws.set q0 (b, .inr (ci, fs.set j v)) = ws') (hd : decode cc pc = .ok (.putfield index, 3)) (kk : n_W X A k n Q (pc + 3) lo st ws') : n_W X A k n Q pc lo (v :: .ref b :: st) ws := by
  obtain ⟨p, l, e, R, s, m, args, below, meth, c, D, Y, a⟩ := X
  obtain ⟨hx, hb, hml, hown, hts, hK, hlk, hr, hR, hA, hin, hne⟩ := C
  intro H locs ls hP hD hS hl
  obtain ⟨f1, f2, f3, f4, f5, f6⟩ := F
  exact va_put (D := D) hx hb hts f3 ty f4 f5 hown hK hP hD hS q0 he f1 j hj (hts _ hl2) (fun x h => by rw [f6 j hj] at h; exact h) hfin (f4 j hj) hn hfit hlen hd (fun H1 locs1 hP1 hD1 hS1 => kk H1 locs1 ls (hws ▸ hP1) (hws ▸ hD1) hS1 hl)
theorem n_newi (C : n_Cx X A own cc nL d mc ms) {i : Int32} {N : Nat} (hn : ¬ i < 0) (hN : i.toNatClampNeg = N) (hb9 : N * 4 ≤ 536870912) (hc9 : k + 1 ≤ mc) (hs9 : n + N ≤ ms) (hd : decode cc pc = .ok (.newarray .int, 2)) (kk : ∀ q : Nat, n_W X A (k + 1) (n + N) Q (pc + 2) lo (.ref q :: st) (ws ++ [(q, .inl ((n_Y X).1, N, .inl (fun _ => 0)))])) : n_W X A k n Q pc lo (.int i :: st) ws := by
  obtain ⟨p, l, e, R, s, m, args, below, meth, c, D, Y, a⟩ := X
  obtain ⟨hx, hb, hml, hown, hts, hK, hlk, hr, hR, hA, hin, hne⟩ := C
  intro H locs ls hP hD hS hl
  have hw : Cond.arrayClass .int ∈ z_T := by decide +kernel
  refine va_newa (atype := .int) (ty := .int) (a0 := (N, .inl (fun _ => 0))) hx hb (hts _ hw) rfl hK hP hD hS hA (fun _ => rfl) hn hN hb9 (by omega) (by omega) hd (fun q cA H1 hK1 hP1 hD1 hS1 => ?_)
  have e1 : s.vm.findClass ("[" ++ FieldType.int.toString) = some cA := (hK1.2 3 _ rfl).2
  have e2 : s.vm.findClass ("[" ++ FieldType.int.toString) = some Y.1 := (hK.2 0 _ rfl).2
  have e3 : cA = Y.1 := Option.some.inj (e1.symm.trans e2)
  subst e3
  exact kk q H1 locs ls hP1 hD1 hS1 hl
theorem n_newb (C : n_Cx X A own cc nL d mc ms) {i : Int32} {N : Nat} (hn : ¬ i < 0) (hN : i.toNatClampNeg = N) (hb9 : N * 1 ≤ 536870912) (hc9 : k + 1 ≤ mc) (hs9 : n + N ≤ ms) (hd : decode cc pc = .ok (.newarray .byte, 2)) (kk : ∀ q : Nat, n_W X A (k + 1) (n + N) Q (pc + 2) lo (.ref q :: st) (ws ++ [(q, .inl ((n_Y X).2.1, N, .inl (fun _ => 0)))])) : n_W X A k n Q pc lo (.int i :: st) ws := by
  obtain ⟨p, l, e, R, s, m, args, below, meth, c, D, Y, a⟩ := X
  obtain ⟨hx, hb, hml, hown, hts, hK, hlk, hr, hR, hA, hin, hne⟩ := C
  intro H locs ls hP hD hS hl
  have hw : Cond.arrayClass .byte ∈ z_T := by decide +kernel
  refine va_newa (atype := .byte) (ty := .byte) (a0 := (N, .inl (fun _ => 0))) hx hb (hts _ hw) rfl hK hP hD hS hA (fun _ => rfl) hn hN hb9 (by omega) (by omega) hd (fun q cA H1 hK1 hP1 hD1 hS1 => ?_)
  have e1 : s.vm.findClass ("[" ++ FieldType.byte.toString) = some cA := (hK1.2 3 _ rfl).2
  have e2 : s.vm.findClass ("[" ++ FieldType.byte.toString) = some Y.2.1 := (hK.2 1 _ rfl).2
  have e3 : cA = Y.2.1 := Option.some.inj (e1.symm.trans e2)
  subst e3
  exact kk q H1 locs ls hP1 hD1 hS1 hl
theorem n_newr (C : n_Cx X A own cc nL d mc ms) {i : Int32} {N index : Nat} (hn : ¬ i < 0) (hN : i.toNatClampNeg = N) (hb9 : N * 4 ≤ 536870912) (hc9 : k + 1 ≤ mc) (hs9 : n + N ≤ ms) (hcl : Cond.classLink own index "PlantedDoubts$Beds" ∈ z_T) (hd : decode cc pc = .ok (.anewarray index, 3)) (kk : ∀ q : Nat, n_W X A (k + 1) (n + N) Q (pc + 3) lo (.ref q :: st) (ws ++ [(q, .inl ((n_Y X).2.2, N, .inr (.inr (.inr (.inr (fun _ => none))))))])) : n_W X A k n Q pc lo (.int i :: st) ws := by
  obtain ⟨p, l, e, R, s, m, args, below, meth, c, D, Y, a⟩ := X
  obtain ⟨hx, hb, hml, hown, hts, hK, hlk, hr, hR, hA, hin, hne⟩ := C
  intro H locs ls hP hD hS hl
  refine va_newq hx hb hown (hts _ hcl) hne.2.2.2.2.2.2 hK hP hD hS hA hn hN hb9 (by omega) (by omega) hd (fun q cA H1 hK1 hP1 hD1 hS1 => ?_)
  obtain ⟨_, _, _, _, _, e1⟩ := (hK1.2 3 _ rfl).2
  obtain ⟨_, _, _, _, _, e2⟩ := (hK.2 2 _ rfl).2
  have e3 : cA = Y.2.2 := Option.some.inj (e1.symm.trans e2)
  subst e3
  exact kk q H1 locs ls hP1 hD1 hS1 hl
theorem n_new (C : n_Cx X A own cc nL d mc ms) {ci : Nat} {Cn : String} {Tn : u_T} {N : Nat} {ty : Nat → FieldType} {index : Nat} {fs : List Value} (F : z_CF ci Cn Tn N ty) (hcl : Cond.classLink own index Cn ∈ z_T) (hi : Cond.instantiable Cn N ∈ z_T) (hini : Cond.initialized Cn ∈ z_T) (hfs : ∀ j, j < N → defaultValue (ty j) = vp_V fs j) (hc9 : k + 1 ≤ mc) (hs9 : n + N ≤ ms) (hd : decode cc pc = .ok (.new index, 3)) (kk : ∀ q : Nat, n_W X A (k + 1) (n + N) Q (pc + 3) lo (.ref q :: st) (ws ++ [(q, .inr (ci, fs))])) : n_W X A k n Q pc lo st ws := by
  obtain ⟨p, l, e, R, s, m, args, below, meth, c, D, Y, a⟩ := X
  obtain ⟨hx, hb, hml, hown, hts, hK, hlk, hr, hR, hA, hin, hne⟩ := C
  intro H locs ls hP hD hS hl
  obtain ⟨f1, f2, f3, f4, f5, f6⟩ := F
  exact va_new hx hb hts f3 ty f4 hown (hts _ hcl) (hts _ hi) (hts _ hini) hK hP hD hS hA f1 hfs (by omega) (by omega) hd (fun q H1 hP1 hD1 hS1 => kk q H1 locs ls hP1 hD1 hS1 hl)
theorem n_alen (C : n_Cx X A own cc nL d mc ms) {N b : Nat} {f : Nat → Int32} {v : Int32} (q0 : Nat) (he : ws[q0]? = some (b, .inl ((n_Y X).1, N, .inl f))) (hv : Int32.ofNat N = v) (hd : decode cc pc = .ok (.arraylength, 1)) (kk : n_W X A k n Q (pc + 1) lo (.int v :: st) ws) : n_W X A k n Q pc lo (.ref b :: st) ws := by
  obtain ⟨p, l, e, R, s, m, args, below, meth, c, D, Y, a⟩ := X
  obtain ⟨hx, hb, hml, hown, hts, hK, hlk, hr, hR, hA, hin, hne⟩ := C
  intro H locs ls hP hD hS hl
  exact va_alen hx hb hK hP q0 0 he rfl hv hd (kk H locs ls hP hD hS hl)
theorem n_iast (C : n_Cx X A own cc nL d mc ms) {N b : Nat} {f : Nat → Int32} {i v : Int32} {ws' : va_W} (q0 : Nat) (he : ws[q0]? = some (b, .inl ((n_Y X).1, N, .inl f))) (hi : vp_in i N) (hws : ws.set q0 (b, .inl ((n_Y X).1, N, .inl (upd f i.toNatClampNeg v))) = ws') (hd : decode cc pc = .ok (.iastore, 1)) (kk : n_W X A k n Q (pc + 1) lo st ws') : n_W X A k n Q pc lo (.int v :: .int i :: .ref b :: st) ws := by
  obtain ⟨p, l, e, R, s, m, args, below, meth, c, D, Y, a⟩ := X
  obtain ⟨hx, hb, hml, hown, hts, hK, hlk, hr, hR, hA, hin, hne⟩ := C
  intro H locs ls hP hD hS hl
  exact va_iast hx hb hK hP hD hS q0 0 he rfl hi hd (fun H1 locs1 hP1 hD1 hS1 => kk H1 locs1 ls (hws ▸ hP1) (hws ▸ hD1) hS1 hl)
theorem n_aast (C : n_Cx X A own cc nL d mc ms) {N b v : Nat} {f : Nat → Option Nat} {vs : List Value} {i : Int32} {ws' : va_W} (q0 qk : Nat) (he : ws[q0]? = some (b, .inl ((n_Y X).2.2, N, .inr (.inr (.inr (.inr f)))))) (hv : ws[qk]? = some (v, .inr (0, vs))) (hi : vp_in i N) (hws : ws.set q0 (b, .inl ((n_Y X).2.2, N, .inr (.inr (.inr (.inr (va_up f i.toNatClampNeg (some v))))))) = ws') (hd : decode cc pc = .ok (.aastore, 1)) (kk : n_W X A k n Q (pc + 1) lo st ws') : n_W X A k n Q pc lo (.ref v :: .int i :: .ref b :: st) ws := by
  obtain ⟨p, l, e, R, s, m, args, below, meth, c, D, Y, a⟩ := X
  obtain ⟨hx, hb, hml, hown, hts, hK, hlk, hr, hR, hA, hin, hne⟩ := C
  intro H locs ls hP hD hS hl
  exact va_astq hx hb hK hP hD hS q0 2 qk 0 (r := (RX0, TX0, 9)) he rfl hv rfl hi hd (fun H1 locs1 hP1 hD1 hS1 => kk H1 locs1 ls (hws ▸ hP1) (hws ▸ hD1) hS1 hl)
theorem n_obj (C : n_Cx X A own cc nL (d + 1) mc ms) {b index : Nat} (hlen : lo.length = nL) (hst : (st.map fun v => v.category).sum ≤ 8) (hm : Cond.methodLink own index Lib.objectInit ∈ z_T) (hd : decode cc pc = .ok (.invokespecial index, 3)) (kk : n_W X A k n Q (pc + 3) lo st ws) : n_W X A k n Q pc lo (.ref b :: st) ws := by
  obtain ⟨p, l, e, R, s, m, args, below, meth, c, D, Y, a⟩ := X
  obtain ⟨hx, hb, hml, hown, hts, hK, hlk, hr, hR, hA, hin, hne⟩ := C
  intro H locs ls hP hD hS hl
  have hw : ∀ w ∈ ([Cond.instanceMethod Lib.objectInit, Cond.code Lib.objectInit ⟨#[0xb1]⟩ 1 none] : List Cond), w ∈ z_T := by decide +kernel
  have hrm := lv_room (m := m) (pc := pc) (ls := ls) (rest := .ref b :: st) hst
  exact W.objInit hx hb hown (hts _ hm) (hts _ (hw _ (by simp))) (hts _ (hw _ (by simp))) rfl (by rw [hml]; show ls.size = nL; rw [hl.1, hlen]) rfl hd (by omega) (by omega) (kk H locs ls hP hD hS hl)
theorem n_iastp (C : n_Cx X A own cc nL d mc ms) (w : Nat → Int32) {N b i : Nat} {ii v : Int32} {ws' : va_W} (q0 : Nat) (he : ws[q0]? = some (b, .inl ((n_Y X).1, N, .inl (n_pre w i)))) (hiN : i < N) (h31 : N < 2 ^ 31) (hii : ii = nI i) (hv : v = w i) (hws : ws.set q0 (b, .inl ((n_Y X).1, N, .inl (n_pre w (i + 1)))) = ws') (hd : decode cc pc = .ok (.iastore, 1)) (kk : n_W X A k n Q (pc + 1) lo st ws') : n_W X A k n Q pc lo (.int v :: .int ii :: .ref b :: st) ws := by
  refine n_iast C q0 he (by rw [hii]; exact vp_in_nI hiN h31) ?_ hd kk
  rw [hii, hv, nI_clamp (by omega), n_pre_step]
  exact hws
/-- W at another count of cells -/
theorem n_le {k' n' : Nat} (e1 : k' = k) (e2 : n' = n) (kk : n_W X A k' n' Q pc lo st ws) : n_W X A k n Q pc lo st ws := by subst e1; subst e2; exact kk
theorem n_ws {ws' : va_W} (e1 : ws' = ws) (kk : n_W X A k n Q pc lo st ws') : n_W X A k n Q pc lo st ws := by subst e1; exact kk
theorem n_swap {a9 b9 c9 : va_W} (kk : n_W X A k n Q pc lo st ((a9 ++ c9) ++ b9)) : n_W X A k n Q pc lo st ((a9 ++ b9) ++ c9) := by
  obtain ⟨p, l, e, R, s, m, args, below, meth, c, D, Y, a⟩ := X
  intro H locs ls hP hD hS hl
  exact kk H locs ls hP.swap hD.swap hS hl
theorem n_ret (C : n_Cx X A own cc nL d mc ms) {b : Nat} {Wf : z_Y → (Nat → Nat) → va_W} (q : Nat → Nat) (hq : q 0 = b) (hws : Wf (n_Y X) q = ws) (hd : decode cc pc = .ok (.return_, 1)) : n_W X A k n (n_MQ X A b Wf k n) pc lo [] ws := by
  obtain ⟨p, l, e, R, s, m, args, below, meth, c, D, Y, a⟩ := X
  obtain ⟨hx, hb, hml, hown, hts, hK, hlk, hr, hR, hA, hin, hne⟩ := C
  intro H locs ls hP hD hS hl
  subst hws
  exact W.vret hx hb hr (fun t ht hW => ⟨rfl, ⟨q, hq, by rw [ht]; exact hP, hD⟩, hS.F ht⟩) hS.2.2 hd
theorem n_blind {D : va_G} {Y : z_Y} {vs : List Value} {sz : Nat} : FrameBlind (va_Pc vs (fun U => U.heap.size = sz ∧ va_P D z_cl ws U.heap ∧ va_K D z_cl (z_ty Y) U ∧ n_nest U)) := by
  rintro A9 U g mk ⟨rfl, hz, hP, hK, hG⟩
  exact ⟨rfl, hz, hP, va_K.moved (u := U) (U := U.calling g mk vs.toArray) (Vm.Alike.refl U.vm) hK, hG.same rfl⟩
variable {y : MethodName} {bytes : ByteArray} {maxL d1 mc1 ms1 ci index n9 : Nat} {fs As : List Value} {Wf : z_Y → (Nat → Nat) → va_W} {b : Nat}
/-- behind a constructor's call -/
theorem n_after {p : Program} {l : Launch} {e : Env} {R : Room} {s : State} {m : MethodId} {args : Array Value} {below : List Frame} {meth : Method} {c9 : Code} {D : va_G} {Y : z_Y} {H : Heap} {locs : List Loc} {ls : Array Slot} {st0 : List Value} {av : Array Value} {wr : va_W} {ob : va_E}
    (hr : va_Run p l e R s m args below meth c9 H locs k n mc1 ms1 (F0 m pc ls st0) st (n_Q D Y (va_A [(b, ob)] H.size) b Wf av) (va_A [(b, ob)] H.size)) (hP : va_P D z_cl (wr ++ [(b, ob)]) H) (hD : va_D A (wr ++ [(b, ob)])) (hS : va_S A s.heap H locs) (hA : ∀ q, s.heap.size ≤ q → A q)
    (kk : ∀ (q : Nat → Nat) (H1 : Heap) (locs1 : List Loc), q 0 = b → va_P D z_cl (wr ++ Wf Y q) H1 → va_D A (wr ++ Wf Y q) → va_S A s.heap H1 locs1 → W p l e R s m args below meth c9 H1 locs1 (k + mc1) (n + ms1) Q (F0 m (pc + 3) ls st)) : W p l e R s m args below meth c9 H locs k n Q (F0 m pc ls st0) := by
  have hlast : (wr ++ [(b, ob)])[wr.length]? = some (b, ob) := by simp
  have hF : ∀ q, va_A [(b, ob)] H.size q → A q := va_free hD hS hA [wr.length] (by simp)
  intro T hT X
  obtain ⟨v, st₀, t, T', L, h0, X', hL, e1, e2, ⟨hv, ⟨q, hq0, hP1, hD1⟩, hz, hk⟩, stp⟩ := hr T hT X
  cases hv
  rw [h0] at hz hk
  obtain ⟨hPj, hDj⟩ := va_join (wr := wr) (w1 := Wf Y q) hP hD [wr.length] (List.range wr.length) (by simp) (by
    apply List.ext_getElem?
    intro i
    by_cases hi : i < wr.length
    · simp only [List.getElem?_map, List.getElem?_range hi, Option.map_some, List.getElem?_append_left hi]
      rw [List.getElem?_eq_getElem hi]
      rfl
    · rw [List.getElem?_eq_none (by simp; omega), List.getElem?_eq_none (by simp; omega)]) (n_nd _) (by
    intro i hi
    simp only [List.mem_range] at hi
    simp only [List.mem_singleton]
    omega) hk hF hP1 hD1
  obtain ⟨t2, a1, b1⟩ := kk q T'.heap (locs ++ L) hq0 (by rw [e1]; exact hPj) hDj
    ⟨Nat.le_trans hS.1 (by rw [e1]; exact hz), fun q9 h1 h2 => by rw [e1, hk q9 (Nat.lt_of_lt_of_le h1 hS.1) (fun z => h2 (hF q9 z))]; exact hS.2.1 q9 h1 h2, fun q9 hq9 => by
      rcases List.mem_append.mp hq9 with h | h
      · exact hS.2.2 q9 h
      · exact hF _ (hL q9 h)⟩ T' rfl X'
  exact ⟨t2, stp t2 a1, b1⟩
def n_Ki (y : MethodName) (bytes : ByteArray) (maxL n : Nat) : Prop := Cond.instanceMethod y ∈ z_T ∧ Cond.initialized y.cls ∈ z_T ∧ Cond.code y bytes maxL none ∈ z_T ∧ maxL ≤ 40 ∧ y.name = "<init>" ∧ (y.cls ≠ "java/lang/invoke/MethodHandle" ∧ y.cls ≠ "java/lang/invoke/VarHandle" ∧ (parseMethodDescriptor y.desc).map (fun d => d.parameters.length) = some n)
theorem n_call {wr : va_W} (C : n_Cx X A own cc nL d mc ms) (hM : n_Mt y (z_w y bytes maxL none) d1 mc1 ms1 ci fs As Wf) (ki : n_Ki y bytes maxL n9) (hn : As.length = n9) (hli : Cond.methodLink own index y ∈ z_T) (hws : ws = wr ++ [(b, .inr (ci, fs))]) (hdd : d1 + 1 ≤ d) (hlen : lo.length = nL) (hst : (st.map fun v => v.category).sum ≤ 8) (hc9 : k + mc1 ≤ mc) (hs9 : n + ms1 ≤ ms) (hd : decode cc pc = .ok (.invokespecial index, 3))
    (kk : ∀ q : Nat → Nat, q 0 = b → n_W X A (k + mc1) (n + ms1) Q (pc + 3) lo st (wr ++ Wf (n_Y X) q)) : n_W X A k n Q pc lo (As.reverse ++ .ref b :: st) ws := by
  obtain ⟨p, l, e, R, s, m, args, below, meth, c, D, Y, a⟩ := X
  obtain ⟨hx, hb, hml, hown, hts, hK, hlk, hr, hR, hA, hin, hne⟩ := C
  intro H locs ls hP hD hS hl
  obtain ⟨k1, k3, k4, k5, k7, k6⟩ := ki
  subst hws
  have hPc : va_P D z_cl [(b, .inr (ci, fs))] H := hP.sub (ws' := [(b, .inr (ci, fs))]) [wr.length] (by simp)
  refine n_after (Wf := Wf) (b := b) (va_runI (As := As) (rest := st) (n := n9) ⟨hx, hb, hml, hown, hts⟩ (hM l D Y H.size b) ⟨callB_of n9 hts (z_w_good k4) rfl rfl rfl (hts _ k3) (hts _ hli) k6 ⟨by show d1 + 1 ≤ R.frames; omega, by show 8 + (maxL + 11) + 64 * d1 ≤ R.locals; omega⟩, k7, hts _ k1⟩ ⟨n_blind, fun U hU hW => ⟨rfl, by rw [hU], by rw [hU]; exact hPc, va_K.moved hW.alike hK, hne.warm hW⟩⟩ rfl hn (by rw [hl.1, hlen]) rfl (lv_room hst) hd ⟨by omega, by omega⟩) hP hD hS hA (fun q H1 locs1 hq hP1 hD1 hS1 => kk q hq H1 locs1 ls hP1 hD1 hS1 hl)
theorem n_calln {wr : va_W} {host : String} (C : n_Cx X A own cc nL d mc ms) (hM : n_Mt y (z_w y bytes maxL none) d1 mc1 ms1 ci fs As Wf) (ki : n_Ki y bytes maxL n9) (hn : As.length = n9) (hli : ∀ s, n_nest s → va_Nw (.methodLinkNest own index y host) s) (hws : ws = wr ++ [(b, .inr (ci, fs))]) (hdd : d1 + 1 ≤ d) (hlen : lo.length = nL) (hst : (st.map fun v => v.category).sum ≤ 8) (hc9 : k + mc1 ≤ mc) (hs9 : n + ms1 ≤ ms) (hd : decode cc pc = .ok (.invokespecial index, 3))
    (kk : ∀ q : Nat → Nat, q 0 = b → n_W X A (k + mc1) (n + ms1) Q (pc + 3) lo st (wr ++ Wf (n_Y X) q)) : n_W X A k n Q pc lo (As.reverse ++ .ref b :: st) ws := by
  obtain ⟨p, l, e, R, s, m, args, below, meth, c, D, Y, a⟩ := X
  obtain ⟨hx, hb, hml, hown, hts, hK, hlk, hr, hR, hA, hin, hne⟩ := C
  intro H locs ls hP hD hS hl
  obtain ⟨k1, k3, k4, k5, k7, k6⟩ := ki
  subst hws
  have hPc : va_P D z_cl [(b, .inr (ci, fs))] H := hP.sub (ws' := [(b, .inr (ci, fs))]) [wr.length] (by simp)
  refine n_after (Wf := Wf) (b := b) (va_runIN (As := As) (rest := st) (n := n9) ⟨hx, hb, hml, hown, hts⟩ (hM l D Y H.size b) ⟨va_cnB n9 hts (z_w_good k4) rfl rfl rfl (hli s hne) (hts _ k3) k6 ⟨by show d1 + 1 ≤ R.frames; omega, by show 8 + (maxL + 11) + 64 * d1 ≤ R.locals; omega⟩, k7, hts _ k1⟩ ⟨n_blind, fun U hU hW => ⟨rfl, by rw [hU], by rw [hU]; exact hPc, va_K.moved hW.alike hK, hne.warm hW⟩⟩ rfl hn (by rw [hl.1, hlen]) rfl (lv_room hst) hd ⟨by omega, by omega⟩) hP hD hS hA (fun q H1 locs1 hq hP1 hD1 hS1 => kk q hq H1 locs1 ls hP1 hD1 hS1 hl)
/-- a constructor's head -/
theorem n_head (hy : plainName y.cls = true) (hyn : y.name = "<init>") (h1 : ∀ b, (lg_sl (.ref b :: As)).length ≤ maxL) (hlo : ∀ (b i : Nat) (v : Value), (some (.ref b) :: lo)[i]? = some (some v) → (i, v) ∈ lv_args 0 (.ref b :: As) ∧ v.category = 1) (hl : lo.length + 1 = maxL)
    (body : ∀ (X : z_Ct) (A : Nat → Prop) (b : Nat), n_Cx X A y.cls bytes maxL d1 mc1 ms1 → n_W X A 0 0 (n_MQ X A b Wf mc1 ms1) 0 (some (.ref b) :: lo) [] [(b, .inr (ci, fs))]) : n_Mt y (z_w y bytes maxL none) d1 mc1 ms1 ci fs As Wf := by
  intro l D Y sz b
  refine Met.ofW (cc := bytes) (maxL := maxL) (ret := none) hy rfl ?_
  intro p e s m args below meth c s₁ B hml hv
  obtain ⟨rfl, hsz, hP, hK, hG⟩ := hv
  subst hsz
  have hts := atoms_spec (ws := z_w y bytes maxL none) B.pre
  have hown : s.vm.findClass y.cls = some m.cls := findClass_of_methodNamed B.named
  have hin : meth.name = "<init>" := (name_of_methodNamed B.named B.method).1.trans hyn
  have hD0 : va_D (fun _ => True) [(b, (.inr (ci, fs) : va_E))] := ⟨fun i j p q hi hj _ => by
    have h1 := (List.getElem?_eq_some_iff.mp hi).1
    have h2 := (List.getElem?_eq_some_iff.mp hj).1
    simp at h1 h2
    omega, fun _ _ _ => trivial⟩
  have hb := body (p, l, e, (headSpec (z_w y bytes maxL none) ⟨d1, mc1, ms1, 64 * d1⟩).room, s, m, (Value.ref b :: As).toArray, below, meth, c, D, Y, fun _ => 0) (va_A [(b, .inr (ci, fs))] s.heap.size) b ⟨B.exec, B.bytes, hml, hown, fun w hw => hts w (List.mem_cons_of_mem _ hw), hK, B.notSynchronized, B.returns, ⟨Nat.le_refl _, Nat.le_refl _, rfl, rfl⟩, fun q h => Or.inr h, hin, hG⟩
  have he := lv_entry (.ref b :: As) (n := maxL) (h1 b)
  rw [lg_entry_eq]
  exact hb s.heap [] _ hP hD0.self va_S.rf ⟨by rw [he.1]; simpa using hl.symm, he.2.1, fun i v h => ⟨he.2.2 (i, v) (hlo b i v h).1, (hlo b i v h).2⟩⟩
end NR
