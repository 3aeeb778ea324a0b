/-! the packed walk -/
abbrev z_Ct : Type := Program × Launch × Env × Room × State × MethodId × Array Value × List Frame × Method × Code × va_G × z_Y × (Nat → Nat)
def z_a (X : z_Ct) : Nat → Nat := X.2.2.2.2.2.2.2.2.2.2.2.2
def z_Lh (ls : Array Slot) (lo : List (Option Value)) : Prop := ls.size = lo.length ∧ lv_wf ls ∧ ∀ (i : Nat) (v : Value), lo[i]? = some (some v) → ls[i]? = some (.val v) ∧ v.category = 1
def z_pl (lo : List (Option Value)) : List (Nat × Value) := (List.range lo.length).filterMap (fun i => (lo[i]?.getD none).map (fun v => (i, v)))
theorem z_pl_mem {lo : List (Option Value)} {j : Nat} {v : Value} : (j, v) ∈ z_pl lo ↔ lo[j]? = some (some v) := by
  unfold z_pl
  rw [List.mem_filterMap]
  constructor
  · rintro ⟨i, hi, h⟩
    rw [Option.map_eq_some_iff] at h
    obtain ⟨w, h1, h2⟩ := h
    cases h2
    cases hq : lo[j]? with
    | none => rw [hq] at h1; simp at h1
    | some q => rw [hq] at h1; simp at h1; rw [h1]
  · intro h
    have hl := (List.getElem?_eq_some_iff.mp h).1
    exact ⟨j, List.mem_range.mpr hl, by rw [h]; rfl⟩
theorem z_Lh.has {ls : Array Slot} {lo : List (Option Value)} (h : z_Lh ls lo) : lv_has ls lo.length (z_pl lo) := ⟨h.1, h.2.1, fun q hq => (h.2.2 q.1 q.2 (z_pl_mem.mp hq)).1⟩
theorem z_Lh.of {ls ls' : Array Slot} {lo : List (Option Value)} {i : Nat} {v : Value} (h : z_Lh ls lo) (hc : v.category = 1) (hi : i < lo.length) (h' : lv_has ls' lo.length ((i, v) :: (z_pl lo).filter (fun q => !(q.1 == i) && !(q.1 + 1 == i && q.2.category == 2)))) : z_Lh ls' (lo.set i (some v)) := by
  obtain ⟨h1, h2, h3⟩ := h'
  refine ⟨by rw [h1, List.length_set], h2, fun j w hj => ?_⟩
  by_cases hji : j = i
  · subst hji
    rw [List.getElem?_set_self hi] at hj
    cases hj
    exact ⟨h3 (j, v) List.mem_cons_self, hc⟩
  · rw [List.getElem?_set_ne (Ne.symm hji)] at hj
    have hw := (h.2.2 j w hj).2
    refine ⟨h3 (j, w) (List.mem_cons_of_mem _ (List.mem_filter.mpr ⟨z_pl_mem.mpr hj, ?_⟩)), hw⟩
    simp [hji, hw]
theorem z_Lh.at {ls : Array Slot} {lo : List (Option Value)} (h : z_Lh ls lo) {i : Nat} {v : Value} (hi : lo[i]? = some (some v)) : ls[i]? = some (.val v) := (h.2.2 i v hi).1
/-- locals that are forgotten -/
theorem z_Lh.kill {ls : Array Slot} {lo : List (Option Value)} (h : z_Lh ls lo) (i : Nat) : z_Lh ls (lo.set i none) := by
  refine ⟨by rw [h.1, List.length_set], h.2.1, fun j w hj => ?_⟩
  by_cases hji : j = i
  · subst hji
    by_cases hl : j < lo.length
    · rw [List.getElem?_set_self hl] at hj; cases hj
    · rw [List.getElem?_eq_none (by simp; omega)] at hj; cases hj
  · rw [List.getElem?_set_ne (Ne.symm hji)] at hj
    exact h.2.2 j w hj
def z_kills : List Nat → List (Option Value) → List (Option Value)
  | [], lo => lo
  | k :: ks, lo => z_kills ks (lo.set k none)
theorem z_Lh.kills : ∀ {ks : List Nat} {ls : Array Slot} {lo : List (Option Value)}, z_Lh ls lo → z_Lh ls (z_kills ks lo)
  | [], _, _, h => h
  | k :: _, _, _, h => (h.kill k).kills
/-- what every method of the claim may know beside its cells: the one link between nest mates -/
def z_nest : Cond := .methodLinkNest "PlantedDoubts$Law" 32 ⟨"PlantedDoubts", "isThing", "(I)Z"⟩ "PlantedDoubts"

def z_sb0 : List Int32 := [104, 101, 105, 103, 104, 116, 32, 116, 101, 110, 100, 101, 114, 32, 119, 97, 116, 101, 114, 32, 100, 101, 103, 114, 101, 101, 32, 116, 104, 105, 110, 103, 32, 119, 101, 101, 107, 32, 115, 117, 114, 101, 115, 32, 108, 105, 110, 101, 115, 32, 103, 114, 111, 119, 32, 108, 111, 119, 101, 114, 32, 115, 101, 101, 100, 32, 119, 104, 101, 110, 32, 111, 114, 32, 97, 110, 100, 32, 110, 111, 116, 32, 102, 114, 111, 109, 32, 103, 105, 118, 101, 115, 32, 99, 108, 97, 115, 104, 101, 115, 32, 119, 111, 114, 107, 32, 115, 117, 114, 101, 32, 100, 111, 117, 98, 116, 115, 32, 111, 110, 32, 112, 111, 116, 32, 111, 102, 32, 98, 121, 32, 119, 101, 101, 100, 32, 116, 101, 108, 108, 32, 116, 111, 32]
def z_sb1 : List Int32 := [59, 43, 45, 42, 47, 40, 41, 60, 61, 62]
def z_len : List Nat := [144, 10]
def z_byt : List (List Int32) := [z_sb0, z_sb1]
def z_sn (i : Nat) : Nat := z_len.getD i 0
def z_by (i k : Nat) : Int32 := (z_byt.getD i []).getD k 0
def z_tx0 : String := "height tender water degree thing week sures lines grow lower seed when or and not from gives clashes work sure doubts on pot of by weed tell to "
def z_tx1 : String := ";+-*/()<=>"
def z_fmt (A : Nat → Prop) (U : State) (H : Heap) : Prop := va_Zq "jdk/internal/util/Preconditions" "SIOOBE_FORMATTER" "Ljava/util/function/BiFunction;" A U H
def z_Gs (S : z_S) (a : Nat → Nat) (U : State) (H : Heap) : Prop := va_Nw z_nest U ∧ vk_S 2 z_len z_byt (fun i => a (1000 + i)) (fun i => a (2000 + i)) (z_A S a) U H ∧ vk_R "PlantedDoubts$Tape" 67 z_tx0 (a 1000) U ∧ vk_R "PlantedDoubts$Tape" 60 z_tx1 (a 1001) U ∧ va_Z "java/lang/String" "COMPACT_STRINGS" "Z" (.int 1) (z_A S a) U H ∧ z_fmt (z_A S a) U H
theorem z_Gs.moved {S : z_S} {a : Nat → Nat} {s U : State} {H0 H : Heap} {locs : List Loc} (h : z_Gs S a s H0) (hW : s.WarmedH U.vm) (hS : va_S (z_A S a) H0 H locs) : z_Gs S a U H :=
  ⟨va_Nw.warmM hW h.1, (h.2.1.moved hW.alike).kept hS.2.1, h.2.2.1.warm hW, h.2.2.2.1.warm hW, (h.2.2.2.2.1.moved hW.alike).kept hS.2.1, (va_Zq.moved hW.alike h.2.2.2.2.2).kept hS.2.1⟩
theorem z_Gs.same {S : z_S} {a : Nat → Nat} {s U : State} {H0 : Heap} (h : z_Gs S a s H0) (hv : U.vm = s.vm) : z_Gs S a U H0 := by
  have ha : s.vm.Alike U.vm := by rw [hv]; exact Vm.Alike.refl s.vm
  exact ⟨va_Nw.same rfl hv.symm h.1, h.2.1.moved ha, h.2.2.1.same hv, h.2.2.2.1.same hv, h.2.2.2.2.1.moved ha, va_Zq.moved ha h.2.2.2.2.2⟩
theorem z_Gs.nest {S : z_S} {a : Nat → Nat} {s : State} {H0 : Heap} (h : z_Gs S a s H0) : va_Nw z_nest s := h.1

def z_Q (S : z_S) (D : va_G) (Y : z_Y) (a : Nat → Nat) (o : Option Value × z_M) : Array Value → State → Outcome → State → Prop := fun _ st oc t => oc = .returned o.1 ∧ va_P D z_cl (z_wl S Y a o.2) t.heap ∧ va_F (z_A S a) st t
/-- the shape's own laws -/
def z_ok (S : z_S) : Prop := (∀ c, S.1 c < 200 → c < S.2.2.2) ∧ ∀ c q, z_cl[S.1 c]? = some q → S.2.1 c = q.2.2
/-- what holds in a method's body: own class, code, locals, depth -/
def z_Cx (S : z_S) (X : z_Ct) (own : String) (cc : ByteArray) (nL d : Nat) (ret : Option FieldType) : Prop := match X with
  | (p, l, e, R, s, m, args, below, meth, c, D, Y, a) => p.tables.exec = Jvm.exec ∧ c.code = cc ∧ c.maxLocals = nL ∧ s.vm.findClass own = some m.cls ∧ (∀ w ∈ z_T, w.before args s = true) ∧ va_K D z_cl (z_ty Y) s ∧ z_In S a ∧ z_ok S ∧ meth.locks = false ∧ meth.sig.returnType = ret ∧ (d ≤ R.frames ∧ 64 * d ≤ R.locals) ∧ z_Gs S a s s.heap
def z_W (S : z_S) (X : z_Ct) (pc : Nat) (lo : List (Option Value)) (st : List Value) (σ : z_M) (o : Option Value × z_M) : Prop := match X with
  | (p, l, e, R, s, m, args, below, meth, c, D, Y, a) => ∀ (H : Heap) (locs : List Loc) (ls : Array Slot), va_P D z_cl (z_wl S Y a σ) H → va_S (z_A S a) s.heap H locs → z_Lh ls lo → W p l e R s m args below meth c H locs 0 0 (MQ below (z_Q S D Y a o) args s 0 0 (z_A S a)) (F0 m pc ls st)
def z_rm (d : Nat) : Room := { frames := d, cells := 0, slots := 0, locals := 64 * d }
/-- a method's contract over the cells -/
def z_Mt (y : MethodName) (w : List Cond) (d : Nat) (S : z_S) (a : Nat → Nat) (σ : z_M) (vs : List Value) (o : Option Value × z_M) : Prop := ∀ (l : Launch) (D : va_G) (Y : z_Y), z_In S a → z_ok S → Met l y w (z_rm d) (va_Pc vs (fun U => va_P D z_cl (z_wl S Y a σ) U.heap ∧ va_K D z_cl (z_ty Y) U ∧ z_Gs S a U U.heap)) (z_Q S D Y a o) 0 0 (z_A S a)
def z_let {α β : Type} (x : α) (f : α → Option β) : Option β := f x
def z_chk {β : Type} (b : Bool) (k : Option β) : Option β := if b = true then k else none
def z_bnd {α β : Type} (m : Option (α × z_M)) (f : α → z_M → Option β) : Option β := match m with
  | some q => f q.1 q.2
  | none => none
def z_in (i : Int32) (n : Nat) : Bool := !(decide (i < 0)) && decide (i.toNatClampNeg < n)
def z_ix (i : Int32) : Nat := i.toNatClampNeg
def z_01 (v : Int32) : Bool := decide (v = 0) || decide (v = 1)
def z_shl (x y : Int32) : Int32 := x <<< (y &&& 31)
def z_shr (x y : Int32) : Int32 := x >>> (y &&& 31)
def z_ushr (x y : Int32) : Int32 := (x.toUInt32 >>> (y.toUInt32 &&& Int32.toUInt32 31)).toInt32
def z_rem (x y : Int32) : Int32 := x - x / y * y
def z_max (x y : Int32) : Int32 := if x < y then y else x
def z_min (x y : Int32) : Int32 := if y < x then y else x
def z_cpy (σ : z_M) (c0 : Nat) (sp : Int32) (c1 : Nat) (dp n : Int32) : z_M := z_row σ c1 (va_cpy (σ c0) (σ c1) sp.toNatClampNeg dp.toNatClampNeg n.toNatClampNeg)
def z_cok (n0 : Nat) (sp : Int32) (n1 : Nat) (dp n : Int32) : Bool := !(decide (sp < 0)) && (!(decide (dp < 0)) && (!(decide (n < 0)) && (decide (sp.toNatClampNeg + n.toNatClampNeg ≤ n0) && decide (dp.toNatClampNeg + n.toNatClampNeg ≤ n1))))
def z_fu : Nat := 1000
def z_oi (o : Int32 × z_M) : Option Value × z_M := (some (.int o.1), o.2)
def z_ov (o : Unit × z_M) : Option Value × z_M := (none, o.2)
def z_or (X : z_Ct) (o : Nat × z_M) : Option Value × z_M := (some (.ref (z_a X o.1)), o.2)
theorem z_let_some {α β : Type} {x : α} {f : α → Option β} {o : β} (h : z_let x f = some o) : ∃ y, y = x ∧ f y = some o := ⟨x, rfl, h⟩
theorem z_chk_some {β : Type} {b : Bool} {k : Option β} {o : β} (h : z_chk b k = some o) : b = true ∧ k = some o := by
  unfold z_chk at h
  by_cases hb : b = true
  · rw [if_pos hb] at h; exact ⟨hb, h⟩
  · rw [if_neg hb] at h; cases h
theorem z_bnd_some {α β : Type} {m : Option (α × z_M)} {f : α → z_M → Option β} {o : β} (h : z_bnd m f = some o) : ∃ q, m = some q ∧ f q.1 q.2 = some o := by
  cases m with
  | none => cases h
  | some q => exact ⟨q, rfl, h⟩
theorem z_pos {α : Type} {c : Prop} {hd : Decidable c} {A B : Option α} {o : α} (hc : c) (h : (@ite _ c hd A B) = some o) : A = some o := by rw [if_pos hc] at h; exact h
theorem z_neg {α : Type} {c : Prop} {hd : Decidable c} {A B : Option α} {o : α} (hc : ¬ c) (h : (@ite _ c hd A B) = some o) : B = some o := by rw [if_neg hc] at h; exact h
theorem z_in_vp {i : Int32} {n : Nat} (h : z_in i n = true) : vp_in i n := by
  unfold z_in at h
  simp only [Bool.and_eq_true, Bool.not_eq_true', decide_eq_false_iff_not, decide_eq_true_eq] at h
  exact fun q => q.elim h.1 (fun g => by omega)
section ZR
variable {S : z_S} {X : z_Ct} {own : String} {cc : ByteArray} {nL d : Nat} {ret : Option FieldType} {pc : Nat} {lo : List (Option Value)} {st : List Value} {σ : z_M} {o : Option Value × z_M}
theorem z_top {x y : Int32} (e : y = x) (k : z_W S X pc lo (.int y :: st) σ o) : z_W S X pc lo (.int x :: st) σ o := e ▸ k
theorem z_kill {lo' : List (Option Value)} (ks : List Nat) (hl : z_kills ks lo = lo') (k : z_W S X pc lo' st σ o) : z_W S X pc lo st σ o := by
  obtain ⟨p, l, e, R, s, m, args, below, meth, c, D, Y, a⟩ := X
  intro H locs ls hP hS hl2
  exact k H locs ls hP hS (hl ▸ hl2.kills)
theorem z_at {st' : List Value} {lo' : List (Option Value)} {pc' : Nat} (e1 : pc' = pc) (e2 : lo' = lo) (e3 : st' = st) (k : z_W S X pc' lo' st' σ o) : z_W S X pc lo st σ o := by subst e1 e2 e3; exact k
theorem z_iconst (C : z_Cx S X own cc nL d ret) {n : Int} {v : Int32} (hd : decode cc pc = .ok (.iconst n, 1)) (hv : Int32.ofInt n = v) (k : z_W S X (pc + 1) lo (.int v :: st) σ o) : z_W S X pc lo (st) σ o := by
  obtain ⟨p, l, e, R, s, m, args, below, meth, c, D, Y, a⟩ := X
  obtain ⟨hx, hb, hml, hown, hts, hK, hI, hok, hlk, hr, hR, hG⟩ := C
  intro H locs ls hP hS hl
  exact lv_iconst hx hb hd hv (k H locs ls hP hS hl)
theorem z_bipush (C : z_Cx S X own cc nL d ret) {n : Int} {v : Int32} (hd : decode cc pc = .ok (.bipush n, 2)) (hv : (Int8.ofInt n).toInt32 = v) (k : z_W S X (pc + 2) lo (.int v :: st) σ o) : z_W S X pc lo (st) σ o := by
  obtain ⟨p, l, e, R, s, m, args, below, meth, c, D, Y, a⟩ := X
  obtain ⟨hx, hb, hml, hown, hts, hK, hI, hok, hlk, hr, hR, hG⟩ := C
  intro H locs ls hP hS hl
  exact lv_bipush hx hb hd hv (k H locs ls hP hS hl)
theorem z_sipush (C : z_Cx S X own cc nL d ret) {n : Int} {v : Int32} (hd : decode cc pc = .ok (.sipush n, 3)) (hv : (Int16.ofInt n).toInt32 = v) (k : z_W S X (pc + 3) lo (.int v :: st) σ o) : z_W S X pc lo (st) σ o := by
  obtain ⟨p, l, e, R, s, m, args, below, meth, c, D, Y, a⟩ := X
  obtain ⟨hx, hb, hml, hown, hts, hK, hI, hok, hlk, hr, hR, hG⟩ := C
  intro H locs ls hP hS hl
  exact lv_sipush hx hb hd hv (k H locs ls hP hS hl)
theorem z_iload (C : z_Cx S X own cc nL d ret) {i : Nat} {x : Int32} (hd : decode cc pc = .ok (.iload i, 2)) (hl2 : lo[i]? = some (some (.int x))) (k : z_W S X (pc + 2) lo (.int x :: st) σ o) : z_W S X pc lo (st) σ o := by
  obtain ⟨p, l, e, R, s, m, args, below, meth, c, D, Y, a⟩ := X
  obtain ⟨hx, hb, hml, hown, hts, hK, hI, hok, hlk, hr, hR, hG⟩ := C
  intro H locs ls hP hS hl
  exact lv_iload hx hb hd (hl.at hl2) (k H locs ls hP hS hl)
theorem z_iload_n (C : z_Cx S X own cc nL d ret) {i : Fin 4} {x : Int32} (hd : decode cc pc = .ok (.iload_n i, 1)) {j : Nat} (hj : (i : Nat) = j) (hl2 : lo[j]? = some (some (.int x))) (k : z_W S X (pc + 1) lo (.int x :: st) σ o) : z_W S X pc lo (st) σ o := by
  obtain ⟨p, l, e, R, s, m, args, below, meth, c, D, Y, a⟩ := X
  obtain ⟨hx, hb, hml, hown, hts, hK, hI, hok, hlk, hr, hR, hG⟩ := C
  intro H locs ls hP hS hl
  exact lv_iload_n hx hb hd hj (hl.at hl2) (k H locs ls hP hS hl)
theorem z_aload (C : z_Cx S X own cc nL d ret) {i : Nat} {x : Nat} (hd : decode cc pc = .ok (.aload i, 2)) (hl2 : lo[i]? = some (some (.ref x))) (k : z_W S X (pc + 2) lo (.ref x :: st) σ o) : z_W S X pc lo (st) σ o := by
  obtain ⟨p, l, e, R, s, m, args, below, meth, c, D, Y, a⟩ := X
  obtain ⟨hx, hb, hml, hown, hts, hK, hI, hok, hlk, hr, hR, hG⟩ := C
  intro H locs ls hP hS hl
  exact lv_aload hx hb hd (hl.at hl2) (k H locs ls hP hS hl)
theorem z_aload_n (C : z_Cx S X own cc nL d ret) {i : Fin 4} {x : Nat} (hd : decode cc pc = .ok (.aload_n i, 1)) {j : Nat} (hj : (i : Nat) = j) (hl2 : lo[j]? = some (some (.ref x))) (k : z_W S X (pc + 1) lo (.ref x :: st) σ o) : z_W S X pc lo (st) σ o := by
  obtain ⟨p, l, e, R, s, m, args, below, meth, c, D, Y, a⟩ := X
  obtain ⟨hx, hb, hml, hown, hts, hK, hI, hok, hlk, hr, hR, hG⟩ := C
  intro H locs ls hP hS hl
  exact lv_aload_n hx hb hd hj (hl.at hl2) (k H locs ls hP hS hl)
theorem z_iadd (C : z_Cx S X own cc nL d ret) {x y : Int32} (hd : decode cc pc = .ok (.iadd, 1)) (k : z_W S X (pc + 1) lo (.int (x + y) :: st) σ o) : z_W S X pc lo (.int y :: .int x :: st) σ o := by
  obtain ⟨p, l, e, R, s, m, args, below, meth, c, D, Y, a⟩ := X
  obtain ⟨hx, hb, hml, hown, hts, hK, hI, hok, hlk, hr, hR, hG⟩ := C
  intro H locs ls hP hS hl
  exact lv_iadd hx hb hd (k H locs ls hP hS hl)
theorem z_isub (C : z_Cx S X own cc nL d ret) {x y : Int32} (hd : decode cc pc = .ok (.isub, 1)) (k : z_W S X (pc + 1) lo (.int (x - y) :: st) σ o) : z_W S X pc lo (.int y :: .int x :: st) σ o := by
  obtain ⟨p, l, e, R, s, m, args, below, meth, c, D, Y, a⟩ := X
  obtain ⟨hx, hb, hml, hown, hts, hK, hI, hok, hlk, hr, hR, hG⟩ := C
  intro H locs ls hP hS hl
  exact lv_isub hx hb hd (k H locs ls hP hS hl)
theorem z_imul (C : z_Cx S X own cc nL d ret) {x y : Int32} (hd : decode cc pc = .ok (.imul, 1)) (k : z_W S X (pc + 1) lo (.int (x * y) :: st) σ o) : z_W S X pc lo (.int y :: .int x :: st) σ o := by
  obtain ⟨p, l, e, R, s, m, args, below, meth, c, D, Y, a⟩ := X
  obtain ⟨hx, hb, hml, hown, hts, hK, hI, hok, hlk, hr, hR, hG⟩ := C
  intro H locs ls hP hS hl
  exact lv_imul hx hb hd (k H locs ls hP hS hl)
theorem z_iand (C : z_Cx S X own cc nL d ret) {x y : Int32} (hd : decode cc pc = .ok (.iand, 1)) (k : z_W S X (pc + 1) lo (.int (x &&& y) :: st) σ o) : z_W S X pc lo (.int y :: .int x :: st) σ o := by
  obtain ⟨p, l, e, R, s, m, args, below, meth, c, D, Y, a⟩ := X
  obtain ⟨hx, hb, hml, hown, hts, hK, hI, hok, hlk, hr, hR, hG⟩ := C
  intro H locs ls hP hS hl
  exact lv_iand hx hb hd (k H locs ls hP hS hl)
theorem z_ior (C : z_Cx S X own cc nL d ret) {x y : Int32} (hd : decode cc pc = .ok (.ior, 1)) (k : z_W S X (pc + 1) lo (.int (x ||| y) :: st) σ o) : z_W S X pc lo (.int y :: .int x :: st) σ o := by
  obtain ⟨p, l, e, R, s, m, args, below, meth, c, D, Y, a⟩ := X
  obtain ⟨hx, hb, hml, hown, hts, hK, hI, hok, hlk, hr, hR, hG⟩ := C
  intro H locs ls hP hS hl
  exact lv_ior hx hb hd (k H locs ls hP hS hl)
theorem z_ixor (C : z_Cx S X own cc nL d ret) {x y : Int32} (hd : decode cc pc = .ok (.ixor, 1)) (k : z_W S X (pc + 1) lo (.int (x ^^^ y) :: st) σ o) : z_W S X pc lo (.int y :: .int x :: st) σ o := by
  obtain ⟨p, l, e, R, s, m, args, below, meth, c, D, Y, a⟩ := X
  obtain ⟨hx, hb, hml, hown, hts, hK, hI, hok, hlk, hr, hR, hG⟩ := C
  intro H locs ls hP hS hl
  exact lv_ixor hx hb hd (k H locs ls hP hS hl)
theorem z_ishl (C : z_Cx S X own cc nL d ret) {x y : Int32} (hd : decode cc pc = .ok (.ishl, 1)) (k : z_W S X (pc + 1) lo (.int (z_shl x y) :: st) σ o) : z_W S X pc lo (.int y :: .int x :: st) σ o := by
  obtain ⟨p, l, e, R, s, m, args, below, meth, c, D, Y, a⟩ := X
  obtain ⟨hx, hb, hml, hown, hts, hK, hI, hok, hlk, hr, hR, hG⟩ := C
  intro H locs ls hP hS hl
  exact lv_ishl hx hb hd (k H locs ls hP hS hl)
theorem z_ishr (C : z_Cx S X own cc nL d ret) {x y : Int32} (hd : decode cc pc = .ok (.ishr, 1)) (k : z_W S X (pc + 1) lo (.int (z_shr x y) :: st) σ o) : z_W S X pc lo (.int y :: .int x :: st) σ o := by
  obtain ⟨p, l, e, R, s, m, args, below, meth, c, D, Y, a⟩ := X
  obtain ⟨hx, hb, hml, hown, hts, hK, hI, hok, hlk, hr, hR, hG⟩ := C
  intro H locs ls hP hS hl
  exact lv_ishr hx hb hd (k H locs ls hP hS hl)
theorem z_idiv (C : z_Cx S X own cc nL d ret) {x y : Int32} (hd : decode cc pc = .ok (.idiv, 1)) (hne : ¬ y = 0) (k : z_W S X (pc + 1) lo (.int (x / y) :: st) σ o) : z_W S X pc lo (.int y :: .int x :: st) σ o := by
  obtain ⟨p, l, e, R, s, m, args, below, meth, c, D, Y, a⟩ := X
  obtain ⟨hx, hb, hml, hown, hts, hK, hI, hok, hlk, hr, hR, hG⟩ := C
  intro H locs ls hP hS hl
  exact lv_idiv hx hb hd hne (k H locs ls hP hS hl)
theorem z_irem (C : z_Cx S X own cc nL d ret) {x y : Int32} (hd : decode cc pc = .ok (.irem, 1)) (hne : ¬ y = 0) (k : z_W S X (pc + 1) lo (.int (z_rem x y) :: st) σ o) : z_W S X pc lo (.int y :: .int x :: st) σ o := by
  obtain ⟨p, l, e, R, s, m, args, below, meth, c, D, Y, a⟩ := X
  obtain ⟨hx, hb, hml, hown, hts, hK, hI, hok, hlk, hr, hR, hG⟩ := C
  intro H locs ls hP hS hl
  exact lv_irem hx hb hd hne (k H locs ls hP hS hl)
theorem z_ineg (C : z_Cx S X own cc nL d ret) {x : Int32} (hd : decode cc pc = .ok (.ineg, 1)) (k : z_W S X (pc + 1) lo (.int (-x) :: st) σ o) : z_W S X pc lo (.int x :: st) σ o := by
  obtain ⟨p, l, e, R, s, m, args, below, meth, c, D, Y, a⟩ := X
  obtain ⟨hx, hb, hml, hown, hts, hK, hI, hok, hlk, hr, hR, hG⟩ := C
  intro H locs ls hP hS hl
  exact lv_ineg hx hb hd (k H locs ls hP hS hl)
theorem z_iushr (C : z_Cx S X own cc nL d ret) {x y : Int32} (hd : decode cc pc = .ok (.iushr, 1)) (k : z_W S X (pc + 1) lo (.int (z_ushr x y) :: st) σ o) : z_W S X pc lo (.int y :: .int x :: st) σ o := by
  obtain ⟨p, l, e, R, s, m, args, below, meth, c, D, Y, a⟩ := X
  obtain ⟨hx, hb, hml, hown, hts, hK, hI, hok, hlk, hr, hR, hG⟩ := C
  intro H locs ls hP hS hl
  exact lv_iushr hx hb hd rfl (k H locs ls hP hS hl)
theorem z_i2b (C : z_Cx S X own cc nL d ret) {x : Int32} (hd : decode cc pc = .ok (.i2b, 1)) (k : z_W S X (pc + 1) lo (.int (x.toInt8.toInt32) :: st) σ o) : z_W S X pc lo (.int x :: st) σ o := by
  obtain ⟨p, l, e, R, s, m, args, below, meth, c, D, Y, a⟩ := X
  obtain ⟨hx, hb, hml, hown, hts, hK, hI, hok, hlk, hr, hR, hG⟩ := C
  intro H locs ls hP hS hl
  exact lv_i2b hx hb hd rfl (k H locs ls hP hS hl)
theorem z_i2c (C : z_Cx S X own cc nL d ret) {x : Int32} (hd : decode cc pc = .ok (.i2c, 1)) (k : z_W S X (pc + 1) lo (.int ((x.toUInt32 % 65536).toInt32) :: st) σ o) : z_W S X pc lo (.int x :: st) σ o := by
  obtain ⟨p, l, e, R, s, m, args, below, meth, c, D, Y, a⟩ := X
  obtain ⟨hx, hb, hml, hown, hts, hK, hI, hok, hlk, hr, hR, hG⟩ := C
  intro H locs ls hP hS hl
  exact lv_i2c hx hb hd rfl (k H locs ls hP hS hl)
theorem z_dup (C : z_Cx S X own cc nL d ret) {v : Value} (hd : decode cc pc = .ok (.dup, 1)) (hc : v.category = 1) (k : z_W S X (pc + 1) lo (v :: v :: st) σ o) : z_W S X pc lo (v :: st) σ o := by
  obtain ⟨p, l, e, R, s, m, args, below, meth, c, D, Y, a⟩ := X
  obtain ⟨hx, hb, hml, hown, hts, hK, hI, hok, hlk, hr, hR, hG⟩ := C
  intro H locs ls hP hS hl
  exact lv_dup hx hb hd hc (k H locs ls hP hS hl)
theorem z_pop (C : z_Cx S X own cc nL d ret) {v : Value} (hd : decode cc pc = .ok (.pop, 1)) (hc : v.category = 1) (k : z_W S X (pc + 1) lo (st) σ o) : z_W S X pc lo (v :: st) σ o := by
  obtain ⟨p, l, e, R, s, m, args, below, meth, c, D, Y, a⟩ := X
  obtain ⟨hx, hb, hml, hown, hts, hK, hI, hok, hlk, hr, hR, hG⟩ := C
  intro H locs ls hP hS hl
  exact lv_pop hx hb hd hc (k H locs ls hP hS hl)
theorem z_dup2 (C : z_Cx S X own cc nL d ret) {v w : Value} (hd : decode cc pc = .ok (.dup2, 1)) (hc : v.category = 1) (hc2 : w.category = 1) (k : z_W S X (pc + 1) lo (v :: w :: v :: w :: st) σ o) : z_W S X pc lo (v :: w :: st) σ o := by
  obtain ⟨p, l, e, R, s, m, args, below, meth, c, D, Y, a⟩ := X
  obtain ⟨hx, hb, hml, hown, hts, hK, hI, hok, hlk, hr, hR, hG⟩ := C
  intro H locs ls hP hS hl
  exact lv_dup2_11 hx hb hd hc hc2 (k H locs ls hP hS hl)
theorem z_dup_x1 (C : z_Cx S X own cc nL d ret) {v w : Value} (hd : decode cc pc = .ok (.dup_x1, 1)) (hc : v.category = 1) (hc2 : w.category = 1) (k : z_W S X (pc + 1) lo (v :: w :: v :: st) σ o) : z_W S X pc lo (v :: w :: st) σ o := by
  obtain ⟨p, l, e, R, s, m, args, below, meth, c, D, Y, a⟩ := X
  obtain ⟨hx, hb, hml, hown, hts, hK, hI, hok, hlk, hr, hR, hG⟩ := C
  intro H locs ls hP hS hl
  exact lv_dup_x1 hx hb hd hc hc2 (k H locs ls hP hS hl)
theorem z_ldc (C : z_Cx S X own cc nL d ret) {index : Nat} {v : Int32} (hd : decode cc pc = .ok (.ldc index, 2)) (hc : Cond.constant own index v ∈ z_T) (k : z_W S X (pc + 2) lo (.int v :: st) σ o) : z_W S X pc lo st σ o := by
  obtain ⟨p, l, e, R, s, m, args, below, meth, c, D, Y, a⟩ := X
  obtain ⟨hx, hb, hml, hown, hts, hK, hI, hok, hlk, hr, hR, hG⟩ := C
  intro H locs ls hP hS hl
  exact lv_ldc hx hb hown (hts _ hc) hd (k H locs ls hP hS hl)
theorem z_ldcw (C : z_Cx S X own cc nL d ret) {index : Nat} {v : Int32} (hd : decode cc pc = .ok (.ldc_w index, 3)) (hc : Cond.constant own index v ∈ z_T) (k : z_W S X (pc + 3) lo (.int v :: st) σ o) : z_W S X pc lo st σ o := by
  obtain ⟨p, l, e, R, s, m, args, below, meth, c, D, Y, a⟩ := X
  obtain ⟨hx, hb, hml, hown, hts, hK, hI, hok, hlk, hr, hR, hG⟩ := C
  intro H locs ls hP hS hl
  exact lv_ldcw hx hb hown (hts _ hc) hd (k H locs ls hP hS hl)
theorem z_istore (C : z_Cx S X own cc nL d ret) {i : Nat} {x : Int32} {lo' : List (Option Value)} (hd : decode cc pc = .ok (.istore i, 2)) (hi : i < lo.length) (hl2 : lo.set i (some (.int x)) = lo') (k : z_W S X (pc + 2) lo' st σ o) : z_W S X pc lo (.int x :: st) σ o := by
  obtain ⟨p, l, e, R, s, m, args, below, meth, c, D, Y, a⟩ := X
  obtain ⟨hx, hb, hml, hown, hts, hK, hI, hok, hlk, hr, hR, hG⟩ := C
  intro H locs ls hP hS hl
  exact lv_istore hx hb hd hl.has hi rfl (fun ls' h' => k H locs ls' hP hS (hl2 ▸ hl.of rfl hi h'))
theorem z_istore_n (C : z_Cx S X own cc nL d ret) {i : Fin 4} {j : Nat} {x : Int32} {lo' : List (Option Value)} (hd : decode cc pc = .ok (.istore_n i, 1)) (hj : (i : Nat) = j) (hi : j < lo.length) (hl2 : lo.set j (some (.int x)) = lo') (k : z_W S X (pc + 1) lo' st σ o) : z_W S X pc lo (.int x :: st) σ o := by
  obtain ⟨p, l, e, R, s, m, args, below, meth, c, D, Y, a⟩ := X
  obtain ⟨hx, hb, hml, hown, hts, hK, hI, hok, hlk, hr, hR, hG⟩ := C
  intro H locs ls hP hS hl
  exact lv_istore_n hx hb hd hj hl.has hi rfl (fun ls' h' => k H locs ls' hP hS (hl2 ▸ hl.of rfl hi h'))
theorem z_astore (C : z_Cx S X own cc nL d ret) {i : Nat} {x : Nat} {lo' : List (Option Value)} (hd : decode cc pc = .ok (.astore i, 2)) (hi : i < lo.length) (hl2 : lo.set i (some (.ref x)) = lo') (k : z_W S X (pc + 2) lo' st σ o) : z_W S X pc lo (.ref x :: st) σ o := by
  obtain ⟨p, l, e, R, s, m, args, below, meth, c, D, Y, a⟩ := X
  obtain ⟨hx, hb, hml, hown, hts, hK, hI, hok, hlk, hr, hR, hG⟩ := C
  intro H locs ls hP hS hl
  exact lv_astore hx hb hd hl.has hi rfl (fun ls' h' => k H locs ls' hP hS (hl2 ▸ hl.of rfl hi h'))
theorem z_astore_n (C : z_Cx S X own cc nL d ret) {i : Fin 4} {j : Nat} {x : Nat} {lo' : List (Option Value)} (hd : decode cc pc = .ok (.astore_n i, 1)) (hj : (i : Nat) = j) (hi : j < lo.length) (hl2 : lo.set j (some (.ref x)) = lo') (k : z_W S X (pc + 1) lo' st σ o) : z_W S X pc lo (.ref x :: st) σ o := by
  obtain ⟨p, l, e, R, s, m, args, below, meth, c, D, Y, a⟩ := X
  obtain ⟨hx, hb, hml, hown, hts, hK, hI, hok, hlk, hr, hR, hG⟩ := C
  intro H locs ls hP hS hl
  exact lv_astore_n hx hb hd hj hl.has hi rfl (fun ls' h' => k H locs ls' hP hS (hl2 ▸ hl.of rfl hi h'))
theorem z_iinc (C : z_Cx S X own cc nL d ret) {i : Nat} {n : Int} {x v : Int32} {lo' : List (Option Value)} (hd : decode cc pc = .ok (.iinc i n, 3)) (hx0 : lo[i]? = some (some (.int x))) (hv : x + Int32.ofInt n = v) (hl2 : lo.set i (some (.int v)) = lo') (k : z_W S X (pc + 3) lo' st σ o) : z_W S X pc lo st σ o := by
  obtain ⟨p, l, e, R, s, m, args, below, meth, c, D, Y, a⟩ := X
  obtain ⟨hx, hb, hml, hown, hts, hK, hI, hok, hlk, hr, hR, hG⟩ := C
  intro H locs ls hP hS hl
  have hi : i < lo.length := (List.getElem?_eq_some_iff.mp hx0).1
  obtain ⟨kk, hk⟩ := List.getElem?_of_mem (z_pl_mem.mpr hx0)
  exact lv_iinc hx hb hd hl.has hk hv hi rfl (fun ls' h' => k H locs ls' hP hS (hl2 ▸ hl.of rfl hi h'))
theorem z_goto (C : z_Cx S X own cc nL d ret) {off : Int} {tgt : Nat} (hd : decode cc pc = .ok (.goto off, 3)) (ht : (pc : Int) + off = (tgt : Int)) (k : z_W S X tgt lo st σ o) : z_W S X pc lo st σ o := by
  obtain ⟨p, l, e, R, s, m, args, below, meth, c, D, Y, a⟩ := X
  obtain ⟨hx, hb, hml, hown, hts, hK, hI, hok, hlk, hr, hR, hG⟩ := C
  intro H locs ls hP hS hl
  exact lv_goto hx hb hd ht (k H locs ls hP hS hl)
theorem z_icmp_eq (C : z_Cx S X own cc nL d ret) {x y : Int32} {off : Int} {tgt : Nat} (hd : decode cc pc = .ok (.if_icmp .eq off, 3)) (ht : (pc : Int) + off = (tgt : Int)) (kt : x = y → z_W S X tgt lo st σ o) (kf : ¬ x = y → z_W S X (pc + 3) lo st σ o) : z_W S X pc lo (.int y :: .int x :: st) σ o := by
  obtain ⟨p, l, e, R, s, m, args, below, meth, c, D, Y, a⟩ := X
  obtain ⟨hx, hb, hml, hown, hts, hK, hI, hok, hlk, hr, hR, hG⟩ := C
  intro H locs ls hP hS hl
  exact lv_icmp_eq hx hb hd ht (fun g => kt (g) H locs ls hP hS hl) (fun g => kf (g) H locs ls hP hS hl)
theorem z_icmp_ne (C : z_Cx S X own cc nL d ret) {x y : Int32} {off : Int} {tgt : Nat} (hd : decode cc pc = .ok (.if_icmp .ne off, 3)) (ht : (pc : Int) + off = (tgt : Int)) (kt : ¬ x = y → z_W S X tgt lo st σ o) (kf : x = y → z_W S X (pc + 3) lo st σ o) : z_W S X pc lo (.int y :: .int x :: st) σ o := by
  obtain ⟨p, l, e, R, s, m, args, below, meth, c, D, Y, a⟩ := X
  obtain ⟨hx, hb, hml, hown, hts, hK, hI, hok, hlk, hr, hR, hG⟩ := C
  intro H locs ls hP hS hl
  exact lv_icmp_ne hx hb hd ht (fun g => kt (g) H locs ls hP hS hl) (fun g => kf (g) H locs ls hP hS hl)
theorem z_icmp_lt (C : z_Cx S X own cc nL d ret) {x y : Int32} {off : Int} {tgt : Nat} (hd : decode cc pc = .ok (.if_icmp .lt off, 3)) (ht : (pc : Int) + off = (tgt : Int)) (kt : x < y → z_W S X tgt lo st σ o) (kf : ¬ x < y → z_W S X (pc + 3) lo st σ o) : z_W S X pc lo (.int y :: .int x :: st) σ o := by
  obtain ⟨p, l, e, R, s, m, args, below, meth, c, D, Y, a⟩ := X
  obtain ⟨hx, hb, hml, hown, hts, hK, hI, hok, hlk, hr, hR, hG⟩ := C
  intro H locs ls hP hS hl
  exact lv_icmp_lt hx hb hd ht (fun g => kt (g) H locs ls hP hS hl) (fun g => kf (g) H locs ls hP hS hl)
theorem z_icmp_ge (C : z_Cx S X own cc nL d ret) {x y : Int32} {off : Int} {tgt : Nat} (hd : decode cc pc = .ok (.if_icmp .ge off, 3)) (ht : (pc : Int) + off = (tgt : Int)) (kt : ¬ x < y → z_W S X tgt lo st σ o) (kf : x < y → z_W S X (pc + 3) lo st σ o) : z_W S X pc lo (.int y :: .int x :: st) σ o := by
  obtain ⟨p, l, e, R, s, m, args, below, meth, c, D, Y, a⟩ := X
  obtain ⟨hx, hb, hml, hown, hts, hK, hI, hok, hlk, hr, hR, hG⟩ := C
  intro H locs ls hP hS hl
  exact lv_icmp_ge hx hb hd ht (fun g => kt (Int32.not_lt.mpr g) H locs ls hP hS hl) (fun g => kf (Int32.not_le.mp g) H locs ls hP hS hl)
theorem z_icmp_gt (C : z_Cx S X own cc nL d ret) {x y : Int32} {off : Int} {tgt : Nat} (hd : decode cc pc = .ok (.if_icmp .gt off, 3)) (ht : (pc : Int) + off = (tgt : Int)) (kt : y < x → z_W S X tgt lo st σ o) (kf : ¬ y < x → z_W S X (pc + 3) lo st σ o) : z_W S X pc lo (.int y :: .int x :: st) σ o := by
  obtain ⟨p, l, e, R, s, m, args, below, meth, c, D, Y, a⟩ := X
  obtain ⟨hx, hb, hml, hown, hts, hK, hI, hok, hlk, hr, hR, hG⟩ := C
  intro H locs ls hP hS hl
  exact lv_icmp_gt hx hb hd ht (fun g => kt (g) H locs ls hP hS hl) (fun g => kf (g) H locs ls hP hS hl)
theorem z_icmp_le (C : z_Cx S X own cc nL d ret) {x y : Int32} {off : Int} {tgt : Nat} (hd : decode cc pc = .ok (.if_icmp .le off, 3)) (ht : (pc : Int) + off = (tgt : Int)) (kt : ¬ y < x → z_W S X tgt lo st σ o) (kf : y < x → z_W S X (pc + 3) lo st σ o) : z_W S X pc lo (.int y :: .int x :: st) σ o := by
  obtain ⟨p, l, e, R, s, m, args, below, meth, c, D, Y, a⟩ := X
  obtain ⟨hx, hb, hml, hown, hts, hK, hI, hok, hlk, hr, hR, hG⟩ := C
  intro H locs ls hP hS hl
  exact lv_icmp_le hx hb hd ht (fun g => kt (Int32.not_lt.mpr g) H locs ls hP hS hl) (fun g => kf (Int32.not_le.mp g) H locs ls hP hS hl)
theorem z_if_eq (C : z_Cx S X own cc nL d ret) {x : Int32} {off : Int} {tgt : Nat} (hd : decode cc pc = .ok (.ifCond .eq off, 3)) (ht : (pc : Int) + off = (tgt : Int)) (kt : x = 0 → z_W S X tgt lo st σ o) (kf : ¬ x = 0 → z_W S X (pc + 3) lo st σ o) : z_W S X pc lo (.int x :: st) σ o := by
  obtain ⟨p, l, e, R, s, m, args, below, meth, c, D, Y, a⟩ := X
  obtain ⟨hx, hb, hml, hown, hts, hK, hI, hok, hlk, hr, hR, hG⟩ := C
  intro H locs ls hP hS hl
  exact lv_if_eq hx hb hd ht (fun g => kt (g) H locs ls hP hS hl) (fun g => kf (g) H locs ls hP hS hl)
theorem z_if_ne (C : z_Cx S X own cc nL d ret) {x : Int32} {off : Int} {tgt : Nat} (hd : decode cc pc = .ok (.ifCond .ne off, 3)) (ht : (pc : Int) + off = (tgt : Int)) (kt : ¬ x = 0 → z_W S X tgt lo st σ o) (kf : x = 0 → z_W S X (pc + 3) lo st σ o) : z_W S X pc lo (.int x :: st) σ o := by
  obtain ⟨p, l, e, R, s, m, args, below, meth, c, D, Y, a⟩ := X
  obtain ⟨hx, hb, hml, hown, hts, hK, hI, hok, hlk, hr, hR, hG⟩ := C
  intro H locs ls hP hS hl
  exact lv_if_ne hx hb hd ht (fun g => kt (g) H locs ls hP hS hl) (fun g => kf (g) H locs ls hP hS hl)
theorem z_if_lt (C : z_Cx S X own cc nL d ret) {x : Int32} {off : Int} {tgt : Nat} (hd : decode cc pc = .ok (.ifCond .lt off, 3)) (ht : (pc : Int) + off = (tgt : Int)) (kt : x < 0 → z_W S X tgt lo st σ o) (kf : ¬ x < 0 → z_W S X (pc + 3) lo st σ o) : z_W S X pc lo (.int x :: st) σ o := by
  obtain ⟨p, l, e, R, s, m, args, below, meth, c, D, Y, a⟩ := X
  obtain ⟨hx, hb, hml, hown, hts, hK, hI, hok, hlk, hr, hR, hG⟩ := C
  intro H locs ls hP hS hl
  exact lv_if_lt hx hb hd ht (fun g => kt (g) H locs ls hP hS hl) (fun g => kf (g) H locs ls hP hS hl)
theorem z_if_ge (C : z_Cx S X own cc nL d ret) {x : Int32} {off : Int} {tgt : Nat} (hd : decode cc pc = .ok (.ifCond .ge off, 3)) (ht : (pc : Int) + off = (tgt : Int)) (kt : ¬ x < 0 → z_W S X tgt lo st σ o) (kf : x < 0 → z_W S X (pc + 3) lo st σ o) : z_W S X pc lo (.int x :: st) σ o := by
  obtain ⟨p, l, e, R, s, m, args, below, meth, c, D, Y, a⟩ := X
  obtain ⟨hx, hb, hml, hown, hts, hK, hI, hok, hlk, hr, hR, hG⟩ := C
  intro H locs ls hP hS hl
  exact lv_if_ge hx hb hd ht (fun g => kt (Int32.not_lt.mpr g) H locs ls hP hS hl) (fun g => kf (Int32.not_le.mp g) H locs ls hP hS hl)
theorem z_if_gt (C : z_Cx S X own cc nL d ret) {x : Int32} {off : Int} {tgt : Nat} (hd : decode cc pc = .ok (.ifCond .gt off, 3)) (ht : (pc : Int) + off = (tgt : Int)) (kt : 0 < x → z_W S X tgt lo st σ o) (kf : ¬ 0 < x → z_W S X (pc + 3) lo st σ o) : z_W S X pc lo (.int x :: st) σ o := by
  obtain ⟨p, l, e, R, s, m, args, below, meth, c, D, Y, a⟩ := X
  obtain ⟨hx, hb, hml, hown, hts, hK, hI, hok, hlk, hr, hR, hG⟩ := C
  intro H locs ls hP hS hl
  exact lv_if_gt hx hb hd ht (fun g => kt (g) H locs ls hP hS hl) (fun g => kf (g) H locs ls hP hS hl)
theorem z_if_le (C : z_Cx S X own cc nL d ret) {x : Int32} {off : Int} {tgt : Nat} (hd : decode cc pc = .ok (.ifCond .le off, 3)) (ht : (pc : Int) + off = (tgt : Int)) (kt : ¬ 0 < x → z_W S X tgt lo st σ o) (kf : 0 < x → z_W S X (pc + 3) lo st σ o) : z_W S X pc lo (.int x :: st) σ o := by
  obtain ⟨p, l, e, R, s, m, args, below, meth, c, D, Y, a⟩ := X
  obtain ⟨hx, hb, hml, hown, hts, hK, hI, hok, hlk, hr, hR, hG⟩ := C
  intro H locs ls hP hS hl
  exact lv_if_le hx hb hd ht (fun g => kt (Int32.not_lt.mpr g) H locs ls hP hS hl) (fun g => kf (Int32.not_le.mp g) H locs ls hP hS hl)
end ZR
