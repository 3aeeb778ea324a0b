theorem z_bnd2 {α β : Type} {m : Option (α × z_M)} {f : α → z_M → Option β} {o : β} (h : z_bnd m f = some o) : ∃ r σ', m = some (r, σ') ∧ f r σ' = some o := by
  cases m with
  | none => cases h
  | some q => exact ⟨q.1, q.2, rfl, h⟩
section ZD
variable {S : z_S} {X : z_Ct} {own : String} {cc : ByteArray} {nL d d1 : Nat} {ret ret1 : Option FieldType} {pc : Nat} {lo : List (Option Value)} {st : List Value} {σ σ1 : z_M} {o : Option Value × z_M} {c index n maxL : Nat} {y : MethodName} {bytes : ByteArray} {As : List Value} {ci : Nat} {Cn : String} {Tn : u_T} {N : Nat} {ty : Nat → FieldType} {r : Int32} {ro : Nat}
theorem z_cvi (C : z_Cx S X own cc nL d ret) (hM : z_Mt y (z_w y bytes maxL ret1) d1 S (z_a X) σ (.ref (z_a X c) :: As) (z_oi (r, σ1))) (kv : z_Kv y bytes maxL ret1 n) (hn : As.length = n) (hlk : Cond.methodLink own index y ∈ z_T) (F : z_CF ci Cn Tn N ty) (hk : S.1 c = ci) (hqn : Cn = y.cls) (hdd : d1 + 1 ≤ d) (hlen : lo.length = nL) (hst : (st.map fun v => v.category).sum ≤ 8) (hd : decode cc pc = .ok (.invokevirtual index, 3))
    (kk : z_W S X (pc + 3) lo (.int r :: st) σ1 o) : z_W S X pc lo (As.reverse ++ .ref (z_a X c) :: st) σ o :=
  z_callv C hM kv hn hlk (by rw [hk]; exact F.1) hqn hdd hlen hst hd kk
theorem z_cvv (C : z_Cx S X own cc nL d ret) (hM : z_Mt y (z_w y bytes maxL ret1) d1 S (z_a X) σ (.ref (z_a X c) :: As) (z_ov ((), σ1))) (kv : z_Kv y bytes maxL ret1 n) (hn : As.length = n) (hlk : Cond.methodLink own index y ∈ z_T) (F : z_CF ci Cn Tn N ty) (hk : S.1 c = ci) (hqn : Cn = y.cls) (hdd : d1 + 1 ≤ d) (hlen : lo.length = nL) (hst : (st.map fun v => v.category).sum ≤ 8) (hd : decode cc pc = .ok (.invokevirtual index, 3))
    (kk : z_W S X (pc + 3) lo st σ1 o) : z_W S X pc lo (As.reverse ++ .ref (z_a X c) :: st) σ o :=
  z_callv C hM kv hn hlk (by rw [hk]; exact F.1) hqn hdd hlen hst hd kk
theorem z_cva (C : z_Cx S X own cc nL d ret) (hM : z_Mt y (z_w y bytes maxL ret1) d1 S (z_a X) σ (.ref (z_a X c) :: As) (z_or X (ro, σ1))) (kv : z_Kv y bytes maxL ret1 n) (hn : As.length = n) (hlk : Cond.methodLink own index y ∈ z_T) (F : z_CF ci Cn Tn N ty) (hk : S.1 c = ci) (hqn : Cn = y.cls) (hdd : d1 + 1 ≤ d) (hlen : lo.length = nL) (hst : (st.map fun v => v.category).sum ≤ 8) (hd : decode cc pc = .ok (.invokevirtual index, 3))
    (kk : z_W S X (pc + 3) lo (.ref (z_a X ro) :: st) σ1 o) : z_W S X pc lo (As.reverse ++ .ref (z_a X c) :: st) σ o :=
  z_callv C hM kv hn hlk (by rw [hk]; exact F.1) hqn hdd hlen hst hd kk
theorem z_csi (C : z_Cx S X own cc nL d ret) (hM : z_Mt y (z_w y bytes maxL ret1) d1 S (z_a X) σ As (z_oi (r, σ1))) (kv : z_Ks y bytes maxL ret1 n) (hn : As.length = n) (hlk : Cond.methodLink own index y ∈ z_T) (hdd : d1 + 1 ≤ d) (hlen : lo.length = nL) (hst : (st.map fun v => v.category).sum ≤ 8) (hd : decode cc pc = .ok (.invokestatic index, 3))
    (kk : z_W S X (pc + 3) lo (.int r :: st) σ1 o) : z_W S X pc lo (As.reverse ++ st) σ o :=
  z_calls C hM kv hn hlk hdd hlen hst hd kk
theorem z_cni (C : z_Cx S X "PlantedDoubts$Law" cc nL d ret) (hM : z_Mt ⟨"PlantedDoubts", "isThing", "(I)Z"⟩ (z_w ⟨"PlantedDoubts", "isThing", "(I)Z"⟩ bytes maxL ret1) d1 S (z_a X) σ As (z_oi (r, σ1))) (kv : z_Ks ⟨"PlantedDoubts", "isThing", "(I)Z"⟩ bytes maxL ret1 n) (hn : As.length = n) (hdd : d1 + 1 ≤ d) (hlen : lo.length = nL) (hst : (st.map fun v => v.category).sum ≤ 8) (hd : decode cc pc = .ok (.invokestatic 32, 3))
    (kk : z_W S X (pc + 3) lo (.int r :: st) σ1 o) : z_W S X pc lo (As.reverse ++ st) σ o :=
  z_calln C hM kv hn hdd hlen hst hd kk
/-- a table of jumps: within it, without -/
theorem z_tabIn (C : z_Cx S X own cc nL d ret) {dflt lo0 hi0 : Int} {offs : Array Int} {len : Nat} {x : Int32} {off : Int} {tgt : Nat} (hd : decode cc pc = .ok (.tableswitch dflt lo0 hi0 offs, len)) {v : Int} (hx0 : x.toInt = v) (h1 : ¬ v < lo0) (h2 : ¬ hi0 < v) (ho : offs[(v - lo0).toNat]? = some off) (ht : (pc : Int) + off = (tgt : Int)) (k : z_W S X tgt lo st σ o) : z_W S X pc lo (.int x :: st) σ o := by
  obtain ⟨p, l, e, R, s, m, args, below, meth, c, D, Y, a⟩ := X
  obtain ⟨hx, hb, hml, hown, hts, hK, hI, hok, hlk, hr, hR, hG⟩ := C
  intro H locs ls hP hS hl
  exact lv_tableIn hx hb hd (by rw [hx0]; exact h1) (by rw [hx0]; exact h2) (by rw [hx0]; exact ho) ht (k H locs ls hP hS hl)
theorem z_tabOut (C : z_Cx S X own cc nL d ret) {dflt lo0 hi0 : Int} {offs : Array Int} {len : Nat} {x : Int32} {tgt : Nat} (hd : decode cc pc = .ok (.tableswitch dflt lo0 hi0 offs, len)) (h : x.toInt < lo0 ∨ hi0 < x.toInt) (ht : (pc : Int) + dflt = (tgt : Int)) (k : z_W S X tgt lo st σ o) : z_W S X pc lo (.int x :: st) σ o := by
  obtain ⟨p, l, e, R, s, m, args, below, meth, c, D, Y, a⟩ := X
  obtain ⟨hx, hb, hml, hown, hts, hK, hI, hok, hlk, hr, hR, hG⟩ := C
  intro H locs ls hP hS hl
  exact lv_tableOut hx hb hd h ht (k H locs ls hP hS hl)
end ZD
/-- a number that is none of lo .. lo + n - 1 -/
theorem z_none {x : Int32} {lo0 : Int} : ∀ n : Nat, (∀ k : Nat, k < n → x.toInt ≠ lo0 + k) → x.toInt < lo0 ∨ lo0 + n - 1 < x.toInt
  | 0, _ => by omega
  | n + 1, h => by
    rcases z_none n (fun k hk => h k (by omega)) with q | q
    · exact Or.inl q
    · have := h n (by omega)
      right
      omega
theorem z_toInt {x y : Int32} {v : Int} (h : ¬ x = y) (e : y.toInt = v) : x.toInt ≠ v := fun g => h (Int32.toInt_inj.mp (g.trans e.symm))
