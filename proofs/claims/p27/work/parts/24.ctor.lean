/-! Constructors: what they make has addresses that the end names. -/
def Ck (l : Launch) (y : MethodName) (ws : List Cond) (rm : Room) (mc ms : Nat) (G : va_G) (cy : ClassId × ClassId × ClassId) (av : List Value) (w : va_W) (f : (Nat → Nat) → va_W) : Prop :=
  ∀ sz : Nat, Met l y ws rm (va_Pc av (Wd G cy w sz)) (va_Qv (fun (_ : Nat → Nat) => True) (fun u t => Wp G w (f u) sz t) (va_A w sz)) mc ms (va_A w sz)
section KC
variable {l : Launch} {y : MethodName} {ws ws' : List Cond} {rm : Room} {mc ms : Nat} {G : va_G} {cy : ClassId × ClassId × ClassId} {av : List Value} {w : va_W} {f : (Nat → Nat) → va_W} {cc : ByteArray} {maxL : Nat}
theorem kMetC (hy : plainName y.cls = true) (hw : ws = Cond.code y cc maxL none :: ws') (hlen : (lg_sl av).length ≤ maxL)
    (body : ∀ (p : Program) (e : Env) (s : State) (m : MethodId) (args : Array Value) (below : List Frame) (meth : Method) (c : Code) (Q : State → Prop) (A : Nat → Prop) (ls : Array Slot), p.tables.exec = Jvm.exec → c.code = cc → c.maxLocals = maxL → (∀ w ∈ ws, w.before args s = true) → s.vm.findClass y.cls = some m.cls → meth.name = y.name → Hv s s.heap [] G cy A w → lv_has ls maxL (lv_args 0 av) →
      (∀ (u : Nat → Nat) (H : Heap) (locs : List Loc) (ls : Array Slot) (pc : Nat), Hv s H locs G cy A (f u) → decode cc pc = .ok (.return_, 1) → W p l e rm s m args below meth c H locs mc ms Q (F0 m pc ls [])) →
      W p l e rm s m args below meth c s.heap [] 0 0 Q (F0 m 0 ls [])) : Ck l y ws rm mc ms G cy av w f := by
  intro sz
  refine Met.ofW (cc := cc) (maxL := maxL) (ret := none) hy hw ?_
  intro p e s m args below meth c s₁ B hml hv
  obtain ⟨rfl, hsz, hP, hK, hD0, hE⟩ := hv
  subst hsz
  rw [lg_entry_eq]
  refine body p e s m _ below meth c _ (va_A w s.heap.size) _ B.exec B.bytes hml (atoms_spec (ws := ws) B.pre) (findClass_of_methodNamed B.named) (name_of_methodNamed B.named B.method).1 ⟨hK, hP, hD0.self, va_S.rf, fun q h => Or.inr h, hE⟩ (lv_entry av hlen) (fun u H locs ls pc hv hdg => ?_)
  exact W.vret B.exec B.bytes B.returns (fun t ht hW => ⟨⟨u, rfl, trivial, by rw [ht]; exact hv.2.1, hv.2.2.1⟩, hv.2.2.2.1.F ht⟩) hv.2.2.2.1.2.2 hdg
end KC
section KD
variable {p : Program} {l : Launch} {e : Env} {R : Room} {s : State} {m : MethodId} {args : Array Value} {below : List Frame} {meth : Method} {c : Code} {H : Heap} {locs : List Loc} {cells slots : Nat} {Q : State → Prop}
variable {y : MethodName} {bytes cc : ByteArray} {maxL nL mc ms n index : Nat} {ws : List Cond} {rm : Room} {Ts : List Cond} {own : String} {b a : Addr} {As rest st0 : List Value} {pc : Nat} {ls : Array Slot}
variable {G : va_G} {cy : ClassId × ClassId × ClassId} {A : Nat → Prop} {w wc wr : va_W}
theorem kNewO (hx : p.tables.exec = Jvm.exec) (hb : c.code = cc) {C : String} {T : u_T} {N ci : Nat} (hts : ∀ w ∈ Ts, w.before args s = true) (hin : ∀ w ∈ u_ws C T N, w ∈ Ts) (ty : Nat → FieldType) (hty : ∀ k, k < N → parseFieldDescriptor (T k).2.2.1 = some (ty k)) (hown : s.vm.findClass own = some m.cls) (hcl : (Cond.classLink own index C).before args s = true) (hinst : (Cond.instantiable C N).before args s = true) (hini : (Cond.initialized C).before args s = true)
    (h : Hv s H locs G cy A w) (hc : vwCl[ci]? = some (C, T, N)) {fs : List Value} (hfs : ∀ j, j < N → defaultValue (ty j) = vp_V fs j) (hcells : cells + 1 ≤ R.cells) (hslots : slots + N ≤ R.slots) (hdg : decode cc pc = .ok (.new index, 3))
    (kk : ∀ (q : Nat) (H1 : Heap), Hv s H1 locs G cy A (w ++ [(q, .inr (ci, fs))]) → W p l e R s m args below meth c H1 locs (cells + 1) (slots + N) Q (F0 m (pc + 3) ls (.ref q :: rest))) : W p l e R s m args below meth c H locs cells slots Q (F0 m pc ls rest) :=
  va_new hx hb hts hin ty hty hown hcl hinst hini h.1 h.2.1 h.2.2.1 h.2.2.2.1 h.2.2.2.2.1 hc hfs hcells hslots hdg (fun q H1 hP hD hS => kk q H1 ⟨h.1, hP, hD, hS, h.2.2.2.2⟩)
theorem kNewI (hx : p.tables.exec = Jvm.exec) (hb : c.code = cc) (harr : (Cond.arrayClass .int).before args s = true) (h : Hv s H locs G cy A w) {n : Int32} {N' : Nat} (hn : ¬ n < 0) (hN : n.toNatClampNeg = N') (hbytes : N' * componentBytes .int ≤ 536870912) (hcells : cells + 1 ≤ R.cells) (hslots : slots + N' ≤ R.slots) (hdg : decode cc pc = .ok (.newarray .int, 2))
    (kk : ∀ (q : Nat) (H1 : Heap), Hv s H1 locs G cy A (w ++ [(q, .inl (cy.1, N', .inl (fun _ => 0)))]) → W p l e R s m args below meth c H1 locs (cells + 1) (slots + N') Q (F0 m (pc + 2) ls (.ref q :: rest))) : W p l e R s m args below meth c H locs cells slots Q (F0 m pc ls (.int n :: rest)) := by
  refine va_newa (atype := .int) (ty := .int) (a0 := (N', .inl (fun _ => 0))) hx hb harr rfl h.1 h.2.1 h.2.2.1 h.2.2.2.1 h.2.2.2.2.1 (fun _ => rfl) hn hN hbytes hcells hslots hdg (fun q cA H1 hK hP hD hS => ?_)
  have e9 : cA = cy.1 := Option.some.inj ((va_nm_int (hK.2 2 (cA, .int) rfl).2).symm.trans (va_nm_int (h.1.2 0 (cy.1, .int) rfl).2))
  subst e9
  exact kk q H1 ⟨h.1, hP, hD, hS, h.2.2.2.2⟩
theorem kNewZ (hx : p.tables.exec = Jvm.exec) (hb : c.code = cc) (harr : (Cond.arrayClass .boolean).before args s = true) (h : Hv s H locs G cy A w) {n : Int32} {N' : Nat} (hn : ¬ n < 0) (hN : n.toNatClampNeg = N') (hbytes : N' * componentBytes .boolean ≤ 536870912) (hcells : cells + 1 ≤ R.cells) (hslots : slots + N' ≤ R.slots) (hdg : decode cc pc = .ok (.newarray .boolean, 2))
    (kk : ∀ (q : Nat) (H1 : Heap), Hv s H1 locs G cy A (w ++ [(q, .inl (cy.2.1, N', .inl (fun _ => 0)))]) → W p l e R s m args below meth c H1 locs (cells + 1) (slots + N') Q (F0 m (pc + 2) ls (.ref q :: rest))) : W p l e R s m args below meth c H locs cells slots Q (F0 m pc ls (.int n :: rest)) := by
  refine va_newa (atype := .boolean) (ty := .boolean) (a0 := (N', .inl (fun _ => 0))) hx hb harr rfl h.1 h.2.1 h.2.2.1 h.2.2.2.1 h.2.2.2.2.1 (fun _ => rfl) hn hN hbytes hcells hslots hdg (fun q cA H1 hK hP hD hS => ?_)
  have e9 : cA = cy.2.1 := Option.some.inj ((va_nm_boolean (hK.2 2 (cA, .boolean) rfl).2).symm.trans (va_nm_boolean (h.1.2 1 (cy.2.1, .boolean) rfl).2))
  subst e9
  exact kk q H1 ⟨h.1, hP, hD, hS, h.2.2.2.2⟩
theorem kPutF (hx : p.tables.exec = Jvm.exec) (hb : c.code = cc) {ref C : String} {T : u_T} {N ci : Nat} (hts : ∀ w ∈ Ts, w.before args s = true) (hin : ∀ w ∈ u_ws C T N, w ∈ Ts) (ty0 : Nat → FieldType) (hty : ∀ k, k < N → parseFieldDescriptor (T k).2.2.1 = some (ty0 k)) (hnm : ∀ a, a < N → ∀ b, b < N → a ≠ b → (T a).2.1 ≠ (T b).2.1) (hown : s.vm.findClass own = some m.cls) (h : Hv s H locs G cy A w) (q0 : Nat) {fs : List Value} (he : w[q0]? = some (a, .inr (ci, fs))) (hc : vwCl[ci]? = some (C, T, N)) (k : Nat) (hk : k < N) (hlink : (Cond.fieldLink own index ref (T k).2.1 (T k).2.2.1).before args s = true) (hsame : ∀ x, s.fieldFound? (T k).1 (T k).2.1 (T k).2.2.1 = some x → s.fieldFound? ref (T k).2.1 (T k).2.2.1 = some x) (hfin : (T k).2.2.2 = true) (hin2 : meth.name = "<init>") (hdecl : (T k).1 = own) {ty : FieldType} {v : Value} (hd : parseFieldDescriptor (T k).2.2.1 = some ty) (hn : narrow ty v = v) (hfit : fits ty v = true) (hl : k < fs.length)
    (hdg : decode cc pc = .ok (.putfield index, 3)) (kk : ∀ (H1 : Heap) (locs1 : List Loc), Hv s H1 locs1 G cy A (w.set q0 (a, .inr (ci, fs.set k v))) → W p l e R s m args below meth c H1 locs1 cells slots Q (F0 m (pc + 3) ls rest)) : W p l e R s m args below meth c H locs cells slots Q (F0 m pc ls (v :: .ref a :: rest)) :=
  va_putF hx hb hts hin ty0 hty hnm hown h.1 h.2.1 h.2.2.1 h.2.2.2.1 q0 he hc k hk hlink hsame hfin hin2 hdecl hd hn hfit hl hdg (fun H1 locs1 hP hD hS => kk H1 locs1 ⟨h.1, hP, hD, hS, h.2.2.2.2⟩)
theorem Hv.post2 {wc' : va_W} (h : Hv s H locs G cy A w) {isC : List Nat} (hs : Sp w wc isC) (isR : List Nat) (hR : isR.map (fun i => w[i]?) = wr.map some) (hn : va_nd isR = true) (hdis : ∀ i ∈ isR, i ∉ isC)
    {H1 : Heap} {locs1 : List Loc} {t : State} (ht : t.heap = H1) (hB : Wp G wc wc' H.size t) (hk : ∀ q : Nat, q < H.size → ¬ va_A wc H.size q → H1[q]? = H[q]?) (hS1 : va_S A s.heap H1 locs1) : Hv s H1 locs1 G cy A (wr ++ wc') := by
  obtain ⟨hK, hP, hD, hS, hA, hE⟩ := h
  obtain ⟨hP1, hD1⟩ := hB
  rw [ht] at hP1
  obtain ⟨hP2, hD2⟩ := va_join (wr := wr) (w1 := wc') hP hD isC isR hs.1 hR hn hdis hk (va_free hD hS hA isC hs.1) hP1 hD1
  exact ⟨hK, hP2, hD2, hS1, hA, hE⟩
theorem kI_c {f : (Nat → Nat) → va_W} (S : CallFix p m c cc nL s args Ts own) (C0 : Ck l y ws rm mc ms G cy (.ref b :: As) wc f) (cw : CallB R s args own index y bytes maxL none ws rm mc ms n ∧ y.name = "<init>" ∧ (Cond.instanceMethod y).before args s = true) (h : Hv s H locs G cy A w) {isC : List Nat} (hs : Sp w wc isC)
    (isR : List Nat) (hR : isR.map (fun i => w[i]?) = wr.map some) (hn9 : va_nd isR = true) (hdis : ∀ i ∈ isR, i ∉ isC)
    (hn : As.length = n) (hsize : ls.size = nL) (hst : st0 = As.reverse ++ .ref b :: rest) (hW : (rest.map fun v => v.category).sum ≤ 8) (hdg : decode cc pc = .ok (.invokespecial index, 3)) (hf : cells + mc ≤ R.cells ∧ slots + ms ≤ R.slots)
    (kk : ∀ (u : Nat → Nat) (H1 : Heap) (locs1 : List Loc), Hv s H1 locs1 G cy A (wr ++ f u) → W p l e R s m args below meth c H1 locs1 (cells + mc) (slots + ms) Q (F0 m (pc + 3) ls rest)) : W p l e R s m args below meth c H locs cells slots Q (F0 m pc ls st0) := by
  refine va_callv (va_runI (As := As) (rest := rest) S (C0 H.size) cw ⟨Wd.blind, fun U hU hW2 => ⟨rfl, h.pre hs U hU hW2⟩⟩ rfl hn hsize hst (lv_room hW) hdg hf) h.2.2.2.1 (fun q _ h9 => h.free hs q h9) (h.free hs) (fun u t H1 locs1 ht hvm hw hB hz1 hk1 hS1 => ?_)
  exact kk u H1 locs1 (h.post2 hs isR hR hn9 hdis ht hB hk1 hS1)
end KD
def xt {α β : Type} (o : Option (Except String α)) (h : String → Option β) (f : α → Option β) : Option β := match o with
  | none => none
  | some (.error e) => h e
  | some (.ok a) => f a
theorem xt_some {α β : Type} {o : Option (Except String α)} {h : String → Option β} {f : α → Option β} {r : β} (hh : xt o h f = some r) : (∃ e : String, o = some (.error e) ∧ h e = some r) ∨ ∃ a : α, o = some (.ok a) ∧ f a = some r := by
  match o, hh with
  | some (.error e), hh => exact Or.inl ⟨e, rfl, hh⟩
  | some (.ok a), hh => exact Or.inr ⟨a, rfl, hh⟩
section KW
variable {l : Launch} {y : MethodName} {ws ws' : List Cond} {rm : Room} {mc ms : Nat} {G : va_G} {cy : ClassId × ClassId × ClassId} {av : List Value} {w w' : va_W} {cc : ByteArray} {maxL : Nat} {hh : List (Nat × Nat × Nat × Nat)}
theorem kMetWI {r : Int32} (hy : plainName y.cls = true) (hw : ws = Cond.codeWith y cc maxL (some .int) hh :: ws') (hlen : (lg_sl av).length ≤ maxL)
    (body : ∀ (p : Program) (e : Env) (s : State) (m : MethodId) (args : Array Value) (below : List Frame) (meth : Method) (c : Code) (Q : State → Prop) (A : Nat → Prop) (ls : Array Slot), p.tables.exec = Jvm.exec → c.code = cc → c.maxLocals = maxL → (∀ w ∈ ws, w.before args s = true) → s.vm.findClass y.cls = some m.cls → Hv s s.heap [] G cy A w → lv_has ls maxL (lv_args 0 av) →
      (∀ (H : Heap) (locs : List Loc) (ls : Array Slot) (pc : Nat), Hv s H locs G cy A w' → decode cc pc = .ok (.ireturn, 1) → W p l e rm s m args below meth c H locs mc ms Q (F0 m pc ls [.int r])) →
      c.exceptionTable.toList = tableOf hh →
      W p l e rm s m args below meth c s.heap [] 0 0 Q (F0 m 0 ls [])) : Ci l y ws rm mc ms G cy av w w' r := by
  intro sz
  refine va_MetW (cc := cc) (maxL := maxL) (ret := some .int) hy hw ?_
  intro p e s m args below meth c s₁ B hml hv
  obtain ⟨rfl, hsz, hP, hK, hD0, hE⟩ := hv
  subst hsz
  rw [lg_entry_eq]
  refine body p e s m _ below meth c _ (va_A w s.heap.size) _ B.exec B.bytes hml (atoms_spec (ws := ws) B.pre) (findClass_of_methodNamed B.named) ⟨hK, hP, hD0.self, va_S.rf, fun q h => Or.inr h, hE⟩ (lv_entry av hlen) (fun H locs ls pc hv hdg => ?_) (vx_table (x := y) B (atoms_spec (ws := ws) B.pre _ (by rw [hw]; exact List.mem_cons_self)))
  exact W.iret (v := r) B.exec B.bytes B.returns (fun t ht hW => ⟨⟨r, (), rfl, rfl, by rw [ht]; exact hv.2.1, hv.2.2.1⟩, hv.2.2.2.1.F ht⟩) hv.2.2.2.1.2.2 hdg
end KW
section KX
variable {p : Program} {l : Launch} {e : Env} {R : Room} {s : State} {m : MethodId} {args : Array Value} {below : List Frame} {meth : Method} {c : Code} {H : Heap} {locs : List Loc} {cells slots : Nat} {Q : State → Prop}
variable {y : MethodName} {bytes cc : ByteArray} {maxL nL mc ms n index : Nat} {ret : Option FieldType} {ws : List Cond} {rm : Room} {Ts : List Cond} {own C : String} {a b : Addr} {As rest st0 : List Value} {pc : Nat} {ls : Array Slot}
variable {G : va_G} {cy : ClassId × ClassId × ClassId} {A : Nat → Prop} {w wc wc' wr w2 : va_W} {hh : List (Nat × Nat × Nat × Nat)}
/-- a static method with a table and with cells -/
theorem kSW_i {r : Int32} (S : CallFix p m c cc nL s args Ts own) (C0 : Ci l y ws rm mc ms G cy As wc wc' r) (cw : vx_CSW R s args own index y bytes maxL ret hh ws rm mc ms n) (h : Hv s H locs G cy A w) {isC : List Nat} (hs : Sp w wc isC)
    (isR ps : List Nat) (hR : isR.map (fun i => w[i]?) = wr.map some) (hn9 : va_nd isR = true) (hdis : ∀ i ∈ isR, i ∉ isC) (hps : ps.map (fun i => (wr ++ wc')[i]?) = w2.map some) (hpn : va_nd ps = true)
    (hn : As.length = n) (hsize : ls.size = nL) (hst : st0 = As.reverse ++ rest) (hW : (rest.map fun v => v.category).sum ≤ 8) (hdg : decode cc pc = .ok (.invokestatic index, 3)) (hf : cells + mc ≤ R.cells ∧ slots + ms ≤ R.slots)
    (kk : ∀ (H1 : Heap) (locs1 : List Loc), Hv s H1 locs1 G cy A w2 → W p l e R s m args below meth c H1 locs1 (cells + mc) (slots + ms) Q (F0 m (pc + 3) ls (.int r :: rest))) : W p l e R s m args below meth c H locs cells slots Q (F0 m pc ls st0) := by
  refine va_calli (vx_runSW (As := As) (rest := rest) S (C0 H.size) cw ⟨Wd.blind, fun U hU hW2 => ⟨rfl, h.pre hs U hU hW2⟩⟩ rfl hn hsize hst (lv_room hW) hdg hf) h.2.2.2.1 (fun q _ h9 => h.free hs q h9) (h.free hs) (fun x u t H1 locs1 ht hvm hw hB hz1 hk1 hS1 => ?_)
  subst hw
  exact kk H1 locs1 (h.post hs isR ps hR hn9 hdis hps hpn ht hB hk1 hS1)
/-- a static method with cells, without a table -/
theorem kSC_i {r : Int32} (S : CallFix p m c cc nL s args Ts own) (C0 : Ci l y ws rm mc ms G cy As wc wc' r) (cw : CallB R s args own index y bytes maxL ret ws rm mc ms n ∧ (Cond.static y).before args s = true) (h : Hv s H locs G cy A w) {isC : List Nat} (hs : Sp w wc isC)
    (isR ps : List Nat) (hR : isR.map (fun i => w[i]?) = wr.map some) (hn9 : va_nd isR = true) (hdis : ∀ i ∈ isR, i ∉ isC) (hps : ps.map (fun i => (wr ++ wc')[i]?) = w2.map some) (hpn : va_nd ps = true)
    (hn : As.length = n) (hsize : ls.size = nL) (hst : st0 = As.reverse ++ rest) (hW : (rest.map fun v => v.category).sum ≤ 8) (hdg : decode cc pc = .ok (.invokestatic index, 3)) (hf : cells + mc ≤ R.cells ∧ slots + ms ≤ R.slots)
    (kk : ∀ (H1 : Heap) (locs1 : List Loc), Hv s H1 locs1 G cy A w2 → W p l e R s m args below meth c H1 locs1 (cells + mc) (slots + ms) Q (F0 m (pc + 3) ls (.int r :: rest))) : W p l e R s m args below meth c H locs cells slots Q (F0 m pc ls st0) := by
  refine va_calli (va_runS (As := As) (rest := rest) S (C0 H.size) cw ⟨Wd.blind, fun U hU hW2 => ⟨rfl, h.pre hs U hU hW2⟩⟩ rfl hn hsize hst (lv_room hW) hdg hf) h.2.2.2.1 (fun q _ h9 => h.free hs q h9) (h.free hs) (fun x u t H1 locs1 ht hvm hw hB hz1 hk1 hS1 => ?_)
  subst hw
  exact kk H1 locs1 (h.post hs isR ps hR hn9 hdis hps hpn ht hB hk1 hS1)
/-- a static method that reads the law's script -/
def Cx (l : Launch) (y : MethodName) (ws : List Cond) (rm : Room) (b L : Nat) (xs : Nat → Int32) (i r : Int32) : Prop :=
  ∀ sz : Nat, Met l y ws rm (va_Pc [.ref b, .int i] (fun U => U.heap.size = sz ∧ b < sz ∧ va_X b L xs U U.heap)) (va_Qi (fun (x : Int32) (_ : Unit) => x = r) (fun _ _ => True) (va_A [] sz)) 0 0 (va_A [] sz)
theorem Cx_blind {b L sz : Nat} {xs : Nat → Int32} {av : List Value} : FrameBlind (va_Pc av (fun U => U.heap.size = sz ∧ b < sz ∧ va_X b L xs U U.heap)) := by
  intro a U g mk q
  obtain ⟨q0, q1, q2, q3⟩ := q
  exact ⟨q0, q1, q2, va_X.moved (u := U) (U := U.calling g mk a) (Vm.Alike.refl U.vm) q3⟩
theorem kSX_i {r i : Int32} {b0 L : Nat} {xs : Nat → Int32} (S : CallFix p m c cc nL s args Ts own) (C0 : Cx l y ws rm b0 L xs i r) (cw : CallB R s args own index y bytes maxL ret ws rm 0 0 2 ∧ (Cond.static y).before args s = true) (h : Hv s H locs G cy A w) (hX : va_X b0 L xs s s.heap) (hbl : b0 < s.heap.size) (hbA : ¬ A b0)
    (hsize : ls.size = nL) (hst : st0 = [.int i, .ref b0] ++ rest) (hW : (rest.map fun v => v.category).sum ≤ 8) (hdg : decode cc pc = .ok (.invokestatic index, 3)) (hf : cells + 0 ≤ R.cells ∧ slots + 0 ≤ R.slots)
    (kk : ∀ (H1 : Heap) (locs1 : List Loc), Hv s H1 locs1 G cy A w → W p l e R s m args below meth c H1 locs1 (cells + 0) (slots + 0) Q (F0 m (pc + 3) ls (.int r :: rest))) : W p l e R s m args below meth c H locs cells slots Q (F0 m pc ls st0) := by
  have hs : Sp w [] [] := ⟨rfl, rfl⟩
  have hsz : s.heap.size ≤ H.size := h.2.2.2.1.1
  refine va_calli (va_runS (As := [.ref b0, .int i]) (rest := rest) S (C0 H.size) cw ⟨Cx_blind, fun U hU hW2 => ⟨rfl, ⟨by rw [hU], Nat.lt_of_lt_of_le hbl hsz, ?_⟩⟩⟩ rfl rfl hsize hst (lv_room hW) hdg hf) h.2.2.2.1 (fun q _ h9 => h.free hs q h9) (h.free hs) (fun x u t H1 locs1 ht hvm hw hB hz1 hk1 hS1 => ?_)
  · rw [hU]
    exact va_X.moved hW2.alike (va_X.kept hX (h.2.2.2.1.2.1 b0 hbl hbA))
  · subst hw
    exact kk H1 locs1 (h.none hk1 hS1)
/-- a call whose throwing is left out -/
def xo {α β : Type} (o : Option (Except String α)) (f : α → Option β) : Option β := match o with
  | some (.ok a) => f a
  | _ => none
theorem xo_some {α β : Type} {o : Option (Except String α)} {f : α → Option β} {r : β} (hh : xo o f = some r) : ∃ a : α, o = some (.ok a) ∧ f a = some r := by
  match o, hh with
  | some (.ok a), hh => exact ⟨a, rfl, hh⟩
theorem xo_s {α β : Type} (a : α) (f : α → Option β) : xo (some (.ok a)) f = f a := rfl
end KX
abbrev rm_X3_init : Room := { frames := 1, cells := 4, slots := 160, locals := 12 }
set_option maxHeartbeats 4000000 in
set_option maxRecDepth 100000 in
theorem c_X3_init (l : Launch) (G : va_G) (cy : ClassId × ClassId × ClassId) (aT : Nat) (p1 : Int32) (hz9 : narrow .boolean (.int p1) = .int p1) (hf9 : fits .boolean (.int p1) = true) : Ck l yX3_init wsX3_init rm_X3_init 4 160 G cy [.ref aT, .int p1] [(aT, .inr (3, [.int 0, .null, .null, .null, .null, .int 0]))] (fun u => [(aT, .inr (3, [.int p1, .ref (u 0), .ref (u 1), .ref (u 2), .ref (u 3), .int 0])), ((u 0), .inl (cy.1, 40, .inl (fun _ => 0))), ((u 1), .inl (cy.1, 40, .inl (fun _ => 0))), ((u 2), .inl (cy.1, 40, .inl (fun _ => 0))), ((u 3), .inl (cy.1, 40, .inl (fun _ => 0)))]) := by
  refine kMetC (cc := cX3_init) (maxL := 2) (by decide) rfl (Nat.le_of_ble_eq_true rfl) ?_
  intro p e s m args below meth c Q A ls hx hb hml hts hown hin9 hv hl kret
  replace hown : s.vm.findClass RX3 = some m.cls := hown
  replace hin9 : meth.name = "<init>" := hin9
  replace hl : lv_has ls 2 [(0, .ref aT), (1, .int p1)] := hl
  have hk3 : (Cond.methodLink RX3 3 objectInit).before args s = true := hts _ (by decide +kernel)
  have hoi : (Cond.instanceMethod objectInit).before args s = true := hts _ (by decide +kernel)
  have hoc : (Cond.code objectInit ⟨#[0xb1]⟩ 1 none).before args s = true := hts _ (by decide +kernel)
  have hk9 : (Cond.fieldLink RX3 9 "Roomcolour$Row" "byEnd" "Z").before args s = true := hts _ (by decide +kernel)
  have hinX3 : ∀ w ∈ wsX30, w ∈ wsX3_init := by decide +kernel
  have haI : (Cond.arrayClass .int).before args s = true := hts _ (by decide +kernel)
  have hk15 : (Cond.fieldLink RX3 15 "Roomcolour$Row" "numbers" "[I").before args s = true := hts _ (by decide +kernel)
  have hk19 : (Cond.fieldLink RX3 19 "Roomcolour$Row" "begins" "[I").before args s = true := hts _ (by decide +kernel)
  have hk22 : (Cond.fieldLink RX3 22 "Roomcolour$Row" "ends" "[I").before args s = true := hts _ (by decide +kernel)
  have hk25 : (Cond.fieldLink RX3 25 "Roomcolour$Row" "weights" "[I").before args s = true := hts _ (by decide +kernel)
  refine lv_aload_n hx hb dX3_init_0 rfl (lv_at hl 0 rfl) ?_
  refine W.objInit hx hb hown hk3 hoi hoc rfl (by rw [hml]; exact hl.1) rfl dX3_init_1 (Nat.le_of_ble_eq_true rfl) (Nat.le_of_ble_eq_true rfl) ?_
  refine W.eq (g2 := F0 m 4 ls []) rfl ?_
  refine lv_aload_n hx hb dX3_init_4 rfl (lv_at hl 0 rfl) ?_
  refine lv_iload_n hx hb dX3_init_5 rfl (lv_at hl 1 rfl) ?_
  refine kPutF (v := .int p1) (ty := .boolean) (C := RX3) (T := TX3) (N := 6) hx hb hts hinX3 tyX3 tyX3_ok nmX3 hown hv 0 rfl rfl 0 (by decide) hk9 (fun _ h9 => h9) rfl hin9 rfl (by decide +kernel) hz9 hf9 (Nat.le_of_ble_eq_true rfl) dX3_init_6 (fun H locs hv => ?_)
  replace hv : Hv s H locs G cy A [(aT, .inr (3, [.int p1, .null, .null, .null, .null, .int 0]))] := hv
  refine lv_aload_n hx hb dX3_init_9 rfl (lv_at hl 0 rfl) ?_
  refine lv_bipush (v := 40) hx hb dX3_init_10 (by decide) ?_
  refine kNewI (N' := 40) hx hb haI hv (by decide) rfl (by decide) (Nat.le_of_ble_eq_true rfl) (Nat.le_of_ble_eq_true rfl) dX3_init_12 (fun q1 H hv => ?_)
  replace hv : Hv s H locs G cy A [(aT, .inr (3, [.int p1, .null, .null, .null, .null, .int 0])), (q1, .inl (cy.1, 40, .inl (fun _ => 0)))] := hv
  refine kPutF (v := .ref q1) (ty := .array .int) (C := RX3) (T := TX3) (N := 6) hx hb hts hinX3 tyX3 tyX3_ok nmX3 hown hv 0 rfl rfl 1 (by decide) hk15 (fun _ h9 => h9) rfl hin9 rfl (by decide +kernel) rfl rfl (Nat.le_of_ble_eq_true rfl) dX3_init_14 (fun H locs hv => ?_)
  replace hv : Hv s H locs G cy A [(aT, .inr (3, [.int p1, .ref q1, .null, .null, .null, .int 0])), (q1, .inl (cy.1, 40, .inl (fun _ => 0)))] := hv
  refine lv_aload_n hx hb dX3_init_17 rfl (lv_at hl 0 rfl) ?_
  refine lv_bipush (v := 40) hx hb dX3_init_18 (by decide) ?_
  refine kNewI (N' := 40) hx hb haI hv (by decide) rfl (by decide) (Nat.le_of_ble_eq_true rfl) (Nat.le_of_ble_eq_true rfl) dX3_init_20 (fun q2 H hv => ?_)
  replace hv : Hv s H locs G cy A [(aT, .inr (3, [.int p1, .ref q1, .null, .null, .null, .int 0])), (q1, .inl (cy.1, 40, .inl (fun _ => 0))), (q2, .inl (cy.1, 40, .inl (fun _ => 0)))] := hv
  refine kPutF (v := .ref q2) (ty := .array .int) (C := RX3) (T := TX3) (N := 6) hx hb hts hinX3 tyX3 tyX3_ok nmX3 hown hv 0 rfl rfl 2 (by decide) hk19 (fun _ h9 => h9) rfl hin9 rfl (by decide +kernel) rfl rfl (Nat.le_of_ble_eq_true rfl) dX3_init_22 (fun H locs hv => ?_)
  replace hv : Hv s H locs G cy A [(aT, .inr (3, [.int p1, .ref q1, .ref q2, .null, .null, .int 0])), (q1, .inl (cy.1, 40, .inl (fun _ => 0))), (q2, .inl (cy.1, 40, .inl (fun _ => 0)))] := hv
  refine lv_aload_n hx hb dX3_init_25 rfl (lv_at hl 0 rfl) ?_
  refine lv_bipush (v := 40) hx hb dX3_init_26 (by decide) ?_
  refine kNewI (N' := 40) hx hb haI hv (by decide) rfl (by decide) (Nat.le_of_ble_eq_true rfl) (Nat.le_of_ble_eq_true rfl) dX3_init_28 (fun q3 H hv => ?_)
  replace hv : Hv s H locs G cy A [(aT, .inr (3, [.int p1, .ref q1, .ref q2, .null, .null, .int 0])), (q1, .inl (cy.1, 40, .inl (fun _ => 0))), (q2, .inl (cy.1, 40, .inl (fun _ => 0))), (q3, .inl (cy.1, 40, .inl (fun _ => 0)))] := hv
  refine kPutF (v := .ref q3) (ty := .array .int) (C := RX3) (T := TX3) (N := 6) hx hb hts hinX3 tyX3 tyX3_ok nmX3 hown hv 0 rfl rfl 3 (by decide) hk22 (fun _ h9 => h9) rfl hin9 rfl (by decide +kernel) rfl rfl (Nat.le_of_ble_eq_true rfl) dX3_init_30 (fun H locs hv => ?_)
  replace hv : Hv s H locs G cy A [(aT, .inr (3, [.int p1, .ref q1, .ref q2, .ref q3, .null, .int 0])), (q1, .inl (cy.1, 40, .inl (fun _ => 0))), (q2, .inl (cy.1, 40, .inl (fun _ => 0))), (q3, .inl (cy.1, 40, .inl (fun _ => 0)))] := hv
  refine lv_aload_n hx hb dX3_init_33 rfl (lv_at hl 0 rfl) ?_
  refine lv_bipush (v := 40) hx hb dX3_init_34 (by decide) ?_
  refine kNewI (N' := 40) hx hb haI hv (by decide) rfl (by decide) (Nat.le_of_ble_eq_true rfl) (Nat.le_of_ble_eq_true rfl) dX3_init_36 (fun q4 H hv => ?_)
  replace hv : Hv s H locs G cy A [(aT, .inr (3, [.int p1, .ref q1, .ref q2, .ref q3, .null, .int 0])), (q1, .inl (cy.1, 40, .inl (fun _ => 0))), (q2, .inl (cy.1, 40, .inl (fun _ => 0))), (q3, .inl (cy.1, 40, .inl (fun _ => 0))), (q4, .inl (cy.1, 40, .inl (fun _ => 0)))] := hv
  refine kPutF (v := .ref q4) (ty := .array .int) (C := RX3) (T := TX3) (N := 6) hx hb hts hinX3 tyX3 tyX3_ok nmX3 hown hv 0 rfl rfl 4 (by decide) hk25 (fun _ h9 => h9) rfl hin9 rfl (by decide +kernel) rfl rfl (Nat.le_of_ble_eq_true rfl) dX3_init_38 (fun H locs hv => ?_)
  replace hv : Hv s H locs G cy A [(aT, .inr (3, [.int p1, .ref q1, .ref q2, .ref q3, .ref q4, .int 0])), (q1, .inl (cy.1, 40, .inl (fun _ => 0))), (q2, .inl (cy.1, 40, .inl (fun _ => 0))), (q3, .inl (cy.1, 40, .inl (fun _ => 0))), (q4, .inl (cy.1, 40, .inl (fun _ => 0)))] := hv
  exact kret (fun i => ([q1, q2, q3, q4] : List Nat).getD i 0) _ _ _ _ hv dX3_init_41
abbrev rm_X0_init : Room := { frames := 2, cells := 6, slots := 206, locals := 33 }
set_option maxHeartbeats 4000000 in
set_option maxRecDepth 100000 in
theorem c_X0_init (l : Launch) (G : va_G) (cy : ClassId × ClassId × ClassId) (aT : Nat) : Ck l yX0_init wsX0_init rm_X0_init 6 206 G cy [.ref aT] [(aT, .inr (0, [.null, .null]))] (fun u => [(aT, .inr (0, [.ref (u 0), .ref (u 5)])), ((u 0), .inr (3, [.int 0, .ref (u 1), .ref (u 2), .ref (u 3), .ref (u 4), .int 0])), ((u 1), .inl (cy.1, 40, .inl (fun _ => 0))), ((u 2), .inl (cy.1, 40, .inl (fun _ => 0))), ((u 3), .inl (cy.1, 40, .inl (fun _ => 0))), ((u 4), .inl (cy.1, 40, .inl (fun _ => 0))), ((u 5), .inl (cy.1, 40, .inl (fun _ => 0)))]) := by
  refine kMetC (cc := cX0_init) (maxL := 1) (by decide) rfl (Nat.le_of_ble_eq_true rfl) ?_
  intro p e s m args below meth c Q A ls hx hb hml hts hown hin9 hv hl kret
  replace hown : s.vm.findClass RX0 = some m.cls := hown
  replace hin9 : meth.name = "<init>" := hin9
  replace hl : lv_has ls 1 [(0, .ref aT)] := hl
  have hk3 : (Cond.methodLink RX0 3 objectInit).before args s = true := hts _ (by decide +kernel)
  have hoi : (Cond.instanceMethod objectInit).before args s = true := hts _ (by decide +kernel)
  have hoc : (Cond.code objectInit ⟨#[0xb1]⟩ 1 none).before args s = true := hts _ (by decide +kernel)
  have hk9 : (Cond.classLink RX0 9 RX3).before args s = true := hts _ (by decide +kernel)
  have hiX3 : (Cond.instantiable RX3 6).before args s = true := hts _ (by decide +kernel)
  have hzX3 : (Cond.initialized RX3).before args s = true := hts _ (by decide +kernel)
  have hinX3 : ∀ w ∈ wsX30, w ∈ wsX0_init := by decide +kernel
  have hk11 : (Cond.methodLink RX0 11 yX3_init).before args s = true := hts _ (by decide +kernel)
  have hmX3 : (Cond.instanceMethod yX3_init).before args s = true := hts _ (by decide +kernel)
  have hk14 : (Cond.fieldLink RX0 14 "Roomcolour$GivenRooms" "row" "LRoomcolour$Row;").before args s = true := hts _ (by decide +kernel)
  have hinX0 : ∀ w ∈ wsX00, w ∈ wsX0_init := by decide +kernel
  have haI : (Cond.arrayClass .int).before args s = true := hts _ (by decide +kernel)
  have hk20 : (Cond.fieldLink RX0 20 "Roomcolour$GivenRooms" "freeFrom" "[I").before args s = true := hts _ (by decide +kernel)
  refine lv_aload_n hx hb dX0_init_0 rfl (lv_at hl 0 rfl) ?_
  refine W.objInit hx hb hown hk3 hoi hoc rfl (by rw [hml]; exact hl.1) rfl dX0_init_1 (Nat.le_of_ble_eq_true rfl) (Nat.le_of_ble_eq_true rfl) ?_
  refine W.eq (g2 := F0 m 4 ls []) rfl ?_
  refine lv_aload_n hx hb dX0_init_4 rfl (lv_at hl 0 rfl) ?_
  refine kNewO (ci := 3) (fs := [.int 0, .null, .null, .null, .null, .int 0]) (C := RX3) (T := TX3) (N := 6) hx hb hts hinX3 tyX3 tyX3_ok hown hk9 hiX3 hzX3 hv rfl (fun j hj => by rcases (show j = 0 ∨ j = 1 ∨ j = 2 ∨ j = 3 ∨ j = 4 ∨ j = 5 by omega) with rfl | rfl | rfl | rfl | rfl | rfl <;> rfl) (Nat.le_of_ble_eq_true rfl) (Nat.le_of_ble_eq_true rfl) dX0_init_5 (fun q1 H hv => ?_)
  replace hv : Hv s H [] G cy A [(aT, .inr (0, [.null, .null])), (q1, .inr (3, [.int 0, .null, .null, .null, .null, .int 0]))] := hv
  refine lv_dup hx hb dX0_init_8 rfl ?_
  refine lv_iconst (v := 0) hx hb dX0_init_9 (by decide) ?_
  refine kI_c (b := q1) (wr := [(aT, .inr (0, [.null, .null]))]) ⟨hx, hb, hml, hown, hts⟩ (c_X3_init l G cy q1 0 rfl rfl) (cwI 1 hts gX0_init_X3_init rfl rfl rfl hzX3 hk11 hmX3 rfl (by decide +kernel) ⟨Nat.le_of_ble_eq_true rfl, Nat.le_of_ble_eq_true rfl⟩) hv (isC := [1]) ⟨rfl, rfl⟩ [0] rfl rfl (by decide) rfl hl.1 rfl (Nat.le_of_ble_eq_true rfl) dX0_init_10 ⟨Nat.le_of_ble_eq_true rfl, Nat.le_of_ble_eq_true rfl⟩ (fun u2 H locs hv => ?_)
  replace hv : Hv s H locs G cy A [(aT, .inr (0, [.null, .null])), (q1, .inr (3, [.int 0, .ref (u2 0), .ref (u2 1), .ref (u2 2), .ref (u2 3), .int 0])), ((u2 0), .inl (cy.1, 40, .inl (fun _ => 0))), ((u2 1), .inl (cy.1, 40, .inl (fun _ => 0))), ((u2 2), .inl (cy.1, 40, .inl (fun _ => 0))), ((u2 3), .inl (cy.1, 40, .inl (fun _ => 0)))] := hv
  refine kPutF (v := .ref q1) (ty := .object "Roomcolour$Row") (C := RX0) (T := TX0) (N := 2) hx hb hts hinX0 tyX0 tyX0_ok nmX0 hown hv 0 rfl rfl 0 (by decide) hk14 (fun _ h9 => h9) rfl hin9 rfl (by decide +kernel) rfl rfl (Nat.le_of_ble_eq_true rfl) dX0_init_13 (fun H locs hv => ?_)
  replace hv : Hv s H locs G cy A [(aT, .inr (0, [.ref q1, .null])), (q1, .inr (3, [.int 0, .ref (u2 0), .ref (u2 1), .ref (u2 2), .ref (u2 3), .int 0])), ((u2 0), .inl (cy.1, 40, .inl (fun _ => 0))), ((u2 1), .inl (cy.1, 40, .inl (fun _ => 0))), ((u2 2), .inl (cy.1, 40, .inl (fun _ => 0))), ((u2 3), .inl (cy.1, 40, .inl (fun _ => 0)))] := hv
  refine lv_aload_n hx hb dX0_init_16 rfl (lv_at hl 0 rfl) ?_
  refine lv_bipush (v := 40) hx hb dX0_init_17 (by decide) ?_
  refine kNewI (N' := 40) hx hb haI hv (by decide) rfl (by decide) (Nat.le_of_ble_eq_true rfl) (Nat.le_of_ble_eq_true rfl) dX0_init_19 (fun q3 H hv => ?_)
  replace hv : Hv s H locs G cy A [(aT, .inr (0, [.ref q1, .null])), (q1, .inr (3, [.int 0, .ref (u2 0), .ref (u2 1), .ref (u2 2), .ref (u2 3), .int 0])), ((u2 0), .inl (cy.1, 40, .inl (fun _ => 0))), ((u2 1), .inl (cy.1, 40, .inl (fun _ => 0))), ((u2 2), .inl (cy.1, 40, .inl (fun _ => 0))), ((u2 3), .inl (cy.1, 40, .inl (fun _ => 0))), (q3, .inl (cy.1, 40, .inl (fun _ => 0)))] := hv
  refine kPutF (v := .ref q3) (ty := .array .int) (C := RX0) (T := TX0) (N := 2) hx hb hts hinX0 tyX0 tyX0_ok nmX0 hown hv 0 rfl rfl 1 (by decide) hk20 (fun _ h9 => h9) rfl hin9 rfl (by decide +kernel) rfl rfl (Nat.le_of_ble_eq_true rfl) dX0_init_21 (fun H locs hv => ?_)
  replace hv : Hv s H locs G cy A [(aT, .inr (0, [.ref q1, .ref q3])), (q1, .inr (3, [.int 0, .ref (u2 0), .ref (u2 1), .ref (u2 2), .ref (u2 3), .int 0])), ((u2 0), .inl (cy.1, 40, .inl (fun _ => 0))), ((u2 1), .inl (cy.1, 40, .inl (fun _ => 0))), ((u2 2), .inl (cy.1, 40, .inl (fun _ => 0))), ((u2 3), .inl (cy.1, 40, .inl (fun _ => 0))), (q3, .inl (cy.1, 40, .inl (fun _ => 0)))] := hv
  exact kret (fun i => ([q1, (u2 0), (u2 1), (u2 2), (u2 3), q3] : List Nat).getD i 0) _ _ _ _ hv dX0_init_24
abbrev rm_X1_init : Room := { frames := 2, cells := 11, slots := 409, locals := 33 }
set_option maxHeartbeats 4000000 in
set_option maxRecDepth 100000 in
theorem c_X1_init (l : Launch) (G : va_G) (cy : ClassId × ClassId × ClassId) (aT : Nat) : Ck l yX1_init wsX1_init rm_X1_init 11 409 G cy [.ref aT] [(aT, .inr (1, [.null, .null, .null, .null, .null, .null, .null]))] (fun u => [(aT, .inr (1, [.ref (u 0), .ref (u 5), .ref (u 6), .ref (u 7), .ref (u 8), .ref (u 9), .ref (u 10)])), ((u 0), .inr (3, [.int 0, .ref (u 1), .ref (u 2), .ref (u 3), .ref (u 4), .int 0])), ((u 1), .inl (cy.1, 40, .inl (fun _ => 0))), ((u 2), .inl (cy.1, 40, .inl (fun _ => 0))), ((u 3), .inl (cy.1, 40, .inl (fun _ => 0))), ((u 4), .inl (cy.1, 40, .inl (fun _ => 0))), ((u 5), .inl (cy.1, 40, .inl (fun _ => 0))), ((u 6), .inl (cy.2.1, 40, .inl (fun _ => 0))), ((u 7), .inl (cy.1, 40, .inl (fun _ => 0))), ((u 8), .inl (cy.1, 41, .inl (fun _ => 0))), ((u 9), .inl (cy.1, 41, .inl (fun _ => 0))), ((u 10), .inl (cy.2.1, 41, .inl (fun _ => 0)))]) := by
  refine kMetC (cc := cX1_init) (maxL := 1) (by decide) rfl (Nat.le_of_ble_eq_true rfl) ?_
  intro p e s m args below meth c Q A ls hx hb hml hts hown hin9 hv hl kret
  replace hown : s.vm.findClass RX1 = some m.cls := hown
  replace hin9 : meth.name = "<init>" := hin9
  replace hl : lv_has ls 1 [(0, .ref aT)] := hl
  have hk3 : (Cond.methodLink RX1 3 objectInit).before args s = true := hts _ (by decide +kernel)
  have hoi : (Cond.instanceMethod objectInit).before args s = true := hts _ (by decide +kernel)
  have hoc : (Cond.code objectInit ⟨#[0xb1]⟩ 1 none).before args s = true := hts _ (by decide +kernel)
  have hk9 : (Cond.classLink RX1 9 RX3).before args s = true := hts _ (by decide +kernel)
  have hiX3 : (Cond.instantiable RX3 6).before args s = true := hts _ (by decide +kernel)
  have hzX3 : (Cond.initialized RX3).before args s = true := hts _ (by decide +kernel)
  have hinX3 : ∀ w ∈ wsX30, w ∈ wsX1_init := by decide +kernel
  have hk11 : (Cond.methodLink RX1 11 yX3_init).before args s = true := hts _ (by decide +kernel)
  have hmX3 : (Cond.instanceMethod yX3_init).before args s = true := hts _ (by decide +kernel)
  have hk14 : (Cond.fieldLink RX1 14 "Roomcolour$ManyRoomsPlan" "row" "LRoomcolour$Row;").before args s = true := hts _ (by decide +kernel)
  have hinX1 : ∀ w ∈ wsX10, w ∈ wsX1_init := by decide +kernel
  have haI : (Cond.arrayClass .int).before args s = true := hts _ (by decide +kernel)
  have hk20 : (Cond.fieldLink RX1 20 "Roomcolour$ManyRoomsPlan" "stopAfter" "[I").before args s = true := hts _ (by decide +kernel)
  have haZ : (Cond.arrayClass .boolean).before args s = true := hts _ (by decide +kernel)
  have hk24 : (Cond.fieldLink RX1 24 "Roomcolour$ManyRoomsPlan" "taken" "[Z").before args s = true := hts _ (by decide +kernel)
  have hk28 : (Cond.fieldLink RX1 28 "Roomcolour$ManyRoomsPlan" "waiting" "[I").before args s = true := hts _ (by decide +kernel)
  have hk31 : (Cond.fieldLink RX1 31 "Roomcolour$ManyRoomsPlan" "gain" "[I").before args s = true := hts _ (by decide +kernel)
  have hk34 : (Cond.fieldLink RX1 34 "Roomcolour$ManyRoomsPlan" "cameFrom" "[I").before args s = true := hts _ (by decide +kernel)
  have hk37 : (Cond.fieldLink RX1 37 "Roomcolour$ManyRoomsPlan" "cameByTaking" "[Z").before args s = true := hts _ (by decide +kernel)
  refine lv_aload_n hx hb dX1_init_0 rfl (lv_at hl 0 rfl) ?_
  refine W.objInit hx hb hown hk3 hoi hoc rfl (by rw [hml]; exact hl.1) rfl dX1_init_1 (Nat.le_of_ble_eq_true rfl) (Nat.le_of_ble_eq_true rfl) ?_
  refine W.eq (g2 := F0 m 4 ls []) rfl ?_
  refine lv_aload_n hx hb dX1_init_4 rfl (lv_at hl 0 rfl) ?_
  refine kNewO (ci := 3) (fs := [.int 0, .null, .null, .null, .null, .int 0]) (C := RX3) (T := TX3) (N := 6) hx hb hts hinX3 tyX3 tyX3_ok hown hk9 hiX3 hzX3 hv rfl (fun j hj => by rcases (show j = 0 ∨ j = 1 ∨ j = 2 ∨ j = 3 ∨ j = 4 ∨ j = 5 by omega) with rfl | rfl | rfl | rfl | rfl | rfl <;> rfl) (Nat.le_of_ble_eq_true rfl) (Nat.le_of_ble_eq_true rfl) dX1_init_5 (fun q1 H hv => ?_)
  replace hv : Hv s H [] G cy A [(aT, .inr (1, [.null, .null, .null, .null, .null, .null, .null])), (q1, .inr (3, [.int 0, .null, .null, .null, .null, .int 0]))] := hv
  refine lv_dup hx hb dX1_init_8 rfl ?_
  refine lv_iconst (v := 0) hx hb dX1_init_9 (by decide) ?_
  refine kI_c (b := q1) (wr := [(aT, .inr (1, [.null, .null, .null, .null, .null, .null, .null]))]) ⟨hx, hb, hml, hown, hts⟩ (c_X3_init l G cy q1 0 rfl rfl) (cwI 1 hts gX1_init_X3_init rfl rfl rfl hzX3 hk11 hmX3 rfl (by decide +kernel) ⟨Nat.le_of_ble_eq_true rfl, Nat.le_of_ble_eq_true rfl⟩) hv (isC := [1]) ⟨rfl, rfl⟩ [0] rfl rfl (by decide) rfl hl.1 rfl (Nat.le_of_ble_eq_true rfl) dX1_init_10 ⟨Nat.le_of_ble_eq_true rfl, Nat.le_of_ble_eq_true rfl⟩ (fun u2 H locs hv => ?_)
  replace hv : Hv s H locs G cy A [(aT, .inr (1, [.null, .null, .null, .null, .null, .null, .null])), (q1, .inr (3, [.int 0, .ref (u2 0), .ref (u2 1), .ref (u2 2), .ref (u2 3), .int 0])), ((u2 0), .inl (cy.1, 40, .inl (fun _ => 0))), ((u2 1), .inl (cy.1, 40, .inl (fun _ => 0))), ((u2 2), .inl (cy.1, 40, .inl (fun _ => 0))), ((u2 3), .inl (cy.1, 40, .inl (fun _ => 0)))] := hv
  refine kPutF (v := .ref q1) (ty := .object "Roomcolour$Row") (C := RX1) (T := TX1) (N := 7) hx hb hts hinX1 tyX1 tyX1_ok nmX1 hown hv 0 rfl rfl 0 (by decide) hk14 (fun _ h9 => h9) rfl hin9 rfl (by decide +kernel) rfl rfl (Nat.le_of_ble_eq_true rfl) dX1_init_13 (fun H locs hv => ?_)
  replace hv : Hv s H locs G cy A [(aT, .inr (1, [.ref q1, .null, .null, .null, .null, .null, .null])), (q1, .inr (3, [.int 0, .ref (u2 0), .ref (u2 1), .ref (u2 2), .ref (u2 3), .int 0])), ((u2 0), .inl (cy.1, 40, .inl (fun _ => 0))), ((u2 1), .inl (cy.1, 40, .inl (fun _ => 0))), ((u2 2), .inl (cy.1, 40, .inl (fun _ => 0))), ((u2 3), .inl (cy.1, 40, .inl (fun _ => 0)))] := hv
  refine lv_aload_n hx hb dX1_init_16 rfl (lv_at hl 0 rfl) ?_
  refine lv_bipush (v := 40) hx hb dX1_init_17 (by decide) ?_
  refine kNewI (N' := 40) hx hb haI hv (by decide) rfl (by decide) (Nat.le_of_ble_eq_true rfl) (Nat.le_of_ble_eq_true rfl) dX1_init_19 (fun q3 H hv => ?_)
  replace hv : Hv s H locs G cy A [(aT, .inr (1, [.ref q1, .null, .null, .null, .null, .null, .null])), (q1, .inr (3, [.int 0, .ref (u2 0), .ref (u2 1), .ref (u2 2), .ref (u2 3), .int 0])), ((u2 0), .inl (cy.1, 40, .inl (fun _ => 0))), ((u2 1), .inl (cy.1, 40, .inl (fun _ => 0))), ((u2 2), .inl (cy.1, 40, .inl (fun _ => 0))), ((u2 3), .inl (cy.1, 40, .inl (fun _ => 0))), (q3, .inl (cy.1, 40, .inl (fun _ => 0)))] := hv
  refine kPutF (v := .ref q3) (ty := .array .int) (C := RX1) (T := TX1) (N := 7) hx hb hts hinX1 tyX1 tyX1_ok nmX1 hown hv 0 rfl rfl 1 (by decide) hk20 (fun _ h9 => h9) rfl hin9 rfl (by decide +kernel) rfl rfl (Nat.le_of_ble_eq_true rfl) dX1_init_21 (fun H locs hv => ?_)
  replace hv : Hv s H locs G cy A [(aT, .inr (1, [.ref q1, .ref q3, .null, .null, .null, .null, .null])), (q1, .inr (3, [.int 0, .ref (u2 0), .ref (u2 1), .ref (u2 2), .ref (u2 3), .int 0])), ((u2 0), .inl (cy.1, 40, .inl (fun _ => 0))), ((u2 1), .inl (cy.1, 40, .inl (fun _ => 0))), ((u2 2), .inl (cy.1, 40, .inl (fun _ => 0))), ((u2 3), .inl (cy.1, 40, .inl (fun _ => 0))), (q3, .inl (cy.1, 40, .inl (fun _ => 0)))] := hv
  refine lv_aload_n hx hb dX1_init_24 rfl (lv_at hl 0 rfl) ?_
  refine lv_bipush (v := 40) hx hb dX1_init_25 (by decide) ?_
  refine kNewZ (N' := 40) hx hb haZ hv (by decide) rfl (by decide) (Nat.le_of_ble_eq_true rfl) (Nat.le_of_ble_eq_true rfl) dX1_init_27 (fun q4 H hv => ?_)
  replace hv : Hv s H locs G cy A [(aT, .inr (1, [.ref q1, .ref q3, .null, .null, .null, .null, .null])), (q1, .inr (3, [.int 0, .ref (u2 0), .ref (u2 1), .ref (u2 2), .ref (u2 3), .int 0])), ((u2 0), .inl (cy.1, 40, .inl (fun _ => 0))), ((u2 1), .inl (cy.1, 40, .inl (fun _ => 0))), ((u2 2), .inl (cy.1, 40, .inl (fun _ => 0))), ((u2 3), .inl (cy.1, 40, .inl (fun _ => 0))), (q3, .inl (cy.1, 40, .inl (fun _ => 0))), (q4, .inl (cy.2.1, 40, .inl (fun _ => 0)))] := hv
  refine kPutF (v := .ref q4) (ty := .array .boolean) (C := RX1) (T := TX1) (N := 7) hx hb hts hinX1 tyX1 tyX1_ok nmX1 hown hv 0 rfl rfl 2 (by decide) hk24 (fun _ h9 => h9) rfl hin9 rfl (by decide +kernel) rfl rfl (Nat.le_of_ble_eq_true rfl) dX1_init_29 (fun H locs hv => ?_)
  replace hv : Hv s H locs G cy A [(aT, .inr (1, [.ref q1, .ref q3, .ref q4, .null, .null, .null, .null])), (q1, .inr (3, [.int 0, .ref (u2 0), .ref (u2 1), .ref (u2 2), .ref (u2 3), .int 0])), ((u2 0), .inl (cy.1, 40, .inl (fun _ => 0))), ((u2 1), .inl (cy.1, 40, .inl (fun _ => 0))), ((u2 2), .inl (cy.1, 40, .inl (fun _ => 0))), ((u2 3), .inl (cy.1, 40, .inl (fun _ => 0))), (q3, .inl (cy.1, 40, .inl (fun _ => 0))), (q4, .inl (cy.2.1, 40, .inl (fun _ => 0)))] := hv
  refine lv_aload_n hx hb dX1_init_32 rfl (lv_at hl 0 rfl) ?_
  refine lv_bipush (v := 40) hx hb dX1_init_33 (by decide) ?_
  refine kNewI (N' := 40) hx hb haI hv (by decide) rfl (by decide) (Nat.le_of_ble_eq_true rfl) (Nat.le_of_ble_eq_true rfl) dX1_init_35 (fun q5 H hv => ?_)
  replace hv : Hv s H locs G cy A [(aT, .inr (1, [.ref q1, .ref q3, .ref q4, .null, .null, .null, .null])), (q1, .inr (3, [.int 0, .ref (u2 0), .ref (u2 1), .ref (u2 2), .ref (u2 3), .int 0])), ((u2 0), .inl (cy.1, 40, .inl (fun _ => 0))), ((u2 1), .inl (cy.1, 40, .inl (fun _ => 0))), ((u2 2), .inl (cy.1, 40, .inl (fun _ => 0))), ((u2 3), .inl (cy.1, 40, .inl (fun _ => 0))), (q3, .inl (cy.1, 40, .inl (fun _ => 0))), (q4, .inl (cy.2.1, 40, .inl (fun _ => 0))), (q5, .inl (cy.1, 40, .inl (fun _ => 0)))] := hv
  refine kPutF (v := .ref q5) (ty := .array .int) (C := RX1) (T := TX1) (N := 7) hx hb hts hinX1 tyX1 tyX1_ok nmX1 hown hv 0 rfl rfl 3 (by decide) hk28 (fun _ h9 => h9) rfl hin9 rfl (by decide +kernel) rfl rfl (Nat.le_of_ble_eq_true rfl) dX1_init_37 (fun H locs hv => ?_)
  replace hv : Hv s H locs G cy A [(aT, .inr (1, [.ref q1, .ref q3, .ref q4, .ref q5, .null, .null, .null])), (q1, .inr (3, [.int 0, .ref (u2 0), .ref (u2 1), .ref (u2 2), .ref (u2 3), .int 0])), ((u2 0), .inl (cy.1, 40, .inl (fun _ => 0))), ((u2 1), .inl (cy.1, 40, .inl (fun _ => 0))), ((u2 2), .inl (cy.1, 40, .inl (fun _ => 0))), ((u2 3), .inl (cy.1, 40, .inl (fun _ => 0))), (q3, .inl (cy.1, 40, .inl (fun _ => 0))), (q4, .inl (cy.2.1, 40, .inl (fun _ => 0))), (q5, .inl (cy.1, 40, .inl (fun _ => 0)))] := hv
  refine lv_aload_n hx hb dX1_init_40 rfl (lv_at hl 0 rfl) ?_
  refine lv_bipush (v := 41) hx hb dX1_init_41 (by decide) ?_
  refine kNewI (N' := 41) hx hb haI hv (by decide) rfl (by decide) (Nat.le_of_ble_eq_true rfl) (Nat.le_of_ble_eq_true rfl) dX1_init_43 (fun q6 H hv => ?_)
  replace hv : Hv s H locs G cy A [(aT, .inr (1, [.ref q1, .ref q3, .ref q4, .ref q5, .null, .null, .null])), (q1, .inr (3, [.int 0, .ref (u2 0), .ref (u2 1), .ref (u2 2), .ref (u2 3), .int 0])), ((u2 0), .inl (cy.1, 40, .inl (fun _ => 0))), ((u2 1), .inl (cy.1, 40, .inl (fun _ => 0))), ((u2 2), .inl (cy.1, 40, .inl (fun _ => 0))), ((u2 3), .inl (cy.1, 40, .inl (fun _ => 0))), (q3, .inl (cy.1, 40, .inl (fun _ => 0))), (q4, .inl (cy.2.1, 40, .inl (fun _ => 0))), (q5, .inl (cy.1, 40, .inl (fun _ => 0))), (q6, .inl (cy.1, 41, .inl (fun _ => 0)))] := hv
  refine kPutF (v := .ref q6) (ty := .array .int) (C := RX1) (T := TX1) (N := 7) hx hb hts hinX1 tyX1 tyX1_ok nmX1 hown hv 0 rfl rfl 4 (by decide) hk31 (fun _ h9 => h9) rfl hin9 rfl (by decide +kernel) rfl rfl (Nat.le_of_ble_eq_true rfl) dX1_init_45 (fun H locs hv => ?_)
  replace hv : Hv s H locs G cy A [(aT, .inr (1, [.ref q1, .ref q3, .ref q4, .ref q5, .ref q6, .null, .null])), (q1, .inr (3, [.int 0, .ref (u2 0), .ref (u2 1), .ref (u2 2), .ref (u2 3), .int 0])), ((u2 0), .inl (cy.1, 40, .inl (fun _ => 0))), ((u2 1), .inl (cy.1, 40, .inl (fun _ => 0))), ((u2 2), .inl (cy.1, 40, .inl (fun _ => 0))), ((u2 3), .inl (cy.1, 40, .inl (fun _ => 0))), (q3, .inl (cy.1, 40, .inl (fun _ => 0))), (q4, .inl (cy.2.1, 40, .inl (fun _ => 0))), (q5, .inl (cy.1, 40, .inl (fun _ => 0))), (q6, .inl (cy.1, 41, .inl (fun _ => 0)))] := hv
  refine lv_aload_n hx hb dX1_init_48 rfl (lv_at hl 0 rfl) ?_
  refine lv_bipush (v := 41) hx hb dX1_init_49 (by decide) ?_
  refine kNewI (N' := 41) hx hb haI hv (by decide) rfl (by decide) (Nat.le_of_ble_eq_true rfl) (Nat.le_of_ble_eq_true rfl) dX1_init_51 (fun q7 H hv => ?_)
  replace hv : Hv s H locs G cy A [(aT, .inr (1, [.ref q1, .ref q3, .ref q4, .ref q5, .ref q6, .null, .null])), (q1, .inr (3, [.int 0, .ref (u2 0), .ref (u2 1), .ref (u2 2), .ref (u2 3), .int 0])), ((u2 0), .inl (cy.1, 40, .inl (fun _ => 0))), ((u2 1), .inl (cy.1, 40, .inl (fun _ => 0))), ((u2 2), .inl (cy.1, 40, .inl (fun _ => 0))), ((u2 3), .inl (cy.1, 40, .inl (fun _ => 0))), (q3, .inl (cy.1, 40, .inl (fun _ => 0))), (q4, .inl (cy.2.1, 40, .inl (fun _ => 0))), (q5, .inl (cy.1, 40, .inl (fun _ => 0))), (q6, .inl (cy.1, 41, .inl (fun _ => 0))), (q7, .inl (cy.1, 41, .inl (fun _ => 0)))] := hv
  refine kPutF (v := .ref q7) (ty := .array .int) (C := RX1) (T := TX1) (N := 7) hx hb hts hinX1 tyX1 tyX1_ok nmX1 hown hv 0 rfl rfl 5 (by decide) hk34 (fun _ h9 => h9) rfl hin9 rfl (by decide +kernel) rfl rfl (Nat.le_of_ble_eq_true rfl) dX1_init_53 (fun H locs hv => ?_)
  replace hv : Hv s H locs G cy A [(aT, .inr (1, [.ref q1, .ref q3, .ref q4, .ref q5, .ref q6, .ref q7, .null])), (q1, .inr (3, [.int 0, .ref (u2 0), .ref (u2 1), .ref (u2 2), .ref (u2 3), .int 0])), ((u2 0), .inl (cy.1, 40, .inl (fun _ => 0))), ((u2 1), .inl (cy.1, 40, .inl (fun _ => 0))), ((u2 2), .inl (cy.1, 40, .inl (fun _ => 0))), ((u2 3), .inl (cy.1, 40, .inl (fun _ => 0))), (q3, .inl (cy.1, 40, .inl (fun _ => 0))), (q4, .inl (cy.2.1, 40, .inl (fun _ => 0))), (q5, .inl (cy.1, 40, .inl (fun _ => 0))), (q6, .inl (cy.1, 41, .inl (fun _ => 0))), (q7, .inl (cy.1, 41, .inl (fun _ => 0)))] := hv
  refine lv_aload_n hx hb dX1_init_56 rfl (lv_at hl 0 rfl) ?_
  refine lv_bipush (v := 41) hx hb dX1_init_57 (by decide) ?_
  refine kNewZ (N' := 41) hx hb haZ hv (by decide) rfl (by decide) (Nat.le_of_ble_eq_true rfl) (Nat.le_of_ble_eq_true rfl) dX1_init_59 (fun q8 H hv => ?_)
  replace hv : Hv s H locs G cy A [(aT, .inr (1, [.ref q1, .ref q3, .ref q4, .ref q5, .ref q6, .ref q7, .null])), (q1, .inr (3, [.int 0, .ref (u2 0), .ref (u2 1), .ref (u2 2), .ref (u2 3), .int 0])), ((u2 0), .inl (cy.1, 40, .inl (fun _ => 0))), ((u2 1), .inl (cy.1, 40, .inl (fun _ => 0))), ((u2 2), .inl (cy.1, 40, .inl (fun _ => 0))), ((u2 3), .inl (cy.1, 40, .inl (fun _ => 0))), (q3, .inl (cy.1, 40, .inl (fun _ => 0))), (q4, .inl (cy.2.1, 40, .inl (fun _ => 0))), (q5, .inl (cy.1, 40, .inl (fun _ => 0))), (q6, .inl (cy.1, 41, .inl (fun _ => 0))), (q7, .inl (cy.1, 41, .inl (fun _ => 0))), (q8, .inl (cy.2.1, 41, .inl (fun _ => 0)))] := hv
  refine kPutF (v := .ref q8) (ty := .array .boolean) (C := RX1) (T := TX1) (N := 7) hx hb hts hinX1 tyX1 tyX1_ok nmX1 hown hv 0 rfl rfl 6 (by decide) hk37 (fun _ h9 => h9) rfl hin9 rfl (by decide +kernel) rfl rfl (Nat.le_of_ble_eq_true rfl) dX1_init_61 (fun H locs hv => ?_)
  replace hv : Hv s H locs G cy A [(aT, .inr (1, [.ref q1, .ref q3, .ref q4, .ref q5, .ref q6, .ref q7, .ref q8])), (q1, .inr (3, [.int 0, .ref (u2 0), .ref (u2 1), .ref (u2 2), .ref (u2 3), .int 0])), ((u2 0), .inl (cy.1, 40, .inl (fun _ => 0))), ((u2 1), .inl (cy.1, 40, .inl (fun _ => 0))), ((u2 2), .inl (cy.1, 40, .inl (fun _ => 0))), ((u2 3), .inl (cy.1, 40, .inl (fun _ => 0))), (q3, .inl (cy.1, 40, .inl (fun _ => 0))), (q4, .inl (cy.2.1, 40, .inl (fun _ => 0))), (q5, .inl (cy.1, 40, .inl (fun _ => 0))), (q6, .inl (cy.1, 41, .inl (fun _ => 0))), (q7, .inl (cy.1, 41, .inl (fun _ => 0))), (q8, .inl (cy.2.1, 41, .inl (fun _ => 0)))] := hv
  exact kret (fun i => ([q1, (u2 0), (u2 1), (u2 2), (u2 3), q3, q4, q5, q6, q7, q8] : List Nat).getD i 0) _ _ _ _ hv dX1_init_64
abbrev rm_X2_init : Room := { frames := 2, cells := 6, slots := 207, locals := 33 }
set_option maxHeartbeats 4000000 in
set_option maxRecDepth 100000 in
theorem c_X2_init (l : Launch) (G : va_G) (cy : ClassId × ClassId × ClassId) (aT : Nat) : Ck l yX2_init wsX2_init rm_X2_init 6 207 G cy [.ref aT] [(aT, .inr (2, [.null, .null]))] (fun u => [(aT, .inr (2, [.ref (u 0), .ref (u 5)])), ((u 0), .inr (3, [.int 1, .ref (u 1), .ref (u 2), .ref (u 3), .ref (u 4), .int 0])), ((u 1), .inl (cy.1, 40, .inl (fun _ => 0))), ((u 2), .inl (cy.1, 40, .inl (fun _ => 0))), ((u 3), .inl (cy.1, 40, .inl (fun _ => 0))), ((u 4), .inl (cy.1, 40, .inl (fun _ => 0))), ((u 5), .inl (cy.1, 41, .inl (fun _ => 0)))]) := by
  refine kMetC (cc := cX2_init) (maxL := 1) (by decide) rfl (Nat.le_of_ble_eq_true rfl) ?_
  intro p e s m args below meth c Q A ls hx hb hml hts hown hin9 hv hl kret
  replace hown : s.vm.findClass RX2 = some m.cls := hown
  replace hin9 : meth.name = "<init>" := hin9
  replace hl : lv_has ls 1 [(0, .ref aT)] := hl
  have hk3 : (Cond.methodLink RX2 3 objectInit).before args s = true := hts _ (by decide +kernel)
  have hoi : (Cond.instanceMethod objectInit).before args s = true := hts _ (by decide +kernel)
  have hoc : (Cond.code objectInit ⟨#[0xb1]⟩ 1 none).before args s = true := hts _ (by decide +kernel)
  have hk9 : (Cond.classLink RX2 9 RX3).before args s = true := hts _ (by decide +kernel)
  have hiX3 : (Cond.instantiable RX3 6).before args s = true := hts _ (by decide +kernel)
  have hzX3 : (Cond.initialized RX3).before args s = true := hts _ (by decide +kernel)
  have hinX3 : ∀ w ∈ wsX30, w ∈ wsX2_init := by decide +kernel
  have hk11 : (Cond.methodLink RX2 11 yX3_init).before args s = true := hts _ (by decide +kernel)
  have hmX3 : (Cond.instanceMethod yX3_init).before args s = true := hts _ (by decide +kernel)
  have hk14 : (Cond.fieldLink RX2 14 "Roomcolour$OneRoomPlan" "row" "LRoomcolour$Row;").before args s = true := hts _ (by decide +kernel)
  have hinX2 : ∀ w ∈ wsX20, w ∈ wsX2_init := by decide +kernel
  have haI : (Cond.arrayClass .int).before args s = true := hts _ (by decide +kernel)
  have hk20 : (Cond.fieldLink RX2 20 "Roomcolour$OneRoomPlan" "best" "[I").before args s = true := hts _ (by decide +kernel)
  refine lv_aload_n hx hb dX2_init_0 rfl (lv_at hl 0 rfl) ?_
  refine W.objInit hx hb hown hk3 hoi hoc rfl (by rw [hml]; exact hl.1) rfl dX2_init_1 (Nat.le_of_ble_eq_true rfl) (Nat.le_of_ble_eq_true rfl) ?_
  refine W.eq (g2 := F0 m 4 ls []) rfl ?_
  refine lv_aload_n hx hb dX2_init_4 rfl (lv_at hl 0 rfl) ?_
  refine kNewO (ci := 3) (fs := [.int 0, .null, .null, .null, .null, .int 0]) (C := RX3) (T := TX3) (N := 6) hx hb hts hinX3 tyX3 tyX3_ok hown hk9 hiX3 hzX3 hv rfl (fun j hj => by rcases (show j = 0 ∨ j = 1 ∨ j = 2 ∨ j = 3 ∨ j = 4 ∨ j = 5 by omega) with rfl | rfl | rfl | rfl | rfl | rfl <;> rfl) (Nat.le_of_ble_eq_true rfl) (Nat.le_of_ble_eq_true rfl) dX2_init_5 (fun q1 H hv => ?_)
  replace hv : Hv s H [] G cy A [(aT, .inr (2, [.null, .null])), (q1, .inr (3, [.int 0, .null, .null, .null, .null, .int 0]))] := hv
  refine lv_dup hx hb dX2_init_8 rfl ?_
  refine lv_iconst (v := 1) hx hb dX2_init_9 (by decide) ?_
  refine kI_c (b := q1) (wr := [(aT, .inr (2, [.null, .null]))]) ⟨hx, hb, hml, hown, hts⟩ (c_X3_init l G cy q1 1 rfl rfl) (cwI 1 hts gX2_init_X3_init rfl rfl rfl hzX3 hk11 hmX3 rfl (by decide +kernel) ⟨Nat.le_of_ble_eq_true rfl, Nat.le_of_ble_eq_true rfl⟩) hv (isC := [1]) ⟨rfl, rfl⟩ [0] rfl rfl (by decide) rfl hl.1 rfl (Nat.le_of_ble_eq_true rfl) dX2_init_10 ⟨Nat.le_of_ble_eq_true rfl, Nat.le_of_ble_eq_true rfl⟩ (fun u2 H locs hv => ?_)
  replace hv : Hv s H locs G cy A [(aT, .inr (2, [.null, .null])), (q1, .inr (3, [.int 1, .ref (u2 0), .ref (u2 1), .ref (u2 2), .ref (u2 3), .int 0])), ((u2 0), .inl (cy.1, 40, .inl (fun _ => 0))), ((u2 1), .inl (cy.1, 40, .inl (fun _ => 0))), ((u2 2), .inl (cy.1, 40, .inl (fun _ => 0))), ((u2 3), .inl (cy.1, 40, .inl (fun _ => 0)))] := hv
  refine kPutF (v := .ref q1) (ty := .object "Roomcolour$Row") (C := RX2) (T := TX2) (N := 2) hx hb hts hinX2 tyX2 tyX2_ok nmX2 hown hv 0 rfl rfl 0 (by decide) hk14 (fun _ h9 => h9) rfl hin9 rfl (by decide +kernel) rfl rfl (Nat.le_of_ble_eq_true rfl) dX2_init_13 (fun H locs hv => ?_)
  replace hv : Hv s H locs G cy A [(aT, .inr (2, [.ref q1, .null])), (q1, .inr (3, [.int 1, .ref (u2 0), .ref (u2 1), .ref (u2 2), .ref (u2 3), .int 0])), ((u2 0), .inl (cy.1, 40, .inl (fun _ => 0))), ((u2 1), .inl (cy.1, 40, .inl (fun _ => 0))), ((u2 2), .inl (cy.1, 40, .inl (fun _ => 0))), ((u2 3), .inl (cy.1, 40, .inl (fun _ => 0)))] := hv
  refine lv_aload_n hx hb dX2_init_16 rfl (lv_at hl 0 rfl) ?_
  refine lv_bipush (v := 41) hx hb dX2_init_17 (by decide) ?_
  refine kNewI (N' := 41) hx hb haI hv (by decide) rfl (by decide) (Nat.le_of_ble_eq_true rfl) (Nat.le_of_ble_eq_true rfl) dX2_init_19 (fun q3 H hv => ?_)
  replace hv : Hv s H locs G cy A [(aT, .inr (2, [.ref q1, .null])), (q1, .inr (3, [.int 1, .ref (u2 0), .ref (u2 1), .ref (u2 2), .ref (u2 3), .int 0])), ((u2 0), .inl (cy.1, 40, .inl (fun _ => 0))), ((u2 1), .inl (cy.1, 40, .inl (fun _ => 0))), ((u2 2), .inl (cy.1, 40, .inl (fun _ => 0))), ((u2 3), .inl (cy.1, 40, .inl (fun _ => 0))), (q3, .inl (cy.1, 41, .inl (fun _ => 0)))] := hv
  refine kPutF (v := .ref q3) (ty := .array .int) (C := RX2) (T := TX2) (N := 2) hx hb hts hinX2 tyX2 tyX2_ok nmX2 hown hv 0 rfl rfl 1 (by decide) hk20 (fun _ h9 => h9) rfl hin9 rfl (by decide +kernel) rfl rfl (Nat.le_of_ble_eq_true rfl) dX2_init_21 (fun H locs hv => ?_)
  replace hv : Hv s H locs G cy A [(aT, .inr (2, [.ref q1, .ref q3])), (q1, .inr (3, [.int 1, .ref (u2 0), .ref (u2 1), .ref (u2 2), .ref (u2 3), .int 0])), ((u2 0), .inl (cy.1, 40, .inl (fun _ => 0))), ((u2 1), .inl (cy.1, 40, .inl (fun _ => 0))), ((u2 2), .inl (cy.1, 40, .inl (fun _ => 0))), ((u2 3), .inl (cy.1, 40, .inl (fun _ => 0))), (q3, .inl (cy.1, 41, .inl (fun _ => 0)))] := hv
  exact kret (fun i => ([q1, (u2 0), (u2 1), (u2 2), (u2 3), q3] : List Nat).getD i 0) _ _ _ _ hv dX2_init_24
abbrev rm_X4_init : Room := { frames := 3, cells := 29, slots := 953, locals := 53 }
set_option maxHeartbeats 4000000 in
set_option maxRecDepth 100000 in
theorem c_X4_init (l : Launch) (G : va_G) (cy : ClassId × ClassId × ClassId) (aT : Nat) : Ck l yX4_init wsX4_init rm_X4_init 29 953 G cy [.ref aT] [(aT, .inr (4, [.null, .null, .null, .int 0, .long 0, .int 0, .long 0, .long 0, .int 0, .null, .null, .null]))] (fun u => [(aT, .inr (4, [.ref (u 0), .ref (u 1), .ref (u 2), .int 0, .long 0, .int 100, .long 0, .long 0, .int 0, .ref (u 3), .ref (u 10), .ref (u 17)])), ((u 0), .inl (cy.1, 40, .inl (fun _ => 0))), ((u 1), .inl (cy.1, 40, .inl (fun _ => 0))), ((u 2), .inl (cy.1, 40, .inl (fun _ => 0))), ((u 3), .inr (0, [.ref (u 4), .ref (u 9)])), ((u 4), .inr (3, [.int 0, .ref (u 5), .ref (u 6), .ref (u 7), .ref (u 8), .int 0])), ((u 5), .inl (cy.1, 40, .inl (fun _ => 0))), ((u 6), .inl (cy.1, 40, .inl (fun _ => 0))), ((u 7), .inl (cy.1, 40, .inl (fun _ => 0))), ((u 8), .inl (cy.1, 40, .inl (fun _ => 0))), ((u 9), .inl (cy.1, 40, .inl (fun _ => 0))), ((u 10), .inr (2, [.ref (u 11), .ref (u 16)])), ((u 11), .inr (3, [.int 1, .ref (u 12), .ref (u 13), .ref (u 14), .ref (u 15), .int 0])), ((u 12), .inl (cy.1, 40, .inl (fun _ => 0))), ((u 13), .inl (cy.1, 40, .inl (fun _ => 0))), ((u 14), .inl (cy.1, 40, .inl (fun _ => 0))), ((u 15), .inl (cy.1, 40, .inl (fun _ => 0))), ((u 16), .inl (cy.1, 41, .inl (fun _ => 0))), ((u 17), .inr (1, [.ref (u 18), .ref (u 23), .ref (u 24), .ref (u 25), .ref (u 26), .ref (u 27), .ref (u 28)])), ((u 18), .inr (3, [.int 0, .ref (u 19), .ref (u 20), .ref (u 21), .ref (u 22), .int 0])), ((u 19), .inl (cy.1, 40, .inl (fun _ => 0))), ((u 20), .inl (cy.1, 40, .inl (fun _ => 0))), ((u 21), .inl (cy.1, 40, .inl (fun _ => 0))), ((u 22), .inl (cy.1, 40, .inl (fun _ => 0))), ((u 23), .inl (cy.1, 40, .inl (fun _ => 0))), ((u 24), .inl (cy.2.1, 40, .inl (fun _ => 0))), ((u 25), .inl (cy.1, 40, .inl (fun _ => 0))), ((u 26), .inl (cy.1, 41, .inl (fun _ => 0))), ((u 27), .inl (cy.1, 41, .inl (fun _ => 0))), ((u 28), .inl (cy.2.1, 41, .inl (fun _ => 0)))]) := by
  refine kMetC (cc := cX4_init) (maxL := 1) (by decide) rfl (Nat.le_of_ble_eq_true rfl) ?_
  intro p e s m args below meth c Q A ls hx hb hml hts hown hin9 hv hl kret
  replace hown : s.vm.findClass RX4 = some m.cls := hown
  replace hin9 : meth.name = "<init>" := hin9
  replace hl : lv_has ls 1 [(0, .ref aT)] := hl
  have hk1 : (Cond.methodLink RX4 1 objectInit).before args s = true := hts _ (by decide +kernel)
  have hoi : (Cond.instanceMethod objectInit).before args s = true := hts _ (by decide +kernel)
  have hoc : (Cond.code objectInit ⟨#[0xb1]⟩ 1 none).before args s = true := hts _ (by decide +kernel)
  have haI : (Cond.arrayClass .int).before args s = true := hts _ (by decide +kernel)
  have hk9 : (Cond.fieldLink RX4 9 "Roomcolour" "begins" "[I").before args s = true := hts _ (by decide +kernel)
  have hinX4 : ∀ w ∈ wsX40, w ∈ wsX4_init := by decide +kernel
  have hk13 : (Cond.fieldLink RX4 13 "Roomcolour" "ends" "[I").before args s = true := hts _ (by decide +kernel)
  have hk16 : (Cond.fieldLink RX4 16 "Roomcolour" "weights" "[I").before args s = true := hts _ (by decide +kernel)
  have hk19 : (Cond.fieldLink RX4 19 "Roomcolour" "factor" "I").before args s = true := hts _ (by decide +kernel)
  have hk23 : (Cond.classLink RX4 23 RX0).before args s = true := hts _ (by decide +kernel)
  have hiX0 : (Cond.instantiable RX0 2).before args s = true := hts _ (by decide +kernel)
  have hzX0 : (Cond.initialized RX0).before args s = true := hts _ (by decide +kernel)
  have hinX0 : ∀ w ∈ wsX00, w ∈ wsX4_init := by decide +kernel
  have hk25 : (Cond.methodLink RX4 25 yX0_init).before args s = true := hts _ (by decide +kernel)
  have hmX0 : (Cond.instanceMethod yX0_init).before args s = true := hts _ (by decide +kernel)
  have hk26 : (Cond.fieldLink RX4 26 "Roomcolour" "givenRooms" "LRoomcolour$GivenRooms;").before args s = true := hts _ (by decide +kernel)
  have hk30 : (Cond.classLink RX4 30 RX2).before args s = true := hts _ (by decide +kernel)
  have hiX2 : (Cond.instantiable RX2 2).before args s = true := hts _ (by decide +kernel)
  have hzX2 : (Cond.initialized RX2).before args s = true := hts _ (by decide +kernel)
  have hinX2 : ∀ w ∈ wsX20, w ∈ wsX4_init := by decide +kernel
  have hk32 : (Cond.methodLink RX4 32 yX2_init).before args s = true := hts _ (by decide +kernel)
  have hmX2 : (Cond.instanceMethod yX2_init).before args s = true := hts _ (by decide +kernel)
  have hk33 : (Cond.fieldLink RX4 33 "Roomcolour" "oneRoom" "LRoomcolour$OneRoomPlan;").before args s = true := hts _ (by decide +kernel)
  have hk37 : (Cond.classLink RX4 37 RX1).before args s = true := hts _ (by decide +kernel)
  have hiX1 : (Cond.instantiable RX1 7).before args s = true := hts _ (by decide +kernel)
  have hzX1 : (Cond.initialized RX1).before args s = true := hts _ (by decide +kernel)
  have hinX1 : ∀ w ∈ wsX10, w ∈ wsX4_init := by decide +kernel
  have hk39 : (Cond.methodLink RX4 39 yX1_init).before args s = true := hts _ (by decide +kernel)
  have hmX1 : (Cond.instanceMethod yX1_init).before args s = true := hts _ (by decide +kernel)
  have hk40 : (Cond.fieldLink RX4 40 "Roomcolour" "manyRooms" "LRoomcolour$ManyRoomsPlan;").before args s = true := hts _ (by decide +kernel)
  refine lv_aload_n hx hb dX4_init_0 rfl (lv_at hl 0 rfl) ?_
  refine W.objInit hx hb hown hk1 hoi hoc rfl (by rw [hml]; exact hl.1) rfl dX4_init_1 (Nat.le_of_ble_eq_true rfl) (Nat.le_of_ble_eq_true rfl) ?_
  refine W.eq (g2 := F0 m 4 ls []) rfl ?_
  refine lv_aload_n hx hb dX4_init_4 rfl (lv_at hl 0 rfl) ?_
  refine lv_bipush (v := 40) hx hb dX4_init_5 (by decide) ?_
  refine kNewI (N' := 40) hx hb haI hv (by decide) rfl (by decide) (Nat.le_of_ble_eq_true rfl) (Nat.le_of_ble_eq_true rfl) dX4_init_7 (fun q1 H hv => ?_)
  replace hv : Hv s H [] G cy A [(aT, .inr (4, [.null, .null, .null, .int 0, .long 0, .int 0, .long 0, .long 0, .int 0, .null, .null, .null])), (q1, .inl (cy.1, 40, .inl (fun _ => 0)))] := hv
  refine kPutF (v := .ref q1) (ty := .array .int) (C := RX4) (T := TX4) (N := 12) hx hb hts hinX4 tyX4 tyX4_ok nmX4 hown hv 0 rfl rfl 0 (by decide) hk9 (fun _ h9 => h9) rfl hin9 rfl (by decide +kernel) rfl rfl (Nat.le_of_ble_eq_true rfl) dX4_init_9 (fun H locs hv => ?_)
  replace hv : Hv s H locs G cy A [(aT, .inr (4, [.ref q1, .null, .null, .int 0, .long 0, .int 0, .long 0, .long 0, .int 0, .null, .null, .null])), (q1, .inl (cy.1, 40, .inl (fun _ => 0)))] := hv
  refine lv_aload_n hx hb dX4_init_12 rfl (lv_at hl 0 rfl) ?_
  refine lv_bipush (v := 40) hx hb dX4_init_13 (by decide) ?_
  refine kNewI (N' := 40) hx hb haI hv (by decide) rfl (by decide) (Nat.le_of_ble_eq_true rfl) (Nat.le_of_ble_eq_true rfl) dX4_init_15 (fun q2 H hv => ?_)
  replace hv : Hv s H locs G cy A [(aT, .inr (4, [.ref q1, .null, .null, .int 0, .long 0, .int 0, .long 0, .long 0, .int 0, .null, .null, .null])), (q1, .inl (cy.1, 40, .inl (fun _ => 0))), (q2, .inl (cy.1, 40, .inl (fun _ => 0)))] := hv
  refine kPutF (v := .ref q2) (ty := .array .int) (C := RX4) (T := TX4) (N := 12) hx hb hts hinX4 tyX4 tyX4_ok nmX4 hown hv 0 rfl rfl 1 (by decide) hk13 (fun _ h9 => h9) rfl hin9 rfl (by decide +kernel) rfl rfl (Nat.le_of_ble_eq_true rfl) dX4_init_17 (fun H locs hv => ?_)
  replace hv : Hv s H locs G cy A [(aT, .inr (4, [.ref q1, .ref q2, .null, .int 0, .long 0, .int 0, .long 0, .long 0, .int 0, .null, .null, .null])), (q1, .inl (cy.1, 40, .inl (fun _ => 0))), (q2, .inl (cy.1, 40, .inl (fun _ => 0)))] := hv
  refine lv_aload_n hx hb dX4_init_20 rfl (lv_at hl 0 rfl) ?_
  refine lv_bipush (v := 40) hx hb dX4_init_21 (by decide) ?_
  refine kNewI (N' := 40) hx hb haI hv (by decide) rfl (by decide) (Nat.le_of_ble_eq_true rfl) (Nat.le_of_ble_eq_true rfl) dX4_init_23 (fun q3 H hv => ?_)
  replace hv : Hv s H locs G cy A [(aT, .inr (4, [.ref q1, .ref q2, .null, .int 0, .long 0, .int 0, .long 0, .long 0, .int 0, .null, .null, .null])), (q1, .inl (cy.1, 40, .inl (fun _ => 0))), (q2, .inl (cy.1, 40, .inl (fun _ => 0))), (q3, .inl (cy.1, 40, .inl (fun _ => 0)))] := hv
  refine kPutF (v := .ref q3) (ty := .array .int) (C := RX4) (T := TX4) (N := 12) hx hb hts hinX4 tyX4 tyX4_ok nmX4 hown hv 0 rfl rfl 2 (by decide) hk16 (fun _ h9 => h9) rfl hin9 rfl (by decide +kernel) rfl rfl (Nat.le_of_ble_eq_true rfl) dX4_init_25 (fun H locs hv => ?_)
  replace hv : Hv s H locs G cy A [(aT, .inr (4, [.ref q1, .ref q2, .ref q3, .int 0, .long 0, .int 0, .long 0, .long 0, .int 0, .null, .null, .null])), (q1, .inl (cy.1, 40, .inl (fun _ => 0))), (q2, .inl (cy.1, 40, .inl (fun _ => 0))), (q3, .inl (cy.1, 40, .inl (fun _ => 0)))] := hv
  refine lv_aload_n hx hb dX4_init_28 rfl (lv_at hl 0 rfl) ?_
  refine lv_bipush (v := 100) hx hb dX4_init_29 (by decide) ?_
  refine kPut (v := .int 100) (ty := .int) (C := RX4) (T := TX4) (N := 12) hx hb hts hinX4 tyX4 tyX4_ok nmX4 hown hv 0 rfl rfl 5 (by decide) hk19 (fun _ h9 => h9) rfl (by decide +kernel) rfl rfl (Nat.le_of_ble_eq_true rfl) dX4_init_31 (fun H locs hv => ?_)
  replace hv : Hv s H locs G cy A [(aT, .inr (4, [.ref q1, .ref q2, .ref q3, .int 0, .long 0, .int 100, .long 0, .long 0, .int 0, .null, .null, .null])), (q1, .inl (cy.1, 40, .inl (fun _ => 0))), (q2, .inl (cy.1, 40, .inl (fun _ => 0))), (q3, .inl (cy.1, 40, .inl (fun _ => 0)))] := hv
  refine lv_aload_n hx hb dX4_init_34 rfl (lv_at hl 0 rfl) ?_
  refine kNewO (ci := 0) (fs := [.null, .null]) (C := RX0) (T := TX0) (N := 2) hx hb hts hinX0 tyX0 tyX0_ok hown hk23 hiX0 hzX0 hv rfl (fun j hj => by rcases (show j = 0 ∨ j = 1 by omega) with rfl | rfl <;> rfl) (Nat.le_of_ble_eq_true rfl) (Nat.le_of_ble_eq_true rfl) dX4_init_35 (fun q4 H hv => ?_)
  replace hv : Hv s H locs G cy A [(aT, .inr (4, [.ref q1, .ref q2, .ref q3, .int 0, .long 0, .int 100, .long 0, .long 0, .int 0, .null, .null, .null])), (q1, .inl (cy.1, 40, .inl (fun _ => 0))), (q2, .inl (cy.1, 40, .inl (fun _ => 0))), (q3, .inl (cy.1, 40, .inl (fun _ => 0))), (q4, .inr (0, [.null, .null]))] := hv
  refine lv_dup hx hb dX4_init_38 rfl ?_
  refine kI_c (b := q4) (wr := [(aT, .inr (4, [.ref q1, .ref q2, .ref q3, .int 0, .long 0, .int 100, .long 0, .long 0, .int 0, .null, .null, .null])), (q1, .inl (cy.1, 40, .inl (fun _ => 0))), (q2, .inl (cy.1, 40, .inl (fun _ => 0))), (q3, .inl (cy.1, 40, .inl (fun _ => 0)))]) ⟨hx, hb, hml, hown, hts⟩ (c_X0_init l G cy q4) (cwI 0 hts gX4_init_X0_init rfl rfl rfl hzX0 hk25 hmX0 rfl (by decide +kernel) ⟨Nat.le_of_ble_eq_true rfl, Nat.le_of_ble_eq_true rfl⟩) hv (isC := [4]) ⟨rfl, rfl⟩ [0, 1, 2, 3] rfl rfl (by decide) rfl hl.1 rfl (Nat.le_of_ble_eq_true rfl) dX4_init_39 ⟨Nat.le_of_ble_eq_true rfl, Nat.le_of_ble_eq_true rfl⟩ (fun u5 H locs hv => ?_)
  replace hv : Hv s H locs G cy A [(aT, .inr (4, [.ref q1, .ref q2, .ref q3, .int 0, .long 0, .int 100, .long 0, .long 0, .int 0, .null, .null, .null])), (q1, .inl (cy.1, 40, .inl (fun _ => 0))), (q2, .inl (cy.1, 40, .inl (fun _ => 0))), (q3, .inl (cy.1, 40, .inl (fun _ => 0))), (q4, .inr (0, [.ref (u5 0), .ref (u5 5)])), ((u5 0), .inr (3, [.int 0, .ref (u5 1), .ref (u5 2), .ref (u5 3), .ref (u5 4), .int 0])), ((u5 1), .inl (cy.1, 40, .inl (fun _ => 0))), ((u5 2), .inl (cy.1, 40, .inl (fun _ => 0))), ((u5 3), .inl (cy.1, 40, .inl (fun _ => 0))), ((u5 4), .inl (cy.1, 40, .inl (fun _ => 0))), ((u5 5), .inl (cy.1, 40, .inl (fun _ => 0)))] := hv
  refine kPutF (v := .ref q4) (ty := .object "Roomcolour$GivenRooms") (C := RX4) (T := TX4) (N := 12) hx hb hts hinX4 tyX4 tyX4_ok nmX4 hown hv 0 rfl rfl 9 (by decide) hk26 (fun _ h9 => h9) rfl hin9 rfl (by decide +kernel) rfl rfl (Nat.le_of_ble_eq_true rfl) dX4_init_42 (fun H locs hv => ?_)
  replace hv : Hv s H locs G cy A [(aT, .inr (4, [.ref q1, .ref q2, .ref q3, .int 0, .long 0, .int 100, .long 0, .long 0, .int 0, .ref q4, .null, .null])), (q1, .inl (cy.1, 40, .inl (fun _ => 0))), (q2, .inl (cy.1, 40, .inl (fun _ => 0))), (q3, .inl (cy.1, 40, .inl (fun _ => 0))), (q4, .inr (0, [.ref (u5 0), .ref (u5 5)])), ((u5 0), .inr (3, [.int 0, .ref (u5 1), .ref (u5 2), .ref (u5 3), .ref (u5 4), .int 0])), ((u5 1), .inl (cy.1, 40, .inl (fun _ => 0))), ((u5 2), .inl (cy.1, 40, .inl (fun _ => 0))), ((u5 3), .inl (cy.1, 40, .inl (fun _ => 0))), ((u5 4), .inl (cy.1, 40, .inl (fun _ => 0))), ((u5 5), .inl (cy.1, 40, .inl (fun _ => 0)))] := hv
  refine lv_aload_n hx hb dX4_init_45 rfl (lv_at hl 0 rfl) ?_
  refine kNewO (ci := 2) (fs := [.null, .null]) (C := RX2) (T := TX2) (N := 2) hx hb hts hinX2 tyX2 tyX2_ok hown hk30 hiX2 hzX2 hv rfl (fun j hj => by rcases (show j = 0 ∨ j = 1 by omega) with rfl | rfl <;> rfl) (Nat.le_of_ble_eq_true rfl) (Nat.le_of_ble_eq_true rfl) dX4_init_46 (fun q6 H hv => ?_)
  replace hv : Hv s H locs G cy A [(aT, .inr (4, [.ref q1, .ref q2, .ref q3, .int 0, .long 0, .int 100, .long 0, .long 0, .int 0, .ref q4, .null, .null])), (q1, .inl (cy.1, 40, .inl (fun _ => 0))), (q2, .inl (cy.1, 40, .inl (fun _ => 0))), (q3, .inl (cy.1, 40, .inl (fun _ => 0))), (q4, .inr (0, [.ref (u5 0), .ref (u5 5)])), ((u5 0), .inr (3, [.int 0, .ref (u5 1), .ref (u5 2), .ref (u5 3), .ref (u5 4), .int 0])), ((u5 1), .inl (cy.1, 40, .inl (fun _ => 0))), ((u5 2), .inl (cy.1, 40, .inl (fun _ => 0))), ((u5 3), .inl (cy.1, 40, .inl (fun _ => 0))), ((u5 4), .inl (cy.1, 40, .inl (fun _ => 0))), ((u5 5), .inl (cy.1, 40, .inl (fun _ => 0))), (q6, .inr (2, [.null, .null]))] := hv
  refine lv_dup hx hb dX4_init_49 rfl ?_
  refine kI_c (b := q6) (wr := [(aT, .inr (4, [.ref q1, .ref q2, .ref q3, .int 0, .long 0, .int 100, .long 0, .long 0, .int 0, .ref q4, .null, .null])), (q1, .inl (cy.1, 40, .inl (fun _ => 0))), (q2, .inl (cy.1, 40, .inl (fun _ => 0))), (q3, .inl (cy.1, 40, .inl (fun _ => 0))), (q4, .inr (0, [.ref (u5 0), .ref (u5 5)])), ((u5 0), .inr (3, [.int 0, .ref (u5 1), .ref (u5 2), .ref (u5 3), .ref (u5 4), .int 0])), ((u5 1), .inl (cy.1, 40, .inl (fun _ => 0))), ((u5 2), .inl (cy.1, 40, .inl (fun _ => 0))), ((u5 3), .inl (cy.1, 40, .inl (fun _ => 0))), ((u5 4), .inl (cy.1, 40, .inl (fun _ => 0))), ((u5 5), .inl (cy.1, 40, .inl (fun _ => 0)))]) ⟨hx, hb, hml, hown, hts⟩ (c_X2_init l G cy q6) (cwI 0 hts gX4_init_X2_init rfl rfl rfl hzX2 hk32 hmX2 rfl (by decide +kernel) ⟨Nat.le_of_ble_eq_true rfl, Nat.le_of_ble_eq_true rfl⟩) hv (isC := [11]) ⟨rfl, rfl⟩ [0, 1, 2, 3, 4, 5, 6, 7, 8, 9, 10] rfl rfl (by decide) rfl hl.1 rfl (Nat.le_of_ble_eq_true rfl) dX4_init_50 ⟨Nat.le_of_ble_eq_true rfl, Nat.le_of_ble_eq_true rfl⟩ (fun u7 H locs hv => ?_)
  replace hv : Hv s H locs G cy A [(aT, .inr (4, [.ref q1, .ref q2, .ref q3, .int 0, .long 0, .int 100, .long 0, .long 0, .int 0, .ref q4, .null, .null])), (q1, .inl (cy.1, 40, .inl (fun _ => 0))), (q2, .inl (cy.1, 40, .inl (fun _ => 0))), (q3, .inl (cy.1, 40, .inl (fun _ => 0))), (q4, .inr (0, [.ref (u5 0), .ref (u5 5)])), ((u5 0), .inr (3, [.int 0, .ref (u5 1), .ref (u5 2), .ref (u5 3), .ref (u5 4), .int 0])), ((u5 1), .inl (cy.1, 40, .inl (fun _ => 0))), ((u5 2), .inl (cy.1, 40, .inl (fun _ => 0))), ((u5 3), .inl (cy.1, 40, .inl (fun _ => 0))), ((u5 4), .inl (cy.1, 40, .inl (fun _ => 0))), ((u5 5), .inl (cy.1, 40, .inl (fun _ => 0))), (q6, .inr (2, [.ref (u7 0), .ref (u7 5)])), ((u7 0), .inr (3, [.int 1, .ref (u7 1), .ref (u7 2), .ref (u7 3), .ref (u7 4), .int 0])), ((u7 1), .inl (cy.1, 40, .inl (fun _ => 0))), ((u7 2), .inl (cy.1, 40, .inl (fun _ => 0))), ((u7 3), .inl (cy.1, 40, .inl (fun _ => 0))), ((u7 4), .inl (cy.1, 40, .inl (fun _ => 0))), ((u7 5), .inl (cy.1, 41, .inl (fun _ => 0)))] := hv
  refine kPutF (v := .ref q6) (ty := .object "Roomcolour$OneRoomPlan") (C := RX4) (T := TX4) (N := 12) hx hb hts hinX4 tyX4 tyX4_ok nmX4 hown hv 0 rfl rfl 10 (by decide) hk33 (fun _ h9 => h9) rfl hin9 rfl (by decide +kernel) rfl rfl (Nat.le_of_ble_eq_true rfl) dX4_init_53 (fun H locs hv => ?_)
  replace hv : Hv s H locs G cy A [(aT, .inr (4, [.ref q1, .ref q2, .ref q3, .int 0, .long 0, .int 100, .long 0, .long 0, .int 0, .ref q4, .ref q6, .null])), (q1, .inl (cy.1, 40, .inl (fun _ => 0))), (q2, .inl (cy.1, 40, .inl (fun _ => 0))), (q3, .inl (cy.1, 40, .inl (fun _ => 0))), (q4, .inr (0, [.ref (u5 0), .ref (u5 5)])), ((u5 0), .inr (3, [.int 0, .ref (u5 1), .ref (u5 2), .ref (u5 3), .ref (u5 4), .int 0])), ((u5 1), .inl (cy.1, 40, .inl (fun _ => 0))), ((u5 2), .inl (cy.1, 40, .inl (fun _ => 0))), ((u5 3), .inl (cy.1, 40, .inl (fun _ => 0))), ((u5 4), .inl (cy.1, 40, .inl (fun _ => 0))), ((u5 5), .inl (cy.1, 40, .inl (fun _ => 0))), (q6, .inr (2, [.ref (u7 0), .ref (u7 5)])), ((u7 0), .inr (3, [.int 1, .ref (u7 1), .ref (u7 2), .ref (u7 3), .ref (u7 4), .int 0])), ((u7 1), .inl (cy.1, 40, .inl (fun _ => 0))), ((u7 2), .inl (cy.1, 40, .inl (fun _ => 0))), ((u7 3), .inl (cy.1, 40, .inl (fun _ => 0))), ((u7 4), .inl (cy.1, 40, .inl (fun _ => 0))), ((u7 5), .inl (cy.1, 41, .inl (fun _ => 0)))] := hv
  refine lv_aload_n hx hb dX4_init_56 rfl (lv_at hl 0 rfl) ?_
  refine kNewO (ci := 1) (fs := [.null, .null, .null, .null, .null, .null, .null]) (C := RX1) (T := TX1) (N := 7) hx hb hts hinX1 tyX1 tyX1_ok hown hk37 hiX1 hzX1 hv rfl (fun j hj => by rcases (show j = 0 ∨ j = 1 ∨ j = 2 ∨ j = 3 ∨ j = 4 ∨ j = 5 ∨ j = 6 by omega) with rfl | rfl | rfl | rfl | rfl | rfl | rfl <;> rfl) (Nat.le_of_ble_eq_true rfl) (Nat.le_of_ble_eq_true rfl) dX4_init_57 (fun q8 H hv => ?_)
  replace hv : Hv s H locs G cy A [(aT, .inr (4, [.ref q1, .ref q2, .ref q3, .int 0, .long 0, .int 100, .long 0, .long 0, .int 0, .ref q4, .ref q6, .null])), (q1, .inl (cy.1, 40, .inl (fun _ => 0))), (q2, .inl (cy.1, 40, .inl (fun _ => 0))), (q3, .inl (cy.1, 40, .inl (fun _ => 0))), (q4, .inr (0, [.ref (u5 0), .ref (u5 5)])), ((u5 0), .inr (3, [.int 0, .ref (u5 1), .ref (u5 2), .ref (u5 3), .ref (u5 4), .int 0])), ((u5 1), .inl (cy.1, 40, .inl (fun _ => 0))), ((u5 2), .inl (cy.1, 40, .inl (fun _ => 0))), ((u5 3), .inl (cy.1, 40, .inl (fun _ => 0))), ((u5 4), .inl (cy.1, 40, .inl (fun _ => 0))), ((u5 5), .inl (cy.1, 40, .inl (fun _ => 0))), (q6, .inr (2, [.ref (u7 0), .ref (u7 5)])), ((u7 0), .inr (3, [.int 1, .ref (u7 1), .ref (u7 2), .ref (u7 3), .ref (u7 4), .int 0])), ((u7 1), .inl (cy.1, 40, .inl (fun _ => 0))), ((u7 2), .inl (cy.1, 40, .inl (fun _ => 0))), ((u7 3), .inl (cy.1, 40, .inl (fun _ => 0))), ((u7 4), .inl (cy.1, 40, .inl (fun _ => 0))), ((u7 5), .inl (cy.1, 41, .inl (fun _ => 0))), (q8, .inr (1, [.null, .null, .null, .null, .null, .null, .null]))] := hv
  refine lv_dup hx hb dX4_init_60 rfl ?_
  refine kI_c (b := q8) (wr := [(aT, .inr (4, [.ref q1, .ref q2, .ref q3, .int 0, .long 0, .int 100, .long 0, .long 0, .int 0, .ref q4, .ref q6, .null])), (q1, .inl (cy.1, 40, .inl (fun _ => 0))), (q2, .inl (cy.1, 40, .inl (fun _ => 0))), (q3, .inl (cy.1, 40, .inl (fun _ => 0))), (q4, .inr (0, [.ref (u5 0), .ref (u5 5)])), ((u5 0), .inr (3, [.int 0, .ref (u5 1), .ref (u5 2), .ref (u5 3), .ref (u5 4), .int 0])), ((u5 1), .inl (cy.1, 40, .inl (fun _ => 0))), ((u5 2), .inl (cy.1, 40, .inl (fun _ => 0))), ((u5 3), .inl (cy.1, 40, .inl (fun _ => 0))), ((u5 4), .inl (cy.1, 40, .inl (fun _ => 0))), ((u5 5), .inl (cy.1, 40, .inl (fun _ => 0))), (q6, .inr (2, [.ref (u7 0), .ref (u7 5)])), ((u7 0), .inr (3, [.int 1, .ref (u7 1), .ref (u7 2), .ref (u7 3), .ref (u7 4), .int 0])), ((u7 1), .inl (cy.1, 40, .inl (fun _ => 0))), ((u7 2), .inl (cy.1, 40, .inl (fun _ => 0))), ((u7 3), .inl (cy.1, 40, .inl (fun _ => 0))), ((u7 4), .inl (cy.1, 40, .inl (fun _ => 0))), ((u7 5), .inl (cy.1, 41, .inl (fun _ => 0)))]) ⟨hx, hb, hml, hown, hts⟩ (c_X1_init l G cy q8) (cwI 0 hts gX4_init_X1_init rfl rfl rfl hzX1 hk39 hmX1 rfl (by decide +kernel) ⟨Nat.le_of_ble_eq_true rfl, Nat.le_of_ble_eq_true rfl⟩) hv (isC := [18]) ⟨rfl, rfl⟩ [0, 1, 2, 3, 4, 5, 6, 7, 8, 9, 10, 11, 12, 13, 14, 15, 16, 17] rfl rfl (by decide) rfl hl.1 rfl (Nat.le_of_ble_eq_true rfl) dX4_init_61 ⟨Nat.le_of_ble_eq_true rfl, Nat.le_of_ble_eq_true rfl⟩ (fun u9 H locs hv => ?_)
  replace hv : Hv s H locs G cy A [(aT, .inr (4, [.ref q1, .ref q2, .ref q3, .int 0, .long 0, .int 100, .long 0, .long 0, .int 0, .ref q4, .ref q6, .null])), (q1, .inl (cy.1, 40, .inl (fun _ => 0))), (q2, .inl (cy.1, 40, .inl (fun _ => 0))), (q3, .inl (cy.1, 40, .inl (fun _ => 0))), (q4, .inr (0, [.ref (u5 0), .ref (u5 5)])), ((u5 0), .inr (3, [.int 0, .ref (u5 1), .ref (u5 2), .ref (u5 3), .ref (u5 4), .int 0])), ((u5 1), .inl (cy.1, 40, .inl (fun _ => 0))), ((u5 2), .inl (cy.1, 40, .inl (fun _ => 0))), ((u5 3), .inl (cy.1, 40, .inl (fun _ => 0))), ((u5 4), .inl (cy.1, 40, .inl (fun _ => 0))), ((u5 5), .inl (cy.1, 40, .inl (fun _ => 0))), (q6, .inr (2, [.ref (u7 0), .ref (u7 5)])), ((u7 0), .inr (3, [.int 1, .ref (u7 1), .ref (u7 2), .ref (u7 3), .ref (u7 4), .int 0])), ((u7 1), .inl (cy.1, 40, .inl (fun _ => 0))), ((u7 2), .inl (cy.1, 40, .inl (fun _ => 0))), ((u7 3), .inl (cy.1, 40, .inl (fun _ => 0))), ((u7 4), .inl (cy.1, 40, .inl (fun _ => 0))), ((u7 5), .inl (cy.1, 41, .inl (fun _ => 0))), (q8, .inr (1, [.ref (u9 0), .ref (u9 5), .ref (u9 6), .ref (u9 7), .ref (u9 8), .ref (u9 9), .ref (u9 10)])), ((u9 0), .inr (3, [.int 0, .ref (u9 1), .ref (u9 2), .ref (u9 3), .ref (u9 4), .int 0])), ((u9 1), .inl (cy.1, 40, .inl (fun _ => 0))), ((u9 2), .inl (cy.1, 40, .inl (fun _ => 0))), ((u9 3), .inl (cy.1, 40, .inl (fun _ => 0))), ((u9 4), .inl (cy.1, 40, .inl (fun _ => 0))), ((u9 5), .inl (cy.1, 40, .inl (fun _ => 0))), ((u9 6), .inl (cy.2.1, 40, .inl (fun _ => 0))), ((u9 7), .inl (cy.1, 40, .inl (fun _ => 0))), ((u9 8), .inl (cy.1, 41, .inl (fun _ => 0))), ((u9 9), .inl (cy.1, 41, .inl (fun _ => 0))), ((u9 10), .inl (cy.2.1, 41, .inl (fun _ => 0)))] := hv
  refine kPutF (v := .ref q8) (ty := .object "Roomcolour$ManyRoomsPlan") (C := RX4) (T := TX4) (N := 12) hx hb hts hinX4 tyX4 tyX4_ok nmX4 hown hv 0 rfl rfl 11 (by decide) hk40 (fun _ h9 => h9) rfl hin9 rfl (by decide +kernel) rfl rfl (Nat.le_of_ble_eq_true rfl) dX4_init_64 (fun H locs hv => ?_)
  replace hv : Hv s H locs G cy A [(aT, .inr (4, [.ref q1, .ref q2, .ref q3, .int 0, .long 0, .int 100, .long 0, .long 0, .int 0, .ref q4, .ref q6, .ref q8])), (q1, .inl (cy.1, 40, .inl (fun _ => 0))), (q2, .inl (cy.1, 40, .inl (fun _ => 0))), (q3, .inl (cy.1, 40, .inl (fun _ => 0))), (q4, .inr (0, [.ref (u5 0), .ref (u5 5)])), ((u5 0), .inr (3, [.int 0, .ref (u5 1), .ref (u5 2), .ref (u5 3), .ref (u5 4), .int 0])), ((u5 1), .inl (cy.1, 40, .inl (fun _ => 0))), ((u5 2), .inl (cy.1, 40, .inl (fun _ => 0))), ((u5 3), .inl (cy.1, 40, .inl (fun _ => 0))), ((u5 4), .inl (cy.1, 40, .inl (fun _ => 0))), ((u5 5), .inl (cy.1, 40, .inl (fun _ => 0))), (q6, .inr (2, [.ref (u7 0), .ref (u7 5)])), ((u7 0), .inr (3, [.int 1, .ref (u7 1), .ref (u7 2), .ref (u7 3), .ref (u7 4), .int 0])), ((u7 1), .inl (cy.1, 40, .inl (fun _ => 0))), ((u7 2), .inl (cy.1, 40, .inl (fun _ => 0))), ((u7 3), .inl (cy.1, 40, .inl (fun _ => 0))), ((u7 4), .inl (cy.1, 40, .inl (fun _ => 0))), ((u7 5), .inl (cy.1, 41, .inl (fun _ => 0))), (q8, .inr (1, [.ref (u9 0), .ref (u9 5), .ref (u9 6), .ref (u9 7), .ref (u9 8), .ref (u9 9), .ref (u9 10)])), ((u9 0), .inr (3, [.int 0, .ref (u9 1), .ref (u9 2), .ref (u9 3), .ref (u9 4), .int 0])), ((u9 1), .inl (cy.1, 40, .inl (fun _ => 0))), ((u9 2), .inl (cy.1, 40, .inl (fun _ => 0))), ((u9 3), .inl (cy.1, 40, .inl (fun _ => 0))), ((u9 4), .inl (cy.1, 40, .inl (fun _ => 0))), ((u9 5), .inl (cy.1, 40, .inl (fun _ => 0))), ((u9 6), .inl (cy.2.1, 40, .inl (fun _ => 0))), ((u9 7), .inl (cy.1, 40, .inl (fun _ => 0))), ((u9 8), .inl (cy.1, 41, .inl (fun _ => 0))), ((u9 9), .inl (cy.1, 41, .inl (fun _ => 0))), ((u9 10), .inl (cy.2.1, 41, .inl (fun _ => 0)))] := hv
  exact kret (fun i => ([q1, q2, q3, q4, (u5 0), (u5 1), (u5 2), (u5 3), (u5 4), (u5 5), q6, (u7 0), (u7 1), (u7 2), (u7 3), (u7 4), (u7 5), q8, (u9 0), (u9 1), (u9 2), (u9 3), (u9 4), (u9 5), (u9 6), (u9 7), (u9 8), (u9 9), (u9 10)] : List Nat).getD i 0) _ _ _ _ hv dX4_init_67
