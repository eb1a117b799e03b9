/-! Base: the world of this claim, the contract shapes, and calls by contract. -/
abbrev kTy (cy : ClassId × ClassId × ClassId) : List (ClassId × FieldType) := [(cy.1, .int), (cy.2.1, .boolean)]
def kIA : String := "java/lang/IllegalArgumentException"
def kIS : String := "java/lang/IllegalStateException"
def kIB : String := "java/lang/IndexOutOfBoundsException"
def kNest : List Cond := [.fieldLinkNest RX4 100 "Roomcolour$GivenRooms" "row" "LRoomcolour$Row;" RX4, .fieldLinkNest RX4 128 "Roomcolour$OneRoomPlan" "row" "LRoomcolour$Row;" RX4, .fieldLinkNest RX4 203 "Roomcolour$ManyRoomsPlan" "row" "LRoomcolour$Row;" RX4,
  .fieldLinkNest RX0 27 "Roomcolour$Row" "count" "I" RX4, .fieldLinkNest RX0 31 "Roomcolour$Row" "begins" "[I" RX4, .fieldLinkNest RX0 38 "Roomcolour$Row" "numbers" "[I" RX4, .fieldLinkNest RX0 41 "Roomcolour$Row" "ends" "[I" RX4,
  .fieldLinkNest RX1 46 "Roomcolour$Row" "count" "I" RX4, .fieldLinkNest RX1 53 "Roomcolour$Row" "ends" "[I" RX4, .fieldLinkNest RX1 60 "Roomcolour$Row" "begins" "[I" RX4, .fieldLinkNest RX1 74 "Roomcolour$Row" "weights" "[I" RX4,
  .fieldLinkNest RX2 24 "Roomcolour$Row" "count" "I" RX4, .fieldLinkNest RX2 28 "Roomcolour$Row" "weights" "[I" RX4, .fieldLinkNest RX2 31 "Roomcolour$Row" "begins" "[I" RX4, .fieldLinkNest RX2 48 "Roomcolour$Row" "numbers" "[I" RX4, .fieldLinkNest RX2 55 "Roomcolour$Row" "ends" "[I" RX4,
  .methodLinkNest RX2 51 yX4_only RX4,
  .castable "java/lang/IllegalArgumentException" "java/lang/IllegalArgumentException", .castable "java/lang/IllegalStateException" "java/lang/IllegalStateException", .castable "java/lang/IndexOutOfBoundsException" "java/lang/IndexOutOfBoundsException",
  .declares ⟨"java/lang/RuntimeException", "<init>", "(Ljava/lang/String;)V"⟩, .declares ⟨"java/lang/Exception", "<init>", "(Ljava/lang/String;)V"⟩, .declares ⟨"java/lang/Throwable", "<init>", "(Ljava/lang/String;)V"⟩]
def kNc : List (String × String) := [("java/lang/IllegalStateException", "java/lang/IllegalArgumentException"), ("java/lang/IllegalArgumentException", "java/lang/IndexOutOfBoundsException"), ("java/lang/IllegalStateException", "java/lang/IndexOutOfBoundsException")]
def kStr : List (Nat × String) := [(46, "begin or end is out of range"), (51, "weight is out of range"), (58, "40 intervals have been added"), (181, "there is no such interval"), (88, "begin or the new end is out of range"), (111, "time is out of range"), (113, "length is out of range"), (115, "rooms is out of range"), (143, "factor is out of range"), (158, "the interval was offered already"), (184, "period is out of range"), (186, "an interval is longer than the period")]
/-- what of the tables, the texts and the two statics a method may count on -/
def EN (A : Nat → Prop) (U : State) (H : Heap) : Prop := (∀ w ∈ kNest, va_Nw w U) ∧ (∀ q ∈ kNc, va_Nc q.1 q.2 U) ∧ (∀ q ∈ kStr, ∃ a : Nat, vk_R RX4 q.1 q.2 a U) ∧ vx_Zq Bundle.tN "UNASSIGNED_STACK" Bundle.steD A U H ∧ vx_Zq Bundle.tN "SUPPRESSED_SENTINEL" Bundle.listD A U H
theorem kNest_warm {s U : State} (hW : s.WarmedH U.vm) (h : ∀ w ∈ kNest, va_Nw w s) : ∀ w ∈ kNest, va_Nw w U := by
  intro w hw
  have h1 := h w hw
  simp only [kNest, List.mem_cons, List.not_mem_nil, or_false] at hw
  rcases hw with rfl | rfl | rfl | rfl | rfl | rfl | rfl | rfl | rfl | rfl | rfl | rfl | rfl | rfl | rfl | rfl | rfl | rfl | rfl | rfl | rfl | rfl | rfl <;> first | exact va_Nw.warmF hW h1 | exact va_Nw.warmM hW h1 | exact va_Nw.warmC hW h1 | exact va_Nw.warmD hW h1
theorem kNest_same {u U : State} (hv : u.vm = U.vm) (h : ∀ w ∈ kNest, va_Nw w u) : ∀ w ∈ kNest, va_Nw w U := by
  intro w hw
  have h1 := h w hw
  simp only [kNest, List.mem_cons, List.not_mem_nil, or_false] at hw
  rcases hw with rfl | rfl | rfl | rfl | rfl | rfl | rfl | rfl | rfl | rfl | rfl | rfl | rfl | rfl | rfl | rfl | rfl | rfl | rfl | rfl | rfl | rfl | rfl <;> exact va_Nw.same rfl hv h1
theorem kNest_on (w : Cond) (hw : w ∈ kNest) : w.onTables = true := by
  simp only [kNest, List.mem_cons, List.not_mem_nil, or_false] at hw
  rcases hw with rfl | rfl | rfl | rfl | rfl | rfl | rfl | rfl | rfl | rfl | rfl | rfl | rfl | rfl | rfl | rfl | rfl | rfl | rfl | rfl | rfl | rfl | rfl <;> rfl
theorem EN.warm {A A1 : Nat → Prop} {s U : State} {H : Heap} {locs : List Loc} (hE : EN A s s.heap) (hW : s.WarmedH U.vm) (hS : va_S A s.heap H locs) (hAA : ∀ q, A1 q → A q) : EN A1 U H := by
  obtain ⟨h1, h2, h3, h4, h5⟩ := hE
  refine ⟨kNest_warm hW h1, fun q hq => va_Nc.moved hW.alike (h2 q hq), fun q hq => ?_, vx_Zq.narrow (vx_Zq.moved hW.alike (h4.kept hS.2.1)) hAA, vx_Zq.narrow (vx_Zq.moved hW.alike (h5.kept hS.2.1)) hAA⟩
  obtain ⟨a, ha⟩ := h3 q hq
  exact ⟨a, ha.warm hW⟩
theorem EN.same {A : Nat → Prop} {u U : State} {H : Heap} (hE : EN A u H) (hv : u.vm = U.vm) : EN A U H := by
  obtain ⟨h1, h2, h3, h4, h5⟩ := hE
  have hal : u.vm.Alike U.vm := by rw [hv]; exact Vm.Alike.refl _
  refine ⟨kNest_same hv h1, fun q hq => va_Nc.moved hal (h2 q hq), fun q hq => ?_, vx_Zq.moved hal h4, vx_Zq.moved hal h5⟩
  obtain ⟨a, ha⟩ := h3 q hq
  exact ⟨a, ha.same hv.symm⟩
/-- a method's start: the cells w, the classes, the environment -/
def Wd (G : va_G) (cy : ClassId × ClassId × ClassId) (w : va_W) (sz : Nat) (U : State) : Prop := U.heap.size = sz ∧ va_P G vwCl w U.heap ∧ va_K G vwCl (kTy cy) U ∧ va_D (fun _ => True) w ∧ EN (va_A w sz) U U.heap
theorem Wd.blind {G : va_G} {cy : ClassId × ClassId × ClassId} {w : va_W} {sz : Nat} {av : List Value} : FrameBlind (va_Pc av (Wd G cy w sz)) := by
  intro a U g mk q
  obtain ⟨q0, q1, q2, q3, q4, q5⟩ := q
  exact ⟨q0, q1, q2, va_K.moved (u := U) (U := U.calling g mk a) (Vm.Alike.refl U.vm) q3, q4, EN.same (u := U) (U := U.calling g mk a) q5 rfl⟩
/-- .. and its end: the cells w' at the places of w -/
def Wp (G : va_G) (w w' : va_W) (sz : Nat) (t : State) : Prop := va_P G vwCl w' t.heap ∧ va_D (va_A w sz) w'
/-- contracts: int, long, void -/
def Ci (l : Launch) (y : MethodName) (ws : List Cond) (rm : Room) (mc ms : Nat) (G : va_G) (cy : ClassId × ClassId × ClassId) (av : List Value) (w w' : va_W) (r : Int32) : Prop :=
  ∀ sz : Nat, Met l y ws rm (va_Pc av (Wd G cy w sz)) (va_Qi (fun (x : Int32) (_ : Unit) => x = r) (fun _ t => Wp G w w' sz t) (va_A w sz)) mc ms (va_A w sz)
def Cl (l : Launch) (y : MethodName) (ws : List Cond) (rm : Room) (mc ms : Nat) (G : va_G) (cy : ClassId × ClassId × ClassId) (av : List Value) (w w' : va_W) (r : Int64) : Prop :=
  ∀ sz : Nat, Met l y ws rm (va_Pc av (Wd G cy w sz)) (va_Ql (fun (x : Int64) (_ : Unit) => x = r) (fun _ t => Wp G w w' sz t) (va_A w sz)) mc ms (va_A w sz)
def Cv (l : Launch) (y : MethodName) (ws : List Cond) (rm : Room) (mc ms : Nat) (G : va_G) (cy : ClassId × ClassId × ClassId) (av : List Value) (w w' : va_W) : Prop :=
  ∀ sz : Nat, Met l y ws rm (va_Pc av (Wd G cy w sz)) (va_Qv (fun (_ : Unit) => True) (fun _ t => Wp G w w' sz t) (va_A w sz)) mc ms (va_A w sz)
/-- contracts of what may throw: o is what comes -/
def Xi (l : Launch) (y : MethodName) (ws : List Cond) (rm : Room) (mc ms : Nat) (G : va_G) (cy : ClassId × ClassId × ClassId) (av : List Value) (w : va_W) (o : Except String (Int32 × va_W)) : Prop :=
  ∀ sz : Nat, vx_Met l y ws rm (va_Pc av (Wd G cy w sz)) (va_Qi (fun (x : Int32) (u : va_W) => o = .ok (x, u)) (fun u t => Wp G w u sz t) (va_A w sz)) (vx_X (fun (_ : Unit) => True) (fun E _ t => o = .error E ∧ Wp G w w sz t) (va_A w sz)) mc ms (va_A w sz)
def Xl (l : Launch) (y : MethodName) (ws : List Cond) (rm : Room) (mc ms : Nat) (G : va_G) (cy : ClassId × ClassId × ClassId) (av : List Value) (w : va_W) (o : Except String (Int64 × va_W)) : Prop :=
  ∀ sz : Nat, vx_Met l y ws rm (va_Pc av (Wd G cy w sz)) (va_Ql (fun (x : Int64) (u : va_W) => o = .ok (x, u)) (fun u t => Wp G w u sz t) (va_A w sz)) (vx_X (fun (_ : Unit) => True) (fun E _ t => o = .error E ∧ Wp G w w sz t) (va_A w sz)) mc ms (va_A w sz)
def Xv (l : Launch) (y : MethodName) (ws : List Cond) (rm : Room) (mc ms : Nat) (G : va_G) (cy : ClassId × ClassId × ClassId) (av : List Value) (w : va_W) (o : Except String va_W) : Prop :=
  ∀ sz : Nat, vx_Met l y ws rm (va_Pc av (Wd G cy w sz)) (va_Qv (fun (u : va_W) => o = .ok u) (fun u t => Wp G w u sz t) (va_A w sz)) (vx_X (fun (_ : Unit) => True) (fun E _ t => o = .error E ∧ Wp G w w sz t) (va_A w sz)) mc ms (va_A w sz)
section KB
variable {p : Program} {l : Launch} {e : Env} {R : Room} {s : State} {m : MethodId} {args : Array Value} {below : List Frame} {meth : Method} {c : Code} {H : Heap} {locs : List Loc} {cells slots : Nat} {Q : State → Prop}
variable {y : MethodName} {bytes cc : ByteArray} {maxL nL mc ms n index : Nat} {ret : Option FieldType} {ws : List Cond} {rm : Room} {Ts : List Cond} {own C : String} {b : Addr} {As rest st0 : List Value} {pc : Nat} {ls : Array Slot}
variable {G : va_G} {cy : ClassId × ClassId × ClassId} {A : Nat → Prop} {w wc wc' wr w2 : va_W}
/-- what a caller has in hand: the classes, its cells, its frame, the environment -/
def Hv (s : State) (H : Heap) (locs : List Loc) (G : va_G) (cy : ClassId × ClassId × ClassId) (A : Nat → Prop) (w : va_W) : Prop :=
  va_K G vwCl (kTy cy) s ∧ va_P G vwCl w H ∧ va_D A w ∧ va_S A s.heap H locs ∧ (∀ q, s.heap.size ≤ q → A q) ∧ EN A s s.heap
/-- the callee's cells among the caller's -/
def Sp (w wc : va_W) (isC : List Nat) : Prop := isC.map (fun i => w[i]?) = wc.map some ∧ va_nd isC = true
theorem Hv.pre (h : Hv s H locs G cy A w) {isC : List Nat} (hs : Sp w wc isC) (U : State) (hU : U.heap = H) (hW : s.WarmedH U.vm) : Wd G cy wc H.size U := by
  obtain ⟨hK, hP, hD, hS, hA, hE⟩ := h
  obtain ⟨hc, hn⟩ := hs
  have hfm : isC.filterMap (fun i => w[i]?) = wc := by
    have h1 : isC.filterMap (fun i => w[i]?) = (isC.map (fun i => w[i]?)).filterMap id := by rw [List.filterMap_map]; rfl
    rw [h1, hc, List.filterMap_map]
    show List.filterMap (fun q => some q) wc = wc
    exact List.filterMap_some
  refine ⟨by rw [hU], by rw [hU]; exact hP.sub isC hfm, va_K.moved hW.alike hK, (hD.sub isC hn hc).weaken (fun _ _ _ _ => trivial), ?_⟩
  rw [hU]
  exact hE.warm hW hS (va_free hD hS hA isC hc)
/-- the cells behind a call, in the caller's order -/
theorem Hv.post (h : Hv s H locs G cy A w) {isC : List Nat} (hs : Sp w wc isC) (isR ps : List Nat) (hR : isR.map (fun i => w[i]?) = wr.map some) (hn : va_nd isR = true) (hdis : ∀ i ∈ isR, i ∉ isC) (hps : ps.map (fun i => (wr ++ wc')[i]?) = w2.map some) (hpn : va_nd ps = true)
    {H1 : Heap} {locs1 : List Loc} {t : State} (ht : t.heap = H1) (hB : Wp G wc wc' H.size t) (hk : ∀ q : Nat, q < H.size → ¬ va_A wc H.size q → H1[q]? = H[q]?) (hS1 : va_S A s.heap H1 locs1) : Hv s H1 locs1 G cy A w2 := by
  obtain ⟨hK, hP, hD, hS, hA, hE⟩ := h
  obtain ⟨hc, hnC⟩ := hs
  obtain ⟨hP1, hD1⟩ := hB
  rw [ht] at hP1
  obtain ⟨hP2, hD2⟩ := va_join (wr := wr) (w1 := wc') hP hD isC isR hc hR hn hdis hk (va_free hD hS hA isC hc) hP1 hD1
  have hfm : ps.filterMap (fun i => (wr ++ wc')[i]?) = w2 := by
    have h1 : ps.filterMap (fun i => (wr ++ wc')[i]?) = (ps.map (fun i => (wr ++ wc')[i]?)).filterMap id := by rw [List.filterMap_map]; rfl
    rw [h1, hps, List.filterMap_map]
    show List.filterMap (fun q => some q) w2 = w2
    exact List.filterMap_some
  exact ⟨hK, hP2.sub ps hfm, hD2.sub ps hpn hps, hS1, hA, hE⟩
theorem Hv.free (h : Hv s H locs G cy A w) {isC : List Nat} (hs : Sp w wc isC) : ∀ q, va_A wc H.size q → A q := va_free h.2.2.1 h.2.2.2.1 h.2.2.2.2.1 isC hs.1
theorem Hv.recv (h : Hv s H locs G cy A w) (ci q0 : Nat) {q : vw_C} {fs : List Value} (hc : vwCl[ci]? = some q) (he : w[q0]? = some (b, .inr (ci, fs))) : ∃ cell : Cell, H[b]? = some cell ∧ cell.vm.isStatics = false ∧ s.vm.findClass q.1 = some cell.cls := va_recv h.1 h.2.1 hc he
theorem kV_i {r : Int32} (S : CallFix p m c cc nL s args Ts own) (C0 : Ci l y ws rm mc ms G cy (.ref b :: As) wc wc' r) (cw : CallW R s args own C index y bytes maxL ret ws rm mc ms n) (h : Hv s H locs G cy A w) {isC : List Nat} (hs : Sp w wc isC)
    (hrv : ∃ cell : Cell, H[b]? = some cell ∧ cell.vm.isStatics = false ∧ s.vm.findClass C = some cell.cls) (isR ps : List Nat) (hR : isR.map (fun i => w[i]?) = wr.map some) (hn9 : va_nd isR = true) (hdis : ∀ i ∈ isR, i ∉ isC) (hps : ps.map (fun i => (wr ++ wc')[i]?) = w2.map some) (hpn : va_nd ps = true)
    (hn : As.length = n) (hsize : ls.size = nL) (hst : st0 = As.reverse ++ .ref b :: rest) (hW : (rest.map fun v => v.category).sum ≤ 8) (hdg : decode cc pc = .ok (.invokevirtual index, 3)) (hf : cells + mc ≤ R.cells ∧ slots + ms ≤ R.slots)
    (kk : ∀ (H1 : Heap) (locs1 : List Loc), Hv s H1 locs1 G cy A w2 → W p l e R s m args below meth c H1 locs1 (cells + mc) (slots + ms) Q (F0 m (pc + 3) ls (.int r :: rest))) : W p l e R s m args below meth c H locs cells slots Q (F0 m pc ls st0) := by
  refine va_calli (va_runV (As := As) (rest := rest) S (C0 H.size) cw ⟨Wd.blind, hrv, fun U hU hW2 => ⟨rfl, h.pre hs U hU hW2⟩⟩ rfl hn hsize hst (lv_room hW) hdg hf) h.2.2.2.1 (fun q _ h9 => h.free hs q h9) (h.free hs) (fun x u t H1 locs1 ht hvm hw hB hz1 hk1 hS1 => ?_)
  subst hw
  exact kk H1 locs1 (h.post hs isR ps hR hn9 hdis hps hpn ht hB hk1 hS1)
theorem kV_l {r : Int64} (S : CallFix p m c cc nL s args Ts own) (C0 : Cl l y ws rm mc ms G cy (.ref b :: As) wc wc' r) (cw : CallW R s args own C index y bytes maxL ret ws rm mc ms n) (h : Hv s H locs G cy A w) {isC : List Nat} (hs : Sp w wc isC)
    (hrv : ∃ cell : Cell, H[b]? = some cell ∧ cell.vm.isStatics = false ∧ s.vm.findClass C = some cell.cls) (isR ps : List Nat) (hR : isR.map (fun i => w[i]?) = wr.map some) (hn9 : va_nd isR = true) (hdis : ∀ i ∈ isR, i ∉ isC) (hps : ps.map (fun i => (wr ++ wc')[i]?) = w2.map some) (hpn : va_nd ps = true)
    (hn : As.length = n) (hsize : ls.size = nL) (hst : st0 = As.reverse ++ .ref b :: rest) (hW : (rest.map fun v => v.category).sum ≤ 8) (hdg : decode cc pc = .ok (.invokevirtual index, 3)) (hf : cells + mc ≤ R.cells ∧ slots + ms ≤ R.slots)
    (kk : ∀ (H1 : Heap) (locs1 : List Loc), Hv s H1 locs1 G cy A w2 → W p l e R s m args below meth c H1 locs1 (cells + mc) (slots + ms) Q (F0 m (pc + 3) ls (.long r :: rest))) : W p l e R s m args below meth c H locs cells slots Q (F0 m pc ls st0) := by
  refine va_calll (va_runV (As := As) (rest := rest) S (C0 H.size) cw ⟨Wd.blind, hrv, fun U hU hW2 => ⟨rfl, h.pre hs U hU hW2⟩⟩ rfl hn hsize hst (lv_room hW) hdg hf) h.2.2.2.1 (fun q _ h9 => h.free hs q h9) (h.free hs) (fun x u t H1 locs1 ht hvm hw hB hz1 hk1 hS1 => ?_)
  subst hw
  exact kk H1 locs1 (h.post hs isR ps hR hn9 hdis hps hpn ht hB hk1 hS1)
theorem kV_v (S : CallFix p m c cc nL s args Ts own) (C0 : Cv l y ws rm mc ms G cy (.ref b :: As) wc wc') (cw : CallW R s args own C index y bytes maxL ret ws rm mc ms n) (h : Hv s H locs G cy A w) {isC : List Nat} (hs : Sp w wc isC)
    (hrv : ∃ cell : Cell, H[b]? = some cell ∧ cell.vm.isStatics = false ∧ s.vm.findClass C = some cell.cls) (isR ps : List Nat) (hR : isR.map (fun i => w[i]?) = wr.map some) (hn9 : va_nd isR = true) (hdis : ∀ i ∈ isR, i ∉ isC) (hps : ps.map (fun i => (wr ++ wc')[i]?) = w2.map some) (hpn : va_nd ps = true)
    (hn : As.length = n) (hsize : ls.size = nL) (hst : st0 = As.reverse ++ .ref b :: rest) (hW : (rest.map fun v => v.category).sum ≤ 8) (hdg : decode cc pc = .ok (.invokevirtual index, 3)) (hf : cells + mc ≤ R.cells ∧ slots + ms ≤ R.slots)
    (kk : ∀ (H1 : Heap) (locs1 : List Loc), Hv s H1 locs1 G cy A w2 → W p l e R s m args below meth c H1 locs1 (cells + mc) (slots + ms) Q (F0 m (pc + 3) ls rest)) : W p l e R s m args below meth c H locs cells slots Q (F0 m pc ls st0) := by
  refine va_callv (va_runV (As := As) (rest := rest) S (C0 H.size) cw ⟨Wd.blind, hrv, fun U hU hW2 => ⟨rfl, h.pre hs U hU hW2⟩⟩ rfl hn hsize hst (lv_room hW) hdg hf) h.2.2.2.1 (fun q _ h9 => h.free hs q h9) (h.free hs) (fun u t H1 locs1 ht hvm hw hB hz1 hk1 hS1 => ?_)
  exact kk H1 locs1 (h.post hs isR ps hR hn9 hdis hps hpn ht hB hk1 hS1)
/-- a world that a callee leaves as it was -/
theorem Hv.back (h : Hv s H locs G cy A w) {isC : List Nat} (hs : Sp w wc isC) {H1 : Heap} {locs1 : List Loc} {t : State} (ht : t.heap = H1) (hB : Wp G wc wc H.size t) (hk : ∀ q : Nat, q < H.size → ¬ va_A wc H.size q → H1[q]? = H[q]?) (hS1 : va_S A s.heap H1 locs1) : Hv s H1 locs1 G cy A w := by
  obtain ⟨hK, hP, hD, hS, hA, hE⟩ := h
  obtain ⟨hP1, hD1⟩ := hB
  rw [ht] at hP1
  refine ⟨hK, fun k q hq => ?_, hD, hS1, hA, hE⟩
  have hlt := (hP k q hq).lt
  by_cases hin : va_A wc H.size q.1
  · rcases hin with ⟨j, e9, hj⟩ | h9
    · have h1 : (isC.map (fun i => w[i]?))[j]? = some (some (q.1, e9)) := by rw [hs.1, List.getElem?_map, hj]; rfl
      rw [List.getElem?_map] at h1
      cases hi : isC[j]? with
      | none => rw [hi] at h1; cases h1
      | some i =>
        rw [hi] at h1
        have h2 : w[i]? = some (q.1, e9) := Option.some.inj h1
        have h3 := hD.1 i k _ _ h2 hq rfl
        subst h3
        have h4 : q = (q.1, e9) := Option.some.inj (hq.symm.trans h2)
        exact hP1 j q (by rw [hj, h4])
    · exact absurd hlt (Nat.not_lt.mpr h9)
  · exact (hP k q hq).kept (hk _ hlt hin)
theorem Hv.none (h : Hv s H locs G cy A w) {H1 : Heap} {locs1 : List Loc} (hk : ∀ q : Nat, q < H.size → ¬ va_A [] H.size q → H1[q]? = H[q]?) (hS1 : va_S A s.heap H1 locs1) : Hv s H1 locs1 G cy A w := by
  refine ⟨h.1, fun k q hq => (h.2.1 k q hq).kept (hk _ ((h.2.1 k q hq).lt) (fun z => ?_)), h.2.2.1, hS1, h.2.2.2.2⟩
  rcases z with ⟨k9, e9, h9⟩ | h9
  · simp at h9
  · exact absurd ((h.2.1 k q hq).lt) (Nat.not_lt.mpr h9)
theorem kS_i {r : Int32} (S : CallFix p m c cc nL s args Ts own) (C0 : Ci l y ws rm mc ms G cy As [] [] r) (cw : CallB R s args own index y bytes maxL ret ws rm mc ms n ∧ (Cond.static y).before args s = true) (h : Hv s H locs G cy A w)
    (hn : As.length = n) (hsize : ls.size = nL) (hst : st0 = As.reverse ++ rest) (hW : (rest.map fun v => v.category).sum ≤ 8) (hdg : decode cc pc = .ok (.invokestatic index, 3)) (hf : cells + mc ≤ R.cells ∧ slots + ms ≤ R.slots)
    (kk : ∀ (H1 : Heap) (locs1 : List Loc), Hv s H1 locs1 G cy A w → W p l e R s m args below meth c H1 locs1 (cells + mc) (slots + ms) Q (F0 m (pc + 3) ls (.int r :: rest))) : W p l e R s m args below meth c H locs cells slots Q (F0 m pc ls st0) := by
  have hs : Sp w [] [] := ⟨rfl, rfl⟩
  refine va_calli (va_runS (As := As) (rest := rest) S (C0 H.size) cw ⟨Wd.blind, fun U hU hW2 => ⟨rfl, h.pre hs U hU hW2⟩⟩ rfl hn hsize hst (lv_room hW) hdg hf) h.2.2.2.1 (fun q _ h9 => h.free hs q h9) (h.free hs) (fun x u t H1 locs1 ht hvm hw hB hz1 hk1 hS1 => ?_)
  subst hw
  exact kk H1 locs1 (h.none hk1 hS1)
theorem kSN_i {host : String} {r : Int32} (S : CallFix p m c cc nL s args Ts own) (C0 : Ci l y ws rm mc ms G cy As [] [] r) (cw : va_CN R s args own index y host bytes maxL ret ws rm mc ms n ∧ (Cond.static y).before args s = true ∧ True) (h : Hv s H locs G cy A w)
    (hn : As.length = n) (hsize : ls.size = nL) (hst : st0 = As.reverse ++ rest) (hW : (rest.map fun v => v.category).sum ≤ 8) (hdg : decode cc pc = .ok (.invokestatic index, 3)) (hf : cells + mc ≤ R.cells ∧ slots + ms ≤ R.slots)
    (kk : ∀ (H1 : Heap) (locs1 : List Loc), Hv s H1 locs1 G cy A w → W p l e R s m args below meth c H1 locs1 (cells + mc) (slots + ms) Q (F0 m (pc + 3) ls (.int r :: rest))) : W p l e R s m args below meth c H locs cells slots Q (F0 m pc ls st0) := by
  have hs : Sp w [] [] := ⟨rfl, rfl⟩
  refine va_calli (va_runSN (As := As) (rest := rest) S (C0 H.size) cw ⟨Wd.blind, fun U hU hW2 => ⟨rfl, h.pre hs U hU hW2⟩⟩ rfl hn hsize hst (lv_room hW) hdg hf) h.2.2.2.1 (fun q _ h9 => h.free hs q h9) (h.free hs) (fun x u t H1 locs1 ht hvm hw hB hz1 hk1 hS1 => ?_)
  subst hw
  exact kk H1 locs1 (h.none hk1 hS1)
theorem kS_l {r : Int64} (S : CallFix p m c cc nL s args Ts own) (C0 : Cl l y ws rm mc ms G cy As [] [] r) (cw : CallB R s args own index y bytes maxL ret ws rm mc ms n ∧ (Cond.static y).before args s = true) (h : Hv s H locs G cy A w)
    (hn : As.length = n) (hsize : ls.size = nL) (hst : st0 = As.reverse ++ rest) (hW : (rest.map fun v => v.category).sum ≤ 8) (hdg : decode cc pc = .ok (.invokestatic index, 3)) (hf : cells + mc ≤ R.cells ∧ slots + ms ≤ R.slots)
    (kk : ∀ (H1 : Heap) (locs1 : List Loc), Hv s H1 locs1 G cy A w → W p l e R s m args below meth c H1 locs1 (cells + mc) (slots + ms) Q (F0 m (pc + 3) ls (.long r :: rest))) : W p l e R s m args below meth c H locs cells slots Q (F0 m pc ls st0) := by
  have hs : Sp w [] [] := ⟨rfl, rfl⟩
  refine va_calll (va_runS (As := As) (rest := rest) S (C0 H.size) cw ⟨Wd.blind, fun U hU hW2 => ⟨rfl, h.pre hs U hU hW2⟩⟩ rfl hn hsize hst (lv_room hW) hdg hf) h.2.2.2.1 (fun q _ h9 => h.free hs q h9) (h.free hs) (fun x u t H1 locs1 ht hvm hw hB hz1 hk1 hS1 => ?_)
  subst hw
  exact kk H1 locs1 (h.none hk1 hS1)
theorem kSN_l {host : String} {r : Int64} (S : CallFix p m c cc nL s args Ts own) (C0 : Cl l y ws rm mc ms G cy As [] [] r) (cw : va_CN R s args own index y host bytes maxL ret ws rm mc ms n ∧ (Cond.static y).before args s = true ∧ True) (h : Hv s H locs G cy A w)
    (hn : As.length = n) (hsize : ls.size = nL) (hst : st0 = As.reverse ++ rest) (hW : (rest.map fun v => v.category).sum ≤ 8) (hdg : decode cc pc = .ok (.invokestatic index, 3)) (hf : cells + mc ≤ R.cells ∧ slots + ms ≤ R.slots)
    (kk : ∀ (H1 : Heap) (locs1 : List Loc), Hv s H1 locs1 G cy A w → W p l e R s m args below meth c H1 locs1 (cells + mc) (slots + ms) Q (F0 m (pc + 3) ls (.long r :: rest))) : W p l e R s m args below meth c H locs cells slots Q (F0 m pc ls st0) := by
  have hs : Sp w [] [] := ⟨rfl, rfl⟩
  refine va_calll (va_runSN (As := As) (rest := rest) S (C0 H.size) cw ⟨Wd.blind, fun U hU hW2 => ⟨rfl, h.pre hs U hU hW2⟩⟩ rfl hn hsize hst (lv_room hW) hdg hf) h.2.2.2.1 (fun q _ h9 => h.free hs q h9) (h.free hs) (fun x u t H1 locs1 ht hvm hw hB hz1 hk1 hS1 => ?_)
  subst hw
  exact kk H1 locs1 (h.none hk1 hS1)
theorem kS_v (S : CallFix p m c cc nL s args Ts own) (C0 : Cv l y ws rm mc ms G cy As [] []) (cw : CallB R s args own index y bytes maxL ret ws rm mc ms n ∧ (Cond.static y).before args s = true) (h : Hv s H locs G cy A w)
    (hn : As.length = n) (hsize : ls.size = nL) (hst : st0 = As.reverse ++ rest) (hW : (rest.map fun v => v.category).sum ≤ 8) (hdg : decode cc pc = .ok (.invokestatic index, 3)) (hf : cells + mc ≤ R.cells ∧ slots + ms ≤ R.slots)
    (kk : ∀ (H1 : Heap) (locs1 : List Loc), Hv s H1 locs1 G cy A w → W p l e R s m args below meth c H1 locs1 (cells + mc) (slots + ms) Q (F0 m (pc + 3) ls rest)) : W p l e R s m args below meth c H locs cells slots Q (F0 m pc ls st0) := by
  have hs : Sp w [] [] := ⟨rfl, rfl⟩
  refine va_callv (va_runS (As := As) (rest := rest) S (C0 H.size) cw ⟨Wd.blind, fun U hU hW2 => ⟨rfl, h.pre hs U hU hW2⟩⟩ rfl hn hsize hst (lv_room hW) hdg hf) h.2.2.2.1 (fun q _ h9 => h.free hs q h9) (h.free hs) (fun u t H1 locs1 ht hvm hw hB hz1 hk1 hS1 => ?_)
  exact kk H1 locs1 (h.none hk1 hS1)
theorem kSN_v {host : String} (S : CallFix p m c cc nL s args Ts own) (C0 : Cv l y ws rm mc ms G cy As [] []) (cw : va_CN R s args own index y host bytes maxL ret ws rm mc ms n ∧ (Cond.static y).before args s = true ∧ True) (h : Hv s H locs G cy A w)
    (hn : As.length = n) (hsize : ls.size = nL) (hst : st0 = As.reverse ++ rest) (hW : (rest.map fun v => v.category).sum ≤ 8) (hdg : decode cc pc = .ok (.invokestatic index, 3)) (hf : cells + mc ≤ R.cells ∧ slots + ms ≤ R.slots)
    (kk : ∀ (H1 : Heap) (locs1 : List Loc), Hv s H1 locs1 G cy A w → W p l e R s m args below meth c H1 locs1 (cells + mc) (slots + ms) Q (F0 m (pc + 3) ls rest)) : W p l e R s m args below meth c H locs cells slots Q (F0 m pc ls st0) := by
  have hs : Sp w [] [] := ⟨rfl, rfl⟩
  refine va_callv (va_runSN (As := As) (rest := rest) S (C0 H.size) cw ⟨Wd.blind, fun U hU hW2 => ⟨rfl, h.pre hs U hU hW2⟩⟩ rfl hn hsize hst (lv_room hW) hdg hf) h.2.2.2.1 (fun q _ h9 => h.free hs q h9) (h.free hs) (fun u t H1 locs1 ht hvm hw hB hz1 hk1 hS1 => ?_)
  exact kk H1 locs1 (h.none hk1 hS1)
theorem kXV_i {r : Int32} (S : CallFix p m c cc nL s args Ts own) (C0 : Xi l y ws rm mc ms G cy (.ref b :: As) wc (.ok (r, wc'))) (cw : CallW R s args own C index y bytes maxL ret ws rm mc ms n) (h : Hv s H locs G cy A w) {isC : List Nat} (hs : Sp w wc isC)
    (hrv : ∃ cell : Cell, H[b]? = some cell ∧ cell.vm.isStatics = false ∧ s.vm.findClass C = some cell.cls) (isR ps : List Nat) (hR : isR.map (fun i => w[i]?) = wr.map some) (hn9 : va_nd isR = true) (hdis : ∀ i ∈ isR, i ∉ isC) (hps : ps.map (fun i => (wr ++ wc')[i]?) = w2.map some) (hpn : va_nd ps = true)
    (hn : As.length = n) (hsize : ls.size = nL) (hst : st0 = As.reverse ++ .ref b :: rest) (hW : (rest.map fun v => v.category).sum ≤ 8) (hdg : decode cc pc = .ok (.invokevirtual index, 3)) (hf : cells + mc ≤ R.cells ∧ slots + ms ≤ R.slots)
    (kk : ∀ (H1 : Heap) (locs1 : List Loc), Hv s H1 locs1 G cy A w2 → W p l e R s m args below meth c H1 locs1 (cells + mc) (slots + ms) Q (F0 m (pc + 3) ls (.int r :: rest))) : W p l e R s m args below meth c H locs cells slots Q (F0 m pc ls st0) := by
  refine vx_calli (vx_runV (As := As) (rest := rest) S (C0 H.size) cw ⟨Wd.blind, hrv, fun U hU hW2 => ⟨rfl, h.pre hs U hU hW2⟩⟩ rfl hn hsize hst (lv_room hW) hdg hf) h.2.2.2.1 (fun q _ h9 => h.free hs q h9) (h.free hs) (fun q _ h9 => h.free hs q h9) (fun E ce q9 u t H1 locs1 ht hvm hw hB hz1 hk1 hS1 hce hcv hcl => ?_) (fun x u t H1 locs1 ht hvm hw hB hz1 hk1 hS1 => ?_)
  · cases hB.1
  · cases hw
    exact kk H1 locs1 (h.post hs isR ps hR hn9 hdis hps hpn ht hB hk1 hS1)
theorem kXV_iE {E : String} (S : CallFix p m c cc nL s args Ts own) (C0 : Xi l y ws rm mc ms G cy (.ref b :: As) wc (.error E)) (cw : CallW R s args own C index y bytes maxL ret ws rm mc ms n) (h : Hv s H locs G cy A w) {isC : List Nat} (hs : Sp w wc isC)
    (hrv : ∃ cell : Cell, H[b]? = some cell ∧ cell.vm.isStatics = false ∧ s.vm.findClass C = some cell.cls) (hn : As.length = n) (hsize : ls.size = nL) (hst : st0 = As.reverse ++ .ref b :: rest) (hW : (rest.map fun v => v.category).sum ≤ 8) (hdg : decode cc pc = .ok (.invokevirtual index, 3)) (hf : cells + mc ≤ R.cells ∧ slots + ms ≤ R.slots)
    (kx : ∀ (ce : Cell) (q9 : Addr) (H1 : Heap) (locs1 : List Loc), Hv s H1 locs1 G cy A w → H1[q9]? = some ce → ce.vm = .none → s.vm.findClass E = some ce.cls → vx_W p l e R s m args below meth c H1 locs1 (cells + mc) (slots + ms) Q (F0 m pc ls rest) q9) : W p l e R s m args below meth c H locs cells slots Q (F0 m pc ls st0) := by
  refine vx_calli (vx_runV (As := As) (rest := rest) S (C0 H.size) cw ⟨Wd.blind, hrv, fun U hU hW2 => ⟨rfl, h.pre hs U hU hW2⟩⟩ rfl hn hsize hst (lv_room hW) hdg hf) h.2.2.2.1 (fun q _ h9 => h.free hs q h9) (h.free hs) (fun q _ h9 => h.free hs q h9) (fun E9 ce q9 u t H1 locs1 ht hvm hw hB hz1 hk1 hS1 hce hcv hcl => ?_) (fun x u t H1 locs1 ht hvm hw hB hz1 hk1 hS1 => ?_)
  · obtain ⟨hE9, hB⟩ := hB
    cases hE9
    exact kx ce q9 H1 locs1 (h.back hs ht hB hk1 hS1) hce hcv hcl
  · cases hw
theorem kXS_i {r : Int32} (S : CallFix p m c cc nL s args Ts own) (C0 : Xi l y ws rm mc ms G cy As wc (.ok (r, wc'))) (cw : CallB R s args own index y bytes maxL ret ws rm mc ms n ∧ (Cond.static y).before args s = true) (h : Hv s H locs G cy A w) {isC : List Nat} (hs : Sp w wc isC)
    (isR ps : List Nat) (hR : isR.map (fun i => w[i]?) = wr.map some) (hn9 : va_nd isR = true) (hdis : ∀ i ∈ isR, i ∉ isC) (hps : ps.map (fun i => (wr ++ wc')[i]?) = w2.map some) (hpn : va_nd ps = true)
    (hn : As.length = n) (hsize : ls.size = nL) (hst : st0 = As.reverse ++ rest) (hW : (rest.map fun v => v.category).sum ≤ 8) (hdg : decode cc pc = .ok (.invokestatic index, 3)) (hf : cells + mc ≤ R.cells ∧ slots + ms ≤ R.slots)
    (kk : ∀ (H1 : Heap) (locs1 : List Loc), Hv s H1 locs1 G cy A w2 → W p l e R s m args below meth c H1 locs1 (cells + mc) (slots + ms) Q (F0 m (pc + 3) ls (.int r :: rest))) : W p l e R s m args below meth c H locs cells slots Q (F0 m pc ls st0) := by
  refine vx_calli (vx_runS (As := As) (rest := rest) S (C0 H.size) cw ⟨Wd.blind, fun U hU hW2 => ⟨rfl, h.pre hs U hU hW2⟩⟩ rfl hn hsize hst (lv_room hW) hdg hf) h.2.2.2.1 (fun q _ h9 => h.free hs q h9) (h.free hs) (fun q _ h9 => h.free hs q h9) (fun E ce q9 u t H1 locs1 ht hvm hw hB hz1 hk1 hS1 hce hcv hcl => ?_) (fun x u t H1 locs1 ht hvm hw hB hz1 hk1 hS1 => ?_)
  · cases hB.1
  · cases hw
    exact kk H1 locs1 (h.post hs isR ps hR hn9 hdis hps hpn ht hB hk1 hS1)
theorem kXS_iE {E : String} (S : CallFix p m c cc nL s args Ts own) (C0 : Xi l y ws rm mc ms G cy As wc (.error E)) (cw : CallB R s args own index y bytes maxL ret ws rm mc ms n ∧ (Cond.static y).before args s = true) (h : Hv s H locs G cy A w) {isC : List Nat} (hs : Sp w wc isC)
    (hn : As.length = n) (hsize : ls.size = nL) (hst : st0 = As.reverse ++ rest) (hW : (rest.map fun v => v.category).sum ≤ 8) (hdg : decode cc pc = .ok (.invokestatic index, 3)) (hf : cells + mc ≤ R.cells ∧ slots + ms ≤ R.slots)
    (kx : ∀ (ce : Cell) (q9 : Addr) (H1 : Heap) (locs1 : List Loc), Hv s H1 locs1 G cy A w → H1[q9]? = some ce → ce.vm = .none → s.vm.findClass E = some ce.cls → vx_W p l e R s m args below meth c H1 locs1 (cells + mc) (slots + ms) Q (F0 m pc ls rest) q9) : W p l e R s m args below meth c H locs cells slots Q (F0 m pc ls st0) := by
  refine vx_calli (vx_runS (As := As) (rest := rest) S (C0 H.size) cw ⟨Wd.blind, fun U hU hW2 => ⟨rfl, h.pre hs U hU hW2⟩⟩ rfl hn hsize hst (lv_room hW) hdg hf) h.2.2.2.1 (fun q _ h9 => h.free hs q h9) (h.free hs) (fun q _ h9 => h.free hs q h9) (fun E9 ce q9 u t H1 locs1 ht hvm hw hB hz1 hk1 hS1 hce hcv hcl => ?_) (fun x u t H1 locs1 ht hvm hw hB hz1 hk1 hS1 => ?_)
  · obtain ⟨hE9, hB⟩ := hB
    cases hE9
    exact kx ce q9 H1 locs1 (h.back hs ht hB hk1 hS1) hce hcv hcl
  · cases hw
theorem kXV_l {r : Int64} (S : CallFix p m c cc nL s args Ts own) (C0 : Xl l y ws rm mc ms G cy (.ref b :: As) wc (.ok (r, wc'))) (cw : CallW R s args own C index y bytes maxL ret ws rm mc ms n) (h : Hv s H locs G cy A w) {isC : List Nat} (hs : Sp w wc isC)
    (hrv : ∃ cell : Cell, H[b]? = some cell ∧ cell.vm.isStatics = false ∧ s.vm.findClass C = some cell.cls) (isR ps : List Nat) (hR : isR.map (fun i => w[i]?) = wr.map some) (hn9 : va_nd isR = true) (hdis : ∀ i ∈ isR, i ∉ isC) (hps : ps.map (fun i => (wr ++ wc')[i]?) = w2.map some) (hpn : va_nd ps = true)
    (hn : As.length = n) (hsize : ls.size = nL) (hst : st0 = As.reverse ++ .ref b :: rest) (hW : (rest.map fun v => v.category).sum ≤ 8) (hdg : decode cc pc = .ok (.invokevirtual index, 3)) (hf : cells + mc ≤ R.cells ∧ slots + ms ≤ R.slots)
    (kk : ∀ (H1 : Heap) (locs1 : List Loc), Hv s H1 locs1 G cy A w2 → W p l e R s m args below meth c H1 locs1 (cells + mc) (slots + ms) Q (F0 m (pc + 3) ls (.long r :: rest))) : W p l e R s m args below meth c H locs cells slots Q (F0 m pc ls st0) := by
  refine vx_calll (vx_runV (As := As) (rest := rest) S (C0 H.size) cw ⟨Wd.blind, hrv, fun U hU hW2 => ⟨rfl, h.pre hs U hU hW2⟩⟩ rfl hn hsize hst (lv_room hW) hdg hf) h.2.2.2.1 (fun q _ h9 => h.free hs q h9) (h.free hs) (fun q _ h9 => h.free hs q h9) (fun E ce q9 u t H1 locs1 ht hvm hw hB hz1 hk1 hS1 hce hcv hcl => ?_) (fun x u t H1 locs1 ht hvm hw hB hz1 hk1 hS1 => ?_)
  · cases hB.1
  · cases hw
    exact kk H1 locs1 (h.post hs isR ps hR hn9 hdis hps hpn ht hB hk1 hS1)
theorem kXV_lE {E : String} (S : CallFix p m c cc nL s args Ts own) (C0 : Xl l y ws rm mc ms G cy (.ref b :: As) wc (.error E)) (cw : CallW R s args own C index y bytes maxL ret ws rm mc ms n) (h : Hv s H locs G cy A w) {isC : List Nat} (hs : Sp w wc isC)
    (hrv : ∃ cell : Cell, H[b]? = some cell ∧ cell.vm.isStatics = false ∧ s.vm.findClass C = some cell.cls) (hn : As.length = n) (hsize : ls.size = nL) (hst : st0 = As.reverse ++ .ref b :: rest) (hW : (rest.map fun v => v.category).sum ≤ 8) (hdg : decode cc pc = .ok (.invokevirtual index, 3)) (hf : cells + mc ≤ R.cells ∧ slots + ms ≤ R.slots)
    (kx : ∀ (ce : Cell) (q9 : Addr) (H1 : Heap) (locs1 : List Loc), Hv s H1 locs1 G cy A w → H1[q9]? = some ce → ce.vm = .none → s.vm.findClass E = some ce.cls → vx_W p l e R s m args below meth c H1 locs1 (cells + mc) (slots + ms) Q (F0 m pc ls rest) q9) : W p l e R s m args below meth c H locs cells slots Q (F0 m pc ls st0) := by
  refine vx_calll (vx_runV (As := As) (rest := rest) S (C0 H.size) cw ⟨Wd.blind, hrv, fun U hU hW2 => ⟨rfl, h.pre hs U hU hW2⟩⟩ rfl hn hsize hst (lv_room hW) hdg hf) h.2.2.2.1 (fun q _ h9 => h.free hs q h9) (h.free hs) (fun q _ h9 => h.free hs q h9) (fun E9 ce q9 u t H1 locs1 ht hvm hw hB hz1 hk1 hS1 hce hcv hcl => ?_) (fun x u t H1 locs1 ht hvm hw hB hz1 hk1 hS1 => ?_)
  · obtain ⟨hE9, hB⟩ := hB
    cases hE9
    exact kx ce q9 H1 locs1 (h.back hs ht hB hk1 hS1) hce hcv hcl
  · cases hw
theorem kXS_l {r : Int64} (S : CallFix p m c cc nL s args Ts own) (C0 : Xl l y ws rm mc ms G cy As wc (.ok (r, wc'))) (cw : CallB R s args own index y bytes maxL ret ws rm mc ms n ∧ (Cond.static y).before args s = true) (h : Hv s H locs G cy A w) {isC : List Nat} (hs : Sp w wc isC)
    (isR ps : List Nat) (hR : isR.map (fun i => w[i]?) = wr.map some) (hn9 : va_nd isR = true) (hdis : ∀ i ∈ isR, i ∉ isC) (hps : ps.map (fun i => (wr ++ wc')[i]?) = w2.map some) (hpn : va_nd ps = true)
    (hn : As.length = n) (hsize : ls.size = nL) (hst : st0 = As.reverse ++ rest) (hW : (rest.map fun v => v.category).sum ≤ 8) (hdg : decode cc pc = .ok (.invokestatic index, 3)) (hf : cells + mc ≤ R.cells ∧ slots + ms ≤ R.slots)
    (kk : ∀ (H1 : Heap) (locs1 : List Loc), Hv s H1 locs1 G cy A w2 → W p l e R s m args below meth c H1 locs1 (cells + mc) (slots + ms) Q (F0 m (pc + 3) ls (.long r :: rest))) : W p l e R s m args below meth c H locs cells slots Q (F0 m pc ls st0) := by
  refine vx_calll (vx_runS (As := As) (rest := rest) S (C0 H.size) cw ⟨Wd.blind, fun U hU hW2 => ⟨rfl, h.pre hs U hU hW2⟩⟩ rfl hn hsize hst (lv_room hW) hdg hf) h.2.2.2.1 (fun q _ h9 => h.free hs q h9) (h.free hs) (fun q _ h9 => h.free hs q h9) (fun E ce q9 u t H1 locs1 ht hvm hw hB hz1 hk1 hS1 hce hcv hcl => ?_) (fun x u t H1 locs1 ht hvm hw hB hz1 hk1 hS1 => ?_)
  · cases hB.1
  · cases hw
    exact kk H1 locs1 (h.post hs isR ps hR hn9 hdis hps hpn ht hB hk1 hS1)
theorem kXS_lE {E : String} (S : CallFix p m c cc nL s args Ts own) (C0 : Xl l y ws rm mc ms G cy As wc (.error E)) (cw : CallB R s args own index y bytes maxL ret ws rm mc ms n ∧ (Cond.static y).before args s = true) (h : Hv s H locs G cy A w) {isC : List Nat} (hs : Sp w wc isC)
    (hn : As.length = n) (hsize : ls.size = nL) (hst : st0 = As.reverse ++ rest) (hW : (rest.map fun v => v.category).sum ≤ 8) (hdg : decode cc pc = .ok (.invokestatic index, 3)) (hf : cells + mc ≤ R.cells ∧ slots + ms ≤ R.slots)
    (kx : ∀ (ce : Cell) (q9 : Addr) (H1 : Heap) (locs1 : List Loc), Hv s H1 locs1 G cy A w → H1[q9]? = some ce → ce.vm = .none → s.vm.findClass E = some ce.cls → vx_W p l e R s m args below meth c H1 locs1 (cells + mc) (slots + ms) Q (F0 m pc ls rest) q9) : W p l e R s m args below meth c H locs cells slots Q (F0 m pc ls st0) := by
  refine vx_calll (vx_runS (As := As) (rest := rest) S (C0 H.size) cw ⟨Wd.blind, fun U hU hW2 => ⟨rfl, h.pre hs U hU hW2⟩⟩ rfl hn hsize hst (lv_room hW) hdg hf) h.2.2.2.1 (fun q _ h9 => h.free hs q h9) (h.free hs) (fun q _ h9 => h.free hs q h9) (fun E9 ce q9 u t H1 locs1 ht hvm hw hB hz1 hk1 hS1 hce hcv hcl => ?_) (fun x u t H1 locs1 ht hvm hw hB hz1 hk1 hS1 => ?_)
  · obtain ⟨hE9, hB⟩ := hB
    cases hE9
    exact kx ce q9 H1 locs1 (h.back hs ht hB hk1 hS1) hce hcv hcl
  · cases hw
theorem kXV_v (S : CallFix p m c cc nL s args Ts own) (C0 : Xv l y ws rm mc ms G cy (.ref b :: As) wc (.ok wc')) (cw : CallW R s args own C index y bytes maxL ret ws rm mc ms n) (h : Hv s H locs G cy A w) {isC : List Nat} (hs : Sp w wc isC)
    (hrv : ∃ cell : Cell, H[b]? = some cell ∧ cell.vm.isStatics = false ∧ s.vm.findClass C = some cell.cls) (isR ps : List Nat) (hR : isR.map (fun i => w[i]?) = wr.map some) (hn9 : va_nd isR = true) (hdis : ∀ i ∈ isR, i ∉ isC) (hps : ps.map (fun i => (wr ++ wc')[i]?) = w2.map some) (hpn : va_nd ps = true)
    (hn : As.length = n) (hsize : ls.size = nL) (hst : st0 = As.reverse ++ .ref b :: rest) (hW : (rest.map fun v => v.category).sum ≤ 8) (hdg : decode cc pc = .ok (.invokevirtual index, 3)) (hf : cells + mc ≤ R.cells ∧ slots + ms ≤ R.slots)
    (kk : ∀ (H1 : Heap) (locs1 : List Loc), Hv s H1 locs1 G cy A w2 → W p l e R s m args below meth c H1 locs1 (cells + mc) (slots + ms) Q (F0 m (pc + 3) ls rest)) : W p l e R s m args below meth c H locs cells slots Q (F0 m pc ls st0) := by
  refine vx_callv (vx_runV (As := As) (rest := rest) S (C0 H.size) cw ⟨Wd.blind, hrv, fun U hU hW2 => ⟨rfl, h.pre hs U hU hW2⟩⟩ rfl hn hsize hst (lv_room hW) hdg hf) h.2.2.2.1 (fun q _ h9 => h.free hs q h9) (h.free hs) (fun q _ h9 => h.free hs q h9) (fun E ce q9 u t H1 locs1 ht hvm hw hB hz1 hk1 hS1 hce hcv hcl => ?_) (fun u t H1 locs1 ht hvm hw hB hz1 hk1 hS1 => ?_)
  · cases hB.1
  · cases hw
    exact kk H1 locs1 (h.post hs isR ps hR hn9 hdis hps hpn ht hB hk1 hS1)
theorem kXV_vE {E : String} (S : CallFix p m c cc nL s args Ts own) (C0 : Xv l y ws rm mc ms G cy (.ref b :: As) wc (.error E)) (cw : CallW R s args own C index y bytes maxL ret ws rm mc ms n) (h : Hv s H locs G cy A w) {isC : List Nat} (hs : Sp w wc isC)
    (hrv : ∃ cell : Cell, H[b]? = some cell ∧ cell.vm.isStatics = false ∧ s.vm.findClass C = some cell.cls) (hn : As.length = n) (hsize : ls.size = nL) (hst : st0 = As.reverse ++ .ref b :: rest) (hW : (rest.map fun v => v.category).sum ≤ 8) (hdg : decode cc pc = .ok (.invokevirtual index, 3)) (hf : cells + mc ≤ R.cells ∧ slots + ms ≤ R.slots)
    (kx : ∀ (ce : Cell) (q9 : Addr) (H1 : Heap) (locs1 : List Loc), Hv s H1 locs1 G cy A w → H1[q9]? = some ce → ce.vm = .none → s.vm.findClass E = some ce.cls → vx_W p l e R s m args below meth c H1 locs1 (cells + mc) (slots + ms) Q (F0 m pc ls rest) q9) : W p l e R s m args below meth c H locs cells slots Q (F0 m pc ls st0) := by
  refine vx_callv (vx_runV (As := As) (rest := rest) S (C0 H.size) cw ⟨Wd.blind, hrv, fun U hU hW2 => ⟨rfl, h.pre hs U hU hW2⟩⟩ rfl hn hsize hst (lv_room hW) hdg hf) h.2.2.2.1 (fun q _ h9 => h.free hs q h9) (h.free hs) (fun q _ h9 => h.free hs q h9) (fun E9 ce q9 u t H1 locs1 ht hvm hw hB hz1 hk1 hS1 hce hcv hcl => ?_) (fun u t H1 locs1 ht hvm hw hB hz1 hk1 hS1 => ?_)
  · obtain ⟨hE9, hB⟩ := hB
    cases hE9
    exact kx ce q9 H1 locs1 (h.back hs ht hB hk1 hS1) hce hcv hcl
  · cases hw
theorem kXS_v (S : CallFix p m c cc nL s args Ts own) (C0 : Xv l y ws rm mc ms G cy As wc (.ok wc')) (cw : CallB R s args own index y bytes maxL ret ws rm mc ms n ∧ (Cond.static y).before args s = true) (h : Hv s H locs G cy A w) {isC : List Nat} (hs : Sp w wc isC)
    (isR ps : List Nat) (hR : isR.map (fun i => w[i]?) = wr.map some) (hn9 : va_nd isR = true) (hdis : ∀ i ∈ isR, i ∉ isC) (hps : ps.map (fun i => (wr ++ wc')[i]?) = w2.map some) (hpn : va_nd ps = true)
    (hn : As.length = n) (hsize : ls.size = nL) (hst : st0 = As.reverse ++ rest) (hW : (rest.map fun v => v.category).sum ≤ 8) (hdg : decode cc pc = .ok (.invokestatic index, 3)) (hf : cells + mc ≤ R.cells ∧ slots + ms ≤ R.slots)
    (kk : ∀ (H1 : Heap) (locs1 : List Loc), Hv s H1 locs1 G cy A w2 → W p l e R s m args below meth c H1 locs1 (cells + mc) (slots + ms) Q (F0 m (pc + 3) ls rest)) : W p l e R s m args below meth c H locs cells slots Q (F0 m pc ls st0) := by
  refine vx_callv (vx_runS (As := As) (rest := rest) S (C0 H.size) cw ⟨Wd.blind, fun U hU hW2 => ⟨rfl, h.pre hs U hU hW2⟩⟩ rfl hn hsize hst (lv_room hW) hdg hf) h.2.2.2.1 (fun q _ h9 => h.free hs q h9) (h.free hs) (fun q _ h9 => h.free hs q h9) (fun E ce q9 u t H1 locs1 ht hvm hw hB hz1 hk1 hS1 hce hcv hcl => ?_) (fun u t H1 locs1 ht hvm hw hB hz1 hk1 hS1 => ?_)
  · cases hB.1
  · cases hw
    exact kk H1 locs1 (h.post hs isR ps hR hn9 hdis hps hpn ht hB hk1 hS1)
theorem kXS_vE {E : String} (S : CallFix p m c cc nL s args Ts own) (C0 : Xv l y ws rm mc ms G cy As wc (.error E)) (cw : CallB R s args own index y bytes maxL ret ws rm mc ms n ∧ (Cond.static y).before args s = true) (h : Hv s H locs G cy A w) {isC : List Nat} (hs : Sp w wc isC)
    (hn : As.length = n) (hsize : ls.size = nL) (hst : st0 = As.reverse ++ rest) (hW : (rest.map fun v => v.category).sum ≤ 8) (hdg : decode cc pc = .ok (.invokestatic index, 3)) (hf : cells + mc ≤ R.cells ∧ slots + ms ≤ R.slots)
    (kx : ∀ (ce : Cell) (q9 : Addr) (H1 : Heap) (locs1 : List Loc), Hv s H1 locs1 G cy A w → H1[q9]? = some ce → ce.vm = .none → s.vm.findClass E = some ce.cls → vx_W p l e R s m args below meth c H1 locs1 (cells + mc) (slots + ms) Q (F0 m pc ls rest) q9) : W p l e R s m args below meth c H locs cells slots Q (F0 m pc ls st0) := by
  refine vx_callv (vx_runS (As := As) (rest := rest) S (C0 H.size) cw ⟨Wd.blind, fun U hU hW2 => ⟨rfl, h.pre hs U hU hW2⟩⟩ rfl hn hsize hst (lv_room hW) hdg hf) h.2.2.2.1 (fun q _ h9 => h.free hs q h9) (h.free hs) (fun q _ h9 => h.free hs q h9) (fun E9 ce q9 u t H1 locs1 ht hvm hw hB hz1 hk1 hS1 hce hcv hcl => ?_) (fun u t H1 locs1 ht hvm hw hB hz1 hk1 hS1 => ?_)
  · obtain ⟨hE9, hB⟩ := hB
    cases hE9
    exact kx ce q9 H1 locs1 (h.back hs ht hB hk1 hS1) hce hcv hcl
  · cases hw
end KB
/-- guards of the pure programs -/
def xi {α : Type} (i : Int32) (n : Nat) (x : Option α) : Option α := if i < 0 ∨ n ≤ i.toNatClampNeg then none else x
theorem xi_some {α : Type} {i : Int32} {n : Nat} {x : Option α} {r : α} (h : xi i n x = some r) : vp_in i n ∧ x = some r := by
  unfold xi at h
  split at h
  · cases h
  · rename_i hn
    exact ⟨hn, h⟩
theorem xi_in {α : Type} {i : Int32} {n : Nat} {x : Option α} (h : vp_in i n) : xi i n x = x := if_neg h
def xd {α : Type} (y : Int32) (x : Option α) : Option α := if y = 0 then none else x
theorem xd_some {α : Type} {y : Int32} {x : Option α} {r : α} (h : xd y x = some r) : ¬ y = 0 ∧ x = some r := by
  unfold xd at h
  split at h
  · cases h
  · rename_i hn
    exact ⟨hn, h⟩
def xq {α : Type} (v : Int32) (x : Option α) : Option α := if v = 0 ∨ v = 1 then x else none
theorem xq_some {α : Type} {v : Int32} {x : Option α} {r : α} (h : xq v x = some r) : narrow .boolean (.int v) = .int v ∧ x = some r := by
  unfold xq at h
  split at h
  · rename_i hn
    refine ⟨?_, h⟩
    rcases hn with rfl | rfl <;> rfl
  · cases h
def xj {α β : Type} (a : α) (f : α → β) : β := f a
theorem xj_elim {α β : Type} {a : α} {f : α → Option β} {r : β} {P : Prop} (h : xj a f = some r) (k : ∀ j : α, j = a → f j = some r → P) : P := k a rfl h
def xe {α β : Type} (o : Option (Except String α)) (f : α → Option (Except String β)) : Option (Except String β) := match o with
  | none => none
  | some (.error e) => some (.error e)
  | some (.ok a) => f a
theorem xe_some {α β : Type} {o : Option (Except String α)} {f : α → Option (Except String β)} {r : Except String β} (h : xe o f = some r) : (∃ e : String, o = some (.error e) ∧ r = .error e) ∨ ∃ a : α, o = some (.ok a) ∧ f a = some r := by
  match o, h with
  | some (.error e), h => exact Or.inl ⟨e, rfl, (Option.some.inj h).symm⟩
  | some (.ok a), h => exact Or.inr ⟨a, rfl, h⟩
def xb {α β : Type} (o : Option α) (f : α → Option β) : Option β := match o with
  | none => none
  | some a => f a
theorem xb_some {α β : Type} {o : Option α} {f : α → Option β} {r : β} (h : xb o f = some r) : ∃ a : α, o = some a ∧ f a = some r := by
  match o, h with
  | some a, h => exact ⟨a, rfl, h⟩
abbrev kmo {α β : Type} (g : α → β) : Except String α → Except String β
  | .error e => .error e
  | .ok a => .ok (g a)
theorem ite_t {α : Type} {c : Prop} [Decidable c] {a b r : α} (h : (if c then a else b) = r) (hc : c) : a = r := by rw [if_pos hc] at h; exact h
theorem ite_f {α : Type} {c : Prop} [Decidable c] {a b r : α} (h : (if c then a else b) = r) (hc : ¬ c) : b = r := by rw [if_neg hc] at h; exact h
