/-! My own layer over the kit's rows: a contract that is a function (what is answered, what the cells are behind it), one context, one state of the heap. -/
def nw_l : List (String × Nat × MethodName × String) := [("WrongClocks", 11, ⟨"WrongClocks$Text", "<init>", "()V"⟩, "WrongClocks"), ("WrongClocks$House", 23, ⟨"WrongClocks$Notes", "<init>", "()V"⟩, "WrongClocks"), ("WrongClocks$House", 28, ⟨"WrongClocks$Clock", "<init>", "()V"⟩, "WrongClocks"), ("WrongClocks", 29, ⟨"WrongClocks$Tally", "<init>", "()V"⟩, "WrongClocks"), ("WrongClocks", 36, ⟨"WrongClocks$Clock", "<init>", "()V"⟩, "WrongClocks"), ("WrongClocks", 43, ⟨"WrongClocks$Queue", "<init>", "()V"⟩, "WrongClocks"), ("WrongClocks$Text", 31, ⟨"WrongClocks", "isBelow", "(II)Z"⟩, "WrongClocks"), ("WrongClocks$House", 36, ⟨"WrongClocks", "isBelow", "(II)Z"⟩, "WrongClocks"), ("WrongClocks$Queue", 41, ⟨"WrongClocks", "isBelow", "(II)Z"⟩, "WrongClocks")]
def nw_q (q : String × Nat × MethodName × String) : Cond := .methodLinkNest q.1 q.2.1 q.2.2.1 q.2.2.2
def NW (U : State) : Prop := ∀ q ∈ nw_l, va_Nw (nw_q q) U
theorem NW.warm {s U : State} (hW : s.WarmedH U.vm) (h : NW s) : NW U := fun q hq => va_Nw.warmM hW (h q hq)
theorem NW.same {s U : State} (e : s.vm = U.vm) (h : NW s) : NW U := fun q hq => va_Nw.same rfl e (h q hq)
/-! the eleven String constants: addresses D.2 100, their bytes' D.2 101; two statics of the JDK -/
def skTx (i : Nat) : String := ["going", "back", "stopped", "gone", "now", "unread", "KSALH", "KA", "K", "KM", ""].getD i ""
def skLen : List Nat := [5, 4, 7, 4, 3, 6, 5, 2, 1, 2, 0]
def skByt : List (List Int32) := [[103, 111, 105, 110, 103], [98, 97, 99, 107], [115, 116, 111, 112, 112, 101, 100], [103, 111, 110, 101], [110, 111, 119], [117, 110, 114, 101, 97, 100], [75, 83, 65, 76, 72], [75, 65], [75], [75, 77], []]
def SP (D : va_G) (A : Nat → Prop) (U : State) (H : Heap) : Prop := (∀ i : Nat, i < 11 → vk_R "WrongClocks$Text" (89 + 2 * i) (skTx i) (D.2 100 i) U) ∧ vk_S 11 skLen skByt (D.2 100) (D.2 101) A U H ∧ va_Z "java/lang/String" "COMPACT_STRINGS" "Z" (.int 1) A U H ∧ va_Zq "jdk/internal/util/Preconditions" "SIOOBE_FORMATTER" "Ljava/util/function/BiFunction;" A U H
theorem SP.warm {D : va_G} {A B : Nat → Prop} {s U : State} {H H1 : Heap} (hW : s.WarmedH U.vm) (hk : ∀ a : Nat, a < H.size → ¬ A a → H1[a]? = H[a]?) (hAB : ∀ q, B q → A q) (h : SP D A s H) : SP D B U H1 :=
  ⟨fun i hi => vk_R.warm hW (h.1 i hi), ((h.2.1.moved hW.alike).kept hk).narrow hAB, ((h.2.2.1.moved hW.alike).kept hk).narrow hAB, ((h.2.2.2.moved hW.alike).kept hk).narrow hAB⟩
theorem SP.same {D : va_G} {A : Nat → Prop} {s U : State} {H : Heap} (e : U.vm = s.vm) (h : SP D A s H) : SP D A U H :=
  ⟨fun i hi => vk_R.same e (h.1 i hi), h.2.1.moved (e ▸ Vm.Alike.refl _), h.2.2.1.moved (e ▸ Vm.Alike.refl _), h.2.2.2.moved (e ▸ Vm.Alike.refl _)⟩
/-- what a method of mine leaves: the answer v, the cells w1, and nothing else touched -/
def GQ (D : va_G) (v : Option Value) (w1 : va_W) (A : Nat → Prop) : Array Value → State → Outcome → State → Prop := fun _ st oc t => oc = .returned v ∧ va_P D vwCl w1 t.heap ∧ va_D A w1 ∧ va_F A st t
def GP (D : va_G) (tys : List (ClassId × FieldType)) (sz : Nat) (av : List Value) (ws : va_W) : Array Value → State → Prop := va_Pc av (fun U => U.heap.size = sz ∧ va_P D vwCl ws U.heap ∧ va_K D vwCl tys U ∧ va_D (fun _ => True) ws ∧ NW U ∧ SP D (va_A ws sz) U U.heap)
def MC (l : Launch) (D : va_G) (tys : List (ClassId × FieldType)) (y : MethodName) (wsy : List Cond) (fr lo : Nat) (av : List Value) (ws : va_W) (v : Option Value) (w1 : va_W) : Prop :=
  ∀ sz : Nat, Met l y wsy ({ frames := fr, cells := 0, slots := 0, locals := lo }) (GP D tys sz av ws) (GQ D v w1 (va_A ws sz)) 0 0 (va_A ws sz)
theorem GP.blind {D : va_G} {tys : List (ClassId × FieldType)} {sz : Nat} {av : List Value} {ws : va_W} : FrameBlind (GP D tys sz av ws) := fun a U g mk q => by
  obtain ⟨q0, q1, qP, qK, qD, qN, qS⟩ := q
  exact ⟨q0, q1, qP, va_K.moved (u := U) (U := U.calling g mk a) (Vm.Alike.refl U.vm) qK, qD, NW.same (s := U) (U := U.calling g mk a) rfl qN, SP.same (s := U) (U := U.calling g mk a) rfl qS⟩
def HS (D : va_G) (A : Nat → Prop) (H0 : Heap) (w : va_W) (H : Heap) (locs : List Loc) : Prop := va_P D vwCl w H ∧ va_D A w ∧ va_S A H0 H locs
/-- what stays the same while a body is walked -/
def Cx (D : va_G) (tys : List (ClassId × FieldType)) (p : Program) (s : State) (m : MethodId) (args : Array Value) (c : Code) (cc : ByteArray) (nL : Nat) (Ts : List Cond) (own : String) (A : Nat → Prop) : Prop :=
  p.tables.exec = Jvm.exec ∧ c.code = cc ∧ c.maxLocals = nL ∧ s.vm.findClass own = some m.cls ∧ (∀ w ∈ Ts, w.before args s = true) ∧ va_K D vwCl tys s ∧ (NW s ∧ SP D A s s.heap) ∧ (∀ q : Nat, s.heap.size ≤ q → A q)
/-- a callee's cells wc among the caller's ws; behind the call w1 stands in their place: ws1 -/
def JN (ws wc w1 ws1 : va_W) : Prop := (∀ (D : va_G) (H : Heap), va_P D vwCl ws H → va_P D vwCl wc H) ∧ (∀ A : Nat → Prop, va_D A ws → va_D A wc) ∧
  ∀ (D : va_G) (A : Nat → Prop) (H H1 : Heap), va_P D vwCl ws H → va_D A ws → (∀ q : Nat, q < H.size → ¬ va_A wc H.size q → H1[q]? = H[q]?) → (∀ q : Nat, H.size ≤ q → A q) → va_P D vwCl w1 H1 → va_D (va_A wc H.size) w1 → va_P D vwCl ws1 H1 ∧ va_D A ws1
theorem JN.all {ws w1 : va_W} : JN ws ws w1 w1 := by
  refine ⟨fun _ _ h => h, fun _ h => h, fun D A H H1 hP hD _ hA hP1 hD1 => ⟨hP1, hD1.weaken (fun k q hk h => ?_)⟩⟩
  rcases h with ⟨j, e, hj⟩ | h
  · exact hD.2 j (q.1, e) hj
  · exact hA _ h
theorem jn_at {ws wc : va_W} {is : List Nat} (h : is.map (fun i => ws[i]?) = wc.map some) (k : Nat) (q : Nat × va_E) (hq : wc[k]? = some q) : ∃ i, is[k]? = some i ∧ ws[i]? = some q := by
  have h1 : (is.map (fun i => ws[i]?))[k]? = some (some q) := by rw [h, List.getElem?_map, hq]; rfl
  rw [List.getElem?_map] at h1
  cases hi : is[k]? with
  | none => rw [hi] at h1; cases h1
  | some i => rw [hi] at h1; exact ⟨i, rfl, Option.some.inj h1⟩
theorem jn_P {ws wc : va_W} {is : List Nat} (h : is.map (fun i => ws[i]?) = wc.map some) (D : va_G) (H : Heap) (hP : va_P D vwCl ws H) : va_P D vwCl wc H := fun k q hq => by
  obtain ⟨i, -, hi⟩ := jn_at h k q hq
  exact hP i q hi
/-- what lies among ws, and is not of wc, is apart from wc -/
theorem jn_apart {ws wc : va_W} {is : List Nat} (h : is.map (fun i => ws[i]?) = wc.map some) {D : va_G} {A : Nat → Prop} {H : Heap} (hP : va_P D vwCl ws H) (hD : va_D A ws) {k : Nat} (hk : k ∉ is) {q : Nat × va_E} (hq : ws[k]? = some q) : q.1 < H.size ∧ ¬ va_A wc H.size q.1 := by
  have hl := (hP k q hq).lt
  refine ⟨hl, fun hA => ?_⟩
  rcases hA with ⟨j, e, hj⟩ | hA
  · obtain ⟨i, h1, h2⟩ := jn_at h j _ hj
    have := hD.1 k i q (q.1, e) hq h2 rfl
    subst this
    exact hk (List.mem_of_getElem? h1)
  · omega
/-- nothing of the callee's cells has changed -/
theorem JN.ro {ws wc : va_W} (is : List Nat) (h : is.map (fun i => ws[i]?) = wc.map some) (hn : va_nd is = true) : JN ws wc wc ws := by
  refine ⟨fun D H hP => jn_P h D H hP, fun A hD => hD.sub is hn h, fun D A H H1 hP hD hk _ hP1 _ => ⟨fun k q hq => ?_, hD⟩⟩
  by_cases hi : k ∈ is
  · obtain ⟨j, hj⟩ := List.getElem?_of_mem hi
    have h1 : (wc.map some)[j]? = some (ws[k]?) := by rw [← h, List.getElem?_map, hj]; rfl
    rw [List.getElem?_map, hq] at h1
    cases hw : wc[j]? with
    | none => rw [hw] at h1; cases h1
    | some q2 =>
      rw [hw] at h1
      have e : q2 = q := by simpa using h1
      subst e
      exact hP1 j q2 hw
  · obtain ⟨g1, g2⟩ := jn_apart h hP hD hi hq
    exact (hP k q hq).kept (hk q.1 g1 g2)
theorem jn_set {is : List Nat} {w1 : va_W} : ∀ (ws : va_W), (∀ k, k ∉ is → ((is.zip w1).foldl (fun a q => a.set q.1 q.2) ws)[k]? = ws[k]?) := by
  induction is generalizing w1 with
  | nil => intro ws k _; rfl
  | cons i is ih =>
    intro ws k hk
    cases w1 with
    | nil => rfl
    | cons x w1 =>
      rw [List.zip_cons_cons, List.foldl_cons, ih _ k (fun h => hk (List.mem_cons_of_mem _ h)), List.getElem?_set_ne (fun e => hk (by rw [← e]; exact List.mem_cons_self))]
theorem JN.up {ws wc w1 ws1 : va_W} (is : List Nat) (h : is.map (fun i => ws[i]?) = wc.map some) (hn : va_nd is = true) (ha : w1.map Prod.fst = wc.map Prod.fst) (h1 : is.map (fun i => ws1[i]?) = w1.map some) (hs : (is.zip w1).foldl (fun a q => a.set q.1 q.2) ws = ws1) : JN ws wc w1 ws1 := by
  refine ⟨fun D H hP => jn_P h D H hP, fun A hD => hD.sub is hn h, fun D A H H1 hP hD hk _ hP1 _ => ?_⟩
  have key : ∀ (k : Nat) (q : Nat × va_E), ws1[k]? = some q → (k ∉ is ∧ ws[k]? = some q) ∨ ∃ (j : Nat) (q0 : Nat × va_E), is[j]? = some k ∧ w1[j]? = some q ∧ ws[k]? = some q0 ∧ q0.1 = q.1 := by
    intro k q hq
    by_cases hi : k ∈ is
    · right
      obtain ⟨j, hj⟩ := List.getElem?_of_mem hi
      have e1 : (w1.map some)[j]? = some (ws1[k]?) := by rw [← h1, List.getElem?_map, hj]; rfl
      have e2 : (wc.map some)[j]? = some (ws[k]?) := by rw [← h, List.getElem?_map, hj]; rfl
      rw [List.getElem?_map, hq] at e1
      rw [List.getElem?_map] at e2
      have e3 : (w1.map Prod.fst)[j]? = (wc.map Prod.fst)[j]? := by rw [ha]
      rw [List.getElem?_map, List.getElem?_map] at e3
      cases hw : w1[j]? with
      | none => rw [hw] at e1; cases e1
      | some a =>
        rw [hw] at e1 e3
        cases hc : wc[j]? with
        | none => rw [hc] at e3; cases e3
        | some b =>
          rw [hc] at e2 e3
          have ea : a = q := by simpa using e1
          subst ea
          have eb : ws[k]? = some b := by simpa using e2.symm
          exact ⟨j, b, hj, hw, eb, (by simpa using e3.symm)⟩
    · left
      refine ⟨hi, ?_⟩
      rw [← hs, jn_set ws k hi] at hq
      exact hq
  refine ⟨fun k q hq => ?_, ⟨fun i j x y hi hj hxy => ?_, fun k q hq => ?_⟩⟩
  · rcases key k q hq with ⟨hi, hw⟩ | ⟨j, q0, -, hw, -, -⟩
    · obtain ⟨g1, g2⟩ := jn_apart h hP hD hi hw
      exact (hP k q hw).kept (hk q.1 g1 g2)
    · exact hP1 j q hw
  · have f : ∀ (k : Nat) (q : Nat × va_E), ws1[k]? = some q → ∃ q0, ws[k]? = some q0 ∧ q0.1 = q.1 := fun k q hq => by
      rcases key k q hq with ⟨-, hw⟩ | ⟨_, q0, -, -, h3, h4⟩
      · exact ⟨q, hw, rfl⟩
      · exact ⟨q0, h3, h4⟩
    obtain ⟨x0, a1, a2⟩ := f i x hi
    obtain ⟨y0, b1, b2⟩ := f j y hj
    exact hD.1 i j x0 y0 a1 b1 (by rw [a2, b2]; exact hxy)
  · rcases key k q hq with ⟨-, hw⟩ | ⟨_, q0, -, -, h3, h4⟩
    · exact hD.2 k q hw
    · rw [← h4]; exact hD.2 k q0 h3
theorem JN.no {ws : va_W} : JN ws [] [] ws := JN.ro [] rfl rfl
section G1
variable {p : Program} {l : Launch} {e : Env} {R : Room} {s : State} {m : MethodId} {args : Array Value} {below : List Frame} {meth : Method} {c : Code} {H : Heap} {locs : List Loc} {cells slots : Nat} {Q : State → Prop}
variable {lvs : List (Nat × Value)} {cc : ByteArray} {pc nL : Nat} {ls : Array Slot} {rest : List Value} {D : va_G} {tys : List (ClassId × FieldType)} {A : Nat → Prop} {a : Nat} {w : va_W} {Ts : List Cond} {own : String}
theorem Cx.x (C : Cx D tys p s m args c cc nL Ts own A) : p.tables.exec = Jvm.exec := C.1
theorem Cx.b (C : Cx D tys p s m args c cc nL Ts own A) : c.code = cc := C.2.1
theorem g_get (C : Cx D tys p s m args c cc nL Ts own A) (hh : HS D A s.heap w H locs) {CN : String} {T : u_T} {N ci index : Nat} (hin : ∀ x ∈ u_ws CN T N, x ∈ Ts) (q0 : Nat) {fs : List Value} (he : w[q0]? = some (a, .inr (ci, fs))) (hc : vwCl[ci]? = some (CN, T, N)) (k : Nat) (hk : k < N) {v : Value} (hv : fs[k]? = some v) (hl : Cond.fieldLink own index (T k).1 (T k).2.1 (T k).2.2.1 ∈ Ts) (hdg : decode cc pc = .ok (.getfield index, 3))
    (kk : W p l e R s m args below meth c H locs cells slots Q (F0 m (pc + 3) ls (v :: rest))) : W p l e R s m args below meth c H locs cells slots Q (F0 m pc ls (.ref a :: rest)) :=
  va_get C.1 C.2.1 C.2.2.2.2.1 hin C.2.2.2.1 C.2.2.2.2.2.1 hh.1 q0 he hc k hk (C.2.2.2.2.1 _ hl) (fun _ h => h) hv hdg kk
theorem g_put (C : Cx D tys p s m args c cc nL Ts own A) (hh : HS D A s.heap w H locs) {CN : String} {T : u_T} {N ci index : Nat} (hin : ∀ x ∈ u_ws CN T N, x ∈ Ts) (ty0 : Nat → FieldType) (hty : ∀ k, k < N → parseFieldDescriptor (T k).2.2.1 = some (ty0 k)) (hnm : ∀ a, a < N → ∀ b, b < N → a ≠ b → (T a).2.1 ≠ (T b).2.1) (q0 : Nat) {fs fs' : List Value} (he : w[q0]? = some (a, .inr (ci, fs))) (hc : vwCl[ci]? = some (CN, T, N)) (k : Nat) (hk : k < N) {v : Value} (hfin : (T k).2.2.2 = false) (hn : narrow (ty0 k) v = v) (hfit : fits (ty0 k) v = true) (hlen : k < fs.length) (hl : Cond.fieldLink own index (T k).1 (T k).2.1 (T k).2.2.1 ∈ Ts) {w' : va_W} (hs : fs.set k v = fs') (hw : w.set q0 (a, .inr (ci, fs')) = w') (hdg : decode cc pc = .ok (.putfield index, 3))
    (kk : ∀ (H1 : Heap) (locs1 : List Loc), HS D A s.heap w' H1 locs1 → W p l e R s m args below meth c H1 locs1 cells slots Q (F0 m (pc + 3) ls rest)) : W p l e R s m args below meth c H locs cells slots Q (F0 m pc ls (v :: .ref a :: rest)) := by
  subst hs; subst hw
  exact va_put C.1 C.2.1 C.2.2.2.2.1 hin ty0 hty hnm C.2.2.2.1 C.2.2.2.2.2.1 hh.1 hh.2.1 hh.2.2 q0 he hc k hk (C.2.2.2.2.1 _ hl) (fun _ h => h) hfin (hty k hk) hn hfit hlen hdg (fun H1 locs1 g1 g2 g3 => kk H1 locs1 ⟨g1, g2, g3⟩)
theorem g_iald (C : Cx D tys p s m args c cc nL Ts own A) (hh : HS D A s.heap w H locs) (q0 t0 : Nat) {cA : ClassId} {n : Nat} {f : Nat → Int32} (ha : w[q0]? = some (a, .inl (cA, n, .inl f))) (ht : tys[t0]? = some (cA, .int)) {i : Int32} (hin : vp_in i n) (hdg : decode cc pc = .ok (.iaload, 1))
    (kk : W p l e R s m args below meth c H locs cells slots Q (F0 m (pc + 1) ls (.int (f i.toNatClampNeg) :: rest))) : W p l e R s m args below meth c H locs cells slots Q (F0 m pc ls (.int i :: .ref a :: rest)) :=
  va_iald C.1 C.2.1 C.2.2.2.2.2.1 hh.1 q0 t0 ha ht hin hdg kk
theorem g_zald (C : Cx D tys p s m args c cc nL Ts own A) (hh : HS D A s.heap w H locs) (q0 t0 : Nat) {cA : ClassId} {n : Nat} {f : Nat → Int32} (ha : w[q0]? = some (a, .inl (cA, n, .inl f))) (ht : tys[t0]? = some (cA, .boolean)) {i : Int32} (hin : vp_in i n) (hdg : decode cc pc = .ok (.baload, 1))
    (kk : W p l e R s m args below meth c H locs cells slots Q (F0 m (pc + 1) ls (.int (f i.toNatClampNeg) :: rest))) : W p l e R s m args below meth c H locs cells slots Q (F0 m pc ls (.int i :: .ref a :: rest)) :=
  va_zald C.1 C.2.1 C.2.2.2.2.2.1 hh.1 q0 t0 ha ht hin hdg kk
theorem g_aald (C : Cx D tys p s m args c cc nL Ts own A) (hh : HS D A s.heap w H locs) (q0 t0 : Nat) {cA : ClassId} {CN : String} {n : Nat} {f : Nat → Option Nat} (ha : w[q0]? = some (a, .inl (cA, n, .inr (.inr (.inr (.inr f)))))) (ht : tys[t0]? = some (cA, .object CN)) {i : Int32} (hin : vp_in i n) {v : Value} (hv : va_rf (f i.toNatClampNeg) = v) (hdg : decode cc pc = .ok (.aaload, 1))
    (kk : W p l e R s m args below meth c H locs cells slots Q (F0 m (pc + 1) ls (v :: rest))) : W p l e R s m args below meth c H locs cells slots Q (F0 m pc ls (.int i :: .ref a :: rest)) := by
  subst hv
  exact va_aldq C.1 C.2.1 C.2.2.2.2.2.1 hh.1 q0 t0 ha ht hin hdg kk
theorem g_alen (C : Cx D tys p s m args c cc nL Ts own A) (hh : HS D A s.heap w H locs) (q0 t0 : Nat) {cA : ClassId} {x : vp_A} (ha : w[q0]? = some (a, .inl (cA, x))) {ty : FieldType} (ht : tys[t0]? = some (cA, ty)) {v : Int32} (hv : Int32.ofNat x.1 = v) (hdg : decode cc pc = .ok (.arraylength, 1))
    (kk : W p l e R s m args below meth c H locs cells slots Q (F0 m (pc + 1) ls (.int v :: rest))) : W p l e R s m args below meth c H locs cells slots Q (F0 m pc ls (.ref a :: rest)) :=
  va_alen C.1 C.2.1 C.2.2.2.2.2.1 hh.1 q0 t0 ha ht hv hdg kk
theorem g_iast (C : Cx D tys p s m args c cc nL Ts own A) (hh : HS D A s.heap w H locs) (q0 t0 : Nat) {cA : ClassId} {n : Nat} {f : Nat → Int32} (ha : w[q0]? = some (a, .inl (cA, n, .inl f))) (ht : tys[t0]? = some (cA, .int)) {i x : Int32} (hin : vp_in i n) {w' : va_W} (hw : w.set q0 (a, .inl (cA, n, .inl (upd f i.toNatClampNeg x))) = w') (hdg : decode cc pc = .ok (.iastore, 1))
    (kk : ∀ (H1 : Heap) (locs1 : List Loc), HS D A s.heap w' H1 locs1 → W p l e R s m args below meth c H1 locs1 cells slots Q (F0 m (pc + 1) ls rest)) : W p l e R s m args below meth c H locs cells slots Q (F0 m pc ls (.int x :: .int i :: .ref a :: rest)) := by
  subst hw
  exact va_iast C.1 C.2.1 C.2.2.2.2.2.1 hh.1 hh.2.1 hh.2.2 q0 t0 ha ht hin hdg (fun H1 locs1 g1 g2 g3 => kk H1 locs1 ⟨g1, g2, g3⟩)
/-- a call that has run: the world behind it -/
theorem g_fin {wc w1 ws1 : va_W} {st0 : List Value} {v : Option Value} {av : Array Value} (C : Cx D tys p s m args c cc nL Ts own A) (hh : HS D A s.heap w H locs) (J : JN w wc w1 ws1) (hr : va_Run p l e R s m args below meth c H locs cells slots 0 0 (F0 m pc ls st0) rest (GQ D v w1 (va_A wc H.size) av) (va_A wc H.size))
    (kk : ∀ (H1 : Heap) (locs1 : List Loc), HS D A s.heap ws1 H1 locs1 → W p l e R s m args below meth c H1 locs1 cells slots Q (F0 m (pc + 3) ls (v.toList ++ rest))) : W p l e R s m args below meth c H locs cells slots Q (F0 m pc ls st0) := by
  intro T hT X
  obtain ⟨v', st₀, t, T', L, h0, X', hL, e1, e2, ⟨hv, hP1, hD1, hz, hk⟩, st⟩ := hr T hT X
  have hv' : v' = v := by injection hv
  subst hv'
  rw [h0] at hz hk
  obtain ⟨hP, hD, hS⟩ := hh
  have hA := C.2.2.2.2.2.2.2
  have hsub : ∀ q, va_A wc H.size q → A q := fun q hq => by
    rcases hq with ⟨k, x, hq⟩ | hq
    · exact (J.2.1 A hD).2 k (q, x) hq
    · exact hA q (Nat.le_trans hS.1 hq)
  obtain ⟨g1, g2⟩ := J.2.2 D A H t.heap hP hD hk (fun q hq => hA q (Nat.le_trans hS.1 hq)) hP1 hD1
  obtain ⟨t2, a1, b1⟩ := kk T'.heap (locs ++ L) ⟨by rw [e1]; exact g1, g2, Nat.le_trans hS.1 (by rw [e1]; exact hz), fun q h1 h2 => by rw [e1, hk q (Nat.lt_of_lt_of_le h1 hS.1) (fun z => h2 (hsub q z))]; exact hS.2.1 q h1 h2, fun q hq => by
      rcases List.mem_append.mp hq with h | h
      · exact hS.2.2 q h
      · exact hsub _ (hL q h)⟩ T' rfl X'
  exact ⟨t2, st t2 a1, b1⟩
theorem g_preP {wc w1 ws1 : va_W} {av : List Value} (C : Cx D tys p s m args c cc nL Ts own A) (hh : HS D A s.heap w H locs) (J : JN w wc w1 ws1) : ∀ U : State, U.heap = H → s.WarmedH U.vm → GP D tys H.size av wc av.toArray U := fun U hU hW =>
  ⟨rfl, by rw [hU], by rw [hU]; exact J.1 D H hh.1, va_K.moved hW.alike C.2.2.2.2.2.1, (J.2.1 A hh.2.1).weaken (fun _ _ _ _ => trivial), NW.warm hW C.2.2.2.2.2.2.1.1, by
    rw [hU]
    refine SP.warm hW hh.2.2.2.1 (fun q hq => ?_) C.2.2.2.2.2.2.1.2
    rcases hq with ⟨k, x, hq⟩ | hq
    · exact (J.2.1 A hh.2.1).2 k (q, x) hq
    · exact C.2.2.2.2.2.2.2 q (Nat.le_trans hh.2.2.1 hq)⟩
theorem g_fix (C : Cx D tys p s m args c cc nL Ts own A) : CallFix p m c cc nL s args Ts own := ⟨C.1, C.2.1, C.2.2.1, C.2.2.2.1, C.2.2.2.2.1⟩
/-- invokevirtual -/
theorem g_callV {wc w1 ws1 : va_W} {As : List Value} {v : Option Value} {y : MethodName} {wsy ws' : List Cond} {fr lo fr2 lo2 maxL index b : Nat} {bytes : ByteArray} {ret : Option FieldType} {CN : String} (C : Cx D tys p s m args c cc nL Ts own A) (hR : R = { frames := fr2, cells := R.cells, slots := R.slots, locals := lo2 }) (hcs : cells ≤ R.cells ∧ slots ≤ R.slots) (hh : HS D A s.heap w H locs) (hl : lv_has ls nL lvs) (hM : MC l D tys y wsy fr lo (.ref b :: As) wc v w1) (J : JN w wc w1 ws1)
    (n : Nat) (hG : GoodIn Ts (wsV own index CN y wsy)) (hw : wsy = Cond.code y bytes maxL ret :: ws') (hd : y.cls = CN ∧ y.cls ≠ "java/lang/invoke/MethodHandle" ∧ y.cls ≠ "java/lang/invoke/VarHandle" ∧ (parseMethodDescriptor y.desc).map (fun d => d.parameters.length) = some n) (hRR : fr + 1 ≤ fr2 ∧ 8 + (maxL + 11) + lo ≤ lo2)
    (q0 ci : Nat) {q : vw_C} {fs : List Value} (hc : vwCl[ci]? = some q) (hq : q.1 = CN) (he : w[q0]? = some (b, .inr (ci, fs))) (hn : As.length = n) {st0 : List Value} (hst : st0 = As.reverse ++ .ref b :: rest) (hcat : (rest.map fun v => v.category).sum ≤ 8) (hdg : decode cc pc = .ok (.invokevirtual index, 3))
    (kk : ∀ (H1 : Heap) (locs1 : List Loc), HS D A s.heap ws1 H1 locs1 → W p l e R s m args below meth c H1 locs1 cells slots Q (F0 m (pc + 3) ls (v.toList ++ rest))) : W p l e R s m args below meth c H locs cells slots Q (F0 m pc ls st0) := by
  subst hq
  have hR2 : fr2 = R.frames ∧ lo2 = R.locals := by rw [hR]; exact ⟨rfl, rfl⟩
  obtain ⟨rfl, rfl⟩ := hR2
  exact g_fin C hh J (va_runV (As := As) (rest := rest) (g_fix C) (hM H.size) (cwV n C.2.2.2.2.1 hG hw rfl rfl hd hRR) ⟨GP.blind, va_recv C.2.2.2.2.2.1 hh.1 hc he, g_preP C hh J⟩ rfl hn hl.1 hst (lv_room hcat) hdg hcs) kk
/-- invokestatic, of any class -/
theorem g_callS {wc w1 ws1 : va_W} {As : List Value} {v : Option Value} {y : MethodName} {wsy ws' : List Cond} {fr lo fr2 lo2 maxL index : Nat} {bytes : ByteArray} {ret : Option FieldType} (C : Cx D tys p s m args c cc nL Ts own A) (hR : R = { frames := fr2, cells := R.cells, slots := R.slots, locals := lo2 }) (hcs : cells ≤ R.cells ∧ slots ≤ R.slots) (hh : HS D A s.heap w H locs) (hl : lv_has ls nL lvs) (hM : MC l D tys y wsy fr lo As wc v w1) (J : JN w wc w1 ws1)
    (n : Nat) (hG : GoodIn Ts (va_wsS own index y wsy)) (hw : wsy = Cond.code y bytes maxL ret :: ws') (hd : y.cls ≠ "java/lang/invoke/MethodHandle" ∧ y.cls ≠ "java/lang/invoke/VarHandle" ∧ (parseMethodDescriptor y.desc).map (fun d => d.parameters.length) = some n) (hRR : fr + 1 ≤ fr2 ∧ 8 + (maxL + 11) + lo ≤ lo2)
    (hn : As.length = n) {st0 : List Value} (hst : st0 = As.reverse ++ rest) (hcat : (rest.map fun v => v.category).sum ≤ 8) (hdg : decode cc pc = .ok (.invokestatic index, 3))
    (kk : ∀ (H1 : Heap) (locs1 : List Loc), HS D A s.heap ws1 H1 locs1 → W p l e R s m args below meth c H1 locs1 cells slots Q (F0 m (pc + 3) ls (v.toList ++ rest))) : W p l e R s m args below meth c H locs cells slots Q (F0 m pc ls st0) := by
  have hR2 : fr2 = R.frames ∧ lo2 = R.locals := by rw [hR]; exact ⟨rfl, rfl⟩
  obtain ⟨rfl, rfl⟩ := hR2
  have ok : ∀ w ∈ va_wsS own index y wsy, w.before args s = true := fun w h => C.2.2.2.2.1 w (hG w h).1
  exact g_fin C hh J (va_runS (As := As) (rest := rest) (g_fix C) (hM H.size) ⟨callB_of n C.2.2.2.2.1 (fun w h => hG w (by unfold va_wsS; exact List.mem_append_right _ h)) hw rfl rfl (ok _ (by simp [va_wsS])) (ok _ (by simp [va_wsS])) hd hRR, ok _ (by simp [va_wsS])⟩ ⟨GP.blind, g_preP C hh J⟩ rfl hn hl.1 hst (lv_room hcat) hdg hcs) kk
/-- invokestatic of a nest mate's private method -/
theorem g_callN {wc w1 ws1 : va_W} {As : List Value} {v : Option Value} {y : MethodName} {host : String} {wsy ws' : List Cond} {fr lo fr2 lo2 maxL index : Nat} {bytes : ByteArray} {ret : Option FieldType} (C : Cx D tys p s m args c cc nL Ts own A) (hR : R = { frames := fr2, cells := R.cells, slots := R.slots, locals := lo2 }) (hcs : cells ≤ R.cells ∧ slots ≤ R.slots) (hh : HS D A s.heap w H locs) (hl : lv_has ls nL lvs) (hM : MC l D tys y wsy fr lo As wc v w1) (J : JN w wc w1 ws1)
    (n : Nat) (hG : GoodIn Ts wsy) (hw : wsy = Cond.code y bytes maxL ret :: ws') (hnw : (own, index, y, host) ∈ nw_l) (hini : Cond.initialized y.cls ∈ Ts) (hsta : Cond.static y ∈ Ts) (hd : y.cls ≠ "java/lang/invoke/MethodHandle" ∧ y.cls ≠ "java/lang/invoke/VarHandle" ∧ (parseMethodDescriptor y.desc).map (fun d => d.parameters.length) = some n) (hRR : fr + 1 ≤ fr2 ∧ 8 + (maxL + 11) + lo ≤ lo2)
    (hn : As.length = n) {st0 : List Value} (hst : st0 = As.reverse ++ rest) (hcat : (rest.map fun v => v.category).sum ≤ 8) (hdg : decode cc pc = .ok (.invokestatic index, 3))
    (kk : ∀ (H1 : Heap) (locs1 : List Loc), HS D A s.heap ws1 H1 locs1 → W p l e R s m args below meth c H1 locs1 cells slots Q (F0 m (pc + 3) ls (v.toList ++ rest))) : W p l e R s m args below meth c H locs cells slots Q (F0 m pc ls st0) := by
  have hR2 : fr2 = R.frames ∧ lo2 = R.locals := by rw [hR]; exact ⟨rfl, rfl⟩
  obtain ⟨rfl, rfl⟩ := hR2
  exact g_fin C hh J (va_runSN (As := As) (rest := rest) (g_fix C) (hM H.size) ⟨va_cnB n C.2.2.2.2.1 hG hw rfl rfl (C.2.2.2.2.2.2.1.1 _ hnw) (C.2.2.2.2.1 _ hini) hd hRR, C.2.2.2.2.1 _ hsta, trivial⟩ ⟨GP.blind, g_preP C hh J⟩ rfl hn hl.1 hst (lv_room hcat) hdg hcs) kk
/-- invokevirtual at a String constant -/
theorem g_callStr {wc w1 ws1 : va_W} {As : List Value} {v : Option Value} {y : MethodName} {wsy ws' : List Cond} {fr lo fr2 lo2 maxL index j : Nat} {bytes : ByteArray} {ret : Option FieldType} (C : Cx D tys p s m args c cc nL Ts own A) (hR : R = { frames := fr2, cells := R.cells, slots := R.slots, locals := lo2 }) (hcs : cells ≤ R.cells ∧ slots ≤ R.slots) (hh : HS D A s.heap w H locs) (hl : lv_has ls nL lvs) (hM : MC l D tys y wsy fr lo (.ref (D.2 100 j) :: As) wc v w1) (J : JN w wc w1 ws1)
    (n : Nat) (hG : GoodIn Ts (wsV own index "java/lang/String" y wsy)) (hw : wsy = Cond.code y bytes maxL ret :: ws') (hd : y.cls = "java/lang/String" ∧ y.cls ≠ "java/lang/invoke/MethodHandle" ∧ y.cls ≠ "java/lang/invoke/VarHandle" ∧ (parseMethodDescriptor y.desc).map (fun d => d.parameters.length) = some n) (hRR : fr + 1 ≤ fr2 ∧ 8 + (maxL + 11) + lo ≤ lo2)
    (hj : j < 11) (hn : As.length = n) {st0 : List Value} (hst : st0 = As.reverse ++ .ref (D.2 100 j) :: rest) (hcat : (rest.map fun v => v.category).sum ≤ 8) (hdg : decode cc pc = .ok (.invokevirtual index, 3))
    (kk : ∀ (H1 : Heap) (locs1 : List Loc), HS D A s.heap ws1 H1 locs1 → W p l e R s m args below meth c H1 locs1 cells slots Q (F0 m (pc + 3) ls (v.toList ++ rest))) : W p l e R s m args below meth c H locs cells slots Q (F0 m pc ls st0) := by
  have hR2 : fr2 = R.frames ∧ lo2 = R.locals := by rw [hR]; exact ⟨rfl, rfl⟩
  obtain ⟨rfl, rfl⟩ := hR2
  exact g_fin C hh J (va_runV (As := As) (rest := rest) (g_fix C) (hM H.size) (cwV n C.2.2.2.2.1 hG hw rfl rfl hd hRR) ⟨GP.blind, vk_recv C.2.2.2.2.2.2.1.2.2.1 hj hh.2.2, g_preP C hh J⟩ rfl hn hl.1 hst (lv_room hcat) hdg hcs) kk
theorem g_ldcS (C : Cx D tys p s m args c cc nL Ts "WrongClocks$Text" A) (j : Nat) (hj : j < 11) {index : Nat} (hi : index = 89 + 2 * j) (hdg : decode cc pc = .ok (.ldc index, 2))
    (kk : W p l e R s m args below meth c H locs cells slots Q (F0 m (pc + 2) ls (.ref (D.2 100 j) :: rest))) : W p l e R s m args below meth c H locs cells slots Q (F0 m pc ls rest) :=
  va_ldcS C.1 C.2.1 C.2.2.2.1 (hi ▸ C.2.2.2.2.2.2.1.2.1 j hj) hdg kk
/-- COMPACT_STRINGS -/
theorem g_compact (C : Cx D tys p s m args c cc nL Ts own A) (hh : HS D A s.heap w H locs) {index : Nat} (hl : Cond.fieldLink own index "java/lang/String" "COMPACT_STRINGS" "Z" ∈ Ts) (hdg : decode cc pc = .ok (.getstatic index, 3))
    (kk : W p l e R s m args below meth c H locs cells slots Q (F0 m (pc + 3) ls (.int 1 :: rest))) : W p l e R s m args below meth c H locs cells slots Q (F0 m pc ls rest) :=
  va_gets C.1 C.2.1 C.2.2.2.2.2.2.1.2.2.2.1 hh.2.2 C.2.2.2.1 (C.2.2.2.2.1 _ hl) (fun _ h => h) hdg kk
/-- SIOOBE_FORMATTER: a reference, or null -/
theorem g_fmt (C : Cx D tys p s m args c cc nL Ts own A) (hh : HS D A s.heap w H locs) {index : Nat} (hl : Cond.fieldLink own index "jdk/internal/util/Preconditions" "SIOOBE_FORMATTER" "Ljava/util/function/BiFunction;" ∈ Ts) (hdg : decode cc pc = .ok (.getstatic index, 3))
    (kk : ∀ v : Value, (v = .null ∨ ∃ t, v = .ref t) → W p l e R s m args below meth c H locs cells slots Q (F0 m (pc + 3) ls (v :: rest))) : W p l e R s m args below meth c H locs cells slots Q (F0 m pc ls rest) := by
  rcases C.2.2.2.2.2.2.1.2.2.2.2 with h | ⟨t, h⟩
  · exact va_gets C.1 C.2.1 h hh.2.2 C.2.2.2.1 (C.2.2.2.2.1 _ hl) (fun _ h => h) hdg (kk _ (Or.inl rfl))
  · exact va_gets C.1 C.2.1 h hh.2.2 C.2.2.2.1 (C.2.2.2.2.1 _ hl) (fun _ h => h) hdg (kk _ (Or.inr ⟨t, rfl⟩))
theorem g_coder (C : Cx D tys p s m args c cc nL Ts own A) (hh : HS D A s.heap w H locs) {j : Nat} (hj : j < 11) {index : Nat} (hl : Cond.fieldLink own index "java/lang/String" "coder" "B" ∈ Ts) (hdg : decode cc pc = .ok (.getfield index, 3))
    (kk : W p l e R s m args below meth c H locs cells slots Q (F0 m (pc + 3) ls (.int 0 :: rest))) : W p l e R s m args below meth c H locs cells slots Q (F0 m pc ls (.ref (D.2 100 j) :: rest)) :=
  vk_getf C.1 C.2.1 (C.2.2.2.2.2.2.1.2.2.1.1 j hj).2.1 hh.2.2 C.2.2.2.1 (C.2.2.2.2.1 _ hl) (fun _ h => h) hdg kk
theorem g_value (C : Cx D tys p s m args c cc nL Ts own A) (hh : HS D A s.heap w H locs) {j : Nat} (hj : j < 11) {index : Nat} (hl : Cond.fieldLink own index "java/lang/String" "value" "[B" ∈ Ts) (hdg : decode cc pc = .ok (.getfield index, 3))
    (kk : W p l e R s m args below meth c H locs cells slots Q (F0 m (pc + 3) ls (.ref (D.2 101 j) :: rest))) : W p l e R s m args below meth c H locs cells slots Q (F0 m pc ls (.ref (D.2 100 j) :: rest)) :=
  vk_getf C.1 C.2.1 (C.2.2.2.2.2.2.1.2.2.1.1 j hj).2.2.1 hh.2.2 C.2.2.2.1 (C.2.2.2.2.1 _ hl) (fun _ h => h) hdg kk
def slen (j : Nat) : Int32 := Int32.ofNat (skLen.getD j 0)
def sbyt (j : Nat) (i : Int32) : Int32 := (skByt.getD j []).getD i.toNatClampNeg 0
theorem g_slen (C : Cx D tys p s m args c cc nL Ts own A) (hh : HS D A s.heap w H locs) {j : Nat} (hj : j < 11) (hdg : decode cc pc = .ok (.arraylength, 1))
    (kk : W p l e R s m args below meth c H locs cells slots Q (F0 m (pc + 1) ls (.int (slen j) :: rest))) : W p l e R s m args below meth c H locs cells slots Q (F0 m pc ls (.ref (D.2 101 j) :: rest)) :=
  va_tlen C.1 C.2.1 (C.2.2.2.2.2.2.1.2.2.1.1 j hj).2.2.2 hh.2.2 rfl hdg kk
theorem g_sbyt (C : Cx D tys p s m args c cc nL Ts own A) (hh : HS D A s.heap w H locs) {j : Nat} (hj : j < 11) {i : Int32} (hin : vp_in i (skLen.getD j 0)) (hdg : decode cc pc = .ok (.baload, 1))
    (kk : W p l e R s m args below meth c H locs cells slots Q (F0 m (pc + 1) ls (.int (sbyt j i) :: rest))) : W p l e R s m args below meth c H locs cells slots Q (F0 m pc ls (.int i :: .ref (D.2 101 j) :: rest)) :=
  va_tb C.1 C.2.1 (C.2.2.2.2.2.2.1.2.2.1.1 j hj).2.2.2 hh.2.2 hin rfl hdg kk
end G1
/-- a body that ends in GQ: proved for any goal Q that its returns reach -/
theorem MC.of {l : Launch} {D : va_G} {tys : List (ClassId × FieldType)} {y : MethodName} {wsy ws' : List Cond} {fr lo : Nat} {av : List Value} {ws : va_W} {v : Option Value} {w1 : va_W} {cc : ByteArray} {maxL : Nat} {ret : Option FieldType} (own : String) (hown : y.cls = own) (hy : plainName y.cls = true) (hw : wsy = Cond.code y cc maxL ret :: ws') (hn : (lg_sl av).length ≤ maxL)
    (body : ∀ (p : Program) (e : Env) (s : State) (m : MethodId) (args : Array Value) (below : List Frame) (meth : Method) (c : Code) (A : Nat → Prop) (Q : State → Prop),
      Cx D tys p s m args c cc maxL wsy own A →
      (∀ (H : Heap) (locs : List Loc) (w : va_W) (pc : Nat) (ls : Array Slot) (st : List Value), HS D A s.heap w H locs → w = w1 → ((∃ x, st = [.int x] ∧ v = some (.int x) ∧ decode cc pc = .ok (.ireturn, 1) ∧ ((ret = some .int) ∨ (ret = some .boolean ∧ (x = 0 ∨ x = 1)) ∨ (∃ ty, ret = some ty ∧ narrow ty (.int x) = .int x))) ∨ (∃ x, st = [.long x] ∧ v = some (.long x) ∧ decode cc pc = .ok (.lreturn, 1) ∧ ret = some .long) ∨ (st = [] ∧ v = none ∧ decode cc pc = .ok (.return_, 1) ∧ ret = none) ∨ (∃ x rt, st = [x] ∧ v = some x ∧ decode cc pc = .ok (.areturn, 1) ∧ ret = some rt ∧ ((∃ n, rt = .object n) ∨ ∃ t, rt = .array t) ∧ (x = .null ∨ ∃ a, x = .ref a))) →
        W p l e { frames := fr, cells := 0, slots := 0, locals := lo } s m args below meth c H locs 0 0 Q (F0 m pc ls st)) →
      HS D A s.heap ws s.heap [] → ∀ ls : Array Slot, lv_has ls maxL (lv_args 0 av) → W p l e { frames := fr, cells := 0, slots := 0, locals := lo } s m args below meth c s.heap [] 0 0 Q (F0 m 0 ls [])) : MC l D tys y wsy fr lo av ws v w1 := by
  subst hown
  intro sz
  refine Met.ofW (cc := cc) (maxL := maxL) (ret := ret) hy hw ?_
  intro p e s m args below meth c s₁ B hml hv
  obtain ⟨rfl, hsz, hP, hK, hD0, hN, hSt⟩ := hv
  have hr := B.returns
  have hlocks := B.notSynchronized
  subst hsz
  have hD := hD0.self (sz := s.heap.size)
  have hl := lv_entry av (n := maxL) hn
  rw [lg_entry_eq]
  refine body p e s m av.toArray below meth c (va_A ws s.heap.size) (MQ below (GQ D v w1 (va_A ws s.heap.size)) av.toArray s 0 0 (va_A ws s.heap.size)) ⟨B.exec, B.bytes, hml, findClass_of_methodNamed B.named, atoms_spec (ws := wsy) B.pre, hK, ⟨hN, hSt⟩, fun q h => Or.inr h⟩ ?_ ⟨hP, hD, va_S.rf⟩ _ hl
  intro H locs w pc ls st hh ew hcase
  subst ew
  have fin : ∀ t : State, t.heap = H → va_P D vwCl w t.heap ∧ va_D (va_A ws s.heap.size) w ∧ va_F (va_A ws s.heap.size) s t := fun t ht => ⟨by rw [ht]; exact hh.1, hh.2.1, hh.2.2.F ht⟩
  rcases hcase with ⟨x, rfl, hv, hdg, hx⟩ | ⟨x, rfl, hv, hdg, hx⟩ | ⟨rfl, hv, hdg, hx⟩ | ⟨x, rt, rfl, hv, hdg, hx, h1, h2⟩
  · rcases hx with hx | ⟨hx, hz⟩ | ⟨ty, hx, hz⟩
    · exact W.iret (v := x) B.exec B.bytes (hr.trans hx) (fun t ht _ => ⟨by rw [hv], fin t ht⟩) hh.2.2.2.2 hdg hlocks
    · refine W.zret (v := x) (ty := .boolean) B.exec B.bytes (hr.trans hx) ?_ (fun t ht _ => ⟨by rw [hv], fin t ht⟩) hh.2.2.2.2 hdg hlocks
      rcases hz with rfl | rfl <;> rfl
    · exact W.zret (v := x) (ty := ty) B.exec B.bytes (hr.trans hx) hz (fun t ht _ => ⟨by rw [hv], fin t ht⟩) hh.2.2.2.2 hdg hlocks
  · exact W.lret (v := x) B.exec B.bytes (hr.trans hx) (fun t ht _ => ⟨by rw [hv], fin t ht⟩) hh.2.2.2.2 hdg hlocks
  · exact W.vret B.exec B.bytes (hr.trans hx) (fun t ht _ => ⟨by rw [hv], fin t ht⟩) hh.2.2.2.2 hdg hlocks
  · exact W.aret (v := x) (rt := rt) B.exec B.bytes (hr.trans hx) h1 h2 (fun t ht _ => ⟨by rw [hv], fin t ht⟩) hh.2.2.2.2 hdg hlocks
abbrev TY (cI cZ cC cH : ClassId) : List (ClassId × FieldType) := [(cI, .int), (cZ, .boolean), (cC, .object "WrongClocks$Clock"), (cH, .object "WrongClocks$House")]
-- numbers
theorem ti_lt {a b : Int32} : a < b ↔ a.toInt < b.toInt := Int32.lt_iff_toInt_lt
theorem ti_le {a b : Int32} : a ≤ b ↔ a.toInt ≤ b.toInt := Int32.le_iff_toInt_le
theorem ti_add {a b : Int32} (h1 : -2147483648 ≤ a.toInt + b.toInt) (h2 : a.toInt + b.toInt < 2147483648) : (a + b).toInt = a.toInt + b.toInt := by
  rw [Int32.toInt_add]; exact Int.bmod_eq_of_le (by omega) (by omega)
theorem ti_sub {a b : Int32} (h1 : -2147483648 ≤ a.toInt - b.toInt) (h2 : a.toInt - b.toInt < 2147483648) : (a - b).toInt = a.toInt - b.toInt := by
  rw [Int32.toInt_sub]; exact Int.bmod_eq_of_le (by omega) (by omega)
theorem ti_mul {a b : Int32} (h1 : -2147483648 ≤ a.toInt * b.toInt) (h2 : a.toInt * b.toInt < 2147483648) : (a * b).toInt = a.toInt * b.toInt := by
  rw [Int32.toInt_mul]; exact Int.bmod_eq_of_le (by omega) (by omega)
theorem ti_inc {a : Int32} (h2 : a.toInt < 2147483647) : (a + 1).toInt = a.toInt + 1 := by
  have h := Int32.le_toInt a
  have e : (1 : Int32).toInt = 1 := rfl
  rw [ti_add (by rw [e]; omega) (by rw [e]; omega), e]
theorem ti_dec {a : Int32} (h2 : -2147483648 < a.toInt) : (a + (-1)).toInt = a.toInt - 1 := by
  have h := Int32.toInt_lt a
  have e : (-1 : Int32).toInt = -1 := rfl
  rw [ti_add (by rw [e]; omega) (by rw [e]; omega), e]; omega
theorem ix6 {k : Int32} (c : Nat) (h0 : 0 ≤ k.toInt) (h1 : k.toInt < 8) (hc : c < 6) : vp_in (6 * k + nI c) 48 := by
  have e6 : (6 : Int32).toInt = 6 := rfl
  have ec : (nI c).toInt = (c : Int) := nI_toInt (by omega)
  have e1 : (6 * k).toInt = 6 * k.toInt := by rw [ti_mul (by rw [e6]; omega) (by rw [e6]; omega), e6]
  refine vp_in_iff.mpr ?_
  rw [ti_add (by omega) (by omega), e1, ec]
  omega
theorem ix60 {k : Int32} (h0 : 0 ≤ k.toInt) (h1 : k.toInt < 8) : vp_in (6 * k) 48 := by
  have e6 : (6 : Int32).toInt = 6 := rfl
  refine vp_in_iff.mpr ?_
  rw [ti_mul (by rw [e6]; omega) (by rw [e6]; omega), e6]
  omega
theorem sw_ne {x : Int32} {k : Int} {y : Int32} (h : ¬ x = y) (hy : y.toInt = k) : x.toInt ≠ k := fun e => h (Int32.toInt_inj.mp (e.trans hy.symm))
theorem ti_nlt {a b : Int32} (h : ¬ a < b) : b.toInt ≤ a.toInt := Int.not_lt.mp (mt ti_lt.mpr h)
theorem ti_nle {a b : Int32} (h : ¬ a ≤ b) : b.toInt < a.toInt := Int.not_le.mp (mt ti_le.mpr h)
theorem ti_ne {a b : Int32} (h : ¬ a = b) : ¬ a.toInt = b.toInt := mt Int32.toInt_inj.mp h
theorem ti_addc (a c : Int32) (n : Int) (hc : c.toInt = n) (h1 : -2147483648 ≤ a.toInt + n) (h2 : a.toInt + n < 2147483648) : (a + c).toInt = a.toInt + n := by
  subst hc; exact ti_add h1 h2
theorem ti_subc (a c : Int32) (n : Int) (hc : c.toInt = n) (h1 : -2147483648 ≤ a.toInt - n) (h2 : a.toInt - n < 2147483648) : (a - c).toInt = a.toInt - n := by
  subst hc; exact ti_sub h1 h2
theorem ti_mulc (a c : Int32) (n : Int) (hc : c.toInt = n) (h1 : -2147483648 ≤ n * a.toInt) (h2 : n * a.toInt < 2147483648) : (c * a).toInt = n * a.toInt := by
  subst hc; exact ti_mul h1 h2
theorem q_MetF {l : Launch} {y : MethodName} {ws ws' : List Cond} {rm : Room} {Pc : Array Value → State → Prop} {Qc : Array Value → State → Outcome → State → Prop} {mc ms : Nat} {free : Addr → Prop} {cc : ByteArray} {maxL : Nat} {ret : Option FieldType}
    (hy : plainFor y = true) (hw : ws = Cond.code y cc maxL ret :: ws')
    (body : ∀ p e s m args below meth c s₁, BodyLoose p l y (headSpec ws rm) cc maxL ret e s m args below meth c s₁ → c.maxLocals = maxL → Pc args s →
      W p l e (headSpec ws rm).room s m args below meth c s.heap [] 0 0 (MQ below Qc args s mc ms free) (entryFrame m args maxL)) : Met l y ws rm Pc Qc mc ms free := by
  refine MetFree.of_bodySF (code := cc) (maxLocals := maxL) (ret := ret) hy ?_ ?_
  · intro args s m h hn
    obtain ⟨meth, c, h1, h2, h3, h4, h5, h6, -, -⟩ := Cond.code_spec hn (atoms_spec (ws := ws) h _ (by rw [hw]; exact List.mem_cons_self))
    exact ⟨meth, c, h1, h2, h3, h4, h5, h6⟩
  · intro p e s m args below meth c s₁ B hml hP _
    have hh0 : s₁.heap = s.heap := by rw [B.state]; rfl
    obtain ⟨t, a1, o, b1, b2, b3⟩ := body p e s m args below meth c s₁ B hml hP s₁ hh0 (Stand.of_body B)
    exact ⟨t, o, a1, b1, b2, ⟨b3.1, b3.2⟩⟩
/-- the same, of a class some methods of which have laws of their own -/
theorem MC.ofF {l : Launch} {D : va_G} {tys : List (ClassId × FieldType)} {y : MethodName} {wsy ws' : List Cond} {fr lo : Nat} {av : List Value} {ws : va_W} {v : Option Value} {w1 : va_W} {cc : ByteArray} {maxL : Nat} {ret : Option FieldType} (own : String) (hown : y.cls = own) (hy : plainFor y = true) (hw : wsy = Cond.code y cc maxL ret :: ws') (hn : (lg_sl av).length ≤ maxL)
    (body : ∀ (p : Program) (e : Env) (s : State) (m : MethodId) (args : Array Value) (below : List Frame) (meth : Method) (c : Code) (A : Nat → Prop) (Q : State → Prop),
      Cx D tys p s m args c cc maxL wsy own A →
      (∀ (H : Heap) (locs : List Loc) (w : va_W) (pc : Nat) (ls : Array Slot) (st : List Value), HS D A s.heap w H locs → w = w1 → ((∃ x, st = [.int x] ∧ v = some (.int x) ∧ decode cc pc = .ok (.ireturn, 1) ∧ ((ret = some .int) ∨ (ret = some .boolean ∧ (x = 0 ∨ x = 1)) ∨ (∃ ty, ret = some ty ∧ narrow ty (.int x) = .int x))) ∨ (∃ x, st = [.long x] ∧ v = some (.long x) ∧ decode cc pc = .ok (.lreturn, 1) ∧ ret = some .long) ∨ (st = [] ∧ v = none ∧ decode cc pc = .ok (.return_, 1) ∧ ret = none) ∨ (∃ x rt, st = [x] ∧ v = some x ∧ decode cc pc = .ok (.areturn, 1) ∧ ret = some rt ∧ ((∃ n, rt = .object n) ∨ ∃ t, rt = .array t) ∧ (x = .null ∨ ∃ a, x = .ref a))) →
        W p l e { frames := fr, cells := 0, slots := 0, locals := lo } s m args below meth c H locs 0 0 Q (F0 m pc ls st)) →
      HS D A s.heap ws s.heap [] → ∀ ls : Array Slot, lv_has ls maxL (lv_args 0 av) → W p l e { frames := fr, cells := 0, slots := 0, locals := lo } s m args below meth c s.heap [] 0 0 Q (F0 m 0 ls [])) : MC l D tys y wsy fr lo av ws v w1 := by
  subst hown
  intro sz
  refine q_MetF (cc := cc) (maxL := maxL) (ret := ret) hy hw ?_
  intro p e s m args below meth c s₁ B hml hv
  obtain ⟨rfl, hsz, hP, hK, hD0, hN, hSt⟩ := hv
  have hr := B.returns
  have hlocks := B.notSynchronized
  subst hsz
  have hD := hD0.self (sz := s.heap.size)
  have hl := lv_entry av (n := maxL) hn
  rw [lg_entry_eq]
  refine body p e s m av.toArray below meth c (va_A ws s.heap.size) (MQ below (GQ D v w1 (va_A ws s.heap.size)) av.toArray s 0 0 (va_A ws s.heap.size)) ⟨B.exec, B.bytes, hml, findClass_of_methodNamed B.named, atoms_spec (ws := wsy) B.pre, hK, ⟨hN, hSt⟩, fun q h => Or.inr h⟩ ?_ ⟨hP, hD, va_S.rf⟩ _ hl
  intro H locs w pc ls st hh ew hcase
  subst ew
  have fin : ∀ t : State, t.heap = H → va_P D vwCl w t.heap ∧ va_D (va_A ws s.heap.size) w ∧ va_F (va_A ws s.heap.size) s t := fun t ht => ⟨by rw [ht]; exact hh.1, hh.2.1, hh.2.2.F ht⟩
  rcases hcase with ⟨x, rfl, hv, hdg, hx⟩ | ⟨x, rfl, hv, hdg, hx⟩ | ⟨rfl, hv, hdg, hx⟩ | ⟨x, rt, rfl, hv, hdg, hx, h1, h2⟩
  · rcases hx with hx | ⟨hx, hz⟩ | ⟨ty, hx, hz⟩
    · exact W.iret (v := x) B.exec B.bytes (hr.trans hx) (fun t ht _ => ⟨by rw [hv], fin t ht⟩) hh.2.2.2.2 hdg hlocks
    · refine W.zret (v := x) (ty := .boolean) B.exec B.bytes (hr.trans hx) ?_ (fun t ht _ => ⟨by rw [hv], fin t ht⟩) hh.2.2.2.2 hdg hlocks
      rcases hz with rfl | rfl <;> rfl
    · exact W.zret (v := x) (ty := ty) B.exec B.bytes (hr.trans hx) hz (fun t ht _ => ⟨by rw [hv], fin t ht⟩) hh.2.2.2.2 hdg hlocks
  · exact W.lret (v := x) B.exec B.bytes (hr.trans hx) (fun t ht _ => ⟨by rw [hv], fin t ht⟩) hh.2.2.2.2 hdg hlocks
  · exact W.vret B.exec B.bytes (hr.trans hx) (fun t ht _ => ⟨by rw [hv], fin t ht⟩) hh.2.2.2.2 hdg hlocks
  · exact W.aret (v := x) (rt := rt) B.exec B.bytes (hr.trans hx) h1 h2 (fun t ht _ => ⟨by rw [hv], fin t ht⟩) hh.2.2.2.2 hdg hlocks
