/-! constructors: contracts with new cells; their addresses come as a function -/
def AO (U : State) : Prop := va_AO "WrongClocks$Clock" U ∧ va_AO "WrongClocks$House" U
theorem AO.alike {u U : State} (h : u.vm.Alike U.vm) (hA : AO u) : AO U := ⟨va_AO.moved h hA.1, va_AO.moved h hA.2⟩
def GPI (D : va_G) (tys : List (ClassId × FieldType)) (sz : Nat) (av : List Value) (ws : va_W) : Array Value → State → Prop := fun v U => GP D tys sz av ws v U ∧ AO U
theorem GPI.blind {D : va_G} {tys : List (ClassId × FieldType)} {sz : Nat} {av : List Value} {ws : va_W} : FrameBlind (GPI D tys sz av ws) := fun a U g mk q => ⟨GP.blind a U g mk q.1, AO.alike (u := U) (U := U.calling g mk a) (Vm.Alike.refl U.vm) q.2⟩
def QI (D : va_G) (W1 : (Nat → Nat) → va_W) (A : Nat → Prop) : Array Value → State → Outcome → State → Prop := fun _ st oc t => oc = .returned none ∧ (∃ q : Nat → Nat, va_P D vwCl (W1 q) t.heap ∧ va_D A (W1 q)) ∧ va_F A st t
def MI (l : Launch) (D : va_G) (tys : List (ClassId × FieldType)) (y : MethodName) (wsy : List Cond) (fr lo mc ms : Nat) (av : List Value) (ws : va_W) (W1 : (Nat → Nat) → va_W) : Prop :=
  ∀ sz : Nat, Met l y wsy ({ frames := fr, cells := mc, slots := ms, locals := lo }) (GPI D tys sz av ws) (QI D W1 (va_A ws sz)) mc ms (va_A ws sz)
theorem MI.of {l : Launch} {D : va_G} {tys : List (ClassId × FieldType)} {y : MethodName} {wsy ws' : List Cond} {fr lo mc ms : Nat} {av : List Value} {ws : va_W} {W1 : (Nat → Nat) → va_W} {cc : ByteArray} {maxL : Nat} (own : String) (hown : y.cls = own) (hyn : y.name = "<init>") (hy : plainName y.cls = true) (hw : wsy = Cond.code y cc maxL none :: ws') (hn : (lg_sl av).length ≤ maxL)
    (body : ∀ (p : Program) (e : Env) (s : State) (m : MethodId) (args : Array Value) (below : List Frame) (meth : Method) (c : Code) (A : Nat → Prop) (Q : State → Prop),
      Cx D tys p s m args c cc maxL wsy own A → AO s → meth.name = "<init>" →
      (∀ (q : Nat → Nat) (H : Heap) (locs : List Loc) (pc : Nat) (ls : Array Slot), HS D A s.heap (W1 q) H locs → decode cc pc = .ok (.return_, 1) →
        W p l e { frames := fr, cells := mc, slots := ms, locals := lo } s m args below meth c H locs mc ms Q (F0 m pc ls [])) →
      HS D A s.heap ws s.heap [] → ∀ ls : Array Slot, lv_has ls maxL (lv_args 0 av) → W p l e { frames := fr, cells := mc, slots := ms, locals := lo } s m args below meth c s.heap [] 0 0 Q (F0 m 0 ls [])) : MI l D tys y wsy fr lo mc ms av ws W1 := by
  subst hown
  intro sz
  refine Met.ofW (cc := cc) (maxL := maxL) (ret := none) hy hw ?_
  intro p e s m args below meth c s₁ B hml hv
  obtain ⟨⟨rfl, hsz, hP, hK, hD0, hN, hSt⟩, hO⟩ := hv
  have hr := B.returns
  have hlocks := B.notSynchronized
  have hin : meth.name = y.name := (name_of_methodNamed B.named B.method).1
  subst hsz
  have hD := hD0.self (sz := s.heap.size)
  have hl := lv_entry av (n := maxL) hn
  rw [lg_entry_eq]
  refine body p e s m av.toArray below meth c (va_A ws s.heap.size) (MQ below (QI D W1 (va_A ws s.heap.size)) av.toArray s mc ms (va_A ws s.heap.size)) ⟨B.exec, B.bytes, hml, findClass_of_methodNamed B.named, atoms_spec (ws := wsy) B.pre, hK, ⟨hN, hSt⟩, fun q h => Or.inr h⟩ hO (hin.trans hyn) ?_ ⟨hP, hD, va_S.rf⟩ _ hl
  intro q H locs pc ls hh hdg
  exact W.vret B.exec B.bytes hr (fun t ht _ => ⟨rfl, ⟨q, by rw [ht]; exact hh.1, hh.2.1⟩, hh.2.2.F ht⟩) hh.2.2.2.2 hdg hlocks
theorem arrV_congr {cA : ClassId} {n : Nat} {f g : Nat → Value} (h : ∀ i, i < n → f i = g i) : arrV cA n f = arrV cA n g := by
  unfold arrV
  congr 1
  have e : (fun j : Fin n => f j.val) = fun j : Fin n => g j.val := funext fun j => h j.val j.isLt
  rw [e]
theorem HS.recell {D : va_G} {A : Nat → Prop} {H0 H : Heap} {locs : List Loc} {w w' : va_W} (k : Nat) {a : Nat} {cA : ClassId} {n : Nat} {f g : Nat → Option Nat} (hh : HS D A H0 w H locs) (hk : w[k]? = some (a, .inl (cA, n, .inr (.inr (.inr (.inr f)))))) (h : ∀ i, i < n → f i = g i) (hw : w.set k (a, .inl (cA, n, .inr (.inr (.inr (.inr g))))) = w') : HS D A H0 w' H locs := by
  subst hw
  refine ⟨hh.1.set hh.2.1 hk ?_ (fun _ _ => rfl), hh.2.1.set hk, hh.2.2⟩
  have e := hh.1 k _ hk
  show H[a]? = some (vp_cell cA (n, .inr (.inr (.inr (.inr g)))))
  have e2 : vp_cell cA (n, .inr (.inr (.inr (.inr g)))) = vp_cell cA (n, .inr (.inr (.inr (.inr f)))) := arrV_congr (f := fun j => va_rf (g j)) (g := fun j => va_rf (f j)) (fun i hi => by show va_rf (g i) = va_rf (f i); rw [h i hi])
  rw [e2]
  exact e
theorem HS.sub {D : va_G} {A : Nat → Prop} {H0 H : Heap} {locs : List Loc} {w w' : va_W} (is : List Nat) (hh : HS D A H0 w H locs) (h1 : is.map (fun i => w[i]?) = w'.map some) (hn : va_nd is = true) : HS D A H0 w' H locs := ⟨jn_P h1 D H hh.1, hh.2.1.sub is hn h1, hh.2.2⟩
section G3
variable {p : Program} {l : Launch} {e : Env} {R : Room} {s : State} {m : MethodId} {args : Array Value} {below : List Frame} {meth : Method} {c : Code} {H : Heap} {locs : List Loc} {cells slots : Nat} {Q : State → Prop}
variable {lvs : List (Nat × Value)} {cc : ByteArray} {pc nL : Nat} {ls : Array Slot} {rest : List Value} {D : va_G} {tys : List (ClassId × FieldType)} {A : Nat → Prop} {a : Nat} {w : va_W} {Ts : List Cond} {own : String}
theorem g_obj (C : Cx D tys p s m args c cc nL Ts own A) (hl : lv_has ls nL lvs) {idx : Nat} (h1 : Cond.methodLink own idx objectInit ∈ Ts) (h2 : Cond.instanceMethod objectInit ∈ Ts) (h3 : Cond.code objectInit ⟨#[0xb1]⟩ 1 none ∈ Ts) (hcat : (rest.map fun v => v.category).sum ≤ 8) (hfr : 1 ≤ R.frames) (hlo : 20 ≤ R.locals) (hdg : decode cc pc = .ok (.invokespecial idx, 3))
    (kk : W p l e R s m args below meth c H locs cells slots Q (F0 m (pc + 3) ls rest)) : W p l e R s m args below meth c H locs cells slots Q (F0 m pc ls (.ref a :: rest)) :=
  W.objInit C.1 C.2.1 C.2.2.2.1 (C.2.2.2.2.1 _ h1) (C.2.2.2.2.1 _ h2) (C.2.2.2.2.1 _ h3) rfl (by rw [C.2.2.1]; exact hl.1) rfl hdg hfr (by show 2 * 0 + _ + 12 ≤ _; omega) kk
theorem g_new (C : Cx D tys p s m args c cc nL Ts own A) (hh : HS D A s.heap w H locs) {CN : String} {T : u_T} {N ci index : Nat} (hin : ∀ x ∈ u_ws CN T N, x ∈ Ts) (ty : Nat → FieldType) (hty : ∀ k, k < N → parseFieldDescriptor (T k).2.2.1 = some (ty k)) (h1 : Cond.classLink own index CN ∈ Ts) (h2 : Cond.instantiable CN N ∈ Ts) (h3 : Cond.initialized CN ∈ Ts) (hc : vwCl[ci]? = some (CN, T, N)) {fs : List Value} (hfs : ∀ j, j < N → defaultValue (ty j) = vp_V fs j) {c2 s2 : Nat} (e1 : cells + 1 = c2) (e2 : slots + N = s2) (hcs : c2 ≤ R.cells ∧ s2 ≤ R.slots) (hdg : decode cc pc = .ok (.new index, 3))
    (kk : ∀ (q : Nat) (H1 : Heap), HS D A s.heap (w ++ [(q, .inr (ci, fs))]) H1 locs → W p l e R s m args below meth c H1 locs c2 s2 Q (F0 m (pc + 3) ls (.ref q :: rest))) : W p l e R s m args below meth c H locs cells slots Q (F0 m pc ls rest) := by
  subst e1; subst e2
  exact va_new C.1 C.2.1 C.2.2.2.2.1 hin ty hty C.2.2.2.1 (C.2.2.2.2.1 _ h1) (C.2.2.2.2.1 _ h2) (C.2.2.2.2.1 _ h3) C.2.2.2.2.2.1 hh.1 hh.2.1 hh.2.2 C.2.2.2.2.2.2.2 hc hfs hcs.1 hcs.2 hdg (fun q H1 g1 g2 g3 => kk q H1 ⟨g1, g2, g3⟩)
theorem g_newi (C : Cx D tys p s m args c cc nL Ts own A) (hh : HS D A s.heap w H locs) (h1 : Cond.arrayClass .int ∈ Ts) (t0 : Nat) {cI : ClassId} (ht : tys[t0]? = some (cI, .int)) {n : Int32} {N' : Nat} (hn : ¬ n < 0) (hN : n.toNatClampNeg = N') (hbytes : N' * 4 ≤ 536870912) {c2 s2 : Nat} (e1 : cells + 1 = c2) (e2 : slots + N' = s2) (hcs : c2 ≤ R.cells ∧ s2 ≤ R.slots) (hdg : decode cc pc = .ok (.newarray .int, 2))
    (kk : ∀ (q : Nat) (H1 : Heap), HS D A s.heap (w ++ [(q, .inl (cI, N', .inl (fun _ => 0)))]) H1 locs → W p l e R s m args below meth c H1 locs c2 s2 Q (F0 m (pc + 2) ls (.ref q :: rest))) : W p l e R s m args below meth c H locs cells slots Q (F0 m pc ls (.int n :: rest)) := by
  subst e1; subst e2
  refine va_newa (atype := .int) (a0 := (N', .inl (fun _ => 0))) C.1 C.2.1 (C.2.2.2.2.1 _ h1) rfl C.2.2.2.2.2.1 hh.1 hh.2.1 hh.2.2 C.2.2.2.2.2.2.2 (fun _ => rfl) hn hN hbytes hcs.1 hcs.2 hdg (fun q cA H1 gK g1 g2 g3 => ?_)
  have ea : cA = cI := by
    have k1 := (gK.2 tys.length (cA, .int) (by rw [List.getElem?_append_right (Nat.le_refl _), Nat.sub_self]; rfl)).2
    have k2 := (C.2.2.2.2.2.1.2 t0 _ ht).2
    exact Option.some.inj (k1.symm.trans k2)
  subst ea
  exact kk q H1 ⟨g1, g2, g3⟩
theorem g_newz (C : Cx D tys p s m args c cc nL Ts own A) (hh : HS D A s.heap w H locs) (h1 : Cond.arrayClass .boolean ∈ Ts) (t0 : Nat) {cI : ClassId} (ht : tys[t0]? = some (cI, .boolean)) {n : Int32} {N' : Nat} (hn : ¬ n < 0) (hN : n.toNatClampNeg = N') (hbytes : N' * 1 ≤ 536870912) {c2 s2 : Nat} (e1 : cells + 1 = c2) (e2 : slots + N' = s2) (hcs : c2 ≤ R.cells ∧ s2 ≤ R.slots) (hdg : decode cc pc = .ok (.newarray .boolean, 2))
    (kk : ∀ (q : Nat) (H1 : Heap), HS D A s.heap (w ++ [(q, .inl (cI, N', .inl (fun _ => 0)))]) H1 locs → W p l e R s m args below meth c H1 locs c2 s2 Q (F0 m (pc + 2) ls (.ref q :: rest))) : W p l e R s m args below meth c H locs cells slots Q (F0 m pc ls (.int n :: rest)) := by
  subst e1; subst e2
  refine va_newa (atype := .boolean) (a0 := (N', .inl (fun _ => 0))) C.1 C.2.1 (C.2.2.2.2.1 _ h1) rfl C.2.2.2.2.2.1 hh.1 hh.2.1 hh.2.2 C.2.2.2.2.2.2.2 (fun _ => rfl) hn hN hbytes hcs.1 hcs.2 hdg (fun q cA H1 gK g1 g2 g3 => ?_)
  have ea : cA = cI := by
    have k1 := (gK.2 tys.length (cA, .boolean) (by rw [List.getElem?_append_right (Nat.le_refl _), Nat.sub_self]; rfl)).2
    have k2 := (C.2.2.2.2.2.1.2 t0 _ ht).2
    exact Option.some.inj (k1.symm.trans k2)
  subst ea
  exact kk q H1 ⟨g1, g2, g3⟩
theorem g_newq (C : Cx D tys p s m args c cc nL Ts own A) (hh : HS D A s.heap w H locs) {CN : String} {index : Nat} (h1 : Cond.classLink own index CN ∈ Ts) (hover : va_AO CN s) (t0 : Nat) {cC : ClassId} (ht : tys[t0]? = some (cC, .object CN)) {n : Int32} {N' : Nat} (hn : ¬ n < 0) (hN : n.toNatClampNeg = N') (hbytes : N' * 4 ≤ 536870912) {c2 s2 : Nat} (e1 : cells + 1 = c2) (e2 : slots + N' = s2) (hcs : c2 ≤ R.cells ∧ s2 ≤ R.slots) (hdg : decode cc pc = .ok (.anewarray index, 3))
    (kk : ∀ (q : Nat) (H1 : Heap), HS D A s.heap (w ++ [(q, .inl (cC, N', .inr (.inr (.inr (.inr (fun _ => none))))))]) H1 locs → W p l e R s m args below meth c H1 locs c2 s2 Q (F0 m (pc + 3) ls (.ref q :: rest))) : W p l e R s m args below meth c H locs cells slots Q (F0 m pc ls (.int n :: rest)) := by
  subst e1; subst e2
  refine va_newq C.1 C.2.1 C.2.2.2.1 (C.2.2.2.2.1 _ h1) hover C.2.2.2.2.2.1 hh.1 hh.2.1 hh.2.2 C.2.2.2.2.2.2.2 hn hN hbytes hcs.1 hcs.2 hdg (fun q cA H1 gK g1 g2 g3 => ?_)
  have ea : cA = cC := by
    obtain ⟨_, _, _, _, _, k1⟩ := (gK.2 tys.length (cA, .object CN) (by rw [List.getElem?_append_right (Nat.le_refl _), Nat.sub_self]; rfl)).2
    obtain ⟨_, _, _, _, _, k2⟩ := (C.2.2.2.2.2.1.2 t0 _ ht).2
    exact Option.some.inj (k1.symm.trans k2)
  subst ea
  exact kk q H1 ⟨g1, g2, g3⟩
theorem g_putF (C : Cx D tys p s m args c cc nL Ts own A) (hin2 : meth.name = "<init>") (hh : HS D A s.heap w H locs) {CN : String} {T : u_T} {N ci index : Nat} (hin : ∀ x ∈ u_ws CN T N, x ∈ Ts) (ty0 : Nat → FieldType) (hty : ∀ k, k < N → parseFieldDescriptor (T k).2.2.1 = some (ty0 k)) (hnm : ∀ a, a < N → ∀ b, b < N → a ≠ b → (T a).2.1 ≠ (T b).2.1) (q0 : Nat) {fs fs' : List Value} (he : w[q0]? = some (a, .inr (ci, fs))) (hc : vwCl[ci]? = some (CN, T, N)) (k : Nat) (hk : k < N) {v : Value} (hfin : (T k).2.2.2 = true) (hdecl : (T k).1 = own) (hn : narrow (ty0 k) v = v) (hfit : fits (ty0 k) v = true) (hlen : k < fs.length) (hl : Cond.fieldLink own index (T k).1 (T k).2.1 (T k).2.2.1 ∈ Ts) {w' : va_W} (hs : fs.set k v = fs') (hw : w.set q0 (a, .inr (ci, fs')) = w') (hdg : decode cc pc = .ok (.putfield index, 3))
    (kk : ∀ (H1 : Heap) (locs1 : List Loc), HS D A s.heap w' H1 locs1 → W p l e R s m args below meth c H1 locs1 cells slots Q (F0 m (pc + 3) ls rest)) : W p l e R s m args below meth c H locs cells slots Q (F0 m pc ls (v :: .ref a :: rest)) := by
  subst hs; subst hw
  exact va_putF C.1 C.2.1 C.2.2.2.2.1 hin ty0 hty hnm C.2.2.2.1 C.2.2.2.2.2.1 hh.1 hh.2.1 hh.2.2 q0 he hc k hk (C.2.2.2.2.1 _ hl) (fun _ h => h) hfin hin2 hdecl (hty k hk) hn hfit hlen hdg (fun H1 locs1 g1 g2 g3 => kk H1 locs1 ⟨g1, g2, g3⟩)
theorem g_aast (C : Cx D tys p s m args c cc nL Ts own A) (hh : HS D A s.heap w H locs) (q0 t0 qk ci : Nat) {cA : ClassId} {r : vw_C} {n v : Nat} {vs : List Value} {f : Nat → Option Nat} (ha : w[q0]? = some (a, .inl (cA, n, .inr (.inr (.inr (.inr f)))))) (ht : tys[t0]? = some (cA, .object r.1)) (hv : w[qk]? = some (v, .inr (ci, vs))) (hc : vwCl[ci]? = some r) {i : Int32} (hin : vp_in i n) {k : Nat} (hik : i.toNatClampNeg = k) {w' : va_W} (hw : w.set q0 (a, .inl (cA, n, .inr (.inr (.inr (.inr (va_up f k (some v))))))) = w') (hdg : decode cc pc = .ok (.aastore, 1))
    (kk : ∀ (H1 : Heap) (locs1 : List Loc), HS D A s.heap w' H1 locs1 → W p l e R s m args below meth c H1 locs1 cells slots Q (F0 m (pc + 1) ls rest)) : W p l e R s m args below meth c H locs cells slots Q (F0 m pc ls (.ref v :: .int i :: .ref a :: rest)) := by
  subst hik; subst hw
  exact va_astq C.1 C.2.1 C.2.2.2.2.2.1 hh.1 hh.2.1 hh.2.2 q0 t0 qk ci ha ht hv hc hin hdg (fun H1 locs1 g1 g2 g3 => kk H1 locs1 ⟨g1, g2, g3⟩)
theorem g_finI {wr : va_W} {b ci mc ms : Nat} {fs : List Value} {W1 : (Nat → Nat) → va_W} {st0 : List Value} {av : Array Value} (isR : List Nat) (C : Cx D tys p s m args c cc nL Ts own A) (hh : HS D A s.heap (wr ++ [(b, .inr (ci, fs))]) H locs) (hR : isR.map (fun i => (wr ++ [(b, .inr (ci, fs))])[i]?) = wr.map some) (hnd : va_nd isR = true) (hlast : (wr ++ [(b, .inr (ci, fs))])[isR.length]? = some (b, .inr (ci, fs))) (hdis : ∀ i ∈ isR, i ∉ [isR.length])
    (hr : va_Run p l e R s m args below meth c H locs cells slots mc ms (F0 m pc ls st0) rest (QI D W1 (va_A [(b, .inr (ci, fs))] H.size) av) (va_A [(b, .inr (ci, fs))] H.size)) {c2 s2 : Nat} (e1 : cells + mc = c2) (e2 : slots + ms = s2)
    (kk : ∀ (q : Nat → Nat) (H1 : Heap) (locs1 : List Loc), HS D A s.heap (wr ++ W1 q) H1 locs1 → W p l e R s m args below meth c H1 locs1 c2 s2 Q (F0 m (pc + 3) ls rest)) : W p l e R s m args below meth c H locs cells slots Q (F0 m pc ls st0) := by
  subst e1; subst e2
  intro T hT X
  obtain ⟨v', st₀, t, T', L, h0, X', hL, z1, z2, ⟨hv, ⟨q, hP1, hD1⟩, hz, hk⟩, st⟩ := hr T hT X
  have hv' : v' = none := by injection hv
  subst hv'
  rw [h0] at hz hk
  obtain ⟨hP, hD, hS⟩ := hh
  have hA := C.2.2.2.2.2.2.2
  have hF : ∀ x, va_A [(b, .inr (ci, fs))] H.size x → A x := fun x hx => by
    rcases hx with ⟨k, y, hx⟩ | hx
    · have : k = 0 := by
        have := (List.getElem?_eq_some_iff.mp hx).1
        simpa using this
      subst this
      have e : x = b := by
        have := Option.some.inj hx
        exact (congrArg Prod.fst this).symm
      subst e
      exact hD.2 _ _ hlast
    · exact hA x (Nat.le_trans hS.1 hx)
  obtain ⟨g1, g2⟩ := va_join (wc := [(b, .inr (ci, fs))]) (w1 := W1 q) hP hD [isR.length] isR (by simp only [List.map_cons, List.map_nil]; rw [hlast]) hR hnd hdis hk hF hP1 hD1
  obtain ⟨t2, a1, b1⟩ := kk q T'.heap (locs ++ L) ⟨by rw [z1]; exact g1, g2, Nat.le_trans hS.1 (by rw [z1]; exact hz), fun x h1 h2 => by rw [z1, hk x (Nat.lt_of_lt_of_le h1 hS.1) (fun z => h2 (hF x z))]; exact hS.2.1 x h1 h2, fun x hx => by
      rcases List.mem_append.mp hx with h | h
      · exact hS.2.2 x h
      · exact hF _ (hL x h)⟩ T' rfl X'
  exact ⟨t2, st t2 a1, b1⟩
theorem g_preI {wr : va_W} {b ci : Nat} {fs : List Value} {k : Nat} {av : List Value} (C : Cx D tys p s m args c cc nL Ts own A) (hO : AO s) (hh : HS D A s.heap (wr ++ [(b, .inr (ci, fs))]) H locs) (hlast : (wr ++ [(b, .inr (ci, fs))])[k]? = some (b, .inr (ci, fs))) : ∀ U : State, U.heap = H → s.WarmedH U.vm → GPI D tys H.size av [(b, .inr (ci, fs))] av.toArray U := fun U hU hW => by
  have hj : [k].map (fun i => (wr ++ [(b, .inr (ci, fs))])[i]?) = [(b, .inr (ci, fs))].map some := by simp only [List.map_cons, List.map_nil]; rw [hlast]
  refine ⟨⟨rfl, by rw [hU], by rw [hU]; exact jn_P hj D H hh.1, va_K.moved hW.alike C.2.2.2.2.2.1, (hh.2.1.sub [k] rfl hj).weaken (fun _ _ _ _ => trivial), NW.warm hW C.2.2.2.2.2.2.1.1, ?_⟩, AO.alike hW.alike hO⟩
  rw [hU]
  refine SP.warm hW hh.2.2.2.1 (fun q hq => ?_) C.2.2.2.2.2.2.1.2
  rcases hq with ⟨i, x, hq⟩ | hq
  · exact (hh.2.1.sub [k] rfl hj).2 i (q, x) hq
  · exact C.2.2.2.2.2.2.2 q (Nat.le_trans hh.2.2.1 hq)
/-- a constructor that is called -/
theorem g_callI {wr : va_W} {b ci mc ms : Nat} {fs : List Value} {W1 : (Nat → Nat) → va_W} {y : MethodName} {wsy ws' : List Cond} {fr lo fr2 lo2 maxL index : Nat} {bytes : ByteArray} (isR : List Nat) (C : Cx D tys p s m args c cc nL Ts own A) (hO : AO s) (hR : R = { frames := fr2, cells := R.cells, slots := R.slots, locals := lo2 }) {c2 s2 : Nat} (e1 : cells + mc = c2) (e2 : slots + ms = s2) (hcs : c2 ≤ R.cells ∧ s2 ≤ R.slots) (hh : HS D A s.heap (wr ++ [(b, .inr (ci, fs))]) H locs) (hl : lv_has ls nL lvs) (hM : MI l D tys y wsy fr lo mc ms [.ref b] [(b, .inr (ci, fs))] W1)
    (hRs : isR.map (fun i => (wr ++ [(b, .inr (ci, fs))])[i]?) = wr.map some) (hnd : va_nd isR = true) (hlast : (wr ++ [(b, .inr (ci, fs))])[isR.length]? = some (b, .inr (ci, fs))) (hdis : ∀ i ∈ isR, i ∉ [isR.length])
    (hG : GoodIn Ts wsy) (hw : wsy = Cond.code y bytes maxL none :: ws') (hini : Cond.initialized y.cls ∈ Ts) (hli : Cond.methodLink own index y ∈ Ts) (hins : Cond.instanceMethod y ∈ Ts) (hy1 : y.name = "<init>") (hd : y.cls ≠ "java/lang/invoke/MethodHandle" ∧ y.cls ≠ "java/lang/invoke/VarHandle" ∧ (parseMethodDescriptor y.desc).map (fun d => d.parameters.length) = some 0) (hRR : fr + 1 ≤ fr2 ∧ 8 + (maxL + 11) + lo ≤ lo2)
    (hcat : (rest.map fun v => v.category).sum ≤ 8) (hdg : decode cc pc = .ok (.invokespecial index, 3))
    (kk : ∀ (q : Nat → Nat) (H1 : Heap) (locs1 : List Loc), HS D A s.heap (wr ++ W1 q) H1 locs1 → W p l e R s m args below meth c H1 locs1 c2 s2 Q (F0 m (pc + 3) ls rest)) : W p l e R s m args below meth c H locs cells slots Q (F0 m pc ls (.ref b :: rest)) := by
  have hR2 : fr2 = R.frames ∧ lo2 = R.locals := by rw [hR]; exact ⟨rfl, rfl⟩
  obtain ⟨rfl, rfl⟩ := hR2
  exact g_finI isR C hh hRs hnd hlast hdis (va_runI (As := []) (rest := rest) (g_fix C) (hM H.size) (cwI 0 C.2.2.2.2.1 hG hw rfl rfl (C.2.2.2.2.1 _ hini) (C.2.2.2.2.1 _ hli) (C.2.2.2.2.1 _ hins) hy1 hd hRR) ⟨GPI.blind, g_preI C hO hh hlast⟩ rfl rfl hl.1 rfl (lv_room hcat) hdg (by rw [e1, e2]; exact hcs)) e1 e2 kk
/-- the same, a nest mate's private one -/
theorem g_callIN {wr : va_W} {b ci mc ms : Nat} {fs : List Value} {W1 : (Nat → Nat) → va_W} {y : MethodName} {host : String} {wsy ws' : List Cond} {fr lo fr2 lo2 maxL index : Nat} {bytes : ByteArray} (isR : List Nat) (C : Cx D tys p s m args c cc nL Ts own A) (hO : AO s) (hR : R = { frames := fr2, cells := R.cells, slots := R.slots, locals := lo2 }) {c2 s2 : Nat} (e1 : cells + mc = c2) (e2 : slots + ms = s2) (hcs : c2 ≤ R.cells ∧ s2 ≤ R.slots) (hh : HS D A s.heap (wr ++ [(b, .inr (ci, fs))]) H locs) (hl : lv_has ls nL lvs) (hM : MI l D tys y wsy fr lo mc ms [.ref b] [(b, .inr (ci, fs))] W1)
    (hRs : isR.map (fun i => (wr ++ [(b, .inr (ci, fs))])[i]?) = wr.map some) (hnd : va_nd isR = true) (hlast : (wr ++ [(b, .inr (ci, fs))])[isR.length]? = some (b, .inr (ci, fs))) (hdis : ∀ i ∈ isR, i ∉ [isR.length])
    (hG : GoodIn Ts wsy) (hw : wsy = Cond.code y bytes maxL none :: ws') (hnw : (own, index, y, host) ∈ nw_l) (hini : Cond.initialized y.cls ∈ Ts) (hins : Cond.instanceMethod y ∈ Ts) (hy1 : y.name = "<init>") (hd : y.cls ≠ "java/lang/invoke/MethodHandle" ∧ y.cls ≠ "java/lang/invoke/VarHandle" ∧ (parseMethodDescriptor y.desc).map (fun d => d.parameters.length) = some 0) (hRR : fr + 1 ≤ fr2 ∧ 8 + (maxL + 11) + lo ≤ lo2)
    (hcat : (rest.map fun v => v.category).sum ≤ 8) (hdg : decode cc pc = .ok (.invokespecial index, 3))
    (kk : ∀ (q : Nat → Nat) (H1 : Heap) (locs1 : List Loc), HS D A s.heap (wr ++ W1 q) H1 locs1 → W p l e R s m args below meth c H1 locs1 c2 s2 Q (F0 m (pc + 3) ls rest)) : W p l e R s m args below meth c H locs cells slots Q (F0 m pc ls (.ref b :: rest)) := by
  have hR2 : fr2 = R.frames ∧ lo2 = R.locals := by rw [hR]; exact ⟨rfl, rfl⟩
  obtain ⟨rfl, rfl⟩ := hR2
  exact g_finI isR C hh hRs hnd hlast hdis (va_runIN (As := []) (rest := rest) (g_fix C) (hM H.size) ⟨va_cnB 0 C.2.2.2.2.1 hG hw rfl rfl (C.2.2.2.2.2.2.1.1 _ hnw) (C.2.2.2.2.1 _ hini) hd hRR, hy1, C.2.2.2.2.1 _ hins⟩ ⟨GPI.blind, g_preI C hO hh hlast⟩ rfl rfl hl.1 rfl (lv_room hcat) hdg (by rw [e1, e2]; exact hcs)) e1 e2 kk
end G3
