/-! THE CLAIM OUT OF ONE WALK OF THE LAW'S BODY. Your part is whole_start (and what it stands on); all else here is the same for every law, but numbers. -/
def R_law : String := "PuntYardLaw"
def lw_P (b : Addr) (xs : List Int32) (args : Array Value) (s : State) : Prop := args = #[.ref b] ∧ s.IntsAt b xs ∧ xs.length ≤ 3072 ∧ (Jvm.Cond.and given_1 narrow_1).before args s = true
def lw_Q (_ : Array Value) (s : State) (o : Outcome) (t : State) : Prop := o = .returned (some (.int 1)) ∧ Framed s o t [] 600000 7302250
def lw_Z (below : List Frame) (a : Array Value) (s : State) : State → Prop := fun t => ∃ o, t.status = .running ∧ Ended t below o ∧ lw_Q a s o t
/-- the law's own end, with 1 on the stack, nothing written that was there before, its room as the claim has it -/
theorem lw_ret {p : Program} {l : Launch} {e : Env} {s : State} {m : MethodId} {below : List Frame} {meth : Method} {c : Code} {b : Nat} (hx : p.tables.exec = Jvm.exec) (hb : c.code = code) (hr : meth.sig.returnType = ret) (hlocks : meth.locks = false) {pc : Nat} {H : Heap} {ls : Array Slot} (hdg : decode code pc = .ok (.ireturn, 1)) : W p l e room_1 s m #[Value.ref b] below meth c H [] 600000 7302250 (lw_Z below #[Value.ref b] s) (F0 m pc ls [.int 1]) := by
  intro T hT X
  obtain ⟨fs, hret, hrun, hended, hW, hframe⟩ := X.leave (v := some (.int 1)) (hlocks := hlocks) (fun h => by rw [hr] at h; cases h)
  have hmeth' : T.vm.method? m = some meth := X.method'
  refine ⟨T.setFrames fs, ?_, .returned (some (.int 1)), hrun, hended, rfl, ⟨_, rfl⟩, hW, hframe⟩
  jvm_step X.here [X.here.top, hx, hb, hdg, hmeth', hr, ret, narrow_b1]
  (try refine ⟨rfl, ?_⟩); (try refine ⟨rfl, ?_⟩)
  first | (intro acts; rw [hret _ acts rfl rfl rfl]) | rw [hret _ _ rfl rfl rfl]
  exact Steps.refl _
/-- what holds at the law's entry: the machine, the code, the tables' words (any of lw_tbl by 'hts w (by decide +kernel)'), the script of L ints xs at the cell b, what the Statement gives of the start (any of its parts by flat_of_before) -/
def lw_At (p : Program) (s : State) (m : MethodId) (meth : Method) (c : Code) (b L : Nat) (xs : Nat → Int32) : Prop :=
  p.tables.exec = Jvm.exec ∧ c.code = code ∧ meth.sig.returnType = ret ∧ c.maxLocals = 4 ∧ s.vm.findClass R_law = some m.cls ∧ (∀ w ∈ lw_tbl, w.before #[Value.ref b] s = true) ∧ va_X b L xs s s.heap ∧ b < s.heap.size ∧ meth.locks = false ∧ (Jvm.Cond.and given_1 narrow_1).before #[Value.ref b] s = true
theorem inTbl {w : Cond} (h : w ∈ lwG) : w ∈ lw_tbl := (List.mem_filter.mp h).1
theorem tbl_at {w : Cond} (i : Nat) (h : lw_tbl[i]? = some w) : w ∈ lw_tbl := List.mem_of_getElem? h
theorem fl_at {w : Cond} (i : Nat) (h : (flatC (Jvm.Cond.and given_1 narrow_1))[i]? = some w) : w ∈ flatC (Jvm.Cond.and given_1 narrow_1) := List.mem_of_getElem? h
theorem fl_el : ∀ j, j < 184 → (flatC (Jvm.Cond.and given_1 narrow_1))[39 + j]? = some (Cond.eq (.elem (.field (.string RX6 79) "java/lang/String" "value" "[B") (.int (Int32.ofNat j))) (.int (([wordsB].getD 0 []).getD j 0))) := by decide +kernel
/-- arrays of a primitive type, as the tables have them -/
theorem arr_prim {args : Array Value} {s : State} {ty : FieldType} (h : (Cond.arrayClass ty).before args s = true) : ∃ cA : ClassId, ArrOfT s cA ty ∧ s.vm.findClass ("[" ++ ty.toString) = some cA := by
  obtain ⟨cA, kA, comp, h1, h2, h3⟩ := Cond.arrayClass_spec h
  exact ⟨cA, fun n z => ⟨fun k h => (by cases h), kA, h2, comp, h3⟩, h1⟩
theorem arr_ref {args : Array Value} {s : State} {C : String} (h : (Cond.arrayOver (.object C)).before args s = true) : ∃ cA : ClassId, ArrOfT s cA (.object C) ∧ va_RA s cA (.object C) := by
  obtain ⟨comp, cA, kA, h1, h2, h3, h4, h5⟩ := Cond.arrayOver_spec h
  exact ⟨cA, fun n z => ⟨fun k h => (by cases h), kA, h3, comp, h4⟩, kA, comp, h3, h4, h1, h5⟩
def dAs (a b c d e f : ClassId) : Nat → ClassId
  | 0 => a
  | 1 => b
  | 2 => c
  | 3 => d
  | 4 => e
  | _ => f
theorem known {args : Array Value} {s : State} (hts : ∀ w ∈ lw_tbl, w.before args s = true) : ∃ (D : va_G) (dA : Nat → ClassId), va_K D clT (tysA dA) s := by
  have h0 : ∀ ci : Nat, ∃ q : ClassId × (Nat → Nat), ∀ r : vw_C, clT[ci]? = some r → u_Kn s r.1 r.2.1 r.2.2 q.1 q.2 := by
    intro ci
    cases e : clT[ci]? with
    | none => exact ⟨(0, fun _ => 0), fun r hr => by cases hr⟩
    | some r =>
      obtain ⟨C, T, N⟩ := r
      obtain ⟨⟨k1, -, -, k2, -⟩, -⟩ := clT_ok e
      obtain ⟨cC, iS, h⟩ := u_known (n := N) hts (fun w hw => inTbl (k1 w hw)) (hts _ (inTbl k2))
      exact ⟨(cC, iS), fun r hr => by cases hr; exact h⟩
  obtain ⟨g, hg⟩ := Classical.axiomOfChoice h0
  obtain ⟨a, a1, a2⟩ := arr_prim (hts _ (tbl_at (w := Cond.arrayClass .int) 175 (by decide +kernel)))
  obtain ⟨b, b1, b2⟩ := arr_prim (hts _ (tbl_at (w := Cond.arrayClass .byte) 839 (by decide +kernel)))
  obtain ⟨c, c1, c2⟩ := arr_prim (hts _ (tbl_at (w := Cond.arrayClass .boolean) 1792 (by decide +kernel)))
  obtain ⟨d, d1, d2⟩ := arr_prim (hts _ (tbl_at (w := Cond.arrayClass .long) 426 (by decide +kernel)))
  obtain ⟨e, e1, e2⟩ := arr_ref (hts _ (tbl_at (w := Cond.arrayOver (.object RX5)) 177 (by decide +kernel)))
  obtain ⟨f, f1, f2⟩ := arr_ref (hts _ (tbl_at (w := Cond.arrayOver (.object RX9)) 557 (by decide +kernel)))
  refine ⟨(fun ci => (g ci).1, fun ci => (g ci).2), dAs a b c d e f, fun ci r hr => hg ci r hr, fun k q hq => ?_⟩
  match k, hq with
  | 0, hq => cases hq; exact ⟨a1, a2⟩
  | 1, hq => cases hq; exact ⟨b1, b2⟩
  | 2, hq => cases hq; exact ⟨c1, c2⟩
  | 3, hq => cases hq; exact ⟨d1, d2⟩
  | 4, hq => cases hq; exact ⟨e1, e2⟩
  | 5, hq => cases hq; exact ⟨f1, f2⟩
  | k + 6, hq => simp [tysA] at hq
theorem ex_start {args : Array Value} {s : State} (hts : ∀ w ∈ lw_tbl, w.before args s = true) (hgv : (Jvm.Cond.and given_1 narrow_1).before args s = true) : ∃ strA : Nat, Ex s.heap.size strA s := by
  have hA : ∀ a : Nat, a < s.heap.size → ¬ s.heap.size ≤ a := fun a h => Nat.not_le.mpr h
  have fl := flat_of_before _ hgv
  obtain ⟨adK, adV, hS, hev⟩ := vk_Sof (args := args) (s := s) (N := 1) (tm := fun _ => Term.string RX6 79) (len := [184]) (byt := [wordsB]) (A := fun q => s.heap.size ≤ q)
    (fun i hi => by rw [show i = 0 by omega]; decide)
    (fun i hi => fl _ (fl_at 35 (by decide +kernel)))
    (fun i hi => fl _ (fl_at 36 (by decide +kernel)))
    (fun i hi => fl _ (fl_at 37 (by decide +kernel)))
    (fun i hi => by rw [show i = 0 by omega]; exact fl _ (fl_at 38 (by decide +kernel)))
    (fun i hi j hj => by
      have e0 : i = 0 := by omega
      subst e0
      exact fl _ (fl_at (39 + j) (fl_el j hj)))
    (fun i j hi hj h => absurd (show i = j by omega) h) hA
  refine ⟨adK 0, va_Nw.of rfl (hts _ (tbl_at (w := .fieldLinkNest "PuntYard$Bill" 9 "PuntYard$View" "book" "LPuntYard$Book;" "PuntYard") 565 (by decide +kernel))), va_AO.of (A := args) (hts _ (tbl_at (w := Cond.arrayOver (.object RX5)) 177 (by decide +kernel))), va_AO.of (A := args) (hts _ (tbl_at (w := Cond.arrayOver (.object RX9)) 557 (by decide +kernel))), vk_R.of (A := args) (hts _ (tbl_at 732 (by decide +kernel))) (hev 0 (by decide)), ⟨adV 0, ?_⟩, va_Zof (hts _ (tbl_at (w := .laysStatic "java/lang/String" "COMPACT_STRINGS" "Z") 742 (by decide +kernel))) (hts _ (inTbl iStr)) (va_eqi (fl _ (fl_at 4 (by decide +kernel)))) hA, va_Zqof (hts _ (tbl_at (w := .laysStatic "jdk/internal/util/Preconditions" "SIOOBE_FORMATTER" "Ljava/util/function/BiFunction;") 750 (by decide +kernel))) (hts _ (tbl_at (w := .initialized "jdk/internal/util/Preconditions") 137 (by decide +kernel))) (fl _ (fl_at 5 (by decide +kernel))) hA⟩
  refine ⟨fun i hi => ?_, fun i j hi hj _ => by omega⟩
  have e0 : i = 0 := by omega
  subst e0
  exact hS.1 0 (by decide)
theorem whole_start {p : Program} {e : Env} {s : State} {m : MethodId} {below : List Frame} {meth : Method} {c : Code} (l : Launch) (hflags : l.flags = flags0) {b L : Nat} {xs : Nat → Int32} (hL : L ≤ 3072) (C0 : lw_At p s m meth c b L xs) : W p l e room_1 s m #[Value.ref b] below meth c s.heap [] 0 0 (lw_Z below #[Value.ref b] s) (entryFrame m ([Value.ref b] : List Value).toArray 4) := by
  obtain ⟨hx, hb, hr, hml, hown, hts, hX, hbl, hlocks, hgv⟩ := id C0
  obtain ⟨D, dA, hK⟩ := known hts
  obtain ⟨strA, hEx⟩ := ex_start hts hgv
  obtain ⟨ad0, had0⟩ : ∃ ad0 : Nat → Nat → Nat, ad0 = fun t _ => if t = 98 then strA else b := ⟨_, rfl⟩
  have a98 : ad0 98 0 = strA := by rw [had0]; exact if_pos rfl
  have a99 : ∀ n, ad0 99 n = b := fun n => by rw [had0]; exact if_neg (by decide)
  have F : Fix p s m #[Value.ref b] c code 4 "PuntYardLaw" lw_tbl D dA s.heap.size ad0 := ⟨hx, hb, hml, hown, hts, fun w hw => inTbl hw, hK, Nat.le_refl _, by rw [a98]; exact hEx⟩
  obtain ⟨h, ⟨N, hN⟩, c1, c2⟩ := law_run (l := l) (L := L) (scr := xs) (fun _ _ _ _ _ _ => ch_ok) hL
  obtain ⟨-, -, -, fr⟩ := sem_ok (l := l) (own := "PuntYardLaw") (ini := false) (law := true) (cc := code) (nL := 4) (L := L) (scr := xs) (d := 40) (mt := mtb) (bs := B_Law0_law) (cs := C_Law0_law) (ret := some .boolean) mt_ok (evM_ok mt_ok mt_ck (fun _ _ _ _ _ => ch_ok) 40) ch_ok law_ck N 0 _ _ mh0 (some (vI 1), h) inv0 hN
  cases eb : B_Law0_law[0]? with
  | none => exact absurd eb (by decide)
  | some q =>
    have q0 : q.1 = 0 := by
      have := congrArg (Option.map Prod.fst) eb
      exact Option.some.inj (this.symm.trans (show Option.map Prod.fst B_Law0_law[0]? = some 0 from rfl))
    have kr : ∀ (pc : Nat) (lo : List (Option MV)) (ins : Instr), decode code pc = .ok (ins, 1) → retI (some .boolean) ins (some (vI 1)) → AtW p l e room_1 s m #[Value.ref b] below meth c (lw_Z below #[Value.ref b] s) 4 D dA s.heap.size ad0 mh0 pc lo [vI 1] h := by
      intro pc lo ins hd hri H locs cells slots ad ls S
      have hi : ins = .ireturn := by
        rcases hri with ⟨hi, -⟩ | ⟨hi, -⟩ | ⟨-, hr, -⟩ | ⟨-, ⟨n, hr⟩, -⟩ | ⟨-, hr, -⟩
        · exact hi
        · exact hi
        · cases hr
        · cases hr
        · cases hr
      subst hi
      have n1 : cells + 0 = hc h := S.2.2.2.2.2.2.1.1
      have n2 : slots + 0 = hs h := S.2.2.2.2.2.2.1.2
      exact va_forget S.2.2.1.2.2 (W.widen (k := 600000) (n := 7302250) (by omega) (by omega) (lw_ret hx hb hr hlocks hd))
    have key := fr (below := below) (meth := meth) (e := e) (R := room_1) (Q := lw_Z below #[Value.ref b] s) (h0 := mh0) F (fun z => by cases z) (fun _ => ⟨b, hX, hbl, a99⟩) ⟨by decide, by decide⟩ ⟨Nat.le_trans c1 (Nat.le_add_left _ _), Nat.le_trans c2 (Nat.le_add_left _ _)⟩ kr q eb
    rw [q0] at key
    rw [lg_entry_eq]
    have hloc := ent_loc (nL := 4) (as := [vR 99 0]) (ad := ad0) (by decide)
    have est : ([vR 99 0] : List MV).map (rv ad0) = [.ref b] := by
      show [Value.ref (ad0 99 0)] = _
      rw [a99]
    rw [est] at hloc
    exact key s.heap [] 0 0 ad0 _ ⟨⟨[], fun k q hq => (by simp at hq), ⟨fun i j p q hp => (by simp at hp), fun k q hq => (by simp at hq)⟩, fun _ _ hn => absurd hn (Nat.not_lt_zero _), fun _ _ _ _ hn => absurd hn (Nat.not_lt_zero _)⟩, wf0, va_S.rf, hloc, trivial, inv0.2.2, ⟨rfl, rfl⟩, fun _ _ _ => rfl, fun _ => Nat.le_refl _⟩
set_option maxHeartbeats 4000000 in
theorem lw_walk (l : Launch) (hflags : l.flags = flags0) (b : Addr) (xs : List Int32) : MetFree l x (headSpec (Jvm.Cond.code x code maxLocals ret :: tables_1) room_1) (lw_P b xs) (fun _ _ _ _ _ => True) lw_Q := by
  refine MetFree.of_bodyS (code := code) (maxLocals := maxLocals) (ret := ret) (by decide) ?_ ?_
  · intro args s m h hn
    obtain ⟨meth, c, h1, h2, h3, h4, h5, h6, -, -⟩ := Cond.code_spec hn (atoms_spec (ws := Jvm.Cond.code x code maxLocals ret :: tables_1) h _ List.mem_cons_self)
    exact ⟨meth, c, h1, h2, h3, h4, h5, h6⟩
  · intro p e s m args below meth c s₁ B hml0 hP _
    obtain ⟨rfl, hx, hbd, hgv⟩ := hP
    obtain ⟨scr, harrAt, hlist, hof, hsmall⟩ := hx
    obtain ⟨hcb, hkn, -, -⟩ := State.arrayAt?_spec harrAt
    have hown : s.vm.findClass R_law = some m.cls := findClass_of_methodNamed B.named
    have hts0 : ∀ c ∈ (Jvm.Cond.code x code maxLocals ret :: tables_1), c.before #[Value.ref b] s = true := atoms_spec (ws := Jvm.Cond.code x code maxLocals ret :: tables_1) B.pre
    have hts : ∀ w ∈ lw_tbl, w.before #[Value.ref b] s = true := k2_hts_sels lw_privs (fun w hw => hts0 w (List.mem_cons_of_mem _ hw)) lw_privs_ok
    have hml : c.maxLocals = 4 := B.maxLocals_eq (hts0 _ List.mem_cons_self)
    have X₀ : Stand p l e room_1 s m #[Value.ref b] below meth c s₁ [] 0 0 := Stand.of_body B
    have hh0 : s₁.heap = s.heap := by rw [B.state]; rfl
    have hsz : scr.slots.size = xs.length := by rw [← Array.length_toList, hlist, List.length_map]
    have hval : ∀ j : Nat, j < xs.length → scr.slots[j]? = some (.int (xs.getD j 0)) := fun j hj => by
      rw [← Array.getElem?_toList, hlist]
      simp [hj]
    have hbl : b < s.heap.size := (Array.getElem?_eq_some_iff.mp hcb).1
    have hX : va_X b xs.length (fun j => xs.getD j 0) s s.heap := ⟨scr, hcb, hof, hkn, hsz, hval⟩
    have K : W p l e room_1 s m #[Value.ref b] below meth c s₁.heap [] 0 0 (lw_Z below #[Value.ref b] s) (entryFrame m ([Value.ref b] : List Value).toArray 4) := by
      rw [hh0]
      exact whole_start l hflags hbd ⟨B.exec, B.bytes, B.returns, hml, hown, hts, hX, hbl, B.notSynchronized, hgv⟩
    obtain ⟨t, a1, o, b1, b2, b3⟩ := K s₁ rfl X₀
    exact ⟨t, o, a1, b1, b2, b3⟩
theorem lw_pre_spec {args : Array Value} {s : State} (h : (Jvm.Cond.and given_1 narrow_1).before args s = true) (hr : rest_1_c.before args s = true) : ∃ (b : Addr) (xs : List Int32), lw_P b xs args s := by
  have hs := flat_of_before _ h
  have hq := flat_of_before _ hr
  have hc : (Cond.count 1).before args s = true := hs _ (by decide +kernel)
  have harr : (Cond.arrayOf (.arg 0) .int).before args s = true := hs _ (by decide +kernel)
  have hle : (Cond.le (.length (.arg 0)) (.int 3072)).before args s = true := hs _ (by decide +kernel)
  have hlen : (Cond.isInt (.length (.arg 0))).before args s = true := hq _ (by decide +kernel)
  have hall : (Cond.all (.arg 0) (.isInt (.elem (.arg 0) (.index 0)))).before args s = true := hq _ (by decide +kernel)
  obtain ⟨b, xs, hb, hx⟩ := State.ints_of_pre rfl harr hlen hall
  have hsm : xs.length < 2 ^ 31 := hx.choose_spec.2.2.2
  have hev : (Term.length (.arg 0)).eval args s none [] s = some (.int xs.length.toInt32) := hx.length_eval hb
  have hv := Cond.le_ints hev (show (Term.int 3072).eval args s none [] s = some (.int 3072) from rfl)
  have hd : xs.length.toInt32 ≤ 3072 := by
    simpa [Cond.before, Cond.holds, hv] using hle
  have hN : xs.length ≤ 3072 := (Int32.ofNat_le_ofNat hsm (by decide)).mp (show Int32.ofNat xs.length ≤ Int32.ofNat 3072 from hd)
  exact ⟨b, xs, Cond.one_arg hc (show args[0]? = some (.ref b) from hb), hx, hN, h⟩
theorem lw_comes (l : Launch) (hflags : l.flags = flags0) : Comes l x (Jvm.Cond.code x code maxLocals ret :: tables_1) room_1 (fun tb e args s => Calls_1 tb e args s ∧ rest_1 tb e args s ∧ Pre_1 tb e args s)
    (fun _ _ args s o t => lw_Q args s o t) := by
  intro p e ha hc hk s m args below hf hfit hheap happ hpre
  obtain ⟨b, xs, hP⟩ := lw_pre_spec hpre.2.2 hpre.2.1
  obtain ⟨k, o, h1, h2, h3, hQ⟩ := lw_walk l hflags b xs p e ha hc hk s m args below hf ((Spec.applies_iff_loose hf).mp happ).1 hP trivial
  exact ⟨k, o, h1, h2, h3, hQ⟩
theorem lw_frame {s t : State} {o : Outcome} {args : Array Value} (h : Framed s o t [] 600000 7302250) :
    Framed s o t (fieldLocs frame_1_writes args s ++ arrayLocs frame_1_arrays args s ++ staticLocs frame_1_statics s) 600000 7302250 := h
theorem lw_limb (L : Cond) (hL : ∀ (args : Array Value) (s t : State), L.after args s (.returned (some (.int 1))) t = true) :
    ArmFor flags0 classFile x code maxLocals ret World_1 tables_1 room_1 Calls_1 rest_1 Pre_1
      (fun tb e a s o t => postC L tb e a s o t ∧ Framed s o t (fieldLocs frame_1_writes a s ++ arrayLocs frame_1_arrays a s ++ staticLocs frame_1_statics s) 600000 7302250) := by
  intro l hflags _ _ p e ha hc hk s m args below hf hfit hheap happ hpre
  obtain ⟨k, o, h1, h2, h3, rfl, hF⟩ := lw_comes l hflags p e ha hc hk s m args below hf hfit hheap happ hpre
  exact ⟨k, _, h1, h2, h3, hL args s _, lw_frame hF⟩
theorem i_vc : Claimed_1_1 ∧ Claimed_1_2 := ⟨lw_limb limb_1_1 (fun args s t => by simp [limb_1_1, Cond.after, Cond.holds, Cond.value]), lw_limb limb_1_2 (fun args s t => Cond.after_iff.mpr (by
  first | (rw [show limb_1_2 = Cond.eq .result (.int 1) from rfl, Cond.eq_ints (x := 1) (y := 1) rfl rfl]; simp; done) | (simp [limb_1_2, Cond.value, Term.eval]; done)))⟩
