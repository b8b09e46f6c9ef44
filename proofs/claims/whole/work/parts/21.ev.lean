/-! SOUNDNESS: runs by depth, and the contract of each (printed by wip/whole/emitev.py) -/
def flat : List MV → List (Option MV)
  | [] => []
  | .inr (.inl x) :: r => some (vL x) :: none :: flat r
  | v :: r => some v :: flat r
def ent (nL : Nat) (as : List MV) : List (Option MV) := flat as ++ List.replicate (nL - (flat as).length) none
noncomputable def pick {X : Type} (P : X → Prop) : Option X := @dite (Option X) (∃ x, P x) (Classical.propDecidable _) (fun h => some h.choose) (fun _ => none)
theorem pick_some {X : Type} {P : X → Prop} {x : X} (h : pick P = some x) : P x := by
  unfold pick at h
  split at h
  · rename_i q
    rw [← Option.some.inj h]
    exact q.choose_spec
  · cases h
theorem pick_of {X : Type} {P : X → Prop} {x : X} (h : P x) (hu : ∀ y, P y → y = x) : pick P = some x := by
  unfold pick
  rw [dif_pos ⟨x, h⟩]
  exact congrArg some (hu _ (Exists.choose_spec (⟨x, h⟩ : ∃ x, P x)))
abbrev RT : Type := Option MV × MH
def runM (L : Nat) (scr : Nat → Int32) (cal : Cal) (q : ME) (as : List MV) (h : MH) (r : RT) : Prop := (flat as).length ≤ q.2.2.1 ∧ ∃ N, sem L scr cal q.2.2.2.2.2.1 q.2.2.2.2.2.2 N 0 (ent q.2.2.1 as) [] h = some r
def chM (as : List MV) (h : MH) : Option RT := match as with
  | [a0, .inl i] => if a0 = vR 98 0 ∧ ¬ oob i 184 then some (some (vI (wordsB.getD (ix i) 0)), h) else none
  | _ => none
noncomputable def evM (mt : Nat → Option MT) (L : Nat) (scr : Nat → Int32) : Nat → Cal
  | 0 => fun _ _ _ => none
  | d + 1 => fun j as h => match Nat.beq j 902 with
    | true => match Nat.ble 4 (d + 1) with
      | true => chM as h
      | false => none
    | false => match mt j with
      | some q => match mathB j with
        | true => mathM j as h
        | false => pick (fun r => runM L scr (evM mt L scr d) q.1 as h r)
      | none => none
theorem sem_mono {L : Nat} {scr : Nat → Int32} {cal : Cal} {bs : List Blk} {cs : List Nat} {r : RT} : ∀ {N M t : Nat} {lo : List (Option MV)} {st : List MV} {h : MH}, N ≤ M → sem L scr cal bs cs N t lo st h = some r → sem L scr cal bs cs M t lo st h = some r
  | 0, _, _, _, _, _, _, h => no_some h
  | N + 1, 0, _, _, _, _, hle, _ => absurd hle (Nat.not_succ_le_zero _)
  | N + 1, M + 1, t, lo, st, h, hle, hs => by
    replace hs : (match dn L scr cal bs cs t lo st h with
      | some (.inl (t, l, st, h)) => sem L scr cal bs cs N t l st h
      | some (.inr r) => some r
      | none => none) = some r := hs
    show (match dn L scr cal bs cs t lo st h with
      | some (.inl (t, l, st, h)) => sem L scr cal bs cs M t l st h
      | some (.inr r) => some r
      | none => none) = some r
    cases e : dn L scr cal bs cs t lo st h with
    | none => rw [e] at hs; exact no_some hs
    | some x =>
      rw [e] at hs
      rcases x with ⟨t1, l1, st1, h1⟩ | x
      · exact sem_mono (Nat.le_of_succ_le_succ hle) hs
      · exact hs
theorem runM_unique {L : Nat} {scr : Nat → Int32} {cal : Cal} {q : ME} {as : List MV} {h : MH} {r r2 : RT} (a : runM L scr cal q as h r) (b : runM L scr cal q as h r2) : r2 = r := by
  obtain ⟨-, N, hN⟩ := a
  obtain ⟨-, M, hM⟩ := b
  have h1 := sem_mono (Nat.le_max_left N M) hN
  have h2 := sem_mono (Nat.le_max_right N M) hM
  rw [h1] at h2
  exact (Option.some.inj h2).symm
theorem evM_run {mt : Nat → Option MT} {L : Nat} {scr : Nat → Int32} {d j : Nat} {q : MT} {as : List MV} {h : MH} {r : RT} (hj : Nat.beq j 902 = false) (hm : mathB j = false) (hq : mt j = some q) (a : runM L scr (evM mt L scr d) q.1 as h r) : evM mt L scr (d + 1) j as h = some r := by
  show (match Nat.beq j 902 with
    | true => match Nat.ble 4 (d + 1) with
      | true => chM as h
      | false => none
    | false => match mt j with
      | some q => match mathB j with
        | true => mathM j as h
        | false => pick (fun r => runM L scr (evM mt L scr d) q.1 as h r)
      | none => none) = some r
  rw [hj, hq, hm]
  exact pick_of a (fun y hy => runM_unique a hy)
theorem evM_math {mt : Nat → Option MT} {L : Nat} {scr : Nat → Int32} {d j : Nat} {q : MT} {as : List MV} {h : MH} (hj : Nat.beq j 902 = false) (hm : mathB j = true) (hq : mt j = some q) : evM mt L scr (d + 1) j as h = mathM j as h := by
  show (match Nat.beq j 902 with
    | true => match Nat.ble 4 (d + 1) with
      | true => chM as h
      | false => none
    | false => match mt j with
      | some q => match mathB j with
        | true => mathM j as h
        | false => pick (fun r => runM L scr (evM mt L scr d) q.1 as h r)
      | none => none) = mathM j as h
  rw [hj, hq, hm]
theorem flat_len (ad : Nat → Nat → Nat) : ∀ as : List MV, (lg_sl (as.map (rv ad))).length = (flat as).length
  | [] => rfl
  | v :: r => by
    have ih := flat_len ad r
    have e : lg_sl ((v :: r).map (rv ad)) = (if (rv ad v).category = 2 then [.val (rv ad v), .second] else [.val (rv ad v)]) ++ lg_sl (r.map (rv ad)) := rfl
    rw [e, List.length_append, ih]
    rcases v with x | x | x | x | x
    · show 1 + _ = _; simp [flat]; omega
    · show 2 + _ = _; simp [flat]; omega
    · show 1 + _ = _; simp [flat]; omega
    · show 1 + _ = _; simp [flat]; omega
    · show 1 + _ = _; simp [flat]; omega
theorem lk_none : ∀ {n i : Nat} {v : MV}, lk (List.replicate n none) i = some v → False
  | 0, _, _, h => by cases h
  | n + 1, 0, _, h => by cases h
  | n + 1, i + 1, _, h => lk_none (n := n) (i := i) h
theorem flat_args (ad : Nat → Nat → Nat) (n : Nat) : ∀ {as : List MV} {k i : Nat} {v : MV}, lk (flat as ++ List.replicate n none) i = some v → (k + i, rv ad v) ∈ lv_args k (as.map (rv ad)) ∧ v ∈ as
  | [], k, i, v, h => (lk_none h).elim
  | w :: r, k, i, v, h => by
    by_cases hw : ∃ x, w = vL x
    · obtain ⟨x, rfl⟩ := hw
      match i, h with
      | 0, h =>
        have e := Option.some.inj (show some (vL x) = some v from h)
        subst e
        exact ⟨List.mem_cons_self, List.mem_cons_self⟩
      | 1, h => exact no_some (show (none : Option MV) = some v from h)
      | i + 2, h =>
        have ih := flat_args ad n (as := r) (k := k + 2) (i := i) (v := v) h
        refine ⟨?_, List.mem_cons_of_mem _ ih.2⟩
        rw [show k + (i + 2) = k + 2 + i by omega]
        exact List.mem_cons_of_mem _ ih.1
    · have e0 : flat (w :: r) = some w :: flat r := by
        rcases w with x | x | x | x | x
        · rfl
        · exact absurd ⟨x, rfl⟩ hw
        · rfl
        · rfl
        · rfl
      have e1 : (rv ad w).category = 1 := by
        rcases w with x | x | x | x | x
        · rfl
        · exact absurd ⟨x, rfl⟩ hw
        · rfl
        · rfl
        · rfl
      rw [e0] at h
      match i, h with
      | 0, h =>
        have e := Option.some.inj (show some w = some v from h)
        subst e
        exact ⟨List.mem_cons_self, List.mem_cons_self⟩
      | i + 1, h =>
        have ih := flat_args ad n (as := r) (k := k + 1) (i := i) (v := v) h
        refine ⟨?_, List.mem_cons_of_mem _ ih.2⟩
        rw [show k + (i + 1) = k + 1 + i by omega]
        show _ ∈ (k, rv ad w) :: lv_args (if (rv ad w).category = 2 then k + 2 else k + 1) (r.map (rv ad))
        rw [e1, if_neg (by decide)]
        exact List.mem_cons_of_mem _ ih.1
theorem oks_mem {h : MH} : ∀ {as : List MV} {v : MV}, oks h as → v ∈ as → vok h v
  | w :: r, v, k, hm => by
    rcases List.mem_cons.mp hm with e | e
    · rw [e]; exact k.1
    · exact oks_mem k.2 e
/-- what is checked of each method of the table -/
def MtCk (mt : Nat → Option MT) : Prop := ∀ (j : Nat) (q : MT), mathB j = false → mt j = some q → plainName q.1.1.cls = true ∧ (∃ b, q.1.2.2.2.2.2.1[0]? = some (0, b)) ∧ ∀ (t : Nat) (b : Blk), q.1.2.2.2.2.2.1[t]? = some b → ckS q.1.1.cls (Nat.beq q.1.2.2.2.2.1 2) false q.1.2.2.1 q.1.2.1 mt q.1.2.2.2.2.2.1 q.1.2.2.2.1 b.2.1 b.1 b.2.2 = true
theorem ret_W {p : Program} {l : Launch} {e : Env} {R : Room} {s : State} {m : MethodId} {args : Array Value} {below : List Frame} {meth : Method} {c : Code} {cc : ByteArray} {nL : Nat} {own : String} {Ts : List Cond} {D : va_G} {dA : Nat → ClassId} {base : Nat} {ad0 : Nat → Nat → Nat} {h0 h1 : MH} {ret : Option FieldType} {v : Option MV} (F : Fix p s m args c cc nL own Ts D dA base ad0) (hret : meth.sig.returnType = ret) (hlocks : meth.locks = false) : ∀ (pc : Nat) (lo : List (Option MV)) (ins : Instr), decode cc pc = .ok (ins, 1) → retI ret ins v → AtW p l e R s m args below meth c (MQ below (Qcon D dA ad0 base h0 v h1) args s (hc h1 - hc h0) (hs h1 - hs h0) (fun q => base ≤ q)) nL D dA base ad0 h0 pc lo v.toList h1 := by
  intro pc lo ins hd hr H locs cells slots ad ls S
  have e1 : hc h1 - hc h0 = cells := by have := S.2.2.2.2.2.2.1.1; omega
  have e2 : hs h1 - hs h0 = slots := by have := S.2.2.2.2.2.2.1.2; omega
  rw [e1, e2]
  have hq : ∀ t : State, t.heap = H → s.WarmedH t.vm → Qcon D dA ad0 base h0 v h1 args s (.returned (v.map (rv ad))) t := fun t ht hW => ⟨⟨ad, S.2.2.2.2.2.2.2.1, by rw [ht]; exact S.1, rfl⟩, S.2.2.1.F ht⟩
  rcases hr with ⟨rfl, hr, x, rfl⟩ | ⟨rfl, hr, x, rfl, hx⟩ | ⟨rfl, hr, x, rfl⟩ | ⟨rfl, ⟨n, hr⟩, sx, nx, rfl⟩ | ⟨rfl, hr, rfl⟩
  · exact W.iret F.1 F.2.1 (by rw [hret, hr]) hq S.2.2.1.2.2 hd hlocks
  · exact W.zret (ty := .boolean) F.1 F.2.1 (by rw [hret, hr]) (by rcases hx with rfl | rfl <;> rfl) hq S.2.2.1.2.2 hd hlocks
  · exact W.lret F.1 F.2.1 (by rw [hret, hr]) hq S.2.2.1.2.2 hd hlocks
  · exact W.aret F.1 F.2.1 (by rw [hret, hr]) (Or.inl ⟨n, rfl⟩) (Or.inr ⟨_, rfl⟩) hq S.2.2.1.2.2 hd hlocks
  · exact W.vret F.1 F.2.1 (by rw [hret, hr]) hq S.2.2.1.2.2 hd hlocks
section Sem
variable {l : Launch} {own : String} {ini law : Bool} {cc : ByteArray} {nL L : Nat} {scr : Nat → Int32} {d : Nat} {mt : Nat → Option MT} {cal : Cal} {bs : List Blk} {cs : List Nat} {ret : Option FieldType}
def FrR (l : Launch) (own : String) (ini law : Bool) (cc : ByteArray) (nL L : Nat) (scr : Nat → Int32) (d : Nat) (bs : List Blk) (ret : Option FieldType) (t : Nat) (lo : List (Option MV)) (st : List MV) (h : MH) (r : RT) : Prop :=
  ∀ {p : Program} {e : Env} {R : Room} {s : State} {m : MethodId} {args : Array Value} {below : List Frame} {meth : Method} {c : Code} {Q : State → Prop} {Ts : List Cond} {D : va_G} {dA : Nat → ClassId} {base : Nat} {ad0 : Nat → Nat → Nat} {h0 : MH},
    Fix p s m args c cc nL own Ts D dA base ad0 → (ini = true → meth.name = "<init>") → (law = true → ∃ b, va_X b L scr s s.heap ∧ b < base ∧ ∀ n, ad0 99 n = b) → (d + 1 ≤ R.frames ∧ 80 * d + 60 ≤ R.locals) →
    (hc r.2 ≤ hc h0 + R.cells ∧ hs r.2 ≤ hs h0 + R.slots) →
    (∀ pc lo ins, decode cc pc = .ok (ins, 1) → retI ret ins r.1 → AtW p l e R s m args below meth c Q nL D dA base ad0 h0 pc lo r.1.toList r.2) →
    ∀ (q : Blk), bs[t]? = some q → AtW p l e R s m args below meth c Q nL D dA base ad0 h0 q.1 lo st h
theorem sem_ok (hmt : MtOk mt) (hcal : CalOk l mt d cal) (hch : ChOk l own ini law cc nL L scr d) (hbs : ∀ (t : Nat) (q : Blk), bs[t]? = some q → ckS own ini law nL cc mt bs ret q.2.1 q.1 q.2.2 = true) : ∀ (N t : Nat) (lo : List (Option MV)) (st : List MV) (h : MH) (r : RT), Inv lo st h → sem L scr cal bs cs N t lo st h = some r → Mono h r.2 ∧ Wf r.2 ∧ (∀ w, r.1 = some w → vok r.2 w) ∧ FrR l own ini law cc nL L scr d bs ret t lo st h r := by
  intro N
  induction N with
  | zero => exact fun t lo st h r _ hx => no_some hx
  | succ N IH =>
    intro t lo st h r hi hx
    replace hx : (match dn L scr cal bs cs t lo st h with
      | some (.inl (t, l, st, h)) => sem L scr cal bs cs N t l st h
      | some (.inr r) => some r
      | none => none) = some r := hx
    cases e : dn L scr cal bs cs t lo st h with
    | none => rw [e] at hx; exact no_some hx
    | some x =>
      rw [e] at hx
      replace e : (match bs[t]? with
        | some (_, is, nb) => den L scr cal bs cs 4000 is nb lo st h
        | none => none) = some x := e
      cases eb : bs[t]? with
      | none => rw [eb] at e; exact no_some e
      | some b =>
        rw [eb] at e
        obtain ⟨g1, g2, g3⟩ := den_ok hmt hcal hch hbs 4000 b.2.1 b.1 b.2.2 lo st h x (hbs t b eb) hi e
        rcases x with ⟨t1, l1, st1, h1⟩ | ⟨v, h1⟩
        · obtain ⟨k1, k2, k3, k4⟩ := IH t1 l1 st1 h1 r g1 hx
          refine ⟨g2.tr k1, k2, k3, ?_⟩
          intro p e R s m args below meth c Q Ts D dA base ad0 h0 F hini hlaw hR hroom kr q hq
          have : q = b := by rw [eb] at hq; exact (Option.some.inj hq).symm
          subst this
          exact g3 F hini hlaw hR ⟨Nat.le_trans k1.2.2.1 hroom.1, Nat.le_trans k1.2.2.2 hroom.2⟩ (k4 F hini hlaw hR hroom kr)
        · replace hx := Option.some.inj hx
          subst hx
          refine ⟨g2, g1.1, g1.2, ?_⟩
          intro p e R s m args below meth c Q Ts D dA base ad0 h0 F hini hlaw hR hroom kr q hq
          have : q = b := by rw [eb] at hq; exact (Option.some.inj hq).symm
          subst this
          exact g3 F hini hlaw hR hroom kr
end Sem
theorem ent_inv {nL : Nat} {as : List MV} {h : MH} (hw : Wf h) (ho : oks h as) : Inv (ent nL as) [] h := ⟨hw, trivial, fun i v hv => oks_mem ho (flat_args (fun _ _ => 0) _ (k := 0) hv).2⟩
theorem ent_loc {nL : Nat} {as : List MV} {ad : Nat → Nat → Nat} (hl : (flat as).length ≤ nL) : ((lg_sl (as.map (rv ad)) ++ List.replicate (nL - (lg_sl (as.map (rv ad))).length) Slot.unset).toArray).size = nL ∧ lv_wf ((lg_sl (as.map (rv ad)) ++ List.replicate (nL - (lg_sl (as.map (rv ad))).length) Slot.unset).toArray) ∧ ∀ i v, lk (ent nL as) i = some v → ((lg_sl (as.map (rv ad)) ++ List.replicate (nL - (lg_sl (as.map (rv ad))).length) Slot.unset).toArray)[i]? = some (.val (rv ad v)) := by
  have h1 := lv_entry (as.map (rv ad)) (n := nL) (by rw [flat_len]; exact hl)
  refine ⟨h1.1, h1.2.1, fun i v hv => ?_⟩
  have h2 := (flat_args ad _ (k := 0) hv).1
  rw [Nat.zero_add] at h2
  exact h1.2.2 _ h2
theorem con_of {l : Launch} {mt : Nat → Option MT} {L : Nat} {scr : Nat → Int32} {d : Nat} {cal : Cal} {j : Nat} {q : MT} {as : List MV} {h : MH} {r : RT} (hmt : MtOk mt) (hck : MtCk mt) (hcal : CalOk l mt d cal) (hch : ∀ own ini cc nL, ChOk l own ini false cc nL L scr d) (hmb : mathB j = false) (hq : mt j = some q) (hw : Wf h) (ho : oks h as) (hrun : runM L scr cal q.1 as h r) : Mono h r.2 ∧ Wf r.2 ∧ (∀ v, r.1 = some v → vok r.2 v) ∧ Con l (d + 1) q.1 as h r.1 r.2 := by
  obtain ⟨hlen, N, hN⟩ := hrun
  obtain ⟨hpl, ⟨b0, hb0⟩, hbs⟩ := hck j q hmb hq
  obtain ⟨g1, g2, g3, g4⟩ := sem_ok (own := q.1.1.cls) (ini := Nat.beq q.1.2.2.2.2.1 2) (law := false) (nL := q.1.2.2.1) (cc := q.1.2.1) (ret := q.1.2.2.2.1) hmt hcal (hch _ _ _ _) hbs N 0 _ _ h r (ent_inv hw ho) hN
  refine ⟨g1, g2, g3, ?_⟩
  intro D dA ad base
  refine Met.ofW (cc := q.1.2.1) (maxL := q.1.2.2.1) (ret := q.1.2.2.2.1) (ws' := lwG) hpl rfl ?_
  intro p e s m args below meth c s₁ B hml hP
  obtain ⟨rfl, hb, hsim, hK, hE⟩ := hP
  have hin : meth.name = q.1.1.name := (name_of_methodNamed B.named B.method).1
  have F : Fix p s m (as.map (rv ad)).toArray c q.1.2.1 q.1.2.2.1 q.1.1.cls (wT q.1) D dA base ad := ⟨B.exec, B.bytes, hml, findClass_of_methodNamed B.named, atoms_spec (ws := wT q.1) B.pre, fun w hw => List.mem_cons_of_mem _ hw, hK, hb, hE⟩
  rw [lg_entry_eq]
  have hloc := ent_loc (ad := ad) hlen
  have key := g4 (R := roomD (d + 1) h r.2) (below := below) (e := e) (Q := MQ below (Qcon D dA ad base h r.1 r.2) (as.map (rv ad)).toArray s (hc r.2 - hc h) (hs r.2 - hs h) (fun q => base ≤ q)) (h0 := h) F (fun hi => by rw [hin]; exact ((hmt.2 j q hq).2.2.2 (Nat.eq_of_beq_eq_true hi)).2.1) (fun z => by cases z) ⟨Nat.le_refl _, by show 80 * d + 60 ≤ 80 * (d + 1); omega⟩ ⟨by show hc r.2 ≤ hc h + (hc r.2 - hc h); have := g1.2.2.1; omega, by show hs r.2 ≤ hs h + (hs r.2 - hs h); have := g1.2.2.2; omega⟩ (ret_W F B.returns B.notSynchronized) _ hb0
  exact key s.heap [] 0 0 ad _ ⟨hsim, hw, va_S.rf, hloc, trivial, (ent_inv hw ho).2.2, ⟨Nat.zero_add _, Nat.zero_add _⟩, fun _ _ _ => rfl, fun _ => Nat.le_refl _⟩
theorem evM_ok {l : Launch} {mt : Nat → Option MT} {L : Nat} {scr : Nat → Int32} (hmt : MtOk mt) (hck : MtCk mt) (hch : ∀ d own ini cc nL, ChOk l own ini false cc nL L scr d) : ∀ d, CalOk l mt d (evM mt L scr d) := by
  intro d
  induction d with
  | zero => exact fun j as h r h1 hx _ _ => no_some hx
  | succ d IH =>
    intro j as h r h1 hx hw ho
    replace hx : (match Nat.beq j 902 with
      | true => match Nat.ble 4 (d + 1) with
        | true => chM as h
        | false => none
      | false => match mt j with
        | some q => match mathB j with
          | true => mathM j as h
          | false => pick (fun r => runM L scr (evM mt L scr d) q.1 as h r)
        | none => none) = some (r, h1) := hx
    cases e : Nat.beq j 902 with
    | true =>
      rw [e] at hx
      replace e := Nat.eq_of_beq_eq_true e
      replace hx : (match Nat.ble 4 (d + 1) with
        | true => chM as h
        | false => none) = some (r, h1) := hx
      cases e4 : Nat.ble 4 (d + 1) with
      | false => rw [e4] at hx; exact no_some hx
      | true =>
        rw [e4] at hx
        rcases as with _ | ⟨a0, _ | ⟨i | a1, _ | ⟨a2, as⟩⟩⟩
        all_goals first
          | exact no_some hx
          | skip
        replace hx : (if a0 = vR 98 0 ∧ ¬ oob i 184 then some (some (vI (wordsB.getD (ix i) 0)), h) else none) = some (r, h1) := hx
        by_cases hz : a0 = vR 98 0 ∧ ¬ oob i 184
        · rw [if_pos hz] at hx
          have hx := Option.some.inj hx
          obtain ⟨e1, e2⟩ := Prod.mk.inj hx
          subst e1; subst e2
          exact ⟨Mono.rf _, hw, fun v hv => by cases hv; trivial, fun z => absurd e z, fun _ => ⟨i, by rw [hz.1], hz.2, rfl, rfl, Nat.le_of_ble_eq_true e4⟩⟩
        · rw [if_neg hz] at hx; exact no_some hx
    | false =>
      rw [e] at hx
      replace hx : (match mt j with
        | some q => match mathB j with
          | true => mathM j as h
          | false => pick (fun r => runM L scr (evM mt L scr d) q.1 as h r)
        | none => none) = some (r, h1) := hx
      cases eq : mt j with
      | none => rw [eq] at hx; exact no_some hx
      | some q =>
        rw [eq] at hx
        replace hx : (match mathB j with
          | true => mathM j as h
          | false => pick (fun r => runM L scr (evM mt L scr d) q.1 as h r)) = some (r, h1) := hx
        cases em : mathB j with
        | true =>
          rw [em] at hx
          obtain ⟨rfl, hc⟩ := mathM_inv hx
          refine ⟨Mono.rf _, hw, fun v hv => ?_, fun _ => ⟨q, rfl, fun z => (by cases z), fun _ => hx⟩, fun z => by rw [z] at e; exact absurd e (by decide)⟩
          rcases hc with ⟨-, x, -, rfl⟩ | ⟨-, x, y, -, rfl⟩ | ⟨-, x, y, -, rfl⟩ <;> (cases hv; trivial)
        | false =>
          rw [em] at hx
          obtain ⟨g1, g2, g3, g4⟩ := con_of hmt hck IH (hch d) em eq hw ho (pick_some hx)
          exact ⟨g1, g2, g3, fun _ => ⟨q, rfl, fun _ => g4, fun z => (by cases z)⟩, fun z => by rw [z] at e; exact absurd e (by decide)⟩

