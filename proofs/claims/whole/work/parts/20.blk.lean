/-! SOUNDNESS: blocks (printed by wip/whole/emitblk.py) -/
def tgB (bs : List Blk) (a pc : Nat) (off : Int) : Bool := match bs[a]? with
  | some q => decide ((pc : Int) + off = (q.1 : Int))
  | none => false
theorem tgB_ok {bs : List Blk} {a pc : Nat} {off : Int} (h : tgB bs a pc off = true) : ∃ q, bs[a]? = some q ∧ (pc : Int) + off = (q.1 : Int) := by
  unfold tgB at h
  cases e : bs[a]? with
  | none => rw [e] at h; exact absurd (show false = true from h) (by decide)
  | some q =>
    rw [e] at h
    exact ⟨q, rfl, of_decide_eq_true h⟩
def tsE (bs : List Blk) (pc : Nat) (lo : Int) (offs : Array Int) (ts : List (Int32 × Nat)) (j : Nat) : Bool := match ts[j]?, offs[j]? with
  | some (c, t), some off => decide (c = Int32.ofInt (lo + j)) && tgB bs t pc off
  | _, _ => false
def tsD (cc : ByteArray) (pc : Nat) (i : Instr) : Bool := match decode cc pc with
  | .ok (i2, _) => decide (i2 = i)
  | .error _ => false
def tsB (cc : ByteArray) (bs : List Blk) (pc : Nat) (dflt lo hi : Int) (offs : Array Int) (a : Nat) (ts : List (Int32 × Nat)) : Bool :=
  tsD cc pc (.tableswitch dflt lo hi offs) && (tgB bs a pc dflt && (decide (-2147483648 ≤ lo ∧ hi ≤ 2147483647 ∧ hi + 1 - lo = (ts.length : Int)) && (List.range ts.length).all (tsE bs pc lo offs ts)))
def retO (ret : Option FieldType) : Bool := match ret with
  | some (.object _) => true
  | _ => false
def ckS (own : String) (ini law : Bool) (nL : Nat) (cc : ByteArray) (mt : Nat → Option MT) (bs : List Blk) (ret : Option FieldType) : List MI → Nat → Nat → Bool
  | [], pc, nb => match bs[nb]? with
    | some q => Nat.beq q.1 pc
    | none => false
  | i :: is, pc, nb => match i with
    | (ins, _, a, _, _, _, ts) => match ins with
      | .goto off => decide (decode cc pc = .ok (.goto off, 3)) && tgB bs a pc off
      | .if_icmp q off => decide (decode cc pc = .ok (.if_icmp q off, 3)) && (tgB bs a pc off && ckS own ini law nL cc mt bs ret is (pc + 3) nb)
      | .ifCond q off => decide (decode cc pc = .ok (.ifCond q off, 3)) && (tgB bs a pc off && ckS own ini law nL cc mt bs ret is (pc + 3) nb)
      | .ifnull off => decide (decode cc pc = .ok (.ifnull off, 3)) && (tgB bs a pc off && ckS own ini law nL cc mt bs ret is (pc + 3) nb)
      | .ifnonnull off => decide (decode cc pc = .ok (.ifnonnull off, 3)) && (tgB bs a pc off && ckS own ini law nL cc mt bs ret is (pc + 3) nb)
      | .tableswitch dflt lo hi offs => tsB cc bs pc dflt lo hi offs a ts
      | .ireturn => decide (decode cc pc = .ok (.ireturn, 1)) && cond (Nat.beq a 1) (decide (ret = some .boolean)) (decide (ret = some .int))
      | .lreturn => decide (decode cc pc = .ok (.lreturn, 1)) && decide (ret = some .long)
      | .areturn => decide (decode cc pc = .ok (.areturn, 1)) && retO ret
      | .return_ => decide (decode cc pc = .ok (.return_, 1)) && decide (ret = none)
      | _ => ckI own ini law nL cc mt pc i && ckS own ini law nL cc mt bs ret is (pc + iln ins) nb
def xh : Exit → MH
  | .inl (_, _, _, h) => h
  | .inr (_, h) => h
def XInv : Exit → Prop
  | .inl (_, lo, st, h) => Inv lo st h
  | .inr (v, h) => Wf h ∧ ∀ w, v = some w → vok h w
/-- the return instruction, its type and its value -/
def retI (ret : Option FieldType) (ins : Instr) (v : Option MV) : Prop :=
  (ins = .ireturn ∧ ret = some .int ∧ ∃ x, v = some (vI x)) ∨ (ins = .ireturn ∧ ret = some .boolean ∧ ∃ x : Int32, v = some (vI x) ∧ (x = 0 ∨ x = 1)) ∨ (ins = .lreturn ∧ ret = some .long ∧ ∃ x, v = some (vL x)) ∨ (ins = .areturn ∧ (∃ n, ret = some (.object n)) ∧ ∃ s n, v = some (vR s n)) ∨ (ins = .return_ ∧ ret = none ∧ v = none)
def FrX (l : Launch) (own : String) (ini law : Bool) (cc : ByteArray) (nL L : Nat) (scr : Nat → Int32) (d : Nat) (bs : List Blk) (ret : Option FieldType) (x : PT) (y : Exit) : Prop :=
  ∀ {p : Program} {e : Env} {R : Room} {s : State} {m : MethodId} {args : Array Value} {below : List Frame} {meth : Method} {c : Code} {Q : State → Prop} {Ts : List Cond} {D : va_G} {dA : Nat → ClassId} {base : Nat} {ad0 : Nat → Nat → Nat} {h0 : MH},
    Fix p s m args c cc nL own Ts D dA base ad0 → (ini = true → meth.name = "<init>") → (law = true → ∃ b, va_X b L scr s s.heap ∧ b < base ∧ ∀ n, ad0 99 n = b) → (d + 1 ≤ R.frames ∧ 80 * d + 60 ≤ R.locals) →
    (hc (xh y) ≤ hc h0 + R.cells ∧ hs (xh y) ≤ hs h0 + R.slots) →
    (match y with
      | .inl (t, lo, st, h) => ∀ (q : Blk), bs[t]? = some q → AtW p l e R s m args below meth c Q nL D dA base ad0 h0 q.1 lo st h
      | .inr (v, h) => ∀ pc lo ins, decode cc pc = .ok (ins, 1) → retI ret ins v → AtW p l e R s m args below meth c Q nL D dA base ad0 h0 pc lo v.toList h) →
    AtW p l e R s m args below meth c Q nL D dA base ad0 h0 x.1 x.2.1 x.2.2.1 x.2.2.2
def Gd (l : Launch) (own : String) (ini law : Bool) (cc : ByteArray) (nL L : Nat) (scr : Nat → Int32) (d : Nat) (bs : List Blk) (ret : Option FieldType) (pc : Nat) (lo : List (Option MV)) (st : List MV) (h : MH) (x : Exit) : Prop :=
  XInv x ∧ Mono h (xh x) ∧ FrX l own ini law cc nL L scr d bs ret (pc, lo, st, h) x
theorem swt_inv {dflt : Option Exit} {f : Nat → Option Exit} {x : Int32} {r : Exit} : ∀ {ts : List (Int32 × Nat)}, swt x dflt f ts = some r → (∃ (j : Nat) (c : Int32) (t : Nat), ts[j]? = some (c, t) ∧ x = c ∧ f t = some r) ∨ ((∀ (j : Nat) (c : Int32) (t : Nat), ts[j]? = some (c, t) → x ≠ c) ∧ dflt = some r)
  | [], h => Or.inr ⟨fun j c t q => by simp at q, h⟩
  | (c0, t0) :: ts, h => by
    replace h : (if x = c0 then f t0 else swt x dflt f ts) = some r := h
    by_cases e : x = c0
    · rw [if_pos e] at h
      exact Or.inl ⟨0, c0, t0, rfl, e, h⟩
    · rw [if_neg e] at h
      rcases swt_inv h with ⟨j, c, t, h1, h2, h3⟩ | ⟨h1, h2⟩
      · exact Or.inl ⟨j + 1, c, t, h1, h2, h3⟩
      · refine Or.inr ⟨fun j c t q => ?_, h2⟩
        cases j with
        | zero =>
          have := Option.some.inj q
          rw [← (Prod.mk.inj this).1]; exact e
        | succ j => exact h1 j c t q
section Blocks
variable {l : Launch} {own : String} {ini law : Bool} {cc : ByteArray} {nL L : Nat} {scr : Nat → Int32} {d : Nat} {mt : Nat → Option MT} {cal : Cal} {bs : List Blk} {cs : List Nat} {ret : Option FieldType} {pc nb : Nat} {lo : List (Option MV)} {st : List MV} {h : MH} {x : Exit}
theorem ret_gd {v : Option MV} {ins : Instr} (hd : decode cc pc = .ok (ins, 1)) (hr : retI ret ins v) (hi : Inv lo v.toList h) : Gd l own ini law cc nL L scr d bs ret pc lo v.toList h (.inr (v, h)) := by
  refine ⟨⟨hi.1, fun w hw => ?_⟩, Mono.rf _, fun F _ _ _ _ k => k pc lo ins hd hr⟩
  have := hi.2.1
  rw [hw] at this
  exact this.1
theorem Gd.step {pc2 : Nat} {st2 : List MV} (g : Gd l own ini law cc nL L scr d bs ret pc2 lo st2 h x) (f : ∀ {p : Program} {e : Env} {R : Room} {s : State} {m : MethodId} {args : Array Value} {below : List Frame} {meth : Method} {c : Code} {Q : State → Prop} {Ts : List Cond} {D : va_G} {dA : Nat → ClassId} {base : Nat} {ad0 : Nat → Nat → Nat} {h0 : MH}, Fix p s m args c cc nL own Ts D dA base ad0 → AtW p l e R s m args below meth c Q nL D dA base ad0 h0 pc2 lo st2 h → AtW p l e R s m args below meth c Q nL D dA base ad0 h0 pc lo st h) : Gd l own ini law cc nL L scr d bs ret pc lo st h x :=
  ⟨g.1, g.2.1, fun F a b c d k => f F (g.2.2 F a b c d k)⟩
def Den (l : Launch) (own : String) (ini law : Bool) (cc : ByteArray) (nL L : Nat) (scr : Nat → Int32) (d : Nat) (mt : Nat → Option MT) (cal : Cal) (bs : List Blk) (cs : List Nat) (ret : Option FieldType) (fuel : Nat) : Prop :=
  ∀ (is : List MI) (pc nb : Nat) (lo : List (Option MV)) (st : List MV) (h : MH) (x : Exit), ckS own ini law nL cc mt bs ret is pc nb = true → Inv lo st h → den L scr cal bs cs fuel is nb lo st h = some x → Gd l own ini law cc nL L scr d bs ret pc lo st h x
theorem jm_ok {fuel : Nat} (IH : Den l own ini law cc nL L scr d mt cal bs cs ret fuel) (hbs : ∀ (t : Nat) (q : Blk), bs[t]? = some q → ckS own ini law nL cc mt bs ret q.2.1 q.1 q.2.2 = true) {t : Nat} {q : Blk} (ht : bs[t]? = some q) (hi : Inv lo st h) (hx : jm bs cs t lo st h (fun is nb => den L scr cal bs cs fuel is nb lo st h) = some x) : Gd l own ini law cc nL L scr d bs ret q.1 lo st h x := by
  replace hx : (match cs.any fun q => Nat.beq q t with
    | true => some (.inl (t, lo, st, h))
    | false => match bs[t]? with
      | some (_, is, nb) => den L scr cal bs cs fuel is nb lo st h
      | none => none) = some x := hx
  cases e : cs.any fun q => Nat.beq q t with
  | true =>
    rw [e] at hx
    replace hx := Option.some.inj hx
    subst hx
    exact ⟨hi, Mono.rf _, fun F _ _ _ _ k => k q ht⟩
  | false =>
    rw [e, ht] at hx
    exact IH q.2.1 q.1 q.2.2 lo st h x (hbs t q ht) hi hx
theorem s_tabIn {p : Program} {e : Env} {R : Room} {s : State} {m : MethodId} {args : Array Value} {below : List Frame} {meth : Method} {c : Code} {Q : State → Prop} {Ts : List Cond} {D : va_G} {dA : Nat → ClassId} {base : Nat} {ad0 : Nat → Nat → Nat} {h0 : MH} (F : Fix p s m args c cc nL own Ts D dA base ad0) {dflt lw hi : Int} {offs : Array Int} {len : Nat} {y : Int32} {off : Int} {tgt : Nat} {r : List MV} (hd : decode cc pc = .ok (.tableswitch dflt lw hi offs, len)) (h1 : ¬ y.toInt < lw) (h2 : ¬ hi < y.toInt) (ho : offs[(y.toInt - lw).toNat]? = some off) (ht : (pc : Int) + off = (tgt : Int)) (k : AtW p l e R s m args below meth c Q nL D dA base ad0 h0 tgt lo r h) : AtW p l e R s m args below meth c Q nL D dA base ad0 h0 pc lo (vI y :: r) h := by
  intro H locs cells slots ad ls S
  exact lv_tableIn F.1 F.2.1 hd h1 h2 ho ht (k H locs cells slots ad ls (S.stk S.ok.2))
theorem s_tabOut {p : Program} {e : Env} {R : Room} {s : State} {m : MethodId} {args : Array Value} {below : List Frame} {meth : Method} {c : Code} {Q : State → Prop} {Ts : List Cond} {D : va_G} {dA : Nat → ClassId} {base : Nat} {ad0 : Nat → Nat → Nat} {h0 : MH} (F : Fix p s m args c cc nL own Ts D dA base ad0) {dflt lw hi : Int} {offs : Array Int} {len : Nat} {y : Int32} {tgt : Nat} {r : List MV} (hd : decode cc pc = .ok (.tableswitch dflt lw hi offs, len)) (h1 : y.toInt < lw ∨ hi < y.toInt) (ht : (pc : Int) + dflt = (tgt : Int)) (k : AtW p l e R s m args below meth c Q nL D dA base ad0 h0 tgt lo r h) : AtW p l e R s m args below meth c Q nL D dA base ad0 h0 pc lo (vI y :: r) h := by
  intro H locs cells slots ad ls S
  exact lv_tableOut F.1 F.2.1 hd h1 ht (k H locs cells slots ad ls (S.stk S.ok.2))
theorem tab_ok {fuel : Nat} (IH : Den l own ini law cc nL L scr d mt cal bs cs ret fuel) (hbs : ∀ (t : Nat) (q : Blk), bs[t]? = some q → ckS own ini law nL cc mt bs ret q.2.1 q.1 q.2.2 = true) {dflt lw hi : Int} {offs : Array Int} {a : Nat} {ts : List (Int32 × Nat)} {y : Int32} {r : List MV} (hck : tsB cc bs pc dflt lw hi offs a ts = true) (hi2 : Inv lo (vI y :: r) h) (hx : swt y (jm bs cs a lo r h fun is nb => den L scr cal bs cs fuel is nb lo r h) (fun t => jm bs cs t lo r h fun is nb => den L scr cal bs cs fuel is nb lo r h) ts = some x) : Gd l own ini law cc nL L scr d bs ret pc lo (vI y :: r) h x := by
  unfold tsB at hck
  rw [Bool.and_eq_true, Bool.and_eq_true, Bool.and_eq_true, decide_eq_true_eq] at hck
  obtain ⟨h1, h2, ⟨h3, h4, h5⟩, h6⟩ := hck
  unfold tsD at h1
  cases ed : decode cc pc with
  | error q => rw [ed] at h1; exact absurd (show false = true from h1) (by decide)
  | ok q =>
    obtain ⟨i2, len⟩ := q
    rw [ed] at h1
    have h1 := of_decide_eq_true h1
    subst h1
    have hi3 : Inv lo r h := hi2.stk hi2.2.1.2
    have ent : ∀ j, j < ts.length → ∃ c t off, ts[j]? = some (c, t) ∧ offs[j]? = some off ∧ c = Int32.ofInt (lw + j) ∧ tgB bs t pc off = true := by
      intro j hj
      have q := List.all_eq_true.mp h6 j (List.mem_range.mpr hj)
      unfold tsE at q
      cases e1 : ts[j]? with
      | none => rw [e1] at q; exact absurd (show false = true from q) (by decide)
      | some z =>
        cases e2 : offs[j]? with
        | none => rw [e1, e2] at q; exact absurd (show false = true from q) (by decide)
        | some off =>
          rw [e1, e2] at q
          replace q : (decide (z.1 = Int32.ofInt (lw + j)) && tgB bs z.2 pc off) = true := q
          rw [Bool.and_eq_true, decide_eq_true_eq] at q
          exact ⟨z.1, z.2, off, rfl, rfl, q.1, q.2⟩
    rcases swt_inv hx with ⟨j, c, t, g1, g2, g3⟩ | ⟨g1, g2⟩
    · have hj := (List.getElem?_eq_some_iff.mp g1).1
      obtain ⟨c1, t1, off, e1, e2, e3, e4⟩ := ent j hj
      rw [g1] at e1
      cases e1
      have ev : y.toInt = lw + j := by rw [g2, e3, Int32.toInt_ofInt_of_le (by omega) (by omega)]
      obtain ⟨q, hq, hq2⟩ := tgB_ok e4
      exact (jm_ok IH hbs hq hi3 g3).step (fun F k => s_tabIn F ed (by omega) (by omega) (by rw [ev, show (lw + (j : Int) - lw).toNat = j by omega]; exact e2) hq2 k)
    · obtain ⟨q, hq, hq2⟩ := tgB_ok h2
      refine (jm_ok IH hbs hq hi3 g2).step (fun F k => s_tabOut F ed ?_ hq2 k)
      by_cases hlt : y.toInt < lw
      · exact Or.inl hlt
      · by_cases hgt : hi < y.toInt
        · exact Or.inr hgt
        · exfalso
          obtain ⟨c1, t1, off, e1, e2, e3, e4⟩ := ent (y.toInt - lw).toNat (by omega)
          refine g1 _ _ _ e1 ?_
          rw [e3, show lw + ((y.toInt - lw).toNat : Int) = y.toInt by omega, Int32.ofInt_toInt]

theorem den_ok (hmt : MtOk mt) (hcal : CalOk l mt d cal) (hch : ChOk l own ini law cc nL L scr d) (hbs : ∀ (t : Nat) (q : Blk), bs[t]? = some q → ckS own ini law nL cc mt bs ret q.2.1 q.1 q.2.2 = true) : ∀ fuel, Den l own ini law cc nL L scr d mt cal bs cs ret fuel := by
  intro fuel
  induction fuel with
  | zero => exact fun is pc nb lo st h x _ _ hx => no_some hx
  | succ fuel IH =>
    intro is pc nb lo st h x hck hi hx
    cases is with
    | nil =>
      replace hck : (match bs[nb]? with
        | some q => Nat.beq q.1 pc
        | none => false) = true := hck
      cases e : bs[nb]? with
      | none => rw [e] at hck; exact absurd (show false = true from hck) (by decide)
      | some q =>
        rw [e] at hck
        have hck := Nat.eq_of_beq_eq_true hck
        subst hck
        exact jm_ok IH hbs e hi hx
    | cons i is =>
      obtain ⟨ins, cst, a, b, c, dd, ts⟩ := i
      have gen : ckI own ini law nL cc mt pc (ins, cst, a, b, c, dd, ts) = true ∧ ckS own ini law nL cc mt bs ret is (pc + iln ins) nb = true → ex1 L scr cal (ins, cst, a, b, c, dd, ts) lo st h (fun l st h => den L scr cal bs cs fuel is nb l st h) = some x → Gd l own ini law cc nL L scr d bs ret pc lo st h x := by
        intro hk hx
        obtain ⟨lo', st', h', g1, g2, g3, g4⟩ := ex1_ok hmt hcal hch hi hk.1 hx
        obtain ⟨y1, y2, y3⟩ := IH is _ nb lo' st' h' x hk.2 g2 g1
        exact ⟨y1, g3.tr y2, fun F a b c d k => g4 F a b c ⟨Nat.le_trans y2.2.2.1 d.1, Nat.le_trans y2.2.2.2 d.2⟩ (y3 F a b c d k)⟩
      cases ins with
      | goto off =>
        replace hck : (decide (decode cc pc = .ok (.goto off, 3)) && tgB bs a pc off) = true := hck
        rw [Bool.and_eq_true, decide_eq_true_eq] at hck
        obtain ⟨q, hq, hq2⟩ := tgB_ok hck.2
        exact (jm_ok IH hbs hq hi hx).step (fun F k => s_goto F hck.1 hq2 k)
      | if_icmp q off =>
        replace hck : (decide (decode cc pc = .ok (.if_icmp q off, 3)) && (tgB bs a pc off && ckS own ini law nL cc mt bs ret is (pc + 3) nb)) = true := hck
        rw [Bool.and_eq_true, Bool.and_eq_true, decide_eq_true_eq] at hck
        obtain ⟨hd, htg, hrest⟩ := hck
        obtain ⟨bq, hq, hq2⟩ := tgB_ok htg
        rcases st with _ | ⟨y | y, _ | ⟨x0 | x0, r⟩⟩
        all_goals first
          | exact no_some hx
          | skip
        have hi3 : Inv lo r h := hi.stk hi.2.1.2.2
        cases q with
        | eq =>
          replace hx : (if x0 = y then jm bs cs a lo r h fun is nb => den L scr cal bs cs fuel is nb lo r h else den L scr cal bs cs fuel is nb lo r h) = some x := hx
          by_cases e : x0 = y
          · rw [if_pos e] at hx
            exact (jm_ok IH hbs hq hi3 hx).step (fun F k => s_icmp_eq F hd hq2 (fun _ => k) (fun z => absurd e z))
          · rw [if_neg e] at hx
            exact (IH is _ nb lo r h x hrest hi3 hx).step (fun F k => s_icmp_eq F hd hq2 (fun z => absurd z e) (fun _ => k))
        | ne =>
          replace hx : (if x0 = y then den L scr cal bs cs fuel is nb lo r h else jm bs cs a lo r h fun is nb => den L scr cal bs cs fuel is nb lo r h) = some x := hx
          by_cases e : x0 = y
          · rw [if_pos e] at hx
            exact (IH is _ nb lo r h x hrest hi3 hx).step (fun F k => s_icmp_ne F hd hq2 (fun _ => k) (fun z => absurd e z))
          · rw [if_neg e] at hx
            exact (jm_ok IH hbs hq hi3 hx).step (fun F k => s_icmp_ne F hd hq2 (fun z => absurd z e) (fun _ => k))
        | lt =>
          replace hx : (if x0 < y then jm bs cs a lo r h fun is nb => den L scr cal bs cs fuel is nb lo r h else den L scr cal bs cs fuel is nb lo r h) = some x := hx
          by_cases e : x0 < y
          · rw [if_pos e] at hx
            exact (jm_ok IH hbs hq hi3 hx).step (fun F k => s_icmp_lt F hd hq2 (fun _ => k) (fun z => absurd e z))
          · rw [if_neg e] at hx
            exact (IH is _ nb lo r h x hrest hi3 hx).step (fun F k => s_icmp_lt F hd hq2 (fun z => absurd z e) (fun _ => k))
        | ge =>
          replace hx : (if y ≤ x0 then jm bs cs a lo r h fun is nb => den L scr cal bs cs fuel is nb lo r h else den L scr cal bs cs fuel is nb lo r h) = some x := hx
          by_cases e : y ≤ x0
          · rw [if_pos e] at hx
            exact (jm_ok IH hbs hq hi3 hx).step (fun F k => s_icmp_ge F hd hq2 (fun _ => k) (fun z => absurd e z))
          · rw [if_neg e] at hx
            exact (IH is _ nb lo r h x hrest hi3 hx).step (fun F k => s_icmp_ge F hd hq2 (fun z => absurd z e) (fun _ => k))
        | gt =>
          replace hx : (if y < x0 then jm bs cs a lo r h fun is nb => den L scr cal bs cs fuel is nb lo r h else den L scr cal bs cs fuel is nb lo r h) = some x := hx
          by_cases e : y < x0
          · rw [if_pos e] at hx
            exact (jm_ok IH hbs hq hi3 hx).step (fun F k => s_icmp_gt F hd hq2 (fun _ => k) (fun z => absurd e z))
          · rw [if_neg e] at hx
            exact (IH is _ nb lo r h x hrest hi3 hx).step (fun F k => s_icmp_gt F hd hq2 (fun z => absurd z e) (fun _ => k))
        | le =>
          replace hx : (if x0 ≤ y then jm bs cs a lo r h fun is nb => den L scr cal bs cs fuel is nb lo r h else den L scr cal bs cs fuel is nb lo r h) = some x := hx
          by_cases e : x0 ≤ y
          · rw [if_pos e] at hx
            exact (jm_ok IH hbs hq hi3 hx).step (fun F k => s_icmp_le F hd hq2 (fun _ => k) (fun z => absurd e z))
          · rw [if_neg e] at hx
            exact (IH is _ nb lo r h x hrest hi3 hx).step (fun F k => s_icmp_le F hd hq2 (fun z => absurd z e) (fun _ => k))
      | ifCond q off =>
        replace hck : (decide (decode cc pc = .ok (.ifCond q off, 3)) && (tgB bs a pc off && ckS own ini law nL cc mt bs ret is (pc + 3) nb)) = true := hck
        rw [Bool.and_eq_true, Bool.and_eq_true, decide_eq_true_eq] at hck
        obtain ⟨hd, htg, hrest⟩ := hck
        obtain ⟨bq, hq, hq2⟩ := tgB_ok htg
        rcases st with _ | ⟨x0 | x0, r⟩
        all_goals first
          | exact no_some hx
          | skip
        have hi3 : Inv lo r h := hi.stk hi.2.1.2
        cases q with
        | eq =>
          replace hx : (if x0 = 0 then jm bs cs a lo r h fun is nb => den L scr cal bs cs fuel is nb lo r h else den L scr cal bs cs fuel is nb lo r h) = some x := hx
          by_cases e : x0 = 0
          · rw [if_pos e] at hx
            exact (jm_ok IH hbs hq hi3 hx).step (fun F k => s_if_eq F hd hq2 (fun _ => k) (fun z => absurd e z))
          · rw [if_neg e] at hx
            exact (IH is _ nb lo r h x hrest hi3 hx).step (fun F k => s_if_eq F hd hq2 (fun z => absurd z e) (fun _ => k))
        | ne =>
          replace hx : (if x0 = 0 then den L scr cal bs cs fuel is nb lo r h else jm bs cs a lo r h fun is nb => den L scr cal bs cs fuel is nb lo r h) = some x := hx
          by_cases e : x0 = 0
          · rw [if_pos e] at hx
            exact (IH is _ nb lo r h x hrest hi3 hx).step (fun F k => s_if_ne F hd hq2 (fun _ => k) (fun z => absurd e z))
          · rw [if_neg e] at hx
            exact (jm_ok IH hbs hq hi3 hx).step (fun F k => s_if_ne F hd hq2 (fun z => absurd z e) (fun _ => k))
        | lt =>
          replace hx : (if x0 < 0 then jm bs cs a lo r h fun is nb => den L scr cal bs cs fuel is nb lo r h else den L scr cal bs cs fuel is nb lo r h) = some x := hx
          by_cases e : x0 < 0
          · rw [if_pos e] at hx
            exact (jm_ok IH hbs hq hi3 hx).step (fun F k => s_if_lt F hd hq2 (fun _ => k) (fun z => absurd e z))
          · rw [if_neg e] at hx
            exact (IH is _ nb lo r h x hrest hi3 hx).step (fun F k => s_if_lt F hd hq2 (fun z => absurd z e) (fun _ => k))
        | ge =>
          replace hx : (if 0 ≤ x0 then jm bs cs a lo r h fun is nb => den L scr cal bs cs fuel is nb lo r h else den L scr cal bs cs fuel is nb lo r h) = some x := hx
          by_cases e : 0 ≤ x0
          · rw [if_pos e] at hx
            exact (jm_ok IH hbs hq hi3 hx).step (fun F k => s_if_ge F hd hq2 (fun _ => k) (fun z => absurd e z))
          · rw [if_neg e] at hx
            exact (IH is _ nb lo r h x hrest hi3 hx).step (fun F k => s_if_ge F hd hq2 (fun z => absurd z e) (fun _ => k))
        | gt =>
          replace hx : (if 0 < x0 then jm bs cs a lo r h fun is nb => den L scr cal bs cs fuel is nb lo r h else den L scr cal bs cs fuel is nb lo r h) = some x := hx
          by_cases e : 0 < x0
          · rw [if_pos e] at hx
            exact (jm_ok IH hbs hq hi3 hx).step (fun F k => s_if_gt F hd hq2 (fun _ => k) (fun z => absurd e z))
          · rw [if_neg e] at hx
            exact (IH is _ nb lo r h x hrest hi3 hx).step (fun F k => s_if_gt F hd hq2 (fun z => absurd z e) (fun _ => k))
        | le =>
          replace hx : (if x0 ≤ 0 then jm bs cs a lo r h fun is nb => den L scr cal bs cs fuel is nb lo r h else den L scr cal bs cs fuel is nb lo r h) = some x := hx
          by_cases e : x0 ≤ 0
          · rw [if_pos e] at hx
            exact (jm_ok IH hbs hq hi3 hx).step (fun F k => s_if_le F hd hq2 (fun _ => k) (fun z => absurd e z))
          · rw [if_neg e] at hx
            exact (IH is _ nb lo r h x hrest hi3 hx).step (fun F k => s_if_le F hd hq2 (fun z => absurd z e) (fun _ => k))
      | ifnull off =>
        replace hck : (decide (decode cc pc = .ok (.ifnull off, 3)) && (tgB bs a pc off && ckS own ini law nL cc mt bs ret is (pc + 3) nb)) = true := hck
        rw [Bool.and_eq_true, Bool.and_eq_true, decide_eq_true_eq] at hck
        obtain ⟨hd, htg, hrest⟩ := hck
        obtain ⟨bq, hq, hq2⟩ := tgB_ok htg
        rcases st with _ | ⟨y | y | y | y | y, r⟩
        all_goals first
          | exact no_some hx
          | skip
        · have hi3 : Inv lo r h := hi.stk hi.2.1.2
          exact (IH is _ nb lo r h x hrest hi3 hx).step (fun F k => s_ifnullR F hd hq2 k)
        · have hi3 : Inv lo r h := hi.stk hi.2.1.2
          exact (jm_ok IH hbs hq hi3 hx).step (fun F k => s_ifnullN F hd hq2 k)
      | ifnonnull off =>
        replace hck : (decide (decode cc pc = .ok (.ifnonnull off, 3)) && (tgB bs a pc off && ckS own ini law nL cc mt bs ret is (pc + 3) nb)) = true := hck
        rw [Bool.and_eq_true, Bool.and_eq_true, decide_eq_true_eq] at hck
        obtain ⟨hd, htg, hrest⟩ := hck
        obtain ⟨bq, hq, hq2⟩ := tgB_ok htg
        rcases st with _ | ⟨y | y | y | y | y, r⟩
        all_goals first
          | exact no_some hx
          | skip
        · have hi3 : Inv lo r h := hi.stk hi.2.1.2
          exact (jm_ok IH hbs hq hi3 hx).step (fun F k => s_ifnonnullR F hd hq2 k)
        · have hi3 : Inv lo r h := hi.stk hi.2.1.2
          exact (IH is _ nb lo r h x hrest hi3 hx).step (fun F k => s_ifnonnullN F hd hq2 k)
      | tableswitch dflt lw hh offs =>
        replace hck : tsB cc bs pc dflt lw hh offs a ts = true := hck
        rcases st with _ | ⟨y | y, r⟩
        all_goals first
          | exact no_some hx
          | skip
        exact tab_ok IH hbs hck hi hx
      | ireturn =>
        replace hck : (decide (decode cc pc = .ok (.ireturn, 1)) && cond (Nat.beq a 1) (decide (ret = some .boolean)) (decide (ret = some .int))) = true := hck
        rw [Bool.and_eq_true, decide_eq_true_eq] at hck
        obtain ⟨hd, hr⟩ := hck
        rcases st with _ | ⟨y | y, _ | ⟨z, r⟩⟩
        all_goals first
          | exact no_some hx
          | skip
        replace hx : (match (Nat.beq a 1) with | true => (rtZ y h) | false => (some (.inr (some (vI y), h)))) = some x := hx
        cases e : Nat.beq a 1 with
        | true =>
          rw [e] at hx hr
          have hr := of_decide_eq_true hr
          replace hx : (if y = 0 ∨ y = 1 then some (.inr (some (vI y), h)) else none) = some x := hx
          by_cases hz : y = 0 ∨ y = 1
          · rw [if_pos hz] at hx
            replace hx := Option.some.inj hx
            subst hx
            exact ret_gd (v := some (vI y)) hd (Or.inr (Or.inl ⟨rfl, hr, y, rfl, hz⟩)) hi
          · rw [if_neg hz] at hx; exact no_some hx
        | false =>
          rw [e] at hx hr
          have hr := of_decide_eq_true hr
          replace hx := Option.some.inj hx
          subst hx
          exact ret_gd (v := some (vI y)) hd (Or.inl ⟨rfl, hr, y, rfl⟩) hi
      | lreturn =>
        replace hck : (decide (decode cc pc = .ok (.lreturn, 1)) && decide (ret = some .long)) = true := hck
        rw [Bool.and_eq_true, decide_eq_true_eq, decide_eq_true_eq] at hck
        rcases st with _ | ⟨y | y | y, _ | ⟨z, r⟩⟩
        all_goals first
          | exact no_some hx
          | skip
        replace hx := Option.some.inj hx
        subst hx
        exact ret_gd (v := some (vL y)) hck.1 (Or.inr (Or.inr (Or.inl ⟨rfl, hck.2, y, rfl⟩))) hi
      | areturn =>
        replace hck : (decide (decode cc pc = .ok (.areturn, 1)) && retO ret) = true := hck
        rw [Bool.and_eq_true, decide_eq_true_eq] at hck
        rcases st with _ | ⟨y | y | ⟨s, n⟩ | y | y, _ | ⟨z, r⟩⟩
        all_goals first
          | exact no_some hx
          | skip
        replace hx : (match (Nat.beq s b) with | true => (some (.inr (some (vR s n), h))) | false => none) = some x := hx
        cases e : Nat.beq s b with
        | false => rw [e] at hx; exact no_some hx
        | true =>
          rw [e] at hx
          replace hx := Option.some.inj hx
          subst hx
          have hr : ∃ n, ret = some (.object n) := by
            have := hck.2
            unfold retO at this
            split at this
            · exact ⟨_, rfl⟩
            · exact absurd this (by decide)
          exact ret_gd (v := some (vR s n)) hck.1 (Or.inr (Or.inr (Or.inr (Or.inl ⟨rfl, hr, s, n, rfl⟩)))) hi
      | return_ =>
        replace hck : (decide (decode cc pc = .ok (.return_, 1)) && decide (ret = none)) = true := hck
        rw [Bool.and_eq_true, decide_eq_true_eq, decide_eq_true_eq] at hck
        rcases st with _ | ⟨z, r⟩
        all_goals first
          | exact no_some hx
          | skip
        replace hx := Option.some.inj hx
        subst hx
        exact ret_gd (v := none) hck.1 (Or.inr (Or.inr (Or.inr (Or.inr ⟨rfl, hck.2, rfl⟩)))) hi
      | _ =>
        first
        | (refine gen ?_ hx
           replace hck : (ckI own ini law nL cc mt pc _ && ckS own ini law nL cc mt bs ret is (pc + iln _) nb) = true := hck
           rw [Bool.and_eq_true] at hck
           exact hck)
end Blocks
