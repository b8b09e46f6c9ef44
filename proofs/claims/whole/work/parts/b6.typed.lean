/-! What a method returns has its type (printed by wip/whole/emittyped.py) -/
def RetT (ret : Option FieldType) (v : Option MV) : Prop := (ret = some .int ∨ ret = some .boolean → ∃ x, v = some (vI x)) ∧ (ret = some .long → ∃ x, v = some (vL x))
theorem retT_of {ret : Option FieldType} {ins : Instr} {v : Option MV} (h : retI ret ins v) : RetT ret v := by
  rcases h with ⟨-, hr, x, hv⟩ | ⟨-, hr, x, hv, -⟩ | ⟨-, hr, x, hv⟩ | ⟨-, ⟨n, hr⟩, -⟩ | ⟨-, hr, -⟩
  · exact ⟨fun _ => ⟨x, hv⟩, fun z => by rw [hr] at z; cases z⟩
  · exact ⟨fun _ => ⟨x, hv⟩, fun z => by rw [hr] at z; cases z⟩
  · exact ⟨fun z => (by rw [hr] at z; rcases z with z | z <;> cases z), fun _ => ⟨x, hv⟩⟩
  · exact ⟨fun z => (by rw [hr] at z; rcases z with z | z <;> cases z), fun z => by rw [hr] at z; cases z⟩
  · exact ⟨fun z => (by rw [hr] at z; rcases z with z | z <;> cases z), fun z => by rw [hr] at z; cases z⟩
def TdR (ret : Option FieldType) : Exit → Prop
  | .inl _ => True
  | .inr (v, _) => RetT ret v
section Blocks
variable {l : Launch} {own : String} {ini law : Bool} {cc : ByteArray} {nL L : Nat} {scr : Nat → Int32} {d : Nat} {mt : Nat → Option MT} {cal : Cal} {bs : List Blk} {cs : List Nat} {ret : Option FieldType} {pc nb : Nat} {lo : List (Option MV)} {st : List MV} {h : MH} {x : Exit}
def DeT (l : Launch) (own : String) (ini law : Bool) (cc : ByteArray) (nL L : Nat) (scr : Nat → Int32) (d : Nat) (mt : Nat → Option MT) (cal : Cal) (bs : List Blk) (cs : List Nat) (ret : Option FieldType) (fuel : Nat) : Prop :=
  ∀ (is : List MI) (pc nb : Nat) (lo : List (Option MV)) (st : List MV) (h : MH) (x : Exit), ckS own ini law nL cc mt bs ret is pc nb = true → Inv lo st h → den L scr cal bs cs fuel is nb lo st h = some x → TdR ret x
theorem jm_td {fuel : Nat} (IH : DeT l own ini law cc nL L scr d mt cal bs cs ret fuel) (hbs : ∀ (t : Nat) (q : Blk), bs[t]? = some q → ckS own ini law nL cc mt bs ret q.2.1 q.1 q.2.2 = true) {t : Nat} {q : Blk} (ht : bs[t]? = some q) (hi : Inv lo st h) (hx : jm bs cs t lo st h (fun is nb => den L scr cal bs cs fuel is nb lo st h) = some x) : TdR ret x := by
  replace hx : (match cs.any fun q => Nat.beq q t with
    | true => some (.inl (t, lo, st, h))
    | false => match bs[t]? with
      | some (_, is, nb) => den L scr cal bs cs fuel is nb lo st h
      | none => none) = some x := hx
  cases e : cs.any fun q => Nat.beq q t with
  | true =>
    rw [e] at hx
    replace hx := Option.some.inj hx
    subst hx
    trivial
  | false =>
    rw [e, ht] at hx
    exact IH q.2.1 q.1 q.2.2 lo st h x (hbs t q ht) hi hx
theorem tab_td {fuel : Nat} (IH : DeT l own ini law cc nL L scr d mt cal bs cs ret fuel) (hbs : ∀ (t : Nat) (q : Blk), bs[t]? = some q → ckS own ini law nL cc mt bs ret q.2.1 q.1 q.2.2 = true) {dflt lw hi : Int} {offs : Array Int} {a : Nat} {ts : List (Int32 × Nat)} {y : Int32} {r : List MV} (hck : tsB cc bs pc dflt lw hi offs a ts = true) (hi2 : Inv lo (vI y :: r) h) (hx : swt y (jm bs cs a lo r h fun is nb => den L scr cal bs cs fuel is nb lo r h) (fun t => jm bs cs t lo r h fun is nb => den L scr cal bs cs fuel is nb lo r h) ts = some x) : TdR ret x := by
  unfold tsB at hck
  rw [Bool.and_eq_true, Bool.and_eq_true, Bool.and_eq_true, decide_eq_true_eq] at hck
  obtain ⟨h1, h2, ⟨h3, h4, h5⟩, h6⟩ := hck
  unfold tsD at h1
  cases ed : decode cc pc with
  | error q => rw [ed] at h1; exact absurd (show false = true from h1) (by decide)
  | ok q =>
    obtain ⟨i2, len⟩ := q
    rw [ed] at h1
    have h1 := of_decide_eq_true h1
    subst h1
    have hi3 : Inv lo r h := hi2.stk hi2.2.1.2
    have ent : ∀ j, j < ts.length → ∃ c t off, ts[j]? = some (c, t) ∧ offs[j]? = some off ∧ c = Int32.ofInt (lw + j) ∧ tgB bs t pc off = true := by
      intro j hj
      have q := List.all_eq_true.mp h6 j (List.mem_range.mpr hj)
      unfold tsE at q
      cases e1 : ts[j]? with
      | none => rw [e1] at q; exact absurd (show false = true from q) (by decide)
      | some z =>
        cases e2 : offs[j]? with
        | none => rw [e1, e2] at q; exact absurd (show false = true from q) (by decide)
        | some off =>
          rw [e1, e2] at q
          replace q : (decide (z.1 = Int32.ofInt (lw + j)) && tgB bs z.2 pc off) = true := q
          rw [Bool.and_eq_true, decide_eq_true_eq] at q
          exact ⟨z.1, z.2, off, rfl, rfl, q.1, q.2⟩
    rcases swt_inv hx with ⟨j, c, t, g1, g2, g3⟩ | ⟨g1, g2⟩
    · have hj := (List.getElem?_eq_some_iff.mp g1).1
      obtain ⟨c1, t1, off, e1, e2, e3, e4⟩ := ent j hj
      rw [g1] at e1
      cases e1
      have ev : y.toInt = lw + j := by rw [g2, e3, Int32.toInt_ofInt_of_le (by omega) (by omega)]
      obtain ⟨q, hq, hq2⟩ := tgB_ok e4
      exact jm_td IH hbs hq hi3 g3
    · obtain ⟨q, hq, hq2⟩ := tgB_ok h2
      exact jm_td IH hbs hq hi3 g2
theorem den_td (hmt : MtOk mt) (hcal : CalOk l mt d cal) (hch : ChOk l own ini law cc nL L scr d) (hbs : ∀ (t : Nat) (q : Blk), bs[t]? = some q → ckS own ini law nL cc mt bs ret q.2.1 q.1 q.2.2 = true) : ∀ fuel, DeT l own ini law cc nL L scr d mt cal bs cs ret fuel := by
  intro fuel
  induction fuel with
  | zero => exact fun is pc nb lo st h x _ _ hx => no_some hx
  | succ fuel IH =>
    intro is pc nb lo st h x hck hi hx
    cases is with
    | nil =>
      replace hck : (match bs[nb]? with
        | some q => Nat.beq q.1 pc
        | none => false) = true := hck
      cases e : bs[nb]? with
      | none => rw [e] at hck; exact absurd (show false = true from hck) (by decide)
      | some q =>
        rw [e] at hck
        have hck := Nat.eq_of_beq_eq_true hck
        subst hck
        exact jm_td IH hbs e hi hx
    | cons i is =>
      obtain ⟨ins, cst, a, b, c, dd, ts⟩ := i
      have gen : ckI own ini law nL cc mt pc (ins, cst, a, b, c, dd, ts) = true ∧ ckS own ini law nL cc mt bs ret is (pc + iln ins) nb = true → ex1 L scr cal (ins, cst, a, b, c, dd, ts) lo st h (fun l st h => den L scr cal bs cs fuel is nb l st h) = some x → TdR ret x := by
        intro hk hx
        obtain ⟨lo', st', h', g1, g2, g3, g4⟩ := ex1_ok hmt hcal hch hi hk.1 hx
        exact IH is _ nb lo' st' h' x hk.2 g2 g1
      cases ins with
      | goto off =>
        replace hck : (decide (decode cc pc = .ok (.goto off, 3)) && tgB bs a pc off) = true := hck
        rw [Bool.and_eq_true, decide_eq_true_eq] at hck
        obtain ⟨q, hq, hq2⟩ := tgB_ok hck.2
        exact jm_td IH hbs hq hi hx
      | if_icmp q off =>
        replace hck : (decide (decode cc pc = .ok (.if_icmp q off, 3)) && (tgB bs a pc off && ckS own ini law nL cc mt bs ret is (pc + 3) nb)) = true := hck
        rw [Bool.and_eq_true, Bool.and_eq_true, decide_eq_true_eq] at hck
        obtain ⟨hd, htg, hrest⟩ := hck
        obtain ⟨bq, hq, hq2⟩ := tgB_ok htg
        rcases st with _ | ⟨y | y, _ | ⟨x0 | x0, r⟩⟩
        all_goals first
          | exact no_some hx
          | skip
        have hi3 : Inv lo r h := hi.stk hi.2.1.2.2
        cases q with
        | eq =>
          replace hx : (if x0 = y then jm bs cs a lo r h fun is nb => den L scr cal bs cs fuel is nb lo r h else den L scr cal bs cs fuel is nb lo r h) = some x := hx
          by_cases e : x0 = y
          · rw [if_pos e] at hx
            exact jm_td IH hbs hq hi3 hx
          · rw [if_neg e] at hx
            exact IH is _ nb lo r h x hrest hi3 hx
        | ne =>
          replace hx : (if x0 = y then den L scr cal bs cs fuel is nb lo r h else jm bs cs a lo r h fun is nb => den L scr cal bs cs fuel is nb lo r h) = some x := hx
          by_cases e : x0 = y
          · rw [if_pos e] at hx
            exact IH is _ nb lo r h x hrest hi3 hx
          · rw [if_neg e] at hx
            exact jm_td IH hbs hq hi3 hx
        | lt =>
          replace hx : (if x0 < y then jm bs cs a lo r h fun is nb => den L scr cal bs cs fuel is nb lo r h else den L scr cal bs cs fuel is nb lo r h) = some x := hx
          by_cases e : x0 < y
          · rw [if_pos e] at hx
            exact jm_td IH hbs hq hi3 hx
          · rw [if_neg e] at hx
            exact IH is _ nb lo r h x hrest hi3 hx
        | ge =>
          replace hx : (if y ≤ x0 then jm bs cs a lo r h fun is nb => den L scr cal bs cs fuel is nb lo r h else den L scr cal bs cs fuel is nb lo r h) = some x := hx
          by_cases e : y ≤ x0
          · rw [if_pos e] at hx
            exact jm_td IH hbs hq hi3 hx
          · rw [if_neg e] at hx
            exact IH is _ nb lo r h x hrest hi3 hx
        | gt =>
          replace hx : (if y < x0 then jm bs cs a lo r h fun is nb => den L scr cal bs cs fuel is nb lo r h else den L scr cal bs cs fuel is nb lo r h) = some x := hx
          by_cases e : y < x0
          · rw [if_pos e] at hx
            exact jm_td IH hbs hq hi3 hx
          · rw [if_neg e] at hx
            exact IH is _ nb lo r h x hrest hi3 hx
        | le =>
          replace hx : (if x0 ≤ y then jm bs cs a lo r h fun is nb => den L scr cal bs cs fuel is nb lo r h else den L scr cal bs cs fuel is nb lo r h) = some x := hx
          by_cases e : x0 ≤ y
          · rw [if_pos e] at hx
            exact jm_td IH hbs hq hi3 hx
          · rw [if_neg e] at hx
            exact IH is _ nb lo r h x hrest hi3 hx
      | ifCond q off =>
        replace hck : (decide (decode cc pc = .ok (.ifCond q off, 3)) && (tgB bs a pc off && ckS own ini law nL cc mt bs ret is (pc + 3) nb)) = true := hck
        rw [Bool.and_eq_true, Bool.and_eq_true, decide_eq_true_eq] at hck
        obtain ⟨hd, htg, hrest⟩ := hck
        obtain ⟨bq, hq, hq2⟩ := tgB_ok htg
        rcases st with _ | ⟨x0 | x0, r⟩
        all_goals first
          | exact no_some hx
          | skip
        have hi3 : Inv lo r h := hi.stk hi.2.1.2
        cases q with
        | eq =>
          replace hx : (if x0 = 0 then jm bs cs a lo r h fun is nb => den L scr cal bs cs fuel is nb lo r h else den L scr cal bs cs fuel is nb lo r h) = some x := hx
          by_cases e : x0 = 0
          · rw [if_pos e] at hx
            exact jm_td IH hbs hq hi3 hx
          · rw [if_neg e] at hx
            exact IH is _ nb lo r h x hrest hi3 hx
        | ne =>
          replace hx : (if x0 = 0 then den L scr cal bs cs fuel is nb lo r h else jm bs cs a lo r h fun is nb => den L scr cal bs cs fuel is nb lo r h) = some x := hx
          by_cases e : x0 = 0
          · rw [if_pos e] at hx
            exact IH is _ nb lo r h x hrest hi3 hx
          · rw [if_neg e] at hx
            exact jm_td IH hbs hq hi3 hx
        | lt =>
          replace hx : (if x0 < 0 then jm bs cs a lo r h fun is nb => den L scr cal bs cs fuel is nb lo r h else den L scr cal bs cs fuel is nb lo r h) = some x := hx
          by_cases e : x0 < 0
          · rw [if_pos e] at hx
            exact jm_td IH hbs hq hi3 hx
          · rw [if_neg e] at hx
            exact IH is _ nb lo r h x hrest hi3 hx
        | ge =>
          replace hx : (if 0 ≤ x0 then jm bs cs a lo r h fun is nb => den L scr cal bs cs fuel is nb lo r h else den L scr cal bs cs fuel is nb lo r h) = some x := hx
          by_cases e : 0 ≤ x0
          · rw [if_pos e] at hx
            exact jm_td IH hbs hq hi3 hx
          · rw [if_neg e] at hx
            exact IH is _ nb lo r h x hrest hi3 hx
        | gt =>
          replace hx : (if 0 < x0 then jm bs cs a lo r h fun is nb => den L scr cal bs cs fuel is nb lo r h else den L scr cal bs cs fuel is nb lo r h) = some x := hx
          by_cases e : 0 < x0
          · rw [if_pos e] at hx
            exact jm_td IH hbs hq hi3 hx
          · rw [if_neg e] at hx
            exact IH is _ nb lo r h x hrest hi3 hx
        | le =>
          replace hx : (if x0 ≤ 0 then jm bs cs a lo r h fun is nb => den L scr cal bs cs fuel is nb lo r h else den L scr cal bs cs fuel is nb lo r h) = some x := hx
          by_cases e : x0 ≤ 0
          · rw [if_pos e] at hx
            exact jm_td IH hbs hq hi3 hx
          · rw [if_neg e] at hx
            exact IH is _ nb lo r h x hrest hi3 hx
      | ifnull off =>
        replace hck : (decide (decode cc pc = .ok (.ifnull off, 3)) && (tgB bs a pc off && ckS own ini law nL cc mt bs ret is (pc + 3) nb)) = true := hck
        rw [Bool.and_eq_true, Bool.and_eq_true, decide_eq_true_eq] at hck
        obtain ⟨hd, htg, hrest⟩ := hck
        obtain ⟨bq, hq, hq2⟩ := tgB_ok htg
        rcases st with _ | ⟨y | y | y | y | y, r⟩
        all_goals first
          | exact no_some hx
          | skip
        · have hi3 : Inv lo r h := hi.stk hi.2.1.2
          exact IH is _ nb lo r h x hrest hi3 hx
        · have hi3 : Inv lo r h := hi.stk hi.2.1.2
          exact jm_td IH hbs hq hi3 hx
      | ifnonnull off =>
        replace hck : (decide (decode cc pc = .ok (.ifnonnull off, 3)) && (tgB bs a pc off && ckS own ini law nL cc mt bs ret is (pc + 3) nb)) = true := hck
        rw [Bool.and_eq_true, Bool.and_eq_true, decide_eq_true_eq] at hck
        obtain ⟨hd, htg, hrest⟩ := hck
        obtain ⟨bq, hq, hq2⟩ := tgB_ok htg
        rcases st with _ | ⟨y | y | y | y | y, r⟩
        all_goals first
          | exact no_some hx
          | skip
        · have hi3 : Inv lo r h := hi.stk hi.2.1.2
          exact jm_td IH hbs hq hi3 hx
        · have hi3 : Inv lo r h := hi.stk hi.2.1.2
          exact IH is _ nb lo r h x hrest hi3 hx
      | tableswitch dflt lw hh offs =>
        replace hck : tsB cc bs pc dflt lw hh offs a ts = true := hck
        rcases st with _ | ⟨y | y, r⟩
        all_goals first
          | exact no_some hx
          | skip
        exact tab_td IH hbs hck hi hx
      | ireturn =>
        replace hck : (decide (decode cc pc = .ok (.ireturn, 1)) && cond (Nat.beq a 1) (decide (ret = some .boolean)) (decide (ret = some .int))) = true := hck
        rw [Bool.and_eq_true, decide_eq_true_eq] at hck
        obtain ⟨hd, hr⟩ := hck
        rcases st with _ | ⟨y | y, _ | ⟨z, r⟩⟩
        all_goals first
          | exact no_some hx
          | skip
        replace hx : (match (Nat.beq a 1) with | true => (rtZ y h) | false => (some (.inr (some (vI y), h)))) = some x := hx
        cases e : Nat.beq a 1 with
        | true =>
          rw [e] at hx hr
          have hr := of_decide_eq_true hr
          replace hx : (if y = 0 ∨ y = 1 then some (.inr (some (vI y), h)) else none) = some x := hx
          by_cases hz : y = 0 ∨ y = 1
          · rw [if_pos hz] at hx
            replace hx := Option.some.inj hx
            subst hx
            exact retT_of (ins := .ireturn) (v := some (vI y)) (Or.inr (Or.inl ⟨rfl, hr, y, rfl, hz⟩))
          · rw [if_neg hz] at hx; exact no_some hx
        | false =>
          rw [e] at hx hr
          have hr := of_decide_eq_true hr
          replace hx := Option.some.inj hx
          subst hx
          exact retT_of (ins := .ireturn) (v := some (vI y)) (Or.inl ⟨rfl, hr, y, rfl⟩)
      | lreturn =>
        replace hck : (decide (decode cc pc = .ok (.lreturn, 1)) && decide (ret = some .long)) = true := hck
        rw [Bool.and_eq_true, decide_eq_true_eq, decide_eq_true_eq] at hck
        rcases st with _ | ⟨y | y | y, _ | ⟨z, r⟩⟩
        all_goals first
          | exact no_some hx
          | skip
        replace hx := Option.some.inj hx
        subst hx
        exact retT_of (ins := .lreturn) (v := some (vL y)) (Or.inr (Or.inr (Or.inl ⟨rfl, hck.2, y, rfl⟩)))
      | areturn =>
        replace hck : (decide (decode cc pc = .ok (.areturn, 1)) && retO ret) = true := hck
        rw [Bool.and_eq_true, decide_eq_true_eq] at hck
        rcases st with _ | ⟨y | y | ⟨s, n⟩ | y | y, _ | ⟨z, r⟩⟩
        all_goals first
          | exact no_some hx
          | skip
        replace hx : (match (Nat.beq s b) with | true => (some (.inr (some (vR s n), h))) | false => none) = some x := hx
        cases e : Nat.beq s b with
        | false => rw [e] at hx; exact no_some hx
        | true =>
          rw [e] at hx
          replace hx := Option.some.inj hx
          subst hx
          have hr : ∃ n, ret = some (.object n) := by
            have := hck.2
            unfold retO at this
            split at this
            · exact ⟨_, rfl⟩
            · exact absurd this (by decide)
          exact retT_of (ins := .areturn) (v := some (vR s n)) (Or.inr (Or.inr (Or.inr (Or.inl ⟨rfl, hr, s, n, rfl⟩))))
      | return_ =>
        replace hck : (decide (decode cc pc = .ok (.return_, 1)) && decide (ret = none)) = true := hck
        rw [Bool.and_eq_true, decide_eq_true_eq, decide_eq_true_eq] at hck
        rcases st with _ | ⟨z, r⟩
        all_goals first
          | exact no_some hx
          | skip
        replace hx := Option.some.inj hx
        subst hx
        exact retT_of (ins := .return_) (v := none) (Or.inr (Or.inr (Or.inr (Or.inr ⟨rfl, hck.2, rfl⟩))))
      | _ =>
        first
        | (refine gen ?_ hx
           replace hck : (ckI own ini law nL cc mt pc _ && ckS own ini law nL cc mt bs ret is (pc + iln _) nb) = true := hck
           rw [Bool.and_eq_true] at hck
           exact hck)
end Blocks
section SemT
variable {l : Launch} {own : String} {ini law : Bool} {cc : ByteArray} {nL L : Nat} {scr : Nat → Int32} {d : Nat} {mt : Nat → Option MT} {cal : Cal} {bs : List Blk} {cs : List Nat} {ret : Option FieldType}
theorem sem_td (hmt : MtOk mt) (hcal : CalOk l mt d cal) (hch : ChOk l own ini law cc nL L scr d) (hbs : ∀ (t : Nat) (q : Blk), bs[t]? = some q → ckS own ini law nL cc mt bs ret q.2.1 q.1 q.2.2 = true) : ∀ (N t : Nat) (lo : List (Option MV)) (st : List MV) (h : MH) (r : RT), Inv lo st h → sem L scr cal bs cs N t lo st h = some r → RetT ret r.1 := by
  intro N
  induction N with
  | zero => exact fun t lo st h r _ hx => no_some hx
  | succ N IH =>
    intro t lo st h r hi hx
    replace hx : (match dn L scr cal bs cs t lo st h with
      | some (.inl (t, l, st, h)) => sem L scr cal bs cs N t l st h
      | some (.inr r) => some r
      | none => none) = some r := hx
    cases e : dn L scr cal bs cs t lo st h with
    | none => rw [e] at hx; exact no_some hx
    | some x =>
      rw [e] at hx
      replace e : (match bs[t]? with
        | some (_, is, nb) => den L scr cal bs cs 4000 is nb lo st h
        | none => none) = some x := e
      cases eb : bs[t]? with
      | none => rw [eb] at e; exact no_some e
      | some b =>
        rw [eb] at e
        have g := den_td hmt hcal hch hbs 4000 b.2.1 b.1 b.2.2 lo st h x (hbs t b eb) hi e
        obtain ⟨g1, -, -⟩ := den_ok hmt hcal hch hbs 4000 b.2.1 b.1 b.2.2 lo st h x (hbs t b eb) hi e
        rcases x with ⟨t1, l1, st1, h1⟩ | ⟨v, h1⟩
        · exact IH t1 l1 st1 h1 r g1 hx
        · replace hx := Option.some.inj hx
          subst hx
          exact g
end SemT
theorem ev_typ {l : Launch} {mt : Nat → Option MT} {L : Nat} {scr : Nat → Int32} {d j : Nat} {q : MT} {as : List MV} {h : MH} {r : RT} (hmt : MtOk mt) (hck : MtCk mt) (hch : ∀ d own ini cc nL, ChOk l own ini false cc nL L scr d) (hj : Nat.beq j 902 = false) (hm : mathB j = false) (hq : mt j = some q) (hw : Wf h) (ho : oks h as) (hx : evM mt L scr (d + 1) j as h = some r) : RetT q.1.2.2.2.1 r.1 ∧ Wf r.2 ∧ Mono h r.2 := by
  obtain ⟨m1, m2, -⟩ := evM_ok hmt hck hch (d + 1) j as h r.1 r.2 hx hw ho
  refine ⟨?_, m2, m1⟩
  replace hx : (match Nat.beq j 902 with
    | true => match Nat.ble 4 (d + 1) with
      | true => chM as h
      | false => none
    | false => match mt j with
      | some q => match mathB j with
        | true => mathM j as h
        | false => pick (fun r => runM L scr (evM mt L scr d) q.1 as h r)
      | none => none) = some r := hx
  rw [hj, hq, hm] at hx
  obtain ⟨hlen, N, hN⟩ := pick_some hx
  obtain ⟨-, -, hbs⟩ := hck j q hm hq
  exact sem_td (own := q.1.1.cls) (ini := Nat.beq q.1.2.2.2.2.1 2) (law := false) (nL := q.1.2.2.1) (cc := q.1.2.1) (ret := q.1.2.2.2.1) hmt (evM_ok hmt hck hch d) (hch _ _ _ _ _) hbs N 0 _ _ h r (ent_inv hw ho) hN
