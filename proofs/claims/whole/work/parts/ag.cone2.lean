/-! CONDITIONS, on the class's side: one -/
section COne2
variable {L : Nat} {scr : Nat → Int32}
/-- from the words not on -/
theorem one_run {ls : List (Nat × Nat)} {m k d : Nat} (hk : k ≤ 8) (H : ∀ j, j < k → OneOk L scr ls m j) : ∀ (k' c : Nat), c + k' = k → ∀ (h : MH) (b : Nat) (l : List (Nat × Nat)), CP h ls (.inl l) → CdN h m b → GapL l → 3 * b + 3 * c ≤ hdP l → ∃ h2, Sm L scr (d + 3 * k + 1) B_Reader_readOne C_Reader_readOne 1 [some (vR 900006 0), some (vR 900005 m), some (vI (nI (8 - k))), some (vI (nI (8 - k + c))), none, none, none] [] h (none, h2) ∧ Upd (WOne m) h h2 ∧ CT h h2 ls m (2 * k + 1) b (hdP l) c (pOne k' l) := by
  intro k'
  induction k' with
  | zero =>
    intro c hc h b l cp hb gp b3
    obtain ⟨i, t, ea, i9, et, tt, cu⟩ := id cp.cur
    obtain ⟨g, r, rfl⟩ := cu _ rfl
    obtain ⟨h2, s, u, t2⟩ := one_T (L := L) (scr := scr) (d := d + 3 * k) (o := 8 - k) (c := c) (D := 2 * k + 1) (by omega) (by omega) cp hb gp (Or.inl (by omega)) b3 (by omega) none none none
    refine ⟨h2, Sm.step ?_ s, u, t2⟩
    rw [t_Reader_readOne_1, if_pos (show (8 : Int32) ≤ nI (8 - k + c) by rw [show 8 - k + c = 8 by omega]; decide)]
  | succ k' ihk =>
    intro c hc h b l cp hb gp b3
    obtain ⟨i, t, ea, i9, et, tt, cu⟩ := id cp.cur
    obtain ⟨g, r, rfl⟩ := cu _ rfl
    have ob : ¬ oob (nI i) 901 := oob_nI i9 (by decide)
    have ixi : ix (nI i) = i := ix_nI (by omega)
    have rf : hI h 705 0 0 = -1 := by obtain ⟨-, -, i, -, -, -, c6⟩ := cp; exact c6
    have o8 : ¬ (8 : Int32) ≤ nI (8 - k + c) := nI_ge (b := 8) (by omega) (by decide)
    obtain ⟨g9, hd⟩ := cp.hd
    by_cases t22 : t = 22
    · subst t22
      have et2 : hI h 702000901 0 i = 22 := et
      obtain ⟨h1, e1, u1, c1⟩ := c_pass (L := L) (scr := scr) (d := d + 3 * k) cp (by decide)
      have e1' : E L scr (d + 3 * k + 1) 77 [vR 900006 0, vI 22] h = some (none, h1) := e1
      have gr : GapL r ∧ g + 3 ≤ hdP r := by
        cases r with
        | nil => rcases hd with ⟨z, -⟩ | ⟨-, z⟩; (omega); exact z.elim
        | cons q r2 => exact ⟨gp.2, by have := gp.1; have w : tkW 22 = 3 := by decide
                                       show g + 3 ≤ q.2; omega⟩
      replace b3 : 3 * b + 3 * c ≤ g := b3
      obtain ⟨h2, s, u, t2⟩ := ihk (c + 1) (by omega) h1 b r c1 (hb.rd u1) gr.1 (by omega)
      refine ⟨h2, Sm.step ?_ s, (u1.mono WOne_l).tr u, ?_⟩
      · rw [t_Reader_readOne_1, if_neg o8, rf, if_pos rfl, ea, rd_Reader_tokens ob, ixi, et2, if_pos rfl, e1', clV_ok, nI_1, Nat.add_assoc]
      · have e : pOne (k' + 1) ((22, g) :: r) = pNot (pOne k' r) := if_pos rfl
        rw [e]
        exact CT.pre (fun j _ => by rw [u1.2 _ _ WRd_cd.1]) (Nat.le_refl _) (CT.not gr.2 t2)
    · have st : ∀ h2, Sm L scr (d + 3 * k + 1) B_Reader_readOne C_Reader_readOne 2 [some (vR 900006 0), some (vR 900005 m), some (vI (nI (8 - k))), some (vI (nI (8 - k + c))), none, none, none] [] h (none, h2) → Sm L scr (d + 3 * k + 1) B_Reader_readOne C_Reader_readOne 1 [some (vR 900006 0), some (vR 900005 m), some (vI (nI (8 - k))), some (vI (nI (8 - k + c))), none, none, none] [] h (none, h2) := fun h2 s => by
        refine Sm.step ?_ s
        rw [t_Reader_readOne_1, if_neg o8, rf, if_pos rfl, ea, rd_Reader_tokens ob, ixi, et, if_neg (show ¬ tkI t = 22 from fun z => t22 ((tkI_eq (c := 22) tt (by decide)).mp z))]
      by_cases t40 : t = 40
      · subst t40
        have et2 : hI h 702000901 0 i = 40 := et
        obtain ⟨h1, e1, u1, c1⟩ := c_pass (L := L) (scr := scr) (d := d + 3 * k) cp (by decide)
        have e1' : E L scr (d + 3 * k + 1) 77 [vR 900006 0, vI 40] h = some (none, h1) := e1
        have gr : GapL r ∧ g + 1 ≤ hdP r := by
          cases r with
          | nil => rcases hd with ⟨z, -⟩ | ⟨-, z⟩; (omega); exact z.elim
          | cons q r2 => exact ⟨gp.2, by have := gp.1; have w : tkW 40 = 1 := by decide
                                         show g + 1 ≤ q.2; omega⟩
        replace b3 : 3 * b + 3 * c ≤ g := b3
        obtain ⟨h2, e2, u2, t2⟩ := any_of (H k' (by omega)) (d + 3 * (k - 1 - k')) h1 b r c1 (hb.rd u1) gr.1 (by omega)
        rw [show d + 3 * (k - 1 - k') + 3 * k' + 4 = d + 3 * k + 1 by omega, show 8 - k' = 8 - k + c + 1 by omega] at e2
        have cd1 : ∀ j, j < b → hI h1 616000300 m j = hI h 616000300 m j := fun j _ => by rw [u1.2 _ _ WRd_cd.1]
        have fin : ∀ h3, E L scr (d + 3 * k + 1) 77 [vR 900006 0, vI 41] h2 = some (none, h3) → ∀ h4, (c % 2 = 1 → E L scr (d + 3 * k + 1) 55 [vR 900005 m, vI (-1)] h3 = some (none, h4)) → (¬ c % 2 = 1 → h4 = h3) → Sm L scr (d + 3 * k + 1) B_Reader_readOne C_Reader_readOne 1 [some (vR 900006 0), some (vR 900005 m), some (vI (nI (8 - k))), some (vI (nI (8 - k + c))), none, none, none] [] h (none, h4) := fun h3 e3 h4 y n => st h4 (Sm.ret (by
          rw [t_Reader_readOne_2, if_neg o8, rf, if_pos rfl, ea, rd_Reader_tokens ob, ixi, et2, if_pos rfl, e1', clV_ok, nI_1, e2, clV_ok, e3, clV_ok, dvI_ok (by decide)]
          by_cases p : c % 2 = 1
          · rw [if_pos ((par_i (by omega)).mpr p), y p, clV_ok]
          · rw [if_neg (fun z => p ((par_i (by omega)).mp z)), n p]))
        have ref : ∀ h3 g2 b2, E L scr (d + 3 * k + 1) 77 [vR 900006 0, vI 41] h2 = some (none, h3) → Upd WRd h2 h3 → CP h3 ls (.inr g2) → CdN h3 m b2 → ∃ h4, Sm L scr (d + 3 * k + 1) B_Reader_readOne C_Reader_readOne 1 [some (vR 900006 0), some (vR 900005 m), some (vI (nI (8 - k))), some (vI (nI (8 - k + c))), none, none, none] [] h (none, h4) ∧ Upd (WOne m) h h4 ∧ CT h h4 ls m (2 * k + 1) b g c (.inr g2) := fun h3 g2 b2 e3 u3 c3 n3 => by
          obtain ⟨h4, b4, e4, u4, n4⟩ := c_emitN (L := L) (scr := scr) (d := d + 3 * k) (-1) n3
          by_cases p : c % 2 = 1
          · exact ⟨h4, fin h3 e3 h4 (fun _ => e4) (fun z => absurd p z), (u1.mono WOne_l).tr (u2.tr ((u3.mono WOne_l).tr (u4.mono WOne_r))), c3.fr u4 WLw_rd, b4, n4⟩
          · exact ⟨h3, fin h3 e3 h3 (fun z => absurd z p) (fun _ => rfl), (u1.mono WOne_l).tr (u2.tr (u3.mono WOne_l)), c3, b2, n3⟩
        have pe : pOne (k' + 1) ((40, g) :: r) = pShut (pAny (pOne k') r) := by
          show (if 40 = 22 then _ else if 40 = 40 then _ else _) = _
          rw [if_neg (by decide), if_pos rfl]
        rw [pe]
        cases ep : pAny (pOne k') r with
        | inr g2 =>
          rw [ep] at t2
          obtain ⟨c2, b2, n2⟩ := t2
          exact ref h2 g2 b2 (c_takeR (d := d + 3 * k) c2 41) (Upd.rf _ h2) c2 n2
        | inl y =>
          obtain ⟨r2, φ⟩ := y
          rw [ep] at t2
          obtain ⟨c2, gp2, b2, n2, bb, by2, kj, sg⟩ := t2
          obtain ⟨i2, t2, -, -, -, tt2, cu2⟩ := id c2.cur
          obtain ⟨g2, r3, rfl⟩ := cu2 _ rfl
          obtain ⟨g29, hd2⟩ := c2.hd
          replace by2 : hdP r + 3 * (b2 - b) + 2 ≤ g2 + 3 * 0 := by2
          by_cases t41 : t2 = 41
          · subst t41
            obtain ⟨h3, e3, u3, c3⟩ := c_pass (L := L) (scr := scr) (d := d + 3 * k) c2 (by decide)
            have gr3 : GapL r3 ∧ g2 + 1 ≤ hdP r3 := by
              cases r3 with
              | nil => rcases hd2 with ⟨z, -⟩ | ⟨-, z⟩; (omega); exact z.elim
              | cons q r4 => exact ⟨gp2.2, by have := gp2.1; have w : tkW 41 = 1 := by decide
                                              show g2 + 1 ≤ q.2; omega⟩
            have cd3 : hI h3 616000300 m = hI h2 616000300 m := u3.2 _ _ WRd_cd.1
            have sg3 : ∀ v, SegL (fun j => dcC v (hI h3 616000300 m j)) (2 * k + 1) b b2 (φ v) := fun v => by
              have := sg v
              rw [if_neg (by decide)] at this
              rw [cd3]
              exact this.mono (by omega)
            have ps : pShut (.inl ((41, g2) :: r3, φ)) = .inl (r3, φ) := by
              show (if 41 = 41 then (Sum.inl (r3, φ) : PC) else .inr g2) = _
              exact if_pos rfl
            rw [ps]
            by_cases p : c % 2 = 1
            · obtain ⟨h4, e4, u4, ⟨b24, n4, k4⟩ | ⟨b24, -⟩⟩ := c_emit (L := L) (scr := scr) (d := d + 3 * k) (-1) (n2.rd u3)
              · refine ⟨h4, fin h3 e3 h4 (fun _ => e4) (fun z => absurd p z), (u1.mono WOne_l).tr (u2.tr ((u3.mono WOne_l).tr (u4.mono WOne_r))), c3.fr u4 WLw_rd, gr3.1, b2 + 1, ⟨by omega, n4⟩, by omega, by show g + _ + 2 ≤ _; omega, fun j hj => ?_, fun v => ?_⟩
                · rw [k4, up_n (by omega), cd3, kj j hj, cd1 j hj]
                · rw [if_pos p]
                  refine SegL.turn (SegL.cong (sg3 v) (fun q q1 q2 => ?_)) (by omega) ?_
                  · show dcC v (hI h4 616000300 m q) = dcC v (hI h3 616000300 m q)
                    rw [k4, up_n (by omega)]
                  · show (dcC v (hI h4 616000300 m b2)).1 = 1
                    rw [k4, up_s]; rfl
              · omega
            · refine ⟨h3, fin h3 e3 h3 (fun z => absurd z p) (fun _ => rfl), (u1.mono WOne_l).tr (u2.tr (u3.mono WOne_l)), c3, gr3.1, b2, n2.rd u3, by omega, by show g + _ + 2 ≤ _; omega, fun j hj => by rw [cd3, kj j hj, cd1 j hj], fun v => ?_⟩
              rw [if_neg p]; exact sg3 v
          · obtain ⟨h3, e3, u3, c3⟩ := c_takeN (L := L) (scr := scr) (d := d + 3 * k) (k := 41) c2 (by decide)
            have z : tkP (fun t => decide (t = 41)) (.inl ((t2, g2) :: r3)) = .inr g2 := by
              show (if decide (t2 = 41) = true then _ else _) = _
              rw [if_neg (fun z => t41 (of_decide_eq_true z))]
            rw [z] at c3
            have ps : pShut (.inl ((t2, g2) :: r3, φ)) = .inr g2 := if_neg t41
            rw [ps]
            exact ref h3 g2 b2 e3 u3 c3 (n2.rd u3)
      · obtain ⟨h2, s, u, t2⟩ := one_T (L := L) (scr := scr) (d := d + 3 * k) (o := 8 - k) (c := c) (D := 2 * k + 1) (by omega) (by omega) cp hb gp (Or.inr t40) b3 (by omega) none none none
        refine ⟨h2, st h2 s, u, ?_⟩
        have pe : pOne (k' + 1) ((t, g) :: r) = pTest ((t, g) :: r) := by
          show (if t = 22 then _ else if t = 40 then _ else _) = _
          rw [if_neg t22, if_neg t40]
        rw [pe]; exact t2
theorem one_ok {ls : List (Nat × Nat)} {m : Nat} : ∀ K k, k < K → k ≤ 8 → OneOk L scr ls m k := by
  intro K
  induction K with
  | zero => intro k hk; exact absurd hk (Nat.not_lt_zero k)
  | succ K ih =>
    intro k hk k8 d h b l cp hb gp b3
    obtain ⟨h2, s, u, t⟩ := one_run (L := L) (scr := scr) (d := d) k8 (fun j hj => ih j (by omega) (by omega)) k 0 (by omega) h b l cp hb gp (by omega)
    exact ⟨h2, r_Reader_readOne (d := d + 3 * k + 1) _ _ _ _ (Sm.step (by rw [t_Reader_readOne_0]; rfl) s), u, t⟩
theorem c_readAny {ls : List (Nat × Nat)} {m : Nat} (d : Nat) (h : MH) (b : Nat) (l : List (Nat × Nat)) (cp : CP h ls (.inl l)) (hb : CdN h m b) (gp : GapL l) (b3 : 3 * b ≤ hdP l) : ∃ h2, E L scr (d + 28) 87 [vR 900006 0, vR 900005 m, vI 0] h = some (none, h2) ∧ Upd (WOne m) h h2 ∧ CT h h2 ls m 19 b (hdP l) 0 (pAny (pOne 8) l) := any_of (one_ok 9 8 (by decide) (Nat.le_refl _)) d h b l cp hb gp b3
end COne2
