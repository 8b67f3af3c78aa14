/-! text: both read alike -/
theorem stepQ {T V : Nat → Nat} {l t : Nat} (hl : l = 1 ∨ l = 2 ∨ l = 4 ∨ l = 5 ∨ l = 6) (P : T t ≠ 0 → ∀ t', t < t' → clP T V (l + 1) t' ∧ clQ T V l t') : clQ T V l t := by
  intro st ro out hc htop hro hf
  have n3 : ¬ 10 + l = 3 := by omega
  have n7 : ¬ 10 + l = 7 := by omega
  have nx : ¬ (10 + l = 1 ∨ 10 + l = 2 ∨ 10 + l = 4 ∨ 10 + l = 5 ∨ 10 + l = 6) := by omega
  have e10 : 10 + l - 10 = l := by omega
  have hro' : ∀ x, x ∈ ro → l ≤ rkS x := fun x hx => by have := hro x hx; split at this <;> omega
  cases h : sg2 l (T t) with
  | none =>
    refine ⟨1, (true, t, out ++ ro.map opS), ?_, fun _ => ⟨Nat.le_refl _, ro, out, hro', rfl, fun g => by rw [Nat.sub_self, Nat.add_zero], sg2_none h hl hf⟩, fun w => absurd w (by simp)⟩
    rw [rd, if_neg n3, if_neg n7, if_neg nx, e10, h]
  | some b =>
    obtain ⟨-, c0, c59, c41, s, es, er, eo, e12, ec⟩ := sg2_some h
    have hP := P c0
    have top4 : ¬ (rkS s = 4 ∧ topR st = 4) := by
      rintro ⟨w1, w2⟩
      rcases htop with q | q
      · rw [q] at w2; exact absurd w2 (by decide)
      · omega
    have step : ∀ g, ms T V (g + 1) t (ro ++ st) 0 out = ms T V g (t + 1) (s :: st) (if s ≤ 12 then 2 else 1) (out ++ ro.map opS) := by
      intro g
      have eu : unw (if rkS s = 4 then 5 else rkS s) (ro ++ st) out = (st, out ++ ro.map opS) := by
        rw [er]
        refine unw_app (topLt_mono htop (by split <;> omega)) ro out hro
      rw [ms, if_pos rfl, if_neg c59, if_neg c41, es]
      simp only
      rw [eu, if_neg top4]
    have cs : cntS (s :: st) = cntS st := by rw [cntS, if_neg ec, Nat.zero_add]
    obtain ⟨f1, r1, e1, ok1, no1⟩ := (hP (t + 1) (by omega)).1 (s :: st) (if s ≤ 12 then 2 else 1) (out ++ ro.map opS) (by rw [cs]; exact hc) (Or.inr (by show rkS s < _; split <;> omega)) (by by_cases q : s ≤ 12; exact Or.inl (if_pos q); exact Or.inr ⟨if_neg q, by omega⟩) (fun q w => by
      have : ¬ s ≤ 12 := by omega
      rw [if_neg this] at w
      exact absurd w (by decide))
    rw [cs] at e1
    by_cases b1 : r1.1 = true
    · obtain ⟨⟨-, t1⟩, ro1, out1, q1, q2, q3, q4⟩ := ok1 b1
      have eops : r1.2.2 ++ [oTwo b] = out1 ++ (ro1 ++ [s]).map opS := by rw [q2, List.map_append, List.append_assoc]; simp [eo]
      have q1' : ∀ x, x ∈ ro1 ++ [s] → l ≤ rkS x := fun x hx => by
        rcases List.mem_append.mp hx with w | w
        · have := q1 x w; omega
        · have : x = s := by simpa using w
          rw [this]; omega
      by_cases l4 : l = 4
      · refine ⟨f1 + 1, (true, r1.2.1, r1.2.2 ++ [oTwo b]), ?_, fun _ => ⟨by show t ≤ r1.2.1; omega, ro1 ++ [s], out1, q1', eops, fun g => ?_, ?_⟩, fun w => absurd w (by simp)⟩
        · rw [rd, if_neg n3, if_neg n7, if_neg nx, e10, h]
          simp only
          rw [e1]
          simp only
          rw [if_pos b1, if_pos (by omega)]
        · show ms T V (g + (r1.2.1 - t)) t (ro ++ st) 0 out = _
          rw [show g + (r1.2.1 - t) = (g + (r1.2.1 - (t + 1))) + 1 by omega, step, q3, List.append_assoc]
          rfl
        · show fol l (ro1 ++ [s]) (T r1.2.1)
          obtain ⟨-, -, -, d, e⟩ := q4
          refine ⟨fun w => by omega, fun w => by omega, fun _ _ => ⟨ro1, s, [], by simp, fun y hy => by have := q1 y hy; omega, by omega⟩, fun w => d (by omega), fun w => e (by omega)⟩
      · obtain ⟨f2, r2, e2, ok2, no2⟩ := (hP r1.2.1 (by omega)).2 st (ro1 ++ [s]) out1 hc htop (fun x hx => by rw [if_neg l4]; exact q1' x hx) (fol_app q4)
        rw [← eops] at e2
        have run : ∀ g, ms T V (g + (r1.2.1 - t)) t (ro ++ st) 0 out = ms T V g r1.2.1 ((ro1 ++ [s]) ++ st) 0 out1 := fun g => by
          rw [show g + (r1.2.1 - t) = (g + (r1.2.1 - (t + 1))) + 1 by omega, step, q3, List.append_assoc]
          rfl
        refine ⟨max f1 f2 + 1, r2, ?_, fun b2 => ?_, fun b2 => ?_⟩
        · rw [rd, if_neg n3, if_neg n7, if_neg nx, e10, h]
          simp only
          rw [rd_le e1 (Nat.le_max_left _ _)]
          simp only
          rw [if_pos b1, if_neg (by omega)]
          exact rd_le e2 (Nat.le_max_right _ _)
        · obtain ⟨t2, ro2, out2, p1, p2, p3, p4⟩ := ok2 b2
          refine ⟨by omega, ro2, out2, p1, p2, fun g => ?_, p4⟩
          rw [show g + (r2.2.1 - t) = (g + (r2.2.1 - r1.2.1)) + (r1.2.1 - t) by omega, run, p3]
        · obtain ⟨t2, p3⟩ := no2 b2
          refine ⟨by omega, fun g => ?_⟩
          rw [show g + (r2.2.1 - t) + 1 = (g + (r2.2.1 - r1.2.1) + 1) + (r1.2.1 - t) by omega, run, p3]
    · have b1' : r1.1 = false := by simpa using b1
      obtain ⟨t1, p1⟩ := no1 b1'
      refine ⟨f1 + 1, r1, ?_, fun w => absurd w b1, fun _ => ⟨by omega, fun g => ?_⟩⟩
      · rw [rd, if_neg n3, if_neg n7, if_neg nx, e10, h]
        simp only
        rw [e1]
        simp only
        rw [if_neg b1]
      · rw [show g + (r1.2.1 - t) + 1 = (g + (r1.2.1 - (t + 1)) + 1) + 1 by omega, step, p1]
theorem stepP {T V : Nat → Nat} {l t : Nat} (hl : l = 1 ∨ l = 2 ∨ l = 4 ∨ l = 5 ∨ l = 6) (P : clP T V (l + 1) t) (Q : T t ≠ 0 → ∀ t', t < t' → clQ T V l t') : clP T V l t := by
  intro st w a hc htop hw hn
  have n3 : ¬ l = 3 := by omega
  have n7 : ¬ l = 7 := by omega
  rw [if_neg n3] at htop
  obtain ⟨f1, r1, e1, ok1, no1⟩ := P st w a hc (topLt_mono htop (by split <;> omega)) (by omega) (fun q => hn (by omega))
  by_cases b1 : r1.1 = true
  · obtain ⟨⟨t0, t1⟩, ro1, out1, q1, q2, q3, q4⟩ := ok1 b1
    obtain ⟨f2, r2, e2, ok2, no2⟩ := Q t0 r1.2.1 t1 st ro1 out1 hc htop (fun x hx => by have := q1 x hx; split <;> omega) q4
    rw [← q2] at e2
    refine ⟨max f1 f2 + 1, r2, ?_, fun b2 => ?_, fun b2 => ?_⟩
    · rw [rd, if_neg n3, if_neg n7, if_pos hl, rd_le e1 (Nat.le_max_left _ _)]
      simp only
      rw [if_pos b1]
      exact rd_le e2 (Nat.le_max_right _ _)
    · obtain ⟨t2, ro2, out2, p1, p2, p3, p4⟩ := ok2 b2
      refine ⟨⟨t0, by omega⟩, ro2, out2, p1, p2, fun g => ?_, p4⟩
      rw [show g + (r2.2.1 - t) = (g + (r2.2.1 - r1.2.1)) + (r1.2.1 - t) by omega, q3, p3]
    · obtain ⟨t2, p3⟩ := no2 b2
      refine ⟨by omega, fun g => ?_⟩
      rw [show g + (r2.2.1 - t) + 1 = (g + (r2.2.1 - r1.2.1) + 1) + (r1.2.1 - t) by omega, q3, p3]
  · have b1' : r1.1 = false := by simpa using b1
    refine ⟨f1 + 1, r1, ?_, fun w => absurd w b1, no1⟩
    rw [rd, if_neg n3, if_neg n7, if_pos hl, e1]
    simp only
    rw [if_neg b1]
theorem stepP3 {T V : Nat → Nat} {t : Nat} (P4 : clP T V 4 t) (P : T t ≠ 0 → ∀ t', t < t' → clP T V 3 t') : clP T V 3 t := by
  intro st w a hc htop hw hn
  rw [if_pos rfl] at htop
  have w2 : w = 2 := by omega
  by_cases c : T t = 132
  · have s0 : ∀ g, ms T V (g + 1) t st w a = if cntS st = 5 then some (false, t, []) else ms T V g (t + 1) (13 :: st) w a := fun g => by
      rw [ms, if_neg (by omega), if_neg (by omega), if_neg (by omega), if_pos ⟨c, w2⟩]
    by_cases o5 : 5 ≤ cntS st
    · refine ⟨1, (false, t, a), ?_, fun q => absurd q (by simp), fun _ => ⟨Nat.le_refl _, fun g => ?_⟩⟩
      · rw [rd, if_pos rfl, if_pos c, if_pos o5]
      · show ms T V (g + (t - t) + 1) t st w a = _
        rw [Nat.sub_self, Nat.add_zero, s0, if_pos (by omega)]
    · have cs : cntS (13 :: st) = cntS st + 1 := by rw [cntS, if_pos (by decide), Nat.add_comm]
      obtain ⟨f1, r1, e1, ok1, no1⟩ := P (by omega) (t + 1) (by omega) (13 :: st) w a (by rw [cs]; omega) (by rw [if_pos rfl]; exact Or.inr (by show rkS 13 < 4; decide)) (Or.inl w2) (fun q => by omega)
      rw [cs] at e1
      by_cases b1 : r1.1 = true
      · obtain ⟨⟨-, t1⟩, ro1, out1, q1, q2, q3, q4⟩ := ok1 b1
        refine ⟨f1 + 1, (true, r1.2.1, r1.2.2 ++ [oNot]), ?_, fun _ => ⟨⟨by omega, by show t < r1.2.1; omega⟩, ro1 ++ [13], out1, fun x hx => ?_, ?_, fun g => ?_, fol_app q4⟩, fun q => absurd q (by simp)⟩
        · rw [rd, if_pos rfl, if_pos c, if_neg o5, e1]
          simp only
          rw [if_pos b1]
        · rcases List.mem_append.mp hx with z | z
          · exact q1 x z
          · have : x = 13 := by simpa using z
            rw [this]; decide
        · show r1.2.2 ++ [oNot] = _
          rw [q2, List.map_append, List.append_assoc]; rfl
        · show ms T V (g + (r1.2.1 - t)) t st w a = _
          rw [show g + (r1.2.1 - t) = (g + (r1.2.1 - (t + 1))) + 1 by omega, s0, if_neg (by omega), q3, List.append_assoc]
          rfl
      · have b1' : r1.1 = false := by simpa using b1
        obtain ⟨t1, p1⟩ := no1 b1'
        refine ⟨f1 + 1, r1, ?_, fun q => absurd q b1, fun _ => ⟨by omega, fun g => ?_⟩⟩
        · rw [rd, if_pos rfl, if_pos c, if_neg o5, e1]
          simp only
          rw [if_neg b1]
        · rw [show g + (r1.2.1 - t) + 1 = (g + (r1.2.1 - (t + 1)) + 1) + 1 by omega, s0, if_neg (by omega), p1]
  · obtain ⟨f1, r1, e1, ok1, no1⟩ := P4 st w a hc (by rw [if_neg (by decide)]; exact htop) (by omega) (fun _ _ => c)
    refine ⟨f1 + 1, r1, ?_, fun b1 => ?_, no1⟩
    · rw [rd, if_pos rfl, if_neg c]; exact e1
    · obtain ⟨t1, ro1, out1, q1, q2, q3, q4⟩ := ok1 b1
      obtain ⟨x1, x2, x3, x4, x5⟩ := q4
      exact ⟨t1, ro1, out1, fun x hx => by have := q1 x hx; omega, q2, q3, fun z => by omega, fun z => by omega, fun _ => x3 (by omega), fun _ => x4 (by omega), fun _ => x5 (by omega)⟩
theorem stepO {T V : Nat → Nat} {t : Nat} (P : T t ≠ 0 → ∀ t', t < t' → clP T V 1 t' ∧ clO T V t') : clO T V t := by
  intro k st w a hc htop hw hn
  have w0 : ¬ w = 0 := by omega
  have e3 : ¬ 7 = 3 := by decide
  by_cases c1 : T t = 1
  · refine ⟨1, (true, t + 1, a ++ [.inl (V t)]), ?_, fun _ => ⟨⟨by omega, by show t < t + 1; omega⟩, fun g => ?_⟩, fun q => absurd q (by simp)⟩
    · rw [rd, if_neg e3, if_pos rfl, if_pos c1]
    · show ms T V (g + (t + 1 - t)) t _ w a = _
      rw [show g + (t + 1 - t) = g + 1 by omega, ms, if_neg w0, if_pos c1, unw_rep htop]
  · by_cases c2 : 133 ≤ T t ∧ T t < 139
    · refine ⟨1, (true, t + 1, a ++ [.inr (.inl (T t - 133))]), ?_, fun _ => ⟨⟨by omega, by show t < t + 1; omega⟩, fun g => ?_⟩, fun q => absurd q (by simp)⟩
      · rw [rd, if_neg e3, if_pos rfl, if_neg c1, if_pos c2]
      · show ms T V (g + (t + 1 - t)) t _ w a = _
        rw [show g + (t + 1 - t) = g + 1 by omega, ms, if_neg w0, if_neg c1, if_pos c2, unw_rep htop]
    · have hd : ∀ g, ms T V (g + 1) t (List.replicate k 19 ++ st) w a = if T t = 45 then (if cntS (List.replicate k 19 ++ st) = 5 then some (false, t, []) else ms T V g (t + 1) (19 :: (List.replicate k 19 ++ st)) 1 a) else if T t = 40 then (if cntS (List.replicate k 19 ++ st) = 5 then some (false, t, []) else ms T V g (t + 1) (0 :: (List.replicate k 19 ++ st)) 2 a) else some (false, t, []) := fun g => by
        rw [ms, if_neg w0, if_neg c1, if_neg c2, if_neg (fun z => hn z.2 z.1)]
      by_cases o5 : 5 ≤ cntS (List.replicate k 19 ++ st)
      · refine ⟨1, (false, t, a), ?_, fun q => absurd q (by simp), fun _ => ⟨Nat.le_refl _, fun g => ?_⟩⟩
        · rw [rd, if_neg e3, if_pos rfl, if_neg c1, if_neg c2, if_pos o5]
        · show ms T V (g + (t - t) + 1) t _ w a = _
          have c5 : cntS (List.replicate k 19 ++ st) = 5 := by omega
          rw [Nat.sub_self, Nat.add_zero, hd, if_pos c5, if_pos c5]
          split
          · rfl
          · split <;> rfl
      · by_cases c4 : T t = 40
        · have cs : cntS (0 :: (List.replicate k 19 ++ st)) = cntS (List.replicate k 19 ++ st) + 1 := by rw [cntS, if_pos (by decide), Nat.add_comm]
          obtain ⟨f1, r1, e1, ok1, no1⟩ := (P (by omega) (t + 1) (by omega)).1 (0 :: (List.replicate k 19 ++ st)) 2 a (by rw [cs]; omega) (by rw [if_neg (by decide)]; exact Or.inr (by show rkS 0 < 1; decide)) (Or.inl rfl) (fun q => by omega)
          rw [cs] at e1
          have s1 : ∀ g, ms T V (g + 1) t (List.replicate k 19 ++ st) w a = ms T V g (t + 1) (0 :: (List.replicate k 19 ++ st)) 2 a := fun g => by
            rw [hd, if_neg (by omega), if_pos c4, if_neg (by omega)]
          by_cases b1 : r1.1 = true
          · obtain ⟨⟨-, t1⟩, ro1, out1, q1, q2, q3, q4⟩ := ok1 b1
            have eu : unw 1 (ro1 ++ 0 :: (List.replicate k 19 ++ st)) out1 = (0 :: (List.replicate k 19 ++ st), r1.2.2) := by
              rw [unw_app (Or.inr (by show rkS 0 < 1; decide)) ro1 out1 q1, q2]
            by_cases c5 : T r1.2.1 = 41
            · refine ⟨f1 + 1, (true, r1.2.1 + 1, r1.2.2), ?_, fun _ => ⟨⟨by omega, by show t < r1.2.1 + 1; omega⟩, fun g => ?_⟩, fun q => absurd q (by simp)⟩
              · rw [rd, if_neg e3, if_pos rfl, if_neg c1, if_neg c2, if_neg o5, if_pos c4, e1]
                simp only
                rw [if_pos b1, if_pos c5]
              · show ms T V (g + (r1.2.1 + 1 - t)) t _ w a = ms T V g (r1.2.1 + 1) st 0 (r1.2.2 ++ List.replicate k oNeg)
                rw [show g + (r1.2.1 + 1 - t) = ((g + 1) + (r1.2.1 - (t + 1))) + 1 by omega, s1, q3, ms, if_pos rfl, if_neg (by omega), if_pos c5, eu]
                simp only
                rw [unw_rep htop]
            · refine ⟨f1 + 1, (false, r1.2.1, r1.2.2), ?_, fun q => absurd q (by simp), fun _ => ⟨by show t ≤ r1.2.1; omega, fun g => ?_⟩⟩
              · rw [rd, if_neg e3, if_pos rfl, if_neg c1, if_neg c2, if_neg o5, if_pos c4, e1]
                simp only
                rw [if_pos b1, if_neg c5]
              · show ms T V (g + (r1.2.1 - t) + 1) t _ w a = _
                rw [show g + (r1.2.1 - t) + 1 = ((g + 1) + (r1.2.1 - (t + 1))) + 1 by omega, s1, q3, ms, if_pos rfl]
                by_cases c59 : T r1.2.1 = 59
                · rw [if_pos c59, eu, if_neg (by simp)]
                · rw [if_neg c59, if_neg c5]
                  obtain ⟨f1', f2', f3', f4', f5'⟩ := q4
                  have g1 := f1' (by omega)
                  have g2 := f2' (by omega)
                  have g4 := f4' (by omega)
                  have g5 := f5' (by omega)
                  by_cases c6 : T r1.2.1 = 60 ∨ T r1.2.1 = 61
                  · obtain ⟨r2, x, rr, z1, z2, z3⟩ := f3' (by omega) c6
                    have es : ∃ s, sgT (T r1.2.1) = some s ∧ rkS s = 4 := by
                      rcases c6 with c6 | c6
                      · exact ⟨14, by rw [c6]; decide, by decide⟩
                      · exact ⟨15, by rw [c6]; decide, by decide⟩
                    obtain ⟨s, es, er⟩ := es
                    rw [es]
                    simp only
                    rw [er, if_pos rfl]
                    have eu2 : unw 5 (ro1 ++ 0 :: (List.replicate k 19 ++ st)) out1 = (x :: (rr ++ 0 :: (List.replicate k 19 ++ st)), out1 ++ r2.map opS) := by
                      rw [z1, List.append_assoc]
                      exact unw_app (Or.inr (by show rkS x < 5; omega)) r2 out1 z2
                    rw [eu2, if_pos ⟨rfl, z3⟩]
                  · have : sgT (T r1.2.1) = none := by
                      unfold sgT
                      rw [if_neg g1, if_neg g2, if_neg (fun q => c6 (Or.inl q)), if_neg (fun q => c6 (Or.inr q)), if_neg g4.1, if_neg g4.2, if_neg g5]
                    rw [this]
          · have b1' : r1.1 = false := by simpa using b1
            obtain ⟨t1, p1⟩ := no1 b1'
            refine ⟨f1 + 1, r1, ?_, fun q => absurd q b1, fun _ => ⟨by omega, fun g => ?_⟩⟩
            · rw [rd, if_neg e3, if_pos rfl, if_neg c1, if_neg c2, if_neg o5, if_pos c4, e1]
              simp only
              rw [if_neg b1]
            · rw [show g + (r1.2.1 - t) + 1 = (g + (r1.2.1 - (t + 1)) + 1) + 1 by omega, s1, p1]
        · by_cases c5 : T t = 45
          · have cs : cntS (List.replicate (k + 1) 19 ++ st) = cntS (List.replicate k 19 ++ st) + 1 := by
              rw [List.replicate_succ, List.cons_append, cntS, if_pos (by decide), Nat.add_comm]
            obtain ⟨f1, r1, e1, ok1, no1⟩ := (P (by omega) (t + 1) (by omega)).2 (k + 1) st 1 a (by rw [cs]; omega) htop (Or.inr rfl) (fun q => absurd q (by decide))
            rw [cs] at e1
            have s1 : ∀ g, ms T V (g + 1) t (List.replicate k 19 ++ st) w a = ms T V g (t + 1) (List.replicate (k + 1) 19 ++ st) 1 a := fun g => by
              rw [hd, if_pos c5, if_neg (by omega)]
              rfl
            by_cases b1 : r1.1 = true
            · obtain ⟨⟨-, t1⟩, q3⟩ := ok1 b1
              refine ⟨f1 + 1, (true, r1.2.1, r1.2.2 ++ [oNeg]), ?_, fun _ => ⟨⟨by omega, by show t < r1.2.1; omega⟩, fun g => ?_⟩, fun q => absurd q (by simp)⟩
              · rw [rd, if_neg e3, if_pos rfl, if_neg c1, if_neg c2, if_neg o5, if_neg c4, if_pos c5, e1]
                simp only
                rw [if_pos b1]
              · show ms T V (g + (r1.2.1 - t)) t _ w a = ms T V g r1.2.1 st 0 ((r1.2.2 ++ [oNeg]) ++ List.replicate k oNeg)
                rw [show g + (r1.2.1 - t) = (g + (r1.2.1 - (t + 1))) + 1 by omega, s1, q3, List.append_assoc]
                rfl
            · have b1' : r1.1 = false := by simpa using b1
              obtain ⟨t1, p1⟩ := no1 b1'
              refine ⟨f1 + 1, r1, ?_, fun q => absurd q b1, fun _ => ⟨by omega, fun g => ?_⟩⟩
              · rw [rd, if_neg e3, if_pos rfl, if_neg c1, if_neg c2, if_neg o5, if_neg c4, if_pos c5, e1]
                simp only
                rw [if_neg b1]
              · rw [show g + (r1.2.1 - t) + 1 = (g + (r1.2.1 - (t + 1)) + 1) + 1 by omega, s1, p1]
          · refine ⟨1, (false, t, a), ?_, fun q => absurd q (by simp), fun _ => ⟨Nat.le_refl _, fun g => ?_⟩⟩
            · rw [rd, if_neg e3, if_pos rfl, if_neg c1, if_neg c2, if_neg o5, if_neg c4, if_neg c5]
            · show ms T V (g + (t - t) + 1) t _ w a = _
              rw [Nat.sub_self, Nat.add_zero, hd, if_neg c5, if_neg c4]
theorem clP7 {T V : Nat → Nat} {t : Nat} (O : clO T V t) : clP T V 7 t := by
  intro st w a hc htop hw hn
  rw [if_neg (by decide)] at htop
  obtain ⟨f1, r1, e1, ok1, no1⟩ := O 0 st w a hc htop (by omega) (fun q => hn (by omega) q)
  refine ⟨f1, r1, e1, fun b1 => ?_, no1⟩
  obtain ⟨t1, q⟩ := ok1 b1
  refine ⟨t1, [], r1.2.2, fun x hx => absurd hx (by simp), by simp, fun g => ?_, fun z => by omega, fun z => by omega, fun z => by omega, fun z => by omega, fun z => by omega⟩
  have := q g
  rw [List.replicate_zero, List.replicate_zero, List.append_nil] at this
  exact this
theorem cl_all {T V : Nat → Nat} {N : Nat} (hN : ∀ t, N ≤ t → T t = 0) : ∀ n t, N - t ≤ n → clO T V t ∧ (∀ l, 1 ≤ l → l ≤ 7 → clP T V l t) ∧ ∀ l, (l = 1 ∨ l = 2 ∨ l = 4 ∨ l = 5 ∨ l = 6) → clQ T V l t := by
  intro n
  induction n with
  | zero =>
    intro t ht
    have t0 : T t = 0 := hN t (by omega)
    have O : clO T V t := stepO (fun h => absurd t0 h)
    have p7 := clP7 O
    have Q : ∀ l, (l = 1 ∨ l = 2 ∨ l = 4 ∨ l = 5 ∨ l = 6) → clQ T V l t := fun l hl => stepQ hl (fun h => absurd t0 h)
    have p6 : clP T V 6 t := stepP (by omega) p7 (fun h => absurd t0 h)
    have p5 : clP T V 5 t := stepP (by omega) p6 (fun h => absurd t0 h)
    have p4 : clP T V 4 t := stepP (by omega) p5 (fun h => absurd t0 h)
    have p3 : clP T V 3 t := stepP3 p4 (fun h => absurd t0 h)
    have p2 : clP T V 2 t := stepP (by omega) p3 (fun h => absurd t0 h)
    have p1 : clP T V 1 t := stepP (by omega) p2 (fun h => absurd t0 h)
    refine ⟨O, fun l h1 h2 => ?_, Q⟩
    rcases (by omega : l = 1 ∨ l = 2 ∨ l = 3 ∨ l = 4 ∨ l = 5 ∨ l = 6 ∨ l = 7) with rfl | rfl | rfl | rfl | rfl | rfl | rfl <;> assumption
  | succ n ih =>
    intro t ht
    have nx : T t ≠ 0 → ∀ t', t < t' → clO T V t' ∧ (∀ l, 1 ≤ l → l ≤ 7 → clP T V l t') ∧ ∀ l, (l = 1 ∨ l = 2 ∨ l = 4 ∨ l = 5 ∨ l = 6) → clQ T V l t' := fun h t' ht' => by
      have : t < N := Classical.byContradiction fun w => h (hN t (by omega))
      exact ih t' (by omega)
    have O : clO T V t := stepO (fun h t' q => ⟨(nx h t' q).2.1 1 (by omega) (by omega), (nx h t' q).1⟩)
    have p7 := clP7 O
    have Q : ∀ l, (l = 1 ∨ l = 2 ∨ l = 4 ∨ l = 5 ∨ l = 6) → clQ T V l t := fun l hl => stepQ hl (fun h t' q => ⟨(nx h t' q).2.1 (l + 1) (by omega) (by omega), (nx h t' q).2.2 l hl⟩)
    have p6 : clP T V 6 t := stepP (by omega) p7 (fun h t' q => (nx h t' q).2.2 6 (by omega))
    have p5 : clP T V 5 t := stepP (by omega) p6 (fun h t' q => (nx h t' q).2.2 5 (by omega))
    have p4 : clP T V 4 t := stepP (by omega) p5 (fun h t' q => (nx h t' q).2.2 4 (by omega))
    have p3 : clP T V 3 t := stepP3 p4 (fun h t' q => (nx h t' q).2.1 3 (by omega) (by omega))
    have p2 : clP T V 2 t := stepP (by omega) p3 (fun h t' q => (nx h t' q).2.2 2 (by omega))
    have p1 : clP T V 1 t := stepP (by omega) p2 (fun h t' q => (nx h t' q).2.2 1 (by omega))
    refine ⟨O, fun l h1 h2 => ?_, Q⟩
    rcases (by omega : l = 1 ∨ l = 2 ∨ l = 3 ∨ l = 4 ∨ l = 5 ∨ l = 6 ∨ l = 7) with rfl | rfl | rfl | rfl | rfl | rfl | rfl <;> assumption
/-- an E and its end, read both ways -/
theorem both {T V : Nat → Nat} {N : Nat} (hN : ∀ t, N ≤ t → T t = 0) (t : Nat) (a : List tOp) : ∃ f r, rd T V f 1 0 t a = some r ∧ t ≤ r.2.1 ∧ (∀ g, ms T V (g + (r.2.1 - t) + 1) t [] 2 a = if r.1 = true ∧ T r.2.1 = 59 then some (true, r.2.1 + 1, r.2.2) else some (false, r.2.1, [])) := by
  obtain ⟨f, r, e, ok, no⟩ := (cl_all (V := V) hN (N - t) t (Nat.le_refl _)).2.1 1 (by omega) (by omega) [] 2 a (by decide) (Or.inl rfl) (Or.inl rfl) (fun q => by omega)
  by_cases b : r.1 = true
  · obtain ⟨⟨-, t1⟩, ro, out, q1, q2, q3, q4⟩ := ok b
    refine ⟨f, r, e, by omega, fun g => ?_⟩
    have eu : unw 1 (ro ++ []) out = ([], r.2.2) := by rw [unw_app (Or.inl rfl) ro out q1, q2]
    rw [show g + (r.2.1 - t) + 1 = (g + 1) + (r.2.1 - t) by omega, q3, ms, if_pos rfl]
    by_cases c59 : T r.2.1 = 59
    · rw [if_pos c59, eu, if_pos rfl, if_pos ⟨b, c59⟩]
    · rw [if_neg c59, if_neg (show ¬ (r.1 = true ∧ T r.2.1 = 59) from fun w => c59 w.2)]
      by_cases c41 : T r.2.1 = 41
      · rw [if_pos c41, eu]
      · rw [if_neg c41]
        obtain ⟨f1', f2', f3', f4', f5'⟩ := q4
        have g1 := f1' (by omega)
        have g2 := f2' (by omega)
        have g4 := f4' (by omega)
        have g5 := f5' (by omega)
        by_cases c6 : T r.2.1 = 60 ∨ T r.2.1 = 61
        · obtain ⟨r2, x, rr, z1, z2, z3⟩ := f3' (by omega) c6
          have es : ∃ s, sgT (T r.2.1) = some s ∧ rkS s = 4 := by
            rcases c6 with c6 | c6
            · exact ⟨14, by rw [c6]; decide, by decide⟩
            · exact ⟨15, by rw [c6]; decide, by decide⟩
          obtain ⟨s, es, er⟩ := es
          rw [es]
          simp only
          rw [er, if_pos rfl]
          have eu2 : unw 5 (ro ++ []) out = (x :: (rr ++ []), out ++ r2.map opS) := by
            rw [z1, List.append_assoc]
            exact unw_app (Or.inr (by show rkS x < 5; omega)) r2 out z2
          rw [eu2, if_pos ⟨rfl, z3⟩]
        · have : sgT (T r.2.1) = none := by
            unfold sgT
            rw [if_neg g1, if_neg g2, if_neg (fun q => c6 (Or.inl q)), if_neg (fun q => c6 (Or.inr q)), if_neg g4.1, if_neg g4.2, if_neg g5]
          rw [this]
  · have b' : r.1 = false := by simpa using b
    obtain ⟨t1, p⟩ := no b'
    exact ⟨f, r, e, t1, fun g => by rw [p, if_neg (fun w => b w.1)]⟩
