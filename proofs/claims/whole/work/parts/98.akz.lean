/-! what no run changes -/
def Kz (h h' : am_H) : Prop := hk h ≤ hk h' ∧ ∀ n, n ≤ hk h → hkd h' n = hkd h n ∧ hln h' n = hln h n ∧ (hkd h n = 901 → hI h' n = hI h n)
theorem Kz.rf {h : am_H} : Kz h h := ⟨Nat.le_refl _, fun _ _ => ⟨rfl, rfl, fun _ => rfl⟩⟩
theorem Kz.tr {h h' h'' : am_H} (a : Kz h h') (b : Kz h' h'') : Kz h h'' := ⟨Nat.le_trans a.1 b.1, fun n q => by
  obtain ⟨a1, a2, a3⟩ := a.2 n q
  obtain ⟨b1, b2, b3⟩ := b.2 n (Nat.le_trans q a.1)
  exact ⟨b1.trans a1, b2.trans a2, fun w => (b3 (a1.trans w)).trans (a3 w)⟩⟩
theorem kz_setI {h : am_H} {n i : Nat} {v : Int32} (q : hkd h n ≠ 901) : Kz h (setI h n i v) := ⟨Nat.le_refl _, fun a _ => ⟨rfl, rfl, fun w => hI_ne (fun e => q (by rw [← e]; exact w))⟩⟩
theorem kz_setL {h : am_H} {n i : Nat} {v : Int64} : Kz h (setL h n i v) := ⟨Nat.le_refl _, fun a _ => ⟨rfl, rfl, fun _ => rfl⟩⟩
theorem kz_setR {h : am_H} {n i : Nat} {v : Option Nat} : Kz h (setR h n i v) := ⟨Nat.le_refl _, fun a _ => ⟨rfl, rfl, fun _ => rfl⟩⟩
theorem kz_newc {h : am_H} {a b c : Nat} : Kz h (newc h a b c) := ⟨Nat.le_succ _, fun n q => ⟨by rw [hkd_newc, if_neg (by omega)], by rw [hln_newc, if_neg (by omega)], fun _ => hI_newN (by omega)⟩⟩
theorem kz_newg {h : am_H} {a b : Nat} : Kz h (newg h a b) := ⟨by show hk h ≤ hk h + 1 + a; omega, fun n q => ⟨by
  show (if n = hk h + 1 then 105 else if hk h + 1 < n ∧ n ≤ hk h + 1 + a then 100 else hkd h n) = _
  rw [if_neg (by omega), if_neg (by omega)], by
  show (if n = hk h + 1 then a else if hk h + 1 < n ∧ n ≤ hk h + 1 + a then b else hln h n) = _
  rw [if_neg (by omega), if_neg (by omega)], fun _ => funext fun j => by
  show (if hk h + 1 ≤ n ∧ n ≤ hk h + 1 + a then 0 else hI h n j) = _
  rw [if_neg (by omega)]⟩⟩
theorem kz_cpy {h : am_H} {a i b j n : Nat} (q : hkd h b ≠ 901) : Kz h (cpyI h a i b j n) := ⟨Nat.le_refl _, fun x _ => ⟨rfl, rfl, fun w => funext fun k => by rw [hI_cpy, if_neg (fun e => q (by rw [← e.1]; exact w))]⟩⟩
theorem ft_901 (r : Nat) : am_ft 901 r = 9 := rfl
def Kd9 (h : am_H) (x : am_A) : Prop := match x with
  | .inl (_, _, _, h') => Kz h h'
  | .inr (.inl (_, h')) => Kz h h'
  | .inr (.inr _) => True
theorem kz_put {h : am_H} {n r1 r2 : Nat} {x : Int32} (q : hkd h n = r1 ∧ (am_ft r1 r2 = 0 ∨ (am_ft r1 r2 = 3 ∧ (x = 0 ∨ x = 1)))) : Kz h (setI h n r2 x) := kz_setI (fun w => by
  obtain ⟨q1, q2⟩ := q
  rw [w] at q1
  subst q1
  rw [ft_901] at q2
  omega)
set_option maxHeartbeats 4000000 in
theorem kz_do {M : Nat} {ins : Instr} {len r1 r2 : Nat} {z : Int} {cs : List (Int × Nat)} {pc : Nat} {ls st : List am_V} {h : am_H} {x : am_A} (e : am_do M ins len r1 r2 z cs pc ls st h = some x) : Kd9 h x := by
  unfold am_do at e
  repeat' split at e
  all_goals first
    | (cases e; done)
    | (cases e; exact Kz.rf)
    | (cases e; exact trivial)
    | (rename_i q; cases e; exact kz_put q)
    | (cases e; exact kz_setL)
    | (cases e; exact kz_setR)
    | (cases e; exact kz_newc)
    | (cases e; exact kz_newg)
    | (rename_i q; cases e; exact kz_setI (by omega))
theorem kz_prim {j : Nat} {as : List am_V} {h : am_H} {x : Option am_V × am_H} (e : am_prim j as h = some x) : Kz h x.2 := by
  unfold am_prim at e
  repeat' split at e
  all_goals first
    | (cases e; done)
    | (cases e; exact Kz.rf)
    | (rename_i q; cases e; exact kz_cpy (by omega))
theorem kz_run : ∀ (n d M pc : Nat) (ls st : List am_V) (h : am_H) (x : Option am_V × am_H), am_run n d M pc ls st h = some x → Kz h x.2 := by
  intro n
  induction n with
  | zero => intro d M pc ls st h x hx; simp [am_run] at hx
  | succ n ih =>
    intro d M pc ls st h x hx
    have stp : ∀ y, am_step M pc ls st h = some y → Kd9 h y := fun y e => by
      unfold am_step at e
      split at e
      · cases e
      · exact kz_do e
    rcases am_ways M pc ls st h with q | ⟨_, _, _, h', q⟩ | ⟨y, q⟩ | ⟨j, as, st', q⟩
    · rw [am_run_none q] at hx; cases hx
    · rw [am_run_go q] at hx
      have a := stp _ q
      exact Kz.tr a (ih _ _ _ _ _ _ _ hx)
    · rw [am_run_ret q] at hx
      have a := stp _ q
      cases hx
      exact a
    · cases d with
      | zero => rw [am_run_call0 q] at hx; cases hx
      | succ d =>
        rw [am_run_call q] at hx
        obtain ⟨y, h1, h2⟩ := Option.bind_eq_some_iff.mp hx
        refine Kz.tr ?_ (ih _ _ _ _ _ _ _ h2)
        split at h1
        · split at h1
          · exact kz_prim h1
          · cases h1
        · split at h1
          · exact ih _ _ _ _ _ _ _ h1
          · cases h1
theorem kz_Cl {d j : Nat} {as : List am_V} {h : am_H} {x : Option am_V × am_H} (e : Cl d j as h = some x) : Kz h x.2 := by
  unfold Cl at e
  split at e
  · obtain ⟨n, hn⟩ := Ev_iff.mp e
    exact kz_run _ _ _ _ _ _ _ _ hn
  · cases e
/-- of which sort an answer is -/
def Rq (t : Option FieldType) (r : Option am_V) : Prop := (∃ x, r = some (vi x) ∧ am_nar t x = true) ∨ (∃ x, r = some (vl x) ∧ t = some .long) ∨ (∃ x o, r = some (vr x) ∧ t = some (.object o)) ∨ (r = none ∧ t = none)
def Rd9 (M : Nat) (x : am_A) : Prop := match x with
  | .inr (.inl (r, _)) => Rq (am_rt M) r
  | _ => True
set_option maxHeartbeats 4000000 in
theorem rt_do {M : Nat} {ins : Instr} {len r1 r2 : Nat} {z : Int} {cs : List (Int × Nat)} {pc : Nat} {ls st : List am_V} {h : am_H} {x : am_A} (e : am_do M ins len r1 r2 z cs pc ls st h = some x) : Rd9 M x := by
  unfold am_do at e
  repeat' split at e
  all_goals first
    | (cases e; done)
    | (cases e; exact trivial)
    | (rename_i q; cases e; exact Or.inl ⟨_, rfl, q⟩)
    | (rename_i q; cases e; exact Or.inr (Or.inl ⟨_, rfl, q⟩))
    | (rename_i q; cases e; exact Or.inr (Or.inr (Or.inl ⟨_, _, rfl, q⟩)))
    | (rename_i q; cases e; exact Or.inr (Or.inr (Or.inr ⟨rfl, q⟩)))
theorem rt_run : ∀ (n d M pc : Nat) (ls st : List am_V) (h : am_H) (x : Option am_V × am_H), am_run n d M pc ls st h = some x → Rq (am_rt M) x.1 := by
  intro n
  induction n with
  | zero => intro d M pc ls st h x hx; simp [am_run] at hx
  | succ n ih =>
    intro d M pc ls st h x hx
    rcases am_ways M pc ls st h with q | ⟨_, _, _, h', q⟩ | ⟨y, q⟩ | ⟨j, as, st', q⟩
    · rw [am_run_none q] at hx; cases hx
    · rw [am_run_go q] at hx
      exact ih _ _ _ _ _ _ _ hx
    · have a : Rd9 M (.inr (.inl y)) := by
        have e := q
        unfold am_step at e
        split at e
        · cases e
        · exact rt_do e
      rw [am_run_ret q] at hx
      cases hx
      exact a
    · cases d with
      | zero => rw [am_run_call0 q] at hx; cases hx
      | succ d =>
        rw [am_run_call q] at hx
        obtain ⟨y, h1, h2⟩ := Option.bind_eq_some_iff.mp hx
        exact ih _ _ _ _ _ _ _ h2
theorem rt_Cl {d j : Nat} {as : List am_V} {h : am_H} {x : Option am_V × am_H} (e : Cl d j as h = some x) : Rq (am_rt j) x.1 := by
  unfold Cl at e
  split at e
  · obtain ⟨n, hn⟩ := Ev_iff.mp e
    exact rt_run _ _ _ _ _ _ _ _ hn
  · cases e
theorem rt_i {d j : Nat} {as : List am_V} {h h1 : am_H} {v : am_V} (e : Cl d j as h = some (some v, h1)) (t : am_rt j = some .int) : ∃ x, v = vi x := by
  rcases rt_Cl e with ⟨x, q, -⟩ | ⟨x, -, q⟩ | ⟨x, o, -, q⟩ | ⟨q, -⟩
  · exact ⟨x, Option.some.inj q⟩
  · rw [t] at q; cases q
  · rw [t] at q; cases q
  · cases q
theorem rt_l {d j : Nat} {as : List am_V} {h h1 : am_H} {v : am_V} (e : Cl d j as h = some (some v, h1)) (t : am_rt j = some .long) : ∃ x, v = vl x := by
  rcases rt_Cl e with ⟨x, -, q⟩ | ⟨x, q, -⟩ | ⟨x, o, -, q⟩ | ⟨q, -⟩
  · rw [t] at q; cases q
  · exact ⟨x, Option.some.inj q⟩
  · rw [t] at q; cases q
  · cases q
