/-! HOW THE SMALL MACHINE STANDS IN THE GREAT ONE: the cells that are made lie one behind another from a place on; names go to addresses -/
abbrev am_G : Type := Nat × Nat × (Nat → ClassId) × (Nat → Nat → Nat) × (Nat → ClassId) × (Nat → Nat) × (Nat → Nat) × Heap × Nat × (Nat → Int32)
def gB (g : am_G) : Nat := g.1
def gb (g : am_G) : Nat := g.2.1
def gC (g : am_G) : Nat → ClassId := g.2.2.1
def gI (g : am_G) : Nat → Nat → Nat := g.2.2.2.1
def gA (g : am_G) : Nat → ClassId := g.2.2.2.2.1
def gK (g : am_G) : Nat → Nat := g.2.2.2.2.2.1
def gV (g : am_G) : Nat → Nat := g.2.2.2.2.2.2.1
def gH (g : am_G) : Heap := g.2.2.2.2.2.2.2.1
def gL (g : am_G) : Nat := g.2.2.2.2.2.2.2.2.1
def gX (g : am_G) : Nat → Int32 := g.2.2.2.2.2.2.2.2.2
def am_ro (g : am_G) (n : Nat) : Nat := if n = 0 then gb g else if n < 1000000 then gB g + (n - 1) else if n % 2 = 0 then gK g ((n - 1000000) / 2) else gV g ((n - 1000001) / 2)
def am_tv (g : am_G) : am_V → Value
  | .inl x => .int x
  | .inr (.inl x) => .long x
  | .inr (.inr (.inl r)) => va_rf (r.map (am_ro g))
  | .inr (.inr (.inr _)) => .retAddr 0
def am_cnm (ci : Nat) : String := ((am_cl[ci]?).map (fun q => q.1)).getD ""
def am_at (kd : Nat) : FieldType := if kd = 100 then .int else if kd = 101 then .boolean else if kd = 102 then .long else if kd = 105 then .array .int else .object (am_cnm (kd - 110))
def am_okA (kd : Nat) : Prop := kd = 100 ∨ kd = 101 ∨ kd = 102 ∨ kd = 105 ∨ (116 ≤ kd ∧ kd ≤ 120)
abbrev am_Ad (g : am_G) : Nat → Prop := fun q => gB g ≤ q
/-- what the machine's tables know, all along -/
def KS (g : am_G) (s : State) : Prop :=
  (∀ (ci : Nat) (q : vw_C), am_cl[ci]? = some q → u_Kn s q.1 q.2.1 q.2.2 (gC g ci) (gI g ci)) ∧
  (∀ kd, am_okA kd → ArrOfT s (gA g kd) (am_at kd) ∧ s.vm.findClass ("[" ++ (am_at kd).toString) = some (gA g kd)) ∧
  ((∀ ci, 6 ≤ ci → ci ≤ 10 → va_AO (am_cnm ci) s) ∧ (Cond.arrayOver (.array .int)).before #[] s = true) ∧
  (∀ (a : String) (i : Nat) (x : MethodName) (h : String), Cond.methodLinkNest a i x h ∈ tables_1 → va_Nw (.methodLinkNest a i x h) s) ∧
  ((∀ (i : Nat) (q : String × Nat × String), am_sr[i]? = some q → vk_R q.1 q.2.1 q.2.2 (gK g i) s) ∧ vk_S 14 am_sl am_sb (gK g) (gV g) (am_Ad g) s (gH g)) ∧
  (va_Z "java/lang/String" "COMPACT_STRINGS" "Z" (.int 1) (am_Ad g) s (gH g) ∧ va_Zq "jdk/internal/util/Preconditions" "SIOOBE_FORMATTER" "Ljava/util/function/BiFunction;" (am_Ad g) s (gH g)) ∧
  (va_X (gb g) (gL g) (gX g) s (gH g) ∧ gb g < gB g ∧ (gH g).size = gB g)
theorem KS.moved {g : am_G} {u U : State} (ha : u.vm.Alike U.vm) (hn : ∀ (a : String) (i : Nat) (x : MethodName) (h : String), va_Nw (.methodLinkNest a i x h) u → va_Nw (.methodLinkNest a i x h) U) (hr : ∀ (own : String) (k : Nat) (tx : String) (a : Nat), vk_R own k tx a u → vk_R own k tx a U) (h : KS g u) : KS g U := by
  obtain ⟨h1, h2, ⟨h3, h4⟩, h5, ⟨h6, h7⟩, ⟨h8, h8b⟩, h9, h10⟩ := h
  refine ⟨fun ci q hq => u_Kn_moved ha (h1 ci q hq), fun kd hk => ⟨arrOfT_moved ha (h2 kd hk).1, by rw [ha.findClass]; exact (h2 kd hk).2⟩, ⟨fun ci a b => (h3 ci a b).moved ha, over_moved ha h4⟩, fun a i x h hm => hn _ _ _ _ (h5 a i x h hm), ⟨fun i q hq => hr _ _ _ _ (h6 i q hq), h7.moved ha⟩, ⟨h8.moved ha, ?_⟩, h9.moved ha, h10⟩
  rcases h8b with h | ⟨t, h⟩
  · exact Or.inl (h.moved ha)
  · exact Or.inr ⟨t, h.moved ha⟩
theorem KS.warm {g : am_G} {s U : State} (hW : s.WarmedH U.vm) (h : KS g s) : KS g U := h.moved hW.alike (fun _ _ _ _ h => h.warmM hW) (fun _ _ _ _ h => h.warm hW)
theorem KS.same {g : am_G} {u U : State} (hv : u.vm = U.vm) (h : KS g u) : KS g U := h.moved (by rw [hv]; exact Vm.Alike.refl _) (fun _ _ _ _ h => h.same rfl hv) (fun _ _ _ _ h => h.same hv.symm)
/-- what a field, a place of an array holds -/
def am_fv (g : am_G) (h : am_H) (n k : Nat) : Value := if am_ft (hkd h n) k = 1 then .long (hL h n k) else if am_ft (hkd h n) k = 2 then va_rf ((hR h n k).map (am_ro g)) else .int (hI h n k)
def am_av (g : am_G) (h : am_H) (n k : Nat) : Value := if hkd h n = 102 then .long (hL h n k) else if hkd h n = 100 ∨ hkd h n = 101 then .int (hI h n k) else va_rf ((hR h n k).map (am_ro g))
def am_cell (g : am_G) (h : am_H) (n : Nat) (H : Heap) : Prop :=
  (hkd h n < 99 → ∃ q : vw_C, am_cl[hkd h n]? = some q ∧ t_OB (gB g + (n - 1)) (gC g (hkd h n)) q.2.2 (gI g (hkd h n)) H (am_fv g h n)) ∧
  (99 ≤ hkd h n → am_okA (hkd h n) ∧ H[gB g + (n - 1)]? = some (arrV (gA g (hkd h n)) (hln h n) (am_av g h n)))
def am_sp (g : am_G) (h : am_H) : Prop :=
  (∀ n, hkd h n = 901 → n = 0 ∧ hln h n = gL g ∧ ∀ j, hI h n j = gX g j) ∧
  (∀ n, hkd h n = 902 → ∃ i, i < 14 ∧ n = 1000000 + 2 * i ∧ hR h n 0 = some (1000001 + 2 * i) ∧ hI h n 1 = 0) ∧
  (∀ n, hkd h n = 903 → ∃ i, i < 14 ∧ n = 1000001 + 2 * i ∧ hln h n = am_sl.getD i 0 ∧ ∀ j, j < am_sl.getD i 0 → hI h n j = (am_sb.getD i []).getD j 0)
def RelH (g : am_G) (h : am_H) (H : Heap) : Prop :=
  H.size = gB g + hk h ∧ hk h < 1000000 ∧ (∀ q, q < gB g → H[q]? = (gH g)[q]?) ∧ (∀ n, 1 ≤ n → n ≤ hk h → am_cell g h n H) ∧ (∀ n, hkd h n < 900 → 1 ≤ n ∧ n ≤ hk h) ∧ am_sp g h
def am_ph (v : am_V) : Prop := ∃ k, v = .inr (.inr (.inr k))
def LR (g : am_G) (ls : List am_V) (arr : Array Slot) (nL : Nat) : Prop := ls.length = nL ∧ ∃ lv, lv_has arr nL lv ∧ ∀ (i : Nat) (v : am_V), ls[i]? = some v → ¬ am_ph v → (i, am_tv g v) ∈ lv
theorem LR.at {g : am_G} {ls : List am_V} {arr : Array Slot} {nL i : Nat} {v : am_V} (h : LR g ls arr nL) (hi : ls[i]? = some v) (hp : ¬ am_ph v) : arr[i]? = some (.val (am_tv g v)) := by
  obtain ⟨-, lv, h2, h3⟩ := h
  exact h2.2.2 _ (h3 i v hi hp)
theorem am_ph_i {x : Int32} : ¬ am_ph (.inl x) := fun ⟨_, h⟩ => by cases h
theorem am_ph_l {x : Int64} : ¬ am_ph (.inr (.inl x)) := fun ⟨_, h⟩ => by cases h
theorem am_ph_r {x : Option Nat} : ¬ am_ph (.inr (.inr (.inl x))) := fun ⟨_, h⟩ => by cases h
theorem am_ph_u : am_ph vu := ⟨0, rfl⟩
/-- what am_set leaves -/
theorem am_set_at {ls : List am_V} {i : Nat} {v : am_V} {j : Nat} {w : am_V} (hw : ¬ am_ph w) (h : (am_set ls i v)[j]? = some w) : (j = i ∧ w = v) ∨ (j ≠ i ∧ ls[j]? = some w ∧ ¬ (j + 1 = i ∧ am_lg w = true)) := by
  unfold am_set at h
  by_cases e : j = i
  · left
    subst e
    refine ⟨rfl, ?_⟩
    cases j with
    | zero =>
      simp only [List.getElem?_set] at h
      split at h
      · split at h
        · exact (Option.some.inj h).symm
        · cases h
      · rename_i q; exact absurd trivial q
    | succ k =>
      simp only at h
      split at h <;> (rw [List.getElem?_set] at h; split at h) <;> first | (rename_i q; exact absurd trivial q) | (rename_i q; exact absurd rfl q) | (split at h <;> first | exact (Option.some.inj h).symm | cases h)
  · right
    refine ⟨e, ?_⟩
    cases i with
    | zero =>
      simp only [List.getElem?_set] at h
      rw [if_neg (by omega)] at h
      exact ⟨h, by omega⟩
    | succ k =>
      simp only at h
      split at h
      · rename_i x hx
        rw [List.getElem?_set, if_neg (by omega), List.getElem?_set] at h
        split at h
        · rename_i ek
          subst ek
          split at h
          · exact absurd ((Option.some.inj h) ▸ am_ph_u) hw
          · cases h
        · rename_i ek
          exact ⟨h, fun q => ek (by omega)⟩
      · rename_i hx
        rw [List.getElem?_set, if_neg (by omega)] at h
        refine ⟨h, fun q => ?_⟩
        obtain ⟨q1, q2⟩ := q
        have ej : j = k := by omega
        subst ej
        match w, q2 with
        | .inr (.inl y), _ => exact hx y h
theorem am_set_len {ls : List am_V} {i : Nat} {v : am_V} : (am_set ls i v).length = ls.length := by
  unfold am_set
  cases i with
  | zero => simp
  | succ k => simp only; split <;> simp
theorem am_cat {g : am_G} {w : am_V} (h : ¬ am_lg w = true) : ¬ (am_tv g w).category = 2 := by
  rcases w with x | x | (_ | x) | x
  · simp [am_tv, Value.category]
  · simp [am_lg] at h
  · simp [am_tv, va_rf, Value.category]
  · simp [am_tv, va_rf, Value.category]
  · simp [am_tv, Value.category]
theorem am_cat1 {g : am_G} {w : am_V} (h : ¬ am_lg w = true) : (am_tv g w).category = 1 := by
  rcases lv_cat (am_tv g w) with q | q
  · exact q
  · exact absurd q (am_cat h)
theorem LR.set {g : am_G} {ls : List am_V} {arr' : Array Slot} {nL i : Nat} {v : am_V} {lv : List (Nat × Value)} (hl : ls.length = nL) (h3 : ∀ (i : Nat) (v : am_V), ls[i]? = some v → ¬ am_ph v → (i, am_tv g v) ∈ lv) (h' : lv_has arr' nL ((i, am_tv g v) :: lv.filter (fun q => !(q.1 == i) && !(q.1 + 1 == i && q.2.category == 2)))) : LR g (am_set ls i v) arr' nL := by
  refine ⟨am_set_len.trans hl, _, h', fun j w hj hw => ?_⟩
  rcases am_set_at hw hj with ⟨rfl, rfl⟩ | ⟨e1, e2, e3⟩
  · exact List.mem_cons_self
  · refine List.mem_cons_of_mem _ (List.mem_filter.mpr ⟨h3 j w e2 hw, ?_⟩)
    by_cases e : j + 1 = i
    · have : ¬ (am_tv g w).category = 2 := am_cat fun q => e3 ⟨e, q⟩
      simp [e1, this]
    · simp [e1, e]
theorem LR.set2 {g : am_G} {ls : List am_V} {arr' : Array Slot} {nL i : Nat} {v : am_V} {lv : List (Nat × Value)} (hv : ¬ am_ph v) (hl : ls.length = nL) (h3 : ∀ (i : Nat) (v : am_V), ls[i]? = some v → ¬ am_ph v → (i, am_tv g v) ∈ lv) (h' : lv_has arr' nL ((i, am_tv g v) :: lv.filter (fun q => !(q.1 == i) && (!(q.1 == i + 1) && !(q.1 + 1 == i && q.2.category == 2))))) : LR g (am_set2 ls i v) arr' nL := by
  unfold am_set2
  refine ⟨by rw [List.length_set]; exact am_set_len.trans hl, _, h', fun j w hj hw => ?_⟩
  rw [List.getElem?_set] at hj
  split at hj
  · split at hj
    · exact absurd ((Option.some.inj hj) ▸ am_ph_u) hw
    · cases hj
  · rename_i ej
    rcases am_set_at hw hj with ⟨rfl, rfl⟩ | ⟨e1, e2, e3⟩
    · exact List.mem_cons_self
    · refine List.mem_cons_of_mem _ (List.mem_filter.mpr ⟨h3 j w e2 hw, ?_⟩)
      have ej' : ¬ j = i + 1 := fun q => ej q.symm
      by_cases e : j + 1 = i
      · have : ¬ (am_tv g w).category = 2 := am_cat fun q => e3 ⟨e, q⟩
        simp [e1, ej', this]
      · simp [e1, ej', e]
/-- the locals with which a method begins -/
theorem am_lay_at (g : am_G) : ∀ (as : List am_V) (k i : Nat) (v : am_V), (am_lay as)[i]? = some v → ¬ am_ph v → (k + i, am_tv g v) ∈ lv_args k (as.map (am_tv g)) := by
  intro as
  induction as with
  | nil => intro k i v h _; simp [am_lay] at h
  | cons a as ih =>
    intro k i v h hv
    by_cases ha : am_lg a = true
    · match a, ha with
      | .inr (.inl x), _ =>
        simp only [am_lay] at h
        rw [List.map_cons, lv_args]
        match i, h with
        | 0, h => cases h; exact List.mem_cons_self
        | 1, h => cases h; exact absurd am_ph_u hv
        | i + 2, h =>
          refine List.mem_cons_of_mem _ ?_
          rw [if_pos (by rfl)]
          have := ih (k + 2) i v (by simpa using h) hv
          rwa [show k + 2 + i = k + (i + 2) by omega] at this
    · have hc := am_cat (g := g) ha
      have hl : am_lay (a :: as) = a :: am_lay as := by
        rcases a with x | x | x | x
        · rfl
        · exact absurd rfl ha
        · rfl
        · rfl
      rw [hl] at h
      rw [List.map_cons, lv_args]
      match i, h with
      | 0, h => cases h; exact List.mem_cons_self
      | i + 1, h =>
        refine List.mem_cons_of_mem _ ?_
        rw [if_neg hc]
        have := ih (k + 1) i v (by simpa using h) hv
        rwa [show k + 1 + i = k + (i + 1) by omega] at this
theorem am_lay_len (g : am_G) : ∀ as : List am_V, (lg_sl (as.map (am_tv g))).length = (am_lay as).length := by
  intro as
  induction as with
  | nil => rfl
  | cons a as ih =>
    by_cases ha : am_lg a = true
    · match a, ha with
      | .inr (.inl x), _ =>
        simp only [am_lay, List.map_cons, lg_sl, List.flatMap_cons, am_tv, Value.category, List.length_append, List.length_cons] at ih ⊢
        simp at ih ⊢
        omega
    · have hc := am_cat (g := g) ha
      have hl : am_lay (a :: as) = a :: am_lay as := by
        rcases a with x | x | x | x
        · rfl
        · exact absurd rfl ha
        · rfl
        · rfl
      rw [hl]
      simp only [List.map_cons, lg_sl, List.flatMap_cons, List.length_append, List.length_cons, if_neg hc] at ih ⊢
      simp at ih ⊢
      omega
theorem LR.entry {g : am_G} {as : List am_V} {n : Nat} (h : (am_lay as).length ≤ n) : LR g (am_ent n as) ((lg_sl (as.map (am_tv g)) ++ List.replicate (n - (lg_sl (as.map (am_tv g))).length) Slot.unset).toArray) n := by
  refine ⟨by simp [am_ent]; omega, _, lv_entry _ (by rw [am_lay_len]; exact h), fun i v hi hv => ?_⟩
  unfold am_ent at hi
  by_cases hl : i < (am_lay as).length
  · rw [List.getElem?_append_left hl] at hi
    have := am_lay_at g as 0 i v hi hv
    rwa [Nat.zero_add] at this
  · rw [List.getElem?_append_right (by omega)] at hi
    exact absurd ((List.eq_of_mem_replicate (List.mem_of_getElem? hi)) ▸ am_ph_u) hv
