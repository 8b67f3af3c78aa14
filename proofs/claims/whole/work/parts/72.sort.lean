/-! place: sorted hours -/
def plL (od ho : am_F) (n : Nat) : List (Int32 × Int32) := (List.range n).map (fun k => (od k, ho k))
theorem plL_succ {od ho : am_F} {n : Nat} : plL od ho (n + 1) = plL od ho n ++ [(od n, ho n)] := by
  unfold plL
  rw [List.range_succ, List.map_append]
  rfl
theorem plL_cg {od ho od' ho' : am_F} : ∀ {n : Nat}, (∀ k, k < n → od' k = od k ∧ ho' k = ho k) → plL od' ho' n = plL od ho n := by
  intro n e
  unfold plL
  apply List.map_congr_left
  intro k hk
  have := e k (List.mem_range.mp hk)
  rw [this.1, this.2]
theorem pl_swap {od ho od' ho' : am_F} {j : Nat} (e : ∀ k, k ≠ j → k ≠ j + 1 → od' k = od k ∧ ho' k = ho k) (e1 : od' j = od (j + 1) ∧ ho' j = ho (j + 1)) (e2 : od' (j + 1) = od j ∧ ho' (j + 1) = ho j) : ∀ n, j + 1 < n → List.Perm (plL od' ho' n) (plL od ho n) := by
  intro n
  induction n with
  | zero => intro h; omega
  | succ n ih =>
    intro h
    by_cases q : j + 1 = n
    · subst q
      rw [plL_succ, plL_succ, plL_succ, plL_succ, e1.1, e1.2, e2.1, e2.2, plL_cg (fun k hk => e k (by omega) (by omega)), List.append_assoc, List.append_assoc]
      exact List.Perm.append_left _ (List.Perm.swap _ _ _)
    · rw [plL_succ, plL_succ, (e n (by omega) (by omega)).1, (e n (by omega) (by omega)).2]
      exact List.Perm.append_right _ (ih (by omega))
def insG (od ho : am_F) (v : Int32) : Nat → Nat × am_F × am_F
  | 0 => (0, od, ho)
  | j + 1 => if ho j ≤ v then (j + 1, od, ho) else insG (ups od (j + 1) (od j)) (ups ho (j + 1) (ho j)) v j
def srtd (ho : am_F) (n : Nat) : Prop := ∀ a b, a < b → b < n → ho a ≤ ho b
theorem ins_ok {v c : Int32} {i n : Nat} (hn : i < n) : ∀ (j : Nat) (od ho : am_F), j ≤ i → (∀ a b, a < b → b ≤ i → a ≠ j → b ≠ j → ho a ≤ ho b) → (∀ b, j < b → b ≤ i → v ≤ ho b) → (insG od ho v j).1 ≤ i ∧ srtd (ups (insG od ho v j).2.2 (insG od ho v j).1 v) (i + 1) ∧ List.Perm (plL (ups (insG od ho v j).2.1 (insG od ho v j).1 c) (ups (insG od ho v j).2.2 (insG od ho v j).1 v) n) (plL (ups od j c) (ups ho j v) n) ∧ ∀ k, i < k → (insG od ho v j).2.1 k = od k ∧ (insG od ho v j).2.2 k = ho k := by
  intro j
  induction j with
  | zero =>
    intro od ho hj s1 s2
    refine ⟨hj, ?_, List.Perm.refl _, fun k _ => ⟨rfl, rfl⟩⟩
    intro a b hab hb
    show ups ho 0 v a ≤ ups ho 0 v b
    rw [ups_s, ups_s, if_neg (by omega : ¬ b = 0)]
    by_cases a0 : a = 0
    · rw [if_pos a0]; exact s2 b (by omega) (by omega)
    · rw [if_neg a0]; exact s1 a b hab (by omega) a0 (by omega)
  | succ j ih =>
    intro od ho hj s1 s2
    rw [insG]
    by_cases g : ho j ≤ v
    · rw [if_pos g]
      refine ⟨hj, ?_, List.Perm.refl _, fun k _ => ⟨rfl, rfl⟩⟩
      intro a b hab hb
      show ups ho (j + 1) v a ≤ ups ho (j + 1) v b
      rw [ups_s, ups_s]
      by_cases a0 : a = j + 1
      · rw [if_pos a0, if_neg (by omega)]; exact s2 b (by omega) (by omega)
      · rw [if_neg a0]
        by_cases b0 : b = j + 1
        · rw [if_pos b0]
          by_cases a1 : a = j
          · rw [a1]; exact g
          · exact Int32.le_trans (s1 a j (by omega) (by omega) (by omega) (by omega)) g
        · rw [if_neg b0]; exact s1 a b hab (by omega) a0 b0
    · rw [if_neg g]
      have g' : v ≤ ho j := Int32.le_of_lt (Int32.not_le.mp g)
      obtain ⟨r1, r2, r3, r4⟩ := ih (ups od (j + 1) (od j)) (ups ho (j + 1) (ho j)) (by omega) (fun a b hab hb ha0 hb0 => by
        rw [ups_s, ups_s]
        by_cases a0 : a = j + 1
        · rw [if_pos a0, if_neg (by omega)]; exact s1 j b (by omega) hb (by omega) (by omega)
        · rw [if_neg a0]
          by_cases b0 : b = j + 1
          · rw [if_pos b0]; exact s1 a j (by omega) (by omega) (by omega) (by omega)
          · rw [if_neg b0]; exact s1 a b hab hb a0 b0) (fun b hb1 hb2 => by
        rw [ups_s]
        by_cases b0 : b = j + 1
        · rw [if_pos b0]; exact g'
        · rw [if_neg b0]; exact s2 b (by omega) hb2)
      refine ⟨r1, r2, r3.trans (pl_swap (j := j) (fun k k1 k2 => ?_) ?_ ?_ n (by omega)), fun k hk => ?_⟩
      · simp only [ups_s, if_neg k1, if_neg k2, and_self]
      · simp [ups_s]
      · simp [ups_s]
      · obtain ⟨q1, q2⟩ := r4 k hk
        rw [q1, q2, ups_s, ups_s, if_neg (by omega), if_neg (by omega)]
        exact ⟨rfl, rfl⟩
def hlL (ho : am_F) (n : Nat) : List Int32 := (List.range n).map ho
theorem hlL_succ {ho : am_F} {n : Nat} : hlL ho (n + 1) = hlL ho n ++ [ho n] := by
  unfold hlL
  rw [List.range_succ, List.map_append]
  rfl
theorem hlL_cg {ho ho' : am_F} {n : Nat} (e : ∀ k, k < n → ho' k = ho k) : hlL ho' n = hlL ho n := by
  unfold hlL
  apply List.map_congr_left
  intro k hk
  exact e k (List.mem_range.mp hk)
theorem pl_hl {od ho od' ho' : am_F} {n : Nat} (p : List.Perm (plL od' ho' n) (plL od ho n)) : List.Perm (hlL ho' n) (hlL ho n) ∧ List.Perm (hlL od' n) (hlL od n) := by
  have a : ∀ od ho : am_F, (plL od ho n).map Prod.snd = hlL ho n := fun od ho => by unfold plL hlL; rw [List.map_map]; rfl
  have b : ∀ od ho : am_F, (plL od ho n).map Prod.fst = hlL od n := fun od ho => by unfold plL hlL; rw [List.map_map]; rfl
  refine ⟨?_, ?_⟩
  · rw [← a od' ho', ← a od ho]; exact p.map _
  · rw [← b od' ho', ← b od ho]; exact p.map _
theorem hl_pw {ho : am_F} {n : Nat} (s : srtd ho n) : (hlL ho n).Pairwise (fun a b => decide (a ≤ b) = true) := by
  unfold hlL
  rw [List.pairwise_map]
  refine List.Pairwise.imp_of_mem (R := fun a b => a < b) (fun {a b} ha hb hab => ?_) List.pairwise_lt_range
  exact decide_eq_true (s a b hab (List.mem_range.mp hb))
def sortL (l : List Int32) : List Int32 := l.mergeSort (fun a b => decide (a ≤ b))
theorem sort_eq {ho : am_F} {n : Nat} {l : List Int32} (s : srtd ho n) (p : List.Perm (hlL ho n) l) : hlL ho n = sortL l := by
  have t : ∀ a b c : Int32, decide (a ≤ b) = true → decide (b ≤ c) = true → decide (a ≤ c) = true := fun a b c h1 h2 => decide_eq_true (Int32.le_trans (of_decide_eq_true h1) (of_decide_eq_true h2))
  have u : ∀ a b : Int32, (decide (a ≤ b) || decide (b ≤ a)) = true := fun a b => by
    rcases Int32.le_total a b with h | h
    · simp [h]
    · simp [h]
  have q := List.pairwise_mergeSort (le := fun a b : Int32 => decide (a ≤ b)) t u l
  have r := List.mergeSort_perm l (fun a b : Int32 => decide (a ≤ b))
  exact List.Perm.eq_of_pairwise (le := fun a b => decide (a ≤ b) = true) (fun a b _ _ h1 h2 => Int32.le_antisymm (of_decide_eq_true h1) (of_decide_eq_true h2)) (hl_pw s) q (p.trans r.symm)
theorem sort_at {ho : am_F} {n : Nat} {l : List Int32} (s : srtd ho n) (p : List.Perm (hlL ho n) l) : ∀ k, k < n → ho k = (sortL l).getD k 0 := by
  intro k hk
  rw [← sort_eq s p]
  unfold hlL
  rw [List.getD_eq_getElem?_getD, List.getElem?_map, List.getElem?_range hk]
  rfl
