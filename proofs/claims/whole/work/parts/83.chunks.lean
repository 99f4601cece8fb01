/-! worlds put together: a part's places are moved by o -/
def pm_shp (o : Nat) (sh : pm_Sh) : pm_Sh := match sh with
  | .inl q => .inl q
  | .inr (.inl q) => .inr (.inl (q.1, q.2.map (fun p => o + p)))
  | .inr (.inr q) => .inr (.inr (q.1, q.2.map (Option.map (fun p => o + p))))
def pm_shk (n : Nat) (sh : pm_Sh) : Bool := match sh with
  | .inl _ => true
  | .inr (.inl q) => q.2.all (fun p => decide (p < n))
  | .inr (.inr q) => q.2.all (fun f => match f with | none => true | some p => decide (p < n))
theorem pm_wF_app {V : pm_V} {M : pm_M} : ∀ (l1 l2 : List pm_Sh) (k : Nat), pm_wF V M k (l1 ++ l2) = pm_wF V M k l1 ++ pm_wF V M (k + l1.length) l2
  | [], l2, k => by simp [pm_wF]
  | sh :: l1, l2, k => by
    simp only [List.cons_append, pm_wF, List.length_cons]
    rw [pm_wF_app l1 l2 (k + 1), show k + 1 + l1.length = k + (l1.length + 1) by omega]
theorem pm_chunk {Q q : Nat → Nat} {w : (Nat → ClassId) × va_G} {M M0 : pm_M} {o : Nat} {sk : List pm_Sh} (hq : ∀ i, i < sk.length → q i = Q (o + i)) (hM : ∀ i, i < sk.length → M0 i = M (o + i)) (hp : sk.all (pm_shk sk.length) = true) : pm_wF (q, w) M0 0 sk = pm_wF (Q, w) M o (sk.map (pm_shp o)) := by
  apply List.ext_getElem?
  intro j
  rw [pm_wF_at, pm_wF_at, List.getElem?_map, Nat.zero_add]
  cases hs : sk[j]? with
  | none => rfl
  | some sh =>
    have hj : j < sk.length := (List.getElem?_eq_some_iff.mp hs).1
    have hsh := List.all_eq_true.mp hp sh (List.mem_of_getElem? hs)
    show some (q j, pm_cell (q, w) M0 j sh) = some (Q (o + j), pm_cell (Q, w) M (o + j) (pm_shp o sh))
    rw [hq j hj]
    refine congrArg (fun z => some (Q (o + j), z)) ?_
    rcases sh with x | x | x
    · show (Sum.inl (w.1 x.1, (x.2, .inl (M0 j))) : va_E) = .inl (w.1 x.1, (x.2, .inl (M (o + j))))
      rw [hM j hj]
    · show (Sum.inl (w.1 x.1, (x.2.length, .inr (.inr (.inr (.inr (fun i => (x.2[i]?).map q)))))) : va_E) = .inl (w.1 x.1, ((x.2.map (fun p => o + p)).length, .inr (.inr (.inr (.inr (fun i => ((x.2.map (fun p => o + p))[i]?).map Q))))))
      rw [List.length_map]
      refine congrArg (fun z => (Sum.inl (w.1 x.1, (x.2.length, .inr (.inr (.inr (.inr z))))) : va_E)) (funext fun i => ?_)
      rw [List.getElem?_map]
      cases hi : x.2[i]? with
      | none => rfl
      | some p =>
        have hpl : p < sk.length := by
          have := List.all_eq_true.mp hsh p (List.mem_of_getElem? hi)
          simpa using this
        show some (q p) = some (Q (o + p))
        rw [hq p hpl]
    · show (Sum.inr (x.1, x.2.mapIdx (fun j9 f => pm_fv (q, w) M0 j j9 f)) : va_E) = .inr (x.1, (x.2.map (Option.map (fun p => o + p))).mapIdx (fun j9 f => pm_fv (Q, w) M (o + j) j9 f))
      refine congrArg (fun z => (Sum.inr (x.1, z) : va_E)) ?_
      apply List.ext_getElem?
      intro i
      rw [List.getElem?_mapIdx, List.getElem?_mapIdx, List.getElem?_map]
      cases hi : x.2[i]? with
      | none => rfl
      | some f =>
        cases f with
        | none => show some (Value.int (M0 j i)) = some (Value.int (M (o + j) i)); rw [hM j hj]
        | some p =>
          have hpl : p < sk.length := by
            have := List.all_eq_true.mp hsh (some p) (List.mem_of_getElem? hi)
            simpa using this
          show some (Value.ref (q p)) = some (Value.ref (Q (o + p)))
          rw [hq p hpl]
theorem pm_l6 (Q : Nat → Nat) (a b c d e f : Nat) {r : Nat → Nat} (h0 : r 0 = Q a) (h1 : r 1 = Q b) (h2 : r 2 = Q c) (h3 : r 3 = Q d) (h4 : r 4 = Q e) (h5 : r 5 = Q f) : (fun i => if i < 6 then some (r i) else none) = (fun i => (([a, b, c, d, e, f] : List Nat)[i]?).map Q) := by
  funext i
  match i with
  | 0 => simp [h0]
  | 1 => simp [h1]
  | 2 => simp [h2]
  | 3 => simp [h3]
  | 4 => simp [h4]
  | 5 => simp [h5]
  | i + 6 => simp
theorem pm_l2 (Q : Nat → Nat) (a b : Nat) {x y : Nat} (hx : x = Q a) (hy : y = Q b) : va_up (va_up (fun _ => none) (0 : Int32).toNatClampNeg (some x)) (1 : Int32).toNatClampNeg (some y) = (fun i => (([a, b] : List Nat)[i]?).map Q) := by
  subst hx; subst hy
  funext i
  have z0 : (0 : Int32).toNatClampNeg = 0 := rfl
  have z1 : (1 : Int32).toNatClampNeg = 1 := rfl
  rw [z0, z1]
  match i with
  | 0 => simp [va_up]
  | 1 => simp [va_up]
  | i + 2 => simp [va_up]
theorem pm_l4 (Q : Nat → Nat) (a b c d : Nat) {x y z w : Nat} (hx : x = Q a) (hy : y = Q b) (hz : z = Q c) (hw : w = Q d) : va_up (va_up (va_up (va_up (fun _ => none) (0 : Int32).toNatClampNeg (some x)) (1 : Int32).toNatClampNeg (some y)) (2 : Int32).toNatClampNeg (some z)) (3 : Int32).toNatClampNeg (some w) = (fun i => (([a, b, c, d] : List Nat)[i]?).map Q) := by
  subst hx; subst hy; subst hz; subst hw
  funext i
  have z0 : (0 : Int32).toNatClampNeg = 0 := rfl
  have z1 : (1 : Int32).toNatClampNeg = 1 := rfl
  have z2 : (2 : Int32).toNatClampNeg = 2 := rfl
  have z3 : (3 : Int32).toNatClampNeg = 3 := rfl
  rw [z0, z1, z2, z3]
  match i with
  | 0 => simp [va_up]
  | 1 => simp [va_up]
  | 2 => simp [va_up]
  | 3 => simp [va_up]
  | i + 4 => simp [va_up]
