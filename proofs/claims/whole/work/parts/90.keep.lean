/-! MAKING: what stays, whatever is made behind it -/
/-- the world behind one more object of a class whose constructor makes rows of ints alone -/
def SX (ci : Nat) (cs : List Nat) (st : List (Nat × Nat)) (shl : List Shp) : List Shp := mkS shl.length ci st (shl ++ [(Sum.inl (ci, cs) : Shp)]) cs
def HX (ci : Nat) (cs : List Nat) (st : List (Nat × Nat)) (shl : List Shp) (h : Hp) : Hp := mkHp shl.length ci st (shl ++ [(Sum.inl (ci, cs) : Shp)]) cs (nH h shl.length cs)
theorem SX_eq {ci : Nat} {cs : List Nat} {st : List (Nat × Nat)} {shl : List Shp} : SX ci cs st shl = shl ++ ((Sum.inl (ci, fiS st cs (shl.length + 3)) : Shp) :: st.map fun x => (Sum.inr (0, x.2, []) : Shp)) := by
  unfold SX
  rw [mkS_pre rfl]
  rfl
theorem SX_len {ci : Nat} {cs : List Nat} {st : List (Nat × Nat)} {shl : List Shp} : (SX ci cs st shl).length = shl.length + 1 + st.length := by rw [SX_eq]; simp; omega
theorem SX_mk {ci : Nat} {cs : List Nat} {st : List (Nat × Nat)} {shl : List Shp} {h : Hp} (c : Cl shl h) (h01 : ∀ (k x : Nat), cs[k]? = some x → x = 0 ∨ x = 1) : MK (SX ci cs st shl) (HX ci cs st shl h) shl.length ci (fiS st cs (shl.length + 1 + 2)) := by
  have m := MK.mkS st (MK.new (ci := ci) (cs := cs) c h01)
  rw [show (shl ++ [(Sum.inl (ci, cs) : Shp)]).length = shl.length + 1 by simp] at m
  exact m
theorem SX_keep {ci : Nat} {cs : List Nat} {st : List (Nat × Nat)} {shl : List Shp} {h : Hp} {b ci2 : Nat} {cs2 : List Nat} (m : MK shl h b ci2 cs2) (h01 : ∀ (k x : Nat), cs[k]? = some x → x = 0 ∨ x = 1) : MK (SX ci cs st shl) (HX ci cs st shl h) b ci2 cs2 :=
  ⟨by rw [SX_eq, List.getElem?_append_left m.2.1]; exact m.1, by rw [SX_len]; have := m.2.1; omega, (SX_mk m.2.2 h01).2.2⟩
/-- rows of the heap behind the constructor -/
theorem mkHp_lo {b ci : Nat} : ∀ (r : List (Nat × Nat)) {shl : List Shp} {cs : List Nat} {h : Hp} {p : Nat}, p < shl.length → mkHp b ci r shl cs h p = h p
  | [], _, _, _, _, _ => rfl
  | x :: r, shl, cs, h, p, hp => by
    show mkHp b ci r (mkL shl b ci cs x.1 0 x.2) (cs.set x.1 (shl.length + 2)) (zR h shl.length) p = h p
    rw [mkHp_lo r (by rw [mkL_len]; omega), zR_ne (by omega)]
theorem mkHp_hi {b ci : Nat} : ∀ (r : List (Nat × Nat)) {shl : List Shp} {cs : List Nat} {h : Hp} {p j : Nat}, shl.length ≤ p → p < shl.length + r.length → mkHp b ci r shl cs h p j = 0
  | [], _, _, _, _, _, h1, h2 => by simp at h2; omega
  | x :: r, shl, cs, h, p, j, h1, h2 => by
    show mkHp b ci r (mkL shl b ci cs x.1 0 x.2) (cs.set x.1 (shl.length + 2)) (zR h shl.length) p j = 0
    simp only [List.length_cons] at h2
    by_cases y : p = shl.length
    · subst y
      rw [mkHp_lo r (by rw [mkL_len]; omega), zR_same]
    · exact mkHp_hi r (by rw [mkL_len]; omega) (by rw [mkL_len]; omega)
theorem HX_lo {ci : Nat} {cs : List Nat} {st : List (Nat × Nat)} {shl : List Shp} {h : Hp} {p : Nat} (hp : p < shl.length) : HX ci cs st shl h p = h p := by
  unfold HX
  rw [mkHp_lo st (by simp; omega), nH_ne (by omega)]
theorem HX_at {ci : Nat} {cs : List Nat} {st : List (Nat × Nat)} {shl : List Shp} {h : Hp} {j : Nat} (hj : cs.getD j 9 ≠ 1) : HX ci cs st shl h shl.length j = 0 := by
  unfold HX
  rw [mkHp_lo st (by simp)]
  unfold nH
  rw [if_neg (fun q => hj q.2), zR_same]
theorem HX_hi {ci : Nat} {cs : List Nat} {st : List (Nat × Nat)} {shl : List Shp} {h : Hp} {p j : Nat} (h1 : shl.length < p) (h2 : p ≤ shl.length + st.length) : HX ci cs st shl h p j = 0 := by
  unfold HX
  exact mkHp_hi st (by simp; omega) (by simp; omega)
/-- a place whose references are all there -/
def no1 (s : Shp) : Bool := match s with
  | .inl o => !(o.2.contains 1)
  | .inr _ => true
theorem Cl.row {shl : List Shp} {h h2 : Hp} (c : Cl shl h) (hz : ∀ p s, shl[p]? = some s → no1 s = true ∨ h2 p = h p) : Cl shl h2 := by
  intro p s hp
  rcases hz p s hp with y | y
  · have cp := c p s hp
    cases s with
    | inr a => exact cp
    | inl o =>
      intro k x hx
      rcases cp k x hx with q | q | q
      · exact Or.inl q
      · exfalso
        have hm : (1 : Nat) ∈ o.2 := by rw [← q.1]; exact List.mem_of_getElem? hx
        simp [no1, hm] at y
      · exact Or.inr (Or.inr q)
  · rw [y]; exact c p s hp
theorem MK.row {shl : List Shp} {h h2 : Hp} {b ci : Nat} {cs : List Nat} (m : MK shl h b ci cs) (hz : ∀ p s, shl[p]? = some s → no1 s = true ∨ h2 p = h p) : MK shl h2 b ci cs := ⟨m.1, m.2.1, m.2.2.row hz⟩
def i01 (cs : List Nat) : Bool := cs.all fun x => x == 0 || x == 1
theorem i01_ok {cs : List Nat} (h : i01 cs = true) : ∀ (k x : Nat), cs[k]? = some x → x = 0 ∨ x = 1 := by
  intro k x hx
  have := List.all_eq_true.mp h x (List.mem_of_getElem? hx)
  simpa using this
