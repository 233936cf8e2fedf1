/-! ===== the pure side: at the start; every call ===== -/
def mk_S0 : mk_S := fun c k => if c = 48 ∧ k = 30 then 2 else 0
theorem mk_S0z {c k : Nat} (h : c ≠ 48 ∨ k ≠ 30) : mk_S0 c k = 0 := if_neg (by omega)
theorem mk_S0w : mk_S0 48 30 = 2 := if_pos ⟨rfl, rfl⟩
theorem mk_M0z {c : Nat} (h : c ≠ 0 ∧ c ≠ 8 ∧ c ≠ 48) (k : Nat) : mj_M0 c k = nI 0 := by
  unfold mj_M0
  rw [nw_u9 _ h.2.2, nw_u9 _ h.2.2, nw_u9 _ h.1, nw_u9 _ h.2.1]
  rfl
theorem mk_M048 {k : Nat} (h : k ≠ 29 ∧ k ≠ 30) : mj_M0 48 k = nI 0 := by
  unfold mj_M0
  rw [mj_u_eq, mj_up_ne _ _ _ h.2, mj_u_eq, mj_up_ne _ _ _ h.1, nw_u9 _ (by omega), nw_u9 _ (by omega)]
  rfl
theorem mk_I0 : mk_I mj_M0 := by
  refine ⟨mk_S0, fun _ => [], ?_, ?_, ?_⟩
  · unfold mk_W mk_wn
    simp (disch := omega) only [mk_S0z, mk_S0w]
    refine ⟨by omega, by omega, Or.inl ⟨trivial, trivial⟩, by omega, fun k hk => by omega, by omega, by omega, by omega, by omega, by omega, by omega, by omega, by omega, fun h hh => by omega, fun h hh => by omega, ⟨fun h => by omega, by omega, by decide, by omega, by omega, by omega, by omega, by omega, rfl, fun t ht => by omega, fun k hk => by omega, fun h t _ _ _ => trivial, fun i hi => by omega⟩, fun j hj => by omega, fun h => by omega, fun h => by omega, fun i hi => by omega, fun n hn => by omega, fun j hj => by omega⟩
  · unfold mk_X mk_xl mk_xr
    simp (disch := omega) only [mk_S0z, mk_S0w, mk_M0z]
    refine ⟨rfl, fun k _ => trivial, trivial, fun k hk => by omega, rfl, rfl, fun n hn => by omega, fun n hn => by omega, trivial, trivial, trivial, fun h hh => by omega, fun h hh => by omega, fun h hh => by omega, fun h hh => by omega, fun h hh => by omega, fun h hh => by omega, ⟨trivial, trivial, trivial, trivial, trivial, trivial, trivial, fun t ht => by omega, fun k hk => trivial⟩, fun i hi => by omega, trivial, trivial, trivial, fun j hj => by omega, fun h => by omega, trivial, fun i hi => by omega, fun i hi => by omega, fun i hi => by omega⟩
  · unfold mk_M
    simp (disch := omega) only [mk_S0z, mk_S0w, mk_M0z, mk_M048]
    refine ⟨trivial, trivial, trivial, trivial, rfl, rfl, trivial, trivial, trivial, fun k hk => by omega, fun n hn => by omega, fun n hn => by omega, trivial, fun k hk => by omega, fun k hk => by omega, fun k hk => trivial, fun k hk => trivial, fun j hj => by omega, fun i hi => by omega, fun i hi => by omega, fun i hi => by omega, fun h => by omega⟩
theorem mk_OK {N : Nat} (hN : 10000 ≤ N) : mj_OK N mk_I :=
  ⟨op_0 (by omega), op_1, op_2 hN, op_3 hN, op_4 (by omega), op_5, op_6, op_7 (by omega), op_8, op_9 hN, op_10 hN, op_11 hN, op_12 hN, op_13 hN, op_14 hN, op_15, op_16 hN, op_17, op_18 hN, op_19, op_20 (by omega), op_21 hN, op_22 hN, op_23 (by omega), op_24, op_25 (by omega), op_26 (by omega), op_27 (by omega), op_28 (by omega), op_29 (by omega), op_30 (by omega), op_31 (by omega), op_32 (by omega), op_33 (by omega), op_34 hN, op_35 (by omega), op_36 hN, op_37 hN, op_38⟩
