/-! ===== the pure side: log, keep ===== -/
theorem op_19 {N : Nat} : mo_19 N mk_I := by
  intro M ⟨S, A, hw, hX, hM⟩ a b
  have hd := hw.now.day
  have hl := hw.now.log
  rcases mk_ix a (n := S 65 48) (by omega) with h | ⟨i, hi, rfl⟩
  · refine mk_fin (r := -1) hw hX hM (mk_QX.same fun M hX => ?_) (mk_QM.same fun M hM => ?_)
    · unfold F_W_log
      rw [mk_Xlogsize hX hw]
      simp only [Option.bind_some]
      by_cases c : a < 0
      · rw [if_pos c]
      · rw [if_neg c, if_neg]
        intro k
        have h1 := Int32.lt_iff_toInt_lt.mp k
        have h2 := Int32.le_iff_toInt_le.mp (h.resolve_left c)
        omega
    · unfold F_M_log
      rw [hM.now 48 (by omega), mk_Min, if_pos]
      · rfl
      · rcases h with h | h
        · exact Or.inl h
        · exact Or.inr (nw_pl h (by omega))
  have hs := hw.now.logs (S 65 48 - 1 - i) (by omega)
  have hXt : ∀ M, mk_X S A M → F_Stand_telling (nI i) M = some (nI (1000 * S 65 (49 + 3 * (S 65 48 - 1 - i)) + 100 * S 65 (50 + 3 * (S 65 48 - 1 - i)) + S 65 (51 + 3 * (S 65 48 - 1 - i))), M) := by
    intro M hX
    unfold F_Stand_telling
    simp only [mj_lt]
    rw [hX.now.2.2.2.2.2.2.1, nl_1, pk_sub (by omega), pk_sub (by omega), if_neg (nI_pos (by omega)), nl_100, pk_rem (by omega) (by omega) (by omega), nw_ck (Nat.mod_lt _ (by omega)) (by omega), nI_clamp (by omega), hX.ring i hi]
  have hMi : ∀ M, mk_M S A M → F_M_in (nI i) (nI 0) (M 65 48 - nI 1) M = some (nI 1, M) := by
    intro M hM
    rw [hM.now 48 (by omega), pk_sub (by omega)]
    exact mk_Mini (by omega) (by omega)
  rcases mk_ix b (n := 3) (by omega) with h' | ⟨k, hk, rfl⟩
  · have hn := nw_nk h' (by omega)
    refine mk_fin (r := -1) hw hX hM (mk_QX.same fun M hX => ?_) (mk_QM.same fun M hM => ?_)
    · unfold F_W_log
      rw [if_neg (nI_pos (by omega)), mk_Xlogsize hX hw]
      simp only [Option.bind_some]
      rw [if_pos (nI_lt hi (by omega)), hXt M hX]
      simp only [Option.bind_some]
      rw [nl_0, nl_1, nl_2, if_neg (hn 0 (by omega)), if_neg (hn 1 (by omega)), if_neg (hn 2 (by omega))]
    · unfold F_M_log
      rw [nl_0, nl_1, hMi M hM]
      simp only [Option.bind_some]
      rw [if_neg (show ¬ nI 1 = nI 0 by decide +kernel), nl_2, mk_Mino h' (by omega)]; rfl
  have h9 : k = 0 ∨ k = 1 ∨ k = 2 := by omega
  refine mk_fin (r := nI (S 65 (49 + 3 * (S 65 48 - 1 - i) + k))) hw hX hM (mk_QX.same fun M hX => ?_) (mk_QM.same fun M hM => ?_)
  · unfold F_W_log
    rw [if_neg (nI_pos (by omega)), mk_Xlogsize hX hw]
    simp only [Option.bind_some]
    rw [if_pos (nI_lt hi (by omega)), hXt M hX]
    simp only [Option.bind_some]
    rw [show (1000 : Int32) = nI 1000 from rfl, nl_100, nl_10]
    rcases h9 with rfl | rfl | rfl
    · rw [if_pos (by decide +kernel), pk_div (by omega) (by omega) (by omega)]
      congr 3
      have : 49 + 3 * (S 65 48 - 1 - i) + 0 = 49 + 3 * (S 65 48 - 1 - i) := rfl
      rw [this]
      omega
    · rw [if_neg (by decide +kernel), if_pos (by decide +kernel), pk_div (by omega) (by omega) (by omega), pk_rem (by omega) (by omega) (by omega), show 49 + 3 * (S 65 48 - 1 - i) + 1 = 50 + 3 * (S 65 48 - 1 - i) by omega]
      congr 3
      omega
    · rw [if_neg (by decide +kernel), if_neg (by decide +kernel), if_pos (by decide +kernel), pk_rem (by omega) (by omega) (by omega), show 49 + 3 * (S 65 48 - 1 - i) + 2 = 51 + 3 * (S 65 48 - 1 - i) by omega]
      congr 3
      omega
  · unfold F_M_log
    rw [nl_0, nl_1, hMi M hM]
    simp only [Option.bind_some]
    rw [if_neg (show ¬ nI 1 = nI 0 by decide +kernel), nl_2, mk_Mini (by omega) (by omega)]
    simp only [Option.bind_some]
    rw [if_neg (show ¬ nI 1 = nI 0 by decide +kernel), hM.now 48 (by omega), pk_sub (by omega), pk_sub (by omega), nl_3, pk_mul, nl_49, nI_add, nI_add, nw_ck (by omega) (by omega), nI_clamp (by omega), hM.now _ (by omega)]
theorem mk_save25 {b : Nat} (hb : b + 49 ≤ 1960) (M : mj_M) : ∃ M', F_Stand_save_c25 (nI b) M = some M' ∧ (∀ c, c ≠ 25 → M' c = M c) ∧ (∀ k, k < b ∨ b + 49 ≤ k → M' 25 k = M 25 k) ∧ (∀ i, i < 7 → M' 25 (b + i) = M 20 i) ∧ (∀ t, t < 6 → M' 25 (b + (7 + t)) = M 21 t) ∧ (∀ k, k < 36 → M' 25 (b + (13 + k)) = M 22 k) := by
  unfold F_Stand_save_c25
  simp only [mj_lt]
  simp (disch := omega) only [nl_0, nl_1, nl_2, nl_3, nl_4, nl_5, nl_6, nl_7, nl_36, nI_add, nw_ck, nw_ac, nI_clamp, nw_u9, nw_a9]
  refine ⟨_, rfl, ?_, ?_, ?_, ?_, ?_⟩
  · intro c hc
    simp (disch := omega) only [nw_u9, nw_a9]
  · intro k hk
    simp only [nw_ae, mj_u_eq]
    simp (disch := omega) only [pk_cpy_out, mj_up_ne]
  · intro i hi
    simp only [nw_ae, mj_u_eq]
    have h9 : i = 0 ∨ i = 1 ∨ i = 2 ∨ i = 3 ∨ i = 4 ∨ i = 5 ∨ i = 6 := by omega
    rcases h9 with rfl | rfl | rfl | rfl | rfl | rfl | rfl
    all_goals simp (disch := omega) only [pk_cpy_out, mj_up_ne, mj_up_eq, Nat.add_zero]
  · intro t ht
    simp only [nw_ae, mj_u_eq]
    rw [pk_cpy_out (by omega), pk_cpy_in (by omega) (by omega)]
    congr 1
    omega
  · intro k hk
    simp only [nw_ae, mj_u_eq]
    rw [pk_cpy_in (by omega) (by omega)]
    congr 1
    omega
theorem mk_load25 {b : Nat} (hb : b + 49 ≤ 1960) (M : mj_M) : ∃ M', F_Stand_load_c25 (nI b) M = some M' ∧ (∀ c, c ≠ 20 → c ≠ 21 → c ≠ 22 → M' c = M c) ∧ (∀ i, i < 7 → M' 20 i = M 25 (b + i)) ∧ (∀ t, t < 6 → M' 21 t = M 25 (b + (7 + t))) ∧ (∀ k, k < 36 → M' 22 k = M 25 (b + (13 + k))) := by
  unfold F_Stand_load_c25
  simp only [mj_lt]
  simp (disch := omega) only [nl_0, nl_1, nl_2, nl_3, nl_4, nl_5, nl_6, nl_7, nl_36, nI_add, nw_ck, nw_ac, nI_clamp, nw_u9, nw_a9]
  refine ⟨_, rfl, ?_, ?_, ?_, ?_⟩
  · intro c h1 h2 h3
    simp (disch := omega) only [nw_u9, nw_a9]
  · intro i hi
    simp (disch := omega) only [nw_a9, mj_u_eq]
    have h9 : i = 0 ∨ i = 1 ∨ i = 2 ∨ i = 3 ∨ i = 4 ∨ i = 5 ∨ i = 6 := by omega
    rcases h9 with rfl | rfl | rfl | rfl | rfl | rfl | rfl
    all_goals simp (disch := omega) only [mj_up_ne, mj_up_eq, Nat.add_zero]
  · intro t ht
    simp (disch := omega) only [nw_a9, nw_ae]
    rw [pk_cpy_in (by omega) (by omega)]
    congr 1
    omega
  · intro k hk
    simp (disch := omega) only [nw_ae]
    rw [pk_cpy_in (by omega) (by omega)]
    congr 1
    omega
theorem mk_save26 (M : mj_M) : ∃ M', F_Stand_save_c26 0 M = some M' ∧ (∀ c, c ≠ 26 → M' c = M c) ∧ (∀ i, i < 7 → M' 26 i = M 20 i) ∧ (∀ t, t < 6 → M' 26 (7 + t) = M 21 t) ∧ (∀ k, k < 36 → M' 26 (13 + k) = M 22 k) := by
  unfold F_Stand_save_c26
  simp only [mj_lt]
  simp (disch := omega) only [nl_0, nl_1, nl_2, nl_3, nl_4, nl_5, nl_6, nl_7, nl_36, nI_add, nw_ck, nw_ac, nI_clamp, nw_u9, nw_a9]
  refine ⟨_, rfl, ?_, ?_, ?_, ?_⟩
  · intro c hc
    simp (disch := omega) only [nw_u9, nw_a9]
  · intro i hi
    simp only [nw_ae, mj_u_eq]
    have h9 : i = 0 ∨ i = 1 ∨ i = 2 ∨ i = 3 ∨ i = 4 ∨ i = 5 ∨ i = 6 := by omega
    rcases h9 with rfl | rfl | rfl | rfl | rfl | rfl | rfl
    all_goals simp (disch := omega) only [pk_cpy_out, mj_up_ne, mj_up_eq]
  · intro t ht
    simp only [nw_ae, mj_u_eq]
    rw [pk_cpy_out (by omega), pk_cpy_in (by omega) (by omega)]
    congr 1
    omega
  · intro k hk
    simp only [nw_ae, mj_u_eq]
    rw [pk_cpy_in (by omega) (by omega)]
    congr 1
    omega
theorem mk_load26 (M : mj_M) : ∃ M', F_Stand_load_c26 0 M = some M' ∧ (∀ c, c ≠ 20 → c ≠ 21 → c ≠ 22 → M' c = M c) ∧ (∀ i, i < 7 → M' 20 i = M 26 i) ∧ (∀ t, t < 6 → M' 21 t = M 26 (7 + t)) ∧ (∀ k, k < 36 → M' 22 k = M 26 (13 + k)) := by
  unfold F_Stand_load_c26
  simp only [mj_lt]
  simp (disch := omega) only [nl_0, nl_1, nl_2, nl_3, nl_4, nl_5, nl_6, nl_7, nl_36, nI_add, nw_ck, nw_ac, nI_clamp, nw_u9, nw_a9]
  refine ⟨_, rfl, ?_, ?_, ?_, ?_⟩
  · intro c h1 h2 h3
    simp (disch := omega) only [nw_u9, nw_a9]
  · intro i hi
    simp (disch := omega) only [nw_a9, mj_u_eq]
    have h9 : i = 0 ∨ i = 1 ∨ i = 2 ∨ i = 3 ∨ i = 4 ∨ i = 5 ∨ i = 6 := by omega
    rcases h9 with rfl | rfl | rfl | rfl | rfl | rfl | rfl
    all_goals simp (disch := omega) only [mj_up_ne, mj_up_eq]
  · intro t ht
    simp (disch := omega) only [nw_a9, nw_ae]
    rw [pk_cpy_in (by omega) (by omega)]
    congr 1
  · intro k hk
    simp (disch := omega) only [nw_ae]
    rw [pk_cpy_in (by omega) (by omega)]
    congr 1
/-- the state with another row of how it stands -/
def mk_sn (S : mk_S) (sn : Nat → Nat) : mk_S := fun c => if c = 65 then sn else S c
def mk_keep (S : mk_S) : mk_S := fun c => if c = 100 then S 65 else if 100 < c ∧ c < 140 then S (c - 1) else if c = 48 then va_up (S 48) 32 (min (S 48 32 + 1) 40) else if c = 0 then va_up (S 0) 0 ((S 0 0 + 1) % 40) else S c
theorem mk_sn5 {S : mk_S} {sn : Nat → Nat} : mk_sn S sn 65 = sn := if_pos rfl
theorem mk_snn {S : mk_S} {sn : Nat → Nat} {c : Nat} (h : c ≠ 65) : mk_sn S sn c = S c := if_neg h
theorem mk_keep100 {S : mk_S} : mk_keep S 100 = S 65 := if_pos rfl
theorem mk_keepj {S : mk_S} {j : Nat} (h : j < 39) : mk_keep S (100 + (j + 1)) = S (100 + j) := by
  unfold mk_keep
  rw [if_neg (by omega), if_pos (by omega)]
  congr 1
theorem mk_keepn {S : mk_S} {c : Nat} (h : c < 100) (h1 : c ≠ 48) (h2 : c ≠ 0) : mk_keep S c = S c := by
  unfold mk_keep
  rw [if_neg (by omega), if_neg (by omega), if_neg h1, if_neg h2]
theorem mk_keep48 {S : mk_S} : mk_keep S 48 = va_up (S 48) 32 (min (S 48 32 + 1) 40) := by
  unfold mk_keep
  rw [if_neg (by omega), if_neg (by omega), if_pos rfl]
theorem mk_keep0 {S : mk_S} : mk_keep S 0 = va_up (S 0) 0 ((S 0 0 + 1) % 40) := by
  unfold mk_keep
  rw [if_neg (by omega), if_neg (by omega), if_neg (by omega), if_pos rfl]
/-- a row kept j acts ago lacks j tellings at most -/
def mk_R0 (S : mk_S) : Prop := ∀ j, j < S 48 32 → S 65 229 ≤ S (100 + j) 229 + j
section Keep
variable {N : Nat} {S : mk_S} {A : mk_L} {M : mj_M}
theorem mk_W.keep (hw : mk_W S A) (h0 : 0 < S 48 25) : mk_W (mk_keep S) A ∧ mk_R0 (mk_keep S) := by
  have hk := hw.kept
  have hx := hw.next
  have hrow : ∀ j, j < min (S 48 32 + 1) 40 → mk_wn (S 48 25) (S 48 26) (mk_keep S (100 + j)) ∧ mk_keep S (100 + j) 229 ≤ S 65 229 ∧ S 65 229 ≤ mk_keep S (100 + j) 229 + j := by
    intro j hj
    cases j with
    | zero => rw [mk_keep100]; exact ⟨hw.now, Nat.le_refl _, by omega⟩
    | succ j =>
      rw [mk_keepj (by omega)]
      have := hw.rows j (by omega)
      exact ⟨this.1, this.2.1, by omega⟩
  constructor
  · unfold mk_W
    rw [mk_keep48, mk_keep0]
    simp (disch := omega) only [mk_keepn, mj_up_eq, mj_up_ne]
    refine ⟨hw.h6, hw.t6, hw.ht, hw.size, hw.byte, hw.laws, hw.hold, hw.why, by omega, hw.sights, hw.img, Nat.mod_lt _ (by omega), hw.often, hw.house, hw.tale, hw.now, fun j hj => ⟨(hrow j hj).1, (hrow j hj).2.1, by have := (hrow j hj).2.2; omega⟩, fun _ => h0, hw.image, hw.seen, hw.wl, fun j hj => ?_⟩
    rw [mk_keepj (show j < 39 by omega)]
    cases j with
    | zero =>
      have := hw.rows 0 (by omega)
      rw [show 100 + 0 = 100 from rfl, mk_keep100]
      exact ⟨this.2.1, by have := this.2.2; omega⟩
    | succ j =>
      rw [mk_keepj (by omega)]
      exact hw.chain j (by omega)
  · intro j hj
    rw [mk_keep48, mj_up_eq] at hj
    rw [mk_keepn (by omega) (by omega) (by omega)]
    exact (hrow j hj).2.2
theorem mk_Xkeep (hw : mk_W S A) (hX : mk_X S A M) : ∃ M', F_Past_keep_c20 M = some M' ∧ mk_X (mk_keep S) A M' ∧ mk_fx M M' := by
  have hk := hw.kept
  have hx := hw.next
  have t6 := hw.t6
  obtain ⟨M1, e1, f1, o1, r1, r2, r3⟩ := mk_save25 (b := S 0 0 * 49) (by omega) M
  unfold F_Past_keep_c20
  rw [hX.next, nl_49, pk_mul, e1]
  simp only [Option.bind_some, mj_lt]
  refine ⟨_, rfl, ?_, ?_⟩
  · unfold mk_X
    rw [mk_keep48, mk_keep0]
    simp (disch := omega) only [mk_keepn, mj_up_eq, mj_up_ne, nw_u9, mj_u_eq, f1]
    refine ⟨hX.why, hX.ref, hX.size, hX.tape, hX.laws, hX.hold, hX.lens, hX.codes, hX.hs, hX.ts, hX.often, hX.known, hX.cur, hX.warm, hX.len, hX.kn, hX.tru, hX.now, hX.ring, ?_, hX.img, ?_, fun j hj => ?_, hX.image, hX.sights, hX.sh, hX.sb, hX.si⟩
    · rw [hX.kept, nI_1, nl_40, nw_min (by omega) (by omega)]
    · rw [hX.next, nI_1, nl_40, pk_rem (by omega) (by omega) (by omega)]
    · cases j with
      | zero =>
        rw [show 100 + 0 = 100 from rfl, mk_keep100, show ((S 0 0 + 1) % 40 + 39 - 0) % 40 = S 0 0 by omega]
        refine ⟨?_, hX.ring⟩
        obtain ⟨n1, n2, n3, n4, n5, n6, n7, n8, n9⟩ := hX.now
        rw [show 49 * S 0 0 = S 0 0 * 49 from Nat.mul_comm _ _]
        exact ⟨(r1 0 (by omega)).trans n1, (r1 1 (by omega)).trans n2, (r1 2 (by omega)).trans n3, (r1 3 (by omega)).trans n4, (r1 4 (by omega)).trans n5, (r1 5 (by omega)).trans n6, (r1 6 (by omega)).trans n7, fun t ht => (r2 t (by omega)).trans (n8 t ht), fun k hk => (r3 k (by omega)).trans (n9 k hk)⟩
      | succ j =>
        rw [mk_keepj (by omega), show ((S 0 0 + 1) % 40 + 39 - (j + 1)) % 40 = (S 0 0 + 39 - j) % 40 by omega]
        have hne : (S 0 0 + 39 - j) % 40 ≠ S 0 0 := by omega
        have hlt : (S 0 0 + 39 - j) % 40 < 40 := Nat.mod_lt _ (by omega)
        obtain ⟨⟨n1, n2, n3, n4, n5, n6, n7, n8, n9⟩, nr⟩ := hX.rows j (by omega)
        have ho : ∀ i, i < 49 → M1 25 (49 * ((S 0 0 + 39 - j) % 40) + i) = M 25 (49 * ((S 0 0 + 39 - j) % 40) + i) := fun i hi => o1 _ (by omega)
        exact ⟨⟨(ho 0 (by omega)).trans n1, (ho 1 (by omega)).trans n2, (ho 2 (by omega)).trans n3, (ho 3 (by omega)).trans n4, (ho 4 (by omega)).trans n5, (ho 5 (by omega)).trans n6, (ho 6 (by omega)).trans n7, fun t ht => (ho (7 + t) (by omega)).trans (n8 t ht), fun k hk => (ho (13 + k) (by omega)).trans (n9 k hk)⟩, nr⟩
  · intro c hc
    simp (disch := omega) only [nw_u9, f1]
end Keep
