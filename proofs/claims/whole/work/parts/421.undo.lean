/-! ===== the pure side: undo, image, back ===== -/
def mk_undo (S : mk_S) : mk_S := fun c => if c = 65 then S 100 else if 100 ≤ c ∧ c < 139 then S (c + 1) else if c = 48 then va_up (S 48) 32 (S 48 32 - 1) else if c = 0 then va_up (S 0) 0 ((S 0 0 + 39) % 40) else S c
def mk_im (S : mk_S) : mk_S := fun c => if c = 72 then S 65 else if c = 48 then va_up (S 48) 44 1 else S c
def mk_bk (S : mk_S) : mk_S := fun c => if c = 65 then S 72 else if c = 48 then va_up (S 48) 32 0 else S c
section Undo
variable {N : Nat} {S : mk_S} {A : mk_L} {M : mj_M}
theorem mk_undo5 : mk_undo S 65 = S 100 := if_pos rfl
theorem mk_undoj {j : Nat} (h : j < 39) : mk_undo S (100 + j) = S (100 + (j + 1)) := by
  unfold mk_undo
  rw [if_neg (by omega), if_pos (by omega)]
  rfl
theorem mk_undo48 : mk_undo S 48 = va_up (S 48) 32 (S 48 32 - 1) := by
  unfold mk_undo
  rw [if_neg (by omega), if_neg (by omega), if_pos rfl]
theorem mk_undo0 : mk_undo S 0 = va_up (S 0) 0 ((S 0 0 + 39) % 40) := by
  unfold mk_undo
  rw [if_neg (by omega), if_neg (by omega), if_neg (by omega), if_pos rfl]
theorem mk_undon {c : Nat} (h : c < 100) (h1 : c ≠ 48) (h2 : c ≠ 0) (h3 : c ≠ 65) : mk_undo S c = S c := by
  unfold mk_undo
  rw [if_neg h3, if_neg (by omega), if_neg h1, if_neg h2]
theorem mk_chain0 (hw : mk_W S A) : ∀ j, j < S 48 32 → S (100 + j) 229 ≤ S 100 229 ∧ S 100 229 ≤ S (100 + j) 229 + j
  | 0, _ => ⟨Nat.le_refl _, Nat.le_refl _⟩
  | j + 1, h => by
    have h1 := mk_chain0 hw j (by omega)
    have h2 := hw.chain j h
    omega
theorem mk_Wundo (hw : mk_W S A) (h0 : 0 < S 48 32) : mk_W (mk_undo S) A := by
  have hk := hw.kept
  have hr := hw.rows 0 h0
  unfold mk_W
  rw [mk_undo48, mk_undo0, mk_undo5]
  simp (disch := omega) only [mk_undon, mj_up_eq, mj_up_ne]
  refine ⟨hw.h6, hw.t6, hw.ht, hw.size, hw.byte, hw.laws, hw.hold, hw.why, by omega, hw.sights, hw.img, Nat.mod_lt _ (by omega), hw.often, hw.house, hw.tale, hr.1, fun j hj => ?_, fun _ => hw.kh h0, hw.image, hw.seen, hw.wl, fun j hj => ?_⟩
  · rw [mk_undoj (by omega)]
    have h1 := mk_chain0 hw (j + 1) (by omega)
    exact ⟨(hw.rows (j + 1) (by omega)).1, h1.1, by omega⟩
  · rw [mk_undoj (by omega), mk_undoj (by omega)]
    exact hw.chain (j + 1) (by omega)
theorem mk_Xundo (hw : mk_W S A) (hX : mk_X S A M) (h0 : 0 < S 48 32) : ∃ M', F_Past_takeBack_c20 M = some M' ∧ mk_X (mk_undo S) A M' ∧ mk_fx M M' := by
  have hk := hw.kept
  have hx := hw.next
  have t6 := hw.t6
  have hm : (S 0 0 + 39) % 40 < 40 := Nat.mod_lt _ (by omega)
  unfold F_Past_takeBack_c20
  simp only [mj_lt]
  rw [hX.kept, if_neg (nI_nle h0 (by omega)), hX.next, nl_40, nI_add, nl_1, pk_sub (by omega), pk_rem (by omega) (by omega) (by omega), show S 0 0 + 40 - 1 = S 0 0 + 39 by omega]
  simp (disch := omega) only [mj_u_eq, mj_up_eq, mj_up_ne]
  rw [hX.kept, pk_sub h0, nl_49, pk_mul]
  obtain ⟨M1, e1, f1, r1, r2, r3⟩ := mk_load25 (b := (S 0 0 + 39) % 40 * 49) (by omega) (mj_u (mj_u M 24 2 (nI ((S 0 0 + 39) % 40))) 24 0 (nI (S 48 32 - 1)))
  rw [e1]
  refine ⟨M1, rfl, ?_, ?_⟩
  · obtain ⟨⟨n1, n2, n3, n4, n5, n6, n7, n8, n9⟩, nr⟩ := hX.rows 0 h0
    rw [show (S 0 0 + 39 - 0) % 40 = (S 0 0 + 39) % 40 by omega, show 49 * ((S 0 0 + 39) % 40) = (S 0 0 + 39) % 40 * 49 from Nat.mul_comm _ _] at n1 n2 n3 n4 n5 n6 n7 n8 n9
    have hr : ∀ c, c ≠ 24 → mj_u (mj_u M 24 2 (nI ((S 0 0 + 39) % 40))) 24 0 (nI (S 48 32 - 1)) c = M c := fun c hc => by rw [nw_u9 _ hc, nw_u9 _ hc]
    unfold mk_X
    rw [mk_undo48, mk_undo0, mk_undo5]
    simp (disch := omega) only [mk_undon, mj_up_eq, mj_up_ne, f1, hr, mj_u_eq]
    refine ⟨hX.why, hX.ref, hX.size, hX.tape, hX.laws, hX.hold, hX.lens, hX.codes, hX.hs, hX.ts, hX.often, hX.known, hX.cur, hX.warm, hX.len, hX.kn, hX.tru, ?_, nr, trivial, hX.img, trivial, fun j hj => ?_, hX.image, hX.sights, hX.sh, hX.sb, hX.si⟩
    · rw [hr 25 (by omega)] at r1 r2 r3
      exact ⟨(r1 0 (by omega)).trans n1, (r1 1 (by omega)).trans n2, (r1 2 (by omega)).trans n3, (r1 3 (by omega)).trans n4, (r1 4 (by omega)).trans n5, (r1 5 (by omega)).trans n6, (r1 6 (by omega)).trans n7, fun t ht => (r2 t (by omega)).trans (n8 t ht), fun k hk => (r3 k hk).trans (n9 k hk)⟩
    · rw [mk_undoj (by omega), show ((S 0 0 + 39) % 40 + 39 - j) % 40 = (S 0 0 + 39 - (j + 1)) % 40 by omega]
      exact hX.rows (j + 1) (by omega)
  · intro c hc
    rw [f1 c (by omega) (by omega) (by omega), nw_u9 _ (by omega), nw_u9 _ (by omega)]
end Undo
theorem op_18 {N : Nat} (hN : 10000 ≤ N) : mo_18 N mk_I := by
  intro M ⟨S, A, hw, hX, hM⟩
  have hk := hw.kept
  by_cases c : S 48 32 = 0
  · refine mk_fin (r := -1) hw hX hM (mk_QX.same fun M hX => ?_) (mk_QM.same fun M hM => ?_)
    · unfold F_W_undo; rw [hX.kept, c]; rfl
    · unfold F_M_undo; rw [hM.kept, c]; rfl
  refine mk_fin (S' := mk_undo S) (A' := A) (r := nI (S 48 32 - 1)) (mk_Wundo hw (by omega)) hX hM (fun M hX => ?_) (fun M hM => ?_)
  · obtain ⟨M1, e1, x1, f1⟩ := mk_Xundo hw hX (by omega)
    refine ⟨M1, ?_, x1, f1⟩
    unfold F_W_undo
    rw [hX.kept, if_neg (nI_ne0 (by omega) (by omega)), e1]
    simp only [Option.bind_some]
    rw [x1.kept, mk_undo48, mj_up_eq]
  · unfold F_M_undo
    rw [hM.kept, if_neg (nI_ne0 (by omega) (by omega)), nl_1, pk_sub (by omega)]
    obtain ⟨M', p, q⟩ := mk_lp (L := fun n (_ : Unit) i M => F_M_undo_b21 N n (nI i) M) 229 (fun _ s => s) (fun i _ M1 => (∀ c, c ≠ 65 → M1 c = mj_u M 48 32 (nI (S 48 32 - 1)) c) ∧ ∀ k, k < i → M1 65 k = M 67 (229 * (S 48 32 - 1) + k)) (fun _ M => some (M 48 32, M))
      (fun n s M1 p => by rw [F_M_undo_b21, nl_229, if_pos (Int32.le_refl _)])
      (fun n s i M1 hi p => by
        obtain ⟨p1, p2⟩ := p
        refine ⟨mj_u M1 65 i (M 67 (229 * (S 48 32 - 1) + i)), ⟨fun c hc => by rw [nw_u9 _ hc]; exact p1 c hc, fun k hk => ?_⟩, ?_⟩
        · rw [mj_u_eq]
          by_cases e : k = i
          · rw [e, mj_up_eq]
          · rw [mj_up_ne _ _ _ e]; exact p2 k (by omega)
        · rw [F_M_undo_b21, nl_229, if_neg (nI_ge hi (by omega)), p1 48 (by omega), mj_u_eq, mj_up_eq, pk_mul, nI_add, nw_ck (by omega) (by omega), nw_ck (by omega) (by omega), nI_clamp (by omega), nI_clamp (by omega), p1 67 (by omega), nw_u9 _ (by omega), nI_1]
          rfl)
      229 0 N () (mj_u M 48 32 (nI (S 48 32 - 1))) (by omega) (by omega) ⟨fun _ _ => rfl, fun k hk => by omega⟩
    obtain ⟨p1, p2⟩ := p
    have e32 : M' 48 32 = nI (S 48 32 - 1) := by rw [p1 48 (by omega), mj_u_eq, mj_up_eq]
    refine ⟨M', ?_, ?_, fun c hc => by rw [p1 c (by omega), nw_u9 _ (by omega)]⟩
    · refine q.trans ?_
      rw [e32]
    · have g : ∀ k, k ≠ 32 → M' 48 k = M 48 k := fun k hk => by rw [p1 48 (by omega), mj_u_eq, mj_up_ne _ _ _ hk]
      have f : ∀ c, c ≠ 65 → c ≠ 48 → M' c = M c := fun c h1 h2 => by rw [p1 c h1, nw_u9 _ h2]
      unfold mk_M
      rw [mk_undo48, mk_undo5]
      simp (disch := omega) only [mk_undon, mj_up_eq, mj_up_ne, f, g]
      refine ⟨hM.size, hM.laws, hM.hs, hM.ts, hM.hold, hM.why, e32, hM.sights, hM.img, hM.tape, hM.lens, fun n hn => mk_cl_cg (f _ (by omega) (by omega)) (f _ (by omega) (by omega)) (f _ (by omega) (by omega)) (f _ (by omega) (by omega)) (f _ (by omega) (by omega)) _ _ _ (hM.codes n hn), hM.often, hM.house, hM.tale, fun k hk => ?_, hM.ref, fun j hj k hk => ?_, hM.sh, hM.sb, hM.si, hM.image⟩
      · rw [p2 k hk]
        have := hM.rows 0 (by omega) k hk
        exact this
      · rw [mk_undoj (by omega), ← hM.rows (j + 1) (by omega) k hk]
        congr 1
        omega
theorem op_36 {N : Nat} (hN : 10000 ≤ N) : mo_36 N mk_I := by
  intro M ⟨S, A, hw, hX, hM⟩
  have t6 := hw.t6
  have hlog := hw.now.log
  by_cases c : S 48 25 = 0
  · refine mk_fin (r := -1) hw hX hM (mk_QX.same fun M hX => ?_) (mk_QM.same fun M hM => ?_)
    · unfold F_W_image; rw [mk_Xtold0 hX c]; rfl
    · unfold F_M_image; rw [if_pos (mk_H0 hM c)]
  have i72 : mk_im S 72 = S 65 := if_pos rfl
  have i48 : mk_im S 48 = va_up (S 48) 44 1 := by unfold mk_im; rw [if_neg (by omega), if_pos rfl]
  have io : ∀ d, d ≠ 72 → d ≠ 48 → mk_im S d = S d := fun d h1 h2 => by unfold mk_im; rw [if_neg h1, if_neg h2]
  refine mk_fin (S' := mk_im S) (A' := A) (r := nI (S 65 45)) ?_ hX hM (fun M hX => ?_) (fun M hM => ?_)
  · unfold mk_W
    rw [i48, i72]
    simp (disch := omega) only [io, mj_up_eq, mj_up_ne]
    exact ⟨hw.h6, hw.t6, hw.ht, hw.size, hw.byte, hw.laws, hw.hold, hw.why, hw.kept, hw.sights, by omega, hw.next, hw.often, hw.house, hw.tale, hw.now, hw.rows, hw.kh, fun _ => ⟨by omega, hw.now⟩, hw.seen, hw.wl, hw.chain⟩
  · obtain ⟨M1, e1, f1, r1, r2, r3⟩ := mk_save26 M
    unfold F_W_image F_Past_keepImage_c20
    rw [mk_Xtold1 hX hw (by omega)]
    simp only [Option.bind_some]
    rw [if_neg (by decide +kernel), e1]
    simp only [Option.bind_some, mj_lt]
    rw [nl_0, nl_100, nw_ac (by omega) (by omega) (by omega) (by omega), nI_clamp (by omega), nI_clamp (by omega)]
    simp only [Option.bind_some]
    rw [nw_u9 (c' := 20) _ (by omega), nw_a9 (c' := 20) _ (by omega), f1 20 (by omega), hX.now.2.2.2.1]
    refine ⟨_, rfl, ?_, fun c hc => by rw [nw_u9 _ (by omega), nw_a9 _ (by omega), f1 c (by omega)]⟩
    obtain ⟨n1, n2, n3, n4, n5, n6, n7, n8, n9⟩ := hX.now
    unfold mk_X
    rw [i48, i72]
    simp (disch := omega) only [io, mj_up_eq, mj_up_ne, nw_u9, nw_a9, nw_ae, mj_u_eq, f1]
    refine ⟨hX.why, hX.ref, hX.size, hX.tape, hX.laws, hX.hold, hX.lens, hX.codes, hX.hs, hX.ts, hX.often, hX.known, hX.cur, hX.warm, hX.len, hX.kn, hX.tru, hX.now, hX.ring, hX.kept, rfl, hX.next, hX.rows, fun _ => ⟨?_, fun i hi => ?_⟩, hX.sights, hX.sh, hX.sb, hX.si⟩
    · exact ⟨(r1 0 (by omega)).trans n1, (r1 1 (by omega)).trans n2, (r1 2 (by omega)).trans n3, (r1 3 (by omega)).trans n4, (r1 4 (by omega)).trans n5, (r1 5 (by omega)).trans n6, (r1 6 (by omega)).trans n7, fun t ht => (r2 t (by omega)).trans (n8 t ht), fun k hk => (r3 k hk).trans (n9 k hk)⟩
    · rw [pk_cpy_in (by omega) (by omega), ← hX.ring i hi]
      congr 1
      omega
  · unfold F_M_image
    rw [if_neg (mk_H1 hM hw c)]
    obtain ⟨M', p, q⟩ := mk_lp (L := fun n (_ : Unit) i M => F_M_image_b11 N n (nI i) M) 229 (fun _ s => s) (fun i _ M1 => (∀ c, c ≠ 72 → M1 c = M c) ∧ ∀ k, k < i → M1 72 k = M 65 k) (fun _ M => some (mj_u M 48 44 1 65 45, mj_u M 48 44 1))
      (fun n s M1 p => by rw [F_M_image_b11, nl_229, if_pos (Int32.le_refl _)]; rfl)
      (fun n s i M1 hi p => by
        obtain ⟨p1, p2⟩ := p
        refine ⟨mj_u M1 72 i (M 65 i), ⟨fun c hc => by rw [nw_u9 _ hc]; exact p1 c hc, fun k hk => ?_⟩, ?_⟩
        · rw [mj_u_eq]
          by_cases e : k = i
          · rw [e, mj_up_eq]
          · rw [mj_up_ne _ _ _ e]; exact p2 k (by omega)
        · rw [F_M_image_b11, nl_229, if_neg (nI_ge hi (by omega)), nw_ck (by omega) (by omega), nw_ck (by omega) (by omega), nI_clamp (by omega), p1 65 (by omega), nI_1]
          rfl)
      229 0 N () M (by omega) (by omega) ⟨fun _ _ => rfl, fun k hk => by omega⟩
    obtain ⟨p1, p2⟩ := p
    refine ⟨_, q.trans (congrArg some (Prod.ext (by rw [nw_u9 _ (by omega), p1 65 (by omega)]; exact hM.now 45 (by omega)) rfl)), ?_, fun c hc => by rw [nw_u9 _ (by omega), p1 c (by omega)]⟩
    unfold mk_M
    rw [i48, i72]
    simp (disch := omega) only [io, mj_up_eq, mj_up_ne, nw_u9, mj_u_eq, p1]
    exact ⟨hM.size, hM.laws, hM.hs, hM.ts, hM.hold, hM.why, hM.kept, hM.sights, rfl, hM.tape, hM.lens, fun n hn => mk_cl_cg (by rw [nw_u9 _ (by omega), p1 _ (by omega)]) (by rw [nw_u9 _ (by omega), p1 _ (by omega)]) (by rw [nw_u9 _ (by omega), p1 _ (by omega)]) (by rw [nw_u9 _ (by omega), p1 _ (by omega)]) (by rw [nw_u9 _ (by omega), p1 _ (by omega)]) _ _ _ (hM.codes n hn), hM.often, hM.house, hM.tale, hM.now, hM.ref, hM.rows, hM.sh, hM.sb, hM.si, fun _ k hk => (p2 k hk).trans (hM.now k hk)⟩
theorem op_37 {N : Nat} (hN : 10000 ≤ N) : mo_37 N mk_I := by
  intro M ⟨S, A, hw, hX, hM⟩
  have t6 := hw.t6
  have hi1 := hw.img
  by_cases c : S 48 44 = 0
  · refine mk_fin (r := -1) hw hX hM (mk_QX.same fun M hX => ?_) (mk_QM.same fun M hM => ?_)
    · unfold F_W_back; rw [hX.img, c]; rfl
    · unfold F_M_back; rw [hM.img, c]; rfl
  have c1 : S 48 44 = 1 := by omega
  have hwi := hw.image c1
  have hlog := hwi.2.log
  have i65 : mk_bk S 65 = S 72 := if_pos rfl
  have i48 : mk_bk S 48 = va_up (S 48) 32 0 := by unfold mk_bk; rw [if_neg (by omega), if_pos rfl]
  have io : ∀ d, d ≠ 65 → d ≠ 48 → mk_bk S d = S d := fun d h1 h2 => by unfold mk_bk; rw [if_neg h1, if_neg h2]
  refine mk_fin (S' := mk_bk S) (A' := A) (r := nI (S 72 45)) ?_ hX hM (fun M hX => ?_) (fun M hM => ?_)
  · unfold mk_W
    rw [i48, i65]
    simp (disch := omega) only [io, mj_up_eq, mj_up_ne]
    exact ⟨hw.h6, hw.t6, hw.ht, hw.size, hw.byte, hw.laws, hw.hold, hw.why, by omega, hw.sights, hw.img, hw.next, hw.often, hw.house, hw.tale, hwi.2, fun j hj => by omega, fun h => by omega, hw.image, hw.seen, hw.wl, fun j hj => by omega⟩
  · obtain ⟨⟨n1, n2, n3, n4, n5, n6, n7, n8, n9⟩, nr⟩ := hX.image c1
    obtain ⟨M1, e1, f1, r1, r2, r3⟩ := mk_load26 M
    unfold F_W_back F_Past_takeImage_c20
    rw [hX.img, c1, if_neg (by decide +kernel), e1]
    simp only [Option.bind_some, mj_lt]
    rw [nl_0, nl_100, nw_ac (by omega) (by omega) (by omega) (by omega), nI_clamp (by omega), nI_clamp (by omega)]
    simp only [Option.bind_some]
    rw [nw_u9 (c' := 20) _ (by omega), nw_a9 (c' := 20) _ (by omega), r1 3 (by omega), n4]
    refine ⟨_, rfl, ?_, fun c hc => by rw [nw_u9 _ (by omega), nw_a9 _ (by omega), f1 c (by omega) (by omega) (by omega)]⟩
    unfold mk_X
    rw [i48, i65]
    simp (disch := omega) only [io, mj_up_eq, mj_up_ne, nw_u9, nw_a9, nw_ae, mj_u_eq, f1]
    refine ⟨hX.why, hX.ref, hX.size, hX.tape, hX.laws, hX.hold, hX.lens, hX.codes, hX.hs, hX.ts, hX.often, hX.known, hX.cur, hX.warm, hX.len, hX.kn, hX.tru, ?_, fun i hi => ?_, trivial, hX.img, hX.next, fun j hj => by omega, hX.image, hX.sights, hX.sh, hX.sb, hX.si⟩
    · exact ⟨(r1 0 (by omega)).trans n1, (r1 1 (by omega)).trans n2, (r1 2 (by omega)).trans n3, (r1 3 (by omega)).trans n4, (r1 4 (by omega)).trans n5, (r1 5 (by omega)).trans n6, (r1 6 (by omega)).trans n7, fun t ht => (r2 t (by omega)).trans (n8 t ht), fun k hk => (r3 k hk).trans (n9 k hk)⟩
    · rw [pk_cpy_in (by omega) (by omega), ← nr i hi]
      congr 1
      omega
  · unfold F_M_back
    rw [hM.img, c1, if_neg (by decide +kernel)]
    obtain ⟨M', p, q⟩ := mk_lp (L := fun n (_ : Unit) i M => F_M_back_b11 N n (nI i) M) 229 (fun _ s => s) (fun i _ M1 => (∀ c, c ≠ 65 → M1 c = M c) ∧ ∀ k, k < i → M1 65 k = M 72 k) (fun _ M => some (mj_u M 48 32 0 65 45, mj_u M 48 32 0))
      (fun n s M1 p => by rw [F_M_back_b11, nl_229, if_pos (Int32.le_refl _)]; rfl)
      (fun n s i M1 hi p => by
        obtain ⟨p1, p2⟩ := p
        refine ⟨mj_u M1 65 i (M 72 i), ⟨fun c hc => by rw [nw_u9 _ hc]; exact p1 c hc, fun k hk => ?_⟩, ?_⟩
        · rw [mj_u_eq]
          by_cases e : k = i
          · rw [e, mj_up_eq]
          · rw [mj_up_ne _ _ _ e]; exact p2 k (by omega)
        · rw [F_M_back_b11, nl_229, if_neg (nI_ge hi (by omega)), nw_ck (by omega) (by omega), nw_ck (by omega) (by omega), nI_clamp (by omega), p1 72 (by omega), nI_1]
          rfl)
      229 0 N () M (by omega) (by omega) ⟨fun _ _ => rfl, fun k hk => by omega⟩
    obtain ⟨p1, p2⟩ := p
    refine ⟨_, q.trans (congrArg some (Prod.ext (by rw [nw_u9 _ (by omega), p2 45 (by omega)]; exact hM.image c1 45 (by omega)) rfl)), ?_, fun c hc => by rw [nw_u9 _ (by omega), p1 c (by omega)]⟩
    unfold mk_M
    rw [i48, i65]
    simp (disch := omega) only [io, mj_up_eq, mj_up_ne, nw_u9, mj_u_eq, p1]
    exact ⟨hM.size, hM.laws, hM.hs, hM.ts, hM.hold, hM.why, rfl, hM.sights, hM.img, hM.tape, hM.lens, fun n hn => mk_cl_cg (by rw [nw_u9 _ (by omega), p1 _ (by omega)]) (by rw [nw_u9 _ (by omega), p1 _ (by omega)]) (by rw [nw_u9 _ (by omega), p1 _ (by omega)]) (by rw [nw_u9 _ (by omega), p1 _ (by omega)]) (by rw [nw_u9 _ (by omega), p1 _ (by omega)]) _ _ _ (hM.codes n hn), hM.often, hM.house, hM.tale, fun k hk => (p2 k hk).trans (hM.image c1 k hk), hM.ref, fun j hj => by omega, hM.sh, hM.sb, hM.si, hM.image⟩
